theorem dX0_init_0 : decode cX0_init 0 = .ok (.aload_n 0, 1) := by decide +kernel
theorem dX0_init_1 : decode cX0_init 1 = .ok (.invokespecial 3, 3) := by decide +kernel
theorem dX0_init_4 : decode cX0_init 4 = .ok (.aload_n 0, 1) := by decide +kernel
theorem dX0_init_5 : decode cX0_init 5 = .ok (.sipush 1100, 3) := by decide +kernel
theorem dX0_init_8 : decode cX0_init 8 = .ok (.newarray .int, 2) := by decide +kernel
theorem dX0_init_10 : decode cX0_init 10 = .ok (.putfield 11, 3) := by decide +kernel
theorem dX0_init_13 : decode cX0_init 13 = .ok (.aload_n 0, 1) := by decide +kernel
theorem dX0_init_14 : decode cX0_init 14 = .ok (.sipush 1100, 3) := by decide +kernel
theorem dX0_init_17 : decode cX0_init 17 = .ok (.newarray .int, 2) := by decide +kernel
theorem dX0_init_19 : decode cX0_init 19 = .ok (.putfield 15, 3) := by decide +kernel
theorem dX0_init_22 : decode cX0_init 22 = .ok (.aload_n 0, 1) := by decide +kernel
theorem dX0_init_23 : decode cX0_init 23 = .ok (.bipush 11, 2) := by decide +kernel
theorem dX0_init_25 : decode cX0_init 25 = .ok (.newarray .boolean, 2) := by decide +kernel
theorem dX0_init_27 : decode cX0_init 27 = .ok (.putfield 18, 3) := by decide +kernel
theorem dX0_init_30 : decode cX0_init 30 = .ok (.aload_n 0, 1) := by decide +kernel
theorem dX0_init_31 : decode cX0_init 31 = .ok (.aload_n 1, 1) := by decide +kernel
theorem dX0_init_32 : decode cX0_init 32 = .ok (.putfield 22, 3) := by decide +kernel
theorem dX0_init_35 : decode cX0_init 35 = .ok (.return_, 1) := by decide +kernel
theorem dX0_ofWeekday_0 : decode cX0_ofWeekday 0 = .ok (.iconst 4, 1) := by decide +kernel
theorem dX0_ofWeekday_1 : decode cX0_ofWeekday 1 = .ok (.lload_n 0, 1) := by decide +kernel
theorem dX0_ofWeekday_2 : decode cX0_ofWeekday 2 = .ok (.ldc2_w 26, 3) := by decide +kernel
theorem dX0_ofWeekday_5 : decode cX0_ofWeekday 5 = .ok (.lrem, 1) := by decide +kernel
theorem dX0_ofWeekday_6 : decode cX0_ofWeekday 6 = .ok (.l2i, 1) := by decide +kernel
theorem dX0_ofWeekday_7 : decode cX0_ofWeekday 7 = .ok (.iadd, 1) := by decide +kernel
theorem dX0_ofWeekday_8 : decode cX0_ofWeekday 8 = .ok (.ireturn, 1) := by decide +kernel
theorem dX0_forget_0 : decode cX0_forget 0 = .ok (.aload_n 0, 1) := by decide +kernel
theorem dX0_forget_1 : decode cX0_forget 1 = .ok (.getfield 18, 3) := by decide +kernel
theorem dX0_forget_4 : decode cX0_forget 4 = .ok (.iload_n 1, 1) := by decide +kernel
theorem dX0_forget_5 : decode cX0_forget 5 = .ok (.iconst 0, 1) := by decide +kernel
theorem dX0_forget_6 : decode cX0_forget 6 = .ok (.bastore, 1) := by decide +kernel
theorem dX0_forget_7 : decode cX0_forget 7 = .ok (.return_, 1) := by decide +kernel
theorem dX0_forgetAll_0 : decode cX0_forgetAll 0 = .ok (.iconst 0, 1) := by decide +kernel
theorem dX0_forgetAll_1 : decode cX0_forgetAll 1 = .ok (.istore_n 1, 1) := by decide +kernel
theorem dX0_forgetAll_2 : decode cX0_forgetAll 2 = .ok (.iload_n 1, 1) := by decide +kernel
theorem dX0_forgetAll_3 : decode cX0_forgetAll 3 = .ok (.bipush 11, 2) := by decide +kernel
theorem dX0_forgetAll_5 : decode cX0_forgetAll 5 = .ok (.if_icmp .ge 16, 3) := by decide +kernel
theorem dX0_forgetAll_8 : decode cX0_forgetAll 8 = .ok (.aload_n 0, 1) := by decide +kernel
theorem dX0_forgetAll_9 : decode cX0_forgetAll 9 = .ok (.getfield 18, 3) := by decide +kernel
theorem dX0_forgetAll_12 : decode cX0_forgetAll 12 = .ok (.iload_n 1, 1) := by decide +kernel
theorem dX0_forgetAll_13 : decode cX0_forgetAll 13 = .ok (.iconst 0, 1) := by decide +kernel
theorem dX0_forgetAll_14 : decode cX0_forgetAll 14 = .ok (.bastore, 1) := by decide +kernel
theorem dX0_forgetAll_15 : decode cX0_forgetAll 15 = .ok (.iinc 1 1, 3) := by decide +kernel
theorem dX0_forgetAll_18 : decode cX0_forgetAll 18 = .ok (.goto (-16), 3) := by decide +kernel
theorem dX0_forgetAll_21 : decode cX0_forgetAll 21 = .ok (.return_, 1) := by decide +kernel
set_option maxRecDepth 20000 in
theorem ggX0_refreshAll_X0_refresh : GoodIn wsX0_refreshAll wsX0_refresh := goodIn_r _ [7, 8, 9, 10, 11, 6, 12, 13, 14, 15, 1, 16, 17, 18, 19, 20, 21, 22, 23, 24, 25, 26, 27, 28, 29, 30, 31, 32, 33, 34, 35, 36, 37, 38, 39, 40, 41, 42, 43, 44, 45, 46, 47, 48, 49, 50, 51, 52, 53, 54, 55, 56, 57, 58, 59, 60, 61, 62, 63, 64, 65, 66, 67, 68, 69, 70, 71, 72, 73, 74, 75, 76, 77, 78, 79, 80] (by decide +kernel) (by decide +kernel)
set_option maxRecDepth 20000 in
theorem gX0_refreshAll_X0_refresh : GoodIn wsX0_refreshAll (wsV RX0 34 RX0 yX0_refresh wsX0_refresh) := goodIn_app (goodIn_of _ (by decide +kernel)) ggX0_refreshAll_X0_refresh
theorem dX0_refreshAll_0 : decode cX0_refreshAll 0 = .ok (.iconst 0, 1) := by decide +kernel
theorem dX0_refreshAll_1 : decode cX0_refreshAll 1 = .ok (.istore_n 1, 1) := by decide +kernel
theorem dX0_refreshAll_2 : decode cX0_refreshAll 2 = .ok (.iload_n 1, 1) := by decide +kernel
theorem dX0_refreshAll_3 : decode cX0_refreshAll 3 = .ok (.bipush 11, 2) := by decide +kernel
theorem dX0_refreshAll_5 : decode cX0_refreshAll 5 = .ok (.if_icmp .ge 30, 3) := by decide +kernel
theorem dX0_refreshAll_8 : decode cX0_refreshAll 8 = .ok (.iload_n 1, 1) := by decide +kernel
theorem dX0_refreshAll_9 : decode cX0_refreshAll 9 = .ok (.aload_n 0, 1) := by decide +kernel
theorem dX0_refreshAll_10 : decode cX0_refreshAll 10 = .ok (.getfield 22, 3) := by decide +kernel
theorem dX0_refreshAll_13 : decode cX0_refreshAll 13 = .ok (.getfield 28, 3) := by decide +kernel
theorem dX0_refreshAll_16 : decode cX0_refreshAll 16 = .ok (.if_icmp .lt 8, 3) := by decide +kernel
theorem dX0_refreshAll_19 : decode cX0_refreshAll 19 = .ok (.iload_n 1, 1) := by decide +kernel
theorem dX0_refreshAll_20 : decode cX0_refreshAll 20 = .ok (.iconst 4, 1) := by decide +kernel
theorem dX0_refreshAll_21 : decode cX0_refreshAll 21 = .ok (.if_icmp .lt 8, 3) := by decide +kernel
theorem dX0_refreshAll_24 : decode cX0_refreshAll 24 = .ok (.aload_n 0, 1) := by decide +kernel
theorem dX0_refreshAll_25 : decode cX0_refreshAll 25 = .ok (.iload_n 1, 1) := by decide +kernel
theorem dX0_refreshAll_26 : decode cX0_refreshAll 26 = .ok (.invokevirtual 34, 3) := by decide +kernel
theorem dX0_refreshAll_29 : decode cX0_refreshAll 29 = .ok (.iinc 1 1, 3) := by decide +kernel
theorem dX0_refreshAll_32 : decode cX0_refreshAll 32 = .ok (.goto (-30), 3) := by decide +kernel
theorem dX0_refreshAll_35 : decode cX0_refreshAll 35 = .ok (.return_, 1) := by decide +kernel
set_option maxRecDepth 20000 in
theorem ggX0_refresh_X0_drawStreets : GoodIn wsX0_refresh wsX0_drawStreets := goodIn_r _ [6, 7, 8, 9, 10, 11, 12, 13, 14, 15, 5, 16, 17, 18, 19, 20, 21, 22, 23, 24, 25, 26, 27, 28, 29, 30, 31, 32, 46, 47, 48, 49, 50, 51, 52, 53, 54, 55, 56, 57, 58, 59, 60, 61, 62, 63, 64, 65, 66, 67, 68, 69, 70, 71, 72, 73, 74, 75] (by decide +kernel) (by decide +kernel)
set_option maxRecDepth 20000 in
theorem gX0_refresh_X0_drawStreets : GoodIn wsX0_refresh (wsV RX0 38 RX0 yX0_drawStreets wsX0_drawStreets) := goodIn_app (goodIn_of _ (by decide +kernel)) ggX0_refresh_X0_drawStreets
set_option maxRecDepth 20000 in
theorem ggX0_refresh_X0_drawHours : GoodIn wsX0_refresh wsX0_drawHours := goodIn_r _ [36, 10, 11, 37, 7, 8, 14, 15, 5, 16, 46, 47, 48, 49, 50, 51, 52, 53, 54, 55, 56, 57, 58, 59, 60, 61, 62, 63, 64, 65, 66, 67, 68, 69, 70, 71, 72, 73, 74, 75] (by decide +kernel) (by decide +kernel)
set_option maxRecDepth 20000 in
theorem gX0_refresh_X0_drawHours : GoodIn wsX0_refresh (wsV RX0 41 RX0 yX0_drawHours wsX0_drawHours) := goodIn_app (goodIn_of _ (by decide +kernel)) ggX0_refresh_X0_drawHours
set_option maxRecDepth 20000 in
theorem ggX0_refresh_X0_drawFirst : GoodIn wsX0_refresh wsX0_drawFirst := goodIn_r _ [41, 10, 11, 12, 17, 18, 19, 5, 20, 21, 22, 23, 24, 25, 26, 27, 42, 43, 44, 45, 37, 7, 8, 13, 9, 28, 29, 30, 31, 32, 14, 15, 16, 46, 47, 48, 49, 50, 51, 52, 53, 54, 55, 56, 57, 58, 59, 60, 61, 62, 63, 64, 65, 66, 67, 68, 69, 70, 71, 72, 73, 74, 75] (by decide +kernel) (by decide +kernel)
set_option maxRecDepth 20000 in
theorem gX0_refresh_X0_drawFirst : GoodIn wsX0_refresh (wsV RX0 44 RX0 yX0_drawFirst wsX0_drawFirst) := goodIn_app (goodIn_of _ (by decide +kernel)) ggX0_refresh_X0_drawFirst
theorem dX0_refresh_0 : decode cX0_refresh 0 = .ok (.aload_n 0, 1) := by decide +kernel
theorem dX0_refresh_1 : decode cX0_refresh 1 = .ok (.getfield 18, 3) := by decide +kernel
theorem dX0_refresh_4 : decode cX0_refresh 4 = .ok (.iload_n 1, 1) := by decide +kernel
theorem dX0_refresh_5 : decode cX0_refresh 5 = .ok (.baload, 1) := by decide +kernel
theorem dX0_refresh_6 : decode cX0_refresh 6 = .ok (.ifCond .ne 25, 3) := by decide +kernel
theorem dX0_refresh_9 : decode cX0_refresh 9 = .ok (.aload_n 0, 1) := by decide +kernel
theorem dX0_refresh_10 : decode cX0_refresh 10 = .ok (.iload_n 1, 1) := by decide +kernel
theorem dX0_refresh_11 : decode cX0_refresh 11 = .ok (.invokevirtual 38, 3) := by decide +kernel
theorem dX0_refresh_14 : decode cX0_refresh 14 = .ok (.aload_n 0, 1) := by decide +kernel
theorem dX0_refresh_15 : decode cX0_refresh 15 = .ok (.iload_n 1, 1) := by decide +kernel
theorem dX0_refresh_16 : decode cX0_refresh 16 = .ok (.invokevirtual 41, 3) := by decide +kernel
theorem dX0_refresh_19 : decode cX0_refresh 19 = .ok (.aload_n 0, 1) := by decide +kernel
theorem dX0_refresh_20 : decode cX0_refresh 20 = .ok (.iload_n 1, 1) := by decide +kernel
theorem dX0_refresh_21 : decode cX0_refresh 21 = .ok (.invokevirtual 44, 3) := by decide +kernel
theorem dX0_refresh_24 : decode cX0_refresh 24 = .ok (.aload_n 0, 1) := by decide +kernel
theorem dX0_refresh_25 : decode cX0_refresh 25 = .ok (.getfield 18, 3) := by decide +kernel
theorem dX0_refresh_28 : decode cX0_refresh 28 = .ok (.iload_n 1, 1) := by decide +kernel
theorem dX0_refresh_29 : decode cX0_refresh 29 = .ok (.iconst 1, 1) := by decide +kernel
theorem dX0_refresh_30 : decode cX0_refresh 30 = .ok (.bastore, 1) := by decide +kernel
theorem dX0_refresh_31 : decode cX0_refresh 31 = .ok (.return_, 1) := by decide +kernel
set_option maxRecDepth 20000 in
theorem ggX0_hoursBy_X0_spot : GoodIn wsX0_hoursBy wsX0_spot := goodIn_r _ [6] (by decide +kernel) (by decide +kernel)
set_option maxRecDepth 20000 in
theorem gX0_hoursBy_X0_spot : GoodIn wsX0_hoursBy (va_wsS RX0 47 yX0_spot wsX0_spot) := goodIn_app (goodIn_of _ (by decide +kernel)) ggX0_hoursBy_X0_spot
theorem dX0_hoursBy_0 : decode cX0_hoursBy 0 = .ok (.aload_n 0, 1) := by decide +kernel
theorem dX0_hoursBy_1 : decode cX0_hoursBy 1 = .ok (.getfield 11, 3) := by decide +kernel
theorem dX0_hoursBy_4 : decode cX0_hoursBy 4 = .ok (.iload_n 1, 1) := by decide +kernel
theorem dX0_hoursBy_5 : decode cX0_hoursBy 5 = .ok (.iload_n 2, 1) := by decide +kernel
theorem dX0_hoursBy_6 : decode cX0_hoursBy 6 = .ok (.iload_n 3, 1) := by decide +kernel
theorem dX0_hoursBy_7 : decode cX0_hoursBy 7 = .ok (.invokestatic 47, 3) := by decide +kernel
theorem dX0_hoursBy_10 : decode cX0_hoursBy 10 = .ok (.iaload, 1) := by decide +kernel
theorem dX0_hoursBy_11 : decode cX0_hoursBy 11 = .ok (.istore 4, 2) := by decide +kernel
theorem dX0_hoursBy_13 : decode cX0_hoursBy 13 = .ok (.iload 4, 2) := by decide +kernel
theorem dX0_hoursBy_15 : decode cX0_hoursBy 15 = .ok (.ldc 51, 2) := by decide +kernel
theorem dX0_hoursBy_17 : decode cX0_hoursBy 17 = .ok (.if_icmp .lt 7, 3) := by decide +kernel
theorem dX0_hoursBy_20 : decode cX0_hoursBy 20 = .ok (.iconst (-1), 1) := by decide +kernel
theorem dX0_hoursBy_21 : decode cX0_hoursBy 21 = .ok (.goto 5, 3) := by decide +kernel
theorem dX0_hoursBy_24 : decode cX0_hoursBy 24 = .ok (.iload 4, 2) := by decide +kernel
theorem dX0_hoursBy_26 : decode cX0_hoursBy 26 = .ok (.ireturn, 1) := by decide +kernel
set_option maxRecDepth 20000 in
theorem ggX0_streetBy_X0_spot : GoodIn wsX0_streetBy wsX0_spot := goodIn_r _ [5] (by decide +kernel) (by decide +kernel)
set_option maxRecDepth 20000 in
theorem gX0_streetBy_X0_spot : GoodIn wsX0_streetBy (va_wsS RX0 47 yX0_spot wsX0_spot) := goodIn_app (goodIn_of _ (by decide +kernel)) ggX0_streetBy_X0_spot
theorem dX0_streetBy_0 : decode cX0_streetBy 0 = .ok (.aload_n 0, 1) := by decide +kernel
theorem dX0_streetBy_1 : decode cX0_streetBy 1 = .ok (.getfield 15, 3) := by decide +kernel
theorem dX0_streetBy_4 : decode cX0_streetBy 4 = .ok (.iload_n 1, 1) := by decide +kernel
theorem dX0_streetBy_5 : decode cX0_streetBy 5 = .ok (.iload_n 2, 1) := by decide +kernel
theorem dX0_streetBy_6 : decode cX0_streetBy 6 = .ok (.iload_n 3, 1) := by decide +kernel
theorem dX0_streetBy_7 : decode cX0_streetBy 7 = .ok (.invokestatic 47, 3) := by decide +kernel
theorem dX0_streetBy_10 : decode cX0_streetBy 10 = .ok (.iaload, 1) := by decide +kernel
theorem dX0_streetBy_11 : decode cX0_streetBy 11 = .ok (.ireturn, 1) := by decide +kernel
theorem dX0_spot_0 : decode cX0_spot 0 = .ok (.iload_n 0, 1) := by decide +kernel
theorem dX0_spot_1 : decode cX0_spot 1 = .ok (.bipush 100, 2) := by decide +kernel
theorem dX0_spot_3 : decode cX0_spot 3 = .ok (.imul, 1) := by decide +kernel
theorem dX0_spot_4 : decode cX0_spot 4 = .ok (.iload_n 1, 1) := by decide +kernel
theorem dX0_spot_5 : decode cX0_spot 5 = .ok (.bipush 10, 2) := by decide +kernel
theorem dX0_spot_7 : decode cX0_spot 7 = .ok (.imul, 1) := by decide +kernel
theorem dX0_spot_8 : decode cX0_spot 8 = .ok (.iadd, 1) := by decide +kernel
theorem dX0_spot_9 : decode cX0_spot 9 = .ok (.iload_n 2, 1) := by decide +kernel
theorem dX0_spot_10 : decode cX0_spot 10 = .ok (.iadd, 1) := by decide +kernel
theorem dX0_spot_11 : decode cX0_spot 11 = .ok (.ireturn, 1) := by decide +kernel
set_option maxRecDepth 20000 in
theorem ggX0_signOf_X7_signOn : GoodIn wsX0_signOf wsX7_signOn := goodIn_r _ [8, 9, 28, 29, 30, 31, 32, 33, 34, 35, 36, 37, 38, 39] (by decide +kernel) (by decide +kernel)
set_option maxRecDepth 20000 in
theorem gX0_signOf_X7_signOn : GoodIn wsX0_signOf (wsV RX0 59 RX7 yX7_signOn wsX7_signOn) := goodIn_app (goodIn_of _ (by decide +kernel)) ggX0_signOf_X7_signOn
theorem dX0_signOf_0 : decode cX0_signOf 0 = .ok (.iload_n 1, 1) := by decide +kernel
theorem dX0_signOf_1 : decode cX0_signOf 1 = .ok (.iconst 4, 1) := by decide +kernel
theorem dX0_signOf_2 : decode cX0_signOf 2 = .ok (.if_icmp .ge 18, 3) := by decide +kernel
theorem dX0_signOf_5 : decode cX0_signOf 5 = .ok (.aload_n 0, 1) := by decide +kernel
theorem dX0_signOf_6 : decode cX0_signOf 6 = .ok (.getfield 22, 3) := by decide +kernel
theorem dX0_signOf_9 : decode cX0_signOf 9 = .ok (.getfield 52, 3) := by decide +kernel
theorem dX0_signOf_12 : decode cX0_signOf 12 = .ok (.iload_n 1, 1) := by decide +kernel
theorem dX0_signOf_13 : decode cX0_signOf 13 = .ok (.bipush 12, 2) := by decide +kernel
theorem dX0_signOf_15 : decode cX0_signOf 15 = .ok (.imul, 1) := by decide +kernel
theorem dX0_signOf_16 : decode cX0_signOf 16 = .ok (.iload_n 2, 1) := by decide +kernel
theorem dX0_signOf_17 : decode cX0_signOf 17 = .ok (.iadd, 1) := by decide +kernel
theorem dX0_signOf_18 : decode cX0_signOf 18 = .ok (.iaload, 1) := by decide +kernel
theorem dX0_signOf_19 : decode cX0_signOf 19 = .ok (.ireturn, 1) := by decide +kernel
theorem dX0_signOf_20 : decode cX0_signOf 20 = .ok (.aload_n 0, 1) := by decide +kernel
theorem dX0_signOf_21 : decode cX0_signOf 21 = .ok (.getfield 22, 3) := by decide +kernel
theorem dX0_signOf_24 : decode cX0_signOf 24 = .ok (.getfield 55, 3) := by decide +kernel
theorem dX0_signOf_27 : decode cX0_signOf 27 = .ok (.iload_n 2, 1) := by decide +kernel
theorem dX0_signOf_28 : decode cX0_signOf 28 = .ok (.iload_n 1, 1) := by decide +kernel
theorem dX0_signOf_29 : decode cX0_signOf 29 = .ok (.iconst 4, 1) := by decide +kernel
theorem dX0_signOf_30 : decode cX0_signOf 30 = .ok (.isub, 1) := by decide +kernel
theorem dX0_signOf_31 : decode cX0_signOf 31 = .ok (.invokevirtual 59, 3) := by decide +kernel
theorem dX0_signOf_34 : decode cX0_signOf 34 = .ok (.ireturn, 1) := by decide +kernel
set_option maxRecDepth 20000 in
theorem ggX0_drawStreets_X0_spot : GoodIn wsX0_drawStreets wsX0_spot := goodIn_r _ [11] (by decide +kernel) (by decide +kernel)
set_option maxRecDepth 20000 in
theorem gX0_drawStreets_X0_spot : GoodIn wsX0_drawStreets (va_wsS RX0 47 yX0_spot wsX0_spot) := goodIn_app (goodIn_of _ (by decide +kernel)) ggX0_drawStreets_X0_spot
set_option maxRecDepth 20000 in
theorem ggX0_drawStreets_X0_signOf : GoodIn wsX0_drawStreets wsX0_signOf := goodIn_r _ [15, 4, 16, 5, 17, 18, 19, 20, 21, 22, 28, 29, 30, 31, 32, 33, 34, 35, 36, 37, 38, 39, 40, 41, 42, 43, 44, 45, 46, 47, 48, 49, 50, 51, 52, 53, 54, 55, 56, 57] (by decide +kernel) (by decide +kernel)
set_option maxRecDepth 20000 in
theorem gX0_drawStreets_X0_signOf : GoodIn wsX0_drawStreets (wsV RX0 68 RX0 yX0_signOf wsX0_signOf) := goodIn_app (goodIn_of _ (by decide +kernel)) ggX0_drawStreets_X0_signOf
set_option maxRecDepth 20000 in
theorem ggX0_drawStreets_X7_cornerAcross : GoodIn wsX0_drawStreets wsX7_cornerAcross := goodIn_r _ [26, 27, 46, 47, 48, 49, 50, 51, 52, 53, 54, 55, 56, 57] (by decide +kernel) (by decide +kernel)
set_option maxRecDepth 20000 in
theorem gX0_drawStreets_X7_cornerAcross : GoodIn wsX0_drawStreets (wsV RX0 71 RX7 yX7_cornerAcross wsX7_cornerAcross) := goodIn_app (goodIn_of _ (by decide +kernel)) ggX0_drawStreets_X7_cornerAcross
theorem dX0_drawStreets_0 : decode cX0_drawStreets 0 = .ok (.iconst 0, 1) := by decide +kernel
theorem dX0_drawStreets_1 : decode cX0_drawStreets 1 = .ok (.istore_n 2, 1) := by decide +kernel
theorem dX0_drawStreets_2 : decode cX0_drawStreets 2 = .ok (.iload_n 2, 1) := by decide +kernel
theorem dX0_drawStreets_3 : decode cX0_drawStreets 3 = .ok (.bipush 10, 2) := by decide +kernel
theorem dX0_drawStreets_5 : decode cX0_drawStreets 5 = .ok (.if_icmp .ge 57, 3) := by decide +kernel
theorem dX0_drawStreets_8 : decode cX0_drawStreets 8 = .ok (.iconst 0, 1) := by decide +kernel
theorem dX0_drawStreets_9 : decode cX0_drawStreets 9 = .ok (.istore_n 3, 1) := by decide +kernel
theorem dX0_drawStreets_10 : decode cX0_drawStreets 10 = .ok (.iload_n 3, 1) := by decide +kernel
theorem dX0_drawStreets_11 : decode cX0_drawStreets 11 = .ok (.bipush 10, 2) := by decide +kernel
theorem dX0_drawStreets_13 : decode cX0_drawStreets 13 = .ok (.if_icmp .ge 43, 3) := by decide +kernel
theorem dX0_drawStreets_16 : decode cX0_drawStreets 16 = .ok (.aload_n 0, 1) := by decide +kernel
theorem dX0_drawStreets_17 : decode cX0_drawStreets 17 = .ok (.getfield 11, 3) := by decide +kernel
theorem dX0_drawStreets_20 : decode cX0_drawStreets 20 = .ok (.iload_n 1, 1) := by decide +kernel
theorem dX0_drawStreets_21 : decode cX0_drawStreets 21 = .ok (.iload_n 2, 1) := by decide +kernel
theorem dX0_drawStreets_22 : decode cX0_drawStreets 22 = .ok (.iload_n 3, 1) := by decide +kernel
theorem dX0_drawStreets_23 : decode cX0_drawStreets 23 = .ok (.invokestatic 47, 3) := by decide +kernel
theorem dX0_drawStreets_26 : decode cX0_drawStreets 26 = .ok (.iload_n 2, 1) := by decide +kernel
theorem dX0_drawStreets_27 : decode cX0_drawStreets 27 = .ok (.iload_n 3, 1) := by decide +kernel
theorem dX0_drawStreets_28 : decode cX0_drawStreets 28 = .ok (.if_icmp .ne 7, 3) := by decide +kernel
theorem dX0_drawStreets_31 : decode cX0_drawStreets 31 = .ok (.iconst 0, 1) := by decide +kernel
theorem dX0_drawStreets_32 : decode cX0_drawStreets 32 = .ok (.goto 5, 3) := by decide +kernel
theorem dX0_drawStreets_35 : decode cX0_drawStreets 35 = .ok (.ldc 51, 2) := by decide +kernel
theorem dX0_drawStreets_37 : decode cX0_drawStreets 37 = .ok (.iastore, 1) := by decide +kernel
theorem dX0_drawStreets_38 : decode cX0_drawStreets 38 = .ok (.aload_n 0, 1) := by decide +kernel
theorem dX0_drawStreets_39 : decode cX0_drawStreets 39 = .ok (.getfield 15, 3) := by decide +kernel
theorem dX0_drawStreets_42 : decode cX0_drawStreets 42 = .ok (.iload_n 1, 1) := by decide +kernel
theorem dX0_drawStreets_43 : decode cX0_drawStreets 43 = .ok (.iload_n 2, 1) := by decide +kernel
theorem dX0_drawStreets_44 : decode cX0_drawStreets 44 = .ok (.iload_n 3, 1) := by decide +kernel
theorem dX0_drawStreets_45 : decode cX0_drawStreets 45 = .ok (.invokestatic 47, 3) := by decide +kernel
theorem dX0_drawStreets_48 : decode cX0_drawStreets 48 = .ok (.iconst (-1), 1) := by decide +kernel
theorem dX0_drawStreets_49 : decode cX0_drawStreets 49 = .ok (.iastore, 1) := by decide +kernel
theorem dX0_drawStreets_50 : decode cX0_drawStreets 50 = .ok (.iinc 3 1, 3) := by decide +kernel
theorem dX0_drawStreets_53 : decode cX0_drawStreets 53 = .ok (.goto (-43), 3) := by decide +kernel
theorem dX0_drawStreets_56 : decode cX0_drawStreets 56 = .ok (.iinc 2 1, 3) := by decide +kernel
theorem dX0_drawStreets_59 : decode cX0_drawStreets 59 = .ok (.goto (-57), 3) := by decide +kernel
theorem dX0_drawStreets_62 : decode cX0_drawStreets 62 = .ok (.aload_n 0, 1) := by decide +kernel
theorem dX0_drawStreets_63 : decode cX0_drawStreets 63 = .ok (.getfield 22, 3) := by decide +kernel
theorem dX0_drawStreets_66 : decode cX0_drawStreets 66 = .ok (.getfield 55, 3) := by decide +kernel
theorem dX0_drawStreets_69 : decode cX0_drawStreets 69 = .ok (.astore_n 2, 1) := by decide +kernel
theorem dX0_drawStreets_70 : decode cX0_drawStreets 70 = .ok (.iconst 0, 1) := by decide +kernel
theorem dX0_drawStreets_71 : decode cX0_drawStreets 71 = .ok (.istore_n 3, 1) := by decide +kernel
theorem dX0_drawStreets_72 : decode cX0_drawStreets 72 = .ok (.iload_n 3, 1) := by decide +kernel
theorem dX0_drawStreets_73 : decode cX0_drawStreets 73 = .ok (.aload_n 2, 1) := by decide +kernel
theorem dX0_drawStreets_74 : decode cX0_drawStreets 74 = .ok (.getfield 65, 3) := by decide +kernel
theorem dX0_drawStreets_77 : decode cX0_drawStreets 77 = .ok (.if_icmp .ge 93, 3) := by decide +kernel
theorem dX0_drawStreets_80 : decode cX0_drawStreets 80 = .ok (.aload_n 0, 1) := by decide +kernel
theorem dX0_drawStreets_81 : decode cX0_drawStreets 81 = .ok (.iload_n 1, 1) := by decide +kernel
theorem dX0_drawStreets_82 : decode cX0_drawStreets 82 = .ok (.iload_n 3, 1) := by decide +kernel
theorem dX0_drawStreets_83 : decode cX0_drawStreets 83 = .ok (.invokevirtual 68, 3) := by decide +kernel
theorem dX0_drawStreets_86 : decode cX0_drawStreets 86 = .ok (.istore 4, 2) := by decide +kernel
theorem dX0_drawStreets_88 : decode cX0_drawStreets 88 = .ok (.iconst 0, 1) := by decide +kernel
theorem dX0_drawStreets_89 : decode cX0_drawStreets 89 = .ok (.istore 5, 2) := by decide +kernel
theorem dX0_drawStreets_91 : decode cX0_drawStreets 91 = .ok (.iload 5, 2) := by decide +kernel
theorem dX0_drawStreets_93 : decode cX0_drawStreets 93 = .ok (.iconst 2, 1) := by decide +kernel
theorem dX0_drawStreets_94 : decode cX0_drawStreets 94 = .ok (.if_icmp .ge 70, 3) := by decide +kernel
theorem dX0_drawStreets_97 : decode cX0_drawStreets 97 = .ok (.iload_n 1, 1) := by decide +kernel
theorem dX0_drawStreets_98 : decode cX0_drawStreets 98 = .ok (.aload_n 2, 1) := by decide +kernel
theorem dX0_drawStreets_99 : decode cX0_drawStreets 99 = .ok (.iload_n 3, 1) := by decide +kernel
theorem dX0_drawStreets_100 : decode cX0_drawStreets 100 = .ok (.iconst 1, 1) := by decide +kernel
theorem dX0_drawStreets_101 : decode cX0_drawStreets 101 = .ok (.iload 5, 2) := by decide +kernel
theorem dX0_drawStreets_103 : decode cX0_drawStreets 103 = .ok (.isub, 1) := by decide +kernel
theorem dX0_drawStreets_104 : decode cX0_drawStreets 104 = .ok (.invokevirtual 71, 3) := by decide +kernel
theorem dX0_drawStreets_107 : decode cX0_drawStreets 107 = .ok (.aload_n 2, 1) := by decide +kernel
theorem dX0_drawStreets_108 : decode cX0_drawStreets 108 = .ok (.iload_n 3, 1) := by decide +kernel
theorem dX0_drawStreets_109 : decode cX0_drawStreets 109 = .ok (.iload 5, 2) := by decide +kernel
theorem dX0_drawStreets_111 : decode cX0_drawStreets 111 = .ok (.invokevirtual 71, 3) := by decide +kernel
theorem dX0_drawStreets_114 : decode cX0_drawStreets 114 = .ok (.invokestatic 47, 3) := by decide +kernel
theorem dX0_drawStreets_117 : decode cX0_drawStreets 117 = .ok (.istore 6, 2) := by decide +kernel
theorem dX0_drawStreets_119 : decode cX0_drawStreets 119 = .ok (.iload 4, 2) := by decide +kernel
theorem dX0_drawStreets_121 : decode cX0_drawStreets 121 = .ok (.iload 5, 2) := by decide +kernel
theorem dX0_drawStreets_123 : decode cX0_drawStreets 123 = .ok (.ishr, 1) := by decide +kernel
theorem dX0_drawStreets_124 : decode cX0_drawStreets 124 = .ok (.iconst 1, 1) := by decide +kernel
theorem dX0_drawStreets_125 : decode cX0_drawStreets 125 = .ok (.iand, 1) := by decide +kernel
theorem dX0_drawStreets_126 : decode cX0_drawStreets 126 = .ok (.ifCond .eq 32, 3) := by decide +kernel
theorem dX0_drawStreets_129 : decode cX0_drawStreets 129 = .ok (.aload_n 2, 1) := by decide +kernel
theorem dX0_drawStreets_130 : decode cX0_drawStreets 130 = .ok (.getfield 74, 3) := by decide +kernel
theorem dX0_drawStreets_133 : decode cX0_drawStreets 133 = .ok (.iload_n 3, 1) := by decide +kernel
theorem dX0_drawStreets_134 : decode cX0_drawStreets 134 = .ok (.iaload, 1) := by decide +kernel
theorem dX0_drawStreets_135 : decode cX0_drawStreets 135 = .ok (.aload_n 0, 1) := by decide +kernel
theorem dX0_drawStreets_136 : decode cX0_drawStreets 136 = .ok (.getfield 11, 3) := by decide +kernel
theorem dX0_drawStreets_139 : decode cX0_drawStreets 139 = .ok (.iload 6, 2) := by decide +kernel
theorem dX0_drawStreets_141 : decode cX0_drawStreets 141 = .ok (.iaload, 1) := by decide +kernel
theorem dX0_drawStreets_142 : decode cX0_drawStreets 142 = .ok (.if_icmp .ge 16, 3) := by decide +kernel
theorem dX0_drawStreets_145 : decode cX0_drawStreets 145 = .ok (.aload_n 0, 1) := by decide +kernel
theorem dX0_drawStreets_146 : decode cX0_drawStreets 146 = .ok (.getfield 11, 3) := by decide +kernel
theorem dX0_drawStreets_149 : decode cX0_drawStreets 149 = .ok (.iload 6, 2) := by decide +kernel
theorem dX0_drawStreets_151 : decode cX0_drawStreets 151 = .ok (.aload_n 2, 1) := by decide +kernel
theorem dX0_drawStreets_152 : decode cX0_drawStreets 152 = .ok (.getfield 74, 3) := by decide +kernel
theorem dX0_drawStreets_155 : decode cX0_drawStreets 155 = .ok (.iload_n 3, 1) := by decide +kernel
theorem dX0_drawStreets_156 : decode cX0_drawStreets 156 = .ok (.iaload, 1) := by decide +kernel
theorem dX0_drawStreets_157 : decode cX0_drawStreets 157 = .ok (.iastore, 1) := by decide +kernel
theorem dX0_drawStreets_158 : decode cX0_drawStreets 158 = .ok (.iinc 5 1, 3) := by decide +kernel
theorem dX0_drawStreets_161 : decode cX0_drawStreets 161 = .ok (.goto (-70), 3) := by decide +kernel
theorem dX0_drawStreets_164 : decode cX0_drawStreets 164 = .ok (.iinc 3 1, 3) := by decide +kernel
theorem dX0_drawStreets_167 : decode cX0_drawStreets 167 = .ok (.goto (-95), 3) := by decide +kernel
theorem dX0_drawStreets_170 : decode cX0_drawStreets 170 = .ok (.return_, 1) := by decide +kernel
set_option maxRecDepth 20000 in
theorem ggX0_drawHours_X0_spot : GoodIn wsX0_drawHours wsX0_spot := goodIn_r _ [9] (by decide +kernel) (by decide +kernel)
set_option maxRecDepth 20000 in
theorem gX0_drawHours_X0_spot : GoodIn wsX0_drawHours (va_wsS RX0 47 yX0_spot wsX0_spot) := goodIn_app (goodIn_of _ (by decide +kernel)) ggX0_drawHours_X0_spot
theorem dX0_drawHours_0 : decode cX0_drawHours 0 = .ok (.aload_n 0, 1) := by decide +kernel
theorem dX0_drawHours_1 : decode cX0_drawHours 1 = .ok (.getfield 22, 3) := by decide +kernel
theorem dX0_drawHours_4 : decode cX0_drawHours 4 = .ok (.getfield 55, 3) := by decide +kernel
theorem dX0_drawHours_7 : decode cX0_drawHours 7 = .ok (.getfield 75, 3) := by decide +kernel
theorem dX0_drawHours_10 : decode cX0_drawHours 10 = .ok (.istore_n 2, 1) := by decide +kernel
theorem dX0_drawHours_11 : decode cX0_drawHours 11 = .ok (.iconst 0, 1) := by decide +kernel
theorem dX0_drawHours_12 : decode cX0_drawHours 12 = .ok (.istore_n 3, 1) := by decide +kernel
theorem dX0_drawHours_13 : decode cX0_drawHours 13 = .ok (.iload_n 3, 1) := by decide +kernel
theorem dX0_drawHours_14 : decode cX0_drawHours 14 = .ok (.iload_n 2, 1) := by decide +kernel
theorem dX0_drawHours_15 : decode cX0_drawHours 15 = .ok (.if_icmp .ge 108, 3) := by decide +kernel
theorem dX0_drawHours_18 : decode cX0_drawHours 18 = .ok (.iconst 0, 1) := by decide +kernel
theorem dX0_drawHours_19 : decode cX0_drawHours 19 = .ok (.istore 4, 2) := by decide +kernel
theorem dX0_drawHours_21 : decode cX0_drawHours 21 = .ok (.iload 4, 2) := by decide +kernel
theorem dX0_drawHours_23 : decode cX0_drawHours 23 = .ok (.iload_n 2, 1) := by decide +kernel
theorem dX0_drawHours_24 : decode cX0_drawHours 24 = .ok (.if_icmp .ge 93, 3) := by decide +kernel
theorem dX0_drawHours_27 : decode cX0_drawHours 27 = .ok (.aload_n 0, 1) := by decide +kernel
theorem dX0_drawHours_28 : decode cX0_drawHours 28 = .ok (.getfield 11, 3) := by decide +kernel
theorem dX0_drawHours_31 : decode cX0_drawHours 31 = .ok (.iload_n 1, 1) := by decide +kernel
theorem dX0_drawHours_32 : decode cX0_drawHours 32 = .ok (.iload 4, 2) := by decide +kernel
theorem dX0_drawHours_34 : decode cX0_drawHours 34 = .ok (.iload_n 3, 1) := by decide +kernel
theorem dX0_drawHours_35 : decode cX0_drawHours 35 = .ok (.invokestatic 47, 3) := by decide +kernel
theorem dX0_drawHours_38 : decode cX0_drawHours 38 = .ok (.iaload, 1) := by decide +kernel
theorem dX0_drawHours_39 : decode cX0_drawHours 39 = .ok (.istore 5, 2) := by decide +kernel
theorem dX0_drawHours_41 : decode cX0_drawHours 41 = .ok (.iconst 0, 1) := by decide +kernel
theorem dX0_drawHours_42 : decode cX0_drawHours 42 = .ok (.istore 6, 2) := by decide +kernel
theorem dX0_drawHours_44 : decode cX0_drawHours 44 = .ok (.iload 5, 2) := by decide +kernel
theorem dX0_drawHours_46 : decode cX0_drawHours 46 = .ok (.ldc 51, 2) := by decide +kernel
theorem dX0_drawHours_48 : decode cX0_drawHours 48 = .ok (.if_icmp .ge 63, 3) := by decide +kernel
theorem dX0_drawHours_51 : decode cX0_drawHours 51 = .ok (.iload 6, 2) := by decide +kernel
theorem dX0_drawHours_53 : decode cX0_drawHours 53 = .ok (.iload_n 2, 1) := by decide +kernel
theorem dX0_drawHours_54 : decode cX0_drawHours 54 = .ok (.if_icmp .ge 57, 3) := by decide +kernel
theorem dX0_drawHours_57 : decode cX0_drawHours 57 = .ok (.iload 5, 2) := by decide +kernel
theorem dX0_drawHours_59 : decode cX0_drawHours 59 = .ok (.aload_n 0, 1) := by decide +kernel
theorem dX0_drawHours_60 : decode cX0_drawHours 60 = .ok (.getfield 11, 3) := by decide +kernel
theorem dX0_drawHours_63 : decode cX0_drawHours 63 = .ok (.iload_n 1, 1) := by decide +kernel
theorem dX0_drawHours_64 : decode cX0_drawHours 64 = .ok (.iload_n 3, 1) := by decide +kernel
theorem dX0_drawHours_65 : decode cX0_drawHours 65 = .ok (.iload 6, 2) := by decide +kernel
theorem dX0_drawHours_67 : decode cX0_drawHours 67 = .ok (.invokestatic 47, 3) := by decide +kernel
theorem dX0_drawHours_70 : decode cX0_drawHours 70 = .ok (.iaload, 1) := by decide +kernel
theorem dX0_drawHours_71 : decode cX0_drawHours 71 = .ok (.iadd, 1) := by decide +kernel
theorem dX0_drawHours_72 : decode cX0_drawHours 72 = .ok (.istore 7, 2) := by decide +kernel
theorem dX0_drawHours_74 : decode cX0_drawHours 74 = .ok (.iload_n 1, 1) := by decide +kernel
theorem dX0_drawHours_75 : decode cX0_drawHours 75 = .ok (.iload 4, 2) := by decide +kernel
theorem dX0_drawHours_77 : decode cX0_drawHours 77 = .ok (.iload 6, 2) := by decide +kernel
theorem dX0_drawHours_79 : decode cX0_drawHours 79 = .ok (.invokestatic 47, 3) := by decide +kernel
theorem dX0_drawHours_82 : decode cX0_drawHours 82 = .ok (.istore 8, 2) := by decide +kernel
theorem dX0_drawHours_84 : decode cX0_drawHours 84 = .ok (.iload 7, 2) := by decide +kernel
theorem dX0_drawHours_86 : decode cX0_drawHours 86 = .ok (.aload_n 0, 1) := by decide +kernel
theorem dX0_drawHours_87 : decode cX0_drawHours 87 = .ok (.getfield 11, 3) := by decide +kernel
theorem dX0_drawHours_90 : decode cX0_drawHours 90 = .ok (.iload 8, 2) := by decide +kernel
theorem dX0_drawHours_92 : decode cX0_drawHours 92 = .ok (.iaload, 1) := by decide +kernel
theorem dX0_drawHours_93 : decode cX0_drawHours 93 = .ok (.if_icmp .ge 12, 3) := by decide +kernel
theorem dX0_drawHours_96 : decode cX0_drawHours 96 = .ok (.aload_n 0, 1) := by decide +kernel
theorem dX0_drawHours_97 : decode cX0_drawHours 97 = .ok (.getfield 11, 3) := by decide +kernel
theorem dX0_drawHours_100 : decode cX0_drawHours 100 = .ok (.iload 8, 2) := by decide +kernel
theorem dX0_drawHours_102 : decode cX0_drawHours 102 = .ok (.iload 7, 2) := by decide +kernel
theorem dX0_drawHours_104 : decode cX0_drawHours 104 = .ok (.iastore, 1) := by decide +kernel
theorem dX0_drawHours_105 : decode cX0_drawHours 105 = .ok (.iinc 6 1, 3) := by decide +kernel
theorem dX0_drawHours_108 : decode cX0_drawHours 108 = .ok (.goto (-64), 3) := by decide +kernel
theorem dX0_drawHours_111 : decode cX0_drawHours 111 = .ok (.iinc 4 1, 3) := by decide +kernel
theorem dX0_drawHours_114 : decode cX0_drawHours 114 = .ok (.goto (-93), 3) := by decide +kernel
theorem dX0_drawHours_117 : decode cX0_drawHours 117 = .ok (.iinc 3 1, 3) := by decide +kernel
theorem dX0_drawHours_120 : decode cX0_drawHours 120 = .ok (.goto (-107), 3) := by decide +kernel
theorem dX0_drawHours_123 : decode cX0_drawHours 123 = .ok (.return_, 1) := by decide +kernel
set_option maxRecDepth 20000 in
theorem ggX0_drawFirst_X0_signOf : GoodIn wsX0_drawFirst wsX0_signOf := goodIn_r _ [8, 1, 9, 2, 10, 11, 12, 13, 14, 15, 33, 34, 35, 36, 37, 38, 39, 40, 41, 42, 43, 44, 45, 46, 47, 48, 49, 50, 51, 52, 53, 54, 55, 56, 57, 58, 59, 60, 61, 62] (by decide +kernel) (by decide +kernel)
set_option maxRecDepth 20000 in
theorem gX0_drawFirst_X0_signOf : GoodIn wsX0_drawFirst (wsV RX0 68 RX0 yX0_signOf wsX0_signOf) := goodIn_app (goodIn_of _ (by decide +kernel)) ggX0_drawFirst_X0_signOf
set_option maxRecDepth 20000 in
theorem ggX0_drawFirst_X0_drawFirstBy : GoodIn wsX0_drawFirst wsX0_drawFirstBy := goodIn_r _ [19, 1, 2, 20, 21, 22, 23, 24, 25, 26, 27, 13, 28, 29, 30, 31, 7, 32, 33, 34, 35, 36, 37, 38, 39, 40, 41, 42, 43, 44, 45, 46, 47, 48, 49, 50, 51, 52, 53, 54, 55, 56, 57, 58, 59, 60, 61, 62] (by decide +kernel) (by decide +kernel)
set_option maxRecDepth 20000 in
theorem gX0_drawFirst_X0_drawFirstBy : GoodIn wsX0_drawFirst (wsV RX0 78 RX0 yX0_drawFirstBy wsX0_drawFirstBy) := goodIn_app (goodIn_of _ (by decide +kernel)) ggX0_drawFirst_X0_drawFirstBy
theorem dX0_drawFirst_0 : decode cX0_drawFirst 0 = .ok (.aload_n 0, 1) := by decide +kernel
theorem dX0_drawFirst_1 : decode cX0_drawFirst 1 = .ok (.getfield 22, 3) := by decide +kernel
theorem dX0_drawFirst_4 : decode cX0_drawFirst 4 = .ok (.getfield 55, 3) := by decide +kernel
theorem dX0_drawFirst_7 : decode cX0_drawFirst 7 = .ok (.astore_n 2, 1) := by decide +kernel
theorem dX0_drawFirst_8 : decode cX0_drawFirst 8 = .ok (.aload_n 2, 1) := by decide +kernel
theorem dX0_drawFirst_9 : decode cX0_drawFirst 9 = .ok (.getfield 65, 3) := by decide +kernel
theorem dX0_drawFirst_12 : decode cX0_drawFirst 12 = .ok (.iconst 1, 1) := by decide +kernel
theorem dX0_drawFirst_13 : decode cX0_drawFirst 13 = .ok (.isub, 1) := by decide +kernel
theorem dX0_drawFirst_14 : decode cX0_drawFirst 14 = .ok (.istore_n 3, 1) := by decide +kernel
theorem dX0_drawFirst_15 : decode cX0_drawFirst 15 = .ok (.iload_n 3, 1) := by decide +kernel
theorem dX0_drawFirst_16 : decode cX0_drawFirst 16 = .ok (.ifCond .lt 50, 3) := by decide +kernel
theorem dX0_drawFirst_19 : decode cX0_drawFirst 19 = .ok (.aload_n 0, 1) := by decide +kernel
theorem dX0_drawFirst_20 : decode cX0_drawFirst 20 = .ok (.iload_n 1, 1) := by decide +kernel
theorem dX0_drawFirst_21 : decode cX0_drawFirst 21 = .ok (.iload_n 3, 1) := by decide +kernel
theorem dX0_drawFirst_22 : decode cX0_drawFirst 22 = .ok (.invokevirtual 68, 3) := by decide +kernel
theorem dX0_drawFirst_25 : decode cX0_drawFirst 25 = .ok (.istore 4, 2) := by decide +kernel
theorem dX0_drawFirst_27 : decode cX0_drawFirst 27 = .ok (.iconst 0, 1) := by decide +kernel
theorem dX0_drawFirst_28 : decode cX0_drawFirst 28 = .ok (.istore 5, 2) := by decide +kernel
theorem dX0_drawFirst_30 : decode cX0_drawFirst 30 = .ok (.iload 5, 2) := by decide +kernel
theorem dX0_drawFirst_32 : decode cX0_drawFirst 32 = .ok (.iconst 2, 1) := by decide +kernel
theorem dX0_drawFirst_33 : decode cX0_drawFirst 33 = .ok (.if_icmp .ge 27, 3) := by decide +kernel
theorem dX0_drawFirst_36 : decode cX0_drawFirst 36 = .ok (.iload 4, 2) := by decide +kernel
theorem dX0_drawFirst_38 : decode cX0_drawFirst 38 = .ok (.iload 5, 2) := by decide +kernel
theorem dX0_drawFirst_40 : decode cX0_drawFirst 40 = .ok (.ishr, 1) := by decide +kernel
theorem dX0_drawFirst_41 : decode cX0_drawFirst 41 = .ok (.iconst 1, 1) := by decide +kernel
theorem dX0_drawFirst_42 : decode cX0_drawFirst 42 = .ok (.iand, 1) := by decide +kernel
theorem dX0_drawFirst_43 : decode cX0_drawFirst 43 = .ok (.ifCond .eq 11, 3) := by decide +kernel
theorem dX0_drawFirst_46 : decode cX0_drawFirst 46 = .ok (.aload_n 0, 1) := by decide +kernel
theorem dX0_drawFirst_47 : decode cX0_drawFirst 47 = .ok (.iload_n 1, 1) := by decide +kernel
theorem dX0_drawFirst_48 : decode cX0_drawFirst 48 = .ok (.iload_n 3, 1) := by decide +kernel
theorem dX0_drawFirst_49 : decode cX0_drawFirst 49 = .ok (.iload 5, 2) := by decide +kernel
theorem dX0_drawFirst_51 : decode cX0_drawFirst 51 = .ok (.invokevirtual 78, 3) := by decide +kernel
theorem dX0_drawFirst_54 : decode cX0_drawFirst 54 = .ok (.iinc 5 1, 3) := by decide +kernel
theorem dX0_drawFirst_57 : decode cX0_drawFirst 57 = .ok (.goto (-27), 3) := by decide +kernel
theorem dX0_drawFirst_60 : decode cX0_drawFirst 60 = .ok (.iinc 3 (-1), 3) := by decide +kernel
theorem dX0_drawFirst_63 : decode cX0_drawFirst 63 = .ok (.goto (-48), 3) := by decide +kernel
theorem dX0_drawFirst_66 : decode cX0_drawFirst 66 = .ok (.return_, 1) := by decide +kernel
set_option maxRecDepth 20000 in
theorem ggX0_drawFirstBy_X7_cornerAcross : GoodIn wsX0_drawFirstBy wsX7_cornerAcross := goodIn_r _ [12, 13, 36, 37, 38, 39, 40, 41, 42, 43, 44, 45, 46, 47] (by decide +kernel) (by decide +kernel)
set_option maxRecDepth 20000 in
theorem gX0_drawFirstBy_X7_cornerAcross : GoodIn wsX0_drawFirstBy (wsV RX0 71 RX7 yX7_cornerAcross wsX7_cornerAcross) := goodIn_app (goodIn_of _ (by decide +kernel)) ggX0_drawFirstBy_X7_cornerAcross
set_option maxRecDepth 20000 in
theorem ggX0_drawFirstBy_X0_spot : GoodIn wsX0_drawFirstBy wsX0_spot := goodIn_r _ [17] (by decide +kernel) (by decide +kernel)
set_option maxRecDepth 20000 in
theorem gX0_drawFirstBy_X0_spot : GoodIn wsX0_drawFirstBy (va_wsS RX0 47 yX0_spot wsX0_spot) := goodIn_app (goodIn_of _ (by decide +kernel)) ggX0_drawFirstBy_X0_spot
theorem dX0_drawFirstBy_0 : decode cX0_drawFirstBy 0 = .ok (.aload_n 0, 1) := by decide +kernel
theorem dX0_drawFirstBy_1 : decode cX0_drawFirstBy 1 = .ok (.getfield 22, 3) := by decide +kernel
theorem dX0_drawFirstBy_4 : decode cX0_drawFirstBy 4 = .ok (.getfield 55, 3) := by decide +kernel
theorem dX0_drawFirstBy_7 : decode cX0_drawFirstBy 7 = .ok (.astore 4, 2) := by decide +kernel
theorem dX0_drawFirstBy_9 : decode cX0_drawFirstBy 9 = .ok (.aload 4, 2) := by decide +kernel
theorem dX0_drawFirstBy_11 : decode cX0_drawFirstBy 11 = .ok (.iload_n 2, 1) := by decide +kernel
theorem dX0_drawFirstBy_12 : decode cX0_drawFirstBy 12 = .ok (.iconst 1, 1) := by decide +kernel
theorem dX0_drawFirstBy_13 : decode cX0_drawFirstBy 13 = .ok (.iload_n 3, 1) := by decide +kernel
theorem dX0_drawFirstBy_14 : decode cX0_drawFirstBy 14 = .ok (.isub, 1) := by decide +kernel
theorem dX0_drawFirstBy_15 : decode cX0_drawFirstBy 15 = .ok (.invokevirtual 71, 3) := by decide +kernel
theorem dX0_drawFirstBy_18 : decode cX0_drawFirstBy 18 = .ok (.istore 5, 2) := by decide +kernel
theorem dX0_drawFirstBy_20 : decode cX0_drawFirstBy 20 = .ok (.aload 4, 2) := by decide +kernel
theorem dX0_drawFirstBy_22 : decode cX0_drawFirstBy 22 = .ok (.iload_n 2, 1) := by decide +kernel
theorem dX0_drawFirstBy_23 : decode cX0_drawFirstBy 23 = .ok (.iload_n 3, 1) := by decide +kernel
theorem dX0_drawFirstBy_24 : decode cX0_drawFirstBy 24 = .ok (.invokevirtual 71, 3) := by decide +kernel
theorem dX0_drawFirstBy_27 : decode cX0_drawFirstBy 27 = .ok (.istore 6, 2) := by decide +kernel
theorem dX0_drawFirstBy_29 : decode cX0_drawFirstBy 29 = .ok (.iconst 0, 1) := by decide +kernel
theorem dX0_drawFirstBy_30 : decode cX0_drawFirstBy 30 = .ok (.istore 7, 2) := by decide +kernel
theorem dX0_drawFirstBy_32 : decode cX0_drawFirstBy 32 = .ok (.iload 7, 2) := by decide +kernel
theorem dX0_drawFirstBy_34 : decode cX0_drawFirstBy 34 = .ok (.aload 4, 2) := by decide +kernel
theorem dX0_drawFirstBy_36 : decode cX0_drawFirstBy 36 = .ok (.getfield 75, 3) := by decide +kernel
theorem dX0_drawFirstBy_39 : decode cX0_drawFirstBy 39 = .ok (.if_icmp .ge 69, 3) := by decide +kernel
theorem dX0_drawFirstBy_42 : decode cX0_drawFirstBy 42 = .ok (.aload_n 0, 1) := by decide +kernel
theorem dX0_drawFirstBy_43 : decode cX0_drawFirstBy 43 = .ok (.getfield 11, 3) := by decide +kernel
theorem dX0_drawFirstBy_46 : decode cX0_drawFirstBy 46 = .ok (.iload_n 1, 1) := by decide +kernel
theorem dX0_drawFirstBy_47 : decode cX0_drawFirstBy 47 = .ok (.iload 6, 2) := by decide +kernel
theorem dX0_drawFirstBy_49 : decode cX0_drawFirstBy 49 = .ok (.iload 7, 2) := by decide +kernel
theorem dX0_drawFirstBy_51 : decode cX0_drawFirstBy 51 = .ok (.invokestatic 47, 3) := by decide +kernel
theorem dX0_drawFirstBy_54 : decode cX0_drawFirstBy 54 = .ok (.iaload, 1) := by decide +kernel
theorem dX0_drawFirstBy_55 : decode cX0_drawFirstBy 55 = .ok (.istore 8, 2) := by decide +kernel
theorem dX0_drawFirstBy_57 : decode cX0_drawFirstBy 57 = .ok (.iload_n 1, 1) := by decide +kernel
theorem dX0_drawFirstBy_58 : decode cX0_drawFirstBy 58 = .ok (.iload 5, 2) := by decide +kernel
theorem dX0_drawFirstBy_60 : decode cX0_drawFirstBy 60 = .ok (.iload 7, 2) := by decide +kernel
theorem dX0_drawFirstBy_62 : decode cX0_drawFirstBy 62 = .ok (.invokestatic 47, 3) := by decide +kernel
theorem dX0_drawFirstBy_65 : decode cX0_drawFirstBy 65 = .ok (.istore 9, 2) := by decide +kernel
theorem dX0_drawFirstBy_67 : decode cX0_drawFirstBy 67 = .ok (.iload 8, 2) := by decide +kernel
theorem dX0_drawFirstBy_69 : decode cX0_drawFirstBy 69 = .ok (.ldc 51, 2) := by decide +kernel
theorem dX0_drawFirstBy_71 : decode cX0_drawFirstBy 71 = .ok (.if_icmp .ge 31, 3) := by decide +kernel
theorem dX0_drawFirstBy_74 : decode cX0_drawFirstBy 74 = .ok (.aload 4, 2) := by decide +kernel
theorem dX0_drawFirstBy_76 : decode cX0_drawFirstBy 76 = .ok (.getfield 74, 3) := by decide +kernel
theorem dX0_drawFirstBy_79 : decode cX0_drawFirstBy 79 = .ok (.iload_n 2, 1) := by decide +kernel
theorem dX0_drawFirstBy_80 : decode cX0_drawFirstBy 80 = .ok (.iaload, 1) := by decide +kernel
theorem dX0_drawFirstBy_81 : decode cX0_drawFirstBy 81 = .ok (.iload 8, 2) := by decide +kernel
theorem dX0_drawFirstBy_83 : decode cX0_drawFirstBy 83 = .ok (.iadd, 1) := by decide +kernel
theorem dX0_drawFirstBy_84 : decode cX0_drawFirstBy 84 = .ok (.aload_n 0, 1) := by decide +kernel
theorem dX0_drawFirstBy_85 : decode cX0_drawFirstBy 85 = .ok (.getfield 11, 3) := by decide +kernel
theorem dX0_drawFirstBy_88 : decode cX0_drawFirstBy 88 = .ok (.iload 9, 2) := by decide +kernel
theorem dX0_drawFirstBy_90 : decode cX0_drawFirstBy 90 = .ok (.iaload, 1) := by decide +kernel
theorem dX0_drawFirstBy_91 : decode cX0_drawFirstBy 91 = .ok (.if_icmp .ne 11, 3) := by decide +kernel
theorem dX0_drawFirstBy_94 : decode cX0_drawFirstBy 94 = .ok (.aload_n 0, 1) := by decide +kernel
theorem dX0_drawFirstBy_95 : decode cX0_drawFirstBy 95 = .ok (.getfield 15, 3) := by decide +kernel
theorem dX0_drawFirstBy_98 : decode cX0_drawFirstBy 98 = .ok (.iload 9, 2) := by decide +kernel
theorem dX0_drawFirstBy_100 : decode cX0_drawFirstBy 100 = .ok (.iload_n 2, 1) := by decide +kernel
theorem dX0_drawFirstBy_101 : decode cX0_drawFirstBy 101 = .ok (.iastore, 1) := by decide +kernel
theorem dX0_drawFirstBy_102 : decode cX0_drawFirstBy 102 = .ok (.iinc 7 1, 3) := by decide +kernel
theorem dX0_drawFirstBy_105 : decode cX0_drawFirstBy 105 = .ok (.goto (-73), 3) := by decide +kernel
theorem dX0_drawFirstBy_108 : decode cX0_drawFirstBy 108 = .ok (.return_, 1) := by decide +kernel
theorem dX1_init_0 : decode cX1_init 0 = .ok (.aload_n 0, 1) := by decide +kernel
theorem dX1_init_1 : decode cX1_init 1 = .ok (.invokespecial 3, 3) := by decide +kernel
theorem dX1_init_4 : decode cX1_init 4 = .ok (.aload_n 0, 1) := by decide +kernel
theorem dX1_init_5 : decode cX1_init 5 = .ok (.bipush 64, 2) := by decide +kernel
theorem dX1_init_7 : decode cX1_init 7 = .ok (.newarray .long, 2) := by decide +kernel
theorem dX1_init_9 : decode cX1_init 9 = .ok (.putfield 11, 3) := by decide +kernel
theorem dX1_init_12 : decode cX1_init 12 = .ok (.aload_n 0, 1) := by decide +kernel
theorem dX1_init_13 : decode cX1_init 13 = .ok (.aload_n 1, 1) := by decide +kernel
theorem dX1_init_14 : decode cX1_init 14 = .ok (.putfield 15, 3) := by decide +kernel
theorem dX1_init_17 : decode cX1_init 17 = .ok (.aload_n 0, 1) := by decide +kernel
theorem dX1_init_18 : decode cX1_init 18 = .ok (.aload_n 2, 1) := by decide +kernel
theorem dX1_init_19 : decode cX1_init 19 = .ok (.putfield 19, 3) := by decide +kernel
theorem dX1_init_22 : decode cX1_init 22 = .ok (.aload_n 0, 1) := by decide +kernel
theorem dX1_init_23 : decode cX1_init 23 = .ok (.aload_n 3, 1) := by decide +kernel
theorem dX1_init_24 : decode cX1_init 24 = .ok (.putfield 23, 3) := by decide +kernel
theorem dX1_init_27 : decode cX1_init 27 = .ok (.return_, 1) := by decide +kernel
set_option maxRecDepth 20000 in
theorem ggX1_takeSteps_X1_takeStep : GoodIn wsX1_takeSteps wsX1_takeStep := goodIn_r _ [5, 6, 7, 8, 9, 10, 11, 12, 13, 14, 15, 16, 17, 18, 19, 20, 21, 22, 23, 24, 25, 4, 26, 27, 28, 29, 30, 31, 32, 33, 34, 35, 36, 37, 38, 39, 40, 41, 42, 43, 44, 45, 46, 47, 48, 49, 50, 51, 52, 53, 54, 55, 56, 57, 58, 59, 60, 61, 62, 63, 64, 65, 66, 67, 68, 69, 70, 71, 72, 73, 74, 75, 76, 77, 78, 79, 80, 81, 82, 83, 84, 85, 86, 87, 88, 89, 90, 91, 92, 93, 94, 95, 96, 97, 98, 99, 100, 101, 102, 103, 104, 105, 106, 107, 108, 109, 110, 111, 112, 113, 114, 115, 116, 117, 118, 119, 120, 121, 122, 123, 124, 125, 126, 127, 128, 129, 130, 131, 132, 133, 134, 135, 136, 137, 138, 139, 140, 141, 142, 143, 144, 145, 146, 147, 148, 149, 150, 151, 152, 153, 154, 155, 156, 157, 158, 159, 160, 161, 162, 163, 164, 165, 166, 167, 168, 169, 170, 171, 172, 173, 174, 175, 176, 177, 178, 179, 180, 181, 182, 183, 184, 185, 186, 187, 188, 189, 190, 191, 192, 193, 194, 195, 196, 197, 198, 199, 200, 201, 202, 203, 204, 205, 206, 207, 208, 209, 210, 211, 212, 213, 214, 215] (by decide +kernel) (by decide +kernel)
set_option maxRecDepth 20000 in
theorem gX1_takeSteps_X1_takeStep : GoodIn wsX1_takeSteps (wsV RX1 27 RX1 yX1_takeStep wsX1_takeStep) := goodIn_app (goodIn_of _ (by decide +kernel)) ggX1_takeSteps_X1_takeStep
theorem dX1_takeSteps_0 : decode cX1_takeSteps 0 = .ok (.iconst 0, 1) := by decide +kernel
theorem dX1_takeSteps_1 : decode cX1_takeSteps 1 = .ok (.istore_n 3, 1) := by decide +kernel
theorem dX1_takeSteps_2 : decode cX1_takeSteps 2 = .ok (.iload_n 3, 1) := by decide +kernel
theorem dX1_takeSteps_3 : decode cX1_takeSteps 3 = .ok (.iload_n 2, 1) := by decide +kernel
theorem dX1_takeSteps_4 : decode cX1_takeSteps 4 = .ok (.if_icmp .ge 20, 3) := by decide +kernel
theorem dX1_takeSteps_7 : decode cX1_takeSteps 7 = .ok (.aload_n 0, 1) := by decide +kernel
theorem dX1_takeSteps_8 : decode cX1_takeSteps 8 = .ok (.aload_n 1, 1) := by decide +kernel
theorem dX1_takeSteps_9 : decode cX1_takeSteps 9 = .ok (.invokevirtual 27, 3) := by decide +kernel
theorem dX1_takeSteps_12 : decode cX1_takeSteps 12 = .ok (.iconst 4, 1) := by decide +kernel
theorem dX1_takeSteps_13 : decode cX1_takeSteps 13 = .ok (.if_icmp .ne 5, 3) := by decide +kernel
theorem dX1_takeSteps_16 : decode cX1_takeSteps 16 = .ok (.iload_n 3, 1) := by decide +kernel
theorem dX1_takeSteps_17 : decode cX1_takeSteps 17 = .ok (.ireturn, 1) := by decide +kernel
theorem dX1_takeSteps_18 : decode cX1_takeSteps 18 = .ok (.iinc 3 1, 3) := by decide +kernel
theorem dX1_takeSteps_21 : decode cX1_takeSteps 21 = .ok (.goto (-19), 3) := by decide +kernel
theorem dX1_takeSteps_24 : decode cX1_takeSteps 24 = .ok (.iload_n 2, 1) := by decide +kernel
theorem dX1_takeSteps_25 : decode cX1_takeSteps 25 = .ok (.ireturn, 1) := by decide +kernel
set_option maxRecDepth 20000 in
theorem ggX1_takeStep_X9_isAtGoal : GoodIn wsX1_takeStep wsX9_isAtGoal := goodIn_r _ [15, 16, 17, 157, 158, 159, 160, 161, 162, 163, 164, 165] (by decide +kernel) (by decide +kernel)
set_option maxRecDepth 20000 in
theorem gX1_takeStep_X9_isAtGoal : GoodIn wsX1_takeStep (wsV RX1 31 RX9 yX9_isAtGoal wsX9_isAtGoal) := goodIn_app (goodIn_of _ (by decide +kernel)) ggX1_takeStep_X9_isAtGoal
set_option maxRecDepth 20000 in
theorem ggX1_takeStep_X1_lookAround : GoodIn wsX1_takeStep wsX1_lookAround := goodIn_r _ [22, 23, 24, 25, 26, 27, 5, 4, 28, 29, 30, 31, 32, 6, 33, 34, 35, 36, 37, 38, 14, 39, 40, 41, 42, 43, 44, 45, 46, 47, 48, 49, 50, 51, 52, 53, 54, 55, 56, 57, 58, 59, 60, 61, 62, 63, 21, 64, 9, 65, 66, 67, 68, 69, 70, 71, 72, 73, 74, 75, 76, 77, 78, 79, 80, 81, 82, 83, 84, 85, 86, 87, 88, 89, 90, 91, 92, 166, 167, 168, 169, 170, 171, 172, 173, 174, 175, 157, 158, 159, 160, 161, 162, 163, 164, 165, 182, 183, 184, 185, 186, 187, 188, 189, 190, 191, 192, 193, 194, 195, 196, 197, 198, 199, 200, 201, 202, 203, 204, 205, 206, 207, 208, 209, 210, 211] (by decide +kernel) (by decide +kernel)
set_option maxRecDepth 20000 in
theorem gX1_takeStep_X1_lookAround : GoodIn wsX1_takeStep (wsV RX1 47 RX1 yX1_lookAround wsX1_lookAround) := goodIn_app (goodIn_of _ (by decide +kernel)) ggX1_takeStep_X1_lookAround
set_option maxRecDepth 20000 in
theorem ggX1_takeStep_X1_chooseDeed : GoodIn wsX1_takeStep wsX1_chooseDeed := goodIn_r _ [96, 97, 98, 99, 100, 101, 102, 103, 104, 105, 106, 21, 107, 4, 6, 23, 36, 37, 38, 14, 39, 40, 41, 42, 43, 44, 45, 46, 108, 109, 110, 111, 112, 113, 114, 115, 116, 117, 118, 119, 120, 121, 122, 123, 124, 125, 126, 127, 128, 129, 130, 131, 9, 132, 133, 134, 26, 27, 32, 10, 8, 135, 136, 47, 137, 138, 139, 140, 141, 142, 143, 144, 145, 146, 147, 176, 177, 178, 179, 180, 181, 166, 167, 168, 169, 170, 171, 172, 173, 174, 175, 157, 158, 159, 160, 161, 162, 163, 164, 165] (by decide +kernel) (by decide +kernel)
set_option maxRecDepth 20000 in
theorem gX1_takeStep_X1_chooseDeed : GoodIn wsX1_takeStep (wsV RX1 51 RX1 yX1_chooseDeed wsX1_chooseDeed) := goodIn_app (goodIn_of _ (by decide +kernel)) ggX1_takeStep_X1_chooseDeed
set_option maxRecDepth 20000 in
theorem ggX1_takeStep_X1_follow : GoodIn wsX1_takeStep wsX1_follow := goodIn_r _ [151, 33, 34, 26, 135, 9, 152, 65, 66, 67, 68, 69, 70, 153, 154, 155, 156, 166, 167, 168, 169, 170, 171, 172, 173, 174, 175, 182, 183, 184, 185, 186, 187, 188, 189, 190, 191, 192, 193, 194, 195, 157, 158, 159, 160, 161, 162, 163, 164, 165, 196, 197, 198, 199, 200, 201, 202, 203, 204, 205, 206, 207] (by decide +kernel) (by decide +kernel)
set_option maxRecDepth 20000 in
theorem gX1_takeStep_X1_follow : GoodIn wsX1_takeStep (wsV RX1 61 RX1 yX1_follow wsX1_follow) := goodIn_app (goodIn_of _ (by decide +kernel)) ggX1_takeStep_X1_follow
set_option maxRecDepth 20000 in
theorem ggX1_takeStep_X9_dayNow : GoodIn wsX1_takeStep wsX9_dayNow := goodIn_r _ [44, 45, 46, 157, 158, 159, 160, 161, 162, 163, 164, 165] (by decide +kernel) (by decide +kernel)
set_option maxRecDepth 20000 in
theorem gX1_takeStep_X9_dayNow : GoodIn wsX1_takeStep (wsV RX1 68 RX9 yX9_dayNow wsX9_dayNow) := goodIn_app (goodIn_of _ (by decide +kernel)) ggX1_takeStep_X9_dayNow
theorem dX1_takeStep_0 : decode cX1_takeStep 0 = .ok (.aload_n 1, 1) := by decide +kernel
theorem dX1_takeStep_1 : decode cX1_takeStep 1 = .ok (.invokevirtual 31, 3) := by decide +kernel
theorem dX1_takeStep_4 : decode cX1_takeStep 4 = .ok (.ifCond .eq 5, 3) := by decide +kernel
theorem dX1_takeStep_7 : decode cX1_takeStep 7 = .ok (.iconst 4, 1) := by decide +kernel
theorem dX1_takeStep_8 : decode cX1_takeStep 8 = .ok (.ireturn, 1) := by decide +kernel
theorem dX1_takeStep_9 : decode cX1_takeStep 9 = .ok (.aload_n 1, 1) := by decide +kernel
theorem dX1_takeStep_10 : decode cX1_takeStep 10 = .ok (.getfield 37, 3) := by decide +kernel
theorem dX1_takeStep_13 : decode cX1_takeStep 13 = .ok (.ifCond .lt 27, 3) := by decide +kernel
theorem dX1_takeStep_16 : decode cX1_takeStep 16 = .ok (.aload_n 1, 1) := by decide +kernel
theorem dX1_takeStep_17 : decode cX1_takeStep 17 = .ok (.getfield 37, 3) := by decide +kernel
theorem dX1_takeStep_20 : decode cX1_takeStep 20 = .ok (.aload_n 0, 1) := by decide +kernel
theorem dX1_takeStep_21 : decode cX1_takeStep 21 = .ok (.getfield 23, 3) := by decide +kernel
theorem dX1_takeStep_24 : decode cX1_takeStep 24 = .ok (.arraylength, 1) := by decide +kernel
theorem dX1_takeStep_25 : decode cX1_takeStep 25 = .ok (.if_icmp .ge 15, 3) := by decide +kernel
theorem dX1_takeStep_28 : decode cX1_takeStep 28 = .ok (.aload_n 0, 1) := by decide +kernel
theorem dX1_takeStep_29 : decode cX1_takeStep 29 = .ok (.getfield 23, 3) := by decide +kernel
theorem dX1_takeStep_32 : decode cX1_takeStep 32 = .ok (.aload_n 1, 1) := by decide +kernel
theorem dX1_takeStep_33 : decode cX1_takeStep 33 = .ok (.getfield 37, 3) := by decide +kernel
theorem dX1_takeStep_36 : decode cX1_takeStep 36 = .ok (.aaload, 1) := by decide +kernel
theorem dX1_takeStep_37 : decode cX1_takeStep 37 = .ok (.goto 4, 3) := by decide +kernel
theorem dX1_takeStep_40 : decode cX1_takeStep 40 = .ok (.aconst_null, 1) := by decide +kernel
theorem dX1_takeStep_41 : decode cX1_takeStep 41 = .ok (.astore_n 2, 1) := by decide +kernel
theorem dX1_takeStep_42 : decode cX1_takeStep 42 = .ok (.aload_n 0, 1) := by decide +kernel
theorem dX1_takeStep_43 : decode cX1_takeStep 43 = .ok (.aload_n 1, 1) := by decide +kernel
theorem dX1_takeStep_44 : decode cX1_takeStep 44 = .ok (.aload_n 2, 1) := by decide +kernel
theorem dX1_takeStep_45 : decode cX1_takeStep 45 = .ok (.ifnull 14, 3) := by decide +kernel
theorem dX1_takeStep_48 : decode cX1_takeStep 48 = .ok (.aload_n 2, 1) := by decide +kernel
theorem dX1_takeStep_49 : decode cX1_takeStep 49 = .ok (.getfield 41, 3) := by decide +kernel
theorem dX1_takeStep_52 : decode cX1_takeStep 52 = .ok (.ifCond .eq 7, 3) := by decide +kernel
theorem dX1_takeStep_55 : decode cX1_takeStep 55 = .ok (.iconst 1, 1) := by decide +kernel
theorem dX1_takeStep_56 : decode cX1_takeStep 56 = .ok (.goto 4, 3) := by decide +kernel
theorem dX1_takeStep_59 : decode cX1_takeStep 59 = .ok (.iconst 0, 1) := by decide +kernel
theorem dX1_takeStep_60 : decode cX1_takeStep 60 = .ok (.invokevirtual 47, 3) := by decide +kernel
theorem dX1_takeStep_63 : decode cX1_takeStep 63 = .ok (.aload_n 2, 1) := by decide +kernel
theorem dX1_takeStep_64 : decode cX1_takeStep 64 = .ok (.ifnull 12, 3) := by decide +kernel
theorem dX1_takeStep_67 : decode cX1_takeStep 67 = .ok (.aload_n 0, 1) := by decide +kernel
theorem dX1_takeStep_68 : decode cX1_takeStep 68 = .ok (.aload_n 1, 1) := by decide +kernel
theorem dX1_takeStep_69 : decode cX1_takeStep 69 = .ok (.aload_n 2, 1) := by decide +kernel
theorem dX1_takeStep_70 : decode cX1_takeStep 70 = .ok (.invokevirtual 51, 3) := by decide +kernel
theorem dX1_takeStep_73 : decode cX1_takeStep 73 = .ok (.goto 15, 3) := by decide +kernel
theorem dX1_takeStep_76 : decode cX1_takeStep 76 = .ok (.aload_n 0, 1) := by decide +kernel
theorem dX1_takeStep_77 : decode cX1_takeStep 77 = .ok (.getfield 55, 3) := by decide +kernel
theorem dX1_takeStep_80 : decode cX1_takeStep 80 = .ok (.ifCond .eq 7, 3) := by decide +kernel
theorem dX1_takeStep_83 : decode cX1_takeStep 83 = .ok (.iconst 0, 1) := by decide +kernel
theorem dX1_takeStep_84 : decode cX1_takeStep 84 = .ok (.goto 4, 3) := by decide +kernel
theorem dX1_takeStep_87 : decode cX1_takeStep 87 = .ok (.iconst 3, 1) := by decide +kernel
theorem dX1_takeStep_88 : decode cX1_takeStep 88 = .ok (.istore_n 3, 1) := by decide +kernel
theorem dX1_takeStep_89 : decode cX1_takeStep 89 = .ok (.iload_n 3, 1) := by decide +kernel
theorem dX1_takeStep_90 : decode cX1_takeStep 90 = .ok (.ifCond .ne 15, 3) := by decide +kernel
theorem dX1_takeStep_93 : decode cX1_takeStep 93 = .ok (.aload_n 0, 1) := by decide +kernel
theorem dX1_takeStep_94 : decode cX1_takeStep 94 = .ok (.aload_n 1, 1) := by decide +kernel
theorem dX1_takeStep_95 : decode cX1_takeStep 95 = .ok (.aload_n 0, 1) := by decide +kernel
theorem dX1_takeStep_96 : decode cX1_takeStep 96 = .ok (.getfield 58, 3) := by decide +kernel
theorem dX1_takeStep_99 : decode cX1_takeStep 99 = .ok (.invokevirtual 61, 3) := by decide +kernel
theorem dX1_takeStep_102 : decode cX1_takeStep 102 = .ok (.goto 53, 3) := by decide +kernel
theorem dX1_takeStep_105 : decode cX1_takeStep 105 = .ok (.iload_n 3, 1) := by decide +kernel
theorem dX1_takeStep_106 : decode cX1_takeStep 106 = .ok (.iconst 1, 1) := by decide +kernel
theorem dX1_takeStep_107 : decode cX1_takeStep 107 = .ok (.if_icmp .ne 15, 3) := by decide +kernel
theorem dX1_takeStep_110 : decode cX1_takeStep 110 = .ok (.aload_n 0, 1) := by decide +kernel
theorem dX1_takeStep_111 : decode cX1_takeStep 111 = .ok (.aload_n 1, 1) := by decide +kernel
theorem dX1_takeStep_112 : decode cX1_takeStep 112 = .ok (.aload_n 0, 1) := by decide +kernel
theorem dX1_takeStep_113 : decode cX1_takeStep 113 = .ok (.getfield 65, 3) := by decide +kernel
theorem dX1_takeStep_116 : decode cX1_takeStep 116 = .ok (.invokevirtual 61, 3) := by decide +kernel
theorem dX1_takeStep_119 : decode cX1_takeStep 119 = .ok (.goto 36, 3) := by decide +kernel
theorem dX1_takeStep_122 : decode cX1_takeStep 122 = .ok (.iload_n 3, 1) := by decide +kernel
theorem dX1_takeStep_123 : decode cX1_takeStep 123 = .ok (.iconst 2, 1) := by decide +kernel
theorem dX1_takeStep_124 : decode cX1_takeStep 124 = .ok (.if_icmp .ne 21, 3) := by decide +kernel
theorem dX1_takeStep_127 : decode cX1_takeStep 127 = .ok (.aload_n 1, 1) := by decide +kernel
theorem dX1_takeStep_128 : decode cX1_takeStep 128 = .ok (.aload_n 1, 1) := by decide +kernel
theorem dX1_takeStep_129 : decode cX1_takeStep 129 = .ok (.invokevirtual 68, 3) := by decide +kernel
theorem dX1_takeStep_132 : decode cX1_takeStep 132 = .ok (.putfield 72, 3) := by decide +kernel
theorem dX1_takeStep_135 : decode cX1_takeStep 135 = .ok (.aload_n 1, 1) := by decide +kernel
theorem dX1_takeStep_136 : decode cX1_takeStep 136 = .ok (.dup, 1) := by decide +kernel
theorem dX1_takeStep_137 : decode cX1_takeStep 137 = .ok (.getfield 76, 3) := by decide +kernel
theorem dX1_takeStep_140 : decode cX1_takeStep 140 = .ok (.iconst 1, 1) := by decide +kernel
theorem dX1_takeStep_141 : decode cX1_takeStep 141 = .ok (.iadd, 1) := by decide +kernel
theorem dX1_takeStep_142 : decode cX1_takeStep 142 = .ok (.putfield 76, 3) := by decide +kernel
theorem dX1_takeStep_145 : decode cX1_takeStep 145 = .ok (.aload_n 1, 1) := by decide +kernel
theorem dX1_takeStep_146 : decode cX1_takeStep 146 = .ok (.dup, 1) := by decide +kernel
theorem dX1_takeStep_147 : decode cX1_takeStep 147 = .ok (.getfield 79, 3) := by decide +kernel
theorem dX1_takeStep_150 : decode cX1_takeStep 150 = .ok (.lconst 1, 1) := by decide +kernel
theorem dX1_takeStep_151 : decode cX1_takeStep 151 = .ok (.ladd, 1) := by decide +kernel
theorem dX1_takeStep_152 : decode cX1_takeStep 152 = .ok (.putfield 79, 3) := by decide +kernel
theorem dX1_takeStep_155 : decode cX1_takeStep 155 = .ok (.aload_n 1, 1) := by decide +kernel
theorem dX1_takeStep_156 : decode cX1_takeStep 156 = .ok (.dup, 1) := by decide +kernel
theorem dX1_takeStep_157 : decode cX1_takeStep 157 = .ok (.getfield 82, 3) := by decide +kernel
theorem dX1_takeStep_160 : decode cX1_takeStep 160 = .ok (.iconst 1, 1) := by decide +kernel
theorem dX1_takeStep_161 : decode cX1_takeStep 161 = .ok (.iadd, 1) := by decide +kernel
theorem dX1_takeStep_162 : decode cX1_takeStep 162 = .ok (.putfield 82, 3) := by decide +kernel
theorem dX1_takeStep_165 : decode cX1_takeStep 165 = .ok (.iload_n 3, 1) := by decide +kernel
theorem dX1_takeStep_166 : decode cX1_takeStep 166 = .ok (.ireturn, 1) := by decide +kernel
set_option maxRecDepth 20000 in
theorem ggX1_lookAround_X9_askedToday : GoodIn wsX1_lookAround wsX9_askedToday := goodIn_r _ [21, 22, 23, 24, 25, 20, 26, 27, 28, 87, 88, 89, 90, 91, 92, 93, 94, 95] (by decide +kernel) (by decide +kernel)
set_option maxRecDepth 20000 in
theorem gX1_lookAround_X9_askedToday : GoodIn wsX1_lookAround (wsV RX1 85 RX9 yX9_askedToday wsX9_askedToday) := goodIn_app (goodIn_of _ (by decide +kernel)) ggX1_lookAround_X9_askedToday
set_option maxRecDepth 20000 in
theorem ggX1_lookAround_X9_dayNow : GoodIn wsX1_lookAround wsX9_dayNow := goodIn_r _ [26, 27, 28, 87, 88, 89, 90, 91, 92, 93, 94, 95] (by decide +kernel) (by decide +kernel)
set_option maxRecDepth 20000 in
theorem gX1_lookAround_X9_dayNow : GoodIn wsX1_lookAround (wsV RX1 68 RX9 yX9_dayNow wsX9_dayNow) := goodIn_app (goodIn_of _ (by decide +kernel)) ggX1_lookAround_X9_dayNow
set_option maxRecDepth 20000 in
theorem ggX1_lookAround_X0_ofWeekday : GoodIn wsX1_lookAround wsX0_ofWeekday := goodIn_r _ [33, 34] (by decide +kernel) (by decide +kernel)
set_option maxRecDepth 20000 in
theorem gX1_lookAround_X0_ofWeekday : GoodIn wsX1_lookAround (va_wsS RX1 91 yX0_ofWeekday wsX0_ofWeekday) := goodIn_app (goodIn_of _ (by decide +kernel)) ggX1_lookAround_X0_ofWeekday
set_option maxRecDepth 20000 in
theorem ggX1_lookAround_X0_streetBy : GoodIn wsX1_lookAround wsX0_streetBy := goodIn_r _ [38, 39, 40, 41, 32, 42, 122, 123, 124, 125] (by decide +kernel) (by decide +kernel)
set_option maxRecDepth 20000 in
theorem gX1_lookAround_X0_streetBy : GoodIn wsX1_lookAround (wsV RX1 106 RX0 yX0_streetBy wsX0_streetBy) := goodIn_app (goodIn_of _ (by decide +kernel)) ggX1_lookAround_X0_streetBy
set_option maxRecDepth 20000 in
theorem ggX1_lookAround_X1_isOpenFor : GoodIn wsX1_lookAround wsX1_isOpenFor := goodIn_r _ [47, 14, 15, 4, 48, 1, 49, 50, 51, 52, 53, 54, 55, 56, 57, 58, 59, 60, 61, 62, 63, 64, 65, 66, 67, 68, 69, 70, 77, 78, 79, 80, 81, 82, 83, 84, 85, 86, 96, 97, 98, 99, 100, 101, 102, 103, 104, 105, 106, 107, 108, 109, 87, 88, 89, 90, 91, 92, 93, 94, 95, 110, 111, 112, 113, 114, 115, 116, 117, 118, 119, 120, 121] (by decide +kernel) (by decide +kernel)
set_option maxRecDepth 20000 in
theorem gX1_lookAround_X1_isOpenFor : GoodIn wsX1_lookAround (wsV RX1 110 RX1 yX1_isOpenFor wsX1_isOpenFor) := goodIn_app (goodIn_of _ (by decide +kernel)) ggX1_lookAround_X1_isOpenFor
set_option maxRecDepth 20000 in
theorem ggX1_lookAround_X0_hoursBy : GoodIn wsX1_lookAround wsX0_hoursBy := goodIn_r _ [74, 75, 76, 40, 41, 32, 42, 122, 123, 124, 125] (by decide +kernel) (by decide +kernel)
set_option maxRecDepth 20000 in
theorem gX1_lookAround_X0_hoursBy : GoodIn wsX1_lookAround (wsV RX1 114 RX0 yX0_hoursBy wsX0_hoursBy) := goodIn_app (goodIn_of _ (by decide +kernel)) ggX1_lookAround_X0_hoursBy
theorem dX1_lookAround_0 : decode cX1_lookAround 0 = .ok (.aload_n 1, 1) := by decide +kernel
theorem dX1_lookAround_1 : decode cX1_lookAround 1 = .ok (.invokevirtual 85, 3) := by decide +kernel
theorem dX1_lookAround_4 : decode cX1_lookAround 4 = .ok (.ifCond .eq 20, 3) := by decide +kernel
theorem dX1_lookAround_7 : decode cX1_lookAround 7 = .ok (.aload_n 0, 1) := by decide +kernel
theorem dX1_lookAround_8 : decode cX1_lookAround 8 = .ok (.getfield 88, 3) := by decide +kernel
theorem dX1_lookAround_11 : decode cX1_lookAround 11 = .ok (.ifCond .ne 13, 3) := by decide +kernel
theorem dX1_lookAround_14 : decode cX1_lookAround 14 = .ok (.aload_n 1, 1) := by decide +kernel
theorem dX1_lookAround_15 : decode cX1_lookAround 15 = .ok (.invokevirtual 68, 3) := by decide +kernel
theorem dX1_lookAround_18 : decode cX1_lookAround 18 = .ok (.invokestatic 91, 3) := by decide +kernel
theorem dX1_lookAround_21 : decode cX1_lookAround 21 = .ok (.goto 7, 3) := by decide +kernel
theorem dX1_lookAround_24 : decode cX1_lookAround 24 = .ok (.aload_n 1, 1) := by decide +kernel
theorem dX1_lookAround_25 : decode cX1_lookAround 25 = .ok (.getfield 97, 3) := by decide +kernel
theorem dX1_lookAround_28 : decode cX1_lookAround 28 = .ok (.istore_n 3, 1) := by decide +kernel
theorem dX1_lookAround_29 : decode cX1_lookAround 29 = .ok (.aload_n 0, 1) := by decide +kernel
theorem dX1_lookAround_30 : decode cX1_lookAround 30 = .ok (.aload_n 0, 1) := by decide +kernel
theorem dX1_lookAround_31 : decode cX1_lookAround 31 = .ok (.getfield 19, 3) := by decide +kernel
theorem dX1_lookAround_34 : decode cX1_lookAround 34 = .ok (.iload_n 3, 1) := by decide +kernel
theorem dX1_lookAround_35 : decode cX1_lookAround 35 = .ok (.aload_n 1, 1) := by decide +kernel
theorem dX1_lookAround_36 : decode cX1_lookAround 36 = .ok (.getfield 100, 3) := by decide +kernel
theorem dX1_lookAround_39 : decode cX1_lookAround 39 = .ok (.aload_n 1, 1) := by decide +kernel
theorem dX1_lookAround_40 : decode cX1_lookAround 40 = .ok (.getfield 103, 3) := by decide +kernel
theorem dX1_lookAround_43 : decode cX1_lookAround 43 = .ok (.invokevirtual 106, 3) := by decide +kernel
theorem dX1_lookAround_46 : decode cX1_lookAround 46 = .ok (.putfield 58, 3) := by decide +kernel
theorem dX1_lookAround_49 : decode cX1_lookAround 49 = .ok (.aload_n 0, 1) := by decide +kernel
theorem dX1_lookAround_50 : decode cX1_lookAround 50 = .ok (.aload_n 0, 1) := by decide +kernel
theorem dX1_lookAround_51 : decode cX1_lookAround 51 = .ok (.getfield 58, 3) := by decide +kernel
theorem dX1_lookAround_54 : decode cX1_lookAround 54 = .ok (.iconst (-1), 1) := by decide +kernel
theorem dX1_lookAround_55 : decode cX1_lookAround 55 = .ok (.if_icmp .eq 19, 3) := by decide +kernel
theorem dX1_lookAround_58 : decode cX1_lookAround 58 = .ok (.aload_n 0, 1) := by decide +kernel
theorem dX1_lookAround_59 : decode cX1_lookAround 59 = .ok (.aload_n 1, 1) := by decide +kernel
theorem dX1_lookAround_60 : decode cX1_lookAround 60 = .ok (.aload_n 0, 1) := by decide +kernel
theorem dX1_lookAround_61 : decode cX1_lookAround 61 = .ok (.getfield 58, 3) := by decide +kernel
theorem dX1_lookAround_64 : decode cX1_lookAround 64 = .ok (.invokevirtual 110, 3) := by decide +kernel
theorem dX1_lookAround_67 : decode cX1_lookAround 67 = .ok (.ifCond .eq 7, 3) := by decide +kernel
theorem dX1_lookAround_70 : decode cX1_lookAround 70 = .ok (.iconst 1, 1) := by decide +kernel
theorem dX1_lookAround_71 : decode cX1_lookAround 71 = .ok (.goto 4, 3) := by decide +kernel
theorem dX1_lookAround_74 : decode cX1_lookAround 74 = .ok (.iconst 0, 1) := by decide +kernel
theorem dX1_lookAround_75 : decode cX1_lookAround 75 = .ok (.putfield 55, 3) := by decide +kernel
theorem dX1_lookAround_78 : decode cX1_lookAround 78 = .ok (.aload_n 0, 1) := by decide +kernel
theorem dX1_lookAround_79 : decode cX1_lookAround 79 = .ok (.iconst 0, 1) := by decide +kernel
theorem dX1_lookAround_80 : decode cX1_lookAround 80 = .ok (.aload_n 0, 1) := by decide +kernel
theorem dX1_lookAround_81 : decode cX1_lookAround 81 = .ok (.getfield 19, 3) := by decide +kernel
theorem dX1_lookAround_84 : decode cX1_lookAround 84 = .ok (.iload_n 3, 1) := by decide +kernel
theorem dX1_lookAround_85 : decode cX1_lookAround 85 = .ok (.aload_n 1, 1) := by decide +kernel
theorem dX1_lookAround_86 : decode cX1_lookAround 86 = .ok (.getfield 100, 3) := by decide +kernel
theorem dX1_lookAround_89 : decode cX1_lookAround 89 = .ok (.aload_n 1, 1) := by decide +kernel
theorem dX1_lookAround_90 : decode cX1_lookAround 90 = .ok (.getfield 103, 3) := by decide +kernel
theorem dX1_lookAround_93 : decode cX1_lookAround 93 = .ok (.invokevirtual 114, 3) := by decide +kernel
theorem dX1_lookAround_96 : decode cX1_lookAround 96 = .ok (.invokestatic 117, 3) := by decide +kernel
theorem dX1_lookAround_99 : decode cX1_lookAround 99 = .ok (.putfield 123, 3) := by decide +kernel
theorem dX1_lookAround_102 : decode cX1_lookAround 102 = .ok (.aload_n 0, 1) := by decide +kernel
theorem dX1_lookAround_103 : decode cX1_lookAround 103 = .ok (.iconst (-1), 1) := by decide +kernel
theorem dX1_lookAround_104 : decode cX1_lookAround 104 = .ok (.putfield 65, 3) := by decide +kernel
theorem dX1_lookAround_107 : decode cX1_lookAround 107 = .ok (.iconst 0, 1) := by decide +kernel
theorem dX1_lookAround_108 : decode cX1_lookAround 108 = .ok (.istore 4, 2) := by decide +kernel
theorem dX1_lookAround_110 : decode cX1_lookAround 110 = .ok (.iload_n 2, 1) := by decide +kernel
theorem dX1_lookAround_111 : decode cX1_lookAround 111 = .ok (.ifCond .eq 48, 3) := by decide +kernel
theorem dX1_lookAround_114 : decode cX1_lookAround 114 = .ok (.aload_n 0, 1) := by decide +kernel
theorem dX1_lookAround_115 : decode cX1_lookAround 115 = .ok (.getfield 65, 3) := by decide +kernel
theorem dX1_lookAround_118 : decode cX1_lookAround 118 = .ok (.iconst (-1), 1) := by decide +kernel
theorem dX1_lookAround_119 : decode cX1_lookAround 119 = .ok (.if_icmp .ne 40, 3) := by decide +kernel
theorem dX1_lookAround_122 : decode cX1_lookAround 122 = .ok (.iload 4, 2) := by decide +kernel
theorem dX1_lookAround_124 : decode cX1_lookAround 124 = .ok (.aload_n 0, 1) := by decide +kernel
theorem dX1_lookAround_125 : decode cX1_lookAround 125 = .ok (.getfield 15, 3) := by decide +kernel
theorem dX1_lookAround_128 : decode cX1_lookAround 128 = .ok (.getfield 126, 3) := by decide +kernel
theorem dX1_lookAround_131 : decode cX1_lookAround 131 = .ok (.getfield 132, 3) := by decide +kernel
theorem dX1_lookAround_134 : decode cX1_lookAround 134 = .ok (.if_icmp .ge 25, 3) := by decide +kernel
theorem dX1_lookAround_137 : decode cX1_lookAround 137 = .ok (.aload_n 0, 1) := by decide +kernel
theorem dX1_lookAround_138 : decode cX1_lookAround 138 = .ok (.aload_n 1, 1) := by decide +kernel
theorem dX1_lookAround_139 : decode cX1_lookAround 139 = .ok (.iload 4, 2) := by decide +kernel
theorem dX1_lookAround_141 : decode cX1_lookAround 141 = .ok (.invokevirtual 110, 3) := by decide +kernel
theorem dX1_lookAround_144 : decode cX1_lookAround 144 = .ok (.ifCond .eq 9, 3) := by decide +kernel
theorem dX1_lookAround_147 : decode cX1_lookAround 147 = .ok (.aload_n 0, 1) := by decide +kernel
theorem dX1_lookAround_148 : decode cX1_lookAround 148 = .ok (.iload 4, 2) := by decide +kernel
theorem dX1_lookAround_150 : decode cX1_lookAround 150 = .ok (.putfield 65, 3) := by decide +kernel
theorem dX1_lookAround_153 : decode cX1_lookAround 153 = .ok (.iinc 4 1, 3) := by decide +kernel
theorem dX1_lookAround_156 : decode cX1_lookAround 156 = .ok (.goto (-46), 3) := by decide +kernel
theorem dX1_lookAround_159 : decode cX1_lookAround 159 = .ok (.return_, 1) := by decide +kernel
set_option maxRecDepth 20000 in
theorem ggX1_isOpenFor_X7_sideOf : GoodIn wsX1_isOpenFor wsX7_sideOf := goodIn_r _ [10, 11, 61, 62, 63, 64, 65, 66, 67, 68, 69, 70, 71, 72] (by decide +kernel) (by decide +kernel)
set_option maxRecDepth 20000 in
theorem gX1_isOpenFor_X7_sideOf : GoodIn wsX1_isOpenFor (wsV RX1 137 RX7 yX7_sideOf wsX7_sideOf) := goodIn_app (goodIn_of _ (by decide +kernel)) ggX1_isOpenFor_X7_sideOf
set_option maxRecDepth 20000 in
theorem ggX1_isOpenFor_X7_isOpen : GoodIn wsX1_isOpenFor wsX7_isOpen := goodIn_r _ [15, 16, 17, 18, 19, 9, 20, 21, 22, 23, 24, 25, 26, 27, 61, 62, 63, 64, 65, 66, 67, 68, 69, 70, 71, 72] (by decide +kernel) (by decide +kernel)
set_option maxRecDepth 20000 in
theorem gX1_isOpenFor_X7_isOpen : GoodIn wsX1_isOpenFor (wsV RX1 140 RX7 yX7_isOpen wsX7_isOpen) := goodIn_app (goodIn_of _ (by decide +kernel)) ggX1_isOpenFor_X7_isOpen
theorem dX1_isOpenFor_0 : decode cX1_isOpenFor 0 = .ok (.aload_n 0, 1) := by decide +kernel
theorem dX1_isOpenFor_1 : decode cX1_isOpenFor 1 = .ok (.getfield 15, 3) := by decide +kernel
theorem dX1_isOpenFor_4 : decode cX1_isOpenFor 4 = .ok (.getfield 126, 3) := by decide +kernel
theorem dX1_isOpenFor_7 : decode cX1_isOpenFor 7 = .ok (.iload_n 2, 1) := by decide +kernel
theorem dX1_isOpenFor_8 : decode cX1_isOpenFor 8 = .ok (.aload_n 1, 1) := by decide +kernel
theorem dX1_isOpenFor_9 : decode cX1_isOpenFor 9 = .ok (.getfield 100, 3) := by decide +kernel
theorem dX1_isOpenFor_12 : decode cX1_isOpenFor 12 = .ok (.invokevirtual 137, 3) := by decide +kernel
theorem dX1_isOpenFor_15 : decode cX1_isOpenFor 15 = .ok (.istore_n 3, 1) := by decide +kernel
theorem dX1_isOpenFor_16 : decode cX1_isOpenFor 16 = .ok (.iload_n 3, 1) := by decide +kernel
theorem dX1_isOpenFor_17 : decode cX1_isOpenFor 17 = .ok (.iconst (-1), 1) := by decide +kernel
theorem dX1_isOpenFor_18 : decode cX1_isOpenFor 18 = .ok (.if_icmp .eq 38, 3) := by decide +kernel
theorem dX1_isOpenFor_21 : decode cX1_isOpenFor 21 = .ok (.aload_n 0, 1) := by decide +kernel
theorem dX1_isOpenFor_22 : decode cX1_isOpenFor 22 = .ok (.getfield 15, 3) := by decide +kernel
theorem dX1_isOpenFor_25 : decode cX1_isOpenFor 25 = .ok (.getfield 126, 3) := by decide +kernel
theorem dX1_isOpenFor_28 : decode cX1_isOpenFor 28 = .ok (.iload_n 2, 1) := by decide +kernel
theorem dX1_isOpenFor_29 : decode cX1_isOpenFor 29 = .ok (.iload_n 3, 1) := by decide +kernel
theorem dX1_isOpenFor_30 : decode cX1_isOpenFor 30 = .ok (.aload_n 1, 1) := by decide +kernel
theorem dX1_isOpenFor_31 : decode cX1_isOpenFor 31 = .ok (.getfield 79, 3) := by decide +kernel
theorem dX1_isOpenFor_34 : decode cX1_isOpenFor 34 = .ok (.aload_n 0, 1) := by decide +kernel
theorem dX1_isOpenFor_35 : decode cX1_isOpenFor 35 = .ok (.getfield 88, 3) := by decide +kernel
theorem dX1_isOpenFor_38 : decode cX1_isOpenFor 38 = .ok (.ifCond .ne 7, 3) := by decide +kernel
theorem dX1_isOpenFor_41 : decode cX1_isOpenFor 41 = .ok (.iconst 1, 1) := by decide +kernel
theorem dX1_isOpenFor_42 : decode cX1_isOpenFor 42 = .ok (.goto 4, 3) := by decide +kernel
theorem dX1_isOpenFor_45 : decode cX1_isOpenFor 45 = .ok (.iconst 0, 1) := by decide +kernel
theorem dX1_isOpenFor_46 : decode cX1_isOpenFor 46 = .ok (.invokevirtual 140, 3) := by decide +kernel
theorem dX1_isOpenFor_49 : decode cX1_isOpenFor 49 = .ok (.ifCond .eq 7, 3) := by decide +kernel
theorem dX1_isOpenFor_52 : decode cX1_isOpenFor 52 = .ok (.iconst 1, 1) := by decide +kernel
theorem dX1_isOpenFor_53 : decode cX1_isOpenFor 53 = .ok (.goto 4, 3) := by decide +kernel
theorem dX1_isOpenFor_56 : decode cX1_isOpenFor 56 = .ok (.iconst 0, 1) := by decide +kernel
theorem dX1_isOpenFor_57 : decode cX1_isOpenFor 57 = .ok (.ireturn, 1) := by decide +kernel
set_option maxRecDepth 20000 in
theorem ggX1_follow_X7_sideOf : GoodIn wsX1_follow wsX7_sideOf := goodIn_r _ [11, 12, 50, 51, 52, 53, 54, 55, 56, 57, 58, 59, 60, 61] (by decide +kernel) (by decide +kernel)
set_option maxRecDepth 20000 in
theorem gX1_follow_X7_sideOf : GoodIn wsX1_follow (wsV RX1 137 RX7 yX7_sideOf wsX7_sideOf) := goodIn_app (goodIn_of _ (by decide +kernel)) ggX1_follow_X7_sideOf
set_option maxRecDepth 20000 in
theorem ggX1_follow_X7_cornerAcross : GoodIn wsX1_follow wsX7_cornerAcross := goodIn_r _ [16, 12, 50, 51, 52, 53, 54, 55, 56, 57, 58, 59, 60, 61] (by decide +kernel) (by decide +kernel)
set_option maxRecDepth 20000 in
theorem gX1_follow_X7_cornerAcross : GoodIn wsX1_follow (wsV RX1 147 RX7 yX7_cornerAcross wsX7_cornerAcross) := goodIn_app (goodIn_of _ (by decide +kernel)) ggX1_follow_X7_cornerAcross
theorem dX1_follow_0 : decode cX1_follow 0 = .ok (.iload_n 2, 1) := by decide +kernel
theorem dX1_follow_1 : decode cX1_follow 1 = .ok (.iconst (-1), 1) := by decide +kernel
theorem dX1_follow_2 : decode cX1_follow 2 = .ok (.if_icmp .ne 4, 3) := by decide +kernel
theorem dX1_follow_5 : decode cX1_follow 5 = .ok (.return_, 1) := by decide +kernel
theorem dX1_follow_6 : decode cX1_follow 6 = .ok (.aload_n 0, 1) := by decide +kernel
theorem dX1_follow_7 : decode cX1_follow 7 = .ok (.getfield 15, 3) := by decide +kernel
theorem dX1_follow_10 : decode cX1_follow 10 = .ok (.getfield 126, 3) := by decide +kernel
theorem dX1_follow_13 : decode cX1_follow 13 = .ok (.iload_n 2, 1) := by decide +kernel
theorem dX1_follow_14 : decode cX1_follow 14 = .ok (.aload_n 1, 1) := by decide +kernel
theorem dX1_follow_15 : decode cX1_follow 15 = .ok (.getfield 100, 3) := by decide +kernel
theorem dX1_follow_18 : decode cX1_follow 18 = .ok (.invokevirtual 137, 3) := by decide +kernel
theorem dX1_follow_21 : decode cX1_follow 21 = .ok (.istore_n 3, 1) := by decide +kernel
theorem dX1_follow_22 : decode cX1_follow 22 = .ok (.iload_n 3, 1) := by decide +kernel
theorem dX1_follow_23 : decode cX1_follow 23 = .ok (.iconst (-1), 1) := by decide +kernel
theorem dX1_follow_24 : decode cX1_follow 24 = .ok (.if_icmp .ne 4, 3) := by decide +kernel
theorem dX1_follow_27 : decode cX1_follow 27 = .ok (.return_, 1) := by decide +kernel
theorem dX1_follow_28 : decode cX1_follow 28 = .ok (.aload_n 1, 1) := by decide +kernel
theorem dX1_follow_29 : decode cX1_follow 29 = .ok (.aload_n 1, 1) := by decide +kernel
theorem dX1_follow_30 : decode cX1_follow 30 = .ok (.getfield 100, 3) := by decide +kernel
theorem dX1_follow_33 : decode cX1_follow 33 = .ok (.putfield 144, 3) := by decide +kernel
theorem dX1_follow_36 : decode cX1_follow 36 = .ok (.aload_n 1, 1) := by decide +kernel
theorem dX1_follow_37 : decode cX1_follow 37 = .ok (.aload_n 0, 1) := by decide +kernel
theorem dX1_follow_38 : decode cX1_follow 38 = .ok (.getfield 15, 3) := by decide +kernel
theorem dX1_follow_41 : decode cX1_follow 41 = .ok (.getfield 126, 3) := by decide +kernel
theorem dX1_follow_44 : decode cX1_follow 44 = .ok (.iload_n 2, 1) := by decide +kernel
theorem dX1_follow_45 : decode cX1_follow 45 = .ok (.iload_n 3, 1) := by decide +kernel
theorem dX1_follow_46 : decode cX1_follow 46 = .ok (.invokevirtual 147, 3) := by decide +kernel
theorem dX1_follow_49 : decode cX1_follow 49 = .ok (.putfield 100, 3) := by decide +kernel
theorem dX1_follow_52 : decode cX1_follow 52 = .ok (.aload_n 1, 1) := by decide +kernel
theorem dX1_follow_53 : decode cX1_follow 53 = .ok (.dup, 1) := by decide +kernel
theorem dX1_follow_54 : decode cX1_follow 54 = .ok (.getfield 79, 3) := by decide +kernel
theorem dX1_follow_57 : decode cX1_follow 57 = .ok (.aload_n 0, 1) := by decide +kernel
theorem dX1_follow_58 : decode cX1_follow 58 = .ok (.getfield 15, 3) := by decide +kernel
theorem dX1_follow_61 : decode cX1_follow 61 = .ok (.getfield 126, 3) := by decide +kernel
theorem dX1_follow_64 : decode cX1_follow 64 = .ok (.getfield 150, 3) := by decide +kernel
theorem dX1_follow_67 : decode cX1_follow 67 = .ok (.iload_n 2, 1) := by decide +kernel
theorem dX1_follow_68 : decode cX1_follow 68 = .ok (.iaload, 1) := by decide +kernel
theorem dX1_follow_69 : decode cX1_follow 69 = .ok (.i2l, 1) := by decide +kernel
theorem dX1_follow_70 : decode cX1_follow 70 = .ok (.ladd, 1) := by decide +kernel
theorem dX1_follow_71 : decode cX1_follow 71 = .ok (.putfield 79, 3) := by decide +kernel
theorem dX1_follow_74 : decode cX1_follow 74 = .ok (.return_, 1) := by decide +kernel
set_option maxRecDepth 20000 in
theorem ggX1_chooseDeed_X2_deedOf : GoodIn wsX1_chooseDeed wsX2_deedOf := goodIn_r _ [6, 7, 75, 76, 77, 78, 79, 80] (by decide +kernel) (by decide +kernel)
set_option maxRecDepth 20000 in
theorem gX1_chooseDeed_X2_deedOf : GoodIn wsX1_chooseDeed (wsV RX1 157 RX2 yX2_deedOf wsX2_deedOf) := goodIn_app (goodIn_of _ (by decide +kernel)) ggX1_chooseDeed_X2_deedOf
set_option maxRecDepth 20000 in
theorem ggX1_chooseDeed_X1_mayDo : GoodIn wsX1_chooseDeed wsX1_mayDo := goodIn_r _ [12, 13, 14, 15, 16, 17, 18, 19, 20, 21, 22, 23, 24, 25, 26, 27, 81, 82, 83, 84, 85, 86, 87, 88, 89, 90, 91, 92, 93, 94, 95, 96, 97, 98, 99] (by decide +kernel) (by decide +kernel)
set_option maxRecDepth 20000 in
theorem gX1_chooseDeed_X1_mayDo : GoodIn wsX1_chooseDeed (wsV RX1 161 RX1 yX1_mayDo wsX1_mayDo) := goodIn_app (goodIn_of _ (by decide +kernel)) ggX1_chooseDeed_X1_mayDo
set_option maxRecDepth 20000 in
theorem ggX1_chooseDeed_X1_holds : GoodIn wsX1_chooseDeed wsX1_holds := goodIn_r _ [31, 32, 33, 34, 35, 36, 5, 37, 38, 39, 40, 41, 42, 43, 44, 45, 46, 11, 47, 48, 49, 50, 51, 52, 53, 54, 15, 55, 56, 57, 13, 58, 59, 60, 61, 62, 63, 23, 24, 19, 25, 26, 27, 64, 65, 66, 67, 68, 69, 70, 71, 72, 73, 74, 81, 82, 83, 84, 85, 86, 87, 88, 89, 90, 75, 76, 77, 78, 79, 80, 91, 92, 93, 94, 95, 96, 97, 98, 99] (by decide +kernel) (by decide +kernel)
set_option maxRecDepth 20000 in
theorem gX1_chooseDeed_X1_holds : GoodIn wsX1_chooseDeed (wsV RX1 164 RX1 yX1_holds wsX1_holds) := goodIn_app (goodIn_of _ (by decide +kernel)) ggX1_chooseDeed_X1_holds
theorem dX1_chooseDeed_0 : decode cX1_chooseDeed 0 = .ok (.iconst 0, 1) := by decide +kernel
theorem dX1_chooseDeed_1 : decode cX1_chooseDeed 1 = .ok (.istore_n 3, 1) := by decide +kernel
theorem dX1_chooseDeed_2 : decode cX1_chooseDeed 2 = .ok (.iload_n 3, 1) := by decide +kernel
theorem dX1_chooseDeed_3 : decode cX1_chooseDeed 3 = .ok (.aload_n 2, 1) := by decide +kernel
theorem dX1_chooseDeed_4 : decode cX1_chooseDeed 4 = .ok (.getfield 154, 3) := by decide +kernel
theorem dX1_chooseDeed_7 : decode cX1_chooseDeed 7 = .ok (.if_icmp .ge 39, 3) := by decide +kernel
theorem dX1_chooseDeed_10 : decode cX1_chooseDeed 10 = .ok (.aload_n 2, 1) := by decide +kernel
theorem dX1_chooseDeed_11 : decode cX1_chooseDeed 11 = .ok (.iload_n 3, 1) := by decide +kernel
theorem dX1_chooseDeed_12 : decode cX1_chooseDeed 12 = .ok (.invokevirtual 157, 3) := by decide +kernel
theorem dX1_chooseDeed_15 : decode cX1_chooseDeed 15 = .ok (.istore 4, 2) := by decide +kernel
theorem dX1_chooseDeed_17 : decode cX1_chooseDeed 17 = .ok (.aload_n 0, 1) := by decide +kernel
theorem dX1_chooseDeed_18 : decode cX1_chooseDeed 18 = .ok (.aload_n 1, 1) := by decide +kernel
theorem dX1_chooseDeed_19 : decode cX1_chooseDeed 19 = .ok (.iload 4, 2) := by decide +kernel
theorem dX1_chooseDeed_21 : decode cX1_chooseDeed 21 = .ok (.invokevirtual 161, 3) := by decide +kernel
theorem dX1_chooseDeed_24 : decode cX1_chooseDeed 24 = .ok (.ifCond .eq 16, 3) := by decide +kernel
theorem dX1_chooseDeed_27 : decode cX1_chooseDeed 27 = .ok (.aload_n 0, 1) := by decide +kernel
theorem dX1_chooseDeed_28 : decode cX1_chooseDeed 28 = .ok (.aload_n 1, 1) := by decide +kernel
theorem dX1_chooseDeed_29 : decode cX1_chooseDeed 29 = .ok (.aload_n 2, 1) := by decide +kernel
theorem dX1_chooseDeed_30 : decode cX1_chooseDeed 30 = .ok (.iload_n 3, 1) := by decide +kernel
theorem dX1_chooseDeed_31 : decode cX1_chooseDeed 31 = .ok (.invokevirtual 164, 3) := by decide +kernel
theorem dX1_chooseDeed_34 : decode cX1_chooseDeed 34 = .ok (.ifCond .eq 6, 3) := by decide +kernel
theorem dX1_chooseDeed_37 : decode cX1_chooseDeed 37 = .ok (.iload 4, 2) := by decide +kernel
theorem dX1_chooseDeed_39 : decode cX1_chooseDeed 39 = .ok (.ireturn, 1) := by decide +kernel
theorem dX1_chooseDeed_40 : decode cX1_chooseDeed 40 = .ok (.iinc 3 1, 3) := by decide +kernel
theorem dX1_chooseDeed_43 : decode cX1_chooseDeed 43 = .ok (.goto (-41), 3) := by decide +kernel
theorem dX1_chooseDeed_46 : decode cX1_chooseDeed 46 = .ok (.iconst 3, 1) := by decide +kernel
theorem dX1_chooseDeed_47 : decode cX1_chooseDeed 47 = .ok (.ireturn, 1) := by decide +kernel
set_option maxRecDepth 20000 in
theorem ggX1_mayDo_X9_askedToday : GoodIn wsX1_mayDo wsX9_askedToday := goodIn_r _ [8, 9, 10, 11, 12, 7, 13, 14, 15, 26, 27, 28, 29, 30, 31, 32, 33, 34] (by decide +kernel) (by decide +kernel)
set_option maxRecDepth 20000 in
theorem gX1_mayDo_X9_askedToday : GoodIn wsX1_mayDo (wsV RX1 85 RX9 yX9_askedToday wsX9_askedToday) := goodIn_app (goodIn_of _ (by decide +kernel)) ggX1_mayDo_X9_askedToday
theorem dX1_mayDo_0 : decode cX1_mayDo 0 = .ok (.iload_n 2, 1) := by decide +kernel
theorem dX1_mayDo_1 : decode cX1_mayDo 1 = .ok (.tableswitch 66 0 2 #[27, 32, 46], 27) := by decide +kernel
theorem dX1_mayDo_28 : decode cX1_mayDo 28 = .ok (.aload_n 0, 1) := by decide +kernel
theorem dX1_mayDo_29 : decode cX1_mayDo 29 = .ok (.getfield 55, 3) := by decide +kernel
theorem dX1_mayDo_32 : decode cX1_mayDo 32 = .ok (.ireturn, 1) := by decide +kernel
theorem dX1_mayDo_33 : decode cX1_mayDo 33 = .ok (.aload_n 0, 1) := by decide +kernel
theorem dX1_mayDo_34 : decode cX1_mayDo 34 = .ok (.getfield 65, 3) := by decide +kernel
theorem dX1_mayDo_37 : decode cX1_mayDo 37 = .ok (.iconst (-1), 1) := by decide +kernel
theorem dX1_mayDo_38 : decode cX1_mayDo 38 = .ok (.if_icmp .eq 7, 3) := by decide +kernel
theorem dX1_mayDo_41 : decode cX1_mayDo 41 = .ok (.iconst 1, 1) := by decide +kernel
theorem dX1_mayDo_42 : decode cX1_mayDo 42 = .ok (.goto 4, 3) := by decide +kernel
theorem dX1_mayDo_45 : decode cX1_mayDo 45 = .ok (.iconst 0, 1) := by decide +kernel
theorem dX1_mayDo_46 : decode cX1_mayDo 46 = .ok (.ireturn, 1) := by decide +kernel
theorem dX1_mayDo_47 : decode cX1_mayDo 47 = .ok (.aload_n 0, 1) := by decide +kernel
theorem dX1_mayDo_48 : decode cX1_mayDo 48 = .ok (.getfield 88, 3) := by decide +kernel
theorem dX1_mayDo_51 : decode cX1_mayDo 51 = .ok (.ifCond .ne 14, 3) := by decide +kernel
theorem dX1_mayDo_54 : decode cX1_mayDo 54 = .ok (.aload_n 1, 1) := by decide +kernel
theorem dX1_mayDo_55 : decode cX1_mayDo 55 = .ok (.invokevirtual 85, 3) := by decide +kernel
theorem dX1_mayDo_58 : decode cX1_mayDo 58 = .ok (.ifCond .ne 7, 3) := by decide +kernel
theorem dX1_mayDo_61 : decode cX1_mayDo 61 = .ok (.iconst 1, 1) := by decide +kernel
theorem dX1_mayDo_62 : decode cX1_mayDo 62 = .ok (.goto 4, 3) := by decide +kernel
theorem dX1_mayDo_65 : decode cX1_mayDo 65 = .ok (.iconst 0, 1) := by decide +kernel
theorem dX1_mayDo_66 : decode cX1_mayDo 66 = .ok (.ireturn, 1) := by decide +kernel
theorem dX1_mayDo_67 : decode cX1_mayDo 67 = .ok (.iconst 1, 1) := by decide +kernel
theorem dX1_mayDo_68 : decode cX1_mayDo 68 = .ok (.ireturn, 1) := by decide +kernel
set_option maxRecDepth 20000 in
theorem ggX1_holds_X2_firstToken : GoodIn wsX1_holds wsX2_firstToken := goodIn_r _ [7, 8, 64, 65, 66, 67, 68, 69] (by decide +kernel) (by decide +kernel)
set_option maxRecDepth 20000 in
theorem gX1_holds_X2_firstToken : GoodIn wsX1_holds (wsV RX1 171 RX2 yX2_firstToken wsX2_firstToken) := goodIn_app (goodIn_of _ (by decide +kernel)) ggX1_holds_X2_firstToken
set_option maxRecDepth 20000 in
theorem ggX1_holds_X2_tokenAt : GoodIn wsX1_holds wsX2_tokenAt := goodIn_r _ [12, 13, 64, 65, 66, 67, 68, 69] (by decide +kernel) (by decide +kernel)
set_option maxRecDepth 20000 in
theorem gX1_holds_X2_tokenAt : GoodIn wsX1_holds (wsV RX1 174 RX2 yX2_tokenAt wsX2_tokenAt) := goodIn_app (goodIn_of _ (by decide +kernel)) ggX1_holds_X2_tokenAt
set_option maxRecDepth 20000 in
theorem ggX1_holds_X1_push : GoodIn wsX1_holds wsX1_push := goodIn_r _ [18, 1, 2, 54, 55, 56, 57, 58, 59, 60, 61, 62, 63] (by decide +kernel) (by decide +kernel)
set_option maxRecDepth 20000 in
theorem gX1_holds_X1_push : GoodIn wsX1_holds (wsV RX1 177 RX1 yX1_push wsX1_push) := goodIn_app (goodIn_of _ (by decide +kernel)) ggX1_holds_X1_push
set_option maxRecDepth 20000 in
theorem ggX1_holds_X1_valueOf : GoodIn wsX1_holds wsX1_valueOf := goodIn_r _ [22, 23, 24, 25, 26, 27, 28, 29, 30, 31, 32, 33, 34, 35, 36, 37, 38, 39, 40, 41, 42, 70, 71, 72, 73, 74, 75, 76, 77, 78, 54, 55, 56, 57, 58, 59, 60, 61, 62, 63] (by decide +kernel) (by decide +kernel)
set_option maxRecDepth 20000 in
theorem gX1_holds_X1_valueOf : GoodIn wsX1_holds (wsV RX1 181 RX1 yX1_valueOf wsX1_valueOf) := goodIn_app (goodIn_of _ (by decide +kernel)) ggX1_holds_X1_valueOf
set_option maxRecDepth 20000 in
theorem ggX1_holds_X1_turn : GoodIn wsX1_holds wsX1_turn := goodIn_r _ [46, 1, 2, 54, 55, 56, 57, 58, 59, 60, 61, 62, 63] (by decide +kernel) (by decide +kernel)
set_option maxRecDepth 20000 in
theorem gX1_holds_X1_turn : GoodIn wsX1_holds (wsV RX1 185 RX1 yX1_turn wsX1_turn) := goodIn_app (goodIn_of _ (by decide +kernel)) ggX1_holds_X1_turn
set_option maxRecDepth 20000 in
theorem ggX1_holds_X1_join : GoodIn wsX1_holds wsX1_join := goodIn_r _ [50, 1, 2, 51, 52, 17, 53, 54, 55, 56, 57, 58, 59, 60, 61, 62, 63] (by decide +kernel) (by decide +kernel)
set_option maxRecDepth 20000 in
theorem gX1_holds_X1_join : GoodIn wsX1_holds (wsV RX1 188 RX1 yX1_join wsX1_join) := goodIn_app (goodIn_of _ (by decide +kernel)) ggX1_holds_X1_join
theorem dX1_holds_0 : decode cX1_holds 0 = .ok (.aload_n 0, 1) := by decide +kernel
theorem dX1_holds_1 : decode cX1_holds 1 = .ok (.iconst 0, 1) := by decide +kernel
theorem dX1_holds_2 : decode cX1_holds 2 = .ok (.putfield 168, 3) := by decide +kernel
theorem dX1_holds_5 : decode cX1_holds 5 = .ok (.aload_n 2, 1) := by decide +kernel
theorem dX1_holds_6 : decode cX1_holds 6 = .ok (.iload_n 3, 1) := by decide +kernel
theorem dX1_holds_7 : decode cX1_holds 7 = .ok (.invokevirtual 171, 3) := by decide +kernel
theorem dX1_holds_10 : decode cX1_holds 10 = .ok (.istore 4, 2) := by decide +kernel
theorem dX1_holds_12 : decode cX1_holds 12 = .ok (.iload 4, 2) := by decide +kernel
theorem dX1_holds_14 : decode cX1_holds 14 = .ok (.aload_n 2, 1) := by decide +kernel
theorem dX1_holds_15 : decode cX1_holds 15 = .ok (.iload_n 3, 1) := by decide +kernel
theorem dX1_holds_16 : decode cX1_holds 16 = .ok (.iconst 1, 1) := by decide +kernel
theorem dX1_holds_17 : decode cX1_holds 17 = .ok (.iadd, 1) := by decide +kernel
theorem dX1_holds_18 : decode cX1_holds 18 = .ok (.invokevirtual 171, 3) := by decide +kernel
theorem dX1_holds_21 : decode cX1_holds 21 = .ok (.if_icmp .ge 78, 3) := by decide +kernel
theorem dX1_holds_24 : decode cX1_holds 24 = .ok (.aload_n 2, 1) := by decide +kernel
theorem dX1_holds_25 : decode cX1_holds 25 = .ok (.iload 4, 2) := by decide +kernel
theorem dX1_holds_27 : decode cX1_holds 27 = .ok (.invokevirtual 174, 3) := by decide +kernel
theorem dX1_holds_30 : decode cX1_holds 30 = .ok (.istore 5, 2) := by decide +kernel
theorem dX1_holds_32 : decode cX1_holds 32 = .ok (.iload 5, 2) := by decide +kernel
theorem dX1_holds_34 : decode cX1_holds 34 = .ok (.bipush 32, 2) := by decide +kernel
theorem dX1_holds_36 : decode cX1_holds 36 = .ok (.if_icmp .lt 16, 3) := by decide +kernel
theorem dX1_holds_39 : decode cX1_holds 39 = .ok (.aload_n 0, 1) := by decide +kernel
theorem dX1_holds_40 : decode cX1_holds 40 = .ok (.iload 5, 2) := by decide +kernel
theorem dX1_holds_42 : decode cX1_holds 42 = .ok (.bipush 32, 2) := by decide +kernel
theorem dX1_holds_44 : decode cX1_holds 44 = .ok (.isub, 1) := by decide +kernel
theorem dX1_holds_45 : decode cX1_holds 45 = .ok (.i2l, 1) := by decide +kernel
theorem dX1_holds_46 : decode cX1_holds 46 = .ok (.invokevirtual 177, 3) := by decide +kernel
theorem dX1_holds_49 : decode cX1_holds 49 = .ok (.goto 44, 3) := by decide +kernel
theorem dX1_holds_52 : decode cX1_holds 52 = .ok (.iload 5, 2) := by decide +kernel
theorem dX1_holds_54 : decode cX1_holds 54 = .ok (.bipush 10, 2) := by decide +kernel
theorem dX1_holds_56 : decode cX1_holds 56 = .ok (.if_icmp .ge 17, 3) := by decide +kernel
theorem dX1_holds_59 : decode cX1_holds 59 = .ok (.aload_n 0, 1) := by decide +kernel
theorem dX1_holds_60 : decode cX1_holds 60 = .ok (.aload_n 0, 1) := by decide +kernel
theorem dX1_holds_61 : decode cX1_holds 61 = .ok (.aload_n 1, 1) := by decide +kernel
theorem dX1_holds_62 : decode cX1_holds 62 = .ok (.iload 5, 2) := by decide +kernel
theorem dX1_holds_64 : decode cX1_holds 64 = .ok (.invokevirtual 181, 3) := by decide +kernel
theorem dX1_holds_67 : decode cX1_holds 67 = .ok (.invokevirtual 177, 3) := by decide +kernel
theorem dX1_holds_70 : decode cX1_holds 70 = .ok (.goto 23, 3) := by decide +kernel
theorem dX1_holds_73 : decode cX1_holds 73 = .ok (.iload 5, 2) := by decide +kernel
theorem dX1_holds_75 : decode cX1_holds 75 = .ok (.bipush 19, 2) := by decide +kernel
theorem dX1_holds_77 : decode cX1_holds 77 = .ok (.if_icmp .ne 10, 3) := by decide +kernel
theorem dX1_holds_80 : decode cX1_holds 80 = .ok (.aload_n 0, 1) := by decide +kernel
theorem dX1_holds_81 : decode cX1_holds 81 = .ok (.invokevirtual 185, 3) := by decide +kernel
theorem dX1_holds_84 : decode cX1_holds 84 = .ok (.goto 9, 3) := by decide +kernel
theorem dX1_holds_87 : decode cX1_holds 87 = .ok (.aload_n 0, 1) := by decide +kernel
theorem dX1_holds_88 : decode cX1_holds 88 = .ok (.iload 5, 2) := by decide +kernel
theorem dX1_holds_90 : decode cX1_holds 90 = .ok (.invokevirtual 188, 3) := by decide +kernel
theorem dX1_holds_93 : decode cX1_holds 93 = .ok (.iinc 4 1, 3) := by decide +kernel
theorem dX1_holds_96 : decode cX1_holds 96 = .ok (.goto (-84), 3) := by decide +kernel
theorem dX1_holds_99 : decode cX1_holds 99 = .ok (.aload_n 0, 1) := by decide +kernel
theorem dX1_holds_100 : decode cX1_holds 100 = .ok (.getfield 168, 3) := by decide +kernel
theorem dX1_holds_103 : decode cX1_holds 103 = .ok (.iconst 1, 1) := by decide +kernel
theorem dX1_holds_104 : decode cX1_holds 104 = .ok (.if_icmp .lt 19, 3) := by decide +kernel
theorem dX1_holds_107 : decode cX1_holds 107 = .ok (.aload_n 0, 1) := by decide +kernel
theorem dX1_holds_108 : decode cX1_holds 108 = .ok (.getfield 11, 3) := by decide +kernel
theorem dX1_holds_111 : decode cX1_holds 111 = .ok (.aload_n 0, 1) := by decide +kernel
theorem dX1_holds_112 : decode cX1_holds 112 = .ok (.getfield 168, 3) := by decide +kernel
theorem dX1_holds_115 : decode cX1_holds 115 = .ok (.iconst 1, 1) := by decide +kernel
theorem dX1_holds_116 : decode cX1_holds 116 = .ok (.isub, 1) := by decide +kernel
theorem dX1_holds_117 : decode cX1_holds 117 = .ok (.laload, 1) := by decide +kernel
theorem dX1_holds_118 : decode cX1_holds 118 = .ok (.lconst 0, 1) := by decide +kernel
theorem dX1_holds_119 : decode cX1_holds 119 = .ok (.lcmp, 1) := by decide +kernel
theorem dX1_holds_120 : decode cX1_holds 120 = .ok (.ifCond .eq 7, 3) := by decide +kernel
theorem dX1_holds_123 : decode cX1_holds 123 = .ok (.iconst 1, 1) := by decide +kernel
theorem dX1_holds_124 : decode cX1_holds 124 = .ok (.goto 4, 3) := by decide +kernel
theorem dX1_holds_127 : decode cX1_holds 127 = .ok (.iconst 0, 1) := by decide +kernel
theorem dX1_holds_128 : decode cX1_holds 128 = .ok (.ireturn, 1) := by decide +kernel
theorem dX1_push_0 : decode cX1_push 0 = .ok (.aload_n 0, 1) := by decide +kernel
theorem dX1_push_1 : decode cX1_push 1 = .ok (.getfield 168, 3) := by decide +kernel
theorem dX1_push_4 : decode cX1_push 4 = .ok (.bipush 64, 2) := by decide +kernel
theorem dX1_push_6 : decode cX1_push 6 = .ok (.if_icmp .ge 23, 3) := by decide +kernel
theorem dX1_push_9 : decode cX1_push 9 = .ok (.aload_n 0, 1) := by decide +kernel
theorem dX1_push_10 : decode cX1_push 10 = .ok (.getfield 11, 3) := by decide +kernel
theorem dX1_push_13 : decode cX1_push 13 = .ok (.aload_n 0, 1) := by decide +kernel
theorem dX1_push_14 : decode cX1_push 14 = .ok (.getfield 168, 3) := by decide +kernel
theorem dX1_push_17 : decode cX1_push 17 = .ok (.lload_n 1, 1) := by decide +kernel
theorem dX1_push_18 : decode cX1_push 18 = .ok (.lastore, 1) := by decide +kernel
theorem dX1_push_19 : decode cX1_push 19 = .ok (.aload_n 0, 1) := by decide +kernel
theorem dX1_push_20 : decode cX1_push 20 = .ok (.dup, 1) := by decide +kernel
theorem dX1_push_21 : decode cX1_push 21 = .ok (.getfield 168, 3) := by decide +kernel
theorem dX1_push_24 : decode cX1_push 24 = .ok (.iconst 1, 1) := by decide +kernel
theorem dX1_push_25 : decode cX1_push 25 = .ok (.iadd, 1) := by decide +kernel
theorem dX1_push_26 : decode cX1_push 26 = .ok (.putfield 168, 3) := by decide +kernel
theorem dX1_push_29 : decode cX1_push 29 = .ok (.return_, 1) := by decide +kernel
theorem dX1_turn_0 : decode cX1_turn 0 = .ok (.aload_n 0, 1) := by decide +kernel
theorem dX1_turn_1 : decode cX1_turn 1 = .ok (.getfield 168, 3) := by decide +kernel
theorem dX1_turn_4 : decode cX1_turn 4 = .ok (.ifCond .le 27, 3) := by decide +kernel
theorem dX1_turn_7 : decode cX1_turn 7 = .ok (.aload_n 0, 1) := by decide +kernel
theorem dX1_turn_8 : decode cX1_turn 8 = .ok (.getfield 11, 3) := by decide +kernel
theorem dX1_turn_11 : decode cX1_turn 11 = .ok (.aload_n 0, 1) := by decide +kernel
theorem dX1_turn_12 : decode cX1_turn 12 = .ok (.getfield 168, 3) := by decide +kernel
theorem dX1_turn_15 : decode cX1_turn 15 = .ok (.iconst 1, 1) := by decide +kernel
theorem dX1_turn_16 : decode cX1_turn 16 = .ok (.isub, 1) := by decide +kernel
theorem dX1_turn_17 : decode cX1_turn 17 = .ok (.lconst 1, 1) := by decide +kernel
theorem dX1_turn_18 : decode cX1_turn 18 = .ok (.aload_n 0, 1) := by decide +kernel
theorem dX1_turn_19 : decode cX1_turn 19 = .ok (.getfield 11, 3) := by decide +kernel
theorem dX1_turn_22 : decode cX1_turn 22 = .ok (.aload_n 0, 1) := by decide +kernel
theorem dX1_turn_23 : decode cX1_turn 23 = .ok (.getfield 168, 3) := by decide +kernel
theorem dX1_turn_26 : decode cX1_turn 26 = .ok (.iconst 1, 1) := by decide +kernel
theorem dX1_turn_27 : decode cX1_turn 27 = .ok (.isub, 1) := by decide +kernel
theorem dX1_turn_28 : decode cX1_turn 28 = .ok (.laload, 1) := by decide +kernel
theorem dX1_turn_29 : decode cX1_turn 29 = .ok (.lsub, 1) := by decide +kernel
theorem dX1_turn_30 : decode cX1_turn 30 = .ok (.lastore, 1) := by decide +kernel
theorem dX1_turn_31 : decode cX1_turn 31 = .ok (.return_, 1) := by decide +kernel
set_option maxRecDepth 20000 in
theorem ggX1_join_X1_joined : GoodIn wsX1_join wsX1_joined := goodIn_r _ [6] (by decide +kernel) (by decide +kernel)
set_option maxRecDepth 20000 in
theorem gX1_join_X1_joined : GoodIn wsX1_join (va_wsS RX1 192 yX1_joined wsX1_joined) := goodIn_app (goodIn_of _ (by decide +kernel)) ggX1_join_X1_joined
theorem dX1_join_0 : decode cX1_join 0 = .ok (.aload_n 0, 1) := by decide +kernel
theorem dX1_join_1 : decode cX1_join 1 = .ok (.getfield 168, 3) := by decide +kernel
theorem dX1_join_4 : decode cX1_join 4 = .ok (.iconst 1, 1) := by decide +kernel
theorem dX1_join_5 : decode cX1_join 5 = .ok (.if_icmp .le 48, 3) := by decide +kernel
theorem dX1_join_8 : decode cX1_join 8 = .ok (.aload_n 0, 1) := by decide +kernel
theorem dX1_join_9 : decode cX1_join 9 = .ok (.dup, 1) := by decide +kernel
theorem dX1_join_10 : decode cX1_join 10 = .ok (.getfield 168, 3) := by decide +kernel
theorem dX1_join_13 : decode cX1_join 13 = .ok (.iconst 1, 1) := by decide +kernel
theorem dX1_join_14 : decode cX1_join 14 = .ok (.isub, 1) := by decide +kernel
theorem dX1_join_15 : decode cX1_join 15 = .ok (.putfield 168, 3) := by decide +kernel
theorem dX1_join_18 : decode cX1_join 18 = .ok (.aload_n 0, 1) := by decide +kernel
theorem dX1_join_19 : decode cX1_join 19 = .ok (.getfield 11, 3) := by decide +kernel
theorem dX1_join_22 : decode cX1_join 22 = .ok (.aload_n 0, 1) := by decide +kernel
theorem dX1_join_23 : decode cX1_join 23 = .ok (.getfield 168, 3) := by decide +kernel
theorem dX1_join_26 : decode cX1_join 26 = .ok (.iconst 1, 1) := by decide +kernel
theorem dX1_join_27 : decode cX1_join 27 = .ok (.isub, 1) := by decide +kernel
theorem dX1_join_28 : decode cX1_join 28 = .ok (.iload_n 1, 1) := by decide +kernel
theorem dX1_join_29 : decode cX1_join 29 = .ok (.aload_n 0, 1) := by decide +kernel
theorem dX1_join_30 : decode cX1_join 30 = .ok (.getfield 11, 3) := by decide +kernel
theorem dX1_join_33 : decode cX1_join 33 = .ok (.aload_n 0, 1) := by decide +kernel
theorem dX1_join_34 : decode cX1_join 34 = .ok (.getfield 168, 3) := by decide +kernel
theorem dX1_join_37 : decode cX1_join 37 = .ok (.iconst 1, 1) := by decide +kernel
theorem dX1_join_38 : decode cX1_join 38 = .ok (.isub, 1) := by decide +kernel
theorem dX1_join_39 : decode cX1_join 39 = .ok (.laload, 1) := by decide +kernel
theorem dX1_join_40 : decode cX1_join 40 = .ok (.aload_n 0, 1) := by decide +kernel
theorem dX1_join_41 : decode cX1_join 41 = .ok (.getfield 11, 3) := by decide +kernel
theorem dX1_join_44 : decode cX1_join 44 = .ok (.aload_n 0, 1) := by decide +kernel
theorem dX1_join_45 : decode cX1_join 45 = .ok (.getfield 168, 3) := by decide +kernel
theorem dX1_join_48 : decode cX1_join 48 = .ok (.laload, 1) := by decide +kernel
theorem dX1_join_49 : decode cX1_join 49 = .ok (.invokestatic 192, 3) := by decide +kernel
theorem dX1_join_52 : decode cX1_join 52 = .ok (.lastore, 1) := by decide +kernel
theorem dX1_join_53 : decode cX1_join 53 = .ok (.return_, 1) := by decide +kernel
theorem dX1_joined_0 : decode cX1_joined 0 = .ok (.iload_n 0, 1) := by decide +kernel
theorem dX1_joined_1 : decode cX1_joined 1 = .ok (.tableswitch 149 10 20 #[59, 63, 67, 71, 85, 97, 109, 121, 133, 149, 145], 59) := by decide +kernel
theorem dX1_joined_60 : decode cX1_joined 60 = .ok (.lload_n 1, 1) := by decide +kernel
theorem dX1_joined_61 : decode cX1_joined 61 = .ok (.lload_n 3, 1) := by decide +kernel
theorem dX1_joined_62 : decode cX1_joined 62 = .ok (.ladd, 1) := by decide +kernel
theorem dX1_joined_63 : decode cX1_joined 63 = .ok (.lreturn, 1) := by decide +kernel
theorem dX1_joined_64 : decode cX1_joined 64 = .ok (.lload_n 1, 1) := by decide +kernel
theorem dX1_joined_65 : decode cX1_joined 65 = .ok (.lload_n 3, 1) := by decide +kernel
theorem dX1_joined_66 : decode cX1_joined 66 = .ok (.lsub, 1) := by decide +kernel
theorem dX1_joined_67 : decode cX1_joined 67 = .ok (.lreturn, 1) := by decide +kernel
theorem dX1_joined_68 : decode cX1_joined 68 = .ok (.lload_n 1, 1) := by decide +kernel
theorem dX1_joined_69 : decode cX1_joined 69 = .ok (.lload_n 3, 1) := by decide +kernel
theorem dX1_joined_70 : decode cX1_joined 70 = .ok (.lmul, 1) := by decide +kernel
theorem dX1_joined_71 : decode cX1_joined 71 = .ok (.lreturn, 1) := by decide +kernel
theorem dX1_joined_72 : decode cX1_joined 72 = .ok (.lload_n 3, 1) := by decide +kernel
theorem dX1_joined_73 : decode cX1_joined 73 = .ok (.lconst 0, 1) := by decide +kernel
theorem dX1_joined_74 : decode cX1_joined 74 = .ok (.lcmp, 1) := by decide +kernel
theorem dX1_joined_75 : decode cX1_joined 75 = .ok (.ifCond .ne 7, 3) := by decide +kernel
theorem dX1_joined_78 : decode cX1_joined 78 = .ok (.lconst 0, 1) := by decide +kernel
theorem dX1_joined_79 : decode cX1_joined 79 = .ok (.goto 6, 3) := by decide +kernel
theorem dX1_joined_82 : decode cX1_joined 82 = .ok (.lload_n 1, 1) := by decide +kernel
theorem dX1_joined_83 : decode cX1_joined 83 = .ok (.lload_n 3, 1) := by decide +kernel
theorem dX1_joined_84 : decode cX1_joined 84 = .ok (.ldiv, 1) := by decide +kernel
theorem dX1_joined_85 : decode cX1_joined 85 = .ok (.lreturn, 1) := by decide +kernel
theorem dX1_joined_86 : decode cX1_joined 86 = .ok (.lload_n 1, 1) := by decide +kernel
theorem dX1_joined_87 : decode cX1_joined 87 = .ok (.lload_n 3, 1) := by decide +kernel
theorem dX1_joined_88 : decode cX1_joined 88 = .ok (.lcmp, 1) := by decide +kernel
theorem dX1_joined_89 : decode cX1_joined 89 = .ok (.ifCond .ge 7, 3) := by decide +kernel
theorem dX1_joined_92 : decode cX1_joined 92 = .ok (.lconst 1, 1) := by decide +kernel
theorem dX1_joined_93 : decode cX1_joined 93 = .ok (.goto 4, 3) := by decide +kernel
theorem dX1_joined_96 : decode cX1_joined 96 = .ok (.lconst 0, 1) := by decide +kernel
theorem dX1_joined_97 : decode cX1_joined 97 = .ok (.lreturn, 1) := by decide +kernel
theorem dX1_joined_98 : decode cX1_joined 98 = .ok (.lload_n 1, 1) := by decide +kernel
theorem dX1_joined_99 : decode cX1_joined 99 = .ok (.lload_n 3, 1) := by decide +kernel
theorem dX1_joined_100 : decode cX1_joined 100 = .ok (.lcmp, 1) := by decide +kernel
theorem dX1_joined_101 : decode cX1_joined 101 = .ok (.ifCond .gt 7, 3) := by decide +kernel
theorem dX1_joined_104 : decode cX1_joined 104 = .ok (.lconst 1, 1) := by decide +kernel
theorem dX1_joined_105 : decode cX1_joined 105 = .ok (.goto 4, 3) := by decide +kernel
theorem dX1_joined_108 : decode cX1_joined 108 = .ok (.lconst 0, 1) := by decide +kernel
theorem dX1_joined_109 : decode cX1_joined 109 = .ok (.lreturn, 1) := by decide +kernel
theorem dX1_joined_110 : decode cX1_joined 110 = .ok (.lload_n 1, 1) := by decide +kernel
theorem dX1_joined_111 : decode cX1_joined 111 = .ok (.lload_n 3, 1) := by decide +kernel
theorem dX1_joined_112 : decode cX1_joined 112 = .ok (.lcmp, 1) := by decide +kernel
theorem dX1_joined_113 : decode cX1_joined 113 = .ok (.ifCond .ne 7, 3) := by decide +kernel
theorem dX1_joined_116 : decode cX1_joined 116 = .ok (.lconst 1, 1) := by decide +kernel
theorem dX1_joined_117 : decode cX1_joined 117 = .ok (.goto 4, 3) := by decide +kernel
theorem dX1_joined_120 : decode cX1_joined 120 = .ok (.lconst 0, 1) := by decide +kernel
theorem dX1_joined_121 : decode cX1_joined 121 = .ok (.lreturn, 1) := by decide +kernel
theorem dX1_joined_122 : decode cX1_joined 122 = .ok (.lload_n 1, 1) := by decide +kernel
theorem dX1_joined_123 : decode cX1_joined 123 = .ok (.lload_n 3, 1) := by decide +kernel
theorem dX1_joined_124 : decode cX1_joined 124 = .ok (.lcmp, 1) := by decide +kernel
theorem dX1_joined_125 : decode cX1_joined 125 = .ok (.ifCond .lt 7, 3) := by decide +kernel
theorem dX1_joined_128 : decode cX1_joined 128 = .ok (.lconst 1, 1) := by decide +kernel
theorem dX1_joined_129 : decode cX1_joined 129 = .ok (.goto 4, 3) := by decide +kernel
theorem dX1_joined_132 : decode cX1_joined 132 = .ok (.lconst 0, 1) := by decide +kernel
theorem dX1_joined_133 : decode cX1_joined 133 = .ok (.lreturn, 1) := by decide +kernel
theorem dX1_joined_134 : decode cX1_joined 134 = .ok (.lload_n 1, 1) := by decide +kernel
theorem dX1_joined_135 : decode cX1_joined 135 = .ok (.lload_n 3, 1) := by decide +kernel
theorem dX1_joined_136 : decode cX1_joined 136 = .ok (.lcmp, 1) := by decide +kernel
theorem dX1_joined_137 : decode cX1_joined 137 = .ok (.ifCond .le 7, 3) := by decide +kernel
theorem dX1_joined_140 : decode cX1_joined 140 = .ok (.lconst 1, 1) := by decide +kernel
theorem dX1_joined_141 : decode cX1_joined 141 = .ok (.goto 4, 3) := by decide +kernel
theorem dX1_joined_144 : decode cX1_joined 144 = .ok (.lconst 0, 1) := by decide +kernel
theorem dX1_joined_145 : decode cX1_joined 145 = .ok (.lreturn, 1) := by decide +kernel
theorem dX1_joined_146 : decode cX1_joined 146 = .ok (.lload_n 1, 1) := by decide +kernel
theorem dX1_joined_147 : decode cX1_joined 147 = .ok (.lload_n 3, 1) := by decide +kernel
theorem dX1_joined_148 : decode cX1_joined 148 = .ok (.land, 1) := by decide +kernel
theorem dX1_joined_149 : decode cX1_joined 149 = .ok (.lreturn, 1) := by decide +kernel
theorem dX1_joined_150 : decode cX1_joined 150 = .ok (.lload_n 1, 1) := by decide +kernel
theorem dX1_joined_151 : decode cX1_joined 151 = .ok (.lload_n 3, 1) := by decide +kernel
theorem dX1_joined_152 : decode cX1_joined 152 = .ok (.lor, 1) := by decide +kernel
theorem dX1_joined_153 : decode cX1_joined 153 = .ok (.lreturn, 1) := by decide +kernel
set_option maxRecDepth 20000 in
theorem ggX1_valueOf_X9_dayNow : GoodIn wsX1_valueOf wsX9_dayNow := goodIn_r _ [18, 19, 20, 21, 22, 23, 24, 25, 26, 27, 28, 29] (by decide +kernel) (by decide +kernel)
set_option maxRecDepth 20000 in
theorem gX1_valueOf_X9_dayNow : GoodIn wsX1_valueOf (wsV RX1 68 RX9 yX9_dayNow wsX9_dayNow) := goodIn_app (goodIn_of _ (by decide +kernel)) ggX1_valueOf_X9_dayNow
theorem dX1_valueOf_0 : decode cX1_valueOf 0 = .ok (.iload_n 2, 1) := by decide +kernel
theorem dX1_valueOf_1 : decode cX1_valueOf 1 = .ok (.tableswitch 143 0 8 #[51, 60, 69, 89, 95, 101, 114, 120, 137], 51) := by decide +kernel
theorem dX1_valueOf_52 : decode cX1_valueOf 52 = .ok (.aload_n 1, 1) := by decide +kernel
theorem dX1_valueOf_53 : decode cX1_valueOf 53 = .ok (.getfield 79, 3) := by decide +kernel
theorem dX1_valueOf_56 : decode cX1_valueOf 56 = .ok (.ldc2_w 196, 3) := by decide +kernel
theorem dX1_valueOf_59 : decode cX1_valueOf 59 = .ok (.lrem, 1) := by decide +kernel
theorem dX1_valueOf_60 : decode cX1_valueOf 60 = .ok (.lreturn, 1) := by decide +kernel
theorem dX1_valueOf_61 : decode cX1_valueOf 61 = .ok (.aload_n 1, 1) := by decide +kernel
theorem dX1_valueOf_62 : decode cX1_valueOf 62 = .ok (.invokevirtual 68, 3) := by decide +kernel
theorem dX1_valueOf_65 : decode cX1_valueOf 65 = .ok (.ldc2_w 198, 3) := by decide +kernel
theorem dX1_valueOf_68 : decode cX1_valueOf 68 = .ok (.lrem, 1) := by decide +kernel
theorem dX1_valueOf_69 : decode cX1_valueOf 69 = .ok (.lreturn, 1) := by decide +kernel
theorem dX1_valueOf_70 : decode cX1_valueOf 70 = .ok (.aload_n 0, 1) := by decide +kernel
theorem dX1_valueOf_71 : decode cX1_valueOf 71 = .ok (.getfield 88, 3) := by decide +kernel
theorem dX1_valueOf_74 : decode cX1_valueOf 74 = .ok (.ifCond .eq 7, 3) := by decide +kernel
theorem dX1_valueOf_77 : decode cX1_valueOf 77 = .ok (.lconst 0, 1) := by decide +kernel
theorem dX1_valueOf_78 : decode cX1_valueOf 78 = .ok (.goto 11, 3) := by decide +kernel
theorem dX1_valueOf_81 : decode cX1_valueOf 81 = .ok (.aload_n 1, 1) := by decide +kernel
theorem dX1_valueOf_82 : decode cX1_valueOf 82 = .ok (.invokevirtual 68, 3) := by decide +kernel
theorem dX1_valueOf_85 : decode cX1_valueOf 85 = .ok (.ldc2_w 200, 3) := by decide +kernel
theorem dX1_valueOf_88 : decode cX1_valueOf 88 = .ok (.lrem, 1) := by decide +kernel
theorem dX1_valueOf_89 : decode cX1_valueOf 89 = .ok (.lreturn, 1) := by decide +kernel
theorem dX1_valueOf_90 : decode cX1_valueOf 90 = .ok (.aload_n 1, 1) := by decide +kernel
theorem dX1_valueOf_91 : decode cX1_valueOf 91 = .ok (.getfield 100, 3) := by decide +kernel
theorem dX1_valueOf_94 : decode cX1_valueOf 94 = .ok (.i2l, 1) := by decide +kernel
theorem dX1_valueOf_95 : decode cX1_valueOf 95 = .ok (.lreturn, 1) := by decide +kernel
theorem dX1_valueOf_96 : decode cX1_valueOf 96 = .ok (.aload_n 1, 1) := by decide +kernel
theorem dX1_valueOf_97 : decode cX1_valueOf 97 = .ok (.getfield 103, 3) := by decide +kernel
theorem dX1_valueOf_100 : decode cX1_valueOf 100 = .ok (.i2l, 1) := by decide +kernel
theorem dX1_valueOf_101 : decode cX1_valueOf 101 = .ok (.lreturn, 1) := by decide +kernel
theorem dX1_valueOf_102 : decode cX1_valueOf 102 = .ok (.aload_n 0, 1) := by decide +kernel
theorem dX1_valueOf_103 : decode cX1_valueOf 103 = .ok (.getfield 55, 3) := by decide +kernel
theorem dX1_valueOf_106 : decode cX1_valueOf 106 = .ok (.ifCond .eq 7, 3) := by decide +kernel
theorem dX1_valueOf_109 : decode cX1_valueOf 109 = .ok (.lconst 0, 1) := by decide +kernel
theorem dX1_valueOf_110 : decode cX1_valueOf 110 = .ok (.goto 4, 3) := by decide +kernel
theorem dX1_valueOf_113 : decode cX1_valueOf 113 = .ok (.lconst 1, 1) := by decide +kernel
theorem dX1_valueOf_114 : decode cX1_valueOf 114 = .ok (.lreturn, 1) := by decide +kernel
theorem dX1_valueOf_115 : decode cX1_valueOf 115 = .ok (.aload_n 0, 1) := by decide +kernel
theorem dX1_valueOf_116 : decode cX1_valueOf 116 = .ok (.getfield 123, 3) := by decide +kernel
theorem dX1_valueOf_119 : decode cX1_valueOf 119 = .ok (.i2l, 1) := by decide +kernel
theorem dX1_valueOf_120 : decode cX1_valueOf 120 = .ok (.lreturn, 1) := by decide +kernel
theorem dX1_valueOf_121 : decode cX1_valueOf 121 = .ok (.aload_n 0, 1) := by decide +kernel
theorem dX1_valueOf_122 : decode cX1_valueOf 122 = .ok (.getfield 88, 3) := by decide +kernel
theorem dX1_valueOf_125 : decode cX1_valueOf 125 = .ok (.ifCond .eq 7, 3) := by decide +kernel
theorem dX1_valueOf_128 : decode cX1_valueOf 128 = .ok (.lconst 0, 1) := by decide +kernel
theorem dX1_valueOf_129 : decode cX1_valueOf 129 = .ok (.goto 8, 3) := by decide +kernel
theorem dX1_valueOf_132 : decode cX1_valueOf 132 = .ok (.aload_n 1, 1) := by decide +kernel
theorem dX1_valueOf_133 : decode cX1_valueOf 133 = .ok (.getfield 82, 3) := by decide +kernel
theorem dX1_valueOf_136 : decode cX1_valueOf 136 = .ok (.i2l, 1) := by decide +kernel
theorem dX1_valueOf_137 : decode cX1_valueOf 137 = .ok (.lreturn, 1) := by decide +kernel
theorem dX1_valueOf_138 : decode cX1_valueOf 138 = .ok (.aload_n 1, 1) := by decide +kernel
theorem dX1_valueOf_139 : decode cX1_valueOf 139 = .ok (.getfield 76, 3) := by decide +kernel
theorem dX1_valueOf_142 : decode cX1_valueOf 142 = .ok (.i2l, 1) := by decide +kernel
theorem dX1_valueOf_143 : decode cX1_valueOf 143 = .ok (.lreturn, 1) := by decide +kernel
theorem dX1_valueOf_144 : decode cX1_valueOf 144 = .ok (.aload_n 1, 1) := by decide +kernel
theorem dX1_valueOf_145 : decode cX1_valueOf 145 = .ok (.getfield 144, 3) := by decide +kernel
theorem dX1_valueOf_148 : decode cX1_valueOf 148 = .ok (.iconst (-1), 1) := by decide +kernel
theorem dX1_valueOf_149 : decode cX1_valueOf 149 = .ok (.if_icmp .ne 9, 3) := by decide +kernel
theorem dX1_valueOf_152 : decode cX1_valueOf 152 = .ok (.ldc2_w 202, 3) := by decide +kernel
theorem dX1_valueOf_155 : decode cX1_valueOf 155 = .ok (.goto 8, 3) := by decide +kernel
theorem dX1_valueOf_158 : decode cX1_valueOf 158 = .ok (.aload_n 1, 1) := by decide +kernel
theorem dX1_valueOf_159 : decode cX1_valueOf 159 = .ok (.getfield 144, 3) := by decide +kernel
theorem dX1_valueOf_162 : decode cX1_valueOf 162 = .ok (.i2l, 1) := by decide +kernel
theorem dX1_valueOf_163 : decode cX1_valueOf 163 = .ok (.lreturn, 1) := by decide +kernel
theorem dX2_init_0 : decode cX2_init 0 = .ok (.aload_n 0, 1) := by decide +kernel
theorem dX2_init_1 : decode cX2_init 1 = .ok (.invokespecial 3, 3) := by decide +kernel
theorem dX2_init_4 : decode cX2_init 4 = .ok (.aload_n 0, 1) := by decide +kernel
theorem dX2_init_5 : decode cX2_init 5 = .ok (.bipush 12, 2) := by decide +kernel
theorem dX2_init_7 : decode cX2_init 7 = .ok (.newarray .int, 2) := by decide +kernel
theorem dX2_init_9 : decode cX2_init 9 = .ok (.putfield 11, 3) := by decide +kernel
theorem dX2_init_12 : decode cX2_init 12 = .ok (.aload_n 0, 1) := by decide +kernel
theorem dX2_init_13 : decode cX2_init 13 = .ok (.bipush 13, 2) := by decide +kernel
theorem dX2_init_15 : decode cX2_init 15 = .ok (.newarray .int, 2) := by decide +kernel
theorem dX2_init_17 : decode cX2_init 17 = .ok (.putfield 15, 3) := by decide +kernel
theorem dX2_init_20 : decode cX2_init 20 = .ok (.aload_n 0, 1) := by decide +kernel
theorem dX2_init_21 : decode cX2_init 21 = .ok (.sipush 400, 3) := by decide +kernel
theorem dX2_init_24 : decode cX2_init 24 = .ok (.newarray .int, 2) := by decide +kernel
theorem dX2_init_26 : decode cX2_init 26 = .ok (.putfield 18, 3) := by decide +kernel
theorem dX2_init_29 : decode cX2_init 29 = .ok (.return_, 1) := by decide +kernel
theorem dX2_clear_0 : decode cX2_clear 0 = .ok (.aload_n 0, 1) := by decide +kernel
theorem dX2_clear_1 : decode cX2_clear 1 = .ok (.iconst 0, 1) := by decide +kernel
theorem dX2_clear_2 : decode cX2_clear 2 = .ok (.putfield 21, 3) := by decide +kernel
theorem dX2_clear_5 : decode cX2_clear 5 = .ok (.aload_n 0, 1) := by decide +kernel
theorem dX2_clear_6 : decode cX2_clear 6 = .ok (.iconst 0, 1) := by decide +kernel
theorem dX2_clear_7 : decode cX2_clear 7 = .ok (.putfield 25, 3) := by decide +kernel
theorem dX2_clear_10 : decode cX2_clear 10 = .ok (.aload_n 0, 1) := by decide +kernel
theorem dX2_clear_11 : decode cX2_clear 11 = .ok (.iconst 0, 1) := by decide +kernel
theorem dX2_clear_12 : decode cX2_clear 12 = .ok (.putfield 28, 3) := by decide +kernel
theorem dX2_clear_15 : decode cX2_clear 15 = .ok (.return_, 1) := by decide +kernel
theorem dX2_isFull_0 : decode cX2_isFull 0 = .ok (.aload_n 0, 1) := by decide +kernel
theorem dX2_isFull_1 : decode cX2_isFull 1 = .ok (.getfield 21, 3) := by decide +kernel
theorem dX2_isFull_4 : decode cX2_isFull 4 = .ok (.bipush 12, 2) := by decide +kernel
theorem dX2_isFull_6 : decode cX2_isFull 6 = .ok (.if_icmp .lt 7, 3) := by decide +kernel
theorem dX2_isFull_9 : decode cX2_isFull 9 = .ok (.iconst 1, 1) := by decide +kernel
theorem dX2_isFull_10 : decode cX2_isFull 10 = .ok (.goto 4, 3) := by decide +kernel
theorem dX2_isFull_13 : decode cX2_isFull 13 = .ok (.iconst 0, 1) := by decide +kernel
theorem dX2_isFull_14 : decode cX2_isFull 14 = .ok (.ireturn, 1) := by decide +kernel
set_option maxRecDepth 20000 in
theorem ggX2_addClause_X2_isFull : GoodIn wsX2_addClause wsX2_isFull := goodIn_r _ [10, 2, 11, 12, 13, 14, 15, 16] (by decide +kernel) (by decide +kernel)
set_option maxRecDepth 20000 in
theorem gX2_addClause_X2_isFull : GoodIn wsX2_addClause (wsV RX2 32 RX2 yX2_isFull wsX2_isFull) := goodIn_app (goodIn_of _ (by decide +kernel)) ggX2_addClause_X2_isFull
theorem dX2_addClause_0 : decode cX2_addClause 0 = .ok (.aload_n 0, 1) := by decide +kernel
theorem dX2_addClause_1 : decode cX2_addClause 1 = .ok (.invokevirtual 32, 3) := by decide +kernel
theorem dX2_addClause_4 : decode cX2_addClause 4 = .ok (.ifCond .ne 57, 3) := by decide +kernel
theorem dX2_addClause_7 : decode cX2_addClause 7 = .ok (.aload_n 0, 1) := by decide +kernel
theorem dX2_addClause_8 : decode cX2_addClause 8 = .ok (.getfield 11, 3) := by decide +kernel
theorem dX2_addClause_11 : decode cX2_addClause 11 = .ok (.aload_n 0, 1) := by decide +kernel
theorem dX2_addClause_12 : decode cX2_addClause 12 = .ok (.getfield 21, 3) := by decide +kernel
theorem dX2_addClause_15 : decode cX2_addClause 15 = .ok (.iload_n 1, 1) := by decide +kernel
theorem dX2_addClause_16 : decode cX2_addClause 16 = .ok (.iastore, 1) := by decide +kernel
theorem dX2_addClause_17 : decode cX2_addClause 17 = .ok (.aload_n 0, 1) := by decide +kernel
theorem dX2_addClause_18 : decode cX2_addClause 18 = .ok (.aload_n 0, 1) := by decide +kernel
theorem dX2_addClause_19 : decode cX2_addClause 19 = .ok (.getfield 28, 3) := by decide +kernel
theorem dX2_addClause_22 : decode cX2_addClause 22 = .ok (.ifCond .ne 8, 3) := by decide +kernel
theorem dX2_addClause_25 : decode cX2_addClause 25 = .ok (.iload_n 1, 1) := by decide +kernel
theorem dX2_addClause_26 : decode cX2_addClause 26 = .ok (.iconst 1, 1) := by decide +kernel
theorem dX2_addClause_27 : decode cX2_addClause 27 = .ok (.if_icmp .ne 7, 3) := by decide +kernel
theorem dX2_addClause_30 : decode cX2_addClause 30 = .ok (.iconst 1, 1) := by decide +kernel
theorem dX2_addClause_31 : decode cX2_addClause 31 = .ok (.goto 4, 3) := by decide +kernel
theorem dX2_addClause_34 : decode cX2_addClause 34 = .ok (.iconst 0, 1) := by decide +kernel
theorem dX2_addClause_35 : decode cX2_addClause 35 = .ok (.putfield 28, 3) := by decide +kernel
theorem dX2_addClause_38 : decode cX2_addClause 38 = .ok (.aload_n 0, 1) := by decide +kernel
theorem dX2_addClause_39 : decode cX2_addClause 39 = .ok (.dup, 1) := by decide +kernel
theorem dX2_addClause_40 : decode cX2_addClause 40 = .ok (.getfield 21, 3) := by decide +kernel
theorem dX2_addClause_43 : decode cX2_addClause 43 = .ok (.iconst 1, 1) := by decide +kernel
theorem dX2_addClause_44 : decode cX2_addClause 44 = .ok (.iadd, 1) := by decide +kernel
theorem dX2_addClause_45 : decode cX2_addClause 45 = .ok (.putfield 21, 3) := by decide +kernel
theorem dX2_addClause_48 : decode cX2_addClause 48 = .ok (.aload_n 0, 1) := by decide +kernel
theorem dX2_addClause_49 : decode cX2_addClause 49 = .ok (.getfield 15, 3) := by decide +kernel
theorem dX2_addClause_52 : decode cX2_addClause 52 = .ok (.aload_n 0, 1) := by decide +kernel
theorem dX2_addClause_53 : decode cX2_addClause 53 = .ok (.getfield 21, 3) := by decide +kernel
theorem dX2_addClause_56 : decode cX2_addClause 56 = .ok (.aload_n 0, 1) := by decide +kernel
theorem dX2_addClause_57 : decode cX2_addClause 57 = .ok (.getfield 25, 3) := by decide +kernel
theorem dX2_addClause_60 : decode cX2_addClause 60 = .ok (.iastore, 1) := by decide +kernel
theorem dX2_addClause_61 : decode cX2_addClause 61 = .ok (.return_, 1) := by decide +kernel
theorem dX2_addToken_0 : decode cX2_addToken 0 = .ok (.aload_n 0, 1) := by decide +kernel
theorem dX2_addToken_1 : decode cX2_addToken 1 = .ok (.getfield 25, 3) := by decide +kernel
theorem dX2_addToken_4 : decode cX2_addToken 4 = .ok (.sipush 400, 3) := by decide +kernel
theorem dX2_addToken_7 : decode cX2_addToken 7 = .ok (.if_icmp .ge 36, 3) := by decide +kernel
theorem dX2_addToken_10 : decode cX2_addToken 10 = .ok (.aload_n 0, 1) := by decide +kernel
theorem dX2_addToken_11 : decode cX2_addToken 11 = .ok (.getfield 18, 3) := by decide +kernel
theorem dX2_addToken_14 : decode cX2_addToken 14 = .ok (.aload_n 0, 1) := by decide +kernel
theorem dX2_addToken_15 : decode cX2_addToken 15 = .ok (.getfield 25, 3) := by decide +kernel
theorem dX2_addToken_18 : decode cX2_addToken 18 = .ok (.iload_n 1, 1) := by decide +kernel
theorem dX2_addToken_19 : decode cX2_addToken 19 = .ok (.iastore, 1) := by decide +kernel
theorem dX2_addToken_20 : decode cX2_addToken 20 = .ok (.aload_n 0, 1) := by decide +kernel
theorem dX2_addToken_21 : decode cX2_addToken 21 = .ok (.dup, 1) := by decide +kernel
theorem dX2_addToken_22 : decode cX2_addToken 22 = .ok (.getfield 25, 3) := by decide +kernel
theorem dX2_addToken_25 : decode cX2_addToken 25 = .ok (.iconst 1, 1) := by decide +kernel
theorem dX2_addToken_26 : decode cX2_addToken 26 = .ok (.iadd, 1) := by decide +kernel
theorem dX2_addToken_27 : decode cX2_addToken 27 = .ok (.putfield 25, 3) := by decide +kernel
theorem dX2_addToken_30 : decode cX2_addToken 30 = .ok (.aload_n 0, 1) := by decide +kernel
theorem dX2_addToken_31 : decode cX2_addToken 31 = .ok (.getfield 15, 3) := by decide +kernel
theorem dX2_addToken_34 : decode cX2_addToken 34 = .ok (.aload_n 0, 1) := by decide +kernel
theorem dX2_addToken_35 : decode cX2_addToken 35 = .ok (.getfield 21, 3) := by decide +kernel
theorem dX2_addToken_38 : decode cX2_addToken 38 = .ok (.aload_n 0, 1) := by decide +kernel
theorem dX2_addToken_39 : decode cX2_addToken 39 = .ok (.getfield 25, 3) := by decide +kernel
theorem dX2_addToken_42 : decode cX2_addToken 42 = .ok (.iastore, 1) := by decide +kernel
theorem dX2_addToken_43 : decode cX2_addToken 43 = .ok (.return_, 1) := by decide +kernel
theorem dX2_deedOf_0 : decode cX2_deedOf 0 = .ok (.aload_n 0, 1) := by decide +kernel
theorem dX2_deedOf_1 : decode cX2_deedOf 1 = .ok (.getfield 11, 3) := by decide +kernel
theorem dX2_deedOf_4 : decode cX2_deedOf 4 = .ok (.iload_n 1, 1) := by decide +kernel
theorem dX2_deedOf_5 : decode cX2_deedOf 5 = .ok (.iaload, 1) := by decide +kernel
theorem dX2_deedOf_6 : decode cX2_deedOf 6 = .ok (.ireturn, 1) := by decide +kernel
theorem dX2_firstToken_0 : decode cX2_firstToken 0 = .ok (.aload_n 0, 1) := by decide +kernel
theorem dX2_firstToken_1 : decode cX2_firstToken 1 = .ok (.getfield 15, 3) := by decide +kernel
theorem dX2_firstToken_4 : decode cX2_firstToken 4 = .ok (.iload_n 1, 1) := by decide +kernel
theorem dX2_firstToken_5 : decode cX2_firstToken 5 = .ok (.iaload, 1) := by decide +kernel
theorem dX2_firstToken_6 : decode cX2_firstToken 6 = .ok (.ireturn, 1) := by decide +kernel
theorem dX2_tokenAt_0 : decode cX2_tokenAt 0 = .ok (.aload_n 0, 1) := by decide +kernel
theorem dX2_tokenAt_1 : decode cX2_tokenAt 1 = .ok (.getfield 18, 3) := by decide +kernel
theorem dX2_tokenAt_4 : decode cX2_tokenAt 4 = .ok (.iload_n 1, 1) := by decide +kernel
theorem dX2_tokenAt_5 : decode cX2_tokenAt 5 = .ok (.iaload, 1) := by decide +kernel
theorem dX2_tokenAt_6 : decode cX2_tokenAt 6 = .ok (.ireturn, 1) := by decide +kernel
theorem dX3_init_0 : decode cX3_init 0 = .ok (.aload_n 0, 1) := by decide +kernel
theorem dX3_init_1 : decode cX3_init 1 = .ok (.invokespecial 3, 3) := by decide +kernel
theorem dX3_init_4 : decode cX3_init 4 = .ok (.aload_n 0, 1) := by decide +kernel
theorem dX3_init_5 : decode cX3_init 5 = .ok (.aload_n 1, 1) := by decide +kernel
theorem dX3_init_6 : decode cX3_init 6 = .ok (.putfield 9, 3) := by decide +kernel
theorem dX3_init_9 : decode cX3_init 9 = .ok (.return_, 1) := by decide +kernel
set_option maxRecDepth 20000 in
theorem ggX3_readInto_X2_clear : GoodIn wsX3_readInto wsX2_clear := goodIn_r _ [9, 10, 11, 12, 189, 190, 191, 192, 193, 194] (by decide +kernel) (by decide +kernel)
set_option maxRecDepth 20000 in
theorem gX3_readInto_X2_clear : GoodIn wsX3_readInto (wsV RX3 19 RX2 yX2_clear wsX2_clear) := goodIn_app (goodIn_of _ (by decide +kernel)) ggX3_readInto_X2_clear
set_option maxRecDepth 20000 in
theorem ggX3_readInto_X6_startReading : GoodIn wsX3_readInto wsX6_startReading := goodIn_r _ [17, 18, 19, 20, 184, 185, 186, 187, 188] (by decide +kernel) (by decide +kernel)
set_option maxRecDepth 20000 in
theorem gX3_readInto_X6_startReading : GoodIn wsX3_readInto (wsV RX3 28 RX6 yX6_startReading wsX6_startReading) := goodIn_app (goodIn_of _ (by decide +kernel)) ggX3_readInto_X6_startReading
set_option maxRecDepth 20000 in
theorem ggX3_readInto_X6_readWord : GoodIn wsX3_readInto wsX6_readWord := goodIn_r _ [24, 18, 25, 19, 26, 27, 28, 16, 29, 30, 31, 32, 33, 34, 35, 36, 37, 38, 39, 40, 41, 42, 43, 44, 45, 46, 47, 48, 49, 50, 51, 52, 53, 54, 55, 56, 57, 58, 59, 60, 61, 62, 63, 64, 65, 66, 67, 68, 69, 70, 71, 72, 73, 74, 75, 76, 77, 78, 79, 80, 81, 82, 83, 84, 85, 86, 87, 20, 184, 185, 186, 187, 188] (by decide +kernel) (by decide +kernel)
set_option maxRecDepth 20000 in
theorem gX3_readInto_X6_readWord : GoodIn wsX3_readInto (wsV RX3 35 RX6 yX6_readWord wsX6_readWord) := goodIn_app (goodIn_of _ (by decide +kernel)) ggX3_readInto_X6_readWord
set_option maxRecDepth 20000 in
theorem ggX3_readInto_X2_isFull : GoodIn wsX3_readInto wsX2_isFull := goodIn_r _ [91, 10, 189, 190, 191, 192, 193, 194] (by decide +kernel) (by decide +kernel)
set_option maxRecDepth 20000 in
theorem gX3_readInto_X2_isFull : GoodIn wsX3_readInto (wsV RX3 39 RX2 yX2_isFull wsX2_isFull) := goodIn_app (goodIn_of _ (by decide +kernel)) ggX3_readInto_X2_isFull
set_option maxRecDepth 20000 in
theorem ggX3_readInto_X6_blame : GoodIn wsX3_readInto wsX6_blame := goodIn_r _ [87, 20, 184, 185, 186, 187, 188] (by decide +kernel) (by decide +kernel)
set_option maxRecDepth 20000 in
theorem gX3_readInto_X6_blame : GoodIn wsX3_readInto (wsV RX3 46 RX6 yX6_blame wsX6_blame) := goodIn_app (goodIn_of _ (by decide +kernel)) ggX3_readInto_X6_blame
set_option maxRecDepth 20000 in
theorem ggX3_readInto_X2_addClause : GoodIn wsX3_readInto wsX2_addClause := goodIn_r _ [96, 97, 10, 12, 98, 11, 99, 89, 90, 8, 91, 189, 190, 191, 192, 193, 194] (by decide +kernel) (by decide +kernel)
set_option maxRecDepth 20000 in
theorem gX3_readInto_X2_addClause : GoodIn wsX3_readInto (wsV RX3 50 RX2 yX2_addClause wsX2_addClause) := goodIn_app (goodIn_of _ (by decide +kernel)) ggX3_readInto_X2_addClause
set_option maxRecDepth 20000 in
theorem ggX3_readInto_X6_isFaulty : GoodIn wsX3_readInto wsX6_isFaulty := goodIn_r _ [103, 20, 184, 185, 186, 187, 188] (by decide +kernel) (by decide +kernel)
set_option maxRecDepth 20000 in
theorem gX3_readInto_X6_isFaulty : GoodIn wsX3_readInto (wsV RX3 54 RX6 yX6_isFaulty wsX6_isFaulty) := goodIn_app (goodIn_of _ (by decide +kernel)) ggX3_readInto_X6_isFaulty
set_option maxRecDepth 20000 in
theorem ggX3_readInto_X6_takeWord : GoodIn wsX3_readInto wsX6_takeWord := goodIn_r _ [107, 18, 25, 26, 27, 28, 16, 29, 30, 19, 31, 32, 33, 34, 35, 36, 37, 38, 39, 40, 41, 42, 43, 44, 45, 46, 47, 48, 49, 50, 51, 52, 53, 54, 55, 56, 57, 58, 59, 60, 61, 62, 63, 64, 65, 66, 67, 68, 69, 70, 71, 72, 73, 74, 75, 76, 77, 78, 79, 80, 81, 82, 83, 184, 185, 186, 187, 188] (by decide +kernel) (by decide +kernel)
set_option maxRecDepth 20000 in
theorem gX3_readInto_X6_takeWord : GoodIn wsX3_readInto (wsV RX3 59 RX6 yX6_takeWord wsX6_takeWord) := goodIn_app (goodIn_of _ (by decide +kernel)) ggX3_readInto_X6_takeWord
set_option maxRecDepth 20000 in
theorem ggX3_readInto_X3_readTest : GoodIn wsX3_readInto wsX3_readTest := goodIn_r _ [112, 3, 1, 113, 114, 115, 111, 100, 101, 102, 16, 103, 20, 104, 105, 106, 107, 18, 25, 26, 27, 28, 29, 30, 19, 31, 32, 33, 34, 35, 36, 37, 38, 39, 40, 41, 42, 43, 44, 45, 46, 47, 48, 49, 50, 51, 52, 53, 54, 55, 56, 57, 58, 59, 60, 61, 62, 63, 64, 65, 66, 67, 68, 69, 70, 71, 72, 73, 74, 75, 76, 77, 78, 79, 80, 81, 82, 83, 116, 117, 118, 8, 119, 11, 120, 98, 10, 121, 122, 123, 124, 125, 4, 126, 127, 128, 129, 130, 131, 132, 133, 134, 135, 136, 137, 138, 139, 140, 141, 142, 143, 144, 145, 146, 147, 148, 149, 150, 151, 152, 84, 85, 86, 87, 21, 22, 23, 24, 153, 154, 155, 156, 2, 92, 157, 158, 159, 160, 161, 162, 163, 164, 165, 166, 167, 168, 169, 170, 171, 172, 173, 108, 109, 110, 181, 182, 183, 184, 185, 186, 187, 188, 189, 190, 191, 192, 193, 194] (by decide +kernel) (by decide +kernel)
set_option maxRecDepth 20000 in
theorem gX3_readInto_X3_readTest : GoodIn wsX3_readInto (wsV RX3 63 RX3 yX3_readTest wsX3_readTest) := goodIn_app (goodIn_of _ (by decide +kernel)) ggX3_readInto_X3_readTest
set_option maxRecDepth 20000 in
theorem ggX3_readInto_X6_takeSemicolon : GoodIn wsX3_readInto wsX6_takeSemicolon := goodIn_r _ [177, 151, 101, 102, 16, 103, 20, 178, 127, 128, 129, 26, 27, 28, 29, 18, 30, 25, 19, 130, 131, 132, 133, 179, 171, 172, 173, 180, 167, 168, 169, 84, 85, 86, 87, 184, 185, 186, 187, 188] (by decide +kernel) (by decide +kernel)
set_option maxRecDepth 20000 in
theorem gX3_readInto_X6_takeSemicolon : GoodIn wsX3_readInto (wsV RX3 66 RX6 yX6_takeSemicolon wsX6_takeSemicolon) := goodIn_app (goodIn_of _ (by decide +kernel)) ggX3_readInto_X6_takeSemicolon
theorem dX3_readInto_0 : decode cX3_readInto 0 = .ok (.aload_n 0, 1) := by decide +kernel
theorem dX3_readInto_1 : decode cX3_readInto 1 = .ok (.aload_n 1, 1) := by decide +kernel
theorem dX3_readInto_2 : decode cX3_readInto 2 = .ok (.putfield 15, 3) := by decide +kernel
theorem dX3_readInto_5 : decode cX3_readInto 5 = .ok (.aload_n 0, 1) := by decide +kernel
theorem dX3_readInto_6 : decode cX3_readInto 6 = .ok (.getfield 15, 3) := by decide +kernel
theorem dX3_readInto_9 : decode cX3_readInto 9 = .ok (.invokevirtual 19, 3) := by decide +kernel
theorem dX3_readInto_12 : decode cX3_readInto 12 = .ok (.aload_n 0, 1) := by decide +kernel
theorem dX3_readInto_13 : decode cX3_readInto 13 = .ok (.iconst 0, 1) := by decide +kernel
theorem dX3_readInto_14 : decode cX3_readInto 14 = .ok (.putfield 24, 3) := by decide +kernel
theorem dX3_readInto_17 : decode cX3_readInto 17 = .ok (.aload_n 0, 1) := by decide +kernel
theorem dX3_readInto_18 : decode cX3_readInto 18 = .ok (.getfield 9, 3) := by decide +kernel
theorem dX3_readInto_21 : decode cX3_readInto 21 = .ok (.invokevirtual 28, 3) := by decide +kernel
theorem dX3_readInto_24 : decode cX3_readInto 24 = .ok (.iconst 1, 1) := by decide +kernel
theorem dX3_readInto_25 : decode cX3_readInto 25 = .ok (.istore_n 2, 1) := by decide +kernel
theorem dX3_readInto_26 : decode cX3_readInto 26 = .ok (.iconst 0, 1) := by decide +kernel
theorem dX3_readInto_27 : decode cX3_readInto 27 = .ok (.istore_n 3, 1) := by decide +kernel
theorem dX3_readInto_28 : decode cX3_readInto 28 = .ok (.iload_n 2, 1) := by decide +kernel
theorem dX3_readInto_29 : decode cX3_readInto 29 = .ok (.ifCond .eq 95, 3) := by decide +kernel
theorem dX3_readInto_32 : decode cX3_readInto 32 = .ok (.iload_n 3, 1) := by decide +kernel
theorem dX3_readInto_33 : decode cX3_readInto 33 = .ok (.bipush 12, 2) := by decide +kernel
theorem dX3_readInto_35 : decode cX3_readInto 35 = .ok (.if_icmp .gt 89, 3) := by decide +kernel
theorem dX3_readInto_38 : decode cX3_readInto 38 = .ok (.aload_n 0, 1) := by decide +kernel
theorem dX3_readInto_39 : decode cX3_readInto 39 = .ok (.getfield 9, 3) := by decide +kernel
theorem dX3_readInto_42 : decode cX3_readInto 42 = .ok (.ldc 33, 2) := by decide +kernel
theorem dX3_readInto_44 : decode cX3_readInto 44 = .ok (.invokevirtual 35, 3) := by decide +kernel
theorem dX3_readInto_47 : decode cX3_readInto 47 = .ok (.istore 4, 2) := by decide +kernel
theorem dX3_readInto_49 : decode cX3_readInto 49 = .ok (.aload_n 0, 1) := by decide +kernel
theorem dX3_readInto_50 : decode cX3_readInto 50 = .ok (.getfield 15, 3) := by decide +kernel
theorem dX3_readInto_53 : decode cX3_readInto 53 = .ok (.invokevirtual 39, 3) := by decide +kernel
theorem dX3_readInto_56 : decode cX3_readInto 56 = .ok (.ifCond .eq 18, 3) := by decide +kernel
theorem dX3_readInto_59 : decode cX3_readInto 59 = .ok (.aload_n 0, 1) := by decide +kernel
theorem dX3_readInto_60 : decode cX3_readInto 60 = .ok (.getfield 9, 3) := by decide +kernel
theorem dX3_readInto_63 : decode cX3_readInto 63 = .ok (.aload_n 0, 1) := by decide +kernel
theorem dX3_readInto_64 : decode cX3_readInto 64 = .ok (.getfield 9, 3) := by decide +kernel
theorem dX3_readInto_67 : decode cX3_readInto 67 = .ok (.getfield 43, 3) := by decide +kernel
theorem dX3_readInto_70 : decode cX3_readInto 70 = .ok (.iconst 4, 1) := by decide +kernel
theorem dX3_readInto_71 : decode cX3_readInto 71 = .ok (.invokevirtual 46, 3) := by decide +kernel
theorem dX3_readInto_74 : decode cX3_readInto 74 = .ok (.aload_n 0, 1) := by decide +kernel
theorem dX3_readInto_75 : decode cX3_readInto 75 = .ok (.getfield 15, 3) := by decide +kernel
theorem dX3_readInto_78 : decode cX3_readInto 78 = .ok (.iload 4, 2) := by decide +kernel
theorem dX3_readInto_80 : decode cX3_readInto 80 = .ok (.invokevirtual 50, 3) := by decide +kernel
theorem dX3_readInto_83 : decode cX3_readInto 83 = .ok (.aload_n 0, 1) := by decide +kernel
theorem dX3_readInto_84 : decode cX3_readInto 84 = .ok (.getfield 9, 3) := by decide +kernel
theorem dX3_readInto_87 : decode cX3_readInto 87 = .ok (.invokevirtual 54, 3) := by decide +kernel
theorem dX3_readInto_90 : decode cX3_readInto 90 = .ok (.ifCond .ne 20, 3) := by decide +kernel
theorem dX3_readInto_93 : decode cX3_readInto 93 = .ok (.aload_n 0, 1) := by decide +kernel
theorem dX3_readInto_94 : decode cX3_readInto 94 = .ok (.getfield 9, 3) := by decide +kernel
theorem dX3_readInto_97 : decode cX3_readInto 97 = .ok (.ldc 57, 2) := by decide +kernel
theorem dX3_readInto_99 : decode cX3_readInto 99 = .ok (.invokevirtual 59, 3) := by decide +kernel
theorem dX3_readInto_102 : decode cX3_readInto 102 = .ok (.ifCond .eq 8, 3) := by decide +kernel
theorem dX3_readInto_105 : decode cX3_readInto 105 = .ok (.aload_n 0, 1) := by decide +kernel
theorem dX3_readInto_106 : decode cX3_readInto 106 = .ok (.iconst 0, 1) := by decide +kernel
theorem dX3_readInto_107 : decode cX3_readInto 107 = .ok (.invokevirtual 63, 3) := by decide +kernel
theorem dX3_readInto_110 : decode cX3_readInto 110 = .ok (.aload_n 0, 1) := by decide +kernel
theorem dX3_readInto_111 : decode cX3_readInto 111 = .ok (.getfield 9, 3) := by decide +kernel
theorem dX3_readInto_114 : decode cX3_readInto 114 = .ok (.invokevirtual 66, 3) := by decide +kernel
theorem dX3_readInto_117 : decode cX3_readInto 117 = .ok (.istore_n 2, 1) := by decide +kernel
theorem dX3_readInto_118 : decode cX3_readInto 118 = .ok (.iinc 3 1, 3) := by decide +kernel
theorem dX3_readInto_121 : decode cX3_readInto 121 = .ok (.goto (-93), 3) := by decide +kernel
theorem dX3_readInto_124 : decode cX3_readInto 124 = .ok (.return_, 1) := by decide +kernel
set_option maxRecDepth 20000 in
theorem ggX3_readTest_X3_readFact : GoodIn wsX3_readTest wsX3_readFact := goodIn_r _ [91, 1, 2, 92, 7, 8, 9, 10, 11, 12, 13, 14, 15, 16, 17, 18, 19, 20, 21, 22, 23, 24, 25, 26, 27, 28, 29, 30, 31, 32, 33, 34, 35, 36, 37, 38, 39, 40, 41, 42, 43, 44, 45, 46, 47, 48, 49, 50, 51, 52, 53, 54, 55, 56, 57, 58, 59, 60, 61, 62, 63, 64, 65, 66, 67, 68, 69, 70, 71, 72, 73, 74, 75, 76, 77, 93, 94, 95, 96, 97, 98, 99, 100, 101, 102, 103, 6, 104, 105, 106, 107, 108, 109, 110, 111, 112, 113, 114, 115, 116, 117, 118, 119, 120, 121, 122, 123, 78, 79, 80, 81, 82, 83, 84, 85, 86, 124, 125, 126, 127, 128, 129, 130, 131, 132, 133, 134, 135, 136, 137, 138, 87, 88, 89, 90, 139, 140, 141, 142, 143, 144, 145, 146, 147, 148, 149, 150, 3, 4, 5, 151, 152, 153, 0, 154, 155, 156, 157, 158, 159, 160, 161, 162, 163, 164, 165, 166, 167] (by decide +kernel) (by decide +kernel)
set_option maxRecDepth 20000 in
theorem gX3_readTest_X3_readFact : GoodIn wsX3_readTest (wsV RX3 69 RX3 yX3_readFact wsX3_readFact) := goodIn_app (goodIn_of _ (by decide +kernel)) ggX3_readTest_X3_readFact
set_option maxRecDepth 20000 in
theorem ggX3_readTest_X6_isFaulty : GoodIn wsX3_readTest wsX6_isFaulty := goodIn_r _ [11, 12, 157, 158, 159, 160, 161] (by decide +kernel) (by decide +kernel)
set_option maxRecDepth 20000 in
theorem gX3_readTest_X6_isFaulty : GoodIn wsX3_readTest (wsV RX3 54 RX6 yX6_isFaulty wsX6_isFaulty) := goodIn_app (goodIn_of _ (by decide +kernel)) ggX3_readTest_X6_isFaulty
set_option maxRecDepth 20000 in
theorem ggX3_readTest_X6_takeWord : GoodIn wsX3_readTest wsX6_takeWord := goodIn_r _ [16, 17, 18, 19, 20, 21, 10, 22, 23, 24, 25, 26, 27, 28, 29, 30, 31, 32, 33, 34, 35, 36, 37, 38, 39, 40, 41, 42, 43, 44, 45, 46, 47, 48, 49, 50, 51, 52, 53, 54, 55, 56, 57, 58, 59, 60, 61, 62, 63, 64, 65, 66, 67, 68, 69, 70, 71, 72, 73, 74, 75, 76, 77, 157, 158, 159, 160, 161] (by decide +kernel) (by decide +kernel)
set_option maxRecDepth 20000 in
theorem gX3_readTest_X6_takeWord : GoodIn wsX3_readTest (wsV RX3 59 RX6 yX6_takeWord wsX6_takeWord) := goodIn_app (goodIn_of _ (by decide +kernel)) ggX3_readTest_X6_takeWord
set_option maxRecDepth 20000 in
theorem ggX3_readTest_X2_addToken : GoodIn wsX3_readTest wsX2_addToken := goodIn_r _ [82, 83, 84, 85, 86, 162, 163, 164, 165, 166, 167] (by decide +kernel) (by decide +kernel)
set_option maxRecDepth 20000 in
theorem gX3_readTest_X2_addToken : GoodIn wsX3_readTest (wsV RX3 74 RX2 yX2_addToken wsX2_addToken) := goodIn_app (goodIn_of _ (by decide +kernel)) ggX3_readTest_X2_addToken
set_option maxRecDepth 20000 in
theorem ggX3_readTest_X3_addWaiting : GoodIn wsX3_readTest wsX3_addWaiting := goodIn_r _ [90, 2, 78, 79, 80, 81, 82, 83, 84, 85, 86, 154, 155, 156, 162, 163, 164, 165, 166, 167] (by decide +kernel) (by decide +kernel)
set_option maxRecDepth 20000 in
theorem gX3_readTest_X3_addWaiting : GoodIn wsX3_readTest (wsV RX3 79 RX3 yX3_addWaiting wsX3_addWaiting) := goodIn_app (goodIn_of _ (by decide +kernel)) ggX3_readTest_X3_addWaiting
theorem dX3_readTest_0 : decode cX3_readTest 0 = .ok (.aload_n 0, 1) := by decide +kernel
theorem dX3_readTest_1 : decode cX3_readTest 1 = .ok (.iload_n 1, 1) := by decide +kernel
theorem dX3_readTest_2 : decode cX3_readTest 2 = .ok (.invokevirtual 69, 3) := by decide +kernel
theorem dX3_readTest_5 : decode cX3_readTest 5 = .ok (.iconst (-1), 1) := by decide +kernel
theorem dX3_readTest_6 : decode cX3_readTest 6 = .ok (.istore_n 2, 1) := by decide +kernel
theorem dX3_readTest_7 : decode cX3_readTest 7 = .ok (.iconst 0, 1) := by decide +kernel
theorem dX3_readTest_8 : decode cX3_readTest 8 = .ok (.istore_n 3, 1) := by decide +kernel
theorem dX3_readTest_9 : decode cX3_readTest 9 = .ok (.iload_n 3, 1) := by decide +kernel
theorem dX3_readTest_10 : decode cX3_readTest 10 = .ok (.sipush 400, 3) := by decide +kernel
theorem dX3_readTest_13 : decode cX3_readTest 13 = .ok (.if_icmp .ge 73, 3) := by decide +kernel
theorem dX3_readTest_16 : decode cX3_readTest 16 = .ok (.aload_n 0, 1) := by decide +kernel
theorem dX3_readTest_17 : decode cX3_readTest 17 = .ok (.getfield 9, 3) := by decide +kernel
theorem dX3_readTest_20 : decode cX3_readTest 20 = .ok (.invokevirtual 54, 3) := by decide +kernel
theorem dX3_readTest_23 : decode cX3_readTest 23 = .ok (.ifCond .ne 63, 3) := by decide +kernel
theorem dX3_readTest_26 : decode cX3_readTest 26 = .ok (.aload_n 0, 1) := by decide +kernel
theorem dX3_readTest_27 : decode cX3_readTest 27 = .ok (.getfield 9, 3) := by decide +kernel
theorem dX3_readTest_30 : decode cX3_readTest 30 = .ok (.ldc 72, 2) := by decide +kernel
theorem dX3_readTest_32 : decode cX3_readTest 32 = .ok (.invokevirtual 59, 3) := by decide +kernel
theorem dX3_readTest_35 : decode cX3_readTest 35 = .ok (.ifCond .eq 20, 3) := by decide +kernel
theorem dX3_readTest_38 : decode cX3_readTest 38 = .ok (.aload_n 0, 1) := by decide +kernel
theorem dX3_readTest_39 : decode cX3_readTest 39 = .ok (.iload_n 1, 1) := by decide +kernel
theorem dX3_readTest_40 : decode cX3_readTest 40 = .ok (.invokevirtual 69, 3) := by decide +kernel
theorem dX3_readTest_43 : decode cX3_readTest 43 = .ok (.aload_n 0, 1) := by decide +kernel
theorem dX3_readTest_44 : decode cX3_readTest 44 = .ok (.getfield 15, 3) := by decide +kernel
theorem dX3_readTest_47 : decode cX3_readTest 47 = .ok (.bipush 20, 2) := by decide +kernel
theorem dX3_readTest_49 : decode cX3_readTest 49 = .ok (.invokevirtual 74, 3) := by decide +kernel
theorem dX3_readTest_52 : decode cX3_readTest 52 = .ok (.goto 28, 3) := by decide +kernel
theorem dX3_readTest_55 : decode cX3_readTest 55 = .ok (.aload_n 0, 1) := by decide +kernel
theorem dX3_readTest_56 : decode cX3_readTest 56 = .ok (.getfield 9, 3) := by decide +kernel
theorem dX3_readTest_59 : decode cX3_readTest 59 = .ok (.ldc 77, 2) := by decide +kernel
theorem dX3_readTest_61 : decode cX3_readTest 61 = .ok (.invokevirtual 59, 3) := by decide +kernel
theorem dX3_readTest_64 : decode cX3_readTest 64 = .ok (.ifCond .eq 22, 3) := by decide +kernel
theorem dX3_readTest_67 : decode cX3_readTest 67 = .ok (.aload_n 0, 1) := by decide +kernel
theorem dX3_readTest_68 : decode cX3_readTest 68 = .ok (.iload_n 2, 1) := by decide +kernel
theorem dX3_readTest_69 : decode cX3_readTest 69 = .ok (.invokevirtual 79, 3) := by decide +kernel
theorem dX3_readTest_72 : decode cX3_readTest 72 = .ok (.bipush 21, 2) := by decide +kernel
theorem dX3_readTest_74 : decode cX3_readTest 74 = .ok (.istore_n 2, 1) := by decide +kernel
theorem dX3_readTest_75 : decode cX3_readTest 75 = .ok (.aload_n 0, 1) := by decide +kernel
theorem dX3_readTest_76 : decode cX3_readTest 76 = .ok (.iload_n 1, 1) := by decide +kernel
theorem dX3_readTest_77 : decode cX3_readTest 77 = .ok (.invokevirtual 69, 3) := by decide +kernel
theorem dX3_readTest_80 : decode cX3_readTest 80 = .ok (.iinc 3 1, 3) := by decide +kernel
theorem dX3_readTest_83 : decode cX3_readTest 83 = .ok (.goto (-74), 3) := by decide +kernel
theorem dX3_readTest_86 : decode cX3_readTest 86 = .ok (.aload_n 0, 1) := by decide +kernel
theorem dX3_readTest_87 : decode cX3_readTest 87 = .ok (.iload_n 2, 1) := by decide +kernel
theorem dX3_readTest_88 : decode cX3_readTest 88 = .ok (.invokevirtual 79, 3) := by decide +kernel
theorem dX3_readTest_91 : decode cX3_readTest 91 = .ok (.return_, 1) := by decide +kernel
set_option maxRecDepth 20000 in
theorem ggX3_readFact_X6_isFaulty : GoodIn wsX3_readFact wsX6_isFaulty := goodIn_r _ [8, 9, 157, 158, 159, 160, 161] (by decide +kernel) (by decide +kernel)
set_option maxRecDepth 20000 in
theorem gX3_readFact_X6_isFaulty : GoodIn wsX3_readFact (wsV RX3 54 RX6 yX6_isFaulty wsX6_isFaulty) := goodIn_app (goodIn_of _ (by decide +kernel)) ggX3_readFact_X6_isFaulty
set_option maxRecDepth 20000 in
theorem ggX3_readFact_X6_takeWord : GoodIn wsX3_readFact wsX6_takeWord := goodIn_r _ [13, 14, 15, 16, 17, 18, 7, 19, 20, 21, 22, 23, 24, 25, 26, 27, 28, 29, 30, 31, 32, 33, 34, 35, 36, 37, 38, 39, 40, 41, 42, 43, 44, 45, 46, 47, 48, 49, 50, 51, 52, 53, 54, 55, 56, 57, 58, 59, 60, 61, 62, 63, 64, 65, 66, 67, 68, 69, 70, 71, 72, 73, 74, 157, 158, 159, 160, 161] (by decide +kernel) (by decide +kernel)
set_option maxRecDepth 20000 in
theorem gX3_readFact_X6_takeWord : GoodIn wsX3_readFact (wsV RX3 59 RX6 yX6_takeWord wsX6_takeWord) := goodIn_app (goodIn_of _ (by decide +kernel)) ggX3_readFact_X6_takeWord
set_option maxRecDepth 20000 in
theorem ggX3_readFact_X6_takeByte : GoodIn wsX3_readFact wsX6_takeByte := goodIn_r _ [78, 16, 17, 18, 7, 19, 14, 20, 15, 21, 79, 80, 81, 82, 157, 158, 159, 160, 161] (by decide +kernel) (by decide +kernel)
set_option maxRecDepth 20000 in
theorem gX3_readFact_X6_takeByte : GoodIn wsX3_readFact (wsV RX3 84 RX6 yX6_takeByte wsX6_takeByte) := goodIn_app (goodIn_of _ (by decide +kernel)) ggX3_readFact_X6_takeByte
set_option maxRecDepth 20000 in
theorem ggX3_readFact_X3_readSum : GoodIn wsX3_readFact wsX3_readSum := goodIn_r _ [87, 1, 2, 88, 89, 90, 86, 91, 92, 4, 5, 6, 7, 8, 9, 93, 17, 18, 19, 14, 20, 15, 21, 94, 95, 96, 97, 98, 99, 100, 101, 16, 102, 103, 104, 105, 106, 107, 108, 109, 110, 111, 112, 113, 114, 115, 116, 117, 118, 119, 22, 23, 24, 25, 26, 27, 28, 29, 30, 31, 32, 33, 34, 35, 36, 37, 38, 39, 40, 41, 42, 43, 44, 45, 46, 47, 48, 49, 50, 51, 52, 53, 54, 55, 56, 57, 58, 59, 60, 61, 62, 63, 64, 65, 66, 67, 68, 69, 70, 71, 72, 73, 74, 120, 121, 122, 123, 124, 3, 125, 126, 127, 128, 129, 130, 80, 81, 82, 131, 132, 133, 134, 154, 155, 156, 157, 158, 159, 160, 161, 162, 163, 164, 165, 166, 167] (by decide +kernel) (by decide +kernel)
set_option maxRecDepth 20000 in
theorem gX3_readFact_X3_readSum : GoodIn wsX3_readFact (wsV RX3 88 RX3 yX3_readSum wsX3_readSum) := goodIn_app (goodIn_of _ (by decide +kernel)) ggX3_readFact_X3_readSum
set_option maxRecDepth 20000 in
theorem ggX3_readFact_X3_readSign : GoodIn wsX3_readFact wsX3_readSign := goodIn_r _ [138, 1, 4, 5, 6, 7, 8, 9, 93, 17, 18, 19, 14, 20, 15, 21, 139, 140, 141, 142, 103, 104, 105, 106, 120, 121, 122, 86, 123, 124, 3, 125, 130, 80, 81, 82, 143, 144, 145, 146, 154, 155, 156, 157, 158, 159, 160, 161] (by decide +kernel) (by decide +kernel)
set_option maxRecDepth 20000 in
theorem gX3_readFact_X3_readSign : GoodIn wsX3_readFact (wsV RX3 91 RX3 yX3_readSign wsX3_readSign) := goodIn_app (goodIn_of _ (by decide +kernel)) ggX3_readFact_X3_readSign
set_option maxRecDepth 20000 in
theorem ggX3_readFact_X2_addToken : GoodIn wsX3_readFact wsX2_addToken := goodIn_r _ [111, 112, 113, 114, 115, 162, 163, 164, 165, 166, 167] (by decide +kernel) (by decide +kernel)
set_option maxRecDepth 20000 in
theorem gX3_readFact_X2_addToken : GoodIn wsX3_readFact (wsV RX3 74 RX2 yX2_addToken wsX2_addToken) := goodIn_app (goodIn_of _ (by decide +kernel)) ggX3_readFact_X2_addToken
set_option maxRecDepth 20000 in
theorem ggX3_readFact_X6_blame : GoodIn wsX3_readFact wsX6_blame := goodIn_r _ [106, 9, 157, 158, 159, 160, 161] (by decide +kernel) (by decide +kernel)
set_option maxRecDepth 20000 in
theorem gX3_readFact_X6_blame : GoodIn wsX3_readFact (wsV RX3 46 RX6 yX6_blame wsX6_blame) := goodIn_app (goodIn_of _ (by decide +kernel)) ggX3_readFact_X6_blame
set_option maxRecDepth 20000 in
theorem ggX3_readFact_X3_readFact : GoodIn wsX3_readFact wsX3_readFact := goodIn_r _ [0, 1, 2, 3, 4, 5, 6, 7, 8, 9, 10, 11, 12, 13, 14, 15, 16, 17, 18, 19, 20, 21, 22, 23, 24, 25, 26, 27, 28, 29, 30, 31, 32, 33, 34, 35, 36, 37, 38, 39, 40, 41, 42, 43, 44, 45, 46, 47, 48, 49, 50, 51, 52, 53, 54, 55, 56, 57, 58, 59, 60, 61, 62, 63, 64, 65, 66, 67, 68, 69, 70, 71, 72, 73, 74, 75, 76, 77, 78, 79, 80, 81, 82, 83, 84, 85, 86, 87, 88, 89, 90, 91, 92, 93, 94, 95, 96, 97, 98, 99, 100, 101, 102, 103, 104, 105, 106, 107, 108, 109, 110, 111, 112, 113, 114, 115, 116, 117, 118, 119, 120, 121, 122, 123, 124, 125, 126, 127, 128, 129, 130, 131, 132, 133, 134, 135, 136, 137, 138, 139, 140, 141, 142, 143, 144, 145, 146, 147, 148, 149, 150, 151, 152, 153, 154, 155, 156, 157, 158, 159, 160, 161, 162, 163, 164, 165, 166, 167] (by decide +kernel) (by decide +kernel)
set_option maxRecDepth 20000 in
theorem gX3_readFact_X3_readFact : GoodIn wsX3_readFact (wsV RX3 69 RX3 yX3_readFact wsX3_readFact) := goodIn_app (goodIn_of _ (by decide +kernel)) ggX3_readFact_X3_readFact
set_option maxRecDepth 20000 in
theorem ggX3_readFact_X3_readTest : GoodIn wsX3_readFact wsX3_readTest := goodIn_r _ [153, 1, 2, 147, 148, 149, 86, 4, 5, 6, 7, 8, 9, 10, 11, 12, 13, 14, 15, 16, 17, 18, 19, 20, 21, 22, 23, 24, 25, 26, 27, 28, 29, 30, 31, 32, 33, 34, 35, 36, 37, 38, 39, 40, 41, 42, 43, 44, 45, 46, 47, 48, 49, 50, 51, 52, 53, 54, 55, 56, 57, 58, 59, 60, 61, 62, 63, 64, 65, 66, 67, 68, 69, 70, 71, 72, 73, 74, 107, 108, 109, 110, 111, 112, 113, 114, 115, 131, 132, 133, 134, 0, 3, 75, 76, 77, 78, 79, 80, 81, 82, 83, 84, 85, 87, 88, 89, 90, 91, 92, 93, 94, 95, 96, 97, 98, 99, 100, 101, 102, 103, 104, 105, 106, 116, 117, 118, 119, 120, 121, 122, 123, 124, 125, 126, 127, 128, 129, 130, 135, 136, 137, 138, 139, 140, 141, 142, 143, 144, 145, 146, 150, 151, 152, 154, 155, 156, 157, 158, 159, 160, 161, 162, 163, 164, 165, 166, 167] (by decide +kernel) (by decide +kernel)
set_option maxRecDepth 20000 in
theorem gX3_readFact_X3_readTest : GoodIn wsX3_readFact (wsV RX3 63 RX3 yX3_readTest wsX3_readTest) := goodIn_app (goodIn_of _ (by decide +kernel)) ggX3_readFact_X3_readTest
set_option maxRecDepth 20000 in
theorem ggX3_readFact_X6_blameHere : GoodIn wsX3_readFact wsX6_blameHere := goodIn_r _ [142, 14, 103, 104, 105, 7, 106, 9, 157, 158, 159, 160, 161] (by decide +kernel) (by decide +kernel)
set_option maxRecDepth 20000 in
theorem gX3_readFact_X6_blameHere : GoodIn wsX3_readFact (wsV RX3 95 RX6 yX6_blameHere wsX6_blameHere) := goodIn_app (goodIn_of _ (by decide +kernel)) ggX3_readFact_X6_blameHere
theorem dX3_readFact_0 : decode cX3_readFact 0 = .ok (.aload_n 0, 1) := by decide +kernel
theorem dX3_readFact_1 : decode cX3_readFact 1 = .ok (.getfield 9, 3) := by decide +kernel
theorem dX3_readFact_4 : decode cX3_readFact 4 = .ok (.invokevirtual 54, 3) := by decide +kernel
theorem dX3_readFact_7 : decode cX3_readFact 7 = .ok (.ifCond .eq 4, 3) := by decide +kernel
theorem dX3_readFact_10 : decode cX3_readFact 10 = .ok (.return_, 1) := by decide +kernel
theorem dX3_readFact_11 : decode cX3_readFact 11 = .ok (.aload_n 0, 1) := by decide +kernel
theorem dX3_readFact_12 : decode cX3_readFact 12 = .ok (.getfield 9, 3) := by decide +kernel
theorem dX3_readFact_15 : decode cX3_readFact 15 = .ok (.ldc 82, 2) := by decide +kernel
theorem dX3_readFact_17 : decode cX3_readFact 17 = .ok (.invokevirtual 59, 3) := by decide +kernel
theorem dX3_readFact_20 : decode cX3_readFact 20 = .ok (.istore_n 2, 1) := by decide +kernel
theorem dX3_readFact_21 : decode cX3_readFact 21 = .ok (.iload_n 2, 1) := by decide +kernel
theorem dX3_readFact_22 : decode cX3_readFact 22 = .ok (.ifCond .ne 19, 3) := by decide +kernel
theorem dX3_readFact_25 : decode cX3_readFact 25 = .ok (.aload_n 0, 1) := by decide +kernel
theorem dX3_readFact_26 : decode cX3_readFact 26 = .ok (.getfield 9, 3) := by decide +kernel
theorem dX3_readFact_29 : decode cX3_readFact 29 = .ok (.bipush 91, 2) := by decide +kernel
theorem dX3_readFact_31 : decode cX3_readFact 31 = .ok (.invokevirtual 84, 3) := by decide +kernel
theorem dX3_readFact_34 : decode cX3_readFact 34 = .ok (.ifCond .eq 7, 3) := by decide +kernel
theorem dX3_readFact_37 : decode cX3_readFact 37 = .ok (.iconst 1, 1) := by decide +kernel
theorem dX3_readFact_38 : decode cX3_readFact 38 = .ok (.goto 4, 3) := by decide +kernel
theorem dX3_readFact_41 : decode cX3_readFact 41 = .ok (.iconst 0, 1) := by decide +kernel
theorem dX3_readFact_42 : decode cX3_readFact 42 = .ok (.istore_n 3, 1) := by decide +kernel
theorem dX3_readFact_43 : decode cX3_readFact 43 = .ok (.iload_n 2, 1) := by decide +kernel
theorem dX3_readFact_44 : decode cX3_readFact 44 = .ok (.ifCond .ne 33, 3) := by decide +kernel
theorem dX3_readFact_47 : decode cX3_readFact 47 = .ok (.iload_n 3, 1) := by decide +kernel
theorem dX3_readFact_48 : decode cX3_readFact 48 = .ok (.ifCond .ne 29, 3) := by decide +kernel
theorem dX3_readFact_51 : decode cX3_readFact 51 = .ok (.aload_n 0, 1) := by decide +kernel
theorem dX3_readFact_52 : decode cX3_readFact 52 = .ok (.invokevirtual 88, 3) := by decide +kernel
theorem dX3_readFact_55 : decode cX3_readFact 55 = .ok (.aload_n 0, 1) := by decide +kernel
theorem dX3_readFact_56 : decode cX3_readFact 56 = .ok (.invokevirtual 91, 3) := by decide +kernel
theorem dX3_readFact_59 : decode cX3_readFact 59 = .ok (.istore 4, 2) := by decide +kernel
theorem dX3_readFact_61 : decode cX3_readFact 61 = .ok (.aload_n 0, 1) := by decide +kernel
theorem dX3_readFact_62 : decode cX3_readFact 62 = .ok (.invokevirtual 88, 3) := by decide +kernel
theorem dX3_readFact_65 : decode cX3_readFact 65 = .ok (.aload_n 0, 1) := by decide +kernel
theorem dX3_readFact_66 : decode cX3_readFact 66 = .ok (.getfield 15, 3) := by decide +kernel
theorem dX3_readFact_69 : decode cX3_readFact 69 = .ok (.iload 4, 2) := by decide +kernel
theorem dX3_readFact_71 : decode cX3_readFact 71 = .ok (.invokevirtual 74, 3) := by decide +kernel
theorem dX3_readFact_74 : decode cX3_readFact 74 = .ok (.goto 86, 3) := by decide +kernel
theorem dX3_readFact_77 : decode cX3_readFact 77 = .ok (.iload_n 1, 1) := by decide +kernel
theorem dX3_readFact_78 : decode cX3_readFact 78 = .ok (.bipush 10, 2) := by decide +kernel
theorem dX3_readFact_80 : decode cX3_readFact 80 = .ok (.if_icmp .lt 21, 3) := by decide +kernel
theorem dX3_readFact_83 : decode cX3_readFact 83 = .ok (.aload_n 0, 1) := by decide +kernel
theorem dX3_readFact_84 : decode cX3_readFact 84 = .ok (.getfield 9, 3) := by decide +kernel
theorem dX3_readFact_87 : decode cX3_readFact 87 = .ok (.aload_n 0, 1) := by decide +kernel
theorem dX3_readFact_88 : decode cX3_readFact 88 = .ok (.getfield 9, 3) := by decide +kernel
theorem dX3_readFact_91 : decode cX3_readFact 91 = .ok (.getfield 43, 3) := by decide +kernel
theorem dX3_readFact_94 : decode cX3_readFact 94 = .ok (.iconst 2, 1) := by decide +kernel
theorem dX3_readFact_95 : decode cX3_readFact 95 = .ok (.invokevirtual 46, 3) := by decide +kernel
theorem dX3_readFact_98 : decode cX3_readFact 98 = .ok (.goto 62, 3) := by decide +kernel
theorem dX3_readFact_101 : decode cX3_readFact 101 = .ok (.iload_n 2, 1) := by decide +kernel
theorem dX3_readFact_102 : decode cX3_readFact 102 = .ok (.ifCond .eq 22, 3) := by decide +kernel
theorem dX3_readFact_105 : decode cX3_readFact 105 = .ok (.aload_n 0, 1) := by decide +kernel
theorem dX3_readFact_106 : decode cX3_readFact 106 = .ok (.iload_n 1, 1) := by decide +kernel
theorem dX3_readFact_107 : decode cX3_readFact 107 = .ok (.iconst 1, 1) := by decide +kernel
theorem dX3_readFact_108 : decode cX3_readFact 108 = .ok (.iadd, 1) := by decide +kernel
theorem dX3_readFact_109 : decode cX3_readFact 109 = .ok (.invokevirtual 69, 3) := by decide +kernel
theorem dX3_readFact_112 : decode cX3_readFact 112 = .ok (.aload_n 0, 1) := by decide +kernel
theorem dX3_readFact_113 : decode cX3_readFact 113 = .ok (.getfield 15, 3) := by decide +kernel
theorem dX3_readFact_116 : decode cX3_readFact 116 = .ok (.bipush 19, 2) := by decide +kernel
theorem dX3_readFact_118 : decode cX3_readFact 118 = .ok (.invokevirtual 74, 3) := by decide +kernel
theorem dX3_readFact_121 : decode cX3_readFact 121 = .ok (.goto 39, 3) := by decide +kernel
theorem dX3_readFact_124 : decode cX3_readFact 124 = .ok (.aload_n 0, 1) := by decide +kernel
theorem dX3_readFact_125 : decode cX3_readFact 125 = .ok (.iload_n 1, 1) := by decide +kernel
theorem dX3_readFact_126 : decode cX3_readFact 126 = .ok (.iconst 1, 1) := by decide +kernel
theorem dX3_readFact_127 : decode cX3_readFact 127 = .ok (.iadd, 1) := by decide +kernel
theorem dX3_readFact_128 : decode cX3_readFact 128 = .ok (.invokevirtual 63, 3) := by decide +kernel
theorem dX3_readFact_131 : decode cX3_readFact 131 = .ok (.aload_n 0, 1) := by decide +kernel
theorem dX3_readFact_132 : decode cX3_readFact 132 = .ok (.getfield 9, 3) := by decide +kernel
theorem dX3_readFact_135 : decode cX3_readFact 135 = .ok (.invokevirtual 54, 3) := by decide +kernel
theorem dX3_readFact_138 : decode cX3_readFact 138 = .ok (.ifCond .ne 22, 3) := by decide +kernel
theorem dX3_readFact_141 : decode cX3_readFact 141 = .ok (.aload_n 0, 1) := by decide +kernel
theorem dX3_readFact_142 : decode cX3_readFact 142 = .ok (.getfield 9, 3) := by decide +kernel
theorem dX3_readFact_145 : decode cX3_readFact 145 = .ok (.bipush 93, 2) := by decide +kernel
theorem dX3_readFact_147 : decode cX3_readFact 147 = .ok (.invokevirtual 84, 3) := by decide +kernel
theorem dX3_readFact_150 : decode cX3_readFact 150 = .ok (.ifCond .ne 10, 3) := by decide +kernel
theorem dX3_readFact_153 : decode cX3_readFact 153 = .ok (.aload_n 0, 1) := by decide +kernel
theorem dX3_readFact_154 : decode cX3_readFact 154 = .ok (.getfield 9, 3) := by decide +kernel
theorem dX3_readFact_157 : decode cX3_readFact 157 = .ok (.invokevirtual 95, 3) := by decide +kernel
theorem dX3_readFact_160 : decode cX3_readFact 160 = .ok (.return_, 1) := by decide +kernel
set_option maxRecDepth 20000 in
theorem ggX3_readSign_X6_isFaulty : GoodIn wsX3_readSign wsX6_isFaulty := goodIn_r _ [6, 7, 43, 44, 45, 46, 47] (by decide +kernel) (by decide +kernel)
set_option maxRecDepth 20000 in
theorem gX3_readSign_X6_isFaulty : GoodIn wsX3_readSign (wsV RX3 54 RX6 yX6_isFaulty wsX6_isFaulty) := goodIn_app (goodIn_of _ (by decide +kernel)) ggX3_readSign_X6_isFaulty
set_option maxRecDepth 20000 in
theorem ggX3_readSign_X6_lookBehindBlanks : GoodIn wsX3_readSign wsX6_lookBehindBlanks := goodIn_r _ [11, 12, 13, 14, 15, 43, 44, 45, 46, 47] (by decide +kernel) (by decide +kernel)
set_option maxRecDepth 20000 in
theorem gX3_readSign_X6_lookBehindBlanks : GoodIn wsX3_readSign (wsV RX3 98 RX6 yX6_lookBehindBlanks wsX6_lookBehindBlanks) := goodIn_app (goodIn_of _ (by decide +kernel)) ggX3_readSign_X6_lookBehindBlanks
set_option maxRecDepth 20000 in
theorem ggX3_readSign_X6_blameHere : GoodIn wsX3_readSign wsX6_blameHere := goodIn_r _ [19, 12, 20, 21, 22, 5, 23, 7, 43, 44, 45, 46, 47] (by decide +kernel) (by decide +kernel)
set_option maxRecDepth 20000 in
theorem gX3_readSign_X6_blameHere : GoodIn wsX3_readSign (wsV RX3 95 RX6 yX6_blameHere wsX6_blameHere) := goodIn_app (goodIn_of _ (by decide +kernel)) ggX3_readSign_X6_blameHere
set_option maxRecDepth 20000 in
theorem ggX3_readSign_X3_countItem : GoodIn wsX3_readSign wsX3_countItem := goodIn_r _ [28, 29, 1, 30, 31, 21, 22, 5, 23, 7, 40, 41, 42, 43, 44, 45, 46, 47] (by decide +kernel) (by decide +kernel)
set_option maxRecDepth 20000 in
theorem gX3_readSign_X3_countItem : GoodIn wsX3_readSign (wsV RX3 101 RX3 yX3_countItem wsX3_countItem) := goodIn_app (goodIn_of _ (by decide +kernel)) ggX3_readSign_X3_countItem
set_option maxRecDepth 20000 in
theorem ggX3_readSign_X6_pass : GoodIn wsX3_readSign wsX6_pass := goodIn_r _ [35, 12, 13, 43, 44, 45, 46, 47] (by decide +kernel) (by decide +kernel)
set_option maxRecDepth 20000 in
theorem gX3_readSign_X6_pass : GoodIn wsX3_readSign (wsV RX3 104 RX6 yX6_pass wsX6_pass) := goodIn_app (goodIn_of _ (by decide +kernel)) ggX3_readSign_X6_pass
set_option maxRecDepth 20000 in
theorem ggX3_readSign_X6_look : GoodIn wsX3_readSign wsX6_look := goodIn_r _ [39, 12, 13, 14, 43, 44, 45, 46, 47] (by decide +kernel) (by decide +kernel)
set_option maxRecDepth 20000 in
theorem gX3_readSign_X6_look : GoodIn wsX3_readSign (wsV RX3 107 RX6 yX6_look wsX6_look) := goodIn_app (goodIn_of _ (by decide +kernel)) ggX3_readSign_X6_look
theorem dX3_readSign_0 : decode cX3_readSign 0 = .ok (.aload_n 0, 1) := by decide +kernel
theorem dX3_readSign_1 : decode cX3_readSign 1 = .ok (.getfield 9, 3) := by decide +kernel
theorem dX3_readSign_4 : decode cX3_readSign 4 = .ok (.invokevirtual 54, 3) := by decide +kernel
theorem dX3_readSign_7 : decode cX3_readSign 7 = .ok (.ifCond .eq 6, 3) := by decide +kernel
theorem dX3_readSign_10 : decode cX3_readSign 10 = .ok (.bipush 16, 2) := by decide +kernel
theorem dX3_readSign_12 : decode cX3_readSign 12 = .ok (.ireturn, 1) := by decide +kernel
theorem dX3_readSign_13 : decode cX3_readSign 13 = .ok (.aload_n 0, 1) := by decide +kernel
theorem dX3_readSign_14 : decode cX3_readSign 14 = .ok (.getfield 9, 3) := by decide +kernel
theorem dX3_readSign_17 : decode cX3_readSign 17 = .ok (.invokevirtual 98, 3) := by decide +kernel
theorem dX3_readSign_20 : decode cX3_readSign 20 = .ok (.istore_n 1, 1) := by decide +kernel
theorem dX3_readSign_21 : decode cX3_readSign 21 = .ok (.iload_n 1, 1) := by decide +kernel
theorem dX3_readSign_22 : decode cX3_readSign 22 = .ok (.bipush 60, 2) := by decide +kernel
theorem dX3_readSign_24 : decode cX3_readSign 24 = .ok (.if_icmp .eq 25, 3) := by decide +kernel
theorem dX3_readSign_27 : decode cX3_readSign 27 = .ok (.iload_n 1, 1) := by decide +kernel
theorem dX3_readSign_28 : decode cX3_readSign 28 = .ok (.bipush 61, 2) := by decide +kernel
theorem dX3_readSign_30 : decode cX3_readSign 30 = .ok (.if_icmp .eq 19, 3) := by decide +kernel
theorem dX3_readSign_33 : decode cX3_readSign 33 = .ok (.iload_n 1, 1) := by decide +kernel
theorem dX3_readSign_34 : decode cX3_readSign 34 = .ok (.bipush 62, 2) := by decide +kernel
theorem dX3_readSign_36 : decode cX3_readSign 36 = .ok (.if_icmp .eq 13, 3) := by decide +kernel
theorem dX3_readSign_39 : decode cX3_readSign 39 = .ok (.aload_n 0, 1) := by decide +kernel
theorem dX3_readSign_40 : decode cX3_readSign 40 = .ok (.getfield 9, 3) := by decide +kernel
theorem dX3_readSign_43 : decode cX3_readSign 43 = .ok (.invokevirtual 95, 3) := by decide +kernel
theorem dX3_readSign_46 : decode cX3_readSign 46 = .ok (.bipush 16, 2) := by decide +kernel
theorem dX3_readSign_48 : decode cX3_readSign 48 = .ok (.ireturn, 1) := by decide +kernel
theorem dX3_readSign_49 : decode cX3_readSign 49 = .ok (.aload_n 0, 1) := by decide +kernel
theorem dX3_readSign_50 : decode cX3_readSign 50 = .ok (.invokevirtual 101, 3) := by decide +kernel
theorem dX3_readSign_53 : decode cX3_readSign 53 = .ok (.aload_n 0, 1) := by decide +kernel
theorem dX3_readSign_54 : decode cX3_readSign 54 = .ok (.getfield 9, 3) := by decide +kernel
theorem dX3_readSign_57 : decode cX3_readSign 57 = .ok (.invokevirtual 104, 3) := by decide +kernel
theorem dX3_readSign_60 : decode cX3_readSign 60 = .ok (.iload_n 1, 1) := by decide +kernel
theorem dX3_readSign_61 : decode cX3_readSign 61 = .ok (.bipush 61, 2) := by decide +kernel
theorem dX3_readSign_63 : decode cX3_readSign 63 = .ok (.if_icmp .ne 6, 3) := by decide +kernel
theorem dX3_readSign_66 : decode cX3_readSign 66 = .ok (.bipush 16, 2) := by decide +kernel
theorem dX3_readSign_68 : decode cX3_readSign 68 = .ok (.ireturn, 1) := by decide +kernel
theorem dX3_readSign_69 : decode cX3_readSign 69 = .ok (.aload_n 0, 1) := by decide +kernel
theorem dX3_readSign_70 : decode cX3_readSign 70 = .ok (.getfield 9, 3) := by decide +kernel
theorem dX3_readSign_73 : decode cX3_readSign 73 = .ok (.invokevirtual 107, 3) := by decide +kernel
theorem dX3_readSign_76 : decode cX3_readSign 76 = .ok (.bipush 61, 2) := by decide +kernel
theorem dX3_readSign_78 : decode cX3_readSign 78 = .ok (.if_icmp .ne 7, 3) := by decide +kernel
theorem dX3_readSign_81 : decode cX3_readSign 81 = .ok (.iconst 1, 1) := by decide +kernel
theorem dX3_readSign_82 : decode cX3_readSign 82 = .ok (.goto 4, 3) := by decide +kernel
theorem dX3_readSign_85 : decode cX3_readSign 85 = .ok (.iconst 0, 1) := by decide +kernel
theorem dX3_readSign_86 : decode cX3_readSign 86 = .ok (.istore_n 2, 1) := by decide +kernel
theorem dX3_readSign_87 : decode cX3_readSign 87 = .ok (.iload_n 2, 1) := by decide +kernel
theorem dX3_readSign_88 : decode cX3_readSign 88 = .ok (.ifCond .eq 10, 3) := by decide +kernel
theorem dX3_readSign_91 : decode cX3_readSign 91 = .ok (.aload_n 0, 1) := by decide +kernel
theorem dX3_readSign_92 : decode cX3_readSign 92 = .ok (.getfield 9, 3) := by decide +kernel
theorem dX3_readSign_95 : decode cX3_readSign 95 = .ok (.invokevirtual 104, 3) := by decide +kernel
theorem dX3_readSign_98 : decode cX3_readSign 98 = .ok (.iload_n 1, 1) := by decide +kernel
theorem dX3_readSign_99 : decode cX3_readSign 99 = .ok (.bipush 60, 2) := by decide +kernel
theorem dX3_readSign_101 : decode cX3_readSign 101 = .ok (.if_icmp .ne 15, 3) := by decide +kernel
theorem dX3_readSign_104 : decode cX3_readSign 104 = .ok (.iload_n 2, 1) := by decide +kernel
theorem dX3_readSign_105 : decode cX3_readSign 105 = .ok (.ifCond .eq 8, 3) := by decide +kernel
theorem dX3_readSign_108 : decode cX3_readSign 108 = .ok (.bipush 15, 2) := by decide +kernel
theorem dX3_readSign_110 : decode cX3_readSign 110 = .ok (.goto 5, 3) := by decide +kernel
theorem dX3_readSign_113 : decode cX3_readSign 113 = .ok (.bipush 14, 2) := by decide +kernel
theorem dX3_readSign_115 : decode cX3_readSign 115 = .ok (.ireturn, 1) := by decide +kernel
theorem dX3_readSign_116 : decode cX3_readSign 116 = .ok (.iload_n 2, 1) := by decide +kernel
theorem dX3_readSign_117 : decode cX3_readSign 117 = .ok (.ifCond .eq 8, 3) := by decide +kernel
theorem dX3_readSign_120 : decode cX3_readSign 120 = .ok (.bipush 17, 2) := by decide +kernel
theorem dX3_readSign_122 : decode cX3_readSign 122 = .ok (.goto 5, 3) := by decide +kernel
theorem dX3_readSign_125 : decode cX3_readSign 125 = .ok (.bipush 18, 2) := by decide +kernel
theorem dX3_readSign_127 : decode cX3_readSign 127 = .ok (.ireturn, 1) := by decide +kernel
set_option maxRecDepth 20000 in
theorem ggX3_countItem_X6_blame : GoodIn wsX3_countItem wsX6_blame := goodIn_r _ [8, 9, 13, 14, 15, 16, 17] (by decide +kernel) (by decide +kernel)
set_option maxRecDepth 20000 in
theorem gX3_countItem_X6_blame : GoodIn wsX3_countItem (wsV RX3 46 RX6 yX6_blame wsX6_blame) := goodIn_app (goodIn_of _ (by decide +kernel)) ggX3_countItem_X6_blame
theorem dX3_countItem_0 : decode cX3_countItem 0 = .ok (.aload_n 0, 1) := by decide +kernel
theorem dX3_countItem_1 : decode cX3_countItem 1 = .ok (.dup, 1) := by decide +kernel
theorem dX3_countItem_2 : decode cX3_countItem 2 = .ok (.getfield 24, 3) := by decide +kernel
theorem dX3_countItem_5 : decode cX3_countItem 5 = .ok (.iconst 1, 1) := by decide +kernel
theorem dX3_countItem_6 : decode cX3_countItem 6 = .ok (.iadd, 1) := by decide +kernel
theorem dX3_countItem_7 : decode cX3_countItem 7 = .ok (.putfield 24, 3) := by decide +kernel
theorem dX3_countItem_10 : decode cX3_countItem 10 = .ok (.aload_n 0, 1) := by decide +kernel
theorem dX3_countItem_11 : decode cX3_countItem 11 = .ok (.getfield 24, 3) := by decide +kernel
theorem dX3_countItem_14 : decode cX3_countItem 14 = .ok (.bipush 60, 2) := by decide +kernel
theorem dX3_countItem_16 : decode cX3_countItem 16 = .ok (.if_icmp .le 18, 3) := by decide +kernel
theorem dX3_countItem_19 : decode cX3_countItem 19 = .ok (.aload_n 0, 1) := by decide +kernel
theorem dX3_countItem_20 : decode cX3_countItem 20 = .ok (.getfield 9, 3) := by decide +kernel
theorem dX3_countItem_23 : decode cX3_countItem 23 = .ok (.aload_n 0, 1) := by decide +kernel
theorem dX3_countItem_24 : decode cX3_countItem 24 = .ok (.getfield 9, 3) := by decide +kernel
theorem dX3_countItem_27 : decode cX3_countItem 27 = .ok (.getfield 43, 3) := by decide +kernel
theorem dX3_countItem_30 : decode cX3_countItem 30 = .ok (.iconst 3, 1) := by decide +kernel
theorem dX3_countItem_31 : decode cX3_countItem 31 = .ok (.invokevirtual 46, 3) := by decide +kernel
theorem dX3_countItem_34 : decode cX3_countItem 34 = .ok (.return_, 1) := by decide +kernel
set_option maxRecDepth 20000 in
theorem ggX3_readSum_X3_readValue : GoodIn wsX3_readSum wsX3_readValue := goodIn_r _ [7, 1, 2, 8, 9, 10, 11, 12, 13, 14, 15, 16, 17, 18, 19, 20, 21, 22, 23, 24, 25, 26, 27, 28, 29, 30, 31, 32, 33, 34, 35, 36, 37, 38, 39, 40, 41, 42, 43, 44, 45, 46, 47, 48, 49, 50, 51, 52, 53, 54, 55, 56, 57, 58, 59, 60, 61, 62, 63, 64, 65, 66, 67, 68, 69, 70, 71, 72, 73, 74, 75, 76, 77, 78, 79, 80, 81, 82, 83, 84, 85, 86, 87, 88, 89, 90, 91, 92, 93, 94, 95, 96, 97, 98, 99, 100, 101, 102, 103, 104, 105, 6, 106, 107, 108, 109, 122, 123, 124, 125, 126, 127, 128, 129, 130, 131, 132, 133, 134, 135] (by decide +kernel) (by decide +kernel)
set_option maxRecDepth 20000 in
theorem gX3_readSum_X3_readValue : GoodIn wsX3_readSum (wsV RX3 110 RX3 yX3_readValue wsX3_readValue) := goodIn_app (goodIn_of _ (by decide +kernel)) ggX3_readSum_X3_readValue
set_option maxRecDepth 20000 in
theorem ggX3_readSum_X6_isFaulty : GoodIn wsX3_readSum wsX6_isFaulty := goodIn_r _ [13, 14, 125, 126, 127, 128, 129] (by decide +kernel) (by decide +kernel)
set_option maxRecDepth 20000 in
theorem gX3_readSum_X6_isFaulty : GoodIn wsX3_readSum (wsV RX3 54 RX6 yX6_isFaulty wsX6_isFaulty) := goodIn_app (goodIn_of _ (by decide +kernel)) ggX3_readSum_X6_isFaulty
set_option maxRecDepth 20000 in
theorem ggX3_readSum_X3_takeOperator : GoodIn wsX3_readSum wsX3_takeOperator := goodIn_r _ [113, 1, 15, 16, 17, 12, 18, 19, 20, 21, 22, 114, 115, 116, 117, 122, 123, 124, 125, 126, 127, 128, 129] (by decide +kernel) (by decide +kernel)
set_option maxRecDepth 20000 in
theorem gX3_readSum_X3_takeOperator : GoodIn wsX3_readSum (wsV RX3 113 RX3 yX3_takeOperator wsX3_takeOperator) := goodIn_app (goodIn_of _ (by decide +kernel)) ggX3_readSum_X3_takeOperator
set_option maxRecDepth 20000 in
theorem ggX3_readSum_X2_addToken : GoodIn wsX3_readSum wsX2_addToken := goodIn_r _ [41, 42, 43, 44, 45, 130, 131, 132, 133, 134, 135] (by decide +kernel) (by decide +kernel)
set_option maxRecDepth 20000 in
theorem gX3_readSum_X2_addToken : GoodIn wsX3_readSum (wsV RX3 74 RX2 yX2_addToken wsX2_addToken) := goodIn_app (goodIn_of _ (by decide +kernel)) ggX3_readSum_X2_addToken
set_option maxRecDepth 20000 in
theorem ggX3_readSum_X3_addWaiting : GoodIn wsX3_readSum wsX3_addWaiting := goodIn_r _ [121, 2, 37, 38, 39, 40, 41, 42, 43, 44, 45, 122, 123, 124, 130, 131, 132, 133, 134, 135] (by decide +kernel) (by decide +kernel)
set_option maxRecDepth 20000 in
theorem gX3_readSum_X3_addWaiting : GoodIn wsX3_readSum (wsV RX3 79 RX3 yX3_addWaiting wsX3_addWaiting) := goodIn_app (goodIn_of _ (by decide +kernel)) ggX3_readSum_X3_addWaiting
theorem dX3_readSum_0 : decode cX3_readSum 0 = .ok (.aload_n 0, 1) := by decide +kernel
theorem dX3_readSum_1 : decode cX3_readSum 1 = .ok (.invokevirtual 110, 3) := by decide +kernel
theorem dX3_readSum_4 : decode cX3_readSum 4 = .ok (.iconst (-1), 1) := by decide +kernel
theorem dX3_readSum_5 : decode cX3_readSum 5 = .ok (.istore_n 1, 1) := by decide +kernel
theorem dX3_readSum_6 : decode cX3_readSum 6 = .ok (.iconst 0, 1) := by decide +kernel
theorem dX3_readSum_7 : decode cX3_readSum 7 = .ok (.istore_n 2, 1) := by decide +kernel
theorem dX3_readSum_8 : decode cX3_readSum 8 = .ok (.iload_n 2, 1) := by decide +kernel
theorem dX3_readSum_9 : decode cX3_readSum 9 = .ok (.sipush 400, 3) := by decide +kernel
theorem dX3_readSum_12 : decode cX3_readSum 12 = .ok (.if_icmp .ge 70, 3) := by decide +kernel
theorem dX3_readSum_15 : decode cX3_readSum 15 = .ok (.aload_n 0, 1) := by decide +kernel
theorem dX3_readSum_16 : decode cX3_readSum 16 = .ok (.getfield 9, 3) := by decide +kernel
theorem dX3_readSum_19 : decode cX3_readSum 19 = .ok (.invokevirtual 54, 3) := by decide +kernel
theorem dX3_readSum_22 : decode cX3_readSum 22 = .ok (.ifCond .ne 60, 3) := by decide +kernel
theorem dX3_readSum_25 : decode cX3_readSum 25 = .ok (.aload_n 0, 1) := by decide +kernel
theorem dX3_readSum_26 : decode cX3_readSum 26 = .ok (.invokevirtual 113, 3) := by decide +kernel
theorem dX3_readSum_29 : decode cX3_readSum 29 = .ok (.istore_n 3, 1) := by decide +kernel
theorem dX3_readSum_30 : decode cX3_readSum 30 = .ok (.iload_n 3, 1) := by decide +kernel
theorem dX3_readSum_31 : decode cX3_readSum 31 = .ok (.iconst (-1), 1) := by decide +kernel
theorem dX3_readSum_32 : decode cX3_readSum 32 = .ok (.if_icmp .ne 6, 3) := by decide +kernel
theorem dX3_readSum_35 : decode cX3_readSum 35 = .ok (.goto 47, 3) := by decide +kernel
theorem dX3_readSum_38 : decode cX3_readSum 38 = .ok (.iload_n 3, 1) := by decide +kernel
theorem dX3_readSum_39 : decode cX3_readSum 39 = .ok (.bipush 12, 2) := by decide +kernel
theorem dX3_readSum_41 : decode cX3_readSum 41 = .ok (.if_icmp .eq 9, 3) := by decide +kernel
theorem dX3_readSum_44 : decode cX3_readSum 44 = .ok (.iload_n 3, 1) := by decide +kernel
theorem dX3_readSum_45 : decode cX3_readSum 45 = .ok (.bipush 13, 2) := by decide +kernel
theorem dX3_readSum_47 : decode cX3_readSum 47 = .ok (.if_icmp .ne 18, 3) := by decide +kernel
theorem dX3_readSum_50 : decode cX3_readSum 50 = .ok (.aload_n 0, 1) := by decide +kernel
theorem dX3_readSum_51 : decode cX3_readSum 51 = .ok (.invokevirtual 110, 3) := by decide +kernel
theorem dX3_readSum_54 : decode cX3_readSum 54 = .ok (.aload_n 0, 1) := by decide +kernel
theorem dX3_readSum_55 : decode cX3_readSum 55 = .ok (.getfield 15, 3) := by decide +kernel
theorem dX3_readSum_58 : decode cX3_readSum 58 = .ok (.iload_n 3, 1) := by decide +kernel
theorem dX3_readSum_59 : decode cX3_readSum 59 = .ok (.invokevirtual 74, 3) := by decide +kernel
theorem dX3_readSum_62 : decode cX3_readSum 62 = .ok (.goto 14, 3) := by decide +kernel
theorem dX3_readSum_65 : decode cX3_readSum 65 = .ok (.aload_n 0, 1) := by decide +kernel
theorem dX3_readSum_66 : decode cX3_readSum 66 = .ok (.iload_n 1, 1) := by decide +kernel
theorem dX3_readSum_67 : decode cX3_readSum 67 = .ok (.invokevirtual 79, 3) := by decide +kernel
theorem dX3_readSum_70 : decode cX3_readSum 70 = .ok (.iload_n 3, 1) := by decide +kernel
theorem dX3_readSum_71 : decode cX3_readSum 71 = .ok (.istore_n 1, 1) := by decide +kernel
theorem dX3_readSum_72 : decode cX3_readSum 72 = .ok (.aload_n 0, 1) := by decide +kernel
theorem dX3_readSum_73 : decode cX3_readSum 73 = .ok (.invokevirtual 110, 3) := by decide +kernel
theorem dX3_readSum_76 : decode cX3_readSum 76 = .ok (.iinc 2 1, 3) := by decide +kernel
theorem dX3_readSum_79 : decode cX3_readSum 79 = .ok (.goto (-71), 3) := by decide +kernel
theorem dX3_readSum_82 : decode cX3_readSum 82 = .ok (.aload_n 0, 1) := by decide +kernel
theorem dX3_readSum_83 : decode cX3_readSum 83 = .ok (.iload_n 1, 1) := by decide +kernel
theorem dX3_readSum_84 : decode cX3_readSum 84 = .ok (.invokevirtual 79, 3) := by decide +kernel
theorem dX3_readSum_87 : decode cX3_readSum 87 = .ok (.return_, 1) := by decide +kernel
set_option maxRecDepth 20000 in
theorem ggX3_addWaiting_X2_addToken : GoodIn wsX3_addWaiting wsX2_addToken := goodIn_r _ [6, 7, 8, 9, 10, 14, 15, 16, 17, 18, 19] (by decide +kernel) (by decide +kernel)
set_option maxRecDepth 20000 in
theorem gX3_addWaiting_X2_addToken : GoodIn wsX3_addWaiting (wsV RX3 74 RX2 yX2_addToken wsX2_addToken) := goodIn_app (goodIn_of _ (by decide +kernel)) ggX3_addWaiting_X2_addToken
theorem dX3_addWaiting_0 : decode cX3_addWaiting 0 = .ok (.iload_n 1, 1) := by decide +kernel
theorem dX3_addWaiting_1 : decode cX3_addWaiting 1 = .ok (.iconst (-1), 1) := by decide +kernel
theorem dX3_addWaiting_2 : decode cX3_addWaiting 2 = .ok (.if_icmp .eq 11, 3) := by decide +kernel
theorem dX3_addWaiting_5 : decode cX3_addWaiting 5 = .ok (.aload_n 0, 1) := by decide +kernel
theorem dX3_addWaiting_6 : decode cX3_addWaiting 6 = .ok (.getfield 15, 3) := by decide +kernel
theorem dX3_addWaiting_9 : decode cX3_addWaiting 9 = .ok (.iload_n 1, 1) := by decide +kernel
theorem dX3_addWaiting_10 : decode cX3_addWaiting 10 = .ok (.invokevirtual 74, 3) := by decide +kernel
theorem dX3_addWaiting_13 : decode cX3_addWaiting 13 = .ok (.return_, 1) := by decide +kernel
set_option maxRecDepth 20000 in
theorem ggX3_takeOperator_X6_lookBehindBlanks : GoodIn wsX3_takeOperator wsX6_lookBehindBlanks := goodIn_r _ [6, 7, 8, 9, 10, 18, 19, 20, 21, 22] (by decide +kernel) (by decide +kernel)
set_option maxRecDepth 20000 in
theorem gX3_takeOperator_X6_lookBehindBlanks : GoodIn wsX3_takeOperator (wsV RX3 98 RX6 yX6_lookBehindBlanks wsX6_lookBehindBlanks) := goodIn_app (goodIn_of _ (by decide +kernel)) ggX3_takeOperator_X6_lookBehindBlanks
set_option maxRecDepth 20000 in
theorem ggX3_takeOperator_X6_pass : GoodIn wsX3_takeOperator wsX6_pass := goodIn_r _ [14, 7, 8, 18, 19, 20, 21, 22] (by decide +kernel) (by decide +kernel)
set_option maxRecDepth 20000 in
theorem gX3_takeOperator_X6_pass : GoodIn wsX3_takeOperator (wsV RX3 104 RX6 yX6_pass wsX6_pass) := goodIn_app (goodIn_of _ (by decide +kernel)) ggX3_takeOperator_X6_pass
theorem dX3_takeOperator_0 : decode cX3_takeOperator 0 = .ok (.aload_n 0, 1) := by decide +kernel
theorem dX3_takeOperator_1 : decode cX3_takeOperator 1 = .ok (.getfield 9, 3) := by decide +kernel
theorem dX3_takeOperator_4 : decode cX3_takeOperator 4 = .ok (.invokevirtual 98, 3) := by decide +kernel
theorem dX3_takeOperator_7 : decode cX3_takeOperator 7 = .ok (.tableswitch 77 42 47 #[57, 37, 77, 47, 77, 67], 37) := by decide +kernel
theorem dX3_takeOperator_44 : decode cX3_takeOperator 44 = .ok (.aload_n 0, 1) := by decide +kernel
theorem dX3_takeOperator_45 : decode cX3_takeOperator 45 = .ok (.getfield 9, 3) := by decide +kernel
theorem dX3_takeOperator_48 : decode cX3_takeOperator 48 = .ok (.invokevirtual 104, 3) := by decide +kernel
theorem dX3_takeOperator_51 : decode cX3_takeOperator 51 = .ok (.bipush 10, 2) := by decide +kernel
theorem dX3_takeOperator_53 : decode cX3_takeOperator 53 = .ok (.ireturn, 1) := by decide +kernel
theorem dX3_takeOperator_54 : decode cX3_takeOperator 54 = .ok (.aload_n 0, 1) := by decide +kernel
theorem dX3_takeOperator_55 : decode cX3_takeOperator 55 = .ok (.getfield 9, 3) := by decide +kernel
theorem dX3_takeOperator_58 : decode cX3_takeOperator 58 = .ok (.invokevirtual 104, 3) := by decide +kernel
theorem dX3_takeOperator_61 : decode cX3_takeOperator 61 = .ok (.bipush 11, 2) := by decide +kernel
theorem dX3_takeOperator_63 : decode cX3_takeOperator 63 = .ok (.ireturn, 1) := by decide +kernel
theorem dX3_takeOperator_64 : decode cX3_takeOperator 64 = .ok (.aload_n 0, 1) := by decide +kernel
theorem dX3_takeOperator_65 : decode cX3_takeOperator 65 = .ok (.getfield 9, 3) := by decide +kernel
theorem dX3_takeOperator_68 : decode cX3_takeOperator 68 = .ok (.invokevirtual 104, 3) := by decide +kernel
theorem dX3_takeOperator_71 : decode cX3_takeOperator 71 = .ok (.bipush 12, 2) := by decide +kernel
theorem dX3_takeOperator_73 : decode cX3_takeOperator 73 = .ok (.ireturn, 1) := by decide +kernel
theorem dX3_takeOperator_74 : decode cX3_takeOperator 74 = .ok (.aload_n 0, 1) := by decide +kernel
theorem dX3_takeOperator_75 : decode cX3_takeOperator 75 = .ok (.getfield 9, 3) := by decide +kernel
theorem dX3_takeOperator_78 : decode cX3_takeOperator 78 = .ok (.invokevirtual 104, 3) := by decide +kernel
theorem dX3_takeOperator_81 : decode cX3_takeOperator 81 = .ok (.bipush 13, 2) := by decide +kernel
theorem dX3_takeOperator_83 : decode cX3_takeOperator 83 = .ok (.ireturn, 1) := by decide +kernel
theorem dX3_takeOperator_84 : decode cX3_takeOperator 84 = .ok (.iconst (-1), 1) := by decide +kernel
theorem dX3_takeOperator_85 : decode cX3_takeOperator 85 = .ok (.ireturn, 1) := by decide +kernel
set_option maxRecDepth 20000 in
theorem ggX3_readValue_X6_isFaulty : GoodIn wsX3_readValue wsX6_isFaulty := goodIn_r _ [8, 9, 109, 110, 111, 112, 113] (by decide +kernel) (by decide +kernel)
set_option maxRecDepth 20000 in
theorem gX3_readValue_X6_isFaulty : GoodIn wsX3_readValue (wsV RX3 54 RX6 yX6_isFaulty wsX6_isFaulty) := goodIn_app (goodIn_of _ (by decide +kernel)) ggX3_readValue_X6_isFaulty
set_option maxRecDepth 20000 in
theorem ggX3_readValue_X6_lookBehindBlanks : GoodIn wsX3_readValue wsX6_lookBehindBlanks := goodIn_r _ [13, 14, 15, 16, 17, 109, 110, 111, 112, 113] (by decide +kernel) (by decide +kernel)
set_option maxRecDepth 20000 in
theorem gX3_readValue_X6_lookBehindBlanks : GoodIn wsX3_readValue (wsV RX3 98 RX6 yX6_lookBehindBlanks wsX6_lookBehindBlanks) := goodIn_app (goodIn_of _ (by decide +kernel)) ggX3_readValue_X6_lookBehindBlanks
set_option maxRecDepth 20000 in
theorem ggX3_readValue_X6_isDigit : GoodIn wsX3_readValue wsX6_isDigit := goodIn_r _ [20] (by decide +kernel) (by decide +kernel)
set_option maxRecDepth 20000 in
theorem gX3_readValue_X6_isDigit : GoodIn wsX3_readValue (va_wsS RX3 116 yX6_isDigit wsX6_isDigit) := goodIn_app (goodIn_of _ (by decide +kernel)) ggX3_readValue_X6_isDigit
set_option maxRecDepth 20000 in
theorem ggX3_readValue_X6_readNumber : GoodIn wsX3_readValue wsX6_readNumber := goodIn_r _ [24, 17, 14, 15, 16, 25, 5, 6, 7, 8, 9, 26, 11, 12, 13, 27, 19, 20, 28, 29, 30, 31, 109, 110, 111, 112, 113] (by decide +kernel) (by decide +kernel)
set_option maxRecDepth 20000 in
theorem gX3_readValue_X6_readNumber : GoodIn wsX3_readValue (wsV RX3 120 RX6 yX6_readNumber wsX6_readNumber) := goodIn_app (goodIn_of _ (by decide +kernel)) ggX3_readValue_X6_readNumber
set_option maxRecDepth 20000 in
theorem ggX3_readValue_X2_addToken : GoodIn wsX3_readValue wsX2_addToken := goodIn_r _ [36, 37, 38, 39, 40, 114, 115, 116, 117, 118, 119] (by decide +kernel) (by decide +kernel)
set_option maxRecDepth 20000 in
theorem gX3_readValue_X2_addToken : GoodIn wsX3_readValue (wsV RX3 74 RX2 yX2_addToken wsX2_addToken) := goodIn_app (goodIn_of _ (by decide +kernel)) ggX3_readValue_X2_addToken
set_option maxRecDepth 20000 in
theorem ggX3_readValue_X6_readWord : GoodIn wsX3_readValue wsX6_readWord := goodIn_r _ [44, 14, 16, 17, 26, 11, 12, 7, 13, 15, 45, 46, 47, 48, 49, 50, 51, 52, 53, 54, 55, 56, 57, 58, 59, 60, 61, 62, 63, 64, 65, 66, 67, 68, 69, 70, 71, 72, 73, 74, 75, 76, 77, 78, 79, 80, 81, 82, 83, 84, 85, 86, 87, 88, 89, 90, 91, 92, 93, 94, 95, 96, 97, 28, 29, 30, 31, 9, 109, 110, 111, 112, 113] (by decide +kernel) (by decide +kernel)
set_option maxRecDepth 20000 in
theorem gX3_readValue_X6_readWord : GoodIn wsX3_readValue (wsV RX3 35 RX6 yX6_readWord wsX6_readWord) := goodIn_app (goodIn_of _ (by decide +kernel)) ggX3_readValue_X6_readWord
set_option maxRecDepth 20000 in
theorem ggX3_readValue_X3_countItem : GoodIn wsX3_readValue wsX3_countItem := goodIn_r _ [102, 103, 1, 104, 105, 29, 30, 7, 31, 9, 106, 107, 108, 109, 110, 111, 112, 113] (by decide +kernel) (by decide +kernel)
set_option maxRecDepth 20000 in
theorem gX3_readValue_X3_countItem : GoodIn wsX3_readValue (wsV RX3 101 RX3 yX3_countItem wsX3_countItem) := goodIn_app (goodIn_of _ (by decide +kernel)) ggX3_readValue_X3_countItem
