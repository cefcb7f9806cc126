theorem dX10_leastBelow_20 : decode cX10_leastBelow 20 = .ok (.aload_n 0, 1) := by decide +kernel
theorem dX10_leastBelow_21 : decode cX10_leastBelow 21 = .ok (.iload_n 3, 1) := by decide +kernel
theorem dX10_leastBelow_22 : decode cX10_leastBelow 22 = .ok (.invokevirtual 49, 3) := by decide +kernel
theorem dX10_leastBelow_25 : decode cX10_leastBelow 25 = .ok (.ifCond .ne 5, 3) := by decide +kernel
theorem dX10_leastBelow_28 : decode cX10_leastBelow 28 = .ok (.iconst (-1), 1) := by decide +kernel
theorem dX10_leastBelow_29 : decode cX10_leastBelow 29 = .ok (.ireturn, 1) := by decide +kernel
theorem dX10_leastBelow_30 : decode cX10_leastBelow 30 = .ok (.iinc 3 1, 3) := by decide +kernel
theorem dX10_leastBelow_33 : decode cX10_leastBelow 33 = .ok (.goto (-24), 3) := by decide +kernel
theorem dX10_leastBelow_36 : decode cX10_leastBelow 36 = .ok (.iload_n 1, 1) := by decide +kernel
theorem dX10_leastBelow_37 : decode cX10_leastBelow 37 = .ok (.ifCond .gt 5, 3) := by decide +kernel
theorem dX10_leastBelow_40 : decode cX10_leastBelow 40 = .ok (.iload_n 2, 1) := by decide +kernel
theorem dX10_leastBelow_41 : decode cX10_leastBelow 41 = .ok (.ireturn, 1) := by decide +kernel
theorem dX10_leastBelow_42 : decode cX10_leastBelow 42 = .ok (.aload_n 0, 1) := by decide +kernel
theorem dX10_leastBelow_43 : decode cX10_leastBelow 43 = .ok (.iload_n 1, 1) := by decide +kernel
theorem dX10_leastBelow_44 : decode cX10_leastBelow 44 = .ok (.iconst 1, 1) := by decide +kernel
theorem dX10_leastBelow_45 : decode cX10_leastBelow 45 = .ok (.isub, 1) := by decide +kernel
theorem dX10_leastBelow_46 : decode cX10_leastBelow 46 = .ok (.iload_n 2, 1) := by decide +kernel
theorem dX10_leastBelow_47 : decode cX10_leastBelow 47 = .ok (.invokevirtual 72, 3) := by decide +kernel
theorem dX10_leastBelow_50 : decode cX10_leastBelow 50 = .ok (.istore_n 3, 1) := by decide +kernel
theorem dX10_leastBelow_51 : decode cX10_leastBelow 51 = .ok (.iload_n 3, 1) := by decide +kernel
theorem dX10_leastBelow_52 : decode cX10_leastBelow 52 = .ok (.iconst (-1), 1) := by decide +kernel
theorem dX10_leastBelow_53 : decode cX10_leastBelow 53 = .ok (.if_icmp .eq 7, 3) := by decide +kernel
theorem dX10_leastBelow_56 : decode cX10_leastBelow 56 = .ok (.iload_n 3, 1) := by decide +kernel
theorem dX10_leastBelow_57 : decode cX10_leastBelow 57 = .ok (.goto 17, 3) := by decide +kernel
theorem dX10_leastBelow_60 : decode cX10_leastBelow 60 = .ok (.aload_n 0, 1) := by decide +kernel
theorem dX10_leastBelow_61 : decode cX10_leastBelow 61 = .ok (.iload_n 1, 1) := by decide +kernel
theorem dX10_leastBelow_62 : decode cX10_leastBelow 62 = .ok (.iconst 1, 1) := by decide +kernel
theorem dX10_leastBelow_63 : decode cX10_leastBelow 63 = .ok (.isub, 1) := by decide +kernel
theorem dX10_leastBelow_64 : decode cX10_leastBelow 64 = .ok (.iload_n 2, 1) := by decide +kernel
theorem dX10_leastBelow_65 : decode cX10_leastBelow 65 = .ok (.iconst 1, 1) := by decide +kernel
theorem dX10_leastBelow_66 : decode cX10_leastBelow 66 = .ok (.iload_n 1, 1) := by decide +kernel
theorem dX10_leastBelow_67 : decode cX10_leastBelow 67 = .ok (.iconst 1, 1) := by decide +kernel
theorem dX10_leastBelow_68 : decode cX10_leastBelow 68 = .ok (.isub, 1) := by decide +kernel
theorem dX10_leastBelow_69 : decode cX10_leastBelow 69 = .ok (.ishl, 1) := by decide +kernel
theorem dX10_leastBelow_70 : decode cX10_leastBelow 70 = .ok (.ior, 1) := by decide +kernel
theorem dX10_leastBelow_71 : decode cX10_leastBelow 71 = .ok (.invokevirtual 72, 3) := by decide +kernel
theorem dX10_leastBelow_74 : decode cX10_leastBelow 74 = .ok (.ireturn, 1) := by decide +kernel
theorem dX10_layRoads_0 : decode cX10_layRoads 0 = .ok (.iconst 0, 1) := by decide +kernel
theorem dX10_layRoads_1 : decode cX10_layRoads 1 = .ok (.istore 4, 2) := by decide +kernel
theorem dX10_layRoads_3 : decode cX10_layRoads 3 = .ok (.iload 4, 2) := by decide +kernel
theorem dX10_layRoads_5 : decode cX10_layRoads 5 = .ok (.bipush 10, 2) := by decide +kernel
theorem dX10_layRoads_7 : decode cX10_layRoads 7 = .ok (.if_icmp .ge 17, 3) := by decide +kernel
theorem dX10_layRoads_10 : decode cX10_layRoads 10 = .ok (.aload_n 0, 1) := by decide +kernel
theorem dX10_layRoads_11 : decode cX10_layRoads 11 = .ok (.getfield 15, 3) := by decide +kernel
theorem dX10_layRoads_14 : decode cX10_layRoads 14 = .ok (.iload 4, 2) := by decide +kernel
theorem dX10_layRoads_16 : decode cX10_layRoads 16 = .ok (.iconst 0, 1) := by decide +kernel
theorem dX10_layRoads_17 : decode cX10_layRoads 17 = .ok (.iastore, 1) := by decide +kernel
theorem dX10_layRoads_18 : decode cX10_layRoads 18 = .ok (.iinc 4 1, 3) := by decide +kernel
theorem dX10_layRoads_21 : decode cX10_layRoads 21 = .ok (.goto (-18), 3) := by decide +kernel
theorem dX10_layRoads_24 : decode cX10_layRoads 24 = .ok (.iconst 0, 1) := by decide +kernel
theorem dX10_layRoads_25 : decode cX10_layRoads 25 = .ok (.istore 4, 2) := by decide +kernel
theorem dX10_layRoads_27 : decode cX10_layRoads 27 = .ok (.iload 4, 2) := by decide +kernel
theorem dX10_layRoads_29 : decode cX10_layRoads 29 = .ok (.aload_n 0, 1) := by decide +kernel
theorem dX10_layRoads_30 : decode cX10_layRoads 30 = .ok (.getfield 29, 3) := by decide +kernel
theorem dX10_layRoads_33 : decode cX10_layRoads 33 = .ok (.if_icmp .ge 117, 3) := by decide +kernel
theorem dX10_layRoads_36 : decode cX10_layRoads 36 = .ok (.iload 4, 2) := by decide +kernel
theorem dX10_layRoads_38 : decode cX10_layRoads 38 = .ok (.iload_n 3, 1) := by decide +kernel
theorem dX10_layRoads_39 : decode cX10_layRoads 39 = .ok (.if_icmp .ne 6, 3) := by decide +kernel
theorem dX10_layRoads_42 : decode cX10_layRoads 42 = .ok (.goto 102, 3) := by decide +kernel
theorem dX10_layRoads_45 : decode cX10_layRoads 45 = .ok (.aload_n 0, 1) := by decide +kernel
theorem dX10_layRoads_46 : decode cX10_layRoads 46 = .ok (.getfield 28, 3) := by decide +kernel
theorem dX10_layRoads_49 : decode cX10_layRoads 49 = .ok (.getfield 57, 3) := by decide +kernel
theorem dX10_layRoads_52 : decode cX10_layRoads 52 = .ok (.iconst 2, 1) := by decide +kernel
theorem dX10_layRoads_53 : decode cX10_layRoads 53 = .ok (.aload_n 0, 1) := by decide +kernel
theorem dX10_layRoads_54 : decode cX10_layRoads 54 = .ok (.getfield 9, 3) := by decide +kernel
theorem dX10_layRoads_57 : decode cX10_layRoads 57 = .ok (.iload 4, 2) := by decide +kernel
theorem dX10_layRoads_59 : decode cX10_layRoads 59 = .ok (.iaload, 1) := by decide +kernel
theorem dX10_layRoads_60 : decode cX10_layRoads 60 = .ok (.imul, 1) := by decide +kernel
theorem dX10_layRoads_61 : decode cX10_layRoads 61 = .ok (.iaload, 1) := by decide +kernel
theorem dX10_layRoads_62 : decode cX10_layRoads 62 = .ok (.istore 5, 2) := by decide +kernel
theorem dX10_layRoads_64 : decode cX10_layRoads 64 = .ok (.aload_n 0, 1) := by decide +kernel
theorem dX10_layRoads_65 : decode cX10_layRoads 65 = .ok (.getfield 28, 3) := by decide +kernel
theorem dX10_layRoads_68 : decode cX10_layRoads 68 = .ok (.getfield 57, 3) := by decide +kernel
theorem dX10_layRoads_71 : decode cX10_layRoads 71 = .ok (.iconst 2, 1) := by decide +kernel
theorem dX10_layRoads_72 : decode cX10_layRoads 72 = .ok (.aload_n 0, 1) := by decide +kernel
theorem dX10_layRoads_73 : decode cX10_layRoads 73 = .ok (.getfield 9, 3) := by decide +kernel
theorem dX10_layRoads_76 : decode cX10_layRoads 76 = .ok (.iload 4, 2) := by decide +kernel
theorem dX10_layRoads_78 : decode cX10_layRoads 78 = .ok (.iaload, 1) := by decide +kernel
theorem dX10_layRoads_79 : decode cX10_layRoads 79 = .ok (.imul, 1) := by decide +kernel
theorem dX10_layRoads_80 : decode cX10_layRoads 80 = .ok (.iconst 1, 1) := by decide +kernel
theorem dX10_layRoads_81 : decode cX10_layRoads 81 = .ok (.iadd, 1) := by decide +kernel
theorem dX10_layRoads_82 : decode cX10_layRoads 82 = .ok (.iaload, 1) := by decide +kernel
theorem dX10_layRoads_83 : decode cX10_layRoads 83 = .ok (.istore 6, 2) := by decide +kernel
theorem dX10_layRoads_85 : decode cX10_layRoads 85 = .ok (.iload_n 2, 1) := by decide +kernel
theorem dX10_layRoads_86 : decode cX10_layRoads 86 = .ok (.iload 4, 2) := by decide +kernel
theorem dX10_layRoads_88 : decode cX10_layRoads 88 = .ok (.ishr, 1) := by decide +kernel
theorem dX10_layRoads_89 : decode cX10_layRoads 89 = .ok (.iconst 1, 1) := by decide +kernel
theorem dX10_layRoads_90 : decode cX10_layRoads 90 = .ok (.iand, 1) := by decide +kernel
theorem dX10_layRoads_91 : decode cX10_layRoads 91 = .ok (.istore 7, 2) := by decide +kernel
theorem dX10_layRoads_93 : decode cX10_layRoads 93 = .ok (.iload 4, 2) := by decide +kernel
theorem dX10_layRoads_95 : decode cX10_layRoads 95 = .ok (.iload_n 1, 1) := by decide +kernel
theorem dX10_layRoads_96 : decode cX10_layRoads 96 = .ok (.if_icmp .lt 8, 3) := by decide +kernel
theorem dX10_layRoads_99 : decode cX10_layRoads 99 = .ok (.iload 7, 2) := by decide +kernel
theorem dX10_layRoads_101 : decode cX10_layRoads 101 = .ok (.ifCond .ne 17, 3) := by decide +kernel
theorem dX10_layRoads_104 : decode cX10_layRoads 104 = .ok (.aload_n 0, 1) := by decide +kernel
theorem dX10_layRoads_105 : decode cX10_layRoads 105 = .ok (.getfield 15, 3) := by decide +kernel
theorem dX10_layRoads_108 : decode cX10_layRoads 108 = .ok (.iload 5, 2) := by decide +kernel
theorem dX10_layRoads_110 : decode cX10_layRoads 110 = .ok (.dup2, 1) := by decide +kernel
theorem dX10_layRoads_111 : decode cX10_layRoads 111 = .ok (.iaload, 1) := by decide +kernel
theorem dX10_layRoads_112 : decode cX10_layRoads 112 = .ok (.iconst 1, 1) := by decide +kernel
theorem dX10_layRoads_113 : decode cX10_layRoads 113 = .ok (.iload 6, 2) := by decide +kernel
theorem dX10_layRoads_115 : decode cX10_layRoads 115 = .ok (.ishl, 1) := by decide +kernel
theorem dX10_layRoads_116 : decode cX10_layRoads 116 = .ok (.ior, 1) := by decide +kernel
theorem dX10_layRoads_117 : decode cX10_layRoads 117 = .ok (.iastore, 1) := by decide +kernel
theorem dX10_layRoads_118 : decode cX10_layRoads 118 = .ok (.iload 4, 2) := by decide +kernel
theorem dX10_layRoads_120 : decode cX10_layRoads 120 = .ok (.iload_n 1, 1) := by decide +kernel
theorem dX10_layRoads_121 : decode cX10_layRoads 121 = .ok (.if_icmp .lt 9, 3) := by decide +kernel
theorem dX10_layRoads_124 : decode cX10_layRoads 124 = .ok (.iload 7, 2) := by decide +kernel
theorem dX10_layRoads_126 : decode cX10_layRoads 126 = .ok (.iconst 1, 1) := by decide +kernel
theorem dX10_layRoads_127 : decode cX10_layRoads 127 = .ok (.if_icmp .ne 17, 3) := by decide +kernel
theorem dX10_layRoads_130 : decode cX10_layRoads 130 = .ok (.aload_n 0, 1) := by decide +kernel
theorem dX10_layRoads_131 : decode cX10_layRoads 131 = .ok (.getfield 15, 3) := by decide +kernel
theorem dX10_layRoads_134 : decode cX10_layRoads 134 = .ok (.iload 6, 2) := by decide +kernel
theorem dX10_layRoads_136 : decode cX10_layRoads 136 = .ok (.dup2, 1) := by decide +kernel
theorem dX10_layRoads_137 : decode cX10_layRoads 137 = .ok (.iaload, 1) := by decide +kernel
theorem dX10_layRoads_138 : decode cX10_layRoads 138 = .ok (.iconst 1, 1) := by decide +kernel
theorem dX10_layRoads_139 : decode cX10_layRoads 139 = .ok (.iload 5, 2) := by decide +kernel
theorem dX10_layRoads_141 : decode cX10_layRoads 141 = .ok (.ishl, 1) := by decide +kernel
theorem dX10_layRoads_142 : decode cX10_layRoads 142 = .ok (.ior, 1) := by decide +kernel
theorem dX10_layRoads_143 : decode cX10_layRoads 143 = .ok (.iastore, 1) := by decide +kernel
theorem dX10_layRoads_144 : decode cX10_layRoads 144 = .ok (.iinc 4 1, 3) := by decide +kernel
theorem dX10_layRoads_147 : decode cX10_layRoads 147 = .ok (.goto (-120), 3) := by decide +kernel
theorem dX10_layRoads_150 : decode cX10_layRoads 150 = .ok (.return_, 1) := by decide +kernel
set_option maxRecDepth 20000 in
theorem ggX10_canDo_X10_cornersFrom : GoodIn wsX10_canDo wsX10_cornersFrom := goodIn_r _ [8, 9, 10, 11, 12, 13, 14, 15, 16, 31, 32, 33, 34, 35, 36, 37, 38, 39, 40, 41, 42] (by decide +kernel) (by decide +kernel)
set_option maxRecDepth 20000 in
theorem gX10_canDo_X10_cornersFrom : GoodIn wsX10_canDo (wsV RX10 60 RX10 yX10_cornersFrom wsX10_cornersFrom) := goodIn_app (goodIn_of _ (by decide +kernel)) ggX10_canDo_X10_cornersFrom
theorem dX10_canDo_0 : decode cX10_canDo 0 = .ok (.aload_n 0, 1) := by decide +kernel
theorem dX10_canDo_1 : decode cX10_canDo 1 = .ok (.aload_n 0, 1) := by decide +kernel
theorem dX10_canDo_2 : decode cX10_canDo 2 = .ok (.getfield 18, 3) := by decide +kernel
theorem dX10_canDo_5 : decode cX10_canDo 5 = .ok (.getfield 66, 3) := by decide +kernel
theorem dX10_canDo_8 : decode cX10_canDo 8 = .ok (.iload_n 1, 1) := by decide +kernel
theorem dX10_canDo_9 : decode cX10_canDo 9 = .ok (.iaload, 1) := by decide +kernel
theorem dX10_canDo_10 : decode cX10_canDo 10 = .ok (.invokevirtual 60, 3) := by decide +kernel
theorem dX10_canDo_13 : decode cX10_canDo 13 = .ok (.aload_n 0, 1) := by decide +kernel
theorem dX10_canDo_14 : decode cX10_canDo 14 = .ok (.getfield 18, 3) := by decide +kernel
theorem dX10_canDo_17 : decode cX10_canDo 17 = .ok (.getfield 69, 3) := by decide +kernel
theorem dX10_canDo_20 : decode cX10_canDo 20 = .ok (.iload_n 1, 1) := by decide +kernel
theorem dX10_canDo_21 : decode cX10_canDo 21 = .ok (.iaload, 1) := by decide +kernel
theorem dX10_canDo_22 : decode cX10_canDo 22 = .ok (.ishr, 1) := by decide +kernel
theorem dX10_canDo_23 : decode cX10_canDo 23 = .ok (.iconst 1, 1) := by decide +kernel
theorem dX10_canDo_24 : decode cX10_canDo 24 = .ok (.iand, 1) := by decide +kernel
theorem dX10_canDo_25 : decode cX10_canDo 25 = .ok (.ifCond .eq 7, 3) := by decide +kernel
theorem dX10_canDo_28 : decode cX10_canDo 28 = .ok (.iconst 1, 1) := by decide +kernel
theorem dX10_canDo_29 : decode cX10_canDo 29 = .ok (.goto 4, 3) := by decide +kernel
theorem dX10_canDo_32 : decode cX10_canDo 32 = .ok (.iconst 0, 1) := by decide +kernel
theorem dX10_canDo_33 : decode cX10_canDo 33 = .ok (.ireturn, 1) := by decide +kernel
theorem dX10_cornersFrom_0 : decode cX10_cornersFrom 0 = .ok (.iconst 1, 1) := by decide +kernel
theorem dX10_cornersFrom_1 : decode cX10_cornersFrom 1 = .ok (.iload_n 1, 1) := by decide +kernel
theorem dX10_cornersFrom_2 : decode cX10_cornersFrom 2 = .ok (.ishl, 1) := by decide +kernel
theorem dX10_cornersFrom_3 : decode cX10_cornersFrom 3 = .ok (.istore_n 2, 1) := by decide +kernel
theorem dX10_cornersFrom_4 : decode cX10_cornersFrom 4 = .ok (.iload_n 2, 1) := by decide +kernel
theorem dX10_cornersFrom_5 : decode cX10_cornersFrom 5 = .ok (.istore_n 3, 1) := by decide +kernel
theorem dX10_cornersFrom_6 : decode cX10_cornersFrom 6 = .ok (.iconst 0, 1) := by decide +kernel
theorem dX10_cornersFrom_7 : decode cX10_cornersFrom 7 = .ok (.istore 4, 2) := by decide +kernel
theorem dX10_cornersFrom_9 : decode cX10_cornersFrom 9 = .ok (.iload 4, 2) := by decide +kernel
theorem dX10_cornersFrom_11 : decode cX10_cornersFrom 11 = .ok (.bipush 10, 2) := by decide +kernel
theorem dX10_cornersFrom_13 : decode cX10_cornersFrom 13 = .ok (.if_icmp .ge 74, 3) := by decide +kernel
theorem dX10_cornersFrom_16 : decode cX10_cornersFrom 16 = .ok (.iload_n 3, 1) := by decide +kernel
theorem dX10_cornersFrom_17 : decode cX10_cornersFrom 17 = .ok (.ifCond .eq 70, 3) := by decide +kernel
theorem dX10_cornersFrom_20 : decode cX10_cornersFrom 20 = .ok (.iconst 0, 1) := by decide +kernel
theorem dX10_cornersFrom_21 : decode cX10_cornersFrom 21 = .ok (.istore 5, 2) := by decide +kernel
theorem dX10_cornersFrom_23 : decode cX10_cornersFrom 23 = .ok (.iconst 0, 1) := by decide +kernel
theorem dX10_cornersFrom_24 : decode cX10_cornersFrom 24 = .ok (.istore 6, 2) := by decide +kernel
theorem dX10_cornersFrom_26 : decode cX10_cornersFrom 26 = .ok (.iload 6, 2) := by decide +kernel
theorem dX10_cornersFrom_28 : decode cX10_cornersFrom 28 = .ok (.aload_n 0, 1) := by decide +kernel
theorem dX10_cornersFrom_29 : decode cX10_cornersFrom 29 = .ok (.getfield 28, 3) := by decide +kernel
theorem dX10_cornersFrom_32 : decode cX10_cornersFrom 32 = .ok (.getfield 75, 3) := by decide +kernel
theorem dX10_cornersFrom_35 : decode cX10_cornersFrom 35 = .ok (.if_icmp .ge 30, 3) := by decide +kernel
theorem dX10_cornersFrom_38 : decode cX10_cornersFrom 38 = .ok (.iload_n 3, 1) := by decide +kernel
theorem dX10_cornersFrom_39 : decode cX10_cornersFrom 39 = .ok (.iload 6, 2) := by decide +kernel
theorem dX10_cornersFrom_41 : decode cX10_cornersFrom 41 = .ok (.ishr, 1) := by decide +kernel
theorem dX10_cornersFrom_42 : decode cX10_cornersFrom 42 = .ok (.iconst 1, 1) := by decide +kernel
theorem dX10_cornersFrom_43 : decode cX10_cornersFrom 43 = .ok (.iand, 1) := by decide +kernel
theorem dX10_cornersFrom_44 : decode cX10_cornersFrom 44 = .ok (.ifCond .eq 15, 3) := by decide +kernel
theorem dX10_cornersFrom_47 : decode cX10_cornersFrom 47 = .ok (.iload 5, 2) := by decide +kernel
theorem dX10_cornersFrom_49 : decode cX10_cornersFrom 49 = .ok (.aload_n 0, 1) := by decide +kernel
theorem dX10_cornersFrom_50 : decode cX10_cornersFrom 50 = .ok (.getfield 15, 3) := by decide +kernel
theorem dX10_cornersFrom_53 : decode cX10_cornersFrom 53 = .ok (.iload 6, 2) := by decide +kernel
theorem dX10_cornersFrom_55 : decode cX10_cornersFrom 55 = .ok (.iaload, 1) := by decide +kernel
theorem dX10_cornersFrom_56 : decode cX10_cornersFrom 56 = .ok (.ior, 1) := by decide +kernel
theorem dX10_cornersFrom_57 : decode cX10_cornersFrom 57 = .ok (.istore 5, 2) := by decide +kernel
theorem dX10_cornersFrom_59 : decode cX10_cornersFrom 59 = .ok (.iinc 6 1, 3) := by decide +kernel
theorem dX10_cornersFrom_62 : decode cX10_cornersFrom 62 = .ok (.goto (-36), 3) := by decide +kernel
theorem dX10_cornersFrom_65 : decode cX10_cornersFrom 65 = .ok (.iload 5, 2) := by decide +kernel
theorem dX10_cornersFrom_67 : decode cX10_cornersFrom 67 = .ok (.iload_n 2, 1) := by decide +kernel
theorem dX10_cornersFrom_68 : decode cX10_cornersFrom 68 = .ok (.iconst (-1), 1) := by decide +kernel
theorem dX10_cornersFrom_69 : decode cX10_cornersFrom 69 = .ok (.ixor, 1) := by decide +kernel
theorem dX10_cornersFrom_70 : decode cX10_cornersFrom 70 = .ok (.iand, 1) := by decide +kernel
theorem dX10_cornersFrom_71 : decode cX10_cornersFrom 71 = .ok (.sipush 1023, 3) := by decide +kernel
theorem dX10_cornersFrom_74 : decode cX10_cornersFrom 74 = .ok (.iand, 1) := by decide +kernel
theorem dX10_cornersFrom_75 : decode cX10_cornersFrom 75 = .ok (.istore_n 3, 1) := by decide +kernel
theorem dX10_cornersFrom_76 : decode cX10_cornersFrom 76 = .ok (.iload_n 2, 1) := by decide +kernel
theorem dX10_cornersFrom_77 : decode cX10_cornersFrom 77 = .ok (.iload 5, 2) := by decide +kernel
theorem dX10_cornersFrom_79 : decode cX10_cornersFrom 79 = .ok (.ior, 1) := by decide +kernel
theorem dX10_cornersFrom_80 : decode cX10_cornersFrom 80 = .ok (.istore_n 2, 1) := by decide +kernel
theorem dX10_cornersFrom_81 : decode cX10_cornersFrom 81 = .ok (.iinc 4 1, 3) := by decide +kernel
theorem dX10_cornersFrom_84 : decode cX10_cornersFrom 84 = .ok (.goto (-75), 3) := by decide +kernel
theorem dX10_cornersFrom_87 : decode cX10_cornersFrom 87 = .ok (.iload_n 2, 1) := by decide +kernel
theorem dX10_cornersFrom_88 : decode cX10_cornersFrom 88 = .ok (.ireturn, 1) := by decide +kernel
set_option maxRecDepth 20000 in
theorem ggX11_init_X6_init : GoodIn wsX11_init wsX6_init := goodIn_r _ [49, 50, 2, 3, 51, 52, 145, 146, 147, 148, 149] (by decide +kernel) (by decide +kernel)
set_option maxRecDepth 20000 in
theorem gX11_init_X6_init : GoodIn wsX11_init (wsX6_init) := ggX11_init_X6_init
set_option maxRecDepth 20000 in
theorem ggX11_init_X7_init : GoodIn wsX11_init wsX7_init := goodIn_r _ [55, 56, 2, 3, 51, 57, 58, 59, 60, 61, 62, 63, 64, 163, 164, 165, 166, 167, 168, 169, 170, 171, 172, 173, 174] (by decide +kernel) (by decide +kernel)
set_option maxRecDepth 20000 in
theorem gX11_init_X7_init : GoodIn wsX11_init (wsX7_init) := ggX11_init_X7_init
set_option maxRecDepth 20000 in
theorem ggX11_init_X2_init : GoodIn wsX11_init wsX2_init := goodIn_r _ [67, 68, 2, 3, 51, 69, 70, 71, 175, 176, 177, 178, 179, 180] (by decide +kernel) (by decide +kernel)
set_option maxRecDepth 20000 in
theorem gX11_init_X2_init : GoodIn wsX11_init (wsX2_init) := ggX11_init_X2_init
set_option maxRecDepth 20000 in
theorem ggX11_init_X3_init : GoodIn wsX11_init wsX3_init := goodIn_r _ [74, 75, 2, 3, 76, 181, 182, 183] (by decide +kernel) (by decide +kernel)
set_option maxRecDepth 20000 in
theorem gX11_init_X3_init : GoodIn wsX11_init (wsX3_init) := ggX11_init_X3_init
set_option maxRecDepth 20000 in
theorem ggX11_init_X5_init : GoodIn wsX11_init wsX5_init := goodIn_r _ [79, 80, 2, 3, 81, 9, 10, 82, 51, 83, 84, 85, 86, 87, 88, 89, 90, 91, 92, 93, 54, 55, 56, 57, 58, 59, 60, 61, 62, 63, 64, 94, 95, 96, 97, 163, 164, 165, 166, 167, 168, 169, 170, 171, 172, 173, 174, 184, 185, 186, 187, 188, 189, 190, 191, 192, 193, 194, 195, 196, 197, 229, 230, 231, 232, 233, 234, 235, 236, 237] (by decide +kernel) (by decide +kernel)
set_option maxRecDepth 20000 in
theorem gX11_init_X5_init : GoodIn wsX11_init (wsX5_init) := ggX11_init_X5_init
set_option maxRecDepth 20000 in
theorem ggX11_init_X0_init : GoodIn wsX11_init wsX0_init := goodIn_r _ [100, 101, 2, 3, 51, 102, 103, 25, 104, 105, 198, 199, 200, 201] (by decide +kernel) (by decide +kernel)
set_option maxRecDepth 20000 in
theorem gX11_init_X0_init : GoodIn wsX11_init (wsX0_init) := ggX11_init_X0_init
set_option maxRecDepth 20000 in
theorem ggX11_init_X1_init : GoodIn wsX11_init wsX1_init := goodIn_r _ [108, 109, 2, 3, 110, 111, 112, 113, 114, 202, 203, 204, 205, 206, 207, 208, 209, 210, 211] (by decide +kernel) (by decide +kernel)
set_option maxRecDepth 20000 in
theorem gX11_init_X1_init : GoodIn wsX11_init (wsX1_init) := ggX11_init_X1_init
set_option maxRecDepth 20000 in
theorem ggX11_init_X8_init : GoodIn wsX11_init wsX8_init := goodIn_r _ [117, 118, 2, 3, 119, 91, 92, 120, 51, 121, 122, 123, 124, 125, 126, 95, 96, 97, 229, 230, 231, 232, 233, 234, 235, 236, 237, 212, 213, 214, 215, 216, 217, 218, 219] (by decide +kernel) (by decide +kernel)
set_option maxRecDepth 20000 in
theorem gX11_init_X8_init : GoodIn wsX11_init (wsX8_init) := ggX11_init_X8_init
set_option maxRecDepth 20000 in
theorem ggX11_init_X4_init : GoodIn wsX11_init wsX4_init := goodIn_r _ [129, 130, 2, 3, 51, 131, 25, 132, 133, 134, 135, 220, 221, 222, 223, 184, 185, 186, 187, 188, 189, 190, 191, 192, 193, 194, 195, 196, 197] (by decide +kernel) (by decide +kernel)
set_option maxRecDepth 20000 in
theorem gX11_init_X4_init : GoodIn wsX11_init (wsX4_init) := ggX11_init_X4_init
set_option maxRecDepth 20000 in
theorem ggX11_init_X10_init : GoodIn wsX11_init wsX10_init := goodIn_r _ [138, 139, 2, 3, 51, 140, 141, 142, 143, 144, 224, 225, 226, 227, 228, 184, 185, 186, 187, 188, 189, 190, 191, 192, 193, 194, 195, 196, 197] (by decide +kernel) (by decide +kernel)
set_option maxRecDepth 20000 in
theorem gX11_init_X10_init : GoodIn wsX11_init (wsX10_init) := ggX11_init_X10_init
theorem dX11_init_0 : decode cX11_init 0 = .ok (.aload_n 0, 1) := by decide +kernel
theorem dX11_init_1 : decode cX11_init 1 = .ok (.invokespecial 1, 3) := by decide +kernel
theorem dX11_init_4 : decode cX11_init 4 = .ok (.aload_n 0, 1) := by decide +kernel
theorem dX11_init_5 : decode cX11_init 5 = .ok (.new 7, 3) := by decide +kernel
theorem dX11_init_8 : decode cX11_init 8 = .ok (.dup, 1) := by decide +kernel
theorem dX11_init_9 : decode cX11_init 9 = .ok (.invokespecial 9, 3) := by decide +kernel
theorem dX11_init_12 : decode cX11_init 12 = .ok (.putfield 10, 3) := by decide +kernel
theorem dX11_init_15 : decode cX11_init 15 = .ok (.aload_n 0, 1) := by decide +kernel
theorem dX11_init_16 : decode cX11_init 16 = .ok (.new 16, 3) := by decide +kernel
theorem dX11_init_19 : decode cX11_init 19 = .ok (.dup, 1) := by decide +kernel
theorem dX11_init_20 : decode cX11_init 20 = .ok (.invokespecial 18, 3) := by decide +kernel
theorem dX11_init_23 : decode cX11_init 23 = .ok (.putfield 19, 3) := by decide +kernel
theorem dX11_init_26 : decode cX11_init 26 = .ok (.aload_n 0, 1) := by decide +kernel
theorem dX11_init_27 : decode cX11_init 27 = .ok (.bipush 6, 2) := by decide +kernel
theorem dX11_init_29 : decode cX11_init 29 = .ok (.anewarray 23, 3) := by decide +kernel
theorem dX11_init_32 : decode cX11_init 32 = .ok (.putfield 25, 3) := by decide +kernel
theorem dX11_init_35 : decode cX11_init 35 = .ok (.iconst 0, 1) := by decide +kernel
theorem dX11_init_36 : decode cX11_init 36 = .ok (.istore_n 1, 1) := by decide +kernel
theorem dX11_init_37 : decode cX11_init 37 = .ok (.iload_n 1, 1) := by decide +kernel
theorem dX11_init_38 : decode cX11_init 38 = .ok (.bipush 6, 2) := by decide +kernel
theorem dX11_init_40 : decode cX11_init 40 = .ok (.if_icmp .ge 22, 3) := by decide +kernel
theorem dX11_init_43 : decode cX11_init 43 = .ok (.aload_n 0, 1) := by decide +kernel
theorem dX11_init_44 : decode cX11_init 44 = .ok (.getfield 25, 3) := by decide +kernel
theorem dX11_init_47 : decode cX11_init 47 = .ok (.iload_n 1, 1) := by decide +kernel
theorem dX11_init_48 : decode cX11_init 48 = .ok (.new 23, 3) := by decide +kernel
theorem dX11_init_51 : decode cX11_init 51 = .ok (.dup, 1) := by decide +kernel
theorem dX11_init_52 : decode cX11_init 52 = .ok (.invokespecial 29, 3) := by decide +kernel
theorem dX11_init_55 : decode cX11_init 55 = .ok (.aastore, 1) := by decide +kernel
theorem dX11_init_56 : decode cX11_init 56 = .ok (.iinc 1 1, 3) := by decide +kernel
theorem dX11_init_59 : decode cX11_init 59 = .ok (.goto (-22), 3) := by decide +kernel
theorem dX11_init_62 : decode cX11_init 62 = .ok (.aload_n 0, 1) := by decide +kernel
theorem dX11_init_63 : decode cX11_init 63 = .ok (.new 30, 3) := by decide +kernel
theorem dX11_init_66 : decode cX11_init 66 = .ok (.dup, 1) := by decide +kernel
theorem dX11_init_67 : decode cX11_init 67 = .ok (.aload_n 0, 1) := by decide +kernel
theorem dX11_init_68 : decode cX11_init 68 = .ok (.getfield 10, 3) := by decide +kernel
theorem dX11_init_71 : decode cX11_init 71 = .ok (.invokespecial 32, 3) := by decide +kernel
theorem dX11_init_74 : decode cX11_init 74 = .ok (.putfield 35, 3) := by decide +kernel
theorem dX11_init_77 : decode cX11_init 77 = .ok (.aload_n 0, 1) := by decide +kernel
theorem dX11_init_78 : decode cX11_init 78 = .ok (.new 39, 3) := by decide +kernel
theorem dX11_init_81 : decode cX11_init 81 = .ok (.dup, 1) := by decide +kernel
theorem dX11_init_82 : decode cX11_init 82 = .ok (.invokespecial 41, 3) := by decide +kernel
theorem dX11_init_85 : decode cX11_init 85 = .ok (.putfield 42, 3) := by decide +kernel
theorem dX11_init_88 : decode cX11_init 88 = .ok (.aload_n 0, 1) := by decide +kernel
theorem dX11_init_89 : decode cX11_init 89 = .ok (.iconst 4, 1) := by decide +kernel
theorem dX11_init_90 : decode cX11_init 90 = .ok (.anewarray 39, 3) := by decide +kernel
theorem dX11_init_93 : decode cX11_init 93 = .ok (.putfield 46, 3) := by decide +kernel
theorem dX11_init_96 : decode cX11_init 96 = .ok (.iconst 0, 1) := by decide +kernel
theorem dX11_init_97 : decode cX11_init 97 = .ok (.istore_n 1, 1) := by decide +kernel
theorem dX11_init_98 : decode cX11_init 98 = .ok (.iload_n 1, 1) := by decide +kernel
theorem dX11_init_99 : decode cX11_init 99 = .ok (.iconst 4, 1) := by decide +kernel
theorem dX11_init_100 : decode cX11_init 100 = .ok (.if_icmp .ge 22, 3) := by decide +kernel
theorem dX11_init_103 : decode cX11_init 103 = .ok (.aload_n 0, 1) := by decide +kernel
theorem dX11_init_104 : decode cX11_init 104 = .ok (.getfield 46, 3) := by decide +kernel
theorem dX11_init_107 : decode cX11_init 107 = .ok (.iload_n 1, 1) := by decide +kernel
theorem dX11_init_108 : decode cX11_init 108 = .ok (.new 39, 3) := by decide +kernel
theorem dX11_init_111 : decode cX11_init 111 = .ok (.dup, 1) := by decide +kernel
theorem dX11_init_112 : decode cX11_init 112 = .ok (.invokespecial 41, 3) := by decide +kernel
theorem dX11_init_115 : decode cX11_init 115 = .ok (.aastore, 1) := by decide +kernel
theorem dX11_init_116 : decode cX11_init 116 = .ok (.iinc 1 1, 3) := by decide +kernel
theorem dX11_init_119 : decode cX11_init 119 = .ok (.goto (-21), 3) := by decide +kernel
theorem dX11_init_122 : decode cX11_init 122 = .ok (.aload_n 0, 1) := by decide +kernel
theorem dX11_init_123 : decode cX11_init 123 = .ok (.iconst 4, 1) := by decide +kernel
theorem dX11_init_124 : decode cX11_init 124 = .ok (.newarray .boolean, 2) := by decide +kernel
theorem dX11_init_126 : decode cX11_init 126 = .ok (.putfield 50, 3) := by decide +kernel
theorem dX11_init_129 : decode cX11_init 129 = .ok (.aload_n 0, 1) := by decide +kernel
theorem dX11_init_130 : decode cX11_init 130 = .ok (.new 54, 3) := by decide +kernel
theorem dX11_init_133 : decode cX11_init 133 = .ok (.dup, 1) := by decide +kernel
theorem dX11_init_134 : decode cX11_init 134 = .ok (.aload_n 0, 1) := by decide +kernel
theorem dX11_init_135 : decode cX11_init 135 = .ok (.getfield 42, 3) := by decide +kernel
theorem dX11_init_138 : decode cX11_init 138 = .ok (.invokespecial 56, 3) := by decide +kernel
theorem dX11_init_141 : decode cX11_init 141 = .ok (.putfield 59, 3) := by decide +kernel
theorem dX11_init_144 : decode cX11_init 144 = .ok (.aload_n 0, 1) := by decide +kernel
theorem dX11_init_145 : decode cX11_init 145 = .ok (.new 63, 3) := by decide +kernel
theorem dX11_init_148 : decode cX11_init 148 = .ok (.dup, 1) := by decide +kernel
theorem dX11_init_149 : decode cX11_init 149 = .ok (.aload_n 0, 1) := by decide +kernel
theorem dX11_init_150 : decode cX11_init 150 = .ok (.getfield 42, 3) := by decide +kernel
theorem dX11_init_153 : decode cX11_init 153 = .ok (.aload_n 0, 1) := by decide +kernel
theorem dX11_init_154 : decode cX11_init 154 = .ok (.getfield 59, 3) := by decide +kernel
theorem dX11_init_157 : decode cX11_init 157 = .ok (.aload_n 0, 1) := by decide +kernel
theorem dX11_init_158 : decode cX11_init 158 = .ok (.getfield 25, 3) := by decide +kernel
theorem dX11_init_161 : decode cX11_init 161 = .ok (.invokespecial 65, 3) := by decide +kernel
theorem dX11_init_164 : decode cX11_init 164 = .ok (.putfield 68, 3) := by decide +kernel
theorem dX11_init_167 : decode cX11_init 167 = .ok (.aload_n 0, 1) := by decide +kernel
theorem dX11_init_168 : decode cX11_init 168 = .ok (.new 72, 3) := by decide +kernel
theorem dX11_init_171 : decode cX11_init 171 = .ok (.dup, 1) := by decide +kernel
theorem dX11_init_172 : decode cX11_init 172 = .ok (.aload_n 0, 1) := by decide +kernel
theorem dX11_init_173 : decode cX11_init 173 = .ok (.getfield 42, 3) := by decide +kernel
theorem dX11_init_176 : decode cX11_init 176 = .ok (.aload_n 0, 1) := by decide +kernel
theorem dX11_init_177 : decode cX11_init 177 = .ok (.getfield 59, 3) := by decide +kernel
theorem dX11_init_180 : decode cX11_init 180 = .ok (.aload_n 0, 1) := by decide +kernel
theorem dX11_init_181 : decode cX11_init 181 = .ok (.getfield 68, 3) := by decide +kernel
theorem dX11_init_184 : decode cX11_init 184 = .ok (.invokespecial 74, 3) := by decide +kernel
theorem dX11_init_187 : decode cX11_init 187 = .ok (.putfield 77, 3) := by decide +kernel
theorem dX11_init_190 : decode cX11_init 190 = .ok (.aload_n 0, 1) := by decide +kernel
theorem dX11_init_191 : decode cX11_init 191 = .ok (.new 81, 3) := by decide +kernel
theorem dX11_init_194 : decode cX11_init 194 = .ok (.dup, 1) := by decide +kernel
theorem dX11_init_195 : decode cX11_init 195 = .ok (.aload_n 0, 1) := by decide +kernel
theorem dX11_init_196 : decode cX11_init 196 = .ok (.getfield 42, 3) := by decide +kernel
theorem dX11_init_199 : decode cX11_init 199 = .ok (.invokespecial 83, 3) := by decide +kernel
theorem dX11_init_202 : decode cX11_init 202 = .ok (.putfield 84, 3) := by decide +kernel
theorem dX11_init_205 : decode cX11_init 205 = .ok (.aload_n 0, 1) := by decide +kernel
theorem dX11_init_206 : decode cX11_init 206 = .ok (.new 88, 3) := by decide +kernel
theorem dX11_init_209 : decode cX11_init 209 = .ok (.dup, 1) := by decide +kernel
theorem dX11_init_210 : decode cX11_init 210 = .ok (.aload_n 0, 1) := by decide +kernel
theorem dX11_init_211 : decode cX11_init 211 = .ok (.getfield 42, 3) := by decide +kernel
theorem dX11_init_214 : decode cX11_init 214 = .ok (.invokespecial 90, 3) := by decide +kernel
theorem dX11_init_217 : decode cX11_init 217 = .ok (.putfield 91, 3) := by decide +kernel
theorem dX11_init_220 : decode cX11_init 220 = .ok (.return_, 1) := by decide +kernel
set_option maxRecDepth 20000 in
theorem ggX11_feed_X6_hasRoom : GoodIn wsX11_feed wsX6_hasRoom := goodIn_r _ [7, 8, 27, 28, 29, 30, 31] (by decide +kernel) (by decide +kernel)
set_option maxRecDepth 20000 in
theorem gX11_feed_X6_hasRoom : GoodIn wsX11_feed (wsV RX11 95 RX6 yX6_hasRoom wsX6_hasRoom) := goodIn_app (goodIn_of _ (by decide +kernel)) ggX11_feed_X6_hasRoom
set_option maxRecDepth 20000 in
theorem ggX11_feed_X6_append : GoodIn wsX11_feed wsX6_append := goodIn_r _ [12, 8, 13, 27, 28, 29, 30, 31] (by decide +kernel) (by decide +kernel)
set_option maxRecDepth 20000 in
theorem gX11_feed_X6_append : GoodIn wsX11_feed (wsV RX11 99 RX6 yX6_append wsX6_append) := goodIn_app (goodIn_of _ (by decide +kernel)) ggX11_feed_X6_append
theorem dX11_feed_0 : decode cX11_feed 0 = .ok (.aload_n 0, 1) := by decide +kernel
theorem dX11_feed_1 : decode cX11_feed 1 = .ok (.getfield 10, 3) := by decide +kernel
theorem dX11_feed_4 : decode cX11_feed 4 = .ok (.invokevirtual 95, 3) := by decide +kernel
theorem dX11_feed_7 : decode cX11_feed 7 = .ok (.ifCond .ne 5, 3) := by decide +kernel
theorem dX11_feed_10 : decode cX11_feed 10 = .ok (.iconst (-1), 1) := by decide +kernel
theorem dX11_feed_11 : decode cX11_feed 11 = .ok (.ireturn, 1) := by decide +kernel
theorem dX11_feed_12 : decode cX11_feed 12 = .ok (.aload_n 0, 1) := by decide +kernel
theorem dX11_feed_13 : decode cX11_feed 13 = .ok (.getfield 10, 3) := by decide +kernel
theorem dX11_feed_16 : decode cX11_feed 16 = .ok (.iload_n 1, 1) := by decide +kernel
theorem dX11_feed_17 : decode cX11_feed 17 = .ok (.invokevirtual 99, 3) := by decide +kernel
theorem dX11_feed_20 : decode cX11_feed 20 = .ok (.aload_n 0, 1) := by decide +kernel
theorem dX11_feed_21 : decode cX11_feed 21 = .ok (.getfield 10, 3) := by decide +kernel
theorem dX11_feed_24 : decode cX11_feed 24 = .ok (.iload_n 2, 1) := by decide +kernel
theorem dX11_feed_25 : decode cX11_feed 25 = .ok (.invokevirtual 99, 3) := by decide +kernel
theorem dX11_feed_28 : decode cX11_feed 28 = .ok (.aload_n 0, 1) := by decide +kernel
theorem dX11_feed_29 : decode cX11_feed 29 = .ok (.getfield 10, 3) := by decide +kernel
theorem dX11_feed_32 : decode cX11_feed 32 = .ok (.iload_n 3, 1) := by decide +kernel
theorem dX11_feed_33 : decode cX11_feed 33 = .ok (.invokevirtual 99, 3) := by decide +kernel
theorem dX11_feed_36 : decode cX11_feed 36 = .ok (.aload_n 0, 1) := by decide +kernel
theorem dX11_feed_37 : decode cX11_feed 37 = .ok (.getfield 10, 3) := by decide +kernel
theorem dX11_feed_40 : decode cX11_feed 40 = .ok (.iload 4, 2) := by decide +kernel
theorem dX11_feed_42 : decode cX11_feed 42 = .ok (.invokevirtual 99, 3) := by decide +kernel
theorem dX11_feed_45 : decode cX11_feed 45 = .ok (.aload_n 0, 1) := by decide +kernel
theorem dX11_feed_46 : decode cX11_feed 46 = .ok (.getfield 10, 3) := by decide +kernel
theorem dX11_feed_49 : decode cX11_feed 49 = .ok (.iload 5, 2) := by decide +kernel
theorem dX11_feed_51 : decode cX11_feed 51 = .ok (.invokevirtual 99, 3) := by decide +kernel
theorem dX11_feed_54 : decode cX11_feed 54 = .ok (.aload_n 0, 1) := by decide +kernel
theorem dX11_feed_55 : decode cX11_feed 55 = .ok (.getfield 10, 3) := by decide +kernel
theorem dX11_feed_58 : decode cX11_feed 58 = .ok (.getfield 103, 3) := by decide +kernel
theorem dX11_feed_61 : decode cX11_feed 61 = .ok (.ireturn, 1) := by decide +kernel
theorem dX11_end_0 : decode cX11_end 0 = .ok (.iload_n 1, 1) := by decide +kernel
theorem dX11_end_1 : decode cX11_end 1 = .ok (.ifCond .lt 14, 3) := by decide +kernel
theorem dX11_end_4 : decode cX11_end 4 = .ok (.iload_n 1, 1) := by decide +kernel
theorem dX11_end_5 : decode cX11_end 5 = .ok (.aload_n 0, 1) := by decide +kernel
theorem dX11_end_6 : decode cX11_end 6 = .ok (.getfield 10, 3) := by decide +kernel
theorem dX11_end_9 : decode cX11_end 9 = .ok (.getfield 103, 3) := by decide +kernel
theorem dX11_end_12 : decode cX11_end 12 = .ok (.if_icmp .le 5, 3) := by decide +kernel
theorem dX11_end_15 : decode cX11_end 15 = .ok (.iconst (-1), 1) := by decide +kernel
theorem dX11_end_16 : decode cX11_end 16 = .ok (.ireturn, 1) := by decide +kernel
theorem dX11_end_17 : decode cX11_end 17 = .ok (.aload_n 0, 1) := by decide +kernel
theorem dX11_end_18 : decode cX11_end 18 = .ok (.getfield 10, 3) := by decide +kernel
theorem dX11_end_21 : decode cX11_end 21 = .ok (.iload_n 1, 1) := by decide +kernel
theorem dX11_end_22 : decode cX11_end 22 = .ok (.putfield 103, 3) := by decide +kernel
theorem dX11_end_25 : decode cX11_end 25 = .ok (.iload_n 1, 1) := by decide +kernel
theorem dX11_end_26 : decode cX11_end 26 = .ok (.ireturn, 1) := by decide +kernel
set_option maxRecDepth 20000 in
theorem ggX11_town_X7_readFrom : GoodIn wsX11_town wsX7_readFrom := goodIn_r _ [13, 14, 15, 16, 17, 18, 19, 20, 21, 22, 23, 24, 25, 26, 27, 28, 29, 30, 31, 32, 33, 34, 35, 36, 37, 38, 39, 40, 41, 42, 43, 44, 45, 46, 47, 48, 49, 50, 51, 52, 53, 54, 55, 56, 57, 58, 59, 60, 61, 62, 63, 64, 65, 66, 67, 68, 69, 70, 71, 72, 73, 74, 75, 76, 77, 78, 79, 80, 81, 82, 83, 84, 85, 86, 87, 88, 89, 90, 91, 92, 93, 94, 95, 96, 12, 97, 98, 99, 100, 101, 102, 103, 104, 105, 106, 107, 108, 109, 110, 111, 112, 113, 114, 115, 116, 117, 118, 119, 120, 121, 122, 123, 124, 125, 126, 127, 128, 129, 130, 131, 132, 133, 134, 135, 136, 137, 138, 139, 140, 141, 142, 143, 144, 145, 146, 147, 148, 149, 150, 151, 152, 153, 154, 155, 156, 157, 158, 159, 160, 161, 162, 163, 164, 165, 166, 167, 168, 169, 170, 171, 172, 173, 174, 175, 176, 177, 178, 179, 180, 181, 182, 183, 184, 185, 186, 187, 188, 189, 190, 191, 192, 193, 194, 195, 196, 197, 198, 199, 200, 201, 202, 203, 204, 205, 206, 207, 208, 209, 210, 211, 212, 213, 214, 215, 216, 217, 218, 219, 220, 221, 222, 223, 224, 225, 226, 227, 228, 229, 230, 231, 232, 233, 234, 235, 236, 237, 238, 239, 297, 298, 299, 300, 301, 302, 303, 304, 305, 306, 307, 308, 278, 279, 280, 281, 282] (by decide +kernel) (by decide +kernel)
set_option maxRecDepth 20000 in
theorem gX11_town_X7_readFrom : GoodIn wsX11_town (wsV RX11 107 RX7 yX7_readFrom wsX7_readFrom) := goodIn_app (goodIn_of _ (by decide +kernel)) ggX11_town_X7_readFrom
set_option maxRecDepth 20000 in
theorem ggX11_town_X5_moveTo : GoodIn wsX11_town wsX5_moveTo := goodIn_r _ [244, 245, 246, 247, 248, 249, 250, 251, 252, 253, 12, 254, 123, 255, 256, 257, 258, 124, 209, 125, 126, 214, 215, 235, 14, 15, 16, 17, 283, 284, 285, 286, 287, 288, 289, 290, 291, 292, 293, 294, 295, 296, 297, 298, 299, 300, 301, 302, 303, 304, 305, 306, 307, 308] (by decide +kernel) (by decide +kernel)
set_option maxRecDepth 20000 in
theorem gX11_town_X5_moveTo : GoodIn wsX11_town (wsV RX11 113 RX5 yX5_moveTo wsX5_moveTo) := goodIn_app (goodIn_of _ (by decide +kernel)) ggX11_town_X5_moveTo
set_option maxRecDepth 20000 in
theorem ggX11_town_X0_forgetAll : GoodIn wsX11_town wsX0_forgetAll := goodIn_r _ [263, 264, 309, 310, 311, 312] (by decide +kernel) (by decide +kernel)
set_option maxRecDepth 20000 in
theorem gX11_town_X0_forgetAll : GoodIn wsX11_town (wsV RX11 117 RX0 yX0_forgetAll wsX0_forgetAll) := goodIn_app (goodIn_of _ (by decide +kernel)) ggX11_town_X0_forgetAll
theorem dX11_town_0 : decode cX11_town 0 = .ok (.aload_n 0, 1) := by decide +kernel
theorem dX11_town_1 : decode cX11_town 1 = .ok (.getfield 19, 3) := by decide +kernel
theorem dX11_town_4 : decode cX11_town 4 = .ok (.aload_n 0, 1) := by decide +kernel
theorem dX11_town_5 : decode cX11_town 5 = .ok (.getfield 10, 3) := by decide +kernel
theorem dX11_town_8 : decode cX11_town 8 = .ok (.invokevirtual 107, 3) := by decide +kernel
theorem dX11_town_11 : decode cX11_town 11 = .ok (.aload_n 0, 1) := by decide +kernel
theorem dX11_town_12 : decode cX11_town 12 = .ok (.getfield 10, 3) := by decide +kernel
theorem dX11_town_15 : decode cX11_town 15 = .ok (.getfield 110, 3) := by decide +kernel
theorem dX11_town_18 : decode cX11_town 18 = .ok (.istore_n 1, 1) := by decide +kernel
theorem dX11_town_19 : decode cX11_town 19 = .ok (.aload_n 0, 1) := by decide +kernel
theorem dX11_town_20 : decode cX11_town 20 = .ok (.getfield 10, 3) := by decide +kernel
theorem dX11_town_23 : decode cX11_town 23 = .ok (.iconst 0, 1) := by decide +kernel
theorem dX11_town_24 : decode cX11_town 24 = .ok (.putfield 103, 3) := by decide +kernel
theorem dX11_town_27 : decode cX11_town 27 = .ok (.iload_n 1, 1) := by decide +kernel
theorem dX11_town_28 : decode cX11_town 28 = .ok (.ifCond .eq 8, 3) := by decide +kernel
theorem dX11_town_31 : decode cX11_town 31 = .ok (.bipush (-2), 2) := by decide +kernel
theorem dX11_town_33 : decode cX11_town 33 = .ok (.iload_n 1, 1) := by decide +kernel
theorem dX11_town_34 : decode cX11_town 34 = .ok (.isub, 1) := by decide +kernel
theorem dX11_town_35 : decode cX11_town 35 = .ok (.ireturn, 1) := by decide +kernel
theorem dX11_town_36 : decode cX11_town 36 = .ok (.aload_n 0, 1) := by decide +kernel
theorem dX11_town_37 : decode cX11_town 37 = .ok (.getfield 42, 3) := by decide +kernel
theorem dX11_town_40 : decode cX11_town 40 = .ok (.aload_n 0, 1) := by decide +kernel
theorem dX11_town_41 : decode cX11_town 41 = .ok (.getfield 19, 3) := by decide +kernel
theorem dX11_town_44 : decode cX11_town 44 = .ok (.invokevirtual 113, 3) := by decide +kernel
theorem dX11_town_47 : decode cX11_town 47 = .ok (.aload_n 0, 1) := by decide +kernel
theorem dX11_town_48 : decode cX11_town 48 = .ok (.getfield 59, 3) := by decide +kernel
theorem dX11_town_51 : decode cX11_town 51 = .ok (.invokevirtual 117, 3) := by decide +kernel
theorem dX11_town_54 : decode cX11_town 54 = .ok (.aload_n 0, 1) := by decide +kernel
theorem dX11_town_55 : decode cX11_town 55 = .ok (.getfield 42, 3) := by decide +kernel
theorem dX11_town_58 : decode cX11_town 58 = .ok (.getfield 120, 3) := by decide +kernel
theorem dX11_town_61 : decode cX11_town 61 = .ok (.getfield 123, 3) := by decide +kernel
theorem dX11_town_64 : decode cX11_town 64 = .ok (.ireturn, 1) := by decide +kernel
set_option maxRecDepth 20000 in
theorem ggX11_rule_X3_readInto : GoodIn wsX11_rule wsX3_readInto := goodIn_r _ [11, 12, 13, 14, 15, 16, 17, 18, 19, 20, 21, 22, 23, 24, 25, 26, 27, 28, 29, 30, 31, 32, 33, 34, 35, 36, 37, 38, 39, 40, 41, 42, 43, 44, 45, 46, 47, 48, 49, 50, 51, 52, 53, 54, 55, 56, 57, 58, 59, 60, 61, 62, 63, 64, 65, 66, 67, 68, 69, 70, 71, 72, 73, 74, 75, 76, 77, 78, 79, 80, 81, 82, 83, 84, 85, 86, 87, 88, 89, 90, 91, 92, 93, 94, 95, 96, 97, 98, 99, 100, 101, 102, 103, 104, 105, 106, 107, 108, 109, 110, 111, 112, 113, 114, 115, 116, 117, 118, 119, 120, 121, 10, 122, 123, 124, 125, 126, 127, 128, 129, 130, 131, 132, 133, 134, 135, 136, 137, 138, 139, 140, 141, 142, 143, 144, 145, 146, 147, 148, 149, 150, 151, 152, 153, 154, 155, 156, 157, 158, 159, 160, 161, 162, 163, 164, 165, 166, 167, 168, 169, 170, 171, 172, 173, 174, 175, 176, 177, 178, 179, 180, 181, 182, 183, 184, 185, 186, 187, 188, 189, 190, 209, 210, 211, 204, 205, 206, 207, 208, 212, 213, 214, 215, 216, 217] (by decide +kernel) (by decide +kernel)
set_option maxRecDepth 20000 in
theorem gX11_rule_X3_readInto : GoodIn wsX11_rule (wsV RX11 129 RX3 yX3_readInto wsX3_readInto) := goodIn_app (goodIn_of _ (by decide +kernel)) ggX11_rule_X3_readInto
theorem dX11_rule_0 : decode cX11_rule 0 = .ok (.aload_n 0, 1) := by decide +kernel
theorem dX11_rule_1 : decode cX11_rule 1 = .ok (.getfield 126, 3) := by decide +kernel
theorem dX11_rule_4 : decode cX11_rule 4 = .ok (.bipush 6, 2) := by decide +kernel
theorem dX11_rule_6 : decode cX11_rule 6 = .ok (.if_icmp .lt 5, 3) := by decide +kernel
theorem dX11_rule_9 : decode cX11_rule 9 = .ok (.iconst (-1), 1) := by decide +kernel
theorem dX11_rule_10 : decode cX11_rule 10 = .ok (.ireturn, 1) := by decide +kernel
theorem dX11_rule_11 : decode cX11_rule 11 = .ok (.aload_n 0, 1) := by decide +kernel
theorem dX11_rule_12 : decode cX11_rule 12 = .ok (.getfield 35, 3) := by decide +kernel
theorem dX11_rule_15 : decode cX11_rule 15 = .ok (.aload_n 0, 1) := by decide +kernel
theorem dX11_rule_16 : decode cX11_rule 16 = .ok (.getfield 25, 3) := by decide +kernel
theorem dX11_rule_19 : decode cX11_rule 19 = .ok (.aload_n 0, 1) := by decide +kernel
theorem dX11_rule_20 : decode cX11_rule 20 = .ok (.getfield 126, 3) := by decide +kernel
theorem dX11_rule_23 : decode cX11_rule 23 = .ok (.aaload, 1) := by decide +kernel
theorem dX11_rule_24 : decode cX11_rule 24 = .ok (.invokevirtual 129, 3) := by decide +kernel
theorem dX11_rule_27 : decode cX11_rule 27 = .ok (.aload_n 0, 1) := by decide +kernel
theorem dX11_rule_28 : decode cX11_rule 28 = .ok (.getfield 10, 3) := by decide +kernel
theorem dX11_rule_31 : decode cX11_rule 31 = .ok (.getfield 110, 3) := by decide +kernel
theorem dX11_rule_34 : decode cX11_rule 34 = .ok (.istore_n 1, 1) := by decide +kernel
theorem dX11_rule_35 : decode cX11_rule 35 = .ok (.aload_n 0, 1) := by decide +kernel
theorem dX11_rule_36 : decode cX11_rule 36 = .ok (.getfield 10, 3) := by decide +kernel
theorem dX11_rule_39 : decode cX11_rule 39 = .ok (.iconst 0, 1) := by decide +kernel
theorem dX11_rule_40 : decode cX11_rule 40 = .ok (.putfield 103, 3) := by decide +kernel
theorem dX11_rule_43 : decode cX11_rule 43 = .ok (.iload_n 1, 1) := by decide +kernel
theorem dX11_rule_44 : decode cX11_rule 44 = .ok (.ifCond .eq 8, 3) := by decide +kernel
theorem dX11_rule_47 : decode cX11_rule 47 = .ok (.bipush (-2), 2) := by decide +kernel
theorem dX11_rule_49 : decode cX11_rule 49 = .ok (.iload_n 1, 1) := by decide +kernel
theorem dX11_rule_50 : decode cX11_rule 50 = .ok (.isub, 1) := by decide +kernel
theorem dX11_rule_51 : decode cX11_rule 51 = .ok (.ireturn, 1) := by decide +kernel
theorem dX11_rule_52 : decode cX11_rule 52 = .ok (.aload_n 0, 1) := by decide +kernel
theorem dX11_rule_53 : decode cX11_rule 53 = .ok (.dup, 1) := by decide +kernel
theorem dX11_rule_54 : decode cX11_rule 54 = .ok (.getfield 126, 3) := by decide +kernel
theorem dX11_rule_57 : decode cX11_rule 57 = .ok (.iconst 1, 1) := by decide +kernel
theorem dX11_rule_58 : decode cX11_rule 58 = .ok (.iadd, 1) := by decide +kernel
theorem dX11_rule_59 : decode cX11_rule 59 = .ok (.putfield 126, 3) := by decide +kernel
theorem dX11_rule_62 : decode cX11_rule 62 = .ok (.aload_n 0, 1) := by decide +kernel
theorem dX11_rule_63 : decode cX11_rule 63 = .ok (.getfield 126, 3) := by decide +kernel
theorem dX11_rule_66 : decode cX11_rule 66 = .ok (.iconst 1, 1) := by decide +kernel
theorem dX11_rule_67 : decode cX11_rule 67 = .ok (.isub, 1) := by decide +kernel
theorem dX11_rule_68 : decode cX11_rule 68 = .ok (.ireturn, 1) := by decide +kernel
set_option maxRecDepth 20000 in
theorem ggX11_street_X7_hasStreet : GoodIn wsX11_street wsX7_hasStreet := goodIn_r _ [9, 10, 43, 44, 45, 46, 47, 48, 49, 50, 51, 52, 53, 54] (by decide +kernel) (by decide +kernel)
set_option maxRecDepth 20000 in
theorem gX11_street_X7_hasStreet : GoodIn wsX11_street (wsV RX11 133 RX7 yX7_hasStreet wsX7_hasStreet) := goodIn_app (goodIn_of _ (by decide +kernel)) ggX11_street_X7_hasStreet
set_option maxRecDepth 20000 in
theorem ggX11_street_X7_signOn : GoodIn wsX11_street wsX7_signOn := goodIn_r _ [14, 15, 43, 44, 45, 46, 47, 48, 49, 50, 51, 52, 53, 54] (by decide +kernel) (by decide +kernel)
set_option maxRecDepth 20000 in
theorem gX11_street_X7_signOn : GoodIn wsX11_street (wsV RX11 144 RX7 yX7_signOn wsX7_signOn) := goodIn_app (goodIn_of _ (by decide +kernel)) ggX11_street_X7_signOn
theorem dX11_street_0 : decode cX11_street 0 = .ok (.aload_n 0, 1) := by decide +kernel
theorem dX11_street_1 : decode cX11_street 1 = .ok (.getfield 42, 3) := by decide +kernel
theorem dX11_street_4 : decode cX11_street 4 = .ok (.getfield 120, 3) := by decide +kernel
theorem dX11_street_7 : decode cX11_street 7 = .ok (.astore_n 3, 1) := by decide +kernel
theorem dX11_street_8 : decode cX11_street 8 = .ok (.aload_n 3, 1) := by decide +kernel
theorem dX11_street_9 : decode cX11_street 9 = .ok (.iload_n 1, 1) := by decide +kernel
theorem dX11_street_10 : decode cX11_street 10 = .ok (.invokevirtual 133, 3) := by decide +kernel
theorem dX11_street_13 : decode cX11_street 13 = .ok (.ifCond .eq 13, 3) := by decide +kernel
theorem dX11_street_16 : decode cX11_street 16 = .ok (.iload_n 2, 1) := by decide +kernel
theorem dX11_street_17 : decode cX11_street 17 = .ok (.ifCond .lt 9, 3) := by decide +kernel
theorem dX11_street_20 : decode cX11_street 20 = .ok (.iload_n 2, 1) := by decide +kernel
theorem dX11_street_21 : decode cX11_street 21 = .ok (.bipush 9, 2) := by decide +kernel
theorem dX11_street_23 : decode cX11_street 23 = .ok (.if_icmp .le 5, 3) := by decide +kernel
theorem dX11_street_26 : decode cX11_street 26 = .ok (.iconst (-1), 1) := by decide +kernel
theorem dX11_street_27 : decode cX11_street 27 = .ok (.ireturn, 1) := by decide +kernel
theorem dX11_street_28 : decode cX11_street 28 = .ok (.iload_n 2, 1) := by decide +kernel
theorem dX11_street_29 : decode cX11_street 29 = .ok (.iconst 2, 1) := by decide +kernel
theorem dX11_street_30 : decode cX11_street 30 = .ok (.if_icmp .ge 14, 3) := by decide +kernel
theorem dX11_street_33 : decode cX11_street 33 = .ok (.aload_n 3, 1) := by decide +kernel
theorem dX11_street_34 : decode cX11_street 34 = .ok (.getfield 137, 3) := by decide +kernel
theorem dX11_street_37 : decode cX11_street 37 = .ok (.iconst 2, 1) := by decide +kernel
theorem dX11_street_38 : decode cX11_street 38 = .ok (.iload_n 1, 1) := by decide +kernel
theorem dX11_street_39 : decode cX11_street 39 = .ok (.imul, 1) := by decide +kernel
theorem dX11_street_40 : decode cX11_street 40 = .ok (.iload_n 2, 1) := by decide +kernel
theorem dX11_street_41 : decode cX11_street 41 = .ok (.iadd, 1) := by decide +kernel
theorem dX11_street_42 : decode cX11_street 42 = .ok (.iaload, 1) := by decide +kernel
theorem dX11_street_43 : decode cX11_street 43 = .ok (.ireturn, 1) := by decide +kernel
theorem dX11_street_44 : decode cX11_street 44 = .ok (.iload_n 2, 1) := by decide +kernel
theorem dX11_street_45 : decode cX11_street 45 = .ok (.iconst 2, 1) := by decide +kernel
theorem dX11_street_46 : decode cX11_street 46 = .ok (.if_icmp .ne 12, 3) := by decide +kernel
theorem dX11_street_49 : decode cX11_street 49 = .ok (.aload_n 3, 1) := by decide +kernel
theorem dX11_street_50 : decode cX11_street 50 = .ok (.getfield 141, 3) := by decide +kernel
theorem dX11_street_53 : decode cX11_street 53 = .ok (.iload_n 1, 1) := by decide +kernel
theorem dX11_street_54 : decode cX11_street 54 = .ok (.iaload, 1) := by decide +kernel
theorem dX11_street_55 : decode cX11_street 55 = .ok (.goto 11, 3) := by decide +kernel
theorem dX11_street_58 : decode cX11_street 58 = .ok (.aload_n 3, 1) := by decide +kernel
theorem dX11_street_59 : decode cX11_street 59 = .ok (.iload_n 1, 1) := by decide +kernel
theorem dX11_street_60 : decode cX11_street 60 = .ok (.iload_n 2, 1) := by decide +kernel
theorem dX11_street_61 : decode cX11_street 61 = .ok (.iconst 3, 1) := by decide +kernel
theorem dX11_street_62 : decode cX11_street 62 = .ok (.isub, 1) := by decide +kernel
theorem dX11_street_63 : decode cX11_street 63 = .ok (.invokevirtual 144, 3) := by decide +kernel
theorem dX11_street_66 : decode cX11_street 66 = .ok (.ireturn, 1) := by decide +kernel
set_option maxRecDepth 20000 in
theorem ggX11_open_X7_hasStreet : GoodIn wsX11_open wsX7_hasStreet := goodIn_r _ [7, 8, 57, 58, 59, 60, 61, 62, 63, 64, 65, 66, 67, 68] (by decide +kernel) (by decide +kernel)
set_option maxRecDepth 20000 in
theorem gX11_open_X7_hasStreet : GoodIn wsX11_open (wsV RX11 133 RX7 yX7_hasStreet wsX7_hasStreet) := goodIn_app (goodIn_of _ (by decide +kernel)) ggX11_open_X7_hasStreet
set_option maxRecDepth 20000 in
theorem ggX11_open_X7_sideOf : GoodIn wsX11_open wsX7_sideOf := goodIn_r _ [12, 13, 57, 58, 59, 60, 61, 62, 63, 64, 65, 66, 67, 68] (by decide +kernel) (by decide +kernel)
set_option maxRecDepth 20000 in
theorem gX11_open_X7_sideOf : GoodIn wsX11_open (wsV RX11 148 RX7 yX7_sideOf wsX7_sideOf) := goodIn_app (goodIn_of _ (by decide +kernel)) ggX11_open_X7_sideOf
set_option maxRecDepth 20000 in
theorem ggX11_open_X7_isOpen : GoodIn wsX11_open wsX7_isOpen := goodIn_r _ [17, 18, 19, 20, 21, 6, 22, 23, 24, 25, 26, 27, 28, 29, 57, 58, 59, 60, 61, 62, 63, 64, 65, 66, 67, 68] (by decide +kernel) (by decide +kernel)
set_option maxRecDepth 20000 in
theorem gX11_open_X7_isOpen : GoodIn wsX11_open (wsV RX11 151 RX7 yX7_isOpen wsX7_isOpen) := goodIn_app (goodIn_of _ (by decide +kernel)) ggX11_open_X7_isOpen
theorem dX11_open_0 : decode cX11_open 0 = .ok (.aload_n 0, 1) := by decide +kernel
theorem dX11_open_1 : decode cX11_open 1 = .ok (.getfield 42, 3) := by decide +kernel
theorem dX11_open_4 : decode cX11_open 4 = .ok (.getfield 120, 3) := by decide +kernel
theorem dX11_open_7 : decode cX11_open 7 = .ok (.astore 4, 2) := by decide +kernel
theorem dX11_open_9 : decode cX11_open 9 = .ok (.aload 4, 2) := by decide +kernel
theorem dX11_open_11 : decode cX11_open 11 = .ok (.iload_n 1, 1) := by decide +kernel
theorem dX11_open_12 : decode cX11_open 12 = .ok (.invokevirtual 133, 3) := by decide +kernel
theorem dX11_open_15 : decode cX11_open 15 = .ok (.ifCond .eq 7, 3) := by decide +kernel
theorem dX11_open_18 : decode cX11_open 18 = .ok (.iload_n 3, 1) := by decide +kernel
theorem dX11_open_19 : decode cX11_open 19 = .ok (.ifCond .ge 5, 3) := by decide +kernel
theorem dX11_open_22 : decode cX11_open 22 = .ok (.iconst (-1), 1) := by decide +kernel
theorem dX11_open_23 : decode cX11_open 23 = .ok (.ireturn, 1) := by decide +kernel
theorem dX11_open_24 : decode cX11_open 24 = .ok (.aload 4, 2) := by decide +kernel
theorem dX11_open_26 : decode cX11_open 26 = .ok (.iload_n 1, 1) := by decide +kernel
theorem dX11_open_27 : decode cX11_open 27 = .ok (.iload_n 2, 1) := by decide +kernel
theorem dX11_open_28 : decode cX11_open 28 = .ok (.invokevirtual 148, 3) := by decide +kernel
theorem dX11_open_31 : decode cX11_open 31 = .ok (.istore 5, 2) := by decide +kernel
theorem dX11_open_33 : decode cX11_open 33 = .ok (.iload 5, 2) := by decide +kernel
theorem dX11_open_35 : decode cX11_open 35 = .ok (.iconst (-1), 1) := by decide +kernel
theorem dX11_open_36 : decode cX11_open 36 = .ok (.if_icmp .ne 5, 3) := by decide +kernel
theorem dX11_open_39 : decode cX11_open 39 = .ok (.iconst (-1), 1) := by decide +kernel
theorem dX11_open_40 : decode cX11_open 40 = .ok (.ireturn, 1) := by decide +kernel
theorem dX11_open_41 : decode cX11_open 41 = .ok (.aload 4, 2) := by decide +kernel
theorem dX11_open_43 : decode cX11_open 43 = .ok (.iload_n 1, 1) := by decide +kernel
theorem dX11_open_44 : decode cX11_open 44 = .ok (.iload 5, 2) := by decide +kernel
theorem dX11_open_46 : decode cX11_open 46 = .ok (.iload_n 3, 1) := by decide +kernel
theorem dX11_open_47 : decode cX11_open 47 = .ok (.i2l, 1) := by decide +kernel
theorem dX11_open_48 : decode cX11_open 48 = .ok (.iconst 1, 1) := by decide +kernel
theorem dX11_open_49 : decode cX11_open 49 = .ok (.invokevirtual 151, 3) := by decide +kernel
theorem dX11_open_52 : decode cX11_open 52 = .ok (.ifCond .eq 7, 3) := by decide +kernel
theorem dX11_open_55 : decode cX11_open 55 = .ok (.iconst 1, 1) := by decide +kernel
theorem dX11_open_56 : decode cX11_open 56 = .ok (.goto 4, 3) := by decide +kernel
theorem dX11_open_59 : decode cX11_open 59 = .ok (.iconst 0, 1) := by decide +kernel
theorem dX11_open_60 : decode cX11_open 60 = .ok (.ireturn, 1) := by decide +kernel
set_option maxRecDepth 20000 in
theorem ggX11_print_X11_isWeekday : GoodIn wsX11_print wsX11_isWeekday := goodIn_r _ [10] (by decide +kernel) (by decide +kernel)
set_option maxRecDepth 20000 in
theorem gX11_print_X11_isWeekday : GoodIn wsX11_print (va_wsS RX11 155 yX11_isWeekday wsX11_isWeekday) := goodIn_app (goodIn_of _ (by decide +kernel)) ggX11_print_X11_isWeekday
set_option maxRecDepth 20000 in
theorem ggX11_print_X5_hasTown : GoodIn wsX11_print wsX5_hasTown := goodIn_r _ [15, 16, 17, 43, 44, 45, 46, 47, 48, 49, 50, 51, 52, 53, 54, 55, 56, 57, 58, 59, 60, 61, 62, 63, 64, 65, 66, 67, 68] (by decide +kernel) (by decide +kernel)
set_option maxRecDepth 20000 in
theorem gX11_print_X5_hasTown : GoodIn wsX11_print (wsV RX11 158 RX5 yX5_hasTown wsX5_hasTown) := goodIn_app (goodIn_of _ (by decide +kernel)) ggX11_print_X5_hasTown
set_option maxRecDepth 20000 in
theorem ggX11_print_X7_signOn : GoodIn wsX11_print wsX7_signOn := goodIn_r _ [22, 23, 57, 58, 59, 60, 61, 62, 63, 64, 65, 66, 67, 68] (by decide +kernel) (by decide +kernel)
set_option maxRecDepth 20000 in
theorem gX11_print_X7_signOn : GoodIn wsX11_print (wsV RX11 144 RX7 yX7_signOn wsX7_signOn) := goodIn_app (goodIn_of _ (by decide +kernel)) ggX11_print_X7_signOn
set_option maxRecDepth 20000 in
theorem ggX11_print_X0_forget : GoodIn wsX11_print wsX0_forget := goodIn_r _ [28, 29, 69, 70, 71, 72] (by decide +kernel) (by decide +kernel)
set_option maxRecDepth 20000 in
theorem gX11_print_X0_forget : GoodIn wsX11_print (wsV RX11 167 RX0 yX0_forget wsX0_forget) := goodIn_app (goodIn_of _ (by decide +kernel)) ggX11_print_X0_forget
theorem dX11_print_0 : decode cX11_print 0 = .ok (.iload_n 1, 1) := by decide +kernel
theorem dX11_print_1 : decode cX11_print 1 = .ok (.invokestatic 155, 3) := by decide +kernel
theorem dX11_print_4 : decode cX11_print 4 = .ok (.ifCond .eq 24, 3) := by decide +kernel
theorem dX11_print_7 : decode cX11_print 7 = .ok (.aload_n 0, 1) := by decide +kernel
theorem dX11_print_8 : decode cX11_print 8 = .ok (.getfield 42, 3) := by decide +kernel
theorem dX11_print_11 : decode cX11_print 11 = .ok (.invokevirtual 158, 3) := by decide +kernel
theorem dX11_print_14 : decode cX11_print 14 = .ok (.ifCond .eq 14, 3) := by decide +kernel
theorem dX11_print_17 : decode cX11_print 17 = .ok (.aload_n 0, 1) := by decide +kernel
theorem dX11_print_18 : decode cX11_print 18 = .ok (.getfield 42, 3) := by decide +kernel
theorem dX11_print_21 : decode cX11_print 21 = .ok (.getfield 161, 3) := by decide +kernel
theorem dX11_print_24 : decode cX11_print 24 = .ok (.iconst 4, 1) := by decide +kernel
theorem dX11_print_25 : decode cX11_print 25 = .ok (.if_icmp .lt 6, 3) := by decide +kernel
theorem dX11_print_28 : decode cX11_print 28 = .ok (.bipush (-2), 2) := by decide +kernel
theorem dX11_print_30 : decode cX11_print 30 = .ok (.ireturn, 1) := by decide +kernel
theorem dX11_print_31 : decode cX11_print 31 = .ok (.aload_n 0, 1) := by decide +kernel
theorem dX11_print_32 : decode cX11_print 32 = .ok (.getfield 42, 3) := by decide +kernel
theorem dX11_print_35 : decode cX11_print 35 = .ok (.getfield 161, 3) := by decide +kernel
theorem dX11_print_38 : decode cX11_print 38 = .ok (.istore_n 2, 1) := by decide +kernel
theorem dX11_print_39 : decode cX11_print 39 = .ok (.iconst 0, 1) := by decide +kernel
theorem dX11_print_40 : decode cX11_print 40 = .ok (.istore_n 3, 1) := by decide +kernel
theorem dX11_print_41 : decode cX11_print 41 = .ok (.iload_n 3, 1) := by decide +kernel
theorem dX11_print_42 : decode cX11_print 42 = .ok (.aload_n 0, 1) := by decide +kernel
theorem dX11_print_43 : decode cX11_print 43 = .ok (.getfield 42, 3) := by decide +kernel
theorem dX11_print_46 : decode cX11_print 46 = .ok (.getfield 120, 3) := by decide +kernel
theorem dX11_print_49 : decode cX11_print 49 = .ok (.getfield 123, 3) := by decide +kernel
theorem dX11_print_52 : decode cX11_print 52 = .ok (.if_icmp .ge 35, 3) := by decide +kernel
theorem dX11_print_55 : decode cX11_print 55 = .ok (.aload_n 0, 1) := by decide +kernel
theorem dX11_print_56 : decode cX11_print 56 = .ok (.getfield 42, 3) := by decide +kernel
theorem dX11_print_59 : decode cX11_print 59 = .ok (.getfield 164, 3) := by decide +kernel
theorem dX11_print_62 : decode cX11_print 62 = .ok (.iload_n 2, 1) := by decide +kernel
theorem dX11_print_63 : decode cX11_print 63 = .ok (.bipush 12, 2) := by decide +kernel
theorem dX11_print_65 : decode cX11_print 65 = .ok (.imul, 1) := by decide +kernel
theorem dX11_print_66 : decode cX11_print 66 = .ok (.iload_n 3, 1) := by decide +kernel
theorem dX11_print_67 : decode cX11_print 67 = .ok (.iadd, 1) := by decide +kernel
theorem dX11_print_68 : decode cX11_print 68 = .ok (.aload_n 0, 1) := by decide +kernel
theorem dX11_print_69 : decode cX11_print 69 = .ok (.getfield 42, 3) := by decide +kernel
theorem dX11_print_72 : decode cX11_print 72 = .ok (.getfield 120, 3) := by decide +kernel
theorem dX11_print_75 : decode cX11_print 75 = .ok (.iload_n 3, 1) := by decide +kernel
theorem dX11_print_76 : decode cX11_print 76 = .ok (.iload_n 1, 1) := by decide +kernel
theorem dX11_print_77 : decode cX11_print 77 = .ok (.invokevirtual 144, 3) := by decide +kernel
theorem dX11_print_80 : decode cX11_print 80 = .ok (.iastore, 1) := by decide +kernel
theorem dX11_print_81 : decode cX11_print 81 = .ok (.iinc 3 1, 3) := by decide +kernel
theorem dX11_print_84 : decode cX11_print 84 = .ok (.goto (-43), 3) := by decide +kernel
theorem dX11_print_87 : decode cX11_print 87 = .ok (.aload_n 0, 1) := by decide +kernel
theorem dX11_print_88 : decode cX11_print 88 = .ok (.getfield 42, 3) := by decide +kernel
theorem dX11_print_91 : decode cX11_print 91 = .ok (.dup, 1) := by decide +kernel
theorem dX11_print_92 : decode cX11_print 92 = .ok (.getfield 161, 3) := by decide +kernel
theorem dX11_print_95 : decode cX11_print 95 = .ok (.iconst 1, 1) := by decide +kernel
theorem dX11_print_96 : decode cX11_print 96 = .ok (.iadd, 1) := by decide +kernel
theorem dX11_print_97 : decode cX11_print 97 = .ok (.putfield 161, 3) := by decide +kernel
theorem dX11_print_100 : decode cX11_print 100 = .ok (.aload_n 0, 1) := by decide +kernel
theorem dX11_print_101 : decode cX11_print 101 = .ok (.getfield 59, 3) := by decide +kernel
theorem dX11_print_104 : decode cX11_print 104 = .ok (.iload_n 2, 1) := by decide +kernel
theorem dX11_print_105 : decode cX11_print 105 = .ok (.invokevirtual 167, 3) := by decide +kernel
theorem dX11_print_108 : decode cX11_print 108 = .ok (.iload_n 2, 1) := by decide +kernel
theorem dX11_print_109 : decode cX11_print 109 = .ok (.ireturn, 1) := by decide +kernel
set_option maxRecDepth 20000 in
theorem ggX11_misprint_X11_hasMap : GoodIn wsX11_misprint wsX11_hasMap := goodIn_r _ [9, 1, 10, 26, 27, 28, 29, 30, 31, 32, 33, 34, 35, 36, 37, 38, 39, 40, 41, 42, 43, 44, 45, 46, 47, 48, 49, 50, 51, 52] (by decide +kernel) (by decide +kernel)
set_option maxRecDepth 20000 in
theorem gX11_misprint_X11_hasMap : GoodIn wsX11_misprint (wsV RX11 170 RX11 yX11_hasMap wsX11_hasMap) := goodIn_app (goodIn_of _ (by decide +kernel)) ggX11_misprint_X11_hasMap
set_option maxRecDepth 20000 in
theorem ggX11_misprint_X7_hasStreet : GoodIn wsX11_misprint wsX7_hasStreet := goodIn_r _ [15, 16, 53, 54, 55, 56, 57, 58, 59, 60, 61, 62, 63, 64] (by decide +kernel) (by decide +kernel)
set_option maxRecDepth 20000 in
theorem gX11_misprint_X7_hasStreet : GoodIn wsX11_misprint (wsV RX11 133 RX7 yX7_hasStreet wsX7_hasStreet) := goodIn_app (goodIn_of _ (by decide +kernel)) ggX11_misprint_X7_hasStreet
set_option maxRecDepth 20000 in
theorem ggX11_misprint_X11_isSign : GoodIn wsX11_misprint wsX11_isSign := goodIn_r _ [19] (by decide +kernel) (by decide +kernel)
set_option maxRecDepth 20000 in
theorem gX11_misprint_X11_isSign : GoodIn wsX11_misprint (va_wsS RX11 173 yX11_isSign wsX11_isSign) := goodIn_app (goodIn_of _ (by decide +kernel)) ggX11_misprint_X11_isSign
set_option maxRecDepth 20000 in
theorem ggX11_misprint_X0_forget : GoodIn wsX11_misprint wsX0_forget := goodIn_r _ [24, 25, 65, 66, 67, 68] (by decide +kernel) (by decide +kernel)
set_option maxRecDepth 20000 in
theorem gX11_misprint_X0_forget : GoodIn wsX11_misprint (wsV RX11 167 RX0 yX0_forget wsX0_forget) := goodIn_app (goodIn_of _ (by decide +kernel)) ggX11_misprint_X0_forget
theorem dX11_misprint_0 : decode cX11_misprint 0 = .ok (.aload_n 0, 1) := by decide +kernel
theorem dX11_misprint_1 : decode cX11_misprint 1 = .ok (.iload_n 1, 1) := by decide +kernel
theorem dX11_misprint_2 : decode cX11_misprint 2 = .ok (.invokevirtual 170, 3) := by decide +kernel
theorem dX11_misprint_5 : decode cX11_misprint 5 = .ok (.ifCond .eq 24, 3) := by decide +kernel
theorem dX11_misprint_8 : decode cX11_misprint 8 = .ok (.aload_n 0, 1) := by decide +kernel
theorem dX11_misprint_9 : decode cX11_misprint 9 = .ok (.getfield 42, 3) := by decide +kernel
theorem dX11_misprint_12 : decode cX11_misprint 12 = .ok (.getfield 120, 3) := by decide +kernel
theorem dX11_misprint_15 : decode cX11_misprint 15 = .ok (.iload_n 2, 1) := by decide +kernel
theorem dX11_misprint_16 : decode cX11_misprint 16 = .ok (.invokevirtual 133, 3) := by decide +kernel
theorem dX11_misprint_19 : decode cX11_misprint 19 = .ok (.ifCond .eq 10, 3) := by decide +kernel
theorem dX11_misprint_22 : decode cX11_misprint 22 = .ok (.iload_n 3, 1) := by decide +kernel
theorem dX11_misprint_23 : decode cX11_misprint 23 = .ok (.invokestatic 173, 3) := by decide +kernel
theorem dX11_misprint_26 : decode cX11_misprint 26 = .ok (.ifCond .ne 5, 3) := by decide +kernel
theorem dX11_misprint_29 : decode cX11_misprint 29 = .ok (.iconst (-1), 1) := by decide +kernel
theorem dX11_misprint_30 : decode cX11_misprint 30 = .ok (.ireturn, 1) := by decide +kernel
theorem dX11_misprint_31 : decode cX11_misprint 31 = .ok (.iload_n 1, 1) := by decide +kernel
theorem dX11_misprint_32 : decode cX11_misprint 32 = .ok (.bipush 12, 2) := by decide +kernel
theorem dX11_misprint_34 : decode cX11_misprint 34 = .ok (.imul, 1) := by decide +kernel
theorem dX11_misprint_35 : decode cX11_misprint 35 = .ok (.iload_n 2, 1) := by decide +kernel
theorem dX11_misprint_36 : decode cX11_misprint 36 = .ok (.iadd, 1) := by decide +kernel
theorem dX11_misprint_37 : decode cX11_misprint 37 = .ok (.istore 4, 2) := by decide +kernel
theorem dX11_misprint_39 : decode cX11_misprint 39 = .ok (.aload_n 0, 1) := by decide +kernel
theorem dX11_misprint_40 : decode cX11_misprint 40 = .ok (.getfield 42, 3) := by decide +kernel
theorem dX11_misprint_43 : decode cX11_misprint 43 = .ok (.getfield 164, 3) := by decide +kernel
theorem dX11_misprint_46 : decode cX11_misprint 46 = .ok (.iload 4, 2) := by decide +kernel
theorem dX11_misprint_48 : decode cX11_misprint 48 = .ok (.iaload, 1) := by decide +kernel
theorem dX11_misprint_49 : decode cX11_misprint 49 = .ok (.istore 5, 2) := by decide +kernel
theorem dX11_misprint_51 : decode cX11_misprint 51 = .ok (.aload_n 0, 1) := by decide +kernel
theorem dX11_misprint_52 : decode cX11_misprint 52 = .ok (.getfield 42, 3) := by decide +kernel
theorem dX11_misprint_55 : decode cX11_misprint 55 = .ok (.getfield 164, 3) := by decide +kernel
theorem dX11_misprint_58 : decode cX11_misprint 58 = .ok (.iload 4, 2) := by decide +kernel
theorem dX11_misprint_60 : decode cX11_misprint 60 = .ok (.iload_n 3, 1) := by decide +kernel
theorem dX11_misprint_61 : decode cX11_misprint 61 = .ok (.iastore, 1) := by decide +kernel
theorem dX11_misprint_62 : decode cX11_misprint 62 = .ok (.aload_n 0, 1) := by decide +kernel
theorem dX11_misprint_63 : decode cX11_misprint 63 = .ok (.getfield 59, 3) := by decide +kernel
theorem dX11_misprint_66 : decode cX11_misprint 66 = .ok (.iload_n 1, 1) := by decide +kernel
theorem dX11_misprint_67 : decode cX11_misprint 67 = .ok (.invokevirtual 167, 3) := by decide +kernel
theorem dX11_misprint_70 : decode cX11_misprint 70 = .ok (.iload 5, 2) := by decide +kernel
theorem dX11_misprint_72 : decode cX11_misprint 72 = .ok (.ireturn, 1) := by decide +kernel
set_option maxRecDepth 20000 in
theorem ggX11_shown_X11_hasMap : GoodIn wsX11_shown wsX11_hasMap := goodIn_r _ [8, 1, 9, 16, 17, 18, 19, 20, 21, 22, 23, 24, 25, 26, 27, 28, 29, 30, 31, 32, 33, 34, 35, 36, 37, 38, 39, 40, 41, 42] (by decide +kernel) (by decide +kernel)
set_option maxRecDepth 20000 in
theorem gX11_shown_X11_hasMap : GoodIn wsX11_shown (wsV RX11 170 RX11 yX11_hasMap wsX11_hasMap) := goodIn_app (goodIn_of _ (by decide +kernel)) ggX11_shown_X11_hasMap
set_option maxRecDepth 20000 in
theorem ggX11_shown_X7_hasStreet : GoodIn wsX11_shown wsX7_hasStreet := goodIn_r _ [14, 15, 43, 44, 45, 46, 47, 48, 49, 50, 51, 52, 53, 54] (by decide +kernel) (by decide +kernel)
set_option maxRecDepth 20000 in
theorem gX11_shown_X7_hasStreet : GoodIn wsX11_shown (wsV RX11 133 RX7 yX7_hasStreet wsX7_hasStreet) := goodIn_app (goodIn_of _ (by decide +kernel)) ggX11_shown_X7_hasStreet
theorem dX11_shown_0 : decode cX11_shown 0 = .ok (.aload_n 0, 1) := by decide +kernel
theorem dX11_shown_1 : decode cX11_shown 1 = .ok (.iload_n 1, 1) := by decide +kernel
theorem dX11_shown_2 : decode cX11_shown 2 = .ok (.invokevirtual 170, 3) := by decide +kernel
theorem dX11_shown_5 : decode cX11_shown 5 = .ok (.ifCond .eq 17, 3) := by decide +kernel
theorem dX11_shown_8 : decode cX11_shown 8 = .ok (.aload_n 0, 1) := by decide +kernel
theorem dX11_shown_9 : decode cX11_shown 9 = .ok (.getfield 42, 3) := by decide +kernel
theorem dX11_shown_12 : decode cX11_shown 12 = .ok (.getfield 120, 3) := by decide +kernel
theorem dX11_shown_15 : decode cX11_shown 15 = .ok (.iload_n 2, 1) := by decide +kernel
theorem dX11_shown_16 : decode cX11_shown 16 = .ok (.invokevirtual 133, 3) := by decide +kernel
theorem dX11_shown_19 : decode cX11_shown 19 = .ok (.ifCond .ne 5, 3) := by decide +kernel
theorem dX11_shown_22 : decode cX11_shown 22 = .ok (.iconst (-1), 1) := by decide +kernel
theorem dX11_shown_23 : decode cX11_shown 23 = .ok (.ireturn, 1) := by decide +kernel
theorem dX11_shown_24 : decode cX11_shown 24 = .ok (.aload_n 0, 1) := by decide +kernel
theorem dX11_shown_25 : decode cX11_shown 25 = .ok (.getfield 42, 3) := by decide +kernel
theorem dX11_shown_28 : decode cX11_shown 28 = .ok (.getfield 164, 3) := by decide +kernel
theorem dX11_shown_31 : decode cX11_shown 31 = .ok (.iload_n 1, 1) := by decide +kernel
theorem dX11_shown_32 : decode cX11_shown 32 = .ok (.bipush 12, 2) := by decide +kernel
theorem dX11_shown_34 : decode cX11_shown 34 = .ok (.imul, 1) := by decide +kernel
theorem dX11_shown_35 : decode cX11_shown 35 = .ok (.iload_n 2, 1) := by decide +kernel
theorem dX11_shown_36 : decode cX11_shown 36 = .ok (.iadd, 1) := by decide +kernel
theorem dX11_shown_37 : decode cX11_shown 37 = .ok (.iaload, 1) := by decide +kernel
theorem dX11_shown_38 : decode cX11_shown 38 = .ok (.ireturn, 1) := by decide +kernel
set_option maxRecDepth 20000 in
theorem ggX11_by_X11_hasMap : GoodIn wsX11_by wsX11_hasMap := goodIn_r _ [6, 7, 8, 72, 73, 74, 75, 76, 77, 78, 79, 80, 81, 82, 83, 84, 85, 86, 87, 88, 89, 90, 91, 92, 93, 94, 95, 96, 97, 98] (by decide +kernel) (by decide +kernel)
set_option maxRecDepth 20000 in
theorem gX11_by_X11_hasMap : GoodIn wsX11_by (wsV RX11 170 RX11 yX11_hasMap wsX11_hasMap) := goodIn_app (goodIn_of _ (by decide +kernel)) ggX11_by_X11_hasMap
set_option maxRecDepth 20000 in
theorem ggX11_by_X11_hasCorner : GoodIn wsX11_by wsX11_hasCorner := goodIn_r _ [12, 7, 13, 14, 72, 73, 74, 75, 76, 77, 78, 79, 80, 81, 82, 83, 84, 85, 86, 87, 88, 89, 90, 91, 92, 93, 94, 95, 96, 97, 98, 99, 100, 101, 102, 103, 104, 105, 106, 107, 108, 109, 110] (by decide +kernel) (by decide +kernel)
set_option maxRecDepth 20000 in
theorem gX11_by_X11_hasCorner : GoodIn wsX11_by (wsV RX11 176 RX11 yX11_hasCorner wsX11_hasCorner) := goodIn_app (goodIn_of _ (by decide +kernel)) ggX11_by_X11_hasCorner
set_option maxRecDepth 20000 in
theorem ggX11_by_X0_refresh : GoodIn wsX11_by wsX0_refresh := goodIn_r _ [19, 20, 21, 22, 23, 18, 24, 25, 26, 27, 28, 29, 30, 31, 32, 33, 34, 35, 36, 37, 38, 39, 40, 41, 42, 43, 44, 45, 46, 47, 48, 49, 50, 51, 52, 53, 54, 55, 56, 57, 58, 59, 60, 61, 62, 63, 111, 112, 113, 114, 85, 86, 87, 88, 89, 90, 91, 92, 93, 94, 95, 96, 97, 98, 99, 100, 101, 102, 103, 104, 105, 106, 107, 108, 109, 110] (by decide +kernel) (by decide +kernel)
set_option maxRecDepth 20000 in
theorem gX11_by_X0_refresh : GoodIn wsX11_by (wsV RX11 179 RX0 yX0_refresh wsX0_refresh) := goodIn_app (goodIn_of _ (by decide +kernel)) ggX11_by_X0_refresh
set_option maxRecDepth 20000 in
theorem ggX11_by_X0_hoursBy : GoodIn wsX11_by wsX0_hoursBy := goodIn_r _ [67, 25, 26, 32, 33, 18, 34, 111, 112, 113, 114] (by decide +kernel) (by decide +kernel)
set_option maxRecDepth 20000 in
theorem gX11_by_X0_hoursBy : GoodIn wsX11_by (wsV RX11 182 RX0 yX0_hoursBy wsX0_hoursBy) := goodIn_app (goodIn_of _ (by decide +kernel)) ggX11_by_X0_hoursBy
set_option maxRecDepth 20000 in
theorem ggX11_by_X0_streetBy : GoodIn wsX11_by wsX0_streetBy := goodIn_r _ [71, 27, 32, 33, 18, 34, 111, 112, 113, 114] (by decide +kernel) (by decide +kernel)
set_option maxRecDepth 20000 in
theorem gX11_by_X0_streetBy : GoodIn wsX11_by (wsV RX11 186 RX0 yX0_streetBy wsX0_streetBy) := goodIn_app (goodIn_of _ (by decide +kernel)) ggX11_by_X0_streetBy
theorem dX11_by_0 : decode cX11_by 0 = .ok (.aload_n 0, 1) := by decide +kernel
theorem dX11_by_1 : decode cX11_by 1 = .ok (.iload_n 1, 1) := by decide +kernel
theorem dX11_by_2 : decode cX11_by 2 = .ok (.invokevirtual 170, 3) := by decide +kernel
theorem dX11_by_5 : decode cX11_by 5 = .ok (.ifCond .eq 30, 3) := by decide +kernel
theorem dX11_by_8 : decode cX11_by 8 = .ok (.aload_n 0, 1) := by decide +kernel
theorem dX11_by_9 : decode cX11_by 9 = .ok (.iload_n 2, 1) := by decide +kernel
theorem dX11_by_10 : decode cX11_by 10 = .ok (.invokevirtual 176, 3) := by decide +kernel
theorem dX11_by_13 : decode cX11_by 13 = .ok (.ifCond .eq 22, 3) := by decide +kernel
theorem dX11_by_16 : decode cX11_by 16 = .ok (.aload_n 0, 1) := by decide +kernel
theorem dX11_by_17 : decode cX11_by 17 = .ok (.iload_n 3, 1) := by decide +kernel
theorem dX11_by_18 : decode cX11_by 18 = .ok (.invokevirtual 176, 3) := by decide +kernel
theorem dX11_by_21 : decode cX11_by 21 = .ok (.ifCond .eq 14, 3) := by decide +kernel
theorem dX11_by_24 : decode cX11_by 24 = .ok (.iload 4, 2) := by decide +kernel
theorem dX11_by_26 : decode cX11_by 26 = .ok (.ifCond .lt 9, 3) := by decide +kernel
theorem dX11_by_29 : decode cX11_by 29 = .ok (.iload 4, 2) := by decide +kernel
theorem dX11_by_31 : decode cX11_by 31 = .ok (.iconst 1, 1) := by decide +kernel
theorem dX11_by_32 : decode cX11_by 32 = .ok (.if_icmp .le 5, 3) := by decide +kernel
theorem dX11_by_35 : decode cX11_by 35 = .ok (.iconst (-1), 1) := by decide +kernel
theorem dX11_by_36 : decode cX11_by 36 = .ok (.ireturn, 1) := by decide +kernel
theorem dX11_by_37 : decode cX11_by 37 = .ok (.aload_n 0, 1) := by decide +kernel
theorem dX11_by_38 : decode cX11_by 38 = .ok (.getfield 59, 3) := by decide +kernel
theorem dX11_by_41 : decode cX11_by 41 = .ok (.iload_n 1, 1) := by decide +kernel
theorem dX11_by_42 : decode cX11_by 42 = .ok (.invokevirtual 179, 3) := by decide +kernel
theorem dX11_by_45 : decode cX11_by 45 = .ok (.iload 4, 2) := by decide +kernel
theorem dX11_by_47 : decode cX11_by 47 = .ok (.ifCond .ne 16, 3) := by decide +kernel
theorem dX11_by_50 : decode cX11_by 50 = .ok (.aload_n 0, 1) := by decide +kernel
theorem dX11_by_51 : decode cX11_by 51 = .ok (.getfield 59, 3) := by decide +kernel
theorem dX11_by_54 : decode cX11_by 54 = .ok (.iload_n 1, 1) := by decide +kernel
theorem dX11_by_55 : decode cX11_by 55 = .ok (.iload_n 2, 1) := by decide +kernel
theorem dX11_by_56 : decode cX11_by 56 = .ok (.iload_n 3, 1) := by decide +kernel
theorem dX11_by_57 : decode cX11_by 57 = .ok (.invokevirtual 182, 3) := by decide +kernel
theorem dX11_by_60 : decode cX11_by 60 = .ok (.goto 13, 3) := by decide +kernel
theorem dX11_by_63 : decode cX11_by 63 = .ok (.aload_n 0, 1) := by decide +kernel
theorem dX11_by_64 : decode cX11_by 64 = .ok (.getfield 59, 3) := by decide +kernel
theorem dX11_by_67 : decode cX11_by 67 = .ok (.iload_n 1, 1) := by decide +kernel
theorem dX11_by_68 : decode cX11_by 68 = .ok (.iload_n 2, 1) := by decide +kernel
theorem dX11_by_69 : decode cX11_by 69 = .ok (.iload_n 3, 1) := by decide +kernel
theorem dX11_by_70 : decode cX11_by 70 = .ok (.invokevirtual 186, 3) := by decide +kernel
theorem dX11_by_73 : decode cX11_by 73 = .ok (.istore 5, 2) := by decide +kernel
theorem dX11_by_75 : decode cX11_by 75 = .ok (.iload 5, 2) := by decide +kernel
theorem dX11_by_77 : decode cX11_by 77 = .ok (.iconst (-1), 1) := by decide +kernel
theorem dX11_by_78 : decode cX11_by 78 = .ok (.if_icmp .ne 8, 3) := by decide +kernel
theorem dX11_by_81 : decode cX11_by 81 = .ok (.bipush (-2), 2) := by decide +kernel
theorem dX11_by_83 : decode cX11_by 83 = .ok (.goto 5, 3) := by decide +kernel
theorem dX11_by_86 : decode cX11_by 86 = .ok (.iload 5, 2) := by decide +kernel
theorem dX11_by_88 : decode cX11_by 88 = .ok (.ireturn, 1) := by decide +kernel
set_option maxRecDepth 20000 in
theorem ggX11_walker_X11_hasCorner : GoodIn wsX11_walker wsX11_hasCorner := goodIn_r _ [8, 1, 9, 10, 36, 37, 38, 39, 40, 41, 42, 43, 44, 45, 46, 47, 48, 49, 50, 51, 52, 53, 54, 55, 56, 57, 58, 59, 60, 61, 62, 63, 64, 65, 66, 67, 68, 69, 70, 71, 72, 73, 74] (by decide +kernel) (by decide +kernel)
set_option maxRecDepth 20000 in
theorem gX11_walker_X11_hasCorner : GoodIn wsX11_walker (wsV RX11 176 RX11 yX11_hasCorner wsX11_hasCorner) := goodIn_app (goodIn_of _ (by decide +kernel)) ggX11_walker_X11_hasCorner
set_option maxRecDepth 20000 in
theorem ggX11_walker_X11_hasMap : GoodIn wsX11_walker wsX11_hasMap := goodIn_r _ [14, 1, 15, 36, 37, 38, 39, 40, 41, 42, 43, 44, 45, 46, 47, 48, 49, 50, 51, 52, 53, 54, 55, 56, 57, 58, 59, 60, 61, 62] (by decide +kernel) (by decide +kernel)
set_option maxRecDepth 20000 in
theorem gX11_walker_X11_hasMap : GoodIn wsX11_walker (wsV RX11 170 RX11 yX11_hasMap wsX11_hasMap) := goodIn_app (goodIn_of _ (by decide +kernel)) ggX11_walker_X11_hasMap
set_option maxRecDepth 20000 in
theorem ggX11_walker_X11_hasRuleOrNone : GoodIn wsX11_walker wsX11_hasRuleOrNone := goodIn_r _ [19, 20, 36, 37, 38, 39, 40, 41, 42, 43, 44, 45, 46, 47, 48] (by decide +kernel) (by decide +kernel)
set_option maxRecDepth 20000 in
theorem gX11_walker_X11_hasRuleOrNone : GoodIn wsX11_walker (wsV RX11 189 RX11 yX11_hasRuleOrNone wsX11_hasRuleOrNone) := goodIn_app (goodIn_of _ (by decide +kernel)) ggX11_walker_X11_hasRuleOrNone
set_option maxRecDepth 20000 in
theorem ggX11_walker_X9_setOut : GoodIn wsX11_walker wsX9_setOut := goodIn_r _ [25, 26, 27, 28, 29, 30, 31, 32, 33, 34, 35, 75, 76, 77, 78, 79, 80, 81, 82, 83] (by decide +kernel) (by decide +kernel)
set_option maxRecDepth 20000 in
theorem gX11_walker_X9_setOut : GoodIn wsX11_walker (wsV RX11 199 RX9 yX9_setOut wsX9_setOut) := goodIn_app (goodIn_of _ (by decide +kernel)) ggX11_walker_X9_setOut
theorem dX11_walker_0 : decode cX11_walker 0 = .ok (.aload_n 0, 1) := by decide +kernel
theorem dX11_walker_1 : decode cX11_walker 1 = .ok (.iload_n 1, 1) := by decide +kernel
theorem dX11_walker_2 : decode cX11_walker 2 = .ok (.invokevirtual 176, 3) := by decide +kernel
theorem dX11_walker_5 : decode cX11_walker 5 = .ok (.ifCond .eq 19, 3) := by decide +kernel
theorem dX11_walker_8 : decode cX11_walker 8 = .ok (.aload_n 0, 1) := by decide +kernel
theorem dX11_walker_9 : decode cX11_walker 9 = .ok (.iload_n 2, 1) := by decide +kernel
theorem dX11_walker_10 : decode cX11_walker 10 = .ok (.invokevirtual 176, 3) := by decide +kernel
theorem dX11_walker_13 : decode cX11_walker 13 = .ok (.ifCond .eq 11, 3) := by decide +kernel
theorem dX11_walker_16 : decode cX11_walker 16 = .ok (.aload_n 0, 1) := by decide +kernel
theorem dX11_walker_17 : decode cX11_walker 17 = .ok (.iload_n 3, 1) := by decide +kernel
theorem dX11_walker_18 : decode cX11_walker 18 = .ok (.invokevirtual 170, 3) := by decide +kernel
theorem dX11_walker_21 : decode cX11_walker 21 = .ok (.ifCond .ne 6, 3) := by decide +kernel
theorem dX11_walker_24 : decode cX11_walker 24 = .ok (.bipush (-2), 2) := by decide +kernel
theorem dX11_walker_26 : decode cX11_walker 26 = .ok (.ireturn, 1) := by decide +kernel
theorem dX11_walker_27 : decode cX11_walker 27 = .ok (.aload_n 0, 1) := by decide +kernel
theorem dX11_walker_28 : decode cX11_walker 28 = .ok (.iload 4, 2) := by decide +kernel
theorem dX11_walker_30 : decode cX11_walker 30 = .ok (.invokevirtual 189, 3) := by decide +kernel
theorem dX11_walker_33 : decode cX11_walker 33 = .ok (.ifCond .eq 19, 3) := by decide +kernel
theorem dX11_walker_36 : decode cX11_walker 36 = .ok (.iload 5, 2) := by decide +kernel
theorem dX11_walker_38 : decode cX11_walker 38 = .ok (.ifCond .lt 14, 3) := by decide +kernel
theorem dX11_walker_41 : decode cX11_walker 41 = .ok (.aload_n 0, 1) := by decide +kernel
theorem dX11_walker_42 : decode cX11_walker 42 = .ok (.getfield 42, 3) := by decide +kernel
theorem dX11_walker_45 : decode cX11_walker 45 = .ok (.getfield 192, 3) := by decide +kernel
theorem dX11_walker_48 : decode cX11_walker 48 = .ok (.iconst 4, 1) := by decide +kernel
theorem dX11_walker_49 : decode cX11_walker 49 = .ok (.if_icmp .lt 6, 3) := by decide +kernel
theorem dX11_walker_52 : decode cX11_walker 52 = .ok (.bipush (-2), 2) := by decide +kernel
theorem dX11_walker_54 : decode cX11_walker 54 = .ok (.ireturn, 1) := by decide +kernel
theorem dX11_walker_55 : decode cX11_walker 55 = .ok (.aload_n 0, 1) := by decide +kernel
theorem dX11_walker_56 : decode cX11_walker 56 = .ok (.getfield 42, 3) := by decide +kernel
theorem dX11_walker_59 : decode cX11_walker 59 = .ok (.getfield 195, 3) := by decide +kernel
theorem dX11_walker_62 : decode cX11_walker 62 = .ok (.aload_n 0, 1) := by decide +kernel
theorem dX11_walker_63 : decode cX11_walker 63 = .ok (.getfield 42, 3) := by decide +kernel
theorem dX11_walker_66 : decode cX11_walker 66 = .ok (.getfield 192, 3) := by decide +kernel
theorem dX11_walker_69 : decode cX11_walker 69 = .ok (.aaload, 1) := by decide +kernel
theorem dX11_walker_70 : decode cX11_walker 70 = .ok (.astore 6, 2) := by decide +kernel
theorem dX11_walker_72 : decode cX11_walker 72 = .ok (.aload 6, 2) := by decide +kernel
theorem dX11_walker_74 : decode cX11_walker 74 = .ok (.iload_n 1, 1) := by decide +kernel
theorem dX11_walker_75 : decode cX11_walker 75 = .ok (.iload_n 2, 1) := by decide +kernel
theorem dX11_walker_76 : decode cX11_walker 76 = .ok (.iload_n 3, 1) := by decide +kernel
theorem dX11_walker_77 : decode cX11_walker 77 = .ok (.iload 4, 2) := by decide +kernel
theorem dX11_walker_79 : decode cX11_walker 79 = .ok (.iload 5, 2) := by decide +kernel
theorem dX11_walker_81 : decode cX11_walker 81 = .ok (.i2l, 1) := by decide +kernel
theorem dX11_walker_82 : decode cX11_walker 82 = .ok (.invokevirtual 199, 3) := by decide +kernel
theorem dX11_walker_85 : decode cX11_walker 85 = .ok (.aload_n 0, 1) := by decide +kernel
theorem dX11_walker_86 : decode cX11_walker 86 = .ok (.getfield 42, 3) := by decide +kernel
theorem dX11_walker_89 : decode cX11_walker 89 = .ok (.dup, 1) := by decide +kernel
theorem dX11_walker_90 : decode cX11_walker 90 = .ok (.getfield 192, 3) := by decide +kernel
theorem dX11_walker_93 : decode cX11_walker 93 = .ok (.iconst 1, 1) := by decide +kernel
theorem dX11_walker_94 : decode cX11_walker 94 = .ok (.iadd, 1) := by decide +kernel
theorem dX11_walker_95 : decode cX11_walker 95 = .ok (.putfield 192, 3) := by decide +kernel
theorem dX11_walker_98 : decode cX11_walker 98 = .ok (.aload_n 0, 1) := by decide +kernel
theorem dX11_walker_99 : decode cX11_walker 99 = .ok (.getfield 42, 3) := by decide +kernel
theorem dX11_walker_102 : decode cX11_walker 102 = .ok (.getfield 192, 3) := by decide +kernel
theorem dX11_walker_105 : decode cX11_walker 105 = .ok (.iconst 1, 1) := by decide +kernel
theorem dX11_walker_106 : decode cX11_walker 106 = .ok (.isub, 1) := by decide +kernel
theorem dX11_walker_107 : decode cX11_walker 107 = .ok (.ireturn, 1) := by decide +kernel
set_option maxRecDepth 20000 in
theorem ggX11_about_X11_hasWalker : GoodIn wsX11_about wsX11_hasWalker := goodIn_r _ [7, 1, 8, 22, 23, 24, 25, 26, 27, 28, 29, 30, 31, 32, 33, 34, 35, 36, 37, 38, 39, 40, 41, 42, 43, 44, 45, 46, 47, 48] (by decide +kernel) (by decide +kernel)
set_option maxRecDepth 20000 in
theorem gX11_about_X11_hasWalker : GoodIn wsX11_about (wsV RX11 205 RX11 yX11_hasWalker wsX11_hasWalker) := goodIn_app (goodIn_of _ (by decide +kernel)) ggX11_about_X11_hasWalker
set_option maxRecDepth 20000 in
theorem ggX11_about_X9_tell : GoodIn wsX11_about wsX9_tell := goodIn_r _ [13, 14, 15, 16, 17, 18, 19, 20, 21, 49, 50, 51, 52, 53, 54, 55, 56, 57] (by decide +kernel) (by decide +kernel)
set_option maxRecDepth 20000 in
theorem gX11_about_X9_tell : GoodIn wsX11_about (wsV RX11 208 RX9 yX9_tell wsX9_tell) := goodIn_app (goodIn_of _ (by decide +kernel)) ggX11_about_X9_tell
theorem dX11_about_0 : decode cX11_about 0 = .ok (.aload_n 0, 1) := by decide +kernel
theorem dX11_about_1 : decode cX11_about 1 = .ok (.iload_n 1, 1) := by decide +kernel
theorem dX11_about_2 : decode cX11_about 2 = .ok (.invokevirtual 205, 3) := by decide +kernel
theorem dX11_about_5 : decode cX11_about 5 = .ok (.ifCond .eq 13, 3) := by decide +kernel
theorem dX11_about_8 : decode cX11_about 8 = .ok (.iload_n 2, 1) := by decide +kernel
theorem dX11_about_9 : decode cX11_about 9 = .ok (.ifCond .lt 9, 3) := by decide +kernel
theorem dX11_about_12 : decode cX11_about 12 = .ok (.iload_n 2, 1) := by decide +kernel
theorem dX11_about_13 : decode cX11_about 13 = .ok (.bipush 7, 2) := by decide +kernel
theorem dX11_about_15 : decode cX11_about 15 = .ok (.if_icmp .le 5, 3) := by decide +kernel
theorem dX11_about_18 : decode cX11_about 18 = .ok (.iconst (-1), 1) := by decide +kernel
theorem dX11_about_19 : decode cX11_about 19 = .ok (.ireturn, 1) := by decide +kernel
theorem dX11_about_20 : decode cX11_about 20 = .ok (.aload_n 0, 1) := by decide +kernel
theorem dX11_about_21 : decode cX11_about 21 = .ok (.getfield 42, 3) := by decide +kernel
theorem dX11_about_24 : decode cX11_about 24 = .ok (.getfield 195, 3) := by decide +kernel
theorem dX11_about_27 : decode cX11_about 27 = .ok (.iload_n 1, 1) := by decide +kernel
theorem dX11_about_28 : decode cX11_about 28 = .ok (.aaload, 1) := by decide +kernel
theorem dX11_about_29 : decode cX11_about 29 = .ok (.iload_n 2, 1) := by decide +kernel
theorem dX11_about_30 : decode cX11_about 30 = .ok (.invokevirtual 208, 3) := by decide +kernel
theorem dX11_about_33 : decode cX11_about 33 = .ok (.ireturn, 1) := by decide +kernel
set_option maxRecDepth 20000 in
theorem ggX11_step_X11_hasWalker : GoodIn wsX11_step wsX11_hasWalker := goodIn_r _ [10, 2, 11, 218, 219, 220, 221, 222, 223, 224, 225, 226, 227, 228, 229, 230, 231, 232, 233, 234, 235, 236, 237, 238, 239, 240, 241, 242, 243, 244] (by decide +kernel) (by decide +kernel)
set_option maxRecDepth 20000 in
theorem gX11_step_X11_hasWalker : GoodIn wsX11_step (wsV RX11 205 RX11 yX11_hasWalker wsX11_hasWalker) := goodIn_app (goodIn_of _ (by decide +kernel)) ggX11_step_X11_hasWalker
set_option maxRecDepth 20000 in
theorem ggX11_step_X0_refreshAll : GoodIn wsX11_step wsX0_refreshAll := goodIn_r _ [16, 17, 18, 19, 20, 21, 15, 22, 23, 24, 25, 26, 27, 28, 29, 30, 31, 32, 33, 34, 35, 36, 37, 38, 39, 40, 41, 42, 43, 44, 45, 46, 47, 48, 49, 50, 51, 52, 53, 54, 55, 56, 57, 58, 59, 60, 61, 62, 63, 64, 65, 254, 255, 256, 257, 231, 232, 233, 234, 235, 236, 237, 238, 239, 240, 241, 242, 243, 244, 258, 259, 260, 261, 262, 263, 264, 265, 266, 267, 268, 269] (by decide +kernel) (by decide +kernel)
set_option maxRecDepth 20000 in
theorem gX11_step_X0_refreshAll : GoodIn wsX11_step (wsV RX11 212 RX0 yX0_refreshAll wsX0_refreshAll) := goodIn_app (goodIn_of _ (by decide +kernel)) ggX11_step_X0_refreshAll
set_option maxRecDepth 20000 in
theorem ggX11_step_X1_takeSteps : GoodIn wsX11_step wsX1_takeSteps := goodIn_r _ [70, 71, 72, 73, 69, 74, 75, 76, 77, 78, 79, 80, 81, 82, 83, 84, 85, 86, 87, 88, 89, 90, 91, 92, 93, 94, 95, 96, 97, 98, 99, 100, 101, 102, 103, 104, 105, 106, 107, 108, 109, 110, 111, 112, 113, 114, 115, 116, 117, 118, 119, 120, 121, 122, 15, 123, 124, 125, 126, 127, 128, 30, 34, 35, 36, 129, 130, 131, 132, 133, 134, 135, 45, 136, 52, 137, 138, 139, 140, 141, 142, 143, 144, 145, 146, 147, 148, 149, 150, 151, 152, 153, 154, 155, 156, 28, 29, 157, 158, 159, 160, 161, 162, 163, 164, 165, 166, 167, 168, 169, 170, 171, 172, 173, 174, 175, 176, 177, 178, 179, 180, 181, 182, 183, 184, 185, 186, 187, 188, 189, 190, 191, 192, 193, 194, 195, 196, 197, 198, 199, 200, 201, 202, 203, 204, 205, 206, 207, 208, 209, 210, 211, 212, 213, 214, 215, 216, 217, 49, 50, 51, 245, 246, 247, 248, 249, 250, 251, 252, 253, 270, 271, 272, 273, 274, 275, 276, 277, 278, 279, 280, 281, 282, 283, 284, 285, 231, 232, 233, 234, 235, 236, 237, 238, 239, 240, 241, 242, 243, 244, 258, 259, 260, 261, 262, 263, 264, 265, 266, 267, 268, 269, 254, 255, 256, 257] (by decide +kernel) (by decide +kernel)
set_option maxRecDepth 20000 in
theorem gX11_step_X1_takeSteps : GoodIn wsX11_step (wsV RX11 215 RX1 yX1_takeSteps wsX1_takeSteps) := goodIn_app (goodIn_of _ (by decide +kernel)) ggX11_step_X1_takeSteps
theorem dX11_step_0 : decode cX11_step 0 = .ok (.aload_n 0, 1) := by decide +kernel
theorem dX11_step_1 : decode cX11_step 1 = .ok (.iload_n 1, 1) := by decide +kernel
theorem dX11_step_2 : decode cX11_step 2 = .ok (.invokevirtual 205, 3) := by decide +kernel
theorem dX11_step_5 : decode cX11_step 5 = .ok (.ifCond .eq 15, 3) := by decide +kernel
theorem dX11_step_8 : decode cX11_step 8 = .ok (.iload_n 2, 1) := by decide +kernel
theorem dX11_step_9 : decode cX11_step 9 = .ok (.iconst 1, 1) := by decide +kernel
theorem dX11_step_10 : decode cX11_step 10 = .ok (.if_icmp .lt 10, 3) := by decide +kernel
theorem dX11_step_13 : decode cX11_step 13 = .ok (.iload_n 2, 1) := by decide +kernel
theorem dX11_step_14 : decode cX11_step 14 = .ok (.sipush 200, 3) := by decide +kernel
theorem dX11_step_17 : decode cX11_step 17 = .ok (.if_icmp .le 5, 3) := by decide +kernel
theorem dX11_step_20 : decode cX11_step 20 = .ok (.iconst (-1), 1) := by decide +kernel
theorem dX11_step_21 : decode cX11_step 21 = .ok (.ireturn, 1) := by decide +kernel
theorem dX11_step_22 : decode cX11_step 22 = .ok (.aload_n 0, 1) := by decide +kernel
theorem dX11_step_23 : decode cX11_step 23 = .ok (.getfield 59, 3) := by decide +kernel
theorem dX11_step_26 : decode cX11_step 26 = .ok (.invokevirtual 212, 3) := by decide +kernel
theorem dX11_step_29 : decode cX11_step 29 = .ok (.aload_n 0, 1) := by decide +kernel
theorem dX11_step_30 : decode cX11_step 30 = .ok (.getfield 42, 3) := by decide +kernel
theorem dX11_step_33 : decode cX11_step 33 = .ok (.getfield 195, 3) := by decide +kernel
theorem dX11_step_36 : decode cX11_step 36 = .ok (.iload_n 1, 1) := by decide +kernel
theorem dX11_step_37 : decode cX11_step 37 = .ok (.aaload, 1) := by decide +kernel
theorem dX11_step_38 : decode cX11_step 38 = .ok (.astore_n 3, 1) := by decide +kernel
theorem dX11_step_39 : decode cX11_step 39 = .ok (.aload_n 0, 1) := by decide +kernel
theorem dX11_step_40 : decode cX11_step 40 = .ok (.getfield 68, 3) := by decide +kernel
theorem dX11_step_43 : decode cX11_step 43 = .ok (.aload_n 3, 1) := by decide +kernel
theorem dX11_step_44 : decode cX11_step 44 = .ok (.iload_n 2, 1) := by decide +kernel
theorem dX11_step_45 : decode cX11_step 45 = .ok (.invokevirtual 215, 3) := by decide +kernel
theorem dX11_step_48 : decode cX11_step 48 = .ok (.pop, 1) := by decide +kernel
theorem dX11_step_49 : decode cX11_step 49 = .ok (.aload_n 3, 1) := by decide +kernel
theorem dX11_step_50 : decode cX11_step 50 = .ok (.getfield 219, 3) := by decide +kernel
theorem dX11_step_53 : decode cX11_step 53 = .ok (.ireturn, 1) := by decide +kernel
set_option maxRecDepth 20000 in
theorem ggX11_soonest_X11_hasCorner : GoodIn wsX11_soonest wsX11_hasCorner := goodIn_r _ [9, 2, 3, 10, 66, 67, 68, 69, 70, 71, 72, 73, 74, 75, 76, 77, 78, 79, 80, 81, 82, 83, 84, 85, 86, 87, 88, 89, 90, 91, 92, 93, 94, 95, 96, 97, 98, 99, 100, 101, 102, 103, 104] (by decide +kernel) (by decide +kernel)
set_option maxRecDepth 20000 in
theorem gX11_soonest_X11_hasCorner : GoodIn wsX11_soonest (wsV RX11 176 RX11 yX11_hasCorner wsX11_hasCorner) := goodIn_app (goodIn_of _ (by decide +kernel)) ggX11_soonest_X11_hasCorner
set_option maxRecDepth 20000 in
theorem ggX11_soonest_X11_isAskedHour : GoodIn wsX11_soonest wsX11_isAskedHour := goodIn_r _ [13, 14] (by decide +kernel) (by decide +kernel)
set_option maxRecDepth 20000 in
theorem gX11_soonest_X11_isAskedHour : GoodIn wsX11_soonest (va_wsS RX11 222 yX11_isAskedHour wsX11_isAskedHour) := goodIn_app (goodIn_of _ (by decide +kernel)) ggX11_soonest_X11_isAskedHour
set_option maxRecDepth 20000 in
theorem ggX11_soonest_X4_firstArrival : GoodIn wsX11_soonest wsX4_firstArrival := goodIn_r _ [19, 20, 21, 22, 23, 24, 25, 26, 18, 27, 28, 29, 30, 31, 32, 33, 34, 35, 36, 37, 38, 39, 40, 41, 42, 43, 44, 45, 46, 47, 48, 49, 50, 51, 52, 53, 54, 55, 56, 57, 58, 59, 60, 61, 62, 63, 64, 65, 105, 106, 107, 108, 93, 94, 95, 96, 97, 98, 99, 100, 101, 102, 103, 104] (by decide +kernel) (by decide +kernel)
set_option maxRecDepth 20000 in
theorem gX11_soonest_X4_firstArrival : GoodIn wsX11_soonest (wsV RX11 225 RX4 yX4_firstArrival wsX4_firstArrival) := goodIn_app (goodIn_of _ (by decide +kernel)) ggX11_soonest_X4_firstArrival
theorem dX11_soonest_0 : decode cX11_soonest 0 = .ok (.aload_n 0, 1) := by decide +kernel
theorem dX11_soonest_1 : decode cX11_soonest 1 = .ok (.iload_n 1, 1) := by decide +kernel
theorem dX11_soonest_2 : decode cX11_soonest 2 = .ok (.invokevirtual 176, 3) := by decide +kernel
theorem dX11_soonest_5 : decode cX11_soonest 5 = .ok (.ifCond .eq 18, 3) := by decide +kernel
theorem dX11_soonest_8 : decode cX11_soonest 8 = .ok (.aload_n 0, 1) := by decide +kernel
theorem dX11_soonest_9 : decode cX11_soonest 9 = .ok (.iload_n 2, 1) := by decide +kernel
theorem dX11_soonest_10 : decode cX11_soonest 10 = .ok (.invokevirtual 176, 3) := by decide +kernel
theorem dX11_soonest_13 : decode cX11_soonest 13 = .ok (.ifCond .eq 10, 3) := by decide +kernel
theorem dX11_soonest_16 : decode cX11_soonest 16 = .ok (.iload_n 3, 1) := by decide +kernel
theorem dX11_soonest_17 : decode cX11_soonest 17 = .ok (.invokestatic 222, 3) := by decide +kernel
theorem dX11_soonest_20 : decode cX11_soonest 20 = .ok (.ifCond .ne 5, 3) := by decide +kernel
theorem dX11_soonest_23 : decode cX11_soonest 23 = .ok (.iconst (-1), 1) := by decide +kernel
theorem dX11_soonest_24 : decode cX11_soonest 24 = .ok (.ireturn, 1) := by decide +kernel
theorem dX11_soonest_25 : decode cX11_soonest 25 = .ok (.aload_n 0, 1) := by decide +kernel
theorem dX11_soonest_26 : decode cX11_soonest 26 = .ok (.getfield 84, 3) := by decide +kernel
theorem dX11_soonest_29 : decode cX11_soonest 29 = .ok (.aload_n 0, 1) := by decide +kernel
theorem dX11_soonest_30 : decode cX11_soonest 30 = .ok (.getfield 42, 3) := by decide +kernel
theorem dX11_soonest_33 : decode cX11_soonest 33 = .ok (.getfield 120, 3) := by decide +kernel
theorem dX11_soonest_36 : decode cX11_soonest 36 = .ok (.getfield 123, 3) := by decide +kernel
theorem dX11_soonest_39 : decode cX11_soonest 39 = .ok (.iload_n 1, 1) := by decide +kernel
theorem dX11_soonest_40 : decode cX11_soonest 40 = .ok (.iload_n 2, 1) := by decide +kernel
theorem dX11_soonest_41 : decode cX11_soonest 41 = .ok (.iload_n 3, 1) := by decide +kernel
theorem dX11_soonest_42 : decode cX11_soonest 42 = .ok (.invokevirtual 225, 3) := by decide +kernel
theorem dX11_soonest_45 : decode cX11_soonest 45 = .ok (.istore 4, 2) := by decide +kernel
theorem dX11_soonest_47 : decode cX11_soonest 47 = .ok (.iload 4, 2) := by decide +kernel
theorem dX11_soonest_49 : decode cX11_soonest 49 = .ok (.iconst (-1), 1) := by decide +kernel
theorem dX11_soonest_50 : decode cX11_soonest 50 = .ok (.if_icmp .ne 8, 3) := by decide +kernel
theorem dX11_soonest_53 : decode cX11_soonest 53 = .ok (.bipush (-2), 2) := by decide +kernel
theorem dX11_soonest_55 : decode cX11_soonest 55 = .ok (.goto 5, 3) := by decide +kernel
theorem dX11_soonest_58 : decode cX11_soonest 58 = .ok (.iload 4, 2) := by decide +kernel
theorem dX11_soonest_60 : decode cX11_soonest 60 = .ok (.ireturn, 1) := by decide +kernel
set_option maxRecDepth 20000 in
theorem ggX11_way_X11_hasCorner : GoodIn wsX11_way wsX11_hasCorner := goodIn_r _ [6, 7, 8, 9, 94, 95, 96, 97, 98, 99, 100, 101, 102, 103, 104, 105, 106, 107, 108, 109, 110, 111, 112, 113, 114, 115, 116, 117, 118, 119, 120, 121, 122, 123, 124, 125, 126, 127, 128, 129, 130, 131, 132] (by decide +kernel) (by decide +kernel)
set_option maxRecDepth 20000 in
theorem gX11_way_X11_hasCorner : GoodIn wsX11_way (wsV RX11 176 RX11 yX11_hasCorner wsX11_hasCorner) := goodIn_app (goodIn_of _ (by decide +kernel)) ggX11_way_X11_hasCorner
set_option maxRecDepth 20000 in
theorem ggX11_way_X11_isAskedHour : GoodIn wsX11_way wsX11_isAskedHour := goodIn_r _ [12, 13] (by decide +kernel) (by decide +kernel)
set_option maxRecDepth 20000 in
theorem gX11_way_X11_isAskedHour : GoodIn wsX11_way (va_wsS RX11 222 yX11_isAskedHour wsX11_isAskedHour) := goodIn_app (goodIn_of _ (by decide +kernel)) ggX11_way_X11_isAskedHour
set_option maxRecDepth 20000 in
theorem ggX11_way_X4_streetOnWay : GoodIn wsX11_way wsX4_streetOnWay := goodIn_r _ [18, 19, 20, 21, 22, 23, 24, 17, 25, 26, 27, 28, 29, 30, 31, 32, 33, 34, 35, 36, 37, 38, 39, 40, 41, 42, 43, 44, 45, 46, 47, 48, 49, 50, 51, 52, 53, 54, 55, 56, 57, 58, 59, 60, 61, 62, 63, 64, 65, 66, 67, 68, 69, 70, 71, 72, 73, 74, 75, 76, 77, 78, 79, 80, 81, 82, 83, 84, 85, 86, 87, 88, 89, 90, 91, 92, 93, 133, 134, 135, 136, 121, 122, 123, 124, 125, 126, 127, 128, 129, 130, 131, 132] (by decide +kernel) (by decide +kernel)
set_option maxRecDepth 20000 in
theorem gX11_way_X4_streetOnWay : GoodIn wsX11_way (wsV RX11 229 RX4 yX4_streetOnWay wsX4_streetOnWay) := goodIn_app (goodIn_of _ (by decide +kernel)) ggX11_way_X4_streetOnWay
theorem dX11_way_0 : decode cX11_way 0 = .ok (.aload_n 0, 1) := by decide +kernel
theorem dX11_way_1 : decode cX11_way 1 = .ok (.iload_n 1, 1) := by decide +kernel
theorem dX11_way_2 : decode cX11_way 2 = .ok (.invokevirtual 176, 3) := by decide +kernel
theorem dX11_way_5 : decode cX11_way 5 = .ok (.ifCond .eq 23, 3) := by decide +kernel
theorem dX11_way_8 : decode cX11_way 8 = .ok (.aload_n 0, 1) := by decide +kernel
theorem dX11_way_9 : decode cX11_way 9 = .ok (.iload_n 2, 1) := by decide +kernel
theorem dX11_way_10 : decode cX11_way 10 = .ok (.invokevirtual 176, 3) := by decide +kernel
theorem dX11_way_13 : decode cX11_way 13 = .ok (.ifCond .eq 15, 3) := by decide +kernel
theorem dX11_way_16 : decode cX11_way 16 = .ok (.iload_n 3, 1) := by decide +kernel
theorem dX11_way_17 : decode cX11_way 17 = .ok (.invokestatic 222, 3) := by decide +kernel
theorem dX11_way_20 : decode cX11_way 20 = .ok (.ifCond .eq 8, 3) := by decide +kernel
theorem dX11_way_23 : decode cX11_way 23 = .ok (.iload 4, 2) := by decide +kernel
theorem dX11_way_25 : decode cX11_way 25 = .ok (.ifCond .ge 5, 3) := by decide +kernel
theorem dX11_way_28 : decode cX11_way 28 = .ok (.iconst (-1), 1) := by decide +kernel
theorem dX11_way_29 : decode cX11_way 29 = .ok (.ireturn, 1) := by decide +kernel
theorem dX11_way_30 : decode cX11_way 30 = .ok (.aload_n 0, 1) := by decide +kernel
theorem dX11_way_31 : decode cX11_way 31 = .ok (.getfield 84, 3) := by decide +kernel
theorem dX11_way_34 : decode cX11_way 34 = .ok (.iload_n 1, 1) := by decide +kernel
theorem dX11_way_35 : decode cX11_way 35 = .ok (.iload_n 2, 1) := by decide +kernel
theorem dX11_way_36 : decode cX11_way 36 = .ok (.iload_n 3, 1) := by decide +kernel
theorem dX11_way_37 : decode cX11_way 37 = .ok (.iload 4, 2) := by decide +kernel
theorem dX11_way_39 : decode cX11_way 39 = .ok (.invokevirtual 229, 3) := by decide +kernel
theorem dX11_way_42 : decode cX11_way 42 = .ok (.istore 5, 2) := by decide +kernel
theorem dX11_way_44 : decode cX11_way 44 = .ok (.iload 5, 2) := by decide +kernel
theorem dX11_way_46 : decode cX11_way 46 = .ok (.iconst (-1), 1) := by decide +kernel
theorem dX11_way_47 : decode cX11_way 47 = .ok (.if_icmp .ne 8, 3) := by decide +kernel
theorem dX11_way_50 : decode cX11_way 50 = .ok (.bipush (-2), 2) := by decide +kernel
theorem dX11_way_52 : decode cX11_way 52 = .ok (.goto 5, 3) := by decide +kernel
theorem dX11_way_55 : decode cX11_way 55 = .ok (.iload 5, 2) := by decide +kernel
theorem dX11_way_57 : decode cX11_way 57 = .ok (.ireturn, 1) := by decide +kernel
set_option maxRecDepth 20000 in
theorem ggX11_comes_X11_hasWalker : GoodIn wsX11_comes wsX11_hasWalker := goodIn_r _ [9, 3, 10, 241, 242, 243, 244, 245, 246, 247, 248, 249, 250, 251, 252, 253, 254, 255, 256, 257, 258, 259, 260, 261, 262, 263, 264, 265, 266, 267] (by decide +kernel) (by decide +kernel)
set_option maxRecDepth 20000 in
theorem gX11_comes_X11_hasWalker : GoodIn wsX11_comes (wsV RX11 205 RX11 yX11_hasWalker wsX11_hasWalker) := goodIn_app (goodIn_of _ (by decide +kernel)) ggX11_comes_X11_hasWalker
set_option maxRecDepth 20000 in
theorem ggX11_comes_X0_refreshAll : GoodIn wsX11_comes wsX0_refreshAll := goodIn_r _ [15, 16, 17, 18, 19, 20, 14, 21, 22, 23, 24, 25, 26, 27, 28, 29, 30, 31, 32, 33, 34, 35, 36, 37, 38, 39, 40, 41, 42, 43, 44, 45, 46, 47, 48, 49, 50, 51, 52, 53, 54, 55, 56, 57, 58, 59, 60, 61, 62, 63, 64, 268, 269, 270, 271, 254, 255, 256, 257, 258, 259, 260, 261, 262, 263, 264, 265, 266, 267, 272, 273, 274, 275, 276, 277, 278, 279, 280, 281, 282, 283] (by decide +kernel) (by decide +kernel)
set_option maxRecDepth 20000 in
theorem gX11_comes_X0_refreshAll : GoodIn wsX11_comes (wsV RX11 212 RX0 yX0_refreshAll wsX0_refreshAll) := goodIn_app (goodIn_of _ (by decide +kernel)) ggX11_comes_X0_refreshAll
set_option maxRecDepth 20000 in
theorem ggX11_comes_X8_tellComing : GoodIn wsX11_comes wsX8_tellComing := goodIn_r _ [69, 70, 71, 72, 73, 74, 75, 76, 77, 78, 79, 80, 81, 82, 83, 84, 85, 86, 87, 88, 89, 90, 91, 92, 93, 94, 95, 96, 97, 98, 99, 100, 101, 102, 103, 104, 105, 106, 107, 108, 109, 110, 111, 112, 113, 114, 115, 116, 117, 118, 119, 120, 121, 122, 123, 124, 125, 126, 127, 128, 129, 130, 131, 132, 133, 134, 135, 136, 137, 138, 139, 140, 141, 142, 143, 144, 14, 145, 146, 147, 148, 149, 150, 29, 33, 34, 35, 151, 152, 153, 154, 155, 156, 157, 44, 158, 51, 159, 160, 161, 162, 163, 164, 165, 166, 167, 168, 169, 170, 171, 172, 173, 174, 175, 176, 177, 178, 27, 28, 179, 180, 181, 182, 183, 184, 185, 186, 187, 188, 189, 190, 191, 192, 193, 194, 195, 196, 197, 198, 199, 200, 201, 202, 203, 204, 205, 206, 207, 208, 209, 210, 211, 212, 213, 214, 215, 216, 217, 218, 219, 220, 221, 222, 223, 224, 225, 226, 227, 228, 229, 230, 231, 232, 233, 234, 235, 236, 237, 238, 239, 48, 49, 50, 240, 284, 285, 286, 287, 288, 289, 290, 291, 292, 293, 294, 295, 296, 297, 298, 299, 300, 301, 302, 303, 304, 305, 306, 307, 308, 309, 310, 311, 312, 313, 314, 315, 316, 254, 255, 256, 257, 258, 259, 260, 261, 262, 263, 264, 265, 266, 267, 272, 273, 274, 275, 276, 277, 278, 279, 280, 281, 282, 283, 268, 269, 270, 271] (by decide +kernel) (by decide +kernel)
set_option maxRecDepth 20000 in
theorem gX11_comes_X8_tellComing : GoodIn wsX11_comes (wsV RX11 232 RX8 yX8_tellComing wsX8_tellComing) := goodIn_app (goodIn_of _ (by decide +kernel)) ggX11_comes_X8_tellComing
theorem dX11_comes_0 : decode cX11_comes 0 = .ok (.aload_n 0, 1) := by decide +kernel
theorem dX11_comes_1 : decode cX11_comes 1 = .ok (.iload_n 1, 1) := by decide +kernel
theorem dX11_comes_2 : decode cX11_comes 2 = .ok (.invokevirtual 205, 3) := by decide +kernel
theorem dX11_comes_5 : decode cX11_comes 5 = .ok (.ifCond .eq 23, 3) := by decide +kernel
theorem dX11_comes_8 : decode cX11_comes 8 = .ok (.iload_n 2, 1) := by decide +kernel
theorem dX11_comes_9 : decode cX11_comes 9 = .ok (.ifCond .lt 19, 3) := by decide +kernel
theorem dX11_comes_12 : decode cX11_comes 12 = .ok (.iload_n 2, 1) := by decide +kernel
theorem dX11_comes_13 : decode cX11_comes 13 = .ok (.sipush 400, 3) := by decide +kernel
theorem dX11_comes_16 : decode cX11_comes 16 = .ok (.if_icmp .gt 12, 3) := by decide +kernel
theorem dX11_comes_19 : decode cX11_comes 19 = .ok (.iload_n 3, 1) := by decide +kernel
theorem dX11_comes_20 : decode cX11_comes 20 = .ok (.ifCond .lt 8, 3) := by decide +kernel
theorem dX11_comes_23 : decode cX11_comes 23 = .ok (.iload_n 3, 1) := by decide +kernel
theorem dX11_comes_24 : decode cX11_comes 24 = .ok (.iconst 2, 1) := by decide +kernel
theorem dX11_comes_25 : decode cX11_comes 25 = .ok (.if_icmp .le 5, 3) := by decide +kernel
theorem dX11_comes_28 : decode cX11_comes 28 = .ok (.iconst (-1), 1) := by decide +kernel
theorem dX11_comes_29 : decode cX11_comes 29 = .ok (.ireturn, 1) := by decide +kernel
theorem dX11_comes_30 : decode cX11_comes 30 = .ok (.aload_n 0, 1) := by decide +kernel
theorem dX11_comes_31 : decode cX11_comes 31 = .ok (.getfield 59, 3) := by decide +kernel
theorem dX11_comes_34 : decode cX11_comes 34 = .ok (.invokevirtual 212, 3) := by decide +kernel
theorem dX11_comes_37 : decode cX11_comes 37 = .ok (.aload_n 0, 1) := by decide +kernel
theorem dX11_comes_38 : decode cX11_comes 38 = .ok (.getfield 77, 3) := by decide +kernel
theorem dX11_comes_41 : decode cX11_comes 41 = .ok (.aload_n 0, 1) := by decide +kernel
theorem dX11_comes_42 : decode cX11_comes 42 = .ok (.getfield 42, 3) := by decide +kernel
theorem dX11_comes_45 : decode cX11_comes 45 = .ok (.getfield 195, 3) := by decide +kernel
theorem dX11_comes_48 : decode cX11_comes 48 = .ok (.iload_n 1, 1) := by decide +kernel
theorem dX11_comes_49 : decode cX11_comes 49 = .ok (.aaload, 1) := by decide +kernel
theorem dX11_comes_50 : decode cX11_comes 50 = .ok (.iload_n 2, 1) := by decide +kernel
theorem dX11_comes_51 : decode cX11_comes 51 = .ok (.iload_n 3, 1) := by decide +kernel
theorem dX11_comes_52 : decode cX11_comes 52 = .ok (.invokevirtual 232, 3) := by decide +kernel
theorem dX11_comes_55 : decode cX11_comes 55 = .ok (.ireturn, 1) := by decide +kernel
set_option maxRecDepth 20000 in
theorem ggX11_round_X11_hasWalker : GoodIn wsX11_round wsX11_hasWalker := goodIn_r _ [9, 3, 10, 249, 250, 251, 252, 253, 254, 255, 256, 257, 258, 259, 260, 261, 262, 263, 264, 265, 266, 267, 268, 269, 270, 271, 272, 273, 274, 275] (by decide +kernel) (by decide +kernel)
set_option maxRecDepth 20000 in
theorem gX11_round_X11_hasWalker : GoodIn wsX11_round (wsV RX11 205 RX11 yX11_hasWalker wsX11_hasWalker) := goodIn_app (goodIn_of _ (by decide +kernel)) ggX11_round_X11_hasWalker
set_option maxRecDepth 20000 in
theorem ggX11_round_X0_refreshAll : GoodIn wsX11_round wsX0_refreshAll := goodIn_r _ [15, 16, 17, 18, 19, 20, 14, 21, 22, 23, 24, 25, 26, 27, 28, 29, 30, 31, 32, 33, 34, 35, 36, 37, 38, 39, 40, 41, 42, 43, 44, 45, 46, 47, 48, 49, 50, 51, 52, 53, 54, 55, 56, 57, 58, 59, 60, 61, 62, 63, 64, 276, 277, 278, 279, 262, 263, 264, 265, 266, 267, 268, 269, 270, 271, 272, 273, 274, 275, 280, 281, 282, 283, 284, 285, 286, 287, 288, 289, 290, 291] (by decide +kernel) (by decide +kernel)
set_option maxRecDepth 20000 in
theorem gX11_round_X0_refreshAll : GoodIn wsX11_round (wsV RX11 212 RX0 yX0_refreshAll wsX0_refreshAll) := goodIn_app (goodIn_of _ (by decide +kernel)) ggX11_round_X0_refreshAll
set_option maxRecDepth 20000 in
theorem ggX11_round_X8_tellCircle : GoodIn wsX11_round wsX8_tellCircle := goodIn_r _ [69, 70, 71, 72, 73, 74, 75, 76, 77, 78, 79, 80, 81, 82, 83, 84, 85, 86, 87, 88, 89, 90, 91, 92, 93, 94, 68, 95, 96, 97, 98, 99, 100, 101, 102, 103, 104, 105, 106, 107, 108, 109, 110, 111, 112, 113, 114, 115, 116, 117, 118, 119, 120, 121, 122, 123, 124, 125, 126, 127, 128, 129, 130, 131, 132, 133, 134, 135, 136, 137, 138, 139, 140, 141, 142, 143, 144, 145, 146, 147, 148, 149, 150, 151, 152, 14, 153, 154, 155, 156, 157, 158, 29, 33, 34, 35, 159, 160, 161, 162, 163, 164, 165, 44, 166, 51, 167, 168, 169, 170, 171, 172, 173, 174, 175, 176, 177, 178, 179, 180, 181, 182, 183, 184, 185, 186, 27, 28, 187, 188, 189, 190, 191, 192, 193, 194, 195, 196, 197, 198, 199, 200, 201, 202, 203, 204, 205, 206, 207, 208, 209, 210, 211, 212, 213, 214, 215, 216, 217, 218, 219, 220, 221, 222, 223, 224, 225, 226, 227, 228, 229, 230, 231, 232, 233, 234, 235, 236, 237, 238, 239, 240, 241, 242, 243, 244, 245, 246, 247, 48, 49, 50, 248, 292, 293, 294, 295, 296, 297, 298, 299, 300, 301, 302, 303, 304, 305, 306, 307, 308, 309, 310, 311, 312, 313, 314, 315, 316, 317, 318, 319, 320, 321, 322, 323, 324, 262, 263, 264, 265, 266, 267, 268, 269, 270, 271, 272, 273, 274, 275, 280, 281, 282, 283, 284, 285, 286, 287, 288, 289, 290, 291, 276, 277, 278, 279] (by decide +kernel) (by decide +kernel)
set_option maxRecDepth 20000 in
theorem gX11_round_X8_tellCircle : GoodIn wsX11_round (wsV RX11 236 RX8 yX8_tellCircle wsX8_tellCircle) := goodIn_app (goodIn_of _ (by decide +kernel)) ggX11_round_X8_tellCircle
theorem dX11_round_0 : decode cX11_round 0 = .ok (.aload_n 0, 1) := by decide +kernel
theorem dX11_round_1 : decode cX11_round 1 = .ok (.iload_n 1, 1) := by decide +kernel
theorem dX11_round_2 : decode cX11_round 2 = .ok (.invokevirtual 205, 3) := by decide +kernel
theorem dX11_round_5 : decode cX11_round 5 = .ok (.ifCond .eq 12, 3) := by decide +kernel
theorem dX11_round_8 : decode cX11_round 8 = .ok (.iload_n 2, 1) := by decide +kernel
theorem dX11_round_9 : decode cX11_round 9 = .ok (.ifCond .lt 8, 3) := by decide +kernel
theorem dX11_round_12 : decode cX11_round 12 = .ok (.iload_n 2, 1) := by decide +kernel
theorem dX11_round_13 : decode cX11_round 13 = .ok (.iconst 1, 1) := by decide +kernel
theorem dX11_round_14 : decode cX11_round 14 = .ok (.if_icmp .le 5, 3) := by decide +kernel
theorem dX11_round_17 : decode cX11_round 17 = .ok (.iconst (-1), 1) := by decide +kernel
theorem dX11_round_18 : decode cX11_round 18 = .ok (.ireturn, 1) := by decide +kernel
theorem dX11_round_19 : decode cX11_round 19 = .ok (.aload_n 0, 1) := by decide +kernel
theorem dX11_round_20 : decode cX11_round 20 = .ok (.getfield 59, 3) := by decide +kernel
theorem dX11_round_23 : decode cX11_round 23 = .ok (.invokevirtual 212, 3) := by decide +kernel
theorem dX11_round_26 : decode cX11_round 26 = .ok (.aload_n 0, 1) := by decide +kernel
theorem dX11_round_27 : decode cX11_round 27 = .ok (.getfield 77, 3) := by decide +kernel
theorem dX11_round_30 : decode cX11_round 30 = .ok (.aload_n 0, 1) := by decide +kernel
theorem dX11_round_31 : decode cX11_round 31 = .ok (.getfield 42, 3) := by decide +kernel
theorem dX11_round_34 : decode cX11_round 34 = .ok (.getfield 195, 3) := by decide +kernel
theorem dX11_round_37 : decode cX11_round 37 = .ok (.iload_n 1, 1) := by decide +kernel
theorem dX11_round_38 : decode cX11_round 38 = .ok (.aaload, 1) := by decide +kernel
theorem dX11_round_39 : decode cX11_round 39 = .ok (.iload_n 2, 1) := by decide +kernel
theorem dX11_round_40 : decode cX11_round 40 = .ok (.invokevirtual 236, 3) := by decide +kernel
theorem dX11_round_43 : decode cX11_round 43 = .ok (.ireturn, 1) := by decide +kernel
set_option maxRecDepth 20000 in
theorem ggX11_questions_X11_hasWalker : GoodIn wsX11_questions wsX11_hasWalker := goodIn_r _ [9, 3, 10, 140, 141, 142, 143, 144, 145, 146, 147, 148, 149, 150, 151, 152, 153, 154, 155, 156, 157, 158, 159, 160, 161, 162, 163, 164, 165, 166] (by decide +kernel) (by decide +kernel)
set_option maxRecDepth 20000 in
theorem gX11_questions_X11_hasWalker : GoodIn wsX11_questions (wsV RX11 205 RX11 yX11_hasWalker wsX11_hasWalker) := goodIn_app (goodIn_of _ (by decide +kernel)) ggX11_questions_X11_hasWalker
set_option maxRecDepth 20000 in
theorem ggX11_questions_X0_refreshAll : GoodIn wsX11_questions wsX0_refreshAll := goodIn_r _ [15, 16, 17, 18, 19, 20, 14, 21, 22, 23, 24, 25, 26, 27, 28, 29, 30, 31, 32, 33, 34, 35, 36, 37, 38, 39, 40, 41, 42, 43, 44, 45, 46, 47, 48, 49, 50, 51, 52, 53, 54, 55, 56, 57, 58, 59, 60, 61, 62, 63, 64, 167, 168, 169, 170, 153, 154, 155, 156, 157, 158, 159, 160, 161, 162, 163, 164, 165, 166, 171, 172, 173, 174, 175, 176, 177, 178, 179, 180, 181, 182] (by decide +kernel) (by decide +kernel)
set_option maxRecDepth 20000 in
theorem gX11_questions_X0_refreshAll : GoodIn wsX11_questions (wsV RX11 212 RX0 yX0_refreshAll wsX0_refreshAll) := goodIn_app (goodIn_of _ (by decide +kernel)) ggX11_questions_X0_refreshAll
set_option maxRecDepth 20000 in
theorem ggX11_questions_X8_fewestQuestions : GoodIn wsX11_questions wsX8_fewestQuestions := goodIn_r _ [69, 70, 71, 72, 73, 74, 75, 76, 77, 78, 79, 80, 81, 82, 83, 84, 85, 86, 87, 88, 89, 90, 91, 92, 93, 94, 95, 96, 68, 97, 98, 99, 100, 101, 102, 103, 104, 105, 106, 107, 108, 109, 110, 111, 112, 14, 113, 114, 115, 116, 117, 118, 29, 33, 34, 35, 119, 120, 121, 44, 122, 51, 123, 124, 125, 126, 127, 128, 129, 130, 131, 132, 133, 134, 135, 136, 137, 138, 139, 48, 49, 50, 183, 184, 185, 186, 187, 188, 189, 190, 191, 192, 193, 194, 195, 196, 197, 198, 199, 153, 154, 155, 156, 157, 158, 159, 160, 161, 162, 163, 164, 165, 166, 171, 172, 173, 174, 175, 176, 177, 178, 179, 180, 181, 182, 167, 168, 169, 170] (by decide +kernel) (by decide +kernel)
set_option maxRecDepth 20000 in
theorem gX11_questions_X8_fewestQuestions : GoodIn wsX11_questions (wsV RX11 239 RX8 yX8_fewestQuestions wsX8_fewestQuestions) := goodIn_app (goodIn_of _ (by decide +kernel)) ggX11_questions_X8_fewestQuestions
theorem dX11_questions_0 : decode cX11_questions 0 = .ok (.aload_n 0, 1) := by decide +kernel
theorem dX11_questions_1 : decode cX11_questions 1 = .ok (.iload_n 1, 1) := by decide +kernel
theorem dX11_questions_2 : decode cX11_questions 2 = .ok (.invokevirtual 205, 3) := by decide +kernel
theorem dX11_questions_5 : decode cX11_questions 5 = .ok (.ifCond .eq 13, 3) := by decide +kernel
theorem dX11_questions_8 : decode cX11_questions 8 = .ok (.iload_n 2, 1) := by decide +kernel
theorem dX11_questions_9 : decode cX11_questions 9 = .ok (.ifCond .lt 9, 3) := by decide +kernel
theorem dX11_questions_12 : decode cX11_questions 12 = .ok (.iload_n 2, 1) := by decide +kernel
theorem dX11_questions_13 : decode cX11_questions 13 = .ok (.bipush 120, 2) := by decide +kernel
theorem dX11_questions_15 : decode cX11_questions 15 = .ok (.if_icmp .le 5, 3) := by decide +kernel
theorem dX11_questions_18 : decode cX11_questions 18 = .ok (.iconst (-1), 1) := by decide +kernel
theorem dX11_questions_19 : decode cX11_questions 19 = .ok (.ireturn, 1) := by decide +kernel
theorem dX11_questions_20 : decode cX11_questions 20 = .ok (.aload_n 0, 1) := by decide +kernel
theorem dX11_questions_21 : decode cX11_questions 21 = .ok (.getfield 59, 3) := by decide +kernel
theorem dX11_questions_24 : decode cX11_questions 24 = .ok (.invokevirtual 212, 3) := by decide +kernel
theorem dX11_questions_27 : decode cX11_questions 27 = .ok (.aload_n 0, 1) := by decide +kernel
theorem dX11_questions_28 : decode cX11_questions 28 = .ok (.getfield 77, 3) := by decide +kernel
theorem dX11_questions_31 : decode cX11_questions 31 = .ok (.aload_n 0, 1) := by decide +kernel
theorem dX11_questions_32 : decode cX11_questions 32 = .ok (.getfield 42, 3) := by decide +kernel
theorem dX11_questions_35 : decode cX11_questions 35 = .ok (.getfield 195, 3) := by decide +kernel
theorem dX11_questions_38 : decode cX11_questions 38 = .ok (.iload_n 1, 1) := by decide +kernel
theorem dX11_questions_39 : decode cX11_questions 39 = .ok (.aaload, 1) := by decide +kernel
theorem dX11_questions_40 : decode cX11_questions 40 = .ok (.iload_n 2, 1) := by decide +kernel
theorem dX11_questions_41 : decode cX11_questions 41 = .ok (.invokevirtual 239, 3) := by decide +kernel
theorem dX11_questions_44 : decode cX11_questions 44 = .ok (.ireturn, 1) := by decide +kernel
set_option maxRecDepth 20000 in
theorem ggX11_cheap_X7_hasStreet : GoodIn wsX11_cheap wsX7_hasStreet := goodIn_r _ [7, 8, 49, 50, 51, 52, 53, 54, 55, 56, 57, 58, 59, 60] (by decide +kernel) (by decide +kernel)
set_option maxRecDepth 20000 in
theorem gX11_cheap_X7_hasStreet : GoodIn wsX11_cheap (wsV RX11 133 RX7 yX7_hasStreet wsX7_hasStreet) := goodIn_app (goodIn_of _ (by decide +kernel)) ggX11_cheap_X7_hasStreet
set_option maxRecDepth 20000 in
theorem ggX11_cheap_X7_commonSign : GoodIn wsX11_cheap wsX7_commonSign := goodIn_r _ [12, 13, 14, 15, 6, 16, 17, 18, 19, 20, 21, 49, 50, 51, 52, 53, 54, 55, 56, 57, 58, 59, 60] (by decide +kernel) (by decide +kernel)
set_option maxRecDepth 20000 in
theorem gX11_cheap_X7_commonSign : GoodIn wsX11_cheap (wsV RX11 242 RX7 yX7_commonSign wsX7_commonSign) := goodIn_app (goodIn_of _ (by decide +kernel)) ggX11_cheap_X7_commonSign
theorem dX11_cheap_0 : decode cX11_cheap 0 = .ok (.aload_n 0, 1) := by decide +kernel
theorem dX11_cheap_1 : decode cX11_cheap 1 = .ok (.getfield 42, 3) := by decide +kernel
theorem dX11_cheap_4 : decode cX11_cheap 4 = .ok (.getfield 120, 3) := by decide +kernel
theorem dX11_cheap_7 : decode cX11_cheap 7 = .ok (.iload_n 1, 1) := by decide +kernel
theorem dX11_cheap_8 : decode cX11_cheap 8 = .ok (.invokevirtual 133, 3) := by decide +kernel
theorem dX11_cheap_11 : decode cX11_cheap 11 = .ok (.ifCond .eq 17, 3) := by decide +kernel
theorem dX11_cheap_14 : decode cX11_cheap 14 = .ok (.aload_n 0, 1) := by decide +kernel
theorem dX11_cheap_15 : decode cX11_cheap 15 = .ok (.getfield 42, 3) := by decide +kernel
theorem dX11_cheap_18 : decode cX11_cheap 18 = .ok (.getfield 120, 3) := by decide +kernel
theorem dX11_cheap_21 : decode cX11_cheap 21 = .ok (.iload_n 1, 1) := by decide +kernel
theorem dX11_cheap_22 : decode cX11_cheap 22 = .ok (.invokevirtual 242, 3) := by decide +kernel
theorem dX11_cheap_25 : decode cX11_cheap 25 = .ok (.goto 4, 3) := by decide +kernel
theorem dX11_cheap_28 : decode cX11_cheap 28 = .ok (.iconst (-1), 1) := by decide +kernel
theorem dX11_cheap_29 : decode cX11_cheap 29 = .ok (.ireturn, 1) := by decide +kernel
set_option maxRecDepth 20000 in
theorem ggX11_wrong_X5_hasTown : GoodIn wsX11_wrong wsX5_hasTown := goodIn_r _ [8, 9, 10, 42, 43, 44, 45, 46, 47, 48, 49, 50, 51, 52, 53, 54, 55, 56, 57, 58, 59, 60, 61, 62, 63, 64, 65, 66, 67] (by decide +kernel) (by decide +kernel)
set_option maxRecDepth 20000 in
theorem gX11_wrong_X5_hasTown : GoodIn wsX11_wrong (wsV RX11 158 RX5 yX5_hasTown wsX5_hasTown) := goodIn_app (goodIn_of _ (by decide +kernel)) ggX11_wrong_X5_hasTown
set_option maxRecDepth 20000 in
theorem ggX11_wrong_X7_commonSignWrong : GoodIn wsX11_wrong wsX7_commonSignWrong := goodIn_r _ [15, 16, 17, 18, 14, 19, 20, 21, 22, 23, 24, 25, 26, 27, 28, 56, 57, 58, 59, 60, 61, 62, 63, 64, 65, 66, 67] (by decide +kernel) (by decide +kernel)
set_option maxRecDepth 20000 in
theorem gX11_wrong_X7_commonSignWrong : GoodIn wsX11_wrong (wsV RX11 245 RX7 yX7_commonSignWrong wsX7_commonSignWrong) := goodIn_app (goodIn_of _ (by decide +kernel)) ggX11_wrong_X7_commonSignWrong
theorem dX11_wrong_0 : decode cX11_wrong 0 = .ok (.aload_n 0, 1) := by decide +kernel
theorem dX11_wrong_1 : decode cX11_wrong 1 = .ok (.getfield 42, 3) := by decide +kernel
theorem dX11_wrong_4 : decode cX11_wrong 4 = .ok (.invokevirtual 158, 3) := by decide +kernel
theorem dX11_wrong_7 : decode cX11_wrong 7 = .ok (.ifCond .eq 13, 3) := by decide +kernel
theorem dX11_wrong_10 : decode cX11_wrong 10 = .ok (.iload_n 1, 1) := by decide +kernel
theorem dX11_wrong_11 : decode cX11_wrong 11 = .ok (.ifCond .lt 9, 3) := by decide +kernel
theorem dX11_wrong_14 : decode cX11_wrong 14 = .ok (.iload_n 1, 1) := by decide +kernel
theorem dX11_wrong_15 : decode cX11_wrong 15 = .ok (.bipush 7, 2) := by decide +kernel
theorem dX11_wrong_17 : decode cX11_wrong 17 = .ok (.if_icmp .le 5, 3) := by decide +kernel
theorem dX11_wrong_20 : decode cX11_wrong 20 = .ok (.iconst (-1), 1) := by decide +kernel
theorem dX11_wrong_21 : decode cX11_wrong 21 = .ok (.ireturn, 1) := by decide +kernel
theorem dX11_wrong_22 : decode cX11_wrong 22 = .ok (.iconst 0, 1) := by decide +kernel
theorem dX11_wrong_23 : decode cX11_wrong 23 = .ok (.istore_n 2, 1) := by decide +kernel
theorem dX11_wrong_24 : decode cX11_wrong 24 = .ok (.iconst 0, 1) := by decide +kernel
theorem dX11_wrong_25 : decode cX11_wrong 25 = .ok (.istore_n 3, 1) := by decide +kernel
theorem dX11_wrong_26 : decode cX11_wrong 26 = .ok (.iload_n 3, 1) := by decide +kernel
theorem dX11_wrong_27 : decode cX11_wrong 27 = .ok (.aload_n 0, 1) := by decide +kernel
theorem dX11_wrong_28 : decode cX11_wrong 28 = .ok (.getfield 42, 3) := by decide +kernel
theorem dX11_wrong_31 : decode cX11_wrong 31 = .ok (.getfield 120, 3) := by decide +kernel
theorem dX11_wrong_34 : decode cX11_wrong 34 = .ok (.getfield 123, 3) := by decide +kernel
theorem dX11_wrong_37 : decode cX11_wrong 37 = .ok (.if_icmp .ge 24, 3) := by decide +kernel
theorem dX11_wrong_40 : decode cX11_wrong 40 = .ok (.iload_n 2, 1) := by decide +kernel
theorem dX11_wrong_41 : decode cX11_wrong 41 = .ok (.aload_n 0, 1) := by decide +kernel
theorem dX11_wrong_42 : decode cX11_wrong 42 = .ok (.getfield 42, 3) := by decide +kernel
theorem dX11_wrong_45 : decode cX11_wrong 45 = .ok (.getfield 120, 3) := by decide +kernel
theorem dX11_wrong_48 : decode cX11_wrong 48 = .ok (.iload_n 3, 1) := by decide +kernel
theorem dX11_wrong_49 : decode cX11_wrong 49 = .ok (.iload_n 1, 1) := by decide +kernel
theorem dX11_wrong_50 : decode cX11_wrong 50 = .ok (.invokevirtual 245, 3) := by decide +kernel
theorem dX11_wrong_53 : decode cX11_wrong 53 = .ok (.iadd, 1) := by decide +kernel
theorem dX11_wrong_54 : decode cX11_wrong 54 = .ok (.istore_n 2, 1) := by decide +kernel
theorem dX11_wrong_55 : decode cX11_wrong 55 = .ok (.iinc 3 1, 3) := by decide +kernel
theorem dX11_wrong_58 : decode cX11_wrong 58 = .ok (.goto (-32), 3) := by decide +kernel
theorem dX11_wrong_61 : decode cX11_wrong 61 = .ok (.iload_n 2, 1) := by decide +kernel
theorem dX11_wrong_62 : decode cX11_wrong 62 = .ok (.ireturn, 1) := by decide +kernel
set_option maxRecDepth 20000 in
theorem ggX11_errand_X11_hasCorner : GoodIn wsX11_errand wsX11_hasCorner := goodIn_r _ [9, 1, 10, 11, 12, 13, 14, 15, 16, 17, 18, 19, 20, 21, 22, 23, 24, 25, 26, 27, 28, 29, 30, 31, 32, 33, 34, 35, 36, 37, 38, 39, 40, 41, 42, 43, 44, 45, 46, 47, 48, 49, 50] (by decide +kernel) (by decide +kernel)
set_option maxRecDepth 20000 in
theorem gX11_errand_X11_hasCorner : GoodIn wsX11_errand (wsV RX11 176 RX11 yX11_hasCorner wsX11_hasCorner) := goodIn_app (goodIn_of _ (by decide +kernel)) ggX11_errand_X11_hasCorner
theorem dX11_errand_0 : decode cX11_errand 0 = .ok (.iload_n 1, 1) := by decide +kernel
theorem dX11_errand_1 : decode cX11_errand 1 = .ok (.iconst (-1), 1) := by decide +kernel
theorem dX11_errand_2 : decode cX11_errand 2 = .ok (.if_icmp .ne 13, 3) := by decide +kernel
theorem dX11_errand_5 : decode cX11_errand 5 = .ok (.aload_n 0, 1) := by decide +kernel
theorem dX11_errand_6 : decode cX11_errand 6 = .ok (.getfield 42, 3) := by decide +kernel
theorem dX11_errand_9 : decode cX11_errand 9 = .ok (.iconst 0, 1) := by decide +kernel
theorem dX11_errand_10 : decode cX11_errand 10 = .ok (.putfield 248, 3) := by decide +kernel
theorem dX11_errand_13 : decode cX11_errand 13 = .ok (.iconst 0, 1) := by decide +kernel
theorem dX11_errand_14 : decode cX11_errand 14 = .ok (.ireturn, 1) := by decide +kernel
theorem dX11_errand_15 : decode cX11_errand 15 = .ok (.aload_n 0, 1) := by decide +kernel
theorem dX11_errand_16 : decode cX11_errand 16 = .ok (.iload_n 1, 1) := by decide +kernel
theorem dX11_errand_17 : decode cX11_errand 17 = .ok (.invokevirtual 176, 3) := by decide +kernel
theorem dX11_errand_20 : decode cX11_errand 20 = .ok (.ifCond .eq 28, 3) := by decide +kernel
theorem dX11_errand_23 : decode cX11_errand 23 = .ok (.aload_n 0, 1) := by decide +kernel
theorem dX11_errand_24 : decode cX11_errand 24 = .ok (.iload_n 2, 1) := by decide +kernel
theorem dX11_errand_25 : decode cX11_errand 25 = .ok (.invokevirtual 176, 3) := by decide +kernel
theorem dX11_errand_28 : decode cX11_errand 28 = .ok (.ifCond .eq 20, 3) := by decide +kernel
theorem dX11_errand_31 : decode cX11_errand 31 = .ok (.iload_n 1, 1) := by decide +kernel
theorem dX11_errand_32 : decode cX11_errand 32 = .ok (.iload_n 2, 1) := by decide +kernel
theorem dX11_errand_33 : decode cX11_errand 33 = .ok (.if_icmp .eq 15, 3) := by decide +kernel
theorem dX11_errand_36 : decode cX11_errand 36 = .ok (.aload_n 0, 1) := by decide +kernel
theorem dX11_errand_37 : decode cX11_errand 37 = .ok (.getfield 42, 3) := by decide +kernel
theorem dX11_errand_40 : decode cX11_errand 40 = .ok (.getfield 248, 3) := by decide +kernel
theorem dX11_errand_43 : decode cX11_errand 43 = .ok (.bipush 6, 2) := by decide +kernel
theorem dX11_errand_45 : decode cX11_errand 45 = .ok (.if_icmp .lt 6, 3) := by decide +kernel
theorem dX11_errand_48 : decode cX11_errand 48 = .ok (.bipush (-2), 2) := by decide +kernel
theorem dX11_errand_50 : decode cX11_errand 50 = .ok (.ireturn, 1) := by decide +kernel
theorem dX11_errand_51 : decode cX11_errand 51 = .ok (.aload_n 0, 1) := by decide +kernel
theorem dX11_errand_52 : decode cX11_errand 52 = .ok (.getfield 42, 3) := by decide +kernel
theorem dX11_errand_55 : decode cX11_errand 55 = .ok (.getfield 251, 3) := by decide +kernel
theorem dX11_errand_58 : decode cX11_errand 58 = .ok (.aload_n 0, 1) := by decide +kernel
theorem dX11_errand_59 : decode cX11_errand 59 = .ok (.getfield 42, 3) := by decide +kernel
theorem dX11_errand_62 : decode cX11_errand 62 = .ok (.getfield 248, 3) := by decide +kernel
theorem dX11_errand_65 : decode cX11_errand 65 = .ok (.iload_n 1, 1) := by decide +kernel
theorem dX11_errand_66 : decode cX11_errand 66 = .ok (.iastore, 1) := by decide +kernel
theorem dX11_errand_67 : decode cX11_errand 67 = .ok (.aload_n 0, 1) := by decide +kernel
theorem dX11_errand_68 : decode cX11_errand 68 = .ok (.getfield 42, 3) := by decide +kernel
theorem dX11_errand_71 : decode cX11_errand 71 = .ok (.getfield 254, 3) := by decide +kernel
theorem dX11_errand_74 : decode cX11_errand 74 = .ok (.aload_n 0, 1) := by decide +kernel
theorem dX11_errand_75 : decode cX11_errand 75 = .ok (.getfield 42, 3) := by decide +kernel
theorem dX11_errand_78 : decode cX11_errand 78 = .ok (.getfield 248, 3) := by decide +kernel
theorem dX11_errand_81 : decode cX11_errand 81 = .ok (.iload_n 2, 1) := by decide +kernel
theorem dX11_errand_82 : decode cX11_errand 82 = .ok (.iastore, 1) := by decide +kernel
theorem dX11_errand_83 : decode cX11_errand 83 = .ok (.aload_n 0, 1) := by decide +kernel
theorem dX11_errand_84 : decode cX11_errand 84 = .ok (.getfield 42, 3) := by decide +kernel
theorem dX11_errand_87 : decode cX11_errand 87 = .ok (.dup, 1) := by decide +kernel
theorem dX11_errand_88 : decode cX11_errand 88 = .ok (.getfield 248, 3) := by decide +kernel
theorem dX11_errand_91 : decode cX11_errand 91 = .ok (.iconst 1, 1) := by decide +kernel
theorem dX11_errand_92 : decode cX11_errand 92 = .ok (.iadd, 1) := by decide +kernel
theorem dX11_errand_93 : decode cX11_errand 93 = .ok (.putfield 248, 3) := by decide +kernel
theorem dX11_errand_96 : decode cX11_errand 96 = .ok (.aload_n 0, 1) := by decide +kernel
theorem dX11_errand_97 : decode cX11_errand 97 = .ok (.getfield 42, 3) := by decide +kernel
theorem dX11_errand_100 : decode cX11_errand 100 = .ok (.getfield 248, 3) := by decide +kernel
theorem dX11_errand_103 : decode cX11_errand 103 = .ok (.ireturn, 1) := by decide +kernel
set_option maxRecDepth 20000 in
theorem ggX11_ways_X5_hasTown : GoodIn wsX11_ways wsX5_hasTown := goodIn_r _ [7, 8, 9, 81, 82, 83, 84, 85, 86, 87, 88, 89, 90, 91, 92, 93, 94, 95, 96, 97, 98, 99, 100, 101, 102, 103, 104, 105, 106] (by decide +kernel) (by decide +kernel)
set_option maxRecDepth 20000 in
theorem gX11_ways_X5_hasTown : GoodIn wsX11_ways (wsV RX11 158 RX5 yX5_hasTown wsX5_hasTown) := goodIn_app (goodIn_of _ (by decide +kernel)) ggX11_ways_X5_hasTown
set_option maxRecDepth 20000 in
theorem ggX11_ways_X11_isWeekday : GoodIn wsX11_ways wsX11_isWeekday := goodIn_r _ [13] (by decide +kernel) (by decide +kernel)
set_option maxRecDepth 20000 in
theorem gX11_ways_X11_isWeekday : GoodIn wsX11_ways (va_wsS RX11 155 yX11_isWeekday wsX11_isWeekday) := goodIn_app (goodIn_of _ (by decide +kernel)) ggX11_ways_X11_isWeekday
set_option maxRecDepth 20000 in
theorem ggX11_ways_X10_takeDay : GoodIn wsX11_ways wsX10_takeDay := goodIn_r _ [18, 19, 20, 21, 22, 23, 24, 25, 26, 27, 28, 107, 108, 109, 110, 111, 95, 96, 97, 98, 99, 100, 101, 102, 103, 104, 105, 106] (by decide +kernel) (by decide +kernel)
set_option maxRecDepth 20000 in
theorem gX11_ways_X10_takeDay : GoodIn wsX11_ways (wsV RX11 257 RX10 yX10_takeDay wsX10_takeDay) := goodIn_app (goodIn_of _ (by decide +kernel)) ggX11_ways_X10_takeDay
set_option maxRecDepth 20000 in
theorem ggX11_ways_X10_findClash : GoodIn wsX11_ways wsX10_findClash := goodIn_r _ [32, 19, 33, 34, 35, 36, 37, 17, 38, 39, 20, 40, 22, 41, 42, 43, 44, 45, 46, 47, 48, 49, 50, 51, 52, 53, 54, 55, 56, 57, 58, 59, 107, 108, 109, 110, 111, 81, 82, 83, 84, 85, 86, 87, 88, 89, 90, 91, 92, 93, 94, 95, 96, 97, 98, 99, 100, 101, 102, 103, 104, 105, 106] (by decide +kernel) (by decide +kernel)
set_option maxRecDepth 20000 in
theorem gX11_ways_X10_findClash : GoodIn wsX11_ways (wsV RX11 260 RX10 yX10_findClash wsX10_findClash) := goodIn_app (goodIn_of _ (by decide +kernel)) ggX11_ways_X10_findClash
set_option maxRecDepth 20000 in
theorem ggX11_ways_X10_findLeast : GoodIn wsX11_ways wsX10_findLeast := goodIn_r _ [63, 19, 64, 65, 66, 17, 67, 33, 34, 35, 36, 37, 38, 39, 20, 40, 22, 41, 42, 43, 44, 45, 46, 47, 48, 49, 50, 51, 107, 108, 109, 110, 111, 81, 82, 83, 84, 85, 86, 87, 88, 89, 90, 91, 92, 93, 94, 95, 96, 97, 98, 99, 100, 101, 102, 103, 104, 105, 106] (by decide +kernel) (by decide +kernel)
set_option maxRecDepth 20000 in
theorem gX11_ways_X10_findLeast : GoodIn wsX11_ways (wsV RX11 264 RX10 yX10_findLeast wsX10_findLeast) := goodIn_app (goodIn_of _ (by decide +kernel)) ggX11_ways_X10_findLeast
theorem dX11_ways_0 : decode cX11_ways 0 = .ok (.aload_n 0, 1) := by decide +kernel
theorem dX11_ways_1 : decode cX11_ways 1 = .ok (.getfield 42, 3) := by decide +kernel
theorem dX11_ways_4 : decode cX11_ways 4 = .ok (.invokevirtual 158, 3) := by decide +kernel
theorem dX11_ways_7 : decode cX11_ways 7 = .ok (.ifCond .eq 19, 3) := by decide +kernel
theorem dX11_ways_10 : decode cX11_ways 10 = .ok (.iload_n 1, 1) := by decide +kernel
theorem dX11_ways_11 : decode cX11_ways 11 = .ok (.invokestatic 155, 3) := by decide +kernel
theorem dX11_ways_14 : decode cX11_ways 14 = .ok (.ifCond .eq 12, 3) := by decide +kernel
theorem dX11_ways_17 : decode cX11_ways 17 = .ok (.iload_n 2, 1) := by decide +kernel
theorem dX11_ways_18 : decode cX11_ways 18 = .ok (.ifCond .lt 8, 3) := by decide +kernel
theorem dX11_ways_21 : decode cX11_ways 21 = .ok (.iload_n 2, 1) := by decide +kernel
theorem dX11_ways_22 : decode cX11_ways 22 = .ok (.iconst 1, 1) := by decide +kernel
theorem dX11_ways_23 : decode cX11_ways 23 = .ok (.if_icmp .le 5, 3) := by decide +kernel
theorem dX11_ways_26 : decode cX11_ways 26 = .ok (.iconst (-1), 1) := by decide +kernel
theorem dX11_ways_27 : decode cX11_ways 27 = .ok (.ireturn, 1) := by decide +kernel
theorem dX11_ways_28 : decode cX11_ways 28 = .ok (.aload_n 0, 1) := by decide +kernel
theorem dX11_ways_29 : decode cX11_ways 29 = .ok (.getfield 91, 3) := by decide +kernel
theorem dX11_ways_32 : decode cX11_ways 32 = .ok (.iload_n 1, 1) := by decide +kernel
theorem dX11_ways_33 : decode cX11_ways 33 = .ok (.invokevirtual 257, 3) := by decide +kernel
theorem dX11_ways_36 : decode cX11_ways 36 = .ok (.aload_n 0, 1) := by decide +kernel
theorem dX11_ways_37 : decode cX11_ways 37 = .ok (.getfield 91, 3) := by decide +kernel
theorem dX11_ways_40 : decode cX11_ways 40 = .ok (.invokevirtual 260, 3) := by decide +kernel
theorem dX11_ways_43 : decode cX11_ways 43 = .ok (.istore_n 3, 1) := by decide +kernel
theorem dX11_ways_44 : decode cX11_ways 44 = .ok (.iload_n 2, 1) := by decide +kernel
theorem dX11_ways_45 : decode cX11_ways 45 = .ok (.iconst 1, 1) := by decide +kernel
theorem dX11_ways_46 : decode cX11_ways 46 = .ok (.if_icmp .ne 5, 3) := by decide +kernel
theorem dX11_ways_49 : decode cX11_ways 49 = .ok (.iload_n 3, 1) := by decide +kernel
theorem dX11_ways_50 : decode cX11_ways 50 = .ok (.ireturn, 1) := by decide +kernel
theorem dX11_ways_51 : decode cX11_ways 51 = .ok (.iload_n 3, 1) := by decide +kernel
theorem dX11_ways_52 : decode cX11_ways 52 = .ok (.ifCond .eq 8, 3) := by decide +kernel
theorem dX11_ways_55 : decode cX11_ways 55 = .ok (.bipush (-2), 2) := by decide +kernel
theorem dX11_ways_57 : decode cX11_ways 57 = .ok (.goto 10, 3) := by decide +kernel
theorem dX11_ways_60 : decode cX11_ways 60 = .ok (.aload_n 0, 1) := by decide +kernel
theorem dX11_ways_61 : decode cX11_ways 61 = .ok (.getfield 91, 3) := by decide +kernel
theorem dX11_ways_64 : decode cX11_ways 64 = .ok (.invokevirtual 264, 3) := by decide +kernel
theorem dX11_ways_67 : decode cX11_ways 67 = .ok (.ireturn, 1) := by decide +kernel
set_option maxRecDepth 20000 in
theorem ggX11_sight_X7_hasStreet : GoodIn wsX11_sight wsX7_hasStreet := goodIn_r _ [10, 11, 43, 44, 45, 46, 47, 48, 49, 50, 51, 52, 53, 54] (by decide +kernel) (by decide +kernel)
set_option maxRecDepth 20000 in
theorem gX11_sight_X7_hasStreet : GoodIn wsX11_sight (wsV RX11 133 RX7 yX7_hasStreet wsX7_hasStreet) := goodIn_app (goodIn_of _ (by decide +kernel)) ggX11_sight_X7_hasStreet
set_option maxRecDepth 20000 in
theorem ggX11_sight_X11_isSign : GoodIn wsX11_sight wsX11_isSign := goodIn_r _ [15] (by decide +kernel) (by decide +kernel)
set_option maxRecDepth 20000 in
theorem gX11_sight_X11_isSign : GoodIn wsX11_sight (va_wsS RX11 173 yX11_isSign wsX11_isSign) := goodIn_app (goodIn_of _ (by decide +kernel)) ggX11_sight_X11_isSign
theorem dX11_sight_0 : decode cX11_sight 0 = .ok (.iload_n 1, 1) := by decide +kernel
theorem dX11_sight_1 : decode cX11_sight 1 = .ok (.iconst (-1), 1) := by decide +kernel
theorem dX11_sight_2 : decode cX11_sight 2 = .ok (.if_icmp .ne 13, 3) := by decide +kernel
theorem dX11_sight_5 : decode cX11_sight 5 = .ok (.aload_n 0, 1) := by decide +kernel
theorem dX11_sight_6 : decode cX11_sight 6 = .ok (.getfield 42, 3) := by decide +kernel
theorem dX11_sight_9 : decode cX11_sight 9 = .ok (.iconst 0, 1) := by decide +kernel
theorem dX11_sight_10 : decode cX11_sight 10 = .ok (.putfield 267, 3) := by decide +kernel
theorem dX11_sight_13 : decode cX11_sight 13 = .ok (.iconst 0, 1) := by decide +kernel
theorem dX11_sight_14 : decode cX11_sight 14 = .ok (.ireturn, 1) := by decide +kernel
theorem dX11_sight_15 : decode cX11_sight 15 = .ok (.aload_n 0, 1) := by decide +kernel
theorem dX11_sight_16 : decode cX11_sight 16 = .ok (.getfield 42, 3) := by decide +kernel
theorem dX11_sight_19 : decode cX11_sight 19 = .ok (.getfield 120, 3) := by decide +kernel
theorem dX11_sight_22 : decode cX11_sight 22 = .ok (.iload_n 1, 1) := by decide +kernel
theorem dX11_sight_23 : decode cX11_sight 23 = .ok (.invokevirtual 133, 3) := by decide +kernel
theorem dX11_sight_26 : decode cX11_sight 26 = .ok (.ifCond .eq 22, 3) := by decide +kernel
theorem dX11_sight_29 : decode cX11_sight 29 = .ok (.iload_n 2, 1) := by decide +kernel
theorem dX11_sight_30 : decode cX11_sight 30 = .ok (.invokestatic 173, 3) := by decide +kernel
theorem dX11_sight_33 : decode cX11_sight 33 = .ok (.ifCond .eq 15, 3) := by decide +kernel
theorem dX11_sight_36 : decode cX11_sight 36 = .ok (.aload_n 0, 1) := by decide +kernel
theorem dX11_sight_37 : decode cX11_sight 37 = .ok (.getfield 42, 3) := by decide +kernel
theorem dX11_sight_40 : decode cX11_sight 40 = .ok (.getfield 267, 3) := by decide +kernel
theorem dX11_sight_43 : decode cX11_sight 43 = .ok (.bipush 12, 2) := by decide +kernel
theorem dX11_sight_45 : decode cX11_sight 45 = .ok (.if_icmp .lt 6, 3) := by decide +kernel
theorem dX11_sight_48 : decode cX11_sight 48 = .ok (.bipush (-2), 2) := by decide +kernel
theorem dX11_sight_50 : decode cX11_sight 50 = .ok (.ireturn, 1) := by decide +kernel
theorem dX11_sight_51 : decode cX11_sight 51 = .ok (.aload_n 0, 1) := by decide +kernel
theorem dX11_sight_52 : decode cX11_sight 52 = .ok (.getfield 42, 3) := by decide +kernel
theorem dX11_sight_55 : decode cX11_sight 55 = .ok (.getfield 270, 3) := by decide +kernel
theorem dX11_sight_58 : decode cX11_sight 58 = .ok (.aload_n 0, 1) := by decide +kernel
theorem dX11_sight_59 : decode cX11_sight 59 = .ok (.getfield 42, 3) := by decide +kernel
theorem dX11_sight_62 : decode cX11_sight 62 = .ok (.getfield 267, 3) := by decide +kernel
theorem dX11_sight_65 : decode cX11_sight 65 = .ok (.iload_n 1, 1) := by decide +kernel
theorem dX11_sight_66 : decode cX11_sight 66 = .ok (.iastore, 1) := by decide +kernel
theorem dX11_sight_67 : decode cX11_sight 67 = .ok (.aload_n 0, 1) := by decide +kernel
theorem dX11_sight_68 : decode cX11_sight 68 = .ok (.getfield 42, 3) := by decide +kernel
theorem dX11_sight_71 : decode cX11_sight 71 = .ok (.getfield 273, 3) := by decide +kernel
theorem dX11_sight_74 : decode cX11_sight 74 = .ok (.aload_n 0, 1) := by decide +kernel
theorem dX11_sight_75 : decode cX11_sight 75 = .ok (.getfield 42, 3) := by decide +kernel
theorem dX11_sight_78 : decode cX11_sight 78 = .ok (.getfield 267, 3) := by decide +kernel
theorem dX11_sight_81 : decode cX11_sight 81 = .ok (.iload_n 2, 1) := by decide +kernel
theorem dX11_sight_82 : decode cX11_sight 82 = .ok (.iastore, 1) := by decide +kernel
theorem dX11_sight_83 : decode cX11_sight 83 = .ok (.aload_n 0, 1) := by decide +kernel
theorem dX11_sight_84 : decode cX11_sight 84 = .ok (.getfield 42, 3) := by decide +kernel
theorem dX11_sight_87 : decode cX11_sight 87 = .ok (.dup, 1) := by decide +kernel
theorem dX11_sight_88 : decode cX11_sight 88 = .ok (.getfield 267, 3) := by decide +kernel
theorem dX11_sight_91 : decode cX11_sight 91 = .ok (.iconst 1, 1) := by decide +kernel
theorem dX11_sight_92 : decode cX11_sight 92 = .ok (.iadd, 1) := by decide +kernel
theorem dX11_sight_93 : decode cX11_sight 93 = .ok (.putfield 267, 3) := by decide +kernel
theorem dX11_sight_96 : decode cX11_sight 96 = .ok (.aload_n 0, 1) := by decide +kernel
theorem dX11_sight_97 : decode cX11_sight 97 = .ok (.getfield 42, 3) := by decide +kernel
theorem dX11_sight_100 : decode cX11_sight 100 = .ok (.getfield 267, 3) := by decide +kernel
theorem dX11_sight_103 : decode cX11_sight 103 = .ok (.ireturn, 1) := by decide +kernel
set_option maxRecDepth 20000 in
theorem ggX11_weekdays_X5_hasTown : GoodIn wsX11_weekdays wsX5_hasTown := goodIn_r _ [6, 7, 8, 52, 53, 54, 55, 56, 57, 58, 59, 60, 61, 62, 63, 64, 65, 66, 67, 68, 69, 70, 71, 72, 73, 74, 75, 76, 77] (by decide +kernel) (by decide +kernel)
set_option maxRecDepth 20000 in
theorem gX11_weekdays_X5_hasTown : GoodIn wsX11_weekdays (wsV RX11 158 RX5 yX5_hasTown wsX5_hasTown) := goodIn_app (goodIn_of _ (by decide +kernel)) ggX11_weekdays_X5_hasTown
set_option maxRecDepth 20000 in
theorem ggX11_weekdays_X5_fittingDays : GoodIn wsX11_weekdays wsX5_fittingDays := goodIn_r _ [12, 13, 14, 15, 5, 16, 17, 7, 18, 19, 20, 21, 22, 23, 24, 25, 52, 53, 54, 55, 56, 57, 58, 59, 60, 61, 62, 63, 64, 65, 66, 67, 68, 69, 70, 71, 72, 73, 74, 75, 76, 77] (by decide +kernel) (by decide +kernel)
set_option maxRecDepth 20000 in
theorem gX11_weekdays_X5_fittingDays : GoodIn wsX11_weekdays (wsV RX11 276 RX5 yX5_fittingDays wsX5_fittingDays) := goodIn_app (goodIn_of _ (by decide +kernel)) ggX11_weekdays_X5_fittingDays
set_option maxRecDepth 20000 in
theorem ggX11_weekdays_X5_streetToLookAt : GoodIn wsX11_weekdays wsX5_streetToLookAt := goodIn_r _ [29, 7, 30, 31, 32, 33, 5, 34, 35, 36, 37, 38, 20, 21, 22, 23, 24, 25, 52, 53, 54, 55, 56, 57, 58, 59, 60, 61, 62, 63, 64, 65, 66, 67, 68, 69, 70, 71, 72, 73, 74, 75, 76, 77] (by decide +kernel) (by decide +kernel)
set_option maxRecDepth 20000 in
theorem gX11_weekdays_X5_streetToLookAt : GoodIn wsX11_weekdays (wsV RX11 279 RX5 yX5_streetToLookAt wsX5_streetToLookAt) := goodIn_app (goodIn_of _ (by decide +kernel)) ggX11_weekdays_X5_streetToLookAt
theorem dX11_weekdays_0 : decode cX11_weekdays 0 = .ok (.aload_n 0, 1) := by decide +kernel
theorem dX11_weekdays_1 : decode cX11_weekdays 1 = .ok (.getfield 42, 3) := by decide +kernel
theorem dX11_weekdays_4 : decode cX11_weekdays 4 = .ok (.invokevirtual 158, 3) := by decide +kernel
theorem dX11_weekdays_7 : decode cX11_weekdays 7 = .ok (.ifCond .eq 12, 3) := by decide +kernel
theorem dX11_weekdays_10 : decode cX11_weekdays 10 = .ok (.iload_n 1, 1) := by decide +kernel
theorem dX11_weekdays_11 : decode cX11_weekdays 11 = .ok (.ifCond .lt 8, 3) := by decide +kernel
theorem dX11_weekdays_14 : decode cX11_weekdays 14 = .ok (.iload_n 1, 1) := by decide +kernel
theorem dX11_weekdays_15 : decode cX11_weekdays 15 = .ok (.iconst 1, 1) := by decide +kernel
theorem dX11_weekdays_16 : decode cX11_weekdays 16 = .ok (.if_icmp .le 5, 3) := by decide +kernel
theorem dX11_weekdays_19 : decode cX11_weekdays 19 = .ok (.iconst (-1), 1) := by decide +kernel
theorem dX11_weekdays_20 : decode cX11_weekdays 20 = .ok (.ireturn, 1) := by decide +kernel
theorem dX11_weekdays_21 : decode cX11_weekdays 21 = .ok (.aload_n 0, 1) := by decide +kernel
theorem dX11_weekdays_22 : decode cX11_weekdays 22 = .ok (.getfield 42, 3) := by decide +kernel
theorem dX11_weekdays_25 : decode cX11_weekdays 25 = .ok (.invokevirtual 276, 3) := by decide +kernel
theorem dX11_weekdays_28 : decode cX11_weekdays 28 = .ok (.istore_n 2, 1) := by decide +kernel
theorem dX11_weekdays_29 : decode cX11_weekdays 29 = .ok (.iload_n 1, 1) := by decide +kernel
theorem dX11_weekdays_30 : decode cX11_weekdays 30 = .ok (.ifCond .ne 5, 3) := by decide +kernel
theorem dX11_weekdays_33 : decode cX11_weekdays 33 = .ok (.iload_n 2, 1) := by decide +kernel
theorem dX11_weekdays_34 : decode cX11_weekdays 34 = .ok (.ireturn, 1) := by decide +kernel
theorem dX11_weekdays_35 : decode cX11_weekdays 35 = .ok (.iload_n 2, 1) := by decide +kernel
theorem dX11_weekdays_36 : decode cX11_weekdays 36 = .ok (.ifCond .ne 8, 3) := by decide +kernel
theorem dX11_weekdays_39 : decode cX11_weekdays 39 = .ok (.bipush (-2), 2) := by decide +kernel
theorem dX11_weekdays_41 : decode cX11_weekdays 41 = .ok (.goto 11, 3) := by decide +kernel
theorem dX11_weekdays_44 : decode cX11_weekdays 44 = .ok (.aload_n 0, 1) := by decide +kernel
theorem dX11_weekdays_45 : decode cX11_weekdays 45 = .ok (.getfield 42, 3) := by decide +kernel
theorem dX11_weekdays_48 : decode cX11_weekdays 48 = .ok (.iload_n 2, 1) := by decide +kernel
theorem dX11_weekdays_49 : decode cX11_weekdays 49 = .ok (.invokevirtual 279, 3) := by decide +kernel
theorem dX11_weekdays_52 : decode cX11_weekdays 52 = .ok (.ireturn, 1) := by decide +kernel
set_option maxRecDepth 20000 in
theorem ggX11_came_X11_hasCorner : GoodIn wsX11_came wsX11_hasCorner := goodIn_r _ [8, 1, 9, 10, 11, 12, 13, 14, 15, 16, 17, 18, 19, 20, 21, 22, 23, 24, 25, 26, 27, 28, 29, 30, 31, 32, 33, 34, 35, 36, 37, 38, 39, 40, 41, 42, 43, 44, 45, 46, 47, 48, 49] (by decide +kernel) (by decide +kernel)
set_option maxRecDepth 20000 in
theorem gX11_came_X11_hasCorner : GoodIn wsX11_came (wsV RX11 176 RX11 yX11_hasCorner wsX11_hasCorner) := goodIn_app (goodIn_of _ (by decide +kernel)) ggX11_came_X11_hasCorner
theorem dX11_came_0 : decode cX11_came 0 = .ok (.iload_n 1, 1) := by decide +kernel
theorem dX11_came_1 : decode cX11_came 1 = .ok (.iconst (-1), 1) := by decide +kernel
theorem dX11_came_2 : decode cX11_came 2 = .ok (.if_icmp .ne 13, 3) := by decide +kernel
theorem dX11_came_5 : decode cX11_came 5 = .ok (.aload_n 0, 1) := by decide +kernel
theorem dX11_came_6 : decode cX11_came 6 = .ok (.getfield 42, 3) := by decide +kernel
theorem dX11_came_9 : decode cX11_came 9 = .ok (.iconst 0, 1) := by decide +kernel
theorem dX11_came_10 : decode cX11_came 10 = .ok (.putfield 282, 3) := by decide +kernel
theorem dX11_came_13 : decode cX11_came 13 = .ok (.iconst 0, 1) := by decide +kernel
theorem dX11_came_14 : decode cX11_came 14 = .ok (.ireturn, 1) := by decide +kernel
theorem dX11_came_15 : decode cX11_came 15 = .ok (.aload_n 0, 1) := by decide +kernel
theorem dX11_came_16 : decode cX11_came 16 = .ok (.iload_n 1, 1) := by decide +kernel
theorem dX11_came_17 : decode cX11_came 17 = .ok (.invokevirtual 176, 3) := by decide +kernel
theorem dX11_came_20 : decode cX11_came 20 = .ok (.ifCond .eq 15, 3) := by decide +kernel
theorem dX11_came_23 : decode cX11_came 23 = .ok (.aload_n 0, 1) := by decide +kernel
theorem dX11_came_24 : decode cX11_came 24 = .ok (.getfield 42, 3) := by decide +kernel
theorem dX11_came_27 : decode cX11_came 27 = .ok (.getfield 282, 3) := by decide +kernel
theorem dX11_came_30 : decode cX11_came 30 = .ok (.bipush 8, 2) := by decide +kernel
theorem dX11_came_32 : decode cX11_came 32 = .ok (.if_icmp .lt 6, 3) := by decide +kernel
theorem dX11_came_35 : decode cX11_came 35 = .ok (.bipush (-2), 2) := by decide +kernel
theorem dX11_came_37 : decode cX11_came 37 = .ok (.ireturn, 1) := by decide +kernel
theorem dX11_came_38 : decode cX11_came 38 = .ok (.aload_n 0, 1) := by decide +kernel
theorem dX11_came_39 : decode cX11_came 39 = .ok (.getfield 42, 3) := by decide +kernel
theorem dX11_came_42 : decode cX11_came 42 = .ok (.getfield 285, 3) := by decide +kernel
theorem dX11_came_45 : decode cX11_came 45 = .ok (.aload_n 0, 1) := by decide +kernel
theorem dX11_came_46 : decode cX11_came 46 = .ok (.getfield 42, 3) := by decide +kernel
theorem dX11_came_49 : decode cX11_came 49 = .ok (.getfield 282, 3) := by decide +kernel
theorem dX11_came_52 : decode cX11_came 52 = .ok (.iload_n 1, 1) := by decide +kernel
theorem dX11_came_53 : decode cX11_came 53 = .ok (.iastore, 1) := by decide +kernel
theorem dX11_came_54 : decode cX11_came 54 = .ok (.aload_n 0, 1) := by decide +kernel
theorem dX11_came_55 : decode cX11_came 55 = .ok (.getfield 42, 3) := by decide +kernel
theorem dX11_came_58 : decode cX11_came 58 = .ok (.dup, 1) := by decide +kernel
theorem dX11_came_59 : decode cX11_came 59 = .ok (.getfield 282, 3) := by decide +kernel
theorem dX11_came_62 : decode cX11_came 62 = .ok (.iconst 1, 1) := by decide +kernel
theorem dX11_came_63 : decode cX11_came 63 = .ok (.iadd, 1) := by decide +kernel
theorem dX11_came_64 : decode cX11_came 64 = .ok (.putfield 282, 3) := by decide +kernel
theorem dX11_came_67 : decode cX11_came 67 = .ok (.aload_n 0, 1) := by decide +kernel
theorem dX11_came_68 : decode cX11_came 68 = .ok (.getfield 42, 3) := by decide +kernel
theorem dX11_came_71 : decode cX11_came 71 = .ok (.getfield 282, 3) := by decide +kernel
theorem dX11_came_74 : decode cX11_came 74 = .ok (.ireturn, 1) := by decide +kernel
set_option maxRecDepth 20000 in
theorem ggX11_had_X11_hasWalker : GoodIn wsX11_had wsX11_hasWalker := goodIn_r _ [9, 3, 10, 244, 245, 246, 247, 248, 249, 250, 251, 252, 253, 254, 255, 256, 257, 258, 259, 260, 261, 262, 263, 264, 265, 266, 267, 268, 269, 270] (by decide +kernel) (by decide +kernel)
set_option maxRecDepth 20000 in
theorem gX11_had_X11_hasWalker : GoodIn wsX11_had (wsV RX11 205 RX11 yX11_hasWalker wsX11_hasWalker) := goodIn_app (goodIn_of _ (by decide +kernel)) ggX11_had_X11_hasWalker
set_option maxRecDepth 20000 in
theorem ggX11_had_X0_refreshAll : GoodIn wsX11_had wsX0_refreshAll := goodIn_r _ [15, 16, 17, 18, 19, 20, 14, 21, 22, 23, 24, 25, 26, 27, 28, 29, 30, 31, 32, 33, 34, 35, 36, 37, 38, 39, 40, 41, 42, 43, 44, 45, 46, 47, 48, 49, 50, 51, 52, 53, 54, 55, 56, 57, 58, 59, 60, 61, 62, 63, 64, 271, 272, 273, 274, 257, 258, 259, 260, 261, 262, 263, 264, 265, 266, 267, 268, 269, 270, 275, 276, 277, 278, 279, 280, 281, 282, 283, 284, 285, 286] (by decide +kernel) (by decide +kernel)
set_option maxRecDepth 20000 in
theorem gX11_had_X0_refreshAll : GoodIn wsX11_had (wsV RX11 212 RX0 yX0_refreshAll wsX0_refreshAll) := goodIn_app (goodIn_of _ (by decide +kernel)) ggX11_had_X0_refreshAll
set_option maxRecDepth 20000 in
theorem ggX11_had_X8_fittingMaps : GoodIn wsX11_had wsX8_fittingMaps := goodIn_r _ [69, 70, 71, 72, 73, 74, 75, 76, 77, 78, 79, 80, 81, 82, 83, 84, 85, 86, 87, 88, 89, 90, 91, 92, 93, 94, 95, 68, 96, 97, 98, 99, 100, 101, 102, 103, 104, 105, 106, 107, 108, 109, 110, 111, 112, 113, 114, 115, 116, 117, 118, 119, 120, 121, 122, 123, 124, 125, 126, 127, 128, 129, 130, 131, 132, 133, 134, 135, 136, 137, 138, 139, 140, 141, 142, 143, 144, 145, 146, 147, 148, 14, 149, 150, 151, 152, 153, 154, 29, 33, 34, 35, 155, 156, 157, 158, 159, 160, 161, 44, 162, 51, 163, 164, 165, 166, 167, 168, 169, 170, 171, 172, 173, 174, 175, 176, 177, 178, 179, 180, 181, 182, 27, 28, 183, 184, 185, 186, 187, 188, 189, 190, 191, 192, 193, 194, 195, 196, 197, 198, 199, 200, 201, 202, 203, 204, 205, 206, 207, 208, 209, 210, 211, 212, 213, 214, 215, 216, 217, 218, 219, 220, 221, 222, 223, 224, 225, 226, 227, 228, 229, 230, 231, 232, 233, 234, 235, 236, 237, 238, 239, 240, 241, 242, 243, 48, 49, 50, 287, 288, 289, 290, 291, 292, 293, 294, 257, 258, 259, 260, 261, 262, 263, 264, 265, 266, 267, 268, 269, 270, 295, 296, 297, 298, 299, 300, 301, 302, 303, 304, 305, 306, 307, 308, 309, 310, 311, 312, 313, 314, 315, 316, 317, 318, 319, 275, 276, 277, 278, 279, 280, 281, 282, 283, 284, 285, 286, 271, 272, 273, 274] (by decide +kernel) (by decide +kernel)
set_option maxRecDepth 20000 in
theorem gX11_had_X8_fittingMaps : GoodIn wsX11_had (wsV RX11 288 RX8 yX8_fittingMaps wsX8_fittingMaps) := goodIn_app (goodIn_of _ (by decide +kernel)) ggX11_had_X8_fittingMaps
theorem dX11_had_0 : decode cX11_had 0 = .ok (.aload_n 0, 1) := by decide +kernel
theorem dX11_had_1 : decode cX11_had 1 = .ok (.iload_n 1, 1) := by decide +kernel
theorem dX11_had_2 : decode cX11_had 2 = .ok (.invokevirtual 205, 3) := by decide +kernel
theorem dX11_had_5 : decode cX11_had 5 = .ok (.ifCond .ne 5, 3) := by decide +kernel
theorem dX11_had_8 : decode cX11_had 8 = .ok (.iconst (-1), 1) := by decide +kernel
theorem dX11_had_9 : decode cX11_had 9 = .ok (.ireturn, 1) := by decide +kernel
theorem dX11_had_10 : decode cX11_had 10 = .ok (.aload_n 0, 1) := by decide +kernel
theorem dX11_had_11 : decode cX11_had 11 = .ok (.getfield 59, 3) := by decide +kernel
theorem dX11_had_14 : decode cX11_had 14 = .ok (.invokevirtual 212, 3) := by decide +kernel
theorem dX11_had_17 : decode cX11_had 17 = .ok (.aload_n 0, 1) := by decide +kernel
theorem dX11_had_18 : decode cX11_had 18 = .ok (.getfield 77, 3) := by decide +kernel
theorem dX11_had_21 : decode cX11_had 21 = .ok (.aload_n 0, 1) := by decide +kernel
theorem dX11_had_22 : decode cX11_had 22 = .ok (.getfield 42, 3) := by decide +kernel
theorem dX11_had_25 : decode cX11_had 25 = .ok (.getfield 195, 3) := by decide +kernel
theorem dX11_had_28 : decode cX11_had 28 = .ok (.iload_n 1, 1) := by decide +kernel
theorem dX11_had_29 : decode cX11_had 29 = .ok (.aaload, 1) := by decide +kernel
theorem dX11_had_30 : decode cX11_had 30 = .ok (.invokevirtual 288, 3) := by decide +kernel
theorem dX11_had_33 : decode cX11_had 33 = .ok (.ireturn, 1) := by decide +kernel
set_option maxRecDepth 20000 in
theorem ggX11_built_X5_hasTown : GoodIn wsX11_built wsX5_hasTown := goodIn_r _ [7, 8, 9, 114, 115, 116, 117, 118, 119, 120, 121, 122, 123, 124, 125, 126, 127, 128, 129, 130, 131, 132, 133, 134, 135, 136, 137, 138, 139] (by decide +kernel) (by decide +kernel)
set_option maxRecDepth 20000 in
theorem gX11_built_X5_hasTown : GoodIn wsX11_built (wsV RX11 158 RX5 yX5_hasTown wsX5_hasTown) := goodIn_app (goodIn_of _ (by decide +kernel)) ggX11_built_X5_hasTown
set_option maxRecDepth 20000 in
theorem ggX11_built_X11_isAskedHour : GoodIn wsX11_built wsX11_isAskedHour := goodIn_r _ [13, 14] (by decide +kernel) (by decide +kernel)
set_option maxRecDepth 20000 in
theorem gX11_built_X11_isAskedHour : GoodIn wsX11_built (va_wsS RX11 222 yX11_isAskedHour wsX11_isAskedHour) := goodIn_app (goodIn_of _ (by decide +kernel)) ggX11_built_X11_isAskedHour
set_option maxRecDepth 20000 in
theorem ggX11_built_X4_tellBest : GoodIn wsX11_built wsX4_tellBest := goodIn_r _ [19, 20, 21, 22, 23, 24, 25, 26, 27, 28, 29, 30, 31, 32, 33, 34, 35, 36, 37, 38, 39, 40, 41, 42, 43, 44, 45, 46, 47, 48, 49, 50, 51, 52, 53, 54, 18, 55, 56, 57, 58, 59, 60, 61, 62, 63, 64, 65, 66, 67, 68, 69, 70, 71, 72, 73, 74, 75, 76, 77, 78, 79, 80, 81, 82, 83, 84, 85, 86, 87, 88, 89, 90, 91, 92, 93, 94, 95, 96, 97, 98, 99, 100, 140, 141, 142, 143, 128, 129, 130, 131, 132, 133, 134, 135, 136, 137, 138, 139, 114, 115, 116, 117, 118, 119, 120, 121, 122, 123, 124, 125, 126, 127] (by decide +kernel) (by decide +kernel)
set_option maxRecDepth 20000 in
theorem gX11_built_X4_tellBest : GoodIn wsX11_built (wsV RX11 292 RX4 yX4_tellBest wsX4_tellBest) := goodIn_app (goodIn_of _ (by decide +kernel)) ggX11_built_X4_tellBest
theorem dX11_built_0 : decode cX11_built 0 = .ok (.aload_n 0, 1) := by decide +kernel
theorem dX11_built_1 : decode cX11_built 1 = .ok (.getfield 42, 3) := by decide +kernel
theorem dX11_built_4 : decode cX11_built 4 = .ok (.invokevirtual 158, 3) := by decide +kernel
theorem dX11_built_7 : decode cX11_built 7 = .ok (.ifCond .eq 21, 3) := by decide +kernel
theorem dX11_built_10 : decode cX11_built 10 = .ok (.iload_n 1, 1) := by decide +kernel
theorem dX11_built_11 : decode cX11_built 11 = .ok (.iconst 1, 1) := by decide +kernel
theorem dX11_built_12 : decode cX11_built 12 = .ok (.if_icmp .lt 16, 3) := by decide +kernel
theorem dX11_built_15 : decode cX11_built 15 = .ok (.iload_n 1, 1) := by decide +kernel
theorem dX11_built_16 : decode cX11_built 16 = .ok (.bipush 9, 2) := by decide +kernel
theorem dX11_built_18 : decode cX11_built 18 = .ok (.if_icmp .gt 10, 3) := by decide +kernel
theorem dX11_built_21 : decode cX11_built 21 = .ok (.iload_n 2, 1) := by decide +kernel
theorem dX11_built_22 : decode cX11_built 22 = .ok (.invokestatic 222, 3) := by decide +kernel
theorem dX11_built_25 : decode cX11_built 25 = .ok (.ifCond .ne 5, 3) := by decide +kernel
theorem dX11_built_28 : decode cX11_built 28 = .ok (.iconst (-1), 1) := by decide +kernel
theorem dX11_built_29 : decode cX11_built 29 = .ok (.ireturn, 1) := by decide +kernel
theorem dX11_built_30 : decode cX11_built 30 = .ok (.iload_n 3, 1) := by decide +kernel
theorem dX11_built_31 : decode cX11_built 31 = .ok (.ifCond .lt 8, 3) := by decide +kernel
theorem dX11_built_34 : decode cX11_built 34 = .ok (.iload_n 3, 1) := by decide +kernel
theorem dX11_built_35 : decode cX11_built 35 = .ok (.iconst 2, 1) := by decide +kernel
theorem dX11_built_36 : decode cX11_built 36 = .ok (.if_icmp .le 7, 3) := by decide +kernel
theorem dX11_built_39 : decode cX11_built 39 = .ok (.iconst (-1), 1) := by decide +kernel
theorem dX11_built_40 : decode cX11_built 40 = .ok (.goto 13, 3) := by decide +kernel
theorem dX11_built_43 : decode cX11_built 43 = .ok (.aload_n 0, 1) := by decide +kernel
theorem dX11_built_44 : decode cX11_built 44 = .ok (.getfield 84, 3) := by decide +kernel
theorem dX11_built_47 : decode cX11_built 47 = .ok (.iload_n 1, 1) := by decide +kernel
theorem dX11_built_48 : decode cX11_built 48 = .ok (.iload_n 2, 1) := by decide +kernel
theorem dX11_built_49 : decode cX11_built 49 = .ok (.iload_n 3, 1) := by decide +kernel
theorem dX11_built_50 : decode cX11_built 50 = .ok (.invokevirtual 292, 3) := by decide +kernel
theorem dX11_built_53 : decode cX11_built 53 = .ok (.ireturn, 1) := by decide +kernel
theorem dX11_seed_0 : decode cX11_seed 0 = .ok (.iload_n 1, 1) := by decide +kernel
theorem dX11_seed_1 : decode cX11_seed 1 = .ok (.ifCond .ge 5, 3) := by decide +kernel
theorem dX11_seed_4 : decode cX11_seed 4 = .ok (.iconst (-1), 1) := by decide +kernel
theorem dX11_seed_5 : decode cX11_seed 5 = .ok (.ireturn, 1) := by decide +kernel
theorem dX11_seed_6 : decode cX11_seed 6 = .ok (.aload_n 0, 1) := by decide +kernel
theorem dX11_seed_7 : decode cX11_seed 7 = .ok (.getfield 42, 3) := by decide +kernel
theorem dX11_seed_10 : decode cX11_seed 10 = .ok (.getfield 295, 3) := by decide +kernel
theorem dX11_seed_13 : decode cX11_seed 13 = .ok (.istore_n 2, 1) := by decide +kernel
theorem dX11_seed_14 : decode cX11_seed 14 = .ok (.aload_n 0, 1) := by decide +kernel
theorem dX11_seed_15 : decode cX11_seed 15 = .ok (.getfield 42, 3) := by decide +kernel
theorem dX11_seed_18 : decode cX11_seed 18 = .ok (.iload_n 1, 1) := by decide +kernel
theorem dX11_seed_19 : decode cX11_seed 19 = .ok (.putfield 295, 3) := by decide +kernel
theorem dX11_seed_22 : decode cX11_seed 22 = .ok (.iload_n 2, 1) := by decide +kernel
theorem dX11_seed_23 : decode cX11_seed 23 = .ok (.ireturn, 1) := by decide +kernel
set_option maxRecDepth 20000 in
theorem ggX11_strangers_X11_hasRuleOrNone : GoodIn wsX11_strangers wsX11_hasRuleOrNone := goodIn_r _ [9, 10, 249, 250, 251, 252, 253, 254, 255, 256, 257, 258, 259, 260, 261] (by decide +kernel) (by decide +kernel)
set_option maxRecDepth 20000 in
theorem gX11_strangers_X11_hasRuleOrNone : GoodIn wsX11_strangers (wsV RX11 189 RX11 yX11_hasRuleOrNone wsX11_hasRuleOrNone) := goodIn_app (goodIn_of _ (by decide +kernel)) ggX11_strangers_X11_hasRuleOrNone
set_option maxRecDepth 20000 in
theorem ggX11_strangers_X0_refreshAll : GoodIn wsX11_strangers wsX0_refreshAll := goodIn_r _ [15, 16, 17, 18, 19, 20, 14, 21, 22, 23, 24, 25, 26, 27, 28, 29, 30, 31, 32, 33, 34, 35, 36, 37, 38, 39, 40, 41, 42, 43, 44, 45, 46, 47, 48, 49, 50, 51, 52, 53, 54, 55, 56, 57, 58, 59, 60, 61, 62, 63, 64, 276, 277, 278, 279, 262, 263, 264, 265, 266, 267, 268, 269, 270, 271, 272, 273, 274, 275, 280, 281, 282, 283, 284, 285, 286, 287, 288, 289, 290, 291] (by decide +kernel) (by decide +kernel)
set_option maxRecDepth 20000 in
theorem gX11_strangers_X0_refreshAll : GoodIn wsX11_strangers (wsV RX11 212 RX0 yX0_refreshAll wsX0_refreshAll) := goodIn_app (goodIn_of _ (by decide +kernel)) ggX11_strangers_X0_refreshAll
set_option maxRecDepth 20000 in
theorem ggX11_strangers_X8_tellStrangers : GoodIn wsX11_strangers wsX8_tellStrangers := goodIn_r _ [69, 70, 71, 72, 73, 74, 75, 76, 77, 78, 79, 80, 81, 68, 82, 83, 84, 85, 86, 87, 88, 89, 90, 91, 92, 93, 94, 95, 96, 97, 98, 99, 100, 101, 102, 103, 104, 105, 106, 107, 108, 109, 110, 111, 112, 113, 114, 115, 116, 117, 118, 119, 120, 121, 122, 123, 124, 125, 126, 127, 128, 129, 130, 131, 132, 133, 134, 135, 136, 137, 138, 139, 140, 141, 142, 143, 144, 145, 146, 147, 148, 149, 150, 151, 152, 14, 153, 154, 155, 156, 157, 158, 29, 33, 34, 35, 159, 160, 161, 162, 163, 164, 165, 44, 166, 51, 167, 168, 169, 170, 171, 172, 173, 174, 175, 176, 177, 178, 179, 180, 181, 182, 183, 184, 185, 186, 27, 28, 187, 188, 189, 190, 191, 192, 193, 194, 195, 196, 197, 198, 199, 200, 201, 202, 203, 204, 205, 206, 207, 208, 209, 210, 211, 212, 213, 214, 215, 216, 217, 218, 219, 220, 221, 222, 223, 224, 225, 226, 227, 228, 229, 230, 231, 232, 233, 234, 235, 236, 237, 238, 239, 240, 241, 242, 243, 244, 245, 246, 247, 48, 49, 50, 248, 292, 293, 294, 295, 296, 297, 298, 299, 262, 263, 264, 265, 266, 267, 268, 269, 270, 271, 272, 273, 274, 275, 280, 281, 282, 283, 284, 285, 286, 287, 288, 289, 290, 291, 300, 301, 302, 303, 304, 305, 306, 307, 308, 309, 310, 311, 312, 313, 314, 315, 316, 317, 318, 319, 320, 321, 322, 323, 324, 276, 277, 278, 279] (by decide +kernel) (by decide +kernel)
set_option maxRecDepth 20000 in
theorem gX11_strangers_X8_tellStrangers : GoodIn wsX11_strangers (wsV RX11 298 RX8 yX8_tellStrangers wsX8_tellStrangers) := goodIn_app (goodIn_of _ (by decide +kernel)) ggX11_strangers_X8_tellStrangers
theorem dX11_strangers_0 : decode cX11_strangers 0 = .ok (.aload_n 0, 1) := by decide +kernel
theorem dX11_strangers_1 : decode cX11_strangers 1 = .ok (.iload_n 1, 1) := by decide +kernel
theorem dX11_strangers_2 : decode cX11_strangers 2 = .ok (.invokevirtual 189, 3) := by decide +kernel
theorem dX11_strangers_5 : decode cX11_strangers 5 = .ok (.ifCond .eq 24, 3) := by decide +kernel
theorem dX11_strangers_8 : decode cX11_strangers 8 = .ok (.aload_n 0, 1) := by decide +kernel
theorem dX11_strangers_9 : decode cX11_strangers 9 = .ok (.getfield 42, 3) := by decide +kernel
theorem dX11_strangers_12 : decode cX11_strangers 12 = .ok (.getfield 161, 3) := by decide +kernel
theorem dX11_strangers_15 : decode cX11_strangers 15 = .ok (.ifCond .eq 14, 3) := by decide +kernel
theorem dX11_strangers_18 : decode cX11_strangers 18 = .ok (.iload_n 2, 1) := by decide +kernel
theorem dX11_strangers_19 : decode cX11_strangers 19 = .ok (.iconst 1, 1) := by decide +kernel
theorem dX11_strangers_20 : decode cX11_strangers 20 = .ok (.if_icmp .lt 9, 3) := by decide +kernel
theorem dX11_strangers_23 : decode cX11_strangers 23 = .ok (.iload_n 2, 1) := by decide +kernel
theorem dX11_strangers_24 : decode cX11_strangers 24 = .ok (.bipush 30, 2) := by decide +kernel
theorem dX11_strangers_26 : decode cX11_strangers 26 = .ok (.if_icmp .le 5, 3) := by decide +kernel
theorem dX11_strangers_29 : decode cX11_strangers 29 = .ok (.iconst (-1), 1) := by decide +kernel
theorem dX11_strangers_30 : decode cX11_strangers 30 = .ok (.ireturn, 1) := by decide +kernel
theorem dX11_strangers_31 : decode cX11_strangers 31 = .ok (.iload_n 3, 1) := by decide +kernel
theorem dX11_strangers_32 : decode cX11_strangers 32 = .ok (.iconst 1, 1) := by decide +kernel
theorem dX11_strangers_33 : decode cX11_strangers 33 = .ok (.if_icmp .lt 21, 3) := by decide +kernel
theorem dX11_strangers_36 : decode cX11_strangers 36 = .ok (.iload_n 3, 1) := by decide +kernel
theorem dX11_strangers_37 : decode cX11_strangers 37 = .ok (.sipush 200, 3) := by decide +kernel
theorem dX11_strangers_40 : decode cX11_strangers 40 = .ok (.if_icmp .gt 14, 3) := by decide +kernel
theorem dX11_strangers_43 : decode cX11_strangers 43 = .ok (.iload 4, 2) := by decide +kernel
theorem dX11_strangers_45 : decode cX11_strangers 45 = .ok (.ifCond .lt 9, 3) := by decide +kernel
theorem dX11_strangers_48 : decode cX11_strangers 48 = .ok (.iload 4, 2) := by decide +kernel
theorem dX11_strangers_50 : decode cX11_strangers 50 = .ok (.iconst 1, 1) := by decide +kernel
theorem dX11_strangers_51 : decode cX11_strangers 51 = .ok (.if_icmp .le 5, 3) := by decide +kernel
theorem dX11_strangers_54 : decode cX11_strangers 54 = .ok (.iconst (-1), 1) := by decide +kernel
theorem dX11_strangers_55 : decode cX11_strangers 55 = .ok (.ireturn, 1) := by decide +kernel
theorem dX11_strangers_56 : decode cX11_strangers 56 = .ok (.aload_n 0, 1) := by decide +kernel
theorem dX11_strangers_57 : decode cX11_strangers 57 = .ok (.getfield 59, 3) := by decide +kernel
theorem dX11_strangers_60 : decode cX11_strangers 60 = .ok (.invokevirtual 212, 3) := by decide +kernel
theorem dX11_strangers_63 : decode cX11_strangers 63 = .ok (.aload_n 0, 1) := by decide +kernel
theorem dX11_strangers_64 : decode cX11_strangers 64 = .ok (.getfield 77, 3) := by decide +kernel
theorem dX11_strangers_67 : decode cX11_strangers 67 = .ok (.iload_n 1, 1) := by decide +kernel
theorem dX11_strangers_68 : decode cX11_strangers 68 = .ok (.iload_n 2, 1) := by decide +kernel
theorem dX11_strangers_69 : decode cX11_strangers 69 = .ok (.iload_n 3, 1) := by decide +kernel
theorem dX11_strangers_70 : decode cX11_strangers 70 = .ok (.iload 4, 2) := by decide +kernel
theorem dX11_strangers_72 : decode cX11_strangers 72 = .ok (.invokevirtual 298, 3) := by decide +kernel
theorem dX11_strangers_75 : decode cX11_strangers 75 = .ok (.ireturn, 1) := by decide +kernel
theorem dX11_count_0 : decode cX11_count 0 = .ok (.iload_n 1, 1) := by decide +kernel
theorem dX11_count_1 : decode cX11_count 1 = .ok (.tableswitch 168 0 11 #[63, 74, 85, 96, 107, 112, 120, 128, 136, 144, 152, 160], 63) := by decide +kernel
theorem dX11_count_64 : decode cX11_count 64 = .ok (.aload_n 0, 1) := by decide +kernel
theorem dX11_count_65 : decode cX11_count 65 = .ok (.getfield 42, 3) := by decide +kernel
theorem dX11_count_68 : decode cX11_count 68 = .ok (.getfield 120, 3) := by decide +kernel
theorem dX11_count_71 : decode cX11_count 71 = .ok (.getfield 301, 3) := by decide +kernel
theorem dX11_count_74 : decode cX11_count 74 = .ok (.ireturn, 1) := by decide +kernel
theorem dX11_count_75 : decode cX11_count 75 = .ok (.aload_n 0, 1) := by decide +kernel
theorem dX11_count_76 : decode cX11_count 76 = .ok (.getfield 42, 3) := by decide +kernel
theorem dX11_count_79 : decode cX11_count 79 = .ok (.getfield 120, 3) := by decide +kernel
theorem dX11_count_82 : decode cX11_count 82 = .ok (.getfield 123, 3) := by decide +kernel
theorem dX11_count_85 : decode cX11_count 85 = .ok (.ireturn, 1) := by decide +kernel
theorem dX11_count_86 : decode cX11_count 86 = .ok (.aload_n 0, 1) := by decide +kernel
theorem dX11_count_87 : decode cX11_count 87 = .ok (.getfield 42, 3) := by decide +kernel
theorem dX11_count_90 : decode cX11_count 90 = .ok (.getfield 120, 3) := by decide +kernel
theorem dX11_count_93 : decode cX11_count 93 = .ok (.getfield 304, 3) := by decide +kernel
theorem dX11_count_96 : decode cX11_count 96 = .ok (.ireturn, 1) := by decide +kernel
theorem dX11_count_97 : decode cX11_count 97 = .ok (.aload_n 0, 1) := by decide +kernel
theorem dX11_count_98 : decode cX11_count 98 = .ok (.getfield 42, 3) := by decide +kernel
theorem dX11_count_101 : decode cX11_count 101 = .ok (.getfield 120, 3) := by decide +kernel
theorem dX11_count_104 : decode cX11_count 104 = .ok (.getfield 307, 3) := by decide +kernel
theorem dX11_count_107 : decode cX11_count 107 = .ok (.ireturn, 1) := by decide +kernel
theorem dX11_count_108 : decode cX11_count 108 = .ok (.aload_n 0, 1) := by decide +kernel
theorem dX11_count_109 : decode cX11_count 109 = .ok (.getfield 126, 3) := by decide +kernel
theorem dX11_count_112 : decode cX11_count 112 = .ok (.ireturn, 1) := by decide +kernel
theorem dX11_count_113 : decode cX11_count 113 = .ok (.aload_n 0, 1) := by decide +kernel
theorem dX11_count_114 : decode cX11_count 114 = .ok (.getfield 42, 3) := by decide +kernel
theorem dX11_count_117 : decode cX11_count 117 = .ok (.getfield 161, 3) := by decide +kernel
theorem dX11_count_120 : decode cX11_count 120 = .ok (.ireturn, 1) := by decide +kernel
theorem dX11_count_121 : decode cX11_count 121 = .ok (.aload_n 0, 1) := by decide +kernel
theorem dX11_count_122 : decode cX11_count 122 = .ok (.getfield 42, 3) := by decide +kernel
theorem dX11_count_125 : decode cX11_count 125 = .ok (.getfield 192, 3) := by decide +kernel
theorem dX11_count_128 : decode cX11_count 128 = .ok (.ireturn, 1) := by decide +kernel
theorem dX11_count_129 : decode cX11_count 129 = .ok (.aload_n 0, 1) := by decide +kernel
theorem dX11_count_130 : decode cX11_count 130 = .ok (.getfield 42, 3) := by decide +kernel
theorem dX11_count_133 : decode cX11_count 133 = .ok (.getfield 248, 3) := by decide +kernel
theorem dX11_count_136 : decode cX11_count 136 = .ok (.ireturn, 1) := by decide +kernel
theorem dX11_count_137 : decode cX11_count 137 = .ok (.aload_n 0, 1) := by decide +kernel
theorem dX11_count_138 : decode cX11_count 138 = .ok (.getfield 42, 3) := by decide +kernel
theorem dX11_count_141 : decode cX11_count 141 = .ok (.getfield 267, 3) := by decide +kernel
theorem dX11_count_144 : decode cX11_count 144 = .ok (.ireturn, 1) := by decide +kernel
theorem dX11_count_145 : decode cX11_count 145 = .ok (.aload_n 0, 1) := by decide +kernel
theorem dX11_count_146 : decode cX11_count 146 = .ok (.getfield 42, 3) := by decide +kernel
theorem dX11_count_149 : decode cX11_count 149 = .ok (.getfield 282, 3) := by decide +kernel
theorem dX11_count_152 : decode cX11_count 152 = .ok (.ireturn, 1) := by decide +kernel
theorem dX11_count_153 : decode cX11_count 153 = .ok (.aload_n 0, 1) := by decide +kernel
theorem dX11_count_154 : decode cX11_count 154 = .ok (.getfield 42, 3) := by decide +kernel
theorem dX11_count_157 : decode cX11_count 157 = .ok (.getfield 295, 3) := by decide +kernel
theorem dX11_count_160 : decode cX11_count 160 = .ok (.ireturn, 1) := by decide +kernel
theorem dX11_count_161 : decode cX11_count 161 = .ok (.aload_n 0, 1) := by decide +kernel
theorem dX11_count_162 : decode cX11_count 162 = .ok (.getfield 10, 3) := by decide +kernel
theorem dX11_count_165 : decode cX11_count 165 = .ok (.getfield 103, 3) := by decide +kernel
theorem dX11_count_168 : decode cX11_count 168 = .ok (.ireturn, 1) := by decide +kernel
theorem dX11_count_169 : decode cX11_count 169 = .ok (.iconst (-1), 1) := by decide +kernel
theorem dX11_count_170 : decode cX11_count 170 = .ok (.ireturn, 1) := by decide +kernel
set_option maxRecDepth 20000 in
theorem ggX11_image_X5_copyFrom : GoodIn wsX11_image wsX5_copyFrom := goodIn_r _ [9, 10, 11, 12, 13, 14, 15, 16, 17, 18, 19, 20, 21, 22, 23, 24, 25, 26, 27, 28, 29, 30, 8, 31, 32, 33, 34, 35, 36, 37, 38, 39, 40, 41, 42, 43, 44, 45, 46, 47, 48, 49, 50, 51, 52, 53, 54, 55, 56, 57, 58, 59, 60, 61, 62, 63, 64, 65, 66, 67, 68, 82, 83, 84, 85, 86, 87, 88, 89, 90, 91, 92, 93, 94, 95, 96, 97, 98, 99, 100, 101, 102, 103, 104, 105, 106, 107, 108, 109, 110, 111, 112, 113, 114, 115, 116] (by decide +kernel) (by decide +kernel)
set_option maxRecDepth 20000 in
theorem gX11_image_X5_copyFrom : GoodIn wsX11_image (wsV RX11 310 RX5 yX5_copyFrom wsX5_copyFrom) := goodIn_app (goodIn_of _ (by decide +kernel)) ggX11_image_X5_copyFrom
theorem dX11_image_0 : decode cX11_image 0 = .ok (.iload_n 1, 1) := by decide +kernel
theorem dX11_image_1 : decode cX11_image 1 = .ok (.ifCond .lt 8, 3) := by decide +kernel
theorem dX11_image_4 : decode cX11_image 4 = .ok (.iload_n 1, 1) := by decide +kernel
theorem dX11_image_5 : decode cX11_image 5 = .ok (.iconst 4, 1) := by decide +kernel
theorem dX11_image_6 : decode cX11_image 6 = .ok (.if_icmp .lt 5, 3) := by decide +kernel
theorem dX11_image_9 : decode cX11_image 9 = .ok (.iconst (-1), 1) := by decide +kernel
theorem dX11_image_10 : decode cX11_image 10 = .ok (.ireturn, 1) := by decide +kernel
theorem dX11_image_11 : decode cX11_image 11 = .ok (.aload_n 0, 1) := by decide +kernel
theorem dX11_image_12 : decode cX11_image 12 = .ok (.getfield 46, 3) := by decide +kernel
theorem dX11_image_15 : decode cX11_image 15 = .ok (.iload_n 1, 1) := by decide +kernel
theorem dX11_image_16 : decode cX11_image 16 = .ok (.aaload, 1) := by decide +kernel
theorem dX11_image_17 : decode cX11_image 17 = .ok (.aload_n 0, 1) := by decide +kernel
theorem dX11_image_18 : decode cX11_image 18 = .ok (.getfield 42, 3) := by decide +kernel
theorem dX11_image_21 : decode cX11_image 21 = .ok (.invokevirtual 310, 3) := by decide +kernel
theorem dX11_image_24 : decode cX11_image 24 = .ok (.aload_n 0, 1) := by decide +kernel
theorem dX11_image_25 : decode cX11_image 25 = .ok (.getfield 50, 3) := by decide +kernel
theorem dX11_image_28 : decode cX11_image 28 = .ok (.iload_n 1, 1) := by decide +kernel
theorem dX11_image_29 : decode cX11_image 29 = .ok (.iconst 1, 1) := by decide +kernel
theorem dX11_image_30 : decode cX11_image 30 = .ok (.bastore, 1) := by decide +kernel
theorem dX11_image_31 : decode cX11_image 31 = .ok (.aload_n 0, 1) := by decide +kernel
theorem dX11_image_32 : decode cX11_image 32 = .ok (.getfield 42, 3) := by decide +kernel
theorem dX11_image_35 : decode cX11_image 35 = .ok (.getfield 192, 3) := by decide +kernel
theorem dX11_image_38 : decode cX11_image 38 = .ok (.ireturn, 1) := by decide +kernel
set_option maxRecDepth 20000 in
theorem ggX11_back_X5_copyFrom : GoodIn wsX11_back wsX5_copyFrom := goodIn_r _ [10, 11, 12, 13, 14, 15, 16, 17, 18, 19, 20, 21, 22, 23, 24, 25, 26, 27, 28, 29, 30, 31, 9, 32, 33, 34, 35, 36, 37, 38, 39, 40, 41, 42, 43, 44, 45, 46, 47, 48, 49, 50, 51, 52, 53, 54, 55, 56, 57, 58, 59, 60, 61, 62, 63, 64, 65, 66, 67, 68, 69, 89, 90, 91, 92, 93, 94, 95, 96, 97, 98, 99, 100, 101, 102, 103, 104, 105, 106, 107, 108, 109, 110, 111, 112, 113, 114, 115, 116, 117, 118, 119, 120, 121, 122, 123] (by decide +kernel) (by decide +kernel)
set_option maxRecDepth 20000 in
theorem gX11_back_X5_copyFrom : GoodIn wsX11_back (wsV RX11 310 RX5 yX5_copyFrom wsX5_copyFrom) := goodIn_app (goodIn_of _ (by decide +kernel)) ggX11_back_X5_copyFrom
set_option maxRecDepth 20000 in
theorem ggX11_back_X0_forgetAll : GoodIn wsX11_back wsX0_forgetAll := goodIn_r _ [74, 75, 124, 125, 126, 127] (by decide +kernel) (by decide +kernel)
set_option maxRecDepth 20000 in
theorem gX11_back_X0_forgetAll : GoodIn wsX11_back (wsV RX11 117 RX0 yX0_forgetAll wsX0_forgetAll) := goodIn_app (goodIn_of _ (by decide +kernel)) ggX11_back_X0_forgetAll
theorem dX11_back_0 : decode cX11_back 0 = .ok (.iload_n 1, 1) := by decide +kernel
theorem dX11_back_1 : decode cX11_back 1 = .ok (.ifCond .lt 17, 3) := by decide +kernel
theorem dX11_back_4 : decode cX11_back 4 = .ok (.iload_n 1, 1) := by decide +kernel
theorem dX11_back_5 : decode cX11_back 5 = .ok (.iconst 4, 1) := by decide +kernel
theorem dX11_back_6 : decode cX11_back 6 = .ok (.if_icmp .ge 12, 3) := by decide +kernel
theorem dX11_back_9 : decode cX11_back 9 = .ok (.aload_n 0, 1) := by decide +kernel
theorem dX11_back_10 : decode cX11_back 10 = .ok (.getfield 50, 3) := by decide +kernel
theorem dX11_back_13 : decode cX11_back 13 = .ok (.iload_n 1, 1) := by decide +kernel
theorem dX11_back_14 : decode cX11_back 14 = .ok (.baload, 1) := by decide +kernel
theorem dX11_back_15 : decode cX11_back 15 = .ok (.ifCond .ne 5, 3) := by decide +kernel
theorem dX11_back_18 : decode cX11_back 18 = .ok (.iconst (-1), 1) := by decide +kernel
theorem dX11_back_19 : decode cX11_back 19 = .ok (.ireturn, 1) := by decide +kernel
theorem dX11_back_20 : decode cX11_back 20 = .ok (.aload_n 0, 1) := by decide +kernel
theorem dX11_back_21 : decode cX11_back 21 = .ok (.getfield 42, 3) := by decide +kernel
theorem dX11_back_24 : decode cX11_back 24 = .ok (.aload_n 0, 1) := by decide +kernel
theorem dX11_back_25 : decode cX11_back 25 = .ok (.getfield 46, 3) := by decide +kernel
theorem dX11_back_28 : decode cX11_back 28 = .ok (.iload_n 1, 1) := by decide +kernel
theorem dX11_back_29 : decode cX11_back 29 = .ok (.aaload, 1) := by decide +kernel
theorem dX11_back_30 : decode cX11_back 30 = .ok (.invokevirtual 310, 3) := by decide +kernel
theorem dX11_back_33 : decode cX11_back 33 = .ok (.aload_n 0, 1) := by decide +kernel
theorem dX11_back_34 : decode cX11_back 34 = .ok (.getfield 59, 3) := by decide +kernel
theorem dX11_back_37 : decode cX11_back 37 = .ok (.invokevirtual 117, 3) := by decide +kernel
theorem dX11_back_40 : decode cX11_back 40 = .ok (.aload_n 0, 1) := by decide +kernel
theorem dX11_back_41 : decode cX11_back 41 = .ok (.getfield 42, 3) := by decide +kernel
theorem dX11_back_44 : decode cX11_back 44 = .ok (.getfield 192, 3) := by decide +kernel
theorem dX11_back_47 : decode cX11_back 47 = .ok (.ireturn, 1) := by decide +kernel
theorem dX11_hasCorner_0 : decode cX11_hasCorner 0 = .ok (.iload_n 1, 1) := by decide +kernel
theorem dX11_hasCorner_1 : decode cX11_hasCorner 1 = .ok (.ifCond .lt 21, 3) := by decide +kernel
theorem dX11_hasCorner_4 : decode cX11_hasCorner 4 = .ok (.iload_n 1, 1) := by decide +kernel
theorem dX11_hasCorner_5 : decode cX11_hasCorner 5 = .ok (.aload_n 0, 1) := by decide +kernel
theorem dX11_hasCorner_6 : decode cX11_hasCorner 6 = .ok (.getfield 42, 3) := by decide +kernel
theorem dX11_hasCorner_9 : decode cX11_hasCorner 9 = .ok (.getfield 120, 3) := by decide +kernel
theorem dX11_hasCorner_12 : decode cX11_hasCorner 12 = .ok (.getfield 301, 3) := by decide +kernel
theorem dX11_hasCorner_15 : decode cX11_hasCorner 15 = .ok (.if_icmp .ge 7, 3) := by decide +kernel
theorem dX11_hasCorner_18 : decode cX11_hasCorner 18 = .ok (.iconst 1, 1) := by decide +kernel
theorem dX11_hasCorner_19 : decode cX11_hasCorner 19 = .ok (.goto 4, 3) := by decide +kernel
theorem dX11_hasCorner_22 : decode cX11_hasCorner 22 = .ok (.iconst 0, 1) := by decide +kernel
theorem dX11_hasCorner_23 : decode cX11_hasCorner 23 = .ok (.ireturn, 1) := by decide +kernel
theorem dX11_hasMap_0 : decode cX11_hasMap 0 = .ok (.iload_n 1, 1) := by decide +kernel
theorem dX11_hasMap_1 : decode cX11_hasMap 1 = .ok (.ifCond .lt 18, 3) := by decide +kernel
theorem dX11_hasMap_4 : decode cX11_hasMap 4 = .ok (.iload_n 1, 1) := by decide +kernel
theorem dX11_hasMap_5 : decode cX11_hasMap 5 = .ok (.aload_n 0, 1) := by decide +kernel
theorem dX11_hasMap_6 : decode cX11_hasMap 6 = .ok (.getfield 42, 3) := by decide +kernel
theorem dX11_hasMap_9 : decode cX11_hasMap 9 = .ok (.getfield 161, 3) := by decide +kernel
theorem dX11_hasMap_12 : decode cX11_hasMap 12 = .ok (.if_icmp .ge 7, 3) := by decide +kernel
theorem dX11_hasMap_15 : decode cX11_hasMap 15 = .ok (.iconst 1, 1) := by decide +kernel
theorem dX11_hasMap_16 : decode cX11_hasMap 16 = .ok (.goto 4, 3) := by decide +kernel
theorem dX11_hasMap_19 : decode cX11_hasMap 19 = .ok (.iconst 0, 1) := by decide +kernel
theorem dX11_hasMap_20 : decode cX11_hasMap 20 = .ok (.ireturn, 1) := by decide +kernel
theorem dX11_hasWalker_0 : decode cX11_hasWalker 0 = .ok (.iload_n 1, 1) := by decide +kernel
theorem dX11_hasWalker_1 : decode cX11_hasWalker 1 = .ok (.ifCond .lt 18, 3) := by decide +kernel
theorem dX11_hasWalker_4 : decode cX11_hasWalker 4 = .ok (.iload_n 1, 1) := by decide +kernel
theorem dX11_hasWalker_5 : decode cX11_hasWalker 5 = .ok (.aload_n 0, 1) := by decide +kernel
theorem dX11_hasWalker_6 : decode cX11_hasWalker 6 = .ok (.getfield 42, 3) := by decide +kernel
theorem dX11_hasWalker_9 : decode cX11_hasWalker 9 = .ok (.getfield 192, 3) := by decide +kernel
theorem dX11_hasWalker_12 : decode cX11_hasWalker 12 = .ok (.if_icmp .ge 7, 3) := by decide +kernel
theorem dX11_hasWalker_15 : decode cX11_hasWalker 15 = .ok (.iconst 1, 1) := by decide +kernel
theorem dX11_hasWalker_16 : decode cX11_hasWalker 16 = .ok (.goto 4, 3) := by decide +kernel
theorem dX11_hasWalker_19 : decode cX11_hasWalker 19 = .ok (.iconst 0, 1) := by decide +kernel
theorem dX11_hasWalker_20 : decode cX11_hasWalker 20 = .ok (.ireturn, 1) := by decide +kernel
theorem dX11_hasRuleOrNone_0 : decode cX11_hasRuleOrNone 0 = .ok (.iload_n 1, 1) := by decide +kernel
theorem dX11_hasRuleOrNone_1 : decode cX11_hasRuleOrNone 1 = .ok (.iconst (-1), 1) := by decide +kernel
theorem dX11_hasRuleOrNone_2 : decode cX11_hasRuleOrNone 2 = .ok (.if_icmp .lt 15, 3) := by decide +kernel
theorem dX11_hasRuleOrNone_5 : decode cX11_hasRuleOrNone 5 = .ok (.iload_n 1, 1) := by decide +kernel
theorem dX11_hasRuleOrNone_6 : decode cX11_hasRuleOrNone 6 = .ok (.aload_n 0, 1) := by decide +kernel
theorem dX11_hasRuleOrNone_7 : decode cX11_hasRuleOrNone 7 = .ok (.getfield 126, 3) := by decide +kernel
theorem dX11_hasRuleOrNone_10 : decode cX11_hasRuleOrNone 10 = .ok (.if_icmp .ge 7, 3) := by decide +kernel
theorem dX11_hasRuleOrNone_13 : decode cX11_hasRuleOrNone 13 = .ok (.iconst 1, 1) := by decide +kernel
theorem dX11_hasRuleOrNone_14 : decode cX11_hasRuleOrNone 14 = .ok (.goto 4, 3) := by decide +kernel
theorem dX11_hasRuleOrNone_17 : decode cX11_hasRuleOrNone 17 = .ok (.iconst 0, 1) := by decide +kernel
theorem dX11_hasRuleOrNone_18 : decode cX11_hasRuleOrNone 18 = .ok (.ireturn, 1) := by decide +kernel
theorem dX11_isWeekday_0 : decode cX11_isWeekday 0 = .ok (.iload_n 0, 1) := by decide +kernel
theorem dX11_isWeekday_1 : decode cX11_isWeekday 1 = .ok (.ifCond .lt 13, 3) := by decide +kernel
theorem dX11_isWeekday_4 : decode cX11_isWeekday 4 = .ok (.iload_n 0, 1) := by decide +kernel
theorem dX11_isWeekday_5 : decode cX11_isWeekday 5 = .ok (.bipush 7, 2) := by decide +kernel
theorem dX11_isWeekday_7 : decode cX11_isWeekday 7 = .ok (.if_icmp .ge 7, 3) := by decide +kernel
theorem dX11_isWeekday_10 : decode cX11_isWeekday 10 = .ok (.iconst 1, 1) := by decide +kernel
theorem dX11_isWeekday_11 : decode cX11_isWeekday 11 = .ok (.goto 4, 3) := by decide +kernel
theorem dX11_isWeekday_14 : decode cX11_isWeekday 14 = .ok (.iconst 0, 1) := by decide +kernel
theorem dX11_isWeekday_15 : decode cX11_isWeekday 15 = .ok (.ireturn, 1) := by decide +kernel
theorem dX11_isSign_0 : decode cX11_isSign 0 = .ok (.iload_n 0, 1) := by decide +kernel
theorem dX11_isSign_1 : decode cX11_isSign 1 = .ok (.ifCond .lt 12, 3) := by decide +kernel
theorem dX11_isSign_4 : decode cX11_isSign 4 = .ok (.iload_n 0, 1) := by decide +kernel
theorem dX11_isSign_5 : decode cX11_isSign 5 = .ok (.iconst 3, 1) := by decide +kernel
theorem dX11_isSign_6 : decode cX11_isSign 6 = .ok (.if_icmp .gt 7, 3) := by decide +kernel
theorem dX11_isSign_9 : decode cX11_isSign 9 = .ok (.iconst 1, 1) := by decide +kernel
theorem dX11_isSign_10 : decode cX11_isSign 10 = .ok (.goto 4, 3) := by decide +kernel
theorem dX11_isSign_13 : decode cX11_isSign 13 = .ok (.iconst 0, 1) := by decide +kernel
theorem dX11_isSign_14 : decode cX11_isSign 14 = .ok (.ireturn, 1) := by decide +kernel
theorem dX11_isAskedHour_0 : decode cX11_isAskedHour 0 = .ok (.iload_n 0, 1) := by decide +kernel
theorem dX11_isAskedHour_1 : decode cX11_isAskedHour 1 = .ok (.ifCond .lt 14, 3) := by decide +kernel
theorem dX11_isAskedHour_4 : decode cX11_isAskedHour 4 = .ok (.iload_n 0, 1) := by decide +kernel
