theorem dX4_told_20 : decode cX4_told 20 = .ok (.goto 27, 3) := by decide +kernel
theorem dX4_told_23 : decode cX4_told 23 = .ok (.iload_n 1, 1) := by decide +kernel
theorem dX4_told_24 : decode cX4_told 24 = .ok (.iconst 2, 1) := by decide +kernel
theorem dX4_told_25 : decode cX4_told 25 = .ok (.if_icmp .ne 10, 3) := by decide +kernel
theorem dX4_told_28 : decode cX4_told 28 = .ok (.aload_n 0, 1) := by decide +kernel
theorem dX4_told_29 : decode cX4_told 29 = .ok (.getfield 39, 3) := by decide +kernel
theorem dX4_told_32 : decode cX4_told 32 = .ok (.goto 15, 3) := by decide +kernel
theorem dX4_told_35 : decode cX4_told 35 = .ok (.aload_n 0, 1) := by decide +kernel
theorem dX4_told_36 : decode cX4_told 36 = .ok (.getfield 42, 3) := by decide +kernel
theorem dX4_told_39 : decode cX4_told 39 = .ok (.ifCond .eq 7, 3) := by decide +kernel
theorem dX4_told_42 : decode cX4_told 42 = .ok (.iconst 1, 1) := by decide +kernel
theorem dX4_told_43 : decode cX4_told 43 = .ok (.goto 4, 3) := by decide +kernel
theorem dX4_told_46 : decode cX4_told 46 = .ok (.iconst 0, 1) := by decide +kernel
theorem dX4_told_47 : decode cX4_told 47 = .ok (.ireturn, 1) := by decide +kernel
set_option maxRecDepth 20000 in
theorem ggX4_plough_X4_isIn : GoodIn wsX4_plough wsX4_isIn := goodIn_r _ [5] (by decide +kernel) (by decide +kernel)
set_option maxRecDepth 20000 in
theorem gX4_plough_X4_isIn : GoodIn wsX4_plough (va_wsS RX4 56 yX4_isIn wsX4_isIn) := goodIn_app (goodIn_of _ (by decide +kernel)) ggX4_plough_X4_isIn
set_option maxRecDepth 20000 in
theorem ggX4_plough_X4_told : GoodIn wsX4_plough wsX4_told := goodIn_r _ [9, 10, 11, 12, 13, 18, 19, 20, 21, 22, 23, 24, 25, 26, 27, 28, 29, 30, 31, 32, 33, 34, 35] (by decide +kernel) (by decide +kernel)
set_option maxRecDepth 20000 in
theorem gX4_plough_X4_told : GoodIn wsX4_plough (wsV RX4 112 RX4 yX4_told wsX4_told) := goodIn_app (goodIn_of _ (by decide +kernel)) ggX4_plough_X4_told
set_option maxRecDepth 20000 in
theorem ggX4_plough_X4_fail : GoodIn wsX4_plough wsX4_fail := goodIn_r _ [17, 1, 18, 19, 20, 21, 22, 23, 24, 25, 26, 27, 28, 29, 30, 31, 32, 33, 34, 35] (by decide +kernel) (by decide +kernel)
set_option maxRecDepth 20000 in
theorem gX4_plough_X4_fail : GoodIn wsX4_plough (wsV RX4 63 RX4 yX4_fail wsX4_fail) := goodIn_app (goodIn_of _ (by decide +kernel)) ggX4_plough_X4_fail
theorem dX4_plough_0 : decode cX4_plough 0 = .ok (.aload_n 0, 1) := by decide +kernel
theorem dX4_plough_1 : decode cX4_plough 1 = .ok (.iconst 0, 1) := by decide +kernel
theorem dX4_plough_2 : decode cX4_plough 2 = .ok (.putfield 53, 3) := by decide +kernel
theorem dX4_plough_5 : decode cX4_plough 5 = .ok (.iload_n 1, 1) := by decide +kernel
theorem dX4_plough_6 : decode cX4_plough 6 = .ok (.iconst 0, 1) := by decide +kernel
theorem dX4_plough_7 : decode cX4_plough 7 = .ok (.iconst 3, 1) := by decide +kernel
theorem dX4_plough_8 : decode cX4_plough 8 = .ok (.invokestatic 56, 3) := by decide +kernel
theorem dX4_plough_11 : decode cX4_plough 11 = .ok (.ifCond .eq 11, 3) := by decide +kernel
theorem dX4_plough_14 : decode cX4_plough 14 = .ok (.aload_n 0, 1) := by decide +kernel
theorem dX4_plough_15 : decode cX4_plough 15 = .ok (.iload_n 1, 1) := by decide +kernel
theorem dX4_plough_16 : decode cX4_plough 16 = .ok (.invokevirtual 112, 3) := by decide +kernel
theorem dX4_plough_19 : decode cX4_plough 19 = .ok (.goto 8, 3) := by decide +kernel
theorem dX4_plough_22 : decode cX4_plough 22 = .ok (.aload_n 0, 1) := by decide +kernel
theorem dX4_plough_23 : decode cX4_plough 23 = .ok (.iconst 1, 1) := by decide +kernel
theorem dX4_plough_24 : decode cX4_plough 24 = .ok (.invokevirtual 63, 3) := by decide +kernel
theorem dX4_plough_27 : decode cX4_plough 27 = .ok (.ireturn, 1) := by decide +kernel
theorem dX4_weightAt_0 : decode cX4_weightAt 0 = .ok (.aload_n 0, 1) := by decide +kernel
theorem dX4_weightAt_1 : decode cX4_weightAt 1 = .ok (.getfield 50, 3) := by decide +kernel
theorem dX4_weightAt_4 : decode cX4_weightAt 4 = .ok (.bipush 13, 2) := by decide +kernel
theorem dX4_weightAt_6 : decode cX4_weightAt 6 = .ok (.iload_n 1, 1) := by decide +kernel
theorem dX4_weightAt_7 : decode cX4_weightAt 7 = .ok (.imul, 1) := by decide +kernel
theorem dX4_weightAt_8 : decode cX4_weightAt 8 = .ok (.iload_n 2, 1) := by decide +kernel
theorem dX4_weightAt_9 : decode cX4_weightAt 9 = .ok (.iadd, 1) := by decide +kernel
theorem dX4_weightAt_10 : decode cX4_weightAt 10 = .ok (.iconst 1, 1) := by decide +kernel
theorem dX4_weightAt_11 : decode cX4_weightAt 11 = .ok (.iadd, 1) := by decide +kernel
theorem dX4_weightAt_12 : decode cX4_weightAt 12 = .ok (.iaload, 1) := by decide +kernel
theorem dX4_weightAt_13 : decode cX4_weightAt 13 = .ok (.ireturn, 1) := by decide +kernel
set_option maxRecDepth 20000 in
theorem ggX4_weightBy_X4_sideOf : GoodIn wsX4_weightBy wsX4_sideOf := goodIn_r _ [8, 9, 10, 24, 25, 26, 27, 28, 29, 30, 31, 32, 33, 34, 35, 36, 37, 38, 39, 40, 41] (by decide +kernel) (by decide +kernel)
set_option maxRecDepth 20000 in
theorem gX4_weightBy_X4_sideOf : GoodIn wsX4_weightBy (wsV RX4 96 RX4 yX4_sideOf wsX4_sideOf) := goodIn_app (goodIn_of _ (by decide +kernel)) ggX4_weightBy_X4_sideOf
set_option maxRecDepth 20000 in
theorem ggX4_weightBy_X4_head : GoodIn wsX4_weightBy wsX4_head := goodIn_r _ [14, 10, 24, 25, 26, 27, 28, 29, 30, 31, 32, 33, 34, 35, 36, 37, 38, 39, 40, 41] (by decide +kernel) (by decide +kernel)
set_option maxRecDepth 20000 in
theorem gX4_weightBy_X4_head : GoodIn wsX4_weightBy (wsV RX4 90 RX4 yX4_head wsX4_head) := goodIn_app (goodIn_of _ (by decide +kernel)) ggX4_weightBy_X4_head
set_option maxRecDepth 20000 in
theorem ggX4_weightBy_X4_weightAt : GoodIn wsX4_weightBy wsX4_weightAt := goodIn_r _ [18, 19, 24, 25, 26, 27, 28, 29, 30, 31, 32, 33, 34, 35, 36, 37, 38, 39, 40, 41] (by decide +kernel) (by decide +kernel)
set_option maxRecDepth 20000 in
theorem gX4_weightBy_X4_weightAt : GoodIn wsX4_weightBy (wsV RX4 119 RX4 yX4_weightAt wsX4_weightAt) := goodIn_app (goodIn_of _ (by decide +kernel)) ggX4_weightBy_X4_weightAt
set_option maxRecDepth 20000 in
theorem ggX4_weightBy_X4_turnTime : GoodIn wsX4_weightBy wsX4_turnTime := goodIn_r _ [23] (by decide +kernel) (by decide +kernel)
set_option maxRecDepth 20000 in
theorem gX4_weightBy_X4_turnTime : GoodIn wsX4_weightBy (wsV RX4 100 RX4 yX4_turnTime wsX4_turnTime) := goodIn_app (goodIn_of _ (by decide +kernel)) ggX4_weightBy_X4_turnTime
theorem dX4_weightBy_0 : decode cX4_weightBy 0 = .ok (.aload_n 0, 1) := by decide +kernel
theorem dX4_weightBy_1 : decode cX4_weightBy 1 = .ok (.iload_n 1, 1) := by decide +kernel
theorem dX4_weightBy_2 : decode cX4_weightBy 2 = .ok (.iload_n 2, 1) := by decide +kernel
theorem dX4_weightBy_3 : decode cX4_weightBy 3 = .ok (.iload_n 3, 1) := by decide +kernel
theorem dX4_weightBy_4 : decode cX4_weightBy 4 = .ok (.invokevirtual 96, 3) := by decide +kernel
theorem dX4_weightBy_7 : decode cX4_weightBy 7 = .ok (.istore 4, 2) := by decide +kernel
theorem dX4_weightBy_9 : decode cX4_weightBy 9 = .ok (.iload 4, 2) := by decide +kernel
theorem dX4_weightBy_11 : decode cX4_weightBy 11 = .ok (.iconst (-1), 1) := by decide +kernel
theorem dX4_weightBy_12 : decode cX4_weightBy 12 = .ok (.if_icmp .ne 6, 3) := by decide +kernel
theorem dX4_weightBy_15 : decode cX4_weightBy 15 = .ok (.ldc 115, 2) := by decide +kernel
theorem dX4_weightBy_17 : decode cX4_weightBy 17 = .ok (.ireturn, 1) := by decide +kernel
theorem dX4_weightBy_18 : decode cX4_weightBy 18 = .ok (.iload 4, 2) := by decide +kernel
theorem dX4_weightBy_20 : decode cX4_weightBy 20 = .ok (.aload_n 0, 1) := by decide +kernel
theorem dX4_weightBy_21 : decode cX4_weightBy 21 = .ok (.getfield 116, 3) := by decide +kernel
theorem dX4_weightBy_24 : decode cX4_weightBy 24 = .ok (.if_icmp .ne 7, 3) := by decide +kernel
theorem dX4_weightBy_27 : decode cX4_weightBy 27 = .ok (.iconst 0, 1) := by decide +kernel
theorem dX4_weightBy_28 : decode cX4_weightBy 28 = .ok (.goto 14, 3) := by decide +kernel
theorem dX4_weightBy_31 : decode cX4_weightBy 31 = .ok (.aload_n 0, 1) := by decide +kernel
theorem dX4_weightBy_32 : decode cX4_weightBy 32 = .ok (.aload_n 0, 1) := by decide +kernel
theorem dX4_weightBy_33 : decode cX4_weightBy 33 = .ok (.iload 4, 2) := by decide +kernel
theorem dX4_weightBy_35 : decode cX4_weightBy 35 = .ok (.invokevirtual 90, 3) := by decide +kernel
theorem dX4_weightBy_38 : decode cX4_weightBy 38 = .ok (.iload_n 1, 1) := by decide +kernel
theorem dX4_weightBy_39 : decode cX4_weightBy 39 = .ok (.invokevirtual 119, 3) := by decide +kernel
theorem dX4_weightBy_42 : decode cX4_weightBy 42 = .ok (.istore 5, 2) := by decide +kernel
theorem dX4_weightBy_44 : decode cX4_weightBy 44 = .ok (.iload 5, 2) := by decide +kernel
theorem dX4_weightBy_46 : decode cX4_weightBy 46 = .ok (.ldc 115, 2) := by decide +kernel
theorem dX4_weightBy_48 : decode cX4_weightBy 48 = .ok (.if_icmp .ne 8, 3) := by decide +kernel
theorem dX4_weightBy_51 : decode cX4_weightBy 51 = .ok (.ldc 115, 2) := by decide +kernel
theorem dX4_weightBy_53 : decode cX4_weightBy 53 = .ok (.goto 25, 3) := by decide +kernel
theorem dX4_weightBy_56 : decode cX4_weightBy 56 = .ok (.iload 5, 2) := by decide +kernel
theorem dX4_weightBy_58 : decode cX4_weightBy 58 = .ok (.sipush 1000, 3) := by decide +kernel
theorem dX4_weightBy_61 : decode cX4_weightBy 61 = .ok (.aload_n 0, 1) := by decide +kernel
theorem dX4_weightBy_62 : decode cX4_weightBy 62 = .ok (.getfield 24, 3) := by decide +kernel
theorem dX4_weightBy_65 : decode cX4_weightBy 65 = .ok (.iload_n 1, 1) := by decide +kernel
theorem dX4_weightBy_66 : decode cX4_weightBy 66 = .ok (.iaload, 1) := by decide +kernel
theorem dX4_weightBy_67 : decode cX4_weightBy 67 = .ok (.aload_n 0, 1) := by decide +kernel
theorem dX4_weightBy_68 : decode cX4_weightBy 68 = .ok (.iload_n 1, 1) := by decide +kernel
theorem dX4_weightBy_69 : decode cX4_weightBy 69 = .ok (.iload_n 3, 1) := by decide +kernel
theorem dX4_weightBy_70 : decode cX4_weightBy 70 = .ok (.invokevirtual 100, 3) := by decide +kernel
theorem dX4_weightBy_73 : decode cX4_weightBy 73 = .ok (.iadd, 1) := by decide +kernel
theorem dX4_weightBy_74 : decode cX4_weightBy 74 = .ok (.imul, 1) := by decide +kernel
theorem dX4_weightBy_75 : decode cX4_weightBy 75 = .ok (.iadd, 1) := by decide +kernel
theorem dX4_weightBy_76 : decode cX4_weightBy 76 = .ok (.iconst 1, 1) := by decide +kernel
theorem dX4_weightBy_77 : decode cX4_weightBy 77 = .ok (.iadd, 1) := by decide +kernel
theorem dX4_weightBy_78 : decode cX4_weightBy 78 = .ok (.ireturn, 1) := by decide +kernel
set_option maxRecDepth 20000 in
theorem ggX4_weigh_X4_weightBy : GoodIn wsX4_weigh wsX4_weightBy := goodIn_r _ [11, 4, 2, 12, 13, 14, 15, 10, 16, 17, 18, 19, 20, 21, 22, 23, 24, 25, 26, 3, 27, 28, 29, 30, 31, 32, 33, 34, 35, 36, 37, 38, 39, 40, 41, 42, 43, 44, 45, 46, 47, 48] (by decide +kernel) (by decide +kernel)
set_option maxRecDepth 20000 in
theorem gX4_weigh_X4_weightBy : GoodIn wsX4_weigh (wsV RX4 125 RX4 yX4_weightBy wsX4_weightBy) := goodIn_app (goodIn_of _ (by decide +kernel)) ggX4_weigh_X4_weightBy
set_option maxRecDepth 20000 in
theorem ggX4_weigh_X4_weightAt : GoodIn wsX4_weigh wsX4_weightAt := goodIn_r _ [26, 3, 31, 32, 33, 34, 35, 36, 37, 38, 39, 40, 41, 42, 43, 44, 45, 46, 47, 48] (by decide +kernel) (by decide +kernel)
set_option maxRecDepth 20000 in
theorem gX4_weigh_X4_weightAt : GoodIn wsX4_weigh (wsV RX4 119 RX4 yX4_weightAt wsX4_weightAt) := goodIn_app (goodIn_of _ (by decide +kernel)) ggX4_weigh_X4_weightAt
theorem dX4_weigh_0 : decode cX4_weigh 0 = .ok (.aload_n 0, 1) := by decide +kernel
theorem dX4_weigh_1 : decode cX4_weigh 1 = .ok (.iload_n 1, 1) := by decide +kernel
theorem dX4_weigh_2 : decode cX4_weigh 2 = .ok (.putfield 122, 3) := by decide +kernel
theorem dX4_weigh_5 : decode cX4_weigh 5 = .ok (.aload_n 0, 1) := by decide +kernel
theorem dX4_weigh_6 : decode cX4_weigh 6 = .ok (.iload_n 2, 1) := by decide +kernel
theorem dX4_weigh_7 : decode cX4_weigh 7 = .ok (.putfield 116, 3) := by decide +kernel
theorem dX4_weigh_10 : decode cX4_weigh 10 = .ok (.iconst 0, 1) := by decide +kernel
theorem dX4_weigh_11 : decode cX4_weigh 11 = .ok (.istore_n 3, 1) := by decide +kernel
theorem dX4_weigh_12 : decode cX4_weigh 12 = .ok (.iload_n 3, 1) := by decide +kernel
theorem dX4_weigh_13 : decode cX4_weigh 13 = .ok (.aload_n 0, 1) := by decide +kernel
theorem dX4_weigh_14 : decode cX4_weigh 14 = .ok (.getfield 50, 3) := by decide +kernel
theorem dX4_weigh_17 : decode cX4_weigh 17 = .ok (.arraylength, 1) := by decide +kernel
theorem dX4_weigh_18 : decode cX4_weigh 18 = .ok (.if_icmp .ge 32, 3) := by decide +kernel
theorem dX4_weigh_21 : decode cX4_weigh 21 = .ok (.aload_n 0, 1) := by decide +kernel
theorem dX4_weigh_22 : decode cX4_weigh 22 = .ok (.getfield 50, 3) := by decide +kernel
theorem dX4_weigh_25 : decode cX4_weigh 25 = .ok (.iload_n 3, 1) := by decide +kernel
theorem dX4_weigh_26 : decode cX4_weigh 26 = .ok (.iload_n 3, 1) := by decide +kernel
theorem dX4_weigh_27 : decode cX4_weigh 27 = .ok (.bipush 13, 2) := by decide +kernel
theorem dX4_weigh_29 : decode cX4_weigh 29 = .ok (.idiv, 1) := by decide +kernel
theorem dX4_weigh_30 : decode cX4_weigh 30 = .ok (.aload_n 0, 1) := by decide +kernel
theorem dX4_weigh_31 : decode cX4_weigh 31 = .ok (.getfield 122, 3) := by decide +kernel
theorem dX4_weigh_34 : decode cX4_weigh 34 = .ok (.if_icmp .ne 7, 3) := by decide +kernel
theorem dX4_weigh_37 : decode cX4_weigh 37 = .ok (.iconst 0, 1) := by decide +kernel
theorem dX4_weigh_38 : decode cX4_weigh 38 = .ok (.goto 5, 3) := by decide +kernel
theorem dX4_weigh_41 : decode cX4_weigh 41 = .ok (.ldc 115, 2) := by decide +kernel
theorem dX4_weigh_43 : decode cX4_weigh 43 = .ok (.iastore, 1) := by decide +kernel
theorem dX4_weigh_44 : decode cX4_weigh 44 = .ok (.iinc 3 1, 3) := by decide +kernel
theorem dX4_weigh_47 : decode cX4_weigh 47 = .ok (.goto (-35), 3) := by decide +kernel
theorem dX4_weigh_50 : decode cX4_weigh 50 = .ok (.iconst 1, 1) := by decide +kernel
theorem dX4_weigh_51 : decode cX4_weigh 51 = .ok (.istore_n 3, 1) := by decide +kernel
theorem dX4_weigh_52 : decode cX4_weigh 52 = .ok (.iload_n 3, 1) := by decide +kernel
theorem dX4_weigh_53 : decode cX4_weigh 53 = .ok (.ifCond .eq 109, 3) := by decide +kernel
theorem dX4_weigh_56 : decode cX4_weigh 56 = .ok (.iconst 0, 1) := by decide +kernel
theorem dX4_weigh_57 : decode cX4_weigh 57 = .ok (.istore_n 3, 1) := by decide +kernel
theorem dX4_weigh_58 : decode cX4_weigh 58 = .ok (.iconst 0, 1) := by decide +kernel
theorem dX4_weigh_59 : decode cX4_weigh 59 = .ok (.istore 4, 2) := by decide +kernel
theorem dX4_weigh_61 : decode cX4_weigh 61 = .ok (.iload 4, 2) := by decide +kernel
theorem dX4_weigh_63 : decode cX4_weigh 63 = .ok (.aload_n 0, 1) := by decide +kernel
theorem dX4_weigh_64 : decode cX4_weigh 64 = .ok (.getfield 7, 3) := by decide +kernel
theorem dX4_weigh_67 : decode cX4_weigh 67 = .ok (.if_icmp .ge 92, 3) := by decide +kernel
theorem dX4_weigh_70 : decode cX4_weigh 70 = .ok (.iconst (-1), 1) := by decide +kernel
theorem dX4_weigh_71 : decode cX4_weigh 71 = .ok (.istore 5, 2) := by decide +kernel
theorem dX4_weigh_73 : decode cX4_weigh 73 = .ok (.iload 5, 2) := by decide +kernel
theorem dX4_weigh_75 : decode cX4_weigh 75 = .ok (.aload_n 0, 1) := by decide +kernel
theorem dX4_weigh_76 : decode cX4_weigh 76 = .ok (.getfield 60, 3) := by decide +kernel
theorem dX4_weigh_79 : decode cX4_weigh 79 = .ok (.if_icmp .ge 74, 3) := by decide +kernel
theorem dX4_weigh_82 : decode cX4_weigh 82 = .ok (.iconst 0, 1) := by decide +kernel
theorem dX4_weigh_83 : decode cX4_weigh 83 = .ok (.istore 6, 2) := by decide +kernel
theorem dX4_weigh_85 : decode cX4_weigh 85 = .ok (.iload 6, 2) := by decide +kernel
theorem dX4_weigh_87 : decode cX4_weigh 87 = .ok (.aload_n 0, 1) := by decide +kernel
theorem dX4_weigh_88 : decode cX4_weigh 88 = .ok (.getfield 60, 3) := by decide +kernel
theorem dX4_weigh_91 : decode cX4_weigh 91 = .ok (.if_icmp .ge 56, 3) := by decide +kernel
theorem dX4_weigh_94 : decode cX4_weigh 94 = .ok (.aload_n 0, 1) := by decide +kernel
theorem dX4_weigh_95 : decode cX4_weigh 95 = .ok (.iload 6, 2) := by decide +kernel
theorem dX4_weigh_97 : decode cX4_weigh 97 = .ok (.iload 4, 2) := by decide +kernel
theorem dX4_weigh_99 : decode cX4_weigh 99 = .ok (.iload 5, 2) := by decide +kernel
theorem dX4_weigh_101 : decode cX4_weigh 101 = .ok (.invokevirtual 125, 3) := by decide +kernel
theorem dX4_weigh_104 : decode cX4_weigh 104 = .ok (.istore 7, 2) := by decide +kernel
theorem dX4_weigh_106 : decode cX4_weigh 106 = .ok (.iload 7, 2) := by decide +kernel
theorem dX4_weigh_108 : decode cX4_weigh 108 = .ok (.aload_n 0, 1) := by decide +kernel
theorem dX4_weigh_109 : decode cX4_weigh 109 = .ok (.iload 4, 2) := by decide +kernel
theorem dX4_weigh_111 : decode cX4_weigh 111 = .ok (.iload 5, 2) := by decide +kernel
theorem dX4_weigh_113 : decode cX4_weigh 113 = .ok (.invokevirtual 119, 3) := by decide +kernel
theorem dX4_weigh_116 : decode cX4_weigh 116 = .ok (.if_icmp .lt 6, 3) := by decide +kernel
theorem dX4_weigh_119 : decode cX4_weigh 119 = .ok (.goto 22, 3) := by decide +kernel
theorem dX4_weigh_122 : decode cX4_weigh 122 = .ok (.aload_n 0, 1) := by decide +kernel
theorem dX4_weigh_123 : decode cX4_weigh 123 = .ok (.getfield 50, 3) := by decide +kernel
theorem dX4_weigh_126 : decode cX4_weigh 126 = .ok (.bipush 13, 2) := by decide +kernel
theorem dX4_weigh_128 : decode cX4_weigh 128 = .ok (.iload 4, 2) := by decide +kernel
theorem dX4_weigh_130 : decode cX4_weigh 130 = .ok (.imul, 1) := by decide +kernel
theorem dX4_weigh_131 : decode cX4_weigh 131 = .ok (.iload 5, 2) := by decide +kernel
theorem dX4_weigh_133 : decode cX4_weigh 133 = .ok (.iadd, 1) := by decide +kernel
theorem dX4_weigh_134 : decode cX4_weigh 134 = .ok (.iconst 1, 1) := by decide +kernel
theorem dX4_weigh_135 : decode cX4_weigh 135 = .ok (.iadd, 1) := by decide +kernel
theorem dX4_weigh_136 : decode cX4_weigh 136 = .ok (.iload 7, 2) := by decide +kernel
theorem dX4_weigh_138 : decode cX4_weigh 138 = .ok (.iastore, 1) := by decide +kernel
theorem dX4_weigh_139 : decode cX4_weigh 139 = .ok (.iconst 1, 1) := by decide +kernel
theorem dX4_weigh_140 : decode cX4_weigh 140 = .ok (.istore_n 3, 1) := by decide +kernel
theorem dX4_weigh_141 : decode cX4_weigh 141 = .ok (.iinc 6 1, 3) := by decide +kernel
theorem dX4_weigh_144 : decode cX4_weigh 144 = .ok (.goto (-59), 3) := by decide +kernel
theorem dX4_weigh_147 : decode cX4_weigh 147 = .ok (.iinc 5 1, 3) := by decide +kernel
theorem dX4_weigh_150 : decode cX4_weigh 150 = .ok (.goto (-77), 3) := by decide +kernel
theorem dX4_weigh_153 : decode cX4_weigh 153 = .ok (.iinc 4 1, 3) := by decide +kernel
theorem dX4_weigh_156 : decode cX4_weigh 156 = .ok (.goto (-95), 3) := by decide +kernel
theorem dX4_weigh_159 : decode cX4_weigh 159 = .ok (.goto (-107), 3) := by decide +kernel
theorem dX4_weigh_162 : decode cX4_weigh 162 = .ok (.return_, 1) := by decide +kernel
set_option maxRecDepth 20000 in
theorem ggX4_minutesLeft_X4_weightAt : GoodIn wsX4_minutesLeft wsX4_weightAt := goodIn_r _ [8, 9, 10, 11, 12, 13, 14, 15, 16, 17, 18, 19, 20, 21, 22, 23, 24, 25, 26, 27] (by decide +kernel) (by decide +kernel)
set_option maxRecDepth 20000 in
theorem gX4_minutesLeft_X4_weightAt : GoodIn wsX4_minutesLeft (wsV RX4 119 RX4 yX4_weightAt wsX4_weightAt) := goodIn_app (goodIn_of _ (by decide +kernel)) ggX4_minutesLeft_X4_weightAt
theorem dX4_minutesLeft_0 : decode cX4_minutesLeft 0 = .ok (.aload_n 0, 1) := by decide +kernel
theorem dX4_minutesLeft_1 : decode cX4_minutesLeft 1 = .ok (.aload_n 0, 1) := by decide +kernel
theorem dX4_minutesLeft_2 : decode cX4_minutesLeft 2 = .ok (.getfield 93, 3) := by decide +kernel
theorem dX4_minutesLeft_5 : decode cX4_minutesLeft 5 = .ok (.aload_n 0, 1) := by decide +kernel
theorem dX4_minutesLeft_6 : decode cX4_minutesLeft 6 = .ok (.getfield 36, 3) := by decide +kernel
theorem dX4_minutesLeft_9 : decode cX4_minutesLeft 9 = .ok (.invokevirtual 119, 3) := by decide +kernel
theorem dX4_minutesLeft_12 : decode cX4_minutesLeft 12 = .ok (.ldc 115, 2) := by decide +kernel
theorem dX4_minutesLeft_14 : decode cX4_minutesLeft 14 = .ok (.if_icmp .ne 7, 3) := by decide +kernel
theorem dX4_minutesLeft_17 : decode cX4_minutesLeft 17 = .ok (.iconst (-1), 1) := by decide +kernel
theorem dX4_minutesLeft_18 : decode cX4_minutesLeft 18 = .ok (.goto 19, 3) := by decide +kernel
theorem dX4_minutesLeft_21 : decode cX4_minutesLeft 21 = .ok (.aload_n 0, 1) := by decide +kernel
theorem dX4_minutesLeft_22 : decode cX4_minutesLeft 22 = .ok (.aload_n 0, 1) := by decide +kernel
theorem dX4_minutesLeft_23 : decode cX4_minutesLeft 23 = .ok (.getfield 93, 3) := by decide +kernel
theorem dX4_minutesLeft_26 : decode cX4_minutesLeft 26 = .ok (.aload_n 0, 1) := by decide +kernel
theorem dX4_minutesLeft_27 : decode cX4_minutesLeft 27 = .ok (.getfield 36, 3) := by decide +kernel
theorem dX4_minutesLeft_30 : decode cX4_minutesLeft 30 = .ok (.invokevirtual 119, 3) := by decide +kernel
theorem dX4_minutesLeft_33 : decode cX4_minutesLeft 33 = .ok (.sipush 1000, 3) := by decide +kernel
theorem dX4_minutesLeft_36 : decode cX4_minutesLeft 36 = .ok (.idiv, 1) := by decide +kernel
theorem dX4_minutesLeft_37 : decode cX4_minutesLeft 37 = .ok (.ireturn, 1) := by decide +kernel
set_option maxRecDepth 20000 in
theorem ggX4_nextRoad_X4_weightAt : GoodIn wsX4_nextRoad wsX4_weightAt := goodIn_r _ [8, 9, 30, 31, 32, 33, 34, 35, 36, 37, 38, 39, 40, 41, 42, 43, 44, 45, 46, 47] (by decide +kernel) (by decide +kernel)
set_option maxRecDepth 20000 in
theorem gX4_nextRoad_X4_weightAt : GoodIn wsX4_nextRoad (wsV RX4 119 RX4 yX4_weightAt wsX4_weightAt) := goodIn_app (goodIn_of _ (by decide +kernel)) ggX4_nextRoad_X4_weightAt
set_option maxRecDepth 20000 in
theorem ggX4_nextRoad_X4_weightBy : GoodIn wsX4_nextRoad wsX4_weightBy := goodIn_r _ [13, 3, 14, 15, 16, 17, 18, 7, 19, 20, 21, 22, 23, 24, 25, 4, 5, 6, 8, 9, 26, 27, 28, 29, 30, 31, 32, 33, 34, 35, 36, 37, 38, 39, 40, 41, 42, 43, 44, 45, 46, 47] (by decide +kernel) (by decide +kernel)
set_option maxRecDepth 20000 in
theorem gX4_nextRoad_X4_weightBy : GoodIn wsX4_nextRoad (wsV RX4 125 RX4 yX4_weightBy wsX4_weightBy) := goodIn_app (goodIn_of _ (by decide +kernel)) ggX4_nextRoad_X4_weightBy
theorem dX4_nextRoad_0 : decode cX4_nextRoad 0 = .ok (.aload_n 0, 1) := by decide +kernel
theorem dX4_nextRoad_1 : decode cX4_nextRoad 1 = .ok (.aload_n 0, 1) := by decide +kernel
theorem dX4_nextRoad_2 : decode cX4_nextRoad 2 = .ok (.getfield 93, 3) := by decide +kernel
theorem dX4_nextRoad_5 : decode cX4_nextRoad 5 = .ok (.aload_n 0, 1) := by decide +kernel
theorem dX4_nextRoad_6 : decode cX4_nextRoad 6 = .ok (.getfield 36, 3) := by decide +kernel
theorem dX4_nextRoad_9 : decode cX4_nextRoad 9 = .ok (.invokevirtual 119, 3) := by decide +kernel
theorem dX4_nextRoad_12 : decode cX4_nextRoad 12 = .ok (.istore_n 1, 1) := by decide +kernel
theorem dX4_nextRoad_13 : decode cX4_nextRoad 13 = .ok (.iload_n 1, 1) := by decide +kernel
theorem dX4_nextRoad_14 : decode cX4_nextRoad 14 = .ok (.ifCond .eq 9, 3) := by decide +kernel
theorem dX4_nextRoad_17 : decode cX4_nextRoad 17 = .ok (.iload_n 1, 1) := by decide +kernel
theorem dX4_nextRoad_18 : decode cX4_nextRoad 18 = .ok (.ldc 115, 2) := by decide +kernel
theorem dX4_nextRoad_20 : decode cX4_nextRoad 20 = .ok (.if_icmp .ne 5, 3) := by decide +kernel
theorem dX4_nextRoad_23 : decode cX4_nextRoad 23 = .ok (.iconst (-1), 1) := by decide +kernel
theorem dX4_nextRoad_24 : decode cX4_nextRoad 24 = .ok (.ireturn, 1) := by decide +kernel
theorem dX4_nextRoad_25 : decode cX4_nextRoad 25 = .ok (.iconst 0, 1) := by decide +kernel
theorem dX4_nextRoad_26 : decode cX4_nextRoad 26 = .ok (.istore_n 2, 1) := by decide +kernel
theorem dX4_nextRoad_27 : decode cX4_nextRoad 27 = .ok (.aload_n 0, 1) := by decide +kernel
theorem dX4_nextRoad_28 : decode cX4_nextRoad 28 = .ok (.iload_n 2, 1) := by decide +kernel
theorem dX4_nextRoad_29 : decode cX4_nextRoad 29 = .ok (.aload_n 0, 1) := by decide +kernel
theorem dX4_nextRoad_30 : decode cX4_nextRoad 30 = .ok (.getfield 93, 3) := by decide +kernel
theorem dX4_nextRoad_33 : decode cX4_nextRoad 33 = .ok (.aload_n 0, 1) := by decide +kernel
theorem dX4_nextRoad_34 : decode cX4_nextRoad 34 = .ok (.getfield 36, 3) := by decide +kernel
theorem dX4_nextRoad_37 : decode cX4_nextRoad 37 = .ok (.invokevirtual 125, 3) := by decide +kernel
theorem dX4_nextRoad_40 : decode cX4_nextRoad 40 = .ok (.iload_n 1, 1) := by decide +kernel
theorem dX4_nextRoad_41 : decode cX4_nextRoad 41 = .ok (.if_icmp .eq 9, 3) := by decide +kernel
theorem dX4_nextRoad_44 : decode cX4_nextRoad 44 = .ok (.iinc 2 1, 3) := by decide +kernel
theorem dX4_nextRoad_47 : decode cX4_nextRoad 47 = .ok (.goto (-20), 3) := by decide +kernel
theorem dX4_nextRoad_50 : decode cX4_nextRoad 50 = .ok (.iload_n 2, 1) := by decide +kernel
theorem dX4_nextRoad_51 : decode cX4_nextRoad 51 = .ok (.ireturn, 1) := by decide +kernel
set_option maxRecDepth 20000 in
theorem ggX4_way_X4_isNode : GoodIn wsX4_way wsX4_isNode := goodIn_r _ [6, 7, 8, 9, 5, 10, 53, 54, 55, 56, 57, 58, 59, 60, 61, 62, 63, 64, 65, 66, 67, 68, 69, 70] (by decide +kernel) (by decide +kernel)
set_option maxRecDepth 20000 in
theorem gX4_way_X4_isNode : GoodIn wsX4_way (wsV RX4 67 RX4 yX4_isNode wsX4_isNode) := goodIn_app (goodIn_of _ (by decide +kernel)) ggX4_way_X4_isNode
set_option maxRecDepth 20000 in
theorem ggX4_way_X4_fail : GoodIn wsX4_way wsX4_fail := goodIn_r _ [14, 1, 53, 54, 55, 56, 57, 58, 59, 60, 61, 62, 63, 64, 65, 66, 67, 68, 69, 70] (by decide +kernel) (by decide +kernel)
set_option maxRecDepth 20000 in
theorem gX4_way_X4_fail : GoodIn wsX4_way (wsV RX4 63 RX4 yX4_fail wsX4_fail) := goodIn_app (goodIn_of _ (by decide +kernel)) ggX4_way_X4_fail
set_option maxRecDepth 20000 in
theorem ggX4_way_X4_weigh : GoodIn wsX4_way wsX4_weigh := goodIn_r _ [18, 19, 20, 21, 22, 7, 23, 24, 25, 26, 5, 27, 28, 29, 30, 31, 32, 33, 34, 35, 36, 37, 38, 39, 40, 41, 42, 43, 44, 45, 46, 53, 54, 55, 56, 57, 58, 59, 60, 61, 62, 63, 64, 65, 66, 67, 68, 69, 70] (by decide +kernel) (by decide +kernel)
set_option maxRecDepth 20000 in
theorem gX4_way_X4_weigh : GoodIn wsX4_way (wsV RX4 128 RX4 yX4_weigh wsX4_weigh) := goodIn_app (goodIn_of _ (by decide +kernel)) ggX4_way_X4_weigh
set_option maxRecDepth 20000 in
theorem ggX4_way_X4_minutesLeft : GoodIn wsX4_way wsX4_minutesLeft := goodIn_r _ [50, 51, 52, 22, 39, 40, 41, 5, 42, 21, 53, 54, 55, 56, 57, 58, 59, 60, 61, 62, 63, 64, 65, 66, 67, 68, 69, 70] (by decide +kernel) (by decide +kernel)
set_option maxRecDepth 20000 in
theorem gX4_way_X4_minutesLeft : GoodIn wsX4_way (wsV RX4 132 RX4 yX4_minutesLeft wsX4_minutesLeft) := goodIn_app (goodIn_of _ (by decide +kernel)) ggX4_way_X4_minutesLeft
theorem dX4_way_0 : decode cX4_way 0 = .ok (.aload_n 0, 1) := by decide +kernel
theorem dX4_way_1 : decode cX4_way 1 = .ok (.iconst 0, 1) := by decide +kernel
theorem dX4_way_2 : decode cX4_way 2 = .ok (.putfield 53, 3) := by decide +kernel
theorem dX4_way_5 : decode cX4_way 5 = .ok (.aload_n 0, 1) := by decide +kernel
theorem dX4_way_6 : decode cX4_way 6 = .ok (.iload_n 1, 1) := by decide +kernel
theorem dX4_way_7 : decode cX4_way 7 = .ok (.invokevirtual 67, 3) := by decide +kernel
theorem dX4_way_10 : decode cX4_way 10 = .ok (.ifCond .ne 9, 3) := by decide +kernel
theorem dX4_way_13 : decode cX4_way 13 = .ok (.aload_n 0, 1) := by decide +kernel
theorem dX4_way_14 : decode cX4_way 14 = .ok (.iconst 1, 1) := by decide +kernel
theorem dX4_way_15 : decode cX4_way 15 = .ok (.invokevirtual 63, 3) := by decide +kernel
theorem dX4_way_18 : decode cX4_way 18 = .ok (.ireturn, 1) := by decide +kernel
theorem dX4_way_19 : decode cX4_way 19 = .ok (.aload_n 0, 1) := by decide +kernel
theorem dX4_way_20 : decode cX4_way 20 = .ok (.iload_n 1, 1) := by decide +kernel
theorem dX4_way_21 : decode cX4_way 21 = .ok (.iconst (-1), 1) := by decide +kernel
theorem dX4_way_22 : decode cX4_way 22 = .ok (.invokevirtual 128, 3) := by decide +kernel
theorem dX4_way_25 : decode cX4_way 25 = .ok (.aload_n 0, 1) := by decide +kernel
theorem dX4_way_26 : decode cX4_way 26 = .ok (.invokevirtual 132, 3) := by decide +kernel
theorem dX4_way_29 : decode cX4_way 29 = .ok (.ireturn, 1) := by decide +kernel
set_option maxRecDepth 20000 in
theorem ggX4_first_X4_isNode : GoodIn wsX4_first wsX4_isNode := goodIn_r _ [6, 7, 8, 9, 5, 10, 53, 54, 55, 56, 57, 58, 59, 60, 61, 62, 63, 64, 65, 66, 67, 68, 69, 70] (by decide +kernel) (by decide +kernel)
set_option maxRecDepth 20000 in
theorem gX4_first_X4_isNode : GoodIn wsX4_first (wsV RX4 67 RX4 yX4_isNode wsX4_isNode) := goodIn_app (goodIn_of _ (by decide +kernel)) ggX4_first_X4_isNode
set_option maxRecDepth 20000 in
theorem ggX4_first_X4_fail : GoodIn wsX4_first wsX4_fail := goodIn_r _ [14, 1, 53, 54, 55, 56, 57, 58, 59, 60, 61, 62, 63, 64, 65, 66, 67, 68, 69, 70] (by decide +kernel) (by decide +kernel)
set_option maxRecDepth 20000 in
theorem gX4_first_X4_fail : GoodIn wsX4_first (wsV RX4 63 RX4 yX4_fail wsX4_fail) := goodIn_app (goodIn_of _ (by decide +kernel)) ggX4_first_X4_fail
set_option maxRecDepth 20000 in
theorem ggX4_first_X4_weigh : GoodIn wsX4_first wsX4_weigh := goodIn_r _ [18, 19, 20, 21, 22, 7, 23, 24, 25, 26, 5, 27, 28, 29, 30, 31, 32, 33, 34, 35, 36, 37, 38, 39, 40, 41, 42, 43, 44, 45, 46, 53, 54, 55, 56, 57, 58, 59, 60, 61, 62, 63, 64, 65, 66, 67, 68, 69, 70] (by decide +kernel) (by decide +kernel)
set_option maxRecDepth 20000 in
theorem gX4_first_X4_weigh : GoodIn wsX4_first (wsV RX4 128 RX4 yX4_weigh wsX4_weigh) := goodIn_app (goodIn_of _ (by decide +kernel)) ggX4_first_X4_weigh
set_option maxRecDepth 20000 in
theorem ggX4_first_X4_nextRoad : GoodIn wsX4_first wsX4_nextRoad := goodIn_r _ [50, 51, 52, 22, 39, 40, 41, 5, 42, 21, 24, 25, 26, 27, 20, 28, 29, 30, 31, 32, 33, 34, 35, 36, 37, 38, 43, 44, 45, 46, 53, 54, 55, 56, 57, 58, 59, 60, 61, 62, 63, 64, 65, 66, 67, 68, 69, 70] (by decide +kernel) (by decide +kernel)
set_option maxRecDepth 20000 in
theorem gX4_first_X4_nextRoad : GoodIn wsX4_first (wsV RX4 135 RX4 yX4_nextRoad wsX4_nextRoad) := goodIn_app (goodIn_of _ (by decide +kernel)) ggX4_first_X4_nextRoad
theorem dX4_first_0 : decode cX4_first 0 = .ok (.aload_n 0, 1) := by decide +kernel
theorem dX4_first_1 : decode cX4_first 1 = .ok (.iconst 0, 1) := by decide +kernel
theorem dX4_first_2 : decode cX4_first 2 = .ok (.putfield 53, 3) := by decide +kernel
theorem dX4_first_5 : decode cX4_first 5 = .ok (.aload_n 0, 1) := by decide +kernel
theorem dX4_first_6 : decode cX4_first 6 = .ok (.iload_n 1, 1) := by decide +kernel
theorem dX4_first_7 : decode cX4_first 7 = .ok (.invokevirtual 67, 3) := by decide +kernel
theorem dX4_first_10 : decode cX4_first 10 = .ok (.ifCond .ne 9, 3) := by decide +kernel
theorem dX4_first_13 : decode cX4_first 13 = .ok (.aload_n 0, 1) := by decide +kernel
theorem dX4_first_14 : decode cX4_first 14 = .ok (.iconst 1, 1) := by decide +kernel
theorem dX4_first_15 : decode cX4_first 15 = .ok (.invokevirtual 63, 3) := by decide +kernel
theorem dX4_first_18 : decode cX4_first 18 = .ok (.ireturn, 1) := by decide +kernel
theorem dX4_first_19 : decode cX4_first 19 = .ok (.aload_n 0, 1) := by decide +kernel
theorem dX4_first_20 : decode cX4_first 20 = .ok (.iload_n 1, 1) := by decide +kernel
theorem dX4_first_21 : decode cX4_first 21 = .ok (.iconst (-1), 1) := by decide +kernel
theorem dX4_first_22 : decode cX4_first 22 = .ok (.invokevirtual 128, 3) := by decide +kernel
theorem dX4_first_25 : decode cX4_first 25 = .ok (.aload_n 0, 1) := by decide +kernel
theorem dX4_first_26 : decode cX4_first 26 = .ok (.invokevirtual 135, 3) := by decide +kernel
theorem dX4_first_29 : decode cX4_first 29 = .ok (.ireturn, 1) := by decide +kernel
set_option maxRecDepth 20000 in
theorem ggX4_wayToSide_X4_isSide : GoodIn wsX4_wayToSide wsX4_isSide := goodIn_r _ [6, 7, 8, 9, 5, 10, 53, 54, 55, 56, 57, 58, 59, 60, 61, 62, 63, 64, 65, 66, 67, 68, 69, 70] (by decide +kernel) (by decide +kernel)
set_option maxRecDepth 20000 in
theorem gX4_wayToSide_X4_isSide : GoodIn wsX4_wayToSide (wsV RX4 83 RX4 yX4_isSide wsX4_isSide) := goodIn_app (goodIn_of _ (by decide +kernel)) ggX4_wayToSide_X4_isSide
set_option maxRecDepth 20000 in
theorem ggX4_wayToSide_X4_fail : GoodIn wsX4_wayToSide wsX4_fail := goodIn_r _ [14, 1, 53, 54, 55, 56, 57, 58, 59, 60, 61, 62, 63, 64, 65, 66, 67, 68, 69, 70] (by decide +kernel) (by decide +kernel)
set_option maxRecDepth 20000 in
theorem gX4_wayToSide_X4_fail : GoodIn wsX4_wayToSide (wsV RX4 63 RX4 yX4_fail wsX4_fail) := goodIn_app (goodIn_of _ (by decide +kernel)) ggX4_wayToSide_X4_fail
set_option maxRecDepth 20000 in
theorem ggX4_wayToSide_X4_weigh : GoodIn wsX4_wayToSide wsX4_weigh := goodIn_r _ [18, 19, 20, 21, 22, 23, 7, 24, 25, 26, 5, 27, 28, 29, 30, 31, 32, 33, 34, 35, 36, 37, 38, 39, 40, 41, 42, 43, 44, 45, 46, 53, 54, 55, 56, 57, 58, 59, 60, 61, 62, 63, 64, 65, 66, 67, 68, 69, 70] (by decide +kernel) (by decide +kernel)
set_option maxRecDepth 20000 in
theorem gX4_wayToSide_X4_weigh : GoodIn wsX4_wayToSide (wsV RX4 128 RX4 yX4_weigh wsX4_weigh) := goodIn_app (goodIn_of _ (by decide +kernel)) ggX4_wayToSide_X4_weigh
set_option maxRecDepth 20000 in
theorem ggX4_wayToSide_X4_minutesLeft : GoodIn wsX4_wayToSide wsX4_minutesLeft := goodIn_r _ [50, 51, 52, 22, 39, 40, 41, 5, 42, 21, 53, 54, 55, 56, 57, 58, 59, 60, 61, 62, 63, 64, 65, 66, 67, 68, 69, 70] (by decide +kernel) (by decide +kernel)
set_option maxRecDepth 20000 in
theorem gX4_wayToSide_X4_minutesLeft : GoodIn wsX4_wayToSide (wsV RX4 132 RX4 yX4_minutesLeft wsX4_minutesLeft) := goodIn_app (goodIn_of _ (by decide +kernel)) ggX4_wayToSide_X4_minutesLeft
theorem dX4_wayToSide_0 : decode cX4_wayToSide 0 = .ok (.aload_n 0, 1) := by decide +kernel
theorem dX4_wayToSide_1 : decode cX4_wayToSide 1 = .ok (.iconst 0, 1) := by decide +kernel
theorem dX4_wayToSide_2 : decode cX4_wayToSide 2 = .ok (.putfield 53, 3) := by decide +kernel
theorem dX4_wayToSide_5 : decode cX4_wayToSide 5 = .ok (.aload_n 0, 1) := by decide +kernel
theorem dX4_wayToSide_6 : decode cX4_wayToSide 6 = .ok (.iload_n 1, 1) := by decide +kernel
theorem dX4_wayToSide_7 : decode cX4_wayToSide 7 = .ok (.iload_n 2, 1) := by decide +kernel
theorem dX4_wayToSide_8 : decode cX4_wayToSide 8 = .ok (.invokevirtual 83, 3) := by decide +kernel
theorem dX4_wayToSide_11 : decode cX4_wayToSide 11 = .ok (.ifCond .ne 9, 3) := by decide +kernel
theorem dX4_wayToSide_14 : decode cX4_wayToSide 14 = .ok (.aload_n 0, 1) := by decide +kernel
theorem dX4_wayToSide_15 : decode cX4_wayToSide 15 = .ok (.iconst 1, 1) := by decide +kernel
theorem dX4_wayToSide_16 : decode cX4_wayToSide 16 = .ok (.invokevirtual 63, 3) := by decide +kernel
theorem dX4_wayToSide_19 : decode cX4_wayToSide 19 = .ok (.ireturn, 1) := by decide +kernel
theorem dX4_wayToSide_20 : decode cX4_wayToSide 20 = .ok (.aload_n 0, 1) := by decide +kernel
theorem dX4_wayToSide_21 : decode cX4_wayToSide 21 = .ok (.iconst (-1), 1) := by decide +kernel
theorem dX4_wayToSide_22 : decode cX4_wayToSide 22 = .ok (.iconst 2, 1) := by decide +kernel
theorem dX4_wayToSide_23 : decode cX4_wayToSide 23 = .ok (.iload_n 1, 1) := by decide +kernel
theorem dX4_wayToSide_24 : decode cX4_wayToSide 24 = .ok (.imul, 1) := by decide +kernel
theorem dX4_wayToSide_25 : decode cX4_wayToSide 25 = .ok (.iload_n 2, 1) := by decide +kernel
theorem dX4_wayToSide_26 : decode cX4_wayToSide 26 = .ok (.iadd, 1) := by decide +kernel
theorem dX4_wayToSide_27 : decode cX4_wayToSide 27 = .ok (.invokevirtual 128, 3) := by decide +kernel
theorem dX4_wayToSide_30 : decode cX4_wayToSide 30 = .ok (.aload_n 0, 1) := by decide +kernel
theorem dX4_wayToSide_31 : decode cX4_wayToSide 31 = .ok (.invokevirtual 132, 3) := by decide +kernel
theorem dX4_wayToSide_34 : decode cX4_wayToSide 34 = .ok (.ireturn, 1) := by decide +kernel
set_option maxRecDepth 20000 in
theorem ggX4_firstToSide_X4_isSide : GoodIn wsX4_firstToSide wsX4_isSide := goodIn_r _ [6, 7, 8, 9, 5, 10, 53, 54, 55, 56, 57, 58, 59, 60, 61, 62, 63, 64, 65, 66, 67, 68, 69, 70] (by decide +kernel) (by decide +kernel)
set_option maxRecDepth 20000 in
theorem gX4_firstToSide_X4_isSide : GoodIn wsX4_firstToSide (wsV RX4 83 RX4 yX4_isSide wsX4_isSide) := goodIn_app (goodIn_of _ (by decide +kernel)) ggX4_firstToSide_X4_isSide
set_option maxRecDepth 20000 in
theorem ggX4_firstToSide_X4_fail : GoodIn wsX4_firstToSide wsX4_fail := goodIn_r _ [14, 1, 53, 54, 55, 56, 57, 58, 59, 60, 61, 62, 63, 64, 65, 66, 67, 68, 69, 70] (by decide +kernel) (by decide +kernel)
set_option maxRecDepth 20000 in
theorem gX4_firstToSide_X4_fail : GoodIn wsX4_firstToSide (wsV RX4 63 RX4 yX4_fail wsX4_fail) := goodIn_app (goodIn_of _ (by decide +kernel)) ggX4_firstToSide_X4_fail
set_option maxRecDepth 20000 in
theorem ggX4_firstToSide_X4_weigh : GoodIn wsX4_firstToSide wsX4_weigh := goodIn_r _ [18, 19, 20, 21, 22, 23, 7, 24, 25, 26, 5, 27, 28, 29, 30, 31, 32, 33, 34, 35, 36, 37, 38, 39, 40, 41, 42, 43, 44, 45, 46, 53, 54, 55, 56, 57, 58, 59, 60, 61, 62, 63, 64, 65, 66, 67, 68, 69, 70] (by decide +kernel) (by decide +kernel)
set_option maxRecDepth 20000 in
theorem gX4_firstToSide_X4_weigh : GoodIn wsX4_firstToSide (wsV RX4 128 RX4 yX4_weigh wsX4_weigh) := goodIn_app (goodIn_of _ (by decide +kernel)) ggX4_firstToSide_X4_weigh
set_option maxRecDepth 20000 in
theorem ggX4_firstToSide_X4_nextRoad : GoodIn wsX4_firstToSide wsX4_nextRoad := goodIn_r _ [50, 51, 52, 22, 39, 40, 41, 5, 42, 21, 24, 25, 26, 27, 20, 28, 29, 30, 31, 32, 33, 34, 35, 36, 37, 38, 43, 44, 45, 46, 53, 54, 55, 56, 57, 58, 59, 60, 61, 62, 63, 64, 65, 66, 67, 68, 69, 70] (by decide +kernel) (by decide +kernel)
set_option maxRecDepth 20000 in
theorem gX4_firstToSide_X4_nextRoad : GoodIn wsX4_firstToSide (wsV RX4 135 RX4 yX4_nextRoad wsX4_nextRoad) := goodIn_app (goodIn_of _ (by decide +kernel)) ggX4_firstToSide_X4_nextRoad
theorem dX4_firstToSide_0 : decode cX4_firstToSide 0 = .ok (.aload_n 0, 1) := by decide +kernel
theorem dX4_firstToSide_1 : decode cX4_firstToSide 1 = .ok (.iconst 0, 1) := by decide +kernel
theorem dX4_firstToSide_2 : decode cX4_firstToSide 2 = .ok (.putfield 53, 3) := by decide +kernel
theorem dX4_firstToSide_5 : decode cX4_firstToSide 5 = .ok (.aload_n 0, 1) := by decide +kernel
theorem dX4_firstToSide_6 : decode cX4_firstToSide 6 = .ok (.iload_n 1, 1) := by decide +kernel
theorem dX4_firstToSide_7 : decode cX4_firstToSide 7 = .ok (.iload_n 2, 1) := by decide +kernel
theorem dX4_firstToSide_8 : decode cX4_firstToSide 8 = .ok (.invokevirtual 83, 3) := by decide +kernel
theorem dX4_firstToSide_11 : decode cX4_firstToSide 11 = .ok (.ifCond .ne 9, 3) := by decide +kernel
theorem dX4_firstToSide_14 : decode cX4_firstToSide 14 = .ok (.aload_n 0, 1) := by decide +kernel
theorem dX4_firstToSide_15 : decode cX4_firstToSide 15 = .ok (.iconst 1, 1) := by decide +kernel
theorem dX4_firstToSide_16 : decode cX4_firstToSide 16 = .ok (.invokevirtual 63, 3) := by decide +kernel
theorem dX4_firstToSide_19 : decode cX4_firstToSide 19 = .ok (.ireturn, 1) := by decide +kernel
theorem dX4_firstToSide_20 : decode cX4_firstToSide 20 = .ok (.aload_n 0, 1) := by decide +kernel
theorem dX4_firstToSide_21 : decode cX4_firstToSide 21 = .ok (.iconst (-1), 1) := by decide +kernel
theorem dX4_firstToSide_22 : decode cX4_firstToSide 22 = .ok (.iconst 2, 1) := by decide +kernel
theorem dX4_firstToSide_23 : decode cX4_firstToSide 23 = .ok (.iload_n 1, 1) := by decide +kernel
theorem dX4_firstToSide_24 : decode cX4_firstToSide 24 = .ok (.imul, 1) := by decide +kernel
theorem dX4_firstToSide_25 : decode cX4_firstToSide 25 = .ok (.iload_n 2, 1) := by decide +kernel
theorem dX4_firstToSide_26 : decode cX4_firstToSide 26 = .ok (.iadd, 1) := by decide +kernel
theorem dX4_firstToSide_27 : decode cX4_firstToSide 27 = .ok (.invokevirtual 128, 3) := by decide +kernel
theorem dX4_firstToSide_30 : decode cX4_firstToSide 30 = .ok (.aload_n 0, 1) := by decide +kernel
theorem dX4_firstToSide_31 : decode cX4_firstToSide 31 = .ok (.invokevirtual 135, 3) := by decide +kernel
theorem dX4_firstToSide_34 : decode cX4_firstToSide 34 = .ok (.ireturn, 1) := by decide +kernel
set_option maxRecDepth 20000 in
theorem ggX4_nextSide_X4_weigh : GoodIn wsX4_nextSide wsX4_weigh := goodIn_r _ [8, 9, 10, 11, 12, 13, 1, 14, 15, 16, 7, 17, 18, 19, 20, 21, 22, 23, 24, 25, 26, 27, 28, 29, 30, 31, 32, 33, 34, 35, 36, 43, 44, 45, 46, 47, 48, 49, 50, 51, 52, 53, 54, 55, 56, 57, 58, 59, 60] (by decide +kernel) (by decide +kernel)
set_option maxRecDepth 20000 in
theorem gX4_nextSide_X4_weigh : GoodIn wsX4_nextSide (wsV RX4 128 RX4 yX4_weigh wsX4_weigh) := goodIn_app (goodIn_of _ (by decide +kernel)) ggX4_nextSide_X4_weigh
set_option maxRecDepth 20000 in
theorem ggX4_nextSide_X4_minutesLeft : GoodIn wsX4_nextSide wsX4_minutesLeft := goodIn_r _ [40, 41, 42, 12, 29, 30, 31, 7, 32, 11, 43, 44, 45, 46, 47, 48, 49, 50, 51, 52, 53, 54, 55, 56, 57, 58, 59, 60] (by decide +kernel) (by decide +kernel)
set_option maxRecDepth 20000 in
theorem gX4_nextSide_X4_minutesLeft : GoodIn wsX4_nextSide (wsV RX4 132 RX4 yX4_minutesLeft wsX4_minutesLeft) := goodIn_app (goodIn_of _ (by decide +kernel)) ggX4_nextSide_X4_minutesLeft
theorem dX4_nextSide_0 : decode cX4_nextSide 0 = .ok (.iconst (-1), 1) := by decide +kernel
theorem dX4_nextSide_1 : decode cX4_nextSide 1 = .ok (.istore_n 1, 1) := by decide +kernel
theorem dX4_nextSide_2 : decode cX4_nextSide 2 = .ok (.iconst 0, 1) := by decide +kernel
theorem dX4_nextSide_3 : decode cX4_nextSide 3 = .ok (.istore_n 2, 1) := by decide +kernel
theorem dX4_nextSide_4 : decode cX4_nextSide 4 = .ok (.iconst 0, 1) := by decide +kernel
theorem dX4_nextSide_5 : decode cX4_nextSide 5 = .ok (.istore_n 3, 1) := by decide +kernel
theorem dX4_nextSide_6 : decode cX4_nextSide 6 = .ok (.iload_n 3, 1) := by decide +kernel
theorem dX4_nextSide_7 : decode cX4_nextSide 7 = .ok (.iconst 2, 1) := by decide +kernel
theorem dX4_nextSide_8 : decode cX4_nextSide 8 = .ok (.aload_n 0, 1) := by decide +kernel
theorem dX4_nextSide_9 : decode cX4_nextSide 9 = .ok (.getfield 60, 3) := by decide +kernel
theorem dX4_nextSide_12 : decode cX4_nextSide 12 = .ok (.imul, 1) := by decide +kernel
theorem dX4_nextSide_13 : decode cX4_nextSide 13 = .ok (.if_icmp .ge 103, 3) := by decide +kernel
theorem dX4_nextSide_16 : decode cX4_nextSide 16 = .ok (.aload_n 0, 1) := by decide +kernel
theorem dX4_nextSide_17 : decode cX4_nextSide 17 = .ok (.getfield 30, 3) := by decide +kernel
theorem dX4_nextSide_20 : decode cX4_nextSide 20 = .ok (.iload_n 3, 1) := by decide +kernel
theorem dX4_nextSide_21 : decode cX4_nextSide 21 = .ok (.iaload, 1) := by decide +kernel
theorem dX4_nextSide_22 : decode cX4_nextSide 22 = .ok (.bipush 50, 2) := by decide +kernel
theorem dX4_nextSide_24 : decode cX4_nextSide 24 = .ok (.if_icmp .lt 86, 3) := by decide +kernel
theorem dX4_nextSide_27 : decode cX4_nextSide 27 = .ok (.iload_n 1, 1) := by decide +kernel
theorem dX4_nextSide_28 : decode cX4_nextSide 28 = .ok (.iconst (-1), 1) := by decide +kernel
theorem dX4_nextSide_29 : decode cX4_nextSide 29 = .ok (.if_icmp .eq 25, 3) := by decide +kernel
theorem dX4_nextSide_32 : decode cX4_nextSide 32 = .ok (.aload_n 0, 1) := by decide +kernel
theorem dX4_nextSide_33 : decode cX4_nextSide 33 = .ok (.getfield 27, 3) := by decide +kernel
theorem dX4_nextSide_36 : decode cX4_nextSide 36 = .ok (.iload_n 3, 1) := by decide +kernel
theorem dX4_nextSide_37 : decode cX4_nextSide 37 = .ok (.iconst 2, 1) := by decide +kernel
theorem dX4_nextSide_38 : decode cX4_nextSide 38 = .ok (.idiv, 1) := by decide +kernel
theorem dX4_nextSide_39 : decode cX4_nextSide 39 = .ok (.iaload, 1) := by decide +kernel
theorem dX4_nextSide_40 : decode cX4_nextSide 40 = .ok (.aload_n 0, 1) := by decide +kernel
theorem dX4_nextSide_41 : decode cX4_nextSide 41 = .ok (.getfield 27, 3) := by decide +kernel
theorem dX4_nextSide_44 : decode cX4_nextSide 44 = .ok (.iload_n 1, 1) := by decide +kernel
theorem dX4_nextSide_45 : decode cX4_nextSide 45 = .ok (.iconst 2, 1) := by decide +kernel
theorem dX4_nextSide_46 : decode cX4_nextSide 46 = .ok (.idiv, 1) := by decide +kernel
theorem dX4_nextSide_47 : decode cX4_nextSide 47 = .ok (.iaload, 1) := by decide +kernel
theorem dX4_nextSide_48 : decode cX4_nextSide 48 = .ok (.if_icmp .le 6, 3) := by decide +kernel
theorem dX4_nextSide_51 : decode cX4_nextSide 51 = .ok (.goto 59, 3) := by decide +kernel
theorem dX4_nextSide_54 : decode cX4_nextSide 54 = .ok (.aload_n 0, 1) := by decide +kernel
theorem dX4_nextSide_55 : decode cX4_nextSide 55 = .ok (.iconst (-1), 1) := by decide +kernel
theorem dX4_nextSide_56 : decode cX4_nextSide 56 = .ok (.iload_n 3, 1) := by decide +kernel
theorem dX4_nextSide_57 : decode cX4_nextSide 57 = .ok (.invokevirtual 128, 3) := by decide +kernel
theorem dX4_nextSide_60 : decode cX4_nextSide 60 = .ok (.aload_n 0, 1) := by decide +kernel
theorem dX4_nextSide_61 : decode cX4_nextSide 61 = .ok (.invokevirtual 132, 3) := by decide +kernel
theorem dX4_nextSide_64 : decode cX4_nextSide 64 = .ok (.istore 4, 2) := by decide +kernel
theorem dX4_nextSide_66 : decode cX4_nextSide 66 = .ok (.iload 4, 2) := by decide +kernel
theorem dX4_nextSide_68 : decode cX4_nextSide 68 = .ok (.iconst (-1), 1) := by decide +kernel
theorem dX4_nextSide_69 : decode cX4_nextSide 69 = .ok (.if_icmp .eq 41, 3) := by decide +kernel
theorem dX4_nextSide_72 : decode cX4_nextSide 72 = .ok (.iload_n 1, 1) := by decide +kernel
theorem dX4_nextSide_73 : decode cX4_nextSide 73 = .ok (.iconst (-1), 1) := by decide +kernel
theorem dX4_nextSide_74 : decode cX4_nextSide 74 = .ok (.if_icmp .eq 31, 3) := by decide +kernel
theorem dX4_nextSide_77 : decode cX4_nextSide 77 = .ok (.aload_n 0, 1) := by decide +kernel
theorem dX4_nextSide_78 : decode cX4_nextSide 78 = .ok (.getfield 27, 3) := by decide +kernel
theorem dX4_nextSide_81 : decode cX4_nextSide 81 = .ok (.iload_n 3, 1) := by decide +kernel
theorem dX4_nextSide_82 : decode cX4_nextSide 82 = .ok (.iconst 2, 1) := by decide +kernel
theorem dX4_nextSide_83 : decode cX4_nextSide 83 = .ok (.idiv, 1) := by decide +kernel
theorem dX4_nextSide_84 : decode cX4_nextSide 84 = .ok (.iaload, 1) := by decide +kernel
theorem dX4_nextSide_85 : decode cX4_nextSide 85 = .ok (.aload_n 0, 1) := by decide +kernel
theorem dX4_nextSide_86 : decode cX4_nextSide 86 = .ok (.getfield 27, 3) := by decide +kernel
theorem dX4_nextSide_89 : decode cX4_nextSide 89 = .ok (.iload_n 1, 1) := by decide +kernel
theorem dX4_nextSide_90 : decode cX4_nextSide 90 = .ok (.iconst 2, 1) := by decide +kernel
theorem dX4_nextSide_91 : decode cX4_nextSide 91 = .ok (.idiv, 1) := by decide +kernel
theorem dX4_nextSide_92 : decode cX4_nextSide 92 = .ok (.iaload, 1) := by decide +kernel
theorem dX4_nextSide_93 : decode cX4_nextSide 93 = .ok (.if_icmp .ne 12, 3) := by decide +kernel
theorem dX4_nextSide_96 : decode cX4_nextSide 96 = .ok (.iload 4, 2) := by decide +kernel
theorem dX4_nextSide_98 : decode cX4_nextSide 98 = .ok (.iload_n 2, 1) := by decide +kernel
theorem dX4_nextSide_99 : decode cX4_nextSide 99 = .ok (.if_icmp .lt 6, 3) := by decide +kernel
theorem dX4_nextSide_102 : decode cX4_nextSide 102 = .ok (.goto 8, 3) := by decide +kernel
theorem dX4_nextSide_105 : decode cX4_nextSide 105 = .ok (.iload_n 3, 1) := by decide +kernel
theorem dX4_nextSide_106 : decode cX4_nextSide 106 = .ok (.istore_n 1, 1) := by decide +kernel
theorem dX4_nextSide_107 : decode cX4_nextSide 107 = .ok (.iload 4, 2) := by decide +kernel
theorem dX4_nextSide_109 : decode cX4_nextSide 109 = .ok (.istore_n 2, 1) := by decide +kernel
theorem dX4_nextSide_110 : decode cX4_nextSide 110 = .ok (.iinc 3 1, 3) := by decide +kernel
theorem dX4_nextSide_113 : decode cX4_nextSide 113 = .ok (.goto (-107), 3) := by decide +kernel
theorem dX4_nextSide_116 : decode cX4_nextSide 116 = .ok (.iload_n 1, 1) := by decide +kernel
theorem dX4_nextSide_117 : decode cX4_nextSide 117 = .ok (.ireturn, 1) := by decide +kernel
set_option maxRecDepth 20000 in
theorem ggX4_next_X4_nextSide : GoodIn wsX4_next wsX4_nextSide := goodIn_r _ [6, 7, 8, 9, 10, 11, 12, 5, 13, 14, 15, 16, 17, 18, 19, 20, 21, 22, 23, 24, 25, 26, 27, 28, 29, 30, 31, 32, 33, 34, 35, 36, 37, 38, 39, 40, 41, 42, 43, 44, 45, 46, 47, 48, 49, 50, 51, 52, 53, 54, 55, 56, 57, 58, 59, 60, 61, 62, 63, 64, 65] (by decide +kernel) (by decide +kernel)
set_option maxRecDepth 20000 in
theorem gX4_next_X4_nextSide : GoodIn wsX4_next (wsV RX4 138 RX4 yX4_nextSide wsX4_nextSide) := goodIn_app (goodIn_of _ (by decide +kernel)) ggX4_next_X4_nextSide
theorem dX4_next_0 : decode cX4_next 0 = .ok (.aload_n 0, 1) := by decide +kernel
theorem dX4_next_1 : decode cX4_next 1 = .ok (.iconst 0, 1) := by decide +kernel
theorem dX4_next_2 : decode cX4_next 2 = .ok (.putfield 53, 3) := by decide +kernel
theorem dX4_next_5 : decode cX4_next 5 = .ok (.aload_n 0, 1) := by decide +kernel
theorem dX4_next_6 : decode cX4_next 6 = .ok (.invokevirtual 138, 3) := by decide +kernel
theorem dX4_next_9 : decode cX4_next 9 = .ok (.ireturn, 1) := by decide +kernel
set_option maxRecDepth 20000 in
theorem ggX4_nearestStore_X4_weigh : GoodIn wsX4_nearestStore wsX4_weigh := goodIn_r _ [7, 8, 9, 10, 11, 1, 12, 13, 14, 15, 6, 16, 17, 18, 19, 20, 21, 22, 23, 24, 25, 26, 27, 28, 29, 30, 31, 32, 33, 34, 35, 42, 43, 44, 45, 46, 47, 48, 49, 50, 51, 52, 53, 54, 55, 56, 57, 58, 59] (by decide +kernel) (by decide +kernel)
set_option maxRecDepth 20000 in
theorem gX4_nearestStore_X4_weigh : GoodIn wsX4_nearestStore (wsV RX4 128 RX4 yX4_weigh wsX4_weigh) := goodIn_app (goodIn_of _ (by decide +kernel)) ggX4_nearestStore_X4_weigh
set_option maxRecDepth 20000 in
theorem ggX4_nearestStore_X4_minutesLeft : GoodIn wsX4_nearestStore wsX4_minutesLeft := goodIn_r _ [39, 40, 41, 11, 28, 29, 30, 6, 31, 10, 42, 43, 44, 45, 46, 47, 48, 49, 50, 51, 52, 53, 54, 55, 56, 57, 58, 59] (by decide +kernel) (by decide +kernel)
set_option maxRecDepth 20000 in
theorem gX4_nearestStore_X4_minutesLeft : GoodIn wsX4_nearestStore (wsV RX4 132 RX4 yX4_minutesLeft wsX4_minutesLeft) := goodIn_app (goodIn_of _ (by decide +kernel)) ggX4_nearestStore_X4_minutesLeft
theorem dX4_nearestStore_0 : decode cX4_nearestStore 0 = .ok (.iconst (-1), 1) := by decide +kernel
theorem dX4_nearestStore_1 : decode cX4_nearestStore 1 = .ok (.istore_n 1, 1) := by decide +kernel
theorem dX4_nearestStore_2 : decode cX4_nearestStore 2 = .ok (.iconst 0, 1) := by decide +kernel
theorem dX4_nearestStore_3 : decode cX4_nearestStore 3 = .ok (.istore_n 2, 1) := by decide +kernel
theorem dX4_nearestStore_4 : decode cX4_nearestStore 4 = .ok (.iconst 0, 1) := by decide +kernel
theorem dX4_nearestStore_5 : decode cX4_nearestStore 5 = .ok (.istore_n 3, 1) := by decide +kernel
theorem dX4_nearestStore_6 : decode cX4_nearestStore 6 = .ok (.iload_n 3, 1) := by decide +kernel
theorem dX4_nearestStore_7 : decode cX4_nearestStore 7 = .ok (.aload_n 0, 1) := by decide +kernel
theorem dX4_nearestStore_8 : decode cX4_nearestStore 8 = .ok (.getfield 7, 3) := by decide +kernel
theorem dX4_nearestStore_11 : decode cX4_nearestStore 11 = .ok (.if_icmp .ge 58, 3) := by decide +kernel
theorem dX4_nearestStore_14 : decode cX4_nearestStore 14 = .ok (.aload_n 0, 1) := by decide +kernel
theorem dX4_nearestStore_15 : decode cX4_nearestStore 15 = .ok (.getfield 17, 3) := by decide +kernel
theorem dX4_nearestStore_18 : decode cX4_nearestStore 18 = .ok (.iload_n 3, 1) := by decide +kernel
theorem dX4_nearestStore_19 : decode cX4_nearestStore 19 = .ok (.baload, 1) := by decide +kernel
theorem dX4_nearestStore_20 : decode cX4_nearestStore 20 = .ok (.ifCond .ne 6, 3) := by decide +kernel
theorem dX4_nearestStore_23 : decode cX4_nearestStore 23 = .ok (.goto 40, 3) := by decide +kernel
theorem dX4_nearestStore_26 : decode cX4_nearestStore 26 = .ok (.aload_n 0, 1) := by decide +kernel
theorem dX4_nearestStore_27 : decode cX4_nearestStore 27 = .ok (.iload_n 3, 1) := by decide +kernel
theorem dX4_nearestStore_28 : decode cX4_nearestStore 28 = .ok (.iconst (-1), 1) := by decide +kernel
theorem dX4_nearestStore_29 : decode cX4_nearestStore 29 = .ok (.invokevirtual 128, 3) := by decide +kernel
theorem dX4_nearestStore_32 : decode cX4_nearestStore 32 = .ok (.aload_n 0, 1) := by decide +kernel
theorem dX4_nearestStore_33 : decode cX4_nearestStore 33 = .ok (.invokevirtual 132, 3) := by decide +kernel
theorem dX4_nearestStore_36 : decode cX4_nearestStore 36 = .ok (.istore 4, 2) := by decide +kernel
theorem dX4_nearestStore_38 : decode cX4_nearestStore 38 = .ok (.iload 4, 2) := by decide +kernel
theorem dX4_nearestStore_40 : decode cX4_nearestStore 40 = .ok (.iconst (-1), 1) := by decide +kernel
theorem dX4_nearestStore_41 : decode cX4_nearestStore 41 = .ok (.if_icmp .eq 22, 3) := by decide +kernel
theorem dX4_nearestStore_44 : decode cX4_nearestStore 44 = .ok (.iload_n 1, 1) := by decide +kernel
theorem dX4_nearestStore_45 : decode cX4_nearestStore 45 = .ok (.iconst (-1), 1) := by decide +kernel
theorem dX4_nearestStore_46 : decode cX4_nearestStore 46 = .ok (.if_icmp .eq 12, 3) := by decide +kernel
theorem dX4_nearestStore_49 : decode cX4_nearestStore 49 = .ok (.iload 4, 2) := by decide +kernel
theorem dX4_nearestStore_51 : decode cX4_nearestStore 51 = .ok (.iload_n 2, 1) := by decide +kernel
theorem dX4_nearestStore_52 : decode cX4_nearestStore 52 = .ok (.if_icmp .lt 6, 3) := by decide +kernel
theorem dX4_nearestStore_55 : decode cX4_nearestStore 55 = .ok (.goto 8, 3) := by decide +kernel
theorem dX4_nearestStore_58 : decode cX4_nearestStore 58 = .ok (.iload_n 3, 1) := by decide +kernel
theorem dX4_nearestStore_59 : decode cX4_nearestStore 59 = .ok (.istore_n 1, 1) := by decide +kernel
theorem dX4_nearestStore_60 : decode cX4_nearestStore 60 = .ok (.iload 4, 2) := by decide +kernel
theorem dX4_nearestStore_62 : decode cX4_nearestStore 62 = .ok (.istore_n 2, 1) := by decide +kernel
theorem dX4_nearestStore_63 : decode cX4_nearestStore 63 = .ok (.iinc 3 1, 3) := by decide +kernel
theorem dX4_nearestStore_66 : decode cX4_nearestStore 66 = .ok (.goto (-60), 3) := by decide +kernel
theorem dX4_nearestStore_69 : decode cX4_nearestStore 69 = .ok (.iload_n 1, 1) := by decide +kernel
theorem dX4_nearestStore_70 : decode cX4_nearestStore 70 = .ok (.ireturn, 1) := by decide +kernel
set_option maxRecDepth 20000 in
theorem ggX4_follow_X4_weigh : GoodIn wsX4_follow wsX4_weigh := goodIn_r _ [7, 8, 9, 10, 11, 12, 13, 14, 15, 16, 6, 17, 18, 19, 20, 21, 22, 23, 24, 25, 26, 27, 28, 29, 30, 31, 32, 33, 34, 35, 36, 54, 55, 56, 57, 58, 59, 60, 61, 62, 63, 64, 65, 66, 67, 68, 69, 70, 71] (by decide +kernel) (by decide +kernel)
set_option maxRecDepth 20000 in
theorem gX4_follow_X4_weigh : GoodIn wsX4_follow (wsV RX4 128 RX4 yX4_weigh wsX4_weigh) := goodIn_app (goodIn_of _ (by decide +kernel)) ggX4_follow_X4_weigh
set_option maxRecDepth 20000 in
theorem ggX4_follow_X4_nextRoad : GoodIn wsX4_follow wsX4_nextRoad := goodIn_r _ [40, 1, 2, 11, 29, 30, 31, 6, 32, 10, 14, 15, 16, 17, 9, 18, 19, 20, 21, 22, 23, 24, 25, 26, 27, 28, 33, 34, 35, 36, 54, 55, 56, 57, 58, 59, 60, 61, 62, 63, 64, 65, 66, 67, 68, 69, 70, 71] (by decide +kernel) (by decide +kernel)
set_option maxRecDepth 20000 in
theorem gX4_follow_X4_nextRoad : GoodIn wsX4_follow (wsV RX4 135 RX4 yX4_nextRoad wsX4_nextRoad) := goodIn_app (goodIn_of _ (by decide +kernel)) ggX4_follow_X4_nextRoad
set_option maxRecDepth 20000 in
theorem ggX4_follow_X4_sideOf : GoodIn wsX4_follow wsX4_sideOf := goodIn_r _ [22, 23, 24, 54, 55, 56, 57, 58, 59, 60, 61, 62, 63, 64, 65, 66, 67, 68, 69, 70, 71] (by decide +kernel) (by decide +kernel)
set_option maxRecDepth 20000 in
theorem gX4_follow_X4_sideOf : GoodIn wsX4_follow (wsV RX4 96 RX4 yX4_sideOf wsX4_sideOf) := goodIn_app (goodIn_of _ (by decide +kernel)) ggX4_follow_X4_sideOf
set_option maxRecDepth 20000 in
theorem ggX4_follow_X4_drive : GoodIn wsX4_follow wsX4_drive := goodIn_r _ [44, 1, 2, 18, 45, 46, 47, 48, 49, 50, 51, 52, 53, 19, 20, 21, 6, 22, 23, 24, 33, 34, 35, 36, 25, 26, 27, 28, 54, 55, 56, 57, 58, 59, 60, 61, 62, 63, 64, 65, 66, 67, 68, 69, 70, 71] (by decide +kernel) (by decide +kernel)
set_option maxRecDepth 20000 in
theorem gX4_follow_X4_drive : GoodIn wsX4_follow (wsV RX4 103 RX4 yX4_drive wsX4_drive) := goodIn_app (goodIn_of _ (by decide +kernel)) ggX4_follow_X4_drive
theorem dX4_follow_0 : decode cX4_follow 0 = .ok (.aload_n 0, 1) := by decide +kernel
theorem dX4_follow_1 : decode cX4_follow 1 = .ok (.iload_n 1, 1) := by decide +kernel
theorem dX4_follow_2 : decode cX4_follow 2 = .ok (.iload_n 2, 1) := by decide +kernel
theorem dX4_follow_3 : decode cX4_follow 3 = .ok (.invokevirtual 128, 3) := by decide +kernel
theorem dX4_follow_6 : decode cX4_follow 6 = .ok (.iconst 0, 1) := by decide +kernel
theorem dX4_follow_7 : decode cX4_follow 7 = .ok (.istore_n 3, 1) := by decide +kernel
theorem dX4_follow_8 : decode cX4_follow 8 = .ok (.aload_n 0, 1) := by decide +kernel
theorem dX4_follow_9 : decode cX4_follow 9 = .ok (.invokevirtual 135, 3) := by decide +kernel
theorem dX4_follow_12 : decode cX4_follow 12 = .ok (.istore 4, 2) := by decide +kernel
theorem dX4_follow_14 : decode cX4_follow 14 = .ok (.iload 4, 2) := by decide +kernel
theorem dX4_follow_16 : decode cX4_follow 16 = .ok (.iconst (-1), 1) := by decide +kernel
theorem dX4_follow_17 : decode cX4_follow 17 = .ok (.if_icmp .eq 55, 3) := by decide +kernel
theorem dX4_follow_20 : decode cX4_follow 20 = .ok (.aload_n 0, 1) := by decide +kernel
theorem dX4_follow_21 : decode cX4_follow 21 = .ok (.iload 4, 2) := by decide +kernel
theorem dX4_follow_23 : decode cX4_follow 23 = .ok (.aload_n 0, 1) := by decide +kernel
theorem dX4_follow_24 : decode cX4_follow 24 = .ok (.getfield 93, 3) := by decide +kernel
theorem dX4_follow_27 : decode cX4_follow 27 = .ok (.aload_n 0, 1) := by decide +kernel
theorem dX4_follow_28 : decode cX4_follow 28 = .ok (.getfield 36, 3) := by decide +kernel
theorem dX4_follow_31 : decode cX4_follow 31 = .ok (.invokevirtual 96, 3) := by decide +kernel
theorem dX4_follow_34 : decode cX4_follow 34 = .ok (.iload_n 2, 1) := by decide +kernel
theorem dX4_follow_35 : decode cX4_follow 35 = .ok (.if_icmp .ne 7, 3) := by decide +kernel
theorem dX4_follow_38 : decode cX4_follow 38 = .ok (.iconst 1, 1) := by decide +kernel
theorem dX4_follow_39 : decode cX4_follow 39 = .ok (.goto 4, 3) := by decide +kernel
theorem dX4_follow_42 : decode cX4_follow 42 = .ok (.iconst 0, 1) := by decide +kernel
theorem dX4_follow_43 : decode cX4_follow 43 = .ok (.istore 5, 2) := by decide +kernel
theorem dX4_follow_45 : decode cX4_follow 45 = .ok (.iload_n 3, 1) := by decide +kernel
theorem dX4_follow_46 : decode cX4_follow 46 = .ok (.aload_n 0, 1) := by decide +kernel
theorem dX4_follow_47 : decode cX4_follow 47 = .ok (.iload 4, 2) := by decide +kernel
theorem dX4_follow_49 : decode cX4_follow 49 = .ok (.invokevirtual 103, 3) := by decide +kernel
theorem dX4_follow_52 : decode cX4_follow 52 = .ok (.iadd, 1) := by decide +kernel
theorem dX4_follow_53 : decode cX4_follow 53 = .ok (.istore_n 3, 1) := by decide +kernel
theorem dX4_follow_54 : decode cX4_follow 54 = .ok (.iload 5, 2) := by decide +kernel
theorem dX4_follow_56 : decode cX4_follow 56 = .ok (.ifCond .eq 7, 3) := by decide +kernel
theorem dX4_follow_59 : decode cX4_follow 59 = .ok (.iconst (-1), 1) := by decide +kernel
theorem dX4_follow_60 : decode cX4_follow 60 = .ok (.goto 7, 3) := by decide +kernel
theorem dX4_follow_63 : decode cX4_follow 63 = .ok (.aload_n 0, 1) := by decide +kernel
theorem dX4_follow_64 : decode cX4_follow 64 = .ok (.invokevirtual 135, 3) := by decide +kernel
theorem dX4_follow_67 : decode cX4_follow 67 = .ok (.istore 4, 2) := by decide +kernel
theorem dX4_follow_69 : decode cX4_follow 69 = .ok (.goto (-55), 3) := by decide +kernel
theorem dX4_follow_72 : decode cX4_follow 72 = .ok (.iload_n 3, 1) := by decide +kernel
theorem dX4_follow_73 : decode cX4_follow 73 = .ok (.ireturn, 1) := by decide +kernel
set_option maxRecDepth 20000 in
theorem ggX4_clear_X4_isIn : GoodIn wsX4_clear wsX4_isIn := goodIn_r _ [8] (by decide +kernel) (by decide +kernel)
set_option maxRecDepth 20000 in
theorem gX4_clear_X4_isIn : GoodIn wsX4_clear (va_wsS RX4 56 yX4_isIn wsX4_isIn) := goodIn_app (goodIn_of _ (by decide +kernel)) ggX4_clear_X4_isIn
set_option maxRecDepth 20000 in
theorem ggX4_clear_X4_fail : GoodIn wsX4_clear wsX4_fail := goodIn_r _ [12, 1, 85, 86, 87, 88, 89, 90, 91, 92, 93, 94, 95, 96, 97, 98, 99, 100, 101, 102] (by decide +kernel) (by decide +kernel)
set_option maxRecDepth 20000 in
theorem gX4_clear_X4_fail : GoodIn wsX4_clear (wsV RX4 63 RX4 yX4_fail wsX4_fail) := goodIn_app (goodIn_of _ (by decide +kernel)) ggX4_clear_X4_fail
set_option maxRecDepth 20000 in
theorem ggX4_clear_X4_nextSide : GoodIn wsX4_clear wsX4_nextSide := goodIn_r _ [16, 17, 18, 19, 20, 21, 22, 7, 23, 24, 25, 26, 27, 28, 29, 30, 31, 32, 4, 33, 34, 35, 36, 37, 38, 39, 40, 41, 42, 43, 44, 45, 46, 47, 48, 49, 50, 51, 52, 53, 54, 55, 56, 85, 86, 87, 88, 89, 90, 91, 92, 93, 94, 95, 96, 97, 98, 99, 100, 101, 102] (by decide +kernel) (by decide +kernel)
set_option maxRecDepth 20000 in
theorem gX4_clear_X4_nextSide : GoodIn wsX4_clear (wsV RX4 138 RX4 yX4_nextSide wsX4_nextSide) := goodIn_app (goodIn_of _ (by decide +kernel)) ggX4_clear_X4_nextSide
set_option maxRecDepth 20000 in
theorem ggX4_clear_X4_nearestStore : GoodIn wsX4_clear wsX4_nearestStore := goodIn_r _ [60, 28, 61, 20, 21, 22, 7, 23, 24, 25, 26, 27, 17, 29, 30, 31, 32, 4, 33, 34, 35, 36, 37, 38, 39, 40, 41, 42, 43, 44, 45, 46, 47, 48, 49, 50, 51, 52, 53, 54, 55, 56, 85, 86, 87, 88, 89, 90, 91, 92, 93, 94, 95, 96, 97, 98, 99, 100, 101, 102] (by decide +kernel) (by decide +kernel)
set_option maxRecDepth 20000 in
theorem gX4_clear_X4_nearestStore : GoodIn wsX4_clear (wsV RX4 141 RX4 yX4_nearestStore wsX4_nearestStore) := goodIn_app (goodIn_of _ (by decide +kernel)) ggX4_clear_X4_nearestStore
set_option maxRecDepth 20000 in
theorem ggX4_clear_X4_follow : GoodIn wsX4_clear wsX4_follow := goodIn_r _ [65, 55, 56, 20, 21, 22, 7, 23, 24, 25, 26, 27, 28, 17, 29, 30, 31, 32, 4, 33, 34, 35, 36, 37, 38, 39, 40, 41, 42, 43, 44, 45, 46, 47, 48, 49, 50, 66, 67, 68, 69, 70, 71, 72, 73, 18, 2, 3, 74, 75, 76, 77, 78, 79, 85, 86, 87, 88, 89, 90, 91, 92, 93, 94, 95, 96, 97, 98, 99, 100, 101, 102] (by decide +kernel) (by decide +kernel)
set_option maxRecDepth 20000 in
theorem gX4_clear_X4_follow : GoodIn wsX4_clear (wsV RX4 144 RX4 yX4_follow wsX4_follow) := goodIn_app (goodIn_of _ (by decide +kernel)) ggX4_clear_X4_follow
set_option maxRecDepth 20000 in
theorem ggX4_clear_X4_fillUp : GoodIn wsX4_clear wsX4_fillUp := goodIn_r _ [83, 3, 75, 84, 85, 86, 87, 88, 89, 90, 91, 92, 93, 94, 95, 96, 97, 98, 99, 100, 101, 102] (by decide +kernel) (by decide +kernel)
set_option maxRecDepth 20000 in
theorem gX4_clear_X4_fillUp : GoodIn wsX4_clear (wsV RX4 108 RX4 yX4_fillUp wsX4_fillUp) := goodIn_app (goodIn_of _ (by decide +kernel)) ggX4_clear_X4_fillUp
theorem dX4_clear_0 : decode cX4_clear 0 = .ok (.aload_n 0, 1) := by decide +kernel
theorem dX4_clear_1 : decode cX4_clear 1 = .ok (.iconst 0, 1) := by decide +kernel
theorem dX4_clear_2 : decode cX4_clear 2 = .ok (.putfield 53, 3) := by decide +kernel
theorem dX4_clear_5 : decode cX4_clear 5 = .ok (.iload_n 1, 1) := by decide +kernel
theorem dX4_clear_6 : decode cX4_clear 6 = .ok (.iconst 0, 1) := by decide +kernel
theorem dX4_clear_7 : decode cX4_clear 7 = .ok (.sipush 300, 3) := by decide +kernel
theorem dX4_clear_10 : decode cX4_clear 10 = .ok (.invokestatic 56, 3) := by decide +kernel
theorem dX4_clear_13 : decode cX4_clear 13 = .ok (.ifCond .ne 9, 3) := by decide +kernel
theorem dX4_clear_16 : decode cX4_clear 16 = .ok (.aload_n 0, 1) := by decide +kernel
theorem dX4_clear_17 : decode cX4_clear 17 = .ok (.iconst 1, 1) := by decide +kernel
theorem dX4_clear_18 : decode cX4_clear 18 = .ok (.invokevirtual 63, 3) := by decide +kernel
theorem dX4_clear_21 : decode cX4_clear 21 = .ok (.ireturn, 1) := by decide +kernel
theorem dX4_clear_22 : decode cX4_clear 22 = .ok (.iconst 0, 1) := by decide +kernel
theorem dX4_clear_23 : decode cX4_clear 23 = .ok (.istore_n 2, 1) := by decide +kernel
theorem dX4_clear_24 : decode cX4_clear 24 = .ok (.aload_n 0, 1) := by decide +kernel
theorem dX4_clear_25 : decode cX4_clear 25 = .ok (.invokevirtual 138, 3) := by decide +kernel
theorem dX4_clear_28 : decode cX4_clear 28 = .ok (.istore_n 3, 1) := by decide +kernel
theorem dX4_clear_29 : decode cX4_clear 29 = .ok (.iload_n 3, 1) := by decide +kernel
theorem dX4_clear_30 : decode cX4_clear 30 = .ok (.iconst (-1), 1) := by decide +kernel
theorem dX4_clear_31 : decode cX4_clear 31 = .ok (.if_icmp .eq 89, 3) := by decide +kernel
theorem dX4_clear_34 : decode cX4_clear 34 = .ok (.iload_n 2, 1) := by decide +kernel
theorem dX4_clear_35 : decode cX4_clear 35 = .ok (.iload_n 1, 1) := by decide +kernel
theorem dX4_clear_36 : decode cX4_clear 36 = .ok (.if_icmp .ge 84, 3) := by decide +kernel
theorem dX4_clear_39 : decode cX4_clear 39 = .ok (.aload_n 0, 1) := by decide +kernel
theorem dX4_clear_40 : decode cX4_clear 40 = .ok (.getfield 42, 3) := by decide +kernel
theorem dX4_clear_43 : decode cX4_clear 43 = .ok (.ifCond .eq 52, 3) := by decide +kernel
theorem dX4_clear_46 : decode cX4_clear 46 = .ok (.aload_n 0, 1) := by decide +kernel
theorem dX4_clear_47 : decode cX4_clear 47 = .ok (.getfield 39, 3) := by decide +kernel
theorem dX4_clear_50 : decode cX4_clear 50 = .ok (.aload_n 0, 1) := by decide +kernel
theorem dX4_clear_51 : decode cX4_clear 51 = .ok (.getfield 24, 3) := by decide +kernel
theorem dX4_clear_54 : decode cX4_clear 54 = .ok (.iload_n 3, 1) := by decide +kernel
theorem dX4_clear_55 : decode cX4_clear 55 = .ok (.iconst 2, 1) := by decide +kernel
theorem dX4_clear_56 : decode cX4_clear 56 = .ok (.idiv, 1) := by decide +kernel
theorem dX4_clear_57 : decode cX4_clear 57 = .ok (.iaload, 1) := by decide +kernel
theorem dX4_clear_58 : decode cX4_clear 58 = .ok (.if_icmp .ge 37, 3) := by decide +kernel
theorem dX4_clear_61 : decode cX4_clear 61 = .ok (.aload_n 0, 1) := by decide +kernel
theorem dX4_clear_62 : decode cX4_clear 62 = .ok (.invokevirtual 141, 3) := by decide +kernel
theorem dX4_clear_65 : decode cX4_clear 65 = .ok (.istore 4, 2) := by decide +kernel
theorem dX4_clear_67 : decode cX4_clear 67 = .ok (.iload 4, 2) := by decide +kernel
theorem dX4_clear_69 : decode cX4_clear 69 = .ok (.iconst (-1), 1) := by decide +kernel
theorem dX4_clear_70 : decode cX4_clear 70 = .ok (.if_icmp .eq 25, 3) := by decide +kernel
theorem dX4_clear_73 : decode cX4_clear 73 = .ok (.iload_n 2, 1) := by decide +kernel
theorem dX4_clear_74 : decode cX4_clear 74 = .ok (.aload_n 0, 1) := by decide +kernel
theorem dX4_clear_75 : decode cX4_clear 75 = .ok (.iload 4, 2) := by decide +kernel
theorem dX4_clear_77 : decode cX4_clear 77 = .ok (.iconst (-1), 1) := by decide +kernel
theorem dX4_clear_78 : decode cX4_clear 78 = .ok (.invokevirtual 144, 3) := by decide +kernel
theorem dX4_clear_81 : decode cX4_clear 81 = .ok (.iconst 4, 1) := by decide +kernel
theorem dX4_clear_82 : decode cX4_clear 82 = .ok (.iadd, 1) := by decide +kernel
theorem dX4_clear_83 : decode cX4_clear 83 = .ok (.iadd, 1) := by decide +kernel
theorem dX4_clear_84 : decode cX4_clear 84 = .ok (.istore_n 2, 1) := by decide +kernel
theorem dX4_clear_85 : decode cX4_clear 85 = .ok (.aload_n 0, 1) := by decide +kernel
theorem dX4_clear_86 : decode cX4_clear 86 = .ok (.invokevirtual 108, 3) := by decide +kernel
theorem dX4_clear_89 : decode cX4_clear 89 = .ok (.pop, 1) := by decide +kernel
theorem dX4_clear_90 : decode cX4_clear 90 = .ok (.aload_n 0, 1) := by decide +kernel
theorem dX4_clear_91 : decode cX4_clear 91 = .ok (.invokevirtual 138, 3) := by decide +kernel
theorem dX4_clear_94 : decode cX4_clear 94 = .ok (.istore_n 3, 1) := by decide +kernel
theorem dX4_clear_95 : decode cX4_clear 95 = .ok (.iload_n 3, 1) := by decide +kernel
theorem dX4_clear_96 : decode cX4_clear 96 = .ok (.iconst (-1), 1) := by decide +kernel
theorem dX4_clear_97 : decode cX4_clear 97 = .ok (.if_icmp .ne 6, 3) := by decide +kernel
theorem dX4_clear_100 : decode cX4_clear 100 = .ok (.goto (-71), 3) := by decide +kernel
theorem dX4_clear_103 : decode cX4_clear 103 = .ok (.iload_n 2, 1) := by decide +kernel
theorem dX4_clear_104 : decode cX4_clear 104 = .ok (.aload_n 0, 1) := by decide +kernel
theorem dX4_clear_105 : decode cX4_clear 105 = .ok (.iconst (-1), 1) := by decide +kernel
theorem dX4_clear_106 : decode cX4_clear 106 = .ok (.iload_n 3, 1) := by decide +kernel
theorem dX4_clear_107 : decode cX4_clear 107 = .ok (.invokevirtual 144, 3) := by decide +kernel
theorem dX4_clear_110 : decode cX4_clear 110 = .ok (.iadd, 1) := by decide +kernel
theorem dX4_clear_111 : decode cX4_clear 111 = .ok (.istore_n 2, 1) := by decide +kernel
theorem dX4_clear_112 : decode cX4_clear 112 = .ok (.aload_n 0, 1) := by decide +kernel
theorem dX4_clear_113 : decode cX4_clear 113 = .ok (.invokevirtual 138, 3) := by decide +kernel
theorem dX4_clear_116 : decode cX4_clear 116 = .ok (.istore_n 3, 1) := by decide +kernel
theorem dX4_clear_117 : decode cX4_clear 117 = .ok (.goto (-88), 3) := by decide +kernel
theorem dX4_clear_120 : decode cX4_clear 120 = .ok (.iload_n 2, 1) := by decide +kernel
theorem dX4_clear_121 : decode cX4_clear 121 = .ok (.ireturn, 1) := by decide +kernel
set_option maxRecDepth 20000 in
theorem ggX4_total_X4_isIn : GoodIn wsX4_total wsX4_isIn := goodIn_r _ [6] (by decide +kernel) (by decide +kernel)
set_option maxRecDepth 20000 in
theorem gX4_total_X4_isIn : GoodIn wsX4_total (va_wsS RX4 56 yX4_isIn wsX4_isIn) := goodIn_app (goodIn_of _ (by decide +kernel)) ggX4_total_X4_isIn
theorem dX4_total_0 : decode cX4_total 0 = .ok (.aload_n 0, 1) := by decide +kernel
theorem dX4_total_1 : decode cX4_total 1 = .ok (.iload_n 1, 1) := by decide +kernel
theorem dX4_total_2 : decode cX4_total 2 = .ok (.iconst 0, 1) := by decide +kernel
theorem dX4_total_3 : decode cX4_total 3 = .ok (.iconst 3, 1) := by decide +kernel
theorem dX4_total_4 : decode cX4_total 4 = .ok (.invokestatic 56, 3) := by decide +kernel
theorem dX4_total_7 : decode cX4_total 7 = .ok (.ifCond .eq 7, 3) := by decide +kernel
theorem dX4_total_10 : decode cX4_total 10 = .ok (.iconst 0, 1) := by decide +kernel
theorem dX4_total_11 : decode cX4_total 11 = .ok (.goto 4, 3) := by decide +kernel
theorem dX4_total_14 : decode cX4_total 14 = .ok (.iconst 1, 1) := by decide +kernel
theorem dX4_total_15 : decode cX4_total 15 = .ok (.putfield 53, 3) := by decide +kernel
theorem dX4_total_18 : decode cX4_total 18 = .ok (.aload_n 0, 1) := by decide +kernel
theorem dX4_total_19 : decode cX4_total 19 = .ok (.getfield 53, 3) := by decide +kernel
theorem dX4_total_22 : decode cX4_total 22 = .ok (.ifCond .ne 12, 3) := by decide +kernel
theorem dX4_total_25 : decode cX4_total 25 = .ok (.aload_n 0, 1) := by decide +kernel
theorem dX4_total_26 : decode cX4_total 26 = .ok (.getfield 46, 3) := by decide +kernel
theorem dX4_total_29 : decode cX4_total 29 = .ok (.iload_n 1, 1) := by decide +kernel
theorem dX4_total_30 : decode cX4_total 30 = .ok (.laload, 1) := by decide +kernel
theorem dX4_total_31 : decode cX4_total 31 = .ok (.goto 4, 3) := by decide +kernel
theorem dX4_total_34 : decode cX4_total 34 = .ok (.lconst 0, 1) := by decide +kernel
theorem dX4_total_35 : decode cX4_total 35 = .ok (.lreturn, 1) := by decide +kernel
set_option maxRecDepth 20000 in
theorem ggX4_digest_X4_told : GoodIn wsX4_digest wsX4_told := goodIn_r _ [16, 17, 18, 19, 20, 21, 22, 23, 24, 25, 26, 27, 28, 29, 30, 31, 32, 33, 34, 35, 36, 37, 38] (by decide +kernel) (by decide +kernel)
set_option maxRecDepth 20000 in
theorem gX4_digest_X4_told : GoodIn wsX4_digest (wsV RX4 112 RX4 yX4_told wsX4_told) := goodIn_app (goodIn_of _ (by decide +kernel)) ggX4_digest_X4_told
theorem dX4_digest_0 : decode cX4_digest 0 = .ok (.aload_n 0, 1) := by decide +kernel
theorem dX4_digest_1 : decode cX4_digest 1 = .ok (.iconst 0, 1) := by decide +kernel
theorem dX4_digest_2 : decode cX4_digest 2 = .ok (.putfield 53, 3) := by decide +kernel
theorem dX4_digest_5 : decode cX4_digest 5 = .ok (.ldc2_w 147, 3) := by decide +kernel
theorem dX4_digest_8 : decode cX4_digest 8 = .ok (.aload_n 0, 1) := by decide +kernel
theorem dX4_digest_9 : decode cX4_digest 9 = .ok (.getfield 7, 3) := by decide +kernel
theorem dX4_digest_12 : decode cX4_digest 12 = .ok (.i2l, 1) := by decide +kernel
theorem dX4_digest_13 : decode cX4_digest 13 = .ok (.ladd, 1) := by decide +kernel
theorem dX4_digest_14 : decode cX4_digest 14 = .ok (.lstore_n 1, 1) := by decide +kernel
theorem dX4_digest_15 : decode cX4_digest 15 = .ok (.iconst 0, 1) := by decide +kernel
theorem dX4_digest_16 : decode cX4_digest 16 = .ok (.istore_n 3, 1) := by decide +kernel
theorem dX4_digest_17 : decode cX4_digest 17 = .ok (.iload_n 3, 1) := by decide +kernel
theorem dX4_digest_18 : decode cX4_digest 18 = .ok (.aload_n 0, 1) := by decide +kernel
theorem dX4_digest_19 : decode cX4_digest 19 = .ok (.getfield 7, 3) := by decide +kernel
theorem dX4_digest_22 : decode cX4_digest 22 = .ok (.if_icmp .ge 47, 3) := by decide +kernel
theorem dX4_digest_25 : decode cX4_digest 25 = .ok (.lload_n 1, 1) := by decide +kernel
theorem dX4_digest_26 : decode cX4_digest 26 = .ok (.ldc2_w 149, 3) := by decide +kernel
theorem dX4_digest_29 : decode cX4_digest 29 = .ok (.lmul, 1) := by decide +kernel
theorem dX4_digest_30 : decode cX4_digest 30 = .ok (.aload_n 0, 1) := by decide +kernel
theorem dX4_digest_31 : decode cX4_digest 31 = .ok (.getfield 13, 3) := by decide +kernel
theorem dX4_digest_34 : decode cX4_digest 34 = .ok (.iload_n 3, 1) := by decide +kernel
theorem dX4_digest_35 : decode cX4_digest 35 = .ok (.baload, 1) := by decide +kernel
theorem dX4_digest_36 : decode cX4_digest 36 = .ok (.ifCond .eq 7, 3) := by decide +kernel
theorem dX4_digest_39 : decode cX4_digest 39 = .ok (.lconst 1, 1) := by decide +kernel
theorem dX4_digest_40 : decode cX4_digest 40 = .ok (.goto 4, 3) := by decide +kernel
theorem dX4_digest_43 : decode cX4_digest 43 = .ok (.lconst 0, 1) := by decide +kernel
theorem dX4_digest_44 : decode cX4_digest 44 = .ok (.ladd, 1) := by decide +kernel
theorem dX4_digest_45 : decode cX4_digest 45 = .ok (.aload_n 0, 1) := by decide +kernel
theorem dX4_digest_46 : decode cX4_digest 46 = .ok (.getfield 17, 3) := by decide +kernel
theorem dX4_digest_49 : decode cX4_digest 49 = .ok (.iload_n 3, 1) := by decide +kernel
theorem dX4_digest_50 : decode cX4_digest 50 = .ok (.baload, 1) := by decide +kernel
theorem dX4_digest_51 : decode cX4_digest 51 = .ok (.ifCond .eq 9, 3) := by decide +kernel
theorem dX4_digest_54 : decode cX4_digest 54 = .ok (.ldc2_w 151, 3) := by decide +kernel
theorem dX4_digest_57 : decode cX4_digest 57 = .ok (.goto 4, 3) := by decide +kernel
theorem dX4_digest_60 : decode cX4_digest 60 = .ok (.lconst 0, 1) := by decide +kernel
theorem dX4_digest_61 : decode cX4_digest 61 = .ok (.ladd, 1) := by decide +kernel
theorem dX4_digest_62 : decode cX4_digest 62 = .ok (.lstore_n 1, 1) := by decide +kernel
theorem dX4_digest_63 : decode cX4_digest 63 = .ok (.iinc 3 1, 3) := by decide +kernel
theorem dX4_digest_66 : decode cX4_digest 66 = .ok (.goto (-49), 3) := by decide +kernel
theorem dX4_digest_69 : decode cX4_digest 69 = .ok (.lload_n 1, 1) := by decide +kernel
theorem dX4_digest_70 : decode cX4_digest 70 = .ok (.ldc2_w 149, 3) := by decide +kernel
theorem dX4_digest_73 : decode cX4_digest 73 = .ok (.lmul, 1) := by decide +kernel
theorem dX4_digest_74 : decode cX4_digest 74 = .ok (.aload_n 0, 1) := by decide +kernel
theorem dX4_digest_75 : decode cX4_digest 75 = .ok (.getfield 60, 3) := by decide +kernel
theorem dX4_digest_78 : decode cX4_digest 78 = .ok (.i2l, 1) := by decide +kernel
theorem dX4_digest_79 : decode cX4_digest 79 = .ok (.ladd, 1) := by decide +kernel
theorem dX4_digest_80 : decode cX4_digest 80 = .ok (.lstore_n 1, 1) := by decide +kernel
theorem dX4_digest_81 : decode cX4_digest 81 = .ok (.iconst 0, 1) := by decide +kernel
theorem dX4_digest_82 : decode cX4_digest 82 = .ok (.istore_n 3, 1) := by decide +kernel
theorem dX4_digest_83 : decode cX4_digest 83 = .ok (.iload_n 3, 1) := by decide +kernel
theorem dX4_digest_84 : decode cX4_digest 84 = .ok (.aload_n 0, 1) := by decide +kernel
theorem dX4_digest_85 : decode cX4_digest 85 = .ok (.getfield 60, 3) := by decide +kernel
theorem dX4_digest_88 : decode cX4_digest 88 = .ok (.if_icmp .ge 85, 3) := by decide +kernel
theorem dX4_digest_91 : decode cX4_digest 91 = .ok (.lload_n 1, 1) := by decide +kernel
theorem dX4_digest_92 : decode cX4_digest 92 = .ok (.ldc2_w 149, 3) := by decide +kernel
theorem dX4_digest_95 : decode cX4_digest 95 = .ok (.lmul, 1) := by decide +kernel
theorem dX4_digest_96 : decode cX4_digest 96 = .ok (.aload_n 0, 1) := by decide +kernel
theorem dX4_digest_97 : decode cX4_digest 97 = .ok (.getfield 30, 3) := by decide +kernel
theorem dX4_digest_100 : decode cX4_digest 100 = .ok (.iconst 2, 1) := by decide +kernel
theorem dX4_digest_101 : decode cX4_digest 101 = .ok (.iload_n 3, 1) := by decide +kernel
theorem dX4_digest_102 : decode cX4_digest 102 = .ok (.imul, 1) := by decide +kernel
theorem dX4_digest_103 : decode cX4_digest 103 = .ok (.iaload, 1) := by decide +kernel
theorem dX4_digest_104 : decode cX4_digest 104 = .ok (.i2l, 1) := by decide +kernel
theorem dX4_digest_105 : decode cX4_digest 105 = .ok (.ladd, 1) := by decide +kernel
theorem dX4_digest_106 : decode cX4_digest 106 = .ok (.ldc2_w 149, 3) := by decide +kernel
theorem dX4_digest_109 : decode cX4_digest 109 = .ok (.lmul, 1) := by decide +kernel
theorem dX4_digest_110 : decode cX4_digest 110 = .ok (.aload_n 0, 1) := by decide +kernel
theorem dX4_digest_111 : decode cX4_digest 111 = .ok (.getfield 30, 3) := by decide +kernel
theorem dX4_digest_114 : decode cX4_digest 114 = .ok (.iconst 2, 1) := by decide +kernel
theorem dX4_digest_115 : decode cX4_digest 115 = .ok (.iload_n 3, 1) := by decide +kernel
theorem dX4_digest_116 : decode cX4_digest 116 = .ok (.imul, 1) := by decide +kernel
theorem dX4_digest_117 : decode cX4_digest 117 = .ok (.iconst 1, 1) := by decide +kernel
theorem dX4_digest_118 : decode cX4_digest 118 = .ok (.iadd, 1) := by decide +kernel
theorem dX4_digest_119 : decode cX4_digest 119 = .ok (.iaload, 1) := by decide +kernel
theorem dX4_digest_120 : decode cX4_digest 120 = .ok (.i2l, 1) := by decide +kernel
theorem dX4_digest_121 : decode cX4_digest 121 = .ok (.ladd, 1) := by decide +kernel
theorem dX4_digest_122 : decode cX4_digest 122 = .ok (.lstore_n 1, 1) := by decide +kernel
theorem dX4_digest_123 : decode cX4_digest 123 = .ok (.lload_n 1, 1) := by decide +kernel
theorem dX4_digest_124 : decode cX4_digest 124 = .ok (.ldc2_w 149, 3) := by decide +kernel
theorem dX4_digest_127 : decode cX4_digest 127 = .ok (.lmul, 1) := by decide +kernel
theorem dX4_digest_128 : decode cX4_digest 128 = .ok (.aload_n 0, 1) := by decide +kernel
theorem dX4_digest_129 : decode cX4_digest 129 = .ok (.getfield 33, 3) := by decide +kernel
theorem dX4_digest_132 : decode cX4_digest 132 = .ok (.iconst 2, 1) := by decide +kernel
theorem dX4_digest_133 : decode cX4_digest 133 = .ok (.iload_n 3, 1) := by decide +kernel
theorem dX4_digest_134 : decode cX4_digest 134 = .ok (.imul, 1) := by decide +kernel
theorem dX4_digest_135 : decode cX4_digest 135 = .ok (.baload, 1) := by decide +kernel
theorem dX4_digest_136 : decode cX4_digest 136 = .ok (.ifCond .eq 7, 3) := by decide +kernel
theorem dX4_digest_139 : decode cX4_digest 139 = .ok (.lconst 1, 1) := by decide +kernel
theorem dX4_digest_140 : decode cX4_digest 140 = .ok (.goto 4, 3) := by decide +kernel
theorem dX4_digest_143 : decode cX4_digest 143 = .ok (.lconst 0, 1) := by decide +kernel
theorem dX4_digest_144 : decode cX4_digest 144 = .ok (.ladd, 1) := by decide +kernel
theorem dX4_digest_145 : decode cX4_digest 145 = .ok (.aload_n 0, 1) := by decide +kernel
theorem dX4_digest_146 : decode cX4_digest 146 = .ok (.getfield 33, 3) := by decide +kernel
theorem dX4_digest_149 : decode cX4_digest 149 = .ok (.iconst 2, 1) := by decide +kernel
theorem dX4_digest_150 : decode cX4_digest 150 = .ok (.iload_n 3, 1) := by decide +kernel
theorem dX4_digest_151 : decode cX4_digest 151 = .ok (.imul, 1) := by decide +kernel
theorem dX4_digest_152 : decode cX4_digest 152 = .ok (.iconst 1, 1) := by decide +kernel
theorem dX4_digest_153 : decode cX4_digest 153 = .ok (.iadd, 1) := by decide +kernel
theorem dX4_digest_154 : decode cX4_digest 154 = .ok (.baload, 1) := by decide +kernel
theorem dX4_digest_155 : decode cX4_digest 155 = .ok (.ifCond .eq 9, 3) := by decide +kernel
theorem dX4_digest_158 : decode cX4_digest 158 = .ok (.ldc2_w 151, 3) := by decide +kernel
theorem dX4_digest_161 : decode cX4_digest 161 = .ok (.goto 4, 3) := by decide +kernel
theorem dX4_digest_164 : decode cX4_digest 164 = .ok (.lconst 0, 1) := by decide +kernel
theorem dX4_digest_165 : decode cX4_digest 165 = .ok (.ladd, 1) := by decide +kernel
theorem dX4_digest_166 : decode cX4_digest 166 = .ok (.lstore_n 1, 1) := by decide +kernel
theorem dX4_digest_167 : decode cX4_digest 167 = .ok (.iinc 3 1, 3) := by decide +kernel
theorem dX4_digest_170 : decode cX4_digest 170 = .ok (.goto (-87), 3) := by decide +kernel
theorem dX4_digest_173 : decode cX4_digest 173 = .ok (.iconst 0, 1) := by decide +kernel
theorem dX4_digest_174 : decode cX4_digest 174 = .ok (.istore_n 3, 1) := by decide +kernel
theorem dX4_digest_175 : decode cX4_digest 175 = .ok (.iload_n 3, 1) := by decide +kernel
theorem dX4_digest_176 : decode cX4_digest 176 = .ok (.iconst 4, 1) := by decide +kernel
theorem dX4_digest_177 : decode cX4_digest 177 = .ok (.if_icmp .ge 22, 3) := by decide +kernel
theorem dX4_digest_180 : decode cX4_digest 180 = .ok (.lload_n 1, 1) := by decide +kernel
theorem dX4_digest_181 : decode cX4_digest 181 = .ok (.ldc2_w 149, 3) := by decide +kernel
theorem dX4_digest_184 : decode cX4_digest 184 = .ok (.lmul, 1) := by decide +kernel
theorem dX4_digest_185 : decode cX4_digest 185 = .ok (.aload_n 0, 1) := by decide +kernel
theorem dX4_digest_186 : decode cX4_digest 186 = .ok (.iload_n 3, 1) := by decide +kernel
theorem dX4_digest_187 : decode cX4_digest 187 = .ok (.invokevirtual 112, 3) := by decide +kernel
theorem dX4_digest_190 : decode cX4_digest 190 = .ok (.i2l, 1) := by decide +kernel
theorem dX4_digest_191 : decode cX4_digest 191 = .ok (.ladd, 1) := by decide +kernel
theorem dX4_digest_192 : decode cX4_digest 192 = .ok (.lstore_n 1, 1) := by decide +kernel
theorem dX4_digest_193 : decode cX4_digest 193 = .ok (.iinc 3 1, 3) := by decide +kernel
theorem dX4_digest_196 : decode cX4_digest 196 = .ok (.goto (-21), 3) := by decide +kernel
theorem dX4_digest_199 : decode cX4_digest 199 = .ok (.aload_n 0, 1) := by decide +kernel
theorem dX4_digest_200 : decode cX4_digest 200 = .ok (.getfield 46, 3) := by decide +kernel
theorem dX4_digest_203 : decode cX4_digest 203 = .ok (.astore_n 3, 1) := by decide +kernel
theorem dX4_digest_204 : decode cX4_digest 204 = .ok (.aload_n 3, 1) := by decide +kernel
theorem dX4_digest_205 : decode cX4_digest 205 = .ok (.arraylength, 1) := by decide +kernel
theorem dX4_digest_206 : decode cX4_digest 206 = .ok (.istore 4, 2) := by decide +kernel
theorem dX4_digest_208 : decode cX4_digest 208 = .ok (.iconst 0, 1) := by decide +kernel
theorem dX4_digest_209 : decode cX4_digest 209 = .ok (.istore 5, 2) := by decide +kernel
theorem dX4_digest_211 : decode cX4_digest 211 = .ok (.iload 5, 2) := by decide +kernel
theorem dX4_digest_213 : decode cX4_digest 213 = .ok (.iload 4, 2) := by decide +kernel
theorem dX4_digest_215 : decode cX4_digest 215 = .ok (.if_icmp .ge 24, 3) := by decide +kernel
theorem dX4_digest_218 : decode cX4_digest 218 = .ok (.aload_n 3, 1) := by decide +kernel
theorem dX4_digest_219 : decode cX4_digest 219 = .ok (.iload 5, 2) := by decide +kernel
theorem dX4_digest_221 : decode cX4_digest 221 = .ok (.laload, 1) := by decide +kernel
theorem dX4_digest_222 : decode cX4_digest 222 = .ok (.lstore 6, 2) := by decide +kernel
theorem dX4_digest_224 : decode cX4_digest 224 = .ok (.lload_n 1, 1) := by decide +kernel
theorem dX4_digest_225 : decode cX4_digest 225 = .ok (.ldc2_w 149, 3) := by decide +kernel
theorem dX4_digest_228 : decode cX4_digest 228 = .ok (.lmul, 1) := by decide +kernel
theorem dX4_digest_229 : decode cX4_digest 229 = .ok (.lload 6, 2) := by decide +kernel
theorem dX4_digest_231 : decode cX4_digest 231 = .ok (.ladd, 1) := by decide +kernel
theorem dX4_digest_232 : decode cX4_digest 232 = .ok (.lstore_n 1, 1) := by decide +kernel
theorem dX4_digest_233 : decode cX4_digest 233 = .ok (.iinc 5 1, 3) := by decide +kernel
theorem dX4_digest_236 : decode cX4_digest 236 = .ok (.goto (-25), 3) := by decide +kernel
theorem dX4_digest_239 : decode cX4_digest 239 = .ok (.lload_n 1, 1) := by decide +kernel
theorem dX4_digest_240 : decode cX4_digest 240 = .ok (.lreturn, 1) := by decide +kernel
theorem dJ9_max_7cf53_0 : decode cJ9_max_7cf53 0 = .ok (.iload_n 0, 1) := by decide +kernel
theorem dJ9_max_7cf53_1 : decode cJ9_max_7cf53 1 = .ok (.iload_n 1, 1) := by decide +kernel
theorem dJ9_max_7cf53_2 : decode cJ9_max_7cf53 2 = .ok (.if_icmp .lt 7, 3) := by decide +kernel
theorem dJ9_max_7cf53_5 : decode cJ9_max_7cf53 5 = .ok (.iload_n 0, 1) := by decide +kernel
theorem dJ9_max_7cf53_6 : decode cJ9_max_7cf53 6 = .ok (.goto 4, 3) := by decide +kernel
theorem dJ9_max_7cf53_9 : decode cJ9_max_7cf53 9 = .ok (.iload_n 1, 1) := by decide +kernel
theorem dJ9_max_7cf53_10 : decode cJ9_max_7cf53 10 = .ok (.ireturn, 1) := by decide +kernel
theorem dJ9_min_7cf53_0 : decode cJ9_min_7cf53 0 = .ok (.iload_n 0, 1) := by decide +kernel
theorem dJ9_min_7cf53_1 : decode cJ9_min_7cf53 1 = .ok (.iload_n 1, 1) := by decide +kernel
theorem dJ9_min_7cf53_2 : decode cJ9_min_7cf53 2 = .ok (.if_icmp .gt 7, 3) := by decide +kernel
theorem dJ9_min_7cf53_5 : decode cJ9_min_7cf53 5 = .ok (.iload_n 0, 1) := by decide +kernel
theorem dJ9_min_7cf53_6 : decode cJ9_min_7cf53 6 = .ok (.goto 4, 3) := by decide +kernel
theorem dJ9_min_7cf53_9 : decode cJ9_min_7cf53 9 = .ok (.iload_n 1, 1) := by decide +kernel
theorem dJ9_min_7cf53_10 : decode cJ9_min_7cf53 10 = .ok (.ireturn, 1) := by decide +kernel
