theorem dX1_init_0 : decode cX1_init 0 = .ok (.aload_n 0, 1) := by decide +kernel
theorem dX1_init_1 : decode cX1_init 1 = .ok (.invokespecial 3, 3) := by decide +kernel
theorem dX1_init_4 : decode cX1_init 4 = .ok (.aload_n 0, 1) := by decide +kernel
theorem dX1_init_5 : decode cX1_init 5 = .ok (.aload_n 1, 1) := by decide +kernel
theorem dX1_init_6 : decode cX1_init 6 = .ok (.putfield 9, 3) := by decide +kernel
theorem dX1_init_9 : decode cX1_init 9 = .ok (.aload_n 0, 1) := by decide +kernel
theorem dX1_init_10 : decode cX1_init 10 = .ok (.iconst 0, 1) := by decide +kernel
theorem dX1_init_11 : decode cX1_init 11 = .ok (.putfield 15, 3) := by decide +kernel
theorem dX1_init_14 : decode cX1_init 14 = .ok (.aload_n 0, 1) := by decide +kernel
theorem dX1_init_15 : decode cX1_init 15 = .ok (.iconst (-1), 1) := by decide +kernel
theorem dX1_init_16 : decode cX1_init 16 = .ok (.putfield 19, 3) := by decide +kernel
theorem dX1_init_19 : decode cX1_init 19 = .ok (.aload_n 0, 1) := by decide +kernel
theorem dX1_init_20 : decode cX1_init 20 = .ok (.bipush 120, 2) := by decide +kernel
theorem dX1_init_22 : decode cX1_init 22 = .ok (.putfield 22, 3) := by decide +kernel
theorem dX1_init_25 : decode cX1_init 25 = .ok (.aload_n 0, 1) := by decide +kernel
theorem dX1_init_26 : decode cX1_init 26 = .ok (.iconst 1, 1) := by decide +kernel
theorem dX1_init_27 : decode cX1_init 27 = .ok (.putfield 25, 3) := by decide +kernel
theorem dX1_init_30 : decode cX1_init 30 = .ok (.return_, 1) := by decide +kernel
theorem dX1_node_0 : decode cX1_node 0 = .ok (.aload_n 0, 1) := by decide +kernel
theorem dX1_node_1 : decode cX1_node 1 = .ok (.getfield 15, 3) := by decide +kernel
theorem dX1_node_4 : decode cX1_node 4 = .ok (.ireturn, 1) := by decide +kernel
theorem dX1_cameBy_0 : decode cX1_cameBy 0 = .ok (.aload_n 0, 1) := by decide +kernel
theorem dX1_cameBy_1 : decode cX1_cameBy 1 = .ok (.getfield 19, 3) := by decide +kernel
theorem dX1_cameBy_4 : decode cX1_cameBy 4 = .ok (.ireturn, 1) := by decide +kernel
theorem dX1_switchStrewing_0 : decode cX1_switchStrewing 0 = .ok (.aload_n 0, 1) := by decide +kernel
theorem dX1_switchStrewing_1 : decode cX1_switchStrewing 1 = .ok (.getfield 25, 3) := by decide +kernel
theorem dX1_switchStrewing_4 : decode cX1_switchStrewing 4 = .ok (.istore_n 2, 1) := by decide +kernel
theorem dX1_switchStrewing_5 : decode cX1_switchStrewing 5 = .ok (.aload_n 0, 1) := by decide +kernel
theorem dX1_switchStrewing_6 : decode cX1_switchStrewing 6 = .ok (.iload_n 1, 1) := by decide +kernel
theorem dX1_switchStrewing_7 : decode cX1_switchStrewing 7 = .ok (.putfield 25, 3) := by decide +kernel
theorem dX1_switchStrewing_10 : decode cX1_switchStrewing 10 = .ok (.iload_n 2, 1) := by decide +kernel
theorem dX1_switchStrewing_11 : decode cX1_switchStrewing 11 = .ok (.ireturn, 1) := by decide +kernel
set_option maxRecDepth 20000 in
theorem ggX1_lacksSaltFor_X0_minutesOf : GoodIn wsX1_lacksSaltFor wsX0_minutesOf := goodIn_r _ [8, 9, 10, 11, 12, 7, 13, 14, 24, 25, 26, 27, 28, 29, 30, 31, 32] (by decide +kernel) (by decide +kernel)
set_option maxRecDepth 20000 in
theorem gX1_lacksSaltFor_X0_minutesOf : GoodIn wsX1_lacksSaltFor (wsV RX1 29 RX0 yX0_minutesOf wsX0_minutesOf) := goodIn_app (goodIn_of _ (by decide +kernel)) ggX1_lacksSaltFor_X0_minutesOf
theorem dX1_lacksSaltFor_0 : decode cX1_lacksSaltFor 0 = .ok (.aload_n 0, 1) := by decide +kernel
theorem dX1_lacksSaltFor_1 : decode cX1_lacksSaltFor 1 = .ok (.getfield 25, 3) := by decide +kernel
theorem dX1_lacksSaltFor_4 : decode cX1_lacksSaltFor 4 = .ok (.ifCond .eq 22, 3) := by decide +kernel
theorem dX1_lacksSaltFor_7 : decode cX1_lacksSaltFor 7 = .ok (.aload_n 0, 1) := by decide +kernel
theorem dX1_lacksSaltFor_8 : decode cX1_lacksSaltFor 8 = .ok (.getfield 22, 3) := by decide +kernel
theorem dX1_lacksSaltFor_11 : decode cX1_lacksSaltFor 11 = .ok (.aload_n 0, 1) := by decide +kernel
theorem dX1_lacksSaltFor_12 : decode cX1_lacksSaltFor 12 = .ok (.getfield 9, 3) := by decide +kernel
theorem dX1_lacksSaltFor_15 : decode cX1_lacksSaltFor 15 = .ok (.iload_n 1, 1) := by decide +kernel
theorem dX1_lacksSaltFor_16 : decode cX1_lacksSaltFor 16 = .ok (.invokevirtual 29, 3) := by decide +kernel
theorem dX1_lacksSaltFor_19 : decode cX1_lacksSaltFor 19 = .ok (.if_icmp .ge 7, 3) := by decide +kernel
theorem dX1_lacksSaltFor_22 : decode cX1_lacksSaltFor 22 = .ok (.iconst 1, 1) := by decide +kernel
theorem dX1_lacksSaltFor_23 : decode cX1_lacksSaltFor 23 = .ok (.goto 4, 3) := by decide +kernel
theorem dX1_lacksSaltFor_26 : decode cX1_lacksSaltFor 26 = .ok (.iconst 0, 1) := by decide +kernel
theorem dX1_lacksSaltFor_27 : decode cX1_lacksSaltFor 27 = .ok (.ireturn, 1) := by decide +kernel
set_option maxRecDepth 20000 in
theorem ggX1_canGoBy_X0_sideFrom : GoodIn wsX1_canGoBy wsX0_sideFrom := goodIn_r _ [8, 9, 10, 11, 7, 12, 13, 14, 15, 16, 17, 18, 42, 43, 44, 45, 46, 47, 48, 49, 50] (by decide +kernel) (by decide +kernel)
set_option maxRecDepth 20000 in
theorem gX1_canGoBy_X0_sideFrom : GoodIn wsX1_canGoBy (wsV RX1 35 RX0 yX0_sideFrom wsX0_sideFrom) := goodIn_app (goodIn_of _ (by decide +kernel)) ggX1_canGoBy_X0_sideFrom
set_option maxRecDepth 20000 in
theorem ggX1_canGoBy_X0_canGoOn : GoodIn wsX1_canGoBy wsX0_canGoOn := goodIn_r _ [22, 13, 14, 15, 16, 7, 17, 18, 23, 24, 25, 26, 27, 28, 29, 30, 31, 32, 42, 43, 44, 45, 46, 47, 48, 49, 50] (by decide +kernel) (by decide +kernel)
set_option maxRecDepth 20000 in
theorem gX1_canGoBy_X0_canGoOn : GoodIn wsX1_canGoBy (wsV RX1 39 RX0 yX0_canGoOn wsX0_canGoOn) := goodIn_app (goodIn_of _ (by decide +kernel)) ggX1_canGoBy_X0_canGoOn
theorem dX1_canGoBy_0 : decode cX1_canGoBy 0 = .ok (.aload_n 0, 1) := by decide +kernel
theorem dX1_canGoBy_1 : decode cX1_canGoBy 1 = .ok (.getfield 9, 3) := by decide +kernel
theorem dX1_canGoBy_4 : decode cX1_canGoBy 4 = .ok (.aload_n 0, 1) := by decide +kernel
theorem dX1_canGoBy_5 : decode cX1_canGoBy 5 = .ok (.getfield 15, 3) := by decide +kernel
theorem dX1_canGoBy_8 : decode cX1_canGoBy 8 = .ok (.aload_n 0, 1) := by decide +kernel
theorem dX1_canGoBy_9 : decode cX1_canGoBy 9 = .ok (.getfield 19, 3) := by decide +kernel
theorem dX1_canGoBy_12 : decode cX1_canGoBy 12 = .ok (.aload_n 0, 1) := by decide +kernel
theorem dX1_canGoBy_13 : decode cX1_canGoBy 13 = .ok (.getfield 9, 3) := by decide +kernel
theorem dX1_canGoBy_16 : decode cX1_canGoBy 16 = .ok (.aload_n 0, 1) := by decide +kernel
theorem dX1_canGoBy_17 : decode cX1_canGoBy 17 = .ok (.getfield 15, 3) := by decide +kernel
theorem dX1_canGoBy_20 : decode cX1_canGoBy 20 = .ok (.iload_n 1, 1) := by decide +kernel
theorem dX1_canGoBy_21 : decode cX1_canGoBy 21 = .ok (.invokevirtual 35, 3) := by decide +kernel
theorem dX1_canGoBy_24 : decode cX1_canGoBy 24 = .ok (.invokevirtual 39, 3) := by decide +kernel
theorem dX1_canGoBy_27 : decode cX1_canGoBy 27 = .ok (.ireturn, 1) := by decide +kernel
set_option maxRecDepth 20000 in
theorem ggX1_driveBy_X0_sideFrom : GoodIn wsX1_driveBy wsX0_sideFrom := goodIn_r _ [11, 12, 13, 14, 10, 15, 16, 17, 18, 19, 20, 21, 74, 75, 76, 77, 78, 79, 80, 81, 82] (by decide +kernel) (by decide +kernel)
set_option maxRecDepth 20000 in
theorem gX1_driveBy_X0_sideFrom : GoodIn wsX1_driveBy (wsV RX1 35 RX0 yX0_sideFrom wsX0_sideFrom) := goodIn_app (goodIn_of _ (by decide +kernel)) ggX1_driveBy_X0_sideFrom
set_option maxRecDepth 20000 in
theorem ggX1_driveBy_X0_minutesOf : GoodIn wsX1_driveBy wsX0_minutesOf := goodIn_r _ [25, 26, 27, 28, 29, 10, 30, 21, 74, 75, 76, 77, 78, 79, 80, 81, 82] (by decide +kernel) (by decide +kernel)
set_option maxRecDepth 20000 in
theorem gX1_driveBy_X0_minutesOf : GoodIn wsX1_driveBy (wsV RX1 29 RX0 yX0_minutesOf wsX0_minutesOf) := goodIn_app (goodIn_of _ (by decide +kernel)) ggX1_driveBy_X0_minutesOf
set_option maxRecDepth 20000 in
theorem ggX1_driveBy_X0_snowOn : GoodIn wsX1_driveBy wsX0_snowOn := goodIn_r _ [34, 35, 17, 18, 19, 10, 20, 21, 74, 75, 76, 77, 78, 79, 80, 81, 82] (by decide +kernel) (by decide +kernel)
set_option maxRecDepth 20000 in
theorem gX1_driveBy_X0_snowOn : GoodIn wsX1_driveBy (wsV RX1 43 RX0 yX0_snowOn wsX0_snowOn) := goodIn_app (goodIn_of _ (by decide +kernel)) ggX1_driveBy_X0_snowOn
set_option maxRecDepth 20000 in
theorem ggX1_driveBy_X1_strewOn : GoodIn wsX1_driveBy wsX1_strewOn := goodIn_r _ [40, 1, 41, 42, 43, 31, 32, 33, 10, 34, 35, 17, 18, 19, 20, 21, 44, 45, 46, 47, 48, 65, 66, 67, 68, 69, 70, 71, 72, 73, 74, 75, 76, 77, 78, 79, 80, 81, 82] (by decide +kernel) (by decide +kernel)
set_option maxRecDepth 20000 in
theorem gX1_driveBy_X1_strewOn : GoodIn wsX1_driveBy (wsV RX1 50 RX1 yX1_strewOn wsX1_strewOn) := goodIn_app (goodIn_of _ (by decide +kernel)) ggX1_driveBy_X1_strewOn
set_option maxRecDepth 20000 in
theorem ggX1_driveBy_X0_pushSnowFrom : GoodIn wsX1_driveBy wsX0_pushSnowFrom := goodIn_r _ [52, 35, 17, 18, 19, 10, 20, 21, 53, 54, 55, 56, 57, 58, 59, 60, 74, 75, 76, 77, 78, 79, 80, 81, 82] (by decide +kernel) (by decide +kernel)
set_option maxRecDepth 20000 in
theorem gX1_driveBy_X0_pushSnowFrom : GoodIn wsX1_driveBy (wsV RX1 54 RX0 yX0_pushSnowFrom wsX0_pushSnowFrom) := goodIn_app (goodIn_of _ (by decide +kernel)) ggX1_driveBy_X0_pushSnowFrom
set_option maxRecDepth 20000 in
theorem ggX1_driveBy_X0_endOf : GoodIn wsX1_driveBy wsX0_endOf := goodIn_r _ [64, 16, 17, 18, 19, 10, 20, 21, 74, 75, 76, 77, 78, 79, 80, 81, 82] (by decide +kernel) (by decide +kernel)
set_option maxRecDepth 20000 in
theorem gX1_driveBy_X0_endOf : GoodIn wsX1_driveBy (wsV RX1 58 RX0 yX0_endOf wsX0_endOf) := goodIn_app (goodIn_of _ (by decide +kernel)) ggX1_driveBy_X0_endOf
theorem dX1_driveBy_0 : decode cX1_driveBy 0 = .ok (.aload_n 0, 1) := by decide +kernel
theorem dX1_driveBy_1 : decode cX1_driveBy 1 = .ok (.getfield 9, 3) := by decide +kernel
theorem dX1_driveBy_4 : decode cX1_driveBy 4 = .ok (.aload_n 0, 1) := by decide +kernel
theorem dX1_driveBy_5 : decode cX1_driveBy 5 = .ok (.getfield 15, 3) := by decide +kernel
theorem dX1_driveBy_8 : decode cX1_driveBy 8 = .ok (.iload_n 1, 1) := by decide +kernel
theorem dX1_driveBy_9 : decode cX1_driveBy 9 = .ok (.invokevirtual 35, 3) := by decide +kernel
theorem dX1_driveBy_12 : decode cX1_driveBy 12 = .ok (.istore_n 2, 1) := by decide +kernel
theorem dX1_driveBy_13 : decode cX1_driveBy 13 = .ok (.iload_n 2, 1) := by decide +kernel
theorem dX1_driveBy_14 : decode cX1_driveBy 14 = .ok (.iconst (-1), 1) := by decide +kernel
theorem dX1_driveBy_15 : decode cX1_driveBy 15 = .ok (.if_icmp .ne 5, 3) := by decide +kernel
theorem dX1_driveBy_18 : decode cX1_driveBy 18 = .ok (.iconst 0, 1) := by decide +kernel
theorem dX1_driveBy_19 : decode cX1_driveBy 19 = .ok (.ireturn, 1) := by decide +kernel
theorem dX1_driveBy_20 : decode cX1_driveBy 20 = .ok (.aload_n 0, 1) := by decide +kernel
theorem dX1_driveBy_21 : decode cX1_driveBy 21 = .ok (.getfield 9, 3) := by decide +kernel
theorem dX1_driveBy_24 : decode cX1_driveBy 24 = .ok (.iload_n 1, 1) := by decide +kernel
theorem dX1_driveBy_25 : decode cX1_driveBy 25 = .ok (.invokevirtual 29, 3) := by decide +kernel
theorem dX1_driveBy_28 : decode cX1_driveBy 28 = .ok (.istore_n 3, 1) := by decide +kernel
theorem dX1_driveBy_29 : decode cX1_driveBy 29 = .ok (.aload_n 0, 1) := by decide +kernel
theorem dX1_driveBy_30 : decode cX1_driveBy 30 = .ok (.getfield 9, 3) := by decide +kernel
theorem dX1_driveBy_33 : decode cX1_driveBy 33 = .ok (.iload_n 2, 1) := by decide +kernel
theorem dX1_driveBy_34 : decode cX1_driveBy 34 = .ok (.invokevirtual 43, 3) := by decide +kernel
theorem dX1_driveBy_37 : decode cX1_driveBy 37 = .ok (.bipush 50, 2) := by decide +kernel
theorem dX1_driveBy_39 : decode cX1_driveBy 39 = .ok (.if_icmp .lt 7, 3) := by decide +kernel
theorem dX1_driveBy_42 : decode cX1_driveBy 42 = .ok (.iload_n 3, 1) := by decide +kernel
theorem dX1_driveBy_43 : decode cX1_driveBy 43 = .ok (.iconst 2, 1) := by decide +kernel
theorem dX1_driveBy_44 : decode cX1_driveBy 44 = .ok (.imul, 1) := by decide +kernel
theorem dX1_driveBy_45 : decode cX1_driveBy 45 = .ok (.istore_n 3, 1) := by decide +kernel
theorem dX1_driveBy_46 : decode cX1_driveBy 46 = .ok (.iload_n 1, 1) := by decide +kernel
theorem dX1_driveBy_47 : decode cX1_driveBy 47 = .ok (.aload_n 0, 1) := by decide +kernel
theorem dX1_driveBy_48 : decode cX1_driveBy 48 = .ok (.getfield 19, 3) := by decide +kernel
theorem dX1_driveBy_51 : decode cX1_driveBy 51 = .ok (.if_icmp .ne 16, 3) := by decide +kernel
theorem dX1_driveBy_54 : decode cX1_driveBy 54 = .ok (.iinc 3 2, 3) := by decide +kernel
theorem dX1_driveBy_57 : decode cX1_driveBy 57 = .ok (.aload_n 0, 1) := by decide +kernel
theorem dX1_driveBy_58 : decode cX1_driveBy 58 = .ok (.dup, 1) := by decide +kernel
theorem dX1_driveBy_59 : decode cX1_driveBy 59 = .ok (.getfield 46, 3) := by decide +kernel
theorem dX1_driveBy_62 : decode cX1_driveBy 62 = .ok (.lconst 1, 1) := by decide +kernel
theorem dX1_driveBy_63 : decode cX1_driveBy 63 = .ok (.ladd, 1) := by decide +kernel
theorem dX1_driveBy_64 : decode cX1_driveBy 64 = .ok (.putfield 46, 3) := by decide +kernel
theorem dX1_driveBy_67 : decode cX1_driveBy 67 = .ok (.aload_n 0, 1) := by decide +kernel
theorem dX1_driveBy_68 : decode cX1_driveBy 68 = .ok (.iload_n 2, 1) := by decide +kernel
theorem dX1_driveBy_69 : decode cX1_driveBy 69 = .ok (.aload_n 0, 1) := by decide +kernel
theorem dX1_driveBy_70 : decode cX1_driveBy 70 = .ok (.getfield 9, 3) := by decide +kernel
theorem dX1_driveBy_73 : decode cX1_driveBy 73 = .ok (.iload_n 1, 1) := by decide +kernel
theorem dX1_driveBy_74 : decode cX1_driveBy 74 = .ok (.invokevirtual 29, 3) := by decide +kernel
theorem dX1_driveBy_77 : decode cX1_driveBy 77 = .ok (.invokevirtual 50, 3) := by decide +kernel
theorem dX1_driveBy_80 : decode cX1_driveBy 80 = .ok (.aload_n 0, 1) := by decide +kernel
theorem dX1_driveBy_81 : decode cX1_driveBy 81 = .ok (.getfield 9, 3) := by decide +kernel
theorem dX1_driveBy_84 : decode cX1_driveBy 84 = .ok (.iload_n 2, 1) := by decide +kernel
theorem dX1_driveBy_85 : decode cX1_driveBy 85 = .ok (.invokevirtual 54, 3) := by decide +kernel
theorem dX1_driveBy_88 : decode cX1_driveBy 88 = .ok (.aload_n 0, 1) := by decide +kernel
theorem dX1_driveBy_89 : decode cX1_driveBy 89 = .ok (.aload_n 0, 1) := by decide +kernel
theorem dX1_driveBy_90 : decode cX1_driveBy 90 = .ok (.getfield 9, 3) := by decide +kernel
theorem dX1_driveBy_93 : decode cX1_driveBy 93 = .ok (.iload_n 2, 1) := by decide +kernel
theorem dX1_driveBy_94 : decode cX1_driveBy 94 = .ok (.invokevirtual 58, 3) := by decide +kernel
theorem dX1_driveBy_97 : decode cX1_driveBy 97 = .ok (.putfield 15, 3) := by decide +kernel
theorem dX1_driveBy_100 : decode cX1_driveBy 100 = .ok (.aload_n 0, 1) := by decide +kernel
theorem dX1_driveBy_101 : decode cX1_driveBy 101 = .ok (.iload_n 1, 1) := by decide +kernel
theorem dX1_driveBy_102 : decode cX1_driveBy 102 = .ok (.putfield 19, 3) := by decide +kernel
theorem dX1_driveBy_105 : decode cX1_driveBy 105 = .ok (.aload_n 0, 1) := by decide +kernel
theorem dX1_driveBy_106 : decode cX1_driveBy 106 = .ok (.dup, 1) := by decide +kernel
theorem dX1_driveBy_107 : decode cX1_driveBy 107 = .ok (.getfield 61, 3) := by decide +kernel
theorem dX1_driveBy_110 : decode cX1_driveBy 110 = .ok (.lconst 1, 1) := by decide +kernel
theorem dX1_driveBy_111 : decode cX1_driveBy 111 = .ok (.ladd, 1) := by decide +kernel
theorem dX1_driveBy_112 : decode cX1_driveBy 112 = .ok (.putfield 61, 3) := by decide +kernel
theorem dX1_driveBy_115 : decode cX1_driveBy 115 = .ok (.aload_n 0, 1) := by decide +kernel
theorem dX1_driveBy_116 : decode cX1_driveBy 116 = .ok (.dup, 1) := by decide +kernel
theorem dX1_driveBy_117 : decode cX1_driveBy 117 = .ok (.getfield 64, 3) := by decide +kernel
theorem dX1_driveBy_120 : decode cX1_driveBy 120 = .ok (.iload_n 3, 1) := by decide +kernel
theorem dX1_driveBy_121 : decode cX1_driveBy 121 = .ok (.i2l, 1) := by decide +kernel
theorem dX1_driveBy_122 : decode cX1_driveBy 122 = .ok (.ladd, 1) := by decide +kernel
theorem dX1_driveBy_123 : decode cX1_driveBy 123 = .ok (.putfield 64, 3) := by decide +kernel
theorem dX1_driveBy_126 : decode cX1_driveBy 126 = .ok (.iload_n 3, 1) := by decide +kernel
theorem dX1_driveBy_127 : decode cX1_driveBy 127 = .ok (.ireturn, 1) := by decide +kernel
set_option maxRecDepth 20000 in
theorem ggX1_strewOn_X0_snowOn : GoodIn wsX1_strewOn wsX0_snowOn := goodIn_r _ [9, 10, 11, 12, 13, 8, 14, 15, 30, 31, 32, 33, 34, 35, 36, 37, 38] (by decide +kernel) (by decide +kernel)
set_option maxRecDepth 20000 in
theorem gX1_strewOn_X0_snowOn : GoodIn wsX1_strewOn (wsV RX1 43 RX0 yX0_snowOn wsX0_snowOn) := goodIn_app (goodIn_of _ (by decide +kernel)) ggX1_strewOn_X0_snowOn
set_option maxRecDepth 20000 in
theorem ggX1_strewOn_X0_putSaltOn : GoodIn wsX1_strewOn wsX0_putSaltOn := goodIn_r _ [19, 20, 11, 12, 13, 8, 14, 15, 30, 31, 32, 33, 34, 35, 36, 37, 38] (by decide +kernel) (by decide +kernel)
set_option maxRecDepth 20000 in
theorem gX1_strewOn_X0_putSaltOn : GoodIn wsX1_strewOn (wsV RX1 67 RX0 yX0_putSaltOn wsX0_putSaltOn) := goodIn_app (goodIn_of _ (by decide +kernel)) ggX1_strewOn_X0_putSaltOn
theorem dX1_strewOn_0 : decode cX1_strewOn 0 = .ok (.aload_n 0, 1) := by decide +kernel
theorem dX1_strewOn_1 : decode cX1_strewOn 1 = .ok (.getfield 9, 3) := by decide +kernel
theorem dX1_strewOn_4 : decode cX1_strewOn 4 = .ok (.iload_n 1, 1) := by decide +kernel
theorem dX1_strewOn_5 : decode cX1_strewOn 5 = .ok (.invokevirtual 43, 3) := by decide +kernel
theorem dX1_strewOn_8 : decode cX1_strewOn 8 = .ok (.ifCond .le 47, 3) := by decide +kernel
theorem dX1_strewOn_11 : decode cX1_strewOn 11 = .ok (.aload_n 0, 1) := by decide +kernel
theorem dX1_strewOn_12 : decode cX1_strewOn 12 = .ok (.getfield 25, 3) := by decide +kernel
theorem dX1_strewOn_15 : decode cX1_strewOn 15 = .ok (.ifCond .eq 40, 3) := by decide +kernel
theorem dX1_strewOn_18 : decode cX1_strewOn 18 = .ok (.aload_n 0, 1) := by decide +kernel
theorem dX1_strewOn_19 : decode cX1_strewOn 19 = .ok (.getfield 22, 3) := by decide +kernel
theorem dX1_strewOn_22 : decode cX1_strewOn 22 = .ok (.iload_n 2, 1) := by decide +kernel
theorem dX1_strewOn_23 : decode cX1_strewOn 23 = .ok (.if_icmp .lt 32, 3) := by decide +kernel
theorem dX1_strewOn_26 : decode cX1_strewOn 26 = .ok (.aload_n 0, 1) := by decide +kernel
theorem dX1_strewOn_27 : decode cX1_strewOn 27 = .ok (.getfield 9, 3) := by decide +kernel
theorem dX1_strewOn_30 : decode cX1_strewOn 30 = .ok (.iload_n 1, 1) := by decide +kernel
theorem dX1_strewOn_31 : decode cX1_strewOn 31 = .ok (.invokevirtual 67, 3) := by decide +kernel
theorem dX1_strewOn_34 : decode cX1_strewOn 34 = .ok (.aload_n 0, 1) := by decide +kernel
theorem dX1_strewOn_35 : decode cX1_strewOn 35 = .ok (.dup, 1) := by decide +kernel
theorem dX1_strewOn_36 : decode cX1_strewOn 36 = .ok (.getfield 22, 3) := by decide +kernel
theorem dX1_strewOn_39 : decode cX1_strewOn 39 = .ok (.iload_n 2, 1) := by decide +kernel
theorem dX1_strewOn_40 : decode cX1_strewOn 40 = .ok (.isub, 1) := by decide +kernel
theorem dX1_strewOn_41 : decode cX1_strewOn 41 = .ok (.putfield 22, 3) := by decide +kernel
theorem dX1_strewOn_44 : decode cX1_strewOn 44 = .ok (.aload_n 0, 1) := by decide +kernel
theorem dX1_strewOn_45 : decode cX1_strewOn 45 = .ok (.dup, 1) := by decide +kernel
theorem dX1_strewOn_46 : decode cX1_strewOn 46 = .ok (.getfield 70, 3) := by decide +kernel
theorem dX1_strewOn_49 : decode cX1_strewOn 49 = .ok (.iload_n 2, 1) := by decide +kernel
theorem dX1_strewOn_50 : decode cX1_strewOn 50 = .ok (.i2l, 1) := by decide +kernel
theorem dX1_strewOn_51 : decode cX1_strewOn 51 = .ok (.ladd, 1) := by decide +kernel
theorem dX1_strewOn_52 : decode cX1_strewOn 52 = .ok (.putfield 70, 3) := by decide +kernel
theorem dX1_strewOn_55 : decode cX1_strewOn 55 = .ok (.return_, 1) := by decide +kernel
theorem dX1_takeSalt_0 : decode cX1_takeSalt 0 = .ok (.bipush 120, 2) := by decide +kernel
theorem dX1_takeSalt_2 : decode cX1_takeSalt 2 = .ok (.aload_n 0, 1) := by decide +kernel
theorem dX1_takeSalt_3 : decode cX1_takeSalt 3 = .ok (.getfield 22, 3) := by decide +kernel
theorem dX1_takeSalt_6 : decode cX1_takeSalt 6 = .ok (.isub, 1) := by decide +kernel
theorem dX1_takeSalt_7 : decode cX1_takeSalt 7 = .ok (.istore_n 1, 1) := by decide +kernel
theorem dX1_takeSalt_8 : decode cX1_takeSalt 8 = .ok (.aload_n 0, 1) := by decide +kernel
theorem dX1_takeSalt_9 : decode cX1_takeSalt 9 = .ok (.bipush 120, 2) := by decide +kernel
theorem dX1_takeSalt_11 : decode cX1_takeSalt 11 = .ok (.putfield 22, 3) := by decide +kernel
theorem dX1_takeSalt_14 : decode cX1_takeSalt 14 = .ok (.aload_n 0, 1) := by decide +kernel
theorem dX1_takeSalt_15 : decode cX1_takeSalt 15 = .ok (.dup, 1) := by decide +kernel
theorem dX1_takeSalt_16 : decode cX1_takeSalt 16 = .ok (.getfield 64, 3) := by decide +kernel
theorem dX1_takeSalt_19 : decode cX1_takeSalt 19 = .ok (.ldc2_w 73, 3) := by decide +kernel
theorem dX1_takeSalt_22 : decode cX1_takeSalt 22 = .ok (.ladd, 1) := by decide +kernel
theorem dX1_takeSalt_23 : decode cX1_takeSalt 23 = .ok (.putfield 64, 3) := by decide +kernel
theorem dX1_takeSalt_26 : decode cX1_takeSalt 26 = .ok (.iload_n 1, 1) := by decide +kernel
theorem dX1_takeSalt_27 : decode cX1_takeSalt 27 = .ok (.ireturn, 1) := by decide +kernel
theorem dX1_stateFact_0 : decode cX1_stateFact 0 = .ok (.iload_n 1, 1) := by decide +kernel
theorem dX1_stateFact_1 : decode cX1_stateFact 1 = .ok (.tableswitch 42 0 2 #[27, 32, 37], 27) := by decide +kernel
theorem dX1_stateFact_28 : decode cX1_stateFact 28 = .ok (.aload_n 0, 1) := by decide +kernel
theorem dX1_stateFact_29 : decode cX1_stateFact 29 = .ok (.getfield 15, 3) := by decide +kernel
theorem dX1_stateFact_32 : decode cX1_stateFact 32 = .ok (.ireturn, 1) := by decide +kernel
theorem dX1_stateFact_33 : decode cX1_stateFact 33 = .ok (.aload_n 0, 1) := by decide +kernel
theorem dX1_stateFact_34 : decode cX1_stateFact 34 = .ok (.getfield 19, 3) := by decide +kernel
theorem dX1_stateFact_37 : decode cX1_stateFact 37 = .ok (.ireturn, 1) := by decide +kernel
theorem dX1_stateFact_38 : decode cX1_stateFact 38 = .ok (.aload_n 0, 1) := by decide +kernel
theorem dX1_stateFact_39 : decode cX1_stateFact 39 = .ok (.getfield 22, 3) := by decide +kernel
theorem dX1_stateFact_42 : decode cX1_stateFact 42 = .ok (.ireturn, 1) := by decide +kernel
theorem dX1_stateFact_43 : decode cX1_stateFact 43 = .ok (.aload_n 0, 1) := by decide +kernel
theorem dX1_stateFact_44 : decode cX1_stateFact 44 = .ok (.getfield 25, 3) := by decide +kernel
theorem dX1_stateFact_47 : decode cX1_stateFact 47 = .ok (.ifCond .eq 7, 3) := by decide +kernel
theorem dX1_stateFact_50 : decode cX1_stateFact 50 = .ok (.iconst 1, 1) := by decide +kernel
theorem dX1_stateFact_51 : decode cX1_stateFact 51 = .ok (.goto 4, 3) := by decide +kernel
theorem dX1_stateFact_54 : decode cX1_stateFact 54 = .ok (.iconst 0, 1) := by decide +kernel
theorem dX1_stateFact_55 : decode cX1_stateFact 55 = .ok (.ireturn, 1) := by decide +kernel
theorem dX1_totalFact_0 : decode cX1_totalFact 0 = .ok (.iload_n 1, 1) := by decide +kernel
theorem dX1_totalFact_1 : decode cX1_totalFact 1 = .ok (.tableswitch 42 0 2 #[27, 32, 37], 27) := by decide +kernel
theorem dX1_totalFact_28 : decode cX1_totalFact 28 = .ok (.aload_n 0, 1) := by decide +kernel
theorem dX1_totalFact_29 : decode cX1_totalFact 29 = .ok (.getfield 64, 3) := by decide +kernel
theorem dX1_totalFact_32 : decode cX1_totalFact 32 = .ok (.lreturn, 1) := by decide +kernel
theorem dX1_totalFact_33 : decode cX1_totalFact 33 = .ok (.aload_n 0, 1) := by decide +kernel
theorem dX1_totalFact_34 : decode cX1_totalFact 34 = .ok (.getfield 70, 3) := by decide +kernel
theorem dX1_totalFact_37 : decode cX1_totalFact 37 = .ok (.lreturn, 1) := by decide +kernel
theorem dX1_totalFact_38 : decode cX1_totalFact 38 = .ok (.aload_n 0, 1) := by decide +kernel
theorem dX1_totalFact_39 : decode cX1_totalFact 39 = .ok (.getfield 46, 3) := by decide +kernel
theorem dX1_totalFact_42 : decode cX1_totalFact 42 = .ok (.lreturn, 1) := by decide +kernel
theorem dX1_totalFact_43 : decode cX1_totalFact 43 = .ok (.aload_n 0, 1) := by decide +kernel
theorem dX1_totalFact_44 : decode cX1_totalFact 44 = .ok (.getfield 61, 3) := by decide +kernel
theorem dX1_totalFact_47 : decode cX1_totalFact 47 = .ok (.lreturn, 1) := by decide +kernel
