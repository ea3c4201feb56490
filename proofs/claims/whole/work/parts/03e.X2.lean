theorem dX2_init_0 : decode cX2_init 0 = .ok (.aload_n 0, 1) := by decide +kernel
theorem dX2_init_1 : decode cX2_init 1 = .ok (.invokespecial 3, 3) := by decide +kernel
theorem dX2_init_4 : decode cX2_init 4 = .ok (.aload_n 0, 1) := by decide +kernel
theorem dX2_init_5 : decode cX2_init 5 = .ok (.bipush 25, 2) := by decide +kernel
theorem dX2_init_7 : decode cX2_init 7 = .ok (.newarray .int, 2) := by decide +kernel
theorem dX2_init_9 : decode cX2_init 9 = .ok (.putfield 9, 3) := by decide +kernel
theorem dX2_init_12 : decode cX2_init 12 = .ok (.aload_n 0, 1) := by decide +kernel
theorem dX2_init_13 : decode cX2_init 13 = .ok (.bipush 25, 2) := by decide +kernel
theorem dX2_init_15 : decode cX2_init 15 = .ok (.newarray .int, 2) := by decide +kernel
theorem dX2_init_17 : decode cX2_init 17 = .ok (.putfield 15, 3) := by decide +kernel
theorem dX2_init_20 : decode cX2_init 20 = .ok (.aload_n 0, 1) := by decide +kernel
theorem dX2_init_21 : decode cX2_init 21 = .ok (.bipush 25, 2) := by decide +kernel
theorem dX2_init_23 : decode cX2_init 23 = .ok (.bipush 24, 2) := by decide +kernel
theorem dX2_init_25 : decode cX2_init 25 = .ok (.multianewarray 18 2, 4) := by decide +kernel
theorem dX2_init_29 : decode cX2_init 29 = .ok (.putfield 20, 3) := by decide +kernel
theorem dX2_init_32 : decode cX2_init 32 = .ok (.aload_n 0, 1) := by decide +kernel
theorem dX2_init_33 : decode cX2_init 33 = .ok (.bipush 24, 2) := by decide +kernel
theorem dX2_init_35 : decode cX2_init 35 = .ok (.newarray .boolean, 2) := by decide +kernel
theorem dX2_init_37 : decode cX2_init 37 = .ok (.putfield 23, 3) := by decide +kernel
theorem dX2_init_40 : decode cX2_init 40 = .ok (.aload_n 0, 1) := by decide +kernel
theorem dX2_init_41 : decode cX2_init 41 = .ok (.aload_n 1, 1) := by decide +kernel
theorem dX2_init_42 : decode cX2_init 42 = .ok (.putfield 27, 3) := by decide +kernel
theorem dX2_init_45 : decode cX2_init 45 = .ok (.aload_n 0, 1) := by decide +kernel
theorem dX2_init_46 : decode cX2_init 46 = .ok (.aload_n 2, 1) := by decide +kernel
theorem dX2_init_47 : decode cX2_init 47 = .ok (.putfield 31, 3) := by decide +kernel
theorem dX2_init_50 : decode cX2_init 50 = .ok (.aload_n 0, 1) := by decide +kernel
theorem dX2_init_51 : decode cX2_init 51 = .ok (.iconst 0, 1) := by decide +kernel
theorem dX2_init_52 : decode cX2_init 52 = .ok (.putfield 35, 3) := by decide +kernel
theorem dX2_init_55 : decode cX2_init 55 = .ok (.return_, 1) := by decide +kernel
set_option maxRecDepth 20000 in
theorem ggX2_lookAround_X1_node : GoodIn wsX2_lookAround wsX1_node := goodIn_r _ [9, 10, 98, 99, 100, 101, 102, 103, 104, 105, 106] (by decide +kernel) (by decide +kernel)
set_option maxRecDepth 20000 in
theorem gX2_lookAround_X1_node : GoodIn wsX2_lookAround (wsV RX2 39 RX1 yX1_node wsX1_node) := goodIn_app (goodIn_of _ (by decide +kernel)) ggX2_lookAround_X1_node
set_option maxRecDepth 20000 in
theorem ggX2_lookAround_X2_forgetAll : GoodIn wsX2_lookAround wsX2_forgetAll := goodIn_r _ [15, 16, 17, 4, 91, 92, 93, 94, 95, 96, 97] (by decide +kernel) (by decide +kernel)
set_option maxRecDepth 20000 in
theorem gX2_lookAround_X2_forgetAll : GoodIn wsX2_lookAround (wsV RX2 45 RX2 yX2_forgetAll wsX2_forgetAll) := goodIn_app (goodIn_of _ (by decide +kernel)) ggX2_lookAround_X2_forgetAll
set_option maxRecDepth 20000 in
theorem ggX2_lookAround_X1_cameBy : GoodIn wsX2_lookAround wsX1_cameBy := goodIn_r _ [21, 22, 98, 99, 100, 101, 102, 103, 104, 105, 106] (by decide +kernel) (by decide +kernel)
set_option maxRecDepth 20000 in
theorem gX2_lookAround_X1_cameBy : GoodIn wsX2_lookAround (wsV RX2 48 RX1 yX1_cameBy wsX1_cameBy) := goodIn_app (goodIn_of _ (by decide +kernel)) ggX2_lookAround_X1_cameBy
set_option maxRecDepth 20000 in
theorem ggX2_lookAround_X2_goOnFrom : GoodIn wsX2_lookAround wsX2_goOnFrom := goodIn_r _ [26, 3, 4, 16, 17, 27, 28, 29, 30, 31, 32, 33, 34, 35, 36, 37, 38, 39, 40, 41, 42, 43, 44, 45, 46, 47, 48, 49, 50, 51, 52, 53, 54, 14, 55, 56, 57, 58, 59, 60, 61, 62, 63, 64, 65, 66, 67, 68, 69, 70, 71, 72, 73, 74, 75, 76, 77, 78, 79, 80, 81, 82, 91, 92, 93, 94, 95, 96, 97, 107, 108, 109, 110, 111, 112, 113, 114, 115] (by decide +kernel) (by decide +kernel)
set_option maxRecDepth 20000 in
theorem gX2_lookAround_X2_goOnFrom : GoodIn wsX2_lookAround (wsV RX2 51 RX2 yX2_goOnFrom wsX2_goOnFrom) := goodIn_app (goodIn_of _ (by decide +kernel)) ggX2_lookAround_X2_goOnFrom
set_option maxRecDepth 20000 in
theorem ggX2_lookAround_X0_sideCount : GoodIn wsX2_lookAround wsX0_sideCount := goodIn_r _ [31, 32, 107, 108, 109, 110, 111, 112, 113, 114, 115] (by decide +kernel) (by decide +kernel)
set_option maxRecDepth 20000 in
theorem gX2_lookAround_X0_sideCount : GoodIn wsX2_lookAround (wsV RX2 55 RX0 yX0_sideCount wsX0_sideCount) := goodIn_app (goodIn_of _ (by decide +kernel)) ggX2_lookAround_X0_sideCount
set_option maxRecDepth 20000 in
theorem ggX2_lookAround_X2_nearestOpenSide : GoodIn wsX2_lookAround wsX2_nearestOpenSide := goodIn_r _ [86, 3, 4, 16, 27, 28, 29, 30, 31, 32, 91, 92, 93, 94, 95, 96, 97, 107, 108, 109, 110, 111, 112, 113, 114, 115] (by decide +kernel) (by decide +kernel)
set_option maxRecDepth 20000 in
theorem gX2_lookAround_X2_nearestOpenSide : GoodIn wsX2_lookAround (wsV RX2 60 RX2 yX2_nearestOpenSide wsX2_nearestOpenSide) := goodIn_app (goodIn_of _ (by decide +kernel)) ggX2_lookAround_X2_nearestOpenSide
set_option maxRecDepth 20000 in
theorem ggX2_lookAround_X0_endOf : GoodIn wsX2_lookAround wsX0_endOf := goodIn_r _ [90, 37, 38, 39, 40, 30, 41, 32, 107, 108, 109, 110, 111, 112, 113, 114, 115] (by decide +kernel) (by decide +kernel)
set_option maxRecDepth 20000 in
theorem gX2_lookAround_X0_endOf : GoodIn wsX2_lookAround (wsV RX2 63 RX0 yX0_endOf wsX0_endOf) := goodIn_app (goodIn_of _ (by decide +kernel)) ggX2_lookAround_X0_endOf
theorem dX2_lookAround_0 : decode cX2_lookAround 0 = .ok (.aload_n 0, 1) := by decide +kernel
theorem dX2_lookAround_1 : decode cX2_lookAround 1 = .ok (.aload_n 0, 1) := by decide +kernel
theorem dX2_lookAround_2 : decode cX2_lookAround 2 = .ok (.getfield 31, 3) := by decide +kernel
theorem dX2_lookAround_5 : decode cX2_lookAround 5 = .ok (.invokevirtual 39, 3) := by decide +kernel
theorem dX2_lookAround_8 : decode cX2_lookAround 8 = .ok (.putfield 35, 3) := by decide +kernel
theorem dX2_lookAround_11 : decode cX2_lookAround 11 = .ok (.aload_n 0, 1) := by decide +kernel
theorem dX2_lookAround_12 : decode cX2_lookAround 12 = .ok (.invokevirtual 45, 3) := by decide +kernel
theorem dX2_lookAround_15 : decode cX2_lookAround 15 = .ok (.aload_n 0, 1) := by decide +kernel
theorem dX2_lookAround_16 : decode cX2_lookAround 16 = .ok (.iconst (-1), 1) := by decide +kernel
theorem dX2_lookAround_17 : decode cX2_lookAround 17 = .ok (.aload_n 0, 1) := by decide +kernel
theorem dX2_lookAround_18 : decode cX2_lookAround 18 = .ok (.getfield 35, 3) := by decide +kernel
theorem dX2_lookAround_21 : decode cX2_lookAround 21 = .ok (.aload_n 0, 1) := by decide +kernel
theorem dX2_lookAround_22 : decode cX2_lookAround 22 = .ok (.getfield 31, 3) := by decide +kernel
theorem dX2_lookAround_25 : decode cX2_lookAround 25 = .ok (.invokevirtual 48, 3) := by decide +kernel
theorem dX2_lookAround_28 : decode cX2_lookAround 28 = .ok (.invokevirtual 51, 3) := by decide +kernel
theorem dX2_lookAround_31 : decode cX2_lookAround 31 = .ok (.iconst 0, 1) := by decide +kernel
theorem dX2_lookAround_32 : decode cX2_lookAround 32 = .ok (.istore_n 1, 1) := by decide +kernel
theorem dX2_lookAround_33 : decode cX2_lookAround 33 = .ok (.iload_n 1, 1) := by decide +kernel
theorem dX2_lookAround_34 : decode cX2_lookAround 34 = .ok (.aload_n 0, 1) := by decide +kernel
theorem dX2_lookAround_35 : decode cX2_lookAround 35 = .ok (.getfield 27, 3) := by decide +kernel
theorem dX2_lookAround_38 : decode cX2_lookAround 38 = .ok (.invokevirtual 55, 3) := by decide +kernel
theorem dX2_lookAround_41 : decode cX2_lookAround 41 = .ok (.if_icmp .ge 45, 3) := by decide +kernel
theorem dX2_lookAround_44 : decode cX2_lookAround 44 = .ok (.aload_n 0, 1) := by decide +kernel
theorem dX2_lookAround_45 : decode cX2_lookAround 45 = .ok (.invokevirtual 60, 3) := by decide +kernel
theorem dX2_lookAround_48 : decode cX2_lookAround 48 = .ok (.istore_n 2, 1) := by decide +kernel
theorem dX2_lookAround_49 : decode cX2_lookAround 49 = .ok (.iload_n 2, 1) := by decide +kernel
theorem dX2_lookAround_50 : decode cX2_lookAround 50 = .ok (.iconst (-1), 1) := by decide +kernel
theorem dX2_lookAround_51 : decode cX2_lookAround 51 = .ok (.if_icmp .ne 6, 3) := by decide +kernel
theorem dX2_lookAround_54 : decode cX2_lookAround 54 = .ok (.goto 32, 3) := by decide +kernel
theorem dX2_lookAround_57 : decode cX2_lookAround 57 = .ok (.aload_n 0, 1) := by decide +kernel
theorem dX2_lookAround_58 : decode cX2_lookAround 58 = .ok (.getfield 23, 3) := by decide +kernel
theorem dX2_lookAround_61 : decode cX2_lookAround 61 = .ok (.iload_n 2, 1) := by decide +kernel
theorem dX2_lookAround_62 : decode cX2_lookAround 62 = .ok (.iconst 1, 1) := by decide +kernel
theorem dX2_lookAround_63 : decode cX2_lookAround 63 = .ok (.bastore, 1) := by decide +kernel
theorem dX2_lookAround_64 : decode cX2_lookAround 64 = .ok (.aload_n 0, 1) := by decide +kernel
theorem dX2_lookAround_65 : decode cX2_lookAround 65 = .ok (.iload_n 2, 1) := by decide +kernel
theorem dX2_lookAround_66 : decode cX2_lookAround 66 = .ok (.aload_n 0, 1) := by decide +kernel
theorem dX2_lookAround_67 : decode cX2_lookAround 67 = .ok (.getfield 27, 3) := by decide +kernel
theorem dX2_lookAround_70 : decode cX2_lookAround 70 = .ok (.iload_n 2, 1) := by decide +kernel
theorem dX2_lookAround_71 : decode cX2_lookAround 71 = .ok (.invokevirtual 63, 3) := by decide +kernel
theorem dX2_lookAround_74 : decode cX2_lookAround 74 = .ok (.iload_n 2, 1) := by decide +kernel
theorem dX2_lookAround_75 : decode cX2_lookAround 75 = .ok (.iconst 2, 1) := by decide +kernel
theorem dX2_lookAround_76 : decode cX2_lookAround 76 = .ok (.idiv, 1) := by decide +kernel
theorem dX2_lookAround_77 : decode cX2_lookAround 77 = .ok (.invokevirtual 51, 3) := by decide +kernel
theorem dX2_lookAround_80 : decode cX2_lookAround 80 = .ok (.iinc 1 1, 3) := by decide +kernel
theorem dX2_lookAround_83 : decode cX2_lookAround 83 = .ok (.goto (-50), 3) := by decide +kernel
theorem dX2_lookAround_86 : decode cX2_lookAround 86 = .ok (.return_, 1) := by decide +kernel
theorem dX2_forgetAll_0 : decode cX2_forgetAll 0 = .ok (.iconst 0, 1) := by decide +kernel
theorem dX2_forgetAll_1 : decode cX2_forgetAll 1 = .ok (.istore_n 1, 1) := by decide +kernel
theorem dX2_forgetAll_2 : decode cX2_forgetAll 2 = .ok (.iload_n 1, 1) := by decide +kernel
theorem dX2_forgetAll_3 : decode cX2_forgetAll 3 = .ok (.bipush 24, 2) := by decide +kernel
theorem dX2_forgetAll_5 : decode cX2_forgetAll 5 = .ok (.if_icmp .ge 30, 3) := by decide +kernel
theorem dX2_forgetAll_8 : decode cX2_forgetAll 8 = .ok (.aload_n 0, 1) := by decide +kernel
theorem dX2_forgetAll_9 : decode cX2_forgetAll 9 = .ok (.getfield 9, 3) := by decide +kernel
theorem dX2_forgetAll_12 : decode cX2_forgetAll 12 = .ok (.iload_n 1, 1) := by decide +kernel
theorem dX2_forgetAll_13 : decode cX2_forgetAll 13 = .ok (.iconst (-1), 1) := by decide +kernel
theorem dX2_forgetAll_14 : decode cX2_forgetAll 14 = .ok (.iastore, 1) := by decide +kernel
theorem dX2_forgetAll_15 : decode cX2_forgetAll 15 = .ok (.aload_n 0, 1) := by decide +kernel
theorem dX2_forgetAll_16 : decode cX2_forgetAll 16 = .ok (.getfield 15, 3) := by decide +kernel
theorem dX2_forgetAll_19 : decode cX2_forgetAll 19 = .ok (.iload_n 1, 1) := by decide +kernel
theorem dX2_forgetAll_20 : decode cX2_forgetAll 20 = .ok (.iconst 0, 1) := by decide +kernel
theorem dX2_forgetAll_21 : decode cX2_forgetAll 21 = .ok (.iastore, 1) := by decide +kernel
theorem dX2_forgetAll_22 : decode cX2_forgetAll 22 = .ok (.aload_n 0, 1) := by decide +kernel
theorem dX2_forgetAll_23 : decode cX2_forgetAll 23 = .ok (.getfield 23, 3) := by decide +kernel
theorem dX2_forgetAll_26 : decode cX2_forgetAll 26 = .ok (.iload_n 1, 1) := by decide +kernel
theorem dX2_forgetAll_27 : decode cX2_forgetAll 27 = .ok (.iconst 0, 1) := by decide +kernel
theorem dX2_forgetAll_28 : decode cX2_forgetAll 28 = .ok (.bastore, 1) := by decide +kernel
theorem dX2_forgetAll_29 : decode cX2_forgetAll 29 = .ok (.iinc 1 1, 3) := by decide +kernel
theorem dX2_forgetAll_32 : decode cX2_forgetAll 32 = .ok (.goto (-30), 3) := by decide +kernel
theorem dX2_forgetAll_35 : decode cX2_forgetAll 35 = .ok (.return_, 1) := by decide +kernel
set_option maxRecDepth 20000 in
theorem ggX2_nearestOpenSide_X0_sideCount : GoodIn wsX2_nearestOpenSide wsX0_sideCount := goodIn_r _ [8, 9, 17, 18, 19, 20, 21, 22, 23, 24, 25] (by decide +kernel) (by decide +kernel)
set_option maxRecDepth 20000 in
theorem gX2_nearestOpenSide_X0_sideCount : GoodIn wsX2_nearestOpenSide (wsV RX2 55 RX0 yX0_sideCount wsX0_sideCount) := goodIn_app (goodIn_of _ (by decide +kernel)) ggX2_nearestOpenSide_X0_sideCount
theorem dX2_nearestOpenSide_0 : decode cX2_nearestOpenSide 0 = .ok (.iconst (-1), 1) := by decide +kernel
theorem dX2_nearestOpenSide_1 : decode cX2_nearestOpenSide 1 = .ok (.istore_n 1, 1) := by decide +kernel
theorem dX2_nearestOpenSide_2 : decode cX2_nearestOpenSide 2 = .ok (.iconst 0, 1) := by decide +kernel
theorem dX2_nearestOpenSide_3 : decode cX2_nearestOpenSide 3 = .ok (.istore_n 2, 1) := by decide +kernel
theorem dX2_nearestOpenSide_4 : decode cX2_nearestOpenSide 4 = .ok (.iload_n 2, 1) := by decide +kernel
theorem dX2_nearestOpenSide_5 : decode cX2_nearestOpenSide 5 = .ok (.aload_n 0, 1) := by decide +kernel
theorem dX2_nearestOpenSide_6 : decode cX2_nearestOpenSide 6 = .ok (.getfield 27, 3) := by decide +kernel
theorem dX2_nearestOpenSide_9 : decode cX2_nearestOpenSide 9 = .ok (.invokevirtual 55, 3) := by decide +kernel
theorem dX2_nearestOpenSide_12 : decode cX2_nearestOpenSide 12 = .ok (.if_icmp .ge 50, 3) := by decide +kernel
theorem dX2_nearestOpenSide_15 : decode cX2_nearestOpenSide 15 = .ok (.aload_n 0, 1) := by decide +kernel
theorem dX2_nearestOpenSide_16 : decode cX2_nearestOpenSide 16 = .ok (.getfield 23, 3) := by decide +kernel
theorem dX2_nearestOpenSide_19 : decode cX2_nearestOpenSide 19 = .ok (.iload_n 2, 1) := by decide +kernel
theorem dX2_nearestOpenSide_20 : decode cX2_nearestOpenSide 20 = .ok (.baload, 1) := by decide +kernel
theorem dX2_nearestOpenSide_21 : decode cX2_nearestOpenSide 21 = .ok (.ifCond .ne 35, 3) := by decide +kernel
theorem dX2_nearestOpenSide_24 : decode cX2_nearestOpenSide 24 = .ok (.aload_n 0, 1) := by decide +kernel
theorem dX2_nearestOpenSide_25 : decode cX2_nearestOpenSide 25 = .ok (.getfield 9, 3) := by decide +kernel
theorem dX2_nearestOpenSide_28 : decode cX2_nearestOpenSide 28 = .ok (.iload_n 2, 1) := by decide +kernel
theorem dX2_nearestOpenSide_29 : decode cX2_nearestOpenSide 29 = .ok (.iaload, 1) := by decide +kernel
theorem dX2_nearestOpenSide_30 : decode cX2_nearestOpenSide 30 = .ok (.iconst (-1), 1) := by decide +kernel
theorem dX2_nearestOpenSide_31 : decode cX2_nearestOpenSide 31 = .ok (.if_icmp .eq 25, 3) := by decide +kernel
theorem dX2_nearestOpenSide_34 : decode cX2_nearestOpenSide 34 = .ok (.iload_n 1, 1) := by decide +kernel
theorem dX2_nearestOpenSide_35 : decode cX2_nearestOpenSide 35 = .ok (.iconst (-1), 1) := by decide +kernel
theorem dX2_nearestOpenSide_36 : decode cX2_nearestOpenSide 36 = .ok (.if_icmp .eq 18, 3) := by decide +kernel
theorem dX2_nearestOpenSide_39 : decode cX2_nearestOpenSide 39 = .ok (.aload_n 0, 1) := by decide +kernel
theorem dX2_nearestOpenSide_40 : decode cX2_nearestOpenSide 40 = .ok (.getfield 9, 3) := by decide +kernel
theorem dX2_nearestOpenSide_43 : decode cX2_nearestOpenSide 43 = .ok (.iload_n 2, 1) := by decide +kernel
theorem dX2_nearestOpenSide_44 : decode cX2_nearestOpenSide 44 = .ok (.iaload, 1) := by decide +kernel
theorem dX2_nearestOpenSide_45 : decode cX2_nearestOpenSide 45 = .ok (.aload_n 0, 1) := by decide +kernel
theorem dX2_nearestOpenSide_46 : decode cX2_nearestOpenSide 46 = .ok (.getfield 9, 3) := by decide +kernel
theorem dX2_nearestOpenSide_49 : decode cX2_nearestOpenSide 49 = .ok (.iload_n 1, 1) := by decide +kernel
theorem dX2_nearestOpenSide_50 : decode cX2_nearestOpenSide 50 = .ok (.iaload, 1) := by decide +kernel
theorem dX2_nearestOpenSide_51 : decode cX2_nearestOpenSide 51 = .ok (.if_icmp .ge 5, 3) := by decide +kernel
theorem dX2_nearestOpenSide_54 : decode cX2_nearestOpenSide 54 = .ok (.iload_n 2, 1) := by decide +kernel
theorem dX2_nearestOpenSide_55 : decode cX2_nearestOpenSide 55 = .ok (.istore_n 1, 1) := by decide +kernel
theorem dX2_nearestOpenSide_56 : decode cX2_nearestOpenSide 56 = .ok (.iinc 2 1, 3) := by decide +kernel
theorem dX2_nearestOpenSide_59 : decode cX2_nearestOpenSide 59 = .ok (.goto (-55), 3) := by decide +kernel
theorem dX2_nearestOpenSide_62 : decode cX2_nearestOpenSide 62 = .ok (.iload_n 1, 1) := by decide +kernel
theorem dX2_nearestOpenSide_63 : decode cX2_nearestOpenSide 63 = .ok (.ireturn, 1) := by decide +kernel
set_option maxRecDepth 20000 in
theorem ggX2_goOnFrom_X0_sideCount : GoodIn wsX2_goOnFrom wsX0_sideCount := goodIn_r _ [9, 10, 69, 70, 71, 72, 73, 74, 75, 76, 77] (by decide +kernel) (by decide +kernel)
set_option maxRecDepth 20000 in
theorem gX2_goOnFrom_X0_sideCount : GoodIn wsX2_goOnFrom (wsV RX2 55 RX0 yX0_sideCount wsX0_sideCount) := goodIn_app (goodIn_of _ (by decide +kernel)) ggX2_goOnFrom_X0_sideCount
set_option maxRecDepth 20000 in
theorem ggX2_goOnFrom_X0_canGoOn : GoodIn wsX2_goOnFrom wsX0_canGoOn := goodIn_r _ [14, 15, 16, 17, 18, 8, 19, 10, 20, 21, 22, 23, 24, 25, 26, 27, 28, 29, 69, 70, 71, 72, 73, 74, 75, 76, 77] (by decide +kernel) (by decide +kernel)
set_option maxRecDepth 20000 in
theorem gX2_goOnFrom_X0_canGoOn : GoodIn wsX2_goOnFrom (wsV RX2 67 RX0 yX0_canGoOn wsX0_canGoOn) := goodIn_app (goodIn_of _ (by decide +kernel)) ggX2_goOnFrom_X0_canGoOn
set_option maxRecDepth 20000 in
theorem ggX2_goOnFrom_X2_layTrial : GoodIn wsX2_goOnFrom wsX2_layTrial := goodIn_r _ [34, 35, 4, 3, 1, 36, 37, 38, 33, 39, 40, 17, 18, 8, 19, 10, 41, 42, 43, 44, 45, 46, 47, 48, 49, 50, 51, 52, 53, 54, 55, 56, 57, 62, 63, 64, 65, 66, 67, 68, 69, 70, 71, 72, 73, 74, 75, 76, 77] (by decide +kernel) (by decide +kernel)
set_option maxRecDepth 20000 in
theorem gX2_goOnFrom_X2_layTrial : GoodIn wsX2_goOnFrom (wsV RX2 71 RX2 yX2_layTrial wsX2_layTrial) := goodIn_app (goodIn_of _ (by decide +kernel)) ggX2_goOnFrom_X2_layTrial
set_option maxRecDepth 20000 in
theorem ggX2_goOnFrom_X2_isShorter : GoodIn wsX2_goOnFrom wsX2_isShorter := goodIn_r _ [61, 3, 4, 35, 62, 63, 64, 65, 66, 67, 68] (by decide +kernel) (by decide +kernel)
set_option maxRecDepth 20000 in
theorem gX2_goOnFrom_X2_isShorter : GoodIn wsX2_goOnFrom (wsV RX2 74 RX2 yX2_isShorter wsX2_isShorter) := goodIn_app (goodIn_of _ (by decide +kernel)) ggX2_goOnFrom_X2_isShorter
set_option maxRecDepth 20000 in
theorem ggX2_goOnFrom_X2_copyRow : GoodIn wsX2_goOnFrom wsX2_copyRow := goodIn_r _ [44, 35, 62, 63, 64, 65, 66, 67, 68] (by decide +kernel) (by decide +kernel)
set_option maxRecDepth 20000 in
theorem gX2_goOnFrom_X2_copyRow : GoodIn wsX2_goOnFrom (wsV RX2 78 RX2 yX2_copyRow wsX2_copyRow) := goodIn_app (goodIn_of _ (by decide +kernel)) ggX2_goOnFrom_X2_copyRow
theorem dX2_goOnFrom_0 : decode cX2_goOnFrom 0 = .ok (.iconst 0, 1) := by decide +kernel
theorem dX2_goOnFrom_1 : decode cX2_goOnFrom 1 = .ok (.istore 4, 2) := by decide +kernel
theorem dX2_goOnFrom_3 : decode cX2_goOnFrom 3 = .ok (.iload 4, 2) := by decide +kernel
theorem dX2_goOnFrom_5 : decode cX2_goOnFrom 5 = .ok (.aload_n 0, 1) := by decide +kernel
theorem dX2_goOnFrom_6 : decode cX2_goOnFrom 6 = .ok (.getfield 27, 3) := by decide +kernel
theorem dX2_goOnFrom_9 : decode cX2_goOnFrom 9 = .ok (.invokevirtual 55, 3) := by decide +kernel
theorem dX2_goOnFrom_12 : decode cX2_goOnFrom 12 = .ok (.if_icmp .ge 118, 3) := by decide +kernel
theorem dX2_goOnFrom_15 : decode cX2_goOnFrom 15 = .ok (.aload_n 0, 1) := by decide +kernel
theorem dX2_goOnFrom_16 : decode cX2_goOnFrom 16 = .ok (.getfield 23, 3) := by decide +kernel
theorem dX2_goOnFrom_19 : decode cX2_goOnFrom 19 = .ok (.iload 4, 2) := by decide +kernel
theorem dX2_goOnFrom_21 : decode cX2_goOnFrom 21 = .ok (.baload, 1) := by decide +kernel
theorem dX2_goOnFrom_22 : decode cX2_goOnFrom 22 = .ok (.ifCond .ne 102, 3) := by decide +kernel
theorem dX2_goOnFrom_25 : decode cX2_goOnFrom 25 = .ok (.aload_n 0, 1) := by decide +kernel
theorem dX2_goOnFrom_26 : decode cX2_goOnFrom 26 = .ok (.getfield 27, 3) := by decide +kernel
theorem dX2_goOnFrom_29 : decode cX2_goOnFrom 29 = .ok (.iload_n 2, 1) := by decide +kernel
theorem dX2_goOnFrom_30 : decode cX2_goOnFrom 30 = .ok (.iload_n 3, 1) := by decide +kernel
theorem dX2_goOnFrom_31 : decode cX2_goOnFrom 31 = .ok (.iload 4, 2) := by decide +kernel
theorem dX2_goOnFrom_33 : decode cX2_goOnFrom 33 = .ok (.invokevirtual 67, 3) := by decide +kernel
theorem dX2_goOnFrom_36 : decode cX2_goOnFrom 36 = .ok (.ifCond .eq 88, 3) := by decide +kernel
theorem dX2_goOnFrom_39 : decode cX2_goOnFrom 39 = .ok (.aload_n 0, 1) := by decide +kernel
theorem dX2_goOnFrom_40 : decode cX2_goOnFrom 40 = .ok (.iload_n 1, 1) := by decide +kernel
theorem dX2_goOnFrom_41 : decode cX2_goOnFrom 41 = .ok (.iload 4, 2) := by decide +kernel
theorem dX2_goOnFrom_43 : decode cX2_goOnFrom 43 = .ok (.iload 4, 2) := by decide +kernel
theorem dX2_goOnFrom_45 : decode cX2_goOnFrom 45 = .ok (.iconst 2, 1) := by decide +kernel
theorem dX2_goOnFrom_46 : decode cX2_goOnFrom 46 = .ok (.idiv, 1) := by decide +kernel
theorem dX2_goOnFrom_47 : decode cX2_goOnFrom 47 = .ok (.iload_n 3, 1) := by decide +kernel
theorem dX2_goOnFrom_48 : decode cX2_goOnFrom 48 = .ok (.if_icmp .ne 7, 3) := by decide +kernel
theorem dX2_goOnFrom_51 : decode cX2_goOnFrom 51 = .ok (.iconst 2, 1) := by decide +kernel
theorem dX2_goOnFrom_52 : decode cX2_goOnFrom 52 = .ok (.goto 4, 3) := by decide +kernel
theorem dX2_goOnFrom_55 : decode cX2_goOnFrom 55 = .ok (.iconst 0, 1) := by decide +kernel
theorem dX2_goOnFrom_56 : decode cX2_goOnFrom 56 = .ok (.invokevirtual 71, 3) := by decide +kernel
theorem dX2_goOnFrom_59 : decode cX2_goOnFrom 59 = .ok (.aload_n 0, 1) := by decide +kernel
theorem dX2_goOnFrom_60 : decode cX2_goOnFrom 60 = .ok (.getfield 9, 3) := by decide +kernel
theorem dX2_goOnFrom_63 : decode cX2_goOnFrom 63 = .ok (.iload 4, 2) := by decide +kernel
theorem dX2_goOnFrom_65 : decode cX2_goOnFrom 65 = .ok (.iaload, 1) := by decide +kernel
theorem dX2_goOnFrom_66 : decode cX2_goOnFrom 66 = .ok (.iconst (-1), 1) := by decide +kernel
theorem dX2_goOnFrom_67 : decode cX2_goOnFrom 67 = .ok (.if_icmp .eq 14, 3) := by decide +kernel
theorem dX2_goOnFrom_70 : decode cX2_goOnFrom 70 = .ok (.aload_n 0, 1) := by decide +kernel
theorem dX2_goOnFrom_71 : decode cX2_goOnFrom 71 = .ok (.bipush 24, 2) := by decide +kernel
theorem dX2_goOnFrom_73 : decode cX2_goOnFrom 73 = .ok (.iload 4, 2) := by decide +kernel
theorem dX2_goOnFrom_75 : decode cX2_goOnFrom 75 = .ok (.invokevirtual 74, 3) := by decide +kernel
theorem dX2_goOnFrom_78 : decode cX2_goOnFrom 78 = .ok (.ifCond .eq 46, 3) := by decide +kernel
theorem dX2_goOnFrom_81 : decode cX2_goOnFrom 81 = .ok (.aload_n 0, 1) := by decide +kernel
theorem dX2_goOnFrom_82 : decode cX2_goOnFrom 82 = .ok (.bipush 24, 2) := by decide +kernel
theorem dX2_goOnFrom_84 : decode cX2_goOnFrom 84 = .ok (.iload 4, 2) := by decide +kernel
theorem dX2_goOnFrom_86 : decode cX2_goOnFrom 86 = .ok (.aload_n 0, 1) := by decide +kernel
theorem dX2_goOnFrom_87 : decode cX2_goOnFrom 87 = .ok (.getfield 15, 3) := by decide +kernel
theorem dX2_goOnFrom_90 : decode cX2_goOnFrom 90 = .ok (.bipush 24, 2) := by decide +kernel
theorem dX2_goOnFrom_92 : decode cX2_goOnFrom 92 = .ok (.iaload, 1) := by decide +kernel
theorem dX2_goOnFrom_93 : decode cX2_goOnFrom 93 = .ok (.invokevirtual 78, 3) := by decide +kernel
theorem dX2_goOnFrom_96 : decode cX2_goOnFrom 96 = .ok (.aload_n 0, 1) := by decide +kernel
theorem dX2_goOnFrom_97 : decode cX2_goOnFrom 97 = .ok (.getfield 9, 3) := by decide +kernel
theorem dX2_goOnFrom_100 : decode cX2_goOnFrom 100 = .ok (.iload 4, 2) := by decide +kernel
theorem dX2_goOnFrom_102 : decode cX2_goOnFrom 102 = .ok (.aload_n 0, 1) := by decide +kernel
theorem dX2_goOnFrom_103 : decode cX2_goOnFrom 103 = .ok (.getfield 9, 3) := by decide +kernel
theorem dX2_goOnFrom_106 : decode cX2_goOnFrom 106 = .ok (.bipush 24, 2) := by decide +kernel
theorem dX2_goOnFrom_108 : decode cX2_goOnFrom 108 = .ok (.iaload, 1) := by decide +kernel
theorem dX2_goOnFrom_109 : decode cX2_goOnFrom 109 = .ok (.iastore, 1) := by decide +kernel
theorem dX2_goOnFrom_110 : decode cX2_goOnFrom 110 = .ok (.aload_n 0, 1) := by decide +kernel
theorem dX2_goOnFrom_111 : decode cX2_goOnFrom 111 = .ok (.getfield 15, 3) := by decide +kernel
theorem dX2_goOnFrom_114 : decode cX2_goOnFrom 114 = .ok (.iload 4, 2) := by decide +kernel
theorem dX2_goOnFrom_116 : decode cX2_goOnFrom 116 = .ok (.aload_n 0, 1) := by decide +kernel
theorem dX2_goOnFrom_117 : decode cX2_goOnFrom 117 = .ok (.getfield 15, 3) := by decide +kernel
theorem dX2_goOnFrom_120 : decode cX2_goOnFrom 120 = .ok (.bipush 24, 2) := by decide +kernel
theorem dX2_goOnFrom_122 : decode cX2_goOnFrom 122 = .ok (.iaload, 1) := by decide +kernel
theorem dX2_goOnFrom_123 : decode cX2_goOnFrom 123 = .ok (.iastore, 1) := by decide +kernel
theorem dX2_goOnFrom_124 : decode cX2_goOnFrom 124 = .ok (.iinc 4 1, 3) := by decide +kernel
theorem dX2_goOnFrom_127 : decode cX2_goOnFrom 127 = .ok (.goto (-124), 3) := by decide +kernel
theorem dX2_goOnFrom_130 : decode cX2_goOnFrom 130 = .ok (.return_, 1) := by decide +kernel
set_option maxRecDepth 20000 in
theorem ggX2_layTrial_X2_lengthTo : GoodIn wsX2_layTrial wsX2_lengthTo := goodIn_r _ [9, 4, 2, 10, 11, 12, 13, 14, 15, 33, 34, 35, 36, 37, 38, 39, 40, 41, 42, 43, 44, 45, 46, 47, 48] (by decide +kernel) (by decide +kernel)
set_option maxRecDepth 20000 in
theorem gX2_layTrial_X2_lengthTo : GoodIn wsX2_layTrial (wsV RX2 81 RX2 yX2_lengthTo wsX2_lengthTo) := goodIn_app (goodIn_of _ (by decide +kernel)) ggX2_layTrial_X2_lengthTo
set_option maxRecDepth 20000 in
theorem ggX2_layTrial_X2_copyRow : GoodIn wsX2_layTrial wsX2_copyRow := goodIn_r _ [19, 1, 33, 34, 35, 36, 37, 38, 39] (by decide +kernel) (by decide +kernel)
set_option maxRecDepth 20000 in
theorem gX2_layTrial_X2_copyRow : GoodIn wsX2_layTrial (wsV RX2 78 RX2 yX2_copyRow wsX2_copyRow) := goodIn_app (goodIn_of _ (by decide +kernel)) ggX2_layTrial_X2_copyRow
set_option maxRecDepth 20000 in
theorem ggX2_layTrial_X2_minutesTo : GoodIn wsX2_layTrial wsX2_minutesTo := goodIn_r _ [23, 4, 3, 10, 11, 12, 13, 14, 15, 33, 34, 35, 36, 37, 38, 39, 40, 41, 42, 43, 44, 45, 46, 47, 48] (by decide +kernel) (by decide +kernel)
set_option maxRecDepth 20000 in
theorem gX2_layTrial_X2_minutesTo : GoodIn wsX2_layTrial (wsV RX2 84 RX2 yX2_minutesTo wsX2_minutesTo) := goodIn_app (goodIn_of _ (by decide +kernel)) ggX2_layTrial_X2_minutesTo
set_option maxRecDepth 20000 in
theorem ggX2_layTrial_X0_minutesOf : GoodIn wsX2_layTrial wsX0_minutesOf := goodIn_r _ [27, 28, 29, 30, 31, 13, 32, 15, 40, 41, 42, 43, 44, 45, 46, 47, 48] (by decide +kernel) (by decide +kernel)
set_option maxRecDepth 20000 in
theorem gX2_layTrial_X0_minutesOf : GoodIn wsX2_layTrial (wsV RX2 87 RX0 yX0_minutesOf wsX0_minutesOf) := goodIn_app (goodIn_of _ (by decide +kernel)) ggX2_layTrial_X0_minutesOf
theorem dX2_layTrial_0 : decode cX2_layTrial 0 = .ok (.aload_n 0, 1) := by decide +kernel
theorem dX2_layTrial_1 : decode cX2_layTrial 1 = .ok (.iload_n 1, 1) := by decide +kernel
theorem dX2_layTrial_2 : decode cX2_layTrial 2 = .ok (.invokevirtual 81, 3) := by decide +kernel
theorem dX2_layTrial_5 : decode cX2_layTrial 5 = .ok (.istore 4, 2) := by decide +kernel
theorem dX2_layTrial_7 : decode cX2_layTrial 7 = .ok (.iload 4, 2) := by decide +kernel
theorem dX2_layTrial_9 : decode cX2_layTrial 9 = .ok (.bipush 24, 2) := by decide +kernel
theorem dX2_layTrial_11 : decode cX2_layTrial 11 = .ok (.if_icmp .lt 4, 3) := by decide +kernel
theorem dX2_layTrial_14 : decode cX2_layTrial 14 = .ok (.return_, 1) := by decide +kernel
theorem dX2_layTrial_15 : decode cX2_layTrial 15 = .ok (.aload_n 0, 1) := by decide +kernel
theorem dX2_layTrial_16 : decode cX2_layTrial 16 = .ok (.iload_n 1, 1) := by decide +kernel
theorem dX2_layTrial_17 : decode cX2_layTrial 17 = .ok (.bipush 24, 2) := by decide +kernel
theorem dX2_layTrial_19 : decode cX2_layTrial 19 = .ok (.iload 4, 2) := by decide +kernel
theorem dX2_layTrial_21 : decode cX2_layTrial 21 = .ok (.invokevirtual 78, 3) := by decide +kernel
theorem dX2_layTrial_24 : decode cX2_layTrial 24 = .ok (.aload_n 0, 1) := by decide +kernel
theorem dX2_layTrial_25 : decode cX2_layTrial 25 = .ok (.getfield 20, 3) := by decide +kernel
theorem dX2_layTrial_28 : decode cX2_layTrial 28 = .ok (.bipush 24, 2) := by decide +kernel
theorem dX2_layTrial_30 : decode cX2_layTrial 30 = .ok (.aaload, 1) := by decide +kernel
theorem dX2_layTrial_31 : decode cX2_layTrial 31 = .ok (.iload 4, 2) := by decide +kernel
theorem dX2_layTrial_33 : decode cX2_layTrial 33 = .ok (.iload_n 2, 1) := by decide +kernel
theorem dX2_layTrial_34 : decode cX2_layTrial 34 = .ok (.iconst 2, 1) := by decide +kernel
theorem dX2_layTrial_35 : decode cX2_layTrial 35 = .ok (.idiv, 1) := by decide +kernel
theorem dX2_layTrial_36 : decode cX2_layTrial 36 = .ok (.iastore, 1) := by decide +kernel
theorem dX2_layTrial_37 : decode cX2_layTrial 37 = .ok (.aload_n 0, 1) := by decide +kernel
theorem dX2_layTrial_38 : decode cX2_layTrial 38 = .ok (.getfield 15, 3) := by decide +kernel
theorem dX2_layTrial_41 : decode cX2_layTrial 41 = .ok (.bipush 24, 2) := by decide +kernel
theorem dX2_layTrial_43 : decode cX2_layTrial 43 = .ok (.iload 4, 2) := by decide +kernel
theorem dX2_layTrial_45 : decode cX2_layTrial 45 = .ok (.iconst 1, 1) := by decide +kernel
theorem dX2_layTrial_46 : decode cX2_layTrial 46 = .ok (.iadd, 1) := by decide +kernel
theorem dX2_layTrial_47 : decode cX2_layTrial 47 = .ok (.iastore, 1) := by decide +kernel
theorem dX2_layTrial_48 : decode cX2_layTrial 48 = .ok (.aload_n 0, 1) := by decide +kernel
theorem dX2_layTrial_49 : decode cX2_layTrial 49 = .ok (.getfield 9, 3) := by decide +kernel
theorem dX2_layTrial_52 : decode cX2_layTrial 52 = .ok (.bipush 24, 2) := by decide +kernel
theorem dX2_layTrial_54 : decode cX2_layTrial 54 = .ok (.iload_n 1, 1) := by decide +kernel
theorem dX2_layTrial_55 : decode cX2_layTrial 55 = .ok (.iconst (-1), 1) := by decide +kernel
theorem dX2_layTrial_56 : decode cX2_layTrial 56 = .ok (.if_icmp .ne 7, 3) := by decide +kernel
theorem dX2_layTrial_59 : decode cX2_layTrial 59 = .ok (.iconst 0, 1) := by decide +kernel
theorem dX2_layTrial_60 : decode cX2_layTrial 60 = .ok (.goto 8, 3) := by decide +kernel
theorem dX2_layTrial_63 : decode cX2_layTrial 63 = .ok (.aload_n 0, 1) := by decide +kernel
theorem dX2_layTrial_64 : decode cX2_layTrial 64 = .ok (.iload_n 1, 1) := by decide +kernel
theorem dX2_layTrial_65 : decode cX2_layTrial 65 = .ok (.invokevirtual 84, 3) := by decide +kernel
theorem dX2_layTrial_68 : decode cX2_layTrial 68 = .ok (.aload_n 0, 1) := by decide +kernel
theorem dX2_layTrial_69 : decode cX2_layTrial 69 = .ok (.getfield 27, 3) := by decide +kernel
theorem dX2_layTrial_72 : decode cX2_layTrial 72 = .ok (.iload_n 2, 1) := by decide +kernel
theorem dX2_layTrial_73 : decode cX2_layTrial 73 = .ok (.iconst 2, 1) := by decide +kernel
theorem dX2_layTrial_74 : decode cX2_layTrial 74 = .ok (.idiv, 1) := by decide +kernel
theorem dX2_layTrial_75 : decode cX2_layTrial 75 = .ok (.invokevirtual 87, 3) := by decide +kernel
theorem dX2_layTrial_78 : decode cX2_layTrial 78 = .ok (.iadd, 1) := by decide +kernel
theorem dX2_layTrial_79 : decode cX2_layTrial 79 = .ok (.iload_n 3, 1) := by decide +kernel
theorem dX2_layTrial_80 : decode cX2_layTrial 80 = .ok (.iadd, 1) := by decide +kernel
theorem dX2_layTrial_81 : decode cX2_layTrial 81 = .ok (.iastore, 1) := by decide +kernel
theorem dX2_layTrial_82 : decode cX2_layTrial 82 = .ok (.return_, 1) := by decide +kernel
theorem dX2_copyRow_0 : decode cX2_copyRow 0 = .ok (.iconst 0, 1) := by decide +kernel
theorem dX2_copyRow_1 : decode cX2_copyRow 1 = .ok (.istore 4, 2) := by decide +kernel
theorem dX2_copyRow_3 : decode cX2_copyRow 3 = .ok (.iload 4, 2) := by decide +kernel
theorem dX2_copyRow_5 : decode cX2_copyRow 5 = .ok (.iload_n 3, 1) := by decide +kernel
theorem dX2_copyRow_6 : decode cX2_copyRow 6 = .ok (.if_icmp .ge 27, 3) := by decide +kernel
theorem dX2_copyRow_9 : decode cX2_copyRow 9 = .ok (.aload_n 0, 1) := by decide +kernel
theorem dX2_copyRow_10 : decode cX2_copyRow 10 = .ok (.getfield 20, 3) := by decide +kernel
theorem dX2_copyRow_13 : decode cX2_copyRow 13 = .ok (.iload_n 2, 1) := by decide +kernel
theorem dX2_copyRow_14 : decode cX2_copyRow 14 = .ok (.aaload, 1) := by decide +kernel
theorem dX2_copyRow_15 : decode cX2_copyRow 15 = .ok (.iload 4, 2) := by decide +kernel
theorem dX2_copyRow_17 : decode cX2_copyRow 17 = .ok (.aload_n 0, 1) := by decide +kernel
theorem dX2_copyRow_18 : decode cX2_copyRow 18 = .ok (.getfield 20, 3) := by decide +kernel
theorem dX2_copyRow_21 : decode cX2_copyRow 21 = .ok (.iload_n 1, 1) := by decide +kernel
theorem dX2_copyRow_22 : decode cX2_copyRow 22 = .ok (.aaload, 1) := by decide +kernel
theorem dX2_copyRow_23 : decode cX2_copyRow 23 = .ok (.iload 4, 2) := by decide +kernel
theorem dX2_copyRow_25 : decode cX2_copyRow 25 = .ok (.iaload, 1) := by decide +kernel
theorem dX2_copyRow_26 : decode cX2_copyRow 26 = .ok (.iastore, 1) := by decide +kernel
theorem dX2_copyRow_27 : decode cX2_copyRow 27 = .ok (.iinc 4 1, 3) := by decide +kernel
theorem dX2_copyRow_30 : decode cX2_copyRow 30 = .ok (.goto (-27), 3) := by decide +kernel
theorem dX2_copyRow_33 : decode cX2_copyRow 33 = .ok (.return_, 1) := by decide +kernel
theorem dX2_isShorter_0 : decode cX2_isShorter 0 = .ok (.aload_n 0, 1) := by decide +kernel
theorem dX2_isShorter_1 : decode cX2_isShorter 1 = .ok (.getfield 9, 3) := by decide +kernel
theorem dX2_isShorter_4 : decode cX2_isShorter 4 = .ok (.iload_n 1, 1) := by decide +kernel
theorem dX2_isShorter_5 : decode cX2_isShorter 5 = .ok (.iaload, 1) := by decide +kernel
theorem dX2_isShorter_6 : decode cX2_isShorter 6 = .ok (.aload_n 0, 1) := by decide +kernel
theorem dX2_isShorter_7 : decode cX2_isShorter 7 = .ok (.getfield 9, 3) := by decide +kernel
theorem dX2_isShorter_10 : decode cX2_isShorter 10 = .ok (.iload_n 2, 1) := by decide +kernel
theorem dX2_isShorter_11 : decode cX2_isShorter 11 = .ok (.iaload, 1) := by decide +kernel
theorem dX2_isShorter_12 : decode cX2_isShorter 12 = .ok (.if_icmp .eq 24, 3) := by decide +kernel
theorem dX2_isShorter_15 : decode cX2_isShorter 15 = .ok (.aload_n 0, 1) := by decide +kernel
theorem dX2_isShorter_16 : decode cX2_isShorter 16 = .ok (.getfield 9, 3) := by decide +kernel
theorem dX2_isShorter_19 : decode cX2_isShorter 19 = .ok (.iload_n 1, 1) := by decide +kernel
theorem dX2_isShorter_20 : decode cX2_isShorter 20 = .ok (.iaload, 1) := by decide +kernel
theorem dX2_isShorter_21 : decode cX2_isShorter 21 = .ok (.aload_n 0, 1) := by decide +kernel
theorem dX2_isShorter_22 : decode cX2_isShorter 22 = .ok (.getfield 9, 3) := by decide +kernel
theorem dX2_isShorter_25 : decode cX2_isShorter 25 = .ok (.iload_n 2, 1) := by decide +kernel
theorem dX2_isShorter_26 : decode cX2_isShorter 26 = .ok (.iaload, 1) := by decide +kernel
theorem dX2_isShorter_27 : decode cX2_isShorter 27 = .ok (.if_icmp .ge 7, 3) := by decide +kernel
theorem dX2_isShorter_30 : decode cX2_isShorter 30 = .ok (.iconst 1, 1) := by decide +kernel
theorem dX2_isShorter_31 : decode cX2_isShorter 31 = .ok (.goto 4, 3) := by decide +kernel
theorem dX2_isShorter_34 : decode cX2_isShorter 34 = .ok (.iconst 0, 1) := by decide +kernel
theorem dX2_isShorter_35 : decode cX2_isShorter 35 = .ok (.ireturn, 1) := by decide +kernel
theorem dX2_isShorter_36 : decode cX2_isShorter 36 = .ok (.aload_n 0, 1) := by decide +kernel
theorem dX2_isShorter_37 : decode cX2_isShorter 37 = .ok (.getfield 15, 3) := by decide +kernel
theorem dX2_isShorter_40 : decode cX2_isShorter 40 = .ok (.iload_n 1, 1) := by decide +kernel
theorem dX2_isShorter_41 : decode cX2_isShorter 41 = .ok (.iaload, 1) := by decide +kernel
theorem dX2_isShorter_42 : decode cX2_isShorter 42 = .ok (.aload_n 0, 1) := by decide +kernel
theorem dX2_isShorter_43 : decode cX2_isShorter 43 = .ok (.getfield 15, 3) := by decide +kernel
theorem dX2_isShorter_46 : decode cX2_isShorter 46 = .ok (.iload_n 2, 1) := by decide +kernel
theorem dX2_isShorter_47 : decode cX2_isShorter 47 = .ok (.iaload, 1) := by decide +kernel
theorem dX2_isShorter_48 : decode cX2_isShorter 48 = .ok (.if_icmp .eq 24, 3) := by decide +kernel
theorem dX2_isShorter_51 : decode cX2_isShorter 51 = .ok (.aload_n 0, 1) := by decide +kernel
theorem dX2_isShorter_52 : decode cX2_isShorter 52 = .ok (.getfield 15, 3) := by decide +kernel
theorem dX2_isShorter_55 : decode cX2_isShorter 55 = .ok (.iload_n 1, 1) := by decide +kernel
theorem dX2_isShorter_56 : decode cX2_isShorter 56 = .ok (.iaload, 1) := by decide +kernel
theorem dX2_isShorter_57 : decode cX2_isShorter 57 = .ok (.aload_n 0, 1) := by decide +kernel
theorem dX2_isShorter_58 : decode cX2_isShorter 58 = .ok (.getfield 15, 3) := by decide +kernel
theorem dX2_isShorter_61 : decode cX2_isShorter 61 = .ok (.iload_n 2, 1) := by decide +kernel
theorem dX2_isShorter_62 : decode cX2_isShorter 62 = .ok (.iaload, 1) := by decide +kernel
theorem dX2_isShorter_63 : decode cX2_isShorter 63 = .ok (.if_icmp .ge 7, 3) := by decide +kernel
theorem dX2_isShorter_66 : decode cX2_isShorter 66 = .ok (.iconst 1, 1) := by decide +kernel
theorem dX2_isShorter_67 : decode cX2_isShorter 67 = .ok (.goto 4, 3) := by decide +kernel
theorem dX2_isShorter_70 : decode cX2_isShorter 70 = .ok (.iconst 0, 1) := by decide +kernel
theorem dX2_isShorter_71 : decode cX2_isShorter 71 = .ok (.ireturn, 1) := by decide +kernel
theorem dX2_isShorter_72 : decode cX2_isShorter 72 = .ok (.iconst 0, 1) := by decide +kernel
theorem dX2_isShorter_73 : decode cX2_isShorter 73 = .ok (.istore_n 3, 1) := by decide +kernel
theorem dX2_isShorter_74 : decode cX2_isShorter 74 = .ok (.iload_n 3, 1) := by decide +kernel
theorem dX2_isShorter_75 : decode cX2_isShorter 75 = .ok (.aload_n 0, 1) := by decide +kernel
theorem dX2_isShorter_76 : decode cX2_isShorter 76 = .ok (.getfield 15, 3) := by decide +kernel
theorem dX2_isShorter_79 : decode cX2_isShorter 79 = .ok (.iload_n 1, 1) := by decide +kernel
theorem dX2_isShorter_80 : decode cX2_isShorter 80 = .ok (.iaload, 1) := by decide +kernel
theorem dX2_isShorter_81 : decode cX2_isShorter 81 = .ok (.if_icmp .ge 53, 3) := by decide +kernel
theorem dX2_isShorter_84 : decode cX2_isShorter 84 = .ok (.aload_n 0, 1) := by decide +kernel
theorem dX2_isShorter_85 : decode cX2_isShorter 85 = .ok (.getfield 20, 3) := by decide +kernel
theorem dX2_isShorter_88 : decode cX2_isShorter 88 = .ok (.iload_n 1, 1) := by decide +kernel
theorem dX2_isShorter_89 : decode cX2_isShorter 89 = .ok (.aaload, 1) := by decide +kernel
theorem dX2_isShorter_90 : decode cX2_isShorter 90 = .ok (.iload_n 3, 1) := by decide +kernel
theorem dX2_isShorter_91 : decode cX2_isShorter 91 = .ok (.iaload, 1) := by decide +kernel
theorem dX2_isShorter_92 : decode cX2_isShorter 92 = .ok (.aload_n 0, 1) := by decide +kernel
theorem dX2_isShorter_93 : decode cX2_isShorter 93 = .ok (.getfield 20, 3) := by decide +kernel
theorem dX2_isShorter_96 : decode cX2_isShorter 96 = .ok (.iload_n 2, 1) := by decide +kernel
theorem dX2_isShorter_97 : decode cX2_isShorter 97 = .ok (.aaload, 1) := by decide +kernel
theorem dX2_isShorter_98 : decode cX2_isShorter 98 = .ok (.iload_n 3, 1) := by decide +kernel
theorem dX2_isShorter_99 : decode cX2_isShorter 99 = .ok (.iaload, 1) := by decide +kernel
theorem dX2_isShorter_100 : decode cX2_isShorter 100 = .ok (.if_icmp .eq 28, 3) := by decide +kernel
theorem dX2_isShorter_103 : decode cX2_isShorter 103 = .ok (.aload_n 0, 1) := by decide +kernel
theorem dX2_isShorter_104 : decode cX2_isShorter 104 = .ok (.getfield 20, 3) := by decide +kernel
theorem dX2_isShorter_107 : decode cX2_isShorter 107 = .ok (.iload_n 1, 1) := by decide +kernel
theorem dX2_isShorter_108 : decode cX2_isShorter 108 = .ok (.aaload, 1) := by decide +kernel
theorem dX2_isShorter_109 : decode cX2_isShorter 109 = .ok (.iload_n 3, 1) := by decide +kernel
theorem dX2_isShorter_110 : decode cX2_isShorter 110 = .ok (.iaload, 1) := by decide +kernel
theorem dX2_isShorter_111 : decode cX2_isShorter 111 = .ok (.aload_n 0, 1) := by decide +kernel
theorem dX2_isShorter_112 : decode cX2_isShorter 112 = .ok (.getfield 20, 3) := by decide +kernel
theorem dX2_isShorter_115 : decode cX2_isShorter 115 = .ok (.iload_n 2, 1) := by decide +kernel
theorem dX2_isShorter_116 : decode cX2_isShorter 116 = .ok (.aaload, 1) := by decide +kernel
theorem dX2_isShorter_117 : decode cX2_isShorter 117 = .ok (.iload_n 3, 1) := by decide +kernel
theorem dX2_isShorter_118 : decode cX2_isShorter 118 = .ok (.iaload, 1) := by decide +kernel
theorem dX2_isShorter_119 : decode cX2_isShorter 119 = .ok (.if_icmp .ge 7, 3) := by decide +kernel
theorem dX2_isShorter_122 : decode cX2_isShorter 122 = .ok (.iconst 1, 1) := by decide +kernel
theorem dX2_isShorter_123 : decode cX2_isShorter 123 = .ok (.goto 4, 3) := by decide +kernel
theorem dX2_isShorter_126 : decode cX2_isShorter 126 = .ok (.iconst 0, 1) := by decide +kernel
theorem dX2_isShorter_127 : decode cX2_isShorter 127 = .ok (.ireturn, 1) := by decide +kernel
theorem dX2_isShorter_128 : decode cX2_isShorter 128 = .ok (.iinc 3 1, 3) := by decide +kernel
theorem dX2_isShorter_131 : decode cX2_isShorter 131 = .ok (.goto (-57), 3) := by decide +kernel
theorem dX2_isShorter_134 : decode cX2_isShorter 134 = .ok (.iconst 0, 1) := by decide +kernel
theorem dX2_isShorter_135 : decode cX2_isShorter 135 = .ok (.ireturn, 1) := by decide +kernel
set_option maxRecDepth 20000 in
theorem ggX2_minutesTo_X0_hasSide : GoodIn wsX2_minutesTo wsX0_hasSide := goodIn_r _ [7, 8, 16, 17, 18, 19, 20, 21, 22, 23, 24] (by decide +kernel) (by decide +kernel)
set_option maxRecDepth 20000 in
theorem gX2_minutesTo_X0_hasSide : GoodIn wsX2_minutesTo (wsV RX2 90 RX0 yX0_hasSide wsX0_hasSide) := goodIn_app (goodIn_of _ (by decide +kernel)) ggX2_minutesTo_X0_hasSide
theorem dX2_minutesTo_0 : decode cX2_minutesTo 0 = .ok (.aload_n 0, 1) := by decide +kernel
theorem dX2_minutesTo_1 : decode cX2_minutesTo 1 = .ok (.getfield 27, 3) := by decide +kernel
theorem dX2_minutesTo_4 : decode cX2_minutesTo 4 = .ok (.iload_n 1, 1) := by decide +kernel
theorem dX2_minutesTo_5 : decode cX2_minutesTo 5 = .ok (.invokevirtual 90, 3) := by decide +kernel
theorem dX2_minutesTo_8 : decode cX2_minutesTo 8 = .ok (.ifCond .eq 12, 3) := by decide +kernel
theorem dX2_minutesTo_11 : decode cX2_minutesTo 11 = .ok (.aload_n 0, 1) := by decide +kernel
theorem dX2_minutesTo_12 : decode cX2_minutesTo 12 = .ok (.getfield 9, 3) := by decide +kernel
theorem dX2_minutesTo_15 : decode cX2_minutesTo 15 = .ok (.iload_n 1, 1) := by decide +kernel
theorem dX2_minutesTo_16 : decode cX2_minutesTo 16 = .ok (.iaload, 1) := by decide +kernel
theorem dX2_minutesTo_17 : decode cX2_minutesTo 17 = .ok (.goto 4, 3) := by decide +kernel
theorem dX2_minutesTo_20 : decode cX2_minutesTo 20 = .ok (.iconst (-1), 1) := by decide +kernel
theorem dX2_minutesTo_21 : decode cX2_minutesTo 21 = .ok (.ireturn, 1) := by decide +kernel
set_option maxRecDepth 20000 in
theorem ggX2_lengthTo_X0_hasSide : GoodIn wsX2_lengthTo wsX0_hasSide := goodIn_r _ [7, 8, 16, 17, 18, 19, 20, 21, 22, 23, 24] (by decide +kernel) (by decide +kernel)
set_option maxRecDepth 20000 in
theorem gX2_lengthTo_X0_hasSide : GoodIn wsX2_lengthTo (wsV RX2 90 RX0 yX0_hasSide wsX0_hasSide) := goodIn_app (goodIn_of _ (by decide +kernel)) ggX2_lengthTo_X0_hasSide
theorem dX2_lengthTo_0 : decode cX2_lengthTo 0 = .ok (.aload_n 0, 1) := by decide +kernel
theorem dX2_lengthTo_1 : decode cX2_lengthTo 1 = .ok (.getfield 27, 3) := by decide +kernel
theorem dX2_lengthTo_4 : decode cX2_lengthTo 4 = .ok (.iload_n 1, 1) := by decide +kernel
theorem dX2_lengthTo_5 : decode cX2_lengthTo 5 = .ok (.invokevirtual 90, 3) := by decide +kernel
theorem dX2_lengthTo_8 : decode cX2_lengthTo 8 = .ok (.ifCond .eq 12, 3) := by decide +kernel
theorem dX2_lengthTo_11 : decode cX2_lengthTo 11 = .ok (.aload_n 0, 1) := by decide +kernel
theorem dX2_lengthTo_12 : decode cX2_lengthTo 12 = .ok (.getfield 15, 3) := by decide +kernel
theorem dX2_lengthTo_15 : decode cX2_lengthTo 15 = .ok (.iload_n 1, 1) := by decide +kernel
theorem dX2_lengthTo_16 : decode cX2_lengthTo 16 = .ok (.iaload, 1) := by decide +kernel
theorem dX2_lengthTo_17 : decode cX2_lengthTo 17 = .ok (.goto 4, 3) := by decide +kernel
theorem dX2_lengthTo_20 : decode cX2_lengthTo 20 = .ok (.iconst 0, 1) := by decide +kernel
theorem dX2_lengthTo_21 : decode cX2_lengthTo 21 = .ok (.ireturn, 1) := by decide +kernel
set_option maxRecDepth 20000 in
theorem ggX2_roadTo_X2_lengthTo : GoodIn wsX2_roadTo wsX2_lengthTo := goodIn_r _ [6, 7, 8, 9, 10, 11, 12, 13, 14, 15, 16, 17, 18, 19, 20, 21, 22, 23, 24, 25, 26, 27, 28, 29, 30] (by decide +kernel) (by decide +kernel)
set_option maxRecDepth 20000 in
theorem gX2_roadTo_X2_lengthTo : GoodIn wsX2_roadTo (wsV RX2 81 RX2 yX2_lengthTo wsX2_lengthTo) := goodIn_app (goodIn_of _ (by decide +kernel)) ggX2_roadTo_X2_lengthTo
theorem dX2_roadTo_0 : decode cX2_roadTo 0 = .ok (.iload_n 2, 1) := by decide +kernel
theorem dX2_roadTo_1 : decode cX2_roadTo 1 = .ok (.ifCond .lt 23, 3) := by decide +kernel
theorem dX2_roadTo_4 : decode cX2_roadTo 4 = .ok (.iload_n 2, 1) := by decide +kernel
theorem dX2_roadTo_5 : decode cX2_roadTo 5 = .ok (.aload_n 0, 1) := by decide +kernel
theorem dX2_roadTo_6 : decode cX2_roadTo 6 = .ok (.iload_n 1, 1) := by decide +kernel
theorem dX2_roadTo_7 : decode cX2_roadTo 7 = .ok (.invokevirtual 81, 3) := by decide +kernel
theorem dX2_roadTo_10 : decode cX2_roadTo 10 = .ok (.if_icmp .ge 14, 3) := by decide +kernel
theorem dX2_roadTo_13 : decode cX2_roadTo 13 = .ok (.aload_n 0, 1) := by decide +kernel
theorem dX2_roadTo_14 : decode cX2_roadTo 14 = .ok (.getfield 20, 3) := by decide +kernel
theorem dX2_roadTo_17 : decode cX2_roadTo 17 = .ok (.iload_n 1, 1) := by decide +kernel
theorem dX2_roadTo_18 : decode cX2_roadTo 18 = .ok (.aaload, 1) := by decide +kernel
theorem dX2_roadTo_19 : decode cX2_roadTo 19 = .ok (.iload_n 2, 1) := by decide +kernel
theorem dX2_roadTo_20 : decode cX2_roadTo 20 = .ok (.iaload, 1) := by decide +kernel
theorem dX2_roadTo_21 : decode cX2_roadTo 21 = .ok (.goto 4, 3) := by decide +kernel
theorem dX2_roadTo_24 : decode cX2_roadTo 24 = .ok (.iconst (-1), 1) := by decide +kernel
theorem dX2_roadTo_25 : decode cX2_roadTo 25 = .ok (.ireturn, 1) := by decide +kernel
set_option maxRecDepth 20000 in
theorem ggX2_firstRoadTo_X2_roadTo : GoodIn wsX2_firstRoadTo wsX2_roadTo := goodIn_r _ [5, 6, 7, 8, 9, 4, 10, 11, 12, 13, 14, 15, 16, 17, 18, 19, 20, 21, 22, 23, 24, 25, 26, 27, 28, 29, 30, 31, 32, 33, 34] (by decide +kernel) (by decide +kernel)
set_option maxRecDepth 20000 in
theorem gX2_firstRoadTo_X2_roadTo : GoodIn wsX2_firstRoadTo (wsV RX2 94 RX2 yX2_roadTo wsX2_roadTo) := goodIn_app (goodIn_of _ (by decide +kernel)) ggX2_firstRoadTo_X2_roadTo
theorem dX2_firstRoadTo_0 : decode cX2_firstRoadTo 0 = .ok (.aload_n 0, 1) := by decide +kernel
theorem dX2_firstRoadTo_1 : decode cX2_firstRoadTo 1 = .ok (.iload_n 1, 1) := by decide +kernel
theorem dX2_firstRoadTo_2 : decode cX2_firstRoadTo 2 = .ok (.iconst 0, 1) := by decide +kernel
theorem dX2_firstRoadTo_3 : decode cX2_firstRoadTo 3 = .ok (.invokevirtual 94, 3) := by decide +kernel
theorem dX2_firstRoadTo_6 : decode cX2_firstRoadTo 6 = .ok (.ireturn, 1) := by decide +kernel
set_option maxRecDepth 20000 in
theorem ggX2_minutesToNode_X2_lastSideTo : GoodIn wsX2_minutesToNode wsX2_lastSideTo := goodIn_r _ [6, 1, 7, 8, 9, 10, 11, 12, 13, 14, 15, 16, 17, 18, 19, 20, 21, 22, 23, 24, 25, 26, 5, 27, 28, 29, 35, 36, 37, 38, 39, 40, 41, 42, 43, 44, 45, 46, 47, 48, 49, 50] (by decide +kernel) (by decide +kernel)
set_option maxRecDepth 20000 in
theorem gX2_minutesToNode_X2_lastSideTo : GoodIn wsX2_minutesToNode (wsV RX2 98 RX2 yX2_lastSideTo wsX2_lastSideTo) := goodIn_app (goodIn_of _ (by decide +kernel)) ggX2_minutesToNode_X2_lastSideTo
set_option maxRecDepth 20000 in
theorem ggX2_minutesToNode_X2_minutesTo : GoodIn wsX2_minutesToNode wsX2_minutesTo := goodIn_r _ [33, 7, 8, 34, 21, 22, 12, 23, 14, 35, 36, 37, 38, 39, 40, 41, 42, 43, 44, 45, 46, 47, 48, 49, 50] (by decide +kernel) (by decide +kernel)
set_option maxRecDepth 20000 in
theorem gX2_minutesToNode_X2_minutesTo : GoodIn wsX2_minutesToNode (wsV RX2 84 RX2 yX2_minutesTo wsX2_minutesTo) := goodIn_app (goodIn_of _ (by decide +kernel)) ggX2_minutesToNode_X2_minutesTo
theorem dX2_minutesToNode_0 : decode cX2_minutesToNode 0 = .ok (.iload_n 1, 1) := by decide +kernel
theorem dX2_minutesToNode_1 : decode cX2_minutesToNode 1 = .ok (.aload_n 0, 1) := by decide +kernel
theorem dX2_minutesToNode_2 : decode cX2_minutesToNode 2 = .ok (.getfield 35, 3) := by decide +kernel
theorem dX2_minutesToNode_5 : decode cX2_minutesToNode 5 = .ok (.if_icmp .ne 7, 3) := by decide +kernel
theorem dX2_minutesToNode_8 : decode cX2_minutesToNode 8 = .ok (.iconst 0, 1) := by decide +kernel
theorem dX2_minutesToNode_9 : decode cX2_minutesToNode 9 = .ok (.goto 12, 3) := by decide +kernel
theorem dX2_minutesToNode_12 : decode cX2_minutesToNode 12 = .ok (.aload_n 0, 1) := by decide +kernel
theorem dX2_minutesToNode_13 : decode cX2_minutesToNode 13 = .ok (.aload_n 0, 1) := by decide +kernel
theorem dX2_minutesToNode_14 : decode cX2_minutesToNode 14 = .ok (.iload_n 1, 1) := by decide +kernel
theorem dX2_minutesToNode_15 : decode cX2_minutesToNode 15 = .ok (.invokevirtual 98, 3) := by decide +kernel
theorem dX2_minutesToNode_18 : decode cX2_minutesToNode 18 = .ok (.invokevirtual 84, 3) := by decide +kernel
theorem dX2_minutesToNode_21 : decode cX2_minutesToNode 21 = .ok (.ireturn, 1) := by decide +kernel
set_option maxRecDepth 20000 in
theorem ggX2_lastSideTo_X0_sideCount : GoodIn wsX2_lastSideTo wsX0_sideCount := goodIn_r _ [8, 9, 33, 34, 35, 36, 37, 38, 39, 40, 41] (by decide +kernel) (by decide +kernel)
set_option maxRecDepth 20000 in
theorem gX2_lastSideTo_X0_sideCount : GoodIn wsX2_lastSideTo (wsV RX2 55 RX0 yX0_sideCount wsX0_sideCount) := goodIn_app (goodIn_of _ (by decide +kernel)) ggX2_lastSideTo_X0_sideCount
set_option maxRecDepth 20000 in
theorem ggX2_lastSideTo_X0_endOf : GoodIn wsX2_lastSideTo wsX0_endOf := goodIn_r _ [13, 14, 15, 16, 17, 7, 18, 9, 33, 34, 35, 36, 37, 38, 39, 40, 41] (by decide +kernel) (by decide +kernel)
set_option maxRecDepth 20000 in
theorem gX2_lastSideTo_X0_endOf : GoodIn wsX2_lastSideTo (wsV RX2 63 RX0 yX0_endOf wsX0_endOf) := goodIn_app (goodIn_of _ (by decide +kernel)) ggX2_lastSideTo_X0_endOf
set_option maxRecDepth 20000 in
theorem ggX2_lastSideTo_X2_isShorter : GoodIn wsX2_lastSideTo wsX2_isShorter := goodIn_r _ [23, 3, 24, 25, 26, 27, 28, 29, 30, 31, 32] (by decide +kernel) (by decide +kernel)
set_option maxRecDepth 20000 in
theorem gX2_lastSideTo_X2_isShorter : GoodIn wsX2_lastSideTo (wsV RX2 74 RX2 yX2_isShorter wsX2_isShorter) := goodIn_app (goodIn_of _ (by decide +kernel)) ggX2_lastSideTo_X2_isShorter
theorem dX2_lastSideTo_0 : decode cX2_lastSideTo 0 = .ok (.iconst (-1), 1) := by decide +kernel
theorem dX2_lastSideTo_1 : decode cX2_lastSideTo 1 = .ok (.istore_n 2, 1) := by decide +kernel
theorem dX2_lastSideTo_2 : decode cX2_lastSideTo 2 = .ok (.iload_n 1, 1) := by decide +kernel
theorem dX2_lastSideTo_3 : decode cX2_lastSideTo 3 = .ok (.aload_n 0, 1) := by decide +kernel
theorem dX2_lastSideTo_4 : decode cX2_lastSideTo 4 = .ok (.getfield 35, 3) := by decide +kernel
theorem dX2_lastSideTo_7 : decode cX2_lastSideTo 7 = .ok (.if_icmp .ne 5, 3) := by decide +kernel
theorem dX2_lastSideTo_10 : decode cX2_lastSideTo 10 = .ok (.iload_n 2, 1) := by decide +kernel
theorem dX2_lastSideTo_11 : decode cX2_lastSideTo 11 = .ok (.ireturn, 1) := by decide +kernel
theorem dX2_lastSideTo_12 : decode cX2_lastSideTo 12 = .ok (.iconst 0, 1) := by decide +kernel
theorem dX2_lastSideTo_13 : decode cX2_lastSideTo 13 = .ok (.istore_n 3, 1) := by decide +kernel
theorem dX2_lastSideTo_14 : decode cX2_lastSideTo 14 = .ok (.iload_n 3, 1) := by decide +kernel
theorem dX2_lastSideTo_15 : decode cX2_lastSideTo 15 = .ok (.aload_n 0, 1) := by decide +kernel
theorem dX2_lastSideTo_16 : decode cX2_lastSideTo 16 = .ok (.getfield 27, 3) := by decide +kernel
theorem dX2_lastSideTo_19 : decode cX2_lastSideTo 19 = .ok (.invokevirtual 55, 3) := by decide +kernel
theorem dX2_lastSideTo_22 : decode cX2_lastSideTo 22 = .ok (.if_icmp .ge 47, 3) := by decide +kernel
theorem dX2_lastSideTo_25 : decode cX2_lastSideTo 25 = .ok (.aload_n 0, 1) := by decide +kernel
theorem dX2_lastSideTo_26 : decode cX2_lastSideTo 26 = .ok (.getfield 27, 3) := by decide +kernel
theorem dX2_lastSideTo_29 : decode cX2_lastSideTo 29 = .ok (.iload_n 3, 1) := by decide +kernel
theorem dX2_lastSideTo_30 : decode cX2_lastSideTo 30 = .ok (.invokevirtual 63, 3) := by decide +kernel
theorem dX2_lastSideTo_33 : decode cX2_lastSideTo 33 = .ok (.iload_n 1, 1) := by decide +kernel
theorem dX2_lastSideTo_34 : decode cX2_lastSideTo 34 = .ok (.if_icmp .ne 29, 3) := by decide +kernel
theorem dX2_lastSideTo_37 : decode cX2_lastSideTo 37 = .ok (.aload_n 0, 1) := by decide +kernel
theorem dX2_lastSideTo_38 : decode cX2_lastSideTo 38 = .ok (.getfield 9, 3) := by decide +kernel
theorem dX2_lastSideTo_41 : decode cX2_lastSideTo 41 = .ok (.iload_n 3, 1) := by decide +kernel
theorem dX2_lastSideTo_42 : decode cX2_lastSideTo 42 = .ok (.iaload, 1) := by decide +kernel
theorem dX2_lastSideTo_43 : decode cX2_lastSideTo 43 = .ok (.iconst (-1), 1) := by decide +kernel
theorem dX2_lastSideTo_44 : decode cX2_lastSideTo 44 = .ok (.if_icmp .eq 19, 3) := by decide +kernel
theorem dX2_lastSideTo_47 : decode cX2_lastSideTo 47 = .ok (.iload_n 2, 1) := by decide +kernel
theorem dX2_lastSideTo_48 : decode cX2_lastSideTo 48 = .ok (.iconst (-1), 1) := by decide +kernel
theorem dX2_lastSideTo_49 : decode cX2_lastSideTo 49 = .ok (.if_icmp .eq 12, 3) := by decide +kernel
theorem dX2_lastSideTo_52 : decode cX2_lastSideTo 52 = .ok (.aload_n 0, 1) := by decide +kernel
theorem dX2_lastSideTo_53 : decode cX2_lastSideTo 53 = .ok (.iload_n 3, 1) := by decide +kernel
theorem dX2_lastSideTo_54 : decode cX2_lastSideTo 54 = .ok (.iload_n 2, 1) := by decide +kernel
theorem dX2_lastSideTo_55 : decode cX2_lastSideTo 55 = .ok (.invokevirtual 74, 3) := by decide +kernel
theorem dX2_lastSideTo_58 : decode cX2_lastSideTo 58 = .ok (.ifCond .eq 5, 3) := by decide +kernel
theorem dX2_lastSideTo_61 : decode cX2_lastSideTo 61 = .ok (.iload_n 3, 1) := by decide +kernel
theorem dX2_lastSideTo_62 : decode cX2_lastSideTo 62 = .ok (.istore_n 2, 1) := by decide +kernel
theorem dX2_lastSideTo_63 : decode cX2_lastSideTo 63 = .ok (.iinc 3 1, 3) := by decide +kernel
theorem dX2_lastSideTo_66 : decode cX2_lastSideTo 66 = .ok (.goto (-52), 3) := by decide +kernel
theorem dX2_lastSideTo_69 : decode cX2_lastSideTo 69 = .ok (.iload_n 2, 1) := by decide +kernel
theorem dX2_lastSideTo_70 : decode cX2_lastSideTo 70 = .ok (.ireturn, 1) := by decide +kernel
