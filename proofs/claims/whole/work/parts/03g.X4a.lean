theorem dX4_init_0 : decode cX4_init 0 = .ok (.aload_n 0, 1) := by decide +kernel
theorem dX4_init_1 : decode cX4_init 1 = .ok (.invokespecial 1, 3) := by decide +kernel
theorem dX4_init_4 : decode cX4_init 4 = .ok (.aload_n 0, 1) := by decide +kernel
theorem dX4_init_5 : decode cX4_init 5 = .ok (.iconst 1, 1) := by decide +kernel
theorem dX4_init_6 : decode cX4_init 6 = .ok (.putfield 7, 3) := by decide +kernel
theorem dX4_init_9 : decode cX4_init 9 = .ok (.aload_n 0, 1) := by decide +kernel
theorem dX4_init_10 : decode cX4_init 10 = .ok (.bipush 8, 2) := by decide +kernel
theorem dX4_init_12 : decode cX4_init 12 = .ok (.newarray .boolean, 2) := by decide +kernel
theorem dX4_init_14 : decode cX4_init 14 = .ok (.putfield 13, 3) := by decide +kernel
theorem dX4_init_17 : decode cX4_init 17 = .ok (.aload_n 0, 1) := by decide +kernel
theorem dX4_init_18 : decode cX4_init 18 = .ok (.bipush 8, 2) := by decide +kernel
theorem dX4_init_20 : decode cX4_init 20 = .ok (.newarray .boolean, 2) := by decide +kernel
theorem dX4_init_22 : decode cX4_init 22 = .ok (.putfield 17, 3) := by decide +kernel
theorem dX4_init_25 : decode cX4_init 25 = .ok (.aload_n 0, 1) := by decide +kernel
theorem dX4_init_26 : decode cX4_init 26 = .ok (.bipush 24, 2) := by decide +kernel
theorem dX4_init_28 : decode cX4_init 28 = .ok (.newarray .int, 2) := by decide +kernel
theorem dX4_init_30 : decode cX4_init 30 = .ok (.putfield 20, 3) := by decide +kernel
theorem dX4_init_33 : decode cX4_init 33 = .ok (.aload_n 0, 1) := by decide +kernel
theorem dX4_init_34 : decode cX4_init 34 = .ok (.bipush 12, 2) := by decide +kernel
theorem dX4_init_36 : decode cX4_init 36 = .ok (.newarray .int, 2) := by decide +kernel
theorem dX4_init_38 : decode cX4_init 38 = .ok (.putfield 24, 3) := by decide +kernel
theorem dX4_init_41 : decode cX4_init 41 = .ok (.aload_n 0, 1) := by decide +kernel
theorem dX4_init_42 : decode cX4_init 42 = .ok (.bipush 12, 2) := by decide +kernel
theorem dX4_init_44 : decode cX4_init 44 = .ok (.newarray .int, 2) := by decide +kernel
theorem dX4_init_46 : decode cX4_init 46 = .ok (.putfield 27, 3) := by decide +kernel
theorem dX4_init_49 : decode cX4_init 49 = .ok (.aload_n 0, 1) := by decide +kernel
theorem dX4_init_50 : decode cX4_init 50 = .ok (.bipush 24, 2) := by decide +kernel
theorem dX4_init_52 : decode cX4_init 52 = .ok (.newarray .int, 2) := by decide +kernel
theorem dX4_init_54 : decode cX4_init 54 = .ok (.putfield 30, 3) := by decide +kernel
theorem dX4_init_57 : decode cX4_init 57 = .ok (.aload_n 0, 1) := by decide +kernel
theorem dX4_init_58 : decode cX4_init 58 = .ok (.bipush 24, 2) := by decide +kernel
theorem dX4_init_60 : decode cX4_init 60 = .ok (.newarray .boolean, 2) := by decide +kernel
theorem dX4_init_62 : decode cX4_init 62 = .ok (.putfield 33, 3) := by decide +kernel
theorem dX4_init_65 : decode cX4_init 65 = .ok (.aload_n 0, 1) := by decide +kernel
theorem dX4_init_66 : decode cX4_init 66 = .ok (.iconst (-1), 1) := by decide +kernel
theorem dX4_init_67 : decode cX4_init 67 = .ok (.putfield 36, 3) := by decide +kernel
theorem dX4_init_70 : decode cX4_init 70 = .ok (.aload_n 0, 1) := by decide +kernel
theorem dX4_init_71 : decode cX4_init 71 = .ok (.bipush 120, 2) := by decide +kernel
theorem dX4_init_73 : decode cX4_init 73 = .ok (.putfield 39, 3) := by decide +kernel
theorem dX4_init_76 : decode cX4_init 76 = .ok (.aload_n 0, 1) := by decide +kernel
theorem dX4_init_77 : decode cX4_init 77 = .ok (.iconst 1, 1) := by decide +kernel
theorem dX4_init_78 : decode cX4_init 78 = .ok (.putfield 42, 3) := by decide +kernel
theorem dX4_init_81 : decode cX4_init 81 = .ok (.aload_n 0, 1) := by decide +kernel
theorem dX4_init_82 : decode cX4_init 82 = .ok (.iconst 4, 1) := by decide +kernel
theorem dX4_init_83 : decode cX4_init 83 = .ok (.newarray .long, 2) := by decide +kernel
theorem dX4_init_85 : decode cX4_init 85 = .ok (.putfield 46, 3) := by decide +kernel
theorem dX4_init_88 : decode cX4_init 88 = .ok (.aload_n 0, 1) := by decide +kernel
theorem dX4_init_89 : decode cX4_init 89 = .ok (.bipush 104, 2) := by decide +kernel
theorem dX4_init_91 : decode cX4_init 91 = .ok (.newarray .int, 2) := by decide +kernel
theorem dX4_init_93 : decode cX4_init 93 = .ok (.putfield 50, 3) := by decide +kernel
theorem dX4_init_96 : decode cX4_init 96 = .ok (.aload_n 0, 1) := by decide +kernel
theorem dX4_init_97 : decode cX4_init 97 = .ok (.getfield 13, 3) := by decide +kernel
theorem dX4_init_100 : decode cX4_init 100 = .ok (.iconst 0, 1) := by decide +kernel
theorem dX4_init_101 : decode cX4_init 101 = .ok (.iconst 1, 1) := by decide +kernel
theorem dX4_init_102 : decode cX4_init 102 = .ok (.bastore, 1) := by decide +kernel
theorem dX4_init_103 : decode cX4_init 103 = .ok (.aload_n 0, 1) := by decide +kernel
theorem dX4_init_104 : decode cX4_init 104 = .ok (.getfield 17, 3) := by decide +kernel
theorem dX4_init_107 : decode cX4_init 107 = .ok (.iconst 0, 1) := by decide +kernel
theorem dX4_init_108 : decode cX4_init 108 = .ok (.iconst 1, 1) := by decide +kernel
theorem dX4_init_109 : decode cX4_init 109 = .ok (.bastore, 1) := by decide +kernel
theorem dX4_init_110 : decode cX4_init 110 = .ok (.return_, 1) := by decide +kernel
theorem dX4_thrown_0 : decode cX4_thrown 0 = .ok (.aload_n 0, 1) := by decide +kernel
theorem dX4_thrown_1 : decode cX4_thrown 1 = .ok (.getfield 53, 3) := by decide +kernel
theorem dX4_thrown_4 : decode cX4_thrown 4 = .ok (.ireturn, 1) := by decide +kernel
theorem dX4_fail_0 : decode cX4_fail 0 = .ok (.aload_n 0, 1) := by decide +kernel
theorem dX4_fail_1 : decode cX4_fail 1 = .ok (.iload_n 1, 1) := by decide +kernel
theorem dX4_fail_2 : decode cX4_fail 2 = .ok (.putfield 53, 3) := by decide +kernel
theorem dX4_fail_5 : decode cX4_fail 5 = .ok (.iconst 0, 1) := by decide +kernel
theorem dX4_fail_6 : decode cX4_fail 6 = .ok (.ireturn, 1) := by decide +kernel
theorem dX4_isIn_0 : decode cX4_isIn 0 = .ok (.iload_n 0, 1) := by decide +kernel
theorem dX4_isIn_1 : decode cX4_isIn 1 = .ok (.iload_n 1, 1) := by decide +kernel
theorem dX4_isIn_2 : decode cX4_isIn 2 = .ok (.if_icmp .lt 12, 3) := by decide +kernel
theorem dX4_isIn_5 : decode cX4_isIn 5 = .ok (.iload_n 0, 1) := by decide +kernel
theorem dX4_isIn_6 : decode cX4_isIn 6 = .ok (.iload_n 2, 1) := by decide +kernel
theorem dX4_isIn_7 : decode cX4_isIn 7 = .ok (.if_icmp .gt 7, 3) := by decide +kernel
theorem dX4_isIn_10 : decode cX4_isIn 10 = .ok (.iconst 1, 1) := by decide +kernel
theorem dX4_isIn_11 : decode cX4_isIn 11 = .ok (.goto 4, 3) := by decide +kernel
theorem dX4_isIn_14 : decode cX4_isIn 14 = .ok (.iconst 0, 1) := by decide +kernel
theorem dX4_isIn_15 : decode cX4_isIn 15 = .ok (.ireturn, 1) := by decide +kernel
set_option maxRecDepth 20000 in
theorem ggX4_isNode_X4_isIn : GoodIn wsX4_isNode wsX4_isIn := goodIn_r _ [5] (by decide +kernel) (by decide +kernel)
set_option maxRecDepth 20000 in
theorem gX4_isNode_X4_isIn : GoodIn wsX4_isNode (va_wsS RX4 56 yX4_isIn wsX4_isIn) := goodIn_app (goodIn_of _ (by decide +kernel)) ggX4_isNode_X4_isIn
theorem dX4_isNode_0 : decode cX4_isNode 0 = .ok (.iload_n 1, 1) := by decide +kernel
theorem dX4_isNode_1 : decode cX4_isNode 1 = .ok (.iconst 0, 1) := by decide +kernel
theorem dX4_isNode_2 : decode cX4_isNode 2 = .ok (.aload_n 0, 1) := by decide +kernel
theorem dX4_isNode_3 : decode cX4_isNode 3 = .ok (.getfield 7, 3) := by decide +kernel
theorem dX4_isNode_6 : decode cX4_isNode 6 = .ok (.iconst 1, 1) := by decide +kernel
theorem dX4_isNode_7 : decode cX4_isNode 7 = .ok (.isub, 1) := by decide +kernel
theorem dX4_isNode_8 : decode cX4_isNode 8 = .ok (.invokestatic 56, 3) := by decide +kernel
theorem dX4_isNode_11 : decode cX4_isNode 11 = .ok (.ireturn, 1) := by decide +kernel
set_option maxRecDepth 20000 in
theorem ggX4_isSide_X4_isIn : GoodIn wsX4_isSide wsX4_isIn := goodIn_r _ [5] (by decide +kernel) (by decide +kernel)
set_option maxRecDepth 20000 in
theorem gX4_isSide_X4_isIn : GoodIn wsX4_isSide (va_wsS RX4 56 yX4_isIn wsX4_isIn) := goodIn_app (goodIn_of _ (by decide +kernel)) ggX4_isSide_X4_isIn
theorem dX4_isSide_0 : decode cX4_isSide 0 = .ok (.iload_n 1, 1) := by decide +kernel
theorem dX4_isSide_1 : decode cX4_isSide 1 = .ok (.iconst 0, 1) := by decide +kernel
theorem dX4_isSide_2 : decode cX4_isSide 2 = .ok (.aload_n 0, 1) := by decide +kernel
theorem dX4_isSide_3 : decode cX4_isSide 3 = .ok (.getfield 60, 3) := by decide +kernel
theorem dX4_isSide_6 : decode cX4_isSide 6 = .ok (.iconst 1, 1) := by decide +kernel
theorem dX4_isSide_7 : decode cX4_isSide 7 = .ok (.isub, 1) := by decide +kernel
theorem dX4_isSide_8 : decode cX4_isSide 8 = .ok (.invokestatic 56, 3) := by decide +kernel
theorem dX4_isSide_11 : decode cX4_isSide 11 = .ok (.ifCond .eq 16, 3) := by decide +kernel
theorem dX4_isSide_14 : decode cX4_isSide 14 = .ok (.iload_n 2, 1) := by decide +kernel
theorem dX4_isSide_15 : decode cX4_isSide 15 = .ok (.iconst 0, 1) := by decide +kernel
theorem dX4_isSide_16 : decode cX4_isSide 16 = .ok (.iconst 1, 1) := by decide +kernel
theorem dX4_isSide_17 : decode cX4_isSide 17 = .ok (.invokestatic 56, 3) := by decide +kernel
theorem dX4_isSide_20 : decode cX4_isSide 20 = .ok (.ifCond .eq 7, 3) := by decide +kernel
theorem dX4_isSide_23 : decode cX4_isSide 23 = .ok (.iconst 1, 1) := by decide +kernel
theorem dX4_isSide_24 : decode cX4_isSide 24 = .ok (.goto 4, 3) := by decide +kernel
theorem dX4_isSide_27 : decode cX4_isSide 27 = .ok (.iconst 0, 1) := by decide +kernel
theorem dX4_isSide_28 : decode cX4_isSide 28 = .ok (.ireturn, 1) := by decide +kernel
set_option maxRecDepth 20000 in
theorem ggX4_addNode_X4_fail : GoodIn wsX4_addNode wsX4_fail := goodIn_r _ [9, 1, 10, 11, 12, 13, 14, 15, 16, 17, 18, 19, 20, 21, 22, 23, 24, 25, 26, 27] (by decide +kernel) (by decide +kernel)
set_option maxRecDepth 20000 in
theorem gX4_addNode_X4_fail : GoodIn wsX4_addNode (wsV RX4 63 RX4 yX4_fail wsX4_fail) := goodIn_app (goodIn_of _ (by decide +kernel)) ggX4_addNode_X4_fail
theorem dX4_addNode_0 : decode cX4_addNode 0 = .ok (.aload_n 0, 1) := by decide +kernel
theorem dX4_addNode_1 : decode cX4_addNode 1 = .ok (.iconst 0, 1) := by decide +kernel
theorem dX4_addNode_2 : decode cX4_addNode 2 = .ok (.putfield 53, 3) := by decide +kernel
theorem dX4_addNode_5 : decode cX4_addNode 5 = .ok (.aload_n 0, 1) := by decide +kernel
theorem dX4_addNode_6 : decode cX4_addNode 6 = .ok (.getfield 7, 3) := by decide +kernel
theorem dX4_addNode_9 : decode cX4_addNode 9 = .ok (.bipush 8, 2) := by decide +kernel
theorem dX4_addNode_11 : decode cX4_addNode 11 = .ok (.if_icmp .ne 9, 3) := by decide +kernel
theorem dX4_addNode_14 : decode cX4_addNode 14 = .ok (.aload_n 0, 1) := by decide +kernel
theorem dX4_addNode_15 : decode cX4_addNode 15 = .ok (.iconst 1, 1) := by decide +kernel
theorem dX4_addNode_16 : decode cX4_addNode 16 = .ok (.invokevirtual 63, 3) := by decide +kernel
theorem dX4_addNode_19 : decode cX4_addNode 19 = .ok (.ireturn, 1) := by decide +kernel
theorem dX4_addNode_20 : decode cX4_addNode 20 = .ok (.aload_n 0, 1) := by decide +kernel
theorem dX4_addNode_21 : decode cX4_addNode 21 = .ok (.getfield 13, 3) := by decide +kernel
theorem dX4_addNode_24 : decode cX4_addNode 24 = .ok (.aload_n 0, 1) := by decide +kernel
theorem dX4_addNode_25 : decode cX4_addNode 25 = .ok (.getfield 7, 3) := by decide +kernel
theorem dX4_addNode_28 : decode cX4_addNode 28 = .ok (.iload_n 1, 1) := by decide +kernel
theorem dX4_addNode_29 : decode cX4_addNode 29 = .ok (.bastore, 1) := by decide +kernel
theorem dX4_addNode_30 : decode cX4_addNode 30 = .ok (.aload_n 0, 1) := by decide +kernel
theorem dX4_addNode_31 : decode cX4_addNode 31 = .ok (.getfield 17, 3) := by decide +kernel
theorem dX4_addNode_34 : decode cX4_addNode 34 = .ok (.aload_n 0, 1) := by decide +kernel
theorem dX4_addNode_35 : decode cX4_addNode 35 = .ok (.getfield 7, 3) := by decide +kernel
theorem dX4_addNode_38 : decode cX4_addNode 38 = .ok (.iload_n 2, 1) := by decide +kernel
theorem dX4_addNode_39 : decode cX4_addNode 39 = .ok (.bastore, 1) := by decide +kernel
theorem dX4_addNode_40 : decode cX4_addNode 40 = .ok (.aload_n 0, 1) := by decide +kernel
theorem dX4_addNode_41 : decode cX4_addNode 41 = .ok (.dup, 1) := by decide +kernel
theorem dX4_addNode_42 : decode cX4_addNode 42 = .ok (.getfield 7, 3) := by decide +kernel
theorem dX4_addNode_45 : decode cX4_addNode 45 = .ok (.iconst 1, 1) := by decide +kernel
theorem dX4_addNode_46 : decode cX4_addNode 46 = .ok (.iadd, 1) := by decide +kernel
theorem dX4_addNode_47 : decode cX4_addNode 47 = .ok (.putfield 7, 3) := by decide +kernel
theorem dX4_addNode_50 : decode cX4_addNode 50 = .ok (.aload_n 0, 1) := by decide +kernel
theorem dX4_addNode_51 : decode cX4_addNode 51 = .ok (.getfield 7, 3) := by decide +kernel
theorem dX4_addNode_54 : decode cX4_addNode 54 = .ok (.iconst 1, 1) := by decide +kernel
theorem dX4_addNode_55 : decode cX4_addNode 55 = .ok (.isub, 1) := by decide +kernel
theorem dX4_addNode_56 : decode cX4_addNode 56 = .ok (.ireturn, 1) := by decide +kernel
set_option maxRecDepth 20000 in
theorem ggX4_setNode_X4_isNode : GoodIn wsX4_setNode wsX4_isNode := goodIn_r _ [8, 9, 10, 11, 7, 12, 13, 14, 15, 16, 17, 18, 19, 20, 21, 22, 23, 24, 25, 26, 27, 28, 29, 30] (by decide +kernel) (by decide +kernel)
set_option maxRecDepth 20000 in
theorem gX4_setNode_X4_isNode : GoodIn wsX4_setNode (wsV RX4 67 RX4 yX4_isNode wsX4_isNode) := goodIn_app (goodIn_of _ (by decide +kernel)) ggX4_setNode_X4_isNode
theorem dX4_setNode_0 : decode cX4_setNode 0 = .ok (.aload_n 0, 1) := by decide +kernel
theorem dX4_setNode_1 : decode cX4_setNode 1 = .ok (.aload_n 0, 1) := by decide +kernel
theorem dX4_setNode_2 : decode cX4_setNode 2 = .ok (.iload_n 1, 1) := by decide +kernel
theorem dX4_setNode_3 : decode cX4_setNode 3 = .ok (.invokevirtual 67, 3) := by decide +kernel
theorem dX4_setNode_6 : decode cX4_setNode 6 = .ok (.ifCond .eq 7, 3) := by decide +kernel
theorem dX4_setNode_9 : decode cX4_setNode 9 = .ok (.iconst 0, 1) := by decide +kernel
theorem dX4_setNode_10 : decode cX4_setNode 10 = .ok (.goto 4, 3) := by decide +kernel
theorem dX4_setNode_13 : decode cX4_setNode 13 = .ok (.iconst 1, 1) := by decide +kernel
theorem dX4_setNode_14 : decode cX4_setNode 14 = .ok (.putfield 53, 3) := by decide +kernel
theorem dX4_setNode_17 : decode cX4_setNode 17 = .ok (.aload_n 0, 1) := by decide +kernel
theorem dX4_setNode_18 : decode cX4_setNode 18 = .ok (.getfield 53, 3) := by decide +kernel
theorem dX4_setNode_21 : decode cX4_setNode 21 = .ok (.ifCond .eq 5, 3) := by decide +kernel
theorem dX4_setNode_24 : decode cX4_setNode 24 = .ok (.iconst 0, 1) := by decide +kernel
theorem dX4_setNode_25 : decode cX4_setNode 25 = .ok (.ireturn, 1) := by decide +kernel
theorem dX4_setNode_26 : decode cX4_setNode 26 = .ok (.iload_n 2, 1) := by decide +kernel
theorem dX4_setNode_27 : decode cX4_setNode 27 = .ok (.ifCond .eq 10, 3) := by decide +kernel
theorem dX4_setNode_30 : decode cX4_setNode 30 = .ok (.aload_n 0, 1) := by decide +kernel
theorem dX4_setNode_31 : decode cX4_setNode 31 = .ok (.getfield 17, 3) := by decide +kernel
theorem dX4_setNode_34 : decode cX4_setNode 34 = .ok (.goto 7, 3) := by decide +kernel
theorem dX4_setNode_37 : decode cX4_setNode 37 = .ok (.aload_n 0, 1) := by decide +kernel
theorem dX4_setNode_38 : decode cX4_setNode 38 = .ok (.getfield 13, 3) := by decide +kernel
theorem dX4_setNode_41 : decode cX4_setNode 41 = .ok (.astore 4, 2) := by decide +kernel
theorem dX4_setNode_43 : decode cX4_setNode 43 = .ok (.aload 4, 2) := by decide +kernel
theorem dX4_setNode_45 : decode cX4_setNode 45 = .ok (.iload_n 1, 1) := by decide +kernel
theorem dX4_setNode_46 : decode cX4_setNode 46 = .ok (.baload, 1) := by decide +kernel
theorem dX4_setNode_47 : decode cX4_setNode 47 = .ok (.istore 5, 2) := by decide +kernel
theorem dX4_setNode_49 : decode cX4_setNode 49 = .ok (.aload 4, 2) := by decide +kernel
theorem dX4_setNode_51 : decode cX4_setNode 51 = .ok (.iload_n 1, 1) := by decide +kernel
theorem dX4_setNode_52 : decode cX4_setNode 52 = .ok (.iload_n 3, 1) := by decide +kernel
theorem dX4_setNode_53 : decode cX4_setNode 53 = .ok (.bastore, 1) := by decide +kernel
theorem dX4_setNode_54 : decode cX4_setNode 54 = .ok (.iload 5, 2) := by decide +kernel
theorem dX4_setNode_56 : decode cX4_setNode 56 = .ok (.ireturn, 1) := by decide +kernel
set_option maxRecDepth 20000 in
theorem ggX4_addRoad_X4_isNode : GoodIn wsX4_addRoad wsX4_isNode := goodIn_r _ [10, 11, 12, 13, 9, 14, 19, 20, 21, 22, 23, 24, 25, 26, 27, 28, 29, 30, 31, 32, 33, 34, 35, 36] (by decide +kernel) (by decide +kernel)
set_option maxRecDepth 20000 in
theorem gX4_addRoad_X4_isNode : GoodIn wsX4_addRoad (wsV RX4 67 RX4 yX4_isNode wsX4_isNode) := goodIn_app (goodIn_of _ (by decide +kernel)) ggX4_addRoad_X4_isNode
set_option maxRecDepth 20000 in
theorem ggX4_addRoad_X4_fail : GoodIn wsX4_addRoad wsX4_fail := goodIn_r _ [18, 1, 19, 20, 21, 22, 23, 24, 25, 26, 27, 28, 29, 30, 31, 32, 33, 34, 35, 36] (by decide +kernel) (by decide +kernel)
set_option maxRecDepth 20000 in
theorem gX4_addRoad_X4_fail : GoodIn wsX4_addRoad (wsV RX4 63 RX4 yX4_fail wsX4_fail) := goodIn_app (goodIn_of _ (by decide +kernel)) ggX4_addRoad_X4_fail
set_option maxRecDepth 20000 in
theorem ggX4_addRoad_X4_isIn : GoodIn wsX4_addRoad wsX4_isIn := goodIn_r _ [14] (by decide +kernel) (by decide +kernel)
set_option maxRecDepth 20000 in
theorem gX4_addRoad_X4_isIn : GoodIn wsX4_addRoad (va_wsS RX4 56 yX4_isIn wsX4_isIn) := goodIn_app (goodIn_of _ (by decide +kernel)) ggX4_addRoad_X4_isIn
theorem dX4_addRoad_0 : decode cX4_addRoad 0 = .ok (.aload_n 0, 1) := by decide +kernel
theorem dX4_addRoad_1 : decode cX4_addRoad 1 = .ok (.iconst 0, 1) := by decide +kernel
theorem dX4_addRoad_2 : decode cX4_addRoad 2 = .ok (.putfield 53, 3) := by decide +kernel
theorem dX4_addRoad_5 : decode cX4_addRoad 5 = .ok (.aload_n 0, 1) := by decide +kernel
theorem dX4_addRoad_6 : decode cX4_addRoad 6 = .ok (.iload_n 1, 1) := by decide +kernel
theorem dX4_addRoad_7 : decode cX4_addRoad 7 = .ok (.invokevirtual 67, 3) := by decide +kernel
theorem dX4_addRoad_10 : decode cX4_addRoad 10 = .ok (.ifCond .eq 11, 3) := by decide +kernel
theorem dX4_addRoad_13 : decode cX4_addRoad 13 = .ok (.aload_n 0, 1) := by decide +kernel
theorem dX4_addRoad_14 : decode cX4_addRoad 14 = .ok (.iload_n 2, 1) := by decide +kernel
theorem dX4_addRoad_15 : decode cX4_addRoad 15 = .ok (.invokevirtual 67, 3) := by decide +kernel
theorem dX4_addRoad_18 : decode cX4_addRoad 18 = .ok (.ifCond .ne 9, 3) := by decide +kernel
theorem dX4_addRoad_21 : decode cX4_addRoad 21 = .ok (.aload_n 0, 1) := by decide +kernel
theorem dX4_addRoad_22 : decode cX4_addRoad 22 = .ok (.iconst 1, 1) := by decide +kernel
theorem dX4_addRoad_23 : decode cX4_addRoad 23 = .ok (.invokevirtual 63, 3) := by decide +kernel
theorem dX4_addRoad_26 : decode cX4_addRoad 26 = .ok (.ireturn, 1) := by decide +kernel
theorem dX4_addRoad_27 : decode cX4_addRoad 27 = .ok (.iload_n 1, 1) := by decide +kernel
theorem dX4_addRoad_28 : decode cX4_addRoad 28 = .ok (.iload_n 2, 1) := by decide +kernel
theorem dX4_addRoad_29 : decode cX4_addRoad 29 = .ok (.if_icmp .eq 23, 3) := by decide +kernel
theorem dX4_addRoad_32 : decode cX4_addRoad 32 = .ok (.iload_n 3, 1) := by decide +kernel
theorem dX4_addRoad_33 : decode cX4_addRoad 33 = .ok (.iconst 1, 1) := by decide +kernel
theorem dX4_addRoad_34 : decode cX4_addRoad 34 = .ok (.bipush 30, 2) := by decide +kernel
theorem dX4_addRoad_36 : decode cX4_addRoad 36 = .ok (.invokestatic 56, 3) := by decide +kernel
theorem dX4_addRoad_39 : decode cX4_addRoad 39 = .ok (.ifCond .eq 13, 3) := by decide +kernel
theorem dX4_addRoad_42 : decode cX4_addRoad 42 = .ok (.iload 4, 2) := by decide +kernel
theorem dX4_addRoad_44 : decode cX4_addRoad 44 = .ok (.iconst 0, 1) := by decide +kernel
theorem dX4_addRoad_45 : decode cX4_addRoad 45 = .ok (.iconst 2, 1) := by decide +kernel
theorem dX4_addRoad_46 : decode cX4_addRoad 46 = .ok (.invokestatic 56, 3) := by decide +kernel
theorem dX4_addRoad_49 : decode cX4_addRoad 49 = .ok (.ifCond .ne 9, 3) := by decide +kernel
theorem dX4_addRoad_52 : decode cX4_addRoad 52 = .ok (.aload_n 0, 1) := by decide +kernel
theorem dX4_addRoad_53 : decode cX4_addRoad 53 = .ok (.iconst 2, 1) := by decide +kernel
theorem dX4_addRoad_54 : decode cX4_addRoad 54 = .ok (.invokevirtual 63, 3) := by decide +kernel
theorem dX4_addRoad_57 : decode cX4_addRoad 57 = .ok (.ireturn, 1) := by decide +kernel
theorem dX4_addRoad_58 : decode cX4_addRoad 58 = .ok (.aload_n 0, 1) := by decide +kernel
theorem dX4_addRoad_59 : decode cX4_addRoad 59 = .ok (.getfield 60, 3) := by decide +kernel
theorem dX4_addRoad_62 : decode cX4_addRoad 62 = .ok (.bipush 12, 2) := by decide +kernel
theorem dX4_addRoad_64 : decode cX4_addRoad 64 = .ok (.if_icmp .ne 9, 3) := by decide +kernel
theorem dX4_addRoad_67 : decode cX4_addRoad 67 = .ok (.aload_n 0, 1) := by decide +kernel
theorem dX4_addRoad_68 : decode cX4_addRoad 68 = .ok (.iconst 3, 1) := by decide +kernel
theorem dX4_addRoad_69 : decode cX4_addRoad 69 = .ok (.invokevirtual 63, 3) := by decide +kernel
theorem dX4_addRoad_72 : decode cX4_addRoad 72 = .ok (.ireturn, 1) := by decide +kernel
theorem dX4_addRoad_73 : decode cX4_addRoad 73 = .ok (.aload_n 0, 1) := by decide +kernel
theorem dX4_addRoad_74 : decode cX4_addRoad 74 = .ok (.getfield 20, 3) := by decide +kernel
theorem dX4_addRoad_77 : decode cX4_addRoad 77 = .ok (.iconst 2, 1) := by decide +kernel
theorem dX4_addRoad_78 : decode cX4_addRoad 78 = .ok (.aload_n 0, 1) := by decide +kernel
theorem dX4_addRoad_79 : decode cX4_addRoad 79 = .ok (.getfield 60, 3) := by decide +kernel
theorem dX4_addRoad_82 : decode cX4_addRoad 82 = .ok (.imul, 1) := by decide +kernel
theorem dX4_addRoad_83 : decode cX4_addRoad 83 = .ok (.iload_n 1, 1) := by decide +kernel
theorem dX4_addRoad_84 : decode cX4_addRoad 84 = .ok (.iastore, 1) := by decide +kernel
theorem dX4_addRoad_85 : decode cX4_addRoad 85 = .ok (.aload_n 0, 1) := by decide +kernel
theorem dX4_addRoad_86 : decode cX4_addRoad 86 = .ok (.getfield 20, 3) := by decide +kernel
theorem dX4_addRoad_89 : decode cX4_addRoad 89 = .ok (.iconst 2, 1) := by decide +kernel
theorem dX4_addRoad_90 : decode cX4_addRoad 90 = .ok (.aload_n 0, 1) := by decide +kernel
theorem dX4_addRoad_91 : decode cX4_addRoad 91 = .ok (.getfield 60, 3) := by decide +kernel
theorem dX4_addRoad_94 : decode cX4_addRoad 94 = .ok (.imul, 1) := by decide +kernel
theorem dX4_addRoad_95 : decode cX4_addRoad 95 = .ok (.iconst 1, 1) := by decide +kernel
theorem dX4_addRoad_96 : decode cX4_addRoad 96 = .ok (.iadd, 1) := by decide +kernel
theorem dX4_addRoad_97 : decode cX4_addRoad 97 = .ok (.iload_n 2, 1) := by decide +kernel
theorem dX4_addRoad_98 : decode cX4_addRoad 98 = .ok (.iastore, 1) := by decide +kernel
theorem dX4_addRoad_99 : decode cX4_addRoad 99 = .ok (.aload_n 0, 1) := by decide +kernel
theorem dX4_addRoad_100 : decode cX4_addRoad 100 = .ok (.getfield 24, 3) := by decide +kernel
theorem dX4_addRoad_103 : decode cX4_addRoad 103 = .ok (.aload_n 0, 1) := by decide +kernel
theorem dX4_addRoad_104 : decode cX4_addRoad 104 = .ok (.getfield 60, 3) := by decide +kernel
theorem dX4_addRoad_107 : decode cX4_addRoad 107 = .ok (.iload_n 3, 1) := by decide +kernel
theorem dX4_addRoad_108 : decode cX4_addRoad 108 = .ok (.iastore, 1) := by decide +kernel
theorem dX4_addRoad_109 : decode cX4_addRoad 109 = .ok (.aload_n 0, 1) := by decide +kernel
theorem dX4_addRoad_110 : decode cX4_addRoad 110 = .ok (.getfield 27, 3) := by decide +kernel
theorem dX4_addRoad_113 : decode cX4_addRoad 113 = .ok (.aload_n 0, 1) := by decide +kernel
theorem dX4_addRoad_114 : decode cX4_addRoad 114 = .ok (.getfield 60, 3) := by decide +kernel
theorem dX4_addRoad_117 : decode cX4_addRoad 117 = .ok (.iload 4, 2) := by decide +kernel
theorem dX4_addRoad_119 : decode cX4_addRoad 119 = .ok (.iastore, 1) := by decide +kernel
theorem dX4_addRoad_120 : decode cX4_addRoad 120 = .ok (.aload_n 0, 1) := by decide +kernel
theorem dX4_addRoad_121 : decode cX4_addRoad 121 = .ok (.dup, 1) := by decide +kernel
theorem dX4_addRoad_122 : decode cX4_addRoad 122 = .ok (.getfield 60, 3) := by decide +kernel
theorem dX4_addRoad_125 : decode cX4_addRoad 125 = .ok (.iconst 1, 1) := by decide +kernel
theorem dX4_addRoad_126 : decode cX4_addRoad 126 = .ok (.iadd, 1) := by decide +kernel
theorem dX4_addRoad_127 : decode cX4_addRoad 127 = .ok (.putfield 60, 3) := by decide +kernel
theorem dX4_addRoad_130 : decode cX4_addRoad 130 = .ok (.aload_n 0, 1) := by decide +kernel
theorem dX4_addRoad_131 : decode cX4_addRoad 131 = .ok (.getfield 60, 3) := by decide +kernel
theorem dX4_addRoad_134 : decode cX4_addRoad 134 = .ok (.iconst 1, 1) := by decide +kernel
theorem dX4_addRoad_135 : decode cX4_addRoad 135 = .ok (.isub, 1) := by decide +kernel
theorem dX4_addRoad_136 : decode cX4_addRoad 136 = .ok (.ireturn, 1) := by decide +kernel
theorem dX4_deepest_0 : decode cX4_deepest 0 = .ok (.iconst (-1), 1) := by decide +kernel
theorem dX4_deepest_1 : decode cX4_deepest 1 = .ok (.istore_n 2, 1) := by decide +kernel
theorem dX4_deepest_2 : decode cX4_deepest 2 = .ok (.iconst 0, 1) := by decide +kernel
theorem dX4_deepest_3 : decode cX4_deepest 3 = .ok (.istore_n 3, 1) := by decide +kernel
theorem dX4_deepest_4 : decode cX4_deepest 4 = .ok (.iload_n 3, 1) := by decide +kernel
theorem dX4_deepest_5 : decode cX4_deepest 5 = .ok (.iconst 2, 1) := by decide +kernel
theorem dX4_deepest_6 : decode cX4_deepest 6 = .ok (.aload_n 0, 1) := by decide +kernel
theorem dX4_deepest_7 : decode cX4_deepest 7 = .ok (.getfield 60, 3) := by decide +kernel
theorem dX4_deepest_10 : decode cX4_deepest 10 = .ok (.imul, 1) := by decide +kernel
theorem dX4_deepest_11 : decode cX4_deepest 11 = .ok (.if_icmp .ge 37, 3) := by decide +kernel
theorem dX4_deepest_14 : decode cX4_deepest 14 = .ok (.iload_n 1, 1) := by decide +kernel
theorem dX4_deepest_15 : decode cX4_deepest 15 = .ok (.iconst (-1), 1) := by decide +kernel
theorem dX4_deepest_16 : decode cX4_deepest 16 = .ok (.if_icmp .eq 15, 3) := by decide +kernel
theorem dX4_deepest_19 : decode cX4_deepest 19 = .ok (.aload_n 0, 1) := by decide +kernel
theorem dX4_deepest_20 : decode cX4_deepest 20 = .ok (.getfield 27, 3) := by decide +kernel
theorem dX4_deepest_23 : decode cX4_deepest 23 = .ok (.iload_n 3, 1) := by decide +kernel
theorem dX4_deepest_24 : decode cX4_deepest 24 = .ok (.iconst 2, 1) := by decide +kernel
theorem dX4_deepest_25 : decode cX4_deepest 25 = .ok (.idiv, 1) := by decide +kernel
theorem dX4_deepest_26 : decode cX4_deepest 26 = .ok (.iaload, 1) := by decide +kernel
theorem dX4_deepest_27 : decode cX4_deepest 27 = .ok (.iload_n 1, 1) := by decide +kernel
theorem dX4_deepest_28 : decode cX4_deepest 28 = .ok (.if_icmp .ne 14, 3) := by decide +kernel
theorem dX4_deepest_31 : decode cX4_deepest 31 = .ok (.iload_n 2, 1) := by decide +kernel
theorem dX4_deepest_32 : decode cX4_deepest 32 = .ok (.aload_n 0, 1) := by decide +kernel
theorem dX4_deepest_33 : decode cX4_deepest 33 = .ok (.getfield 30, 3) := by decide +kernel
theorem dX4_deepest_36 : decode cX4_deepest 36 = .ok (.iload_n 3, 1) := by decide +kernel
theorem dX4_deepest_37 : decode cX4_deepest 37 = .ok (.iaload, 1) := by decide +kernel
theorem dX4_deepest_38 : decode cX4_deepest 38 = .ok (.invokestatic 71, 3) := by decide +kernel
theorem dX4_deepest_41 : decode cX4_deepest 41 = .ok (.istore_n 2, 1) := by decide +kernel
theorem dX4_deepest_42 : decode cX4_deepest 42 = .ok (.iinc 3 1, 3) := by decide +kernel
theorem dX4_deepest_45 : decode cX4_deepest 45 = .ok (.goto (-41), 3) := by decide +kernel
theorem dX4_deepest_48 : decode cX4_deepest 48 = .ok (.iload_n 2, 1) := by decide +kernel
theorem dX4_deepest_49 : decode cX4_deepest 49 = .ok (.ireturn, 1) := by decide +kernel
set_option maxRecDepth 20000 in
theorem ggX4_snow_X4_isIn : GoodIn wsX4_snow wsX4_isIn := goodIn_r _ [15] (by decide +kernel) (by decide +kernel)
set_option maxRecDepth 20000 in
theorem gX4_snow_X4_isIn : GoodIn wsX4_snow (va_wsS RX4 56 yX4_isIn wsX4_isIn) := goodIn_app (goodIn_of _ (by decide +kernel)) ggX4_snow_X4_isIn
set_option maxRecDepth 20000 in
theorem ggX4_snow_X4_fail : GoodIn wsX4_snow wsX4_fail := goodIn_r _ [19, 1, 25, 26, 27, 28, 29, 30, 31, 32, 33, 34, 35, 36, 37, 38, 39, 40, 41, 42] (by decide +kernel) (by decide +kernel)
set_option maxRecDepth 20000 in
theorem gX4_snow_X4_fail : GoodIn wsX4_snow (wsV RX4 63 RX4 yX4_fail wsX4_fail) := goodIn_app (goodIn_of _ (by decide +kernel)) ggX4_snow_X4_fail
set_option maxRecDepth 20000 in
theorem ggX4_snow_X4_deepest : GoodIn wsX4_snow wsX4_deepest := goodIn_r _ [23, 2, 24, 3, 9, 10, 7, 11, 25, 26, 27, 28, 29, 30, 31, 32, 33, 34, 35, 36, 37, 38, 39, 40, 41, 42] (by decide +kernel) (by decide +kernel)
set_option maxRecDepth 20000 in
theorem gX4_snow_X4_deepest : GoodIn wsX4_snow (wsV RX4 80 RX4 yX4_deepest wsX4_deepest) := goodIn_app (goodIn_of _ (by decide +kernel)) ggX4_snow_X4_deepest
theorem dX4_snow_0 : decode cX4_snow 0 = .ok (.aload_n 0, 1) := by decide +kernel
theorem dX4_snow_1 : decode cX4_snow 1 = .ok (.iconst 0, 1) := by decide +kernel
theorem dX4_snow_2 : decode cX4_snow 2 = .ok (.putfield 53, 3) := by decide +kernel
theorem dX4_snow_5 : decode cX4_snow 5 = .ok (.iload_n 1, 1) := by decide +kernel
theorem dX4_snow_6 : decode cX4_snow 6 = .ok (.iconst 1, 1) := by decide +kernel
theorem dX4_snow_7 : decode cX4_snow 7 = .ok (.sipush 300, 3) := by decide +kernel
theorem dX4_snow_10 : decode cX4_snow 10 = .ok (.invokestatic 56, 3) := by decide +kernel
theorem dX4_snow_13 : decode cX4_snow 13 = .ok (.ifCond .ne 9, 3) := by decide +kernel
theorem dX4_snow_16 : decode cX4_snow 16 = .ok (.aload_n 0, 1) := by decide +kernel
theorem dX4_snow_17 : decode cX4_snow 17 = .ok (.iconst 1, 1) := by decide +kernel
theorem dX4_snow_18 : decode cX4_snow 18 = .ok (.invokevirtual 63, 3) := by decide +kernel
theorem dX4_snow_21 : decode cX4_snow 21 = .ok (.ireturn, 1) := by decide +kernel
theorem dX4_snow_22 : decode cX4_snow 22 = .ok (.iconst 0, 1) := by decide +kernel
theorem dX4_snow_23 : decode cX4_snow 23 = .ok (.istore_n 2, 1) := by decide +kernel
theorem dX4_snow_24 : decode cX4_snow 24 = .ok (.iload_n 2, 1) := by decide +kernel
theorem dX4_snow_25 : decode cX4_snow 25 = .ok (.iconst 2, 1) := by decide +kernel
theorem dX4_snow_26 : decode cX4_snow 26 = .ok (.aload_n 0, 1) := by decide +kernel
theorem dX4_snow_27 : decode cX4_snow 27 = .ok (.getfield 60, 3) := by decide +kernel
theorem dX4_snow_30 : decode cX4_snow 30 = .ok (.imul, 1) := by decide +kernel
theorem dX4_snow_31 : decode cX4_snow 31 = .ok (.if_icmp .ge 51, 3) := by decide +kernel
theorem dX4_snow_34 : decode cX4_snow 34 = .ok (.aload_n 0, 1) := by decide +kernel
theorem dX4_snow_35 : decode cX4_snow 35 = .ok (.getfield 30, 3) := by decide +kernel
theorem dX4_snow_38 : decode cX4_snow 38 = .ok (.iload_n 2, 1) := by decide +kernel
theorem dX4_snow_39 : decode cX4_snow 39 = .ok (.sipush 999, 3) := by decide +kernel
theorem dX4_snow_42 : decode cX4_snow 42 = .ok (.aload_n 0, 1) := by decide +kernel
theorem dX4_snow_43 : decode cX4_snow 43 = .ok (.getfield 30, 3) := by decide +kernel
theorem dX4_snow_46 : decode cX4_snow 46 = .ok (.iload_n 2, 1) := by decide +kernel
theorem dX4_snow_47 : decode cX4_snow 47 = .ok (.iaload, 1) := by decide +kernel
theorem dX4_snow_48 : decode cX4_snow 48 = .ok (.aload_n 0, 1) := by decide +kernel
theorem dX4_snow_49 : decode cX4_snow 49 = .ok (.getfield 33, 3) := by decide +kernel
theorem dX4_snow_52 : decode cX4_snow 52 = .ok (.iload_n 2, 1) := by decide +kernel
theorem dX4_snow_53 : decode cX4_snow 53 = .ok (.baload, 1) := by decide +kernel
theorem dX4_snow_54 : decode cX4_snow 54 = .ok (.ifCond .eq 9, 3) := by decide +kernel
theorem dX4_snow_57 : decode cX4_snow 57 = .ok (.iload_n 1, 1) := by decide +kernel
theorem dX4_snow_58 : decode cX4_snow 58 = .ok (.iconst 2, 1) := by decide +kernel
theorem dX4_snow_59 : decode cX4_snow 59 = .ok (.idiv, 1) := by decide +kernel
theorem dX4_snow_60 : decode cX4_snow 60 = .ok (.goto 4, 3) := by decide +kernel
theorem dX4_snow_63 : decode cX4_snow 63 = .ok (.iload_n 1, 1) := by decide +kernel
theorem dX4_snow_64 : decode cX4_snow 64 = .ok (.iadd, 1) := by decide +kernel
theorem dX4_snow_65 : decode cX4_snow 65 = .ok (.invokestatic 77, 3) := by decide +kernel
theorem dX4_snow_68 : decode cX4_snow 68 = .ok (.iastore, 1) := by decide +kernel
theorem dX4_snow_69 : decode cX4_snow 69 = .ok (.aload_n 0, 1) := by decide +kernel
theorem dX4_snow_70 : decode cX4_snow 70 = .ok (.getfield 33, 3) := by decide +kernel
theorem dX4_snow_73 : decode cX4_snow 73 = .ok (.iload_n 2, 1) := by decide +kernel
theorem dX4_snow_74 : decode cX4_snow 74 = .ok (.iconst 0, 1) := by decide +kernel
theorem dX4_snow_75 : decode cX4_snow 75 = .ok (.bastore, 1) := by decide +kernel
theorem dX4_snow_76 : decode cX4_snow 76 = .ok (.iinc 2 1, 3) := by decide +kernel
theorem dX4_snow_79 : decode cX4_snow 79 = .ok (.goto (-55), 3) := by decide +kernel
theorem dX4_snow_82 : decode cX4_snow 82 = .ok (.iconst 0, 1) := by decide +kernel
theorem dX4_snow_83 : decode cX4_snow 83 = .ok (.aload_n 0, 1) := by decide +kernel
theorem dX4_snow_84 : decode cX4_snow 84 = .ok (.iconst (-1), 1) := by decide +kernel
theorem dX4_snow_85 : decode cX4_snow 85 = .ok (.invokevirtual 80, 3) := by decide +kernel
theorem dX4_snow_88 : decode cX4_snow 88 = .ok (.invokestatic 71, 3) := by decide +kernel
theorem dX4_snow_91 : decode cX4_snow 91 = .ok (.ireturn, 1) := by decide +kernel
set_option maxRecDepth 20000 in
theorem ggX4_depth_X4_isSide : GoodIn wsX4_depth wsX4_isSide := goodIn_r _ [7, 8, 9, 10, 6, 11, 16, 17, 18, 19, 20, 21, 22, 23, 24, 25, 26, 27, 28, 29, 30, 31, 32, 33] (by decide +kernel) (by decide +kernel)
set_option maxRecDepth 20000 in
theorem gX4_depth_X4_isSide : GoodIn wsX4_depth (wsV RX4 83 RX4 yX4_isSide wsX4_isSide) := goodIn_app (goodIn_of _ (by decide +kernel)) ggX4_depth_X4_isSide
set_option maxRecDepth 20000 in
theorem ggX4_depth_X4_fail : GoodIn wsX4_depth wsX4_fail := goodIn_r _ [15, 1, 16, 17, 18, 19, 20, 21, 22, 23, 24, 25, 26, 27, 28, 29, 30, 31, 32, 33] (by decide +kernel) (by decide +kernel)
set_option maxRecDepth 20000 in
theorem gX4_depth_X4_fail : GoodIn wsX4_depth (wsV RX4 63 RX4 yX4_fail wsX4_fail) := goodIn_app (goodIn_of _ (by decide +kernel)) ggX4_depth_X4_fail
theorem dX4_depth_0 : decode cX4_depth 0 = .ok (.aload_n 0, 1) := by decide +kernel
theorem dX4_depth_1 : decode cX4_depth 1 = .ok (.iconst 0, 1) := by decide +kernel
theorem dX4_depth_2 : decode cX4_depth 2 = .ok (.putfield 53, 3) := by decide +kernel
theorem dX4_depth_5 : decode cX4_depth 5 = .ok (.aload_n 0, 1) := by decide +kernel
theorem dX4_depth_6 : decode cX4_depth 6 = .ok (.iload_n 1, 1) := by decide +kernel
theorem dX4_depth_7 : decode cX4_depth 7 = .ok (.iload_n 2, 1) := by decide +kernel
theorem dX4_depth_8 : decode cX4_depth 8 = .ok (.invokevirtual 83, 3) := by decide +kernel
theorem dX4_depth_11 : decode cX4_depth 11 = .ok (.ifCond .eq 16, 3) := by decide +kernel
theorem dX4_depth_14 : decode cX4_depth 14 = .ok (.aload_n 0, 1) := by decide +kernel
theorem dX4_depth_15 : decode cX4_depth 15 = .ok (.getfield 30, 3) := by decide +kernel
theorem dX4_depth_18 : decode cX4_depth 18 = .ok (.iconst 2, 1) := by decide +kernel
theorem dX4_depth_19 : decode cX4_depth 19 = .ok (.iload_n 1, 1) := by decide +kernel
theorem dX4_depth_20 : decode cX4_depth 20 = .ok (.imul, 1) := by decide +kernel
theorem dX4_depth_21 : decode cX4_depth 21 = .ok (.iload_n 2, 1) := by decide +kernel
theorem dX4_depth_22 : decode cX4_depth 22 = .ok (.iadd, 1) := by decide +kernel
theorem dX4_depth_23 : decode cX4_depth 23 = .ok (.iaload, 1) := by decide +kernel
theorem dX4_depth_24 : decode cX4_depth 24 = .ok (.goto 8, 3) := by decide +kernel
theorem dX4_depth_27 : decode cX4_depth 27 = .ok (.aload_n 0, 1) := by decide +kernel
theorem dX4_depth_28 : decode cX4_depth 28 = .ok (.iconst 1, 1) := by decide +kernel
theorem dX4_depth_29 : decode cX4_depth 29 = .ok (.invokevirtual 63, 3) := by decide +kernel
theorem dX4_depth_32 : decode cX4_depth 32 = .ok (.ireturn, 1) := by decide +kernel
set_option maxRecDepth 20000 in
theorem ggX4_isSalted_X4_isSide : GoodIn wsX4_isSalted wsX4_isSide := goodIn_r _ [7, 8, 9, 10, 6, 11, 12, 13, 14, 15, 16, 17, 18, 19, 20, 21, 22, 23, 24, 25, 26, 27, 28, 29] (by decide +kernel) (by decide +kernel)
set_option maxRecDepth 20000 in
theorem gX4_isSalted_X4_isSide : GoodIn wsX4_isSalted (wsV RX4 83 RX4 yX4_isSide wsX4_isSide) := goodIn_app (goodIn_of _ (by decide +kernel)) ggX4_isSalted_X4_isSide
theorem dX4_isSalted_0 : decode cX4_isSalted 0 = .ok (.aload_n 0, 1) := by decide +kernel
theorem dX4_isSalted_1 : decode cX4_isSalted 1 = .ok (.aload_n 0, 1) := by decide +kernel
theorem dX4_isSalted_2 : decode cX4_isSalted 2 = .ok (.iload_n 1, 1) := by decide +kernel
theorem dX4_isSalted_3 : decode cX4_isSalted 3 = .ok (.iload_n 2, 1) := by decide +kernel
theorem dX4_isSalted_4 : decode cX4_isSalted 4 = .ok (.invokevirtual 83, 3) := by decide +kernel
theorem dX4_isSalted_7 : decode cX4_isSalted 7 = .ok (.ifCond .eq 7, 3) := by decide +kernel
theorem dX4_isSalted_10 : decode cX4_isSalted 10 = .ok (.iconst 0, 1) := by decide +kernel
theorem dX4_isSalted_11 : decode cX4_isSalted 11 = .ok (.goto 4, 3) := by decide +kernel
theorem dX4_isSalted_14 : decode cX4_isSalted 14 = .ok (.iconst 1, 1) := by decide +kernel
theorem dX4_isSalted_15 : decode cX4_isSalted 15 = .ok (.putfield 53, 3) := by decide +kernel
theorem dX4_isSalted_18 : decode cX4_isSalted 18 = .ok (.aload_n 0, 1) := by decide +kernel
theorem dX4_isSalted_19 : decode cX4_isSalted 19 = .ok (.getfield 53, 3) := by decide +kernel
theorem dX4_isSalted_22 : decode cX4_isSalted 22 = .ok (.ifCond .ne 20, 3) := by decide +kernel
theorem dX4_isSalted_25 : decode cX4_isSalted 25 = .ok (.aload_n 0, 1) := by decide +kernel
theorem dX4_isSalted_26 : decode cX4_isSalted 26 = .ok (.getfield 33, 3) := by decide +kernel
theorem dX4_isSalted_29 : decode cX4_isSalted 29 = .ok (.iconst 2, 1) := by decide +kernel
theorem dX4_isSalted_30 : decode cX4_isSalted 30 = .ok (.iload_n 1, 1) := by decide +kernel
theorem dX4_isSalted_31 : decode cX4_isSalted 31 = .ok (.imul, 1) := by decide +kernel
theorem dX4_isSalted_32 : decode cX4_isSalted 32 = .ok (.iload_n 2, 1) := by decide +kernel
theorem dX4_isSalted_33 : decode cX4_isSalted 33 = .ok (.iadd, 1) := by decide +kernel
theorem dX4_isSalted_34 : decode cX4_isSalted 34 = .ok (.baload, 1) := by decide +kernel
theorem dX4_isSalted_35 : decode cX4_isSalted 35 = .ok (.ifCond .eq 7, 3) := by decide +kernel
theorem dX4_isSalted_38 : decode cX4_isSalted 38 = .ok (.iconst 1, 1) := by decide +kernel
theorem dX4_isSalted_39 : decode cX4_isSalted 39 = .ok (.goto 4, 3) := by decide +kernel
theorem dX4_isSalted_42 : decode cX4_isSalted 42 = .ok (.iconst 0, 1) := by decide +kernel
theorem dX4_isSalted_43 : decode cX4_isSalted 43 = .ok (.ireturn, 1) := by decide +kernel
set_option maxRecDepth 20000 in
theorem ggX4_worst_X4_isIn : GoodIn wsX4_worst wsX4_isIn := goodIn_r _ [5] (by decide +kernel) (by decide +kernel)
set_option maxRecDepth 20000 in
theorem gX4_worst_X4_isIn : GoodIn wsX4_worst (va_wsS RX4 56 yX4_isIn wsX4_isIn) := goodIn_app (goodIn_of _ (by decide +kernel)) ggX4_worst_X4_isIn
set_option maxRecDepth 20000 in
theorem ggX4_worst_X4_deepest : GoodIn wsX4_worst wsX4_deepest := goodIn_r _ [9, 10, 11, 12, 13, 14, 15, 16, 21, 22, 23, 24, 25, 26, 27, 28, 29, 30, 31, 32, 33, 34, 35, 36, 37, 38] (by decide +kernel) (by decide +kernel)
set_option maxRecDepth 20000 in
theorem gX4_worst_X4_deepest : GoodIn wsX4_worst (wsV RX4 80 RX4 yX4_deepest wsX4_deepest) := goodIn_app (goodIn_of _ (by decide +kernel)) ggX4_worst_X4_deepest
set_option maxRecDepth 20000 in
theorem ggX4_worst_X4_fail : GoodIn wsX4_worst wsX4_fail := goodIn_r _ [20, 1, 21, 22, 23, 24, 25, 26, 27, 28, 29, 30, 31, 32, 33, 34, 35, 36, 37, 38] (by decide +kernel) (by decide +kernel)
set_option maxRecDepth 20000 in
theorem gX4_worst_X4_fail : GoodIn wsX4_worst (wsV RX4 63 RX4 yX4_fail wsX4_fail) := goodIn_app (goodIn_of _ (by decide +kernel)) ggX4_worst_X4_fail
theorem dX4_worst_0 : decode cX4_worst 0 = .ok (.aload_n 0, 1) := by decide +kernel
theorem dX4_worst_1 : decode cX4_worst 1 = .ok (.iconst 0, 1) := by decide +kernel
theorem dX4_worst_2 : decode cX4_worst 2 = .ok (.putfield 53, 3) := by decide +kernel
theorem dX4_worst_5 : decode cX4_worst 5 = .ok (.iload_n 1, 1) := by decide +kernel
theorem dX4_worst_6 : decode cX4_worst 6 = .ok (.iconst 0, 1) := by decide +kernel
theorem dX4_worst_7 : decode cX4_worst 7 = .ok (.iconst 2, 1) := by decide +kernel
theorem dX4_worst_8 : decode cX4_worst 8 = .ok (.invokestatic 56, 3) := by decide +kernel
theorem dX4_worst_11 : decode cX4_worst 11 = .ok (.ifCond .eq 11, 3) := by decide +kernel
theorem dX4_worst_14 : decode cX4_worst 14 = .ok (.aload_n 0, 1) := by decide +kernel
theorem dX4_worst_15 : decode cX4_worst 15 = .ok (.iload_n 1, 1) := by decide +kernel
theorem dX4_worst_16 : decode cX4_worst 16 = .ok (.invokevirtual 80, 3) := by decide +kernel
theorem dX4_worst_19 : decode cX4_worst 19 = .ok (.goto 8, 3) := by decide +kernel
theorem dX4_worst_22 : decode cX4_worst 22 = .ok (.aload_n 0, 1) := by decide +kernel
theorem dX4_worst_23 : decode cX4_worst 23 = .ok (.iconst 1, 1) := by decide +kernel
theorem dX4_worst_24 : decode cX4_worst 24 = .ok (.invokevirtual 63, 3) := by decide +kernel
theorem dX4_worst_27 : decode cX4_worst 27 = .ok (.ireturn, 1) := by decide +kernel
set_option maxRecDepth 20000 in
theorem ggX4_reach_X4_isNode : GoodIn wsX4_reach wsX4_isNode := goodIn_r _ [8, 9, 10, 11, 7, 12, 26, 27, 28, 29, 30, 31, 32, 33, 34, 35, 36, 37, 38, 39, 40, 41, 42, 43] (by decide +kernel) (by decide +kernel)
set_option maxRecDepth 20000 in
theorem gX4_reach_X4_isNode : GoodIn wsX4_reach (wsV RX4 67 RX4 yX4_isNode wsX4_isNode) := goodIn_app (goodIn_of _ (by decide +kernel)) ggX4_reach_X4_isNode
set_option maxRecDepth 20000 in
theorem ggX4_reach_X4_fail : GoodIn wsX4_reach wsX4_fail := goodIn_r _ [16, 1, 26, 27, 28, 29, 30, 31, 32, 33, 34, 35, 36, 37, 38, 39, 40, 41, 42, 43] (by decide +kernel) (by decide +kernel)
set_option maxRecDepth 20000 in
theorem gX4_reach_X4_fail : GoodIn wsX4_reach (wsV RX4 63 RX4 yX4_fail wsX4_fail) := goodIn_app (goodIn_of _ (by decide +kernel)) ggX4_reach_X4_fail
set_option maxRecDepth 20000 in
theorem ggX4_reach_X4_tail : GoodIn wsX4_reach wsX4_tail := goodIn_r _ [20, 21, 26, 27, 28, 29, 30, 31, 32, 33, 34, 35, 36, 37, 38, 39, 40, 41, 42, 43] (by decide +kernel) (by decide +kernel)
set_option maxRecDepth 20000 in
theorem gX4_reach_X4_tail : GoodIn wsX4_reach (wsV RX4 87 RX4 yX4_tail wsX4_tail) := goodIn_app (goodIn_of _ (by decide +kernel)) ggX4_reach_X4_tail
set_option maxRecDepth 20000 in
theorem ggX4_reach_X4_head : GoodIn wsX4_reach wsX4_head := goodIn_r _ [25, 21, 26, 27, 28, 29, 30, 31, 32, 33, 34, 35, 36, 37, 38, 39, 40, 41, 42, 43] (by decide +kernel) (by decide +kernel)
set_option maxRecDepth 20000 in
theorem gX4_reach_X4_head : GoodIn wsX4_reach (wsV RX4 90 RX4 yX4_head wsX4_head) := goodIn_app (goodIn_of _ (by decide +kernel)) ggX4_reach_X4_head
theorem dX4_reach_0 : decode cX4_reach 0 = .ok (.aload_n 0, 1) := by decide +kernel
theorem dX4_reach_1 : decode cX4_reach 1 = .ok (.iconst 0, 1) := by decide +kernel
theorem dX4_reach_2 : decode cX4_reach 2 = .ok (.putfield 53, 3) := by decide +kernel
theorem dX4_reach_5 : decode cX4_reach 5 = .ok (.aload_n 0, 1) := by decide +kernel
theorem dX4_reach_6 : decode cX4_reach 6 = .ok (.iload_n 1, 1) := by decide +kernel
theorem dX4_reach_7 : decode cX4_reach 7 = .ok (.invokevirtual 67, 3) := by decide +kernel
theorem dX4_reach_10 : decode cX4_reach 10 = .ok (.ifCond .ne 9, 3) := by decide +kernel
theorem dX4_reach_13 : decode cX4_reach 13 = .ok (.aload_n 0, 1) := by decide +kernel
theorem dX4_reach_14 : decode cX4_reach 14 = .ok (.iconst 1, 1) := by decide +kernel
theorem dX4_reach_15 : decode cX4_reach 15 = .ok (.invokevirtual 63, 3) := by decide +kernel
theorem dX4_reach_18 : decode cX4_reach 18 = .ok (.ireturn, 1) := by decide +kernel
theorem dX4_reach_19 : decode cX4_reach 19 = .ok (.iconst 1, 1) := by decide +kernel
theorem dX4_reach_20 : decode cX4_reach 20 = .ok (.iload_n 1, 1) := by decide +kernel
theorem dX4_reach_21 : decode cX4_reach 21 = .ok (.ishl, 1) := by decide +kernel
theorem dX4_reach_22 : decode cX4_reach 22 = .ok (.istore_n 2, 1) := by decide +kernel
theorem dX4_reach_23 : decode cX4_reach 23 = .ok (.iconst 0, 1) := by decide +kernel
theorem dX4_reach_24 : decode cX4_reach 24 = .ok (.istore_n 3, 1) := by decide +kernel
theorem dX4_reach_25 : decode cX4_reach 25 = .ok (.iload_n 3, 1) := by decide +kernel
theorem dX4_reach_26 : decode cX4_reach 26 = .ok (.bipush 8, 2) := by decide +kernel
theorem dX4_reach_28 : decode cX4_reach 28 = .ok (.if_icmp .ge 67, 3) := by decide +kernel
theorem dX4_reach_31 : decode cX4_reach 31 = .ok (.iconst 0, 1) := by decide +kernel
theorem dX4_reach_32 : decode cX4_reach 32 = .ok (.istore 4, 2) := by decide +kernel
theorem dX4_reach_34 : decode cX4_reach 34 = .ok (.iload 4, 2) := by decide +kernel
theorem dX4_reach_36 : decode cX4_reach 36 = .ok (.iconst 2, 1) := by decide +kernel
theorem dX4_reach_37 : decode cX4_reach 37 = .ok (.aload_n 0, 1) := by decide +kernel
theorem dX4_reach_38 : decode cX4_reach 38 = .ok (.getfield 60, 3) := by decide +kernel
theorem dX4_reach_41 : decode cX4_reach 41 = .ok (.imul, 1) := by decide +kernel
theorem dX4_reach_42 : decode cX4_reach 42 = .ok (.if_icmp .ge 47, 3) := by decide +kernel
theorem dX4_reach_45 : decode cX4_reach 45 = .ok (.iload_n 2, 1) := by decide +kernel
theorem dX4_reach_46 : decode cX4_reach 46 = .ok (.aload_n 0, 1) := by decide +kernel
theorem dX4_reach_47 : decode cX4_reach 47 = .ok (.iload 4, 2) := by decide +kernel
theorem dX4_reach_49 : decode cX4_reach 49 = .ok (.invokevirtual 87, 3) := by decide +kernel
theorem dX4_reach_52 : decode cX4_reach 52 = .ok (.ishr, 1) := by decide +kernel
theorem dX4_reach_53 : decode cX4_reach 53 = .ok (.iconst 1, 1) := by decide +kernel
theorem dX4_reach_54 : decode cX4_reach 54 = .ok (.iand, 1) := by decide +kernel
theorem dX4_reach_55 : decode cX4_reach 55 = .ok (.iconst 1, 1) := by decide +kernel
theorem dX4_reach_56 : decode cX4_reach 56 = .ok (.if_icmp .ne 27, 3) := by decide +kernel
theorem dX4_reach_59 : decode cX4_reach 59 = .ok (.aload_n 0, 1) := by decide +kernel
theorem dX4_reach_60 : decode cX4_reach 60 = .ok (.getfield 30, 3) := by decide +kernel
theorem dX4_reach_63 : decode cX4_reach 63 = .ok (.iload 4, 2) := by decide +kernel
theorem dX4_reach_65 : decode cX4_reach 65 = .ok (.iaload, 1) := by decide +kernel
theorem dX4_reach_66 : decode cX4_reach 66 = .ok (.sipush 300, 3) := by decide +kernel
theorem dX4_reach_69 : decode cX4_reach 69 = .ok (.if_icmp .ge 14, 3) := by decide +kernel
theorem dX4_reach_72 : decode cX4_reach 72 = .ok (.iload_n 2, 1) := by decide +kernel
theorem dX4_reach_73 : decode cX4_reach 73 = .ok (.iconst 1, 1) := by decide +kernel
theorem dX4_reach_74 : decode cX4_reach 74 = .ok (.aload_n 0, 1) := by decide +kernel
theorem dX4_reach_75 : decode cX4_reach 75 = .ok (.iload 4, 2) := by decide +kernel
theorem dX4_reach_77 : decode cX4_reach 77 = .ok (.invokevirtual 90, 3) := by decide +kernel
theorem dX4_reach_80 : decode cX4_reach 80 = .ok (.ishl, 1) := by decide +kernel
theorem dX4_reach_81 : decode cX4_reach 81 = .ok (.ior, 1) := by decide +kernel
theorem dX4_reach_82 : decode cX4_reach 82 = .ok (.istore_n 2, 1) := by decide +kernel
theorem dX4_reach_83 : decode cX4_reach 83 = .ok (.iinc 4 1, 3) := by decide +kernel
theorem dX4_reach_86 : decode cX4_reach 86 = .ok (.goto (-52), 3) := by decide +kernel
theorem dX4_reach_89 : decode cX4_reach 89 = .ok (.iinc 3 1, 3) := by decide +kernel
theorem dX4_reach_92 : decode cX4_reach 92 = .ok (.goto (-67), 3) := by decide +kernel
theorem dX4_reach_95 : decode cX4_reach 95 = .ok (.iload_n 2, 1) := by decide +kernel
theorem dX4_reach_96 : decode cX4_reach 96 = .ok (.ireturn, 1) := by decide +kernel
theorem dX4_bare_0 : decode cX4_bare 0 = .ok (.aload_n 0, 1) := by decide +kernel
theorem dX4_bare_1 : decode cX4_bare 1 = .ok (.iconst 0, 1) := by decide +kernel
theorem dX4_bare_2 : decode cX4_bare 2 = .ok (.putfield 53, 3) := by decide +kernel
theorem dX4_bare_5 : decode cX4_bare 5 = .ok (.iconst 0, 1) := by decide +kernel
theorem dX4_bare_6 : decode cX4_bare 6 = .ok (.istore_n 1, 1) := by decide +kernel
theorem dX4_bare_7 : decode cX4_bare 7 = .ok (.iconst 0, 1) := by decide +kernel
theorem dX4_bare_8 : decode cX4_bare 8 = .ok (.istore_n 2, 1) := by decide +kernel
theorem dX4_bare_9 : decode cX4_bare 9 = .ok (.iload_n 2, 1) := by decide +kernel
theorem dX4_bare_10 : decode cX4_bare 10 = .ok (.iconst 2, 1) := by decide +kernel
theorem dX4_bare_11 : decode cX4_bare 11 = .ok (.aload_n 0, 1) := by decide +kernel
theorem dX4_bare_12 : decode cX4_bare 12 = .ok (.getfield 60, 3) := by decide +kernel
theorem dX4_bare_15 : decode cX4_bare 15 = .ok (.imul, 1) := by decide +kernel
theorem dX4_bare_16 : decode cX4_bare 16 = .ok (.if_icmp .ge 26, 3) := by decide +kernel
theorem dX4_bare_19 : decode cX4_bare 19 = .ok (.iload_n 1, 1) := by decide +kernel
theorem dX4_bare_20 : decode cX4_bare 20 = .ok (.aload_n 0, 1) := by decide +kernel
theorem dX4_bare_21 : decode cX4_bare 21 = .ok (.getfield 30, 3) := by decide +kernel
theorem dX4_bare_24 : decode cX4_bare 24 = .ok (.iload_n 2, 1) := by decide +kernel
theorem dX4_bare_25 : decode cX4_bare 25 = .ok (.iaload, 1) := by decide +kernel
theorem dX4_bare_26 : decode cX4_bare 26 = .ok (.ifCond .ne 7, 3) := by decide +kernel
theorem dX4_bare_29 : decode cX4_bare 29 = .ok (.iconst 1, 1) := by decide +kernel
theorem dX4_bare_30 : decode cX4_bare 30 = .ok (.goto 4, 3) := by decide +kernel
theorem dX4_bare_33 : decode cX4_bare 33 = .ok (.iconst 0, 1) := by decide +kernel
theorem dX4_bare_34 : decode cX4_bare 34 = .ok (.iadd, 1) := by decide +kernel
theorem dX4_bare_35 : decode cX4_bare 35 = .ok (.istore_n 1, 1) := by decide +kernel
theorem dX4_bare_36 : decode cX4_bare 36 = .ok (.iinc 2 1, 3) := by decide +kernel
theorem dX4_bare_39 : decode cX4_bare 39 = .ok (.goto (-30), 3) := by decide +kernel
theorem dX4_bare_42 : decode cX4_bare 42 = .ok (.aload_n 0, 1) := by decide +kernel
theorem dX4_bare_43 : decode cX4_bare 43 = .ok (.getfield 60, 3) := by decide +kernel
theorem dX4_bare_46 : decode cX4_bare 46 = .ok (.ifCond .ne 7, 3) := by decide +kernel
theorem dX4_bare_49 : decode cX4_bare 49 = .ok (.dconst 1, 1) := by decide +kernel
theorem dX4_bare_50 : decode cX4_bare 50 = .ok (.goto 13, 3) := by decide +kernel
theorem dX4_bare_53 : decode cX4_bare 53 = .ok (.iload_n 1, 1) := by decide +kernel
theorem dX4_bare_54 : decode cX4_bare 54 = .ok (.i2d, 1) := by decide +kernel
theorem dX4_bare_55 : decode cX4_bare 55 = .ok (.iconst 2, 1) := by decide +kernel
theorem dX4_bare_56 : decode cX4_bare 56 = .ok (.aload_n 0, 1) := by decide +kernel
theorem dX4_bare_57 : decode cX4_bare 57 = .ok (.getfield 60, 3) := by decide +kernel
theorem dX4_bare_60 : decode cX4_bare 60 = .ok (.imul, 1) := by decide +kernel
theorem dX4_bare_61 : decode cX4_bare 61 = .ok (.i2d, 1) := by decide +kernel
theorem dX4_bare_62 : decode cX4_bare 62 = .ok (.ddiv, 1) := by decide +kernel
theorem dX4_bare_63 : decode cX4_bare 63 = .ok (.dreturn, 1) := by decide +kernel
theorem dX4_tail_0 : decode cX4_tail 0 = .ok (.aload_n 0, 1) := by decide +kernel
theorem dX4_tail_1 : decode cX4_tail 1 = .ok (.getfield 20, 3) := by decide +kernel
theorem dX4_tail_4 : decode cX4_tail 4 = .ok (.iload_n 1, 1) := by decide +kernel
theorem dX4_tail_5 : decode cX4_tail 5 = .ok (.iaload, 1) := by decide +kernel
theorem dX4_tail_6 : decode cX4_tail 6 = .ok (.ireturn, 1) := by decide +kernel
theorem dX4_head_0 : decode cX4_head 0 = .ok (.aload_n 0, 1) := by decide +kernel
theorem dX4_head_1 : decode cX4_head 1 = .ok (.getfield 20, 3) := by decide +kernel
theorem dX4_head_4 : decode cX4_head 4 = .ok (.iload_n 1, 1) := by decide +kernel
theorem dX4_head_5 : decode cX4_head 5 = .ok (.iconst 1, 1) := by decide +kernel
theorem dX4_head_6 : decode cX4_head 6 = .ok (.ixor, 1) := by decide +kernel
theorem dX4_head_7 : decode cX4_head 7 = .ok (.iaload, 1) := by decide +kernel
theorem dX4_head_8 : decode cX4_head 8 = .ok (.ireturn, 1) := by decide +kernel
theorem dX4_sideOf_0 : decode cX4_sideOf 0 = .ok (.iload_n 1, 1) := by decide +kernel
theorem dX4_sideOf_1 : decode cX4_sideOf 1 = .ok (.iload_n 3, 1) := by decide +kernel
theorem dX4_sideOf_2 : decode cX4_sideOf 2 = .ok (.if_icmp .ne 14, 3) := by decide +kernel
theorem dX4_sideOf_5 : decode cX4_sideOf 5 = .ok (.aload_n 0, 1) := by decide +kernel
theorem dX4_sideOf_6 : decode cX4_sideOf 6 = .ok (.getfield 13, 3) := by decide +kernel
theorem dX4_sideOf_9 : decode cX4_sideOf 9 = .ok (.iload_n 2, 1) := by decide +kernel
theorem dX4_sideOf_10 : decode cX4_sideOf 10 = .ok (.baload, 1) := by decide +kernel
theorem dX4_sideOf_11 : decode cX4_sideOf 11 = .ok (.ifCond .ne 5, 3) := by decide +kernel
theorem dX4_sideOf_14 : decode cX4_sideOf 14 = .ok (.iconst (-1), 1) := by decide +kernel
theorem dX4_sideOf_15 : decode cX4_sideOf 15 = .ok (.ireturn, 1) := by decide +kernel
theorem dX4_sideOf_16 : decode cX4_sideOf 16 = .ok (.aload_n 0, 1) := by decide +kernel
theorem dX4_sideOf_17 : decode cX4_sideOf 17 = .ok (.getfield 20, 3) := by decide +kernel
theorem dX4_sideOf_20 : decode cX4_sideOf 20 = .ok (.iconst 2, 1) := by decide +kernel
theorem dX4_sideOf_21 : decode cX4_sideOf 21 = .ok (.iload_n 1, 1) := by decide +kernel
theorem dX4_sideOf_22 : decode cX4_sideOf 22 = .ok (.imul, 1) := by decide +kernel
theorem dX4_sideOf_23 : decode cX4_sideOf 23 = .ok (.iaload, 1) := by decide +kernel
theorem dX4_sideOf_24 : decode cX4_sideOf 24 = .ok (.iload_n 2, 1) := by decide +kernel
theorem dX4_sideOf_25 : decode cX4_sideOf 25 = .ok (.if_icmp .ne 9, 3) := by decide +kernel
theorem dX4_sideOf_28 : decode cX4_sideOf 28 = .ok (.iconst 2, 1) := by decide +kernel
theorem dX4_sideOf_29 : decode cX4_sideOf 29 = .ok (.iload_n 1, 1) := by decide +kernel
theorem dX4_sideOf_30 : decode cX4_sideOf 30 = .ok (.imul, 1) := by decide +kernel
theorem dX4_sideOf_31 : decode cX4_sideOf 31 = .ok (.goto 26, 3) := by decide +kernel
theorem dX4_sideOf_34 : decode cX4_sideOf 34 = .ok (.aload_n 0, 1) := by decide +kernel
theorem dX4_sideOf_35 : decode cX4_sideOf 35 = .ok (.getfield 20, 3) := by decide +kernel
theorem dX4_sideOf_38 : decode cX4_sideOf 38 = .ok (.iconst 2, 1) := by decide +kernel
theorem dX4_sideOf_39 : decode cX4_sideOf 39 = .ok (.iload_n 1, 1) := by decide +kernel
theorem dX4_sideOf_40 : decode cX4_sideOf 40 = .ok (.imul, 1) := by decide +kernel
theorem dX4_sideOf_41 : decode cX4_sideOf 41 = .ok (.iconst 1, 1) := by decide +kernel
theorem dX4_sideOf_42 : decode cX4_sideOf 42 = .ok (.iadd, 1) := by decide +kernel
theorem dX4_sideOf_43 : decode cX4_sideOf 43 = .ok (.iaload, 1) := by decide +kernel
theorem dX4_sideOf_44 : decode cX4_sideOf 44 = .ok (.iload_n 2, 1) := by decide +kernel
theorem dX4_sideOf_45 : decode cX4_sideOf 45 = .ok (.if_icmp .ne 11, 3) := by decide +kernel
theorem dX4_sideOf_48 : decode cX4_sideOf 48 = .ok (.iconst 2, 1) := by decide +kernel
theorem dX4_sideOf_49 : decode cX4_sideOf 49 = .ok (.iload_n 1, 1) := by decide +kernel
theorem dX4_sideOf_50 : decode cX4_sideOf 50 = .ok (.imul, 1) := by decide +kernel
theorem dX4_sideOf_51 : decode cX4_sideOf 51 = .ok (.iconst 1, 1) := by decide +kernel
theorem dX4_sideOf_52 : decode cX4_sideOf 52 = .ok (.iadd, 1) := by decide +kernel
theorem dX4_sideOf_53 : decode cX4_sideOf 53 = .ok (.goto 4, 3) := by decide +kernel
theorem dX4_sideOf_56 : decode cX4_sideOf 56 = .ok (.iconst (-1), 1) := by decide +kernel
theorem dX4_sideOf_57 : decode cX4_sideOf 57 = .ok (.ireturn, 1) := by decide +kernel
theorem dX4_turnTime_0 : decode cX4_turnTime 0 = .ok (.iload_n 1, 1) := by decide +kernel
theorem dX4_turnTime_1 : decode cX4_turnTime 1 = .ok (.iload_n 2, 1) := by decide +kernel
theorem dX4_turnTime_2 : decode cX4_turnTime 2 = .ok (.if_icmp .ne 7, 3) := by decide +kernel
theorem dX4_turnTime_5 : decode cX4_turnTime 5 = .ok (.iconst 2, 1) := by decide +kernel
theorem dX4_turnTime_6 : decode cX4_turnTime 6 = .ok (.goto 4, 3) := by decide +kernel
theorem dX4_turnTime_9 : decode cX4_turnTime 9 = .ok (.iconst 0, 1) := by decide +kernel
theorem dX4_turnTime_10 : decode cX4_turnTime 10 = .ok (.ireturn, 1) := by decide +kernel
theorem dX4_strew_0 : decode cX4_strew 0 = .ok (.aload_n 0, 1) := by decide +kernel
theorem dX4_strew_1 : decode cX4_strew 1 = .ok (.iconst 0, 1) := by decide +kernel
theorem dX4_strew_2 : decode cX4_strew 2 = .ok (.putfield 53, 3) := by decide +kernel
theorem dX4_strew_5 : decode cX4_strew 5 = .ok (.aload_n 0, 1) := by decide +kernel
theorem dX4_strew_6 : decode cX4_strew 6 = .ok (.getfield 42, 3) := by decide +kernel
theorem dX4_strew_9 : decode cX4_strew 9 = .ok (.istore_n 2, 1) := by decide +kernel
theorem dX4_strew_10 : decode cX4_strew 10 = .ok (.aload_n 0, 1) := by decide +kernel
theorem dX4_strew_11 : decode cX4_strew 11 = .ok (.iload_n 1, 1) := by decide +kernel
theorem dX4_strew_12 : decode cX4_strew 12 = .ok (.putfield 42, 3) := by decide +kernel
theorem dX4_strew_15 : decode cX4_strew 15 = .ok (.iload_n 2, 1) := by decide +kernel
theorem dX4_strew_16 : decode cX4_strew 16 = .ok (.ireturn, 1) := by decide +kernel
set_option maxRecDepth 20000 in
theorem ggX4_drive_X4_sideOf : GoodIn wsX4_drive wsX4_sideOf := goodIn_r _ [17, 18, 19, 28, 29, 30, 31, 32, 33, 34, 35, 36, 37, 38, 39, 40, 41, 42, 43, 44, 45] (by decide +kernel) (by decide +kernel)
set_option maxRecDepth 20000 in
theorem gX4_drive_X4_sideOf : GoodIn wsX4_drive (wsV RX4 96 RX4 yX4_sideOf wsX4_sideOf) := goodIn_app (goodIn_of _ (by decide +kernel)) ggX4_drive_X4_sideOf
set_option maxRecDepth 20000 in
theorem ggX4_drive_X4_turnTime : GoodIn wsX4_drive wsX4_turnTime := goodIn_r _ [23] (by decide +kernel) (by decide +kernel)
set_option maxRecDepth 20000 in
theorem gX4_drive_X4_turnTime : GoodIn wsX4_drive (wsV RX4 100 RX4 yX4_turnTime wsX4_turnTime) := goodIn_app (goodIn_of _ (by decide +kernel)) ggX4_drive_X4_turnTime
set_option maxRecDepth 20000 in
theorem ggX4_drive_X4_head : GoodIn wsX4_drive wsX4_head := goodIn_r _ [27, 19, 28, 29, 30, 31, 32, 33, 34, 35, 36, 37, 38, 39, 40, 41, 42, 43, 44, 45] (by decide +kernel) (by decide +kernel)
set_option maxRecDepth 20000 in
theorem gX4_drive_X4_head : GoodIn wsX4_drive (wsV RX4 90 RX4 yX4_head wsX4_head) := goodIn_app (goodIn_of _ (by decide +kernel)) ggX4_drive_X4_head
theorem dX4_drive_0 : decode cX4_drive 0 = .ok (.aload_n 0, 1) := by decide +kernel
theorem dX4_drive_1 : decode cX4_drive 1 = .ok (.iload_n 1, 1) := by decide +kernel
theorem dX4_drive_2 : decode cX4_drive 2 = .ok (.aload_n 0, 1) := by decide +kernel
theorem dX4_drive_3 : decode cX4_drive 3 = .ok (.getfield 93, 3) := by decide +kernel
theorem dX4_drive_6 : decode cX4_drive 6 = .ok (.aload_n 0, 1) := by decide +kernel
theorem dX4_drive_7 : decode cX4_drive 7 = .ok (.getfield 36, 3) := by decide +kernel
theorem dX4_drive_10 : decode cX4_drive 10 = .ok (.invokevirtual 96, 3) := by decide +kernel
theorem dX4_drive_13 : decode cX4_drive 13 = .ok (.istore_n 2, 1) := by decide +kernel
theorem dX4_drive_14 : decode cX4_drive 14 = .ok (.iload_n 1, 1) := by decide +kernel
theorem dX4_drive_15 : decode cX4_drive 15 = .ok (.aload_n 0, 1) := by decide +kernel
theorem dX4_drive_16 : decode cX4_drive 16 = .ok (.getfield 36, 3) := by decide +kernel
theorem dX4_drive_19 : decode cX4_drive 19 = .ok (.if_icmp .ne 7, 3) := by decide +kernel
theorem dX4_drive_22 : decode cX4_drive 22 = .ok (.iconst 1, 1) := by decide +kernel
theorem dX4_drive_23 : decode cX4_drive 23 = .ok (.goto 4, 3) := by decide +kernel
theorem dX4_drive_26 : decode cX4_drive 26 = .ok (.iconst 0, 1) := by decide +kernel
theorem dX4_drive_27 : decode cX4_drive 27 = .ok (.istore_n 3, 1) := by decide +kernel
theorem dX4_drive_28 : decode cX4_drive 28 = .ok (.aload_n 0, 1) := by decide +kernel
theorem dX4_drive_29 : decode cX4_drive 29 = .ok (.getfield 24, 3) := by decide +kernel
theorem dX4_drive_32 : decode cX4_drive 32 = .ok (.iload_n 1, 1) := by decide +kernel
theorem dX4_drive_33 : decode cX4_drive 33 = .ok (.iaload, 1) := by decide +kernel
theorem dX4_drive_34 : decode cX4_drive 34 = .ok (.aload_n 0, 1) := by decide +kernel
theorem dX4_drive_35 : decode cX4_drive 35 = .ok (.getfield 30, 3) := by decide +kernel
theorem dX4_drive_38 : decode cX4_drive 38 = .ok (.iload_n 2, 1) := by decide +kernel
theorem dX4_drive_39 : decode cX4_drive 39 = .ok (.iaload, 1) := by decide +kernel
theorem dX4_drive_40 : decode cX4_drive 40 = .ok (.bipush 50, 2) := by decide +kernel
theorem dX4_drive_42 : decode cX4_drive 42 = .ok (.if_icmp .lt 7, 3) := by decide +kernel
theorem dX4_drive_45 : decode cX4_drive 45 = .ok (.iconst 2, 1) := by decide +kernel
theorem dX4_drive_46 : decode cX4_drive 46 = .ok (.goto 4, 3) := by decide +kernel
theorem dX4_drive_49 : decode cX4_drive 49 = .ok (.iconst 1, 1) := by decide +kernel
theorem dX4_drive_50 : decode cX4_drive 50 = .ok (.imul, 1) := by decide +kernel
theorem dX4_drive_51 : decode cX4_drive 51 = .ok (.aload_n 0, 1) := by decide +kernel
theorem dX4_drive_52 : decode cX4_drive 52 = .ok (.iload_n 1, 1) := by decide +kernel
theorem dX4_drive_53 : decode cX4_drive 53 = .ok (.aload_n 0, 1) := by decide +kernel
theorem dX4_drive_54 : decode cX4_drive 54 = .ok (.getfield 36, 3) := by decide +kernel
theorem dX4_drive_57 : decode cX4_drive 57 = .ok (.invokevirtual 100, 3) := by decide +kernel
theorem dX4_drive_60 : decode cX4_drive 60 = .ok (.iadd, 1) := by decide +kernel
theorem dX4_drive_61 : decode cX4_drive 61 = .ok (.istore 4, 2) := by decide +kernel
theorem dX4_drive_63 : decode cX4_drive 63 = .ok (.aload_n 0, 1) := by decide +kernel
theorem dX4_drive_64 : decode cX4_drive 64 = .ok (.getfield 30, 3) := by decide +kernel
theorem dX4_drive_67 : decode cX4_drive 67 = .ok (.iload_n 2, 1) := by decide +kernel
theorem dX4_drive_68 : decode cX4_drive 68 = .ok (.iaload, 1) := by decide +kernel
theorem dX4_drive_69 : decode cX4_drive 69 = .ok (.ifCond .le 61, 3) := by decide +kernel
theorem dX4_drive_72 : decode cX4_drive 72 = .ok (.aload_n 0, 1) := by decide +kernel
theorem dX4_drive_73 : decode cX4_drive 73 = .ok (.getfield 42, 3) := by decide +kernel
theorem dX4_drive_76 : decode cX4_drive 76 = .ok (.ifCond .eq 54, 3) := by decide +kernel
theorem dX4_drive_79 : decode cX4_drive 79 = .ok (.aload_n 0, 1) := by decide +kernel
theorem dX4_drive_80 : decode cX4_drive 80 = .ok (.getfield 39, 3) := by decide +kernel
theorem dX4_drive_83 : decode cX4_drive 83 = .ok (.aload_n 0, 1) := by decide +kernel
theorem dX4_drive_84 : decode cX4_drive 84 = .ok (.getfield 24, 3) := by decide +kernel
theorem dX4_drive_87 : decode cX4_drive 87 = .ok (.iload_n 1, 1) := by decide +kernel
theorem dX4_drive_88 : decode cX4_drive 88 = .ok (.iaload, 1) := by decide +kernel
theorem dX4_drive_89 : decode cX4_drive 89 = .ok (.if_icmp .lt 41, 3) := by decide +kernel
theorem dX4_drive_92 : decode cX4_drive 92 = .ok (.aload_n 0, 1) := by decide +kernel
theorem dX4_drive_93 : decode cX4_drive 93 = .ok (.getfield 33, 3) := by decide +kernel
theorem dX4_drive_96 : decode cX4_drive 96 = .ok (.iload_n 2, 1) := by decide +kernel
theorem dX4_drive_97 : decode cX4_drive 97 = .ok (.iconst 1, 1) := by decide +kernel
theorem dX4_drive_98 : decode cX4_drive 98 = .ok (.bastore, 1) := by decide +kernel
theorem dX4_drive_99 : decode cX4_drive 99 = .ok (.aload_n 0, 1) := by decide +kernel
theorem dX4_drive_100 : decode cX4_drive 100 = .ok (.dup, 1) := by decide +kernel
theorem dX4_drive_101 : decode cX4_drive 101 = .ok (.getfield 39, 3) := by decide +kernel
theorem dX4_drive_104 : decode cX4_drive 104 = .ok (.aload_n 0, 1) := by decide +kernel
theorem dX4_drive_105 : decode cX4_drive 105 = .ok (.getfield 24, 3) := by decide +kernel
theorem dX4_drive_108 : decode cX4_drive 108 = .ok (.iload_n 1, 1) := by decide +kernel
theorem dX4_drive_109 : decode cX4_drive 109 = .ok (.iaload, 1) := by decide +kernel
theorem dX4_drive_110 : decode cX4_drive 110 = .ok (.isub, 1) := by decide +kernel
theorem dX4_drive_111 : decode cX4_drive 111 = .ok (.putfield 39, 3) := by decide +kernel
theorem dX4_drive_114 : decode cX4_drive 114 = .ok (.aload_n 0, 1) := by decide +kernel
theorem dX4_drive_115 : decode cX4_drive 115 = .ok (.getfield 46, 3) := by decide +kernel
theorem dX4_drive_118 : decode cX4_drive 118 = .ok (.iconst 1, 1) := by decide +kernel
theorem dX4_drive_119 : decode cX4_drive 119 = .ok (.dup2, 1) := by decide +kernel
theorem dX4_drive_120 : decode cX4_drive 120 = .ok (.laload, 1) := by decide +kernel
theorem dX4_drive_121 : decode cX4_drive 121 = .ok (.aload_n 0, 1) := by decide +kernel
theorem dX4_drive_122 : decode cX4_drive 122 = .ok (.getfield 24, 3) := by decide +kernel
theorem dX4_drive_125 : decode cX4_drive 125 = .ok (.iload_n 1, 1) := by decide +kernel
theorem dX4_drive_126 : decode cX4_drive 126 = .ok (.iaload, 1) := by decide +kernel
theorem dX4_drive_127 : decode cX4_drive 127 = .ok (.i2l, 1) := by decide +kernel
theorem dX4_drive_128 : decode cX4_drive 128 = .ok (.ladd, 1) := by decide +kernel
theorem dX4_drive_129 : decode cX4_drive 129 = .ok (.lastore, 1) := by decide +kernel
theorem dX4_drive_130 : decode cX4_drive 130 = .ok (.aload_n 0, 1) := by decide +kernel
theorem dX4_drive_131 : decode cX4_drive 131 = .ok (.getfield 30, 3) := by decide +kernel
theorem dX4_drive_134 : decode cX4_drive 134 = .ok (.iload_n 2, 1) := by decide +kernel
theorem dX4_drive_135 : decode cX4_drive 135 = .ok (.iconst 1, 1) := by decide +kernel
theorem dX4_drive_136 : decode cX4_drive 136 = .ok (.ixor, 1) := by decide +kernel
theorem dX4_drive_137 : decode cX4_drive 137 = .ok (.sipush 999, 3) := by decide +kernel
theorem dX4_drive_140 : decode cX4_drive 140 = .ok (.aload_n 0, 1) := by decide +kernel
theorem dX4_drive_141 : decode cX4_drive 141 = .ok (.getfield 30, 3) := by decide +kernel
theorem dX4_drive_144 : decode cX4_drive 144 = .ok (.iload_n 2, 1) := by decide +kernel
theorem dX4_drive_145 : decode cX4_drive 145 = .ok (.iconst 1, 1) := by decide +kernel
theorem dX4_drive_146 : decode cX4_drive 146 = .ok (.ixor, 1) := by decide +kernel
theorem dX4_drive_147 : decode cX4_drive 147 = .ok (.iaload, 1) := by decide +kernel
theorem dX4_drive_148 : decode cX4_drive 148 = .ok (.aload_n 0, 1) := by decide +kernel
theorem dX4_drive_149 : decode cX4_drive 149 = .ok (.getfield 30, 3) := by decide +kernel
theorem dX4_drive_152 : decode cX4_drive 152 = .ok (.iload_n 2, 1) := by decide +kernel
theorem dX4_drive_153 : decode cX4_drive 153 = .ok (.iaload, 1) := by decide +kernel
theorem dX4_drive_154 : decode cX4_drive 154 = .ok (.iconst 2, 1) := by decide +kernel
theorem dX4_drive_155 : decode cX4_drive 155 = .ok (.idiv, 1) := by decide +kernel
theorem dX4_drive_156 : decode cX4_drive 156 = .ok (.iadd, 1) := by decide +kernel
theorem dX4_drive_157 : decode cX4_drive 157 = .ok (.invokestatic 77, 3) := by decide +kernel
theorem dX4_drive_160 : decode cX4_drive 160 = .ok (.iastore, 1) := by decide +kernel
theorem dX4_drive_161 : decode cX4_drive 161 = .ok (.aload_n 0, 1) := by decide +kernel
theorem dX4_drive_162 : decode cX4_drive 162 = .ok (.getfield 30, 3) := by decide +kernel
theorem dX4_drive_165 : decode cX4_drive 165 = .ok (.iload_n 2, 1) := by decide +kernel
theorem dX4_drive_166 : decode cX4_drive 166 = .ok (.iconst 0, 1) := by decide +kernel
theorem dX4_drive_167 : decode cX4_drive 167 = .ok (.iastore, 1) := by decide +kernel
theorem dX4_drive_168 : decode cX4_drive 168 = .ok (.aload_n 0, 1) := by decide +kernel
theorem dX4_drive_169 : decode cX4_drive 169 = .ok (.aload_n 0, 1) := by decide +kernel
theorem dX4_drive_170 : decode cX4_drive 170 = .ok (.iload_n 2, 1) := by decide +kernel
theorem dX4_drive_171 : decode cX4_drive 171 = .ok (.invokevirtual 90, 3) := by decide +kernel
theorem dX4_drive_174 : decode cX4_drive 174 = .ok (.putfield 93, 3) := by decide +kernel
theorem dX4_drive_177 : decode cX4_drive 177 = .ok (.aload_n 0, 1) := by decide +kernel
theorem dX4_drive_178 : decode cX4_drive 178 = .ok (.iload_n 1, 1) := by decide +kernel
theorem dX4_drive_179 : decode cX4_drive 179 = .ok (.putfield 36, 3) := by decide +kernel
theorem dX4_drive_182 : decode cX4_drive 182 = .ok (.aload_n 0, 1) := by decide +kernel
theorem dX4_drive_183 : decode cX4_drive 183 = .ok (.getfield 46, 3) := by decide +kernel
theorem dX4_drive_186 : decode cX4_drive 186 = .ok (.iconst 0, 1) := by decide +kernel
theorem dX4_drive_187 : decode cX4_drive 187 = .ok (.dup2, 1) := by decide +kernel
theorem dX4_drive_188 : decode cX4_drive 188 = .ok (.laload, 1) := by decide +kernel
theorem dX4_drive_189 : decode cX4_drive 189 = .ok (.iload 4, 2) := by decide +kernel
theorem dX4_drive_191 : decode cX4_drive 191 = .ok (.i2l, 1) := by decide +kernel
theorem dX4_drive_192 : decode cX4_drive 192 = .ok (.ladd, 1) := by decide +kernel
theorem dX4_drive_193 : decode cX4_drive 193 = .ok (.lastore, 1) := by decide +kernel
theorem dX4_drive_194 : decode cX4_drive 194 = .ok (.aload_n 0, 1) := by decide +kernel
theorem dX4_drive_195 : decode cX4_drive 195 = .ok (.getfield 46, 3) := by decide +kernel
theorem dX4_drive_198 : decode cX4_drive 198 = .ok (.iconst 2, 1) := by decide +kernel
theorem dX4_drive_199 : decode cX4_drive 199 = .ok (.dup2, 1) := by decide +kernel
theorem dX4_drive_200 : decode cX4_drive 200 = .ok (.laload, 1) := by decide +kernel
theorem dX4_drive_201 : decode cX4_drive 201 = .ok (.iload_n 3, 1) := by decide +kernel
theorem dX4_drive_202 : decode cX4_drive 202 = .ok (.ifCond .eq 7, 3) := by decide +kernel
theorem dX4_drive_205 : decode cX4_drive 205 = .ok (.lconst 1, 1) := by decide +kernel
theorem dX4_drive_206 : decode cX4_drive 206 = .ok (.goto 4, 3) := by decide +kernel
theorem dX4_drive_209 : decode cX4_drive 209 = .ok (.lconst 0, 1) := by decide +kernel
theorem dX4_drive_210 : decode cX4_drive 210 = .ok (.ladd, 1) := by decide +kernel
theorem dX4_drive_211 : decode cX4_drive 211 = .ok (.lastore, 1) := by decide +kernel
theorem dX4_drive_212 : decode cX4_drive 212 = .ok (.aload_n 0, 1) := by decide +kernel
theorem dX4_drive_213 : decode cX4_drive 213 = .ok (.getfield 46, 3) := by decide +kernel
theorem dX4_drive_216 : decode cX4_drive 216 = .ok (.iconst 3, 1) := by decide +kernel
theorem dX4_drive_217 : decode cX4_drive 217 = .ok (.dup2, 1) := by decide +kernel
theorem dX4_drive_218 : decode cX4_drive 218 = .ok (.laload, 1) := by decide +kernel
theorem dX4_drive_219 : decode cX4_drive 219 = .ok (.lconst 1, 1) := by decide +kernel
theorem dX4_drive_220 : decode cX4_drive 220 = .ok (.ladd, 1) := by decide +kernel
theorem dX4_drive_221 : decode cX4_drive 221 = .ok (.lastore, 1) := by decide +kernel
theorem dX4_drive_222 : decode cX4_drive 222 = .ok (.iload 4, 2) := by decide +kernel
theorem dX4_drive_224 : decode cX4_drive 224 = .ok (.ireturn, 1) := by decide +kernel
set_option maxRecDepth 20000 in
theorem ggX4_go_X4_isIn : GoodIn wsX4_go wsX4_isIn := goodIn_r _ [8] (by decide +kernel) (by decide +kernel)
set_option maxRecDepth 20000 in
theorem gX4_go_X4_isIn : GoodIn wsX4_go (va_wsS RX4 56 yX4_isIn wsX4_isIn) := goodIn_app (goodIn_of _ (by decide +kernel)) ggX4_go_X4_isIn
set_option maxRecDepth 20000 in
theorem ggX4_go_X4_fail : GoodIn wsX4_go wsX4_fail := goodIn_r _ [12, 1, 41, 42, 43, 44, 45, 46, 47, 48, 49, 50, 51, 52, 53, 54, 55, 56, 57, 58] (by decide +kernel) (by decide +kernel)
set_option maxRecDepth 20000 in
theorem gX4_go_X4_fail : GoodIn wsX4_go (wsV RX4 63 RX4 yX4_fail wsX4_fail) := goodIn_app (goodIn_of _ (by decide +kernel)) ggX4_go_X4_fail
set_option maxRecDepth 20000 in
theorem ggX4_go_X4_sideOf : GoodIn wsX4_go wsX4_sideOf := goodIn_r _ [16, 17, 18, 41, 42, 43, 44, 45, 46, 47, 48, 49, 50, 51, 52, 53, 54, 55, 56, 57, 58] (by decide +kernel) (by decide +kernel)
set_option maxRecDepth 20000 in
theorem gX4_go_X4_sideOf : GoodIn wsX4_go (wsV RX4 96 RX4 yX4_sideOf wsX4_sideOf) := goodIn_app (goodIn_of _ (by decide +kernel)) ggX4_go_X4_sideOf
set_option maxRecDepth 20000 in
theorem ggX4_go_X4_drive : GoodIn wsX4_go wsX4_drive := goodIn_r _ [22, 3, 4, 23, 24, 25, 26, 27, 28, 29, 30, 31, 32, 13, 14, 15, 7, 16, 17, 18, 33, 34, 35, 36, 37, 38, 39, 40, 41, 42, 43, 44, 45, 46, 47, 48, 49, 50, 51, 52, 53, 54, 55, 56, 57, 58] (by decide +kernel) (by decide +kernel)
set_option maxRecDepth 20000 in
theorem gX4_go_X4_drive : GoodIn wsX4_go (wsV RX4 103 RX4 yX4_drive wsX4_drive) := goodIn_app (goodIn_of _ (by decide +kernel)) ggX4_go_X4_drive
theorem dX4_go_0 : decode cX4_go 0 = .ok (.aload_n 0, 1) := by decide +kernel
theorem dX4_go_1 : decode cX4_go 1 = .ok (.iconst 0, 1) := by decide +kernel
theorem dX4_go_2 : decode cX4_go 2 = .ok (.putfield 53, 3) := by decide +kernel
theorem dX4_go_5 : decode cX4_go 5 = .ok (.iload_n 1, 1) := by decide +kernel
theorem dX4_go_6 : decode cX4_go 6 = .ok (.iconst 0, 1) := by decide +kernel
theorem dX4_go_7 : decode cX4_go 7 = .ok (.aload_n 0, 1) := by decide +kernel
theorem dX4_go_8 : decode cX4_go 8 = .ok (.getfield 60, 3) := by decide +kernel
theorem dX4_go_11 : decode cX4_go 11 = .ok (.iconst 1, 1) := by decide +kernel
theorem dX4_go_12 : decode cX4_go 12 = .ok (.isub, 1) := by decide +kernel
theorem dX4_go_13 : decode cX4_go 13 = .ok (.invokestatic 56, 3) := by decide +kernel
theorem dX4_go_16 : decode cX4_go 16 = .ok (.ifCond .ne 9, 3) := by decide +kernel
theorem dX4_go_19 : decode cX4_go 19 = .ok (.aload_n 0, 1) := by decide +kernel
theorem dX4_go_20 : decode cX4_go 20 = .ok (.iconst 1, 1) := by decide +kernel
theorem dX4_go_21 : decode cX4_go 21 = .ok (.invokevirtual 63, 3) := by decide +kernel
theorem dX4_go_24 : decode cX4_go 24 = .ok (.ireturn, 1) := by decide +kernel
theorem dX4_go_25 : decode cX4_go 25 = .ok (.aload_n 0, 1) := by decide +kernel
theorem dX4_go_26 : decode cX4_go 26 = .ok (.iload_n 1, 1) := by decide +kernel
theorem dX4_go_27 : decode cX4_go 27 = .ok (.aload_n 0, 1) := by decide +kernel
theorem dX4_go_28 : decode cX4_go 28 = .ok (.getfield 93, 3) := by decide +kernel
theorem dX4_go_31 : decode cX4_go 31 = .ok (.aload_n 0, 1) := by decide +kernel
theorem dX4_go_32 : decode cX4_go 32 = .ok (.getfield 36, 3) := by decide +kernel
theorem dX4_go_35 : decode cX4_go 35 = .ok (.invokevirtual 96, 3) := by decide +kernel
theorem dX4_go_38 : decode cX4_go 38 = .ok (.iconst (-1), 1) := by decide +kernel
theorem dX4_go_39 : decode cX4_go 39 = .ok (.if_icmp .ne 11, 3) := by decide +kernel
theorem dX4_go_42 : decode cX4_go 42 = .ok (.aload_n 0, 1) := by decide +kernel
theorem dX4_go_43 : decode cX4_go 43 = .ok (.iconst 2, 1) := by decide +kernel
theorem dX4_go_44 : decode cX4_go 44 = .ok (.invokevirtual 63, 3) := by decide +kernel
theorem dX4_go_47 : decode cX4_go 47 = .ok (.goto 8, 3) := by decide +kernel
theorem dX4_go_50 : decode cX4_go 50 = .ok (.aload_n 0, 1) := by decide +kernel
theorem dX4_go_51 : decode cX4_go 51 = .ok (.iload_n 1, 1) := by decide +kernel
theorem dX4_go_52 : decode cX4_go 52 = .ok (.invokevirtual 103, 3) := by decide +kernel
theorem dX4_go_55 : decode cX4_go 55 = .ok (.ireturn, 1) := by decide +kernel
theorem dX4_fillUp_0 : decode cX4_fillUp 0 = .ok (.bipush 120, 2) := by decide +kernel
theorem dX4_fillUp_2 : decode cX4_fillUp 2 = .ok (.aload_n 0, 1) := by decide +kernel
theorem dX4_fillUp_3 : decode cX4_fillUp 3 = .ok (.getfield 39, 3) := by decide +kernel
theorem dX4_fillUp_6 : decode cX4_fillUp 6 = .ok (.isub, 1) := by decide +kernel
theorem dX4_fillUp_7 : decode cX4_fillUp 7 = .ok (.istore_n 1, 1) := by decide +kernel
theorem dX4_fillUp_8 : decode cX4_fillUp 8 = .ok (.aload_n 0, 1) := by decide +kernel
theorem dX4_fillUp_9 : decode cX4_fillUp 9 = .ok (.bipush 120, 2) := by decide +kernel
theorem dX4_fillUp_11 : decode cX4_fillUp 11 = .ok (.putfield 39, 3) := by decide +kernel
theorem dX4_fillUp_14 : decode cX4_fillUp 14 = .ok (.aload_n 0, 1) := by decide +kernel
theorem dX4_fillUp_15 : decode cX4_fillUp 15 = .ok (.getfield 46, 3) := by decide +kernel
theorem dX4_fillUp_18 : decode cX4_fillUp 18 = .ok (.iconst 0, 1) := by decide +kernel
theorem dX4_fillUp_19 : decode cX4_fillUp 19 = .ok (.dup2, 1) := by decide +kernel
theorem dX4_fillUp_20 : decode cX4_fillUp 20 = .ok (.laload, 1) := by decide +kernel
theorem dX4_fillUp_21 : decode cX4_fillUp 21 = .ok (.ldc2_w 106, 3) := by decide +kernel
theorem dX4_fillUp_24 : decode cX4_fillUp 24 = .ok (.ladd, 1) := by decide +kernel
theorem dX4_fillUp_25 : decode cX4_fillUp 25 = .ok (.lastore, 1) := by decide +kernel
theorem dX4_fillUp_26 : decode cX4_fillUp 26 = .ok (.iload_n 1, 1) := by decide +kernel
theorem dX4_fillUp_27 : decode cX4_fillUp 27 = .ok (.ireturn, 1) := by decide +kernel
set_option maxRecDepth 20000 in
theorem ggX4_fill_X4_fillUp : GoodIn wsX4_fill wsX4_fillUp := goodIn_r _ [8, 9, 10, 11, 16, 17, 18, 19, 20, 21, 22, 23, 24, 25, 26, 27, 28, 29, 30, 31, 32, 33] (by decide +kernel) (by decide +kernel)
set_option maxRecDepth 20000 in
theorem gX4_fill_X4_fillUp : GoodIn wsX4_fill (wsV RX4 108 RX4 yX4_fillUp wsX4_fillUp) := goodIn_app (goodIn_of _ (by decide +kernel)) ggX4_fill_X4_fillUp
set_option maxRecDepth 20000 in
theorem ggX4_fill_X4_fail : GoodIn wsX4_fill wsX4_fail := goodIn_r _ [15, 1, 16, 17, 18, 19, 20, 21, 22, 23, 24, 25, 26, 27, 28, 29, 30, 31, 32, 33] (by decide +kernel) (by decide +kernel)
set_option maxRecDepth 20000 in
theorem gX4_fill_X4_fail : GoodIn wsX4_fill (wsV RX4 63 RX4 yX4_fail wsX4_fail) := goodIn_app (goodIn_of _ (by decide +kernel)) ggX4_fill_X4_fail
theorem dX4_fill_0 : decode cX4_fill 0 = .ok (.aload_n 0, 1) := by decide +kernel
theorem dX4_fill_1 : decode cX4_fill 1 = .ok (.iconst 0, 1) := by decide +kernel
theorem dX4_fill_2 : decode cX4_fill 2 = .ok (.putfield 53, 3) := by decide +kernel
theorem dX4_fill_5 : decode cX4_fill 5 = .ok (.aload_n 0, 1) := by decide +kernel
theorem dX4_fill_6 : decode cX4_fill 6 = .ok (.getfield 17, 3) := by decide +kernel
theorem dX4_fill_9 : decode cX4_fill 9 = .ok (.aload_n 0, 1) := by decide +kernel
theorem dX4_fill_10 : decode cX4_fill 10 = .ok (.getfield 93, 3) := by decide +kernel
theorem dX4_fill_13 : decode cX4_fill 13 = .ok (.baload, 1) := by decide +kernel
theorem dX4_fill_14 : decode cX4_fill 14 = .ok (.ifCond .eq 10, 3) := by decide +kernel
theorem dX4_fill_17 : decode cX4_fill 17 = .ok (.aload_n 0, 1) := by decide +kernel
theorem dX4_fill_18 : decode cX4_fill 18 = .ok (.invokevirtual 108, 3) := by decide +kernel
theorem dX4_fill_21 : decode cX4_fill 21 = .ok (.goto 8, 3) := by decide +kernel
theorem dX4_fill_24 : decode cX4_fill 24 = .ok (.aload_n 0, 1) := by decide +kernel
theorem dX4_fill_25 : decode cX4_fill 25 = .ok (.iconst 1, 1) := by decide +kernel
theorem dX4_fill_26 : decode cX4_fill 26 = .ok (.invokevirtual 63, 3) := by decide +kernel
theorem dX4_fill_29 : decode cX4_fill 29 = .ok (.ireturn, 1) := by decide +kernel
theorem dX4_told_0 : decode cX4_told 0 = .ok (.iload_n 1, 1) := by decide +kernel
theorem dX4_told_1 : decode cX4_told 1 = .ok (.ifCond .ne 10, 3) := by decide +kernel
theorem dX4_told_4 : decode cX4_told 4 = .ok (.aload_n 0, 1) := by decide +kernel
theorem dX4_told_5 : decode cX4_told 5 = .ok (.getfield 93, 3) := by decide +kernel
theorem dX4_told_8 : decode cX4_told 8 = .ok (.goto 39, 3) := by decide +kernel
theorem dX4_told_11 : decode cX4_told 11 = .ok (.iload_n 1, 1) := by decide +kernel
theorem dX4_told_12 : decode cX4_told 12 = .ok (.iconst 1, 1) := by decide +kernel
theorem dX4_told_13 : decode cX4_told 13 = .ok (.if_icmp .ne 10, 3) := by decide +kernel
theorem dX4_told_16 : decode cX4_told 16 = .ok (.aload_n 0, 1) := by decide +kernel
theorem dX4_told_17 : decode cX4_told 17 = .ok (.getfield 36, 3) := by decide +kernel
