theorem dX0_init_0 : decode cX0_init 0 = .ok (.aload_n 0, 1) := by decide +kernel
theorem dX0_init_1 : decode cX0_init 1 = .ok (.invokespecial 3, 3) := by decide +kernel
theorem dX0_init_4 : decode cX0_init 4 = .ok (.aload_n 0, 1) := by decide +kernel
theorem dX0_init_5 : decode cX0_init 5 = .ok (.bipush 8, 2) := by decide +kernel
theorem dX0_init_7 : decode cX0_init 7 = .ok (.newarray .boolean, 2) := by decide +kernel
theorem dX0_init_9 : decode cX0_init 9 = .ok (.putfield 9, 3) := by decide +kernel
theorem dX0_init_12 : decode cX0_init 12 = .ok (.aload_n 0, 1) := by decide +kernel
theorem dX0_init_13 : decode cX0_init 13 = .ok (.bipush 8, 2) := by decide +kernel
theorem dX0_init_15 : decode cX0_init 15 = .ok (.newarray .boolean, 2) := by decide +kernel
theorem dX0_init_17 : decode cX0_init 17 = .ok (.putfield 15, 3) := by decide +kernel
theorem dX0_init_20 : decode cX0_init 20 = .ok (.aload_n 0, 1) := by decide +kernel
theorem dX0_init_21 : decode cX0_init 21 = .ok (.bipush 24, 2) := by decide +kernel
theorem dX0_init_23 : decode cX0_init 23 = .ok (.newarray .int, 2) := by decide +kernel
theorem dX0_init_25 : decode cX0_init 25 = .ok (.putfield 18, 3) := by decide +kernel
theorem dX0_init_28 : decode cX0_init 28 = .ok (.aload_n 0, 1) := by decide +kernel
theorem dX0_init_29 : decode cX0_init 29 = .ok (.bipush 12, 2) := by decide +kernel
theorem dX0_init_31 : decode cX0_init 31 = .ok (.newarray .int, 2) := by decide +kernel
theorem dX0_init_33 : decode cX0_init 33 = .ok (.putfield 22, 3) := by decide +kernel
theorem dX0_init_36 : decode cX0_init 36 = .ok (.aload_n 0, 1) := by decide +kernel
theorem dX0_init_37 : decode cX0_init 37 = .ok (.bipush 12, 2) := by decide +kernel
theorem dX0_init_39 : decode cX0_init 39 = .ok (.newarray .int, 2) := by decide +kernel
theorem dX0_init_41 : decode cX0_init 41 = .ok (.putfield 25, 3) := by decide +kernel
theorem dX0_init_44 : decode cX0_init 44 = .ok (.aload_n 0, 1) := by decide +kernel
theorem dX0_init_45 : decode cX0_init 45 = .ok (.bipush 24, 2) := by decide +kernel
theorem dX0_init_47 : decode cX0_init 47 = .ok (.newarray .int, 2) := by decide +kernel
theorem dX0_init_49 : decode cX0_init 49 = .ok (.putfield 28, 3) := by decide +kernel
theorem dX0_init_52 : decode cX0_init 52 = .ok (.aload_n 0, 1) := by decide +kernel
theorem dX0_init_53 : decode cX0_init 53 = .ok (.bipush 24, 2) := by decide +kernel
theorem dX0_init_55 : decode cX0_init 55 = .ok (.newarray .boolean, 2) := by decide +kernel
theorem dX0_init_57 : decode cX0_init 57 = .ok (.putfield 31, 3) := by decide +kernel
theorem dX0_init_60 : decode cX0_init 60 = .ok (.aload_n 0, 1) := by decide +kernel
theorem dX0_init_61 : decode cX0_init 61 = .ok (.getfield 9, 3) := by decide +kernel
theorem dX0_init_64 : decode cX0_init 64 = .ok (.iconst 0, 1) := by decide +kernel
theorem dX0_init_65 : decode cX0_init 65 = .ok (.iconst 1, 1) := by decide +kernel
theorem dX0_init_66 : decode cX0_init 66 = .ok (.bastore, 1) := by decide +kernel
theorem dX0_init_67 : decode cX0_init 67 = .ok (.aload_n 0, 1) := by decide +kernel
theorem dX0_init_68 : decode cX0_init 68 = .ok (.getfield 15, 3) := by decide +kernel
theorem dX0_init_71 : decode cX0_init 71 = .ok (.iconst 0, 1) := by decide +kernel
theorem dX0_init_72 : decode cX0_init 72 = .ok (.iconst 1, 1) := by decide +kernel
theorem dX0_init_73 : decode cX0_init 73 = .ok (.bastore, 1) := by decide +kernel
theorem dX0_init_74 : decode cX0_init 74 = .ok (.aload_n 0, 1) := by decide +kernel
theorem dX0_init_75 : decode cX0_init 75 = .ok (.iconst 1, 1) := by decide +kernel
theorem dX0_init_76 : decode cX0_init 76 = .ok (.putfield 34, 3) := by decide +kernel
theorem dX0_init_79 : decode cX0_init 79 = .ok (.aload_n 0, 1) := by decide +kernel
theorem dX0_init_80 : decode cX0_init 80 = .ok (.iconst 0, 1) := by decide +kernel
theorem dX0_init_81 : decode cX0_init 81 = .ok (.putfield 38, 3) := by decide +kernel
theorem dX0_init_84 : decode cX0_init 84 = .ok (.return_, 1) := by decide +kernel
theorem dX0_nodeCount_0 : decode cX0_nodeCount 0 = .ok (.aload_n 0, 1) := by decide +kernel
theorem dX0_nodeCount_1 : decode cX0_nodeCount 1 = .ok (.getfield 34, 3) := by decide +kernel
theorem dX0_nodeCount_4 : decode cX0_nodeCount 4 = .ok (.ireturn, 1) := by decide +kernel
theorem dX0_roadCount_0 : decode cX0_roadCount 0 = .ok (.aload_n 0, 1) := by decide +kernel
theorem dX0_roadCount_1 : decode cX0_roadCount 1 = .ok (.getfield 38, 3) := by decide +kernel
theorem dX0_roadCount_4 : decode cX0_roadCount 4 = .ok (.ireturn, 1) := by decide +kernel
theorem dX0_sideCount_0 : decode cX0_sideCount 0 = .ok (.iconst 2, 1) := by decide +kernel
theorem dX0_sideCount_1 : decode cX0_sideCount 1 = .ok (.aload_n 0, 1) := by decide +kernel
theorem dX0_sideCount_2 : decode cX0_sideCount 2 = .ok (.getfield 38, 3) := by decide +kernel
theorem dX0_sideCount_5 : decode cX0_sideCount 5 = .ok (.imul, 1) := by decide +kernel
theorem dX0_sideCount_6 : decode cX0_sideCount 6 = .ok (.ireturn, 1) := by decide +kernel
theorem dX0_hasNode_0 : decode cX0_hasNode 0 = .ok (.iload_n 1, 1) := by decide +kernel
theorem dX0_hasNode_1 : decode cX0_hasNode 1 = .ok (.ifCond .lt 15, 3) := by decide +kernel
theorem dX0_hasNode_4 : decode cX0_hasNode 4 = .ok (.iload_n 1, 1) := by decide +kernel
theorem dX0_hasNode_5 : decode cX0_hasNode 5 = .ok (.aload_n 0, 1) := by decide +kernel
theorem dX0_hasNode_6 : decode cX0_hasNode 6 = .ok (.getfield 34, 3) := by decide +kernel
theorem dX0_hasNode_9 : decode cX0_hasNode 9 = .ok (.if_icmp .ge 7, 3) := by decide +kernel
theorem dX0_hasNode_12 : decode cX0_hasNode 12 = .ok (.iconst 1, 1) := by decide +kernel
theorem dX0_hasNode_13 : decode cX0_hasNode 13 = .ok (.goto 4, 3) := by decide +kernel
theorem dX0_hasNode_16 : decode cX0_hasNode 16 = .ok (.iconst 0, 1) := by decide +kernel
theorem dX0_hasNode_17 : decode cX0_hasNode 17 = .ok (.ireturn, 1) := by decide +kernel
theorem dX0_hasRoad_0 : decode cX0_hasRoad 0 = .ok (.iload_n 1, 1) := by decide +kernel
theorem dX0_hasRoad_1 : decode cX0_hasRoad 1 = .ok (.ifCond .lt 15, 3) := by decide +kernel
theorem dX0_hasRoad_4 : decode cX0_hasRoad 4 = .ok (.iload_n 1, 1) := by decide +kernel
theorem dX0_hasRoad_5 : decode cX0_hasRoad 5 = .ok (.aload_n 0, 1) := by decide +kernel
theorem dX0_hasRoad_6 : decode cX0_hasRoad 6 = .ok (.getfield 38, 3) := by decide +kernel
theorem dX0_hasRoad_9 : decode cX0_hasRoad 9 = .ok (.if_icmp .ge 7, 3) := by decide +kernel
theorem dX0_hasRoad_12 : decode cX0_hasRoad 12 = .ok (.iconst 1, 1) := by decide +kernel
theorem dX0_hasRoad_13 : decode cX0_hasRoad 13 = .ok (.goto 4, 3) := by decide +kernel
theorem dX0_hasRoad_16 : decode cX0_hasRoad 16 = .ok (.iconst 0, 1) := by decide +kernel
theorem dX0_hasRoad_17 : decode cX0_hasRoad 17 = .ok (.ireturn, 1) := by decide +kernel
theorem dX0_hasSide_0 : decode cX0_hasSide 0 = .ok (.iload_n 1, 1) := by decide +kernel
theorem dX0_hasSide_1 : decode cX0_hasSide 1 = .ok (.ifCond .lt 17, 3) := by decide +kernel
theorem dX0_hasSide_4 : decode cX0_hasSide 4 = .ok (.iload_n 1, 1) := by decide +kernel
theorem dX0_hasSide_5 : decode cX0_hasSide 5 = .ok (.iconst 2, 1) := by decide +kernel
theorem dX0_hasSide_6 : decode cX0_hasSide 6 = .ok (.aload_n 0, 1) := by decide +kernel
theorem dX0_hasSide_7 : decode cX0_hasSide 7 = .ok (.getfield 38, 3) := by decide +kernel
theorem dX0_hasSide_10 : decode cX0_hasSide 10 = .ok (.imul, 1) := by decide +kernel
theorem dX0_hasSide_11 : decode cX0_hasSide 11 = .ok (.if_icmp .ge 7, 3) := by decide +kernel
theorem dX0_hasSide_14 : decode cX0_hasSide 14 = .ok (.iconst 1, 1) := by decide +kernel
theorem dX0_hasSide_15 : decode cX0_hasSide 15 = .ok (.goto 4, 3) := by decide +kernel
theorem dX0_hasSide_18 : decode cX0_hasSide 18 = .ok (.iconst 0, 1) := by decide +kernel
theorem dX0_hasSide_19 : decode cX0_hasSide 19 = .ok (.ireturn, 1) := by decide +kernel
theorem dX0_appendNode_0 : decode cX0_appendNode 0 = .ok (.aload_n 0, 1) := by decide +kernel
theorem dX0_appendNode_1 : decode cX0_appendNode 1 = .ok (.getfield 34, 3) := by decide +kernel
theorem dX0_appendNode_4 : decode cX0_appendNode 4 = .ok (.bipush 8, 2) := by decide +kernel
theorem dX0_appendNode_6 : decode cX0_appendNode 6 = .ok (.if_icmp .lt 5, 3) := by decide +kernel
theorem dX0_appendNode_9 : decode cX0_appendNode 9 = .ok (.iconst (-1), 1) := by decide +kernel
theorem dX0_appendNode_10 : decode cX0_appendNode 10 = .ok (.ireturn, 1) := by decide +kernel
theorem dX0_appendNode_11 : decode cX0_appendNode 11 = .ok (.aload_n 0, 1) := by decide +kernel
theorem dX0_appendNode_12 : decode cX0_appendNode 12 = .ok (.getfield 9, 3) := by decide +kernel
theorem dX0_appendNode_15 : decode cX0_appendNode 15 = .ok (.aload_n 0, 1) := by decide +kernel
theorem dX0_appendNode_16 : decode cX0_appendNode 16 = .ok (.getfield 34, 3) := by decide +kernel
theorem dX0_appendNode_19 : decode cX0_appendNode 19 = .ok (.iload_n 1, 1) := by decide +kernel
theorem dX0_appendNode_20 : decode cX0_appendNode 20 = .ok (.bastore, 1) := by decide +kernel
theorem dX0_appendNode_21 : decode cX0_appendNode 21 = .ok (.aload_n 0, 1) := by decide +kernel
theorem dX0_appendNode_22 : decode cX0_appendNode 22 = .ok (.getfield 15, 3) := by decide +kernel
theorem dX0_appendNode_25 : decode cX0_appendNode 25 = .ok (.aload_n 0, 1) := by decide +kernel
theorem dX0_appendNode_26 : decode cX0_appendNode 26 = .ok (.getfield 34, 3) := by decide +kernel
theorem dX0_appendNode_29 : decode cX0_appendNode 29 = .ok (.iload_n 2, 1) := by decide +kernel
theorem dX0_appendNode_30 : decode cX0_appendNode 30 = .ok (.bastore, 1) := by decide +kernel
theorem dX0_appendNode_31 : decode cX0_appendNode 31 = .ok (.aload_n 0, 1) := by decide +kernel
theorem dX0_appendNode_32 : decode cX0_appendNode 32 = .ok (.dup, 1) := by decide +kernel
theorem dX0_appendNode_33 : decode cX0_appendNode 33 = .ok (.getfield 34, 3) := by decide +kernel
theorem dX0_appendNode_36 : decode cX0_appendNode 36 = .ok (.iconst 1, 1) := by decide +kernel
theorem dX0_appendNode_37 : decode cX0_appendNode 37 = .ok (.iadd, 1) := by decide +kernel
theorem dX0_appendNode_38 : decode cX0_appendNode 38 = .ok (.putfield 34, 3) := by decide +kernel
theorem dX0_appendNode_41 : decode cX0_appendNode 41 = .ok (.aload_n 0, 1) := by decide +kernel
theorem dX0_appendNode_42 : decode cX0_appendNode 42 = .ok (.getfield 34, 3) := by decide +kernel
theorem dX0_appendNode_45 : decode cX0_appendNode 45 = .ok (.iconst 1, 1) := by decide +kernel
theorem dX0_appendNode_46 : decode cX0_appendNode 46 = .ok (.isub, 1) := by decide +kernel
theorem dX0_appendNode_47 : decode cX0_appendNode 47 = .ok (.ireturn, 1) := by decide +kernel
theorem dX0_appendRoad_0 : decode cX0_appendRoad 0 = .ok (.aload_n 0, 1) := by decide +kernel
theorem dX0_appendRoad_1 : decode cX0_appendRoad 1 = .ok (.getfield 38, 3) := by decide +kernel
theorem dX0_appendRoad_4 : decode cX0_appendRoad 4 = .ok (.bipush 12, 2) := by decide +kernel
theorem dX0_appendRoad_6 : decode cX0_appendRoad 6 = .ok (.if_icmp .lt 5, 3) := by decide +kernel
theorem dX0_appendRoad_9 : decode cX0_appendRoad 9 = .ok (.iconst (-1), 1) := by decide +kernel
theorem dX0_appendRoad_10 : decode cX0_appendRoad 10 = .ok (.ireturn, 1) := by decide +kernel
theorem dX0_appendRoad_11 : decode cX0_appendRoad 11 = .ok (.aload_n 0, 1) := by decide +kernel
theorem dX0_appendRoad_12 : decode cX0_appendRoad 12 = .ok (.getfield 18, 3) := by decide +kernel
theorem dX0_appendRoad_15 : decode cX0_appendRoad 15 = .ok (.iconst 2, 1) := by decide +kernel
theorem dX0_appendRoad_16 : decode cX0_appendRoad 16 = .ok (.aload_n 0, 1) := by decide +kernel
theorem dX0_appendRoad_17 : decode cX0_appendRoad 17 = .ok (.getfield 38, 3) := by decide +kernel
theorem dX0_appendRoad_20 : decode cX0_appendRoad 20 = .ok (.imul, 1) := by decide +kernel
theorem dX0_appendRoad_21 : decode cX0_appendRoad 21 = .ok (.iload_n 1, 1) := by decide +kernel
theorem dX0_appendRoad_22 : decode cX0_appendRoad 22 = .ok (.iastore, 1) := by decide +kernel
theorem dX0_appendRoad_23 : decode cX0_appendRoad 23 = .ok (.aload_n 0, 1) := by decide +kernel
theorem dX0_appendRoad_24 : decode cX0_appendRoad 24 = .ok (.getfield 18, 3) := by decide +kernel
theorem dX0_appendRoad_27 : decode cX0_appendRoad 27 = .ok (.iconst 2, 1) := by decide +kernel
theorem dX0_appendRoad_28 : decode cX0_appendRoad 28 = .ok (.aload_n 0, 1) := by decide +kernel
theorem dX0_appendRoad_29 : decode cX0_appendRoad 29 = .ok (.getfield 38, 3) := by decide +kernel
theorem dX0_appendRoad_32 : decode cX0_appendRoad 32 = .ok (.imul, 1) := by decide +kernel
theorem dX0_appendRoad_33 : decode cX0_appendRoad 33 = .ok (.iconst 1, 1) := by decide +kernel
theorem dX0_appendRoad_34 : decode cX0_appendRoad 34 = .ok (.iadd, 1) := by decide +kernel
theorem dX0_appendRoad_35 : decode cX0_appendRoad 35 = .ok (.iload_n 2, 1) := by decide +kernel
theorem dX0_appendRoad_36 : decode cX0_appendRoad 36 = .ok (.iastore, 1) := by decide +kernel
theorem dX0_appendRoad_37 : decode cX0_appendRoad 37 = .ok (.aload_n 0, 1) := by decide +kernel
theorem dX0_appendRoad_38 : decode cX0_appendRoad 38 = .ok (.getfield 22, 3) := by decide +kernel
theorem dX0_appendRoad_41 : decode cX0_appendRoad 41 = .ok (.aload_n 0, 1) := by decide +kernel
theorem dX0_appendRoad_42 : decode cX0_appendRoad 42 = .ok (.getfield 38, 3) := by decide +kernel
theorem dX0_appendRoad_45 : decode cX0_appendRoad 45 = .ok (.iload_n 3, 1) := by decide +kernel
theorem dX0_appendRoad_46 : decode cX0_appendRoad 46 = .ok (.iastore, 1) := by decide +kernel
theorem dX0_appendRoad_47 : decode cX0_appendRoad 47 = .ok (.aload_n 0, 1) := by decide +kernel
theorem dX0_appendRoad_48 : decode cX0_appendRoad 48 = .ok (.getfield 25, 3) := by decide +kernel
theorem dX0_appendRoad_51 : decode cX0_appendRoad 51 = .ok (.aload_n 0, 1) := by decide +kernel
theorem dX0_appendRoad_52 : decode cX0_appendRoad 52 = .ok (.getfield 38, 3) := by decide +kernel
theorem dX0_appendRoad_55 : decode cX0_appendRoad 55 = .ok (.iload 4, 2) := by decide +kernel
theorem dX0_appendRoad_57 : decode cX0_appendRoad 57 = .ok (.iastore, 1) := by decide +kernel
theorem dX0_appendRoad_58 : decode cX0_appendRoad 58 = .ok (.aload_n 0, 1) := by decide +kernel
theorem dX0_appendRoad_59 : decode cX0_appendRoad 59 = .ok (.dup, 1) := by decide +kernel
theorem dX0_appendRoad_60 : decode cX0_appendRoad 60 = .ok (.getfield 38, 3) := by decide +kernel
theorem dX0_appendRoad_63 : decode cX0_appendRoad 63 = .ok (.iconst 1, 1) := by decide +kernel
theorem dX0_appendRoad_64 : decode cX0_appendRoad 64 = .ok (.iadd, 1) := by decide +kernel
theorem dX0_appendRoad_65 : decode cX0_appendRoad 65 = .ok (.putfield 38, 3) := by decide +kernel
theorem dX0_appendRoad_68 : decode cX0_appendRoad 68 = .ok (.aload_n 0, 1) := by decide +kernel
theorem dX0_appendRoad_69 : decode cX0_appendRoad 69 = .ok (.getfield 38, 3) := by decide +kernel
theorem dX0_appendRoad_72 : decode cX0_appendRoad 72 = .ok (.iconst 1, 1) := by decide +kernel
theorem dX0_appendRoad_73 : decode cX0_appendRoad 73 = .ok (.isub, 1) := by decide +kernel
theorem dX0_appendRoad_74 : decode cX0_appendRoad 74 = .ok (.ireturn, 1) := by decide +kernel
set_option maxRecDepth 20000 in
theorem ggX0_switchStore_X0_isStoreAt : GoodIn wsX0_switchStore wsX0_isStoreAt := goodIn_r _ [6, 1, 7, 8, 9, 5, 10, 11, 12, 13, 14, 15, 16, 17, 18, 19, 20] (by decide +kernel) (by decide +kernel)
set_option maxRecDepth 20000 in
theorem gX0_switchStore_X0_isStoreAt : GoodIn wsX0_switchStore (wsV RX0 41 RX0 yX0_isStoreAt wsX0_isStoreAt) := goodIn_app (goodIn_of _ (by decide +kernel)) ggX0_switchStore_X0_isStoreAt
set_option maxRecDepth 20000 in
theorem ggX0_switchStore_X0_hasNode : GoodIn wsX0_switchStore wsX0_hasNode := goodIn_r _ [10, 11, 12, 13, 14, 15, 16, 17, 18, 19, 20] (by decide +kernel) (by decide +kernel)
set_option maxRecDepth 20000 in
theorem gX0_switchStore_X0_hasNode : GoodIn wsX0_switchStore (wsV RX0 45 RX0 yX0_hasNode wsX0_hasNode) := goodIn_app (goodIn_of _ (by decide +kernel)) ggX0_switchStore_X0_hasNode
theorem dX0_switchStore_0 : decode cX0_switchStore 0 = .ok (.aload_n 0, 1) := by decide +kernel
theorem dX0_switchStore_1 : decode cX0_switchStore 1 = .ok (.iload_n 1, 1) := by decide +kernel
theorem dX0_switchStore_2 : decode cX0_switchStore 2 = .ok (.invokevirtual 41, 3) := by decide +kernel
theorem dX0_switchStore_5 : decode cX0_switchStore 5 = .ok (.istore_n 3, 1) := by decide +kernel
theorem dX0_switchStore_6 : decode cX0_switchStore 6 = .ok (.aload_n 0, 1) := by decide +kernel
theorem dX0_switchStore_7 : decode cX0_switchStore 7 = .ok (.iload_n 1, 1) := by decide +kernel
theorem dX0_switchStore_8 : decode cX0_switchStore 8 = .ok (.invokevirtual 45, 3) := by decide +kernel
theorem dX0_switchStore_11 : decode cX0_switchStore 11 = .ok (.ifCond .eq 10, 3) := by decide +kernel
theorem dX0_switchStore_14 : decode cX0_switchStore 14 = .ok (.aload_n 0, 1) := by decide +kernel
theorem dX0_switchStore_15 : decode cX0_switchStore 15 = .ok (.getfield 15, 3) := by decide +kernel
theorem dX0_switchStore_18 : decode cX0_switchStore 18 = .ok (.iload_n 1, 1) := by decide +kernel
theorem dX0_switchStore_19 : decode cX0_switchStore 19 = .ok (.iload_n 2, 1) := by decide +kernel
theorem dX0_switchStore_20 : decode cX0_switchStore 20 = .ok (.bastore, 1) := by decide +kernel
theorem dX0_switchStore_21 : decode cX0_switchStore 21 = .ok (.iload_n 3, 1) := by decide +kernel
theorem dX0_switchStore_22 : decode cX0_switchStore 22 = .ok (.ireturn, 1) := by decide +kernel
set_option maxRecDepth 20000 in
theorem ggX0_switchTurning_X0_isTurningAt : GoodIn wsX0_switchTurning wsX0_isTurningAt := goodIn_r _ [6, 1, 7, 8, 9, 5, 10, 11, 12, 13, 14, 15, 16, 17, 18, 19, 20] (by decide +kernel) (by decide +kernel)
set_option maxRecDepth 20000 in
theorem gX0_switchTurning_X0_isTurningAt : GoodIn wsX0_switchTurning (wsV RX0 48 RX0 yX0_isTurningAt wsX0_isTurningAt) := goodIn_app (goodIn_of _ (by decide +kernel)) ggX0_switchTurning_X0_isTurningAt
set_option maxRecDepth 20000 in
theorem ggX0_switchTurning_X0_hasNode : GoodIn wsX0_switchTurning wsX0_hasNode := goodIn_r _ [10, 11, 12, 13, 14, 15, 16, 17, 18, 19, 20] (by decide +kernel) (by decide +kernel)
set_option maxRecDepth 20000 in
theorem gX0_switchTurning_X0_hasNode : GoodIn wsX0_switchTurning (wsV RX0 45 RX0 yX0_hasNode wsX0_hasNode) := goodIn_app (goodIn_of _ (by decide +kernel)) ggX0_switchTurning_X0_hasNode
theorem dX0_switchTurning_0 : decode cX0_switchTurning 0 = .ok (.aload_n 0, 1) := by decide +kernel
theorem dX0_switchTurning_1 : decode cX0_switchTurning 1 = .ok (.iload_n 1, 1) := by decide +kernel
theorem dX0_switchTurning_2 : decode cX0_switchTurning 2 = .ok (.invokevirtual 48, 3) := by decide +kernel
theorem dX0_switchTurning_5 : decode cX0_switchTurning 5 = .ok (.istore_n 3, 1) := by decide +kernel
theorem dX0_switchTurning_6 : decode cX0_switchTurning 6 = .ok (.aload_n 0, 1) := by decide +kernel
theorem dX0_switchTurning_7 : decode cX0_switchTurning 7 = .ok (.iload_n 1, 1) := by decide +kernel
theorem dX0_switchTurning_8 : decode cX0_switchTurning 8 = .ok (.invokevirtual 45, 3) := by decide +kernel
theorem dX0_switchTurning_11 : decode cX0_switchTurning 11 = .ok (.ifCond .eq 10, 3) := by decide +kernel
theorem dX0_switchTurning_14 : decode cX0_switchTurning 14 = .ok (.aload_n 0, 1) := by decide +kernel
theorem dX0_switchTurning_15 : decode cX0_switchTurning 15 = .ok (.getfield 9, 3) := by decide +kernel
theorem dX0_switchTurning_18 : decode cX0_switchTurning 18 = .ok (.iload_n 1, 1) := by decide +kernel
theorem dX0_switchTurning_19 : decode cX0_switchTurning 19 = .ok (.iload_n 2, 1) := by decide +kernel
theorem dX0_switchTurning_20 : decode cX0_switchTurning 20 = .ok (.bastore, 1) := by decide +kernel
theorem dX0_switchTurning_21 : decode cX0_switchTurning 21 = .ok (.iload_n 3, 1) := by decide +kernel
theorem dX0_switchTurning_22 : decode cX0_switchTurning 22 = .ok (.ireturn, 1) := by decide +kernel
set_option maxRecDepth 20000 in
theorem ggX0_isStoreAt_X0_hasNode : GoodIn wsX0_isStoreAt wsX0_hasNode := goodIn_r _ [6, 7, 8, 9, 10, 11, 12, 13, 14, 15, 16] (by decide +kernel) (by decide +kernel)
set_option maxRecDepth 20000 in
theorem gX0_isStoreAt_X0_hasNode : GoodIn wsX0_isStoreAt (wsV RX0 45 RX0 yX0_hasNode wsX0_hasNode) := goodIn_app (goodIn_of _ (by decide +kernel)) ggX0_isStoreAt_X0_hasNode
theorem dX0_isStoreAt_0 : decode cX0_isStoreAt 0 = .ok (.aload_n 0, 1) := by decide +kernel
theorem dX0_isStoreAt_1 : decode cX0_isStoreAt 1 = .ok (.iload_n 1, 1) := by decide +kernel
theorem dX0_isStoreAt_2 : decode cX0_isStoreAt 2 = .ok (.invokevirtual 45, 3) := by decide +kernel
theorem dX0_isStoreAt_5 : decode cX0_isStoreAt 5 = .ok (.ifCond .eq 16, 3) := by decide +kernel
theorem dX0_isStoreAt_8 : decode cX0_isStoreAt 8 = .ok (.aload_n 0, 1) := by decide +kernel
theorem dX0_isStoreAt_9 : decode cX0_isStoreAt 9 = .ok (.getfield 15, 3) := by decide +kernel
theorem dX0_isStoreAt_12 : decode cX0_isStoreAt 12 = .ok (.iload_n 1, 1) := by decide +kernel
theorem dX0_isStoreAt_13 : decode cX0_isStoreAt 13 = .ok (.baload, 1) := by decide +kernel
theorem dX0_isStoreAt_14 : decode cX0_isStoreAt 14 = .ok (.ifCond .eq 7, 3) := by decide +kernel
theorem dX0_isStoreAt_17 : decode cX0_isStoreAt 17 = .ok (.iconst 1, 1) := by decide +kernel
theorem dX0_isStoreAt_18 : decode cX0_isStoreAt 18 = .ok (.goto 4, 3) := by decide +kernel
theorem dX0_isStoreAt_21 : decode cX0_isStoreAt 21 = .ok (.iconst 0, 1) := by decide +kernel
theorem dX0_isStoreAt_22 : decode cX0_isStoreAt 22 = .ok (.ireturn, 1) := by decide +kernel
set_option maxRecDepth 20000 in
theorem ggX0_isTurningAt_X0_hasNode : GoodIn wsX0_isTurningAt wsX0_hasNode := goodIn_r _ [6, 7, 8, 9, 10, 11, 12, 13, 14, 15, 16] (by decide +kernel) (by decide +kernel)
set_option maxRecDepth 20000 in
theorem gX0_isTurningAt_X0_hasNode : GoodIn wsX0_isTurningAt (wsV RX0 45 RX0 yX0_hasNode wsX0_hasNode) := goodIn_app (goodIn_of _ (by decide +kernel)) ggX0_isTurningAt_X0_hasNode
theorem dX0_isTurningAt_0 : decode cX0_isTurningAt 0 = .ok (.aload_n 0, 1) := by decide +kernel
theorem dX0_isTurningAt_1 : decode cX0_isTurningAt 1 = .ok (.iload_n 1, 1) := by decide +kernel
theorem dX0_isTurningAt_2 : decode cX0_isTurningAt 2 = .ok (.invokevirtual 45, 3) := by decide +kernel
theorem dX0_isTurningAt_5 : decode cX0_isTurningAt 5 = .ok (.ifCond .eq 16, 3) := by decide +kernel
theorem dX0_isTurningAt_8 : decode cX0_isTurningAt 8 = .ok (.aload_n 0, 1) := by decide +kernel
theorem dX0_isTurningAt_9 : decode cX0_isTurningAt 9 = .ok (.getfield 9, 3) := by decide +kernel
theorem dX0_isTurningAt_12 : decode cX0_isTurningAt 12 = .ok (.iload_n 1, 1) := by decide +kernel
theorem dX0_isTurningAt_13 : decode cX0_isTurningAt 13 = .ok (.baload, 1) := by decide +kernel
theorem dX0_isTurningAt_14 : decode cX0_isTurningAt 14 = .ok (.ifCond .eq 7, 3) := by decide +kernel
theorem dX0_isTurningAt_17 : decode cX0_isTurningAt 17 = .ok (.iconst 1, 1) := by decide +kernel
theorem dX0_isTurningAt_18 : decode cX0_isTurningAt 18 = .ok (.goto 4, 3) := by decide +kernel
theorem dX0_isTurningAt_21 : decode cX0_isTurningAt 21 = .ok (.iconst 0, 1) := by decide +kernel
theorem dX0_isTurningAt_22 : decode cX0_isTurningAt 22 = .ok (.ireturn, 1) := by decide +kernel
set_option maxRecDepth 20000 in
theorem ggX0_minutesOf_X0_hasRoad : GoodIn wsX0_minutesOf wsX0_hasRoad := goodIn_r _ [6, 7, 8, 9, 10, 11, 12, 13, 14, 15, 16] (by decide +kernel) (by decide +kernel)
set_option maxRecDepth 20000 in
theorem gX0_minutesOf_X0_hasRoad : GoodIn wsX0_minutesOf (wsV RX0 51 RX0 yX0_hasRoad wsX0_hasRoad) := goodIn_app (goodIn_of _ (by decide +kernel)) ggX0_minutesOf_X0_hasRoad
theorem dX0_minutesOf_0 : decode cX0_minutesOf 0 = .ok (.aload_n 0, 1) := by decide +kernel
theorem dX0_minutesOf_1 : decode cX0_minutesOf 1 = .ok (.iload_n 1, 1) := by decide +kernel
theorem dX0_minutesOf_2 : decode cX0_minutesOf 2 = .ok (.invokevirtual 51, 3) := by decide +kernel
theorem dX0_minutesOf_5 : decode cX0_minutesOf 5 = .ok (.ifCond .eq 12, 3) := by decide +kernel
theorem dX0_minutesOf_8 : decode cX0_minutesOf 8 = .ok (.aload_n 0, 1) := by decide +kernel
theorem dX0_minutesOf_9 : decode cX0_minutesOf 9 = .ok (.getfield 22, 3) := by decide +kernel
theorem dX0_minutesOf_12 : decode cX0_minutesOf 12 = .ok (.iload_n 1, 1) := by decide +kernel
theorem dX0_minutesOf_13 : decode cX0_minutesOf 13 = .ok (.iaload, 1) := by decide +kernel
theorem dX0_minutesOf_14 : decode cX0_minutesOf 14 = .ok (.goto 4, 3) := by decide +kernel
theorem dX0_minutesOf_17 : decode cX0_minutesOf 17 = .ok (.iconst 0, 1) := by decide +kernel
theorem dX0_minutesOf_18 : decode cX0_minutesOf 18 = .ok (.ireturn, 1) := by decide +kernel
set_option maxRecDepth 20000 in
theorem ggX0_priorityOf_X0_hasRoad : GoodIn wsX0_priorityOf wsX0_hasRoad := goodIn_r _ [6, 7, 8, 9, 10, 11, 12, 13, 14, 15, 16] (by decide +kernel) (by decide +kernel)
set_option maxRecDepth 20000 in
theorem gX0_priorityOf_X0_hasRoad : GoodIn wsX0_priorityOf (wsV RX0 51 RX0 yX0_hasRoad wsX0_hasRoad) := goodIn_app (goodIn_of _ (by decide +kernel)) ggX0_priorityOf_X0_hasRoad
theorem dX0_priorityOf_0 : decode cX0_priorityOf 0 = .ok (.aload_n 0, 1) := by decide +kernel
theorem dX0_priorityOf_1 : decode cX0_priorityOf 1 = .ok (.iload_n 1, 1) := by decide +kernel
theorem dX0_priorityOf_2 : decode cX0_priorityOf 2 = .ok (.invokevirtual 51, 3) := by decide +kernel
theorem dX0_priorityOf_5 : decode cX0_priorityOf 5 = .ok (.ifCond .eq 12, 3) := by decide +kernel
theorem dX0_priorityOf_8 : decode cX0_priorityOf 8 = .ok (.aload_n 0, 1) := by decide +kernel
theorem dX0_priorityOf_9 : decode cX0_priorityOf 9 = .ok (.getfield 25, 3) := by decide +kernel
theorem dX0_priorityOf_12 : decode cX0_priorityOf 12 = .ok (.iload_n 1, 1) := by decide +kernel
theorem dX0_priorityOf_13 : decode cX0_priorityOf 13 = .ok (.iaload, 1) := by decide +kernel
theorem dX0_priorityOf_14 : decode cX0_priorityOf 14 = .ok (.goto 4, 3) := by decide +kernel
theorem dX0_priorityOf_17 : decode cX0_priorityOf 17 = .ok (.iconst (-1), 1) := by decide +kernel
theorem dX0_priorityOf_18 : decode cX0_priorityOf 18 = .ok (.ireturn, 1) := by decide +kernel
set_option maxRecDepth 20000 in
theorem ggX0_startOf_X0_hasSide : GoodIn wsX0_startOf wsX0_hasSide := goodIn_r _ [6, 7, 8, 9, 10, 11, 12, 13, 14, 15, 16] (by decide +kernel) (by decide +kernel)
set_option maxRecDepth 20000 in
theorem gX0_startOf_X0_hasSide : GoodIn wsX0_startOf (wsV RX0 54 RX0 yX0_hasSide wsX0_hasSide) := goodIn_app (goodIn_of _ (by decide +kernel)) ggX0_startOf_X0_hasSide
theorem dX0_startOf_0 : decode cX0_startOf 0 = .ok (.aload_n 0, 1) := by decide +kernel
theorem dX0_startOf_1 : decode cX0_startOf 1 = .ok (.iload_n 1, 1) := by decide +kernel
theorem dX0_startOf_2 : decode cX0_startOf 2 = .ok (.invokevirtual 54, 3) := by decide +kernel
theorem dX0_startOf_5 : decode cX0_startOf 5 = .ok (.ifCond .eq 12, 3) := by decide +kernel
theorem dX0_startOf_8 : decode cX0_startOf 8 = .ok (.aload_n 0, 1) := by decide +kernel
theorem dX0_startOf_9 : decode cX0_startOf 9 = .ok (.getfield 18, 3) := by decide +kernel
theorem dX0_startOf_12 : decode cX0_startOf 12 = .ok (.iload_n 1, 1) := by decide +kernel
theorem dX0_startOf_13 : decode cX0_startOf 13 = .ok (.iaload, 1) := by decide +kernel
theorem dX0_startOf_14 : decode cX0_startOf 14 = .ok (.goto 4, 3) := by decide +kernel
theorem dX0_startOf_17 : decode cX0_startOf 17 = .ok (.iconst (-1), 1) := by decide +kernel
theorem dX0_startOf_18 : decode cX0_startOf 18 = .ok (.ireturn, 1) := by decide +kernel
set_option maxRecDepth 20000 in
theorem ggX0_endOf_X0_hasSide : GoodIn wsX0_endOf wsX0_hasSide := goodIn_r _ [6, 7, 8, 9, 10, 11, 12, 13, 14, 15, 16] (by decide +kernel) (by decide +kernel)
set_option maxRecDepth 20000 in
theorem gX0_endOf_X0_hasSide : GoodIn wsX0_endOf (wsV RX0 54 RX0 yX0_hasSide wsX0_hasSide) := goodIn_app (goodIn_of _ (by decide +kernel)) ggX0_endOf_X0_hasSide
theorem dX0_endOf_0 : decode cX0_endOf 0 = .ok (.aload_n 0, 1) := by decide +kernel
theorem dX0_endOf_1 : decode cX0_endOf 1 = .ok (.iload_n 1, 1) := by decide +kernel
theorem dX0_endOf_2 : decode cX0_endOf 2 = .ok (.invokevirtual 54, 3) := by decide +kernel
theorem dX0_endOf_5 : decode cX0_endOf 5 = .ok (.ifCond .eq 14, 3) := by decide +kernel
theorem dX0_endOf_8 : decode cX0_endOf 8 = .ok (.aload_n 0, 1) := by decide +kernel
theorem dX0_endOf_9 : decode cX0_endOf 9 = .ok (.getfield 18, 3) := by decide +kernel
theorem dX0_endOf_12 : decode cX0_endOf 12 = .ok (.iload_n 1, 1) := by decide +kernel
theorem dX0_endOf_13 : decode cX0_endOf 13 = .ok (.iconst 1, 1) := by decide +kernel
theorem dX0_endOf_14 : decode cX0_endOf 14 = .ok (.ixor, 1) := by decide +kernel
theorem dX0_endOf_15 : decode cX0_endOf 15 = .ok (.iaload, 1) := by decide +kernel
theorem dX0_endOf_16 : decode cX0_endOf 16 = .ok (.goto 4, 3) := by decide +kernel
theorem dX0_endOf_19 : decode cX0_endOf 19 = .ok (.iconst (-1), 1) := by decide +kernel
theorem dX0_endOf_20 : decode cX0_endOf 20 = .ok (.ireturn, 1) := by decide +kernel
set_option maxRecDepth 20000 in
theorem ggX0_snowOn_X0_hasSide : GoodIn wsX0_snowOn wsX0_hasSide := goodIn_r _ [6, 7, 8, 9, 10, 11, 12, 13, 14, 15, 16] (by decide +kernel) (by decide +kernel)
set_option maxRecDepth 20000 in
theorem gX0_snowOn_X0_hasSide : GoodIn wsX0_snowOn (wsV RX0 54 RX0 yX0_hasSide wsX0_hasSide) := goodIn_app (goodIn_of _ (by decide +kernel)) ggX0_snowOn_X0_hasSide
theorem dX0_snowOn_0 : decode cX0_snowOn 0 = .ok (.aload_n 0, 1) := by decide +kernel
theorem dX0_snowOn_1 : decode cX0_snowOn 1 = .ok (.iload_n 1, 1) := by decide +kernel
theorem dX0_snowOn_2 : decode cX0_snowOn 2 = .ok (.invokevirtual 54, 3) := by decide +kernel
theorem dX0_snowOn_5 : decode cX0_snowOn 5 = .ok (.ifCond .eq 12, 3) := by decide +kernel
theorem dX0_snowOn_8 : decode cX0_snowOn 8 = .ok (.aload_n 0, 1) := by decide +kernel
theorem dX0_snowOn_9 : decode cX0_snowOn 9 = .ok (.getfield 28, 3) := by decide +kernel
theorem dX0_snowOn_12 : decode cX0_snowOn 12 = .ok (.iload_n 1, 1) := by decide +kernel
theorem dX0_snowOn_13 : decode cX0_snowOn 13 = .ok (.iaload, 1) := by decide +kernel
theorem dX0_snowOn_14 : decode cX0_snowOn 14 = .ok (.goto 4, 3) := by decide +kernel
theorem dX0_snowOn_17 : decode cX0_snowOn 17 = .ok (.iconst 0, 1) := by decide +kernel
theorem dX0_snowOn_18 : decode cX0_snowOn 18 = .ok (.ireturn, 1) := by decide +kernel
set_option maxRecDepth 20000 in
theorem ggX0_hasSaltOn_X0_hasSide : GoodIn wsX0_hasSaltOn wsX0_hasSide := goodIn_r _ [6, 7, 8, 9, 10, 11, 12, 13, 14, 15, 16] (by decide +kernel) (by decide +kernel)
set_option maxRecDepth 20000 in
theorem gX0_hasSaltOn_X0_hasSide : GoodIn wsX0_hasSaltOn (wsV RX0 54 RX0 yX0_hasSide wsX0_hasSide) := goodIn_app (goodIn_of _ (by decide +kernel)) ggX0_hasSaltOn_X0_hasSide
theorem dX0_hasSaltOn_0 : decode cX0_hasSaltOn 0 = .ok (.aload_n 0, 1) := by decide +kernel
theorem dX0_hasSaltOn_1 : decode cX0_hasSaltOn 1 = .ok (.iload_n 1, 1) := by decide +kernel
theorem dX0_hasSaltOn_2 : decode cX0_hasSaltOn 2 = .ok (.invokevirtual 54, 3) := by decide +kernel
theorem dX0_hasSaltOn_5 : decode cX0_hasSaltOn 5 = .ok (.ifCond .eq 16, 3) := by decide +kernel
theorem dX0_hasSaltOn_8 : decode cX0_hasSaltOn 8 = .ok (.aload_n 0, 1) := by decide +kernel
theorem dX0_hasSaltOn_9 : decode cX0_hasSaltOn 9 = .ok (.getfield 31, 3) := by decide +kernel
theorem dX0_hasSaltOn_12 : decode cX0_hasSaltOn 12 = .ok (.iload_n 1, 1) := by decide +kernel
theorem dX0_hasSaltOn_13 : decode cX0_hasSaltOn 13 = .ok (.baload, 1) := by decide +kernel
theorem dX0_hasSaltOn_14 : decode cX0_hasSaltOn 14 = .ok (.ifCond .eq 7, 3) := by decide +kernel
theorem dX0_hasSaltOn_17 : decode cX0_hasSaltOn 17 = .ok (.iconst 1, 1) := by decide +kernel
theorem dX0_hasSaltOn_18 : decode cX0_hasSaltOn 18 = .ok (.goto 4, 3) := by decide +kernel
theorem dX0_hasSaltOn_21 : decode cX0_hasSaltOn 21 = .ok (.iconst 0, 1) := by decide +kernel
theorem dX0_hasSaltOn_22 : decode cX0_hasSaltOn 22 = .ok (.ireturn, 1) := by decide +kernel
set_option maxRecDepth 20000 in
theorem ggX0_sideFrom_X0_startOf : GoodIn wsX0_sideFrom wsX0_startOf := goodIn_r _ [5, 6, 7, 8, 9, 4, 10, 11, 12, 13, 14, 15, 16, 17, 18, 19, 20] (by decide +kernel) (by decide +kernel)
set_option maxRecDepth 20000 in
theorem gX0_sideFrom_X0_startOf : GoodIn wsX0_sideFrom (wsV RX0 57 RX0 yX0_startOf wsX0_startOf) := goodIn_app (goodIn_of _ (by decide +kernel)) ggX0_sideFrom_X0_startOf
theorem dX0_sideFrom_0 : decode cX0_sideFrom 0 = .ok (.aload_n 0, 1) := by decide +kernel
theorem dX0_sideFrom_1 : decode cX0_sideFrom 1 = .ok (.iconst 2, 1) := by decide +kernel
theorem dX0_sideFrom_2 : decode cX0_sideFrom 2 = .ok (.iload_n 2, 1) := by decide +kernel
theorem dX0_sideFrom_3 : decode cX0_sideFrom 3 = .ok (.imul, 1) := by decide +kernel
theorem dX0_sideFrom_4 : decode cX0_sideFrom 4 = .ok (.invokevirtual 57, 3) := by decide +kernel
theorem dX0_sideFrom_7 : decode cX0_sideFrom 7 = .ok (.iload_n 1, 1) := by decide +kernel
theorem dX0_sideFrom_8 : decode cX0_sideFrom 8 = .ok (.if_icmp .ne 7, 3) := by decide +kernel
theorem dX0_sideFrom_11 : decode cX0_sideFrom 11 = .ok (.iconst 2, 1) := by decide +kernel
theorem dX0_sideFrom_12 : decode cX0_sideFrom 12 = .ok (.iload_n 2, 1) := by decide +kernel
theorem dX0_sideFrom_13 : decode cX0_sideFrom 13 = .ok (.imul, 1) := by decide +kernel
theorem dX0_sideFrom_14 : decode cX0_sideFrom 14 = .ok (.ireturn, 1) := by decide +kernel
theorem dX0_sideFrom_15 : decode cX0_sideFrom 15 = .ok (.aload_n 0, 1) := by decide +kernel
theorem dX0_sideFrom_16 : decode cX0_sideFrom 16 = .ok (.iconst 2, 1) := by decide +kernel
theorem dX0_sideFrom_17 : decode cX0_sideFrom 17 = .ok (.iload_n 2, 1) := by decide +kernel
theorem dX0_sideFrom_18 : decode cX0_sideFrom 18 = .ok (.imul, 1) := by decide +kernel
theorem dX0_sideFrom_19 : decode cX0_sideFrom 19 = .ok (.iconst 1, 1) := by decide +kernel
theorem dX0_sideFrom_20 : decode cX0_sideFrom 20 = .ok (.iadd, 1) := by decide +kernel
theorem dX0_sideFrom_21 : decode cX0_sideFrom 21 = .ok (.invokevirtual 57, 3) := by decide +kernel
theorem dX0_sideFrom_24 : decode cX0_sideFrom 24 = .ok (.iload_n 1, 1) := by decide +kernel
theorem dX0_sideFrom_25 : decode cX0_sideFrom 25 = .ok (.if_icmp .ne 11, 3) := by decide +kernel
theorem dX0_sideFrom_28 : decode cX0_sideFrom 28 = .ok (.iconst 2, 1) := by decide +kernel
theorem dX0_sideFrom_29 : decode cX0_sideFrom 29 = .ok (.iload_n 2, 1) := by decide +kernel
theorem dX0_sideFrom_30 : decode cX0_sideFrom 30 = .ok (.imul, 1) := by decide +kernel
theorem dX0_sideFrom_31 : decode cX0_sideFrom 31 = .ok (.iconst 1, 1) := by decide +kernel
theorem dX0_sideFrom_32 : decode cX0_sideFrom 32 = .ok (.iadd, 1) := by decide +kernel
theorem dX0_sideFrom_33 : decode cX0_sideFrom 33 = .ok (.goto 4, 3) := by decide +kernel
theorem dX0_sideFrom_36 : decode cX0_sideFrom 36 = .ok (.iconst (-1), 1) := by decide +kernel
theorem dX0_sideFrom_37 : decode cX0_sideFrom 37 = .ok (.ireturn, 1) := by decide +kernel
set_option maxRecDepth 20000 in
theorem ggX0_canGoOn_X0_hasSide : GoodIn wsX0_canGoOn wsX0_hasSide := goodIn_r _ [6, 7, 18, 19, 20, 21, 22, 23, 24, 25, 26] (by decide +kernel) (by decide +kernel)
set_option maxRecDepth 20000 in
theorem gX0_canGoOn_X0_hasSide : GoodIn wsX0_canGoOn (wsV RX0 54 RX0 yX0_hasSide wsX0_hasSide) := goodIn_app (goodIn_of _ (by decide +kernel)) ggX0_canGoOn_X0_hasSide
set_option maxRecDepth 20000 in
theorem ggX0_canGoOn_X0_isTurningAt : GoodIn wsX0_canGoOn wsX0_isTurningAt := goodIn_r _ [11, 12, 13, 14, 15, 5, 16, 17, 18, 19, 20, 21, 22, 23, 24, 25, 26] (by decide +kernel) (by decide +kernel)
set_option maxRecDepth 20000 in
theorem gX0_canGoOn_X0_isTurningAt : GoodIn wsX0_canGoOn (wsV RX0 48 RX0 yX0_isTurningAt wsX0_isTurningAt) := goodIn_app (goodIn_of _ (by decide +kernel)) ggX0_canGoOn_X0_isTurningAt
theorem dX0_canGoOn_0 : decode cX0_canGoOn 0 = .ok (.aload_n 0, 1) := by decide +kernel
theorem dX0_canGoOn_1 : decode cX0_canGoOn 1 = .ok (.iload_n 3, 1) := by decide +kernel
theorem dX0_canGoOn_2 : decode cX0_canGoOn 2 = .ok (.invokevirtual 54, 3) := by decide +kernel
theorem dX0_canGoOn_5 : decode cX0_canGoOn 5 = .ok (.ifCond .eq 32, 3) := by decide +kernel
theorem dX0_canGoOn_8 : decode cX0_canGoOn 8 = .ok (.aload_n 0, 1) := by decide +kernel
theorem dX0_canGoOn_9 : decode cX0_canGoOn 9 = .ok (.getfield 18, 3) := by decide +kernel
theorem dX0_canGoOn_12 : decode cX0_canGoOn 12 = .ok (.iload_n 3, 1) := by decide +kernel
theorem dX0_canGoOn_13 : decode cX0_canGoOn 13 = .ok (.iaload, 1) := by decide +kernel
theorem dX0_canGoOn_14 : decode cX0_canGoOn 14 = .ok (.iload_n 1, 1) := by decide +kernel
theorem dX0_canGoOn_15 : decode cX0_canGoOn 15 = .ok (.if_icmp .ne 22, 3) := by decide +kernel
theorem dX0_canGoOn_18 : decode cX0_canGoOn 18 = .ok (.iload_n 3, 1) := by decide +kernel
theorem dX0_canGoOn_19 : decode cX0_canGoOn 19 = .ok (.iconst 2, 1) := by decide +kernel
theorem dX0_canGoOn_20 : decode cX0_canGoOn 20 = .ok (.idiv, 1) := by decide +kernel
theorem dX0_canGoOn_21 : decode cX0_canGoOn 21 = .ok (.iload_n 2, 1) := by decide +kernel
theorem dX0_canGoOn_22 : decode cX0_canGoOn 22 = .ok (.if_icmp .ne 11, 3) := by decide +kernel
theorem dX0_canGoOn_25 : decode cX0_canGoOn 25 = .ok (.aload_n 0, 1) := by decide +kernel
theorem dX0_canGoOn_26 : decode cX0_canGoOn 26 = .ok (.iload_n 1, 1) := by decide +kernel
theorem dX0_canGoOn_27 : decode cX0_canGoOn 27 = .ok (.invokevirtual 48, 3) := by decide +kernel
theorem dX0_canGoOn_30 : decode cX0_canGoOn 30 = .ok (.ifCond .eq 7, 3) := by decide +kernel
theorem dX0_canGoOn_33 : decode cX0_canGoOn 33 = .ok (.iconst 1, 1) := by decide +kernel
theorem dX0_canGoOn_34 : decode cX0_canGoOn 34 = .ok (.goto 4, 3) := by decide +kernel
theorem dX0_canGoOn_37 : decode cX0_canGoOn 37 = .ok (.iconst 0, 1) := by decide +kernel
theorem dX0_canGoOn_38 : decode cX0_canGoOn 38 = .ok (.ireturn, 1) := by decide +kernel
set_option maxRecDepth 20000 in
theorem ggX0_letItSnow_X0_sideCount : GoodIn wsX0_letItSnow wsX0_sideCount := goodIn_r _ [6, 7, 21, 22, 23, 24, 25, 26, 27, 28, 29] (by decide +kernel) (by decide +kernel)
set_option maxRecDepth 20000 in
theorem gX0_letItSnow_X0_sideCount : GoodIn wsX0_letItSnow (wsV RX0 61 RX0 yX0_sideCount wsX0_sideCount) := goodIn_app (goodIn_of _ (by decide +kernel)) ggX0_letItSnow_X0_sideCount
set_option maxRecDepth 20000 in
theorem ggX0_letItSnow_X0_heap : GoodIn wsX0_letItSnow wsX0_heap := goodIn_r _ [11, 12, 13, 14, 15, 16, 17, 18, 19, 5, 20, 7, 21, 22, 23, 24, 25, 26, 27, 28, 29] (by decide +kernel) (by decide +kernel)
set_option maxRecDepth 20000 in
theorem gX0_letItSnow_X0_heap : GoodIn wsX0_letItSnow (wsV RX0 65 RX0 yX0_heap wsX0_heap) := goodIn_app (goodIn_of _ (by decide +kernel)) ggX0_letItSnow_X0_heap
theorem dX0_letItSnow_0 : decode cX0_letItSnow 0 = .ok (.iconst 0, 1) := by decide +kernel
theorem dX0_letItSnow_1 : decode cX0_letItSnow 1 = .ok (.istore_n 2, 1) := by decide +kernel
theorem dX0_letItSnow_2 : decode cX0_letItSnow 2 = .ok (.iload_n 2, 1) := by decide +kernel
theorem dX0_letItSnow_3 : decode cX0_letItSnow 3 = .ok (.aload_n 0, 1) := by decide +kernel
theorem dX0_letItSnow_4 : decode cX0_letItSnow 4 = .ok (.invokevirtual 61, 3) := by decide +kernel
theorem dX0_letItSnow_7 : decode cX0_letItSnow 7 = .ok (.if_icmp .ge 37, 3) := by decide +kernel
theorem dX0_letItSnow_10 : decode cX0_letItSnow 10 = .ok (.aload_n 0, 1) := by decide +kernel
theorem dX0_letItSnow_11 : decode cX0_letItSnow 11 = .ok (.iload_n 2, 1) := by decide +kernel
theorem dX0_letItSnow_12 : decode cX0_letItSnow 12 = .ok (.aload_n 0, 1) := by decide +kernel
theorem dX0_letItSnow_13 : decode cX0_letItSnow 13 = .ok (.getfield 31, 3) := by decide +kernel
theorem dX0_letItSnow_16 : decode cX0_letItSnow 16 = .ok (.iload_n 2, 1) := by decide +kernel
theorem dX0_letItSnow_17 : decode cX0_letItSnow 17 = .ok (.baload, 1) := by decide +kernel
theorem dX0_letItSnow_18 : decode cX0_letItSnow 18 = .ok (.ifCond .eq 9, 3) := by decide +kernel
theorem dX0_letItSnow_21 : decode cX0_letItSnow 21 = .ok (.iload_n 1, 1) := by decide +kernel
theorem dX0_letItSnow_22 : decode cX0_letItSnow 22 = .ok (.iconst 2, 1) := by decide +kernel
theorem dX0_letItSnow_23 : decode cX0_letItSnow 23 = .ok (.idiv, 1) := by decide +kernel
theorem dX0_letItSnow_24 : decode cX0_letItSnow 24 = .ok (.goto 4, 3) := by decide +kernel
theorem dX0_letItSnow_27 : decode cX0_letItSnow 27 = .ok (.iload_n 1, 1) := by decide +kernel
theorem dX0_letItSnow_28 : decode cX0_letItSnow 28 = .ok (.invokevirtual 65, 3) := by decide +kernel
theorem dX0_letItSnow_31 : decode cX0_letItSnow 31 = .ok (.aload_n 0, 1) := by decide +kernel
theorem dX0_letItSnow_32 : decode cX0_letItSnow 32 = .ok (.getfield 31, 3) := by decide +kernel
theorem dX0_letItSnow_35 : decode cX0_letItSnow 35 = .ok (.iload_n 2, 1) := by decide +kernel
theorem dX0_letItSnow_36 : decode cX0_letItSnow 36 = .ok (.iconst 0, 1) := by decide +kernel
theorem dX0_letItSnow_37 : decode cX0_letItSnow 37 = .ok (.bastore, 1) := by decide +kernel
theorem dX0_letItSnow_38 : decode cX0_letItSnow 38 = .ok (.iinc 2 1, 3) := by decide +kernel
theorem dX0_letItSnow_41 : decode cX0_letItSnow 41 = .ok (.goto (-39), 3) := by decide +kernel
theorem dX0_letItSnow_44 : decode cX0_letItSnow 44 = .ok (.return_, 1) := by decide +kernel
set_option maxRecDepth 20000 in
theorem ggX0_putSaltOn_X0_hasSide : GoodIn wsX0_putSaltOn wsX0_hasSide := goodIn_r _ [6, 7, 8, 9, 10, 11, 12, 13, 14, 15, 16] (by decide +kernel) (by decide +kernel)
set_option maxRecDepth 20000 in
theorem gX0_putSaltOn_X0_hasSide : GoodIn wsX0_putSaltOn (wsV RX0 54 RX0 yX0_hasSide wsX0_hasSide) := goodIn_app (goodIn_of _ (by decide +kernel)) ggX0_putSaltOn_X0_hasSide
theorem dX0_putSaltOn_0 : decode cX0_putSaltOn 0 = .ok (.aload_n 0, 1) := by decide +kernel
theorem dX0_putSaltOn_1 : decode cX0_putSaltOn 1 = .ok (.iload_n 1, 1) := by decide +kernel
theorem dX0_putSaltOn_2 : decode cX0_putSaltOn 2 = .ok (.invokevirtual 54, 3) := by decide +kernel
theorem dX0_putSaltOn_5 : decode cX0_putSaltOn 5 = .ok (.ifCond .eq 10, 3) := by decide +kernel
theorem dX0_putSaltOn_8 : decode cX0_putSaltOn 8 = .ok (.aload_n 0, 1) := by decide +kernel
theorem dX0_putSaltOn_9 : decode cX0_putSaltOn 9 = .ok (.getfield 31, 3) := by decide +kernel
theorem dX0_putSaltOn_12 : decode cX0_putSaltOn 12 = .ok (.iload_n 1, 1) := by decide +kernel
theorem dX0_putSaltOn_13 : decode cX0_putSaltOn 13 = .ok (.iconst 1, 1) := by decide +kernel
theorem dX0_putSaltOn_14 : decode cX0_putSaltOn 14 = .ok (.bastore, 1) := by decide +kernel
theorem dX0_putSaltOn_15 : decode cX0_putSaltOn 15 = .ok (.return_, 1) := by decide +kernel
set_option maxRecDepth 20000 in
theorem ggX0_pushSnowFrom_X0_hasSide : GoodIn wsX0_pushSnowFrom wsX0_hasSide := goodIn_r _ [6, 7, 16, 17, 18, 19, 20, 21, 22, 23, 24] (by decide +kernel) (by decide +kernel)
set_option maxRecDepth 20000 in
theorem gX0_pushSnowFrom_X0_hasSide : GoodIn wsX0_pushSnowFrom (wsV RX0 54 RX0 yX0_hasSide wsX0_hasSide) := goodIn_app (goodIn_of _ (by decide +kernel)) ggX0_pushSnowFrom_X0_hasSide
set_option maxRecDepth 20000 in
theorem ggX0_pushSnowFrom_X0_heap : GoodIn wsX0_pushSnowFrom wsX0_heap := goodIn_r _ [11, 1, 12, 13, 14, 15, 2, 3, 4, 5, 6, 7, 16, 17, 18, 19, 20, 21, 22, 23, 24] (by decide +kernel) (by decide +kernel)
set_option maxRecDepth 20000 in
theorem gX0_pushSnowFrom_X0_heap : GoodIn wsX0_pushSnowFrom (wsV RX0 65 RX0 yX0_heap wsX0_heap) := goodIn_app (goodIn_of _ (by decide +kernel)) ggX0_pushSnowFrom_X0_heap
theorem dX0_pushSnowFrom_0 : decode cX0_pushSnowFrom 0 = .ok (.aload_n 0, 1) := by decide +kernel
theorem dX0_pushSnowFrom_1 : decode cX0_pushSnowFrom 1 = .ok (.iload_n 1, 1) := by decide +kernel
theorem dX0_pushSnowFrom_2 : decode cX0_pushSnowFrom 2 = .ok (.invokevirtual 54, 3) := by decide +kernel
theorem dX0_pushSnowFrom_5 : decode cX0_pushSnowFrom 5 = .ok (.ifCond .eq 25, 3) := by decide +kernel
theorem dX0_pushSnowFrom_8 : decode cX0_pushSnowFrom 8 = .ok (.aload_n 0, 1) := by decide +kernel
theorem dX0_pushSnowFrom_9 : decode cX0_pushSnowFrom 9 = .ok (.iload_n 1, 1) := by decide +kernel
theorem dX0_pushSnowFrom_10 : decode cX0_pushSnowFrom 10 = .ok (.iconst 1, 1) := by decide +kernel
theorem dX0_pushSnowFrom_11 : decode cX0_pushSnowFrom 11 = .ok (.ixor, 1) := by decide +kernel
theorem dX0_pushSnowFrom_12 : decode cX0_pushSnowFrom 12 = .ok (.aload_n 0, 1) := by decide +kernel
theorem dX0_pushSnowFrom_13 : decode cX0_pushSnowFrom 13 = .ok (.getfield 28, 3) := by decide +kernel
theorem dX0_pushSnowFrom_16 : decode cX0_pushSnowFrom 16 = .ok (.iload_n 1, 1) := by decide +kernel
theorem dX0_pushSnowFrom_17 : decode cX0_pushSnowFrom 17 = .ok (.iaload, 1) := by decide +kernel
theorem dX0_pushSnowFrom_18 : decode cX0_pushSnowFrom 18 = .ok (.iconst 2, 1) := by decide +kernel
theorem dX0_pushSnowFrom_19 : decode cX0_pushSnowFrom 19 = .ok (.idiv, 1) := by decide +kernel
theorem dX0_pushSnowFrom_20 : decode cX0_pushSnowFrom 20 = .ok (.invokevirtual 65, 3) := by decide +kernel
theorem dX0_pushSnowFrom_23 : decode cX0_pushSnowFrom 23 = .ok (.aload_n 0, 1) := by decide +kernel
theorem dX0_pushSnowFrom_24 : decode cX0_pushSnowFrom 24 = .ok (.getfield 28, 3) := by decide +kernel
theorem dX0_pushSnowFrom_27 : decode cX0_pushSnowFrom 27 = .ok (.iload_n 1, 1) := by decide +kernel
theorem dX0_pushSnowFrom_28 : decode cX0_pushSnowFrom 28 = .ok (.iconst 0, 1) := by decide +kernel
theorem dX0_pushSnowFrom_29 : decode cX0_pushSnowFrom 29 = .ok (.iastore, 1) := by decide +kernel
theorem dX0_pushSnowFrom_30 : decode cX0_pushSnowFrom 30 = .ok (.return_, 1) := by decide +kernel
set_option maxRecDepth 20000 in
theorem ggX0_heap_X0_hasSide : GoodIn wsX0_heap wsX0_hasSide := goodIn_r _ [10, 11, 12, 13, 14, 15, 16, 17, 18, 19, 20] (by decide +kernel) (by decide +kernel)
set_option maxRecDepth 20000 in
theorem gX0_heap_X0_hasSide : GoodIn wsX0_heap (wsV RX0 54 RX0 yX0_hasSide wsX0_hasSide) := goodIn_app (goodIn_of _ (by decide +kernel)) ggX0_heap_X0_hasSide
theorem dX0_heap_0 : decode cX0_heap 0 = .ok (.aload_n 0, 1) := by decide +kernel
theorem dX0_heap_1 : decode cX0_heap 1 = .ok (.iload_n 1, 1) := by decide +kernel
theorem dX0_heap_2 : decode cX0_heap 2 = .ok (.invokevirtual 54, 3) := by decide +kernel
theorem dX0_heap_5 : decode cX0_heap 5 = .ok (.ifCond .eq 23, 3) := by decide +kernel
theorem dX0_heap_8 : decode cX0_heap 8 = .ok (.aload_n 0, 1) := by decide +kernel
theorem dX0_heap_9 : decode cX0_heap 9 = .ok (.getfield 28, 3) := by decide +kernel
theorem dX0_heap_12 : decode cX0_heap 12 = .ok (.iload_n 1, 1) := by decide +kernel
theorem dX0_heap_13 : decode cX0_heap 13 = .ok (.sipush 999, 3) := by decide +kernel
theorem dX0_heap_16 : decode cX0_heap 16 = .ok (.aload_n 0, 1) := by decide +kernel
theorem dX0_heap_17 : decode cX0_heap 17 = .ok (.getfield 28, 3) := by decide +kernel
theorem dX0_heap_20 : decode cX0_heap 20 = .ok (.iload_n 1, 1) := by decide +kernel
theorem dX0_heap_21 : decode cX0_heap 21 = .ok (.iaload, 1) := by decide +kernel
theorem dX0_heap_22 : decode cX0_heap 22 = .ok (.iload_n 2, 1) := by decide +kernel
theorem dX0_heap_23 : decode cX0_heap 23 = .ok (.iadd, 1) := by decide +kernel
theorem dX0_heap_24 : decode cX0_heap 24 = .ok (.invokestatic 69, 3) := by decide +kernel
theorem dX0_heap_27 : decode cX0_heap 27 = .ok (.iastore, 1) := by decide +kernel
theorem dX0_heap_28 : decode cX0_heap 28 = .ok (.return_, 1) := by decide +kernel
set_option maxRecDepth 20000 in
theorem ggX0_deepestSnow_X0_sideCount : GoodIn wsX0_deepestSnow wsX0_sideCount := goodIn_r _ [10, 11, 12, 13, 14, 15, 16, 17, 18, 19, 20] (by decide +kernel) (by decide +kernel)
set_option maxRecDepth 20000 in
theorem gX0_deepestSnow_X0_sideCount : GoodIn wsX0_deepestSnow (wsV RX0 61 RX0 yX0_sideCount wsX0_sideCount) := goodIn_app (goodIn_of _ (by decide +kernel)) ggX0_deepestSnow_X0_sideCount
theorem dX0_deepestSnow_0 : decode cX0_deepestSnow 0 = .ok (.iconst 0, 1) := by decide +kernel
theorem dX0_deepestSnow_1 : decode cX0_deepestSnow 1 = .ok (.istore_n 1, 1) := by decide +kernel
theorem dX0_deepestSnow_2 : decode cX0_deepestSnow 2 = .ok (.iconst 0, 1) := by decide +kernel
theorem dX0_deepestSnow_3 : decode cX0_deepestSnow 3 = .ok (.istore_n 2, 1) := by decide +kernel
theorem dX0_deepestSnow_4 : decode cX0_deepestSnow 4 = .ok (.iload_n 2, 1) := by decide +kernel
theorem dX0_deepestSnow_5 : decode cX0_deepestSnow 5 = .ok (.aload_n 0, 1) := by decide +kernel
theorem dX0_deepestSnow_6 : decode cX0_deepestSnow 6 = .ok (.invokevirtual 61, 3) := by decide +kernel
theorem dX0_deepestSnow_9 : decode cX0_deepestSnow 9 = .ok (.if_icmp .ge 20, 3) := by decide +kernel
theorem dX0_deepestSnow_12 : decode cX0_deepestSnow 12 = .ok (.iload_n 1, 1) := by decide +kernel
theorem dX0_deepestSnow_13 : decode cX0_deepestSnow 13 = .ok (.aload_n 0, 1) := by decide +kernel
theorem dX0_deepestSnow_14 : decode cX0_deepestSnow 14 = .ok (.getfield 28, 3) := by decide +kernel
theorem dX0_deepestSnow_17 : decode cX0_deepestSnow 17 = .ok (.iload_n 2, 1) := by decide +kernel
theorem dX0_deepestSnow_18 : decode cX0_deepestSnow 18 = .ok (.iaload, 1) := by decide +kernel
theorem dX0_deepestSnow_19 : decode cX0_deepestSnow 19 = .ok (.invokestatic 75, 3) := by decide +kernel
theorem dX0_deepestSnow_22 : decode cX0_deepestSnow 22 = .ok (.istore_n 1, 1) := by decide +kernel
theorem dX0_deepestSnow_23 : decode cX0_deepestSnow 23 = .ok (.iinc 2 1, 3) := by decide +kernel
theorem dX0_deepestSnow_26 : decode cX0_deepestSnow 26 = .ok (.goto (-22), 3) := by decide +kernel
theorem dX0_deepestSnow_29 : decode cX0_deepestSnow 29 = .ok (.iload_n 1, 1) := by decide +kernel
theorem dX0_deepestSnow_30 : decode cX0_deepestSnow 30 = .ok (.ireturn, 1) := by decide +kernel
set_option maxRecDepth 20000 in
theorem ggX0_deepestSnowOf_X0_sideCount : GoodIn wsX0_deepestSnowOf wsX0_sideCount := goodIn_r _ [11, 12, 13, 14, 15, 16, 17, 18, 19, 20, 21] (by decide +kernel) (by decide +kernel)
set_option maxRecDepth 20000 in
theorem gX0_deepestSnowOf_X0_sideCount : GoodIn wsX0_deepestSnowOf (wsV RX0 61 RX0 yX0_sideCount wsX0_sideCount) := goodIn_app (goodIn_of _ (by decide +kernel)) ggX0_deepestSnowOf_X0_sideCount
theorem dX0_deepestSnowOf_0 : decode cX0_deepestSnowOf 0 = .ok (.iconst (-1), 1) := by decide +kernel
theorem dX0_deepestSnowOf_1 : decode cX0_deepestSnowOf 1 = .ok (.istore_n 2, 1) := by decide +kernel
theorem dX0_deepestSnowOf_2 : decode cX0_deepestSnowOf 2 = .ok (.iconst 0, 1) := by decide +kernel
theorem dX0_deepestSnowOf_3 : decode cX0_deepestSnowOf 3 = .ok (.istore_n 3, 1) := by decide +kernel
theorem dX0_deepestSnowOf_4 : decode cX0_deepestSnowOf 4 = .ok (.iload_n 3, 1) := by decide +kernel
theorem dX0_deepestSnowOf_5 : decode cX0_deepestSnowOf 5 = .ok (.aload_n 0, 1) := by decide +kernel
theorem dX0_deepestSnowOf_6 : decode cX0_deepestSnowOf 6 = .ok (.invokevirtual 61, 3) := by decide +kernel
theorem dX0_deepestSnowOf_9 : decode cX0_deepestSnowOf 9 = .ok (.if_icmp .ge 32, 3) := by decide +kernel
theorem dX0_deepestSnowOf_12 : decode cX0_deepestSnowOf 12 = .ok (.aload_n 0, 1) := by decide +kernel
theorem dX0_deepestSnowOf_13 : decode cX0_deepestSnowOf 13 = .ok (.getfield 25, 3) := by decide +kernel
theorem dX0_deepestSnowOf_16 : decode cX0_deepestSnowOf 16 = .ok (.iload_n 3, 1) := by decide +kernel
theorem dX0_deepestSnowOf_17 : decode cX0_deepestSnowOf 17 = .ok (.iconst 2, 1) := by decide +kernel
theorem dX0_deepestSnowOf_18 : decode cX0_deepestSnowOf 18 = .ok (.idiv, 1) := by decide +kernel
theorem dX0_deepestSnowOf_19 : decode cX0_deepestSnowOf 19 = .ok (.iaload, 1) := by decide +kernel
theorem dX0_deepestSnowOf_20 : decode cX0_deepestSnowOf 20 = .ok (.iload_n 1, 1) := by decide +kernel
theorem dX0_deepestSnowOf_21 : decode cX0_deepestSnowOf 21 = .ok (.if_icmp .ne 14, 3) := by decide +kernel
theorem dX0_deepestSnowOf_24 : decode cX0_deepestSnowOf 24 = .ok (.iload_n 2, 1) := by decide +kernel
theorem dX0_deepestSnowOf_25 : decode cX0_deepestSnowOf 25 = .ok (.aload_n 0, 1) := by decide +kernel
theorem dX0_deepestSnowOf_26 : decode cX0_deepestSnowOf 26 = .ok (.getfield 28, 3) := by decide +kernel
theorem dX0_deepestSnowOf_29 : decode cX0_deepestSnowOf 29 = .ok (.iload_n 3, 1) := by decide +kernel
theorem dX0_deepestSnowOf_30 : decode cX0_deepestSnowOf 30 = .ok (.iaload, 1) := by decide +kernel
theorem dX0_deepestSnowOf_31 : decode cX0_deepestSnowOf 31 = .ok (.invokestatic 75, 3) := by decide +kernel
theorem dX0_deepestSnowOf_34 : decode cX0_deepestSnowOf 34 = .ok (.istore_n 2, 1) := by decide +kernel
theorem dX0_deepestSnowOf_35 : decode cX0_deepestSnowOf 35 = .ok (.iinc 3 1, 3) := by decide +kernel
theorem dX0_deepestSnowOf_38 : decode cX0_deepestSnowOf 38 = .ok (.goto (-34), 3) := by decide +kernel
theorem dX0_deepestSnowOf_41 : decode cX0_deepestSnowOf 41 = .ok (.iload_n 2, 1) := by decide +kernel
theorem dX0_deepestSnowOf_42 : decode cX0_deepestSnowOf 42 = .ok (.ireturn, 1) := by decide +kernel
set_option maxRecDepth 20000 in
theorem ggX0_sidesWithoutSnow_X0_sideCount : GoodIn wsX0_sidesWithoutSnow wsX0_sideCount := goodIn_r _ [6, 7, 8, 9, 10, 11, 12, 13, 14, 15, 16] (by decide +kernel) (by decide +kernel)
set_option maxRecDepth 20000 in
theorem gX0_sidesWithoutSnow_X0_sideCount : GoodIn wsX0_sidesWithoutSnow (wsV RX0 61 RX0 yX0_sideCount wsX0_sideCount) := goodIn_app (goodIn_of _ (by decide +kernel)) ggX0_sidesWithoutSnow_X0_sideCount
theorem dX0_sidesWithoutSnow_0 : decode cX0_sidesWithoutSnow 0 = .ok (.iconst 0, 1) := by decide +kernel
theorem dX0_sidesWithoutSnow_1 : decode cX0_sidesWithoutSnow 1 = .ok (.istore_n 1, 1) := by decide +kernel
theorem dX0_sidesWithoutSnow_2 : decode cX0_sidesWithoutSnow 2 = .ok (.iconst 0, 1) := by decide +kernel
theorem dX0_sidesWithoutSnow_3 : decode cX0_sidesWithoutSnow 3 = .ok (.istore_n 2, 1) := by decide +kernel
theorem dX0_sidesWithoutSnow_4 : decode cX0_sidesWithoutSnow 4 = .ok (.iload_n 2, 1) := by decide +kernel
theorem dX0_sidesWithoutSnow_5 : decode cX0_sidesWithoutSnow 5 = .ok (.aload_n 0, 1) := by decide +kernel
theorem dX0_sidesWithoutSnow_6 : decode cX0_sidesWithoutSnow 6 = .ok (.invokevirtual 61, 3) := by decide +kernel
theorem dX0_sidesWithoutSnow_9 : decode cX0_sidesWithoutSnow 9 = .ok (.if_icmp .ge 21, 3) := by decide +kernel
theorem dX0_sidesWithoutSnow_12 : decode cX0_sidesWithoutSnow 12 = .ok (.aload_n 0, 1) := by decide +kernel
theorem dX0_sidesWithoutSnow_13 : decode cX0_sidesWithoutSnow 13 = .ok (.getfield 28, 3) := by decide +kernel
theorem dX0_sidesWithoutSnow_16 : decode cX0_sidesWithoutSnow 16 = .ok (.iload_n 2, 1) := by decide +kernel
theorem dX0_sidesWithoutSnow_17 : decode cX0_sidesWithoutSnow 17 = .ok (.iaload, 1) := by decide +kernel
theorem dX0_sidesWithoutSnow_18 : decode cX0_sidesWithoutSnow 18 = .ok (.ifCond .ne 6, 3) := by decide +kernel
theorem dX0_sidesWithoutSnow_21 : decode cX0_sidesWithoutSnow 21 = .ok (.iinc 1 1, 3) := by decide +kernel
theorem dX0_sidesWithoutSnow_24 : decode cX0_sidesWithoutSnow 24 = .ok (.iinc 2 1, 3) := by decide +kernel
theorem dX0_sidesWithoutSnow_27 : decode cX0_sidesWithoutSnow 27 = .ok (.goto (-23), 3) := by decide +kernel
theorem dX0_sidesWithoutSnow_30 : decode cX0_sidesWithoutSnow 30 = .ok (.iload_n 1, 1) := by decide +kernel
theorem dX0_sidesWithoutSnow_31 : decode cX0_sidesWithoutSnow 31 = .ok (.ireturn, 1) := by decide +kernel
set_option maxRecDepth 20000 in
theorem ggX0_nodesOpenFrom_X0_withNeighbours : GoodIn wsX0_nodesOpenFrom wsX0_withNeighbours := goodIn_r _ [6, 7, 8, 9, 10, 5, 11, 12, 13, 14, 15, 16, 17, 18, 19, 20, 21, 22, 23, 24, 25, 26, 27, 28, 29, 30, 31, 32, 33, 34] (by decide +kernel) (by decide +kernel)
set_option maxRecDepth 20000 in
theorem gX0_nodesOpenFrom_X0_withNeighbours : GoodIn wsX0_nodesOpenFrom (wsV RX0 78 RX0 yX0_withNeighbours wsX0_withNeighbours) := goodIn_app (goodIn_of _ (by decide +kernel)) ggX0_nodesOpenFrom_X0_withNeighbours
theorem dX0_nodesOpenFrom_0 : decode cX0_nodesOpenFrom 0 = .ok (.iconst 1, 1) := by decide +kernel
theorem dX0_nodesOpenFrom_1 : decode cX0_nodesOpenFrom 1 = .ok (.iload_n 1, 1) := by decide +kernel
theorem dX0_nodesOpenFrom_2 : decode cX0_nodesOpenFrom 2 = .ok (.ishl, 1) := by decide +kernel
theorem dX0_nodesOpenFrom_3 : decode cX0_nodesOpenFrom 3 = .ok (.istore_n 2, 1) := by decide +kernel
theorem dX0_nodesOpenFrom_4 : decode cX0_nodesOpenFrom 4 = .ok (.iconst 1, 1) := by decide +kernel
theorem dX0_nodesOpenFrom_5 : decode cX0_nodesOpenFrom 5 = .ok (.istore_n 3, 1) := by decide +kernel
theorem dX0_nodesOpenFrom_6 : decode cX0_nodesOpenFrom 6 = .ok (.iload_n 3, 1) := by decide +kernel
theorem dX0_nodesOpenFrom_7 : decode cX0_nodesOpenFrom 7 = .ok (.aload_n 0, 1) := by decide +kernel
theorem dX0_nodesOpenFrom_8 : decode cX0_nodesOpenFrom 8 = .ok (.getfield 34, 3) := by decide +kernel
theorem dX0_nodesOpenFrom_11 : decode cX0_nodesOpenFrom 11 = .ok (.if_icmp .ge 15, 3) := by decide +kernel
theorem dX0_nodesOpenFrom_14 : decode cX0_nodesOpenFrom 14 = .ok (.aload_n 0, 1) := by decide +kernel
theorem dX0_nodesOpenFrom_15 : decode cX0_nodesOpenFrom 15 = .ok (.iload_n 2, 1) := by decide +kernel
theorem dX0_nodesOpenFrom_16 : decode cX0_nodesOpenFrom 16 = .ok (.invokevirtual 78, 3) := by decide +kernel
theorem dX0_nodesOpenFrom_19 : decode cX0_nodesOpenFrom 19 = .ok (.istore_n 2, 1) := by decide +kernel
theorem dX0_nodesOpenFrom_20 : decode cX0_nodesOpenFrom 20 = .ok (.iinc 3 1, 3) := by decide +kernel
theorem dX0_nodesOpenFrom_23 : decode cX0_nodesOpenFrom 23 = .ok (.goto (-17), 3) := by decide +kernel
theorem dX0_nodesOpenFrom_26 : decode cX0_nodesOpenFrom 26 = .ok (.iload_n 2, 1) := by decide +kernel
theorem dX0_nodesOpenFrom_27 : decode cX0_nodesOpenFrom 27 = .ok (.ireturn, 1) := by decide +kernel
set_option maxRecDepth 20000 in
theorem ggX0_withNeighbours_X0_sideCount : GoodIn wsX0_withNeighbours wsX0_sideCount := goodIn_r _ [6, 7, 21, 22, 23, 24, 25, 26, 27, 28, 29] (by decide +kernel) (by decide +kernel)
set_option maxRecDepth 20000 in
theorem gX0_withNeighbours_X0_sideCount : GoodIn wsX0_withNeighbours (wsV RX0 61 RX0 yX0_sideCount wsX0_sideCount) := goodIn_app (goodIn_of _ (by decide +kernel)) ggX0_withNeighbours_X0_sideCount
set_option maxRecDepth 20000 in
theorem ggX0_withNeighbours_X0_startOf : GoodIn wsX0_withNeighbours wsX0_startOf := goodIn_r _ [11, 12, 13, 14, 15, 5, 16, 7, 21, 22, 23, 24, 25, 26, 27, 28, 29] (by decide +kernel) (by decide +kernel)
set_option maxRecDepth 20000 in
theorem gX0_withNeighbours_X0_startOf : GoodIn wsX0_withNeighbours (wsV RX0 57 RX0 yX0_startOf wsX0_startOf) := goodIn_app (goodIn_of _ (by decide +kernel)) ggX0_withNeighbours_X0_startOf
set_option maxRecDepth 20000 in
theorem ggX0_withNeighbours_X0_endOf : GoodIn wsX0_withNeighbours wsX0_endOf := goodIn_r _ [20, 12, 13, 14, 15, 5, 16, 7, 21, 22, 23, 24, 25, 26, 27, 28, 29] (by decide +kernel) (by decide +kernel)
set_option maxRecDepth 20000 in
theorem gX0_withNeighbours_X0_endOf : GoodIn wsX0_withNeighbours (wsV RX0 81 RX0 yX0_endOf wsX0_endOf) := goodIn_app (goodIn_of _ (by decide +kernel)) ggX0_withNeighbours_X0_endOf
theorem dX0_withNeighbours_0 : decode cX0_withNeighbours 0 = .ok (.iload_n 1, 1) := by decide +kernel
theorem dX0_withNeighbours_1 : decode cX0_withNeighbours 1 = .ok (.istore_n 2, 1) := by decide +kernel
theorem dX0_withNeighbours_2 : decode cX0_withNeighbours 2 = .ok (.iconst 0, 1) := by decide +kernel
theorem dX0_withNeighbours_3 : decode cX0_withNeighbours 3 = .ok (.istore_n 3, 1) := by decide +kernel
theorem dX0_withNeighbours_4 : decode cX0_withNeighbours 4 = .ok (.iload_n 3, 1) := by decide +kernel
theorem dX0_withNeighbours_5 : decode cX0_withNeighbours 5 = .ok (.aload_n 0, 1) := by decide +kernel
theorem dX0_withNeighbours_6 : decode cX0_withNeighbours 6 = .ok (.invokevirtual 61, 3) := by decide +kernel
theorem dX0_withNeighbours_9 : decode cX0_withNeighbours 9 = .ok (.if_icmp .ge 44, 3) := by decide +kernel
theorem dX0_withNeighbours_12 : decode cX0_withNeighbours 12 = .ok (.aload_n 0, 1) := by decide +kernel
theorem dX0_withNeighbours_13 : decode cX0_withNeighbours 13 = .ok (.getfield 28, 3) := by decide +kernel
theorem dX0_withNeighbours_16 : decode cX0_withNeighbours 16 = .ok (.iload_n 3, 1) := by decide +kernel
theorem dX0_withNeighbours_17 : decode cX0_withNeighbours 17 = .ok (.iaload, 1) := by decide +kernel
theorem dX0_withNeighbours_18 : decode cX0_withNeighbours 18 = .ok (.sipush 300, 3) := by decide +kernel
theorem dX0_withNeighbours_21 : decode cX0_withNeighbours 21 = .ok (.if_icmp .ge 26, 3) := by decide +kernel
theorem dX0_withNeighbours_24 : decode cX0_withNeighbours 24 = .ok (.iload_n 2, 1) := by decide +kernel
theorem dX0_withNeighbours_25 : decode cX0_withNeighbours 25 = .ok (.aload_n 0, 1) := by decide +kernel
theorem dX0_withNeighbours_26 : decode cX0_withNeighbours 26 = .ok (.iload_n 3, 1) := by decide +kernel
theorem dX0_withNeighbours_27 : decode cX0_withNeighbours 27 = .ok (.invokevirtual 57, 3) := by decide +kernel
theorem dX0_withNeighbours_30 : decode cX0_withNeighbours 30 = .ok (.ishr, 1) := by decide +kernel
theorem dX0_withNeighbours_31 : decode cX0_withNeighbours 31 = .ok (.iconst 1, 1) := by decide +kernel
theorem dX0_withNeighbours_32 : decode cX0_withNeighbours 32 = .ok (.iand, 1) := by decide +kernel
theorem dX0_withNeighbours_33 : decode cX0_withNeighbours 33 = .ok (.iconst 1, 1) := by decide +kernel
theorem dX0_withNeighbours_34 : decode cX0_withNeighbours 34 = .ok (.if_icmp .ne 13, 3) := by decide +kernel
theorem dX0_withNeighbours_37 : decode cX0_withNeighbours 37 = .ok (.iload_n 2, 1) := by decide +kernel
theorem dX0_withNeighbours_38 : decode cX0_withNeighbours 38 = .ok (.iconst 1, 1) := by decide +kernel
theorem dX0_withNeighbours_39 : decode cX0_withNeighbours 39 = .ok (.aload_n 0, 1) := by decide +kernel
theorem dX0_withNeighbours_40 : decode cX0_withNeighbours 40 = .ok (.iload_n 3, 1) := by decide +kernel
theorem dX0_withNeighbours_41 : decode cX0_withNeighbours 41 = .ok (.invokevirtual 81, 3) := by decide +kernel
theorem dX0_withNeighbours_44 : decode cX0_withNeighbours 44 = .ok (.ishl, 1) := by decide +kernel
theorem dX0_withNeighbours_45 : decode cX0_withNeighbours 45 = .ok (.ior, 1) := by decide +kernel
theorem dX0_withNeighbours_46 : decode cX0_withNeighbours 46 = .ok (.istore_n 2, 1) := by decide +kernel
theorem dX0_withNeighbours_47 : decode cX0_withNeighbours 47 = .ok (.iinc 3 1, 3) := by decide +kernel
theorem dX0_withNeighbours_50 : decode cX0_withNeighbours 50 = .ok (.goto (-46), 3) := by decide +kernel
theorem dX0_withNeighbours_53 : decode cX0_withNeighbours 53 = .ok (.iload_n 2, 1) := by decide +kernel
theorem dX0_withNeighbours_54 : decode cX0_withNeighbours 54 = .ok (.ireturn, 1) := by decide +kernel
set_option maxRecDepth 20000 in
theorem ggX0_addTo_X0_sideCount : GoodIn wsX0_addTo wsX0_sideCount := goodIn_r _ [10, 5, 25, 26, 27, 28, 29, 30, 31, 32, 33] (by decide +kernel) (by decide +kernel)
set_option maxRecDepth 20000 in
theorem gX0_addTo_X0_sideCount : GoodIn wsX0_addTo (wsV RX0 61 RX0 yX0_sideCount wsX0_sideCount) := goodIn_app (goodIn_of _ (by decide +kernel)) ggX0_addTo_X0_sideCount
set_option maxRecDepth 20000 in
theorem ggX0_addTo_X0_snowOn : GoodIn wsX0_addTo wsX0_snowOn := goodIn_r _ [14, 15, 16, 17, 18, 9, 19, 5, 25, 26, 27, 28, 29, 30, 31, 32, 33] (by decide +kernel) (by decide +kernel)
set_option maxRecDepth 20000 in
theorem gX0_addTo_X0_snowOn : GoodIn wsX0_addTo (wsV RX0 86 RX0 yX0_snowOn wsX0_snowOn) := goodIn_app (goodIn_of _ (by decide +kernel)) ggX0_addTo_X0_snowOn
set_option maxRecDepth 20000 in
theorem ggX0_addTo_X0_hasSaltOn : GoodIn wsX0_addTo wsX0_hasSaltOn := goodIn_r _ [23, 24, 16, 17, 18, 9, 19, 5, 25, 26, 27, 28, 29, 30, 31, 32, 33] (by decide +kernel) (by decide +kernel)
set_option maxRecDepth 20000 in
theorem gX0_addTo_X0_hasSaltOn : GoodIn wsX0_addTo (wsV RX0 89 RX0 yX0_hasSaltOn wsX0_hasSaltOn) := goodIn_app (goodIn_of _ (by decide +kernel)) ggX0_addTo_X0_hasSaltOn
theorem dX0_addTo_0 : decode cX0_addTo 0 = .ok (.lload_n 1, 1) := by decide +kernel
theorem dX0_addTo_1 : decode cX0_addTo 1 = .ok (.ldc2_w 84, 3) := by decide +kernel
theorem dX0_addTo_4 : decode cX0_addTo 4 = .ok (.lmul, 1) := by decide +kernel
theorem dX0_addTo_5 : decode cX0_addTo 5 = .ok (.aload_n 0, 1) := by decide +kernel
theorem dX0_addTo_6 : decode cX0_addTo 6 = .ok (.getfield 34, 3) := by decide +kernel
theorem dX0_addTo_9 : decode cX0_addTo 9 = .ok (.i2l, 1) := by decide +kernel
theorem dX0_addTo_10 : decode cX0_addTo 10 = .ok (.ladd, 1) := by decide +kernel
theorem dX0_addTo_11 : decode cX0_addTo 11 = .ok (.lstore_n 3, 1) := by decide +kernel
theorem dX0_addTo_12 : decode cX0_addTo 12 = .ok (.iconst 0, 1) := by decide +kernel
theorem dX0_addTo_13 : decode cX0_addTo 13 = .ok (.istore 5, 2) := by decide +kernel
theorem dX0_addTo_15 : decode cX0_addTo 15 = .ok (.iload 5, 2) := by decide +kernel
theorem dX0_addTo_17 : decode cX0_addTo 17 = .ok (.aload_n 0, 1) := by decide +kernel
theorem dX0_addTo_18 : decode cX0_addTo 18 = .ok (.getfield 34, 3) := by decide +kernel
theorem dX0_addTo_21 : decode cX0_addTo 21 = .ok (.if_icmp .ge 49, 3) := by decide +kernel
theorem dX0_addTo_24 : decode cX0_addTo 24 = .ok (.lload_n 3, 1) := by decide +kernel
theorem dX0_addTo_25 : decode cX0_addTo 25 = .ok (.ldc2_w 84, 3) := by decide +kernel
theorem dX0_addTo_28 : decode cX0_addTo 28 = .ok (.lmul, 1) := by decide +kernel
theorem dX0_addTo_29 : decode cX0_addTo 29 = .ok (.aload_n 0, 1) := by decide +kernel
theorem dX0_addTo_30 : decode cX0_addTo 30 = .ok (.getfield 9, 3) := by decide +kernel
theorem dX0_addTo_33 : decode cX0_addTo 33 = .ok (.iload 5, 2) := by decide +kernel
theorem dX0_addTo_35 : decode cX0_addTo 35 = .ok (.baload, 1) := by decide +kernel
theorem dX0_addTo_36 : decode cX0_addTo 36 = .ok (.ifCond .eq 7, 3) := by decide +kernel
theorem dX0_addTo_39 : decode cX0_addTo 39 = .ok (.iconst 1, 1) := by decide +kernel
theorem dX0_addTo_40 : decode cX0_addTo 40 = .ok (.goto 4, 3) := by decide +kernel
theorem dX0_addTo_43 : decode cX0_addTo 43 = .ok (.iconst 0, 1) := by decide +kernel
theorem dX0_addTo_44 : decode cX0_addTo 44 = .ok (.i2l, 1) := by decide +kernel
theorem dX0_addTo_45 : decode cX0_addTo 45 = .ok (.ladd, 1) := by decide +kernel
theorem dX0_addTo_46 : decode cX0_addTo 46 = .ok (.aload_n 0, 1) := by decide +kernel
theorem dX0_addTo_47 : decode cX0_addTo 47 = .ok (.getfield 15, 3) := by decide +kernel
theorem dX0_addTo_50 : decode cX0_addTo 50 = .ok (.iload 5, 2) := by decide +kernel
theorem dX0_addTo_52 : decode cX0_addTo 52 = .ok (.baload, 1) := by decide +kernel
theorem dX0_addTo_53 : decode cX0_addTo 53 = .ok (.ifCond .eq 7, 3) := by decide +kernel
theorem dX0_addTo_56 : decode cX0_addTo 56 = .ok (.iconst 2, 1) := by decide +kernel
theorem dX0_addTo_57 : decode cX0_addTo 57 = .ok (.goto 4, 3) := by decide +kernel
theorem dX0_addTo_60 : decode cX0_addTo 60 = .ok (.iconst 0, 1) := by decide +kernel
theorem dX0_addTo_61 : decode cX0_addTo 61 = .ok (.i2l, 1) := by decide +kernel
theorem dX0_addTo_62 : decode cX0_addTo 62 = .ok (.ladd, 1) := by decide +kernel
theorem dX0_addTo_63 : decode cX0_addTo 63 = .ok (.lstore_n 3, 1) := by decide +kernel
theorem dX0_addTo_64 : decode cX0_addTo 64 = .ok (.iinc 5 1, 3) := by decide +kernel
theorem dX0_addTo_67 : decode cX0_addTo 67 = .ok (.goto (-52), 3) := by decide +kernel
theorem dX0_addTo_70 : decode cX0_addTo 70 = .ok (.lload_n 3, 1) := by decide +kernel
theorem dX0_addTo_71 : decode cX0_addTo 71 = .ok (.ldc2_w 84, 3) := by decide +kernel
theorem dX0_addTo_74 : decode cX0_addTo 74 = .ok (.lmul, 1) := by decide +kernel
theorem dX0_addTo_75 : decode cX0_addTo 75 = .ok (.aload_n 0, 1) := by decide +kernel
theorem dX0_addTo_76 : decode cX0_addTo 76 = .ok (.getfield 38, 3) := by decide +kernel
theorem dX0_addTo_79 : decode cX0_addTo 79 = .ok (.i2l, 1) := by decide +kernel
theorem dX0_addTo_80 : decode cX0_addTo 80 = .ok (.ladd, 1) := by decide +kernel
theorem dX0_addTo_81 : decode cX0_addTo 81 = .ok (.lstore_n 3, 1) := by decide +kernel
theorem dX0_addTo_82 : decode cX0_addTo 82 = .ok (.iconst 0, 1) := by decide +kernel
theorem dX0_addTo_83 : decode cX0_addTo 83 = .ok (.istore 5, 2) := by decide +kernel
theorem dX0_addTo_85 : decode cX0_addTo 85 = .ok (.iload 5, 2) := by decide +kernel
theorem dX0_addTo_87 : decode cX0_addTo 87 = .ok (.aload_n 0, 1) := by decide +kernel
theorem dX0_addTo_88 : decode cX0_addTo 88 = .ok (.invokevirtual 61, 3) := by decide +kernel
theorem dX0_addTo_91 : decode cX0_addTo 91 = .ok (.if_icmp .ge 79, 3) := by decide +kernel
theorem dX0_addTo_94 : decode cX0_addTo 94 = .ok (.lload_n 3, 1) := by decide +kernel
theorem dX0_addTo_95 : decode cX0_addTo 95 = .ok (.ldc2_w 84, 3) := by decide +kernel
theorem dX0_addTo_98 : decode cX0_addTo 98 = .ok (.lmul, 1) := by decide +kernel
theorem dX0_addTo_99 : decode cX0_addTo 99 = .ok (.aload_n 0, 1) := by decide +kernel
theorem dX0_addTo_100 : decode cX0_addTo 100 = .ok (.iload 5, 2) := by decide +kernel
theorem dX0_addTo_102 : decode cX0_addTo 102 = .ok (.invokevirtual 86, 3) := by decide +kernel
theorem dX0_addTo_105 : decode cX0_addTo 105 = .ok (.i2l, 1) := by decide +kernel
theorem dX0_addTo_106 : decode cX0_addTo 106 = .ok (.ladd, 1) := by decide +kernel
theorem dX0_addTo_107 : decode cX0_addTo 107 = .ok (.lstore_n 3, 1) := by decide +kernel
theorem dX0_addTo_108 : decode cX0_addTo 108 = .ok (.lload_n 3, 1) := by decide +kernel
theorem dX0_addTo_109 : decode cX0_addTo 109 = .ok (.ldc2_w 84, 3) := by decide +kernel
theorem dX0_addTo_112 : decode cX0_addTo 112 = .ok (.lmul, 1) := by decide +kernel
theorem dX0_addTo_113 : decode cX0_addTo 113 = .ok (.aload_n 0, 1) := by decide +kernel
theorem dX0_addTo_114 : decode cX0_addTo 114 = .ok (.iload 5, 2) := by decide +kernel
theorem dX0_addTo_116 : decode cX0_addTo 116 = .ok (.iconst 1, 1) := by decide +kernel
theorem dX0_addTo_117 : decode cX0_addTo 117 = .ok (.iadd, 1) := by decide +kernel
theorem dX0_addTo_118 : decode cX0_addTo 118 = .ok (.invokevirtual 86, 3) := by decide +kernel
theorem dX0_addTo_121 : decode cX0_addTo 121 = .ok (.i2l, 1) := by decide +kernel
theorem dX0_addTo_122 : decode cX0_addTo 122 = .ok (.ladd, 1) := by decide +kernel
theorem dX0_addTo_123 : decode cX0_addTo 123 = .ok (.lstore_n 3, 1) := by decide +kernel
theorem dX0_addTo_124 : decode cX0_addTo 124 = .ok (.lload_n 3, 1) := by decide +kernel
theorem dX0_addTo_125 : decode cX0_addTo 125 = .ok (.ldc2_w 84, 3) := by decide +kernel
theorem dX0_addTo_128 : decode cX0_addTo 128 = .ok (.lmul, 1) := by decide +kernel
theorem dX0_addTo_129 : decode cX0_addTo 129 = .ok (.aload_n 0, 1) := by decide +kernel
theorem dX0_addTo_130 : decode cX0_addTo 130 = .ok (.iload 5, 2) := by decide +kernel
theorem dX0_addTo_132 : decode cX0_addTo 132 = .ok (.invokevirtual 89, 3) := by decide +kernel
theorem dX0_addTo_135 : decode cX0_addTo 135 = .ok (.ifCond .eq 7, 3) := by decide +kernel
theorem dX0_addTo_138 : decode cX0_addTo 138 = .ok (.iconst 1, 1) := by decide +kernel
theorem dX0_addTo_139 : decode cX0_addTo 139 = .ok (.goto 4, 3) := by decide +kernel
theorem dX0_addTo_142 : decode cX0_addTo 142 = .ok (.iconst 0, 1) := by decide +kernel
theorem dX0_addTo_143 : decode cX0_addTo 143 = .ok (.i2l, 1) := by decide +kernel
theorem dX0_addTo_144 : decode cX0_addTo 144 = .ok (.ladd, 1) := by decide +kernel
theorem dX0_addTo_145 : decode cX0_addTo 145 = .ok (.aload_n 0, 1) := by decide +kernel
theorem dX0_addTo_146 : decode cX0_addTo 146 = .ok (.iload 5, 2) := by decide +kernel
theorem dX0_addTo_148 : decode cX0_addTo 148 = .ok (.iconst 1, 1) := by decide +kernel
theorem dX0_addTo_149 : decode cX0_addTo 149 = .ok (.iadd, 1) := by decide +kernel
theorem dX0_addTo_150 : decode cX0_addTo 150 = .ok (.invokevirtual 89, 3) := by decide +kernel
theorem dX0_addTo_153 : decode cX0_addTo 153 = .ok (.ifCond .eq 7, 3) := by decide +kernel
theorem dX0_addTo_156 : decode cX0_addTo 156 = .ok (.iconst 2, 1) := by decide +kernel
theorem dX0_addTo_157 : decode cX0_addTo 157 = .ok (.goto 4, 3) := by decide +kernel
theorem dX0_addTo_160 : decode cX0_addTo 160 = .ok (.iconst 0, 1) := by decide +kernel
theorem dX0_addTo_161 : decode cX0_addTo 161 = .ok (.i2l, 1) := by decide +kernel
theorem dX0_addTo_162 : decode cX0_addTo 162 = .ok (.ladd, 1) := by decide +kernel
theorem dX0_addTo_163 : decode cX0_addTo 163 = .ok (.lstore_n 3, 1) := by decide +kernel
theorem dX0_addTo_164 : decode cX0_addTo 164 = .ok (.iinc 5 2, 3) := by decide +kernel
theorem dX0_addTo_167 : decode cX0_addTo 167 = .ok (.goto (-82), 3) := by decide +kernel
theorem dX0_addTo_170 : decode cX0_addTo 170 = .ok (.lload_n 3, 1) := by decide +kernel
theorem dX0_addTo_171 : decode cX0_addTo 171 = .ok (.lreturn, 1) := by decide +kernel
