set_option maxRecDepth 20000 in
theorem ggX3_init_X0_init : GoodIn wsX3_init wsX0_init := goodIn_r _ [18, 19, 2, 3, 20, 21, 22, 23, 24, 25, 26, 27, 28, 29, 30, 52, 53, 54, 55, 56, 57, 58, 59, 60] (by decide +kernel) (by decide +kernel)
set_option maxRecDepth 20000 in
theorem gX3_init_X0_init : GoodIn wsX3_init (wsX0_init) := ggX3_init_X0_init
set_option maxRecDepth 20000 in
theorem ggX3_init_X1_init : GoodIn wsX3_init wsX1_init := goodIn_r _ [33, 34, 2, 3, 35, 36, 37, 38, 39, 64, 65, 66, 67, 68, 69, 70, 71, 72] (by decide +kernel) (by decide +kernel)
set_option maxRecDepth 20000 in
theorem gX3_init_X1_init : GoodIn wsX3_init (wsX1_init) := ggX3_init_X1_init
set_option maxRecDepth 20000 in
theorem ggX3_init_X2_init : GoodIn wsX3_init wsX2_init := goodIn_r _ [42, 43, 2, 3, 23, 44, 45, 46, 47, 20, 48, 49, 50, 51, 73, 74, 75, 76, 77, 78, 79] (by decide +kernel) (by decide +kernel)
set_option maxRecDepth 20000 in
theorem gX3_init_X2_init : GoodIn wsX3_init (wsX2_init) := ggX3_init_X2_init
theorem dX3_init_0 : decode cX3_init 0 = .ok (.aload_n 0, 1) := by decide +kernel
theorem dX3_init_1 : decode cX3_init 1 = .ok (.invokespecial 3, 3) := by decide +kernel
theorem dX3_init_4 : decode cX3_init 4 = .ok (.aload_n 0, 1) := by decide +kernel
theorem dX3_init_5 : decode cX3_init 5 = .ok (.new 9, 3) := by decide +kernel
theorem dX3_init_8 : decode cX3_init 8 = .ok (.dup, 1) := by decide +kernel
theorem dX3_init_9 : decode cX3_init 9 = .ok (.invokespecial 11, 3) := by decide +kernel
theorem dX3_init_12 : decode cX3_init 12 = .ok (.putfield 12, 3) := by decide +kernel
theorem dX3_init_15 : decode cX3_init 15 = .ok (.aload_n 0, 1) := by decide +kernel
theorem dX3_init_16 : decode cX3_init 16 = .ok (.new 16, 3) := by decide +kernel
theorem dX3_init_19 : decode cX3_init 19 = .ok (.dup, 1) := by decide +kernel
theorem dX3_init_20 : decode cX3_init 20 = .ok (.aload_n 0, 1) := by decide +kernel
theorem dX3_init_21 : decode cX3_init 21 = .ok (.getfield 12, 3) := by decide +kernel
theorem dX3_init_24 : decode cX3_init 24 = .ok (.invokespecial 18, 3) := by decide +kernel
theorem dX3_init_27 : decode cX3_init 27 = .ok (.putfield 21, 3) := by decide +kernel
theorem dX3_init_30 : decode cX3_init 30 = .ok (.aload_n 0, 1) := by decide +kernel
theorem dX3_init_31 : decode cX3_init 31 = .ok (.new 25, 3) := by decide +kernel
theorem dX3_init_34 : decode cX3_init 34 = .ok (.dup, 1) := by decide +kernel
theorem dX3_init_35 : decode cX3_init 35 = .ok (.aload_n 0, 1) := by decide +kernel
theorem dX3_init_36 : decode cX3_init 36 = .ok (.getfield 12, 3) := by decide +kernel
theorem dX3_init_39 : decode cX3_init 39 = .ok (.aload_n 0, 1) := by decide +kernel
theorem dX3_init_40 : decode cX3_init 40 = .ok (.getfield 21, 3) := by decide +kernel
theorem dX3_init_43 : decode cX3_init 43 = .ok (.invokespecial 27, 3) := by decide +kernel
theorem dX3_init_46 : decode cX3_init 46 = .ok (.putfield 30, 3) := by decide +kernel
theorem dX3_init_49 : decode cX3_init 49 = .ok (.return_, 1) := by decide +kernel
set_option maxRecDepth 20000 in
theorem ggX3_addNode_X0_nodeCount : GoodIn wsX3_addNode wsX0_nodeCount := goodIn_r _ [8, 9, 19, 20, 21, 22, 23, 24, 25, 26, 27] (by decide +kernel) (by decide +kernel)
set_option maxRecDepth 20000 in
theorem gX3_addNode_X0_nodeCount : GoodIn wsX3_addNode (wsV RX3 34 RX0 yX0_nodeCount wsX0_nodeCount) := goodIn_app (goodIn_of _ (by decide +kernel)) ggX3_addNode_X0_nodeCount
set_option maxRecDepth 20000 in
theorem ggX3_addNode_X0_appendNode : GoodIn wsX3_addNode wsX0_appendNode := goodIn_r _ [13, 9, 14, 15, 19, 20, 21, 22, 23, 24, 25, 26, 27] (by decide +kernel) (by decide +kernel)
set_option maxRecDepth 20000 in
theorem gX3_addNode_X0_appendNode : GoodIn wsX3_addNode (wsV RX3 45 RX0 yX0_appendNode wsX0_appendNode) := goodIn_app (goodIn_of _ (by decide +kernel)) ggX3_addNode_X0_appendNode
theorem dX3_addNode_0 : decode cX3_addNode 0 = .ok (.aload_n 0, 1) := by decide +kernel
theorem dX3_addNode_1 : decode cX3_addNode 1 = .ok (.getfield 12, 3) := by decide +kernel
theorem dX3_addNode_4 : decode cX3_addNode 4 = .ok (.invokevirtual 34, 3) := by decide +kernel
theorem dX3_addNode_7 : decode cX3_addNode 7 = .ok (.bipush 8, 2) := by decide +kernel
theorem dX3_addNode_9 : decode cX3_addNode 9 = .ok (.if_icmp .lt 13, 3) := by decide +kernel
theorem dX3_addNode_12 : decode cX3_addNode 12 = .ok (.new 38, 3) := by decide +kernel
theorem dX3_addNode_15 : decode cX3_addNode 15 = .ok (.dup, 1) := by decide +kernel
theorem dX3_addNode_16 : decode cX3_addNode 16 = .ok (.ldc 40, 2) := by decide +kernel
theorem dX3_addNode_18 : decode cX3_addNode 18 = .ok (.invokespecial 42, 3) := by decide +kernel
theorem dX3_addNode_21 : decode cX3_addNode 21 = .ok (.athrow, 1) := by decide +kernel
theorem dX3_addNode_22 : decode cX3_addNode 22 = .ok (.aload_n 0, 1) := by decide +kernel
theorem dX3_addNode_23 : decode cX3_addNode 23 = .ok (.getfield 12, 3) := by decide +kernel
theorem dX3_addNode_26 : decode cX3_addNode 26 = .ok (.iload_n 1, 1) := by decide +kernel
theorem dX3_addNode_27 : decode cX3_addNode 27 = .ok (.iload_n 2, 1) := by decide +kernel
theorem dX3_addNode_28 : decode cX3_addNode 28 = .ok (.invokevirtual 45, 3) := by decide +kernel
theorem dX3_addNode_31 : decode cX3_addNode 31 = .ok (.ireturn, 1) := by decide +kernel
set_option maxRecDepth 20000 in
theorem ggX3_setNode_X3_checkNode : GoodIn wsX3_setNode wsX3_checkNode := goodIn_ca (goodIn_r _ [6, 7, 8, 1, 9, 10, 11, 12, 13, 14, 34, 35, 36, 37, 38, 39, 40, 41, 42, 43, 44, 45] (by decide +kernel) (by decide +kernel)) (goodIn_sub (fun _ h => List.mem_cons_of_mem _ (List.mem_append_right _ h)) (by decide +kernel))
set_option maxRecDepth 20000 in
theorem gX3_setNode_X3_checkNode : GoodIn wsX3_setNode (wsV RX3 49 RX3 yX3_checkNode wsX3_checkNode) := goodIn_app (goodIn_of _ (by decide +kernel)) ggX3_setNode_X3_checkNode
set_option maxRecDepth 20000 in
theorem ggX3_setNode_X0_switchStore : GoodIn wsX3_setNode wsX0_switchStore := goodIn_r _ [18, 19, 20, 21, 22, 12, 23, 24, 10, 11, 13, 14, 37, 38, 39, 40, 41, 42, 43, 44, 45] (by decide +kernel) (by decide +kernel)
set_option maxRecDepth 20000 in
theorem gX3_setNode_X0_switchStore : GoodIn wsX3_setNode (wsV RX3 53 RX0 yX0_switchStore wsX0_switchStore) := goodIn_app (goodIn_of _ (by decide +kernel)) ggX3_setNode_X0_switchStore
set_option maxRecDepth 20000 in
theorem ggX3_setNode_X0_switchTurning : GoodIn wsX3_setNode wsX0_switchTurning := goodIn_r _ [28, 29, 30, 31, 32, 12, 33, 24, 10, 11, 13, 14, 37, 38, 39, 40, 41, 42, 43, 44, 45] (by decide +kernel) (by decide +kernel)
set_option maxRecDepth 20000 in
theorem gX3_setNode_X0_switchTurning : GoodIn wsX3_setNode (wsV RX3 57 RX0 yX0_switchTurning wsX0_switchTurning) := goodIn_app (goodIn_of _ (by decide +kernel)) ggX3_setNode_X0_switchTurning
theorem dX3_setNode_0 : decode cX3_setNode 0 = .ok (.aload_n 0, 1) := by decide +kernel
theorem dX3_setNode_1 : decode cX3_setNode 1 = .ok (.iload_n 1, 1) := by decide +kernel
theorem dX3_setNode_2 : decode cX3_setNode 2 = .ok (.invokevirtual 49, 3) := by decide +kernel
theorem dX3_setNode_5 : decode cX3_setNode 5 = .ok (.iload_n 2, 1) := by decide +kernel
theorem dX3_setNode_6 : decode cX3_setNode 6 = .ok (.ifCond .eq 13, 3) := by decide +kernel
theorem dX3_setNode_9 : decode cX3_setNode 9 = .ok (.aload_n 0, 1) := by decide +kernel
theorem dX3_setNode_10 : decode cX3_setNode 10 = .ok (.getfield 12, 3) := by decide +kernel
theorem dX3_setNode_13 : decode cX3_setNode 13 = .ok (.iload_n 1, 1) := by decide +kernel
theorem dX3_setNode_14 : decode cX3_setNode 14 = .ok (.iload_n 3, 1) := by decide +kernel
theorem dX3_setNode_15 : decode cX3_setNode 15 = .ok (.invokevirtual 53, 3) := by decide +kernel
theorem dX3_setNode_18 : decode cX3_setNode 18 = .ok (.ireturn, 1) := by decide +kernel
theorem dX3_setNode_19 : decode cX3_setNode 19 = .ok (.aload_n 0, 1) := by decide +kernel
theorem dX3_setNode_20 : decode cX3_setNode 20 = .ok (.getfield 12, 3) := by decide +kernel
theorem dX3_setNode_23 : decode cX3_setNode 23 = .ok (.iload_n 1, 1) := by decide +kernel
theorem dX3_setNode_24 : decode cX3_setNode 24 = .ok (.iload_n 3, 1) := by decide +kernel
theorem dX3_setNode_25 : decode cX3_setNode 25 = .ok (.invokevirtual 57, 3) := by decide +kernel
theorem dX3_setNode_28 : decode cX3_setNode 28 = .ok (.ireturn, 1) := by decide +kernel
set_option maxRecDepth 20000 in
theorem ggX3_addRoad_X3_checkNode : GoodIn wsX3_addRoad wsX3_checkNode := goodIn_ca (goodIn_r _ [10, 11, 12, 5, 13, 14, 15, 16, 17, 18, 34, 35, 36, 37, 38, 39, 40, 41, 42, 43, 44, 45] (by decide +kernel) (by decide +kernel)) (goodIn_sub (fun _ h => List.mem_cons_of_mem _ (List.mem_append_right _ h)) (by decide +kernel))
set_option maxRecDepth 20000 in
theorem gX3_addRoad_X3_checkNode : GoodIn wsX3_addRoad (wsV RX3 49 RX3 yX3_checkNode wsX3_checkNode) := goodIn_app (goodIn_of _ (by decide +kernel)) ggX3_addRoad_X3_checkNode
set_option maxRecDepth 20000 in
theorem ggX3_addRoad_X3_isPriority : GoodIn wsX3_addRoad wsX3_isPriority := goodIn_r _ [21] (by decide +kernel) (by decide +kernel)
set_option maxRecDepth 20000 in
theorem gX3_addRoad_X3_isPriority : GoodIn wsX3_addRoad (va_wsS RX3 67 yX3_isPriority wsX3_isPriority) := goodIn_app (goodIn_of _ (by decide +kernel)) ggX3_addRoad_X3_isPriority
set_option maxRecDepth 20000 in
theorem ggX3_addRoad_X0_roadCount : GoodIn wsX3_addRoad wsX0_roadCount := goodIn_r _ [25, 26, 37, 38, 39, 40, 41, 42, 43, 44, 45] (by decide +kernel) (by decide +kernel)
set_option maxRecDepth 20000 in
theorem gX3_addRoad_X0_roadCount : GoodIn wsX3_addRoad (wsV RX3 73 RX0 yX0_roadCount wsX0_roadCount) := goodIn_app (goodIn_of _ (by decide +kernel)) ggX3_addRoad_X0_roadCount
set_option maxRecDepth 20000 in
theorem ggX3_addRoad_X0_appendRoad : GoodIn wsX3_addRoad wsX0_appendRoad := goodIn_r _ [30, 26, 31, 32, 33, 37, 38, 39, 40, 41, 42, 43, 44, 45] (by decide +kernel) (by decide +kernel)
set_option maxRecDepth 20000 in
theorem gX3_addRoad_X0_appendRoad : GoodIn wsX3_addRoad (wsV RX3 78 RX0 yX0_appendRoad wsX0_appendRoad) := goodIn_app (goodIn_of _ (by decide +kernel)) ggX3_addRoad_X0_appendRoad
theorem dX3_addRoad_0 : decode cX3_addRoad 0 = .ok (.aload_n 0, 1) := by decide +kernel
theorem dX3_addRoad_1 : decode cX3_addRoad 1 = .ok (.iload_n 1, 1) := by decide +kernel
theorem dX3_addRoad_2 : decode cX3_addRoad 2 = .ok (.invokevirtual 49, 3) := by decide +kernel
theorem dX3_addRoad_5 : decode cX3_addRoad 5 = .ok (.aload_n 0, 1) := by decide +kernel
theorem dX3_addRoad_6 : decode cX3_addRoad 6 = .ok (.iload_n 2, 1) := by decide +kernel
theorem dX3_addRoad_7 : decode cX3_addRoad 7 = .ok (.invokevirtual 49, 3) := by decide +kernel
theorem dX3_addRoad_10 : decode cX3_addRoad 10 = .ok (.iload_n 1, 1) := by decide +kernel
theorem dX3_addRoad_11 : decode cX3_addRoad 11 = .ok (.iload_n 2, 1) := by decide +kernel
theorem dX3_addRoad_12 : decode cX3_addRoad 12 = .ok (.if_icmp .ne 13, 3) := by decide +kernel
theorem dX3_addRoad_15 : decode cX3_addRoad 15 = .ok (.new 60, 3) := by decide +kernel
theorem dX3_addRoad_18 : decode cX3_addRoad 18 = .ok (.dup, 1) := by decide +kernel
theorem dX3_addRoad_19 : decode cX3_addRoad 19 = .ok (.ldc 62, 2) := by decide +kernel
theorem dX3_addRoad_21 : decode cX3_addRoad 21 = .ok (.invokespecial 64, 3) := by decide +kernel
theorem dX3_addRoad_24 : decode cX3_addRoad 24 = .ok (.athrow, 1) := by decide +kernel
theorem dX3_addRoad_25 : decode cX3_addRoad 25 = .ok (.iload_n 3, 1) := by decide +kernel
theorem dX3_addRoad_26 : decode cX3_addRoad 26 = .ok (.iconst 1, 1) := by decide +kernel
theorem dX3_addRoad_27 : decode cX3_addRoad 27 = .ok (.if_icmp .lt 9, 3) := by decide +kernel
theorem dX3_addRoad_30 : decode cX3_addRoad 30 = .ok (.iload_n 3, 1) := by decide +kernel
theorem dX3_addRoad_31 : decode cX3_addRoad 31 = .ok (.bipush 30, 2) := by decide +kernel
theorem dX3_addRoad_33 : decode cX3_addRoad 33 = .ok (.if_icmp .le 13, 3) := by decide +kernel
theorem dX3_addRoad_36 : decode cX3_addRoad 36 = .ok (.new 60, 3) := by decide +kernel
theorem dX3_addRoad_39 : decode cX3_addRoad 39 = .ok (.dup, 1) := by decide +kernel
theorem dX3_addRoad_40 : decode cX3_addRoad 40 = .ok (.ldc 65, 2) := by decide +kernel
theorem dX3_addRoad_42 : decode cX3_addRoad 42 = .ok (.invokespecial 64, 3) := by decide +kernel
theorem dX3_addRoad_45 : decode cX3_addRoad 45 = .ok (.athrow, 1) := by decide +kernel
theorem dX3_addRoad_46 : decode cX3_addRoad 46 = .ok (.iload 4, 2) := by decide +kernel
theorem dX3_addRoad_48 : decode cX3_addRoad 48 = .ok (.invokestatic 67, 3) := by decide +kernel
theorem dX3_addRoad_51 : decode cX3_addRoad 51 = .ok (.ifCond .ne 13, 3) := by decide +kernel
theorem dX3_addRoad_54 : decode cX3_addRoad 54 = .ok (.new 60, 3) := by decide +kernel
theorem dX3_addRoad_57 : decode cX3_addRoad 57 = .ok (.dup, 1) := by decide +kernel
theorem dX3_addRoad_58 : decode cX3_addRoad 58 = .ok (.ldc 71, 2) := by decide +kernel
theorem dX3_addRoad_60 : decode cX3_addRoad 60 = .ok (.invokespecial 64, 3) := by decide +kernel
theorem dX3_addRoad_63 : decode cX3_addRoad 63 = .ok (.athrow, 1) := by decide +kernel
theorem dX3_addRoad_64 : decode cX3_addRoad 64 = .ok (.aload_n 0, 1) := by decide +kernel
theorem dX3_addRoad_65 : decode cX3_addRoad 65 = .ok (.getfield 12, 3) := by decide +kernel
theorem dX3_addRoad_68 : decode cX3_addRoad 68 = .ok (.invokevirtual 73, 3) := by decide +kernel
theorem dX3_addRoad_71 : decode cX3_addRoad 71 = .ok (.bipush 12, 2) := by decide +kernel
theorem dX3_addRoad_73 : decode cX3_addRoad 73 = .ok (.if_icmp .lt 13, 3) := by decide +kernel
theorem dX3_addRoad_76 : decode cX3_addRoad 76 = .ok (.new 38, 3) := by decide +kernel
theorem dX3_addRoad_79 : decode cX3_addRoad 79 = .ok (.dup, 1) := by decide +kernel
theorem dX3_addRoad_80 : decode cX3_addRoad 80 = .ok (.ldc 76, 2) := by decide +kernel
theorem dX3_addRoad_82 : decode cX3_addRoad 82 = .ok (.invokespecial 42, 3) := by decide +kernel
theorem dX3_addRoad_85 : decode cX3_addRoad 85 = .ok (.athrow, 1) := by decide +kernel
theorem dX3_addRoad_86 : decode cX3_addRoad 86 = .ok (.aload_n 0, 1) := by decide +kernel
theorem dX3_addRoad_87 : decode cX3_addRoad 87 = .ok (.getfield 12, 3) := by decide +kernel
theorem dX3_addRoad_90 : decode cX3_addRoad 90 = .ok (.iload_n 1, 1) := by decide +kernel
theorem dX3_addRoad_91 : decode cX3_addRoad 91 = .ok (.iload_n 2, 1) := by decide +kernel
theorem dX3_addRoad_92 : decode cX3_addRoad 92 = .ok (.iload_n 3, 1) := by decide +kernel
theorem dX3_addRoad_93 : decode cX3_addRoad 93 = .ok (.iload 4, 2) := by decide +kernel
theorem dX3_addRoad_95 : decode cX3_addRoad 95 = .ok (.invokevirtual 78, 3) := by decide +kernel
theorem dX3_addRoad_98 : decode cX3_addRoad 98 = .ok (.ireturn, 1) := by decide +kernel
set_option maxRecDepth 20000 in
theorem ggX3_snow_X0_letItSnow : GoodIn wsX3_snow wsX0_letItSnow := goodIn_r _ [8, 9, 10, 11, 12, 7, 13, 14, 15, 16, 17, 18, 19, 20, 21, 22, 23, 24, 25, 26, 27, 38, 39, 40, 41, 42, 43, 44, 45, 46] (by decide +kernel) (by decide +kernel)
set_option maxRecDepth 20000 in
theorem gX3_snow_X0_letItSnow : GoodIn wsX3_snow (wsV RX3 84 RX0 yX0_letItSnow wsX0_letItSnow) := goodIn_app (goodIn_of _ (by decide +kernel)) ggX3_snow_X0_letItSnow
set_option maxRecDepth 20000 in
theorem ggX3_snow_X0_deepestSnow : GoodIn wsX3_snow wsX0_deepestSnow := goodIn_r _ [31, 19, 32, 33, 22, 34, 10, 11, 12, 7, 13, 14, 38, 39, 40, 41, 42, 43, 44, 45, 46] (by decide +kernel) (by decide +kernel)
set_option maxRecDepth 20000 in
theorem gX3_snow_X0_deepestSnow : GoodIn wsX3_snow (wsV RX3 87 RX0 yX0_deepestSnow wsX0_deepestSnow) := goodIn_app (goodIn_of _ (by decide +kernel)) ggX3_snow_X0_deepestSnow
theorem dX3_snow_0 : decode cX3_snow 0 = .ok (.iload_n 1, 1) := by decide +kernel
theorem dX3_snow_1 : decode cX3_snow 1 = .ok (.iconst 1, 1) := by decide +kernel
theorem dX3_snow_2 : decode cX3_snow 2 = .ok (.if_icmp .lt 10, 3) := by decide +kernel
theorem dX3_snow_5 : decode cX3_snow 5 = .ok (.iload_n 1, 1) := by decide +kernel
theorem dX3_snow_6 : decode cX3_snow 6 = .ok (.sipush 300, 3) := by decide +kernel
theorem dX3_snow_9 : decode cX3_snow 9 = .ok (.if_icmp .le 13, 3) := by decide +kernel
theorem dX3_snow_12 : decode cX3_snow 12 = .ok (.new 60, 3) := by decide +kernel
theorem dX3_snow_15 : decode cX3_snow 15 = .ok (.dup, 1) := by decide +kernel
theorem dX3_snow_16 : decode cX3_snow 16 = .ok (.ldc 82, 2) := by decide +kernel
theorem dX3_snow_18 : decode cX3_snow 18 = .ok (.invokespecial 64, 3) := by decide +kernel
theorem dX3_snow_21 : decode cX3_snow 21 = .ok (.athrow, 1) := by decide +kernel
theorem dX3_snow_22 : decode cX3_snow 22 = .ok (.aload_n 0, 1) := by decide +kernel
theorem dX3_snow_23 : decode cX3_snow 23 = .ok (.getfield 12, 3) := by decide +kernel
theorem dX3_snow_26 : decode cX3_snow 26 = .ok (.iload_n 1, 1) := by decide +kernel
theorem dX3_snow_27 : decode cX3_snow 27 = .ok (.invokevirtual 84, 3) := by decide +kernel
theorem dX3_snow_30 : decode cX3_snow 30 = .ok (.aload_n 0, 1) := by decide +kernel
theorem dX3_snow_31 : decode cX3_snow 31 = .ok (.getfield 12, 3) := by decide +kernel
theorem dX3_snow_34 : decode cX3_snow 34 = .ok (.invokevirtual 87, 3) := by decide +kernel
theorem dX3_snow_37 : decode cX3_snow 37 = .ok (.ireturn, 1) := by decide +kernel
set_option maxRecDepth 20000 in
theorem ggX3_depth_X3_checkedSide : GoodIn wsX3_depth wsX3_checkedSide := goodIn_ca (goodIn_r _ [6, 7, 8, 1, 9, 10, 11, 12, 13, 14, 24, 25, 26, 27, 28, 29, 30, 31, 32, 33, 34, 35] (by decide +kernel) (by decide +kernel)) (goodIn_sub (fun _ h => List.mem_cons_of_mem _ (List.mem_append_right _ h)) (by decide +kernel))
set_option maxRecDepth 20000 in
theorem gX3_depth_X3_checkedSide : GoodIn wsX3_depth (wsV RX3 90 RX3 yX3_checkedSide wsX3_checkedSide) := goodIn_app (goodIn_of _ (by decide +kernel)) ggX3_depth_X3_checkedSide
set_option maxRecDepth 20000 in
theorem ggX3_depth_X0_snowOn : GoodIn wsX3_depth wsX0_snowOn := goodIn_r _ [18, 19, 20, 21, 22, 12, 23, 14, 27, 28, 29, 30, 31, 32, 33, 34, 35] (by decide +kernel) (by decide +kernel)
set_option maxRecDepth 20000 in
theorem gX3_depth_X0_snowOn : GoodIn wsX3_depth (wsV RX3 94 RX0 yX0_snowOn wsX0_snowOn) := goodIn_app (goodIn_of _ (by decide +kernel)) ggX3_depth_X0_snowOn
theorem dX3_depth_0 : decode cX3_depth 0 = .ok (.aload_n 0, 1) := by decide +kernel
theorem dX3_depth_1 : decode cX3_depth 1 = .ok (.getfield 12, 3) := by decide +kernel
theorem dX3_depth_4 : decode cX3_depth 4 = .ok (.aload_n 0, 1) := by decide +kernel
theorem dX3_depth_5 : decode cX3_depth 5 = .ok (.iload_n 1, 1) := by decide +kernel
theorem dX3_depth_6 : decode cX3_depth 6 = .ok (.iload_n 2, 1) := by decide +kernel
theorem dX3_depth_7 : decode cX3_depth 7 = .ok (.invokevirtual 90, 3) := by decide +kernel
theorem dX3_depth_10 : decode cX3_depth 10 = .ok (.invokevirtual 94, 3) := by decide +kernel
theorem dX3_depth_13 : decode cX3_depth 13 = .ok (.ireturn, 1) := by decide +kernel
set_option maxRecDepth 20000 in
theorem ggX3_isSalted_X3_checkedSide : GoodIn wsX3_isSalted wsX3_checkedSide := goodIn_ca (goodIn_r _ [6, 7, 8, 1, 9, 10, 11, 12, 13, 14, 24, 25, 26, 27, 28, 29, 30, 31, 32, 33, 34, 35] (by decide +kernel) (by decide +kernel)) (goodIn_sub (fun _ h => List.mem_cons_of_mem _ (List.mem_append_right _ h)) (by decide +kernel))
set_option maxRecDepth 20000 in
theorem gX3_isSalted_X3_checkedSide : GoodIn wsX3_isSalted (wsV RX3 90 RX3 yX3_checkedSide wsX3_checkedSide) := goodIn_app (goodIn_of _ (by decide +kernel)) ggX3_isSalted_X3_checkedSide
set_option maxRecDepth 20000 in
theorem ggX3_isSalted_X0_hasSaltOn : GoodIn wsX3_isSalted wsX0_hasSaltOn := goodIn_r _ [18, 19, 20, 21, 22, 12, 23, 14, 27, 28, 29, 30, 31, 32, 33, 34, 35] (by decide +kernel) (by decide +kernel)
set_option maxRecDepth 20000 in
theorem gX3_isSalted_X0_hasSaltOn : GoodIn wsX3_isSalted (wsV RX3 98 RX0 yX0_hasSaltOn wsX0_hasSaltOn) := goodIn_app (goodIn_of _ (by decide +kernel)) ggX3_isSalted_X0_hasSaltOn
theorem dX3_isSalted_0 : decode cX3_isSalted 0 = .ok (.aload_n 0, 1) := by decide +kernel
theorem dX3_isSalted_1 : decode cX3_isSalted 1 = .ok (.getfield 12, 3) := by decide +kernel
theorem dX3_isSalted_4 : decode cX3_isSalted 4 = .ok (.aload_n 0, 1) := by decide +kernel
theorem dX3_isSalted_5 : decode cX3_isSalted 5 = .ok (.iload_n 1, 1) := by decide +kernel
theorem dX3_isSalted_6 : decode cX3_isSalted 6 = .ok (.iload_n 2, 1) := by decide +kernel
theorem dX3_isSalted_7 : decode cX3_isSalted 7 = .ok (.invokevirtual 90, 3) := by decide +kernel
theorem dX3_isSalted_10 : decode cX3_isSalted 10 = .ok (.invokevirtual 98, 3) := by decide +kernel
theorem dX3_isSalted_13 : decode cX3_isSalted 13 = .ok (.ireturn, 1) := by decide +kernel
set_option maxRecDepth 20000 in
theorem ggX3_worst_X3_isPriority : GoodIn wsX3_worst wsX3_isPriority := goodIn_r _ [7] (by decide +kernel) (by decide +kernel)
set_option maxRecDepth 20000 in
theorem gX3_worst_X3_isPriority : GoodIn wsX3_worst (va_wsS RX3 67 yX3_isPriority wsX3_isPriority) := goodIn_app (goodIn_of _ (by decide +kernel)) ggX3_worst_X3_isPriority
set_option maxRecDepth 20000 in
theorem ggX3_worst_X0_deepestSnowOf : GoodIn wsX3_worst wsX0_deepestSnowOf := goodIn_r _ [12, 13, 14, 15, 16, 17, 18, 19, 20, 21, 11, 22, 23, 27, 28, 29, 30, 31, 32, 33, 34, 35] (by decide +kernel) (by decide +kernel)
set_option maxRecDepth 20000 in
theorem gX3_worst_X0_deepestSnowOf : GoodIn wsX3_worst (wsV RX3 104 RX0 yX0_deepestSnowOf wsX0_deepestSnowOf) := goodIn_app (goodIn_of _ (by decide +kernel)) ggX3_worst_X0_deepestSnowOf
theorem dX3_worst_0 : decode cX3_worst 0 = .ok (.iload_n 1, 1) := by decide +kernel
theorem dX3_worst_1 : decode cX3_worst 1 = .ok (.invokestatic 67, 3) := by decide +kernel
theorem dX3_worst_4 : decode cX3_worst 4 = .ok (.ifCond .ne 13, 3) := by decide +kernel
theorem dX3_worst_7 : decode cX3_worst 7 = .ok (.new 101, 3) := by decide +kernel
theorem dX3_worst_10 : decode cX3_worst 10 = .ok (.dup, 1) := by decide +kernel
theorem dX3_worst_11 : decode cX3_worst 11 = .ok (.ldc 71, 2) := by decide +kernel
theorem dX3_worst_13 : decode cX3_worst 13 = .ok (.invokespecial 103, 3) := by decide +kernel
theorem dX3_worst_16 : decode cX3_worst 16 = .ok (.athrow, 1) := by decide +kernel
theorem dX3_worst_17 : decode cX3_worst 17 = .ok (.aload_n 0, 1) := by decide +kernel
theorem dX3_worst_18 : decode cX3_worst 18 = .ok (.getfield 12, 3) := by decide +kernel
theorem dX3_worst_21 : decode cX3_worst 21 = .ok (.iload_n 1, 1) := by decide +kernel
theorem dX3_worst_22 : decode cX3_worst 22 = .ok (.invokevirtual 104, 3) := by decide +kernel
theorem dX3_worst_25 : decode cX3_worst 25 = .ok (.ireturn, 1) := by decide +kernel
set_option maxRecDepth 20000 in
theorem ggX3_reach_X3_checkNode : GoodIn wsX3_reach wsX3_checkNode := goodIn_ca (goodIn_r _ [6, 7, 8, 1, 9, 10, 11, 12, 13, 14, 42, 43, 44, 45, 46, 47, 48, 49, 50, 51, 52, 53] (by decide +kernel) (by decide +kernel)) (goodIn_sub (fun _ h => List.mem_cons_of_mem _ (List.mem_append_right _ h)) (by decide +kernel))
set_option maxRecDepth 20000 in
theorem gX3_reach_X3_checkNode : GoodIn wsX3_reach (wsV RX3 49 RX3 yX3_checkNode wsX3_checkNode) := goodIn_app (goodIn_of _ (by decide +kernel)) ggX3_reach_X3_checkNode
set_option maxRecDepth 20000 in
theorem ggX3_reach_X0_nodesOpenFrom : GoodIn wsX3_reach wsX0_nodesOpenFrom := goodIn_r _ [18, 14, 19, 20, 21, 12, 22, 23, 24, 25, 26, 27, 28, 29, 30, 31, 32, 33, 34, 35, 36, 37, 38, 39, 40, 41, 45, 46, 47, 48, 49, 50, 51, 52, 53] (by decide +kernel) (by decide +kernel)
set_option maxRecDepth 20000 in
theorem gX3_reach_X0_nodesOpenFrom : GoodIn wsX3_reach (wsV RX3 107 RX0 yX0_nodesOpenFrom wsX0_nodesOpenFrom) := goodIn_app (goodIn_of _ (by decide +kernel)) ggX3_reach_X0_nodesOpenFrom
theorem dX3_reach_0 : decode cX3_reach 0 = .ok (.aload_n 0, 1) := by decide +kernel
theorem dX3_reach_1 : decode cX3_reach 1 = .ok (.iload_n 1, 1) := by decide +kernel
theorem dX3_reach_2 : decode cX3_reach 2 = .ok (.invokevirtual 49, 3) := by decide +kernel
theorem dX3_reach_5 : decode cX3_reach 5 = .ok (.aload_n 0, 1) := by decide +kernel
theorem dX3_reach_6 : decode cX3_reach 6 = .ok (.getfield 12, 3) := by decide +kernel
theorem dX3_reach_9 : decode cX3_reach 9 = .ok (.iload_n 1, 1) := by decide +kernel
theorem dX3_reach_10 : decode cX3_reach 10 = .ok (.invokevirtual 107, 3) := by decide +kernel
theorem dX3_reach_13 : decode cX3_reach 13 = .ok (.ireturn, 1) := by decide +kernel
set_option maxRecDepth 20000 in
theorem ggX3_bare_X0_sideCount : GoodIn wsX3_bare wsX0_sideCount := goodIn_r _ [6, 7, 17, 18, 19, 20, 21, 22, 23, 24, 25] (by decide +kernel) (by decide +kernel)
set_option maxRecDepth 20000 in
theorem gX3_bare_X0_sideCount : GoodIn wsX3_bare (wsV RX3 110 RX0 yX0_sideCount wsX0_sideCount) := goodIn_app (goodIn_of _ (by decide +kernel)) ggX3_bare_X0_sideCount
set_option maxRecDepth 20000 in
theorem ggX3_bare_X0_sidesWithoutSnow : GoodIn wsX3_bare wsX0_sidesWithoutSnow := goodIn_r _ [11, 12, 13, 3, 4, 5, 6, 7, 17, 18, 19, 20, 21, 22, 23, 24, 25] (by decide +kernel) (by decide +kernel)
set_option maxRecDepth 20000 in
theorem gX3_bare_X0_sidesWithoutSnow : GoodIn wsX3_bare (wsV RX3 113 RX0 yX0_sidesWithoutSnow wsX0_sidesWithoutSnow) := goodIn_app (goodIn_of _ (by decide +kernel)) ggX3_bare_X0_sidesWithoutSnow
theorem dX3_bare_0 : decode cX3_bare 0 = .ok (.aload_n 0, 1) := by decide +kernel
theorem dX3_bare_1 : decode cX3_bare 1 = .ok (.getfield 12, 3) := by decide +kernel
theorem dX3_bare_4 : decode cX3_bare 4 = .ok (.invokevirtual 110, 3) := by decide +kernel
theorem dX3_bare_7 : decode cX3_bare 7 = .ok (.istore_n 1, 1) := by decide +kernel
theorem dX3_bare_8 : decode cX3_bare 8 = .ok (.iload_n 1, 1) := by decide +kernel
theorem dX3_bare_9 : decode cX3_bare 9 = .ok (.ifCond .ne 5, 3) := by decide +kernel
theorem dX3_bare_12 : decode cX3_bare 12 = .ok (.dconst 1, 1) := by decide +kernel
theorem dX3_bare_13 : decode cX3_bare 13 = .ok (.dreturn, 1) := by decide +kernel
theorem dX3_bare_14 : decode cX3_bare 14 = .ok (.aload_n 0, 1) := by decide +kernel
theorem dX3_bare_15 : decode cX3_bare 15 = .ok (.getfield 12, 3) := by decide +kernel
theorem dX3_bare_18 : decode cX3_bare 18 = .ok (.invokevirtual 113, 3) := by decide +kernel
theorem dX3_bare_21 : decode cX3_bare 21 = .ok (.i2d, 1) := by decide +kernel
theorem dX3_bare_22 : decode cX3_bare 22 = .ok (.iload_n 1, 1) := by decide +kernel
theorem dX3_bare_23 : decode cX3_bare 23 = .ok (.i2d, 1) := by decide +kernel
theorem dX3_bare_24 : decode cX3_bare 24 = .ok (.ddiv, 1) := by decide +kernel
theorem dX3_bare_25 : decode cX3_bare 25 = .ok (.dreturn, 1) := by decide +kernel
set_option maxRecDepth 20000 in
theorem ggX3_strew_X1_switchStrewing : GoodIn wsX3_strew wsX1_switchStrewing := goodIn_r _ [6, 7, 11, 12, 13, 14, 15, 16, 17, 18, 19] (by decide +kernel) (by decide +kernel)
set_option maxRecDepth 20000 in
theorem gX3_strew_X1_switchStrewing : GoodIn wsX3_strew (wsV RX3 116 RX1 yX1_switchStrewing wsX1_switchStrewing) := goodIn_app (goodIn_of _ (by decide +kernel)) ggX3_strew_X1_switchStrewing
theorem dX3_strew_0 : decode cX3_strew 0 = .ok (.aload_n 0, 1) := by decide +kernel
theorem dX3_strew_1 : decode cX3_strew 1 = .ok (.getfield 21, 3) := by decide +kernel
theorem dX3_strew_4 : decode cX3_strew 4 = .ok (.iload_n 1, 1) := by decide +kernel
theorem dX3_strew_5 : decode cX3_strew 5 = .ok (.invokevirtual 116, 3) := by decide +kernel
theorem dX3_strew_8 : decode cX3_strew 8 = .ok (.ireturn, 1) := by decide +kernel
set_option maxRecDepth 20000 in
theorem ggX3_go_X0_hasRoad : GoodIn wsX3_go wsX0_hasRoad := goodIn_r _ [11, 12, 97, 98, 99, 100, 101, 102, 103, 104, 105] (by decide +kernel) (by decide +kernel)
set_option maxRecDepth 20000 in
theorem gX3_go_X0_hasRoad : GoodIn wsX3_go (wsV RX3 120 RX0 yX0_hasRoad wsX0_hasRoad) := goodIn_app (goodIn_of _ (by decide +kernel)) ggX3_go_X0_hasRoad
set_option maxRecDepth 20000 in
theorem ggX3_go_X1_canGoBy : GoodIn wsX3_go wsX1_canGoBy := goodIn_r _ [17, 18, 19, 20, 21, 22, 23, 10, 24, 25, 26, 27, 28, 29, 30, 31, 32, 33, 12, 34, 35, 36, 37, 38, 39, 40, 41, 42, 43, 44, 45, 46, 47, 106, 107, 108, 109, 110, 111, 112, 113, 114, 97, 98, 99, 100, 101, 102, 103, 104, 105] (by decide +kernel) (by decide +kernel)
set_option maxRecDepth 20000 in
theorem gX3_go_X1_canGoBy : GoodIn wsX3_go (wsV RX3 125 RX1 yX1_canGoBy wsX1_canGoBy) := goodIn_app (goodIn_of _ (by decide +kernel)) ggX3_go_X1_canGoBy
set_option maxRecDepth 20000 in
theorem ggX3_go_X1_driveBy : GoodIn wsX3_go wsX1_driveBy := goodIn_r _ [51, 18, 19, 20, 52, 53, 54, 21, 22, 23, 10, 24, 25, 26, 27, 28, 29, 30, 31, 32, 33, 12, 55, 56, 57, 58, 59, 60, 8, 9, 11, 61, 62, 63, 64, 65, 66, 67, 68, 16, 69, 70, 71, 72, 73, 74, 75, 76, 77, 78, 79, 80, 81, 82, 83, 84, 85, 86, 87, 88, 89, 90, 91, 92, 93, 106, 107, 108, 109, 110, 111, 112, 113, 114, 97, 98, 99, 100, 101, 102, 103, 104, 105] (by decide +kernel) (by decide +kernel)
set_option maxRecDepth 20000 in
theorem gX3_go_X1_driveBy : GoodIn wsX3_go (wsV RX3 130 RX1 yX1_driveBy wsX1_driveBy) := goodIn_app (goodIn_of _ (by decide +kernel)) ggX3_go_X1_driveBy
theorem dX3_go_0 : decode cX3_go 0 = .ok (.aload_n 0, 1) := by decide +kernel
theorem dX3_go_1 : decode cX3_go 1 = .ok (.getfield 12, 3) := by decide +kernel
theorem dX3_go_4 : decode cX3_go 4 = .ok (.iload_n 1, 1) := by decide +kernel
theorem dX3_go_5 : decode cX3_go 5 = .ok (.invokevirtual 120, 3) := by decide +kernel
theorem dX3_go_8 : decode cX3_go 8 = .ok (.ifCond .ne 13, 3) := by decide +kernel
theorem dX3_go_11 : decode cX3_go 11 = .ok (.new 101, 3) := by decide +kernel
theorem dX3_go_14 : decode cX3_go 14 = .ok (.dup, 1) := by decide +kernel
theorem dX3_go_15 : decode cX3_go 15 = .ok (.ldc 123, 2) := by decide +kernel
theorem dX3_go_17 : decode cX3_go 17 = .ok (.invokespecial 103, 3) := by decide +kernel
theorem dX3_go_20 : decode cX3_go 20 = .ok (.athrow, 1) := by decide +kernel
theorem dX3_go_21 : decode cX3_go 21 = .ok (.aload_n 0, 1) := by decide +kernel
theorem dX3_go_22 : decode cX3_go 22 = .ok (.getfield 21, 3) := by decide +kernel
theorem dX3_go_25 : decode cX3_go 25 = .ok (.iload_n 1, 1) := by decide +kernel
theorem dX3_go_26 : decode cX3_go 26 = .ok (.invokevirtual 125, 3) := by decide +kernel
theorem dX3_go_29 : decode cX3_go 29 = .ok (.ifCond .ne 13, 3) := by decide +kernel
theorem dX3_go_32 : decode cX3_go 32 = .ok (.new 38, 3) := by decide +kernel
theorem dX3_go_35 : decode cX3_go 35 = .ok (.dup, 1) := by decide +kernel
theorem dX3_go_36 : decode cX3_go 36 = .ok (.ldc 128, 2) := by decide +kernel
theorem dX3_go_38 : decode cX3_go 38 = .ok (.invokespecial 42, 3) := by decide +kernel
theorem dX3_go_41 : decode cX3_go 41 = .ok (.athrow, 1) := by decide +kernel
theorem dX3_go_42 : decode cX3_go 42 = .ok (.aload_n 0, 1) := by decide +kernel
theorem dX3_go_43 : decode cX3_go 43 = .ok (.getfield 21, 3) := by decide +kernel
theorem dX3_go_46 : decode cX3_go 46 = .ok (.iload_n 1, 1) := by decide +kernel
theorem dX3_go_47 : decode cX3_go 47 = .ok (.invokevirtual 130, 3) := by decide +kernel
theorem dX3_go_50 : decode cX3_go 50 = .ok (.ireturn, 1) := by decide +kernel
set_option maxRecDepth 20000 in
theorem ggX3_fill_X1_node : GoodIn wsX3_fill wsX1_node := goodIn_r _ [9, 10, 32, 33, 34, 35, 36, 37, 38, 39, 40] (by decide +kernel) (by decide +kernel)
set_option maxRecDepth 20000 in
theorem gX3_fill_X1_node : GoodIn wsX3_fill (wsV RX3 133 RX1 yX1_node wsX1_node) := goodIn_app (goodIn_of _ (by decide +kernel)) ggX3_fill_X1_node
set_option maxRecDepth 20000 in
theorem ggX3_fill_X0_isStoreAt : GoodIn wsX3_fill wsX0_isStoreAt := goodIn_r _ [15, 16, 17, 18, 19, 14, 20, 21, 41, 42, 43, 44, 45, 46, 47, 48, 49] (by decide +kernel) (by decide +kernel)
set_option maxRecDepth 20000 in
theorem gX3_fill_X0_isStoreAt : GoodIn wsX3_fill (wsV RX3 136 RX0 yX0_isStoreAt wsX0_isStoreAt) := goodIn_app (goodIn_of _ (by decide +kernel)) ggX3_fill_X0_isStoreAt
set_option maxRecDepth 20000 in
theorem ggX3_fill_X1_takeSalt : GoodIn wsX3_fill wsX1_takeSalt := goodIn_r _ [25, 26, 27, 28, 32, 33, 34, 35, 36, 37, 38, 39, 40] (by decide +kernel) (by decide +kernel)
set_option maxRecDepth 20000 in
theorem gX3_fill_X1_takeSalt : GoodIn wsX3_fill (wsV RX3 141 RX1 yX1_takeSalt wsX1_takeSalt) := goodIn_app (goodIn_of _ (by decide +kernel)) ggX3_fill_X1_takeSalt
theorem dX3_fill_0 : decode cX3_fill 0 = .ok (.aload_n 0, 1) := by decide +kernel
theorem dX3_fill_1 : decode cX3_fill 1 = .ok (.getfield 12, 3) := by decide +kernel
theorem dX3_fill_4 : decode cX3_fill 4 = .ok (.aload_n 0, 1) := by decide +kernel
theorem dX3_fill_5 : decode cX3_fill 5 = .ok (.getfield 21, 3) := by decide +kernel
theorem dX3_fill_8 : decode cX3_fill 8 = .ok (.invokevirtual 133, 3) := by decide +kernel
theorem dX3_fill_11 : decode cX3_fill 11 = .ok (.invokevirtual 136, 3) := by decide +kernel
theorem dX3_fill_14 : decode cX3_fill 14 = .ok (.ifCond .ne 13, 3) := by decide +kernel
theorem dX3_fill_17 : decode cX3_fill 17 = .ok (.new 38, 3) := by decide +kernel
theorem dX3_fill_20 : decode cX3_fill 20 = .ok (.dup, 1) := by decide +kernel
theorem dX3_fill_21 : decode cX3_fill 21 = .ok (.ldc 139, 2) := by decide +kernel
theorem dX3_fill_23 : decode cX3_fill 23 = .ok (.invokespecial 42, 3) := by decide +kernel
theorem dX3_fill_26 : decode cX3_fill 26 = .ok (.athrow, 1) := by decide +kernel
theorem dX3_fill_27 : decode cX3_fill 27 = .ok (.aload_n 0, 1) := by decide +kernel
theorem dX3_fill_28 : decode cX3_fill 28 = .ok (.getfield 21, 3) := by decide +kernel
theorem dX3_fill_31 : decode cX3_fill 31 = .ok (.invokevirtual 141, 3) := by decide +kernel
theorem dX3_fill_34 : decode cX3_fill 34 = .ok (.ireturn, 1) := by decide +kernel
set_option maxRecDepth 20000 in
theorem ggX3_plough_X3_checkFact : GoodIn wsX3_plough wsX3_checkFact := goodIn_ca (goodIn_r _ [5, 6, 7] (by decide +kernel) (by decide +kernel)) (goodIn_sub (fun _ h => List.mem_cons_of_mem _ (List.mem_append_right _ h)) (by decide +kernel))
set_option maxRecDepth 20000 in
theorem gX3_plough_X3_checkFact : GoodIn wsX3_plough (va_wsS RX3 144 yX3_checkFact wsX3_checkFact) := goodIn_app (goodIn_of _ (by decide +kernel)) ggX3_plough_X3_checkFact
set_option maxRecDepth 20000 in
theorem ggX3_plough_X1_stateFact : GoodIn wsX3_plough wsX1_stateFact := goodIn_r _ [12, 13, 14, 15, 16, 20, 21, 22, 23, 24, 25, 26, 27, 28] (by decide +kernel) (by decide +kernel)
set_option maxRecDepth 20000 in
theorem gX3_plough_X1_stateFact : GoodIn wsX3_plough (wsV RX3 147 RX1 yX1_stateFact wsX1_stateFact) := goodIn_app (goodIn_of _ (by decide +kernel)) ggX3_plough_X1_stateFact
theorem dX3_plough_0 : decode cX3_plough 0 = .ok (.iload_n 1, 1) := by decide +kernel
theorem dX3_plough_1 : decode cX3_plough 1 = .ok (.invokestatic 144, 3) := by decide +kernel
theorem dX3_plough_4 : decode cX3_plough 4 = .ok (.aload_n 0, 1) := by decide +kernel
theorem dX3_plough_5 : decode cX3_plough 5 = .ok (.getfield 21, 3) := by decide +kernel
theorem dX3_plough_8 : decode cX3_plough 8 = .ok (.iload_n 1, 1) := by decide +kernel
theorem dX3_plough_9 : decode cX3_plough 9 = .ok (.invokevirtual 147, 3) := by decide +kernel
theorem dX3_plough_12 : decode cX3_plough 12 = .ok (.ireturn, 1) := by decide +kernel
set_option maxRecDepth 20000 in
theorem ggX3_way_X3_checkNode : GoodIn wsX3_way wsX3_checkNode := goodIn_ca (goodIn_r _ [6, 7, 8, 9, 10, 11, 12, 13, 14, 15, 113, 114, 115, 116, 117, 118, 119, 120, 121, 122, 123, 124] (by decide +kernel) (by decide +kernel)) (goodIn_sub (fun _ h => List.mem_cons_of_mem _ (List.mem_append_right _ h)) (by decide +kernel))
set_option maxRecDepth 20000 in
theorem gX3_way_X3_checkNode : GoodIn wsX3_way (wsV RX3 49 RX3 yX3_checkNode wsX3_checkNode) := goodIn_app (goodIn_of _ (by decide +kernel)) ggX3_way_X3_checkNode
set_option maxRecDepth 20000 in
theorem ggX3_way_X2_lookAround : GoodIn wsX3_way wsX2_lookAround := goodIn_r _ [20, 21, 22, 23, 24, 25, 26, 27, 28, 29, 30, 31, 32, 33, 19, 34, 35, 36, 37, 38, 39, 40, 41, 42, 43, 44, 45, 46, 47, 48, 13, 49, 50, 51, 52, 53, 54, 55, 56, 57, 58, 59, 60, 61, 62, 63, 64, 65, 11, 12, 14, 15, 66, 67, 68, 69, 70, 71, 72, 73, 74, 75, 76, 77, 78, 79, 80, 81, 82, 83, 84, 85, 86, 87, 88, 89, 90, 91, 92, 93, 94, 95, 96, 97, 98, 99, 100, 101, 102, 103, 104, 125, 126, 127, 128, 129, 130, 131, 132, 133, 134, 135, 136, 137, 138, 139, 140, 116, 117, 118, 119, 120, 121, 122, 123, 124] (by decide +kernel) (by decide +kernel)
set_option maxRecDepth 20000 in
theorem gX3_way_X2_lookAround : GoodIn wsX3_way (wsV RX3 150 RX2 yX2_lookAround wsX2_lookAround) := goodIn_app (goodIn_of _ (by decide +kernel)) ggX3_way_X2_lookAround
set_option maxRecDepth 20000 in
theorem ggX3_way_X2_minutesToNode : GoodIn wsX3_way wsX2_minutesToNode := goodIn_r _ [108, 22, 109, 110, 111, 19, 112, 23, 35, 46, 47, 48, 13, 49, 50, 101, 102, 103, 104, 55, 56, 57, 58, 59, 93, 94, 95, 96, 36, 70, 80, 81, 82, 83, 75, 125, 126, 127, 128, 129, 130, 131, 116, 117, 118, 119, 120, 121, 122, 123, 124] (by decide +kernel) (by decide +kernel)
set_option maxRecDepth 20000 in
theorem gX3_way_X2_minutesToNode : GoodIn wsX3_way (wsV RX3 153 RX2 yX2_minutesToNode wsX2_minutesToNode) := goodIn_app (goodIn_of _ (by decide +kernel)) ggX3_way_X2_minutesToNode
theorem dX3_way_0 : decode cX3_way 0 = .ok (.aload_n 0, 1) := by decide +kernel
theorem dX3_way_1 : decode cX3_way 1 = .ok (.iload_n 1, 1) := by decide +kernel
theorem dX3_way_2 : decode cX3_way 2 = .ok (.invokevirtual 49, 3) := by decide +kernel
theorem dX3_way_5 : decode cX3_way 5 = .ok (.aload_n 0, 1) := by decide +kernel
theorem dX3_way_6 : decode cX3_way 6 = .ok (.getfield 30, 3) := by decide +kernel
theorem dX3_way_9 : decode cX3_way 9 = .ok (.invokevirtual 150, 3) := by decide +kernel
theorem dX3_way_12 : decode cX3_way 12 = .ok (.aload_n 0, 1) := by decide +kernel
theorem dX3_way_13 : decode cX3_way 13 = .ok (.getfield 30, 3) := by decide +kernel
theorem dX3_way_16 : decode cX3_way 16 = .ok (.iload_n 1, 1) := by decide +kernel
theorem dX3_way_17 : decode cX3_way 17 = .ok (.invokevirtual 153, 3) := by decide +kernel
theorem dX3_way_20 : decode cX3_way 20 = .ok (.ireturn, 1) := by decide +kernel
set_option maxRecDepth 20000 in
theorem ggX3_first_X3_checkNode : GoodIn wsX3_first wsX3_checkNode := goodIn_ca (goodIn_r _ [6, 7, 8, 9, 10, 11, 12, 13, 14, 15, 117, 118, 119, 120, 121, 122, 123, 124, 125, 126, 127, 128] (by decide +kernel) (by decide +kernel)) (goodIn_sub (fun _ h => List.mem_cons_of_mem _ (List.mem_append_right _ h)) (by decide +kernel))
set_option maxRecDepth 20000 in
theorem gX3_first_X3_checkNode : GoodIn wsX3_first (wsV RX3 49 RX3 yX3_checkNode wsX3_checkNode) := goodIn_app (goodIn_of _ (by decide +kernel)) ggX3_first_X3_checkNode
set_option maxRecDepth 20000 in
theorem ggX3_first_X2_lookAround : GoodIn wsX3_first wsX2_lookAround := goodIn_r _ [20, 21, 22, 23, 24, 25, 26, 27, 28, 29, 30, 31, 32, 33, 19, 34, 35, 36, 37, 38, 39, 40, 41, 42, 43, 44, 45, 46, 47, 48, 13, 49, 50, 51, 52, 53, 54, 55, 56, 57, 58, 59, 60, 61, 62, 63, 64, 65, 11, 12, 14, 15, 66, 67, 68, 69, 70, 71, 72, 73, 74, 75, 76, 77, 78, 79, 80, 81, 82, 83, 84, 85, 86, 87, 88, 89, 90, 91, 92, 93, 94, 95, 96, 97, 98, 99, 100, 101, 102, 103, 104, 129, 130, 131, 132, 133, 134, 135, 136, 137, 138, 139, 140, 141, 142, 143, 144, 120, 121, 122, 123, 124, 125, 126, 127, 128] (by decide +kernel) (by decide +kernel)
set_option maxRecDepth 20000 in
theorem gX3_first_X2_lookAround : GoodIn wsX3_first (wsV RX3 150 RX2 yX2_lookAround wsX2_lookAround) := goodIn_app (goodIn_of _ (by decide +kernel)) ggX3_first_X2_lookAround
set_option maxRecDepth 20000 in
theorem ggX3_first_X2_lastSideTo : GoodIn wsX3_first wsX2_lastSideTo := goodIn_r _ [108, 22, 23, 35, 46, 47, 48, 13, 49, 50, 101, 102, 103, 104, 55, 56, 57, 58, 59, 93, 94, 95, 19, 96, 36, 70, 129, 130, 131, 132, 133, 134, 135, 120, 121, 122, 123, 124, 125, 126, 127, 128] (by decide +kernel) (by decide +kernel)
set_option maxRecDepth 20000 in
theorem gX3_first_X2_lastSideTo : GoodIn wsX3_first (wsV RX3 156 RX2 yX2_lastSideTo wsX2_lastSideTo) := goodIn_app (goodIn_of _ (by decide +kernel)) ggX3_first_X2_lastSideTo
set_option maxRecDepth 20000 in
theorem ggX3_first_X2_firstRoadTo : GoodIn wsX3_first wsX2_firstRoadTo := goodIn_r _ [112, 113, 114, 115, 19, 116, 70, 71, 72, 73, 74, 23, 36, 75, 57, 58, 13, 59, 50, 129, 130, 131, 132, 133, 134, 135, 120, 121, 122, 123, 124, 125, 126, 127, 128] (by decide +kernel) (by decide +kernel)
set_option maxRecDepth 20000 in
theorem gX3_first_X2_firstRoadTo : GoodIn wsX3_first (wsV RX3 159 RX2 yX2_firstRoadTo wsX2_firstRoadTo) := goodIn_app (goodIn_of _ (by decide +kernel)) ggX3_first_X2_firstRoadTo
theorem dX3_first_0 : decode cX3_first 0 = .ok (.aload_n 0, 1) := by decide +kernel
theorem dX3_first_1 : decode cX3_first 1 = .ok (.iload_n 1, 1) := by decide +kernel
theorem dX3_first_2 : decode cX3_first 2 = .ok (.invokevirtual 49, 3) := by decide +kernel
theorem dX3_first_5 : decode cX3_first 5 = .ok (.aload_n 0, 1) := by decide +kernel
theorem dX3_first_6 : decode cX3_first 6 = .ok (.getfield 30, 3) := by decide +kernel
theorem dX3_first_9 : decode cX3_first 9 = .ok (.invokevirtual 150, 3) := by decide +kernel
theorem dX3_first_12 : decode cX3_first 12 = .ok (.aload_n 0, 1) := by decide +kernel
theorem dX3_first_13 : decode cX3_first 13 = .ok (.getfield 30, 3) := by decide +kernel
theorem dX3_first_16 : decode cX3_first 16 = .ok (.aload_n 0, 1) := by decide +kernel
theorem dX3_first_17 : decode cX3_first 17 = .ok (.getfield 30, 3) := by decide +kernel
theorem dX3_first_20 : decode cX3_first 20 = .ok (.iload_n 1, 1) := by decide +kernel
theorem dX3_first_21 : decode cX3_first 21 = .ok (.invokevirtual 156, 3) := by decide +kernel
theorem dX3_first_24 : decode cX3_first 24 = .ok (.invokevirtual 159, 3) := by decide +kernel
theorem dX3_first_27 : decode cX3_first 27 = .ok (.ireturn, 1) := by decide +kernel
set_option maxRecDepth 20000 in
theorem ggX3_wayToSide_X3_checkedSide : GoodIn wsX3_wayToSide wsX3_checkedSide := goodIn_ca (goodIn_r _ [6, 7, 8, 9, 10, 11, 12, 13, 14, 15, 106, 107, 108, 109, 110, 111, 112, 113, 114, 115, 116, 117] (by decide +kernel) (by decide +kernel)) (goodIn_sub (fun _ h => List.mem_cons_of_mem _ (List.mem_append_right _ h)) (by decide +kernel))
set_option maxRecDepth 20000 in
theorem gX3_wayToSide_X3_checkedSide : GoodIn wsX3_wayToSide (wsV RX3 90 RX3 yX3_checkedSide wsX3_checkedSide) := goodIn_app (goodIn_of _ (by decide +kernel)) ggX3_wayToSide_X3_checkedSide
set_option maxRecDepth 20000 in
theorem ggX3_wayToSide_X2_lookAround : GoodIn wsX3_wayToSide wsX2_lookAround := goodIn_r _ [20, 21, 22, 23, 24, 25, 26, 27, 28, 29, 30, 31, 32, 33, 19, 34, 35, 36, 37, 38, 39, 40, 41, 42, 43, 44, 45, 46, 47, 48, 13, 49, 15, 50, 51, 52, 53, 54, 55, 56, 57, 58, 59, 60, 61, 62, 63, 64, 65, 66, 67, 68, 69, 70, 71, 72, 73, 74, 75, 76, 77, 78, 79, 80, 81, 82, 83, 84, 85, 86, 87, 88, 89, 90, 91, 92, 11, 12, 14, 93, 94, 95, 96, 97, 98, 99, 100, 101, 102, 103, 104, 118, 119, 120, 121, 122, 123, 124, 125, 126, 127, 128, 129, 130, 131, 132, 133, 109, 110, 111, 112, 113, 114, 115, 116, 117] (by decide +kernel) (by decide +kernel)
set_option maxRecDepth 20000 in
theorem gX3_wayToSide_X2_lookAround : GoodIn wsX3_wayToSide (wsV RX3 150 RX2 yX2_lookAround wsX2_lookAround) := goodIn_app (goodIn_of _ (by decide +kernel)) ggX3_wayToSide_X2_lookAround
set_option maxRecDepth 20000 in
theorem ggX3_wayToSide_X2_minutesTo : GoodIn wsX3_wayToSide wsX2_minutesTo := goodIn_r _ [86, 23, 35, 78, 56, 57, 13, 58, 15, 118, 119, 120, 121, 122, 123, 124, 109, 110, 111, 112, 113, 114, 115, 116, 117] (by decide +kernel) (by decide +kernel)
set_option maxRecDepth 20000 in
theorem gX3_wayToSide_X2_minutesTo : GoodIn wsX3_wayToSide (wsV RX3 162 RX2 yX2_minutesTo wsX2_minutesTo) := goodIn_app (goodIn_of _ (by decide +kernel)) ggX3_wayToSide_X2_minutesTo
theorem dX3_wayToSide_0 : decode cX3_wayToSide 0 = .ok (.aload_n 0, 1) := by decide +kernel
theorem dX3_wayToSide_1 : decode cX3_wayToSide 1 = .ok (.iload_n 1, 1) := by decide +kernel
theorem dX3_wayToSide_2 : decode cX3_wayToSide 2 = .ok (.iload_n 2, 1) := by decide +kernel
theorem dX3_wayToSide_3 : decode cX3_wayToSide 3 = .ok (.invokevirtual 90, 3) := by decide +kernel
theorem dX3_wayToSide_6 : decode cX3_wayToSide 6 = .ok (.istore_n 3, 1) := by decide +kernel
theorem dX3_wayToSide_7 : decode cX3_wayToSide 7 = .ok (.aload_n 0, 1) := by decide +kernel
theorem dX3_wayToSide_8 : decode cX3_wayToSide 8 = .ok (.getfield 30, 3) := by decide +kernel
theorem dX3_wayToSide_11 : decode cX3_wayToSide 11 = .ok (.invokevirtual 150, 3) := by decide +kernel
theorem dX3_wayToSide_14 : decode cX3_wayToSide 14 = .ok (.aload_n 0, 1) := by decide +kernel
theorem dX3_wayToSide_15 : decode cX3_wayToSide 15 = .ok (.getfield 30, 3) := by decide +kernel
theorem dX3_wayToSide_18 : decode cX3_wayToSide 18 = .ok (.iload_n 3, 1) := by decide +kernel
theorem dX3_wayToSide_19 : decode cX3_wayToSide 19 = .ok (.invokevirtual 162, 3) := by decide +kernel
theorem dX3_wayToSide_22 : decode cX3_wayToSide 22 = .ok (.ireturn, 1) := by decide +kernel
set_option maxRecDepth 20000 in
theorem ggX3_firstToSide_X3_checkedSide : GoodIn wsX3_firstToSide wsX3_checkedSide := goodIn_ca (goodIn_r _ [6, 7, 8, 9, 10, 11, 12, 13, 14, 15, 113, 114, 115, 116, 117, 118, 119, 120, 121, 122, 123, 124] (by decide +kernel) (by decide +kernel)) (goodIn_sub (fun _ h => List.mem_cons_of_mem _ (List.mem_append_right _ h)) (by decide +kernel))
set_option maxRecDepth 20000 in
theorem gX3_firstToSide_X3_checkedSide : GoodIn wsX3_firstToSide (wsV RX3 90 RX3 yX3_checkedSide wsX3_checkedSide) := goodIn_app (goodIn_of _ (by decide +kernel)) ggX3_firstToSide_X3_checkedSide
set_option maxRecDepth 20000 in
theorem ggX3_firstToSide_X2_lookAround : GoodIn wsX3_firstToSide wsX2_lookAround := goodIn_r _ [20, 21, 22, 23, 24, 25, 26, 27, 28, 29, 30, 31, 32, 33, 19, 34, 35, 36, 37, 38, 39, 40, 41, 42, 43, 44, 45, 46, 47, 48, 13, 49, 15, 50, 51, 52, 53, 54, 55, 56, 57, 58, 59, 60, 61, 62, 63, 64, 65, 66, 67, 68, 69, 70, 71, 72, 73, 74, 75, 76, 77, 78, 79, 80, 81, 82, 83, 84, 85, 86, 87, 88, 89, 90, 91, 92, 11, 12, 14, 93, 94, 95, 96, 97, 98, 99, 100, 101, 102, 103, 104, 125, 126, 127, 128, 129, 130, 131, 132, 133, 134, 135, 136, 137, 138, 139, 140, 116, 117, 118, 119, 120, 121, 122, 123, 124] (by decide +kernel) (by decide +kernel)
set_option maxRecDepth 20000 in
theorem gX3_firstToSide_X2_lookAround : GoodIn wsX3_firstToSide (wsV RX3 150 RX2 yX2_lookAround wsX2_lookAround) := goodIn_app (goodIn_of _ (by decide +kernel)) ggX3_firstToSide_X2_lookAround
set_option maxRecDepth 20000 in
theorem ggX3_firstToSide_X2_firstRoadTo : GoodIn wsX3_firstToSide wsX2_firstRoadTo := goodIn_r _ [108, 109, 110, 111, 19, 112, 73, 74, 75, 76, 77, 23, 36, 78, 56, 57, 13, 58, 15, 125, 126, 127, 128, 129, 130, 131, 116, 117, 118, 119, 120, 121, 122, 123, 124] (by decide +kernel) (by decide +kernel)
set_option maxRecDepth 20000 in
theorem gX3_firstToSide_X2_firstRoadTo : GoodIn wsX3_firstToSide (wsV RX3 159 RX2 yX2_firstRoadTo wsX2_firstRoadTo) := goodIn_app (goodIn_of _ (by decide +kernel)) ggX3_firstToSide_X2_firstRoadTo
theorem dX3_firstToSide_0 : decode cX3_firstToSide 0 = .ok (.aload_n 0, 1) := by decide +kernel
theorem dX3_firstToSide_1 : decode cX3_firstToSide 1 = .ok (.iload_n 1, 1) := by decide +kernel
theorem dX3_firstToSide_2 : decode cX3_firstToSide 2 = .ok (.iload_n 2, 1) := by decide +kernel
theorem dX3_firstToSide_3 : decode cX3_firstToSide 3 = .ok (.invokevirtual 90, 3) := by decide +kernel
theorem dX3_firstToSide_6 : decode cX3_firstToSide 6 = .ok (.istore_n 3, 1) := by decide +kernel
theorem dX3_firstToSide_7 : decode cX3_firstToSide 7 = .ok (.aload_n 0, 1) := by decide +kernel
theorem dX3_firstToSide_8 : decode cX3_firstToSide 8 = .ok (.getfield 30, 3) := by decide +kernel
theorem dX3_firstToSide_11 : decode cX3_firstToSide 11 = .ok (.invokevirtual 150, 3) := by decide +kernel
theorem dX3_firstToSide_14 : decode cX3_firstToSide 14 = .ok (.aload_n 0, 1) := by decide +kernel
theorem dX3_firstToSide_15 : decode cX3_firstToSide 15 = .ok (.getfield 30, 3) := by decide +kernel
theorem dX3_firstToSide_18 : decode cX3_firstToSide 18 = .ok (.iload_n 3, 1) := by decide +kernel
theorem dX3_firstToSide_19 : decode cX3_firstToSide 19 = .ok (.invokevirtual 159, 3) := by decide +kernel
theorem dX3_firstToSide_22 : decode cX3_firstToSide 22 = .ok (.ireturn, 1) := by decide +kernel
set_option maxRecDepth 20000 in
theorem ggX3_next_X3_findNextSide : GoodIn wsX3_next wsX3_findNextSide := goodIn_r _ [5, 6, 7, 8, 9, 10, 11, 12, 13, 14, 15, 16, 17, 18, 19, 20, 21, 22, 23, 24, 25, 26, 27, 28, 29, 30, 31, 32, 33, 34, 35, 36, 37, 38, 39, 40, 41, 42, 43, 44, 45, 46, 47, 48, 49, 50, 51, 52, 53, 54, 55, 56, 57, 58, 59, 60, 61, 62, 63, 64, 65, 66, 67, 68, 69, 70, 71, 72, 73, 74, 75, 76, 77, 78, 79, 80, 81, 82, 83, 84, 85, 86, 87, 88, 89, 90, 91, 92, 93, 94, 95, 96, 97, 98, 99, 100, 101, 102, 103, 104, 105, 106, 107, 108, 109, 110, 111, 4, 112, 113, 114, 115, 116, 117, 118, 119, 120, 121, 122, 123, 124, 125, 126, 127, 128, 129, 130, 131, 132, 133, 134, 135, 136, 137, 138, 139, 140, 141, 142, 143, 144, 145] (by decide +kernel) (by decide +kernel)
set_option maxRecDepth 20000 in
theorem gX3_next_X3_findNextSide : GoodIn wsX3_next (wsV RX3 165 RX3 yX3_findNextSide wsX3_findNextSide) := goodIn_app (goodIn_of _ (by decide +kernel)) ggX3_next_X3_findNextSide
theorem dX3_next_0 : decode cX3_next 0 = .ok (.aload_n 0, 1) := by decide +kernel
theorem dX3_next_1 : decode cX3_next 1 = .ok (.invokevirtual 165, 3) := by decide +kernel
theorem dX3_next_4 : decode cX3_next 4 = .ok (.ireturn, 1) := by decide +kernel
set_option maxRecDepth 20000 in
theorem ggX3_clear_X3_findNextSide : GoodIn wsX3_clear wsX3_findNextSide := goodIn_r _ [8, 9, 10, 11, 12, 13, 14, 15, 16, 17, 18, 19, 20, 21, 22, 23, 24, 25, 26, 27, 28, 29, 30, 31, 32, 33, 34, 35, 36, 37, 38, 39, 40, 41, 42, 43, 44, 45, 46, 47, 48, 49, 50, 51, 52, 53, 54, 55, 56, 57, 58, 59, 60, 61, 62, 63, 64, 65, 66, 67, 68, 69, 70, 71, 72, 73, 74, 75, 76, 77, 78, 79, 80, 81, 82, 83, 84, 85, 86, 87, 88, 89, 90, 91, 92, 93, 94, 95, 96, 97, 98, 99, 100, 101, 102, 103, 104, 105, 106, 107, 108, 109, 110, 111, 112, 113, 114, 7, 115, 116, 117, 118, 119, 120, 208, 209, 210, 211, 212, 213, 214, 215, 216, 217, 218, 219, 220, 221, 222, 223, 224, 225, 226, 227, 228, 229, 230, 231, 232, 233, 234, 235] (by decide +kernel) (by decide +kernel)
set_option maxRecDepth 20000 in
theorem gX3_clear_X3_findNextSide : GoodIn wsX3_clear (wsV RX3 165 RX3 yX3_findNextSide wsX3_findNextSide) := goodIn_app (goodIn_of _ (by decide +kernel)) ggX3_clear_X3_findNextSide
set_option maxRecDepth 20000 in
theorem ggX3_clear_X1_lacksSaltFor : GoodIn wsX3_clear wsX1_lacksSaltFor := goodIn_r _ [124, 125, 126, 127, 128, 85, 86, 44, 87, 88, 89, 90, 91, 92, 46, 218, 219, 220, 221, 222, 223, 224, 225, 226, 227, 228, 229, 230, 231, 232, 233, 234, 235] (by decide +kernel) (by decide +kernel)
set_option maxRecDepth 20000 in
theorem gX3_clear_X1_lacksSaltFor : GoodIn wsX3_clear (wsV RX3 170 RX1 yX1_lacksSaltFor wsX1_lacksSaltFor) := goodIn_app (goodIn_of _ (by decide +kernel)) ggX3_clear_X1_lacksSaltFor
set_option maxRecDepth 20000 in
theorem ggX3_clear_X3_nearestStore : GoodIn wsX3_clear wsX3_nearestStore := goodIn_r _ [132, 10, 9, 133, 134, 135, 44, 136, 65, 137, 138, 139, 140, 141, 61, 62, 63, 64, 142, 143, 144, 14, 145, 17, 146, 147, 148, 149, 18, 30, 41, 42, 43, 45, 46, 101, 102, 103, 104, 51, 52, 53, 54, 55, 93, 94, 95, 96, 31, 70, 80, 81, 82, 83, 75, 208, 209, 210, 227, 228, 229, 230, 231, 232, 233, 234, 235, 211, 212, 213, 214, 215, 216, 217] (by decide +kernel) (by decide +kernel)
set_option maxRecDepth 20000 in
theorem gX3_clear_X3_nearestStore : GoodIn wsX3_clear (wsV RX3 173 RX3 yX3_nearestStore wsX3_nearestStore) := goodIn_app (goodIn_of _ (by decide +kernel)) ggX3_clear_X3_nearestStore
set_option maxRecDepth 20000 in
theorem ggX3_clear_X3_fillUpAt : GoodIn wsX3_clear wsX3_fillUpAt := goodIn_r _ [153, 9, 3, 154, 147, 148, 14, 149, 17, 18, 30, 41, 42, 43, 44, 45, 46, 101, 102, 103, 104, 51, 52, 53, 54, 55, 93, 94, 95, 96, 31, 70, 155, 156, 157, 7, 158, 159, 72, 73, 74, 75, 160, 161, 162, 163, 71, 164, 165, 166, 23, 167, 127, 25, 36, 168, 169, 170, 171, 172, 173, 174, 175, 176, 177, 178, 128, 85, 86, 87, 88, 89, 90, 91, 92, 179, 107, 108, 109, 110, 180, 181, 182, 183, 125, 126, 184, 185, 186, 187, 188, 189, 190, 191, 192, 193, 194, 195, 196, 197, 198, 199, 200, 201, 202, 203, 204, 205, 206, 207, 208, 209, 210, 211, 212, 213, 214, 215, 216, 217, 227, 228, 229, 230, 231, 232, 233, 234, 235, 218, 219, 220, 221, 222, 223, 224, 225, 226] (by decide +kernel) (by decide +kernel)
set_option maxRecDepth 20000 in
theorem gX3_clear_X3_fillUpAt : GoodIn wsX3_clear (wsV RX3 176 RX3 yX3_fillUpAt wsX3_fillUpAt) := goodIn_app (goodIn_of _ (by decide +kernel)) ggX3_clear_X3_fillUpAt
set_option maxRecDepth 20000 in
theorem ggX3_clear_X3_followWayTo : GoodIn wsX3_clear wsX3_followWayTo := goodIn_r _ [158, 9, 3, 159, 72, 73, 14, 74, 18, 31, 75, 53, 54, 44, 55, 46, 160, 161, 162, 163, 70, 71, 164, 165, 166, 23, 167, 127, 25, 36, 168, 169, 170, 171, 172, 173, 174, 175, 176, 177, 178, 51, 52, 128, 85, 86, 87, 88, 89, 90, 91, 92, 179, 107, 108, 109, 110, 180, 181, 182, 183, 125, 126, 184, 185, 186, 187, 188, 189, 190, 191, 192, 193, 194, 195, 196, 197, 198, 199, 200, 201, 202, 102, 103, 104, 208, 209, 210, 211, 212, 213, 214, 215, 216, 217, 227, 228, 229, 230, 231, 232, 233, 234, 235, 218, 219, 220, 221, 222, 223, 224, 225, 226] (by decide +kernel) (by decide +kernel)
set_option maxRecDepth 20000 in
theorem gX3_clear_X3_followWayTo : GoodIn wsX3_clear (wsV RX3 179 RX3 yX3_followWayTo wsX3_followWayTo) := goodIn_app (goodIn_of _ (by decide +kernel)) ggX3_clear_X3_followWayTo
theorem dX3_clear_0 : decode cX3_clear 0 = .ok (.iload_n 1, 1) := by decide +kernel
theorem dX3_clear_1 : decode cX3_clear 1 = .ok (.ifCond .lt 10, 3) := by decide +kernel
theorem dX3_clear_4 : decode cX3_clear 4 = .ok (.iload_n 1, 1) := by decide +kernel
theorem dX3_clear_5 : decode cX3_clear 5 = .ok (.sipush 300, 3) := by decide +kernel
theorem dX3_clear_8 : decode cX3_clear 8 = .ok (.if_icmp .le 13, 3) := by decide +kernel
theorem dX3_clear_11 : decode cX3_clear 11 = .ok (.new 60, 3) := by decide +kernel
theorem dX3_clear_14 : decode cX3_clear 14 = .ok (.dup, 1) := by decide +kernel
theorem dX3_clear_15 : decode cX3_clear 15 = .ok (.ldc 168, 2) := by decide +kernel
theorem dX3_clear_17 : decode cX3_clear 17 = .ok (.invokespecial 64, 3) := by decide +kernel
theorem dX3_clear_20 : decode cX3_clear 20 = .ok (.athrow, 1) := by decide +kernel
theorem dX3_clear_21 : decode cX3_clear 21 = .ok (.iconst 0, 1) := by decide +kernel
theorem dX3_clear_22 : decode cX3_clear 22 = .ok (.istore_n 2, 1) := by decide +kernel
theorem dX3_clear_23 : decode cX3_clear 23 = .ok (.aload_n 0, 1) := by decide +kernel
theorem dX3_clear_24 : decode cX3_clear 24 = .ok (.invokevirtual 165, 3) := by decide +kernel
theorem dX3_clear_27 : decode cX3_clear 27 = .ok (.istore_n 3, 1) := by decide +kernel
theorem dX3_clear_28 : decode cX3_clear 28 = .ok (.iconst 0, 1) := by decide +kernel
theorem dX3_clear_29 : decode cX3_clear 29 = .ok (.istore 4, 2) := by decide +kernel
theorem dX3_clear_31 : decode cX3_clear 31 = .ok (.iload 4, 2) := by decide +kernel
theorem dX3_clear_33 : decode cX3_clear 33 = .ok (.iload_n 1, 1) := by decide +kernel
theorem dX3_clear_34 : decode cX3_clear 34 = .ok (.if_icmp .ge 71, 3) := by decide +kernel
theorem dX3_clear_37 : decode cX3_clear 37 = .ok (.iload_n 2, 1) := by decide +kernel
theorem dX3_clear_38 : decode cX3_clear 38 = .ok (.iload_n 1, 1) := by decide +kernel
theorem dX3_clear_39 : decode cX3_clear 39 = .ok (.if_icmp .ge 66, 3) := by decide +kernel
theorem dX3_clear_42 : decode cX3_clear 42 = .ok (.iload_n 3, 1) := by decide +kernel
theorem dX3_clear_43 : decode cX3_clear 43 = .ok (.iconst (-1), 1) := by decide +kernel
theorem dX3_clear_44 : decode cX3_clear 44 = .ok (.if_icmp .eq 61, 3) := by decide +kernel
theorem dX3_clear_47 : decode cX3_clear 47 = .ok (.aload_n 0, 1) := by decide +kernel
theorem dX3_clear_48 : decode cX3_clear 48 = .ok (.getfield 21, 3) := by decide +kernel
theorem dX3_clear_51 : decode cX3_clear 51 = .ok (.iload_n 3, 1) := by decide +kernel
theorem dX3_clear_52 : decode cX3_clear 52 = .ok (.iconst 2, 1) := by decide +kernel
theorem dX3_clear_53 : decode cX3_clear 53 = .ok (.idiv, 1) := by decide +kernel
theorem dX3_clear_54 : decode cX3_clear 54 = .ok (.invokevirtual 170, 3) := by decide +kernel
theorem dX3_clear_57 : decode cX3_clear 57 = .ok (.ifCond .eq 29, 3) := by decide +kernel
theorem dX3_clear_60 : decode cX3_clear 60 = .ok (.aload_n 0, 1) := by decide +kernel
theorem dX3_clear_61 : decode cX3_clear 61 = .ok (.invokevirtual 173, 3) := by decide +kernel
theorem dX3_clear_64 : decode cX3_clear 64 = .ok (.istore 5, 2) := by decide +kernel
theorem dX3_clear_66 : decode cX3_clear 66 = .ok (.iload 5, 2) := by decide +kernel
theorem dX3_clear_68 : decode cX3_clear 68 = .ok (.iconst (-1), 1) := by decide +kernel
theorem dX3_clear_69 : decode cX3_clear 69 = .ok (.if_icmp .eq 17, 3) := by decide +kernel
theorem dX3_clear_72 : decode cX3_clear 72 = .ok (.iload_n 2, 1) := by decide +kernel
theorem dX3_clear_73 : decode cX3_clear 73 = .ok (.aload_n 0, 1) := by decide +kernel
theorem dX3_clear_74 : decode cX3_clear 74 = .ok (.iload 5, 2) := by decide +kernel
theorem dX3_clear_76 : decode cX3_clear 76 = .ok (.invokevirtual 176, 3) := by decide +kernel
theorem dX3_clear_79 : decode cX3_clear 79 = .ok (.iadd, 1) := by decide +kernel
theorem dX3_clear_80 : decode cX3_clear 80 = .ok (.istore_n 2, 1) := by decide +kernel
theorem dX3_clear_81 : decode cX3_clear 81 = .ok (.aload_n 0, 1) := by decide +kernel
theorem dX3_clear_82 : decode cX3_clear 82 = .ok (.invokevirtual 165, 3) := by decide +kernel
theorem dX3_clear_85 : decode cX3_clear 85 = .ok (.istore_n 3, 1) := by decide +kernel
theorem dX3_clear_86 : decode cX3_clear 86 = .ok (.iload_n 2, 1) := by decide +kernel
theorem dX3_clear_87 : decode cX3_clear 87 = .ok (.aload_n 0, 1) := by decide +kernel
theorem dX3_clear_88 : decode cX3_clear 88 = .ok (.iload_n 3, 1) := by decide +kernel
theorem dX3_clear_89 : decode cX3_clear 89 = .ok (.invokevirtual 179, 3) := by decide +kernel
theorem dX3_clear_92 : decode cX3_clear 92 = .ok (.iadd, 1) := by decide +kernel
theorem dX3_clear_93 : decode cX3_clear 93 = .ok (.istore_n 2, 1) := by decide +kernel
theorem dX3_clear_94 : decode cX3_clear 94 = .ok (.aload_n 0, 1) := by decide +kernel
theorem dX3_clear_95 : decode cX3_clear 95 = .ok (.invokevirtual 165, 3) := by decide +kernel
theorem dX3_clear_98 : decode cX3_clear 98 = .ok (.istore_n 3, 1) := by decide +kernel
theorem dX3_clear_99 : decode cX3_clear 99 = .ok (.iinc 4 1, 3) := by decide +kernel
theorem dX3_clear_102 : decode cX3_clear 102 = .ok (.goto (-71), 3) := by decide +kernel
theorem dX3_clear_105 : decode cX3_clear 105 = .ok (.iload_n 2, 1) := by decide +kernel
theorem dX3_clear_106 : decode cX3_clear 106 = .ok (.ireturn, 1) := by decide +kernel
set_option maxRecDepth 20000 in
theorem ggX3_total_X3_checkFact : GoodIn wsX3_total wsX3_checkFact := goodIn_ca (goodIn_r _ [5, 6, 7] (by decide +kernel) (by decide +kernel)) (goodIn_sub (fun _ h => List.mem_cons_of_mem _ (List.mem_append_right _ h)) (by decide +kernel))
set_option maxRecDepth 20000 in
theorem gX3_total_X3_checkFact : GoodIn wsX3_total (va_wsS RX3 144 yX3_checkFact wsX3_checkFact) := goodIn_app (goodIn_of _ (by decide +kernel)) ggX3_total_X3_checkFact
set_option maxRecDepth 20000 in
theorem ggX3_total_X1_totalFact : GoodIn wsX3_total wsX1_totalFact := goodIn_r _ [12, 13, 14, 15, 16, 20, 21, 22, 23, 24, 25, 26, 27, 28] (by decide +kernel) (by decide +kernel)
set_option maxRecDepth 20000 in
theorem gX3_total_X1_totalFact : GoodIn wsX3_total (wsV RX3 182 RX1 yX1_totalFact wsX1_totalFact) := goodIn_app (goodIn_of _ (by decide +kernel)) ggX3_total_X1_totalFact
theorem dX3_total_0 : decode cX3_total 0 = .ok (.iload_n 1, 1) := by decide +kernel
theorem dX3_total_1 : decode cX3_total 1 = .ok (.invokestatic 144, 3) := by decide +kernel
theorem dX3_total_4 : decode cX3_total 4 = .ok (.aload_n 0, 1) := by decide +kernel
theorem dX3_total_5 : decode cX3_total 5 = .ok (.getfield 21, 3) := by decide +kernel
theorem dX3_total_8 : decode cX3_total 8 = .ok (.iload_n 1, 1) := by decide +kernel
theorem dX3_total_9 : decode cX3_total 9 = .ok (.invokevirtual 182, 3) := by decide +kernel
theorem dX3_total_12 : decode cX3_total 12 = .ok (.lreturn, 1) := by decide +kernel
set_option maxRecDepth 20000 in
theorem ggX3_digest_X0_addTo : GoodIn wsX3_digest wsX0_addTo := goodIn_r _ [9, 10, 11, 12, 13, 14, 15, 16, 17, 8, 18, 19, 20, 21, 22, 23, 24, 25, 26, 27, 28, 29, 30, 31, 32, 53, 54, 55, 56, 57, 58, 59, 60, 61] (by decide +kernel) (by decide +kernel)
set_option maxRecDepth 20000 in
theorem gX3_digest_X0_addTo : GoodIn wsX3_digest (wsV RX3 188 RX0 yX0_addTo wsX0_addTo) := goodIn_app (goodIn_of _ (by decide +kernel)) ggX3_digest_X0_addTo
set_option maxRecDepth 20000 in
theorem ggX3_digest_X1_stateFact : GoodIn wsX3_digest wsX1_stateFact := goodIn_r _ [37, 38, 39, 40, 41, 62, 63, 64, 65, 66, 67, 68, 69, 70] (by decide +kernel) (by decide +kernel)
set_option maxRecDepth 20000 in
theorem gX3_digest_X1_stateFact : GoodIn wsX3_digest (wsV RX3 147 RX1 yX1_stateFact wsX1_stateFact) := goodIn_app (goodIn_of _ (by decide +kernel)) ggX3_digest_X1_stateFact
set_option maxRecDepth 20000 in
theorem ggX3_digest_X1_totalFact : GoodIn wsX3_digest wsX1_totalFact := goodIn_r _ [45, 46, 47, 48, 49, 62, 63, 64, 65, 66, 67, 68, 69, 70] (by decide +kernel) (by decide +kernel)
set_option maxRecDepth 20000 in
theorem gX3_digest_X1_totalFact : GoodIn wsX3_digest (wsV RX3 182 RX1 yX1_totalFact wsX1_totalFact) := goodIn_app (goodIn_of _ (by decide +kernel)) ggX3_digest_X1_totalFact
theorem dX3_digest_0 : decode cX3_digest 0 = .ok (.aload_n 0, 1) := by decide +kernel
theorem dX3_digest_1 : decode cX3_digest 1 = .ok (.getfield 12, 3) := by decide +kernel
theorem dX3_digest_4 : decode cX3_digest 4 = .ok (.ldc2_w 186, 3) := by decide +kernel
theorem dX3_digest_7 : decode cX3_digest 7 = .ok (.invokevirtual 188, 3) := by decide +kernel
theorem dX3_digest_10 : decode cX3_digest 10 = .ok (.lstore_n 1, 1) := by decide +kernel
theorem dX3_digest_11 : decode cX3_digest 11 = .ok (.iconst 0, 1) := by decide +kernel
theorem dX3_digest_12 : decode cX3_digest 12 = .ok (.istore_n 3, 1) := by decide +kernel
theorem dX3_digest_13 : decode cX3_digest 13 = .ok (.iload_n 3, 1) := by decide +kernel
theorem dX3_digest_14 : decode cX3_digest 14 = .ok (.iconst 3, 1) := by decide +kernel
theorem dX3_digest_15 : decode cX3_digest 15 = .ok (.if_icmp .gt 25, 3) := by decide +kernel
theorem dX3_digest_18 : decode cX3_digest 18 = .ok (.lload_n 1, 1) := by decide +kernel
theorem dX3_digest_19 : decode cX3_digest 19 = .ok (.ldc2_w 192, 3) := by decide +kernel
theorem dX3_digest_22 : decode cX3_digest 22 = .ok (.lmul, 1) := by decide +kernel
theorem dX3_digest_23 : decode cX3_digest 23 = .ok (.aload_n 0, 1) := by decide +kernel
theorem dX3_digest_24 : decode cX3_digest 24 = .ok (.getfield 21, 3) := by decide +kernel
theorem dX3_digest_27 : decode cX3_digest 27 = .ok (.iload_n 3, 1) := by decide +kernel
theorem dX3_digest_28 : decode cX3_digest 28 = .ok (.invokevirtual 147, 3) := by decide +kernel
theorem dX3_digest_31 : decode cX3_digest 31 = .ok (.i2l, 1) := by decide +kernel
theorem dX3_digest_32 : decode cX3_digest 32 = .ok (.ladd, 1) := by decide +kernel
theorem dX3_digest_33 : decode cX3_digest 33 = .ok (.lstore_n 1, 1) := by decide +kernel
theorem dX3_digest_34 : decode cX3_digest 34 = .ok (.iinc 3 1, 3) := by decide +kernel
theorem dX3_digest_37 : decode cX3_digest 37 = .ok (.goto (-24), 3) := by decide +kernel
theorem dX3_digest_40 : decode cX3_digest 40 = .ok (.iconst 0, 1) := by decide +kernel
theorem dX3_digest_41 : decode cX3_digest 41 = .ok (.istore_n 3, 1) := by decide +kernel
theorem dX3_digest_42 : decode cX3_digest 42 = .ok (.iload_n 3, 1) := by decide +kernel
theorem dX3_digest_43 : decode cX3_digest 43 = .ok (.iconst 3, 1) := by decide +kernel
theorem dX3_digest_44 : decode cX3_digest 44 = .ok (.if_icmp .gt 24, 3) := by decide +kernel
theorem dX3_digest_47 : decode cX3_digest 47 = .ok (.lload_n 1, 1) := by decide +kernel
theorem dX3_digest_48 : decode cX3_digest 48 = .ok (.ldc2_w 192, 3) := by decide +kernel
theorem dX3_digest_51 : decode cX3_digest 51 = .ok (.lmul, 1) := by decide +kernel
theorem dX3_digest_52 : decode cX3_digest 52 = .ok (.aload_n 0, 1) := by decide +kernel
theorem dX3_digest_53 : decode cX3_digest 53 = .ok (.getfield 21, 3) := by decide +kernel
theorem dX3_digest_56 : decode cX3_digest 56 = .ok (.iload_n 3, 1) := by decide +kernel
theorem dX3_digest_57 : decode cX3_digest 57 = .ok (.invokevirtual 182, 3) := by decide +kernel
theorem dX3_digest_60 : decode cX3_digest 60 = .ok (.ladd, 1) := by decide +kernel
theorem dX3_digest_61 : decode cX3_digest 61 = .ok (.lstore_n 1, 1) := by decide +kernel
theorem dX3_digest_62 : decode cX3_digest 62 = .ok (.iinc 3 1, 3) := by decide +kernel
theorem dX3_digest_65 : decode cX3_digest 65 = .ok (.goto (-23), 3) := by decide +kernel
theorem dX3_digest_68 : decode cX3_digest 68 = .ok (.lload_n 1, 1) := by decide +kernel
theorem dX3_digest_69 : decode cX3_digest 69 = .ok (.lreturn, 1) := by decide +kernel
set_option maxRecDepth 20000 in
theorem ggX3_checkNode_X0_hasNode : GoodIn wsX3_checkNode wsX0_hasNode := goodIn_r _ [8, 9, 13, 14, 15, 16, 17, 18, 19, 20, 21] (by decide +kernel) (by decide +kernel)
set_option maxRecDepth 20000 in
theorem gX3_checkNode_X0_hasNode : GoodIn wsX3_checkNode (wsV RX3 194 RX0 yX0_hasNode wsX0_hasNode) := goodIn_app (goodIn_of _ (by decide +kernel)) ggX3_checkNode_X0_hasNode
theorem dX3_checkNode_0 : decode cX3_checkNode 0 = .ok (.aload_n 0, 1) := by decide +kernel
theorem dX3_checkNode_1 : decode cX3_checkNode 1 = .ok (.getfield 12, 3) := by decide +kernel
theorem dX3_checkNode_4 : decode cX3_checkNode 4 = .ok (.iload_n 1, 1) := by decide +kernel
theorem dX3_checkNode_5 : decode cX3_checkNode 5 = .ok (.invokevirtual 194, 3) := by decide +kernel
theorem dX3_checkNode_8 : decode cX3_checkNode 8 = .ok (.ifCond .ne 13, 3) := by decide +kernel
theorem dX3_checkNode_11 : decode cX3_checkNode 11 = .ok (.new 101, 3) := by decide +kernel
theorem dX3_checkNode_14 : decode cX3_checkNode 14 = .ok (.dup, 1) := by decide +kernel
theorem dX3_checkNode_15 : decode cX3_checkNode 15 = .ok (.ldc 197, 2) := by decide +kernel
theorem dX3_checkNode_17 : decode cX3_checkNode 17 = .ok (.invokespecial 103, 3) := by decide +kernel
theorem dX3_checkNode_20 : decode cX3_checkNode 20 = .ok (.athrow, 1) := by decide +kernel
theorem dX3_checkNode_21 : decode cX3_checkNode 21 = .ok (.return_, 1) := by decide +kernel
set_option maxRecDepth 20000 in
theorem ggX3_checkedSide_X0_hasRoad : GoodIn wsX3_checkedSide wsX0_hasRoad := goodIn_r _ [8, 9, 13, 14, 15, 16, 17, 18, 19, 20, 21] (by decide +kernel) (by decide +kernel)
set_option maxRecDepth 20000 in
theorem gX3_checkedSide_X0_hasRoad : GoodIn wsX3_checkedSide (wsV RX3 120 RX0 yX0_hasRoad wsX0_hasRoad) := goodIn_app (goodIn_of _ (by decide +kernel)) ggX3_checkedSide_X0_hasRoad
theorem dX3_checkedSide_0 : decode cX3_checkedSide 0 = .ok (.aload_n 0, 1) := by decide +kernel
theorem dX3_checkedSide_1 : decode cX3_checkedSide 1 = .ok (.getfield 12, 3) := by decide +kernel
theorem dX3_checkedSide_4 : decode cX3_checkedSide 4 = .ok (.iload_n 1, 1) := by decide +kernel
theorem dX3_checkedSide_5 : decode cX3_checkedSide 5 = .ok (.invokevirtual 120, 3) := by decide +kernel
theorem dX3_checkedSide_8 : decode cX3_checkedSide 8 = .ok (.ifCond .eq 12, 3) := by decide +kernel
theorem dX3_checkedSide_11 : decode cX3_checkedSide 11 = .ok (.iload_n 2, 1) := by decide +kernel
theorem dX3_checkedSide_12 : decode cX3_checkedSide 12 = .ok (.ifCond .lt 8, 3) := by decide +kernel
theorem dX3_checkedSide_15 : decode cX3_checkedSide 15 = .ok (.iload_n 2, 1) := by decide +kernel
theorem dX3_checkedSide_16 : decode cX3_checkedSide 16 = .ok (.iconst 1, 1) := by decide +kernel
theorem dX3_checkedSide_17 : decode cX3_checkedSide 17 = .ok (.if_icmp .le 13, 3) := by decide +kernel
theorem dX3_checkedSide_20 : decode cX3_checkedSide 20 = .ok (.new 101, 3) := by decide +kernel
theorem dX3_checkedSide_23 : decode cX3_checkedSide 23 = .ok (.dup, 1) := by decide +kernel
theorem dX3_checkedSide_24 : decode cX3_checkedSide 24 = .ok (.ldc 199, 2) := by decide +kernel
theorem dX3_checkedSide_26 : decode cX3_checkedSide 26 = .ok (.invokespecial 103, 3) := by decide +kernel
theorem dX3_checkedSide_29 : decode cX3_checkedSide 29 = .ok (.athrow, 1) := by decide +kernel
theorem dX3_checkedSide_30 : decode cX3_checkedSide 30 = .ok (.iconst 2, 1) := by decide +kernel
theorem dX3_checkedSide_31 : decode cX3_checkedSide 31 = .ok (.iload_n 1, 1) := by decide +kernel
theorem dX3_checkedSide_32 : decode cX3_checkedSide 32 = .ok (.imul, 1) := by decide +kernel
theorem dX3_checkedSide_33 : decode cX3_checkedSide 33 = .ok (.iload_n 2, 1) := by decide +kernel
theorem dX3_checkedSide_34 : decode cX3_checkedSide 34 = .ok (.iadd, 1) := by decide +kernel
theorem dX3_checkedSide_35 : decode cX3_checkedSide 35 = .ok (.ireturn, 1) := by decide +kernel
theorem dX3_checkFact_0 : decode cX3_checkFact 0 = .ok (.iload_n 0, 1) := by decide +kernel
theorem dX3_checkFact_1 : decode cX3_checkFact 1 = .ok (.ifCond .lt 8, 3) := by decide +kernel
theorem dX3_checkFact_4 : decode cX3_checkFact 4 = .ok (.iload_n 0, 1) := by decide +kernel
theorem dX3_checkFact_5 : decode cX3_checkFact 5 = .ok (.iconst 3, 1) := by decide +kernel
theorem dX3_checkFact_6 : decode cX3_checkFact 6 = .ok (.if_icmp .le 13, 3) := by decide +kernel
theorem dX3_checkFact_9 : decode cX3_checkFact 9 = .ok (.new 101, 3) := by decide +kernel
theorem dX3_checkFact_12 : decode cX3_checkFact 12 = .ok (.dup, 1) := by decide +kernel
theorem dX3_checkFact_13 : decode cX3_checkFact 13 = .ok (.ldc 201, 2) := by decide +kernel
theorem dX3_checkFact_15 : decode cX3_checkFact 15 = .ok (.invokespecial 103, 3) := by decide +kernel
theorem dX3_checkFact_18 : decode cX3_checkFact 18 = .ok (.athrow, 1) := by decide +kernel
theorem dX3_checkFact_19 : decode cX3_checkFact 19 = .ok (.return_, 1) := by decide +kernel
theorem dX3_isPriority_0 : decode cX3_isPriority 0 = .ok (.iload_n 0, 1) := by decide +kernel
theorem dX3_isPriority_1 : decode cX3_isPriority 1 = .ok (.ifCond .lt 12, 3) := by decide +kernel
theorem dX3_isPriority_4 : decode cX3_isPriority 4 = .ok (.iload_n 0, 1) := by decide +kernel
theorem dX3_isPriority_5 : decode cX3_isPriority 5 = .ok (.iconst 2, 1) := by decide +kernel
theorem dX3_isPriority_6 : decode cX3_isPriority 6 = .ok (.if_icmp .gt 7, 3) := by decide +kernel
theorem dX3_isPriority_9 : decode cX3_isPriority 9 = .ok (.iconst 1, 1) := by decide +kernel
theorem dX3_isPriority_10 : decode cX3_isPriority 10 = .ok (.goto 4, 3) := by decide +kernel
theorem dX3_isPriority_13 : decode cX3_isPriority 13 = .ok (.iconst 0, 1) := by decide +kernel
theorem dX3_isPriority_14 : decode cX3_isPriority 14 = .ok (.ireturn, 1) := by decide +kernel
set_option maxRecDepth 20000 in
theorem ggX3_findNextSide_X2_lookAround : GoodIn wsX3_findNextSide wsX2_lookAround := goodIn_r _ [7, 8, 9, 10, 11, 12, 13, 14, 15, 16, 17, 18, 19, 20, 6, 21, 22, 23, 24, 25, 26, 27, 28, 29, 30, 31, 32, 33, 34, 35, 36, 37, 38, 39, 40, 41, 42, 43, 44, 45, 46, 47, 48, 49, 50, 51, 52, 53, 54, 55, 56, 57, 58, 59, 60, 61, 62, 63, 64, 65, 66, 67, 68, 69, 70, 71, 72, 73, 74, 75, 76, 77, 78, 79, 80, 81, 82, 83, 84, 85, 86, 87, 88, 89, 90, 91, 92, 93, 94, 95, 96, 117, 118, 119, 120, 121, 122, 123, 124, 125, 126, 127, 128, 129, 130, 131, 132, 133, 134, 135, 136, 137, 138, 139, 140, 141] (by decide +kernel) (by decide +kernel)
set_option maxRecDepth 20000 in
theorem gX3_findNextSide_X2_lookAround : GoodIn wsX3_findNextSide (wsV RX3 150 RX2 yX2_lookAround wsX2_lookAround) := goodIn_app (goodIn_of _ (by decide +kernel)) ggX3_findNextSide_X2_lookAround
set_option maxRecDepth 20000 in
theorem ggX3_findNextSide_X0_sideCount : GoodIn wsX3_findNextSide wsX0_sideCount := goodIn_r _ [37, 38, 133, 134, 135, 136, 137, 138, 139, 140, 141] (by decide +kernel) (by decide +kernel)
set_option maxRecDepth 20000 in
theorem gX3_findNextSide_X0_sideCount : GoodIn wsX3_findNextSide (wsV RX3 110 RX0 yX0_sideCount wsX0_sideCount) := goodIn_app (goodIn_of _ (by decide +kernel)) ggX3_findNextSide_X0_sideCount
set_option maxRecDepth 20000 in
theorem ggX3_findNextSide_X0_snowOn : GoodIn wsX3_findNextSide wsX0_snowOn := goodIn_r _ [101, 102, 44, 45, 46, 36, 47, 38, 133, 134, 135, 136, 137, 138, 139, 140, 141] (by decide +kernel) (by decide +kernel)
set_option maxRecDepth 20000 in
theorem gX3_findNextSide_X0_snowOn : GoodIn wsX3_findNextSide (wsV RX3 94 RX0 yX0_snowOn wsX0_snowOn) := goodIn_app (goodIn_of _ (by decide +kernel)) ggX3_findNextSide_X0_snowOn
set_option maxRecDepth 20000 in
theorem ggX3_findNextSide_X2_minutesTo : GoodIn wsX3_findNextSide wsX2_minutesTo := goodIn_r _ [75, 10, 22, 67, 45, 46, 36, 47, 38, 117, 118, 119, 120, 121, 122, 123, 133, 134, 135, 136, 137, 138, 139, 140, 141] (by decide +kernel) (by decide +kernel)
set_option maxRecDepth 20000 in
theorem gX3_findNextSide_X2_minutesTo : GoodIn wsX3_findNextSide (wsV RX3 162 RX2 yX2_minutesTo wsX2_minutesTo) := goodIn_app (goodIn_of _ (by decide +kernel)) ggX3_findNextSide_X2_minutesTo
set_option maxRecDepth 20000 in
theorem ggX3_findNextSide_X3_isMoreUrgent : GoodIn wsX3_findNextSide wsX3_isMoreUrgent := goodIn_r _ [108, 2, 1, 109, 110, 111, 36, 112, 113, 81, 82, 83, 84, 38, 103, 73, 74, 6, 75, 10, 22, 67, 45, 46, 47, 114, 115, 116, 133, 134, 135, 136, 137, 138, 139, 140, 141, 117, 118, 119, 120, 121, 122, 123] (by decide +kernel) (by decide +kernel)
set_option maxRecDepth 20000 in
theorem gX3_findNextSide_X3_isMoreUrgent : GoodIn wsX3_findNextSide (wsV RX3 203 RX3 yX3_isMoreUrgent wsX3_isMoreUrgent) := goodIn_app (goodIn_of _ (by decide +kernel)) ggX3_findNextSide_X3_isMoreUrgent
theorem dX3_findNextSide_0 : decode cX3_findNextSide 0 = .ok (.aload_n 0, 1) := by decide +kernel
theorem dX3_findNextSide_1 : decode cX3_findNextSide 1 = .ok (.getfield 30, 3) := by decide +kernel
theorem dX3_findNextSide_4 : decode cX3_findNextSide 4 = .ok (.invokevirtual 150, 3) := by decide +kernel
theorem dX3_findNextSide_7 : decode cX3_findNextSide 7 = .ok (.iconst (-1), 1) := by decide +kernel
theorem dX3_findNextSide_8 : decode cX3_findNextSide 8 = .ok (.istore_n 1, 1) := by decide +kernel
theorem dX3_findNextSide_9 : decode cX3_findNextSide 9 = .ok (.iconst 0, 1) := by decide +kernel
theorem dX3_findNextSide_10 : decode cX3_findNextSide 10 = .ok (.istore_n 2, 1) := by decide +kernel
theorem dX3_findNextSide_11 : decode cX3_findNextSide 11 = .ok (.iload_n 2, 1) := by decide +kernel
theorem dX3_findNextSide_12 : decode cX3_findNextSide 12 = .ok (.aload_n 0, 1) := by decide +kernel
theorem dX3_findNextSide_13 : decode cX3_findNextSide 13 = .ok (.getfield 12, 3) := by decide +kernel
theorem dX3_findNextSide_16 : decode cX3_findNextSide 16 = .ok (.invokevirtual 110, 3) := by decide +kernel
theorem dX3_findNextSide_19 : decode cX3_findNextSide 19 = .ok (.if_icmp .ge 45, 3) := by decide +kernel
theorem dX3_findNextSide_22 : decode cX3_findNextSide 22 = .ok (.aload_n 0, 1) := by decide +kernel
theorem dX3_findNextSide_23 : decode cX3_findNextSide 23 = .ok (.getfield 12, 3) := by decide +kernel
theorem dX3_findNextSide_26 : decode cX3_findNextSide 26 = .ok (.iload_n 2, 1) := by decide +kernel
theorem dX3_findNextSide_27 : decode cX3_findNextSide 27 = .ok (.invokevirtual 94, 3) := by decide +kernel
theorem dX3_findNextSide_30 : decode cX3_findNextSide 30 = .ok (.bipush 50, 2) := by decide +kernel
theorem dX3_findNextSide_32 : decode cX3_findNextSide 32 = .ok (.if_icmp .lt 26, 3) := by decide +kernel
theorem dX3_findNextSide_35 : decode cX3_findNextSide 35 = .ok (.aload_n 0, 1) := by decide +kernel
theorem dX3_findNextSide_36 : decode cX3_findNextSide 36 = .ok (.getfield 30, 3) := by decide +kernel
theorem dX3_findNextSide_39 : decode cX3_findNextSide 39 = .ok (.iload_n 2, 1) := by decide +kernel
theorem dX3_findNextSide_40 : decode cX3_findNextSide 40 = .ok (.invokevirtual 162, 3) := by decide +kernel
theorem dX3_findNextSide_43 : decode cX3_findNextSide 43 = .ok (.iconst (-1), 1) := by decide +kernel
theorem dX3_findNextSide_44 : decode cX3_findNextSide 44 = .ok (.if_icmp .eq 14, 3) := by decide +kernel
theorem dX3_findNextSide_47 : decode cX3_findNextSide 47 = .ok (.aload_n 0, 1) := by decide +kernel
theorem dX3_findNextSide_48 : decode cX3_findNextSide 48 = .ok (.iload_n 2, 1) := by decide +kernel
theorem dX3_findNextSide_49 : decode cX3_findNextSide 49 = .ok (.iload_n 1, 1) := by decide +kernel
theorem dX3_findNextSide_50 : decode cX3_findNextSide 50 = .ok (.invokevirtual 203, 3) := by decide +kernel
theorem dX3_findNextSide_53 : decode cX3_findNextSide 53 = .ok (.ifCond .eq 5, 3) := by decide +kernel
theorem dX3_findNextSide_56 : decode cX3_findNextSide 56 = .ok (.iload_n 2, 1) := by decide +kernel
theorem dX3_findNextSide_57 : decode cX3_findNextSide 57 = .ok (.istore_n 1, 1) := by decide +kernel
theorem dX3_findNextSide_58 : decode cX3_findNextSide 58 = .ok (.iinc 2 1, 3) := by decide +kernel
theorem dX3_findNextSide_61 : decode cX3_findNextSide 61 = .ok (.goto (-50), 3) := by decide +kernel
theorem dX3_findNextSide_64 : decode cX3_findNextSide 64 = .ok (.iload_n 1, 1) := by decide +kernel
theorem dX3_findNextSide_65 : decode cX3_findNextSide 65 = .ok (.ireturn, 1) := by decide +kernel
set_option maxRecDepth 20000 in
theorem ggX3_isMoreUrgent_X0_priorityOf : GoodIn wsX3_isMoreUrgent wsX0_priorityOf := goodIn_r _ [7, 8, 9, 10, 11, 6, 12, 13, 28, 29, 30, 31, 32, 33, 34, 35, 36] (by decide +kernel) (by decide +kernel)
set_option maxRecDepth 20000 in
theorem gX3_isMoreUrgent_X0_priorityOf : GoodIn wsX3_isMoreUrgent (wsV RX3 207 RX0 yX0_priorityOf wsX0_priorityOf) := goodIn_app (goodIn_of _ (by decide +kernel)) ggX3_isMoreUrgent_X0_priorityOf
set_option maxRecDepth 20000 in
theorem ggX3_isMoreUrgent_X2_minutesTo : GoodIn wsX3_isMoreUrgent wsX2_minutesTo := goodIn_r _ [18, 19, 20, 21, 22, 23, 6, 24, 13, 37, 38, 39, 40, 41, 42, 43, 28, 29, 30, 31, 32, 33, 34, 35, 36] (by decide +kernel) (by decide +kernel)
set_option maxRecDepth 20000 in
theorem gX3_isMoreUrgent_X2_minutesTo : GoodIn wsX3_isMoreUrgent (wsV RX3 162 RX2 yX2_minutesTo wsX2_minutesTo) := goodIn_app (goodIn_of _ (by decide +kernel)) ggX3_isMoreUrgent_X2_minutesTo
theorem dX3_isMoreUrgent_0 : decode cX3_isMoreUrgent 0 = .ok (.iload_n 2, 1) := by decide +kernel
theorem dX3_isMoreUrgent_1 : decode cX3_isMoreUrgent 1 = .ok (.iconst (-1), 1) := by decide +kernel
theorem dX3_isMoreUrgent_2 : decode cX3_isMoreUrgent 2 = .ok (.if_icmp .ne 5, 3) := by decide +kernel
theorem dX3_isMoreUrgent_5 : decode cX3_isMoreUrgent 5 = .ok (.iconst 1, 1) := by decide +kernel
theorem dX3_isMoreUrgent_6 : decode cX3_isMoreUrgent 6 = .ok (.ireturn, 1) := by decide +kernel
theorem dX3_isMoreUrgent_7 : decode cX3_isMoreUrgent 7 = .ok (.aload_n 0, 1) := by decide +kernel
theorem dX3_isMoreUrgent_8 : decode cX3_isMoreUrgent 8 = .ok (.getfield 12, 3) := by decide +kernel
theorem dX3_isMoreUrgent_11 : decode cX3_isMoreUrgent 11 = .ok (.iload_n 1, 1) := by decide +kernel
theorem dX3_isMoreUrgent_12 : decode cX3_isMoreUrgent 12 = .ok (.iconst 2, 1) := by decide +kernel
theorem dX3_isMoreUrgent_13 : decode cX3_isMoreUrgent 13 = .ok (.idiv, 1) := by decide +kernel
theorem dX3_isMoreUrgent_14 : decode cX3_isMoreUrgent 14 = .ok (.invokevirtual 207, 3) := by decide +kernel
theorem dX3_isMoreUrgent_17 : decode cX3_isMoreUrgent 17 = .ok (.istore_n 3, 1) := by decide +kernel
theorem dX3_isMoreUrgent_18 : decode cX3_isMoreUrgent 18 = .ok (.aload_n 0, 1) := by decide +kernel
theorem dX3_isMoreUrgent_19 : decode cX3_isMoreUrgent 19 = .ok (.getfield 12, 3) := by decide +kernel
theorem dX3_isMoreUrgent_22 : decode cX3_isMoreUrgent 22 = .ok (.iload_n 2, 1) := by decide +kernel
theorem dX3_isMoreUrgent_23 : decode cX3_isMoreUrgent 23 = .ok (.iconst 2, 1) := by decide +kernel
theorem dX3_isMoreUrgent_24 : decode cX3_isMoreUrgent 24 = .ok (.idiv, 1) := by decide +kernel
theorem dX3_isMoreUrgent_25 : decode cX3_isMoreUrgent 25 = .ok (.invokevirtual 207, 3) := by decide +kernel
theorem dX3_isMoreUrgent_28 : decode cX3_isMoreUrgent 28 = .ok (.istore 4, 2) := by decide +kernel
theorem dX3_isMoreUrgent_30 : decode cX3_isMoreUrgent 30 = .ok (.iload_n 3, 1) := by decide +kernel
theorem dX3_isMoreUrgent_31 : decode cX3_isMoreUrgent 31 = .ok (.iload 4, 2) := by decide +kernel
theorem dX3_isMoreUrgent_33 : decode cX3_isMoreUrgent 33 = .ok (.if_icmp .eq 15, 3) := by decide +kernel
theorem dX3_isMoreUrgent_36 : decode cX3_isMoreUrgent 36 = .ok (.iload_n 3, 1) := by decide +kernel
theorem dX3_isMoreUrgent_37 : decode cX3_isMoreUrgent 37 = .ok (.iload 4, 2) := by decide +kernel
theorem dX3_isMoreUrgent_39 : decode cX3_isMoreUrgent 39 = .ok (.if_icmp .ge 7, 3) := by decide +kernel
theorem dX3_isMoreUrgent_42 : decode cX3_isMoreUrgent 42 = .ok (.iconst 1, 1) := by decide +kernel
theorem dX3_isMoreUrgent_43 : decode cX3_isMoreUrgent 43 = .ok (.goto 4, 3) := by decide +kernel
theorem dX3_isMoreUrgent_46 : decode cX3_isMoreUrgent 46 = .ok (.iconst 0, 1) := by decide +kernel
theorem dX3_isMoreUrgent_47 : decode cX3_isMoreUrgent 47 = .ok (.ireturn, 1) := by decide +kernel
theorem dX3_isMoreUrgent_48 : decode cX3_isMoreUrgent 48 = .ok (.aload_n 0, 1) := by decide +kernel
theorem dX3_isMoreUrgent_49 : decode cX3_isMoreUrgent 49 = .ok (.getfield 30, 3) := by decide +kernel
theorem dX3_isMoreUrgent_52 : decode cX3_isMoreUrgent 52 = .ok (.iload_n 1, 1) := by decide +kernel
theorem dX3_isMoreUrgent_53 : decode cX3_isMoreUrgent 53 = .ok (.invokevirtual 162, 3) := by decide +kernel
theorem dX3_isMoreUrgent_56 : decode cX3_isMoreUrgent 56 = .ok (.aload_n 0, 1) := by decide +kernel
theorem dX3_isMoreUrgent_57 : decode cX3_isMoreUrgent 57 = .ok (.getfield 30, 3) := by decide +kernel
theorem dX3_isMoreUrgent_60 : decode cX3_isMoreUrgent 60 = .ok (.iload_n 2, 1) := by decide +kernel
theorem dX3_isMoreUrgent_61 : decode cX3_isMoreUrgent 61 = .ok (.invokevirtual 162, 3) := by decide +kernel
theorem dX3_isMoreUrgent_64 : decode cX3_isMoreUrgent 64 = .ok (.if_icmp .ge 7, 3) := by decide +kernel
theorem dX3_isMoreUrgent_67 : decode cX3_isMoreUrgent 67 = .ok (.iconst 1, 1) := by decide +kernel
theorem dX3_isMoreUrgent_68 : decode cX3_isMoreUrgent 68 = .ok (.goto 4, 3) := by decide +kernel
theorem dX3_isMoreUrgent_71 : decode cX3_isMoreUrgent 71 = .ok (.iconst 0, 1) := by decide +kernel
theorem dX3_isMoreUrgent_72 : decode cX3_isMoreUrgent 72 = .ok (.ireturn, 1) := by decide +kernel
set_option maxRecDepth 20000 in
theorem ggX3_nearestStore_X0_nodeCount : GoodIn wsX3_nearestStore wsX0_nodeCount := goodIn_r _ [7, 8, 58, 59, 60, 61, 62, 63, 64, 65, 66] (by decide +kernel) (by decide +kernel)
set_option maxRecDepth 20000 in
theorem gX3_nearestStore_X0_nodeCount : GoodIn wsX3_nearestStore (wsV RX3 34 RX0 yX0_nodeCount wsX0_nodeCount) := goodIn_app (goodIn_of _ (by decide +kernel)) ggX3_nearestStore_X0_nodeCount
set_option maxRecDepth 20000 in
theorem ggX3_nearestStore_X0_isStoreAt : GoodIn wsX3_nearestStore wsX0_isStoreAt := goodIn_r _ [12, 13, 14, 15, 16, 6, 17, 8, 58, 59, 60, 61, 62, 63, 64, 65, 66] (by decide +kernel) (by decide +kernel)
set_option maxRecDepth 20000 in
theorem gX3_nearestStore_X0_isStoreAt : GoodIn wsX3_nearestStore (wsV RX3 136 RX0 yX0_isStoreAt wsX0_isStoreAt) := goodIn_app (goodIn_of _ (by decide +kernel)) ggX3_nearestStore_X0_isStoreAt
set_option maxRecDepth 20000 in
theorem ggX3_nearestStore_X2_minutesToNode : GoodIn wsX3_nearestStore wsX2_minutesToNode := goodIn_r _ [22, 23, 24, 25, 26, 21, 27, 28, 29, 30, 31, 32, 6, 33, 34, 35, 36, 37, 38, 39, 40, 41, 42, 43, 44, 45, 46, 47, 48, 49, 50, 51, 52, 53, 54, 67, 68, 69, 70, 71, 72, 73, 58, 59, 60, 61, 62, 63, 64, 65, 66] (by decide +kernel) (by decide +kernel)
set_option maxRecDepth 20000 in
theorem gX3_nearestStore_X2_minutesToNode : GoodIn wsX3_nearestStore (wsV RX3 153 RX2 yX2_minutesToNode wsX2_minutesToNode) := goodIn_app (goodIn_of _ (by decide +kernel)) ggX3_nearestStore_X2_minutesToNode
theorem dX3_nearestStore_0 : decode cX3_nearestStore 0 = .ok (.iconst (-1), 1) := by decide +kernel
theorem dX3_nearestStore_1 : decode cX3_nearestStore 1 = .ok (.istore_n 1, 1) := by decide +kernel
theorem dX3_nearestStore_2 : decode cX3_nearestStore 2 = .ok (.iconst 0, 1) := by decide +kernel
theorem dX3_nearestStore_3 : decode cX3_nearestStore 3 = .ok (.istore_n 2, 1) := by decide +kernel
theorem dX3_nearestStore_4 : decode cX3_nearestStore 4 = .ok (.iload_n 2, 1) := by decide +kernel
theorem dX3_nearestStore_5 : decode cX3_nearestStore 5 = .ok (.aload_n 0, 1) := by decide +kernel
theorem dX3_nearestStore_6 : decode cX3_nearestStore 6 = .ok (.getfield 12, 3) := by decide +kernel
theorem dX3_nearestStore_9 : decode cX3_nearestStore 9 = .ok (.invokevirtual 34, 3) := by decide +kernel
theorem dX3_nearestStore_12 : decode cX3_nearestStore 12 = .ok (.if_icmp .ge 58, 3) := by decide +kernel
theorem dX3_nearestStore_15 : decode cX3_nearestStore 15 = .ok (.aload_n 0, 1) := by decide +kernel
theorem dX3_nearestStore_16 : decode cX3_nearestStore 16 = .ok (.getfield 12, 3) := by decide +kernel
theorem dX3_nearestStore_19 : decode cX3_nearestStore 19 = .ok (.iload_n 2, 1) := by decide +kernel
theorem dX3_nearestStore_20 : decode cX3_nearestStore 20 = .ok (.invokevirtual 136, 3) := by decide +kernel
theorem dX3_nearestStore_23 : decode cX3_nearestStore 23 = .ok (.ifCond .eq 41, 3) := by decide +kernel
theorem dX3_nearestStore_26 : decode cX3_nearestStore 26 = .ok (.aload_n 0, 1) := by decide +kernel
theorem dX3_nearestStore_27 : decode cX3_nearestStore 27 = .ok (.getfield 30, 3) := by decide +kernel
theorem dX3_nearestStore_30 : decode cX3_nearestStore 30 = .ok (.iload_n 2, 1) := by decide +kernel
theorem dX3_nearestStore_31 : decode cX3_nearestStore 31 = .ok (.invokevirtual 153, 3) := by decide +kernel
theorem dX3_nearestStore_34 : decode cX3_nearestStore 34 = .ok (.iconst (-1), 1) := by decide +kernel
theorem dX3_nearestStore_35 : decode cX3_nearestStore 35 = .ok (.if_icmp .eq 29, 3) := by decide +kernel
theorem dX3_nearestStore_38 : decode cX3_nearestStore 38 = .ok (.iload_n 1, 1) := by decide +kernel
theorem dX3_nearestStore_39 : decode cX3_nearestStore 39 = .ok (.iconst (-1), 1) := by decide +kernel
theorem dX3_nearestStore_40 : decode cX3_nearestStore 40 = .ok (.if_icmp .eq 22, 3) := by decide +kernel
theorem dX3_nearestStore_43 : decode cX3_nearestStore 43 = .ok (.aload_n 0, 1) := by decide +kernel
theorem dX3_nearestStore_44 : decode cX3_nearestStore 44 = .ok (.getfield 30, 3) := by decide +kernel
theorem dX3_nearestStore_47 : decode cX3_nearestStore 47 = .ok (.iload_n 2, 1) := by decide +kernel
theorem dX3_nearestStore_48 : decode cX3_nearestStore 48 = .ok (.invokevirtual 153, 3) := by decide +kernel
theorem dX3_nearestStore_51 : decode cX3_nearestStore 51 = .ok (.aload_n 0, 1) := by decide +kernel
theorem dX3_nearestStore_52 : decode cX3_nearestStore 52 = .ok (.getfield 30, 3) := by decide +kernel
theorem dX3_nearestStore_55 : decode cX3_nearestStore 55 = .ok (.iload_n 1, 1) := by decide +kernel
theorem dX3_nearestStore_56 : decode cX3_nearestStore 56 = .ok (.invokevirtual 153, 3) := by decide +kernel
theorem dX3_nearestStore_59 : decode cX3_nearestStore 59 = .ok (.if_icmp .ge 5, 3) := by decide +kernel
theorem dX3_nearestStore_62 : decode cX3_nearestStore 62 = .ok (.iload_n 2, 1) := by decide +kernel
theorem dX3_nearestStore_63 : decode cX3_nearestStore 63 = .ok (.istore_n 1, 1) := by decide +kernel
theorem dX3_nearestStore_64 : decode cX3_nearestStore 64 = .ok (.iinc 2 1, 3) := by decide +kernel
theorem dX3_nearestStore_67 : decode cX3_nearestStore 67 = .ok (.goto (-63), 3) := by decide +kernel
theorem dX3_nearestStore_70 : decode cX3_nearestStore 70 = .ok (.iload_n 1, 1) := by decide +kernel
theorem dX3_nearestStore_71 : decode cX3_nearestStore 71 = .ok (.ireturn, 1) := by decide +kernel
set_option maxRecDepth 20000 in
theorem ggX3_fillUpAt_X2_lastSideTo : GoodIn wsX3_fillUpAt wsX2_lastSideTo := goodIn_r _ [7, 8, 9, 10, 11, 12, 13, 14, 15, 16, 17, 18, 19, 20, 21, 22, 23, 24, 25, 26, 27, 28, 6, 29, 30, 31, 113, 114, 115, 116, 117, 118, 119, 120, 121, 122, 123, 124, 125, 126, 127, 128] (by decide +kernel) (by decide +kernel)
set_option maxRecDepth 20000 in
theorem gX3_fillUpAt_X2_lastSideTo : GoodIn wsX3_fillUpAt (wsV RX3 156 RX2 yX2_lastSideTo wsX2_lastSideTo) := goodIn_app (goodIn_of _ (by decide +kernel)) ggX3_fillUpAt_X2_lastSideTo
set_option maxRecDepth 20000 in
theorem ggX3_fillUpAt_X3_followWayTo : GoodIn wsX3_fillUpAt wsX3_followWayTo := goodIn_r _ [36, 1, 2, 37, 38, 39, 6, 40, 9, 30, 41, 23, 24, 14, 25, 16, 42, 43, 44, 45, 31, 46, 47, 48, 49, 50, 51, 52, 53, 54, 55, 56, 57, 58, 59, 60, 61, 62, 63, 64, 65, 21, 22, 66, 67, 68, 69, 70, 71, 72, 73, 74, 75, 76, 77, 78, 79, 80, 81, 82, 83, 84, 85, 86, 87, 88, 89, 90, 91, 92, 93, 94, 95, 96, 97, 98, 99, 100, 101, 102, 103, 104, 18, 19, 20, 110, 111, 112, 113, 114, 115, 116, 117, 118, 119, 120, 121, 122, 123, 124, 125, 126, 127, 128, 129, 130, 131, 132, 133, 134, 135, 136, 137] (by decide +kernel) (by decide +kernel)
set_option maxRecDepth 20000 in
theorem gX3_fillUpAt_X3_followWayTo : GoodIn wsX3_fillUpAt (wsV RX3 179 RX3 yX3_followWayTo wsX3_followWayTo) := goodIn_app (goodIn_of _ (by decide +kernel)) ggX3_fillUpAt_X3_followWayTo
set_option maxRecDepth 20000 in
theorem ggX3_fillUpAt_X1_takeSalt : GoodIn wsX3_fillUpAt wsX1_takeSalt := goodIn_r _ [108, 85, 57, 109, 129, 130, 131, 132, 133, 134, 135, 136, 137] (by decide +kernel) (by decide +kernel)
set_option maxRecDepth 20000 in
theorem gX3_fillUpAt_X1_takeSalt : GoodIn wsX3_fillUpAt (wsV RX3 141 RX1 yX1_takeSalt wsX1_takeSalt) := goodIn_app (goodIn_of _ (by decide +kernel)) ggX3_fillUpAt_X1_takeSalt
theorem dX3_fillUpAt_0 : decode cX3_fillUpAt 0 = .ok (.aload_n 0, 1) := by decide +kernel
theorem dX3_fillUpAt_1 : decode cX3_fillUpAt 1 = .ok (.aload_n 0, 1) := by decide +kernel
theorem dX3_fillUpAt_2 : decode cX3_fillUpAt 2 = .ok (.getfield 30, 3) := by decide +kernel
theorem dX3_fillUpAt_5 : decode cX3_fillUpAt 5 = .ok (.iload_n 1, 1) := by decide +kernel
theorem dX3_fillUpAt_6 : decode cX3_fillUpAt 6 = .ok (.invokevirtual 156, 3) := by decide +kernel
theorem dX3_fillUpAt_9 : decode cX3_fillUpAt 9 = .ok (.invokevirtual 179, 3) := by decide +kernel
theorem dX3_fillUpAt_12 : decode cX3_fillUpAt 12 = .ok (.istore_n 2, 1) := by decide +kernel
theorem dX3_fillUpAt_13 : decode cX3_fillUpAt 13 = .ok (.aload_n 0, 1) := by decide +kernel
theorem dX3_fillUpAt_14 : decode cX3_fillUpAt 14 = .ok (.getfield 21, 3) := by decide +kernel
theorem dX3_fillUpAt_17 : decode cX3_fillUpAt 17 = .ok (.invokevirtual 141, 3) := by decide +kernel
theorem dX3_fillUpAt_20 : decode cX3_fillUpAt 20 = .ok (.pop, 1) := by decide +kernel
theorem dX3_fillUpAt_21 : decode cX3_fillUpAt 21 = .ok (.iload_n 2, 1) := by decide +kernel
theorem dX3_fillUpAt_22 : decode cX3_fillUpAt 22 = .ok (.iconst 4, 1) := by decide +kernel
theorem dX3_fillUpAt_23 : decode cX3_fillUpAt 23 = .ok (.iadd, 1) := by decide +kernel
theorem dX3_fillUpAt_24 : decode cX3_fillUpAt 24 = .ok (.ireturn, 1) := by decide +kernel
set_option maxRecDepth 20000 in
theorem ggX3_followWayTo_X2_lengthTo : GoodIn wsX3_followWayTo wsX2_lengthTo := goodIn_r _ [7, 8, 9, 10, 11, 12, 13, 14, 15, 88, 89, 90, 91, 92, 93, 94, 95, 96, 97, 98, 99, 100, 101, 102, 103] (by decide +kernel) (by decide +kernel)
set_option maxRecDepth 20000 in
theorem gX3_followWayTo_X2_lengthTo : GoodIn wsX3_followWayTo (wsV RX3 210 RX2 yX2_lengthTo wsX2_lengthTo) := goodIn_app (goodIn_of _ (by decide +kernel)) ggX3_followWayTo_X2_lengthTo
set_option maxRecDepth 20000 in
theorem ggX3_followWayTo_X2_roadTo : GoodIn wsX3_followWayTo wsX2_roadTo := goodIn_r _ [19, 20, 21, 4, 5, 6, 7, 8, 9, 10, 11, 12, 13, 14, 15, 88, 89, 90, 91, 92, 93, 94, 95, 96, 97, 98, 99, 100, 101, 102, 103] (by decide +kernel) (by decide +kernel)
set_option maxRecDepth 20000 in
theorem gX3_followWayTo_X2_roadTo : GoodIn wsX3_followWayTo (wsV RX3 213 RX2 yX2_roadTo wsX2_roadTo) := goodIn_app (goodIn_of _ (by decide +kernel)) ggX3_followWayTo_X2_roadTo
set_option maxRecDepth 20000 in
theorem ggX3_followWayTo_X1_driveBy : GoodIn wsX3_followWayTo wsX1_driveBy := goodIn_r _ [26, 27, 28, 29, 30, 31, 32, 33, 34, 35, 13, 36, 37, 38, 39, 40, 41, 42, 11, 12, 14, 15, 43, 44, 45, 46, 47, 48, 49, 50, 51, 52, 53, 54, 55, 56, 57, 58, 59, 25, 60, 61, 62, 63, 64, 65, 66, 67, 68, 69, 70, 71, 72, 73, 74, 75, 76, 77, 78, 79, 80, 81, 82, 83, 84, 104, 105, 106, 107, 108, 109, 110, 111, 112, 95, 96, 97, 98, 99, 100, 101, 102, 103] (by decide +kernel) (by decide +kernel)
set_option maxRecDepth 20000 in
theorem gX3_followWayTo_X1_driveBy : GoodIn wsX3_followWayTo (wsV RX3 130 RX1 yX1_driveBy wsX1_driveBy) := goodIn_app (goodIn_of _ (by decide +kernel)) ggX3_followWayTo_X1_driveBy
theorem dX3_followWayTo_0 : decode cX3_followWayTo 0 = .ok (.iconst 0, 1) := by decide +kernel
theorem dX3_followWayTo_1 : decode cX3_followWayTo 1 = .ok (.istore_n 2, 1) := by decide +kernel
theorem dX3_followWayTo_2 : decode cX3_followWayTo 2 = .ok (.iconst 0, 1) := by decide +kernel
theorem dX3_followWayTo_3 : decode cX3_followWayTo 3 = .ok (.istore_n 3, 1) := by decide +kernel
theorem dX3_followWayTo_4 : decode cX3_followWayTo 4 = .ok (.iload_n 3, 1) := by decide +kernel
theorem dX3_followWayTo_5 : decode cX3_followWayTo 5 = .ok (.aload_n 0, 1) := by decide +kernel
theorem dX3_followWayTo_6 : decode cX3_followWayTo 6 = .ok (.getfield 30, 3) := by decide +kernel
theorem dX3_followWayTo_9 : decode cX3_followWayTo 9 = .ok (.iload_n 1, 1) := by decide +kernel
theorem dX3_followWayTo_10 : decode cX3_followWayTo 10 = .ok (.invokevirtual 210, 3) := by decide +kernel
theorem dX3_followWayTo_13 : decode cX3_followWayTo 13 = .ok (.if_icmp .ge 28, 3) := by decide +kernel
theorem dX3_followWayTo_16 : decode cX3_followWayTo 16 = .ok (.iload_n 2, 1) := by decide +kernel
theorem dX3_followWayTo_17 : decode cX3_followWayTo 17 = .ok (.aload_n 0, 1) := by decide +kernel
theorem dX3_followWayTo_18 : decode cX3_followWayTo 18 = .ok (.getfield 21, 3) := by decide +kernel
theorem dX3_followWayTo_21 : decode cX3_followWayTo 21 = .ok (.aload_n 0, 1) := by decide +kernel
theorem dX3_followWayTo_22 : decode cX3_followWayTo 22 = .ok (.getfield 30, 3) := by decide +kernel
theorem dX3_followWayTo_25 : decode cX3_followWayTo 25 = .ok (.iload_n 1, 1) := by decide +kernel
theorem dX3_followWayTo_26 : decode cX3_followWayTo 26 = .ok (.iload_n 3, 1) := by decide +kernel
theorem dX3_followWayTo_27 : decode cX3_followWayTo 27 = .ok (.invokevirtual 213, 3) := by decide +kernel
theorem dX3_followWayTo_30 : decode cX3_followWayTo 30 = .ok (.invokevirtual 130, 3) := by decide +kernel
theorem dX3_followWayTo_33 : decode cX3_followWayTo 33 = .ok (.iadd, 1) := by decide +kernel
theorem dX3_followWayTo_34 : decode cX3_followWayTo 34 = .ok (.istore_n 2, 1) := by decide +kernel
theorem dX3_followWayTo_35 : decode cX3_followWayTo 35 = .ok (.iinc 3 1, 3) := by decide +kernel
theorem dX3_followWayTo_38 : decode cX3_followWayTo 38 = .ok (.goto (-34), 3) := by decide +kernel
theorem dX3_followWayTo_41 : decode cX3_followWayTo 41 = .ok (.iload_n 2, 1) := by decide +kernel
theorem dX3_followWayTo_42 : decode cX3_followWayTo 42 = .ok (.ireturn, 1) := by decide +kernel
