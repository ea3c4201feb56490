set_option maxRecDepth 20000 in
theorem ggL_addNode_X3_addNode : GoodIn wsL_addNode wsX3_addNode := goodIn_ca (goodIn_r _ [6, 7, 8, 9, 10, 11, 12, 13, 14, 15, 16, 17, 18, 19, 20, 21, 22, 23, 24, 25, 26, 27, 28, 29, 30, 31, 32, 33] (by decide +kernel) (by decide +kernel)) (goodIn_sub (fun _ h => List.mem_cons_of_mem _ (List.mem_append_right _ h)) (by decide +kernel))
set_option maxRecDepth 20000 in
theorem gL_addNode_X3_addNode : GoodIn wsL_addNode (wsV RL 7 RX3 yX3_addNode wsX3_addNode) := goodIn_app (goodIn_of _ (by decide +kernel)) ggL_addNode_X3_addNode
theorem dL_addNode_0 : decode cL_addNode 0 = .ok (.aload_n 3, 1) := by decide +kernel
theorem dL_addNode_1 : decode cL_addNode 1 = .ok (.iconst 0, 1) := by decide +kernel
theorem dL_addNode_2 : decode cL_addNode 2 = .ok (.aload_n 0, 1) := by decide +kernel
theorem dL_addNode_3 : decode cL_addNode 3 = .ok (.iload_n 1, 1) := by decide +kernel
theorem dL_addNode_4 : decode cL_addNode 4 = .ok (.iload_n 2, 1) := by decide +kernel
theorem dL_addNode_5 : decode cL_addNode 5 = .ok (.invokevirtual 7, 3) := by decide +kernel
theorem dL_addNode_8 : decode cL_addNode 8 = .ok (.i2l, 1) := by decide +kernel
theorem dL_addNode_9 : decode cL_addNode 9 = .ok (.lastore, 1) := by decide +kernel
theorem dL_addNode_10 : decode cL_addNode 10 = .ok (.goto 7, 3) := by decide +kernel
theorem dL_addNode_13 : decode cL_addNode 13 = .ok (.astore 4, 2) := by decide +kernel
theorem dL_addNode_15 : decode cL_addNode 15 = .ok (.iconst 1, 1) := by decide +kernel
theorem dL_addNode_16 : decode cL_addNode 16 = .ok (.ireturn, 1) := by decide +kernel
theorem dL_addNode_17 : decode cL_addNode 17 = .ok (.iconst 0, 1) := by decide +kernel
theorem dL_addNode_18 : decode cL_addNode 18 = .ok (.ireturn, 1) := by decide +kernel
set_option maxRecDepth 20000 in
theorem ggL_setNode_X3_setNode : GoodIn wsL_setNode wsX3_setNode := goodIn_ca (goodIn_r _ [6, 7, 8, 9, 10, 5, 11, 12, 13, 14, 15, 16, 17, 18, 19, 20, 21, 22, 23, 24, 25, 26, 27, 28, 29, 30, 31, 32, 33, 34, 35, 36, 37, 38, 39, 40, 41, 42, 43, 44, 45, 46, 47, 48, 49, 50] (by decide +kernel) (by decide +kernel)) (goodIn_sub (fun _ h => List.mem_cons_of_mem _ (List.mem_append_right _ h)) (by decide +kernel))
set_option maxRecDepth 20000 in
theorem gL_setNode_X3_setNode : GoodIn wsL_setNode (wsV RL 15 RX3 yX3_setNode wsX3_setNode) := goodIn_app (goodIn_of _ (by decide +kernel)) ggL_setNode_X3_setNode
theorem dL_setNode_0 : decode cL_setNode 0 = .ok (.aload 4, 2) := by decide +kernel
theorem dL_setNode_2 : decode cL_setNode 2 = .ok (.iconst 0, 1) := by decide +kernel
theorem dL_setNode_3 : decode cL_setNode 3 = .ok (.aload_n 0, 1) := by decide +kernel
theorem dL_setNode_4 : decode cL_setNode 4 = .ok (.iload_n 1, 1) := by decide +kernel
theorem dL_setNode_5 : decode cL_setNode 5 = .ok (.iload_n 2, 1) := by decide +kernel
theorem dL_setNode_6 : decode cL_setNode 6 = .ok (.iload_n 3, 1) := by decide +kernel
theorem dL_setNode_7 : decode cL_setNode 7 = .ok (.invokevirtual 15, 3) := by decide +kernel
theorem dL_setNode_10 : decode cL_setNode 10 = .ok (.ifCond .eq 7, 3) := by decide +kernel
theorem dL_setNode_13 : decode cL_setNode 13 = .ok (.lconst 1, 1) := by decide +kernel
theorem dL_setNode_14 : decode cL_setNode 14 = .ok (.goto 4, 3) := by decide +kernel
theorem dL_setNode_17 : decode cL_setNode 17 = .ok (.lconst 0, 1) := by decide +kernel
theorem dL_setNode_18 : decode cL_setNode 18 = .ok (.lastore, 1) := by decide +kernel
theorem dL_setNode_19 : decode cL_setNode 19 = .ok (.goto 7, 3) := by decide +kernel
theorem dL_setNode_22 : decode cL_setNode 22 = .ok (.astore 5, 2) := by decide +kernel
theorem dL_setNode_24 : decode cL_setNode 24 = .ok (.iconst 1, 1) := by decide +kernel
theorem dL_setNode_25 : decode cL_setNode 25 = .ok (.ireturn, 1) := by decide +kernel
theorem dL_setNode_26 : decode cL_setNode 26 = .ok (.iconst 0, 1) := by decide +kernel
theorem dL_setNode_27 : decode cL_setNode 27 = .ok (.ireturn, 1) := by decide +kernel
set_option maxRecDepth 20000 in
theorem ggL_addRoad_X3_addRoad : GoodIn wsL_addRoad wsX3_addRoad := goodIn_ca (goodIn_ca (goodIn_ca (goodIn_r _ [8, 9, 10, 11, 12, 13, 14, 15, 16, 7, 17, 18, 19, 20, 21, 22, 23, 24, 25, 26, 27, 28, 29, 30, 31, 32, 33, 34, 35, 36, 37, 38, 39, 40, 41, 42, 43, 44, 45, 46, 47, 48, 49, 50, 51, 52] (by decide +kernel) (by decide +kernel)) (goodIn_sub (fun _ h => List.mem_cons_of_mem _ (List.mem_append_left _ (List.mem_append_left _ (List.mem_append_right _ h)))) (by decide +kernel))) (goodIn_sub (fun _ h => List.mem_cons_of_mem _ (List.mem_append_left _ (List.mem_append_right _ h))) (by decide +kernel))) (goodIn_sub (fun _ h => List.mem_cons_of_mem _ (List.mem_append_right _ h)) (by decide +kernel))
set_option maxRecDepth 20000 in
theorem gL_addRoad_X3_addRoad : GoodIn wsL_addRoad (wsV RL 21 RX3 yX3_addRoad wsX3_addRoad) := goodIn_app (goodIn_of _ (by decide +kernel)) ggL_addRoad_X3_addRoad
theorem dL_addRoad_0 : decode cL_addRoad 0 = .ok (.aload 5, 2) := by decide +kernel
theorem dL_addRoad_2 : decode cL_addRoad 2 = .ok (.iconst 0, 1) := by decide +kernel
theorem dL_addRoad_3 : decode cL_addRoad 3 = .ok (.aload_n 0, 1) := by decide +kernel
theorem dL_addRoad_4 : decode cL_addRoad 4 = .ok (.iload_n 1, 1) := by decide +kernel
theorem dL_addRoad_5 : decode cL_addRoad 5 = .ok (.iload_n 2, 1) := by decide +kernel
theorem dL_addRoad_6 : decode cL_addRoad 6 = .ok (.iload_n 3, 1) := by decide +kernel
theorem dL_addRoad_7 : decode cL_addRoad 7 = .ok (.iload 4, 2) := by decide +kernel
theorem dL_addRoad_9 : decode cL_addRoad 9 = .ok (.invokevirtual 21, 3) := by decide +kernel
theorem dL_addRoad_12 : decode cL_addRoad 12 = .ok (.i2l, 1) := by decide +kernel
theorem dL_addRoad_13 : decode cL_addRoad 13 = .ok (.lastore, 1) := by decide +kernel
theorem dL_addRoad_14 : decode cL_addRoad 14 = .ok (.goto 15, 3) := by decide +kernel
theorem dL_addRoad_17 : decode cL_addRoad 17 = .ok (.astore 6, 2) := by decide +kernel
theorem dL_addRoad_19 : decode cL_addRoad 19 = .ok (.iconst 1, 1) := by decide +kernel
theorem dL_addRoad_20 : decode cL_addRoad 20 = .ok (.ireturn, 1) := by decide +kernel
theorem dL_addRoad_21 : decode cL_addRoad 21 = .ok (.astore 6, 2) := by decide +kernel
theorem dL_addRoad_23 : decode cL_addRoad 23 = .ok (.iconst 2, 1) := by decide +kernel
theorem dL_addRoad_24 : decode cL_addRoad 24 = .ok (.ireturn, 1) := by decide +kernel
theorem dL_addRoad_25 : decode cL_addRoad 25 = .ok (.astore 6, 2) := by decide +kernel
theorem dL_addRoad_27 : decode cL_addRoad 27 = .ok (.iconst 3, 1) := by decide +kernel
theorem dL_addRoad_28 : decode cL_addRoad 28 = .ok (.ireturn, 1) := by decide +kernel
theorem dL_addRoad_29 : decode cL_addRoad 29 = .ok (.iconst 0, 1) := by decide +kernel
theorem dL_addRoad_30 : decode cL_addRoad 30 = .ok (.ireturn, 1) := by decide +kernel
set_option maxRecDepth 20000 in
theorem ggL_snow_X3_snow : GoodIn wsL_snow wsX3_snow := goodIn_ca (goodIn_r _ [6, 7, 8, 9, 10, 11, 12, 13, 14, 15, 16, 17, 18, 19, 20, 21, 22, 23, 24, 25, 26, 27, 28, 29, 30, 31, 32, 33, 34, 35, 36, 37, 38, 39, 40, 41, 42, 43, 44, 45, 46, 47, 48, 49, 50, 51, 52] (by decide +kernel) (by decide +kernel)) (goodIn_sub (fun _ h => List.mem_cons_of_mem _ (List.mem_append_right _ h)) (by decide +kernel))
set_option maxRecDepth 20000 in
theorem gL_snow_X3_snow : GoodIn wsL_snow (wsV RL 27 RX3 yX3_snow wsX3_snow) := goodIn_app (goodIn_of _ (by decide +kernel)) ggL_snow_X3_snow
theorem dL_snow_0 : decode cL_snow 0 = .ok (.aload_n 2, 1) := by decide +kernel
theorem dL_snow_1 : decode cL_snow 1 = .ok (.iconst 0, 1) := by decide +kernel
theorem dL_snow_2 : decode cL_snow 2 = .ok (.aload_n 0, 1) := by decide +kernel
theorem dL_snow_3 : decode cL_snow 3 = .ok (.iload_n 1, 1) := by decide +kernel
theorem dL_snow_4 : decode cL_snow 4 = .ok (.invokevirtual 27, 3) := by decide +kernel
theorem dL_snow_7 : decode cL_snow 7 = .ok (.i2l, 1) := by decide +kernel
theorem dL_snow_8 : decode cL_snow 8 = .ok (.lastore, 1) := by decide +kernel
theorem dL_snow_9 : decode cL_snow 9 = .ok (.goto 6, 3) := by decide +kernel
theorem dL_snow_12 : decode cL_snow 12 = .ok (.astore_n 3, 1) := by decide +kernel
theorem dL_snow_13 : decode cL_snow 13 = .ok (.iconst 1, 1) := by decide +kernel
theorem dL_snow_14 : decode cL_snow 14 = .ok (.ireturn, 1) := by decide +kernel
theorem dL_snow_15 : decode cL_snow 15 = .ok (.iconst 0, 1) := by decide +kernel
theorem dL_snow_16 : decode cL_snow 16 = .ok (.ireturn, 1) := by decide +kernel
set_option maxRecDepth 20000 in
theorem ggL_depth_X3_depth : GoodIn wsL_depth wsX3_depth := goodIn_ca (goodIn_r _ [6, 7, 8, 9, 10, 5, 11, 12, 13, 14, 15, 16, 17, 18, 19, 20, 21, 22, 23, 24, 25, 26, 27, 28, 29, 30, 31, 32, 33, 34, 35, 36, 37, 38, 39, 40] (by decide +kernel) (by decide +kernel)) (goodIn_sub (fun _ h => List.mem_cons_of_mem _ (List.mem_append_right _ h)) (by decide +kernel))
set_option maxRecDepth 20000 in
theorem gL_depth_X3_depth : GoodIn wsL_depth (wsV RL 31 RX3 yX3_depth wsX3_depth) := goodIn_app (goodIn_of _ (by decide +kernel)) ggL_depth_X3_depth
theorem dL_depth_0 : decode cL_depth 0 = .ok (.aload_n 3, 1) := by decide +kernel
theorem dL_depth_1 : decode cL_depth 1 = .ok (.iconst 0, 1) := by decide +kernel
theorem dL_depth_2 : decode cL_depth 2 = .ok (.aload_n 0, 1) := by decide +kernel
theorem dL_depth_3 : decode cL_depth 3 = .ok (.iload_n 1, 1) := by decide +kernel
theorem dL_depth_4 : decode cL_depth 4 = .ok (.iload_n 2, 1) := by decide +kernel
theorem dL_depth_5 : decode cL_depth 5 = .ok (.invokevirtual 31, 3) := by decide +kernel
theorem dL_depth_8 : decode cL_depth 8 = .ok (.i2l, 1) := by decide +kernel
theorem dL_depth_9 : decode cL_depth 9 = .ok (.lastore, 1) := by decide +kernel
theorem dL_depth_10 : decode cL_depth 10 = .ok (.goto 7, 3) := by decide +kernel
theorem dL_depth_13 : decode cL_depth 13 = .ok (.astore 4, 2) := by decide +kernel
theorem dL_depth_15 : decode cL_depth 15 = .ok (.iconst 1, 1) := by decide +kernel
theorem dL_depth_16 : decode cL_depth 16 = .ok (.ireturn, 1) := by decide +kernel
theorem dL_depth_17 : decode cL_depth 17 = .ok (.iconst 0, 1) := by decide +kernel
theorem dL_depth_18 : decode cL_depth 18 = .ok (.ireturn, 1) := by decide +kernel
set_option maxRecDepth 20000 in
theorem ggL_isSalted_X3_isSalted : GoodIn wsL_isSalted wsX3_isSalted := goodIn_ca (goodIn_r _ [6, 7, 8, 9, 10, 5, 11, 12, 13, 14, 15, 16, 17, 18, 19, 20, 21, 22, 23, 24, 25, 26, 27, 28, 29, 30, 31, 32, 33, 34, 35, 36, 37, 38, 39, 40] (by decide +kernel) (by decide +kernel)) (goodIn_sub (fun _ h => List.mem_cons_of_mem _ (List.mem_append_right _ h)) (by decide +kernel))
set_option maxRecDepth 20000 in
theorem gL_isSalted_X3_isSalted : GoodIn wsL_isSalted (wsV RL 35 RX3 yX3_isSalted wsX3_isSalted) := goodIn_app (goodIn_of _ (by decide +kernel)) ggL_isSalted_X3_isSalted
theorem dL_isSalted_0 : decode cL_isSalted 0 = .ok (.aload_n 3, 1) := by decide +kernel
theorem dL_isSalted_1 : decode cL_isSalted 1 = .ok (.iconst 0, 1) := by decide +kernel
theorem dL_isSalted_2 : decode cL_isSalted 2 = .ok (.aload_n 0, 1) := by decide +kernel
theorem dL_isSalted_3 : decode cL_isSalted 3 = .ok (.iload_n 1, 1) := by decide +kernel
theorem dL_isSalted_4 : decode cL_isSalted 4 = .ok (.iload_n 2, 1) := by decide +kernel
theorem dL_isSalted_5 : decode cL_isSalted 5 = .ok (.invokevirtual 35, 3) := by decide +kernel
theorem dL_isSalted_8 : decode cL_isSalted 8 = .ok (.ifCond .eq 7, 3) := by decide +kernel
theorem dL_isSalted_11 : decode cL_isSalted 11 = .ok (.lconst 1, 1) := by decide +kernel
theorem dL_isSalted_12 : decode cL_isSalted 12 = .ok (.goto 4, 3) := by decide +kernel
theorem dL_isSalted_15 : decode cL_isSalted 15 = .ok (.lconst 0, 1) := by decide +kernel
theorem dL_isSalted_16 : decode cL_isSalted 16 = .ok (.lastore, 1) := by decide +kernel
theorem dL_isSalted_17 : decode cL_isSalted 17 = .ok (.goto 7, 3) := by decide +kernel
theorem dL_isSalted_20 : decode cL_isSalted 20 = .ok (.astore 4, 2) := by decide +kernel
theorem dL_isSalted_22 : decode cL_isSalted 22 = .ok (.iconst 1, 1) := by decide +kernel
theorem dL_isSalted_23 : decode cL_isSalted 23 = .ok (.ireturn, 1) := by decide +kernel
theorem dL_isSalted_24 : decode cL_isSalted 24 = .ok (.iconst 0, 1) := by decide +kernel
theorem dL_isSalted_25 : decode cL_isSalted 25 = .ok (.ireturn, 1) := by decide +kernel
set_option maxRecDepth 20000 in
theorem ggL_worst_X3_worst : GoodIn wsL_worst wsX3_worst := goodIn_ca (goodIn_r _ [6, 7, 8, 9, 10, 11, 5, 12, 13, 14, 15, 16, 17, 18, 19, 20, 21, 22, 23, 24, 25, 26, 27, 28, 29, 30, 31, 32, 33, 34, 35, 36, 37, 38, 39, 40] (by decide +kernel) (by decide +kernel)) (goodIn_sub (fun _ h => List.mem_cons_of_mem _ (List.mem_append_right _ h)) (by decide +kernel))
set_option maxRecDepth 20000 in
theorem gL_worst_X3_worst : GoodIn wsL_worst (wsV RL 39 RX3 yX3_worst wsX3_worst) := goodIn_app (goodIn_of _ (by decide +kernel)) ggL_worst_X3_worst
theorem dL_worst_0 : decode cL_worst 0 = .ok (.aload_n 2, 1) := by decide +kernel
theorem dL_worst_1 : decode cL_worst 1 = .ok (.iconst 0, 1) := by decide +kernel
theorem dL_worst_2 : decode cL_worst 2 = .ok (.aload_n 0, 1) := by decide +kernel
theorem dL_worst_3 : decode cL_worst 3 = .ok (.iload_n 1, 1) := by decide +kernel
theorem dL_worst_4 : decode cL_worst 4 = .ok (.invokevirtual 39, 3) := by decide +kernel
theorem dL_worst_7 : decode cL_worst 7 = .ok (.i2l, 1) := by decide +kernel
theorem dL_worst_8 : decode cL_worst 8 = .ok (.lastore, 1) := by decide +kernel
theorem dL_worst_9 : decode cL_worst 9 = .ok (.goto 6, 3) := by decide +kernel
theorem dL_worst_12 : decode cL_worst 12 = .ok (.astore_n 3, 1) := by decide +kernel
theorem dL_worst_13 : decode cL_worst 13 = .ok (.iconst 1, 1) := by decide +kernel
theorem dL_worst_14 : decode cL_worst 14 = .ok (.ireturn, 1) := by decide +kernel
theorem dL_worst_15 : decode cL_worst 15 = .ok (.iconst 0, 1) := by decide +kernel
theorem dL_worst_16 : decode cL_worst 16 = .ok (.ireturn, 1) := by decide +kernel
set_option maxRecDepth 20000 in
theorem ggL_reach_X3_reach : GoodIn wsL_reach wsX3_reach := goodIn_ca (goodIn_r _ [6, 7, 8, 9, 10, 5, 11, 12, 13, 14, 15, 16, 17, 18, 19, 20, 21, 22, 23, 24, 25, 26, 27, 28, 29, 30, 31, 32, 33, 34, 35, 36, 37, 38, 39, 40, 41, 42, 43, 44, 45, 46, 47, 48, 49, 50, 51, 52, 53, 54, 55, 56, 57, 58] (by decide +kernel) (by decide +kernel)) (goodIn_sub (fun _ h => List.mem_cons_of_mem _ (List.mem_append_right _ h)) (by decide +kernel))
set_option maxRecDepth 20000 in
theorem gL_reach_X3_reach : GoodIn wsL_reach (wsV RL 42 RX3 yX3_reach wsX3_reach) := goodIn_app (goodIn_of _ (by decide +kernel)) ggL_reach_X3_reach
theorem dL_reach_0 : decode cL_reach 0 = .ok (.aload_n 2, 1) := by decide +kernel
theorem dL_reach_1 : decode cL_reach 1 = .ok (.iconst 0, 1) := by decide +kernel
theorem dL_reach_2 : decode cL_reach 2 = .ok (.aload_n 0, 1) := by decide +kernel
theorem dL_reach_3 : decode cL_reach 3 = .ok (.iload_n 1, 1) := by decide +kernel
theorem dL_reach_4 : decode cL_reach 4 = .ok (.invokevirtual 42, 3) := by decide +kernel
theorem dL_reach_7 : decode cL_reach 7 = .ok (.i2l, 1) := by decide +kernel
theorem dL_reach_8 : decode cL_reach 8 = .ok (.lastore, 1) := by decide +kernel
theorem dL_reach_9 : decode cL_reach 9 = .ok (.goto 6, 3) := by decide +kernel
theorem dL_reach_12 : decode cL_reach 12 = .ok (.astore_n 3, 1) := by decide +kernel
theorem dL_reach_13 : decode cL_reach 13 = .ok (.iconst 1, 1) := by decide +kernel
theorem dL_reach_14 : decode cL_reach 14 = .ok (.ireturn, 1) := by decide +kernel
theorem dL_reach_15 : decode cL_reach 15 = .ok (.iconst 0, 1) := by decide +kernel
theorem dL_reach_16 : decode cL_reach 16 = .ok (.ireturn, 1) := by decide +kernel
set_option maxRecDepth 20000 in
theorem ggL_go_X3_go : GoodIn wsL_go wsX3_go := goodIn_ca (goodIn_ca (goodIn_r _ [7, 8, 9, 10, 11, 12, 13, 14, 15, 16, 17, 18, 19, 20, 21, 22, 23, 24, 25, 26, 27, 28, 29, 30, 31, 32, 33, 34, 35, 36, 37, 38, 39, 40, 41, 42, 43, 44, 45, 46, 47, 48, 49, 50, 51, 52, 53, 54, 55, 56, 57, 58, 59, 60, 61, 62, 63, 64, 65, 66, 67, 68, 69, 70, 71, 72, 73, 74, 75, 76, 77, 78, 79, 80, 81, 82, 83, 84, 85, 86, 87, 88, 89, 90, 91, 92, 93, 94, 95, 96, 97, 98, 99, 100, 101, 102, 103, 104, 105, 106, 107, 108, 109, 110, 111, 112, 113, 114, 115, 116, 117, 118, 119, 120, 121] (by decide +kernel) (by decide +kernel)) (goodIn_sub (fun _ h => List.mem_cons_of_mem _ (List.mem_append_left _ (List.mem_append_right _ h))) (by decide +kernel))) (goodIn_sub (fun _ h => List.mem_cons_of_mem _ (List.mem_append_right _ h)) (by decide +kernel))
set_option maxRecDepth 20000 in
theorem gL_go_X3_go : GoodIn wsL_go (wsV RL 45 RX3 yX3_go wsX3_go) := goodIn_app (goodIn_of _ (by decide +kernel)) ggL_go_X3_go
theorem dL_go_0 : decode cL_go 0 = .ok (.aload_n 2, 1) := by decide +kernel
theorem dL_go_1 : decode cL_go 1 = .ok (.iconst 0, 1) := by decide +kernel
theorem dL_go_2 : decode cL_go 2 = .ok (.aload_n 0, 1) := by decide +kernel
theorem dL_go_3 : decode cL_go 3 = .ok (.iload_n 1, 1) := by decide +kernel
theorem dL_go_4 : decode cL_go 4 = .ok (.invokevirtual 45, 3) := by decide +kernel
theorem dL_go_7 : decode cL_go 7 = .ok (.i2l, 1) := by decide +kernel
theorem dL_go_8 : decode cL_go 8 = .ok (.lastore, 1) := by decide +kernel
theorem dL_go_9 : decode cL_go 9 = .ok (.goto 9, 3) := by decide +kernel
theorem dL_go_12 : decode cL_go 12 = .ok (.astore_n 3, 1) := by decide +kernel
theorem dL_go_13 : decode cL_go 13 = .ok (.iconst 1, 1) := by decide +kernel
theorem dL_go_14 : decode cL_go 14 = .ok (.ireturn, 1) := by decide +kernel
theorem dL_go_15 : decode cL_go 15 = .ok (.astore_n 3, 1) := by decide +kernel
theorem dL_go_16 : decode cL_go 16 = .ok (.iconst 2, 1) := by decide +kernel
theorem dL_go_17 : decode cL_go 17 = .ok (.ireturn, 1) := by decide +kernel
theorem dL_go_18 : decode cL_go 18 = .ok (.iconst 0, 1) := by decide +kernel
theorem dL_go_19 : decode cL_go 19 = .ok (.ireturn, 1) := by decide +kernel
set_option maxRecDepth 20000 in
theorem ggL_fill_X3_fill : GoodIn wsL_fill wsX3_fill := goodIn_ca (goodIn_r _ [6, 7, 8, 9, 10, 11, 12, 13, 14, 15, 16, 17, 18, 19, 20, 21, 22, 23, 24, 25, 26, 27, 28, 29, 30, 31, 32, 33, 34, 35, 36, 37, 38, 39, 40, 41, 42, 43, 44, 45, 46, 47, 48, 49, 50, 51, 52, 53, 54, 55] (by decide +kernel) (by decide +kernel)) (goodIn_sub (fun _ h => List.mem_cons_of_mem _ (List.mem_append_right _ h)) (by decide +kernel))
set_option maxRecDepth 20000 in
theorem gL_fill_X3_fill : GoodIn wsL_fill (wsV RL 48 RX3 yX3_fill wsX3_fill) := goodIn_app (goodIn_of _ (by decide +kernel)) ggL_fill_X3_fill
theorem dL_fill_0 : decode cL_fill 0 = .ok (.aload_n 1, 1) := by decide +kernel
theorem dL_fill_1 : decode cL_fill 1 = .ok (.iconst 0, 1) := by decide +kernel
theorem dL_fill_2 : decode cL_fill 2 = .ok (.aload_n 0, 1) := by decide +kernel
theorem dL_fill_3 : decode cL_fill 3 = .ok (.invokevirtual 48, 3) := by decide +kernel
theorem dL_fill_6 : decode cL_fill 6 = .ok (.i2l, 1) := by decide +kernel
theorem dL_fill_7 : decode cL_fill 7 = .ok (.lastore, 1) := by decide +kernel
theorem dL_fill_8 : decode cL_fill 8 = .ok (.goto 6, 3) := by decide +kernel
theorem dL_fill_11 : decode cL_fill 11 = .ok (.astore_n 2, 1) := by decide +kernel
theorem dL_fill_12 : decode cL_fill 12 = .ok (.iconst 1, 1) := by decide +kernel
theorem dL_fill_13 : decode cL_fill 13 = .ok (.ireturn, 1) := by decide +kernel
theorem dL_fill_14 : decode cL_fill 14 = .ok (.iconst 0, 1) := by decide +kernel
theorem dL_fill_15 : decode cL_fill 15 = .ok (.ireturn, 1) := by decide +kernel
set_option maxRecDepth 20000 in
theorem ggL_plough_X3_plough : GoodIn wsL_plough wsX3_plough := goodIn_ca (goodIn_r _ [6, 7, 8, 9, 5, 10, 11, 12, 13, 14, 15, 16, 17, 18, 19, 20, 21, 22, 23, 24, 25, 26, 27, 28, 29, 30, 31, 32, 33] (by decide +kernel) (by decide +kernel)) (goodIn_sub (fun _ h => List.mem_cons_of_mem _ (List.mem_append_right _ h)) (by decide +kernel))
set_option maxRecDepth 20000 in
theorem gL_plough_X3_plough : GoodIn wsL_plough (wsV RL 52 RX3 yX3_plough wsX3_plough) := goodIn_app (goodIn_of _ (by decide +kernel)) ggL_plough_X3_plough
theorem dL_plough_0 : decode cL_plough 0 = .ok (.aload_n 2, 1) := by decide +kernel
theorem dL_plough_1 : decode cL_plough 1 = .ok (.iconst 0, 1) := by decide +kernel
theorem dL_plough_2 : decode cL_plough 2 = .ok (.aload_n 0, 1) := by decide +kernel
theorem dL_plough_3 : decode cL_plough 3 = .ok (.iload_n 1, 1) := by decide +kernel
theorem dL_plough_4 : decode cL_plough 4 = .ok (.invokevirtual 52, 3) := by decide +kernel
theorem dL_plough_7 : decode cL_plough 7 = .ok (.i2l, 1) := by decide +kernel
theorem dL_plough_8 : decode cL_plough 8 = .ok (.lastore, 1) := by decide +kernel
theorem dL_plough_9 : decode cL_plough 9 = .ok (.goto 6, 3) := by decide +kernel
theorem dL_plough_12 : decode cL_plough 12 = .ok (.astore_n 3, 1) := by decide +kernel
theorem dL_plough_13 : decode cL_plough 13 = .ok (.iconst 1, 1) := by decide +kernel
theorem dL_plough_14 : decode cL_plough 14 = .ok (.ireturn, 1) := by decide +kernel
theorem dL_plough_15 : decode cL_plough 15 = .ok (.iconst 0, 1) := by decide +kernel
theorem dL_plough_16 : decode cL_plough 16 = .ok (.ireturn, 1) := by decide +kernel
set_option maxRecDepth 20000 in
theorem ggL_way_X3_way : GoodIn wsL_way wsX3_way := goodIn_ca (goodIn_r _ [6, 7, 8, 9, 10, 5, 11, 12, 13, 14, 15, 16, 17, 18, 19, 20, 21, 22, 23, 24, 25, 26, 27, 28, 29, 30, 31, 32, 33, 34, 35, 36, 37, 38, 39, 40, 41, 42, 43, 44, 45, 46, 47, 48, 49, 50, 51, 52, 53, 54, 55, 56, 57, 58, 59, 60, 61, 62, 63, 64, 65, 66, 67, 68, 69, 70, 71, 72, 73, 74, 75, 76, 77, 78, 79, 80, 81, 82, 83, 84, 85, 86, 87, 88, 89, 90, 91, 92, 93, 94, 95, 96, 97, 98, 99, 100, 101, 102, 103, 104, 105, 106, 107, 108, 109, 110, 111, 112, 113, 114, 115, 116, 117, 118, 119, 120, 121, 122, 123, 124, 125, 126, 127, 128, 129, 130, 131, 132, 133, 134, 135, 136, 137, 138, 139, 140, 141, 142, 143, 144, 145] (by decide +kernel) (by decide +kernel)) (goodIn_sub (fun _ h => List.mem_cons_of_mem _ (List.mem_append_right _ h)) (by decide +kernel))
set_option maxRecDepth 20000 in
theorem gL_way_X3_way : GoodIn wsL_way (wsV RL 55 RX3 yX3_way wsX3_way) := goodIn_app (goodIn_of _ (by decide +kernel)) ggL_way_X3_way
theorem dL_way_0 : decode cL_way 0 = .ok (.aload_n 2, 1) := by decide +kernel
theorem dL_way_1 : decode cL_way 1 = .ok (.iconst 0, 1) := by decide +kernel
theorem dL_way_2 : decode cL_way 2 = .ok (.aload_n 0, 1) := by decide +kernel
theorem dL_way_3 : decode cL_way 3 = .ok (.iload_n 1, 1) := by decide +kernel
theorem dL_way_4 : decode cL_way 4 = .ok (.invokevirtual 55, 3) := by decide +kernel
theorem dL_way_7 : decode cL_way 7 = .ok (.i2l, 1) := by decide +kernel
theorem dL_way_8 : decode cL_way 8 = .ok (.lastore, 1) := by decide +kernel
theorem dL_way_9 : decode cL_way 9 = .ok (.goto 6, 3) := by decide +kernel
theorem dL_way_12 : decode cL_way 12 = .ok (.astore_n 3, 1) := by decide +kernel
theorem dL_way_13 : decode cL_way 13 = .ok (.iconst 1, 1) := by decide +kernel
theorem dL_way_14 : decode cL_way 14 = .ok (.ireturn, 1) := by decide +kernel
theorem dL_way_15 : decode cL_way 15 = .ok (.iconst 0, 1) := by decide +kernel
theorem dL_way_16 : decode cL_way 16 = .ok (.ireturn, 1) := by decide +kernel
set_option maxRecDepth 20000 in
theorem ggL_first_X3_first : GoodIn wsL_first wsX3_first := goodIn_ca (goodIn_r _ [6, 7, 8, 9, 10, 5, 11, 12, 13, 14, 15, 16, 17, 18, 19, 20, 21, 22, 23, 24, 25, 26, 27, 28, 29, 30, 31, 32, 33, 34, 35, 36, 37, 38, 39, 40, 41, 42, 43, 44, 45, 46, 47, 48, 49, 50, 51, 52, 53, 54, 55, 56, 57, 58, 59, 60, 61, 62, 63, 64, 65, 66, 67, 68, 69, 70, 71, 72, 73, 74, 75, 76, 77, 78, 79, 80, 81, 82, 83, 84, 85, 86, 87, 88, 89, 90, 91, 92, 93, 94, 95, 96, 97, 98, 99, 100, 101, 102, 103, 104, 105, 106, 107, 108, 109, 110, 111, 112, 113, 114, 115, 116, 117, 118, 119, 120, 121, 122, 123, 124, 125, 126, 127, 128, 129, 130, 131, 132, 133, 134, 135, 136, 137, 138, 139, 140, 141, 142, 143, 144, 145, 146, 147, 148, 149] (by decide +kernel) (by decide +kernel)) (goodIn_sub (fun _ h => List.mem_cons_of_mem _ (List.mem_append_right _ h)) (by decide +kernel))
set_option maxRecDepth 20000 in
theorem gL_first_X3_first : GoodIn wsL_first (wsV RL 58 RX3 yX3_first wsX3_first) := goodIn_app (goodIn_of _ (by decide +kernel)) ggL_first_X3_first
theorem dL_first_0 : decode cL_first 0 = .ok (.aload_n 2, 1) := by decide +kernel
theorem dL_first_1 : decode cL_first 1 = .ok (.iconst 0, 1) := by decide +kernel
theorem dL_first_2 : decode cL_first 2 = .ok (.aload_n 0, 1) := by decide +kernel
theorem dL_first_3 : decode cL_first 3 = .ok (.iload_n 1, 1) := by decide +kernel
theorem dL_first_4 : decode cL_first 4 = .ok (.invokevirtual 58, 3) := by decide +kernel
theorem dL_first_7 : decode cL_first 7 = .ok (.i2l, 1) := by decide +kernel
theorem dL_first_8 : decode cL_first 8 = .ok (.lastore, 1) := by decide +kernel
theorem dL_first_9 : decode cL_first 9 = .ok (.goto 6, 3) := by decide +kernel
theorem dL_first_12 : decode cL_first 12 = .ok (.astore_n 3, 1) := by decide +kernel
theorem dL_first_13 : decode cL_first 13 = .ok (.iconst 1, 1) := by decide +kernel
theorem dL_first_14 : decode cL_first 14 = .ok (.ireturn, 1) := by decide +kernel
theorem dL_first_15 : decode cL_first 15 = .ok (.iconst 0, 1) := by decide +kernel
theorem dL_first_16 : decode cL_first 16 = .ok (.ireturn, 1) := by decide +kernel
set_option maxRecDepth 20000 in
theorem ggL_wayToSide_X3_wayToSide : GoodIn wsL_wayToSide wsX3_wayToSide := goodIn_ca (goodIn_r _ [6, 7, 8, 9, 10, 5, 11, 12, 13, 14, 15, 16, 17, 18, 19, 20, 21, 22, 23, 24, 25, 26, 27, 28, 29, 30, 31, 32, 33, 34, 35, 36, 37, 38, 39, 40, 41, 42, 43, 44, 45, 46, 47, 48, 49, 50, 51, 52, 53, 54, 55, 56, 57, 58, 59, 60, 61, 62, 63, 64, 65, 66, 67, 68, 69, 70, 71, 72, 73, 74, 75, 76, 77, 78, 79, 80, 81, 82, 83, 84, 85, 86, 87, 88, 89, 90, 91, 92, 93, 94, 95, 96, 97, 98, 99, 100, 101, 102, 103, 104, 105, 106, 107, 108, 109, 110, 111, 112, 113, 114, 115, 116, 117, 118, 119, 120, 121, 122, 123, 124, 125, 126, 127, 128, 129, 130, 131, 132, 133, 134, 135, 136, 137, 138] (by decide +kernel) (by decide +kernel)) (goodIn_sub (fun _ h => List.mem_cons_of_mem _ (List.mem_append_right _ h)) (by decide +kernel))
set_option maxRecDepth 20000 in
theorem gL_wayToSide_X3_wayToSide : GoodIn wsL_wayToSide (wsV RL 61 RX3 yX3_wayToSide wsX3_wayToSide) := goodIn_app (goodIn_of _ (by decide +kernel)) ggL_wayToSide_X3_wayToSide
theorem dL_wayToSide_0 : decode cL_wayToSide 0 = .ok (.aload_n 3, 1) := by decide +kernel
theorem dL_wayToSide_1 : decode cL_wayToSide 1 = .ok (.iconst 0, 1) := by decide +kernel
theorem dL_wayToSide_2 : decode cL_wayToSide 2 = .ok (.aload_n 0, 1) := by decide +kernel
theorem dL_wayToSide_3 : decode cL_wayToSide 3 = .ok (.iload_n 1, 1) := by decide +kernel
theorem dL_wayToSide_4 : decode cL_wayToSide 4 = .ok (.iload_n 2, 1) := by decide +kernel
theorem dL_wayToSide_5 : decode cL_wayToSide 5 = .ok (.invokevirtual 61, 3) := by decide +kernel
theorem dL_wayToSide_8 : decode cL_wayToSide 8 = .ok (.i2l, 1) := by decide +kernel
theorem dL_wayToSide_9 : decode cL_wayToSide 9 = .ok (.lastore, 1) := by decide +kernel
theorem dL_wayToSide_10 : decode cL_wayToSide 10 = .ok (.goto 7, 3) := by decide +kernel
theorem dL_wayToSide_13 : decode cL_wayToSide 13 = .ok (.astore 4, 2) := by decide +kernel
theorem dL_wayToSide_15 : decode cL_wayToSide 15 = .ok (.iconst 1, 1) := by decide +kernel
theorem dL_wayToSide_16 : decode cL_wayToSide 16 = .ok (.ireturn, 1) := by decide +kernel
theorem dL_wayToSide_17 : decode cL_wayToSide 17 = .ok (.iconst 0, 1) := by decide +kernel
theorem dL_wayToSide_18 : decode cL_wayToSide 18 = .ok (.ireturn, 1) := by decide +kernel
set_option maxRecDepth 20000 in
theorem ggL_firstToSide_X3_firstToSide : GoodIn wsL_firstToSide wsX3_firstToSide := goodIn_ca (goodIn_r _ [6, 7, 8, 9, 10, 5, 11, 12, 13, 14, 15, 16, 17, 18, 19, 20, 21, 22, 23, 24, 25, 26, 27, 28, 29, 30, 31, 32, 33, 34, 35, 36, 37, 38, 39, 40, 41, 42, 43, 44, 45, 46, 47, 48, 49, 50, 51, 52, 53, 54, 55, 56, 57, 58, 59, 60, 61, 62, 63, 64, 65, 66, 67, 68, 69, 70, 71, 72, 73, 74, 75, 76, 77, 78, 79, 80, 81, 82, 83, 84, 85, 86, 87, 88, 89, 90, 91, 92, 93, 94, 95, 96, 97, 98, 99, 100, 101, 102, 103, 104, 105, 106, 107, 108, 109, 110, 111, 112, 113, 114, 115, 116, 117, 118, 119, 120, 121, 122, 123, 124, 125, 126, 127, 128, 129, 130, 131, 132, 133, 134, 135, 136, 137, 138, 139, 140, 141, 142, 143, 144, 145] (by decide +kernel) (by decide +kernel)) (goodIn_sub (fun _ h => List.mem_cons_of_mem _ (List.mem_append_right _ h)) (by decide +kernel))
set_option maxRecDepth 20000 in
theorem gL_firstToSide_X3_firstToSide : GoodIn wsL_firstToSide (wsV RL 64 RX3 yX3_firstToSide wsX3_firstToSide) := goodIn_app (goodIn_of _ (by decide +kernel)) ggL_firstToSide_X3_firstToSide
theorem dL_firstToSide_0 : decode cL_firstToSide 0 = .ok (.aload_n 3, 1) := by decide +kernel
theorem dL_firstToSide_1 : decode cL_firstToSide 1 = .ok (.iconst 0, 1) := by decide +kernel
theorem dL_firstToSide_2 : decode cL_firstToSide 2 = .ok (.aload_n 0, 1) := by decide +kernel
theorem dL_firstToSide_3 : decode cL_firstToSide 3 = .ok (.iload_n 1, 1) := by decide +kernel
theorem dL_firstToSide_4 : decode cL_firstToSide 4 = .ok (.iload_n 2, 1) := by decide +kernel
theorem dL_firstToSide_5 : decode cL_firstToSide 5 = .ok (.invokevirtual 64, 3) := by decide +kernel
theorem dL_firstToSide_8 : decode cL_firstToSide 8 = .ok (.i2l, 1) := by decide +kernel
theorem dL_firstToSide_9 : decode cL_firstToSide 9 = .ok (.lastore, 1) := by decide +kernel
theorem dL_firstToSide_10 : decode cL_firstToSide 10 = .ok (.goto 7, 3) := by decide +kernel
theorem dL_firstToSide_13 : decode cL_firstToSide 13 = .ok (.astore 4, 2) := by decide +kernel
theorem dL_firstToSide_15 : decode cL_firstToSide 15 = .ok (.iconst 1, 1) := by decide +kernel
theorem dL_firstToSide_16 : decode cL_firstToSide 16 = .ok (.ireturn, 1) := by decide +kernel
theorem dL_firstToSide_17 : decode cL_firstToSide 17 = .ok (.iconst 0, 1) := by decide +kernel
theorem dL_firstToSide_18 : decode cL_firstToSide 18 = .ok (.ireturn, 1) := by decide +kernel
set_option maxRecDepth 20000 in
theorem ggL_clear_X3_clear : GoodIn wsL_clear wsX3_clear := goodIn_ca (goodIn_r _ [6, 7, 8, 9, 10, 11, 12, 5, 13, 14, 15, 16, 17, 18, 19, 20, 21, 22, 23, 24, 25, 26, 27, 28, 29, 30, 31, 32, 33, 34, 35, 36, 37, 38, 39, 40, 41, 42, 43, 44, 45, 46, 47, 48, 49, 50, 51, 52, 53, 54, 55, 56, 57, 58, 59, 60, 61, 62, 63, 64, 65, 66, 67, 68, 69, 70, 71, 72, 73, 74, 75, 76, 77, 78, 79, 80, 81, 82, 83, 84, 85, 86, 87, 88, 89, 90, 91, 92, 93, 94, 95, 96, 97, 98, 99, 100, 101, 102, 103, 104, 105, 106, 107, 108, 109, 110, 111, 112, 113, 114, 115, 116, 117, 118, 119, 120, 121, 122, 123, 124, 125, 126, 127, 128, 129, 130, 131, 132, 133, 134, 135, 136, 137, 138, 139, 140, 141, 142, 143, 144, 145, 146, 147, 148, 149, 150, 151, 152, 153, 154, 155, 156, 157, 158, 159, 160, 161, 162, 163, 164, 165, 166, 167, 168, 169, 170, 171, 172, 173, 174, 175, 176, 177, 178, 179, 180, 181, 182, 183, 184, 185, 186, 187, 188, 189, 190, 191, 192, 193, 194, 195, 196, 197, 198, 199, 200, 201, 202, 203, 204, 205, 206, 207, 208, 209, 210, 211, 212, 213, 214, 215, 216, 217, 218, 219, 220, 221, 222, 223, 224, 225, 226, 227, 228, 229, 230, 231, 232, 233, 234, 235, 236, 237, 238, 239, 240] (by decide +kernel) (by decide +kernel)) (goodIn_sub (fun _ h => List.mem_cons_of_mem _ (List.mem_append_right _ h)) (by decide +kernel))
set_option maxRecDepth 20000 in
theorem gL_clear_X3_clear : GoodIn wsL_clear (wsV RL 67 RX3 yX3_clear wsX3_clear) := goodIn_app (goodIn_of _ (by decide +kernel)) ggL_clear_X3_clear
theorem dL_clear_0 : decode cL_clear 0 = .ok (.aload_n 2, 1) := by decide +kernel
theorem dL_clear_1 : decode cL_clear 1 = .ok (.iconst 0, 1) := by decide +kernel
theorem dL_clear_2 : decode cL_clear 2 = .ok (.aload_n 0, 1) := by decide +kernel
theorem dL_clear_3 : decode cL_clear 3 = .ok (.iload_n 1, 1) := by decide +kernel
theorem dL_clear_4 : decode cL_clear 4 = .ok (.invokevirtual 67, 3) := by decide +kernel
theorem dL_clear_7 : decode cL_clear 7 = .ok (.i2l, 1) := by decide +kernel
theorem dL_clear_8 : decode cL_clear 8 = .ok (.lastore, 1) := by decide +kernel
theorem dL_clear_9 : decode cL_clear 9 = .ok (.goto 6, 3) := by decide +kernel
theorem dL_clear_12 : decode cL_clear 12 = .ok (.astore_n 3, 1) := by decide +kernel
theorem dL_clear_13 : decode cL_clear 13 = .ok (.iconst 1, 1) := by decide +kernel
theorem dL_clear_14 : decode cL_clear 14 = .ok (.ireturn, 1) := by decide +kernel
theorem dL_clear_15 : decode cL_clear 15 = .ok (.iconst 0, 1) := by decide +kernel
theorem dL_clear_16 : decode cL_clear 16 = .ok (.ireturn, 1) := by decide +kernel
set_option maxRecDepth 20000 in
theorem ggL_total_X3_total : GoodIn wsL_total wsX3_total := goodIn_ca (goodIn_r _ [6, 7, 8, 9, 5, 10, 11, 12, 13, 14, 15, 16, 17, 18, 19, 20, 21, 22, 23, 24, 25, 26, 27, 28, 29, 30, 31, 32, 33] (by decide +kernel) (by decide +kernel)) (goodIn_sub (fun _ h => List.mem_cons_of_mem _ (List.mem_append_right _ h)) (by decide +kernel))
set_option maxRecDepth 20000 in
theorem gL_total_X3_total : GoodIn wsL_total (wsV RL 70 RX3 yX3_total wsX3_total) := goodIn_app (goodIn_of _ (by decide +kernel)) ggL_total_X3_total
theorem dL_total_0 : decode cL_total 0 = .ok (.aload_n 2, 1) := by decide +kernel
theorem dL_total_1 : decode cL_total 1 = .ok (.iconst 0, 1) := by decide +kernel
theorem dL_total_2 : decode cL_total 2 = .ok (.aload_n 0, 1) := by decide +kernel
theorem dL_total_3 : decode cL_total 3 = .ok (.iload_n 1, 1) := by decide +kernel
theorem dL_total_4 : decode cL_total 4 = .ok (.invokevirtual 70, 3) := by decide +kernel
theorem dL_total_7 : decode cL_total 7 = .ok (.lastore, 1) := by decide +kernel
theorem dL_total_8 : decode cL_total 8 = .ok (.goto 6, 3) := by decide +kernel
theorem dL_total_11 : decode cL_total 11 = .ok (.astore_n 3, 1) := by decide +kernel
theorem dL_total_12 : decode cL_total 12 = .ok (.iconst 1, 1) := by decide +kernel
theorem dL_total_13 : decode cL_total 13 = .ok (.ireturn, 1) := by decide +kernel
theorem dL_total_14 : decode cL_total 14 = .ok (.iconst 0, 1) := by decide +kernel
theorem dL_total_15 : decode cL_total 15 = .ok (.ireturn, 1) := by decide +kernel
set_option maxRecDepth 20000 in
theorem ggL_law_X3_init : GoodIn wsL_law wsX3_init := goodIn_r _ [9, 10, 11, 12, 13, 14, 15, 16, 17, 18, 19, 20, 21, 22, 23, 24, 25, 26, 27, 28, 29, 30, 31, 32, 33, 34, 35, 36, 37, 38, 39, 40, 41, 42, 43, 44, 45, 46, 47, 48, 49, 50, 51, 52, 53, 54, 55, 56, 57, 58, 59, 60, 702, 703, 704, 705, 706, 707, 708, 709, 710, 681, 682, 683, 711, 712, 713, 714, 715, 716, 717, 718, 719, 720, 721, 722, 723, 724, 725, 726] (by decide +kernel) (by decide +kernel)
set_option maxRecDepth 20000 in
theorem gL_law_X3_init : GoodIn wsL_law (wsX3_init) := ggL_law_X3_init
set_option maxRecDepth 20000 in
theorem ggL_law_X4_init : GoodIn wsL_law wsX4_init := goodIn_r _ [63, 64, 11, 12, 65, 29, 66, 67, 32, 68, 69, 70, 71, 72, 73, 74, 75, 6, 76, 77, 684, 685, 686, 687, 688, 689, 690, 691, 692, 693, 694, 695, 696, 697, 698, 699, 700, 701] (by decide +kernel) (by decide +kernel)
set_option maxRecDepth 20000 in
theorem gL_law_X4_init : GoodIn wsL_law (wsX4_init) := ggL_law_X4_init
set_option maxRecDepth 20000 in
theorem ggL_law_L_addNode : GoodIn wsL_law wsL_addNode := goodIn_ca (goodIn_r _ [81, 82, 83, 84, 85, 2, 86, 87, 88, 16, 89, 90, 91, 15, 92, 38, 93, 94, 95, 96, 30, 31, 681, 682, 683, 702, 703, 704, 705, 706, 707, 708, 709, 710] (by decide +kernel) (by decide +kernel)) (goodIn_sub (fun _ h => List.mem_append_left _ (List.mem_append_left _ (List.mem_append_right _ h))) (by decide +kernel))
set_option maxRecDepth 20000 in
theorem gL_law_L_addNode : GoodIn wsL_law (va_wsS RL 78 yL_addNode wsL_addNode) := goodIn_app (goodIn_of _ (by decide +kernel)) ggL_law_L_addNode
set_option maxRecDepth 20000 in
theorem ggL_law_X4_addNode : GoodIn wsL_law wsX4_addNode := goodIn_r _ [100, 101, 65, 66, 67, 102, 103, 104, 5, 105, 684, 685, 686, 687, 688, 689, 690, 691, 692, 693, 694, 695, 696, 697, 698, 699, 700, 701] (by decide +kernel) (by decide +kernel)
set_option maxRecDepth 20000 in
theorem gL_law_X4_addNode : GoodIn wsL_law (wsV RL 83 RX4 yX4_addNode wsX4_addNode) := goodIn_app (goodIn_of _ (by decide +kernel)) ggL_law_X4_addNode
set_option maxRecDepth 20000 in
theorem ggL_law_X4_thrown : GoodIn wsL_law wsX4_thrown := goodIn_r _ [109, 101, 684, 685, 686, 687, 688, 689, 690, 691, 692, 693, 694, 695, 696, 697, 698, 699, 700, 701] (by decide +kernel) (by decide +kernel)
set_option maxRecDepth 20000 in
theorem gL_law_X4_thrown : GoodIn wsL_law (wsV RL 84 RX4 yX4_thrown wsX4_thrown) := goodIn_app (goodIn_of _ (by decide +kernel)) ggL_law_X4_thrown
set_option maxRecDepth 20000 in
theorem ggL_law_L_setNode : GoodIn wsL_law wsL_setNode := goodIn_ca (goodIn_r _ [112, 113, 114, 115, 116, 2, 117, 16, 118, 119, 120, 121, 122, 123, 124, 125, 126, 15, 127, 38, 128, 129, 130, 131, 31, 132, 133, 134, 135, 136, 137, 138, 139, 140, 30, 141, 142, 143, 144, 681, 682, 683, 702, 703, 704, 705, 706, 707, 708, 709, 710] (by decide +kernel) (by decide +kernel)) (goodIn_sub (fun _ h => List.mem_append_left _ (List.mem_append_right _ h)) (by decide +kernel))
set_option maxRecDepth 20000 in
theorem gL_law_L_setNode : GoodIn wsL_law (va_wsS RL 87 yL_setNode wsL_setNode) := goodIn_app (goodIn_of _ (by decide +kernel)) ggL_law_L_setNode
set_option maxRecDepth 20000 in
theorem ggL_law_X4_setNode : GoodIn wsL_law wsX4_setNode := goodIn_r _ [148, 101, 67, 66, 149, 150, 151, 5, 152, 65, 153, 154, 155, 684, 685, 686, 687, 688, 689, 690, 691, 692, 693, 694, 695, 696, 697, 698, 699, 700, 701] (by decide +kernel) (by decide +kernel)
set_option maxRecDepth 20000 in
theorem gL_law_X4_setNode : GoodIn wsL_law (wsV RL 90 RX4 yX4_setNode wsX4_setNode) := goodIn_app (goodIn_of _ (by decide +kernel)) ggL_law_X4_setNode
set_option maxRecDepth 20000 in
theorem ggL_law_L_addRoad : GoodIn wsL_law wsL_addRoad := goodIn_ca (goodIn_ca (goodIn_ca (goodIn_r _ [158, 113, 159, 82, 160, 161, 162, 2, 163, 164, 165, 87, 88, 16, 118, 119, 120, 121, 122, 123, 124, 125, 126, 15, 127, 38, 166, 167, 168, 169, 170, 171, 172, 39, 173, 174, 175, 176, 33, 34, 35, 681, 682, 683, 702, 703, 704, 705, 706, 707, 708, 709, 710] (by decide +kernel) (by decide +kernel)) (goodIn_sub (fun _ h => List.mem_append_right _ h) (by decide +kernel))) (goodIn_sub (fun _ h => List.mem_append_left _ (List.mem_append_left _ (List.mem_append_right _ h))) (by decide +kernel))) (goodIn_sub (fun _ h => List.mem_append_left _ (List.mem_append_right _ h)) (by decide +kernel))
set_option maxRecDepth 20000 in
theorem gL_law_L_addRoad : GoodIn wsL_law (va_wsS RL 91 yL_addRoad wsL_addRoad) := goodIn_app (goodIn_of _ (by decide +kernel)) ggL_law_L_addRoad
set_option maxRecDepth 20000 in
theorem ggL_law_X4_addRoad : GoodIn wsL_law wsX4_addRoad := goodIn_r _ [180, 101, 181, 68, 69, 70, 149, 150, 151, 5, 152, 65, 153, 154, 155, 102, 103, 104, 105, 684, 685, 686, 687, 688, 689, 690, 691, 692, 693, 694, 695, 696, 697, 698, 699, 700, 701] (by decide +kernel) (by decide +kernel)
set_option maxRecDepth 20000 in
theorem gL_law_X4_addRoad : GoodIn wsL_law (wsV RL 94 RX4 yX4_addRoad wsX4_addRoad) := goodIn_app (goodIn_of _ (by decide +kernel)) ggL_law_X4_addRoad
set_option maxRecDepth 20000 in
theorem ggL_law_L_snow : GoodIn wsL_law wsL_snow := goodIn_ca (goodIn_r _ [184, 159, 185, 186, 187, 2, 188, 164, 165, 16, 189, 190, 191, 15, 192, 37, 193, 194, 195, 196, 39, 197, 198, 199, 200, 36, 201, 202, 203, 204, 205, 206, 207, 208, 209, 210, 211, 212, 213, 214, 215, 681, 682, 683, 702, 703, 704, 705, 706, 707, 708, 709, 710] (by decide +kernel) (by decide +kernel)) (goodIn_sub (fun _ h => List.mem_append_right _ h) (by decide +kernel))
set_option maxRecDepth 20000 in
theorem gL_law_L_snow : GoodIn wsL_law (va_wsS RL 95 yL_snow wsL_snow) := goodIn_app (goodIn_of _ (by decide +kernel)) ggL_law_L_snow
set_option maxRecDepth 20000 in
theorem ggL_law_X4_snow : GoodIn wsL_law wsX4_snow := goodIn_r _ [219, 101, 181, 71, 72, 220, 202, 203, 204, 221, 214, 215, 153, 154, 5, 155, 102, 103, 104, 105, 222, 223, 224, 225, 70, 684, 685, 686, 687, 688, 689, 690, 691, 692, 693, 694, 695, 696, 697, 698, 699, 700, 701] (by decide +kernel) (by decide +kernel)
set_option maxRecDepth 20000 in
theorem gL_law_X4_snow : GoodIn wsL_law (wsV RL 98 RX4 yX4_snow wsX4_snow) := goodIn_app (goodIn_of _ (by decide +kernel)) ggL_law_X4_snow
set_option maxRecDepth 20000 in
theorem ggL_law_L_depth : GoodIn wsL_law wsL_depth := goodIn_ca (goodIn_r _ [228, 113, 229, 230, 231, 2, 232, 16, 233, 234, 235, 236, 122, 123, 237, 238, 239, 15, 240, 39, 241, 242, 243, 244, 36, 205, 206, 207, 208, 681, 682, 683, 702, 703, 704, 705, 706, 707, 708, 709, 710] (by decide +kernel) (by decide +kernel)) (goodIn_sub (fun _ h => List.mem_append_left _ (List.mem_append_right _ h)) (by decide +kernel))
set_option maxRecDepth 20000 in
theorem gL_law_L_depth : GoodIn wsL_law (va_wsS RL 99 yL_depth wsL_depth) := goodIn_app (goodIn_of _ (by decide +kernel)) ggL_law_L_depth
set_option maxRecDepth 20000 in
theorem ggL_law_X4_depth : GoodIn wsL_law wsX4_depth := goodIn_r _ [248, 101, 71, 249, 250, 251, 5, 252, 181, 153, 154, 155, 102, 103, 104, 105, 684, 685, 686, 687, 688, 689, 690, 691, 692, 693, 694, 695, 696, 697, 698, 699, 700, 701] (by decide +kernel) (by decide +kernel)
set_option maxRecDepth 20000 in
theorem gL_law_X4_depth : GoodIn wsL_law (wsV RL 102 RX4 yX4_depth wsX4_depth) := goodIn_app (goodIn_of _ (by decide +kernel)) ggL_law_X4_depth
set_option maxRecDepth 20000 in
theorem ggL_law_L_isSalted : GoodIn wsL_law wsL_isSalted := goodIn_ca (goodIn_r _ [255, 113, 256, 257, 258, 2, 259, 16, 233, 234, 235, 236, 122, 123, 237, 238, 239, 15, 240, 39, 260, 261, 262, 263, 37, 205, 206, 207, 208, 681, 682, 683, 702, 703, 704, 705, 706, 707, 708, 709, 710] (by decide +kernel) (by decide +kernel)) (goodIn_sub (fun _ h => List.mem_append_left _ (List.mem_append_right _ h)) (by decide +kernel))
set_option maxRecDepth 20000 in
theorem gL_law_L_isSalted : GoodIn wsL_law (va_wsS RL 103 yL_isSalted wsL_isSalted) := goodIn_app (goodIn_of _ (by decide +kernel)) ggL_law_L_isSalted
set_option maxRecDepth 20000 in
theorem ggL_law_X4_isSalted : GoodIn wsL_law wsX4_isSalted := goodIn_r _ [267, 101, 72, 249, 250, 251, 5, 252, 181, 153, 154, 155, 684, 685, 686, 687, 688, 689, 690, 691, 692, 693, 694, 695, 696, 697, 698, 699, 700, 701] (by decide +kernel) (by decide +kernel)
set_option maxRecDepth 20000 in
theorem gL_law_X4_isSalted : GoodIn wsL_law (wsV RL 105 RX4 yX4_isSalted wsX4_isSalted) := goodIn_app (goodIn_of _ (by decide +kernel)) ggL_law_X4_isSalted
set_option maxRecDepth 20000 in
theorem ggL_law_L_worst : GoodIn wsL_law wsL_worst := goodIn_ca (goodIn_r _ [270, 113, 271, 272, 273, 2, 274, 122, 123, 16, 166, 167, 168, 275, 276, 277, 15, 278, 35, 36, 213, 214, 203, 215, 193, 194, 195, 196, 39, 681, 682, 683, 702, 703, 704, 705, 706, 707, 708, 709, 710] (by decide +kernel) (by decide +kernel)) (goodIn_sub (fun _ h => List.mem_append_left _ (List.mem_append_right _ h)) (by decide +kernel))
set_option maxRecDepth 20000 in
theorem gL_law_L_worst : GoodIn wsL_law (va_wsS RL 106 yL_worst wsL_worst) := goodIn_app (goodIn_of _ (by decide +kernel)) ggL_law_L_worst
set_option maxRecDepth 20000 in
theorem ggL_law_X4_worst : GoodIn wsL_law wsX4_worst := goodIn_r _ [282, 101, 153, 154, 5, 155, 222, 223, 224, 225, 181, 70, 71, 221, 214, 203, 215, 102, 103, 104, 105, 684, 685, 686, 687, 688, 689, 690, 691, 692, 693, 694, 695, 696, 697, 698, 699, 700, 701] (by decide +kernel) (by decide +kernel)
set_option maxRecDepth 20000 in
theorem gL_law_X4_worst : GoodIn wsL_law (wsV RL 108 RX4 yX4_worst wsX4_worst) := goodIn_app (goodIn_of _ (by decide +kernel)) ggL_law_X4_worst
set_option maxRecDepth 20000 in
theorem ggL_law_L_reach : GoodIn wsL_law wsL_reach := goodIn_ca (goodIn_r _ [285, 113, 286, 287, 288, 2, 289, 16, 118, 119, 120, 121, 122, 123, 124, 125, 126, 15, 127, 38, 290, 291, 292, 293, 294, 295, 296, 297, 36, 193, 194, 195, 196, 39, 298, 299, 300, 301, 33, 205, 206, 207, 208, 302, 303, 304, 305, 681, 682, 683, 702, 703, 704, 705, 706, 707, 708, 709, 710] (by decide +kernel) (by decide +kernel)) (goodIn_sub (fun _ h => List.mem_append_left _ (List.mem_append_right _ h)) (by decide +kernel))
set_option maxRecDepth 20000 in
theorem gL_law_L_reach : GoodIn wsL_law (va_wsS RL 109 yL_reach wsL_reach) := goodIn_app (goodIn_of _ (by decide +kernel)) ggL_law_L_reach
set_option maxRecDepth 20000 in
theorem ggL_law_X4_reach : GoodIn wsL_law wsX4_reach := goodIn_r _ [309, 101, 181, 71, 149, 150, 151, 5, 152, 65, 153, 154, 155, 102, 103, 104, 105, 310, 311, 312, 313, 68, 314, 315, 316, 317, 684, 685, 686, 687, 688, 689, 690, 691, 692, 693, 694, 695, 696, 697, 698, 699, 700, 701] (by decide +kernel) (by decide +kernel)
set_option maxRecDepth 20000 in
theorem gL_law_X4_reach : GoodIn wsL_law (wsV RL 111 RX4 yX4_reach wsX4_reach) := goodIn_app (goodIn_of _ (by decide +kernel)) ggL_law_X4_reach
set_option maxRecDepth 20000 in
theorem ggL_law_X3_bare : GoodIn wsL_law wsX3_bare := goodIn_r _ [321, 16, 322, 194, 195, 15, 196, 39, 323, 324, 325, 326, 36, 193, 681, 682, 683, 702, 703, 704, 705, 706, 707, 708, 709, 710] (by decide +kernel) (by decide +kernel)
set_option maxRecDepth 20000 in
theorem gL_law_X3_bare : GoodIn wsL_law (wsV RL 112 RX3 yX3_bare wsX3_bare) := goodIn_app (goodIn_of _ (by decide +kernel)) ggL_law_X3_bare
set_option maxRecDepth 20000 in
theorem ggL_law_X4_bare : GoodIn wsL_law wsX4_bare := goodIn_r _ [330, 101, 181, 71, 684, 685, 686, 687, 688, 689, 690, 691, 692, 693, 694, 695, 696, 697, 698, 699, 700, 701] (by decide +kernel) (by decide +kernel)
set_option maxRecDepth 20000 in
theorem gL_law_X4_bare : GoodIn wsL_law (wsV RL 116 RX4 yX4_bare wsX4_bare) := goodIn_app (goodIn_of _ (by decide +kernel)) ggL_law_X4_bare
set_option maxRecDepth 20000 in
theorem ggL_law_X3_strew : GoodIn wsL_law wsX3_strew := goodIn_r _ [334, 20, 335, 336, 337, 19, 338, 48, 681, 682, 683, 711, 712, 713, 714, 715, 716, 717, 718, 719] (by decide +kernel) (by decide +kernel)
set_option maxRecDepth 20000 in
theorem gL_law_X3_strew : GoodIn wsL_law (wsV RL 117 RX3 yX3_strew wsX3_strew) := goodIn_app (goodIn_of _ (by decide +kernel)) ggL_law_X3_strew
set_option maxRecDepth 20000 in
theorem ggL_law_X4_strew : GoodIn wsL_law wsX4_strew := goodIn_r _ [342, 101, 75, 684, 685, 686, 687, 688, 689, 690, 691, 692, 693, 694, 695, 696, 697, 698, 699, 700, 701] (by decide +kernel) (by decide +kernel)
set_option maxRecDepth 20000 in
theorem gL_law_X4_strew : GoodIn wsL_law (wsV RL 121 RX4 yX4_strew wsX4_strew) := goodIn_app (goodIn_of _ (by decide +kernel)) ggL_law_X4_strew
set_option maxRecDepth 20000 in
theorem ggL_law_L_go : GoodIn wsL_law wsL_go := goodIn_ca (goodIn_ca (goodIn_r _ [345, 113, 82, 346, 347, 348, 2, 349, 122, 123, 87, 88, 16, 20, 237, 238, 239, 15, 240, 39, 350, 351, 352, 19, 353, 44, 45, 46, 354, 355, 356, 357, 298, 299, 300, 301, 33, 205, 206, 207, 208, 358, 359, 360, 361, 141, 142, 143, 144, 30, 136, 125, 126, 127, 38, 362, 363, 364, 365, 366, 367, 368, 369, 370, 371, 372, 34, 373, 374, 242, 243, 244, 36, 375, 376, 377, 378, 48, 47, 379, 380, 381, 382, 383, 37, 384, 385, 386, 387, 197, 198, 199, 200, 201, 202, 203, 204, 388, 303, 304, 305, 681, 682, 683, 702, 703, 704, 705, 706, 707, 708, 709, 710, 711, 712, 713, 714, 715, 716, 717, 718, 719] (by decide +kernel) (by decide +kernel)) (goodIn_sub (fun _ h => List.mem_append_left _ (List.mem_append_right _ h)) (by decide +kernel))) (goodIn_sub (fun _ h => List.mem_append_left _ (List.mem_append_left _ (List.mem_append_right _ h))) (by decide +kernel))
set_option maxRecDepth 20000 in
theorem gL_law_L_go : GoodIn wsL_law (va_wsS RL 122 yL_go wsL_go) := goodIn_app (goodIn_of _ (by decide +kernel)) ggL_law_L_go
set_option maxRecDepth 20000 in
theorem ggL_law_X4_go : GoodIn wsL_law wsX4_go := goodIn_r _ [392, 101, 181, 393, 73, 153, 154, 5, 155, 102, 103, 104, 105, 394, 395, 396, 397, 66, 68, 398, 399, 400, 401, 69, 71, 75, 74, 72, 76, 220, 202, 203, 204, 402, 403, 404, 405, 314, 315, 316, 317, 684, 685, 686, 687, 688, 689, 690, 691, 692, 693, 694, 695, 696, 697, 698, 699, 700, 701] (by decide +kernel) (by decide +kernel)
set_option maxRecDepth 20000 in
theorem gL_law_X4_go : GoodIn wsL_law (wsV RL 124 RX4 yX4_go wsX4_go) := goodIn_app (goodIn_of _ (by decide +kernel)) ggL_law_X4_go
set_option maxRecDepth 20000 in
theorem ggL_law_L_fill : GoodIn wsL_law wsL_fill := goodIn_ca (goodIn_r _ [408, 82, 409, 410, 411, 2, 412, 87, 88, 16, 20, 413, 414, 415, 19, 416, 45, 417, 133, 134, 15, 135, 31, 136, 125, 126, 127, 38, 418, 419, 420, 421, 47, 368, 422, 681, 682, 683, 711, 712, 713, 714, 715, 716, 717, 718, 719, 702, 703, 704, 705, 706, 707, 708, 709, 710] (by decide +kernel) (by decide +kernel)) (goodIn_sub (fun _ h => List.mem_append_left _ (List.mem_append_left _ (List.mem_append_right _ h))) (by decide +kernel))
set_option maxRecDepth 20000 in
theorem gL_law_L_fill : GoodIn wsL_law (va_wsS RL 125 yL_fill wsL_fill) := goodIn_app (goodIn_of _ (by decide +kernel)) ggL_law_L_fill
set_option maxRecDepth 20000 in
theorem ggL_law_X4_fill : GoodIn wsL_law wsX4_fill := goodIn_r _ [426, 101, 67, 393, 427, 428, 429, 5, 430, 74, 76, 431, 102, 103, 104, 105, 684, 685, 686, 687, 688, 689, 690, 691, 692, 693, 694, 695, 696, 697, 698, 699, 700, 701] (by decide +kernel) (by decide +kernel)
set_option maxRecDepth 20000 in
theorem gL_law_X4_fill : GoodIn wsL_law (wsV RL 128 RX4 yX4_fill wsX4_fill) := goodIn_app (goodIn_of _ (by decide +kernel)) ggL_law_X4_fill
set_option maxRecDepth 20000 in
theorem ggL_law_L_plough : GoodIn wsL_law wsL_plough := goodIn_ca (goodIn_r _ [434, 113, 435, 436, 437, 2, 438, 20, 439, 440, 441, 122, 123, 442, 443, 444, 19, 445, 45, 46, 47, 48, 681, 682, 683, 711, 712, 713, 714, 715, 716, 717, 718, 719] (by decide +kernel) (by decide +kernel)) (goodIn_sub (fun _ h => List.mem_append_left _ (List.mem_append_right _ h)) (by decide +kernel))
set_option maxRecDepth 20000 in
theorem gL_law_L_plough : GoodIn wsL_law (va_wsS RL 129 yL_plough wsL_plough) := goodIn_app (goodIn_of _ (by decide +kernel)) ggL_law_L_plough
set_option maxRecDepth 20000 in
theorem ggL_law_X4_plough : GoodIn wsL_law wsX4_plough := goodIn_r _ [449, 101, 153, 154, 5, 155, 450, 451, 452, 453, 393, 73, 74, 75, 102, 103, 104, 105, 684, 685, 686, 687, 688, 689, 690, 691, 692, 693, 694, 695, 696, 697, 698, 699, 700, 701] (by decide +kernel) (by decide +kernel)
set_option maxRecDepth 20000 in
theorem gL_law_X4_plough : GoodIn wsL_law (wsV RL 131 RX4 yX4_plough wsX4_plough) := goodIn_app (goodIn_of _ (by decide +kernel)) ggL_law_X4_plough
set_option maxRecDepth 20000 in
theorem ggL_law_L_way : GoodIn wsL_law wsL_way := goodIn_ca (goodIn_r _ [456, 113, 457, 458, 459, 2, 460, 24, 118, 119, 120, 121, 122, 123, 16, 124, 125, 126, 15, 127, 38, 461, 462, 463, 23, 464, 59, 60, 58, 57, 465, 414, 415, 19, 416, 45, 466, 467, 468, 469, 53, 54, 470, 471, 472, 473, 46, 474, 475, 476, 477, 478, 194, 195, 196, 39, 479, 359, 360, 361, 33, 205, 206, 207, 208, 141, 142, 143, 144, 30, 136, 480, 481, 482, 483, 56, 484, 485, 486, 487, 488, 489, 490, 491, 492, 493, 494, 495, 496, 497, 370, 371, 372, 34, 373, 238, 239, 240, 498, 499, 500, 501, 502, 503, 504, 505, 506, 303, 304, 305, 507, 508, 509, 510, 511, 512, 513, 514, 681, 682, 683, 702, 703, 704, 705, 706, 707, 708, 709, 710, 720, 721, 722, 723, 724, 725, 726, 711, 712, 713, 714, 715, 716, 717, 718, 719] (by decide +kernel) (by decide +kernel)) (goodIn_sub (fun _ h => List.mem_append_left _ (List.mem_append_right _ h)) (by decide +kernel))
set_option maxRecDepth 20000 in
theorem gL_law_L_way : GoodIn wsL_law (va_wsS RL 132 yL_way wsL_way) := goodIn_app (goodIn_of _ (by decide +kernel)) ggL_law_L_way
set_option maxRecDepth 20000 in
theorem ggL_law_X4_way : GoodIn wsL_law wsX4_way := goodIn_r _ [518, 101, 149, 150, 151, 5, 152, 65, 153, 154, 155, 102, 103, 104, 105, 519, 520, 521, 522, 523, 524, 77, 525, 181, 526, 527, 528, 529, 69, 394, 395, 396, 397, 66, 68, 314, 315, 316, 317, 530, 531, 532, 533, 402, 403, 404, 405, 534, 535, 536, 537, 393, 73, 684, 685, 686, 687, 688, 689, 690, 691, 692, 693, 694, 695, 696, 697, 698, 699, 700, 701] (by decide +kernel) (by decide +kernel)
set_option maxRecDepth 20000 in
theorem gL_law_X4_way : GoodIn wsL_law (wsV RL 134 RX4 yX4_way wsX4_way) := goodIn_app (goodIn_of _ (by decide +kernel)) ggL_law_X4_way
set_option maxRecDepth 20000 in
theorem ggL_law_L_first : GoodIn wsL_law wsL_first := goodIn_ca (goodIn_r _ [540, 113, 541, 542, 543, 2, 544, 24, 118, 119, 120, 121, 122, 123, 16, 124, 125, 126, 15, 127, 38, 461, 462, 463, 23, 464, 59, 60, 58, 57, 465, 414, 415, 19, 416, 45, 466, 467, 468, 469, 53, 54, 470, 471, 472, 473, 46, 474, 475, 476, 477, 478, 194, 195, 196, 39, 479, 359, 360, 361, 33, 205, 206, 207, 208, 141, 142, 143, 144, 30, 136, 480, 481, 482, 483, 56, 484, 485, 486, 487, 488, 489, 490, 491, 492, 493, 494, 495, 496, 497, 370, 371, 372, 34, 373, 238, 239, 240, 498, 499, 500, 501, 502, 503, 504, 505, 506, 303, 304, 305, 545, 512, 513, 514, 546, 547, 548, 549, 550, 551, 552, 553, 681, 682, 683, 702, 703, 704, 705, 706, 707, 708, 709, 710, 720, 721, 722, 723, 724, 725, 726, 711, 712, 713, 714, 715, 716, 717, 718, 719] (by decide +kernel) (by decide +kernel)) (goodIn_sub (fun _ h => List.mem_append_left _ (List.mem_append_right _ h)) (by decide +kernel))
set_option maxRecDepth 20000 in
theorem gL_law_L_first : GoodIn wsL_law (va_wsS RL 135 yL_first wsL_first) := goodIn_app (goodIn_of _ (by decide +kernel)) ggL_law_L_first
set_option maxRecDepth 20000 in
theorem ggL_law_X4_first : GoodIn wsL_law wsX4_first := goodIn_r _ [557, 101, 149, 150, 151, 5, 152, 65, 153, 154, 155, 102, 103, 104, 105, 519, 520, 521, 522, 523, 524, 77, 525, 181, 526, 527, 528, 529, 69, 394, 395, 396, 397, 66, 68, 314, 315, 316, 317, 530, 531, 532, 533, 402, 403, 404, 405, 558, 559, 560, 561, 393, 73, 684, 685, 686, 687, 688, 689, 690, 691, 692, 693, 694, 695, 696, 697, 698, 699, 700, 701] (by decide +kernel) (by decide +kernel)
set_option maxRecDepth 20000 in
theorem gL_law_X4_first : GoodIn wsL_law (wsV RL 137 RX4 yX4_first wsX4_first) := goodIn_app (goodIn_of _ (by decide +kernel)) ggL_law_X4_first
set_option maxRecDepth 20000 in
theorem ggL_law_L_wayToSide : GoodIn wsL_law wsL_wayToSide := goodIn_ca (goodIn_r _ [564, 113, 565, 566, 567, 2, 568, 24, 233, 234, 235, 236, 122, 123, 16, 237, 238, 239, 15, 240, 39, 461, 462, 463, 23, 464, 59, 60, 58, 57, 465, 414, 415, 19, 416, 45, 466, 467, 468, 469, 53, 54, 470, 471, 472, 473, 46, 474, 475, 476, 477, 478, 194, 195, 196, 479, 359, 360, 361, 33, 205, 206, 207, 208, 141, 142, 143, 144, 30, 136, 125, 126, 127, 38, 480, 481, 482, 483, 56, 484, 485, 486, 487, 488, 489, 490, 491, 492, 493, 494, 495, 496, 497, 370, 371, 372, 34, 373, 498, 499, 500, 501, 502, 503, 504, 505, 506, 303, 304, 305, 569, 681, 682, 683, 702, 703, 704, 705, 706, 707, 708, 709, 710, 720, 721, 722, 723, 724, 725, 726, 711, 712, 713, 714, 715, 716, 717, 718, 719] (by decide +kernel) (by decide +kernel)) (goodIn_sub (fun _ h => List.mem_append_left _ (List.mem_append_right _ h)) (by decide +kernel))
set_option maxRecDepth 20000 in
theorem gL_law_L_wayToSide : GoodIn wsL_law (va_wsS RL 138 yL_wayToSide wsL_wayToSide) := goodIn_app (goodIn_of _ (by decide +kernel)) ggL_law_L_wayToSide
set_option maxRecDepth 20000 in
theorem ggL_law_X4_wayToSide : GoodIn wsL_law wsX4_wayToSide := goodIn_r _ [573, 101, 249, 250, 251, 5, 252, 181, 153, 154, 155, 102, 103, 104, 105, 519, 520, 521, 522, 523, 524, 77, 525, 65, 526, 527, 528, 529, 69, 394, 395, 396, 397, 66, 68, 314, 315, 316, 317, 530, 531, 532, 533, 402, 403, 404, 405, 534, 535, 536, 537, 393, 73, 684, 685, 686, 687, 688, 689, 690, 691, 692, 693, 694, 695, 696, 697, 698, 699, 700, 701] (by decide +kernel) (by decide +kernel)
set_option maxRecDepth 20000 in
theorem gL_law_X4_wayToSide : GoodIn wsL_law (wsV RL 140 RX4 yX4_wayToSide wsX4_wayToSide) := goodIn_app (goodIn_of _ (by decide +kernel)) ggL_law_X4_wayToSide
set_option maxRecDepth 20000 in
theorem ggL_law_L_firstToSide : GoodIn wsL_law wsL_firstToSide := goodIn_ca (goodIn_r _ [576, 113, 577, 578, 579, 2, 580, 24, 233, 234, 235, 236, 122, 123, 16, 237, 238, 239, 15, 240, 39, 461, 462, 463, 23, 464, 59, 60, 58, 57, 465, 414, 415, 19, 416, 45, 466, 467, 468, 469, 53, 54, 470, 471, 472, 473, 46, 474, 475, 476, 477, 478, 194, 195, 196, 479, 359, 360, 361, 33, 205, 206, 207, 208, 141, 142, 143, 144, 30, 136, 125, 126, 127, 38, 480, 481, 482, 483, 56, 484, 485, 486, 487, 488, 489, 490, 491, 492, 493, 494, 495, 496, 497, 370, 371, 372, 34, 373, 498, 499, 500, 501, 502, 503, 504, 505, 506, 303, 304, 305, 546, 547, 548, 549, 550, 551, 552, 553, 681, 682, 683, 702, 703, 704, 705, 706, 707, 708, 709, 710, 720, 721, 722, 723, 724, 725, 726, 711, 712, 713, 714, 715, 716, 717, 718, 719] (by decide +kernel) (by decide +kernel)) (goodIn_sub (fun _ h => List.mem_append_left _ (List.mem_append_right _ h)) (by decide +kernel))
set_option maxRecDepth 20000 in
theorem gL_law_L_firstToSide : GoodIn wsL_law (va_wsS RL 141 yL_firstToSide wsL_firstToSide) := goodIn_app (goodIn_of _ (by decide +kernel)) ggL_law_L_firstToSide
set_option maxRecDepth 20000 in
theorem ggL_law_X4_firstToSide : GoodIn wsL_law wsX4_firstToSide := goodIn_r _ [584, 101, 249, 250, 251, 5, 252, 181, 153, 154, 155, 102, 103, 104, 105, 519, 520, 521, 522, 523, 524, 77, 525, 65, 526, 527, 528, 529, 69, 394, 395, 396, 397, 66, 68, 314, 315, 316, 317, 530, 531, 532, 533, 402, 403, 404, 405, 558, 559, 560, 561, 393, 73, 684, 685, 686, 687, 688, 689, 690, 691, 692, 693, 694, 695, 696, 697, 698, 699, 700, 701] (by decide +kernel) (by decide +kernel)
set_option maxRecDepth 20000 in
theorem gL_law_X4_firstToSide : GoodIn wsL_law (wsV RL 143 RX4 yX4_firstToSide wsX4_firstToSide) := goodIn_app (goodIn_of _ (by decide +kernel)) ggL_law_X4_firstToSide
set_option maxRecDepth 20000 in
theorem ggL_law_X3_next : GoodIn wsL_law wsX3_next := goodIn_r _ [588, 589, 590, 591, 2, 592, 24, 16, 461, 462, 463, 23, 464, 59, 60, 58, 57, 465, 414, 415, 19, 416, 45, 466, 467, 468, 469, 53, 54, 470, 471, 472, 473, 46, 474, 475, 476, 477, 478, 194, 195, 15, 196, 39, 479, 359, 360, 361, 33, 205, 206, 207, 208, 141, 142, 143, 144, 30, 136, 125, 126, 127, 38, 480, 481, 482, 483, 56, 484, 485, 486, 487, 488, 489, 490, 491, 492, 493, 494, 495, 496, 497, 370, 371, 372, 34, 373, 238, 239, 240, 498, 499, 500, 501, 502, 503, 504, 505, 506, 303, 304, 305, 322, 241, 242, 243, 244, 36, 569, 593, 594, 595, 596, 597, 598, 599, 600, 35, 681, 682, 683, 720, 721, 722, 723, 724, 725, 726, 711, 712, 713, 714, 715, 716, 717, 718, 719, 702, 703, 704, 705, 706, 707, 708, 709, 710] (by decide +kernel) (by decide +kernel)
set_option maxRecDepth 20000 in
theorem gL_law_X3_next : GoodIn wsL_law (wsV RL 144 RX3 yX3_next wsX3_next) := goodIn_app (goodIn_of _ (by decide +kernel)) ggL_law_X3_next
set_option maxRecDepth 20000 in
theorem ggL_law_X4_next : GoodIn wsL_law wsX4_next := goodIn_r _ [604, 101, 605, 606, 607, 5, 608, 181, 71, 70, 519, 520, 521, 522, 523, 524, 77, 525, 65, 526, 527, 528, 529, 69, 394, 395, 396, 397, 66, 68, 314, 315, 316, 317, 530, 531, 532, 533, 402, 403, 404, 405, 534, 535, 536, 537, 393, 73, 684, 685, 686, 687, 688, 689, 690, 691, 692, 693, 694, 695, 696, 697, 698, 699, 700, 701] (by decide +kernel) (by decide +kernel)
set_option maxRecDepth 20000 in
theorem gL_law_X4_next : GoodIn wsL_law (wsV RL 147 RX4 yX4_next wsX4_next) := goodIn_app (goodIn_of _ (by decide +kernel)) ggL_law_X4_next
set_option maxRecDepth 20000 in
theorem ggL_law_L_clear : GoodIn wsL_law wsL_clear := goodIn_ca (goodIn_r _ [611, 159, 612, 613, 614, 2, 615, 164, 165, 20, 589, 590, 591, 592, 24, 16, 461, 462, 463, 23, 464, 59, 60, 58, 57, 465, 414, 415, 19, 416, 45, 466, 467, 468, 469, 53, 54, 470, 471, 472, 473, 46, 474, 475, 476, 477, 478, 194, 195, 15, 196, 39, 479, 359, 360, 361, 33, 205, 206, 207, 208, 141, 142, 143, 144, 30, 136, 125, 126, 127, 38, 480, 481, 482, 483, 56, 484, 485, 486, 487, 488, 489, 490, 491, 492, 493, 494, 495, 496, 497, 370, 371, 372, 34, 373, 238, 239, 240, 498, 499, 500, 501, 502, 503, 504, 505, 506, 303, 304, 305, 322, 241, 242, 243, 244, 36, 569, 593, 594, 595, 596, 597, 598, 599, 600, 35, 616, 617, 618, 619, 48, 47, 44, 369, 620, 621, 622, 623, 89, 90, 91, 92, 417, 133, 134, 135, 31, 507, 508, 509, 510, 511, 512, 513, 514, 624, 625, 626, 627, 545, 628, 629, 630, 631, 632, 633, 551, 552, 553, 362, 363, 364, 365, 366, 367, 368, 354, 355, 356, 357, 298, 299, 300, 301, 374, 375, 376, 377, 378, 379, 380, 381, 382, 383, 37, 384, 385, 386, 387, 197, 198, 199, 200, 201, 202, 203, 204, 388, 418, 419, 420, 421, 422, 681, 682, 683, 720, 721, 722, 723, 724, 725, 726, 711, 712, 713, 714, 715, 716, 717, 718, 719, 702, 703, 704, 705, 706, 707, 708, 709, 710] (by decide +kernel) (by decide +kernel)) (goodIn_sub (fun _ h => List.mem_append_right _ h) (by decide +kernel))
set_option maxRecDepth 20000 in
theorem gL_law_L_clear : GoodIn wsL_law (va_wsS RL 148 yL_clear wsL_clear) := goodIn_app (goodIn_of _ (by decide +kernel)) ggL_law_L_clear
set_option maxRecDepth 20000 in
theorem ggL_law_X4_clear : GoodIn wsL_law wsX4_clear := goodIn_r _ [637, 101, 75, 74, 69, 153, 154, 5, 155, 102, 103, 104, 105, 605, 606, 607, 608, 181, 71, 70, 519, 520, 521, 522, 523, 524, 77, 525, 65, 526, 527, 528, 529, 394, 395, 396, 397, 66, 68, 314, 315, 316, 317, 530, 531, 532, 533, 402, 403, 404, 405, 534, 535, 536, 537, 393, 73, 638, 639, 640, 641, 67, 642, 643, 644, 645, 558, 559, 560, 561, 398, 399, 400, 401, 72, 76, 220, 202, 203, 204, 427, 428, 429, 430, 431, 684, 685, 686, 687, 688, 689, 690, 691, 692, 693, 694, 695, 696, 697, 698, 699, 700, 701] (by decide +kernel) (by decide +kernel)
set_option maxRecDepth 20000 in
theorem gL_law_X4_clear : GoodIn wsL_law (wsV RL 150 RX4 yX4_clear wsX4_clear) := goodIn_app (goodIn_of _ (by decide +kernel)) ggL_law_X4_clear
set_option maxRecDepth 20000 in
theorem ggL_law_L_total : GoodIn wsL_law wsL_total := goodIn_ca (goodIn_r _ [648, 113, 649, 650, 651, 2, 652, 20, 439, 440, 441, 122, 123, 653, 654, 655, 19, 656, 368, 379, 366, 367, 681, 682, 683, 711, 712, 713, 714, 715, 716, 717, 718, 719] (by decide +kernel) (by decide +kernel)) (goodIn_sub (fun _ h => List.mem_append_left _ (List.mem_append_right _ h)) (by decide +kernel))
set_option maxRecDepth 20000 in
theorem gL_law_L_total : GoodIn wsL_law (va_wsS RL 151 yL_total wsL_total) := goodIn_app (goodIn_of _ (by decide +kernel)) ggL_law_L_total
set_option maxRecDepth 20000 in
theorem ggL_law_X4_total : GoodIn wsL_law wsX4_total := goodIn_r _ [660, 101, 76, 153, 154, 5, 155, 684, 685, 686, 687, 688, 689, 690, 691, 692, 693, 694, 695, 696, 697, 698, 699, 700, 701] (by decide +kernel) (by decide +kernel)
set_option maxRecDepth 20000 in
theorem gL_law_X4_total : GoodIn wsL_law (wsV RL 153 RX4 yX4_total wsX4_total) := goodIn_app (goodIn_of _ (by decide +kernel)) ggL_law_X4_total
set_option maxRecDepth 20000 in
theorem ggL_law_X3_digest : GoodIn wsL_law wsX3_digest := goodIn_r _ [664, 16, 665, 666, 20, 667, 668, 669, 15, 670, 671, 38, 30, 31, 39, 193, 194, 195, 196, 672, 242, 243, 244, 36, 205, 206, 207, 208, 673, 261, 262, 263, 37, 442, 443, 444, 19, 445, 45, 46, 47, 48, 653, 654, 655, 656, 368, 379, 366, 367, 681, 682, 683, 702, 703, 704, 705, 706, 707, 708, 709, 710, 711, 712, 713, 714, 715, 716, 717, 718, 719] (by decide +kernel) (by decide +kernel)
set_option maxRecDepth 20000 in
theorem gL_law_X3_digest : GoodIn wsL_law (wsV RL 154 RX3 yX3_digest wsX3_digest) := goodIn_app (goodIn_of _ (by decide +kernel)) ggL_law_X3_digest
set_option maxRecDepth 20000 in
theorem ggL_law_X4_digest : GoodIn wsL_law wsX4_digest := goodIn_r _ [677, 101, 678, 65, 679, 66, 67, 680, 181, 71, 72, 76, 450, 451, 452, 5, 453, 393, 73, 74, 75, 684, 685, 686, 687, 688, 689, 690, 691, 692, 693, 694, 695, 696, 697, 698, 699, 700, 701] (by decide +kernel) (by decide +kernel)
set_option maxRecDepth 20000 in
theorem gL_law_X4_digest : GoodIn wsL_law (wsV RL 158 RX4 yX4_digest wsX4_digest) := goodIn_app (goodIn_of _ (by decide +kernel)) ggL_law_X4_digest
