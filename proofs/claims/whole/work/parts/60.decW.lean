set_option maxRecDepth 20000 in
theorem ggL_newMap_X1_newMap : GoodIn wsL_newMap wsX1_newMap := goodIn_ca (goodIn_r _ [6, 7, 8, 9, 10, 11, 12, 13, 14, 5, 15, 16, 17, 18, 19, 20, 21, 22, 23, 24, 25, 26, 27, 28, 29, 30, 31, 32, 33, 34, 35, 36] (by decide +kernel) (by decide +kernel)) (goodIn_sub (fun _ h => List.mem_cons_of_mem _ (List.mem_append_right _ h)) (by decide +kernel))
set_option maxRecDepth 20000 in
theorem gL_newMap_X1_newMap : GoodIn wsL_newMap (wsV RL 7 RX1 yX1_newMap wsX1_newMap) := goodIn_app (goodIn_of _ (by decide +kernel)) ggL_newMap_X1_newMap
theorem dL_newMap_0 : decode cL_newMap 0 = .ok (.aload_n 3, 1) := by decide +kernel
theorem dL_newMap_1 : decode cL_newMap 1 = .ok (.iconst 0, 1) := by decide +kernel
theorem dL_newMap_2 : decode cL_newMap 2 = .ok (.aload_n 0, 1) := by decide +kernel
theorem dL_newMap_3 : decode cL_newMap 3 = .ok (.iload_n 1, 1) := by decide +kernel
theorem dL_newMap_4 : decode cL_newMap 4 = .ok (.iload_n 2, 1) := by decide +kernel
theorem dL_newMap_5 : decode cL_newMap 5 = .ok (.invokevirtual 7, 3) := by decide +kernel
theorem dL_newMap_8 : decode cL_newMap 8 = .ok (.i2l, 1) := by decide +kernel
theorem dL_newMap_9 : decode cL_newMap 9 = .ok (.lastore, 1) := by decide +kernel
theorem dL_newMap_10 : decode cL_newMap 10 = .ok (.goto 7, 3) := by decide +kernel
theorem dL_newMap_13 : decode cL_newMap 13 = .ok (.astore 4, 2) := by decide +kernel
theorem dL_newMap_15 : decode cL_newMap 15 = .ok (.iconst 1, 1) := by decide +kernel
theorem dL_newMap_16 : decode cL_newMap 16 = .ok (.ireturn, 1) := by decide +kernel
theorem dL_newMap_17 : decode cL_newMap 17 = .ok (.iconst 0, 1) := by decide +kernel
theorem dL_newMap_18 : decode cL_newMap 18 = .ok (.ireturn, 1) := by decide +kernel
set_option maxRecDepth 20000 in
theorem ggL_paint_X1_paint : GoodIn wsL_paint wsX1_paint := goodIn_ca (goodIn_r _ [6, 7, 8, 9, 10, 11, 12, 5, 13, 14, 15, 16, 17, 18, 19, 20, 21, 22, 23, 24, 25, 26, 27, 28, 29, 30, 31, 32, 33, 34, 35, 36, 37, 38, 39, 40, 41, 42, 43, 44, 45, 46, 47, 48] (by decide +kernel) (by decide +kernel)) (goodIn_sub (fun _ h => List.mem_cons_of_mem _ (List.mem_append_right _ h)) (by decide +kernel))
set_option maxRecDepth 20000 in
theorem gL_paint_X1_paint : GoodIn wsL_paint (wsV RL 15 RX1 yX1_paint wsX1_paint) := goodIn_app (goodIn_of _ (by decide +kernel)) ggL_paint_X1_paint
theorem dL_paint_0 : decode cL_paint 0 = .ok (.aload 4, 2) := by decide +kernel
theorem dL_paint_2 : decode cL_paint 2 = .ok (.iconst 0, 1) := by decide +kernel
theorem dL_paint_3 : decode cL_paint 3 = .ok (.aload_n 0, 1) := by decide +kernel
theorem dL_paint_4 : decode cL_paint 4 = .ok (.iload_n 1, 1) := by decide +kernel
theorem dL_paint_5 : decode cL_paint 5 = .ok (.iload_n 2, 1) := by decide +kernel
theorem dL_paint_6 : decode cL_paint 6 = .ok (.iload_n 3, 1) := by decide +kernel
theorem dL_paint_7 : decode cL_paint 7 = .ok (.invokevirtual 15, 3) := by decide +kernel
theorem dL_paint_10 : decode cL_paint 10 = .ok (.i2l, 1) := by decide +kernel
theorem dL_paint_11 : decode cL_paint 11 = .ok (.lastore, 1) := by decide +kernel
theorem dL_paint_12 : decode cL_paint 12 = .ok (.goto 7, 3) := by decide +kernel
theorem dL_paint_15 : decode cL_paint 15 = .ok (.astore 5, 2) := by decide +kernel
theorem dL_paint_17 : decode cL_paint 17 = .ok (.iconst 1, 1) := by decide +kernel
theorem dL_paint_18 : decode cL_paint 18 = .ok (.ireturn, 1) := by decide +kernel
theorem dL_paint_19 : decode cL_paint 19 = .ok (.iconst 0, 1) := by decide +kernel
theorem dL_paint_20 : decode cL_paint 20 = .ok (.ireturn, 1) := by decide +kernel
set_option maxRecDepth 20000 in
theorem ggL_turnStubborn_X1_turnStubborn : GoodIn wsL_turnStubborn wsX1_turnStubborn := goodIn_ca (goodIn_r _ [6, 7, 8, 9, 10, 11, 12, 13, 5, 14, 15, 16, 17, 18, 19, 20, 21, 22, 23, 24, 25, 26, 27, 28, 29, 30] (by decide +kernel) (by decide +kernel)) (goodIn_sub (fun _ h => List.mem_cons_of_mem _ (List.mem_append_right _ h)) (by decide +kernel))
set_option maxRecDepth 20000 in
theorem gL_turnStubborn_X1_turnStubborn : GoodIn wsL_turnStubborn (wsV RL 21 RX1 yX1_turnStubborn wsX1_turnStubborn) := goodIn_app (goodIn_of _ (by decide +kernel)) ggL_turnStubborn_X1_turnStubborn
theorem dL_turnStubborn_0 : decode cL_turnStubborn 0 = .ok (.aload_n 3, 1) := by decide +kernel
theorem dL_turnStubborn_1 : decode cL_turnStubborn 1 = .ok (.iconst 0, 1) := by decide +kernel
theorem dL_turnStubborn_2 : decode cL_turnStubborn 2 = .ok (.aload_n 0, 1) := by decide +kernel
theorem dL_turnStubborn_3 : decode cL_turnStubborn 3 = .ok (.iload_n 1, 1) := by decide +kernel
theorem dL_turnStubborn_4 : decode cL_turnStubborn 4 = .ok (.iload_n 2, 1) := by decide +kernel
theorem dL_turnStubborn_5 : decode cL_turnStubborn 5 = .ok (.invokevirtual 21, 3) := by decide +kernel
theorem dL_turnStubborn_8 : decode cL_turnStubborn 8 = .ok (.ifCond .eq 7, 3) := by decide +kernel
theorem dL_turnStubborn_11 : decode cL_turnStubborn 11 = .ok (.lconst 1, 1) := by decide +kernel
theorem dL_turnStubborn_12 : decode cL_turnStubborn 12 = .ok (.goto 4, 3) := by decide +kernel
theorem dL_turnStubborn_15 : decode cL_turnStubborn 15 = .ok (.lconst 0, 1) := by decide +kernel
theorem dL_turnStubborn_16 : decode cL_turnStubborn 16 = .ok (.lastore, 1) := by decide +kernel
theorem dL_turnStubborn_17 : decode cL_turnStubborn 17 = .ok (.goto 7, 3) := by decide +kernel
theorem dL_turnStubborn_20 : decode cL_turnStubborn 20 = .ok (.astore 4, 2) := by decide +kernel
theorem dL_turnStubborn_22 : decode cL_turnStubborn 22 = .ok (.iconst 1, 1) := by decide +kernel
theorem dL_turnStubborn_23 : decode cL_turnStubborn 23 = .ok (.ireturn, 1) := by decide +kernel
theorem dL_turnStubborn_24 : decode cL_turnStubborn 24 = .ok (.iconst 0, 1) := by decide +kernel
theorem dL_turnStubborn_25 : decode cL_turnStubborn 25 = .ok (.ireturn, 1) := by decide +kernel
set_option maxRecDepth 20000 in
theorem ggL_setNeed_X1_setNeed : GoodIn wsL_setNeed wsX1_setNeed := goodIn_ca (goodIn_r _ [6, 7, 8, 9, 10, 11, 12, 13, 14, 15, 16, 17, 18, 19, 20, 21] (by decide +kernel) (by decide +kernel)) (goodIn_sub (fun _ h => List.mem_cons_of_mem _ (List.mem_append_right _ h)) (by decide +kernel))
set_option maxRecDepth 20000 in
theorem gL_setNeed_X1_setNeed : GoodIn wsL_setNeed (wsV RL 25 RX1 yX1_setNeed wsX1_setNeed) := goodIn_app (goodIn_of _ (by decide +kernel)) ggL_setNeed_X1_setNeed
theorem dL_setNeed_0 : decode cL_setNeed 0 = .ok (.aload_n 2, 1) := by decide +kernel
theorem dL_setNeed_1 : decode cL_setNeed 1 = .ok (.iconst 0, 1) := by decide +kernel
theorem dL_setNeed_2 : decode cL_setNeed 2 = .ok (.aload_n 0, 1) := by decide +kernel
theorem dL_setNeed_3 : decode cL_setNeed 3 = .ok (.iload_n 1, 1) := by decide +kernel
theorem dL_setNeed_4 : decode cL_setNeed 4 = .ok (.invokevirtual 25, 3) := by decide +kernel
theorem dL_setNeed_7 : decode cL_setNeed 7 = .ok (.i2l, 1) := by decide +kernel
theorem dL_setNeed_8 : decode cL_setNeed 8 = .ok (.lastore, 1) := by decide +kernel
theorem dL_setNeed_9 : decode cL_setNeed 9 = .ok (.goto 6, 3) := by decide +kernel
theorem dL_setNeed_12 : decode cL_setNeed 12 = .ok (.astore_n 3, 1) := by decide +kernel
theorem dL_setNeed_13 : decode cL_setNeed 13 = .ok (.iconst 1, 1) := by decide +kernel
theorem dL_setNeed_14 : decode cL_setNeed 14 = .ok (.ireturn, 1) := by decide +kernel
theorem dL_setNeed_15 : decode cL_setNeed 15 = .ok (.iconst 0, 1) := by decide +kernel
theorem dL_setNeed_16 : decode cL_setNeed 16 = .ok (.ireturn, 1) := by decide +kernel
set_option maxRecDepth 20000 in
theorem ggL_pass_X1_pass : GoodIn wsL_pass wsX1_pass := goodIn_ca (goodIn_r _ [6, 7, 8, 9, 10, 11, 12, 13, 14, 15, 16, 17, 18, 19, 20, 21, 22, 23, 24, 25, 26, 27, 28, 29, 30, 31, 32, 33, 34, 35, 36, 37, 38, 39, 40, 41, 42, 43, 44, 45, 46, 47, 48, 49, 50, 51, 52, 53, 54] (by decide +kernel) (by decide +kernel)) (goodIn_sub (fun _ h => List.mem_cons_of_mem _ (List.mem_append_right _ h)) (by decide +kernel))
set_option maxRecDepth 20000 in
theorem gL_pass_X1_pass : GoodIn wsL_pass (wsV RL 29 RX1 yX1_pass wsX1_pass) := goodIn_app (goodIn_of _ (by decide +kernel)) ggL_pass_X1_pass
theorem dL_pass_0 : decode cL_pass 0 = .ok (.aload_n 2, 1) := by decide +kernel
theorem dL_pass_1 : decode cL_pass 1 = .ok (.iconst 0, 1) := by decide +kernel
theorem dL_pass_2 : decode cL_pass 2 = .ok (.aload_n 0, 1) := by decide +kernel
theorem dL_pass_3 : decode cL_pass 3 = .ok (.iload_n 1, 1) := by decide +kernel
theorem dL_pass_4 : decode cL_pass 4 = .ok (.invokevirtual 29, 3) := by decide +kernel
theorem dL_pass_7 : decode cL_pass 7 = .ok (.i2l, 1) := by decide +kernel
theorem dL_pass_8 : decode cL_pass 8 = .ok (.lastore, 1) := by decide +kernel
theorem dL_pass_9 : decode cL_pass 9 = .ok (.goto 6, 3) := by decide +kernel
theorem dL_pass_12 : decode cL_pass 12 = .ok (.astore_n 3, 1) := by decide +kernel
theorem dL_pass_13 : decode cL_pass 13 = .ok (.iconst 1, 1) := by decide +kernel
theorem dL_pass_14 : decode cL_pass 14 = .ok (.ireturn, 1) := by decide +kernel
theorem dL_pass_15 : decode cL_pass 15 = .ok (.iconst 0, 1) := by decide +kernel
theorem dL_pass_16 : decode cL_pass 16 = .ok (.ireturn, 1) := by decide +kernel
set_option maxRecDepth 20000 in
theorem ggL_colourAt_X1_colourAt : GoodIn wsL_colourAt wsX1_colourAt := goodIn_ca (goodIn_r _ [6, 7, 8, 9, 10, 11, 12, 5, 13, 14, 15, 16, 17, 18, 19, 20, 21, 22, 23, 24, 25, 26, 27, 28, 29, 30, 31, 32, 33, 34, 35, 36, 37, 38] (by decide +kernel) (by decide +kernel)) (goodIn_sub (fun _ h => List.mem_cons_of_mem _ (List.mem_append_right _ h)) (by decide +kernel))
set_option maxRecDepth 20000 in
theorem gL_colourAt_X1_colourAt : GoodIn wsL_colourAt (wsV RL 32 RX1 yX1_colourAt wsX1_colourAt) := goodIn_app (goodIn_of _ (by decide +kernel)) ggL_colourAt_X1_colourAt
theorem dL_colourAt_0 : decode cL_colourAt 0 = .ok (.aload_n 3, 1) := by decide +kernel
theorem dL_colourAt_1 : decode cL_colourAt 1 = .ok (.iconst 0, 1) := by decide +kernel
theorem dL_colourAt_2 : decode cL_colourAt 2 = .ok (.aload_n 0, 1) := by decide +kernel
theorem dL_colourAt_3 : decode cL_colourAt 3 = .ok (.iload_n 1, 1) := by decide +kernel
theorem dL_colourAt_4 : decode cL_colourAt 4 = .ok (.iload_n 2, 1) := by decide +kernel
theorem dL_colourAt_5 : decode cL_colourAt 5 = .ok (.invokevirtual 32, 3) := by decide +kernel
theorem dL_colourAt_8 : decode cL_colourAt 8 = .ok (.i2l, 1) := by decide +kernel
theorem dL_colourAt_9 : decode cL_colourAt 9 = .ok (.lastore, 1) := by decide +kernel
theorem dL_colourAt_10 : decode cL_colourAt 10 = .ok (.goto 7, 3) := by decide +kernel
theorem dL_colourAt_13 : decode cL_colourAt 13 = .ok (.astore 4, 2) := by decide +kernel
theorem dL_colourAt_15 : decode cL_colourAt 15 = .ok (.iconst 1, 1) := by decide +kernel
theorem dL_colourAt_16 : decode cL_colourAt 16 = .ok (.ireturn, 1) := by decide +kernel
theorem dL_colourAt_17 : decode cL_colourAt 17 = .ok (.iconst 0, 1) := by decide +kernel
theorem dL_colourAt_18 : decode cL_colourAt 18 = .ok (.ireturn, 1) := by decide +kernel
set_option maxRecDepth 20000 in
theorem ggL_isStubborn_X1_isStubborn : GoodIn wsL_isStubborn wsX1_isStubborn := goodIn_ca (goodIn_r _ [6, 7, 8, 9, 10, 11, 12, 13, 5, 14, 15, 16, 17, 18, 19, 20, 21, 22, 23, 24, 25, 26, 27, 28, 29, 30] (by decide +kernel) (by decide +kernel)) (goodIn_sub (fun _ h => List.mem_cons_of_mem _ (List.mem_append_right _ h)) (by decide +kernel))
set_option maxRecDepth 20000 in
theorem gL_isStubborn_X1_isStubborn : GoodIn wsL_isStubborn (wsV RL 35 RX1 yX1_isStubborn wsX1_isStubborn) := goodIn_app (goodIn_of _ (by decide +kernel)) ggL_isStubborn_X1_isStubborn
theorem dL_isStubborn_0 : decode cL_isStubborn 0 = .ok (.aload_n 3, 1) := by decide +kernel
theorem dL_isStubborn_1 : decode cL_isStubborn 1 = .ok (.iconst 0, 1) := by decide +kernel
theorem dL_isStubborn_2 : decode cL_isStubborn 2 = .ok (.aload_n 0, 1) := by decide +kernel
theorem dL_isStubborn_3 : decode cL_isStubborn 3 = .ok (.iload_n 1, 1) := by decide +kernel
theorem dL_isStubborn_4 : decode cL_isStubborn 4 = .ok (.iload_n 2, 1) := by decide +kernel
theorem dL_isStubborn_5 : decode cL_isStubborn 5 = .ok (.invokevirtual 35, 3) := by decide +kernel
theorem dL_isStubborn_8 : decode cL_isStubborn 8 = .ok (.ifCond .eq 7, 3) := by decide +kernel
theorem dL_isStubborn_11 : decode cL_isStubborn 11 = .ok (.lconst 1, 1) := by decide +kernel
theorem dL_isStubborn_12 : decode cL_isStubborn 12 = .ok (.goto 4, 3) := by decide +kernel
theorem dL_isStubborn_15 : decode cL_isStubborn 15 = .ok (.lconst 0, 1) := by decide +kernel
theorem dL_isStubborn_16 : decode cL_isStubborn 16 = .ok (.lastore, 1) := by decide +kernel
theorem dL_isStubborn_17 : decode cL_isStubborn 17 = .ok (.goto 7, 3) := by decide +kernel
theorem dL_isStubborn_20 : decode cL_isStubborn 20 = .ok (.astore 4, 2) := by decide +kernel
theorem dL_isStubborn_22 : decode cL_isStubborn 22 = .ok (.iconst 1, 1) := by decide +kernel
theorem dL_isStubborn_23 : decode cL_isStubborn 23 = .ok (.ireturn, 1) := by decide +kernel
theorem dL_isStubborn_24 : decode cL_isStubborn 24 = .ok (.iconst 0, 1) := by decide +kernel
theorem dL_isStubborn_25 : decode cL_isStubborn 25 = .ok (.ireturn, 1) := by decide +kernel
set_option maxRecDepth 20000 in
theorem ggL_neighboursWith_X1_neighboursWith : GoodIn wsL_neighboursWith wsX1_neighboursWith := goodIn_ca (goodIn_r _ [6, 7, 8, 9, 10, 11, 12, 5, 13, 14, 15, 16, 17, 18, 19, 20, 21, 22, 23, 24, 25, 26, 27, 28, 29, 30, 31, 32, 33, 34, 35, 36, 37, 38, 39, 40, 41, 42, 43, 44, 45, 46, 47, 48, 49, 50, 51] (by decide +kernel) (by decide +kernel)) (goodIn_sub (fun _ h => List.mem_cons_of_mem _ (List.mem_append_right _ h)) (by decide +kernel))
set_option maxRecDepth 20000 in
theorem gL_neighboursWith_X1_neighboursWith : GoodIn wsL_neighboursWith (wsV RL 38 RX1 yX1_neighboursWith wsX1_neighboursWith) := goodIn_app (goodIn_of _ (by decide +kernel)) ggL_neighboursWith_X1_neighboursWith
theorem dL_neighboursWith_0 : decode cL_neighboursWith 0 = .ok (.aload 4, 2) := by decide +kernel
theorem dL_neighboursWith_2 : decode cL_neighboursWith 2 = .ok (.iconst 0, 1) := by decide +kernel
theorem dL_neighboursWith_3 : decode cL_neighboursWith 3 = .ok (.aload_n 0, 1) := by decide +kernel
theorem dL_neighboursWith_4 : decode cL_neighboursWith 4 = .ok (.iload_n 1, 1) := by decide +kernel
theorem dL_neighboursWith_5 : decode cL_neighboursWith 5 = .ok (.iload_n 2, 1) := by decide +kernel
theorem dL_neighboursWith_6 : decode cL_neighboursWith 6 = .ok (.iload_n 3, 1) := by decide +kernel
theorem dL_neighboursWith_7 : decode cL_neighboursWith 7 = .ok (.invokevirtual 38, 3) := by decide +kernel
theorem dL_neighboursWith_10 : decode cL_neighboursWith 10 = .ok (.i2l, 1) := by decide +kernel
theorem dL_neighboursWith_11 : decode cL_neighboursWith 11 = .ok (.lastore, 1) := by decide +kernel
theorem dL_neighboursWith_12 : decode cL_neighboursWith 12 = .ok (.goto 7, 3) := by decide +kernel
theorem dL_neighboursWith_15 : decode cL_neighboursWith 15 = .ok (.astore 5, 2) := by decide +kernel
theorem dL_neighboursWith_17 : decode cL_neighboursWith 17 = .ok (.iconst 1, 1) := by decide +kernel
theorem dL_neighboursWith_18 : decode cL_neighboursWith 18 = .ok (.ireturn, 1) := by decide +kernel
theorem dL_neighboursWith_19 : decode cL_neighboursWith 19 = .ok (.iconst 0, 1) := by decide +kernel
theorem dL_neighboursWith_20 : decode cL_neighboursWith 20 = .ok (.ireturn, 1) := by decide +kernel
set_option maxRecDepth 20000 in
theorem ggL_nextColour_X1_nextColour : GoodIn wsL_nextColour wsX1_nextColour := goodIn_ca (goodIn_r _ [6, 7, 8, 9, 10, 11, 12, 5, 13, 14, 15, 16, 17, 18, 19, 20, 21, 22, 23, 24, 25, 26, 27, 28, 29, 30, 31, 32, 33, 34, 35, 36, 37, 38, 39, 40, 41, 42, 43, 44, 45, 46, 47, 48, 49, 50, 51, 52, 53, 54, 55, 56, 57, 58] (by decide +kernel) (by decide +kernel)) (goodIn_sub (fun _ h => List.mem_cons_of_mem _ (List.mem_append_right _ h)) (by decide +kernel))
set_option maxRecDepth 20000 in
theorem gL_nextColour_X1_nextColour : GoodIn wsL_nextColour (wsV RL 41 RX1 yX1_nextColour wsX1_nextColour) := goodIn_app (goodIn_of _ (by decide +kernel)) ggL_nextColour_X1_nextColour
theorem dL_nextColour_0 : decode cL_nextColour 0 = .ok (.aload_n 3, 1) := by decide +kernel
theorem dL_nextColour_1 : decode cL_nextColour 1 = .ok (.iconst 0, 1) := by decide +kernel
theorem dL_nextColour_2 : decode cL_nextColour 2 = .ok (.aload_n 0, 1) := by decide +kernel
theorem dL_nextColour_3 : decode cL_nextColour 3 = .ok (.iload_n 1, 1) := by decide +kernel
theorem dL_nextColour_4 : decode cL_nextColour 4 = .ok (.iload_n 2, 1) := by decide +kernel
theorem dL_nextColour_5 : decode cL_nextColour 5 = .ok (.invokevirtual 41, 3) := by decide +kernel
theorem dL_nextColour_8 : decode cL_nextColour 8 = .ok (.i2l, 1) := by decide +kernel
theorem dL_nextColour_9 : decode cL_nextColour 9 = .ok (.lastore, 1) := by decide +kernel
theorem dL_nextColour_10 : decode cL_nextColour 10 = .ok (.goto 7, 3) := by decide +kernel
theorem dL_nextColour_13 : decode cL_nextColour 13 = .ok (.astore 4, 2) := by decide +kernel
theorem dL_nextColour_15 : decode cL_nextColour 15 = .ok (.iconst 1, 1) := by decide +kernel
theorem dL_nextColour_16 : decode cL_nextColour 16 = .ok (.ireturn, 1) := by decide +kernel
theorem dL_nextColour_17 : decode cL_nextColour 17 = .ok (.iconst 0, 1) := by decide +kernel
theorem dL_nextColour_18 : decode cL_nextColour 18 = .ok (.ireturn, 1) := by decide +kernel
set_option maxRecDepth 20000 in
theorem ggL_regionSize_X1_regionSize : GoodIn wsL_regionSize wsX1_regionSize := goodIn_ca (goodIn_r _ [6, 7, 8, 9, 10, 11, 12, 5, 13, 14, 15, 16, 17, 18, 19, 20, 21, 22, 23, 24, 25, 26, 27, 28, 29, 30, 31, 32, 33, 34, 35, 36, 37, 38, 39, 40, 41, 42, 43, 44, 45, 46, 47, 48, 49, 50, 51, 52, 53, 54, 55, 56, 57, 58] (by decide +kernel) (by decide +kernel)) (goodIn_sub (fun _ h => List.mem_cons_of_mem _ (List.mem_append_right _ h)) (by decide +kernel))
set_option maxRecDepth 20000 in
theorem gL_regionSize_X1_regionSize : GoodIn wsL_regionSize (wsV RL 44 RX1 yX1_regionSize wsX1_regionSize) := goodIn_app (goodIn_of _ (by decide +kernel)) ggL_regionSize_X1_regionSize
theorem dL_regionSize_0 : decode cL_regionSize 0 = .ok (.aload_n 3, 1) := by decide +kernel
theorem dL_regionSize_1 : decode cL_regionSize 1 = .ok (.iconst 0, 1) := by decide +kernel
theorem dL_regionSize_2 : decode cL_regionSize 2 = .ok (.aload_n 0, 1) := by decide +kernel
theorem dL_regionSize_3 : decode cL_regionSize 3 = .ok (.iload_n 1, 1) := by decide +kernel
theorem dL_regionSize_4 : decode cL_regionSize 4 = .ok (.iload_n 2, 1) := by decide +kernel
theorem dL_regionSize_5 : decode cL_regionSize 5 = .ok (.invokevirtual 44, 3) := by decide +kernel
theorem dL_regionSize_8 : decode cL_regionSize 8 = .ok (.i2l, 1) := by decide +kernel
theorem dL_regionSize_9 : decode cL_regionSize 9 = .ok (.lastore, 1) := by decide +kernel
theorem dL_regionSize_10 : decode cL_regionSize 10 = .ok (.goto 7, 3) := by decide +kernel
theorem dL_regionSize_13 : decode cL_regionSize 13 = .ok (.astore 4, 2) := by decide +kernel
theorem dL_regionSize_15 : decode cL_regionSize 15 = .ok (.iconst 1, 1) := by decide +kernel
theorem dL_regionSize_16 : decode cL_regionSize 16 = .ok (.ireturn, 1) := by decide +kernel
theorem dL_regionSize_17 : decode cL_regionSize 17 = .ok (.iconst 0, 1) := by decide +kernel
theorem dL_regionSize_18 : decode cL_regionSize 18 = .ok (.ireturn, 1) := by decide +kernel
set_option maxRecDepth 20000 in
theorem ggL_cellsOf_X1_cellsOf : GoodIn wsL_cellsOf wsX1_cellsOf := goodIn_ca (goodIn_r _ [6, 7, 8, 9, 10, 11, 5, 12, 13, 14, 15, 16, 17, 18, 19, 20, 21, 22, 23, 24, 25, 26, 27, 28, 29, 30, 31, 32, 33, 34, 35, 36, 37, 38, 39, 40, 41, 42, 43] (by decide +kernel) (by decide +kernel)) (goodIn_sub (fun _ h => List.mem_cons_of_mem _ (List.mem_append_right _ h)) (by decide +kernel))
set_option maxRecDepth 20000 in
theorem gL_cellsOf_X1_cellsOf : GoodIn wsL_cellsOf (wsV RL 47 RX1 yX1_cellsOf wsX1_cellsOf) := goodIn_app (goodIn_of _ (by decide +kernel)) ggL_cellsOf_X1_cellsOf
theorem dL_cellsOf_0 : decode cL_cellsOf 0 = .ok (.aload_n 2, 1) := by decide +kernel
theorem dL_cellsOf_1 : decode cL_cellsOf 1 = .ok (.iconst 0, 1) := by decide +kernel
theorem dL_cellsOf_2 : decode cL_cellsOf 2 = .ok (.aload_n 0, 1) := by decide +kernel
theorem dL_cellsOf_3 : decode cL_cellsOf 3 = .ok (.iload_n 1, 1) := by decide +kernel
theorem dL_cellsOf_4 : decode cL_cellsOf 4 = .ok (.invokevirtual 47, 3) := by decide +kernel
theorem dL_cellsOf_7 : decode cL_cellsOf 7 = .ok (.i2l, 1) := by decide +kernel
theorem dL_cellsOf_8 : decode cL_cellsOf 8 = .ok (.lastore, 1) := by decide +kernel
theorem dL_cellsOf_9 : decode cL_cellsOf 9 = .ok (.goto 6, 3) := by decide +kernel
theorem dL_cellsOf_12 : decode cL_cellsOf 12 = .ok (.astore_n 3, 1) := by decide +kernel
theorem dL_cellsOf_13 : decode cL_cellsOf 13 = .ok (.iconst 1, 1) := by decide +kernel
theorem dL_cellsOf_14 : decode cL_cellsOf 14 = .ok (.ireturn, 1) := by decide +kernel
theorem dL_cellsOf_15 : decode cL_cellsOf 15 = .ok (.iconst 0, 1) := by decide +kernel
theorem dL_cellsOf_16 : decode cL_cellsOf 16 = .ok (.ireturn, 1) := by decide +kernel
set_option maxRecDepth 20000 in
theorem ggL_regionsOf_X1_regionsOf : GoodIn wsL_regionsOf wsX1_regionsOf := goodIn_ca (goodIn_r _ [6, 7, 8, 9, 10, 11, 5, 12, 13, 14, 15, 16, 17, 18, 19, 20, 21, 22, 23, 24, 25, 26, 27, 28, 29, 30, 31, 32, 33, 34, 35, 36, 37, 38] (by decide +kernel) (by decide +kernel)) (goodIn_sub (fun _ h => List.mem_cons_of_mem _ (List.mem_append_right _ h)) (by decide +kernel))
set_option maxRecDepth 20000 in
theorem gL_regionsOf_X1_regionsOf : GoodIn wsL_regionsOf (wsV RL 50 RX1 yX1_regionsOf wsX1_regionsOf) := goodIn_app (goodIn_of _ (by decide +kernel)) ggL_regionsOf_X1_regionsOf
theorem dL_regionsOf_0 : decode cL_regionsOf 0 = .ok (.aload_n 2, 1) := by decide +kernel
theorem dL_regionsOf_1 : decode cL_regionsOf 1 = .ok (.iconst 0, 1) := by decide +kernel
theorem dL_regionsOf_2 : decode cL_regionsOf 2 = .ok (.aload_n 0, 1) := by decide +kernel
theorem dL_regionsOf_3 : decode cL_regionsOf 3 = .ok (.iload_n 1, 1) := by decide +kernel
theorem dL_regionsOf_4 : decode cL_regionsOf 4 = .ok (.invokevirtual 50, 3) := by decide +kernel
theorem dL_regionsOf_7 : decode cL_regionsOf 7 = .ok (.i2l, 1) := by decide +kernel
theorem dL_regionsOf_8 : decode cL_regionsOf 8 = .ok (.lastore, 1) := by decide +kernel
theorem dL_regionsOf_9 : decode cL_regionsOf 9 = .ok (.goto 6, 3) := by decide +kernel
theorem dL_regionsOf_12 : decode cL_regionsOf 12 = .ok (.astore_n 3, 1) := by decide +kernel
theorem dL_regionsOf_13 : decode cL_regionsOf 13 = .ok (.iconst 1, 1) := by decide +kernel
theorem dL_regionsOf_14 : decode cL_regionsOf 14 = .ok (.ireturn, 1) := by decide +kernel
theorem dL_regionsOf_15 : decode cL_regionsOf 15 = .ok (.iconst 0, 1) := by decide +kernel
theorem dL_regionsOf_16 : decode cL_regionsOf 16 = .ok (.ireturn, 1) := by decide +kernel
set_option maxRecDepth 20000 in
theorem ggL_greatestRegion_X1_greatestRegion : GoodIn wsL_greatestRegion wsX1_greatestRegion := goodIn_ca (goodIn_r _ [6, 7, 8, 9, 10, 11, 5, 12, 13, 14, 15, 16, 17, 18, 19, 20, 21, 22, 23, 24, 25, 26, 27, 28, 29, 30, 31, 32, 33, 34, 35, 36, 37, 38, 39, 40, 41, 42, 43, 44, 45, 46, 47, 48, 49] (by decide +kernel) (by decide +kernel)) (goodIn_sub (fun _ h => List.mem_cons_of_mem _ (List.mem_append_right _ h)) (by decide +kernel))
set_option maxRecDepth 20000 in
theorem gL_greatestRegion_X1_greatestRegion : GoodIn wsL_greatestRegion (wsV RL 53 RX1 yX1_greatestRegion wsX1_greatestRegion) := goodIn_app (goodIn_of _ (by decide +kernel)) ggL_greatestRegion_X1_greatestRegion
theorem dL_greatestRegion_0 : decode cL_greatestRegion 0 = .ok (.aload_n 2, 1) := by decide +kernel
theorem dL_greatestRegion_1 : decode cL_greatestRegion 1 = .ok (.iconst 0, 1) := by decide +kernel
theorem dL_greatestRegion_2 : decode cL_greatestRegion 2 = .ok (.aload_n 0, 1) := by decide +kernel
theorem dL_greatestRegion_3 : decode cL_greatestRegion 3 = .ok (.iload_n 1, 1) := by decide +kernel
theorem dL_greatestRegion_4 : decode cL_greatestRegion 4 = .ok (.invokevirtual 53, 3) := by decide +kernel
theorem dL_greatestRegion_7 : decode cL_greatestRegion 7 = .ok (.i2l, 1) := by decide +kernel
theorem dL_greatestRegion_8 : decode cL_greatestRegion 8 = .ok (.lastore, 1) := by decide +kernel
theorem dL_greatestRegion_9 : decode cL_greatestRegion 9 = .ok (.goto 6, 3) := by decide +kernel
theorem dL_greatestRegion_12 : decode cL_greatestRegion 12 = .ok (.astore_n 3, 1) := by decide +kernel
theorem dL_greatestRegion_13 : decode cL_greatestRegion 13 = .ok (.iconst 1, 1) := by decide +kernel
theorem dL_greatestRegion_14 : decode cL_greatestRegion 14 = .ok (.ireturn, 1) := by decide +kernel
theorem dL_greatestRegion_15 : decode cL_greatestRegion 15 = .ok (.iconst 0, 1) := by decide +kernel
theorem dL_greatestRegion_16 : decode cL_greatestRegion 16 = .ok (.ireturn, 1) := by decide +kernel
set_option maxRecDepth 20000 in
theorem ggL_cellsAfter_X1_cellsAfter : GoodIn wsL_cellsAfter wsX1_cellsAfter := goodIn_ca (goodIn_ca (goodIn_r _ [7, 8, 9, 10, 11, 12, 13, 6, 14, 15, 16, 17, 18, 19, 20, 21, 22, 23, 24, 25, 26, 27, 28, 29, 30, 31, 32, 33, 34, 35, 36, 37, 38, 39, 40, 41, 42, 43, 44, 45, 46, 47, 48, 49, 50, 51, 52, 53, 54, 55, 56, 57, 58, 59, 60, 61, 62, 63, 64, 65, 66, 67, 68, 69, 70, 71, 72, 73, 74, 75, 76, 77, 78, 79, 80, 81, 82, 83] (by decide +kernel) (by decide +kernel)) (goodIn_sub (fun _ h => List.mem_cons_of_mem _ (List.mem_append_left _ (List.mem_append_right _ h))) (by decide +kernel))) (goodIn_sub (fun _ h => List.mem_cons_of_mem _ (List.mem_append_right _ h)) (by decide +kernel))
set_option maxRecDepth 20000 in
theorem gL_cellsAfter_X1_cellsAfter : GoodIn wsL_cellsAfter (wsV RL 56 RX1 yX1_cellsAfter wsX1_cellsAfter) := goodIn_app (goodIn_of _ (by decide +kernel)) ggL_cellsAfter_X1_cellsAfter
theorem dL_cellsAfter_0 : decode cL_cellsAfter 0 = .ok (.aload_n 3, 1) := by decide +kernel
theorem dL_cellsAfter_1 : decode cL_cellsAfter 1 = .ok (.iconst 0, 1) := by decide +kernel
theorem dL_cellsAfter_2 : decode cL_cellsAfter 2 = .ok (.aload_n 0, 1) := by decide +kernel
theorem dL_cellsAfter_3 : decode cL_cellsAfter 3 = .ok (.iload_n 1, 1) := by decide +kernel
theorem dL_cellsAfter_4 : decode cL_cellsAfter 4 = .ok (.iload_n 2, 1) := by decide +kernel
theorem dL_cellsAfter_5 : decode cL_cellsAfter 5 = .ok (.invokevirtual 56, 3) := by decide +kernel
theorem dL_cellsAfter_8 : decode cL_cellsAfter 8 = .ok (.i2l, 1) := by decide +kernel
theorem dL_cellsAfter_9 : decode cL_cellsAfter 9 = .ok (.lastore, 1) := by decide +kernel
theorem dL_cellsAfter_10 : decode cL_cellsAfter 10 = .ok (.goto 11, 3) := by decide +kernel
theorem dL_cellsAfter_13 : decode cL_cellsAfter 13 = .ok (.astore 4, 2) := by decide +kernel
theorem dL_cellsAfter_15 : decode cL_cellsAfter 15 = .ok (.iconst 1, 1) := by decide +kernel
theorem dL_cellsAfter_16 : decode cL_cellsAfter 16 = .ok (.ireturn, 1) := by decide +kernel
theorem dL_cellsAfter_17 : decode cL_cellsAfter 17 = .ok (.astore 4, 2) := by decide +kernel
theorem dL_cellsAfter_19 : decode cL_cellsAfter 19 = .ok (.iconst 2, 1) := by decide +kernel
theorem dL_cellsAfter_20 : decode cL_cellsAfter 20 = .ok (.ireturn, 1) := by decide +kernel
theorem dL_cellsAfter_21 : decode cL_cellsAfter 21 = .ok (.iconst 0, 1) := by decide +kernel
theorem dL_cellsAfter_22 : decode cL_cellsAfter 22 = .ok (.ireturn, 1) := by decide +kernel
set_option maxRecDepth 20000 in
theorem ggL_wins_X1_wins : GoodIn wsL_wins wsX1_wins := goodIn_ca (goodIn_r _ [6, 7, 8, 9, 10, 5, 11, 12, 13, 14, 15, 16, 17, 18, 19, 20, 21, 22, 23, 24, 25, 26, 27, 28, 29, 30, 31, 32, 33, 34, 35, 36, 37, 38, 39, 40, 41, 42, 43, 44, 45, 46, 47, 48, 49, 50, 51, 52, 53, 54, 55, 56, 57, 58, 59, 60, 61, 62, 63, 64, 65, 66, 67, 68, 69, 70] (by decide +kernel) (by decide +kernel)) (goodIn_sub (fun _ h => List.mem_cons_of_mem _ (List.mem_append_right _ h)) (by decide +kernel))
set_option maxRecDepth 20000 in
theorem gL_wins_X1_wins : GoodIn wsL_wins (wsV RL 59 RX1 yX1_wins wsX1_wins) := goodIn_app (goodIn_of _ (by decide +kernel)) ggL_wins_X1_wins
theorem dL_wins_0 : decode cL_wins 0 = .ok (.aload_n 2, 1) := by decide +kernel
theorem dL_wins_1 : decode cL_wins 1 = .ok (.iconst 0, 1) := by decide +kernel
theorem dL_wins_2 : decode cL_wins 2 = .ok (.aload_n 0, 1) := by decide +kernel
theorem dL_wins_3 : decode cL_wins 3 = .ok (.iload_n 1, 1) := by decide +kernel
theorem dL_wins_4 : decode cL_wins 4 = .ok (.invokevirtual 59, 3) := by decide +kernel
theorem dL_wins_7 : decode cL_wins 7 = .ok (.ifCond .eq 7, 3) := by decide +kernel
theorem dL_wins_10 : decode cL_wins 10 = .ok (.lconst 1, 1) := by decide +kernel
theorem dL_wins_11 : decode cL_wins 11 = .ok (.goto 4, 3) := by decide +kernel
theorem dL_wins_14 : decode cL_wins 14 = .ok (.lconst 0, 1) := by decide +kernel
theorem dL_wins_15 : decode cL_wins 15 = .ok (.lastore, 1) := by decide +kernel
theorem dL_wins_16 : decode cL_wins 16 = .ok (.goto 6, 3) := by decide +kernel
theorem dL_wins_19 : decode cL_wins 19 = .ok (.astore_n 3, 1) := by decide +kernel
theorem dL_wins_20 : decode cL_wins 20 = .ok (.iconst 1, 1) := by decide +kernel
theorem dL_wins_21 : decode cL_wins 21 = .ok (.ireturn, 1) := by decide +kernel
theorem dL_wins_22 : decode cL_wins 22 = .ok (.iconst 0, 1) := by decide +kernel
theorem dL_wins_23 : decode cL_wins 23 = .ok (.ireturn, 1) := by decide +kernel
set_option maxRecDepth 20000 in
theorem ggL_fewestSeeds_X1_fewestSeeds : GoodIn wsL_fewestSeeds wsX1_fewestSeeds := goodIn_ca (goodIn_r _ [6, 7, 8, 9, 10, 5, 11, 12, 13, 14, 15, 16, 17, 18, 19, 20, 21, 22, 23, 24, 25, 26, 27, 28, 29, 30, 31, 32, 33, 34, 35, 36, 37, 38, 39, 40, 41, 42, 43, 44, 45, 46, 47, 48, 49, 50, 51, 52, 53, 54, 55, 56, 57, 58, 59, 60, 61, 62, 63, 64, 65, 66, 67, 68, 69, 70, 71, 72, 73, 74, 75, 76, 77, 78, 79] (by decide +kernel) (by decide +kernel)) (goodIn_sub (fun _ h => List.mem_cons_of_mem _ (List.mem_append_right _ h)) (by decide +kernel))
set_option maxRecDepth 20000 in
theorem gL_fewestSeeds_X1_fewestSeeds : GoodIn wsL_fewestSeeds (wsV RL 63 RX1 yX1_fewestSeeds wsX1_fewestSeeds) := goodIn_app (goodIn_of _ (by decide +kernel)) ggL_fewestSeeds_X1_fewestSeeds
theorem dL_fewestSeeds_0 : decode cL_fewestSeeds 0 = .ok (.aload_n 2, 1) := by decide +kernel
theorem dL_fewestSeeds_1 : decode cL_fewestSeeds 1 = .ok (.iconst 0, 1) := by decide +kernel
theorem dL_fewestSeeds_2 : decode cL_fewestSeeds 2 = .ok (.aload_n 0, 1) := by decide +kernel
theorem dL_fewestSeeds_3 : decode cL_fewestSeeds 3 = .ok (.iload_n 1, 1) := by decide +kernel
theorem dL_fewestSeeds_4 : decode cL_fewestSeeds 4 = .ok (.invokevirtual 63, 3) := by decide +kernel
theorem dL_fewestSeeds_7 : decode cL_fewestSeeds 7 = .ok (.i2l, 1) := by decide +kernel
theorem dL_fewestSeeds_8 : decode cL_fewestSeeds 8 = .ok (.lastore, 1) := by decide +kernel
theorem dL_fewestSeeds_9 : decode cL_fewestSeeds 9 = .ok (.goto 6, 3) := by decide +kernel
theorem dL_fewestSeeds_12 : decode cL_fewestSeeds 12 = .ok (.astore_n 3, 1) := by decide +kernel
theorem dL_fewestSeeds_13 : decode cL_fewestSeeds 13 = .ok (.iconst 1, 1) := by decide +kernel
theorem dL_fewestSeeds_14 : decode cL_fewestSeeds 14 = .ok (.ireturn, 1) := by decide +kernel
theorem dL_fewestSeeds_15 : decode cL_fewestSeeds 15 = .ok (.iconst 0, 1) := by decide +kernel
theorem dL_fewestSeeds_16 : decode cL_fewestSeeds 16 = .ok (.ireturn, 1) := by decide +kernel
set_option maxRecDepth 20000 in
theorem ggL_bestCell_X1_bestCell : GoodIn wsL_bestCell wsX1_bestCell := goodIn_ca (goodIn_ca (goodIn_r _ [7, 8, 9, 10, 11, 12, 13, 14, 15, 6, 16, 17, 18, 19, 20, 21, 22, 23, 24, 25, 26, 27, 28, 29, 30, 31, 32, 33, 34, 35, 36, 37, 38, 39, 40, 41, 42, 43, 44, 45, 46, 47, 48, 49, 50, 51, 52, 53, 54, 55, 56, 57, 58, 59, 60, 61, 62, 63, 64, 65, 66, 67, 68, 69, 70, 71, 72, 73, 74, 75, 76, 77, 78, 79, 80, 81, 82, 83, 84, 85] (by decide +kernel) (by decide +kernel)) (goodIn_sub (fun _ h => List.mem_cons_of_mem _ (List.mem_append_left _ (List.mem_append_right _ h))) (by decide +kernel))) (goodIn_sub (fun _ h => List.mem_cons_of_mem _ (List.mem_append_right _ h)) (by decide +kernel))
set_option maxRecDepth 20000 in
theorem gL_bestCell_X1_bestCell : GoodIn wsL_bestCell (wsV RL 66 RX1 yX1_bestCell wsX1_bestCell) := goodIn_app (goodIn_of _ (by decide +kernel)) ggL_bestCell_X1_bestCell
theorem dL_bestCell_0 : decode cL_bestCell 0 = .ok (.aload_n 3, 1) := by decide +kernel
theorem dL_bestCell_1 : decode cL_bestCell 1 = .ok (.iconst 0, 1) := by decide +kernel
theorem dL_bestCell_2 : decode cL_bestCell 2 = .ok (.aload_n 0, 1) := by decide +kernel
theorem dL_bestCell_3 : decode cL_bestCell 3 = .ok (.iload_n 1, 1) := by decide +kernel
theorem dL_bestCell_4 : decode cL_bestCell 4 = .ok (.iload_n 2, 1) := by decide +kernel
theorem dL_bestCell_5 : decode cL_bestCell 5 = .ok (.invokevirtual 66, 3) := by decide +kernel
theorem dL_bestCell_8 : decode cL_bestCell 8 = .ok (.i2l, 1) := by decide +kernel
theorem dL_bestCell_9 : decode cL_bestCell 9 = .ok (.lastore, 1) := by decide +kernel
theorem dL_bestCell_10 : decode cL_bestCell 10 = .ok (.goto 11, 3) := by decide +kernel
theorem dL_bestCell_13 : decode cL_bestCell 13 = .ok (.astore 4, 2) := by decide +kernel
theorem dL_bestCell_15 : decode cL_bestCell 15 = .ok (.iconst 1, 1) := by decide +kernel
theorem dL_bestCell_16 : decode cL_bestCell 16 = .ok (.ireturn, 1) := by decide +kernel
theorem dL_bestCell_17 : decode cL_bestCell 17 = .ok (.astore 4, 2) := by decide +kernel
theorem dL_bestCell_19 : decode cL_bestCell 19 = .ok (.iconst 2, 1) := by decide +kernel
theorem dL_bestCell_20 : decode cL_bestCell 20 = .ok (.ireturn, 1) := by decide +kernel
theorem dL_bestCell_21 : decode cL_bestCell 21 = .ok (.iconst 0, 1) := by decide +kernel
theorem dL_bestCell_22 : decode cL_bestCell 22 = .ok (.ireturn, 1) := by decide +kernel
set_option maxRecDepth 20000 in
theorem ggL_share_X1_share : GoodIn wsL_share wsX1_share := goodIn_ca (goodIn_r _ [6, 7, 8, 9, 10, 11, 12, 13, 5, 14, 15, 16, 17, 18, 19, 20, 21, 22, 23, 24, 25, 26, 27, 28, 29, 30, 31, 32, 33, 34, 35, 36, 37, 38, 39, 40, 41, 42, 43, 44, 45] (by decide +kernel) (by decide +kernel)) (goodIn_sub (fun _ h => List.mem_cons_of_mem _ (List.mem_append_right _ h)) (by decide +kernel))
set_option maxRecDepth 20000 in
theorem gL_share_X1_share : GoodIn wsL_share (wsV RL 69 RX1 yX1_share wsX1_share) := goodIn_app (goodIn_of _ (by decide +kernel)) ggL_share_X1_share
theorem dL_share_0 : decode cL_share 0 = .ok (.aload_n 2, 1) := by decide +kernel
theorem dL_share_1 : decode cL_share 1 = .ok (.iconst 0, 1) := by decide +kernel
theorem dL_share_2 : decode cL_share 2 = .ok (.aload_n 0, 1) := by decide +kernel
theorem dL_share_3 : decode cL_share 3 = .ok (.iload_n 1, 1) := by decide +kernel
theorem dL_share_4 : decode cL_share 4 = .ok (.invokevirtual 69, 3) := by decide +kernel
theorem dL_share_7 : decode cL_share 7 = .ok (.dastore, 1) := by decide +kernel
theorem dL_share_8 : decode cL_share 8 = .ok (.goto 6, 3) := by decide +kernel
theorem dL_share_11 : decode cL_share 11 = .ok (.astore_n 3, 1) := by decide +kernel
theorem dL_share_12 : decode cL_share 12 = .ok (.iconst 1, 1) := by decide +kernel
theorem dL_share_13 : decode cL_share 13 = .ok (.ireturn, 1) := by decide +kernel
theorem dL_share_14 : decode cL_share 14 = .ok (.iconst 0, 1) := by decide +kernel
theorem dL_share_15 : decode cL_share 15 = .ok (.ireturn, 1) := by decide +kernel
