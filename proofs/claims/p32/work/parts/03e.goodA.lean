set_option maxRecDepth 20000 in
theorem ggL_act_L_below : GoodIn wsL_act wsL_below := goodIn_r _ [13, 14] (by decide +kernel) (by decide +kernel)
set_option maxRecDepth 20000 in
theorem gL_act_L_below : GoodIn wsL_act (va_wsS RL 15 yL_below wsL_below) := goodIn_app (goodIn_of _ (by decide +kernel)) ggL_act_L_below
set_option maxRecDepth 20000 in
theorem ggL_act_X2_init : GoodIn wsL_act wsX2_init := goodIn_r _ [17, 18, 19, 20, 21, 22, 23, 24, 25, 26, 27, 28, 29, 141, 142, 143, 144, 145, 146] (by decide +kernel) (by decide +kernel)
set_option maxRecDepth 20000 in
theorem gL_act_X2_init : GoodIn wsL_act (wsX2_init) := ggL_act_X2_init
set_option maxRecDepth 20000 in
theorem ggL_act_X1_newMap : GoodIn wsL_act wsX1_newMap := goodIn_ca (goodIn_r _ [34, 35, 36, 37, 38, 39, 40, 41, 42, 33, 43, 44, 45, 46, 47, 48, 49, 50, 51, 52, 53, 147, 148, 149, 150, 151, 152, 153, 154, 155, 156, 157] (by decide +kernel) (by decide +kernel)) (goodIn_sub (fun _ h => List.mem_cons_of_mem _ (List.mem_append_left _ (List.mem_append_right _ h))) (by decide +kernel))
set_option maxRecDepth 20000 in
theorem gL_act_X1_newMap : GoodIn wsL_act (wsV RL 30 RX1 yX1_newMap wsX1_newMap) := goodIn_app (goodIn_of _ (by decide +kernel)) ggL_act_X1_newMap
set_option maxRecDepth 20000 in
theorem ggL_act_X1_turnStubborn : GoodIn wsL_act wsX1_turnStubborn := goodIn_ca (goodIn_r _ [57, 58, 59, 40, 60, 61, 62, 63, 33, 64, 37, 38, 65, 52, 53, 147, 148, 149, 150, 151, 152, 153, 154, 155, 156, 157] (by decide +kernel) (by decide +kernel)) (goodIn_sub (fun _ h => List.mem_cons_of_mem _ (List.mem_append_right _ h)) (by decide +kernel))
set_option maxRecDepth 20000 in
theorem gL_act_X1_turnStubborn : GoodIn wsL_act (wsV RL 39 RX1 yX1_turnStubborn wsX1_turnStubborn) := goodIn_app (goodIn_of _ (by decide +kernel)) ggL_act_X1_turnStubborn
set_option maxRecDepth 20000 in
theorem ggL_act_X1_setNeed : GoodIn wsL_act wsX1_setNeed := goodIn_ca (goodIn_r _ [69, 35, 36, 40, 70, 147, 148, 149, 150, 151, 152, 153, 154, 155, 156, 157] (by decide +kernel) (by decide +kernel)) (goodIn_sub (fun _ h => List.mem_cons_of_mem _ (List.mem_append_left _ (List.mem_append_right _ h))) (by decide +kernel))
set_option maxRecDepth 20000 in
theorem gL_act_X1_setNeed : GoodIn wsL_act (wsV RL 43 RX1 yX1_setNeed wsX1_setNeed) := goodIn_app (goodIn_of _ (by decide +kernel)) ggL_act_X1_setNeed
set_option maxRecDepth 20000 in
theorem ggL_act_X2_wave : GoodIn wsL_act wsX2_wave := goodIn_r _ [74, 22, 23, 24, 25, 26, 75, 76, 77, 5, 78, 29, 21, 79, 80, 81, 82, 83, 84, 85, 86, 141, 142, 143, 144, 145, 146] (by decide +kernel) (by decide +kernel)
set_option maxRecDepth 20000 in
theorem gL_act_X2_wave : GoodIn wsL_act (wsV RL 47 RX2 yX2_wave wsX2_wave) := goodIn_app (goodIn_of _ (by decide +kernel)) ggL_act_X2_wave
set_option maxRecDepth 20000 in
theorem ggL_act_X1_pass : GoodIn wsL_act wsX1_pass := goodIn_ca (goodIn_r _ [90, 35, 36, 39, 40, 91, 92, 93, 47, 94, 95, 96, 97, 98, 99, 100, 51, 101, 102, 103, 104, 105, 49, 50, 106, 107, 108, 109, 110, 111, 112, 113, 114, 115, 116, 117, 118, 119, 147, 148, 149, 150, 151, 152, 153, 154, 155, 156, 157] (by decide +kernel) (by decide +kernel)) (goodIn_sub (fun _ h => List.mem_cons_of_mem _ (List.mem_append_left _ (List.mem_append_right _ h))) (by decide +kernel))
set_option maxRecDepth 20000 in
theorem gL_act_X1_pass : GoodIn wsL_act (wsV RL 54 RX1 yX1_pass wsX1_pass) := goodIn_app (goodIn_of _ (by decide +kernel)) ggL_act_X1_pass
set_option maxRecDepth 20000 in
theorem ggL_act_X1_paint : GoodIn wsL_act wsX1_paint := goodIn_ca (goodIn_r _ [123, 58, 59, 40, 61, 62, 63, 33, 64, 37, 38, 124, 125, 126, 127, 128, 129, 65, 52, 53, 130, 131, 132, 47, 133, 51, 134, 135, 136, 137, 138, 139, 140, 147, 148, 149, 150, 151, 152, 153, 154, 155, 156, 157] (by decide +kernel) (by decide +kernel)) (goodIn_sub (fun _ h => List.mem_cons_of_mem _ (List.mem_append_right _ h)) (by decide +kernel))
set_option maxRecDepth 20000 in
theorem gL_act_X1_paint : GoodIn wsL_act (wsV RL 61 RX1 yX1_paint wsX1_paint) := goodIn_app (goodIn_of _ (by decide +kernel)) ggL_act_X1_paint
set_option maxRecDepth 20000 in
theorem ggL_build_L_cell : GoodIn wsL_build wsL_cell := goodIn_r _ [9, 10] (by decide +kernel) (by decide +kernel)
set_option maxRecDepth 20000 in
theorem gL_build_L_cell : GoodIn wsL_build (va_wsS RL 65 yL_cell wsL_cell) := goodIn_app (goodIn_of _ (by decide +kernel)) ggL_build_L_cell
set_option maxRecDepth 20000 in
theorem ggL_build_L_below : GoodIn wsL_build wsL_below := goodIn_r _ [13, 14] (by decide +kernel) (by decide +kernel)
set_option maxRecDepth 20000 in
theorem gL_build_L_below : GoodIn wsL_build (va_wsS RL 15 yL_below wsL_below) := goodIn_app (goodIn_of _ (by decide +kernel)) ggL_build_L_below
set_option maxRecDepth 20000 in
theorem ggL_build_X2_init : GoodIn wsL_build wsX2_init := goodIn_r _ [17, 18, 19, 20, 21, 22, 23, 24, 25, 26, 27, 28, 29, 148, 149, 150, 151, 152, 153] (by decide +kernel) (by decide +kernel)
set_option maxRecDepth 20000 in
theorem gL_build_X2_init : GoodIn wsL_build (wsX2_init) := ggL_build_X2_init
set_option maxRecDepth 20000 in
theorem ggL_build_X1_newMap : GoodIn wsL_build wsX1_newMap := goodIn_ca (goodIn_r _ [34, 35, 36, 37, 38, 39, 40, 41, 42, 33, 43, 44, 45, 46, 47, 48, 49, 50, 51, 52, 53, 154, 155, 156, 157, 158, 159, 160, 161, 162, 163, 164] (by decide +kernel) (by decide +kernel)) (goodIn_sub (fun _ h => List.mem_cons_of_mem _ (List.mem_append_left _ (List.mem_append_right _ h))) (by decide +kernel))
set_option maxRecDepth 20000 in
theorem gL_build_X1_newMap : GoodIn wsL_build (wsV RL 30 RX1 yX1_newMap wsX1_newMap) := goodIn_app (goodIn_of _ (by decide +kernel)) ggL_build_X1_newMap
set_option maxRecDepth 20000 in
theorem ggL_build_L_act : GoodIn wsL_build wsL_act := goodIn_ca (goodIn_ca (goodIn_r _ [56, 4, 5, 1, 2, 3, 57, 58, 59, 60, 11, 12, 8, 13, 14, 15, 16, 17, 18, 19, 20, 21, 22, 23, 24, 25, 26, 27, 28, 29, 30, 31, 32, 33, 34, 35, 36, 37, 38, 39, 40, 41, 42, 43, 44, 45, 46, 47, 48, 49, 50, 51, 52, 53, 61, 62, 63, 64, 65, 66, 67, 68, 69, 70, 71, 72, 73, 74, 75, 76, 77, 78, 79, 80, 81, 82, 83, 84, 85, 86, 87, 88, 89, 90, 91, 92, 93, 94, 95, 96, 97, 98, 99, 100, 101, 102, 103, 104, 105, 106, 107, 108, 109, 110, 111, 112, 113, 114, 115, 116, 117, 118, 119, 120, 121, 122, 123, 124, 125, 126, 127, 128, 129, 130, 131, 132, 133, 134, 135, 136, 137, 138, 139, 140, 141, 142, 143, 144, 145, 146, 147, 148, 149, 150, 151, 152, 153, 154, 155, 156, 157, 158, 159, 160, 161, 162, 163, 164] (by decide +kernel) (by decide +kernel)) (goodIn_sub (fun _ h => List.mem_cons_of_mem _ (List.mem_append_left _ (List.mem_append_right _ h))) (by decide +kernel))) (goodIn_sub (fun _ h => List.mem_cons_of_mem _ (List.mem_append_right _ h)) (by decide +kernel))
set_option maxRecDepth 20000 in
theorem gL_build_L_act : GoodIn wsL_build (va_wsS RL 69 yL_act wsL_act) := goodIn_app (goodIn_of _ (by decide +kernel)) ggL_build_L_act
