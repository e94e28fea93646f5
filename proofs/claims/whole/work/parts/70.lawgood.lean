set_option maxRecDepth 20000 in
theorem ggL_law_X1_init : GoodIn wsL_law wsX1_init := goodIn_r _ [10, 11, 12, 13, 14, 15, 16, 17, 18, 19, 20, 21, 22, 23, 24, 25, 26, 27, 28, 29, 30, 31, 32, 33, 34, 35, 36, 37, 2, 38, 619, 620, 621, 622, 623, 624, 600, 601, 602, 603, 604] (by decide +kernel) (by decide +kernel)
set_option maxRecDepth 20000 in
theorem gL_law_X1_init : GoodIn wsL_law (wsX1_init) := ggL_law_X1_init
set_option maxRecDepth 20000 in
theorem ggL_law_X2_init : GoodIn wsL_law wsX2_init := goodIn_r _ [41, 42, 12, 13, 43, 27, 44, 45, 46, 47, 48, 49, 50, 51, 52, 53, 54, 55, 5, 56, 57, 58, 59, 605, 606, 607, 608, 609, 610, 611, 612, 613, 614, 615, 616, 617, 618] (by decide +kernel) (by decide +kernel)
set_option maxRecDepth 20000 in
theorem gL_law_X2_init : GoodIn wsL_law (wsX2_init) := ggL_law_X2_init
set_option maxRecDepth 20000 in
theorem ggL_law_L_newMap : GoodIn wsL_law wsL_newMap := goodIn_ca (goodIn_r _ [63, 64, 65, 66, 67, 2, 68, 69, 70, 19, 20, 21, 17, 71, 72, 73, 31, 32, 33, 16, 34, 35, 36, 28, 37, 38, 600, 601, 602, 603, 604, 619, 620, 621, 622, 623, 624] (by decide +kernel) (by decide +kernel)) (goodIn_sub (fun _ h => List.mem_append_left _ (List.mem_append_right _ h)) (by decide +kernel))
set_option maxRecDepth 20000 in
theorem gL_law_L_newMap : GoodIn wsL_law (va_wsS RL 77 yL_newMap wsL_newMap) := goodIn_app (goodIn_of _ (by decide +kernel)) ggL_law_L_newMap
set_option maxRecDepth 20000 in
theorem ggL_law_X2_newMap : GoodIn wsL_law wsX2_newMap := goodIn_r _ [77, 78, 79, 80, 5, 81, 82, 83, 84, 85, 53, 54, 55, 56, 57, 58, 59, 44, 47, 48, 86, 87, 88, 89, 605, 606, 607, 608, 609, 610, 611, 612, 613, 614, 615, 616, 617, 618] (by decide +kernel) (by decide +kernel)
set_option maxRecDepth 20000 in
theorem gL_law_X2_newMap : GoodIn wsL_law (wsV RL 82 RX2 yX2_newMap wsX2_newMap) := goodIn_app (goodIn_of _ (by decide +kernel)) ggL_law_X2_newMap
set_option maxRecDepth 20000 in
theorem ggL_law_X2_thrown : GoodIn wsL_law wsX2_thrown := goodIn_r _ [93, 78, 605, 606, 607, 608, 609, 610, 611, 612, 613, 614, 615, 616, 617, 618] (by decide +kernel) (by decide +kernel)
set_option maxRecDepth 20000 in
theorem gL_law_X2_thrown : GoodIn wsL_law (wsV RL 83 RX2 yX2_thrown wsX2_thrown) := goodIn_app (goodIn_of _ (by decide +kernel)) ggL_law_X2_thrown
set_option maxRecDepth 20000 in
theorem ggL_law_L_paint : GoodIn wsL_law wsL_paint := goodIn_ca (goodIn_r _ [96, 97, 98, 99, 100, 2, 101, 102, 103, 17, 104, 105, 106, 107, 19, 20, 108, 109, 110, 111, 112, 113, 114, 37, 38, 115, 116, 117, 16, 118, 28, 119, 120, 121, 122, 123, 124, 125, 600, 601, 602, 603, 604, 619, 620, 621, 622, 623, 624] (by decide +kernel) (by decide +kernel)) (goodIn_sub (fun _ h => List.mem_append_right _ h) (by decide +kernel))
set_option maxRecDepth 20000 in
theorem gL_law_L_paint : GoodIn wsL_law (va_wsS RL 87 yL_paint wsL_paint) := goodIn_app (goodIn_of _ (by decide +kernel)) ggL_law_L_paint
set_option maxRecDepth 20000 in
theorem ggL_law_X2_paint : GoodIn wsL_law wsX2_paint := goodIn_r _ [129, 78, 44, 57, 130, 131, 132, 5, 133, 58, 79, 80, 81, 134, 135, 136, 82, 83, 84, 85, 605, 606, 607, 608, 609, 610, 611, 612, 613, 614, 615, 616, 617, 618] (by decide +kernel) (by decide +kernel)
set_option maxRecDepth 20000 in
theorem gL_law_X2_paint : GoodIn wsL_law (wsV RL 90 RX2 yX2_paint wsX2_paint) := goodIn_app (goodIn_of _ (by decide +kernel)) ggL_law_X2_paint
set_option maxRecDepth 20000 in
theorem ggL_law_L_turnStubborn : GoodIn wsL_law wsL_turnStubborn := goodIn_ca (goodIn_r _ [139, 97, 140, 141, 142, 2, 143, 102, 103, 17, 144, 104, 105, 106, 107, 19, 20, 114, 37, 38, 600, 601, 602, 603, 604, 619, 620, 621, 622, 623, 624] (by decide +kernel) (by decide +kernel)) (goodIn_sub (fun _ h => List.mem_append_right _ h) (by decide +kernel))
set_option maxRecDepth 20000 in
theorem gL_law_L_turnStubborn : GoodIn wsL_law (va_wsS RL 91 yL_turnStubborn wsL_turnStubborn) := goodIn_app (goodIn_of _ (by decide +kernel)) ggL_law_L_turnStubborn
set_option maxRecDepth 20000 in
theorem ggL_law_X2_turnStubborn : GoodIn wsL_law wsX2_turnStubborn := goodIn_r _ [148, 78, 47, 57, 130, 131, 132, 5, 133, 58, 79, 80, 81, 605, 606, 607, 608, 609, 610, 611, 612, 613, 614, 615, 616, 617, 618] (by decide +kernel) (by decide +kernel)
set_option maxRecDepth 20000 in
theorem gL_law_X2_turnStubborn : GoodIn wsL_law (wsV RL 93 RX2 yX2_turnStubborn wsX2_turnStubborn) := goodIn_app (goodIn_of _ (by decide +kernel)) ggL_law_X2_turnStubborn
set_option maxRecDepth 20000 in
theorem ggL_law_L_setNeed : GoodIn wsL_law wsL_setNeed := goodIn_ca (goodIn_r _ [151, 64, 152, 153, 154, 2, 155, 69, 70, 17, 156, 600, 601, 602, 603, 604, 619, 620, 621, 622, 623, 624] (by decide +kernel) (by decide +kernel)) (goodIn_sub (fun _ h => List.mem_append_left _ (List.mem_append_right _ h)) (by decide +kernel))
set_option maxRecDepth 20000 in
theorem gL_law_L_setNeed : GoodIn wsL_law (va_wsS RL 94 yL_setNeed wsL_setNeed) := goodIn_app (goodIn_of _ (by decide +kernel)) ggL_law_L_setNeed
set_option maxRecDepth 20000 in
theorem ggL_law_X2_setNeed : GoodIn wsL_law wsX2_setNeed := goodIn_r _ [160, 78, 43, 79, 80, 5, 81, 82, 83, 84, 85, 605, 606, 607, 608, 609, 610, 611, 612, 613, 614, 615, 616, 617, 618] (by decide +kernel) (by decide +kernel)
set_option maxRecDepth 20000 in
theorem gL_law_X2_setNeed : GoodIn wsL_law (wsV RL 97 RX2 yX2_setNeed wsX2_setNeed) := goodIn_app (goodIn_of _ (by decide +kernel)) ggL_law_X2_setNeed
set_option maxRecDepth 20000 in
theorem ggL_law_L_pass : GoodIn wsL_law wsL_pass := goodIn_ca (goodIn_r _ [163, 64, 164, 165, 166, 2, 167, 69, 70, 21, 17, 168, 169, 170, 16, 171, 172, 173, 174, 175, 30, 26, 28, 176, 177, 178, 179, 29, 35, 36, 180, 181, 182, 183, 184, 185, 186, 187, 188, 189, 190, 191, 192, 193, 600, 601, 602, 603, 604, 619, 620, 621, 622, 623, 624] (by decide +kernel) (by decide +kernel)) (goodIn_sub (fun _ h => List.mem_append_left _ (List.mem_append_right _ h)) (by decide +kernel))
set_option maxRecDepth 20000 in
theorem gL_law_L_pass : GoodIn wsL_law (va_wsS RL 98 yL_pass wsL_pass) := goodIn_app (goodIn_of _ (by decide +kernel)) ggL_law_L_pass
set_option maxRecDepth 20000 in
theorem ggL_law_X2_pass : GoodIn wsL_law wsX2_pass := goodIn_r _ [197, 78, 59, 79, 80, 5, 81, 82, 83, 84, 85, 198, 199, 200, 201, 45, 44, 202, 203, 204, 205, 86, 87, 88, 89, 57, 58, 206, 207, 208, 209, 47, 43, 210, 211, 212, 213, 48, 605, 606, 607, 608, 609, 610, 611, 612, 613, 614, 615, 616, 617, 618] (by decide +kernel) (by decide +kernel)
set_option maxRecDepth 20000 in
theorem gL_law_X2_pass : GoodIn wsL_law (wsV RL 100 RX2 yX2_pass wsX2_pass) := goodIn_app (goodIn_of _ (by decide +kernel)) ggL_law_X2_pass
set_option maxRecDepth 20000 in
theorem ggL_law_L_colourAt : GoodIn wsL_law wsL_colourAt := goodIn_ca (goodIn_r _ [216, 97, 217, 218, 219, 2, 220, 102, 103, 17, 104, 105, 106, 107, 19, 20, 114, 37, 38, 115, 116, 117, 16, 118, 28, 119, 120, 121, 600, 601, 602, 603, 604, 619, 620, 621, 622, 623, 624] (by decide +kernel) (by decide +kernel)) (goodIn_sub (fun _ h => List.mem_append_right _ h) (by decide +kernel))
set_option maxRecDepth 20000 in
theorem gL_law_L_colourAt : GoodIn wsL_law (va_wsS RL 101 yL_colourAt wsL_colourAt) := goodIn_app (goodIn_of _ (by decide +kernel)) ggL_law_L_colourAt
set_option maxRecDepth 20000 in
theorem ggL_law_X2_colourAt : GoodIn wsL_law wsX2_colourAt := goodIn_r _ [224, 78, 44, 57, 130, 131, 132, 5, 133, 58, 79, 80, 81, 82, 83, 84, 85, 605, 606, 607, 608, 609, 610, 611, 612, 613, 614, 615, 616, 617, 618] (by decide +kernel) (by decide +kernel)
set_option maxRecDepth 20000 in
theorem gL_law_X2_colourAt : GoodIn wsL_law (wsV RL 103 RX2 yX2_colourAt wsX2_colourAt) := goodIn_app (goodIn_of _ (by decide +kernel)) ggL_law_X2_colourAt
set_option maxRecDepth 20000 in
theorem ggL_law_L_isStubborn : GoodIn wsL_law wsL_isStubborn := goodIn_ca (goodIn_r _ [227, 97, 228, 229, 230, 2, 231, 102, 103, 17, 144, 104, 105, 106, 107, 19, 20, 114, 37, 38, 600, 601, 602, 603, 604, 619, 620, 621, 622, 623, 624] (by decide +kernel) (by decide +kernel)) (goodIn_sub (fun _ h => List.mem_append_right _ h) (by decide +kernel))
set_option maxRecDepth 20000 in
theorem gL_law_L_isStubborn : GoodIn wsL_law (va_wsS RL 104 yL_isStubborn wsL_isStubborn) := goodIn_app (goodIn_of _ (by decide +kernel)) ggL_law_L_isStubborn
set_option maxRecDepth 20000 in
theorem ggL_law_X2_isStubborn : GoodIn wsL_law wsX2_isStubborn := goodIn_r _ [235, 78, 47, 57, 130, 131, 132, 5, 133, 58, 79, 80, 81, 605, 606, 607, 608, 609, 610, 611, 612, 613, 614, 615, 616, 617, 618] (by decide +kernel) (by decide +kernel)
set_option maxRecDepth 20000 in
theorem gL_law_X2_isStubborn : GoodIn wsL_law (wsV RL 106 RX2 yX2_isStubborn wsX2_isStubborn) := goodIn_app (goodIn_of _ (by decide +kernel)) ggL_law_X2_isStubborn
set_option maxRecDepth 20000 in
theorem ggL_law_L_neighboursWith : GoodIn wsL_law wsL_neighboursWith := goodIn_ca (goodIn_r _ [238, 97, 239, 240, 241, 2, 242, 102, 103, 17, 104, 105, 106, 107, 19, 20, 108, 109, 110, 111, 112, 113, 114, 37, 38, 243, 244, 245, 246, 247, 248, 16, 249, 28, 187, 188, 189, 190, 191, 192, 193, 600, 601, 602, 603, 604, 619, 620, 621, 622, 623, 624] (by decide +kernel) (by decide +kernel)) (goodIn_sub (fun _ h => List.mem_append_right _ h) (by decide +kernel))
set_option maxRecDepth 20000 in
theorem gL_law_L_neighboursWith : GoodIn wsL_law (va_wsS RL 107 yL_neighboursWith wsL_neighboursWith) := goodIn_app (goodIn_of _ (by decide +kernel)) ggL_law_L_neighboursWith
set_option maxRecDepth 20000 in
theorem ggL_law_X2_neighboursWith : GoodIn wsL_law wsX2_neighboursWith := goodIn_r _ [253, 78, 57, 130, 131, 132, 5, 133, 58, 79, 80, 81, 134, 135, 136, 210, 211, 212, 213, 48, 44, 82, 83, 84, 85, 605, 606, 607, 608, 609, 610, 611, 612, 613, 614, 615, 616, 617, 618] (by decide +kernel) (by decide +kernel)
set_option maxRecDepth 20000 in
theorem gL_law_X2_neighboursWith : GoodIn wsL_law (wsV RL 109 RX2 yX2_neighboursWith wsX2_neighboursWith) := goodIn_app (goodIn_of _ (by decide +kernel)) ggL_law_X2_neighboursWith
set_option maxRecDepth 20000 in
theorem ggL_law_L_nextColour : GoodIn wsL_law wsL_nextColour := goodIn_ca (goodIn_r _ [256, 97, 257, 258, 259, 2, 260, 102, 103, 17, 104, 105, 106, 107, 19, 20, 261, 173, 174, 16, 175, 30, 26, 28, 176, 177, 178, 179, 29, 35, 36, 180, 181, 182, 114, 37, 38, 262, 263, 264, 265, 119, 120, 121, 266, 116, 117, 118, 600, 601, 602, 603, 604, 619, 620, 621, 622, 623, 624] (by decide +kernel) (by decide +kernel)) (goodIn_sub (fun _ h => List.mem_append_right _ h) (by decide +kernel))
set_option maxRecDepth 20000 in
theorem gL_law_L_nextColour : GoodIn wsL_law (va_wsS RL 110 yL_nextColour wsL_nextColour) := goodIn_app (goodIn_of _ (by decide +kernel)) ggL_law_L_nextColour
set_option maxRecDepth 20000 in
theorem ggL_law_X2_nextColour : GoodIn wsL_law wsX2_nextColour := goodIn_r _ [270, 78, 57, 130, 131, 132, 5, 133, 58, 79, 80, 81, 206, 207, 208, 209, 47, 44, 43, 210, 211, 212, 213, 48, 82, 83, 84, 85, 605, 606, 607, 608, 609, 610, 611, 612, 613, 614, 615, 616, 617, 618] (by decide +kernel) (by decide +kernel)
set_option maxRecDepth 20000 in
theorem gL_law_X2_nextColour : GoodIn wsL_law (wsV RL 112 RX2 yX2_nextColour wsX2_nextColour) := goodIn_app (goodIn_of _ (by decide +kernel)) ggL_law_X2_nextColour
set_option maxRecDepth 20000 in
theorem ggL_law_L_regionSize : GoodIn wsL_law wsL_regionSize := goodIn_ca (goodIn_r _ [273, 97, 274, 275, 276, 2, 277, 102, 103, 17, 104, 105, 106, 107, 19, 20, 114, 37, 38, 278, 279, 280, 16, 281, 266, 116, 117, 118, 28, 119, 120, 121, 282, 247, 248, 249, 283, 284, 285, 244, 245, 286, 188, 189, 190, 191, 192, 193, 600, 601, 602, 603, 604, 619, 620, 621, 622, 623, 624] (by decide +kernel) (by decide +kernel)) (goodIn_sub (fun _ h => List.mem_append_right _ h) (by decide +kernel))
set_option maxRecDepth 20000 in
theorem gL_law_L_regionSize : GoodIn wsL_law (va_wsS RL 113 yL_regionSize wsL_regionSize) := goodIn_app (goodIn_of _ (by decide +kernel)) ggL_law_L_regionSize
set_option maxRecDepth 20000 in
theorem ggL_law_X2_regionSize : GoodIn wsL_law wsX2_regionSize := goodIn_r _ [290, 78, 57, 130, 131, 132, 5, 133, 58, 79, 80, 81, 82, 83, 84, 85, 291, 292, 293, 294, 295, 50, 44, 86, 87, 88, 89, 296, 297, 298, 299, 52, 48, 51, 300, 301, 302, 303, 605, 606, 607, 608, 609, 610, 611, 612, 613, 614, 615, 616, 617, 618] (by decide +kernel) (by decide +kernel)
set_option maxRecDepth 20000 in
theorem gL_law_X2_regionSize : GoodIn wsL_law (wsV RL 115 RX2 yX2_regionSize wsX2_regionSize) := goodIn_app (goodIn_of _ (by decide +kernel)) ggL_law_X2_regionSize
set_option maxRecDepth 20000 in
theorem ggL_law_X1_width : GoodIn wsL_law wsX1_width := goodIn_r _ [307, 19, 600, 601, 602, 603, 604] (by decide +kernel) (by decide +kernel)
set_option maxRecDepth 20000 in
theorem gL_law_X1_width : GoodIn wsL_law (wsV RL 116 RX1 yX1_width wsX1_width) := goodIn_app (goodIn_of _ (by decide +kernel)) ggL_law_X1_width
set_option maxRecDepth 20000 in
theorem ggL_law_X2_width : GoodIn wsL_law wsX2_width := goodIn_r _ [311, 78, 57, 605, 606, 607, 608, 609, 610, 611, 612, 613, 614, 615, 616, 617, 618] (by decide +kernel) (by decide +kernel)
set_option maxRecDepth 20000 in
theorem gL_law_X2_width : GoodIn wsL_law (wsV RL 119 RX2 yX2_width wsX2_width) := goodIn_app (goodIn_of _ (by decide +kernel)) ggL_law_X2_width
set_option maxRecDepth 20000 in
theorem ggL_law_X1_height : GoodIn wsL_law wsX1_height := goodIn_r _ [315, 20, 600, 601, 602, 603, 604] (by decide +kernel) (by decide +kernel)
set_option maxRecDepth 20000 in
theorem gL_law_X1_height : GoodIn wsL_law (wsV RL 120 RX1 yX1_height wsX1_height) := goodIn_app (goodIn_of _ (by decide +kernel)) ggL_law_X1_height
set_option maxRecDepth 20000 in
theorem ggL_law_X2_height : GoodIn wsL_law wsX2_height := goodIn_r _ [319, 78, 58, 605, 606, 607, 608, 609, 610, 611, 612, 613, 614, 615, 616, 617, 618] (by decide +kernel) (by decide +kernel)
set_option maxRecDepth 20000 in
theorem gL_law_X2_height : GoodIn wsL_law (wsV RL 123 RX2 yX2_height wsX2_height) := goodIn_app (goodIn_of _ (by decide +kernel)) ggL_law_X2_height
set_option maxRecDepth 20000 in
theorem ggL_law_X1_need : GoodIn wsL_law wsX1_need := goodIn_r _ [323, 17, 156, 600, 601, 602, 603, 604, 619, 620, 621, 622, 623, 624] (by decide +kernel) (by decide +kernel)
set_option maxRecDepth 20000 in
theorem gL_law_X1_need : GoodIn wsL_law (wsV RL 124 RX1 yX1_need wsX1_need) := goodIn_app (goodIn_of _ (by decide +kernel)) ggL_law_X1_need
set_option maxRecDepth 20000 in
theorem ggL_law_X2_need : GoodIn wsL_law wsX2_need := goodIn_r _ [327, 78, 43, 605, 606, 607, 608, 609, 610, 611, 612, 613, 614, 615, 616, 617, 618] (by decide +kernel) (by decide +kernel)
set_option maxRecDepth 20000 in
theorem gL_law_X2_need : GoodIn wsL_law (wsV RL 127 RX2 yX2_need wsX2_need) := goodIn_app (goodIn_of _ (by decide +kernel)) ggL_law_X2_need
set_option maxRecDepth 20000 in
theorem ggL_law_X1_waves : GoodIn wsL_law wsX1_waves := goodIn_r _ [331, 21, 600, 601, 602, 603, 604] (by decide +kernel) (by decide +kernel)
set_option maxRecDepth 20000 in
theorem gL_law_X1_waves : GoodIn wsL_law (wsV RL 128 RX1 yX1_waves wsX1_waves) := goodIn_app (goodIn_of _ (by decide +kernel)) ggL_law_X1_waves
set_option maxRecDepth 20000 in
theorem ggL_law_X2_waves : GoodIn wsL_law wsX2_waves := goodIn_r _ [335, 78, 59, 605, 606, 607, 608, 609, 610, 611, 612, 613, 614, 615, 616, 617, 618] (by decide +kernel) (by decide +kernel)
set_option maxRecDepth 20000 in
theorem gL_law_X2_waves : GoodIn wsL_law (wsV RL 131 RX2 yX2_waves wsX2_waves) := goodIn_app (goodIn_of _ (by decide +kernel)) ggL_law_X2_waves
set_option maxRecDepth 20000 in
theorem ggL_law_X1_stubbornCells : GoodIn wsL_law wsX1_stubbornCells := goodIn_r _ [339, 17, 144, 187, 188, 189, 190, 191, 192, 193, 600, 601, 602, 603, 604, 619, 620, 621, 622, 623, 624] (by decide +kernel) (by decide +kernel)
set_option maxRecDepth 20000 in
theorem gL_law_X1_stubbornCells : GoodIn wsL_law (wsV RL 132 RX1 yX1_stubbornCells wsX1_stubbornCells) := goodIn_app (goodIn_of _ (by decide +kernel)) ggL_law_X1_stubbornCells
set_option maxRecDepth 20000 in
theorem ggL_law_X2_stubbornCells : GoodIn wsL_law wsX2_stubbornCells := goodIn_r _ [343, 78, 344, 345, 346, 5, 347, 47, 86, 87, 88, 89, 57, 58, 605, 606, 607, 608, 609, 610, 611, 612, 613, 614, 615, 616, 617, 618] (by decide +kernel) (by decide +kernel)
set_option maxRecDepth 20000 in
theorem gL_law_X2_stubbornCells : GoodIn wsL_law (wsV RL 135 RX2 yX2_stubbornCells wsX2_stubbornCells) := goodIn_app (goodIn_of _ (by decide +kernel)) ggL_law_X2_stubbornCells
set_option maxRecDepth 20000 in
theorem ggL_law_L_cellsOf : GoodIn wsL_law wsL_cellsOf := goodIn_ca (goodIn_r _ [350, 97, 351, 352, 353, 2, 354, 102, 103, 17, 108, 109, 110, 111, 112, 113, 355, 356, 357, 16, 358, 282, 247, 248, 249, 28, 286, 188, 189, 190, 191, 192, 193, 600, 601, 602, 603, 604, 619, 620, 621, 622, 623, 624] (by decide +kernel) (by decide +kernel)) (goodIn_sub (fun _ h => List.mem_append_right _ h) (by decide +kernel))
set_option maxRecDepth 20000 in
theorem gL_law_L_cellsOf : GoodIn wsL_law (va_wsS RL 136 yL_cellsOf wsL_cellsOf) := goodIn_app (goodIn_of _ (by decide +kernel)) ggL_law_L_cellsOf
set_option maxRecDepth 20000 in
theorem ggL_law_X2_cellsOf : GoodIn wsL_law wsX2_cellsOf := goodIn_r _ [362, 78, 134, 135, 5, 136, 79, 80, 81, 363, 364, 365, 366, 44, 86, 87, 88, 89, 57, 58, 82, 83, 84, 85, 605, 606, 607, 608, 609, 610, 611, 612, 613, 614, 615, 616, 617, 618] (by decide +kernel) (by decide +kernel)
set_option maxRecDepth 20000 in
theorem gL_law_X2_cellsOf : GoodIn wsL_law (wsV RL 138 RX2 yX2_cellsOf wsX2_cellsOf) := goodIn_app (goodIn_of _ (by decide +kernel)) ggL_law_X2_cellsOf
set_option maxRecDepth 20000 in
theorem ggL_law_L_regionsOf : GoodIn wsL_law wsL_regionsOf := goodIn_ca (goodIn_r _ [369, 97, 370, 371, 372, 2, 373, 102, 103, 17, 111, 112, 113, 374, 375, 376, 16, 377, 282, 247, 248, 249, 28, 283, 284, 285, 244, 245, 600, 601, 602, 603, 604, 619, 620, 621, 622, 623, 624] (by decide +kernel) (by decide +kernel)) (goodIn_sub (fun _ h => List.mem_append_right _ h) (by decide +kernel))
set_option maxRecDepth 20000 in
theorem gL_law_L_regionsOf : GoodIn wsL_law (va_wsS RL 139 yL_regionsOf wsL_regionsOf) := goodIn_app (goodIn_of _ (by decide +kernel)) ggL_law_L_regionsOf
set_option maxRecDepth 20000 in
theorem ggL_law_X2_regionsOf : GoodIn wsL_law wsX2_regionsOf := goodIn_r _ [381, 78, 382, 383, 5, 384, 79, 80, 81, 82, 83, 84, 85, 291, 292, 293, 294, 295, 50, 44, 86, 87, 88, 89, 57, 58, 296, 297, 298, 299, 52, 48, 51, 385, 386, 387, 388, 389, 390, 391, 392, 300, 301, 302, 303, 605, 606, 607, 608, 609, 610, 611, 612, 613, 614, 615, 616, 617, 618] (by decide +kernel) (by decide +kernel)
set_option maxRecDepth 20000 in
theorem gL_law_X2_regionsOf : GoodIn wsL_law (wsV RL 141 RX2 yX2_regionsOf wsX2_regionsOf) := goodIn_app (goodIn_of _ (by decide +kernel)) ggL_law_X2_regionsOf
set_option maxRecDepth 20000 in
theorem ggL_law_L_greatestRegion : GoodIn wsL_law wsL_greatestRegion := goodIn_ca (goodIn_r _ [395, 97, 396, 397, 398, 2, 399, 102, 103, 17, 111, 112, 113, 400, 401, 402, 16, 403, 404, 390, 391, 392, 282, 247, 248, 249, 28, 283, 284, 285, 244, 245, 286, 188, 189, 190, 191, 192, 193, 600, 601, 602, 603, 604, 619, 620, 621, 622, 623, 624] (by decide +kernel) (by decide +kernel)) (goodIn_sub (fun _ h => List.mem_append_right _ h) (by decide +kernel))
set_option maxRecDepth 20000 in
theorem gL_law_L_greatestRegion : GoodIn wsL_law (va_wsS RL 142 yL_greatestRegion wsL_greatestRegion) := goodIn_app (goodIn_of _ (by decide +kernel)) ggL_law_L_greatestRegion
set_option maxRecDepth 20000 in
theorem ggL_law_X2_greatestRegion : GoodIn wsL_law wsX2_greatestRegion := goodIn_r _ [408, 78, 382, 383, 5, 384, 79, 80, 81, 82, 83, 84, 85, 291, 292, 293, 294, 295, 50, 44, 86, 87, 88, 89, 57, 58, 296, 297, 298, 299, 52, 48, 51, 385, 386, 387, 388, 389, 390, 391, 392, 300, 301, 302, 303, 605, 606, 607, 608, 609, 610, 611, 612, 613, 614, 615, 616, 617, 618] (by decide +kernel) (by decide +kernel)
set_option maxRecDepth 20000 in
theorem gL_law_X2_greatestRegion : GoodIn wsL_law (wsV RL 144 RX2 yX2_greatestRegion wsX2_greatestRegion) := goodIn_app (goodIn_of _ (by decide +kernel)) ggL_law_X2_greatestRegion
set_option maxRecDepth 20000 in
theorem ggL_law_X1_borders : GoodIn wsL_law wsX1_borders := goodIn_r _ [412, 17, 413, 414, 415, 16, 416, 35, 28, 282, 247, 248, 249, 417, 418, 419, 286, 188, 189, 190, 191, 192, 193, 600, 601, 602, 603, 604, 619, 620, 621, 622, 623, 624] (by decide +kernel) (by decide +kernel)
set_option maxRecDepth 20000 in
theorem gL_law_X1_borders : GoodIn wsL_law (wsV RL 145 RX1 yX1_borders wsX1_borders) := goodIn_app (goodIn_of _ (by decide +kernel)) ggL_law_X1_borders
set_option maxRecDepth 20000 in
theorem ggL_law_X2_borders : GoodIn wsL_law wsX2_borders := goodIn_r _ [423, 78, 424, 425, 426, 5, 427, 48, 44, 86, 87, 88, 89, 57, 58, 605, 606, 607, 608, 609, 610, 611, 612, 613, 614, 615, 616, 617, 618] (by decide +kernel) (by decide +kernel)
set_option maxRecDepth 20000 in
theorem gL_law_X2_borders : GoodIn wsL_law (wsV RL 148 RX2 yX2_borders wsX2_borders) := goodIn_app (goodIn_of _ (by decide +kernel)) ggL_law_X2_borders
set_option maxRecDepth 20000 in
theorem ggL_law_X1_leader : GoodIn wsL_law wsX1_leader := goodIn_r _ [431, 17, 355, 356, 357, 16, 358, 282, 247, 248, 249, 28, 286, 188, 189, 190, 191, 192, 193, 600, 601, 602, 603, 604, 619, 620, 621, 622, 623, 624] (by decide +kernel) (by decide +kernel)
set_option maxRecDepth 20000 in
theorem gL_law_X1_leader : GoodIn wsL_law (wsV RL 149 RX1 yX1_leader wsX1_leader) := goodIn_app (goodIn_of _ (by decide +kernel)) ggL_law_X1_leader
set_option maxRecDepth 20000 in
theorem ggL_law_X2_leader : GoodIn wsL_law wsX2_leader := goodIn_r _ [435, 78, 436, 437, 438, 5, 439, 363, 364, 365, 366, 44, 86, 87, 88, 89, 57, 58, 605, 606, 607, 608, 609, 610, 611, 612, 613, 614, 615, 616, 617, 618] (by decide +kernel) (by decide +kernel)
set_option maxRecDepth 20000 in
theorem gL_law_X2_leader : GoodIn wsL_law (wsV RL 152 RX2 yX2_leader wsX2_leader) := goodIn_app (goodIn_of _ (by decide +kernel)) ggL_law_X2_leader
set_option maxRecDepth 20000 in
theorem ggL_law_X1_isStill : GoodIn wsL_law wsX1_isStill := goodIn_r _ [443, 17, 261, 173, 174, 16, 175, 30, 26, 28, 176, 177, 178, 179, 29, 35, 36, 180, 181, 182, 600, 601, 602, 603, 604, 619, 620, 621, 622, 623, 624] (by decide +kernel) (by decide +kernel)
set_option maxRecDepth 20000 in
theorem gL_law_X1_isStill : GoodIn wsL_law (wsV RL 153 RX1 yX1_isStill wsX1_isStill) := goodIn_app (goodIn_of _ (by decide +kernel)) ggL_law_X1_isStill
set_option maxRecDepth 20000 in
theorem ggL_law_X2_isStill : GoodIn wsL_law wsX2_isStill := goodIn_r _ [447, 78, 448, 449, 450, 5, 451, 44, 86, 87, 88, 89, 57, 58, 206, 207, 208, 209, 47, 43, 210, 211, 212, 213, 48, 605, 606, 607, 608, 609, 610, 611, 612, 613, 614, 615, 616, 617, 618] (by decide +kernel) (by decide +kernel)
set_option maxRecDepth 20000 in
theorem gL_law_X2_isStill : GoodIn wsL_law (wsV RL 157 RX2 yX2_isStill wsX2_isStill) := goodIn_app (goodIn_of _ (by decide +kernel)) ggL_law_X2_isStill
set_option maxRecDepth 20000 in
theorem ggL_law_X1_winner : GoodIn wsL_law wsX1_winner := goodIn_r _ [455, 17, 456, 457, 458, 16, 459, 35, 282, 247, 248, 249, 28, 600, 601, 602, 603, 604, 619, 620, 621, 622, 623, 624] (by decide +kernel) (by decide +kernel)
set_option maxRecDepth 20000 in
theorem gL_law_X1_winner : GoodIn wsL_law (wsV RL 158 RX1 yX1_winner wsX1_winner) := goodIn_app (goodIn_of _ (by decide +kernel)) ggL_law_X1_winner
set_option maxRecDepth 20000 in
theorem ggL_law_X2_winner : GoodIn wsL_law wsX2_winner := goodIn_r _ [463, 78, 464, 465, 466, 5, 467, 44, 363, 364, 365, 366, 86, 87, 88, 89, 57, 58, 605, 606, 607, 608, 609, 610, 611, 612, 613, 614, 615, 616, 617, 618] (by decide +kernel) (by decide +kernel)
set_option maxRecDepth 20000 in
theorem gL_law_X2_winner : GoodIn wsL_law (wsV RL 161 RX2 yX2_winner wsX2_winner) := goodIn_app (goodIn_of _ (by decide +kernel)) ggL_law_X2_winner
set_option maxRecDepth 20000 in
theorem ggL_law_X1_wavesUntilStill : GoodIn wsL_law wsX1_wavesUntilStill := goodIn_r _ [471, 18, 17, 472, 473, 474, 16, 475, 35, 36, 26, 28, 168, 169, 170, 171, 172, 173, 174, 175, 30, 176, 177, 178, 179, 29, 180, 181, 182, 183, 184, 185, 186, 600, 601, 602, 603, 604, 619, 620, 621, 622, 623, 624] (by decide +kernel) (by decide +kernel)
set_option maxRecDepth 20000 in
theorem gL_law_X1_wavesUntilStill : GoodIn wsL_law (wsV RL 162 RX1 yX1_wavesUntilStill wsX1_wavesUntilStill) := goodIn_app (goodIn_of _ (by decide +kernel)) ggL_law_X1_wavesUntilStill
set_option maxRecDepth 20000 in
theorem ggL_law_X2_wavesUntilStill : GoodIn wsL_law wsX2_wavesUntilStill := goodIn_r _ [479, 78, 480, 481, 482, 5, 483, 44, 49, 202, 203, 204, 205, 198, 199, 200, 201, 45, 86, 87, 88, 89, 57, 58, 206, 207, 208, 209, 47, 43, 210, 211, 212, 213, 48, 484, 485, 486, 487, 605, 606, 607, 608, 609, 610, 611, 612, 613, 614, 615, 616, 617, 618] (by decide +kernel) (by decide +kernel)
set_option maxRecDepth 20000 in
theorem gL_law_X2_wavesUntilStill : GoodIn wsL_law (wsV RL 165 RX2 yX2_wavesUntilStill wsX2_wavesUntilStill) := goodIn_app (goodIn_of _ (by decide +kernel)) ggL_law_X2_wavesUntilStill
set_option maxRecDepth 20000 in
theorem ggL_law_L_cellsAfter : GoodIn wsL_law wsL_cellsAfter := goodIn_ca (goodIn_ca (goodIn_r _ [490, 64, 97, 491, 492, 493, 2, 494, 69, 70, 102, 103, 108, 109, 110, 111, 112, 113, 495, 496, 497, 498, 18, 17, 472, 473, 474, 16, 475, 35, 36, 26, 28, 122, 123, 124, 125, 168, 169, 170, 171, 172, 173, 174, 175, 30, 176, 177, 178, 179, 29, 180, 181, 182, 183, 184, 185, 186, 355, 356, 357, 358, 282, 247, 248, 249, 286, 188, 189, 190, 191, 192, 193, 600, 601, 602, 603, 604, 619, 620, 621, 622, 623, 624] (by decide +kernel) (by decide +kernel)) (goodIn_sub (fun _ h => List.mem_append_left _ (List.mem_append_right _ h)) (by decide +kernel))) (goodIn_sub (fun _ h => List.mem_append_right _ h) (by decide +kernel))
set_option maxRecDepth 20000 in
theorem gL_law_L_cellsAfter : GoodIn wsL_law (va_wsS RL 166 yL_cellsAfter wsL_cellsAfter) := goodIn_app (goodIn_of _ (by decide +kernel)) ggL_law_L_cellsAfter
set_option maxRecDepth 20000 in
theorem ggL_law_X2_cellsAfter : GoodIn wsL_law wsX2_cellsAfter := goodIn_r _ [502, 78, 79, 80, 5, 81, 82, 83, 84, 85, 134, 135, 136, 480, 481, 482, 483, 44, 49, 202, 203, 204, 205, 503, 504, 505, 506, 198, 199, 200, 201, 45, 86, 87, 88, 89, 57, 58, 206, 207, 208, 209, 47, 43, 210, 211, 212, 213, 48, 363, 364, 365, 366, 484, 485, 486, 487, 605, 606, 607, 608, 609, 610, 611, 612, 613, 614, 615, 616, 617, 618] (by decide +kernel) (by decide +kernel)
set_option maxRecDepth 20000 in
theorem gL_law_X2_cellsAfter : GoodIn wsL_law (wsV RL 168 RX2 yX2_cellsAfter wsX2_cellsAfter) := goodIn_app (goodIn_of _ (by decide +kernel)) ggL_law_X2_cellsAfter
set_option maxRecDepth 20000 in
theorem ggL_law_L_wins : GoodIn wsL_law wsL_wins := goodIn_ca (goodIn_r _ [509, 97, 510, 511, 512, 2, 513, 102, 103, 111, 112, 113, 514, 515, 516, 517, 18, 17, 472, 473, 474, 16, 475, 35, 36, 26, 28, 122, 123, 124, 125, 168, 169, 170, 171, 172, 173, 174, 175, 30, 176, 177, 178, 179, 29, 180, 181, 182, 183, 184, 185, 186, 456, 457, 458, 459, 282, 247, 248, 249, 600, 601, 602, 603, 604, 619, 620, 621, 622, 623, 624] (by decide +kernel) (by decide +kernel)) (goodIn_sub (fun _ h => List.mem_append_right _ h) (by decide +kernel))
set_option maxRecDepth 20000 in
theorem gL_law_L_wins : GoodIn wsL_law (va_wsS RL 169 yL_wins wsL_wins) := goodIn_app (goodIn_of _ (by decide +kernel)) ggL_law_L_wins
set_option maxRecDepth 20000 in
theorem ggL_law_X2_wins : GoodIn wsL_law wsX2_wins := goodIn_r _ [521, 78, 382, 383, 5, 384, 79, 80, 81, 480, 481, 482, 483, 44, 49, 202, 203, 204, 205, 522, 523, 524, 525, 526, 527, 528, 529, 464, 465, 466, 467, 363, 364, 365, 366, 86, 87, 88, 89, 57, 58, 198, 199, 200, 201, 45, 206, 207, 208, 209, 47, 43, 210, 211, 212, 213, 48, 484, 485, 486, 487, 605, 606, 607, 608, 609, 610, 611, 612, 613, 614, 615, 616, 617, 618] (by decide +kernel) (by decide +kernel)
set_option maxRecDepth 20000 in
theorem gL_law_X2_wins : GoodIn wsL_law (wsV RL 171 RX2 yX2_wins wsX2_wins) := goodIn_app (goodIn_of _ (by decide +kernel)) ggL_law_X2_wins
set_option maxRecDepth 20000 in
theorem ggL_law_L_fewestSeeds : GoodIn wsL_law wsL_fewestSeeds := goodIn_ca (goodIn_r _ [532, 97, 533, 534, 535, 2, 536, 102, 103, 111, 112, 113, 514, 515, 516, 517, 18, 17, 472, 473, 474, 16, 475, 35, 36, 26, 28, 122, 123, 124, 125, 168, 169, 170, 171, 172, 173, 174, 175, 30, 176, 177, 178, 179, 29, 180, 181, 182, 183, 184, 185, 186, 456, 457, 458, 459, 282, 247, 248, 249, 537, 538, 539, 540, 541, 542, 543, 544, 545, 600, 601, 602, 603, 604, 619, 620, 621, 622, 623, 624] (by decide +kernel) (by decide +kernel)) (goodIn_sub (fun _ h => List.mem_append_right _ h) (by decide +kernel))
set_option maxRecDepth 20000 in
theorem gL_law_L_fewestSeeds : GoodIn wsL_law (va_wsS RL 172 yL_fewestSeeds wsL_fewestSeeds) := goodIn_app (goodIn_of _ (by decide +kernel)) ggL_law_L_fewestSeeds
set_option maxRecDepth 20000 in
theorem ggL_law_X2_fewestSeeds : GoodIn wsL_law wsX2_fewestSeeds := goodIn_r _ [549, 78, 382, 383, 5, 384, 79, 80, 81, 82, 83, 84, 85, 480, 481, 482, 483, 44, 49, 202, 203, 204, 205, 522, 523, 524, 525, 526, 527, 528, 529, 464, 465, 466, 467, 363, 364, 365, 366, 86, 87, 88, 89, 57, 58, 198, 199, 200, 201, 45, 206, 207, 208, 209, 47, 43, 210, 211, 212, 213, 48, 484, 485, 486, 487, 605, 606, 607, 608, 609, 610, 611, 612, 613, 614, 615, 616, 617, 618] (by decide +kernel) (by decide +kernel)
set_option maxRecDepth 20000 in
theorem gL_law_X2_fewestSeeds : GoodIn wsL_law (wsV RL 174 RX2 yX2_fewestSeeds wsX2_fewestSeeds) := goodIn_app (goodIn_of _ (by decide +kernel)) ggL_law_X2_fewestSeeds
set_option maxRecDepth 20000 in
theorem ggL_law_L_bestCell : GoodIn wsL_law wsL_bestCell := goodIn_ca (goodIn_ca (goodIn_r _ [552, 97, 64, 553, 554, 555, 2, 556, 102, 103, 69, 70, 20, 19, 111, 112, 113, 114, 37, 38, 495, 496, 497, 498, 18, 17, 472, 473, 474, 16, 475, 35, 36, 26, 28, 122, 123, 124, 125, 168, 169, 170, 171, 172, 173, 174, 175, 30, 176, 177, 178, 179, 29, 180, 181, 182, 183, 184, 185, 186, 355, 356, 357, 358, 282, 247, 248, 249, 286, 188, 189, 190, 191, 192, 193, 600, 601, 602, 603, 604, 619, 620, 621, 622, 623, 624] (by decide +kernel) (by decide +kernel)) (goodIn_sub (fun _ h => List.mem_append_right _ h) (by decide +kernel))) (goodIn_sub (fun _ h => List.mem_append_left _ (List.mem_append_right _ h)) (by decide +kernel))
set_option maxRecDepth 20000 in
theorem gL_law_L_bestCell : GoodIn wsL_law (va_wsS RL 175 yL_bestCell wsL_bestCell) := goodIn_app (goodIn_of _ (by decide +kernel)) ggL_law_L_bestCell
set_option maxRecDepth 20000 in
theorem ggL_law_X2_bestCell : GoodIn wsL_law wsX2_bestCell := goodIn_r _ [560, 78, 44, 382, 383, 5, 384, 79, 80, 81, 82, 83, 84, 85, 480, 481, 482, 483, 49, 202, 203, 204, 205, 86, 87, 88, 89, 57, 58, 503, 504, 505, 506, 198, 199, 200, 201, 45, 206, 207, 208, 209, 47, 43, 210, 211, 212, 213, 48, 363, 364, 365, 366, 484, 485, 486, 487, 605, 606, 607, 608, 609, 610, 611, 612, 613, 614, 615, 616, 617, 618] (by decide +kernel) (by decide +kernel)
set_option maxRecDepth 20000 in
theorem gL_law_X2_bestCell : GoodIn wsL_law (wsV RL 177 RX2 yX2_bestCell wsX2_bestCell) := goodIn_app (goodIn_of _ (by decide +kernel)) ggL_law_X2_bestCell
set_option maxRecDepth 20000 in
theorem ggL_law_L_share : GoodIn wsL_law wsL_share := goodIn_ca (goodIn_r _ [563, 97, 564, 565, 566, 2, 567, 102, 103, 19, 20, 17, 108, 109, 110, 111, 112, 113, 355, 356, 357, 16, 358, 282, 247, 248, 249, 28, 286, 188, 189, 190, 191, 192, 193, 600, 601, 602, 603, 604, 619, 620, 621, 622, 623, 624] (by decide +kernel) (by decide +kernel)) (goodIn_sub (fun _ h => List.mem_append_right _ h) (by decide +kernel))
set_option maxRecDepth 20000 in
theorem gL_law_L_share : GoodIn wsL_law (va_wsS RL 178 yL_share wsL_share) := goodIn_app (goodIn_of _ (by decide +kernel)) ggL_law_L_share
set_option maxRecDepth 20000 in
theorem ggL_law_X2_share : GoodIn wsL_law wsX2_share := goodIn_r _ [571, 78, 134, 135, 5, 136, 79, 80, 81, 363, 364, 365, 366, 44, 86, 87, 88, 89, 57, 58, 605, 606, 607, 608, 609, 610, 611, 612, 613, 614, 615, 616, 617, 618] (by decide +kernel) (by decide +kernel)
set_option maxRecDepth 20000 in
theorem gL_law_X2_share : GoodIn wsL_law (wsV RL 181 RX2 yX2_share wsX2_share) := goodIn_app (goodIn_of _ (by decide +kernel)) ggL_law_X2_share
set_option maxRecDepth 20000 in
theorem ggL_law_X1_digest : GoodIn wsL_law wsX1_digest := goodIn_r _ [575, 17, 20, 19, 576, 577, 578, 2, 579, 580, 156, 21, 581, 582, 583, 584, 585, 337, 338, 339, 144, 187, 188, 189, 190, 191, 192, 193, 586, 410, 411, 412, 413, 414, 415, 16, 416, 35, 28, 282, 247, 248, 249, 417, 418, 419, 286, 587, 429, 430, 431, 355, 356, 357, 358, 588, 441, 442, 443, 261, 173, 174, 175, 30, 26, 176, 177, 178, 179, 29, 36, 180, 181, 182, 589, 453, 454, 455, 456, 457, 458, 459, 374, 375, 376, 377, 283, 284, 285, 244, 245, 400, 401, 402, 403, 404, 390, 391, 392, 114, 37, 38, 590, 591, 592, 593, 115, 116, 117, 118, 119, 120, 121, 262, 263, 264, 265, 266, 278, 279, 280, 281, 600, 601, 602, 603, 604, 619, 620, 621, 622, 623, 624] (by decide +kernel) (by decide +kernel)
set_option maxRecDepth 20000 in
theorem gL_law_X1_digest : GoodIn wsL_law (wsV RL 182 RX1 yX1_digest wsX1_digest) := goodIn_app (goodIn_of _ (by decide +kernel)) ggL_law_X1_digest
set_option maxRecDepth 20000 in
theorem ggL_law_X2_digest : GoodIn wsL_law wsX2_digest := goodIn_r _ [597, 78, 27, 57, 58, 43, 59, 598, 599, 44, 47, 291, 292, 293, 5, 294, 295, 50, 86, 87, 88, 89, 296, 297, 298, 299, 52, 48, 51, 344, 345, 346, 347, 424, 425, 426, 427, 436, 437, 438, 439, 363, 364, 365, 366, 448, 449, 450, 451, 206, 207, 208, 209, 210, 211, 212, 213, 464, 465, 466, 467, 385, 386, 387, 388, 389, 390, 391, 392, 300, 301, 302, 303, 605, 606, 607, 608, 609, 610, 611, 612, 613, 614, 615, 616, 617, 618] (by decide +kernel) (by decide +kernel)
set_option maxRecDepth 20000 in
theorem gL_law_X2_digest : GoodIn wsL_law (wsV RL 186 RX2 yX2_digest wsX2_digest) := goodIn_app (goodIn_of _ (by decide +kernel)) ggL_law_X2_digest
