set_option maxRecDepth 20000 in
theorem ggL_law_X1_init : GoodIn wsL_law wsX1_init := goodIn_r _ [10, 11, 12, 13, 14, 15, 16, 17, 18, 19, 20, 21, 22, 23, 24, 25, 26, 3, 27, 28, 29, 30, 31, 32, 33, 34, 35, 36, 2, 37, 334, 335, 336, 337, 338, 339, 323, 324, 325, 326, 327] (by decide +kernel) (by decide +kernel)
set_option maxRecDepth 20000 in
theorem gL_law_X1_init : GoodIn wsL_law (wsX1_init) := ggL_law_X1_init
set_option maxRecDepth 20000 in
theorem ggL_law_L_build : GoodIn wsL_law wsL_build := goodIn_ca (goodIn_ca (goodIn_r _ [41, 42, 43, 44, 45, 46, 47, 48, 40, 49, 50, 51, 52, 53, 54, 55, 56, 57, 58, 12, 13, 59, 60, 61, 62, 3, 63, 64, 65, 66, 67, 68, 69, 2, 70, 71, 72, 19, 20, 21, 17, 73, 74, 75, 30, 31, 32, 16, 33, 34, 35, 27, 36, 37, 76, 77, 78, 79, 80, 5, 81, 82, 83, 84, 85, 86, 87, 88, 89, 90, 91, 92, 93, 94, 95, 96, 97, 98, 99, 100, 101, 102, 103, 104, 105, 106, 107, 108, 109, 110, 111, 112, 113, 114, 115, 116, 117, 118, 119, 120, 121, 122, 123, 124, 125, 126, 29, 26, 127, 128, 129, 130, 28, 131, 132, 133, 134, 135, 136, 137, 138, 139, 140, 141, 142, 143, 144, 145, 146, 147, 148, 149, 150, 151, 152, 153, 154, 155, 156, 157, 158, 159, 160, 161, 162, 163, 164, 165, 328, 329, 330, 331, 332, 333, 323, 324, 325, 326, 327, 334, 335, 336, 337, 338, 339] rfl (by decide +kernel)) (goodIn_sub (fun _ h => List.mem_append_left _ (List.mem_append_right _ h)) (by decide +kernel))) (goodIn_sub (fun _ h => List.mem_append_right _ h) (by decide +kernel))
set_option maxRecDepth 20000 in
theorem gL_law_L_build : GoodIn wsL_law (va_wsS RL 74 yL_build wsL_build) := goodIn_app (goodIn_of _ (by decide +kernel)) ggL_law_L_build
set_option maxRecDepth 20000 in
theorem ggL_law_L_cell : GoodIn wsL_law wsL_cell := goodIn_r _ [49, 50] (by decide +kernel) (by decide +kernel)
set_option maxRecDepth 20000 in
theorem gL_law_L_cell : GoodIn wsL_law (va_wsS RL 65 yL_cell wsL_cell) := goodIn_app (goodIn_of _ (by decide +kernel)) ggL_law_L_cell
set_option maxRecDepth 20000 in
theorem ggL_law_L_act : GoodIn wsL_law wsL_act := goodIn_ca (goodIn_ca (goodIn_r _ [78, 45, 46, 42, 43, 44, 79, 80, 5, 81, 51, 52, 40, 53, 54, 55, 56, 57, 58, 12, 13, 59, 60, 61, 62, 3, 63, 64, 65, 66, 67, 68, 69, 2, 70, 71, 72, 19, 20, 21, 17, 73, 74, 75, 30, 31, 32, 16, 33, 34, 35, 27, 36, 37, 82, 83, 84, 85, 86, 87, 88, 89, 90, 91, 92, 93, 94, 95, 96, 97, 98, 99, 100, 101, 102, 103, 104, 105, 106, 107, 108, 109, 110, 111, 112, 113, 114, 115, 116, 117, 118, 119, 120, 121, 122, 123, 124, 125, 126, 29, 26, 127, 128, 129, 130, 28, 131, 132, 133, 134, 135, 136, 137, 138, 139, 140, 141, 142, 143, 144, 145, 146, 147, 148, 149, 150, 151, 152, 153, 154, 155, 156, 157, 158, 159, 160, 161, 162, 163, 164, 165, 328, 329, 330, 331, 332, 333, 323, 324, 325, 326, 327, 334, 335, 336, 337, 338, 339] rfl (by decide +kernel)) (goodIn_sub (fun _ h => List.mem_append_left _ (List.mem_append_right _ h)) (by decide +kernel))) (goodIn_sub (fun _ h => List.mem_append_right _ h) (by decide +kernel))
set_option maxRecDepth 20000 in
theorem gL_law_L_act : GoodIn wsL_law (va_wsS RL 69 yL_act wsL_act) := goodIn_app (goodIn_of _ (by decide +kernel)) ggL_law_L_act
set_option maxRecDepth 20000 in
theorem ggL_law_X1_width : GoodIn wsL_law wsX1_width := goodIn_r _ [169, 19, 323, 324, 325, 326, 327] (by decide +kernel) (by decide +kernel)
set_option maxRecDepth 20000 in
theorem gL_law_X1_width : GoodIn wsL_law (wsV RL 78 RX1 yX1_width wsX1_width) := goodIn_app (goodIn_of _ (by decide +kernel)) ggL_law_X1_width
set_option maxRecDepth 20000 in
theorem ggL_law_X1_height : GoodIn wsL_law wsX1_height := goodIn_r _ [173, 20, 323, 324, 325, 326, 327] (by decide +kernel) (by decide +kernel)
set_option maxRecDepth 20000 in
theorem gL_law_X1_height : GoodIn wsL_law (wsV RL 81 RX1 yX1_height wsX1_height) := goodIn_app (goodIn_of _ (by decide +kernel)) ggL_law_X1_height
set_option maxRecDepth 20000 in
theorem ggL_law_X1_cellsOf : GoodIn wsL_law wsX1_cellsOf := goodIn_ca (goodIn_r _ [177, 86, 87, 17, 149, 150, 2, 151, 152, 153, 154, 178, 179, 180, 16, 181, 182, 183, 184, 185, 27, 186, 139, 140, 141, 142, 143, 144, 323, 324, 325, 326, 327, 334, 335, 336, 337, 338, 339] (by decide +kernel) (by decide +kernel)) (goodIn_sub (fun _ h => List.mem_append_right _ h) (by decide +kernel))
set_option maxRecDepth 20000 in
theorem gL_law_X1_cellsOf : GoodIn wsL_law (wsV RL 84 RX1 yX1_cellsOf wsX1_cellsOf) := goodIn_app (goodIn_of _ (by decide +kernel)) ggL_law_X1_cellsOf
set_option maxRecDepth 20000 in
theorem ggL_law_X1_colourAt : GoodIn wsL_law wsX1_colourAt := goodIn_ca (goodIn_r _ [190, 86, 87, 17, 89, 90, 91, 2, 92, 19, 20, 93, 36, 37, 155, 156, 157, 16, 158, 27, 159, 160, 161, 323, 324, 325, 326, 327, 334, 335, 336, 337, 338, 339] (by decide +kernel) (by decide +kernel)) (goodIn_sub (fun _ h => List.mem_append_right _ h) (by decide +kernel))
set_option maxRecDepth 20000 in
theorem gL_law_X1_colourAt : GoodIn wsL_law (wsV RL 88 RX1 yX1_colourAt wsX1_colourAt) := goodIn_app (goodIn_of _ (by decide +kernel)) ggL_law_X1_colourAt
set_option maxRecDepth 20000 in
theorem ggL_law_X1_neighboursWith : GoodIn wsL_law wsX1_neighboursWith := goodIn_ca (goodIn_r _ [194, 86, 87, 17, 89, 90, 91, 2, 92, 19, 20, 149, 150, 151, 152, 153, 154, 93, 36, 37, 195, 196, 197, 198, 183, 184, 16, 185, 27, 138, 139, 140, 141, 142, 143, 144, 323, 324, 325, 326, 327, 334, 335, 336, 337, 338, 339] (by decide +kernel) (by decide +kernel)) (goodIn_sub (fun _ h => List.mem_append_right _ h) (by decide +kernel))
set_option maxRecDepth 20000 in
theorem gL_law_X1_neighboursWith : GoodIn wsL_law (wsV RL 91 RX1 yX1_neighboursWith wsX1_neighboursWith) := goodIn_app (goodIn_of _ (by decide +kernel)) ggL_law_X1_neighboursWith
set_option maxRecDepth 20000 in
theorem ggL_law_X1_waves : GoodIn wsL_law wsX1_waves := goodIn_r _ [202, 21, 323, 324, 325, 326, 327] (by decide +kernel) (by decide +kernel)
set_option maxRecDepth 20000 in
theorem gL_law_X1_waves : GoodIn wsL_law (wsV RL 94 RX1 yX1_waves wsX1_waves) := goodIn_app (goodIn_of _ (by decide +kernel)) ggL_law_X1_waves
set_option maxRecDepth 20000 in
theorem ggL_law_X1_pass : GoodIn wsL_law wsX1_pass := goodIn_ca (goodIn_r _ [118, 71, 72, 21, 17, 119, 120, 121, 16, 122, 123, 124, 125, 126, 29, 26, 27, 127, 128, 129, 130, 28, 34, 35, 131, 132, 133, 134, 135, 136, 137, 138, 139, 140, 141, 142, 143, 144, 323, 324, 325, 326, 327, 334, 335, 336, 337, 338, 339] (by decide +kernel) (by decide +kernel)) (goodIn_sub (fun _ h => List.mem_append_left _ (List.mem_append_right _ h)) (by decide +kernel))
set_option maxRecDepth 20000 in
theorem gL_law_X1_pass : GoodIn wsL_law (wsV RL 54 RX1 yX1_pass wsX1_pass) := goodIn_app (goodIn_of _ (by decide +kernel)) ggL_law_X1_pass
set_option maxRecDepth 20000 in
theorem ggL_law_X2_wave : GoodIn wsL_law wsX2_wave := goodIn_r _ [102, 60, 61, 62, 3, 63, 103, 104, 105, 44, 106, 66, 59, 107, 108, 109, 110, 111, 112, 113, 114, 328, 329, 330, 331, 332, 333] (by decide +kernel) (by decide +kernel)
set_option maxRecDepth 20000 in
theorem gL_law_X2_wave : GoodIn wsL_law (wsV RL 47 RX2 yX2_wave wsX2_wave) := goodIn_app (goodIn_of _ (by decide +kernel)) ggL_law_X2_wave
set_option maxRecDepth 20000 in
theorem ggL_law_X1_isStubborn : GoodIn wsL_law wsX1_isStubborn := goodIn_ca (goodIn_r _ [206, 86, 87, 17, 88, 89, 90, 91, 2, 92, 19, 20, 93, 36, 37, 323, 324, 325, 326, 327, 334, 335, 336, 337, 338, 339] (by decide +kernel) (by decide +kernel)) (goodIn_sub (fun _ h => List.mem_append_right _ h) (by decide +kernel))
set_option maxRecDepth 20000 in
theorem gL_law_X1_isStubborn : GoodIn wsL_law (wsV RL 96 RX1 yX1_isStubborn wsX1_isStubborn) := goodIn_app (goodIn_of _ (by decide +kernel)) ggL_law_X1_isStubborn
set_option maxRecDepth 20000 in
theorem ggL_law_X1_need : GoodIn wsL_law wsX1_need := goodIn_r _ [210, 17, 98, 323, 324, 325, 326, 327, 334, 335, 336, 337, 338, 339] (by decide +kernel) (by decide +kernel)
set_option maxRecDepth 20000 in
theorem gL_law_X1_need : GoodIn wsL_law (wsV RL 99 RX1 yX1_need wsX1_need) := goodIn_app (goodIn_of _ (by decide +kernel)) ggL_law_X1_need
set_option maxRecDepth 20000 in
theorem ggL_law_X1_stubbornCells : GoodIn wsL_law wsX1_stubbornCells := goodIn_r _ [214, 17, 88, 138, 139, 140, 141, 142, 143, 144, 323, 324, 325, 326, 327, 334, 335, 336, 337, 338, 339] (by decide +kernel) (by decide +kernel)
set_option maxRecDepth 20000 in
theorem gL_law_X1_stubbornCells : GoodIn wsL_law (wsV RL 101 RX1 yX1_stubbornCells wsX1_stubbornCells) := goodIn_app (goodIn_of _ (by decide +kernel)) ggL_law_X1_stubbornCells
set_option maxRecDepth 20000 in
theorem ggL_law_X1_leader : GoodIn wsL_law wsX1_leader := goodIn_r _ [218, 17, 178, 179, 180, 16, 181, 182, 183, 184, 185, 27, 186, 139, 140, 141, 142, 143, 144, 323, 324, 325, 326, 327, 334, 335, 336, 337, 338, 339] (by decide +kernel) (by decide +kernel)
set_option maxRecDepth 20000 in
theorem gL_law_X1_leader : GoodIn wsL_law (wsV RL 104 RX1 yX1_leader wsX1_leader) := goodIn_app (goodIn_of _ (by decide +kernel)) ggL_law_X1_leader
set_option maxRecDepth 20000 in
theorem ggL_law_X1_share : GoodIn wsL_law wsX1_share := goodIn_ca (goodIn_r _ [222, 86, 87, 19, 20, 17, 149, 150, 2, 151, 152, 153, 154, 178, 179, 180, 16, 181, 182, 183, 184, 185, 27, 186, 139, 140, 141, 142, 143, 144, 323, 324, 325, 326, 327, 334, 335, 336, 337, 338, 339] (by decide +kernel) (by decide +kernel)) (goodIn_sub (fun _ h => List.mem_append_right _ h) (by decide +kernel))
set_option maxRecDepth 20000 in
theorem gL_law_X1_share : GoodIn wsL_law (wsV RL 107 RX1 yX1_share wsX1_share) := goodIn_app (goodIn_of _ (by decide +kernel)) ggL_law_X1_share
set_option maxRecDepth 20000 in
theorem ggL_law_X1_regionsOf : GoodIn wsL_law wsX1_regionsOf := goodIn_ca (goodIn_r _ [226, 86, 87, 17, 152, 153, 2, 154, 227, 228, 229, 16, 230, 182, 183, 184, 185, 27, 231, 232, 233, 196, 197, 323, 324, 325, 326, 327, 334, 335, 336, 337, 338, 339] (by decide +kernel) (by decide +kernel)) (goodIn_sub (fun _ h => List.mem_append_right _ h) (by decide +kernel))
set_option maxRecDepth 20000 in
theorem gL_law_X1_regionsOf : GoodIn wsL_law (wsV RL 111 RX1 yX1_regionsOf wsX1_regionsOf) := goodIn_app (goodIn_of _ (by decide +kernel)) ggL_law_X1_regionsOf
set_option maxRecDepth 20000 in
theorem ggL_law_X1_greatestRegion : GoodIn wsL_law wsX1_greatestRegion := goodIn_ca (goodIn_r _ [237, 86, 87, 17, 152, 153, 2, 154, 238, 239, 240, 16, 241, 242, 243, 244, 245, 182, 183, 184, 185, 27, 231, 232, 233, 196, 197, 186, 139, 140, 141, 142, 143, 144, 323, 324, 325, 326, 327, 334, 335, 336, 337, 338, 339] (by decide +kernel) (by decide +kernel)) (goodIn_sub (fun _ h => List.mem_append_right _ h) (by decide +kernel))
set_option maxRecDepth 20000 in
theorem gL_law_X1_greatestRegion : GoodIn wsL_law (wsV RL 114 RX1 yX1_greatestRegion wsX1_greatestRegion) := goodIn_app (goodIn_of _ (by decide +kernel)) ggL_law_X1_greatestRegion
set_option maxRecDepth 20000 in
theorem ggL_law_X1_winner : GoodIn wsL_law wsX1_winner := goodIn_r _ [249, 17, 250, 251, 252, 16, 253, 34, 182, 183, 184, 185, 27, 323, 324, 325, 326, 327, 334, 335, 336, 337, 338, 339] (by decide +kernel) (by decide +kernel)
set_option maxRecDepth 20000 in
theorem gL_law_X1_winner : GoodIn wsL_law (wsV RL 117 RX1 yX1_winner wsX1_winner) := goodIn_app (goodIn_of _ (by decide +kernel)) ggL_law_X1_winner
set_option maxRecDepth 20000 in
theorem ggL_law_X1_borders : GoodIn wsL_law wsX1_borders := goodIn_r _ [257, 17, 258, 259, 260, 16, 261, 34, 27, 182, 183, 184, 185, 262, 263, 264, 186, 139, 140, 141, 142, 143, 144, 323, 324, 325, 326, 327, 334, 335, 336, 337, 338, 339] (by decide +kernel) (by decide +kernel)
set_option maxRecDepth 20000 in
theorem gL_law_X1_borders : GoodIn wsL_law (wsV RL 124 RX1 yX1_borders wsX1_borders) := goodIn_app (goodIn_of _ (by decide +kernel)) ggL_law_X1_borders
set_option maxRecDepth 20000 in
theorem ggL_law_X2_isSame : GoodIn wsL_law wsX2_isSame := goodIn_ca (goodIn_r _ [268, 60, 61, 59, 269, 3, 66, 63, 270, 243, 244, 245, 271, 167, 168, 2, 169, 19, 272, 171, 172, 173, 20, 273, 208, 209, 210, 17, 98, 274, 200, 201, 202, 21, 275, 276, 277, 44, 278, 62, 279, 280, 281, 111, 112, 113, 114, 103, 104, 105, 106, 107, 108, 109, 110, 282, 224, 225, 226, 86, 87, 152, 153, 154, 227, 228, 229, 16, 230, 182, 183, 184, 185, 27, 231, 232, 233, 196, 197, 283, 235, 236, 237, 238, 239, 240, 241, 242, 186, 139, 140, 141, 142, 143, 144, 284, 285, 286, 287, 288, 175, 176, 177, 149, 150, 151, 178, 179, 180, 181, 289, 220, 221, 222, 290, 188, 189, 190, 89, 90, 91, 92, 93, 36, 37, 155, 156, 157, 158, 159, 160, 161, 291, 204, 205, 206, 88, 292, 293, 294, 295, 296, 124, 125, 126, 29, 26, 127, 128, 129, 130, 28, 34, 35, 131, 132, 133, 297, 298, 299, 300, 301, 302, 303, 304, 305, 306, 307, 308, 309, 310, 192, 193, 194, 195, 198, 138, 311, 312, 313, 314, 315, 212, 213, 214, 316, 255, 256, 257, 258, 259, 260, 261, 262, 263, 264, 317, 216, 217, 218, 318, 247, 248, 249, 250, 251, 252, 253, 319, 320, 321, 322, 328, 329, 330, 331, 332, 333, 323, 324, 325, 326, 327, 334, 335, 336, 337, 338, 339] rfl (by decide +kernel)) (goodIn_sub (fun _ h => List.mem_append_right _ h) (by decide +kernel))
set_option maxRecDepth 20000 in
theorem gL_law_X2_isSame : GoodIn wsL_law (wsV RL 127 RX2 yX2_isSame wsX2_isSame) := goodIn_app (goodIn_of _ (by decide +kernel)) ggL_law_X2_isSame
