set_option maxRecDepth 20000 in
theorem ggX2_beside_X2_at : GoodIn wsX2_beside wsX2_at := goodIn_r _ [5, 6, 7, 8, 9, 10, 11, 12, 13, 14] (by decide +kernel) (by decide +kernel)
set_option maxRecDepth 20000 in
theorem gX2_beside_X2_at : GoodIn wsX2_beside (wsV RX2 29 RX2 yX2_at wsX2_at) := goodIn_app (goodIn_of _ (by decide +kernel)) ggX2_beside_X2_at
set_option maxRecDepth 20000 in
theorem ggX2_bare_X2_beside : GoodIn wsX2_bare wsX2_beside := goodIn_r _ [7, 8, 9, 10, 6, 11, 1, 2, 12, 13, 14, 15, 16, 17, 18] (by decide +kernel) (by decide +kernel)
set_option maxRecDepth 20000 in
theorem gX2_bare_X2_beside : GoodIn wsX2_bare (wsV RX2 33 RX2 yX2_beside wsX2_beside) := goodIn_app (goodIn_of _ (by decide +kernel)) ggX2_bare_X2_beside
set_option maxRecDepth 20000 in
theorem ggX2_next_X2_beside : GoodIn wsX2_next wsX2_beside := goodIn_r _ [8, 9, 10, 11, 7, 12, 13, 14, 2, 15, 16, 17, 18, 19, 20] (by decide +kernel) (by decide +kernel)
set_option maxRecDepth 20000 in
theorem gX2_next_X2_beside : GoodIn wsX2_next (wsV RX2 33 RX2 yX2_beside wsX2_beside) := goodIn_app (goodIn_of _ (by decide +kernel)) ggX2_next_X2_beside
set_option maxRecDepth 20000 in
theorem ggX2_wave_X2_next : GoodIn wsX2_wave wsX2_next := goodIn_r _ [10, 11, 5, 12, 13, 14, 15, 9, 16, 17, 18, 19, 20, 1, 2, 21, 22, 23, 24, 25, 26] (by decide +kernel) (by decide +kernel)
set_option maxRecDepth 20000 in
theorem gX2_wave_X2_next : GoodIn wsX2_wave (wsV RX2 37 RX2 yX2_next wsX2_next) := goodIn_app (goodIn_of _ (by decide +kernel)) ggX2_wave_X2_next
set_option maxRecDepth 20000 in
theorem ggX2_regions_X2_at : GoodIn wsX2_regions wsX2_at := goodIn_r _ [14, 1, 2, 5, 15, 16, 17, 18, 19, 20] (by decide +kernel) (by decide +kernel)
set_option maxRecDepth 20000 in
theorem gX2_regions_X2_at : GoodIn wsX2_regions (wsV RX2 29 RX2 yX2_at wsX2_at) := goodIn_app (goodIn_of _ (by decide +kernel)) ggX2_regions_X2_at
set_option maxRecDepth 20000 in
theorem ggX2_isSame_X1_width : GoodIn wsX2_isSame wsX1_width := goodIn_r _ [16, 17, 218, 219, 220, 221, 222] (by decide +kernel) (by decide +kernel)
set_option maxRecDepth 20000 in
theorem gX2_isSame_X1_width : GoodIn wsX2_isSame (wsV RX2 63 RX1 yX1_width wsX1_width) := goodIn_app (goodIn_of _ (by decide +kernel)) ggX2_isSame_X1_width
set_option maxRecDepth 20000 in
theorem ggX2_isSame_X1_height : GoodIn wsX2_isSame wsX1_height := goodIn_r _ [21, 22, 218, 219, 220, 221, 222] (by decide +kernel) (by decide +kernel)
set_option maxRecDepth 20000 in
theorem gX2_isSame_X1_height : GoodIn wsX2_isSame (wsV RX2 68 RX1 yX1_height wsX1_height) := goodIn_app (goodIn_of _ (by decide +kernel)) ggX2_isSame_X1_height
set_option maxRecDepth 20000 in
theorem ggX2_isSame_X1_need : GoodIn wsX2_isSame wsX1_need := goodIn_r _ [26, 27, 28, 218, 219, 220, 221, 222, 223, 224, 225, 226, 227, 228] (by decide +kernel) (by decide +kernel)
set_option maxRecDepth 20000 in
theorem gX2_isSame_X1_need : GoodIn wsX2_isSame (wsV RX2 71 RX1 yX1_need wsX1_need) := goodIn_app (goodIn_of _ (by decide +kernel)) ggX2_isSame_X1_need
set_option maxRecDepth 20000 in
theorem ggX2_isSame_X1_waves : GoodIn wsX2_isSame wsX1_waves := goodIn_r _ [32, 33, 218, 219, 220, 221, 222] (by decide +kernel) (by decide +kernel)
set_option maxRecDepth 20000 in
theorem gX2_isSame_X1_waves : GoodIn wsX2_isSame (wsV RX2 73 RX1 yX1_waves wsX1_waves) := goodIn_app (goodIn_of _ (by decide +kernel)) ggX2_isSame_X1_waves
set_option maxRecDepth 20000 in
theorem ggX2_isSame_X2_regions : GoodIn wsX2_isSame wsX2_regions := goodIn_r _ [38, 1, 2, 39, 5, 7, 40, 41, 10, 42, 43, 44, 45, 37, 46, 212, 213, 214, 215, 216, 217] (by decide +kernel) (by decide +kernel)
set_option maxRecDepth 20000 in
theorem gX2_isSame_X2_regions : GoodIn wsX2_isSame (wsV RX2 75 RX2 yX2_regions wsX2_regions) := goodIn_app (goodIn_of _ (by decide +kernel)) ggX2_isSame_X2_regions
set_option maxRecDepth 20000 in
theorem ggX2_isSame_X2_next : GoodIn wsX2_isSame wsX2_next := goodIn_r _ [50, 6, 7, 3, 51, 52, 53, 37, 54, 43, 44, 45, 46, 1, 2, 212, 213, 214, 215, 216, 217] (by decide +kernel) (by decide +kernel)
set_option maxRecDepth 20000 in
theorem gX2_isSame_X2_next : GoodIn wsX2_isSame (wsV RX2 37 RX2 yX2_next wsX2_next) := goodIn_app (goodIn_of _ (by decide +kernel)) ggX2_isSame_X2_next
set_option maxRecDepth 20000 in
theorem ggX2_isSame_X2_at : GoodIn wsX2_isSame wsX2_at := goodIn_r _ [46, 1, 2, 7, 212, 213, 214, 215, 216, 217] (by decide +kernel) (by decide +kernel)
set_option maxRecDepth 20000 in
theorem gX2_isSame_X2_at : GoodIn wsX2_isSame (wsV RX2 29 RX2 yX2_at wsX2_at) := goodIn_app (goodIn_of _ (by decide +kernel)) ggX2_isSame_X2_at
set_option maxRecDepth 20000 in
theorem ggX2_isSame_X1_regionsOf : GoodIn wsX2_isSame wsX1_regionsOf := goodIn_ca (goodIn_r _ [58, 59, 60, 27, 61, 62, 15, 63, 64, 65, 66, 67, 68, 69, 70, 71, 72, 73, 74, 75, 76, 77, 78, 218, 219, 220, 221, 222, 223, 224, 225, 226, 227, 228] (by decide +kernel) (by decide +kernel)) (goodIn_sub (fun _ h => List.mem_cons_of_mem _ (List.mem_append_right _ h)) (by decide +kernel))
set_option maxRecDepth 20000 in
theorem gX2_isSame_X1_regionsOf : GoodIn wsX2_isSame (wsV RX2 82 RX1 yX1_regionsOf wsX1_regionsOf) := goodIn_app (goodIn_of _ (by decide +kernel)) ggX2_isSame_X1_regionsOf
set_option maxRecDepth 20000 in
theorem ggX2_isSame_X1_greatestRegion : GoodIn wsX2_isSame wsX1_greatestRegion := goodIn_ca (goodIn_r _ [82, 59, 60, 27, 61, 62, 15, 63, 83, 84, 85, 67, 86, 87, 9, 10, 11, 69, 70, 71, 72, 73, 74, 75, 76, 77, 78, 88, 89, 90, 91, 92, 93, 94, 218, 219, 220, 221, 222, 223, 224, 225, 226, 227, 228] (by decide +kernel) (by decide +kernel)) (goodIn_sub (fun _ h => List.mem_cons_of_mem _ (List.mem_append_right _ h)) (by decide +kernel))
set_option maxRecDepth 20000 in
theorem gX2_isSame_X1_greatestRegion : GoodIn wsX2_isSame (wsV RX2 85 RX1 yX1_greatestRegion wsX1_greatestRegion) := goodIn_app (goodIn_of _ (by decide +kernel)) ggX2_isSame_X1_greatestRegion
set_option maxRecDepth 20000 in
theorem ggX2_isSame_X2_cells : GoodIn wsX2_isSame wsX2_cells := goodIn_r _ [98, 7, 212, 213, 214, 215, 216, 217] (by decide +kernel) (by decide +kernel)
set_option maxRecDepth 20000 in
theorem gX2_isSame_X2_cells : GoodIn wsX2_isSame (wsV RX2 55 RX2 yX2_cells wsX2_cells) := goodIn_app (goodIn_of _ (by decide +kernel)) ggX2_isSame_X2_cells
set_option maxRecDepth 20000 in
theorem ggX2_isSame_X1_cellsOf : GoodIn wsX2_isSame wsX1_cellsOf := goodIn_ca (goodIn_r _ [102, 59, 60, 27, 103, 104, 15, 105, 61, 62, 63, 106, 107, 108, 67, 109, 69, 70, 71, 72, 73, 88, 89, 90, 91, 92, 93, 94, 218, 219, 220, 221, 222, 223, 224, 225, 226, 227, 228] (by decide +kernel) (by decide +kernel)) (goodIn_sub (fun _ h => List.mem_cons_of_mem _ (List.mem_append_right _ h)) (by decide +kernel))
set_option maxRecDepth 20000 in
theorem gX2_isSame_X1_cellsOf : GoodIn wsX2_isSame (wsV RX2 88 RX1 yX1_cellsOf wsX1_cellsOf) := goodIn_app (goodIn_of _ (by decide +kernel)) ggX2_isSame_X1_cellsOf
set_option maxRecDepth 20000 in
theorem ggX2_isSame_X1_share : GoodIn wsX2_isSame wsX1_share := goodIn_ca (goodIn_r _ [113, 59, 60, 17, 22, 27, 103, 104, 15, 105, 61, 62, 63, 106, 107, 108, 67, 109, 69, 70, 71, 72, 73, 88, 89, 90, 91, 92, 93, 94, 218, 219, 220, 221, 222, 223, 224, 225, 226, 227, 228] (by decide +kernel) (by decide +kernel)) (goodIn_sub (fun _ h => List.mem_cons_of_mem _ (List.mem_append_right _ h)) (by decide +kernel))
set_option maxRecDepth 20000 in
theorem gX2_isSame_X1_share : GoodIn wsX2_isSame (wsV RX2 91 RX1 yX1_share wsX1_share) := goodIn_app (goodIn_of _ (by decide +kernel)) ggX2_isSame_X1_share
set_option maxRecDepth 20000 in
theorem ggX2_isSame_X1_colourAt : GoodIn wsX2_isSame wsX1_colourAt := goodIn_ca (goodIn_r _ [117, 59, 60, 27, 118, 119, 120, 15, 121, 17, 22, 122, 123, 124, 125, 126, 127, 67, 128, 73, 129, 130, 131, 218, 219, 220, 221, 222, 223, 224, 225, 226, 227, 228] (by decide +kernel) (by decide +kernel)) (goodIn_sub (fun _ h => List.mem_cons_of_mem _ (List.mem_append_right _ h)) (by decide +kernel))
set_option maxRecDepth 20000 in
theorem gX2_isSame_X1_colourAt : GoodIn wsX2_isSame (wsV RX2 95 RX1 yX1_colourAt wsX1_colourAt) := goodIn_app (goodIn_of _ (by decide +kernel)) ggX2_isSame_X1_colourAt
set_option maxRecDepth 20000 in
theorem ggX2_isSame_X1_isStubborn : GoodIn wsX2_isSame wsX1_isStubborn := goodIn_ca (goodIn_r _ [135, 59, 60, 27, 136, 118, 119, 120, 15, 121, 17, 22, 122, 123, 124, 218, 219, 220, 221, 222, 223, 224, 225, 226, 227, 228] (by decide +kernel) (by decide +kernel)) (goodIn_sub (fun _ h => List.mem_cons_of_mem _ (List.mem_append_right _ h)) (by decide +kernel))
set_option maxRecDepth 20000 in
theorem gX2_isSame_X1_isStubborn : GoodIn wsX2_isSame (wsV RX2 98 RX1 yX1_isStubborn wsX1_isStubborn) := goodIn_app (goodIn_of _ (by decide +kernel)) ggX2_isSame_X1_isStubborn
set_option maxRecDepth 20000 in
theorem ggX2_isSame_X1_nextColour : GoodIn wsX2_isSame wsX1_nextColour := goodIn_ca (goodIn_r _ [140, 59, 60, 27, 118, 119, 120, 15, 121, 17, 22, 141, 142, 143, 67, 144, 145, 146, 73, 147, 148, 149, 150, 151, 152, 153, 154, 155, 156, 122, 123, 124, 157, 158, 159, 160, 129, 130, 131, 161, 126, 127, 128, 218, 219, 220, 221, 222, 223, 224, 225, 226, 227, 228] (by decide +kernel) (by decide +kernel)) (goodIn_sub (fun _ h => List.mem_cons_of_mem _ (List.mem_append_right _ h)) (by decide +kernel))
set_option maxRecDepth 20000 in
theorem gX2_isSame_X1_nextColour : GoodIn wsX2_isSame (wsV RX2 102 RX1 yX1_nextColour wsX1_nextColour) := goodIn_app (goodIn_of _ (by decide +kernel)) ggX2_isSame_X1_nextColour
set_option maxRecDepth 20000 in
theorem ggX2_isSame_X1_regionSize : GoodIn wsX2_isSame wsX1_regionSize := goodIn_ca (goodIn_r _ [165, 59, 60, 27, 118, 119, 120, 15, 121, 17, 22, 122, 123, 124, 166, 167, 168, 67, 169, 161, 126, 127, 128, 73, 129, 130, 131, 69, 70, 71, 72, 74, 75, 76, 77, 78, 88, 89, 90, 91, 92, 93, 94, 218, 219, 220, 221, 222, 223, 224, 225, 226, 227, 228] (by decide +kernel) (by decide +kernel)) (goodIn_sub (fun _ h => List.mem_cons_of_mem _ (List.mem_append_right _ h)) (by decide +kernel))
set_option maxRecDepth 20000 in
theorem gX2_isSame_X1_regionSize : GoodIn wsX2_isSame (wsV RX2 105 RX1 yX1_regionSize wsX1_regionSize) := goodIn_app (goodIn_of _ (by decide +kernel)) ggX2_isSame_X1_regionSize
set_option maxRecDepth 20000 in
theorem ggX2_isSame_X1_neighboursWith : GoodIn wsX2_isSame wsX1_neighboursWith := goodIn_ca (goodIn_r _ [173, 59, 60, 27, 118, 119, 120, 15, 121, 17, 22, 103, 104, 105, 61, 62, 63, 122, 123, 124, 174, 77, 78, 175, 70, 71, 67, 72, 73, 176, 89, 90, 91, 92, 93, 94, 218, 219, 220, 221, 222, 223, 224, 225, 226, 227, 228] (by decide +kernel) (by decide +kernel)) (goodIn_sub (fun _ h => List.mem_cons_of_mem _ (List.mem_append_right _ h)) (by decide +kernel))
set_option maxRecDepth 20000 in
theorem gX2_isSame_X1_neighboursWith : GoodIn wsX2_isSame (wsV RX2 108 RX1 yX1_neighboursWith wsX1_neighboursWith) := goodIn_app (goodIn_of _ (by decide +kernel)) ggX2_isSame_X1_neighboursWith
set_option maxRecDepth 20000 in
theorem ggX2_isSame_X2_bare : GoodIn wsX2_isSame wsX2_bare := goodIn_r _ [180, 1, 2, 51, 52, 53, 37, 54, 43, 44, 45, 46, 7, 212, 213, 214, 215, 216, 217] (by decide +kernel) (by decide +kernel)
set_option maxRecDepth 20000 in
theorem gX2_isSame_X2_bare : GoodIn wsX2_isSame (wsV RX2 111 RX2 yX2_bare wsX2_bare) := goodIn_app (goodIn_of _ (by decide +kernel)) ggX2_isSame_X2_bare
set_option maxRecDepth 20000 in
theorem ggX2_isSame_X2_beside : GoodIn wsX2_isSame wsX2_beside := goodIn_r _ [54, 43, 44, 45, 37, 46, 1, 2, 7, 212, 213, 214, 215, 216, 217] (by decide +kernel) (by decide +kernel)
set_option maxRecDepth 20000 in
theorem gX2_isSame_X2_beside : GoodIn wsX2_isSame (wsV RX2 33 RX2 yX2_beside wsX2_beside) := goodIn_app (goodIn_of _ (by decide +kernel)) ggX2_isSame_X2_beside
set_option maxRecDepth 20000 in
theorem ggX2_isSame_X1_stubbornCells : GoodIn wsX2_isSame wsX1_stubbornCells := goodIn_r _ [184, 27, 136, 176, 89, 90, 91, 92, 93, 94, 218, 219, 220, 221, 222, 223, 224, 225, 226, 227, 228] (by decide +kernel) (by decide +kernel)
set_option maxRecDepth 20000 in
theorem gX2_isSame_X1_stubbornCells : GoodIn wsX2_isSame (wsV RX2 114 RX1 yX1_stubbornCells wsX1_stubbornCells) := goodIn_app (goodIn_of _ (by decide +kernel)) ggX2_isSame_X1_stubbornCells
set_option maxRecDepth 20000 in
theorem ggX2_isSame_X1_borders : GoodIn wsX2_isSame wsX1_borders := goodIn_r _ [188, 27, 189, 190, 191, 67, 192, 152, 73, 69, 70, 71, 72, 193, 194, 195, 88, 89, 90, 91, 92, 93, 94, 218, 219, 220, 221, 222, 223, 224, 225, 226, 227, 228] (by decide +kernel) (by decide +kernel)
set_option maxRecDepth 20000 in
theorem gX2_isSame_X1_borders : GoodIn wsX2_isSame (wsV RX2 117 RX1 yX1_borders wsX1_borders) := goodIn_app (goodIn_of _ (by decide +kernel)) ggX2_isSame_X1_borders
set_option maxRecDepth 20000 in
theorem ggX2_isSame_X1_leader : GoodIn wsX2_isSame wsX1_leader := goodIn_r _ [199, 27, 106, 107, 108, 67, 109, 69, 70, 71, 72, 73, 88, 89, 90, 91, 92, 93, 94, 218, 219, 220, 221, 222, 223, 224, 225, 226, 227, 228] (by decide +kernel) (by decide +kernel)
set_option maxRecDepth 20000 in
theorem gX2_isSame_X1_leader : GoodIn wsX2_isSame (wsV RX2 120 RX1 yX1_leader wsX1_leader) := goodIn_app (goodIn_of _ (by decide +kernel)) ggX2_isSame_X1_leader
set_option maxRecDepth 20000 in
theorem ggX2_isSame_X1_winner : GoodIn wsX2_isSame wsX1_winner := goodIn_r _ [203, 27, 204, 205, 206, 67, 207, 152, 69, 70, 71, 72, 73, 218, 219, 220, 221, 222, 223, 224, 225, 226, 227, 228] (by decide +kernel) (by decide +kernel)
set_option maxRecDepth 20000 in
theorem gX2_isSame_X1_winner : GoodIn wsX2_isSame (wsV RX2 123 RX1 yX1_winner wsX1_winner) := goodIn_app (goodIn_of _ (by decide +kernel)) ggX2_isSame_X1_winner
set_option maxRecDepth 20000 in
theorem ggX2_isSame_X1_isStill : GoodIn wsX2_isSame wsX1_isStill := goodIn_r _ [211, 27, 141, 142, 143, 67, 144, 145, 146, 73, 147, 148, 149, 150, 151, 152, 153, 154, 155, 156, 218, 219, 220, 221, 222, 223, 224, 225, 226, 227, 228] (by decide +kernel) (by decide +kernel)
set_option maxRecDepth 20000 in
theorem gX2_isSame_X1_isStill : GoodIn wsX2_isSame (wsV RX2 126 RX1 yX1_isStill wsX1_isStill) := goodIn_app (goodIn_of _ (by decide +kernel)) ggX2_isSame_X1_isStill
