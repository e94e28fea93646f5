set_option maxRecDepth 20000 in
theorem ggX0_clear_X1_cell : GoodIn wsX0_clear wsX1_cell := goodIn_r _ [6] (by decide +kernel) (by decide +kernel)
set_option maxRecDepth 20000 in
theorem gX0_clear_X1_cell_n28 : GoodIn wsX0_clear (wsX1_cell) := ggX0_clear_X1_cell
set_option maxRecDepth 20000 in
theorem ggX0_count_X0_cellsWith : GoodIn wsX0_count wsX0_cellsWith := goodIn_r _ [5, 6, 14, 15, 16, 17, 18, 19] (by decide +kernel) (by decide +kernel)
set_option maxRecDepth 20000 in
theorem gX0_count_X0_cellsWith : GoodIn wsX0_count (wsV RX0 35 RX0 yX0_cellsWith wsX0_cellsWith) := goodIn_app (goodIn_of _ (by decide +kernel)) ggX0_count_X0_cellsWith
set_option maxRecDepth 20000 in
theorem ggX0_count_J6_bitCount_0f7a4 : GoodIn wsX0_count wsJ6_bitCount_0f7a4 := goodIn_r _ [10, 11, 12, 13] (by decide +kernel) (by decide +kernel)
set_option maxRecDepth 20000 in
theorem gX0_count_J6_bitCount_0f7a4 : GoodIn wsX0_count (va_wsS RX0 39 yJ6_bitCount_0f7a4 wsJ6_bitCount_0f7a4) := goodIn_app (goodIn_of _ (by decide +kernel)) ggX0_count_J6_bitCount_0f7a4
set_option maxRecDepth 20000 in
theorem ggX0_isAll_X0_cellsWith : GoodIn wsX0_isAll wsX0_cellsWith := goodIn_r _ [6, 7, 8, 9, 10, 11, 12, 13] (by decide +kernel) (by decide +kernel)
set_option maxRecDepth 20000 in
theorem gX0_isAll_X0_cellsWith : GoodIn wsX0_isAll (wsV RX0 35 RX0 yX0_cellsWith wsX0_cellsWith) := goodIn_app (goodIn_of _ (by decide +kernel)) ggX0_isAll_X0_cellsWith
set_option maxRecDepth 20000 in
theorem ggX0_colourOf_X0_firstColourWith : GoodIn wsX0_colourOf wsX0_firstColourWith := goodIn_r _ [5] (by decide +kernel) (by decide +kernel)
set_option maxRecDepth 20000 in
theorem gX0_colourOf_X0_firstColourWith : GoodIn wsX0_colourOf (va_wsS RX0 44 yX0_firstColourWith wsX0_firstColourWith) := goodIn_app (goodIn_of _ (by decide +kernel)) ggX0_colourOf_X0_firstColourWith
set_option maxRecDepth 20000 in
theorem ggX0_surge_X0_foresee : GoodIn wsX0_surge wsX0_foresee := goodIn_r _ [5, 6, 7, 8, 9, 10, 11, 4, 12, 13, 14, 15, 16, 17, 18, 23, 24, 25, 26, 27, 28] (by decide +kernel) (by decide +kernel)
set_option maxRecDepth 20000 in
theorem gX0_surge_X0_foresee : GoodIn wsX0_surge (wsV RX0 48 RX0 yX0_foresee wsX0_foresee) := goodIn_app (goodIn_of _ (by decide +kernel)) ggX0_surge_X0_foresee
set_option maxRecDepth 20000 in
theorem ggX0_surge_X0_takeGains : GoodIn wsX0_surge wsX0_takeGains := goodIn_r _ [22, 8, 6, 23, 24, 25, 26, 27, 28] (by decide +kernel) (by decide +kernel)
set_option maxRecDepth 20000 in
theorem gX0_surge_X0_takeGains : GoodIn wsX0_surge (wsV RX0 52 RX0 yX0_takeGains wsX0_takeGains) := goodIn_app (goodIn_of _ (by decide +kernel)) ggX0_surge_X0_takeGains
set_option maxRecDepth 20000 in
theorem ggX0_foresee_X0_addGains : GoodIn wsX0_foresee wsX0_addGains := goodIn_r _ [8, 9, 3, 1, 10, 11, 12, 13, 7, 14, 15, 16, 17, 18, 19, 20] (by decide +kernel) (by decide +kernel)
set_option maxRecDepth 20000 in
theorem gX0_foresee_X0_addGains : GoodIn wsX0_foresee (wsV RX0 56 RX0 yX0_addGains wsX0_addGains) := goodIn_app (goodIn_of _ (by decide +kernel)) ggX0_foresee_X0_addGains
set_option maxRecDepth 20000 in
theorem ggX0_foreseenColourOf_X0_firstColourWith : GoodIn wsX0_foreseenColourOf wsX0_firstColourWith := goodIn_r _ [5] (by decide +kernel) (by decide +kernel)
set_option maxRecDepth 20000 in
theorem gX0_foreseenColourOf_X0_firstColourWith : GoodIn wsX0_foreseenColourOf (va_wsS RX0 44 yX0_firstColourWith wsX0_firstColourWith) := goodIn_app (goodIn_of _ (by decide +kernel)) ggX0_foreseenColourOf_X0_firstColourWith
set_option maxRecDepth 20000 in
theorem ggX0_foreseenColourOf_X0_colourOf : GoodIn wsX0_foreseenColourOf wsX0_colourOf := goodIn_r _ [9, 10, 2, 3, 4, 5, 11, 12, 13, 14, 15, 16] (by decide +kernel) (by decide +kernel)
set_option maxRecDepth 20000 in
theorem gX0_foreseenColourOf_X0_colourOf : GoodIn wsX0_foreseenColourOf (wsV RX0 59 RX0 yX0_colourOf wsX0_colourOf) := goodIn_app (goodIn_of _ (by decide +kernel)) ggX0_foreseenColourOf_X0_colourOf
set_option maxRecDepth 20000 in
theorem ggX0_sizeOfRegion_X0_colourOf : GoodIn wsX0_sizeOfRegion wsX0_colourOf := goodIn_r _ [5, 6, 7, 8, 4, 9, 27, 28, 29, 30, 31, 32] (by decide +kernel) (by decide +kernel)
set_option maxRecDepth 20000 in
theorem gX0_sizeOfRegion_X0_colourOf : GoodIn wsX0_sizeOfRegion (wsV RX0 59 RX0 yX0_colourOf wsX0_colourOf) := goodIn_app (goodIn_of _ (by decide +kernel)) ggX0_sizeOfRegion_X0_colourOf
set_option maxRecDepth 20000 in
theorem ggX0_sizeOfRegion_X0_cellsWith : GoodIn wsX0_sizeOfRegion wsX0_cellsWith := goodIn_r _ [13, 6, 27, 28, 29, 30, 31, 32] (by decide +kernel) (by decide +kernel)
set_option maxRecDepth 20000 in
theorem gX0_sizeOfRegion_X0_cellsWith : GoodIn wsX0_sizeOfRegion (wsV RX0 35 RX0 yX0_cellsWith wsX0_cellsWith) := goodIn_app (goodIn_of _ (by decide +kernel)) ggX0_sizeOfRegion_X0_cellsWith
set_option maxRecDepth 20000 in
theorem ggX0_sizeOfRegion_X0_regionFrom : GoodIn wsX0_sizeOfRegion wsX0_regionFrom := goodIn_r _ [16, 17, 18, 19] (by decide +kernel) (by decide +kernel)
set_option maxRecDepth 20000 in
theorem gX0_sizeOfRegion_X0_regionFrom : GoodIn wsX0_sizeOfRegion (va_wsS RX0 62 yX0_regionFrom wsX0_regionFrom) := goodIn_app (goodIn_of _ (by decide +kernel)) ggX0_sizeOfRegion_X0_regionFrom
set_option maxRecDepth 20000 in
theorem ggX0_sizeOfRegion_J6_bitCount_0f7a4 : GoodIn wsX0_sizeOfRegion wsJ6_bitCount_0f7a4 := goodIn_r _ [23, 24, 25, 26] (by decide +kernel) (by decide +kernel)
set_option maxRecDepth 20000 in
theorem gX0_sizeOfRegion_J6_bitCount_0f7a4 : GoodIn wsX0_sizeOfRegion (va_wsS RX0 39 yJ6_bitCount_0f7a4 wsJ6_bitCount_0f7a4) := goodIn_app (goodIn_of _ (by decide +kernel)) ggX0_sizeOfRegion_J6_bitCount_0f7a4
set_option maxRecDepth 20000 in
theorem ggX0_countRegions_X0_cellsWith : GoodIn wsX0_countRegions wsX0_cellsWith := goodIn_r _ [5, 6, 13, 14, 15, 16, 17, 18] (by decide +kernel) (by decide +kernel)
set_option maxRecDepth 20000 in
theorem gX0_countRegions_X0_cellsWith : GoodIn wsX0_countRegions (wsV RX0 35 RX0 yX0_cellsWith wsX0_cellsWith) := goodIn_app (goodIn_of _ (by decide +kernel)) ggX0_countRegions_X0_cellsWith
set_option maxRecDepth 20000 in
theorem ggX0_countRegions_X0_regionFrom : GoodIn wsX0_countRegions wsX0_regionFrom := goodIn_r _ [9, 10, 11, 12] (by decide +kernel) (by decide +kernel)
set_option maxRecDepth 20000 in
theorem gX0_countRegions_X0_regionFrom : GoodIn wsX0_countRegions (va_wsS RX0 62 yX0_regionFrom wsX0_regionFrom) := goodIn_app (goodIn_of _ (by decide +kernel)) ggX0_countRegions_X0_regionFrom
set_option maxRecDepth 20000 in
theorem ggX0_sizeOfGreatestRegion_X0_cellsWith : GoodIn wsX0_sizeOfGreatestRegion wsX0_cellsWith := goodIn_r _ [9, 10, 24, 25, 26, 27, 28, 29] (by decide +kernel) (by decide +kernel)
set_option maxRecDepth 20000 in
theorem gX0_sizeOfGreatestRegion_X0_cellsWith : GoodIn wsX0_sizeOfGreatestRegion (wsV RX0 35 RX0 yX0_cellsWith wsX0_cellsWith) := goodIn_app (goodIn_of _ (by decide +kernel)) ggX0_sizeOfGreatestRegion_X0_cellsWith
set_option maxRecDepth 20000 in
theorem ggX0_sizeOfGreatestRegion_X0_regionFrom : GoodIn wsX0_sizeOfGreatestRegion wsX0_regionFrom := goodIn_r _ [13, 14, 15, 16] (by decide +kernel) (by decide +kernel)
set_option maxRecDepth 20000 in
theorem gX0_sizeOfGreatestRegion_X0_regionFrom : GoodIn wsX0_sizeOfGreatestRegion (va_wsS RX0 62 yX0_regionFrom wsX0_regionFrom) := goodIn_app (goodIn_of _ (by decide +kernel)) ggX0_sizeOfGreatestRegion_X0_regionFrom
set_option maxRecDepth 20000 in
theorem ggX0_sizeOfGreatestRegion_J6_bitCount_0f7a4 : GoodIn wsX0_sizeOfGreatestRegion wsJ6_bitCount_0f7a4 := goodIn_r _ [20, 21, 22, 23] (by decide +kernel) (by decide +kernel)
set_option maxRecDepth 20000 in
theorem gX0_sizeOfGreatestRegion_J6_bitCount_0f7a4 : GoodIn wsX0_sizeOfGreatestRegion (va_wsS RX0 39 yJ6_bitCount_0f7a4 wsJ6_bitCount_0f7a4) := goodIn_app (goodIn_of _ (by decide +kernel)) ggX0_sizeOfGreatestRegion_J6_bitCount_0f7a4
set_option maxRecDepth 20000 in
theorem ggX0_countBorders_X0_cellsWith : GoodIn wsX0_countBorders wsX0_cellsWith := goodIn_r _ [7, 2, 18, 19, 20, 21, 22, 23] (by decide +kernel) (by decide +kernel)
set_option maxRecDepth 20000 in
theorem gX0_countBorders_X0_cellsWith : GoodIn wsX0_countBorders (wsV RX0 35 RX0 yX0_cellsWith wsX0_cellsWith) := goodIn_app (goodIn_of _ (by decide +kernel)) ggX0_countBorders_X0_cellsWith
set_option maxRecDepth 20000 in
theorem ggX0_countBorders_X0_countPairs : GoodIn wsX0_countBorders wsX0_countPairs := goodIn_r _ [10, 11, 12, 13, 14, 15, 16, 17] (by decide +kernel) (by decide +kernel)
set_option maxRecDepth 20000 in
theorem gX0_countBorders_X0_countPairs : GoodIn wsX0_countBorders (va_wsS RX0 70 yX0_countPairs wsX0_countPairs) := goodIn_app (goodIn_of _ (by decide +kernel)) ggX0_countBorders_X0_countPairs
set_option maxRecDepth 20000 in
theorem ggX0_addGains_X0_withNeighbours : GoodIn wsX0_addGains wsX0_withNeighbours := goodIn_r _ [9] (by decide +kernel) (by decide +kernel)
set_option maxRecDepth 20000 in
theorem gX0_addGains_X0_withNeighbours : GoodIn wsX0_addGains (va_wsS RX0 73 yX0_withNeighbours wsX0_withNeighbours) := goodIn_app (goodIn_of _ (by decide +kernel)) ggX0_addGains_X0_withNeighbours
set_option maxRecDepth 20000 in
theorem ggX0_regionFrom_X1_nextTo : GoodIn wsX0_regionFrom wsX1_nextTo := goodIn_r _ [3] (by decide +kernel) (by decide +kernel)
set_option maxRecDepth 20000 in
theorem gX0_regionFrom_X1_nextTo_n76 : GoodIn wsX0_regionFrom (wsX1_nextTo) := ggX0_regionFrom_X1_nextTo
set_option maxRecDepth 20000 in
theorem ggX0_countPairs_J6_bitCount_0f7a4 : GoodIn wsX0_countPairs wsJ6_bitCount_0f7a4 := goodIn_r _ [4, 5, 6, 7] (by decide +kernel) (by decide +kernel)
set_option maxRecDepth 20000 in
theorem gX0_countPairs_J6_bitCount_0f7a4 : GoodIn wsX0_countPairs (va_wsS RX0 39 yJ6_bitCount_0f7a4 wsJ6_bitCount_0f7a4) := goodIn_app (goodIn_of _ (by decide +kernel)) ggX0_countPairs_J6_bitCount_0f7a4
set_option maxRecDepth 20000 in
theorem ggX1_init_X0_init : GoodIn wsX1_init wsX0_init := goodIn_r _ [14, 15, 2, 3, 16, 17, 18, 19, 20, 30, 31, 32, 33, 34, 35] (by decide +kernel) (by decide +kernel)
set_option maxRecDepth 20000 in
theorem gX1_init_X0_init : GoodIn wsX1_init (wsX0_init) := ggX1_init_X0_init
set_option maxRecDepth 20000 in
theorem ggX1_init_X0_clear : GoodIn wsX1_init wsX0_clear := goodIn_r _ [24, 25, 26, 18, 27, 28, 29, 30, 31, 32, 33, 34, 35] (by decide +kernel) (by decide +kernel)
set_option maxRecDepth 20000 in
theorem gX1_init_X0_clear : GoodIn wsX1_init (wsV RX1 29 RX0 yX0_clear wsX0_clear) := goodIn_app (goodIn_of _ (by decide +kernel)) ggX1_init_X0_clear
set_option maxRecDepth 20000 in
theorem ggX1_newMap_X1_isSide : GoodIn wsX1_newMap wsX1_isSide := goodIn_r _ [10] (by decide +kernel) (by decide +kernel)
set_option maxRecDepth 20000 in
theorem gX1_newMap_X1_isSide : GoodIn wsX1_newMap (va_wsS RX1 33 yX1_isSide wsX1_isSide) := goodIn_app (goodIn_of _ (by decide +kernel)) ggX1_newMap_X1_isSide
set_option maxRecDepth 20000 in
theorem ggX1_newMap_X0_clear : GoodIn wsX1_newMap wsX0_clear := goodIn_r _ [15, 16, 17, 18, 19, 9, 20, 26, 27, 28, 29, 30, 31] (by decide +kernel) (by decide +kernel)
set_option maxRecDepth 20000 in
theorem gX1_newMap_X0_clear : GoodIn wsX1_newMap (wsV RX1 29 RX0 yX0_clear wsX0_clear) := goodIn_app (goodIn_of _ (by decide +kernel)) ggX1_newMap_X0_clear
set_option maxRecDepth 20000 in
theorem ggX1_paint_X1_isOnMap : GoodIn wsX1_paint wsX1_isOnMap := goodIn_r _ [8, 9, 10, 33, 34, 35, 36, 37] (by decide +kernel) (by decide +kernel)
set_option maxRecDepth 20000 in
theorem gX1_paint_X1_isOnMap : GoodIn wsX1_paint (wsV RX1 44 RX1 yX1_isOnMap wsX1_isOnMap) := goodIn_app (goodIn_of _ (by decide +kernel)) ggX1_paint_X1_isOnMap
set_option maxRecDepth 20000 in
theorem ggX1_paint_X1_isColourOrBare : GoodIn wsX1_paint wsX1_isColourOrBare := goodIn_r _ [13, 14, 15, 7, 16] (by decide +kernel) (by decide +kernel)
set_option maxRecDepth 20000 in
theorem gX1_paint_X1_isColourOrBare : GoodIn wsX1_paint (va_wsS RX1 48 yX1_isColourOrBare wsX1_isColourOrBare) := goodIn_app (goodIn_of _ (by decide +kernel)) ggX1_paint_X1_isColourOrBare
set_option maxRecDepth 20000 in
theorem ggX1_paint_X1_cell : GoodIn wsX1_paint wsX1_cell := goodIn_r _ [19] (by decide +kernel) (by decide +kernel)
set_option maxRecDepth 20000 in
theorem gX1_paint_X1_cell : GoodIn wsX1_paint (va_wsS RX1 56 yX1_cell wsX1_cell) := goodIn_app (goodIn_of _ (by decide +kernel)) ggX1_paint_X1_cell
set_option maxRecDepth 20000 in
theorem ggX1_paint_X0_colourOf : GoodIn wsX1_paint wsX0_colourOf := goodIn_r _ [24, 25, 26, 27, 23, 28, 38, 39, 40, 41, 42, 43] (by decide +kernel) (by decide +kernel)
set_option maxRecDepth 20000 in
theorem gX1_paint_X0_colourOf : GoodIn wsX1_paint (wsV RX1 60 RX0 yX0_colourOf wsX0_colourOf) := goodIn_app (goodIn_of _ (by decide +kernel)) ggX1_paint_X0_colourOf
set_option maxRecDepth 20000 in
theorem ggX1_paint_X0_dye : GoodIn wsX1_paint wsX0_dye := goodIn_r _ [32, 25, 38, 39, 40, 41, 42, 43] (by decide +kernel) (by decide +kernel)
set_option maxRecDepth 20000 in
theorem gX1_paint_X0_dye : GoodIn wsX1_paint (wsV RX1 64 RX0 yX0_dye wsX0_dye) := goodIn_app (goodIn_of _ (by decide +kernel)) ggX1_paint_X0_dye
set_option maxRecDepth 20000 in
theorem ggX1_turnStubborn_X1_isOnMap : GoodIn wsX1_turnStubborn wsX1_isOnMap := goodIn_r _ [9, 10, 11, 15, 16, 17, 18, 19] (by decide +kernel) (by decide +kernel)
set_option maxRecDepth 20000 in
theorem gX1_turnStubborn_X1_isOnMap : GoodIn wsX1_turnStubborn (wsV RX1 44 RX1 yX1_isOnMap wsX1_isOnMap) := goodIn_app (goodIn_of _ (by decide +kernel)) ggX1_turnStubborn_X1_isOnMap
set_option maxRecDepth 20000 in
theorem ggX1_turnStubborn_X1_cell : GoodIn wsX1_turnStubborn wsX1_cell := goodIn_r _ [14] (by decide +kernel) (by decide +kernel)
set_option maxRecDepth 20000 in
theorem gX1_turnStubborn_X1_cell : GoodIn wsX1_turnStubborn (va_wsS RX1 56 yX1_cell wsX1_cell) := goodIn_app (goodIn_of _ (by decide +kernel)) ggX1_turnStubborn_X1_cell
set_option maxRecDepth 20000 in
theorem ggX1_pass_X0_surge : GoodIn wsX1_pass wsX0_surge := goodIn_r _ [9, 10, 11, 12, 8, 13, 14, 15, 16, 17, 18, 19, 20, 21, 22, 23, 24, 25, 26, 27, 28, 29, 30, 43, 44, 45, 46, 47, 48] (by decide +kernel) (by decide +kernel)
set_option maxRecDepth 20000 in
theorem gX1_pass_X0_surge : GoodIn wsX1_pass (wsV RX1 79 RX0 yX0_surge wsX0_surge) := goodIn_app (goodIn_of _ (by decide +kernel)) ggX1_pass_X0_surge
set_option maxRecDepth 20000 in
theorem ggX1_pass_J6_bitCount_0f7a4 : GoodIn wsX1_pass wsJ6_bitCount_0f7a4 := goodIn_r _ [34, 35, 36, 37] (by decide +kernel) (by decide +kernel)
set_option maxRecDepth 20000 in
theorem gX1_pass_J6_bitCount_0f7a4 : GoodIn wsX1_pass (va_wsS RX1 82 yJ6_bitCount_0f7a4 wsJ6_bitCount_0f7a4) := goodIn_app (goodIn_of _ (by decide +kernel)) ggX1_pass_J6_bitCount_0f7a4
set_option maxRecDepth 20000 in
theorem ggX1_colourAt_X1_isOnMap : GoodIn wsX1_colourAt wsX1_isOnMap := goodIn_r _ [8, 9, 10, 23, 24, 25, 26, 27] (by decide +kernel) (by decide +kernel)
set_option maxRecDepth 20000 in
theorem gX1_colourAt_X1_isOnMap : GoodIn wsX1_colourAt (wsV RX1 44 RX1 yX1_isOnMap wsX1_isOnMap) := goodIn_app (goodIn_of _ (by decide +kernel)) ggX1_colourAt_X1_isOnMap
set_option maxRecDepth 20000 in
theorem ggX1_colourAt_X1_cell : GoodIn wsX1_colourAt wsX1_cell := goodIn_r _ [13] (by decide +kernel) (by decide +kernel)
set_option maxRecDepth 20000 in
theorem gX1_colourAt_X1_cell : GoodIn wsX1_colourAt (va_wsS RX1 56 yX1_cell wsX1_cell) := goodIn_app (goodIn_of _ (by decide +kernel)) ggX1_colourAt_X1_cell
set_option maxRecDepth 20000 in
theorem ggX1_colourAt_X0_colourOf : GoodIn wsX1_colourAt wsX0_colourOf := goodIn_r _ [18, 19, 20, 21, 17, 22, 28, 29, 30, 31, 32, 33] (by decide +kernel) (by decide +kernel)
set_option maxRecDepth 20000 in
theorem gX1_colourAt_X0_colourOf : GoodIn wsX1_colourAt (wsV RX1 60 RX0 yX0_colourOf wsX0_colourOf) := goodIn_app (goodIn_of _ (by decide +kernel)) ggX1_colourAt_X0_colourOf
set_option maxRecDepth 20000 in
theorem ggX1_isStubborn_X1_isOnMap : GoodIn wsX1_isStubborn wsX1_isOnMap := goodIn_r _ [9, 10, 11, 15, 16, 17, 18, 19] (by decide +kernel) (by decide +kernel)
set_option maxRecDepth 20000 in
theorem gX1_isStubborn_X1_isOnMap : GoodIn wsX1_isStubborn (wsV RX1 44 RX1 yX1_isOnMap wsX1_isOnMap) := goodIn_app (goodIn_of _ (by decide +kernel)) ggX1_isStubborn_X1_isOnMap
set_option maxRecDepth 20000 in
theorem ggX1_isStubborn_X1_cell : GoodIn wsX1_isStubborn wsX1_cell := goodIn_r _ [14] (by decide +kernel) (by decide +kernel)
set_option maxRecDepth 20000 in
theorem gX1_isStubborn_X1_cell : GoodIn wsX1_isStubborn (va_wsS RX1 56 yX1_cell wsX1_cell) := goodIn_app (goodIn_of _ (by decide +kernel)) ggX1_isStubborn_X1_cell
set_option maxRecDepth 20000 in
theorem ggX1_neighboursWith_X1_isOnMap : GoodIn wsX1_neighboursWith wsX1_isOnMap := goodIn_r _ [8, 9, 10, 36, 37, 38, 39, 40] (by decide +kernel) (by decide +kernel)
set_option maxRecDepth 20000 in
theorem gX1_neighboursWith_X1_isOnMap : GoodIn wsX1_neighboursWith (wsV RX1 44 RX1 yX1_isOnMap wsX1_isOnMap) := goodIn_app (goodIn_of _ (by decide +kernel)) ggX1_neighboursWith_X1_isOnMap
set_option maxRecDepth 20000 in
theorem ggX1_neighboursWith_X1_isColourOrBare : GoodIn wsX1_neighboursWith wsX1_isColourOrBare := goodIn_r _ [13, 14, 15, 7, 16] (by decide +kernel) (by decide +kernel)
set_option maxRecDepth 20000 in
theorem gX1_neighboursWith_X1_isColourOrBare : GoodIn wsX1_neighboursWith (va_wsS RX1 48 yX1_isColourOrBare wsX1_isColourOrBare) := goodIn_app (goodIn_of _ (by decide +kernel)) ggX1_neighboursWith_X1_isColourOrBare
set_option maxRecDepth 20000 in
theorem ggX1_neighboursWith_X1_cell : GoodIn wsX1_neighboursWith wsX1_cell := goodIn_r _ [19] (by decide +kernel) (by decide +kernel)
set_option maxRecDepth 20000 in
theorem gX1_neighboursWith_X1_cell : GoodIn wsX1_neighboursWith (va_wsS RX1 56 yX1_cell wsX1_cell) := goodIn_app (goodIn_of _ (by decide +kernel)) ggX1_neighboursWith_X1_cell
set_option maxRecDepth 20000 in
theorem ggX1_neighboursWith_X1_nextTo : GoodIn wsX1_neighboursWith wsX1_nextTo := goodIn_r _ [22] (by decide +kernel) (by decide +kernel)
set_option maxRecDepth 20000 in
theorem gX1_neighboursWith_X1_nextTo : GoodIn wsX1_neighboursWith (va_wsS RX1 87 yX1_nextTo wsX1_nextTo) := goodIn_app (goodIn_of _ (by decide +kernel)) ggX1_neighboursWith_X1_nextTo
set_option maxRecDepth 20000 in
theorem ggX1_neighboursWith_X0_cellsWith : GoodIn wsX1_neighboursWith wsX0_cellsWith := goodIn_r _ [27, 28, 41, 42, 43, 44, 45, 46] (by decide +kernel) (by decide +kernel)
set_option maxRecDepth 20000 in
theorem gX1_neighboursWith_X0_cellsWith : GoodIn wsX1_neighboursWith (wsV RX1 90 RX0 yX0_cellsWith wsX0_cellsWith) := goodIn_app (goodIn_of _ (by decide +kernel)) ggX1_neighboursWith_X0_cellsWith
set_option maxRecDepth 20000 in
theorem ggX1_neighboursWith_J6_bitCount_0f7a4 : GoodIn wsX1_neighboursWith wsJ6_bitCount_0f7a4 := goodIn_r _ [32, 33, 34, 35] (by decide +kernel) (by decide +kernel)
set_option maxRecDepth 20000 in
theorem gX1_neighboursWith_J6_bitCount_0f7a4 : GoodIn wsX1_neighboursWith (va_wsS RX1 82 yJ6_bitCount_0f7a4 wsJ6_bitCount_0f7a4) := goodIn_app (goodIn_of _ (by decide +kernel)) ggX1_neighboursWith_J6_bitCount_0f7a4
set_option maxRecDepth 20000 in
theorem ggX1_nextColour_X1_isOnMap : GoodIn wsX1_nextColour wsX1_isOnMap := goodIn_r _ [8, 9, 10, 43, 44, 45, 46, 47] (by decide +kernel) (by decide +kernel)
set_option maxRecDepth 20000 in
theorem gX1_nextColour_X1_isOnMap : GoodIn wsX1_nextColour (wsV RX1 44 RX1 yX1_isOnMap wsX1_isOnMap) := goodIn_app (goodIn_of _ (by decide +kernel)) ggX1_nextColour_X1_isOnMap
set_option maxRecDepth 20000 in
theorem ggX1_nextColour_X0_foresee : GoodIn wsX1_nextColour wsX0_foresee := goodIn_r _ [15, 16, 17, 18, 19, 20, 21, 14, 22, 23, 24, 25, 26, 27, 28, 48, 49, 50, 51, 52, 53] (by decide +kernel) (by decide +kernel)
set_option maxRecDepth 20000 in
theorem gX1_nextColour_X0_foresee : GoodIn wsX1_nextColour (wsV RX1 93 RX0 yX0_foresee wsX0_foresee) := goodIn_app (goodIn_of _ (by decide +kernel)) ggX1_nextColour_X0_foresee
set_option maxRecDepth 20000 in
theorem ggX1_nextColour_X1_cell : GoodIn wsX1_nextColour wsX1_cell := goodIn_r _ [31] (by decide +kernel) (by decide +kernel)
set_option maxRecDepth 20000 in
theorem gX1_nextColour_X1_cell : GoodIn wsX1_nextColour (va_wsS RX1 56 yX1_cell wsX1_cell) := goodIn_app (goodIn_of _ (by decide +kernel)) ggX1_nextColour_X1_cell
set_option maxRecDepth 20000 in
theorem ggX1_nextColour_X0_foreseenColourOf : GoodIn wsX1_nextColour wsX0_foreseenColourOf := goodIn_r _ [35, 16, 36, 37, 14, 38, 39, 40, 41, 42, 18, 48, 49, 50, 51, 52, 53] (by decide +kernel) (by decide +kernel)
set_option maxRecDepth 20000 in
theorem gX1_nextColour_X0_foreseenColourOf : GoodIn wsX1_nextColour (wsV RX1 97 RX0 yX0_foreseenColourOf wsX0_foreseenColourOf) := goodIn_app (goodIn_of _ (by decide +kernel)) ggX1_nextColour_X0_foreseenColourOf
set_option maxRecDepth 20000 in
theorem ggX1_regionSize_X1_isOnMap : GoodIn wsX1_regionSize wsX1_isOnMap := goodIn_r _ [8, 9, 10, 43, 44, 45, 46, 47] (by decide +kernel) (by decide +kernel)
set_option maxRecDepth 20000 in
theorem gX1_regionSize_X1_isOnMap : GoodIn wsX1_regionSize (wsV RX1 44 RX1 yX1_isOnMap wsX1_isOnMap) := goodIn_app (goodIn_of _ (by decide +kernel)) ggX1_regionSize_X1_isOnMap
set_option maxRecDepth 20000 in
theorem ggX1_regionSize_X1_cell : GoodIn wsX1_regionSize wsX1_cell := goodIn_r _ [13] (by decide +kernel) (by decide +kernel)
set_option maxRecDepth 20000 in
theorem gX1_regionSize_X1_cell : GoodIn wsX1_regionSize (va_wsS RX1 56 yX1_cell wsX1_cell) := goodIn_app (goodIn_of _ (by decide +kernel)) ggX1_regionSize_X1_cell
set_option maxRecDepth 20000 in
theorem ggX1_regionSize_X0_sizeOfRegion : GoodIn wsX1_regionSize wsX0_sizeOfRegion := goodIn_r _ [18, 19, 20, 21, 17, 22, 23, 24, 25, 26, 27, 28, 29, 30, 31, 32, 33, 34, 7, 35, 36, 37, 38, 39, 40, 41, 42, 48, 49, 50, 51, 52, 53] (by decide +kernel) (by decide +kernel)
set_option maxRecDepth 20000 in
theorem gX1_regionSize_X0_sizeOfRegion : GoodIn wsX1_regionSize (wsV RX1 100 RX0 yX0_sizeOfRegion wsX0_sizeOfRegion) := goodIn_app (goodIn_of _ (by decide +kernel)) ggX1_regionSize_X0_sizeOfRegion
set_option maxRecDepth 20000 in
theorem ggX1_stubbornCells_J6_bitCount_0f7a4 : GoodIn wsX1_stubbornCells wsJ6_bitCount_0f7a4 := goodIn_r _ [6, 7, 8, 9] (by decide +kernel) (by decide +kernel)
set_option maxRecDepth 20000 in
theorem gX1_stubbornCells_J6_bitCount_0f7a4 : GoodIn wsX1_stubbornCells (va_wsS RX1 82 yJ6_bitCount_0f7a4 wsJ6_bitCount_0f7a4) := goodIn_app (goodIn_of _ (by decide +kernel)) ggX1_stubbornCells_J6_bitCount_0f7a4
set_option maxRecDepth 20000 in
theorem ggX1_cellsOf_X1_isColourOrBare : GoodIn wsX1_cellsOf wsX1_isColourOrBare := goodIn_r _ [7, 8, 9, 6, 10] (by decide +kernel) (by decide +kernel)
set_option maxRecDepth 20000 in
theorem gX1_cellsOf_X1_isColourOrBare : GoodIn wsX1_cellsOf (va_wsS RX1 48 yX1_isColourOrBare wsX1_isColourOrBare) := goodIn_app (goodIn_of _ (by decide +kernel)) ggX1_cellsOf_X1_isColourOrBare
set_option maxRecDepth 20000 in
theorem ggX1_cellsOf_X0_count : GoodIn wsX1_cellsOf wsX0_count := goodIn_r _ [15, 16, 17, 18, 14, 19, 20, 21, 22, 23, 24, 25, 26, 27, 33, 34, 35, 36, 37, 38] (by decide +kernel) (by decide +kernel)
set_option maxRecDepth 20000 in
theorem gX1_cellsOf_X0_count : GoodIn wsX1_cellsOf (wsV RX1 105 RX0 yX0_count wsX0_count) := goodIn_app (goodIn_of _ (by decide +kernel)) ggX1_cellsOf_X0_count
set_option maxRecDepth 20000 in
theorem ggX1_regionsOf_X1_isColour : GoodIn wsX1_regionsOf wsX1_isColour := goodIn_r _ [7] (by decide +kernel) (by decide +kernel)
set_option maxRecDepth 20000 in
theorem gX1_regionsOf_X1_isColour : GoodIn wsX1_regionsOf (va_wsS RX1 108 yX1_isColour wsX1_isColour) := goodIn_app (goodIn_of _ (by decide +kernel)) ggX1_regionsOf_X1_isColour
set_option maxRecDepth 20000 in
theorem ggX1_regionsOf_X0_countRegions : GoodIn wsX1_regionsOf wsX0_countRegions := goodIn_r _ [12, 13, 14, 15, 11, 16, 17, 18, 19, 20, 21, 6, 22, 28, 29, 30, 31, 32, 33] (by decide +kernel) (by decide +kernel)
set_option maxRecDepth 20000 in
theorem gX1_regionsOf_X0_countRegions : GoodIn wsX1_regionsOf (wsV RX1 111 RX0 yX0_countRegions wsX0_countRegions) := goodIn_app (goodIn_of _ (by decide +kernel)) ggX1_regionsOf_X0_countRegions
set_option maxRecDepth 20000 in
theorem ggX1_greatestRegion_X1_isColour : GoodIn wsX1_greatestRegion wsX1_isColour := goodIn_r _ [7] (by decide +kernel) (by decide +kernel)
set_option maxRecDepth 20000 in
theorem gX1_greatestRegion_X1_isColour : GoodIn wsX1_greatestRegion (va_wsS RX1 108 yX1_isColour wsX1_isColour) := goodIn_app (goodIn_of _ (by decide +kernel)) ggX1_greatestRegion_X1_isColour
set_option maxRecDepth 20000 in
theorem ggX1_greatestRegion_X0_sizeOfGreatestRegion : GoodIn wsX1_greatestRegion wsX0_sizeOfGreatestRegion := goodIn_r _ [12, 13, 14, 15, 16, 17, 18, 19, 11, 20, 21, 22, 23, 24, 25, 6, 26, 27, 28, 29, 30, 31, 32, 33, 39, 40, 41, 42, 43, 44] (by decide +kernel) (by decide +kernel)
set_option maxRecDepth 20000 in
theorem gX1_greatestRegion_X0_sizeOfGreatestRegion : GoodIn wsX1_greatestRegion (wsV RX1 114 RX0 yX0_sizeOfGreatestRegion wsX0_sizeOfGreatestRegion) := goodIn_app (goodIn_of _ (by decide +kernel)) ggX1_greatestRegion_X0_sizeOfGreatestRegion
set_option maxRecDepth 20000 in
theorem ggX1_borders_X0_countBorders : GoodIn wsX1_borders wsX0_countBorders := goodIn_r _ [6, 7, 8, 9, 10, 11, 5, 12, 13, 14, 15, 16, 17, 18, 19, 20, 21, 22, 28, 29, 30, 31, 32, 33] (by decide +kernel) (by decide +kernel)
set_option maxRecDepth 20000 in
theorem gX1_borders_X0_countBorders : GoodIn wsX1_borders (wsV RX1 117 RX0 yX0_countBorders wsX0_countBorders) := goodIn_app (goodIn_of _ (by decide +kernel)) ggX1_borders_X0_countBorders
set_option maxRecDepth 20000 in
theorem ggX1_leader_X0_count : GoodIn wsX1_leader wsX0_count := goodIn_r _ [6, 7, 8, 9, 5, 10, 11, 12, 13, 14, 15, 16, 17, 18, 24, 25, 26, 27, 28, 29] (by decide +kernel) (by decide +kernel)
set_option maxRecDepth 20000 in
theorem gX1_leader_X0_count : GoodIn wsX1_leader (wsV RX1 105 RX0 yX0_count wsX0_count) := goodIn_app (goodIn_of _ (by decide +kernel)) ggX1_leader_X0_count
set_option maxRecDepth 20000 in
theorem ggX1_isStill_X0_foresee : GoodIn wsX1_isStill wsX0_foresee := goodIn_r _ [6, 7, 8, 9, 10, 11, 12, 5, 13, 14, 15, 16, 17, 18, 19, 25, 26, 27, 28, 29, 30] (by decide +kernel) (by decide +kernel)
set_option maxRecDepth 20000 in
theorem gX1_isStill_X0_foresee : GoodIn wsX1_isStill (wsV RX1 93 RX0 yX0_foresee wsX0_foresee) := goodIn_app (goodIn_of _ (by decide +kernel)) ggX1_isStill_X0_foresee
set_option maxRecDepth 20000 in
theorem ggX1_winner_X0_isAll : GoodIn wsX1_winner wsX0_isAll := goodIn_r _ [6, 7, 8, 9, 10, 5, 11, 12, 18, 19, 20, 21, 22, 23] (by decide +kernel) (by decide +kernel)
set_option maxRecDepth 20000 in
theorem gX1_winner_X0_isAll : GoodIn wsX1_winner (wsV RX1 120 RX0 yX0_isAll wsX0_isAll) := goodIn_app (goodIn_of _ (by decide +kernel)) ggX1_winner_X0_isAll
set_option maxRecDepth 20000 in
theorem ggX1_share_X1_isColourOrBare : GoodIn wsX1_share wsX1_isColourOrBare := goodIn_r _ [9, 10, 11, 8, 12] (by decide +kernel) (by decide +kernel)
set_option maxRecDepth 20000 in
theorem gX1_share_X1_isColourOrBare : GoodIn wsX1_share (va_wsS RX1 48 yX1_isColourOrBare wsX1_isColourOrBare) := goodIn_app (goodIn_of _ (by decide +kernel)) ggX1_share_X1_isColourOrBare
set_option maxRecDepth 20000 in
theorem ggX1_share_X0_count : GoodIn wsX1_share wsX0_count := goodIn_r _ [17, 18, 19, 20, 16, 21, 22, 23, 24, 25, 26, 27, 28, 29, 35, 36, 37, 38, 39, 40] (by decide +kernel) (by decide +kernel)
set_option maxRecDepth 20000 in
theorem gX1_share_X0_count : GoodIn wsX1_share (wsV RX1 105 RX0 yX0_count wsX0_count) := goodIn_app (goodIn_of _ (by decide +kernel)) ggX1_share_X0_count
set_option maxRecDepth 20000 in
theorem ggX1_isColourOrBare_X1_isColour : GoodIn wsX1_isColourOrBare wsX1_isColour := goodIn_r _ [4] (by decide +kernel) (by decide +kernel)
set_option maxRecDepth 20000 in
theorem gX1_isColourOrBare_X1_isColour : GoodIn wsX1_isColourOrBare (va_wsS RX1 108 yX1_isColour wsX1_isColour) := goodIn_app (goodIn_of _ (by decide +kernel)) ggX1_isColourOrBare_X1_isColour
