theorem dX0_init_0 : decode cX0_init 0 = .ok (.aload_n 0, 1) := by decide +kernel
theorem dX0_init_1 : decode cX0_init 1 = .ok (.invokespecial 3, 3) := by decide +kernel
theorem dX0_init_4 : decode cX0_init 4 = .ok (.aload_n 0, 1) := by decide +kernel
theorem dX0_init_5 : decode cX0_init 5 = .ok (.iconst 2, 1) := by decide +kernel
theorem dX0_init_6 : decode cX0_init 6 = .ok (.putfield 9, 3) := by decide +kernel
theorem dX0_init_9 : decode cX0_init 9 = .ok (.aload_n 0, 1) := by decide +kernel
theorem dX0_init_10 : decode cX0_init 10 = .ok (.iconst 5, 1) := by decide +kernel
theorem dX0_init_11 : decode cX0_init 11 = .ok (.newarray .int, 2) := by decide +kernel
theorem dX0_init_13 : decode cX0_init 13 = .ok (.putfield 15, 3) := by decide +kernel
theorem dX0_init_16 : decode cX0_init 16 = .ok (.aload_n 0, 1) := by decide +kernel
theorem dX0_init_17 : decode cX0_init 17 = .ok (.iconst 5, 1) := by decide +kernel
theorem dX0_init_18 : decode cX0_init 18 = .ok (.newarray .int, 2) := by decide +kernel
theorem dX0_init_20 : decode cX0_init 20 = .ok (.putfield 19, 3) := by decide +kernel
theorem dX0_init_23 : decode cX0_init 23 = .ok (.aload_n 0, 1) := by decide +kernel
theorem dX0_init_24 : decode cX0_init 24 = .ok (.iconst 5, 1) := by decide +kernel
theorem dX0_init_25 : decode cX0_init 25 = .ok (.newarray .int, 2) := by decide +kernel
theorem dX0_init_27 : decode cX0_init 27 = .ok (.putfield 22, 3) := by decide +kernel
theorem dX0_init_30 : decode cX0_init 30 = .ok (.return_, 1) := by decide +kernel
set_option maxRecDepth 20000 in
theorem ggX0_clear_X1_cell : GoodIn wsX0_clear wsX1_cell := goodIn_r _ [6] (by decide +kernel) (by decide +kernel)
set_option maxRecDepth 20000 in
theorem gX0_clear_X1_cell_n28 : GoodIn wsX0_clear (wsX1_cell) := ggX0_clear_X1_cell
theorem dX0_clear_0 : decode cX0_clear 0 = .ok (.aload_n 0, 1) := by decide +kernel
theorem dX0_clear_1 : decode cX0_clear 1 = .ok (.iconst 0, 1) := by decide +kernel
theorem dX0_clear_2 : decode cX0_clear 2 = .ok (.putfield 25, 3) := by decide +kernel
theorem dX0_clear_5 : decode cX0_clear 5 = .ok (.iconst 0, 1) := by decide +kernel
theorem dX0_clear_6 : decode cX0_clear 6 = .ok (.istore_n 3, 1) := by decide +kernel
theorem dX0_clear_7 : decode cX0_clear 7 = .ok (.iload_n 3, 1) := by decide +kernel
theorem dX0_clear_8 : decode cX0_clear 8 = .ok (.iload_n 2, 1) := by decide +kernel
theorem dX0_clear_9 : decode cX0_clear 9 = .ok (.if_icmp .ge 39, 3) := by decide +kernel
theorem dX0_clear_12 : decode cX0_clear 12 = .ok (.iconst 0, 1) := by decide +kernel
theorem dX0_clear_13 : decode cX0_clear 13 = .ok (.istore 4, 2) := by decide +kernel
theorem dX0_clear_15 : decode cX0_clear 15 = .ok (.iload 4, 2) := by decide +kernel
theorem dX0_clear_17 : decode cX0_clear 17 = .ok (.iload_n 1, 1) := by decide +kernel
theorem dX0_clear_18 : decode cX0_clear 18 = .ok (.if_icmp .ge 24, 3) := by decide +kernel
theorem dX0_clear_21 : decode cX0_clear 21 = .ok (.aload_n 0, 1) := by decide +kernel
theorem dX0_clear_22 : decode cX0_clear 22 = .ok (.dup, 1) := by decide +kernel
theorem dX0_clear_23 : decode cX0_clear 23 = .ok (.getfield 25, 3) := by decide +kernel
theorem dX0_clear_26 : decode cX0_clear 26 = .ok (.iload 4, 2) := by decide +kernel
theorem dX0_clear_28 : decode cX0_clear 28 = .ok (.iload_n 3, 1) := by decide +kernel
theorem dX0_clear_29 : decode cX0_clear 29 = .ok (.invokestatic 28, 3) := by decide +kernel
theorem dX0_clear_32 : decode cX0_clear 32 = .ok (.ior, 1) := by decide +kernel
theorem dX0_clear_33 : decode cX0_clear 33 = .ok (.putfield 25, 3) := by decide +kernel
theorem dX0_clear_36 : decode cX0_clear 36 = .ok (.iinc 4 1, 3) := by decide +kernel
theorem dX0_clear_39 : decode cX0_clear 39 = .ok (.goto (-24), 3) := by decide +kernel
theorem dX0_clear_42 : decode cX0_clear 42 = .ok (.iinc 3 1, 3) := by decide +kernel
theorem dX0_clear_45 : decode cX0_clear 45 = .ok (.goto (-38), 3) := by decide +kernel
theorem dX0_clear_48 : decode cX0_clear 48 = .ok (.aload_n 0, 1) := by decide +kernel
theorem dX0_clear_49 : decode cX0_clear 49 = .ok (.iconst 0, 1) := by decide +kernel
theorem dX0_clear_50 : decode cX0_clear 50 = .ok (.putfield 32, 3) := by decide +kernel
theorem dX0_clear_53 : decode cX0_clear 53 = .ok (.iconst 0, 1) := by decide +kernel
theorem dX0_clear_54 : decode cX0_clear 54 = .ok (.istore_n 3, 1) := by decide +kernel
theorem dX0_clear_55 : decode cX0_clear 55 = .ok (.iload_n 3, 1) := by decide +kernel
theorem dX0_clear_56 : decode cX0_clear 56 = .ok (.iconst 5, 1) := by decide +kernel
theorem dX0_clear_57 : decode cX0_clear 57 = .ok (.if_icmp .ge 27, 3) := by decide +kernel
theorem dX0_clear_60 : decode cX0_clear 60 = .ok (.aload_n 0, 1) := by decide +kernel
theorem dX0_clear_61 : decode cX0_clear 61 = .ok (.getfield 15, 3) := by decide +kernel
theorem dX0_clear_64 : decode cX0_clear 64 = .ok (.iload_n 3, 1) := by decide +kernel
theorem dX0_clear_65 : decode cX0_clear 65 = .ok (.iload_n 3, 1) := by decide +kernel
theorem dX0_clear_66 : decode cX0_clear 66 = .ok (.ifCond .ne 10, 3) := by decide +kernel
theorem dX0_clear_69 : decode cX0_clear 69 = .ok (.aload_n 0, 1) := by decide +kernel
theorem dX0_clear_70 : decode cX0_clear 70 = .ok (.getfield 25, 3) := by decide +kernel
theorem dX0_clear_73 : decode cX0_clear 73 = .ok (.goto 4, 3) := by decide +kernel
theorem dX0_clear_76 : decode cX0_clear 76 = .ok (.iconst 0, 1) := by decide +kernel
theorem dX0_clear_77 : decode cX0_clear 77 = .ok (.iastore, 1) := by decide +kernel
theorem dX0_clear_78 : decode cX0_clear 78 = .ok (.iinc 3 1, 3) := by decide +kernel
theorem dX0_clear_81 : decode cX0_clear 81 = .ok (.goto (-26), 3) := by decide +kernel
theorem dX0_clear_84 : decode cX0_clear 84 = .ok (.return_, 1) := by decide +kernel
theorem dX0_copyFrom_0 : decode cX0_copyFrom 0 = .ok (.aload_n 0, 1) := by decide +kernel
theorem dX0_copyFrom_1 : decode cX0_copyFrom 1 = .ok (.aload_n 1, 1) := by decide +kernel
theorem dX0_copyFrom_2 : decode cX0_copyFrom 2 = .ok (.getfield 25, 3) := by decide +kernel
theorem dX0_copyFrom_5 : decode cX0_copyFrom 5 = .ok (.putfield 25, 3) := by decide +kernel
theorem dX0_copyFrom_8 : decode cX0_copyFrom 8 = .ok (.aload_n 0, 1) := by decide +kernel
theorem dX0_copyFrom_9 : decode cX0_copyFrom 9 = .ok (.aload_n 1, 1) := by decide +kernel
theorem dX0_copyFrom_10 : decode cX0_copyFrom 10 = .ok (.getfield 32, 3) := by decide +kernel
theorem dX0_copyFrom_13 : decode cX0_copyFrom 13 = .ok (.putfield 32, 3) := by decide +kernel
theorem dX0_copyFrom_16 : decode cX0_copyFrom 16 = .ok (.aload_n 0, 1) := by decide +kernel
theorem dX0_copyFrom_17 : decode cX0_copyFrom 17 = .ok (.aload_n 1, 1) := by decide +kernel
theorem dX0_copyFrom_18 : decode cX0_copyFrom 18 = .ok (.getfield 9, 3) := by decide +kernel
theorem dX0_copyFrom_21 : decode cX0_copyFrom 21 = .ok (.putfield 9, 3) := by decide +kernel
theorem dX0_copyFrom_24 : decode cX0_copyFrom 24 = .ok (.iconst 0, 1) := by decide +kernel
theorem dX0_copyFrom_25 : decode cX0_copyFrom 25 = .ok (.istore_n 2, 1) := by decide +kernel
theorem dX0_copyFrom_26 : decode cX0_copyFrom 26 = .ok (.iload_n 2, 1) := by decide +kernel
theorem dX0_copyFrom_27 : decode cX0_copyFrom 27 = .ok (.iconst 5, 1) := by decide +kernel
theorem dX0_copyFrom_28 : decode cX0_copyFrom 28 = .ok (.if_icmp .ge 21, 3) := by decide +kernel
theorem dX0_copyFrom_31 : decode cX0_copyFrom 31 = .ok (.aload_n 0, 1) := by decide +kernel
theorem dX0_copyFrom_32 : decode cX0_copyFrom 32 = .ok (.getfield 15, 3) := by decide +kernel
theorem dX0_copyFrom_35 : decode cX0_copyFrom 35 = .ok (.iload_n 2, 1) := by decide +kernel
theorem dX0_copyFrom_36 : decode cX0_copyFrom 36 = .ok (.aload_n 1, 1) := by decide +kernel
theorem dX0_copyFrom_37 : decode cX0_copyFrom 37 = .ok (.getfield 15, 3) := by decide +kernel
theorem dX0_copyFrom_40 : decode cX0_copyFrom 40 = .ok (.iload_n 2, 1) := by decide +kernel
theorem dX0_copyFrom_41 : decode cX0_copyFrom 41 = .ok (.iaload, 1) := by decide +kernel
theorem dX0_copyFrom_42 : decode cX0_copyFrom 42 = .ok (.iastore, 1) := by decide +kernel
theorem dX0_copyFrom_43 : decode cX0_copyFrom 43 = .ok (.iinc 2 1, 3) := by decide +kernel
theorem dX0_copyFrom_46 : decode cX0_copyFrom 46 = .ok (.goto (-20), 3) := by decide +kernel
theorem dX0_copyFrom_49 : decode cX0_copyFrom 49 = .ok (.return_, 1) := by decide +kernel
theorem dX0_cellsWith_0 : decode cX0_cellsWith 0 = .ok (.iload_n 1, 1) := by decide +kernel
theorem dX0_cellsWith_1 : decode cX0_cellsWith 1 = .ok (.ifCond .lt 17, 3) := by decide +kernel
theorem dX0_cellsWith_4 : decode cX0_cellsWith 4 = .ok (.iload_n 1, 1) := by decide +kernel
theorem dX0_cellsWith_5 : decode cX0_cellsWith 5 = .ok (.iconst 5, 1) := by decide +kernel
theorem dX0_cellsWith_6 : decode cX0_cellsWith 6 = .ok (.if_icmp .ge 12, 3) := by decide +kernel
theorem dX0_cellsWith_9 : decode cX0_cellsWith 9 = .ok (.aload_n 0, 1) := by decide +kernel
theorem dX0_cellsWith_10 : decode cX0_cellsWith 10 = .ok (.getfield 15, 3) := by decide +kernel
theorem dX0_cellsWith_13 : decode cX0_cellsWith 13 = .ok (.iload_n 1, 1) := by decide +kernel
theorem dX0_cellsWith_14 : decode cX0_cellsWith 14 = .ok (.iaload, 1) := by decide +kernel
theorem dX0_cellsWith_15 : decode cX0_cellsWith 15 = .ok (.goto 4, 3) := by decide +kernel
theorem dX0_cellsWith_18 : decode cX0_cellsWith 18 = .ok (.iconst 0, 1) := by decide +kernel
theorem dX0_cellsWith_19 : decode cX0_cellsWith 19 = .ok (.ireturn, 1) := by decide +kernel
set_option maxRecDepth 20000 in
theorem ggX0_count_X0_cellsWith : GoodIn wsX0_count wsX0_cellsWith := goodIn_r _ [5, 6, 14, 15, 16, 17, 18, 19] (by decide +kernel) (by decide +kernel)
set_option maxRecDepth 20000 in
theorem gX0_count_X0_cellsWith : GoodIn wsX0_count (wsV RX0 35 RX0 yX0_cellsWith wsX0_cellsWith) := goodIn_app (goodIn_of _ (by decide +kernel)) ggX0_count_X0_cellsWith
set_option maxRecDepth 20000 in
theorem ggX0_count_J6_bitCount_0f7a4 : GoodIn wsX0_count wsJ6_bitCount_0f7a4 := goodIn_r _ [10, 11, 12, 13] (by decide +kernel) (by decide +kernel)
set_option maxRecDepth 20000 in
theorem gX0_count_J6_bitCount_0f7a4 : GoodIn wsX0_count (va_wsS RX0 39 yJ6_bitCount_0f7a4 wsJ6_bitCount_0f7a4) := goodIn_app (goodIn_of _ (by decide +kernel)) ggX0_count_J6_bitCount_0f7a4
theorem dX0_count_0 : decode cX0_count 0 = .ok (.aload_n 0, 1) := by decide +kernel
theorem dX0_count_1 : decode cX0_count 1 = .ok (.iload_n 1, 1) := by decide +kernel
theorem dX0_count_2 : decode cX0_count 2 = .ok (.invokevirtual 35, 3) := by decide +kernel
theorem dX0_count_5 : decode cX0_count 5 = .ok (.invokestatic 39, 3) := by decide +kernel
theorem dX0_count_8 : decode cX0_count 8 = .ok (.ireturn, 1) := by decide +kernel
set_option maxRecDepth 20000 in
theorem ggX0_isAll_X0_cellsWith : GoodIn wsX0_isAll wsX0_cellsWith := goodIn_r _ [6, 7, 8, 9, 10, 11, 12, 13] (by decide +kernel) (by decide +kernel)
set_option maxRecDepth 20000 in
theorem gX0_isAll_X0_cellsWith : GoodIn wsX0_isAll (wsV RX0 35 RX0 yX0_cellsWith wsX0_cellsWith) := goodIn_app (goodIn_of _ (by decide +kernel)) ggX0_isAll_X0_cellsWith
theorem dX0_isAll_0 : decode cX0_isAll 0 = .ok (.aload_n 0, 1) := by decide +kernel
theorem dX0_isAll_1 : decode cX0_isAll 1 = .ok (.iload_n 1, 1) := by decide +kernel
theorem dX0_isAll_2 : decode cX0_isAll 2 = .ok (.invokevirtual 35, 3) := by decide +kernel
theorem dX0_isAll_5 : decode cX0_isAll 5 = .ok (.aload_n 0, 1) := by decide +kernel
theorem dX0_isAll_6 : decode cX0_isAll 6 = .ok (.getfield 25, 3) := by decide +kernel
theorem dX0_isAll_9 : decode cX0_isAll 9 = .ok (.if_icmp .ne 7, 3) := by decide +kernel
theorem dX0_isAll_12 : decode cX0_isAll 12 = .ok (.iconst 1, 1) := by decide +kernel
theorem dX0_isAll_13 : decode cX0_isAll 13 = .ok (.goto 4, 3) := by decide +kernel
theorem dX0_isAll_16 : decode cX0_isAll 16 = .ok (.iconst 0, 1) := by decide +kernel
theorem dX0_isAll_17 : decode cX0_isAll 17 = .ok (.ireturn, 1) := by decide +kernel
set_option maxRecDepth 20000 in
theorem ggX0_colourOf_X0_firstColourWith : GoodIn wsX0_colourOf wsX0_firstColourWith := goodIn_r _ [5] (by decide +kernel) (by decide +kernel)
set_option maxRecDepth 20000 in
theorem gX0_colourOf_X0_firstColourWith : GoodIn wsX0_colourOf (va_wsS RX0 44 yX0_firstColourWith wsX0_firstColourWith) := goodIn_app (goodIn_of _ (by decide +kernel)) ggX0_colourOf_X0_firstColourWith
theorem dX0_colourOf_0 : decode cX0_colourOf 0 = .ok (.iload_n 1, 1) := by decide +kernel
theorem dX0_colourOf_1 : decode cX0_colourOf 1 = .ok (.aload_n 0, 1) := by decide +kernel
theorem dX0_colourOf_2 : decode cX0_colourOf 2 = .ok (.getfield 15, 3) := by decide +kernel
theorem dX0_colourOf_5 : decode cX0_colourOf 5 = .ok (.invokestatic 44, 3) := by decide +kernel
theorem dX0_colourOf_8 : decode cX0_colourOf 8 = .ok (.ireturn, 1) := by decide +kernel
theorem dX0_dye_0 : decode cX0_dye 0 = .ok (.iconst 0, 1) := by decide +kernel
theorem dX0_dye_1 : decode cX0_dye 1 = .ok (.istore_n 3, 1) := by decide +kernel
theorem dX0_dye_2 : decode cX0_dye 2 = .ok (.iload_n 3, 1) := by decide +kernel
theorem dX0_dye_3 : decode cX0_dye 3 = .ok (.iconst 5, 1) := by decide +kernel
theorem dX0_dye_4 : decode cX0_dye 4 = .ok (.if_icmp .ge 41, 3) := by decide +kernel
theorem dX0_dye_7 : decode cX0_dye 7 = .ok (.aload_n 0, 1) := by decide +kernel
theorem dX0_dye_8 : decode cX0_dye 8 = .ok (.getfield 15, 3) := by decide +kernel
theorem dX0_dye_11 : decode cX0_dye 11 = .ok (.iload_n 3, 1) := by decide +kernel
theorem dX0_dye_12 : decode cX0_dye 12 = .ok (.iload_n 3, 1) := by decide +kernel
theorem dX0_dye_13 : decode cX0_dye 13 = .ok (.iload_n 2, 1) := by decide +kernel
theorem dX0_dye_14 : decode cX0_dye 14 = .ok (.if_icmp .ne 14, 3) := by decide +kernel
theorem dX0_dye_17 : decode cX0_dye 17 = .ok (.aload_n 0, 1) := by decide +kernel
theorem dX0_dye_18 : decode cX0_dye 18 = .ok (.getfield 15, 3) := by decide +kernel
theorem dX0_dye_21 : decode cX0_dye 21 = .ok (.iload_n 3, 1) := by decide +kernel
theorem dX0_dye_22 : decode cX0_dye 22 = .ok (.iaload, 1) := by decide +kernel
theorem dX0_dye_23 : decode cX0_dye 23 = .ok (.iload_n 1, 1) := by decide +kernel
theorem dX0_dye_24 : decode cX0_dye 24 = .ok (.ior, 1) := by decide +kernel
theorem dX0_dye_25 : decode cX0_dye 25 = .ok (.goto 13, 3) := by decide +kernel
theorem dX0_dye_28 : decode cX0_dye 28 = .ok (.aload_n 0, 1) := by decide +kernel
theorem dX0_dye_29 : decode cX0_dye 29 = .ok (.getfield 15, 3) := by decide +kernel
theorem dX0_dye_32 : decode cX0_dye 32 = .ok (.iload_n 3, 1) := by decide +kernel
theorem dX0_dye_33 : decode cX0_dye 33 = .ok (.iaload, 1) := by decide +kernel
theorem dX0_dye_34 : decode cX0_dye 34 = .ok (.iload_n 1, 1) := by decide +kernel
theorem dX0_dye_35 : decode cX0_dye 35 = .ok (.iconst (-1), 1) := by decide +kernel
theorem dX0_dye_36 : decode cX0_dye 36 = .ok (.ixor, 1) := by decide +kernel
theorem dX0_dye_37 : decode cX0_dye 37 = .ok (.iand, 1) := by decide +kernel
theorem dX0_dye_38 : decode cX0_dye 38 = .ok (.iastore, 1) := by decide +kernel
theorem dX0_dye_39 : decode cX0_dye 39 = .ok (.iinc 3 1, 3) := by decide +kernel
theorem dX0_dye_42 : decode cX0_dye 42 = .ok (.goto (-40), 3) := by decide +kernel
theorem dX0_dye_45 : decode cX0_dye 45 = .ok (.return_, 1) := by decide +kernel
set_option maxRecDepth 20000 in
theorem ggX0_surge_X0_foresee : GoodIn wsX0_surge wsX0_foresee := goodIn_r _ [5, 6, 7, 8, 9, 10, 11, 4, 12, 13, 14, 15, 16, 17, 18, 23, 24, 25, 26, 27, 28] (by decide +kernel) (by decide +kernel)
set_option maxRecDepth 20000 in
theorem gX0_surge_X0_foresee : GoodIn wsX0_surge (wsV RX0 48 RX0 yX0_foresee wsX0_foresee) := goodIn_app (goodIn_of _ (by decide +kernel)) ggX0_surge_X0_foresee
set_option maxRecDepth 20000 in
theorem ggX0_surge_X0_takeGains : GoodIn wsX0_surge wsX0_takeGains := goodIn_r _ [22, 8, 6, 23, 24, 25, 26, 27, 28] (by decide +kernel) (by decide +kernel)
set_option maxRecDepth 20000 in
theorem gX0_surge_X0_takeGains : GoodIn wsX0_surge (wsV RX0 52 RX0 yX0_takeGains wsX0_takeGains) := goodIn_app (goodIn_of _ (by decide +kernel)) ggX0_surge_X0_takeGains
theorem dX0_surge_0 : decode cX0_surge 0 = .ok (.iconst 0, 1) := by decide +kernel
theorem dX0_surge_1 : decode cX0_surge 1 = .ok (.istore_n 2, 1) := by decide +kernel
theorem dX0_surge_2 : decode cX0_surge 2 = .ok (.iconst 0, 1) := by decide +kernel
theorem dX0_surge_3 : decode cX0_surge 3 = .ok (.istore_n 3, 1) := by decide +kernel
theorem dX0_surge_4 : decode cX0_surge 4 = .ok (.iload_n 3, 1) := by decide +kernel
theorem dX0_surge_5 : decode cX0_surge 5 = .ok (.iload_n 1, 1) := by decide +kernel
theorem dX0_surge_6 : decode cX0_surge 6 = .ok (.if_icmp .ge 25, 3) := by decide +kernel
theorem dX0_surge_9 : decode cX0_surge 9 = .ok (.aload_n 0, 1) := by decide +kernel
theorem dX0_surge_10 : decode cX0_surge 10 = .ok (.invokevirtual 48, 3) := by decide +kernel
theorem dX0_surge_13 : decode cX0_surge 13 = .ok (.istore_n 2, 1) := by decide +kernel
theorem dX0_surge_14 : decode cX0_surge 14 = .ok (.iload_n 2, 1) := by decide +kernel
theorem dX0_surge_15 : decode cX0_surge 15 = .ok (.ifCond .ne 5, 3) := by decide +kernel
theorem dX0_surge_18 : decode cX0_surge 18 = .ok (.iconst 0, 1) := by decide +kernel
theorem dX0_surge_19 : decode cX0_surge 19 = .ok (.ireturn, 1) := by decide +kernel
theorem dX0_surge_20 : decode cX0_surge 20 = .ok (.aload_n 0, 1) := by decide +kernel
theorem dX0_surge_21 : decode cX0_surge 21 = .ok (.iload_n 2, 1) := by decide +kernel
theorem dX0_surge_22 : decode cX0_surge 22 = .ok (.invokevirtual 52, 3) := by decide +kernel
theorem dX0_surge_25 : decode cX0_surge 25 = .ok (.iinc 3 1, 3) := by decide +kernel
theorem dX0_surge_28 : decode cX0_surge 28 = .ok (.goto (-24), 3) := by decide +kernel
theorem dX0_surge_31 : decode cX0_surge 31 = .ok (.iload_n 2, 1) := by decide +kernel
theorem dX0_surge_32 : decode cX0_surge 32 = .ok (.ireturn, 1) := by decide +kernel
set_option maxRecDepth 20000 in
theorem ggX0_foresee_X0_addGains : GoodIn wsX0_foresee wsX0_addGains := goodIn_r _ [8, 9, 3, 1, 10, 11, 12, 13, 7, 14, 15, 16, 17, 18, 19, 20] (by decide +kernel) (by decide +kernel)
set_option maxRecDepth 20000 in
theorem gX0_foresee_X0_addGains : GoodIn wsX0_foresee (wsV RX0 56 RX0 yX0_addGains wsX0_addGains) := goodIn_app (goodIn_of _ (by decide +kernel)) ggX0_foresee_X0_addGains
theorem dX0_foresee_0 : decode cX0_foresee 0 = .ok (.iconst 0, 1) := by decide +kernel
theorem dX0_foresee_1 : decode cX0_foresee 1 = .ok (.istore_n 1, 1) := by decide +kernel
theorem dX0_foresee_2 : decode cX0_foresee 2 = .ok (.iload_n 1, 1) := by decide +kernel
theorem dX0_foresee_3 : decode cX0_foresee 3 = .ok (.iconst 5, 1) := by decide +kernel
theorem dX0_foresee_4 : decode cX0_foresee 4 = .ok (.if_icmp .ge 16, 3) := by decide +kernel
theorem dX0_foresee_7 : decode cX0_foresee 7 = .ok (.aload_n 0, 1) := by decide +kernel
theorem dX0_foresee_8 : decode cX0_foresee 8 = .ok (.getfield 22, 3) := by decide +kernel
theorem dX0_foresee_11 : decode cX0_foresee 11 = .ok (.iload_n 1, 1) := by decide +kernel
theorem dX0_foresee_12 : decode cX0_foresee 12 = .ok (.iconst 0, 1) := by decide +kernel
theorem dX0_foresee_13 : decode cX0_foresee 13 = .ok (.iastore, 1) := by decide +kernel
theorem dX0_foresee_14 : decode cX0_foresee 14 = .ok (.iinc 1 1, 3) := by decide +kernel
theorem dX0_foresee_17 : decode cX0_foresee 17 = .ok (.goto (-15), 3) := by decide +kernel
theorem dX0_foresee_20 : decode cX0_foresee 20 = .ok (.aload_n 0, 1) := by decide +kernel
theorem dX0_foresee_21 : decode cX0_foresee 21 = .ok (.getfield 9, 3) := by decide +kernel
theorem dX0_foresee_24 : decode cX0_foresee 24 = .ok (.istore_n 1, 1) := by decide +kernel
theorem dX0_foresee_25 : decode cX0_foresee 25 = .ok (.iload_n 1, 1) := by decide +kernel
theorem dX0_foresee_26 : decode cX0_foresee 26 = .ok (.iconst 4, 1) := by decide +kernel
theorem dX0_foresee_27 : decode cX0_foresee 27 = .ok (.if_icmp .gt 14, 3) := by decide +kernel
theorem dX0_foresee_30 : decode cX0_foresee 30 = .ok (.aload_n 0, 1) := by decide +kernel
theorem dX0_foresee_31 : decode cX0_foresee 31 = .ok (.iload_n 1, 1) := by decide +kernel
theorem dX0_foresee_32 : decode cX0_foresee 32 = .ok (.invokevirtual 56, 3) := by decide +kernel
theorem dX0_foresee_35 : decode cX0_foresee 35 = .ok (.iinc 1 1, 3) := by decide +kernel
theorem dX0_foresee_38 : decode cX0_foresee 38 = .ok (.goto (-13), 3) := by decide +kernel
theorem dX0_foresee_41 : decode cX0_foresee 41 = .ok (.iconst 0, 1) := by decide +kernel
theorem dX0_foresee_42 : decode cX0_foresee 42 = .ok (.istore_n 1, 1) := by decide +kernel
theorem dX0_foresee_43 : decode cX0_foresee 43 = .ok (.iconst 1, 1) := by decide +kernel
theorem dX0_foresee_44 : decode cX0_foresee 44 = .ok (.istore_n 2, 1) := by decide +kernel
theorem dX0_foresee_45 : decode cX0_foresee 45 = .ok (.iload_n 2, 1) := by decide +kernel
theorem dX0_foresee_46 : decode cX0_foresee 46 = .ok (.iconst 5, 1) := by decide +kernel
theorem dX0_foresee_47 : decode cX0_foresee 47 = .ok (.if_icmp .ge 27, 3) := by decide +kernel
theorem dX0_foresee_50 : decode cX0_foresee 50 = .ok (.iload_n 1, 1) := by decide +kernel
theorem dX0_foresee_51 : decode cX0_foresee 51 = .ok (.aload_n 0, 1) := by decide +kernel
theorem dX0_foresee_52 : decode cX0_foresee 52 = .ok (.getfield 22, 3) := by decide +kernel
theorem dX0_foresee_55 : decode cX0_foresee 55 = .ok (.iload_n 2, 1) := by decide +kernel
theorem dX0_foresee_56 : decode cX0_foresee 56 = .ok (.iaload, 1) := by decide +kernel
theorem dX0_foresee_57 : decode cX0_foresee 57 = .ok (.aload_n 0, 1) := by decide +kernel
theorem dX0_foresee_58 : decode cX0_foresee 58 = .ok (.getfield 15, 3) := by decide +kernel
theorem dX0_foresee_61 : decode cX0_foresee 61 = .ok (.iload_n 2, 1) := by decide +kernel
theorem dX0_foresee_62 : decode cX0_foresee 62 = .ok (.iaload, 1) := by decide +kernel
theorem dX0_foresee_63 : decode cX0_foresee 63 = .ok (.iconst (-1), 1) := by decide +kernel
theorem dX0_foresee_64 : decode cX0_foresee 64 = .ok (.ixor, 1) := by decide +kernel
theorem dX0_foresee_65 : decode cX0_foresee 65 = .ok (.iand, 1) := by decide +kernel
theorem dX0_foresee_66 : decode cX0_foresee 66 = .ok (.ior, 1) := by decide +kernel
theorem dX0_foresee_67 : decode cX0_foresee 67 = .ok (.istore_n 1, 1) := by decide +kernel
theorem dX0_foresee_68 : decode cX0_foresee 68 = .ok (.iinc 2 1, 3) := by decide +kernel
theorem dX0_foresee_71 : decode cX0_foresee 71 = .ok (.goto (-26), 3) := by decide +kernel
theorem dX0_foresee_74 : decode cX0_foresee 74 = .ok (.iload_n 1, 1) := by decide +kernel
theorem dX0_foresee_75 : decode cX0_foresee 75 = .ok (.ireturn, 1) := by decide +kernel
set_option maxRecDepth 20000 in
theorem ggX0_foreseenColourOf_X0_firstColourWith : GoodIn wsX0_foreseenColourOf wsX0_firstColourWith := goodIn_r _ [5] (by decide +kernel) (by decide +kernel)
set_option maxRecDepth 20000 in
theorem gX0_foreseenColourOf_X0_firstColourWith : GoodIn wsX0_foreseenColourOf (va_wsS RX0 44 yX0_firstColourWith wsX0_firstColourWith) := goodIn_app (goodIn_of _ (by decide +kernel)) ggX0_foreseenColourOf_X0_firstColourWith
set_option maxRecDepth 20000 in
theorem ggX0_foreseenColourOf_X0_colourOf : GoodIn wsX0_foreseenColourOf wsX0_colourOf := goodIn_r _ [9, 10, 2, 3, 4, 5, 11, 12, 13, 14, 15, 16] (by decide +kernel) (by decide +kernel)
set_option maxRecDepth 20000 in
theorem gX0_foreseenColourOf_X0_colourOf : GoodIn wsX0_foreseenColourOf (wsV RX0 59 RX0 yX0_colourOf wsX0_colourOf) := goodIn_app (goodIn_of _ (by decide +kernel)) ggX0_foreseenColourOf_X0_colourOf
theorem dX0_foreseenColourOf_0 : decode cX0_foreseenColourOf 0 = .ok (.iload_n 1, 1) := by decide +kernel
theorem dX0_foreseenColourOf_1 : decode cX0_foreseenColourOf 1 = .ok (.aload_n 0, 1) := by decide +kernel
theorem dX0_foreseenColourOf_2 : decode cX0_foreseenColourOf 2 = .ok (.getfield 22, 3) := by decide +kernel
theorem dX0_foreseenColourOf_5 : decode cX0_foreseenColourOf 5 = .ok (.invokestatic 44, 3) := by decide +kernel
theorem dX0_foreseenColourOf_8 : decode cX0_foreseenColourOf 8 = .ok (.istore_n 2, 1) := by decide +kernel
theorem dX0_foreseenColourOf_9 : decode cX0_foreseenColourOf 9 = .ok (.iload_n 2, 1) := by decide +kernel
theorem dX0_foreseenColourOf_10 : decode cX0_foreseenColourOf 10 = .ok (.ifCond .ne 11, 3) := by decide +kernel
theorem dX0_foreseenColourOf_13 : decode cX0_foreseenColourOf 13 = .ok (.aload_n 0, 1) := by decide +kernel
theorem dX0_foreseenColourOf_14 : decode cX0_foreseenColourOf 14 = .ok (.iload_n 1, 1) := by decide +kernel
theorem dX0_foreseenColourOf_15 : decode cX0_foreseenColourOf 15 = .ok (.invokevirtual 59, 3) := by decide +kernel
theorem dX0_foreseenColourOf_18 : decode cX0_foreseenColourOf 18 = .ok (.goto 4, 3) := by decide +kernel
theorem dX0_foreseenColourOf_21 : decode cX0_foreseenColourOf 21 = .ok (.iload_n 2, 1) := by decide +kernel
theorem dX0_foreseenColourOf_22 : decode cX0_foreseenColourOf 22 = .ok (.ireturn, 1) := by decide +kernel
set_option maxRecDepth 20000 in
theorem ggX0_sizeOfRegion_X0_colourOf : GoodIn wsX0_sizeOfRegion wsX0_colourOf := goodIn_r _ [5, 6, 7, 8, 4, 9, 27, 28, 29, 30, 31, 32] (by decide +kernel) (by decide +kernel)
set_option maxRecDepth 20000 in
theorem gX0_sizeOfRegion_X0_colourOf : GoodIn wsX0_sizeOfRegion (wsV RX0 59 RX0 yX0_colourOf wsX0_colourOf) := goodIn_app (goodIn_of _ (by decide +kernel)) ggX0_sizeOfRegion_X0_colourOf
set_option maxRecDepth 20000 in
theorem ggX0_sizeOfRegion_X0_cellsWith : GoodIn wsX0_sizeOfRegion wsX0_cellsWith := goodIn_r _ [13, 6, 27, 28, 29, 30, 31, 32] (by decide +kernel) (by decide +kernel)
set_option maxRecDepth 20000 in
theorem gX0_sizeOfRegion_X0_cellsWith : GoodIn wsX0_sizeOfRegion (wsV RX0 35 RX0 yX0_cellsWith wsX0_cellsWith) := goodIn_app (goodIn_of _ (by decide +kernel)) ggX0_sizeOfRegion_X0_cellsWith
set_option maxRecDepth 20000 in
theorem ggX0_sizeOfRegion_X0_regionFrom : GoodIn wsX0_sizeOfRegion wsX0_regionFrom := goodIn_r _ [16, 17, 18, 19] (by decide +kernel) (by decide +kernel)
set_option maxRecDepth 20000 in
theorem gX0_sizeOfRegion_X0_regionFrom : GoodIn wsX0_sizeOfRegion (va_wsS RX0 62 yX0_regionFrom wsX0_regionFrom) := goodIn_app (goodIn_of _ (by decide +kernel)) ggX0_sizeOfRegion_X0_regionFrom
set_option maxRecDepth 20000 in
theorem ggX0_sizeOfRegion_J6_bitCount_0f7a4 : GoodIn wsX0_sizeOfRegion wsJ6_bitCount_0f7a4 := goodIn_r _ [23, 24, 25, 26] (by decide +kernel) (by decide +kernel)
set_option maxRecDepth 20000 in
theorem gX0_sizeOfRegion_J6_bitCount_0f7a4 : GoodIn wsX0_sizeOfRegion (va_wsS RX0 39 yJ6_bitCount_0f7a4 wsJ6_bitCount_0f7a4) := goodIn_app (goodIn_of _ (by decide +kernel)) ggX0_sizeOfRegion_J6_bitCount_0f7a4
theorem dX0_sizeOfRegion_0 : decode cX0_sizeOfRegion 0 = .ok (.aload_n 0, 1) := by decide +kernel
theorem dX0_sizeOfRegion_1 : decode cX0_sizeOfRegion 1 = .ok (.iload_n 1, 1) := by decide +kernel
theorem dX0_sizeOfRegion_2 : decode cX0_sizeOfRegion 2 = .ok (.invokevirtual 59, 3) := by decide +kernel
theorem dX0_sizeOfRegion_5 : decode cX0_sizeOfRegion 5 = .ok (.istore_n 2, 1) := by decide +kernel
theorem dX0_sizeOfRegion_6 : decode cX0_sizeOfRegion 6 = .ok (.iload_n 2, 1) := by decide +kernel
theorem dX0_sizeOfRegion_7 : decode cX0_sizeOfRegion 7 = .ok (.ifCond .ne 7, 3) := by decide +kernel
theorem dX0_sizeOfRegion_10 : decode cX0_sizeOfRegion 10 = .ok (.iconst 0, 1) := by decide +kernel
theorem dX0_sizeOfRegion_11 : decode cX0_sizeOfRegion 11 = .ok (.goto 15, 3) := by decide +kernel
theorem dX0_sizeOfRegion_14 : decode cX0_sizeOfRegion 14 = .ok (.iload_n 1, 1) := by decide +kernel
theorem dX0_sizeOfRegion_15 : decode cX0_sizeOfRegion 15 = .ok (.aload_n 0, 1) := by decide +kernel
theorem dX0_sizeOfRegion_16 : decode cX0_sizeOfRegion 16 = .ok (.iload_n 2, 1) := by decide +kernel
theorem dX0_sizeOfRegion_17 : decode cX0_sizeOfRegion 17 = .ok (.invokevirtual 35, 3) := by decide +kernel
theorem dX0_sizeOfRegion_20 : decode cX0_sizeOfRegion 20 = .ok (.invokestatic 62, 3) := by decide +kernel
theorem dX0_sizeOfRegion_23 : decode cX0_sizeOfRegion 23 = .ok (.invokestatic 39, 3) := by decide +kernel
theorem dX0_sizeOfRegion_26 : decode cX0_sizeOfRegion 26 = .ok (.ireturn, 1) := by decide +kernel
set_option maxRecDepth 20000 in
theorem ggX0_countRegions_X0_cellsWith : GoodIn wsX0_countRegions wsX0_cellsWith := goodIn_r _ [5, 6, 13, 14, 15, 16, 17, 18] (by decide +kernel) (by decide +kernel)
set_option maxRecDepth 20000 in
theorem gX0_countRegions_X0_cellsWith : GoodIn wsX0_countRegions (wsV RX0 35 RX0 yX0_cellsWith wsX0_cellsWith) := goodIn_app (goodIn_of _ (by decide +kernel)) ggX0_countRegions_X0_cellsWith
set_option maxRecDepth 20000 in
theorem ggX0_countRegions_X0_regionFrom : GoodIn wsX0_countRegions wsX0_regionFrom := goodIn_r _ [9, 10, 11, 12] (by decide +kernel) (by decide +kernel)
set_option maxRecDepth 20000 in
theorem gX0_countRegions_X0_regionFrom : GoodIn wsX0_countRegions (va_wsS RX0 62 yX0_regionFrom wsX0_regionFrom) := goodIn_app (goodIn_of _ (by decide +kernel)) ggX0_countRegions_X0_regionFrom
theorem dX0_countRegions_0 : decode cX0_countRegions 0 = .ok (.aload_n 0, 1) := by decide +kernel
theorem dX0_countRegions_1 : decode cX0_countRegions 1 = .ok (.iload_n 1, 1) := by decide +kernel
theorem dX0_countRegions_2 : decode cX0_countRegions 2 = .ok (.invokevirtual 35, 3) := by decide +kernel
theorem dX0_countRegions_5 : decode cX0_countRegions 5 = .ok (.istore_n 2, 1) := by decide +kernel
theorem dX0_countRegions_6 : decode cX0_countRegions 6 = .ok (.iconst 0, 1) := by decide +kernel
theorem dX0_countRegions_7 : decode cX0_countRegions 7 = .ok (.istore_n 3, 1) := by decide +kernel
theorem dX0_countRegions_8 : decode cX0_countRegions 8 = .ok (.iconst 0, 1) := by decide +kernel
theorem dX0_countRegions_9 : decode cX0_countRegions 9 = .ok (.istore 4, 2) := by decide +kernel
theorem dX0_countRegions_11 : decode cX0_countRegions 11 = .ok (.iload 4, 2) := by decide +kernel
theorem dX0_countRegions_13 : decode cX0_countRegions 13 = .ok (.bipush 25, 2) := by decide +kernel
theorem dX0_countRegions_15 : decode cX0_countRegions 15 = .ok (.if_icmp .ge 29, 3) := by decide +kernel
theorem dX0_countRegions_18 : decode cX0_countRegions 18 = .ok (.iload_n 2, 1) := by decide +kernel
theorem dX0_countRegions_19 : decode cX0_countRegions 19 = .ok (.ifCond .eq 25, 3) := by decide +kernel
theorem dX0_countRegions_22 : decode cX0_countRegions 22 = .ok (.iload_n 2, 1) := by decide +kernel
theorem dX0_countRegions_23 : decode cX0_countRegions 23 = .ok (.iload_n 2, 1) := by decide +kernel
theorem dX0_countRegions_24 : decode cX0_countRegions 24 = .ok (.iload_n 2, 1) := by decide +kernel
theorem dX0_countRegions_25 : decode cX0_countRegions 25 = .ok (.ineg, 1) := by decide +kernel
theorem dX0_countRegions_26 : decode cX0_countRegions 26 = .ok (.iand, 1) := by decide +kernel
theorem dX0_countRegions_27 : decode cX0_countRegions 27 = .ok (.iload_n 2, 1) := by decide +kernel
theorem dX0_countRegions_28 : decode cX0_countRegions 28 = .ok (.invokestatic 62, 3) := by decide +kernel
theorem dX0_countRegions_31 : decode cX0_countRegions 31 = .ok (.iconst (-1), 1) := by decide +kernel
theorem dX0_countRegions_32 : decode cX0_countRegions 32 = .ok (.ixor, 1) := by decide +kernel
theorem dX0_countRegions_33 : decode cX0_countRegions 33 = .ok (.iand, 1) := by decide +kernel
theorem dX0_countRegions_34 : decode cX0_countRegions 34 = .ok (.istore_n 2, 1) := by decide +kernel
theorem dX0_countRegions_35 : decode cX0_countRegions 35 = .ok (.iinc 3 1, 3) := by decide +kernel
theorem dX0_countRegions_38 : decode cX0_countRegions 38 = .ok (.iinc 4 1, 3) := by decide +kernel
theorem dX0_countRegions_41 : decode cX0_countRegions 41 = .ok (.goto (-30), 3) := by decide +kernel
theorem dX0_countRegions_44 : decode cX0_countRegions 44 = .ok (.iload_n 3, 1) := by decide +kernel
theorem dX0_countRegions_45 : decode cX0_countRegions 45 = .ok (.ireturn, 1) := by decide +kernel
set_option maxRecDepth 20000 in
theorem ggX0_sizeOfGreatestRegion_X0_cellsWith : GoodIn wsX0_sizeOfGreatestRegion wsX0_cellsWith := goodIn_r _ [9, 10, 24, 25, 26, 27, 28, 29] (by decide +kernel) (by decide +kernel)
set_option maxRecDepth 20000 in
theorem gX0_sizeOfGreatestRegion_X0_cellsWith : GoodIn wsX0_sizeOfGreatestRegion (wsV RX0 35 RX0 yX0_cellsWith wsX0_cellsWith) := goodIn_app (goodIn_of _ (by decide +kernel)) ggX0_sizeOfGreatestRegion_X0_cellsWith
set_option maxRecDepth 20000 in
theorem ggX0_sizeOfGreatestRegion_X0_regionFrom : GoodIn wsX0_sizeOfGreatestRegion wsX0_regionFrom := goodIn_r _ [13, 14, 15, 16] (by decide +kernel) (by decide +kernel)
set_option maxRecDepth 20000 in
theorem gX0_sizeOfGreatestRegion_X0_regionFrom : GoodIn wsX0_sizeOfGreatestRegion (va_wsS RX0 62 yX0_regionFrom wsX0_regionFrom) := goodIn_app (goodIn_of _ (by decide +kernel)) ggX0_sizeOfGreatestRegion_X0_regionFrom
set_option maxRecDepth 20000 in
theorem ggX0_sizeOfGreatestRegion_J6_bitCount_0f7a4 : GoodIn wsX0_sizeOfGreatestRegion wsJ6_bitCount_0f7a4 := goodIn_r _ [20, 21, 22, 23] (by decide +kernel) (by decide +kernel)
set_option maxRecDepth 20000 in
theorem gX0_sizeOfGreatestRegion_J6_bitCount_0f7a4 : GoodIn wsX0_sizeOfGreatestRegion (va_wsS RX0 39 yJ6_bitCount_0f7a4 wsJ6_bitCount_0f7a4) := goodIn_app (goodIn_of _ (by decide +kernel)) ggX0_sizeOfGreatestRegion_J6_bitCount_0f7a4
theorem dX0_sizeOfGreatestRegion_0 : decode cX0_sizeOfGreatestRegion 0 = .ok (.aload_n 0, 1) := by decide +kernel
theorem dX0_sizeOfGreatestRegion_1 : decode cX0_sizeOfGreatestRegion 1 = .ok (.iload_n 1, 1) := by decide +kernel
theorem dX0_sizeOfGreatestRegion_2 : decode cX0_sizeOfGreatestRegion 2 = .ok (.invokevirtual 35, 3) := by decide +kernel
theorem dX0_sizeOfGreatestRegion_5 : decode cX0_sizeOfGreatestRegion 5 = .ok (.istore_n 2, 1) := by decide +kernel
theorem dX0_sizeOfGreatestRegion_6 : decode cX0_sizeOfGreatestRegion 6 = .ok (.iconst 0, 1) := by decide +kernel
theorem dX0_sizeOfGreatestRegion_7 : decode cX0_sizeOfGreatestRegion 7 = .ok (.istore_n 3, 1) := by decide +kernel
theorem dX0_sizeOfGreatestRegion_8 : decode cX0_sizeOfGreatestRegion 8 = .ok (.iconst 0, 1) := by decide +kernel
theorem dX0_sizeOfGreatestRegion_9 : decode cX0_sizeOfGreatestRegion 9 = .ok (.istore 4, 2) := by decide +kernel
theorem dX0_sizeOfGreatestRegion_11 : decode cX0_sizeOfGreatestRegion 11 = .ok (.iload 4, 2) := by decide +kernel
theorem dX0_sizeOfGreatestRegion_13 : decode cX0_sizeOfGreatestRegion 13 = .ok (.bipush 25, 2) := by decide +kernel
theorem dX0_sizeOfGreatestRegion_15 : decode cX0_sizeOfGreatestRegion 15 = .ok (.if_icmp .ge 40, 3) := by decide +kernel
theorem dX0_sizeOfGreatestRegion_18 : decode cX0_sizeOfGreatestRegion 18 = .ok (.iload_n 2, 1) := by decide +kernel
theorem dX0_sizeOfGreatestRegion_19 : decode cX0_sizeOfGreatestRegion 19 = .ok (.ifCond .eq 36, 3) := by decide +kernel
theorem dX0_sizeOfGreatestRegion_22 : decode cX0_sizeOfGreatestRegion 22 = .ok (.iload_n 2, 1) := by decide +kernel
theorem dX0_sizeOfGreatestRegion_23 : decode cX0_sizeOfGreatestRegion 23 = .ok (.iload_n 2, 1) := by decide +kernel
theorem dX0_sizeOfGreatestRegion_24 : decode cX0_sizeOfGreatestRegion 24 = .ok (.ineg, 1) := by decide +kernel
theorem dX0_sizeOfGreatestRegion_25 : decode cX0_sizeOfGreatestRegion 25 = .ok (.iand, 1) := by decide +kernel
theorem dX0_sizeOfGreatestRegion_26 : decode cX0_sizeOfGreatestRegion 26 = .ok (.iload_n 2, 1) := by decide +kernel
theorem dX0_sizeOfGreatestRegion_27 : decode cX0_sizeOfGreatestRegion 27 = .ok (.invokestatic 62, 3) := by decide +kernel
theorem dX0_sizeOfGreatestRegion_30 : decode cX0_sizeOfGreatestRegion 30 = .ok (.istore 5, 2) := by decide +kernel
theorem dX0_sizeOfGreatestRegion_32 : decode cX0_sizeOfGreatestRegion 32 = .ok (.iload_n 2, 1) := by decide +kernel
theorem dX0_sizeOfGreatestRegion_33 : decode cX0_sizeOfGreatestRegion 33 = .ok (.iload 5, 2) := by decide +kernel
theorem dX0_sizeOfGreatestRegion_35 : decode cX0_sizeOfGreatestRegion 35 = .ok (.iconst (-1), 1) := by decide +kernel
theorem dX0_sizeOfGreatestRegion_36 : decode cX0_sizeOfGreatestRegion 36 = .ok (.ixor, 1) := by decide +kernel
theorem dX0_sizeOfGreatestRegion_37 : decode cX0_sizeOfGreatestRegion 37 = .ok (.iand, 1) := by decide +kernel
theorem dX0_sizeOfGreatestRegion_38 : decode cX0_sizeOfGreatestRegion 38 = .ok (.istore_n 2, 1) := by decide +kernel
theorem dX0_sizeOfGreatestRegion_39 : decode cX0_sizeOfGreatestRegion 39 = .ok (.iload_n 3, 1) := by decide +kernel
theorem dX0_sizeOfGreatestRegion_40 : decode cX0_sizeOfGreatestRegion 40 = .ok (.iload 5, 2) := by decide +kernel
theorem dX0_sizeOfGreatestRegion_42 : decode cX0_sizeOfGreatestRegion 42 = .ok (.invokestatic 39, 3) := by decide +kernel
theorem dX0_sizeOfGreatestRegion_45 : decode cX0_sizeOfGreatestRegion 45 = .ok (.invokestatic 65, 3) := by decide +kernel
theorem dX0_sizeOfGreatestRegion_48 : decode cX0_sizeOfGreatestRegion 48 = .ok (.istore_n 3, 1) := by decide +kernel
theorem dX0_sizeOfGreatestRegion_49 : decode cX0_sizeOfGreatestRegion 49 = .ok (.iinc 4 1, 3) := by decide +kernel
theorem dX0_sizeOfGreatestRegion_52 : decode cX0_sizeOfGreatestRegion 52 = .ok (.goto (-41), 3) := by decide +kernel
theorem dX0_sizeOfGreatestRegion_55 : decode cX0_sizeOfGreatestRegion 55 = .ok (.iload_n 3, 1) := by decide +kernel
theorem dX0_sizeOfGreatestRegion_56 : decode cX0_sizeOfGreatestRegion 56 = .ok (.ireturn, 1) := by decide +kernel
set_option maxRecDepth 20000 in
theorem ggX0_countBorders_X0_countPairs : GoodIn wsX0_countBorders wsX0_countPairs := goodIn_r _ [6, 7, 8, 9, 10, 11, 12, 13] (by decide +kernel) (by decide +kernel)
set_option maxRecDepth 20000 in
theorem gX0_countBorders_X0_countPairs : GoodIn wsX0_countBorders (va_wsS RX0 70 yX0_countPairs wsX0_countPairs) := goodIn_app (goodIn_of _ (by decide +kernel)) ggX0_countBorders_X0_countPairs
theorem dX0_countBorders_0 : decode cX0_countBorders 0 = .ok (.aload_n 0, 1) := by decide +kernel
theorem dX0_countBorders_1 : decode cX0_countBorders 1 = .ok (.getfield 25, 3) := by decide +kernel
theorem dX0_countBorders_4 : decode cX0_countBorders 4 = .ok (.aload_n 0, 1) := by decide +kernel
theorem dX0_countBorders_5 : decode cX0_countBorders 5 = .ok (.getfield 15, 3) := by decide +kernel
theorem dX0_countBorders_8 : decode cX0_countBorders 8 = .ok (.iconst 0, 1) := by decide +kernel
theorem dX0_countBorders_9 : decode cX0_countBorders 9 = .ok (.iaload, 1) := by decide +kernel
theorem dX0_countBorders_10 : decode cX0_countBorders 10 = .ok (.iconst (-1), 1) := by decide +kernel
theorem dX0_countBorders_11 : decode cX0_countBorders 11 = .ok (.ixor, 1) := by decide +kernel
theorem dX0_countBorders_12 : decode cX0_countBorders 12 = .ok (.iand, 1) := by decide +kernel
theorem dX0_countBorders_13 : decode cX0_countBorders 13 = .ok (.invokestatic 70, 3) := by decide +kernel
theorem dX0_countBorders_16 : decode cX0_countBorders 16 = .ok (.istore_n 1, 1) := by decide +kernel
theorem dX0_countBorders_17 : decode cX0_countBorders 17 = .ok (.iconst 1, 1) := by decide +kernel
theorem dX0_countBorders_18 : decode cX0_countBorders 18 = .ok (.istore_n 2, 1) := by decide +kernel
theorem dX0_countBorders_19 : decode cX0_countBorders 19 = .ok (.iload_n 2, 1) := by decide +kernel
theorem dX0_countBorders_20 : decode cX0_countBorders 20 = .ok (.iconst 5, 1) := by decide +kernel
theorem dX0_countBorders_21 : decode cX0_countBorders 21 = .ok (.if_icmp .ge 21, 3) := by decide +kernel
theorem dX0_countBorders_24 : decode cX0_countBorders 24 = .ok (.iload_n 1, 1) := by decide +kernel
theorem dX0_countBorders_25 : decode cX0_countBorders 25 = .ok (.aload_n 0, 1) := by decide +kernel
theorem dX0_countBorders_26 : decode cX0_countBorders 26 = .ok (.getfield 15, 3) := by decide +kernel
theorem dX0_countBorders_29 : decode cX0_countBorders 29 = .ok (.iload_n 2, 1) := by decide +kernel
theorem dX0_countBorders_30 : decode cX0_countBorders 30 = .ok (.iaload, 1) := by decide +kernel
theorem dX0_countBorders_31 : decode cX0_countBorders 31 = .ok (.invokestatic 70, 3) := by decide +kernel
theorem dX0_countBorders_34 : decode cX0_countBorders 34 = .ok (.isub, 1) := by decide +kernel
theorem dX0_countBorders_35 : decode cX0_countBorders 35 = .ok (.istore_n 1, 1) := by decide +kernel
theorem dX0_countBorders_36 : decode cX0_countBorders 36 = .ok (.iinc 2 1, 3) := by decide +kernel
theorem dX0_countBorders_39 : decode cX0_countBorders 39 = .ok (.goto (-20), 3) := by decide +kernel
theorem dX0_countBorders_42 : decode cX0_countBorders 42 = .ok (.iload_n 1, 1) := by decide +kernel
theorem dX0_countBorders_43 : decode cX0_countBorders 43 = .ok (.ireturn, 1) := by decide +kernel
set_option maxRecDepth 20000 in
theorem ggX0_addGains_X0_withNeighbours : GoodIn wsX0_addGains wsX0_withNeighbours := goodIn_r _ [9] (by decide +kernel) (by decide +kernel)
set_option maxRecDepth 20000 in
theorem gX0_addGains_X0_withNeighbours : GoodIn wsX0_addGains (va_wsS RX0 73 yX0_withNeighbours wsX0_withNeighbours) := goodIn_app (goodIn_of _ (by decide +kernel)) ggX0_addGains_X0_withNeighbours
theorem dX0_addGains_0 : decode cX0_addGains 0 = .ok (.iconst 0, 1) := by decide +kernel
theorem dX0_addGains_1 : decode cX0_addGains 1 = .ok (.istore_n 2, 1) := by decide +kernel
theorem dX0_addGains_2 : decode cX0_addGains 2 = .ok (.iconst 0, 1) := by decide +kernel
theorem dX0_addGains_3 : decode cX0_addGains 3 = .ok (.istore_n 3, 1) := by decide +kernel
theorem dX0_addGains_4 : decode cX0_addGains 4 = .ok (.iconst 1, 1) := by decide +kernel
theorem dX0_addGains_5 : decode cX0_addGains 5 = .ok (.istore 4, 2) := by decide +kernel
theorem dX0_addGains_7 : decode cX0_addGains 7 = .ok (.iload 4, 2) := by decide +kernel
theorem dX0_addGains_9 : decode cX0_addGains 9 = .ok (.iconst 5, 1) := by decide +kernel
theorem dX0_addGains_10 : decode cX0_addGains 10 = .ok (.if_icmp .ge 49, 3) := by decide +kernel
theorem dX0_addGains_13 : decode cX0_addGains 13 = .ok (.aload_n 0, 1) := by decide +kernel
theorem dX0_addGains_14 : decode cX0_addGains 14 = .ok (.getfield 19, 3) := by decide +kernel
theorem dX0_addGains_17 : decode cX0_addGains 17 = .ok (.iload 4, 2) := by decide +kernel
theorem dX0_addGains_19 : decode cX0_addGains 19 = .ok (.aload_n 0, 1) := by decide +kernel
theorem dX0_addGains_20 : decode cX0_addGains 20 = .ok (.getfield 15, 3) := by decide +kernel
theorem dX0_addGains_23 : decode cX0_addGains 23 = .ok (.iload 4, 2) := by decide +kernel
theorem dX0_addGains_25 : decode cX0_addGains 25 = .ok (.iaload, 1) := by decide +kernel
theorem dX0_addGains_26 : decode cX0_addGains 26 = .ok (.iload_n 1, 1) := by decide +kernel
theorem dX0_addGains_27 : decode cX0_addGains 27 = .ok (.invokestatic 73, 3) := by decide +kernel
theorem dX0_addGains_30 : decode cX0_addGains 30 = .ok (.iastore, 1) := by decide +kernel
theorem dX0_addGains_31 : decode cX0_addGains 31 = .ok (.iload_n 3, 1) := by decide +kernel
theorem dX0_addGains_32 : decode cX0_addGains 32 = .ok (.iload_n 2, 1) := by decide +kernel
theorem dX0_addGains_33 : decode cX0_addGains 33 = .ok (.aload_n 0, 1) := by decide +kernel
theorem dX0_addGains_34 : decode cX0_addGains 34 = .ok (.getfield 19, 3) := by decide +kernel
theorem dX0_addGains_37 : decode cX0_addGains 37 = .ok (.iload 4, 2) := by decide +kernel
theorem dX0_addGains_39 : decode cX0_addGains 39 = .ok (.iaload, 1) := by decide +kernel
theorem dX0_addGains_40 : decode cX0_addGains 40 = .ok (.iand, 1) := by decide +kernel
theorem dX0_addGains_41 : decode cX0_addGains 41 = .ok (.ior, 1) := by decide +kernel
theorem dX0_addGains_42 : decode cX0_addGains 42 = .ok (.istore_n 3, 1) := by decide +kernel
theorem dX0_addGains_43 : decode cX0_addGains 43 = .ok (.iload_n 2, 1) := by decide +kernel
theorem dX0_addGains_44 : decode cX0_addGains 44 = .ok (.aload_n 0, 1) := by decide +kernel
theorem dX0_addGains_45 : decode cX0_addGains 45 = .ok (.getfield 19, 3) := by decide +kernel
theorem dX0_addGains_48 : decode cX0_addGains 48 = .ok (.iload 4, 2) := by decide +kernel
theorem dX0_addGains_50 : decode cX0_addGains 50 = .ok (.iaload, 1) := by decide +kernel
theorem dX0_addGains_51 : decode cX0_addGains 51 = .ok (.ior, 1) := by decide +kernel
theorem dX0_addGains_52 : decode cX0_addGains 52 = .ok (.istore_n 2, 1) := by decide +kernel
theorem dX0_addGains_53 : decode cX0_addGains 53 = .ok (.iinc 4 1, 3) := by decide +kernel
theorem dX0_addGains_56 : decode cX0_addGains 56 = .ok (.goto (-49), 3) := by decide +kernel
theorem dX0_addGains_59 : decode cX0_addGains 59 = .ok (.iconst 1, 1) := by decide +kernel
theorem dX0_addGains_60 : decode cX0_addGains 60 = .ok (.istore 4, 2) := by decide +kernel
theorem dX0_addGains_62 : decode cX0_addGains 62 = .ok (.iload 4, 2) := by decide +kernel
theorem dX0_addGains_64 : decode cX0_addGains 64 = .ok (.iconst 5, 1) := by decide +kernel
theorem dX0_addGains_65 : decode cX0_addGains 65 = .ok (.if_icmp .ge 42, 3) := by decide +kernel
theorem dX0_addGains_68 : decode cX0_addGains 68 = .ok (.aload_n 0, 1) := by decide +kernel
theorem dX0_addGains_69 : decode cX0_addGains 69 = .ok (.getfield 22, 3) := by decide +kernel
theorem dX0_addGains_72 : decode cX0_addGains 72 = .ok (.iload 4, 2) := by decide +kernel
theorem dX0_addGains_74 : decode cX0_addGains 74 = .ok (.dup2, 1) := by decide +kernel
theorem dX0_addGains_75 : decode cX0_addGains 75 = .ok (.iaload, 1) := by decide +kernel
theorem dX0_addGains_76 : decode cX0_addGains 76 = .ok (.aload_n 0, 1) := by decide +kernel
theorem dX0_addGains_77 : decode cX0_addGains 77 = .ok (.getfield 19, 3) := by decide +kernel
theorem dX0_addGains_80 : decode cX0_addGains 80 = .ok (.iload 4, 2) := by decide +kernel
theorem dX0_addGains_82 : decode cX0_addGains 82 = .ok (.iaload, 1) := by decide +kernel
theorem dX0_addGains_83 : decode cX0_addGains 83 = .ok (.iload_n 3, 1) := by decide +kernel
theorem dX0_addGains_84 : decode cX0_addGains 84 = .ok (.iconst (-1), 1) := by decide +kernel
theorem dX0_addGains_85 : decode cX0_addGains 85 = .ok (.ixor, 1) := by decide +kernel
theorem dX0_addGains_86 : decode cX0_addGains 86 = .ok (.iand, 1) := by decide +kernel
theorem dX0_addGains_87 : decode cX0_addGains 87 = .ok (.aload_n 0, 1) := by decide +kernel
theorem dX0_addGains_88 : decode cX0_addGains 88 = .ok (.getfield 25, 3) := by decide +kernel
theorem dX0_addGains_91 : decode cX0_addGains 91 = .ok (.iand, 1) := by decide +kernel
theorem dX0_addGains_92 : decode cX0_addGains 92 = .ok (.aload_n 0, 1) := by decide +kernel
theorem dX0_addGains_93 : decode cX0_addGains 93 = .ok (.getfield 32, 3) := by decide +kernel
theorem dX0_addGains_96 : decode cX0_addGains 96 = .ok (.iconst (-1), 1) := by decide +kernel
theorem dX0_addGains_97 : decode cX0_addGains 97 = .ok (.ixor, 1) := by decide +kernel
theorem dX0_addGains_98 : decode cX0_addGains 98 = .ok (.iand, 1) := by decide +kernel
theorem dX0_addGains_99 : decode cX0_addGains 99 = .ok (.ior, 1) := by decide +kernel
theorem dX0_addGains_100 : decode cX0_addGains 100 = .ok (.iastore, 1) := by decide +kernel
theorem dX0_addGains_101 : decode cX0_addGains 101 = .ok (.iinc 4 1, 3) := by decide +kernel
theorem dX0_addGains_104 : decode cX0_addGains 104 = .ok (.goto (-42), 3) := by decide +kernel
theorem dX0_addGains_107 : decode cX0_addGains 107 = .ok (.return_, 1) := by decide +kernel
theorem dX0_takeGains_0 : decode cX0_takeGains 0 = .ok (.iconst 0, 1) := by decide +kernel
theorem dX0_takeGains_1 : decode cX0_takeGains 1 = .ok (.istore_n 2, 1) := by decide +kernel
theorem dX0_takeGains_2 : decode cX0_takeGains 2 = .ok (.iload_n 2, 1) := by decide +kernel
theorem dX0_takeGains_3 : decode cX0_takeGains 3 = .ok (.iconst 5, 1) := by decide +kernel
theorem dX0_takeGains_4 : decode cX0_takeGains 4 = .ok (.if_icmp .ge 34, 3) := by decide +kernel
theorem dX0_takeGains_7 : decode cX0_takeGains 7 = .ok (.aload_n 0, 1) := by decide +kernel
theorem dX0_takeGains_8 : decode cX0_takeGains 8 = .ok (.getfield 15, 3) := by decide +kernel
theorem dX0_takeGains_11 : decode cX0_takeGains 11 = .ok (.iload_n 2, 1) := by decide +kernel
theorem dX0_takeGains_12 : decode cX0_takeGains 12 = .ok (.aload_n 0, 1) := by decide +kernel
theorem dX0_takeGains_13 : decode cX0_takeGains 13 = .ok (.getfield 15, 3) := by decide +kernel
theorem dX0_takeGains_16 : decode cX0_takeGains 16 = .ok (.iload_n 2, 1) := by decide +kernel
theorem dX0_takeGains_17 : decode cX0_takeGains 17 = .ok (.iaload, 1) := by decide +kernel
theorem dX0_takeGains_18 : decode cX0_takeGains 18 = .ok (.iload_n 1, 1) := by decide +kernel
theorem dX0_takeGains_19 : decode cX0_takeGains 19 = .ok (.iconst (-1), 1) := by decide +kernel
theorem dX0_takeGains_20 : decode cX0_takeGains 20 = .ok (.ixor, 1) := by decide +kernel
theorem dX0_takeGains_21 : decode cX0_takeGains 21 = .ok (.iand, 1) := by decide +kernel
theorem dX0_takeGains_22 : decode cX0_takeGains 22 = .ok (.aload_n 0, 1) := by decide +kernel
theorem dX0_takeGains_23 : decode cX0_takeGains 23 = .ok (.getfield 22, 3) := by decide +kernel
theorem dX0_takeGains_26 : decode cX0_takeGains 26 = .ok (.iload_n 2, 1) := by decide +kernel
theorem dX0_takeGains_27 : decode cX0_takeGains 27 = .ok (.iaload, 1) := by decide +kernel
theorem dX0_takeGains_28 : decode cX0_takeGains 28 = .ok (.iload_n 1, 1) := by decide +kernel
theorem dX0_takeGains_29 : decode cX0_takeGains 29 = .ok (.iand, 1) := by decide +kernel
theorem dX0_takeGains_30 : decode cX0_takeGains 30 = .ok (.ior, 1) := by decide +kernel
theorem dX0_takeGains_31 : decode cX0_takeGains 31 = .ok (.iastore, 1) := by decide +kernel
theorem dX0_takeGains_32 : decode cX0_takeGains 32 = .ok (.iinc 2 1, 3) := by decide +kernel
theorem dX0_takeGains_35 : decode cX0_takeGains 35 = .ok (.goto (-33), 3) := by decide +kernel
theorem dX0_takeGains_38 : decode cX0_takeGains 38 = .ok (.return_, 1) := by decide +kernel
theorem dX0_withNeighbours_0 : decode cX0_withNeighbours 0 = .ok (.iload_n 0, 1) := by decide +kernel
theorem dX0_withNeighbours_1 : decode cX0_withNeighbours 1 = .ok (.iconst 1, 1) := by decide +kernel
theorem dX0_withNeighbours_2 : decode cX0_withNeighbours 2 = .ok (.ishl, 1) := by decide +kernel
theorem dX0_withNeighbours_3 : decode cX0_withNeighbours 3 = .ok (.iload_n 0, 1) := by decide +kernel
theorem dX0_withNeighbours_4 : decode cX0_withNeighbours 4 = .ok (.iconst 1, 1) := by decide +kernel
theorem dX0_withNeighbours_5 : decode cX0_withNeighbours 5 = .ok (.iushr, 1) := by decide +kernel
theorem dX0_withNeighbours_6 : decode cX0_withNeighbours 6 = .ok (.ior, 1) := by decide +kernel
theorem dX0_withNeighbours_7 : decode cX0_withNeighbours 7 = .ok (.istore_n 2, 1) := by decide +kernel
theorem dX0_withNeighbours_8 : decode cX0_withNeighbours 8 = .ok (.iload_n 0, 1) := by decide +kernel
theorem dX0_withNeighbours_9 : decode cX0_withNeighbours 9 = .ok (.iconst 1, 1) := by decide +kernel
theorem dX0_withNeighbours_10 : decode cX0_withNeighbours 10 = .ok (.ishl, 1) := by decide +kernel
theorem dX0_withNeighbours_11 : decode cX0_withNeighbours 11 = .ok (.iload_n 0, 1) := by decide +kernel
theorem dX0_withNeighbours_12 : decode cX0_withNeighbours 12 = .ok (.iconst 1, 1) := by decide +kernel
theorem dX0_withNeighbours_13 : decode cX0_withNeighbours 13 = .ok (.iushr, 1) := by decide +kernel
theorem dX0_withNeighbours_14 : decode cX0_withNeighbours 14 = .ok (.iand, 1) := by decide +kernel
theorem dX0_withNeighbours_15 : decode cX0_withNeighbours 15 = .ok (.istore_n 3, 1) := by decide +kernel
theorem dX0_withNeighbours_16 : decode cX0_withNeighbours 16 = .ok (.iload_n 0, 1) := by decide +kernel
theorem dX0_withNeighbours_17 : decode cX0_withNeighbours 17 = .ok (.bipush 6, 2) := by decide +kernel
theorem dX0_withNeighbours_19 : decode cX0_withNeighbours 19 = .ok (.ishl, 1) := by decide +kernel
theorem dX0_withNeighbours_20 : decode cX0_withNeighbours 20 = .ok (.iload_n 0, 1) := by decide +kernel
theorem dX0_withNeighbours_21 : decode cX0_withNeighbours 21 = .ok (.bipush 6, 2) := by decide +kernel
theorem dX0_withNeighbours_23 : decode cX0_withNeighbours 23 = .ok (.iushr, 1) := by decide +kernel
theorem dX0_withNeighbours_24 : decode cX0_withNeighbours 24 = .ok (.ior, 1) := by decide +kernel
theorem dX0_withNeighbours_25 : decode cX0_withNeighbours 25 = .ok (.istore 4, 2) := by decide +kernel
theorem dX0_withNeighbours_27 : decode cX0_withNeighbours 27 = .ok (.iload_n 0, 1) := by decide +kernel
theorem dX0_withNeighbours_28 : decode cX0_withNeighbours 28 = .ok (.bipush 6, 2) := by decide +kernel
theorem dX0_withNeighbours_30 : decode cX0_withNeighbours 30 = .ok (.ishl, 1) := by decide +kernel
theorem dX0_withNeighbours_31 : decode cX0_withNeighbours 31 = .ok (.iload_n 0, 1) := by decide +kernel
theorem dX0_withNeighbours_32 : decode cX0_withNeighbours 32 = .ok (.bipush 6, 2) := by decide +kernel
theorem dX0_withNeighbours_34 : decode cX0_withNeighbours 34 = .ok (.iushr, 1) := by decide +kernel
theorem dX0_withNeighbours_35 : decode cX0_withNeighbours 35 = .ok (.iand, 1) := by decide +kernel
theorem dX0_withNeighbours_36 : decode cX0_withNeighbours 36 = .ok (.istore 5, 2) := by decide +kernel
theorem dX0_withNeighbours_38 : decode cX0_withNeighbours 38 = .ok (.iload_n 1, 1) := by decide +kernel
theorem dX0_withNeighbours_39 : decode cX0_withNeighbours 39 = .ok (.tableswitch 59 1 4 #[29, 34, 44, 54], 29) := by decide +kernel
theorem dX0_withNeighbours_68 : decode cX0_withNeighbours 68 = .ok (.iload_n 2, 1) := by decide +kernel
theorem dX0_withNeighbours_69 : decode cX0_withNeighbours 69 = .ok (.iload 4, 2) := by decide +kernel
theorem dX0_withNeighbours_71 : decode cX0_withNeighbours 71 = .ok (.ior, 1) := by decide +kernel
theorem dX0_withNeighbours_72 : decode cX0_withNeighbours 72 = .ok (.ireturn, 1) := by decide +kernel
theorem dX0_withNeighbours_73 : decode cX0_withNeighbours 73 = .ok (.iload_n 3, 1) := by decide +kernel
theorem dX0_withNeighbours_74 : decode cX0_withNeighbours 74 = .ok (.iload 5, 2) := by decide +kernel
theorem dX0_withNeighbours_76 : decode cX0_withNeighbours 76 = .ok (.ior, 1) := by decide +kernel
theorem dX0_withNeighbours_77 : decode cX0_withNeighbours 77 = .ok (.iload_n 2, 1) := by decide +kernel
theorem dX0_withNeighbours_78 : decode cX0_withNeighbours 78 = .ok (.iload 4, 2) := by decide +kernel
theorem dX0_withNeighbours_80 : decode cX0_withNeighbours 80 = .ok (.iand, 1) := by decide +kernel
theorem dX0_withNeighbours_81 : decode cX0_withNeighbours 81 = .ok (.ior, 1) := by decide +kernel
theorem dX0_withNeighbours_82 : decode cX0_withNeighbours 82 = .ok (.ireturn, 1) := by decide +kernel
theorem dX0_withNeighbours_83 : decode cX0_withNeighbours 83 = .ok (.iload_n 3, 1) := by decide +kernel
theorem dX0_withNeighbours_84 : decode cX0_withNeighbours 84 = .ok (.iload 4, 2) := by decide +kernel
theorem dX0_withNeighbours_86 : decode cX0_withNeighbours 86 = .ok (.iand, 1) := by decide +kernel
theorem dX0_withNeighbours_87 : decode cX0_withNeighbours 87 = .ok (.iload_n 2, 1) := by decide +kernel
theorem dX0_withNeighbours_88 : decode cX0_withNeighbours 88 = .ok (.iload 5, 2) := by decide +kernel
theorem dX0_withNeighbours_90 : decode cX0_withNeighbours 90 = .ok (.iand, 1) := by decide +kernel
theorem dX0_withNeighbours_91 : decode cX0_withNeighbours 91 = .ok (.ior, 1) := by decide +kernel
theorem dX0_withNeighbours_92 : decode cX0_withNeighbours 92 = .ok (.ireturn, 1) := by decide +kernel
theorem dX0_withNeighbours_93 : decode cX0_withNeighbours 93 = .ok (.iload_n 3, 1) := by decide +kernel
theorem dX0_withNeighbours_94 : decode cX0_withNeighbours 94 = .ok (.iload 5, 2) := by decide +kernel
theorem dX0_withNeighbours_96 : decode cX0_withNeighbours 96 = .ok (.iand, 1) := by decide +kernel
theorem dX0_withNeighbours_97 : decode cX0_withNeighbours 97 = .ok (.ireturn, 1) := by decide +kernel
theorem dX0_withNeighbours_98 : decode cX0_withNeighbours 98 = .ok (.iconst 0, 1) := by decide +kernel
theorem dX0_withNeighbours_99 : decode cX0_withNeighbours 99 = .ok (.ireturn, 1) := by decide +kernel
set_option maxRecDepth 20000 in
theorem ggX0_regionFrom_X1_nextTo : GoodIn wsX0_regionFrom wsX1_nextTo := goodIn_r _ [3] (by decide +kernel) (by decide +kernel)
set_option maxRecDepth 20000 in
theorem gX0_regionFrom_X1_nextTo_n76 : GoodIn wsX0_regionFrom (wsX1_nextTo) := ggX0_regionFrom_X1_nextTo
theorem dX0_regionFrom_0 : decode cX0_regionFrom 0 = .ok (.iload_n 0, 1) := by decide +kernel
theorem dX0_regionFrom_1 : decode cX0_regionFrom 1 = .ok (.istore_n 2, 1) := by decide +kernel
theorem dX0_regionFrom_2 : decode cX0_regionFrom 2 = .ok (.iconst 0, 1) := by decide +kernel
theorem dX0_regionFrom_3 : decode cX0_regionFrom 3 = .ok (.istore_n 3, 1) := by decide +kernel
theorem dX0_regionFrom_4 : decode cX0_regionFrom 4 = .ok (.iload_n 3, 1) := by decide +kernel
theorem dX0_regionFrom_5 : decode cX0_regionFrom 5 = .ok (.bipush 25, 2) := by decide +kernel
theorem dX0_regionFrom_7 : decode cX0_regionFrom 7 = .ok (.if_icmp .ge 30, 3) := by decide +kernel
theorem dX0_regionFrom_10 : decode cX0_regionFrom 10 = .ok (.iload_n 2, 1) := by decide +kernel
theorem dX0_regionFrom_11 : decode cX0_regionFrom 11 = .ok (.iload_n 2, 1) := by decide +kernel
theorem dX0_regionFrom_12 : decode cX0_regionFrom 12 = .ok (.invokestatic 76, 3) := by decide +kernel
theorem dX0_regionFrom_15 : decode cX0_regionFrom 15 = .ok (.iload_n 1, 1) := by decide +kernel
theorem dX0_regionFrom_16 : decode cX0_regionFrom 16 = .ok (.iand, 1) := by decide +kernel
theorem dX0_regionFrom_17 : decode cX0_regionFrom 17 = .ok (.ior, 1) := by decide +kernel
theorem dX0_regionFrom_18 : decode cX0_regionFrom 18 = .ok (.istore 4, 2) := by decide +kernel
theorem dX0_regionFrom_20 : decode cX0_regionFrom 20 = .ok (.iload 4, 2) := by decide +kernel
theorem dX0_regionFrom_22 : decode cX0_regionFrom 22 = .ok (.iload_n 2, 1) := by decide +kernel
theorem dX0_regionFrom_23 : decode cX0_regionFrom 23 = .ok (.if_icmp .ne 5, 3) := by decide +kernel
theorem dX0_regionFrom_26 : decode cX0_regionFrom 26 = .ok (.iload_n 2, 1) := by decide +kernel
theorem dX0_regionFrom_27 : decode cX0_regionFrom 27 = .ok (.ireturn, 1) := by decide +kernel
theorem dX0_regionFrom_28 : decode cX0_regionFrom 28 = .ok (.iload 4, 2) := by decide +kernel
theorem dX0_regionFrom_30 : decode cX0_regionFrom 30 = .ok (.istore_n 2, 1) := by decide +kernel
theorem dX0_regionFrom_31 : decode cX0_regionFrom 31 = .ok (.iinc 3 1, 3) := by decide +kernel
theorem dX0_regionFrom_34 : decode cX0_regionFrom 34 = .ok (.goto (-30), 3) := by decide +kernel
theorem dX0_regionFrom_37 : decode cX0_regionFrom 37 = .ok (.iload_n 2, 1) := by decide +kernel
theorem dX0_regionFrom_38 : decode cX0_regionFrom 38 = .ok (.ireturn, 1) := by decide +kernel
set_option maxRecDepth 20000 in
theorem ggX0_countPairs_J6_bitCount_0f7a4 : GoodIn wsX0_countPairs wsJ6_bitCount_0f7a4 := goodIn_r _ [4, 5, 6, 7] (by decide +kernel) (by decide +kernel)
set_option maxRecDepth 20000 in
theorem gX0_countPairs_J6_bitCount_0f7a4 : GoodIn wsX0_countPairs (va_wsS RX0 39 yJ6_bitCount_0f7a4 wsJ6_bitCount_0f7a4) := goodIn_app (goodIn_of _ (by decide +kernel)) ggX0_countPairs_J6_bitCount_0f7a4
theorem dX0_countPairs_0 : decode cX0_countPairs 0 = .ok (.iload_n 0, 1) := by decide +kernel
theorem dX0_countPairs_1 : decode cX0_countPairs 1 = .ok (.iload_n 0, 1) := by decide +kernel
theorem dX0_countPairs_2 : decode cX0_countPairs 2 = .ok (.iconst 1, 1) := by decide +kernel
theorem dX0_countPairs_3 : decode cX0_countPairs 3 = .ok (.ishl, 1) := by decide +kernel
theorem dX0_countPairs_4 : decode cX0_countPairs 4 = .ok (.iand, 1) := by decide +kernel
theorem dX0_countPairs_5 : decode cX0_countPairs 5 = .ok (.invokestatic 39, 3) := by decide +kernel
theorem dX0_countPairs_8 : decode cX0_countPairs 8 = .ok (.iload_n 0, 1) := by decide +kernel
theorem dX0_countPairs_9 : decode cX0_countPairs 9 = .ok (.iload_n 0, 1) := by decide +kernel
theorem dX0_countPairs_10 : decode cX0_countPairs 10 = .ok (.bipush 6, 2) := by decide +kernel
theorem dX0_countPairs_12 : decode cX0_countPairs 12 = .ok (.ishl, 1) := by decide +kernel
theorem dX0_countPairs_13 : decode cX0_countPairs 13 = .ok (.iand, 1) := by decide +kernel
theorem dX0_countPairs_14 : decode cX0_countPairs 14 = .ok (.invokestatic 39, 3) := by decide +kernel
theorem dX0_countPairs_17 : decode cX0_countPairs 17 = .ok (.iadd, 1) := by decide +kernel
theorem dX0_countPairs_18 : decode cX0_countPairs 18 = .ok (.ireturn, 1) := by decide +kernel
theorem dX0_firstColourWith_0 : decode cX0_firstColourWith 0 = .ok (.iconst 1, 1) := by decide +kernel
theorem dX0_firstColourWith_1 : decode cX0_firstColourWith 1 = .ok (.istore_n 2, 1) := by decide +kernel
theorem dX0_firstColourWith_2 : decode cX0_firstColourWith 2 = .ok (.iload_n 2, 1) := by decide +kernel
theorem dX0_firstColourWith_3 : decode cX0_firstColourWith 3 = .ok (.aload_n 1, 1) := by decide +kernel
theorem dX0_firstColourWith_4 : decode cX0_firstColourWith 4 = .ok (.arraylength, 1) := by decide +kernel
theorem dX0_firstColourWith_5 : decode cX0_firstColourWith 5 = .ok (.if_icmp .ge 19, 3) := by decide +kernel
theorem dX0_firstColourWith_8 : decode cX0_firstColourWith 8 = .ok (.aload_n 1, 1) := by decide +kernel
theorem dX0_firstColourWith_9 : decode cX0_firstColourWith 9 = .ok (.iload_n 2, 1) := by decide +kernel
theorem dX0_firstColourWith_10 : decode cX0_firstColourWith 10 = .ok (.iaload, 1) := by decide +kernel
theorem dX0_firstColourWith_11 : decode cX0_firstColourWith 11 = .ok (.iload_n 0, 1) := by decide +kernel
theorem dX0_firstColourWith_12 : decode cX0_firstColourWith 12 = .ok (.iand, 1) := by decide +kernel
theorem dX0_firstColourWith_13 : decode cX0_firstColourWith 13 = .ok (.ifCond .eq 5, 3) := by decide +kernel
theorem dX0_firstColourWith_16 : decode cX0_firstColourWith 16 = .ok (.iload_n 2, 1) := by decide +kernel
theorem dX0_firstColourWith_17 : decode cX0_firstColourWith 17 = .ok (.ireturn, 1) := by decide +kernel
theorem dX0_firstColourWith_18 : decode cX0_firstColourWith 18 = .ok (.iinc 2 1, 3) := by decide +kernel
theorem dX0_firstColourWith_21 : decode cX0_firstColourWith 21 = .ok (.goto (-19), 3) := by decide +kernel
theorem dX0_firstColourWith_24 : decode cX0_firstColourWith 24 = .ok (.iconst 0, 1) := by decide +kernel
theorem dX0_firstColourWith_25 : decode cX0_firstColourWith 25 = .ok (.ireturn, 1) := by decide +kernel
set_option maxRecDepth 20000 in
theorem ggX1_init_X0_init : GoodIn wsX1_init wsX0_init := goodIn_r _ [14, 15, 2, 3, 16, 17, 18, 19, 20, 30, 31, 32, 33, 34, 35] (by decide +kernel) (by decide +kernel)
set_option maxRecDepth 20000 in
theorem gX1_init_X0_init : GoodIn wsX1_init (wsX0_init) := ggX1_init_X0_init
set_option maxRecDepth 20000 in
theorem ggX1_init_X0_clear : GoodIn wsX1_init wsX0_clear := goodIn_r _ [24, 25, 26, 18, 27, 28, 29, 30, 31, 32, 33, 34, 35] (by decide +kernel) (by decide +kernel)
set_option maxRecDepth 20000 in
theorem gX1_init_X0_clear : GoodIn wsX1_init (wsV RX1 29 RX0 yX0_clear wsX0_clear) := goodIn_app (goodIn_of _ (by decide +kernel)) ggX1_init_X0_clear
theorem dX1_init_0 : decode cX1_init 0 = .ok (.aload_n 0, 1) := by decide +kernel
theorem dX1_init_1 : decode cX1_init 1 = .ok (.invokespecial 3, 3) := by decide +kernel
theorem dX1_init_4 : decode cX1_init 4 = .ok (.aload_n 0, 1) := by decide +kernel
theorem dX1_init_5 : decode cX1_init 5 = .ok (.new 9, 3) := by decide +kernel
theorem dX1_init_8 : decode cX1_init 8 = .ok (.dup, 1) := by decide +kernel
theorem dX1_init_9 : decode cX1_init 9 = .ok (.invokespecial 11, 3) := by decide +kernel
theorem dX1_init_12 : decode cX1_init 12 = .ok (.putfield 12, 3) := by decide +kernel
theorem dX1_init_15 : decode cX1_init 15 = .ok (.aload_n 0, 1) := by decide +kernel
theorem dX1_init_16 : decode cX1_init 16 = .ok (.new 9, 3) := by decide +kernel
theorem dX1_init_19 : decode cX1_init 19 = .ok (.dup, 1) := by decide +kernel
theorem dX1_init_20 : decode cX1_init 20 = .ok (.invokespecial 11, 3) := by decide +kernel
theorem dX1_init_23 : decode cX1_init 23 = .ok (.putfield 16, 3) := by decide +kernel
theorem dX1_init_26 : decode cX1_init 26 = .ok (.aload_n 0, 1) := by decide +kernel
theorem dX1_init_27 : decode cX1_init 27 = .ok (.iconst 4, 1) := by decide +kernel
theorem dX1_init_28 : decode cX1_init 28 = .ok (.putfield 19, 3) := by decide +kernel
theorem dX1_init_31 : decode cX1_init 31 = .ok (.aload_n 0, 1) := by decide +kernel
theorem dX1_init_32 : decode cX1_init 32 = .ok (.iconst 4, 1) := by decide +kernel
theorem dX1_init_33 : decode cX1_init 33 = .ok (.putfield 23, 3) := by decide +kernel
theorem dX1_init_36 : decode cX1_init 36 = .ok (.aload_n 0, 1) := by decide +kernel
theorem dX1_init_37 : decode cX1_init 37 = .ok (.iconst 0, 1) := by decide +kernel
theorem dX1_init_38 : decode cX1_init 38 = .ok (.putfield 26, 3) := by decide +kernel
theorem dX1_init_41 : decode cX1_init 41 = .ok (.aload_n 0, 1) := by decide +kernel
theorem dX1_init_42 : decode cX1_init 42 = .ok (.getfield 12, 3) := by decide +kernel
theorem dX1_init_45 : decode cX1_init 45 = .ok (.iconst 4, 1) := by decide +kernel
theorem dX1_init_46 : decode cX1_init 46 = .ok (.iconst 4, 1) := by decide +kernel
theorem dX1_init_47 : decode cX1_init 47 = .ok (.invokevirtual 29, 3) := by decide +kernel
theorem dX1_init_50 : decode cX1_init 50 = .ok (.return_, 1) := by decide +kernel
set_option maxRecDepth 20000 in
theorem ggX1_newMap_X1_isSide : GoodIn wsX1_newMap wsX1_isSide := goodIn_r _ [10] (by decide +kernel) (by decide +kernel)
set_option maxRecDepth 20000 in
theorem gX1_newMap_X1_isSide : GoodIn wsX1_newMap (va_wsS RX1 33 yX1_isSide wsX1_isSide) := goodIn_app (goodIn_of _ (by decide +kernel)) ggX1_newMap_X1_isSide
set_option maxRecDepth 20000 in
theorem ggX1_newMap_X0_clear : GoodIn wsX1_newMap wsX0_clear := goodIn_r _ [15, 16, 17, 18, 19, 9, 20, 26, 27, 28, 29, 30, 31] (by decide +kernel) (by decide +kernel)
set_option maxRecDepth 20000 in
theorem gX1_newMap_X0_clear : GoodIn wsX1_newMap (wsV RX1 29 RX0 yX0_clear wsX0_clear) := goodIn_app (goodIn_of _ (by decide +kernel)) ggX1_newMap_X0_clear
theorem dX1_newMap_0 : decode cX1_newMap 0 = .ok (.iload_n 1, 1) := by decide +kernel
theorem dX1_newMap_1 : decode cX1_newMap 1 = .ok (.invokestatic 33, 3) := by decide +kernel
theorem dX1_newMap_4 : decode cX1_newMap 4 = .ok (.ifCond .eq 10, 3) := by decide +kernel
theorem dX1_newMap_7 : decode cX1_newMap 7 = .ok (.iload_n 2, 1) := by decide +kernel
theorem dX1_newMap_8 : decode cX1_newMap 8 = .ok (.invokestatic 33, 3) := by decide +kernel
theorem dX1_newMap_11 : decode cX1_newMap 11 = .ok (.ifCond .ne 13, 3) := by decide +kernel
theorem dX1_newMap_14 : decode cX1_newMap 14 = .ok (.new 37, 3) := by decide +kernel
theorem dX1_newMap_17 : decode cX1_newMap 17 = .ok (.dup, 1) := by decide +kernel
theorem dX1_newMap_18 : decode cX1_newMap 18 = .ok (.ldc 39, 2) := by decide +kernel
theorem dX1_newMap_20 : decode cX1_newMap 20 = .ok (.invokespecial 41, 3) := by decide +kernel
theorem dX1_newMap_23 : decode cX1_newMap 23 = .ok (.athrow, 1) := by decide +kernel
theorem dX1_newMap_24 : decode cX1_newMap 24 = .ok (.aload_n 0, 1) := by decide +kernel
theorem dX1_newMap_25 : decode cX1_newMap 25 = .ok (.iload_n 1, 1) := by decide +kernel
theorem dX1_newMap_26 : decode cX1_newMap 26 = .ok (.putfield 19, 3) := by decide +kernel
theorem dX1_newMap_29 : decode cX1_newMap 29 = .ok (.aload_n 0, 1) := by decide +kernel
theorem dX1_newMap_30 : decode cX1_newMap 30 = .ok (.iload_n 2, 1) := by decide +kernel
theorem dX1_newMap_31 : decode cX1_newMap 31 = .ok (.putfield 23, 3) := by decide +kernel
theorem dX1_newMap_34 : decode cX1_newMap 34 = .ok (.aload_n 0, 1) := by decide +kernel
theorem dX1_newMap_35 : decode cX1_newMap 35 = .ok (.iconst 0, 1) := by decide +kernel
theorem dX1_newMap_36 : decode cX1_newMap 36 = .ok (.putfield 26, 3) := by decide +kernel
theorem dX1_newMap_39 : decode cX1_newMap 39 = .ok (.aload_n 0, 1) := by decide +kernel
theorem dX1_newMap_40 : decode cX1_newMap 40 = .ok (.getfield 12, 3) := by decide +kernel
theorem dX1_newMap_43 : decode cX1_newMap 43 = .ok (.iload_n 1, 1) := by decide +kernel
theorem dX1_newMap_44 : decode cX1_newMap 44 = .ok (.iload_n 2, 1) := by decide +kernel
theorem dX1_newMap_45 : decode cX1_newMap 45 = .ok (.invokevirtual 29, 3) := by decide +kernel
theorem dX1_newMap_48 : decode cX1_newMap 48 = .ok (.iload_n 1, 1) := by decide +kernel
theorem dX1_newMap_49 : decode cX1_newMap 49 = .ok (.iload_n 2, 1) := by decide +kernel
theorem dX1_newMap_50 : decode cX1_newMap 50 = .ok (.imul, 1) := by decide +kernel
theorem dX1_newMap_51 : decode cX1_newMap 51 = .ok (.ireturn, 1) := by decide +kernel
set_option maxRecDepth 20000 in
theorem ggX1_paint_X1_isOnMap : GoodIn wsX1_paint wsX1_isOnMap := goodIn_r _ [8, 9, 10, 33, 34, 35, 36, 37] (by decide +kernel) (by decide +kernel)
set_option maxRecDepth 20000 in
theorem gX1_paint_X1_isOnMap : GoodIn wsX1_paint (wsV RX1 44 RX1 yX1_isOnMap wsX1_isOnMap) := goodIn_app (goodIn_of _ (by decide +kernel)) ggX1_paint_X1_isOnMap
set_option maxRecDepth 20000 in
theorem ggX1_paint_X1_isColourOrBare : GoodIn wsX1_paint wsX1_isColourOrBare := goodIn_r _ [13, 14, 15, 7, 16] (by decide +kernel) (by decide +kernel)
set_option maxRecDepth 20000 in
theorem gX1_paint_X1_isColourOrBare : GoodIn wsX1_paint (va_wsS RX1 48 yX1_isColourOrBare wsX1_isColourOrBare) := goodIn_app (goodIn_of _ (by decide +kernel)) ggX1_paint_X1_isColourOrBare
set_option maxRecDepth 20000 in
theorem ggX1_paint_X1_cell : GoodIn wsX1_paint wsX1_cell := goodIn_r _ [19] (by decide +kernel) (by decide +kernel)
set_option maxRecDepth 20000 in
theorem gX1_paint_X1_cell : GoodIn wsX1_paint (va_wsS RX1 56 yX1_cell wsX1_cell) := goodIn_app (goodIn_of _ (by decide +kernel)) ggX1_paint_X1_cell
set_option maxRecDepth 20000 in
theorem ggX1_paint_X0_colourOf : GoodIn wsX1_paint wsX0_colourOf := goodIn_r _ [24, 25, 26, 27, 23, 28, 38, 39, 40, 41, 42, 43] (by decide +kernel) (by decide +kernel)
set_option maxRecDepth 20000 in
theorem gX1_paint_X0_colourOf : GoodIn wsX1_paint (wsV RX1 60 RX0 yX0_colourOf wsX0_colourOf) := goodIn_app (goodIn_of _ (by decide +kernel)) ggX1_paint_X0_colourOf
set_option maxRecDepth 20000 in
theorem ggX1_paint_X0_dye : GoodIn wsX1_paint wsX0_dye := goodIn_r _ [32, 25, 38, 39, 40, 41, 42, 43] (by decide +kernel) (by decide +kernel)
set_option maxRecDepth 20000 in
theorem gX1_paint_X0_dye : GoodIn wsX1_paint (wsV RX1 64 RX0 yX0_dye wsX0_dye) := goodIn_app (goodIn_of _ (by decide +kernel)) ggX1_paint_X0_dye
theorem dX1_paint_0 : decode cX1_paint 0 = .ok (.aload_n 0, 1) := by decide +kernel
theorem dX1_paint_1 : decode cX1_paint 1 = .ok (.iload_n 1, 1) := by decide +kernel
theorem dX1_paint_2 : decode cX1_paint 2 = .ok (.iload_n 2, 1) := by decide +kernel
theorem dX1_paint_3 : decode cX1_paint 3 = .ok (.invokevirtual 44, 3) := by decide +kernel
theorem dX1_paint_6 : decode cX1_paint 6 = .ok (.ifCond .eq 10, 3) := by decide +kernel
theorem dX1_paint_9 : decode cX1_paint 9 = .ok (.iload_n 3, 1) := by decide +kernel
theorem dX1_paint_10 : decode cX1_paint 10 = .ok (.invokestatic 48, 3) := by decide +kernel
theorem dX1_paint_13 : decode cX1_paint 13 = .ok (.ifCond .ne 13, 3) := by decide +kernel
theorem dX1_paint_16 : decode cX1_paint 16 = .ok (.new 51, 3) := by decide +kernel
theorem dX1_paint_19 : decode cX1_paint 19 = .ok (.dup, 1) := by decide +kernel
theorem dX1_paint_20 : decode cX1_paint 20 = .ok (.ldc 53, 2) := by decide +kernel
theorem dX1_paint_22 : decode cX1_paint 22 = .ok (.invokespecial 55, 3) := by decide +kernel
theorem dX1_paint_25 : decode cX1_paint 25 = .ok (.athrow, 1) := by decide +kernel
theorem dX1_paint_26 : decode cX1_paint 26 = .ok (.aload_n 0, 1) := by decide +kernel
theorem dX1_paint_27 : decode cX1_paint 27 = .ok (.getfield 12, 3) := by decide +kernel
theorem dX1_paint_30 : decode cX1_paint 30 = .ok (.iload_n 1, 1) := by decide +kernel
theorem dX1_paint_31 : decode cX1_paint 31 = .ok (.iload_n 2, 1) := by decide +kernel
theorem dX1_paint_32 : decode cX1_paint 32 = .ok (.invokestatic 56, 3) := by decide +kernel
theorem dX1_paint_35 : decode cX1_paint 35 = .ok (.invokevirtual 60, 3) := by decide +kernel
theorem dX1_paint_38 : decode cX1_paint 38 = .ok (.istore 4, 2) := by decide +kernel
theorem dX1_paint_40 : decode cX1_paint 40 = .ok (.aload_n 0, 1) := by decide +kernel
theorem dX1_paint_41 : decode cX1_paint 41 = .ok (.getfield 12, 3) := by decide +kernel
theorem dX1_paint_44 : decode cX1_paint 44 = .ok (.iload_n 1, 1) := by decide +kernel
theorem dX1_paint_45 : decode cX1_paint 45 = .ok (.iload_n 2, 1) := by decide +kernel
theorem dX1_paint_46 : decode cX1_paint 46 = .ok (.invokestatic 56, 3) := by decide +kernel
theorem dX1_paint_49 : decode cX1_paint 49 = .ok (.iload_n 3, 1) := by decide +kernel
theorem dX1_paint_50 : decode cX1_paint 50 = .ok (.invokevirtual 64, 3) := by decide +kernel
theorem dX1_paint_53 : decode cX1_paint 53 = .ok (.iload 4, 2) := by decide +kernel
theorem dX1_paint_55 : decode cX1_paint 55 = .ok (.ireturn, 1) := by decide +kernel
set_option maxRecDepth 20000 in
theorem ggX1_turnStubborn_X1_isOnMap : GoodIn wsX1_turnStubborn wsX1_isOnMap := goodIn_r _ [9, 10, 11, 15, 16, 17, 18, 19] (by decide +kernel) (by decide +kernel)
set_option maxRecDepth 20000 in
theorem gX1_turnStubborn_X1_isOnMap : GoodIn wsX1_turnStubborn (wsV RX1 44 RX1 yX1_isOnMap wsX1_isOnMap) := goodIn_app (goodIn_of _ (by decide +kernel)) ggX1_turnStubborn_X1_isOnMap
set_option maxRecDepth 20000 in
theorem ggX1_turnStubborn_X1_cell : GoodIn wsX1_turnStubborn wsX1_cell := goodIn_r _ [14] (by decide +kernel) (by decide +kernel)
set_option maxRecDepth 20000 in
theorem gX1_turnStubborn_X1_cell : GoodIn wsX1_turnStubborn (va_wsS RX1 56 yX1_cell wsX1_cell) := goodIn_app (goodIn_of _ (by decide +kernel)) ggX1_turnStubborn_X1_cell
theorem dX1_turnStubborn_0 : decode cX1_turnStubborn 0 = .ok (.aload_n 0, 1) := by decide +kernel
theorem dX1_turnStubborn_1 : decode cX1_turnStubborn 1 = .ok (.iload_n 1, 1) := by decide +kernel
theorem dX1_turnStubborn_2 : decode cX1_turnStubborn 2 = .ok (.iload_n 2, 1) := by decide +kernel
theorem dX1_turnStubborn_3 : decode cX1_turnStubborn 3 = .ok (.invokevirtual 44, 3) := by decide +kernel
theorem dX1_turnStubborn_6 : decode cX1_turnStubborn 6 = .ok (.ifCond .ne 13, 3) := by decide +kernel
theorem dX1_turnStubborn_9 : decode cX1_turnStubborn 9 = .ok (.new 51, 3) := by decide +kernel
theorem dX1_turnStubborn_12 : decode cX1_turnStubborn 12 = .ok (.dup, 1) := by decide +kernel
theorem dX1_turnStubborn_13 : decode cX1_turnStubborn 13 = .ok (.ldc 67, 2) := by decide +kernel
theorem dX1_turnStubborn_15 : decode cX1_turnStubborn 15 = .ok (.invokespecial 55, 3) := by decide +kernel
theorem dX1_turnStubborn_18 : decode cX1_turnStubborn 18 = .ok (.athrow, 1) := by decide +kernel
theorem dX1_turnStubborn_19 : decode cX1_turnStubborn 19 = .ok (.aload_n 0, 1) := by decide +kernel
theorem dX1_turnStubborn_20 : decode cX1_turnStubborn 20 = .ok (.getfield 12, 3) := by decide +kernel
theorem dX1_turnStubborn_23 : decode cX1_turnStubborn 23 = .ok (.dup, 1) := by decide +kernel
theorem dX1_turnStubborn_24 : decode cX1_turnStubborn 24 = .ok (.getfield 69, 3) := by decide +kernel
theorem dX1_turnStubborn_27 : decode cX1_turnStubborn 27 = .ok (.iload_n 1, 1) := by decide +kernel
theorem dX1_turnStubborn_28 : decode cX1_turnStubborn 28 = .ok (.iload_n 2, 1) := by decide +kernel
theorem dX1_turnStubborn_29 : decode cX1_turnStubborn 29 = .ok (.invokestatic 56, 3) := by decide +kernel
theorem dX1_turnStubborn_32 : decode cX1_turnStubborn 32 = .ok (.ixor, 1) := by decide +kernel
theorem dX1_turnStubborn_33 : decode cX1_turnStubborn 33 = .ok (.putfield 69, 3) := by decide +kernel
theorem dX1_turnStubborn_36 : decode cX1_turnStubborn 36 = .ok (.aload_n 0, 1) := by decide +kernel
theorem dX1_turnStubborn_37 : decode cX1_turnStubborn 37 = .ok (.getfield 12, 3) := by decide +kernel
theorem dX1_turnStubborn_40 : decode cX1_turnStubborn 40 = .ok (.getfield 69, 3) := by decide +kernel
theorem dX1_turnStubborn_43 : decode cX1_turnStubborn 43 = .ok (.iload_n 1, 1) := by decide +kernel
theorem dX1_turnStubborn_44 : decode cX1_turnStubborn 44 = .ok (.iload_n 2, 1) := by decide +kernel
theorem dX1_turnStubborn_45 : decode cX1_turnStubborn 45 = .ok (.invokestatic 56, 3) := by decide +kernel
theorem dX1_turnStubborn_48 : decode cX1_turnStubborn 48 = .ok (.iand, 1) := by decide +kernel
theorem dX1_turnStubborn_49 : decode cX1_turnStubborn 49 = .ok (.ifCond .eq 7, 3) := by decide +kernel
theorem dX1_turnStubborn_52 : decode cX1_turnStubborn 52 = .ok (.iconst 1, 1) := by decide +kernel
theorem dX1_turnStubborn_53 : decode cX1_turnStubborn 53 = .ok (.goto 4, 3) := by decide +kernel
theorem dX1_turnStubborn_56 : decode cX1_turnStubborn 56 = .ok (.iconst 0, 1) := by decide +kernel
theorem dX1_turnStubborn_57 : decode cX1_turnStubborn 57 = .ok (.ireturn, 1) := by decide +kernel
theorem dX1_setNeed_0 : decode cX1_setNeed 0 = .ok (.iload_n 1, 1) := by decide +kernel
theorem dX1_setNeed_1 : decode cX1_setNeed 1 = .ok (.iconst 1, 1) := by decide +kernel
theorem dX1_setNeed_2 : decode cX1_setNeed 2 = .ok (.if_icmp .lt 8, 3) := by decide +kernel
theorem dX1_setNeed_5 : decode cX1_setNeed 5 = .ok (.iload_n 1, 1) := by decide +kernel
theorem dX1_setNeed_6 : decode cX1_setNeed 6 = .ok (.iconst 4, 1) := by decide +kernel
theorem dX1_setNeed_7 : decode cX1_setNeed 7 = .ok (.if_icmp .le 13, 3) := by decide +kernel
theorem dX1_setNeed_10 : decode cX1_setNeed 10 = .ok (.new 37, 3) := by decide +kernel
theorem dX1_setNeed_13 : decode cX1_setNeed 13 = .ok (.dup, 1) := by decide +kernel
theorem dX1_setNeed_14 : decode cX1_setNeed 14 = .ok (.ldc 72, 2) := by decide +kernel
theorem dX1_setNeed_16 : decode cX1_setNeed 16 = .ok (.invokespecial 41, 3) := by decide +kernel
theorem dX1_setNeed_19 : decode cX1_setNeed 19 = .ok (.athrow, 1) := by decide +kernel
theorem dX1_setNeed_20 : decode cX1_setNeed 20 = .ok (.aload_n 0, 1) := by decide +kernel
theorem dX1_setNeed_21 : decode cX1_setNeed 21 = .ok (.getfield 12, 3) := by decide +kernel
theorem dX1_setNeed_24 : decode cX1_setNeed 24 = .ok (.getfield 74, 3) := by decide +kernel
theorem dX1_setNeed_27 : decode cX1_setNeed 27 = .ok (.istore_n 2, 1) := by decide +kernel
theorem dX1_setNeed_28 : decode cX1_setNeed 28 = .ok (.aload_n 0, 1) := by decide +kernel
theorem dX1_setNeed_29 : decode cX1_setNeed 29 = .ok (.getfield 12, 3) := by decide +kernel
theorem dX1_setNeed_32 : decode cX1_setNeed 32 = .ok (.iload_n 1, 1) := by decide +kernel
theorem dX1_setNeed_33 : decode cX1_setNeed 33 = .ok (.putfield 74, 3) := by decide +kernel
theorem dX1_setNeed_36 : decode cX1_setNeed 36 = .ok (.iload_n 2, 1) := by decide +kernel
theorem dX1_setNeed_37 : decode cX1_setNeed 37 = .ok (.ireturn, 1) := by decide +kernel
set_option maxRecDepth 20000 in
theorem ggX1_pass_X0_surge : GoodIn wsX1_pass wsX0_surge := goodIn_r _ [9, 10, 11, 12, 8, 13, 14, 15, 16, 17, 18, 19, 20, 21, 22, 23, 24, 25, 26, 27, 28, 29, 30, 43, 44, 45, 46, 47, 48] (by decide +kernel) (by decide +kernel)
set_option maxRecDepth 20000 in
theorem gX1_pass_X0_surge : GoodIn wsX1_pass (wsV RX1 79 RX0 yX0_surge wsX0_surge) := goodIn_app (goodIn_of _ (by decide +kernel)) ggX1_pass_X0_surge
set_option maxRecDepth 20000 in
theorem ggX1_pass_J6_bitCount_0f7a4 : GoodIn wsX1_pass wsJ6_bitCount_0f7a4 := goodIn_r _ [34, 35, 36, 37] (by decide +kernel) (by decide +kernel)
set_option maxRecDepth 20000 in
theorem gX1_pass_J6_bitCount_0f7a4 : GoodIn wsX1_pass (va_wsS RX1 82 yJ6_bitCount_0f7a4 wsJ6_bitCount_0f7a4) := goodIn_app (goodIn_of _ (by decide +kernel)) ggX1_pass_J6_bitCount_0f7a4
theorem dX1_pass_0 : decode cX1_pass 0 = .ok (.iload_n 1, 1) := by decide +kernel
theorem dX1_pass_1 : decode cX1_pass 1 = .ok (.iconst 1, 1) := by decide +kernel
theorem dX1_pass_2 : decode cX1_pass 2 = .ok (.if_icmp .lt 9, 3) := by decide +kernel
theorem dX1_pass_5 : decode cX1_pass 5 = .ok (.iload_n 1, 1) := by decide +kernel
theorem dX1_pass_6 : decode cX1_pass 6 = .ok (.bipush 40, 2) := by decide +kernel
theorem dX1_pass_8 : decode cX1_pass 8 = .ok (.if_icmp .le 13, 3) := by decide +kernel
theorem dX1_pass_11 : decode cX1_pass 11 = .ok (.new 37, 3) := by decide +kernel
theorem dX1_pass_14 : decode cX1_pass 14 = .ok (.dup, 1) := by decide +kernel
theorem dX1_pass_15 : decode cX1_pass 15 = .ok (.ldc 77, 2) := by decide +kernel
theorem dX1_pass_17 : decode cX1_pass 17 = .ok (.invokespecial 41, 3) := by decide +kernel
theorem dX1_pass_20 : decode cX1_pass 20 = .ok (.athrow, 1) := by decide +kernel
theorem dX1_pass_21 : decode cX1_pass 21 = .ok (.aload_n 0, 1) := by decide +kernel
theorem dX1_pass_22 : decode cX1_pass 22 = .ok (.dup, 1) := by decide +kernel
theorem dX1_pass_23 : decode cX1_pass 23 = .ok (.getfield 26, 3) := by decide +kernel
theorem dX1_pass_26 : decode cX1_pass 26 = .ok (.iload_n 1, 1) := by decide +kernel
theorem dX1_pass_27 : decode cX1_pass 27 = .ok (.iadd, 1) := by decide +kernel
theorem dX1_pass_28 : decode cX1_pass 28 = .ok (.putfield 26, 3) := by decide +kernel
theorem dX1_pass_31 : decode cX1_pass 31 = .ok (.aload_n 0, 1) := by decide +kernel
theorem dX1_pass_32 : decode cX1_pass 32 = .ok (.getfield 12, 3) := by decide +kernel
theorem dX1_pass_35 : decode cX1_pass 35 = .ok (.iload_n 1, 1) := by decide +kernel
theorem dX1_pass_36 : decode cX1_pass 36 = .ok (.invokevirtual 79, 3) := by decide +kernel
theorem dX1_pass_39 : decode cX1_pass 39 = .ok (.invokestatic 82, 3) := by decide +kernel
theorem dX1_pass_42 : decode cX1_pass 42 = .ok (.ireturn, 1) := by decide +kernel
set_option maxRecDepth 20000 in
theorem ggX1_colourAt_X1_isOnMap : GoodIn wsX1_colourAt wsX1_isOnMap := goodIn_r _ [8, 9, 10, 23, 24, 25, 26, 27] (by decide +kernel) (by decide +kernel)
set_option maxRecDepth 20000 in
theorem gX1_colourAt_X1_isOnMap : GoodIn wsX1_colourAt (wsV RX1 44 RX1 yX1_isOnMap wsX1_isOnMap) := goodIn_app (goodIn_of _ (by decide +kernel)) ggX1_colourAt_X1_isOnMap
set_option maxRecDepth 20000 in
theorem ggX1_colourAt_X1_cell : GoodIn wsX1_colourAt wsX1_cell := goodIn_r _ [13] (by decide +kernel) (by decide +kernel)
set_option maxRecDepth 20000 in
theorem gX1_colourAt_X1_cell : GoodIn wsX1_colourAt (va_wsS RX1 56 yX1_cell wsX1_cell) := goodIn_app (goodIn_of _ (by decide +kernel)) ggX1_colourAt_X1_cell
set_option maxRecDepth 20000 in
theorem ggX1_colourAt_X0_colourOf : GoodIn wsX1_colourAt wsX0_colourOf := goodIn_r _ [18, 19, 20, 21, 17, 22, 28, 29, 30, 31, 32, 33] (by decide +kernel) (by decide +kernel)
set_option maxRecDepth 20000 in
theorem gX1_colourAt_X0_colourOf : GoodIn wsX1_colourAt (wsV RX1 60 RX0 yX0_colourOf wsX0_colourOf) := goodIn_app (goodIn_of _ (by decide +kernel)) ggX1_colourAt_X0_colourOf
theorem dX1_colourAt_0 : decode cX1_colourAt 0 = .ok (.aload_n 0, 1) := by decide +kernel
theorem dX1_colourAt_1 : decode cX1_colourAt 1 = .ok (.iload_n 1, 1) := by decide +kernel
theorem dX1_colourAt_2 : decode cX1_colourAt 2 = .ok (.iload_n 2, 1) := by decide +kernel
theorem dX1_colourAt_3 : decode cX1_colourAt 3 = .ok (.invokevirtual 44, 3) := by decide +kernel
theorem dX1_colourAt_6 : decode cX1_colourAt 6 = .ok (.ifCond .ne 13, 3) := by decide +kernel
theorem dX1_colourAt_9 : decode cX1_colourAt 9 = .ok (.new 51, 3) := by decide +kernel
theorem dX1_colourAt_12 : decode cX1_colourAt 12 = .ok (.dup, 1) := by decide +kernel
theorem dX1_colourAt_13 : decode cX1_colourAt 13 = .ok (.ldc 67, 2) := by decide +kernel
theorem dX1_colourAt_15 : decode cX1_colourAt 15 = .ok (.invokespecial 55, 3) := by decide +kernel
theorem dX1_colourAt_18 : decode cX1_colourAt 18 = .ok (.athrow, 1) := by decide +kernel
theorem dX1_colourAt_19 : decode cX1_colourAt 19 = .ok (.aload_n 0, 1) := by decide +kernel
theorem dX1_colourAt_20 : decode cX1_colourAt 20 = .ok (.getfield 12, 3) := by decide +kernel
theorem dX1_colourAt_23 : decode cX1_colourAt 23 = .ok (.iload_n 1, 1) := by decide +kernel
theorem dX1_colourAt_24 : decode cX1_colourAt 24 = .ok (.iload_n 2, 1) := by decide +kernel
theorem dX1_colourAt_25 : decode cX1_colourAt 25 = .ok (.invokestatic 56, 3) := by decide +kernel
theorem dX1_colourAt_28 : decode cX1_colourAt 28 = .ok (.invokevirtual 60, 3) := by decide +kernel
theorem dX1_colourAt_31 : decode cX1_colourAt 31 = .ok (.ireturn, 1) := by decide +kernel
set_option maxRecDepth 20000 in
theorem ggX1_isStubborn_X1_isOnMap : GoodIn wsX1_isStubborn wsX1_isOnMap := goodIn_r _ [9, 10, 11, 15, 16, 17, 18, 19] (by decide +kernel) (by decide +kernel)
set_option maxRecDepth 20000 in
theorem gX1_isStubborn_X1_isOnMap : GoodIn wsX1_isStubborn (wsV RX1 44 RX1 yX1_isOnMap wsX1_isOnMap) := goodIn_app (goodIn_of _ (by decide +kernel)) ggX1_isStubborn_X1_isOnMap
set_option maxRecDepth 20000 in
theorem ggX1_isStubborn_X1_cell : GoodIn wsX1_isStubborn wsX1_cell := goodIn_r _ [14] (by decide +kernel) (by decide +kernel)
set_option maxRecDepth 20000 in
theorem gX1_isStubborn_X1_cell : GoodIn wsX1_isStubborn (va_wsS RX1 56 yX1_cell wsX1_cell) := goodIn_app (goodIn_of _ (by decide +kernel)) ggX1_isStubborn_X1_cell
theorem dX1_isStubborn_0 : decode cX1_isStubborn 0 = .ok (.aload_n 0, 1) := by decide +kernel
theorem dX1_isStubborn_1 : decode cX1_isStubborn 1 = .ok (.iload_n 1, 1) := by decide +kernel
theorem dX1_isStubborn_2 : decode cX1_isStubborn 2 = .ok (.iload_n 2, 1) := by decide +kernel
theorem dX1_isStubborn_3 : decode cX1_isStubborn 3 = .ok (.invokevirtual 44, 3) := by decide +kernel
theorem dX1_isStubborn_6 : decode cX1_isStubborn 6 = .ok (.ifCond .ne 13, 3) := by decide +kernel
theorem dX1_isStubborn_9 : decode cX1_isStubborn 9 = .ok (.new 51, 3) := by decide +kernel
theorem dX1_isStubborn_12 : decode cX1_isStubborn 12 = .ok (.dup, 1) := by decide +kernel
theorem dX1_isStubborn_13 : decode cX1_isStubborn 13 = .ok (.ldc 67, 2) := by decide +kernel
theorem dX1_isStubborn_15 : decode cX1_isStubborn 15 = .ok (.invokespecial 55, 3) := by decide +kernel
theorem dX1_isStubborn_18 : decode cX1_isStubborn 18 = .ok (.athrow, 1) := by decide +kernel
theorem dX1_isStubborn_19 : decode cX1_isStubborn 19 = .ok (.aload_n 0, 1) := by decide +kernel
theorem dX1_isStubborn_20 : decode cX1_isStubborn 20 = .ok (.getfield 12, 3) := by decide +kernel
theorem dX1_isStubborn_23 : decode cX1_isStubborn 23 = .ok (.getfield 69, 3) := by decide +kernel
theorem dX1_isStubborn_26 : decode cX1_isStubborn 26 = .ok (.iload_n 1, 1) := by decide +kernel
theorem dX1_isStubborn_27 : decode cX1_isStubborn 27 = .ok (.iload_n 2, 1) := by decide +kernel
theorem dX1_isStubborn_28 : decode cX1_isStubborn 28 = .ok (.invokestatic 56, 3) := by decide +kernel
theorem dX1_isStubborn_31 : decode cX1_isStubborn 31 = .ok (.iand, 1) := by decide +kernel
theorem dX1_isStubborn_32 : decode cX1_isStubborn 32 = .ok (.ifCond .eq 7, 3) := by decide +kernel
theorem dX1_isStubborn_35 : decode cX1_isStubborn 35 = .ok (.iconst 1, 1) := by decide +kernel
theorem dX1_isStubborn_36 : decode cX1_isStubborn 36 = .ok (.goto 4, 3) := by decide +kernel
theorem dX1_isStubborn_39 : decode cX1_isStubborn 39 = .ok (.iconst 0, 1) := by decide +kernel
theorem dX1_isStubborn_40 : decode cX1_isStubborn 40 = .ok (.ireturn, 1) := by decide +kernel
set_option maxRecDepth 20000 in
theorem ggX1_neighboursWith_X1_isOnMap : GoodIn wsX1_neighboursWith wsX1_isOnMap := goodIn_r _ [8, 9, 10, 36, 37, 38, 39, 40] (by decide +kernel) (by decide +kernel)
set_option maxRecDepth 20000 in
theorem gX1_neighboursWith_X1_isOnMap : GoodIn wsX1_neighboursWith (wsV RX1 44 RX1 yX1_isOnMap wsX1_isOnMap) := goodIn_app (goodIn_of _ (by decide +kernel)) ggX1_neighboursWith_X1_isOnMap
set_option maxRecDepth 20000 in
theorem ggX1_neighboursWith_X1_isColourOrBare : GoodIn wsX1_neighboursWith wsX1_isColourOrBare := goodIn_r _ [13, 14, 15, 7, 16] (by decide +kernel) (by decide +kernel)
set_option maxRecDepth 20000 in
theorem gX1_neighboursWith_X1_isColourOrBare : GoodIn wsX1_neighboursWith (va_wsS RX1 48 yX1_isColourOrBare wsX1_isColourOrBare) := goodIn_app (goodIn_of _ (by decide +kernel)) ggX1_neighboursWith_X1_isColourOrBare
set_option maxRecDepth 20000 in
theorem ggX1_neighboursWith_X1_cell : GoodIn wsX1_neighboursWith wsX1_cell := goodIn_r _ [19] (by decide +kernel) (by decide +kernel)
set_option maxRecDepth 20000 in
theorem gX1_neighboursWith_X1_cell : GoodIn wsX1_neighboursWith (va_wsS RX1 56 yX1_cell wsX1_cell) := goodIn_app (goodIn_of _ (by decide +kernel)) ggX1_neighboursWith_X1_cell
set_option maxRecDepth 20000 in
theorem ggX1_neighboursWith_X1_nextTo : GoodIn wsX1_neighboursWith wsX1_nextTo := goodIn_r _ [22] (by decide +kernel) (by decide +kernel)
set_option maxRecDepth 20000 in
theorem gX1_neighboursWith_X1_nextTo : GoodIn wsX1_neighboursWith (va_wsS RX1 87 yX1_nextTo wsX1_nextTo) := goodIn_app (goodIn_of _ (by decide +kernel)) ggX1_neighboursWith_X1_nextTo
set_option maxRecDepth 20000 in
theorem ggX1_neighboursWith_X0_cellsWith : GoodIn wsX1_neighboursWith wsX0_cellsWith := goodIn_r _ [27, 28, 41, 42, 43, 44, 45, 46] (by decide +kernel) (by decide +kernel)
set_option maxRecDepth 20000 in
theorem gX1_neighboursWith_X0_cellsWith : GoodIn wsX1_neighboursWith (wsV RX1 90 RX0 yX0_cellsWith wsX0_cellsWith) := goodIn_app (goodIn_of _ (by decide +kernel)) ggX1_neighboursWith_X0_cellsWith
set_option maxRecDepth 20000 in
theorem ggX1_neighboursWith_J6_bitCount_0f7a4 : GoodIn wsX1_neighboursWith wsJ6_bitCount_0f7a4 := goodIn_r _ [32, 33, 34, 35] (by decide +kernel) (by decide +kernel)
set_option maxRecDepth 20000 in
theorem gX1_neighboursWith_J6_bitCount_0f7a4 : GoodIn wsX1_neighboursWith (va_wsS RX1 82 yJ6_bitCount_0f7a4 wsJ6_bitCount_0f7a4) := goodIn_app (goodIn_of _ (by decide +kernel)) ggX1_neighboursWith_J6_bitCount_0f7a4
theorem dX1_neighboursWith_0 : decode cX1_neighboursWith 0 = .ok (.aload_n 0, 1) := by decide +kernel
theorem dX1_neighboursWith_1 : decode cX1_neighboursWith 1 = .ok (.iload_n 1, 1) := by decide +kernel
theorem dX1_neighboursWith_2 : decode cX1_neighboursWith 2 = .ok (.iload_n 2, 1) := by decide +kernel
theorem dX1_neighboursWith_3 : decode cX1_neighboursWith 3 = .ok (.invokevirtual 44, 3) := by decide +kernel
theorem dX1_neighboursWith_6 : decode cX1_neighboursWith 6 = .ok (.ifCond .eq 10, 3) := by decide +kernel
theorem dX1_neighboursWith_9 : decode cX1_neighboursWith 9 = .ok (.iload_n 3, 1) := by decide +kernel
theorem dX1_neighboursWith_10 : decode cX1_neighboursWith 10 = .ok (.invokestatic 48, 3) := by decide +kernel
theorem dX1_neighboursWith_13 : decode cX1_neighboursWith 13 = .ok (.ifCond .ne 13, 3) := by decide +kernel
theorem dX1_neighboursWith_16 : decode cX1_neighboursWith 16 = .ok (.new 51, 3) := by decide +kernel
theorem dX1_neighboursWith_19 : decode cX1_neighboursWith 19 = .ok (.dup, 1) := by decide +kernel
theorem dX1_neighboursWith_20 : decode cX1_neighboursWith 20 = .ok (.ldc 53, 2) := by decide +kernel
theorem dX1_neighboursWith_22 : decode cX1_neighboursWith 22 = .ok (.invokespecial 55, 3) := by decide +kernel
theorem dX1_neighboursWith_25 : decode cX1_neighboursWith 25 = .ok (.athrow, 1) := by decide +kernel
theorem dX1_neighboursWith_26 : decode cX1_neighboursWith 26 = .ok (.iload_n 1, 1) := by decide +kernel
theorem dX1_neighboursWith_27 : decode cX1_neighboursWith 27 = .ok (.iload_n 2, 1) := by decide +kernel
theorem dX1_neighboursWith_28 : decode cX1_neighboursWith 28 = .ok (.invokestatic 56, 3) := by decide +kernel
theorem dX1_neighboursWith_31 : decode cX1_neighboursWith 31 = .ok (.invokestatic 87, 3) := by decide +kernel
theorem dX1_neighboursWith_34 : decode cX1_neighboursWith 34 = .ok (.aload_n 0, 1) := by decide +kernel
theorem dX1_neighboursWith_35 : decode cX1_neighboursWith 35 = .ok (.getfield 12, 3) := by decide +kernel
theorem dX1_neighboursWith_38 : decode cX1_neighboursWith 38 = .ok (.iload_n 3, 1) := by decide +kernel
theorem dX1_neighboursWith_39 : decode cX1_neighboursWith 39 = .ok (.invokevirtual 90, 3) := by decide +kernel
theorem dX1_neighboursWith_42 : decode cX1_neighboursWith 42 = .ok (.iand, 1) := by decide +kernel
theorem dX1_neighboursWith_43 : decode cX1_neighboursWith 43 = .ok (.invokestatic 82, 3) := by decide +kernel
theorem dX1_neighboursWith_46 : decode cX1_neighboursWith 46 = .ok (.ireturn, 1) := by decide +kernel
set_option maxRecDepth 20000 in
theorem ggX1_nextColour_X1_isOnMap : GoodIn wsX1_nextColour wsX1_isOnMap := goodIn_r _ [8, 9, 10, 43, 44, 45, 46, 47] (by decide +kernel) (by decide +kernel)
set_option maxRecDepth 20000 in
theorem gX1_nextColour_X1_isOnMap : GoodIn wsX1_nextColour (wsV RX1 44 RX1 yX1_isOnMap wsX1_isOnMap) := goodIn_app (goodIn_of _ (by decide +kernel)) ggX1_nextColour_X1_isOnMap
set_option maxRecDepth 20000 in
theorem ggX1_nextColour_X0_foresee : GoodIn wsX1_nextColour wsX0_foresee := goodIn_r _ [15, 16, 17, 18, 19, 20, 21, 14, 22, 23, 24, 25, 26, 27, 28, 48, 49, 50, 51, 52, 53] (by decide +kernel) (by decide +kernel)
set_option maxRecDepth 20000 in
theorem gX1_nextColour_X0_foresee : GoodIn wsX1_nextColour (wsV RX1 93 RX0 yX0_foresee wsX0_foresee) := goodIn_app (goodIn_of _ (by decide +kernel)) ggX1_nextColour_X0_foresee
set_option maxRecDepth 20000 in
theorem ggX1_nextColour_X1_cell : GoodIn wsX1_nextColour wsX1_cell := goodIn_r _ [31] (by decide +kernel) (by decide +kernel)
set_option maxRecDepth 20000 in
theorem gX1_nextColour_X1_cell : GoodIn wsX1_nextColour (va_wsS RX1 56 yX1_cell wsX1_cell) := goodIn_app (goodIn_of _ (by decide +kernel)) ggX1_nextColour_X1_cell
set_option maxRecDepth 20000 in
theorem ggX1_nextColour_X0_foreseenColourOf : GoodIn wsX1_nextColour wsX0_foreseenColourOf := goodIn_r _ [35, 16, 36, 37, 14, 38, 39, 40, 41, 42, 18, 48, 49, 50, 51, 52, 53] (by decide +kernel) (by decide +kernel)
set_option maxRecDepth 20000 in
theorem gX1_nextColour_X0_foreseenColourOf : GoodIn wsX1_nextColour (wsV RX1 97 RX0 yX0_foreseenColourOf wsX0_foreseenColourOf) := goodIn_app (goodIn_of _ (by decide +kernel)) ggX1_nextColour_X0_foreseenColourOf
theorem dX1_nextColour_0 : decode cX1_nextColour 0 = .ok (.aload_n 0, 1) := by decide +kernel
theorem dX1_nextColour_1 : decode cX1_nextColour 1 = .ok (.iload_n 1, 1) := by decide +kernel
theorem dX1_nextColour_2 : decode cX1_nextColour 2 = .ok (.iload_n 2, 1) := by decide +kernel
theorem dX1_nextColour_3 : decode cX1_nextColour 3 = .ok (.invokevirtual 44, 3) := by decide +kernel
theorem dX1_nextColour_6 : decode cX1_nextColour 6 = .ok (.ifCond .ne 13, 3) := by decide +kernel
theorem dX1_nextColour_9 : decode cX1_nextColour 9 = .ok (.new 51, 3) := by decide +kernel
theorem dX1_nextColour_12 : decode cX1_nextColour 12 = .ok (.dup, 1) := by decide +kernel
theorem dX1_nextColour_13 : decode cX1_nextColour 13 = .ok (.ldc 67, 2) := by decide +kernel
theorem dX1_nextColour_15 : decode cX1_nextColour 15 = .ok (.invokespecial 55, 3) := by decide +kernel
theorem dX1_nextColour_18 : decode cX1_nextColour 18 = .ok (.athrow, 1) := by decide +kernel
theorem dX1_nextColour_19 : decode cX1_nextColour 19 = .ok (.aload_n 0, 1) := by decide +kernel
theorem dX1_nextColour_20 : decode cX1_nextColour 20 = .ok (.getfield 12, 3) := by decide +kernel
theorem dX1_nextColour_23 : decode cX1_nextColour 23 = .ok (.invokevirtual 93, 3) := by decide +kernel
theorem dX1_nextColour_26 : decode cX1_nextColour 26 = .ok (.pop, 1) := by decide +kernel
theorem dX1_nextColour_27 : decode cX1_nextColour 27 = .ok (.aload_n 0, 1) := by decide +kernel
theorem dX1_nextColour_28 : decode cX1_nextColour 28 = .ok (.getfield 12, 3) := by decide +kernel
theorem dX1_nextColour_31 : decode cX1_nextColour 31 = .ok (.iload_n 1, 1) := by decide +kernel
theorem dX1_nextColour_32 : decode cX1_nextColour 32 = .ok (.iload_n 2, 1) := by decide +kernel
theorem dX1_nextColour_33 : decode cX1_nextColour 33 = .ok (.invokestatic 56, 3) := by decide +kernel
theorem dX1_nextColour_36 : decode cX1_nextColour 36 = .ok (.invokevirtual 97, 3) := by decide +kernel
theorem dX1_nextColour_39 : decode cX1_nextColour 39 = .ok (.ireturn, 1) := by decide +kernel
set_option maxRecDepth 20000 in
theorem ggX1_regionSize_X1_isOnMap : GoodIn wsX1_regionSize wsX1_isOnMap := goodIn_r _ [8, 9, 10, 43, 44, 45, 46, 47] (by decide +kernel) (by decide +kernel)
set_option maxRecDepth 20000 in
theorem gX1_regionSize_X1_isOnMap : GoodIn wsX1_regionSize (wsV RX1 44 RX1 yX1_isOnMap wsX1_isOnMap) := goodIn_app (goodIn_of _ (by decide +kernel)) ggX1_regionSize_X1_isOnMap
set_option maxRecDepth 20000 in
theorem ggX1_regionSize_X1_cell : GoodIn wsX1_regionSize wsX1_cell := goodIn_r _ [13] (by decide +kernel) (by decide +kernel)
set_option maxRecDepth 20000 in
theorem gX1_regionSize_X1_cell : GoodIn wsX1_regionSize (va_wsS RX1 56 yX1_cell wsX1_cell) := goodIn_app (goodIn_of _ (by decide +kernel)) ggX1_regionSize_X1_cell
set_option maxRecDepth 20000 in
theorem ggX1_regionSize_X0_sizeOfRegion : GoodIn wsX1_regionSize wsX0_sizeOfRegion := goodIn_r _ [18, 19, 20, 21, 17, 22, 23, 24, 25, 26, 27, 28, 29, 30, 31, 32, 33, 34, 7, 35, 36, 37, 38, 39, 40, 41, 42, 48, 49, 50, 51, 52, 53] (by decide +kernel) (by decide +kernel)
set_option maxRecDepth 20000 in
theorem gX1_regionSize_X0_sizeOfRegion : GoodIn wsX1_regionSize (wsV RX1 100 RX0 yX0_sizeOfRegion wsX0_sizeOfRegion) := goodIn_app (goodIn_of _ (by decide +kernel)) ggX1_regionSize_X0_sizeOfRegion
theorem dX1_regionSize_0 : decode cX1_regionSize 0 = .ok (.aload_n 0, 1) := by decide +kernel
theorem dX1_regionSize_1 : decode cX1_regionSize 1 = .ok (.iload_n 1, 1) := by decide +kernel
theorem dX1_regionSize_2 : decode cX1_regionSize 2 = .ok (.iload_n 2, 1) := by decide +kernel
theorem dX1_regionSize_3 : decode cX1_regionSize 3 = .ok (.invokevirtual 44, 3) := by decide +kernel
theorem dX1_regionSize_6 : decode cX1_regionSize 6 = .ok (.ifCond .ne 13, 3) := by decide +kernel
theorem dX1_regionSize_9 : decode cX1_regionSize 9 = .ok (.new 51, 3) := by decide +kernel
theorem dX1_regionSize_12 : decode cX1_regionSize 12 = .ok (.dup, 1) := by decide +kernel
theorem dX1_regionSize_13 : decode cX1_regionSize 13 = .ok (.ldc 67, 2) := by decide +kernel
theorem dX1_regionSize_15 : decode cX1_regionSize 15 = .ok (.invokespecial 55, 3) := by decide +kernel
theorem dX1_regionSize_18 : decode cX1_regionSize 18 = .ok (.athrow, 1) := by decide +kernel
theorem dX1_regionSize_19 : decode cX1_regionSize 19 = .ok (.aload_n 0, 1) := by decide +kernel
theorem dX1_regionSize_20 : decode cX1_regionSize 20 = .ok (.getfield 12, 3) := by decide +kernel
theorem dX1_regionSize_23 : decode cX1_regionSize 23 = .ok (.iload_n 1, 1) := by decide +kernel
theorem dX1_regionSize_24 : decode cX1_regionSize 24 = .ok (.iload_n 2, 1) := by decide +kernel
theorem dX1_regionSize_25 : decode cX1_regionSize 25 = .ok (.invokestatic 56, 3) := by decide +kernel
theorem dX1_regionSize_28 : decode cX1_regionSize 28 = .ok (.invokevirtual 100, 3) := by decide +kernel
theorem dX1_regionSize_31 : decode cX1_regionSize 31 = .ok (.ireturn, 1) := by decide +kernel
theorem dX1_width_0 : decode cX1_width 0 = .ok (.aload_n 0, 1) := by decide +kernel
theorem dX1_width_1 : decode cX1_width 1 = .ok (.getfield 19, 3) := by decide +kernel
theorem dX1_width_4 : decode cX1_width 4 = .ok (.ireturn, 1) := by decide +kernel
theorem dX1_height_0 : decode cX1_height 0 = .ok (.aload_n 0, 1) := by decide +kernel
theorem dX1_height_1 : decode cX1_height 1 = .ok (.getfield 23, 3) := by decide +kernel
theorem dX1_height_4 : decode cX1_height 4 = .ok (.ireturn, 1) := by decide +kernel
theorem dX1_need_0 : decode cX1_need 0 = .ok (.aload_n 0, 1) := by decide +kernel
theorem dX1_need_1 : decode cX1_need 1 = .ok (.getfield 12, 3) := by decide +kernel
theorem dX1_need_4 : decode cX1_need 4 = .ok (.getfield 74, 3) := by decide +kernel
theorem dX1_need_7 : decode cX1_need 7 = .ok (.ireturn, 1) := by decide +kernel
theorem dX1_waves_0 : decode cX1_waves 0 = .ok (.aload_n 0, 1) := by decide +kernel
theorem dX1_waves_1 : decode cX1_waves 1 = .ok (.getfield 26, 3) := by decide +kernel
theorem dX1_waves_4 : decode cX1_waves 4 = .ok (.ireturn, 1) := by decide +kernel
set_option maxRecDepth 20000 in
theorem ggX1_stubbornCells_J6_bitCount_0f7a4 : GoodIn wsX1_stubbornCells wsJ6_bitCount_0f7a4 := goodIn_r _ [6, 7, 8, 9] (by decide +kernel) (by decide +kernel)
set_option maxRecDepth 20000 in
theorem gX1_stubbornCells_J6_bitCount_0f7a4 : GoodIn wsX1_stubbornCells (va_wsS RX1 82 yJ6_bitCount_0f7a4 wsJ6_bitCount_0f7a4) := goodIn_app (goodIn_of _ (by decide +kernel)) ggX1_stubbornCells_J6_bitCount_0f7a4
theorem dX1_stubbornCells_0 : decode cX1_stubbornCells 0 = .ok (.aload_n 0, 1) := by decide +kernel
theorem dX1_stubbornCells_1 : decode cX1_stubbornCells 1 = .ok (.getfield 12, 3) := by decide +kernel
theorem dX1_stubbornCells_4 : decode cX1_stubbornCells 4 = .ok (.getfield 69, 3) := by decide +kernel
theorem dX1_stubbornCells_7 : decode cX1_stubbornCells 7 = .ok (.invokestatic 82, 3) := by decide +kernel
theorem dX1_stubbornCells_10 : decode cX1_stubbornCells 10 = .ok (.ireturn, 1) := by decide +kernel
set_option maxRecDepth 20000 in
theorem ggX1_cellsOf_X1_isColourOrBare : GoodIn wsX1_cellsOf wsX1_isColourOrBare := goodIn_r _ [7, 8, 9, 6, 10] (by decide +kernel) (by decide +kernel)
set_option maxRecDepth 20000 in
theorem gX1_cellsOf_X1_isColourOrBare : GoodIn wsX1_cellsOf (va_wsS RX1 48 yX1_isColourOrBare wsX1_isColourOrBare) := goodIn_app (goodIn_of _ (by decide +kernel)) ggX1_cellsOf_X1_isColourOrBare
set_option maxRecDepth 20000 in
theorem ggX1_cellsOf_X0_count : GoodIn wsX1_cellsOf wsX0_count := goodIn_r _ [15, 16, 17, 18, 14, 19, 20, 21, 22, 23, 24, 25, 26, 27, 33, 34, 35, 36, 37, 38] (by decide +kernel) (by decide +kernel)
set_option maxRecDepth 20000 in
theorem gX1_cellsOf_X0_count : GoodIn wsX1_cellsOf (wsV RX1 105 RX0 yX0_count wsX0_count) := goodIn_app (goodIn_of _ (by decide +kernel)) ggX1_cellsOf_X0_count
theorem dX1_cellsOf_0 : decode cX1_cellsOf 0 = .ok (.iload_n 1, 1) := by decide +kernel
theorem dX1_cellsOf_1 : decode cX1_cellsOf 1 = .ok (.invokestatic 48, 3) := by decide +kernel
theorem dX1_cellsOf_4 : decode cX1_cellsOf 4 = .ok (.ifCond .ne 13, 3) := by decide +kernel
theorem dX1_cellsOf_7 : decode cX1_cellsOf 7 = .ok (.new 51, 3) := by decide +kernel
theorem dX1_cellsOf_10 : decode cX1_cellsOf 10 = .ok (.dup, 1) := by decide +kernel
theorem dX1_cellsOf_11 : decode cX1_cellsOf 11 = .ok (.ldc 103, 2) := by decide +kernel
theorem dX1_cellsOf_13 : decode cX1_cellsOf 13 = .ok (.invokespecial 55, 3) := by decide +kernel
theorem dX1_cellsOf_16 : decode cX1_cellsOf 16 = .ok (.athrow, 1) := by decide +kernel
theorem dX1_cellsOf_17 : decode cX1_cellsOf 17 = .ok (.aload_n 0, 1) := by decide +kernel
theorem dX1_cellsOf_18 : decode cX1_cellsOf 18 = .ok (.getfield 12, 3) := by decide +kernel
theorem dX1_cellsOf_21 : decode cX1_cellsOf 21 = .ok (.iload_n 1, 1) := by decide +kernel
theorem dX1_cellsOf_22 : decode cX1_cellsOf 22 = .ok (.invokevirtual 105, 3) := by decide +kernel
theorem dX1_cellsOf_25 : decode cX1_cellsOf 25 = .ok (.ireturn, 1) := by decide +kernel
set_option maxRecDepth 20000 in
theorem ggX1_regionsOf_X1_isColour : GoodIn wsX1_regionsOf wsX1_isColour := goodIn_r _ [7] (by decide +kernel) (by decide +kernel)
set_option maxRecDepth 20000 in
theorem gX1_regionsOf_X1_isColour : GoodIn wsX1_regionsOf (va_wsS RX1 108 yX1_isColour wsX1_isColour) := goodIn_app (goodIn_of _ (by decide +kernel)) ggX1_regionsOf_X1_isColour
set_option maxRecDepth 20000 in
theorem ggX1_regionsOf_X0_countRegions : GoodIn wsX1_regionsOf wsX0_countRegions := goodIn_r _ [12, 13, 14, 15, 11, 16, 17, 18, 19, 20, 21, 6, 22, 28, 29, 30, 31, 32, 33] (by decide +kernel) (by decide +kernel)
set_option maxRecDepth 20000 in
theorem gX1_regionsOf_X0_countRegions : GoodIn wsX1_regionsOf (wsV RX1 111 RX0 yX0_countRegions wsX0_countRegions) := goodIn_app (goodIn_of _ (by decide +kernel)) ggX1_regionsOf_X0_countRegions
theorem dX1_regionsOf_0 : decode cX1_regionsOf 0 = .ok (.iload_n 1, 1) := by decide +kernel
theorem dX1_regionsOf_1 : decode cX1_regionsOf 1 = .ok (.invokestatic 108, 3) := by decide +kernel
theorem dX1_regionsOf_4 : decode cX1_regionsOf 4 = .ok (.ifCond .ne 13, 3) := by decide +kernel
theorem dX1_regionsOf_7 : decode cX1_regionsOf 7 = .ok (.new 51, 3) := by decide +kernel
theorem dX1_regionsOf_10 : decode cX1_regionsOf 10 = .ok (.dup, 1) := by decide +kernel
theorem dX1_regionsOf_11 : decode cX1_regionsOf 11 = .ok (.ldc 103, 2) := by decide +kernel
theorem dX1_regionsOf_13 : decode cX1_regionsOf 13 = .ok (.invokespecial 55, 3) := by decide +kernel
theorem dX1_regionsOf_16 : decode cX1_regionsOf 16 = .ok (.athrow, 1) := by decide +kernel
theorem dX1_regionsOf_17 : decode cX1_regionsOf 17 = .ok (.aload_n 0, 1) := by decide +kernel
theorem dX1_regionsOf_18 : decode cX1_regionsOf 18 = .ok (.getfield 12, 3) := by decide +kernel
theorem dX1_regionsOf_21 : decode cX1_regionsOf 21 = .ok (.iload_n 1, 1) := by decide +kernel
theorem dX1_regionsOf_22 : decode cX1_regionsOf 22 = .ok (.invokevirtual 111, 3) := by decide +kernel
theorem dX1_regionsOf_25 : decode cX1_regionsOf 25 = .ok (.ireturn, 1) := by decide +kernel
set_option maxRecDepth 20000 in
theorem ggX1_greatestRegion_X1_isColour : GoodIn wsX1_greatestRegion wsX1_isColour := goodIn_r _ [7] (by decide +kernel) (by decide +kernel)
set_option maxRecDepth 20000 in
theorem gX1_greatestRegion_X1_isColour : GoodIn wsX1_greatestRegion (va_wsS RX1 108 yX1_isColour wsX1_isColour) := goodIn_app (goodIn_of _ (by decide +kernel)) ggX1_greatestRegion_X1_isColour
set_option maxRecDepth 20000 in
theorem ggX1_greatestRegion_X0_sizeOfGreatestRegion : GoodIn wsX1_greatestRegion wsX0_sizeOfGreatestRegion := goodIn_r _ [12, 13, 14, 15, 16, 17, 18, 19, 11, 20, 21, 22, 23, 24, 25, 6, 26, 27, 28, 29, 30, 31, 32, 33, 39, 40, 41, 42, 43, 44] (by decide +kernel) (by decide +kernel)
set_option maxRecDepth 20000 in
theorem gX1_greatestRegion_X0_sizeOfGreatestRegion : GoodIn wsX1_greatestRegion (wsV RX1 114 RX0 yX0_sizeOfGreatestRegion wsX0_sizeOfGreatestRegion) := goodIn_app (goodIn_of _ (by decide +kernel)) ggX1_greatestRegion_X0_sizeOfGreatestRegion
theorem dX1_greatestRegion_0 : decode cX1_greatestRegion 0 = .ok (.iload_n 1, 1) := by decide +kernel
theorem dX1_greatestRegion_1 : decode cX1_greatestRegion 1 = .ok (.invokestatic 108, 3) := by decide +kernel
theorem dX1_greatestRegion_4 : decode cX1_greatestRegion 4 = .ok (.ifCond .ne 13, 3) := by decide +kernel
theorem dX1_greatestRegion_7 : decode cX1_greatestRegion 7 = .ok (.new 51, 3) := by decide +kernel
theorem dX1_greatestRegion_10 : decode cX1_greatestRegion 10 = .ok (.dup, 1) := by decide +kernel
theorem dX1_greatestRegion_11 : decode cX1_greatestRegion 11 = .ok (.ldc 103, 2) := by decide +kernel
theorem dX1_greatestRegion_13 : decode cX1_greatestRegion 13 = .ok (.invokespecial 55, 3) := by decide +kernel
theorem dX1_greatestRegion_16 : decode cX1_greatestRegion 16 = .ok (.athrow, 1) := by decide +kernel
theorem dX1_greatestRegion_17 : decode cX1_greatestRegion 17 = .ok (.aload_n 0, 1) := by decide +kernel
theorem dX1_greatestRegion_18 : decode cX1_greatestRegion 18 = .ok (.getfield 12, 3) := by decide +kernel
theorem dX1_greatestRegion_21 : decode cX1_greatestRegion 21 = .ok (.iload_n 1, 1) := by decide +kernel
theorem dX1_greatestRegion_22 : decode cX1_greatestRegion 22 = .ok (.invokevirtual 114, 3) := by decide +kernel
theorem dX1_greatestRegion_25 : decode cX1_greatestRegion 25 = .ok (.ireturn, 1) := by decide +kernel
set_option maxRecDepth 20000 in
theorem ggX1_borders_X0_countBorders : GoodIn wsX1_borders wsX0_countBorders := goodIn_r _ [6, 7, 8, 9, 10, 5, 11, 12, 13, 14, 15, 16, 17, 18, 24, 25, 26, 27, 28, 29] (by decide +kernel) (by decide +kernel)
set_option maxRecDepth 20000 in
theorem gX1_borders_X0_countBorders : GoodIn wsX1_borders (wsV RX1 117 RX0 yX0_countBorders wsX0_countBorders) := goodIn_app (goodIn_of _ (by decide +kernel)) ggX1_borders_X0_countBorders
theorem dX1_borders_0 : decode cX1_borders 0 = .ok (.aload_n 0, 1) := by decide +kernel
theorem dX1_borders_1 : decode cX1_borders 1 = .ok (.getfield 12, 3) := by decide +kernel
theorem dX1_borders_4 : decode cX1_borders 4 = .ok (.invokevirtual 117, 3) := by decide +kernel
theorem dX1_borders_7 : decode cX1_borders 7 = .ok (.ireturn, 1) := by decide +kernel
set_option maxRecDepth 20000 in
theorem ggX1_leader_X0_count : GoodIn wsX1_leader wsX0_count := goodIn_r _ [6, 7, 8, 9, 5, 10, 11, 12, 13, 14, 15, 16, 17, 18, 24, 25, 26, 27, 28, 29] (by decide +kernel) (by decide +kernel)
set_option maxRecDepth 20000 in
theorem gX1_leader_X0_count : GoodIn wsX1_leader (wsV RX1 105 RX0 yX0_count wsX0_count) := goodIn_app (goodIn_of _ (by decide +kernel)) ggX1_leader_X0_count
theorem dX1_leader_0 : decode cX1_leader 0 = .ok (.iconst 0, 1) := by decide +kernel
theorem dX1_leader_1 : decode cX1_leader 1 = .ok (.istore_n 1, 1) := by decide +kernel
theorem dX1_leader_2 : decode cX1_leader 2 = .ok (.iconst 0, 1) := by decide +kernel
theorem dX1_leader_3 : decode cX1_leader 3 = .ok (.istore_n 2, 1) := by decide +kernel
theorem dX1_leader_4 : decode cX1_leader 4 = .ok (.iconst 1, 1) := by decide +kernel
theorem dX1_leader_5 : decode cX1_leader 5 = .ok (.istore_n 3, 1) := by decide +kernel
theorem dX1_leader_6 : decode cX1_leader 6 = .ok (.iload_n 3, 1) := by decide +kernel
theorem dX1_leader_7 : decode cX1_leader 7 = .ok (.iconst 4, 1) := by decide +kernel
theorem dX1_leader_8 : decode cX1_leader 8 = .ok (.if_icmp .gt 30, 3) := by decide +kernel
theorem dX1_leader_11 : decode cX1_leader 11 = .ok (.aload_n 0, 1) := by decide +kernel
theorem dX1_leader_12 : decode cX1_leader 12 = .ok (.getfield 12, 3) := by decide +kernel
theorem dX1_leader_15 : decode cX1_leader 15 = .ok (.iload_n 3, 1) := by decide +kernel
theorem dX1_leader_16 : decode cX1_leader 16 = .ok (.invokevirtual 105, 3) := by decide +kernel
theorem dX1_leader_19 : decode cX1_leader 19 = .ok (.istore 4, 2) := by decide +kernel
theorem dX1_leader_21 : decode cX1_leader 21 = .ok (.iload 4, 2) := by decide +kernel
theorem dX1_leader_23 : decode cX1_leader 23 = .ok (.iload_n 2, 1) := by decide +kernel
theorem dX1_leader_24 : decode cX1_leader 24 = .ok (.if_icmp .le 8, 3) := by decide +kernel
theorem dX1_leader_27 : decode cX1_leader 27 = .ok (.iload 4, 2) := by decide +kernel
theorem dX1_leader_29 : decode cX1_leader 29 = .ok (.istore_n 2, 1) := by decide +kernel
theorem dX1_leader_30 : decode cX1_leader 30 = .ok (.iload_n 3, 1) := by decide +kernel
theorem dX1_leader_31 : decode cX1_leader 31 = .ok (.istore_n 1, 1) := by decide +kernel
theorem dX1_leader_32 : decode cX1_leader 32 = .ok (.iinc 3 1, 3) := by decide +kernel
theorem dX1_leader_35 : decode cX1_leader 35 = .ok (.goto (-29), 3) := by decide +kernel
theorem dX1_leader_38 : decode cX1_leader 38 = .ok (.iload_n 1, 1) := by decide +kernel
theorem dX1_leader_39 : decode cX1_leader 39 = .ok (.ireturn, 1) := by decide +kernel
set_option maxRecDepth 20000 in
theorem ggX1_isStill_X0_foresee : GoodIn wsX1_isStill wsX0_foresee := goodIn_r _ [6, 7, 8, 9, 10, 11, 12, 5, 13, 14, 15, 16, 17, 18, 19, 25, 26, 27, 28, 29, 30] (by decide +kernel) (by decide +kernel)
set_option maxRecDepth 20000 in
theorem gX1_isStill_X0_foresee : GoodIn wsX1_isStill (wsV RX1 93 RX0 yX0_foresee wsX0_foresee) := goodIn_app (goodIn_of _ (by decide +kernel)) ggX1_isStill_X0_foresee
theorem dX1_isStill_0 : decode cX1_isStill 0 = .ok (.aload_n 0, 1) := by decide +kernel
theorem dX1_isStill_1 : decode cX1_isStill 1 = .ok (.getfield 12, 3) := by decide +kernel
theorem dX1_isStill_4 : decode cX1_isStill 4 = .ok (.invokevirtual 93, 3) := by decide +kernel
theorem dX1_isStill_7 : decode cX1_isStill 7 = .ok (.ifCond .ne 7, 3) := by decide +kernel
theorem dX1_isStill_10 : decode cX1_isStill 10 = .ok (.iconst 1, 1) := by decide +kernel
theorem dX1_isStill_11 : decode cX1_isStill 11 = .ok (.goto 4, 3) := by decide +kernel
theorem dX1_isStill_14 : decode cX1_isStill 14 = .ok (.iconst 0, 1) := by decide +kernel
theorem dX1_isStill_15 : decode cX1_isStill 15 = .ok (.ireturn, 1) := by decide +kernel
set_option maxRecDepth 20000 in
theorem ggX1_winner_X0_isAll : GoodIn wsX1_winner wsX0_isAll := goodIn_r _ [6, 7, 8, 9, 10, 5, 11, 12, 18, 19, 20, 21, 22, 23] (by decide +kernel) (by decide +kernel)
set_option maxRecDepth 20000 in
theorem gX1_winner_X0_isAll : GoodIn wsX1_winner (wsV RX1 120 RX0 yX0_isAll wsX0_isAll) := goodIn_app (goodIn_of _ (by decide +kernel)) ggX1_winner_X0_isAll
theorem dX1_winner_0 : decode cX1_winner 0 = .ok (.iconst 1, 1) := by decide +kernel
theorem dX1_winner_1 : decode cX1_winner 1 = .ok (.istore_n 1, 1) := by decide +kernel
theorem dX1_winner_2 : decode cX1_winner 2 = .ok (.iload_n 1, 1) := by decide +kernel
theorem dX1_winner_3 : decode cX1_winner 3 = .ok (.iconst 4, 1) := by decide +kernel
theorem dX1_winner_4 : decode cX1_winner 4 = .ok (.if_icmp .gt 22, 3) := by decide +kernel
theorem dX1_winner_7 : decode cX1_winner 7 = .ok (.aload_n 0, 1) := by decide +kernel
theorem dX1_winner_8 : decode cX1_winner 8 = .ok (.getfield 12, 3) := by decide +kernel
theorem dX1_winner_11 : decode cX1_winner 11 = .ok (.iload_n 1, 1) := by decide +kernel
theorem dX1_winner_12 : decode cX1_winner 12 = .ok (.invokevirtual 120, 3) := by decide +kernel
theorem dX1_winner_15 : decode cX1_winner 15 = .ok (.ifCond .eq 5, 3) := by decide +kernel
theorem dX1_winner_18 : decode cX1_winner 18 = .ok (.iload_n 1, 1) := by decide +kernel
theorem dX1_winner_19 : decode cX1_winner 19 = .ok (.ireturn, 1) := by decide +kernel
theorem dX1_winner_20 : decode cX1_winner 20 = .ok (.iinc 1 1, 3) := by decide +kernel
theorem dX1_winner_23 : decode cX1_winner 23 = .ok (.goto (-21), 3) := by decide +kernel
theorem dX1_winner_26 : decode cX1_winner 26 = .ok (.iconst 0, 1) := by decide +kernel
theorem dX1_winner_27 : decode cX1_winner 27 = .ok (.ireturn, 1) := by decide +kernel
set_option maxRecDepth 20000 in
theorem ggX1_wavesUntilStill_X0_copyFrom : GoodIn wsX1_wavesUntilStill wsX0_copyFrom := goodIn_r _ [7, 8, 9, 10, 11, 38, 39, 40, 41, 42, 43] (by decide +kernel) (by decide +kernel)
set_option maxRecDepth 20000 in
theorem gX1_wavesUntilStill_X0_copyFrom : GoodIn wsX1_wavesUntilStill (wsV RX1 123 RX0 yX0_copyFrom wsX0_copyFrom) := goodIn_app (goodIn_of _ (by decide +kernel)) ggX1_wavesUntilStill_X0_copyFrom
set_option maxRecDepth 20000 in
theorem ggX1_wavesUntilStill_X0_surge : GoodIn wsX1_wavesUntilStill wsX0_surge := goodIn_r _ [15, 16, 17, 18, 6, 19, 20, 10, 11, 21, 22, 23, 24, 25, 8, 9, 26, 27, 28, 29, 30, 31, 32, 38, 39, 40, 41, 42, 43] (by decide +kernel) (by decide +kernel)
set_option maxRecDepth 20000 in
theorem gX1_wavesUntilStill_X0_surge : GoodIn wsX1_wavesUntilStill (wsV RX1 79 RX0 yX0_surge wsX0_surge) := goodIn_app (goodIn_of _ (by decide +kernel)) ggX1_wavesUntilStill_X0_surge
theorem dX1_wavesUntilStill_0 : decode cX1_wavesUntilStill 0 = .ok (.aload_n 0, 1) := by decide +kernel
theorem dX1_wavesUntilStill_1 : decode cX1_wavesUntilStill 1 = .ok (.getfield 16, 3) := by decide +kernel
theorem dX1_wavesUntilStill_4 : decode cX1_wavesUntilStill 4 = .ok (.aload_n 0, 1) := by decide +kernel
theorem dX1_wavesUntilStill_5 : decode cX1_wavesUntilStill 5 = .ok (.getfield 12, 3) := by decide +kernel
theorem dX1_wavesUntilStill_8 : decode cX1_wavesUntilStill 8 = .ok (.invokevirtual 123, 3) := by decide +kernel
theorem dX1_wavesUntilStill_11 : decode cX1_wavesUntilStill 11 = .ok (.iconst 0, 1) := by decide +kernel
theorem dX1_wavesUntilStill_12 : decode cX1_wavesUntilStill 12 = .ok (.istore_n 1, 1) := by decide +kernel
theorem dX1_wavesUntilStill_13 : decode cX1_wavesUntilStill 13 = .ok (.iload_n 1, 1) := by decide +kernel
theorem dX1_wavesUntilStill_14 : decode cX1_wavesUntilStill 14 = .ok (.bipush 40, 2) := by decide +kernel
theorem dX1_wavesUntilStill_16 : decode cX1_wavesUntilStill 16 = .ok (.if_icmp .gt 22, 3) := by decide +kernel
theorem dX1_wavesUntilStill_19 : decode cX1_wavesUntilStill 19 = .ok (.aload_n 0, 1) := by decide +kernel
theorem dX1_wavesUntilStill_20 : decode cX1_wavesUntilStill 20 = .ok (.getfield 16, 3) := by decide +kernel
theorem dX1_wavesUntilStill_23 : decode cX1_wavesUntilStill 23 = .ok (.iconst 1, 1) := by decide +kernel
theorem dX1_wavesUntilStill_24 : decode cX1_wavesUntilStill 24 = .ok (.invokevirtual 79, 3) := by decide +kernel
theorem dX1_wavesUntilStill_27 : decode cX1_wavesUntilStill 27 = .ok (.ifCond .ne 5, 3) := by decide +kernel
theorem dX1_wavesUntilStill_30 : decode cX1_wavesUntilStill 30 = .ok (.iload_n 1, 1) := by decide +kernel
theorem dX1_wavesUntilStill_31 : decode cX1_wavesUntilStill 31 = .ok (.ireturn, 1) := by decide +kernel
theorem dX1_wavesUntilStill_32 : decode cX1_wavesUntilStill 32 = .ok (.iinc 1 1, 3) := by decide +kernel
theorem dX1_wavesUntilStill_35 : decode cX1_wavesUntilStill 35 = .ok (.goto (-22), 3) := by decide +kernel
theorem dX1_wavesUntilStill_38 : decode cX1_wavesUntilStill 38 = .ok (.iconst (-1), 1) := by decide +kernel
theorem dX1_wavesUntilStill_39 : decode cX1_wavesUntilStill 39 = .ok (.ireturn, 1) := by decide +kernel
set_option maxRecDepth 20000 in
theorem ggX1_cellsAfter_X1_isColourOrBare : GoodIn wsX1_cellsAfter wsX1_isColourOrBare := goodIn_r _ [8, 9, 10, 7, 11] (by decide +kernel) (by decide +kernel)
set_option maxRecDepth 20000 in
theorem gX1_cellsAfter_X1_isColourOrBare : GoodIn wsX1_cellsAfter (va_wsS RX1 48 yX1_isColourOrBare wsX1_isColourOrBare) := goodIn_app (goodIn_of _ (by decide +kernel)) ggX1_cellsAfter_X1_isColourOrBare
set_option maxRecDepth 20000 in
theorem ggX1_cellsAfter_X1_countAfter : GoodIn wsX1_cellsAfter wsX1_countAfter := goodIn_r _ [15, 16, 17, 18, 19, 20, 21, 22, 23, 24, 25, 26, 27, 28, 29, 30, 31, 32, 33, 34, 35, 36, 37, 38, 39, 40, 41, 42, 43, 44, 45, 46, 47, 48, 49, 50, 51, 52, 53, 54, 55, 56, 57, 58, 59, 60, 61, 62, 63, 64, 65, 66, 67, 68, 69, 70, 71, 72, 73, 74, 75, 76, 77] (by decide +kernel) (by decide +kernel)
set_option maxRecDepth 20000 in
theorem gX1_cellsAfter_X1_countAfter : GoodIn wsX1_cellsAfter (wsV RX1 127 RX1 yX1_countAfter wsX1_countAfter) := goodIn_app (goodIn_of _ (by decide +kernel)) ggX1_cellsAfter_X1_countAfter
theorem dX1_cellsAfter_0 : decode cX1_cellsAfter 0 = .ok (.iload_n 1, 1) := by decide +kernel
theorem dX1_cellsAfter_1 : decode cX1_cellsAfter 1 = .ok (.iconst 1, 1) := by decide +kernel
theorem dX1_cellsAfter_2 : decode cX1_cellsAfter 2 = .ok (.if_icmp .lt 9, 3) := by decide +kernel
theorem dX1_cellsAfter_5 : decode cX1_cellsAfter 5 = .ok (.iload_n 1, 1) := by decide +kernel
theorem dX1_cellsAfter_6 : decode cX1_cellsAfter 6 = .ok (.bipush 40, 2) := by decide +kernel
theorem dX1_cellsAfter_8 : decode cX1_cellsAfter 8 = .ok (.if_icmp .le 13, 3) := by decide +kernel
theorem dX1_cellsAfter_11 : decode cX1_cellsAfter 11 = .ok (.new 37, 3) := by decide +kernel
theorem dX1_cellsAfter_14 : decode cX1_cellsAfter 14 = .ok (.dup, 1) := by decide +kernel
theorem dX1_cellsAfter_15 : decode cX1_cellsAfter 15 = .ok (.ldc 77, 2) := by decide +kernel
theorem dX1_cellsAfter_17 : decode cX1_cellsAfter 17 = .ok (.invokespecial 41, 3) := by decide +kernel
theorem dX1_cellsAfter_20 : decode cX1_cellsAfter 20 = .ok (.athrow, 1) := by decide +kernel
theorem dX1_cellsAfter_21 : decode cX1_cellsAfter 21 = .ok (.iload_n 2, 1) := by decide +kernel
theorem dX1_cellsAfter_22 : decode cX1_cellsAfter 22 = .ok (.invokestatic 48, 3) := by decide +kernel
theorem dX1_cellsAfter_25 : decode cX1_cellsAfter 25 = .ok (.ifCond .ne 13, 3) := by decide +kernel
theorem dX1_cellsAfter_28 : decode cX1_cellsAfter 28 = .ok (.new 51, 3) := by decide +kernel
theorem dX1_cellsAfter_31 : decode cX1_cellsAfter 31 = .ok (.dup, 1) := by decide +kernel
theorem dX1_cellsAfter_32 : decode cX1_cellsAfter 32 = .ok (.ldc 103, 2) := by decide +kernel
theorem dX1_cellsAfter_34 : decode cX1_cellsAfter 34 = .ok (.invokespecial 55, 3) := by decide +kernel
theorem dX1_cellsAfter_37 : decode cX1_cellsAfter 37 = .ok (.athrow, 1) := by decide +kernel
theorem dX1_cellsAfter_38 : decode cX1_cellsAfter 38 = .ok (.aload_n 0, 1) := by decide +kernel
theorem dX1_cellsAfter_39 : decode cX1_cellsAfter 39 = .ok (.iconst 0, 1) := by decide +kernel
theorem dX1_cellsAfter_40 : decode cX1_cellsAfter 40 = .ok (.iload_n 2, 1) := by decide +kernel
theorem dX1_cellsAfter_41 : decode cX1_cellsAfter 41 = .ok (.iload_n 1, 1) := by decide +kernel
theorem dX1_cellsAfter_42 : decode cX1_cellsAfter 42 = .ok (.invokevirtual 127, 3) := by decide +kernel
theorem dX1_cellsAfter_45 : decode cX1_cellsAfter 45 = .ok (.ireturn, 1) := by decide +kernel
set_option maxRecDepth 20000 in
theorem ggX1_wins_X1_isColour : GoodIn wsX1_wins wsX1_isColour := goodIn_r _ [6] (by decide +kernel) (by decide +kernel)
set_option maxRecDepth 20000 in
theorem gX1_wins_X1_isColour : GoodIn wsX1_wins (va_wsS RX1 108 yX1_isColour wsX1_isColour) := goodIn_app (goodIn_of _ (by decide +kernel)) ggX1_wins_X1_isColour
set_option maxRecDepth 20000 in
theorem ggX1_wins_X1_winsWith : GoodIn wsX1_wins wsX1_winsWith := goodIn_r _ [10, 11, 12, 13, 14, 15, 16, 17, 18, 19, 20, 21, 22, 23, 24, 25, 26, 27, 28, 29, 30, 31, 32, 33, 34, 35, 36, 37, 38, 39, 40, 41, 42, 43, 44, 45, 46, 47, 48, 49, 50, 51, 52, 53, 54, 55, 56, 57, 58, 59, 60, 61, 62, 63, 64, 65] (by decide +kernel) (by decide +kernel)
set_option maxRecDepth 20000 in
theorem gX1_wins_X1_winsWith : GoodIn wsX1_wins (wsV RX1 131 RX1 yX1_winsWith wsX1_winsWith) := goodIn_app (goodIn_of _ (by decide +kernel)) ggX1_wins_X1_winsWith
theorem dX1_wins_0 : decode cX1_wins 0 = .ok (.iload_n 1, 1) := by decide +kernel
theorem dX1_wins_1 : decode cX1_wins 1 = .ok (.invokestatic 108, 3) := by decide +kernel
theorem dX1_wins_4 : decode cX1_wins 4 = .ok (.ifCond .ne 13, 3) := by decide +kernel
theorem dX1_wins_7 : decode cX1_wins 7 = .ok (.new 51, 3) := by decide +kernel
theorem dX1_wins_10 : decode cX1_wins 10 = .ok (.dup, 1) := by decide +kernel
theorem dX1_wins_11 : decode cX1_wins 11 = .ok (.ldc 103, 2) := by decide +kernel
theorem dX1_wins_13 : decode cX1_wins 13 = .ok (.invokespecial 55, 3) := by decide +kernel
theorem dX1_wins_16 : decode cX1_wins 16 = .ok (.athrow, 1) := by decide +kernel
theorem dX1_wins_17 : decode cX1_wins 17 = .ok (.aload_n 0, 1) := by decide +kernel
theorem dX1_wins_18 : decode cX1_wins 18 = .ok (.iconst 0, 1) := by decide +kernel
theorem dX1_wins_19 : decode cX1_wins 19 = .ok (.iload_n 1, 1) := by decide +kernel
theorem dX1_wins_20 : decode cX1_wins 20 = .ok (.invokevirtual 131, 3) := by decide +kernel
theorem dX1_wins_23 : decode cX1_wins 23 = .ok (.ireturn, 1) := by decide +kernel
set_option maxRecDepth 20000 in
theorem ggX1_fewestSeeds_X1_isColour : GoodIn wsX1_fewestSeeds wsX1_isColour := goodIn_r _ [6] (by decide +kernel) (by decide +kernel)
set_option maxRecDepth 20000 in
theorem gX1_fewestSeeds_X1_isColour : GoodIn wsX1_fewestSeeds (va_wsS RX1 108 yX1_isColour wsX1_isColour) := goodIn_app (goodIn_of _ (by decide +kernel)) ggX1_fewestSeeds_X1_isColour
set_option maxRecDepth 20000 in
theorem ggX1_fewestSeeds_X1_winsWith : GoodIn wsX1_fewestSeeds wsX1_winsWith := goodIn_r _ [10, 11, 12, 13, 14, 15, 16, 17, 18, 19, 20, 21, 22, 23, 24, 25, 26, 27, 28, 29, 30, 31, 32, 33, 34, 35, 36, 37, 38, 39, 40, 41, 42, 43, 44, 45, 46, 47, 48, 49, 50, 51, 52, 53, 54, 64, 65, 66, 67, 68, 69, 70, 71, 72, 73, 74] (by decide +kernel) (by decide +kernel)
set_option maxRecDepth 20000 in
theorem gX1_fewestSeeds_X1_winsWith : GoodIn wsX1_fewestSeeds (wsV RX1 131 RX1 yX1_winsWith wsX1_winsWith) := goodIn_app (goodIn_of _ (by decide +kernel)) ggX1_fewestSeeds_X1_winsWith
set_option maxRecDepth 20000 in
theorem ggX1_fewestSeeds_X1_winsWithOneSeed : GoodIn wsX1_fewestSeeds wsX1_winsWithOneSeed := goodIn_r _ [58, 12, 59, 7, 8, 9, 5, 10, 11, 13, 14, 15, 16, 17, 18, 19, 20, 21, 22, 23, 24, 25, 26, 27, 28, 29, 30, 31, 32, 33, 34, 35, 36, 37, 38, 39, 40, 41, 42, 43, 44, 45, 46, 47, 48, 49, 50, 51, 52, 53, 54, 64, 65, 66, 67, 68, 69, 70, 71, 72, 73, 74] (by decide +kernel) (by decide +kernel)
set_option maxRecDepth 20000 in
theorem gX1_fewestSeeds_X1_winsWithOneSeed : GoodIn wsX1_fewestSeeds (wsV RX1 134 RX1 yX1_winsWithOneSeed wsX1_winsWithOneSeed) := goodIn_app (goodIn_of _ (by decide +kernel)) ggX1_fewestSeeds_X1_winsWithOneSeed
set_option maxRecDepth 20000 in
theorem ggX1_fewestSeeds_X1_winsWithTwoSeeds : GoodIn wsX1_fewestSeeds wsX1_winsWithTwoSeeds := goodIn_r _ [63, 12, 59, 7, 8, 9, 5, 10, 11, 13, 14, 15, 16, 17, 18, 19, 20, 21, 22, 23, 24, 25, 26, 27, 28, 29, 30, 31, 32, 33, 34, 35, 36, 37, 38, 39, 40, 41, 42, 43, 44, 45, 46, 47, 48, 49, 50, 51, 52, 53, 54, 64, 65, 66, 67, 68, 69, 70, 71, 72, 73, 74] (by decide +kernel) (by decide +kernel)
set_option maxRecDepth 20000 in
theorem gX1_fewestSeeds_X1_winsWithTwoSeeds : GoodIn wsX1_fewestSeeds (wsV RX1 137 RX1 yX1_winsWithTwoSeeds wsX1_winsWithTwoSeeds) := goodIn_app (goodIn_of _ (by decide +kernel)) ggX1_fewestSeeds_X1_winsWithTwoSeeds
theorem dX1_fewestSeeds_0 : decode cX1_fewestSeeds 0 = .ok (.iload_n 1, 1) := by decide +kernel
theorem dX1_fewestSeeds_1 : decode cX1_fewestSeeds 1 = .ok (.invokestatic 108, 3) := by decide +kernel
theorem dX1_fewestSeeds_4 : decode cX1_fewestSeeds 4 = .ok (.ifCond .ne 13, 3) := by decide +kernel
theorem dX1_fewestSeeds_7 : decode cX1_fewestSeeds 7 = .ok (.new 51, 3) := by decide +kernel
theorem dX1_fewestSeeds_10 : decode cX1_fewestSeeds 10 = .ok (.dup, 1) := by decide +kernel
theorem dX1_fewestSeeds_11 : decode cX1_fewestSeeds 11 = .ok (.ldc 103, 2) := by decide +kernel
theorem dX1_fewestSeeds_13 : decode cX1_fewestSeeds 13 = .ok (.invokespecial 55, 3) := by decide +kernel
theorem dX1_fewestSeeds_16 : decode cX1_fewestSeeds 16 = .ok (.athrow, 1) := by decide +kernel
theorem dX1_fewestSeeds_17 : decode cX1_fewestSeeds 17 = .ok (.aload_n 0, 1) := by decide +kernel
theorem dX1_fewestSeeds_18 : decode cX1_fewestSeeds 18 = .ok (.iconst 0, 1) := by decide +kernel
theorem dX1_fewestSeeds_19 : decode cX1_fewestSeeds 19 = .ok (.iload_n 1, 1) := by decide +kernel
theorem dX1_fewestSeeds_20 : decode cX1_fewestSeeds 20 = .ok (.invokevirtual 131, 3) := by decide +kernel
theorem dX1_fewestSeeds_23 : decode cX1_fewestSeeds 23 = .ok (.ifCond .eq 5, 3) := by decide +kernel
theorem dX1_fewestSeeds_26 : decode cX1_fewestSeeds 26 = .ok (.iconst 0, 1) := by decide +kernel
theorem dX1_fewestSeeds_27 : decode cX1_fewestSeeds 27 = .ok (.ireturn, 1) := by decide +kernel
theorem dX1_fewestSeeds_28 : decode cX1_fewestSeeds 28 = .ok (.aload_n 0, 1) := by decide +kernel
theorem dX1_fewestSeeds_29 : decode cX1_fewestSeeds 29 = .ok (.iload_n 1, 1) := by decide +kernel
theorem dX1_fewestSeeds_30 : decode cX1_fewestSeeds 30 = .ok (.invokevirtual 134, 3) := by decide +kernel
theorem dX1_fewestSeeds_33 : decode cX1_fewestSeeds 33 = .ok (.ifCond .eq 5, 3) := by decide +kernel
theorem dX1_fewestSeeds_36 : decode cX1_fewestSeeds 36 = .ok (.iconst 1, 1) := by decide +kernel
theorem dX1_fewestSeeds_37 : decode cX1_fewestSeeds 37 = .ok (.ireturn, 1) := by decide +kernel
theorem dX1_fewestSeeds_38 : decode cX1_fewestSeeds 38 = .ok (.aload_n 0, 1) := by decide +kernel
theorem dX1_fewestSeeds_39 : decode cX1_fewestSeeds 39 = .ok (.iload_n 1, 1) := by decide +kernel
theorem dX1_fewestSeeds_40 : decode cX1_fewestSeeds 40 = .ok (.invokevirtual 137, 3) := by decide +kernel
theorem dX1_fewestSeeds_43 : decode cX1_fewestSeeds 43 = .ok (.ifCond .eq 7, 3) := by decide +kernel
theorem dX1_fewestSeeds_46 : decode cX1_fewestSeeds 46 = .ok (.iconst 2, 1) := by decide +kernel
theorem dX1_fewestSeeds_47 : decode cX1_fewestSeeds 47 = .ok (.goto 4, 3) := by decide +kernel
theorem dX1_fewestSeeds_50 : decode cX1_fewestSeeds 50 = .ok (.iconst (-1), 1) := by decide +kernel
theorem dX1_fewestSeeds_51 : decode cX1_fewestSeeds 51 = .ok (.ireturn, 1) := by decide +kernel
set_option maxRecDepth 20000 in
theorem ggX1_bestCell_X1_isColour : GoodIn wsX1_bestCell wsX1_isColour := goodIn_r _ [10] (by decide +kernel) (by decide +kernel)
set_option maxRecDepth 20000 in
theorem gX1_bestCell_X1_isColour : GoodIn wsX1_bestCell (va_wsS RX1 108 yX1_isColour wsX1_isColour) := goodIn_app (goodIn_of _ (by decide +kernel)) ggX1_bestCell_X1_isColour
set_option maxRecDepth 20000 in
theorem ggX1_bestCell_X1_cell : GoodIn wsX1_bestCell wsX1_cell := goodIn_r _ [13] (by decide +kernel) (by decide +kernel)
set_option maxRecDepth 20000 in
theorem gX1_bestCell_X1_cell : GoodIn wsX1_bestCell (va_wsS RX1 56 yX1_cell wsX1_cell) := goodIn_app (goodIn_of _ (by decide +kernel)) ggX1_bestCell_X1_cell
set_option maxRecDepth 20000 in
theorem ggX1_bestCell_X1_countAfter : GoodIn wsX1_bestCell wsX1_countAfter := goodIn_r _ [17, 18, 19, 20, 21, 22, 23, 24, 25, 26, 27, 28, 29, 30, 31, 32, 33, 34, 35, 36, 37, 38, 39, 40, 41, 42, 43, 44, 45, 46, 47, 48, 49, 50, 51, 52, 53, 54, 55, 56, 57, 58, 59, 60, 61, 62, 63, 64, 65, 66, 67, 68, 69, 70, 71, 72, 73, 74, 75, 76, 77, 78, 79] (by decide +kernel) (by decide +kernel)
set_option maxRecDepth 20000 in
theorem gX1_bestCell_X1_countAfter : GoodIn wsX1_bestCell (wsV RX1 127 RX1 yX1_countAfter wsX1_countAfter) := goodIn_app (goodIn_of _ (by decide +kernel)) ggX1_bestCell_X1_countAfter
theorem dX1_bestCell_0 : decode cX1_bestCell 0 = .ok (.iload_n 1, 1) := by decide +kernel
theorem dX1_bestCell_1 : decode cX1_bestCell 1 = .ok (.invokestatic 108, 3) := by decide +kernel
theorem dX1_bestCell_4 : decode cX1_bestCell 4 = .ok (.ifCond .ne 13, 3) := by decide +kernel
theorem dX1_bestCell_7 : decode cX1_bestCell 7 = .ok (.new 51, 3) := by decide +kernel
theorem dX1_bestCell_10 : decode cX1_bestCell 10 = .ok (.dup, 1) := by decide +kernel
theorem dX1_bestCell_11 : decode cX1_bestCell 11 = .ok (.ldc 103, 2) := by decide +kernel
theorem dX1_bestCell_13 : decode cX1_bestCell 13 = .ok (.invokespecial 55, 3) := by decide +kernel
theorem dX1_bestCell_16 : decode cX1_bestCell 16 = .ok (.athrow, 1) := by decide +kernel
theorem dX1_bestCell_17 : decode cX1_bestCell 17 = .ok (.iload_n 2, 1) := by decide +kernel
theorem dX1_bestCell_18 : decode cX1_bestCell 18 = .ok (.iconst 1, 1) := by decide +kernel
theorem dX1_bestCell_19 : decode cX1_bestCell 19 = .ok (.if_icmp .lt 9, 3) := by decide +kernel
theorem dX1_bestCell_22 : decode cX1_bestCell 22 = .ok (.iload_n 2, 1) := by decide +kernel
theorem dX1_bestCell_23 : decode cX1_bestCell 23 = .ok (.bipush 24, 2) := by decide +kernel
theorem dX1_bestCell_25 : decode cX1_bestCell 25 = .ok (.if_icmp .le 13, 3) := by decide +kernel
theorem dX1_bestCell_28 : decode cX1_bestCell 28 = .ok (.new 37, 3) := by decide +kernel
theorem dX1_bestCell_31 : decode cX1_bestCell 31 = .ok (.dup, 1) := by decide +kernel
theorem dX1_bestCell_32 : decode cX1_bestCell 32 = .ok (.ldc 140, 2) := by decide +kernel
theorem dX1_bestCell_34 : decode cX1_bestCell 34 = .ok (.invokespecial 41, 3) := by decide +kernel
theorem dX1_bestCell_37 : decode cX1_bestCell 37 = .ok (.athrow, 1) := by decide +kernel
theorem dX1_bestCell_38 : decode cX1_bestCell 38 = .ok (.iconst 0, 1) := by decide +kernel
theorem dX1_bestCell_39 : decode cX1_bestCell 39 = .ok (.istore_n 3, 1) := by decide +kernel
theorem dX1_bestCell_40 : decode cX1_bestCell 40 = .ok (.iconst (-1), 1) := by decide +kernel
theorem dX1_bestCell_41 : decode cX1_bestCell 41 = .ok (.istore 4, 2) := by decide +kernel
theorem dX1_bestCell_43 : decode cX1_bestCell 43 = .ok (.iconst 0, 1) := by decide +kernel
theorem dX1_bestCell_44 : decode cX1_bestCell 44 = .ok (.istore 5, 2) := by decide +kernel
theorem dX1_bestCell_46 : decode cX1_bestCell 46 = .ok (.iload 5, 2) := by decide +kernel
theorem dX1_bestCell_48 : decode cX1_bestCell 48 = .ok (.aload_n 0, 1) := by decide +kernel
theorem dX1_bestCell_49 : decode cX1_bestCell 49 = .ok (.getfield 23, 3) := by decide +kernel
theorem dX1_bestCell_52 : decode cX1_bestCell 52 = .ok (.if_icmp .ge 64, 3) := by decide +kernel
theorem dX1_bestCell_55 : decode cX1_bestCell 55 = .ok (.iconst 0, 1) := by decide +kernel
theorem dX1_bestCell_56 : decode cX1_bestCell 56 = .ok (.istore 6, 2) := by decide +kernel
theorem dX1_bestCell_58 : decode cX1_bestCell 58 = .ok (.iload 6, 2) := by decide +kernel
theorem dX1_bestCell_60 : decode cX1_bestCell 60 = .ok (.aload_n 0, 1) := by decide +kernel
theorem dX1_bestCell_61 : decode cX1_bestCell 61 = .ok (.getfield 19, 3) := by decide +kernel
theorem dX1_bestCell_64 : decode cX1_bestCell 64 = .ok (.if_icmp .ge 46, 3) := by decide +kernel
theorem dX1_bestCell_67 : decode cX1_bestCell 67 = .ok (.aload_n 0, 1) := by decide +kernel
theorem dX1_bestCell_68 : decode cX1_bestCell 68 = .ok (.iload 6, 2) := by decide +kernel
theorem dX1_bestCell_70 : decode cX1_bestCell 70 = .ok (.iload 5, 2) := by decide +kernel
theorem dX1_bestCell_72 : decode cX1_bestCell 72 = .ok (.invokestatic 56, 3) := by decide +kernel
theorem dX1_bestCell_75 : decode cX1_bestCell 75 = .ok (.iload_n 1, 1) := by decide +kernel
theorem dX1_bestCell_76 : decode cX1_bestCell 76 = .ok (.iload_n 2, 1) := by decide +kernel
theorem dX1_bestCell_77 : decode cX1_bestCell 77 = .ok (.invokevirtual 127, 3) := by decide +kernel
theorem dX1_bestCell_80 : decode cX1_bestCell 80 = .ok (.istore 7, 2) := by decide +kernel
theorem dX1_bestCell_82 : decode cX1_bestCell 82 = .ok (.iload 7, 2) := by decide +kernel
theorem dX1_bestCell_84 : decode cX1_bestCell 84 = .ok (.iload 4, 2) := by decide +kernel
theorem dX1_bestCell_86 : decode cX1_bestCell 86 = .ok (.if_icmp .le 18, 3) := by decide +kernel
theorem dX1_bestCell_89 : decode cX1_bestCell 89 = .ok (.iload 7, 2) := by decide +kernel
theorem dX1_bestCell_91 : decode cX1_bestCell 91 = .ok (.istore 4, 2) := by decide +kernel
theorem dX1_bestCell_93 : decode cX1_bestCell 93 = .ok (.aload_n 0, 1) := by decide +kernel
theorem dX1_bestCell_94 : decode cX1_bestCell 94 = .ok (.getfield 19, 3) := by decide +kernel
theorem dX1_bestCell_97 : decode cX1_bestCell 97 = .ok (.iload 5, 2) := by decide +kernel
theorem dX1_bestCell_99 : decode cX1_bestCell 99 = .ok (.imul, 1) := by decide +kernel
theorem dX1_bestCell_100 : decode cX1_bestCell 100 = .ok (.iload 6, 2) := by decide +kernel
theorem dX1_bestCell_102 : decode cX1_bestCell 102 = .ok (.iadd, 1) := by decide +kernel
theorem dX1_bestCell_103 : decode cX1_bestCell 103 = .ok (.istore_n 3, 1) := by decide +kernel
theorem dX1_bestCell_104 : decode cX1_bestCell 104 = .ok (.iinc 6 1, 3) := by decide +kernel
theorem dX1_bestCell_107 : decode cX1_bestCell 107 = .ok (.goto (-49), 3) := by decide +kernel
theorem dX1_bestCell_110 : decode cX1_bestCell 110 = .ok (.iinc 5 1, 3) := by decide +kernel
theorem dX1_bestCell_113 : decode cX1_bestCell 113 = .ok (.goto (-67), 3) := by decide +kernel
theorem dX1_bestCell_116 : decode cX1_bestCell 116 = .ok (.iload_n 3, 1) := by decide +kernel
theorem dX1_bestCell_117 : decode cX1_bestCell 117 = .ok (.ireturn, 1) := by decide +kernel
set_option maxRecDepth 20000 in
theorem ggX1_share_X1_isColourOrBare : GoodIn wsX1_share wsX1_isColourOrBare := goodIn_r _ [9, 10, 11, 8, 12] (by decide +kernel) (by decide +kernel)
set_option maxRecDepth 20000 in
theorem gX1_share_X1_isColourOrBare : GoodIn wsX1_share (va_wsS RX1 48 yX1_isColourOrBare wsX1_isColourOrBare) := goodIn_app (goodIn_of _ (by decide +kernel)) ggX1_share_X1_isColourOrBare
set_option maxRecDepth 20000 in
theorem ggX1_share_X0_count : GoodIn wsX1_share wsX0_count := goodIn_r _ [17, 18, 19, 20, 16, 21, 22, 23, 24, 25, 26, 27, 28, 29, 35, 36, 37, 38, 39, 40] (by decide +kernel) (by decide +kernel)
set_option maxRecDepth 20000 in
theorem gX1_share_X0_count : GoodIn wsX1_share (wsV RX1 105 RX0 yX0_count wsX0_count) := goodIn_app (goodIn_of _ (by decide +kernel)) ggX1_share_X0_count
theorem dX1_share_0 : decode cX1_share 0 = .ok (.iload_n 1, 1) := by decide +kernel
theorem dX1_share_1 : decode cX1_share 1 = .ok (.invokestatic 48, 3) := by decide +kernel
theorem dX1_share_4 : decode cX1_share 4 = .ok (.ifCond .ne 13, 3) := by decide +kernel
theorem dX1_share_7 : decode cX1_share 7 = .ok (.new 51, 3) := by decide +kernel
theorem dX1_share_10 : decode cX1_share 10 = .ok (.dup, 1) := by decide +kernel
theorem dX1_share_11 : decode cX1_share 11 = .ok (.ldc 103, 2) := by decide +kernel
theorem dX1_share_13 : decode cX1_share 13 = .ok (.invokespecial 55, 3) := by decide +kernel
theorem dX1_share_16 : decode cX1_share 16 = .ok (.athrow, 1) := by decide +kernel
theorem dX1_share_17 : decode cX1_share 17 = .ok (.aload_n 0, 1) := by decide +kernel
theorem dX1_share_18 : decode cX1_share 18 = .ok (.getfield 19, 3) := by decide +kernel
theorem dX1_share_21 : decode cX1_share 21 = .ok (.aload_n 0, 1) := by decide +kernel
theorem dX1_share_22 : decode cX1_share 22 = .ok (.getfield 23, 3) := by decide +kernel
theorem dX1_share_25 : decode cX1_share 25 = .ok (.imul, 1) := by decide +kernel
theorem dX1_share_26 : decode cX1_share 26 = .ok (.istore_n 2, 1) := by decide +kernel
theorem dX1_share_27 : decode cX1_share 27 = .ok (.iload_n 2, 1) := by decide +kernel
theorem dX1_share_28 : decode cX1_share 28 = .ok (.ifCond .ne 7, 3) := by decide +kernel
theorem dX1_share_31 : decode cX1_share 31 = .ok (.dconst 0, 1) := by decide +kernel
theorem dX1_share_32 : decode cX1_share 32 = .ok (.goto 15, 3) := by decide +kernel
theorem dX1_share_35 : decode cX1_share 35 = .ok (.aload_n 0, 1) := by decide +kernel
theorem dX1_share_36 : decode cX1_share 36 = .ok (.getfield 12, 3) := by decide +kernel
theorem dX1_share_39 : decode cX1_share 39 = .ok (.iload_n 1, 1) := by decide +kernel
theorem dX1_share_40 : decode cX1_share 40 = .ok (.invokevirtual 105, 3) := by decide +kernel
theorem dX1_share_43 : decode cX1_share 43 = .ok (.i2d, 1) := by decide +kernel
theorem dX1_share_44 : decode cX1_share 44 = .ok (.iload_n 2, 1) := by decide +kernel
theorem dX1_share_45 : decode cX1_share 45 = .ok (.i2d, 1) := by decide +kernel
theorem dX1_share_46 : decode cX1_share 46 = .ok (.ddiv, 1) := by decide +kernel
theorem dX1_share_47 : decode cX1_share 47 = .ok (.dreturn, 1) := by decide +kernel
set_option maxRecDepth 20000 in
theorem ggX1_digest_X1_digestOfMap : GoodIn wsX1_digest wsX1_digestOfMap := goodIn_r _ [8, 9, 3, 2, 1, 10, 11, 12, 13, 7, 14, 15, 16, 17, 18, 19, 20, 21, 22, 23, 24, 25, 26, 27, 28, 29, 30, 31, 32, 33, 34, 35, 36, 37, 38, 39, 40, 41, 42, 43, 44, 45, 46, 47, 48, 49, 50, 51, 52, 53, 54, 55, 56, 57, 58, 59, 60, 61, 62, 63, 64, 65, 66, 67, 68, 69, 70, 71, 72, 73, 74, 75, 76, 77, 78, 79, 80, 81, 122, 123, 124, 125, 126, 127, 128, 129, 130, 131, 132] (by decide +kernel) (by decide +kernel)
set_option maxRecDepth 20000 in
theorem gX1_digest_X1_digestOfMap : GoodIn wsX1_digest (wsV RX1 142 RX1 yX1_digestOfMap wsX1_digestOfMap) := goodIn_app (goodIn_of _ (by decide +kernel)) ggX1_digest_X1_digestOfMap
set_option maxRecDepth 20000 in
theorem ggX1_digest_X0_count : GoodIn wsX1_digest wsX0_count := goodIn_r _ [50, 51, 52, 53, 35, 54, 38, 42, 22, 23, 24, 25, 26, 27, 127, 128, 129, 130, 131, 132] (by decide +kernel) (by decide +kernel)
set_option maxRecDepth 20000 in
theorem gX1_digest_X0_count : GoodIn wsX1_digest (wsV RX1 105 RX0 yX0_count wsX0_count) := goodIn_app (goodIn_of _ (by decide +kernel)) ggX1_digest_X0_count
set_option maxRecDepth 20000 in
theorem ggX1_digest_X1_mix : GoodIn wsX1_digest wsX1_mix := goodIn_r _ [14, 15] (by decide +kernel) (by decide +kernel)
set_option maxRecDepth 20000 in
theorem gX1_digest_X1_mix : GoodIn wsX1_digest (va_wsS RX1 146 yX1_mix wsX1_mix) := goodIn_app (goodIn_of _ (by decide +kernel)) ggX1_digest_X1_mix
set_option maxRecDepth 20000 in
theorem ggX1_digest_X0_countRegions : GoodIn wsX1_digest wsX0_countRegions := goodIn_r _ [85, 51, 52, 53, 35, 54, 38, 86, 87, 88, 89, 7, 90, 127, 128, 129, 130, 131, 132] (by decide +kernel) (by decide +kernel)
set_option maxRecDepth 20000 in
theorem gX1_digest_X0_countRegions : GoodIn wsX1_digest (wsV RX1 111 RX0 yX0_countRegions wsX0_countRegions) := goodIn_app (goodIn_of _ (by decide +kernel)) ggX1_digest_X0_countRegions
set_option maxRecDepth 20000 in
theorem ggX1_digest_X0_sizeOfGreatestRegion : GoodIn wsX1_digest wsX0_sizeOfGreatestRegion := goodIn_r _ [94, 95, 96, 97, 98, 51, 52, 53, 35, 54, 38, 86, 87, 88, 89, 7, 90, 42, 22, 23, 24, 25, 26, 27, 127, 128, 129, 130, 131, 132] (by decide +kernel) (by decide +kernel)
set_option maxRecDepth 20000 in
theorem gX1_digest_X0_sizeOfGreatestRegion : GoodIn wsX1_digest (wsV RX1 114 RX0 yX0_sizeOfGreatestRegion wsX0_sizeOfGreatestRegion) := goodIn_app (goodIn_of _ (by decide +kernel)) ggX1_digest_X0_sizeOfGreatestRegion
set_option maxRecDepth 20000 in
theorem ggX1_digest_X0_foresee : GoodIn wsX1_digest wsX0_foresee := goodIn_r _ [62, 63, 64, 38, 65, 66, 67, 35, 68, 69, 37, 70, 71, 72, 73, 127, 128, 129, 130, 131, 132] (by decide +kernel) (by decide +kernel)
set_option maxRecDepth 20000 in
theorem gX1_digest_X0_foresee : GoodIn wsX1_digest (wsV RX1 93 RX0 yX0_foresee wsX0_foresee) := goodIn_app (goodIn_of _ (by decide +kernel)) ggX1_digest_X0_foresee
set_option maxRecDepth 20000 in
theorem ggX1_digest_X1_cell : GoodIn wsX1_digest wsX1_cell := goodIn_r _ [101] (by decide +kernel) (by decide +kernel)
set_option maxRecDepth 20000 in
theorem gX1_digest_X1_cell : GoodIn wsX1_digest (va_wsS RX1 56 yX1_cell wsX1_cell) := goodIn_app (goodIn_of _ (by decide +kernel)) ggX1_digest_X1_cell
set_option maxRecDepth 20000 in
theorem ggX1_digest_X1_mixCell : GoodIn wsX1_digest wsX1_mixCell := goodIn_r _ [105, 1, 20, 106, 107, 108, 35, 109, 38, 110, 111, 112, 12, 13, 7, 14, 15, 113, 114, 115, 116, 63, 117, 118, 119, 120, 121, 51, 52, 53, 54, 86, 87, 88, 89, 90, 42, 22, 23, 24, 25, 26, 27, 122, 123, 124, 125, 126, 127, 128, 129, 130, 131, 132] (by decide +kernel) (by decide +kernel)
set_option maxRecDepth 20000 in
theorem gX1_digest_X1_mixCell : GoodIn wsX1_digest (wsV RX1 150 RX1 yX1_mixCell wsX1_mixCell) := goodIn_app (goodIn_of _ (by decide +kernel)) ggX1_digest_X1_mixCell
theorem dX1_digest_0 : decode cX1_digest 0 = .ok (.aload_n 0, 1) := by decide +kernel
theorem dX1_digest_1 : decode cX1_digest 1 = .ok (.invokevirtual 142, 3) := by decide +kernel
theorem dX1_digest_4 : decode cX1_digest 4 = .ok (.lstore_n 1, 1) := by decide +kernel
theorem dX1_digest_5 : decode cX1_digest 5 = .ok (.iconst 1, 1) := by decide +kernel
theorem dX1_digest_6 : decode cX1_digest 6 = .ok (.istore_n 3, 1) := by decide +kernel
theorem dX1_digest_7 : decode cX1_digest 7 = .ok (.iload_n 3, 1) := by decide +kernel
theorem dX1_digest_8 : decode cX1_digest 8 = .ok (.iconst 4, 1) := by decide +kernel
theorem dX1_digest_9 : decode cX1_digest 9 = .ok (.if_icmp .gt 48, 3) := by decide +kernel
theorem dX1_digest_12 : decode cX1_digest 12 = .ok (.lload_n 1, 1) := by decide +kernel
theorem dX1_digest_13 : decode cX1_digest 13 = .ok (.aload_n 0, 1) := by decide +kernel
theorem dX1_digest_14 : decode cX1_digest 14 = .ok (.getfield 12, 3) := by decide +kernel
theorem dX1_digest_17 : decode cX1_digest 17 = .ok (.iload_n 3, 1) := by decide +kernel
theorem dX1_digest_18 : decode cX1_digest 18 = .ok (.invokevirtual 105, 3) := by decide +kernel
theorem dX1_digest_21 : decode cX1_digest 21 = .ok (.invokestatic 146, 3) := by decide +kernel
theorem dX1_digest_24 : decode cX1_digest 24 = .ok (.lstore_n 1, 1) := by decide +kernel
theorem dX1_digest_25 : decode cX1_digest 25 = .ok (.lload_n 1, 1) := by decide +kernel
theorem dX1_digest_26 : decode cX1_digest 26 = .ok (.aload_n 0, 1) := by decide +kernel
theorem dX1_digest_27 : decode cX1_digest 27 = .ok (.getfield 12, 3) := by decide +kernel
theorem dX1_digest_30 : decode cX1_digest 30 = .ok (.iload_n 3, 1) := by decide +kernel
theorem dX1_digest_31 : decode cX1_digest 31 = .ok (.invokevirtual 111, 3) := by decide +kernel
theorem dX1_digest_34 : decode cX1_digest 34 = .ok (.invokestatic 146, 3) := by decide +kernel
theorem dX1_digest_37 : decode cX1_digest 37 = .ok (.lstore_n 1, 1) := by decide +kernel
theorem dX1_digest_38 : decode cX1_digest 38 = .ok (.lload_n 1, 1) := by decide +kernel
theorem dX1_digest_39 : decode cX1_digest 39 = .ok (.aload_n 0, 1) := by decide +kernel
theorem dX1_digest_40 : decode cX1_digest 40 = .ok (.getfield 12, 3) := by decide +kernel
theorem dX1_digest_43 : decode cX1_digest 43 = .ok (.iload_n 3, 1) := by decide +kernel
theorem dX1_digest_44 : decode cX1_digest 44 = .ok (.invokevirtual 114, 3) := by decide +kernel
theorem dX1_digest_47 : decode cX1_digest 47 = .ok (.invokestatic 146, 3) := by decide +kernel
theorem dX1_digest_50 : decode cX1_digest 50 = .ok (.lstore_n 1, 1) := by decide +kernel
theorem dX1_digest_51 : decode cX1_digest 51 = .ok (.iinc 3 1, 3) := by decide +kernel
theorem dX1_digest_54 : decode cX1_digest 54 = .ok (.goto (-47), 3) := by decide +kernel
theorem dX1_digest_57 : decode cX1_digest 57 = .ok (.aload_n 0, 1) := by decide +kernel
theorem dX1_digest_58 : decode cX1_digest 58 = .ok (.getfield 12, 3) := by decide +kernel
theorem dX1_digest_61 : decode cX1_digest 61 = .ok (.invokevirtual 93, 3) := by decide +kernel
theorem dX1_digest_64 : decode cX1_digest 64 = .ok (.pop, 1) := by decide +kernel
theorem dX1_digest_65 : decode cX1_digest 65 = .ok (.iconst 0, 1) := by decide +kernel
theorem dX1_digest_66 : decode cX1_digest 66 = .ok (.istore_n 3, 1) := by decide +kernel
theorem dX1_digest_67 : decode cX1_digest 67 = .ok (.iload_n 3, 1) := by decide +kernel
theorem dX1_digest_68 : decode cX1_digest 68 = .ok (.aload_n 0, 1) := by decide +kernel
theorem dX1_digest_69 : decode cX1_digest 69 = .ok (.getfield 23, 3) := by decide +kernel
theorem dX1_digest_72 : decode cX1_digest 72 = .ok (.if_icmp .ge 39, 3) := by decide +kernel
theorem dX1_digest_75 : decode cX1_digest 75 = .ok (.iconst 0, 1) := by decide +kernel
theorem dX1_digest_76 : decode cX1_digest 76 = .ok (.istore 4, 2) := by decide +kernel
theorem dX1_digest_78 : decode cX1_digest 78 = .ok (.iload 4, 2) := by decide +kernel
theorem dX1_digest_80 : decode cX1_digest 80 = .ok (.aload_n 0, 1) := by decide +kernel
theorem dX1_digest_81 : decode cX1_digest 81 = .ok (.getfield 19, 3) := by decide +kernel
theorem dX1_digest_84 : decode cX1_digest 84 = .ok (.if_icmp .ge 21, 3) := by decide +kernel
theorem dX1_digest_87 : decode cX1_digest 87 = .ok (.aload_n 0, 1) := by decide +kernel
theorem dX1_digest_88 : decode cX1_digest 88 = .ok (.lload_n 1, 1) := by decide +kernel
theorem dX1_digest_89 : decode cX1_digest 89 = .ok (.iload 4, 2) := by decide +kernel
theorem dX1_digest_91 : decode cX1_digest 91 = .ok (.iload_n 3, 1) := by decide +kernel
theorem dX1_digest_92 : decode cX1_digest 92 = .ok (.invokestatic 56, 3) := by decide +kernel
theorem dX1_digest_95 : decode cX1_digest 95 = .ok (.invokevirtual 150, 3) := by decide +kernel
theorem dX1_digest_98 : decode cX1_digest 98 = .ok (.lstore_n 1, 1) := by decide +kernel
theorem dX1_digest_99 : decode cX1_digest 99 = .ok (.iinc 4 1, 3) := by decide +kernel
theorem dX1_digest_102 : decode cX1_digest 102 = .ok (.goto (-24), 3) := by decide +kernel
theorem dX1_digest_105 : decode cX1_digest 105 = .ok (.iinc 3 1, 3) := by decide +kernel
theorem dX1_digest_108 : decode cX1_digest 108 = .ok (.goto (-41), 3) := by decide +kernel
theorem dX1_digest_111 : decode cX1_digest 111 = .ok (.lload_n 1, 1) := by decide +kernel
theorem dX1_digest_112 : decode cX1_digest 112 = .ok (.lreturn, 1) := by decide +kernel
set_option maxRecDepth 20000 in
theorem ggX1_digestOfMap_X1_mix : GoodIn wsX1_digestOfMap wsX1_mix := goodIn_r _ [10, 11] (by decide +kernel) (by decide +kernel)
set_option maxRecDepth 20000 in
theorem gX1_digestOfMap_X1_mix : GoodIn wsX1_digestOfMap (va_wsS RX1 146 yX1_mix wsX1_mix) := goodIn_app (goodIn_of _ (by decide +kernel)) ggX1_digestOfMap_X1_mix
set_option maxRecDepth 20000 in
theorem ggX1_digestOfMap_X1_stubbornCells : GoodIn wsX1_digestOfMap wsX1_stubbornCells := goodIn_r _ [15, 4, 16, 17, 18, 19, 20, 21, 22, 23, 78, 79, 80, 81, 82, 83, 84, 85, 86, 87, 88] (by decide +kernel) (by decide +kernel)
set_option maxRecDepth 20000 in
theorem gX1_digestOfMap_X1_stubbornCells : GoodIn wsX1_digestOfMap (wsV RX1 155 RX1 yX1_stubbornCells wsX1_stubbornCells) := goodIn_app (goodIn_of _ (by decide +kernel)) ggX1_digestOfMap_X1_stubbornCells
set_option maxRecDepth 20000 in
theorem ggX1_digestOfMap_X1_borders : GoodIn wsX1_digestOfMap wsX1_borders := goodIn_r _ [27, 4, 28, 29, 30, 31, 32, 33, 34, 35, 36, 37, 38, 18, 19, 20, 21, 22, 23, 78, 79, 80, 81, 82, 83, 84, 85, 86, 87, 88] (by decide +kernel) (by decide +kernel)
set_option maxRecDepth 20000 in
theorem gX1_digestOfMap_X1_borders : GoodIn wsX1_digestOfMap (wsV RX1 158 RX1 yX1_borders wsX1_borders) := goodIn_app (goodIn_of _ (by decide +kernel)) ggX1_digestOfMap_X1_borders
set_option maxRecDepth 20000 in
theorem ggX1_digestOfMap_X1_leader : GoodIn wsX1_digestOfMap wsX1_leader := goodIn_r _ [42, 4, 43, 44, 45, 31, 46, 47, 48, 49, 50, 34, 38, 18, 19, 20, 21, 22, 23, 78, 79, 80, 81, 82, 83, 84, 85, 86, 87, 88] (by decide +kernel) (by decide +kernel)
set_option maxRecDepth 20000 in
theorem gX1_digestOfMap_X1_leader : GoodIn wsX1_digestOfMap (wsV RX1 161 RX1 yX1_leader wsX1_leader) := goodIn_app (goodIn_of _ (by decide +kernel)) ggX1_digestOfMap_X1_leader
set_option maxRecDepth 20000 in
theorem ggX1_digestOfMap_X1_isStill : GoodIn wsX1_digestOfMap wsX1_isStill := goodIn_r _ [54, 4, 55, 56, 57, 31, 58, 59, 60, 34, 61, 62, 63, 64, 65, 33, 66, 67, 68, 69, 78, 79, 80, 81, 82, 83, 84, 85, 86, 87, 88] (by decide +kernel) (by decide +kernel)
set_option maxRecDepth 20000 in
theorem gX1_digestOfMap_X1_isStill : GoodIn wsX1_digestOfMap (wsV RX1 164 RX1 yX1_isStill wsX1_isStill) := goodIn_app (goodIn_of _ (by decide +kernel)) ggX1_digestOfMap_X1_isStill
set_option maxRecDepth 20000 in
theorem ggX1_digestOfMap_X1_winner : GoodIn wsX1_digestOfMap wsX1_winner := goodIn_r _ [73, 4, 74, 75, 76, 31, 77, 33, 47, 48, 49, 50, 34, 78, 79, 80, 81, 82, 83, 84, 85, 86, 87, 88] (by decide +kernel) (by decide +kernel)
set_option maxRecDepth 20000 in
theorem gX1_digestOfMap_X1_winner : GoodIn wsX1_digestOfMap (wsV RX1 168 RX1 yX1_winner wsX1_winner) := goodIn_app (goodIn_of _ (by decide +kernel)) ggX1_digestOfMap_X1_winner
theorem dX1_digestOfMap_0 : decode cX1_digestOfMap 0 = .ok (.ldc2_w 153, 3) := by decide +kernel
theorem dX1_digestOfMap_3 : decode cX1_digestOfMap 3 = .ok (.lstore_n 1, 1) := by decide +kernel
theorem dX1_digestOfMap_4 : decode cX1_digestOfMap 4 = .ok (.lload_n 1, 1) := by decide +kernel
theorem dX1_digestOfMap_5 : decode cX1_digestOfMap 5 = .ok (.aload_n 0, 1) := by decide +kernel
theorem dX1_digestOfMap_6 : decode cX1_digestOfMap 6 = .ok (.getfield 19, 3) := by decide +kernel
theorem dX1_digestOfMap_9 : decode cX1_digestOfMap 9 = .ok (.invokestatic 146, 3) := by decide +kernel
theorem dX1_digestOfMap_12 : decode cX1_digestOfMap 12 = .ok (.lstore_n 1, 1) := by decide +kernel
theorem dX1_digestOfMap_13 : decode cX1_digestOfMap 13 = .ok (.lload_n 1, 1) := by decide +kernel
theorem dX1_digestOfMap_14 : decode cX1_digestOfMap 14 = .ok (.aload_n 0, 1) := by decide +kernel
theorem dX1_digestOfMap_15 : decode cX1_digestOfMap 15 = .ok (.getfield 23, 3) := by decide +kernel
theorem dX1_digestOfMap_18 : decode cX1_digestOfMap 18 = .ok (.invokestatic 146, 3) := by decide +kernel
theorem dX1_digestOfMap_21 : decode cX1_digestOfMap 21 = .ok (.lstore_n 1, 1) := by decide +kernel
theorem dX1_digestOfMap_22 : decode cX1_digestOfMap 22 = .ok (.lload_n 1, 1) := by decide +kernel
theorem dX1_digestOfMap_23 : decode cX1_digestOfMap 23 = .ok (.aload_n 0, 1) := by decide +kernel
theorem dX1_digestOfMap_24 : decode cX1_digestOfMap 24 = .ok (.getfield 12, 3) := by decide +kernel
theorem dX1_digestOfMap_27 : decode cX1_digestOfMap 27 = .ok (.getfield 74, 3) := by decide +kernel
theorem dX1_digestOfMap_30 : decode cX1_digestOfMap 30 = .ok (.invokestatic 146, 3) := by decide +kernel
theorem dX1_digestOfMap_33 : decode cX1_digestOfMap 33 = .ok (.lstore_n 1, 1) := by decide +kernel
theorem dX1_digestOfMap_34 : decode cX1_digestOfMap 34 = .ok (.lload_n 1, 1) := by decide +kernel
theorem dX1_digestOfMap_35 : decode cX1_digestOfMap 35 = .ok (.aload_n 0, 1) := by decide +kernel
theorem dX1_digestOfMap_36 : decode cX1_digestOfMap 36 = .ok (.getfield 26, 3) := by decide +kernel
theorem dX1_digestOfMap_39 : decode cX1_digestOfMap 39 = .ok (.invokestatic 146, 3) := by decide +kernel
theorem dX1_digestOfMap_42 : decode cX1_digestOfMap 42 = .ok (.lstore_n 1, 1) := by decide +kernel
theorem dX1_digestOfMap_43 : decode cX1_digestOfMap 43 = .ok (.lload_n 1, 1) := by decide +kernel
theorem dX1_digestOfMap_44 : decode cX1_digestOfMap 44 = .ok (.aload_n 0, 1) := by decide +kernel
theorem dX1_digestOfMap_45 : decode cX1_digestOfMap 45 = .ok (.invokevirtual 155, 3) := by decide +kernel
theorem dX1_digestOfMap_48 : decode cX1_digestOfMap 48 = .ok (.invokestatic 146, 3) := by decide +kernel
theorem dX1_digestOfMap_51 : decode cX1_digestOfMap 51 = .ok (.lstore_n 1, 1) := by decide +kernel
theorem dX1_digestOfMap_52 : decode cX1_digestOfMap 52 = .ok (.lload_n 1, 1) := by decide +kernel
theorem dX1_digestOfMap_53 : decode cX1_digestOfMap 53 = .ok (.aload_n 0, 1) := by decide +kernel
theorem dX1_digestOfMap_54 : decode cX1_digestOfMap 54 = .ok (.invokevirtual 158, 3) := by decide +kernel
theorem dX1_digestOfMap_57 : decode cX1_digestOfMap 57 = .ok (.invokestatic 146, 3) := by decide +kernel
theorem dX1_digestOfMap_60 : decode cX1_digestOfMap 60 = .ok (.lstore_n 1, 1) := by decide +kernel
theorem dX1_digestOfMap_61 : decode cX1_digestOfMap 61 = .ok (.lload_n 1, 1) := by decide +kernel
theorem dX1_digestOfMap_62 : decode cX1_digestOfMap 62 = .ok (.aload_n 0, 1) := by decide +kernel
theorem dX1_digestOfMap_63 : decode cX1_digestOfMap 63 = .ok (.invokevirtual 161, 3) := by decide +kernel
theorem dX1_digestOfMap_66 : decode cX1_digestOfMap 66 = .ok (.invokestatic 146, 3) := by decide +kernel
theorem dX1_digestOfMap_69 : decode cX1_digestOfMap 69 = .ok (.lstore_n 1, 1) := by decide +kernel
theorem dX1_digestOfMap_70 : decode cX1_digestOfMap 70 = .ok (.lload_n 1, 1) := by decide +kernel
theorem dX1_digestOfMap_71 : decode cX1_digestOfMap 71 = .ok (.aload_n 0, 1) := by decide +kernel
theorem dX1_digestOfMap_72 : decode cX1_digestOfMap 72 = .ok (.invokevirtual 164, 3) := by decide +kernel
theorem dX1_digestOfMap_75 : decode cX1_digestOfMap 75 = .ok (.ifCond .eq 7, 3) := by decide +kernel
theorem dX1_digestOfMap_78 : decode cX1_digestOfMap 78 = .ok (.iconst 1, 1) := by decide +kernel
theorem dX1_digestOfMap_79 : decode cX1_digestOfMap 79 = .ok (.goto 4, 3) := by decide +kernel
theorem dX1_digestOfMap_82 : decode cX1_digestOfMap 82 = .ok (.iconst 0, 1) := by decide +kernel
theorem dX1_digestOfMap_83 : decode cX1_digestOfMap 83 = .ok (.invokestatic 146, 3) := by decide +kernel
theorem dX1_digestOfMap_86 : decode cX1_digestOfMap 86 = .ok (.lstore_n 1, 1) := by decide +kernel
theorem dX1_digestOfMap_87 : decode cX1_digestOfMap 87 = .ok (.lload_n 1, 1) := by decide +kernel
theorem dX1_digestOfMap_88 : decode cX1_digestOfMap 88 = .ok (.aload_n 0, 1) := by decide +kernel
theorem dX1_digestOfMap_89 : decode cX1_digestOfMap 89 = .ok (.invokevirtual 168, 3) := by decide +kernel
theorem dX1_digestOfMap_92 : decode cX1_digestOfMap 92 = .ok (.invokestatic 146, 3) := by decide +kernel
theorem dX1_digestOfMap_95 : decode cX1_digestOfMap 95 = .ok (.lreturn, 1) := by decide +kernel
set_option maxRecDepth 20000 in
theorem ggX1_mixCell_X0_colourOf : GoodIn wsX1_mixCell wsX0_colourOf := goodIn_r _ [7, 8, 9, 10, 6, 11, 48, 49, 50, 51, 52, 53] (by decide +kernel) (by decide +kernel)
set_option maxRecDepth 20000 in
theorem gX1_mixCell_X0_colourOf : GoodIn wsX1_mixCell (wsV RX1 60 RX0 yX0_colourOf wsX0_colourOf) := goodIn_app (goodIn_of _ (by decide +kernel)) ggX1_mixCell_X0_colourOf
set_option maxRecDepth 20000 in
theorem ggX1_mixCell_X1_mix : GoodIn wsX1_mixCell wsX1_mix := goodIn_r _ [15, 16] (by decide +kernel) (by decide +kernel)
set_option maxRecDepth 20000 in
theorem gX1_mixCell_X1_mix : GoodIn wsX1_mixCell (va_wsS RX1 146 yX1_mix wsX1_mix) := goodIn_app (goodIn_of _ (by decide +kernel)) ggX1_mixCell_X1_mix
set_option maxRecDepth 20000 in
theorem ggX1_mixCell_X0_foreseenColourOf : GoodIn wsX1_mixCell wsX0_foreseenColourOf := goodIn_r _ [20, 21, 9, 10, 6, 11, 22, 4, 5, 7, 8, 48, 49, 50, 51, 52, 53] (by decide +kernel) (by decide +kernel)
set_option maxRecDepth 20000 in
theorem gX1_mixCell_X0_foreseenColourOf : GoodIn wsX1_mixCell (wsV RX1 97 RX0 yX0_foreseenColourOf wsX0_foreseenColourOf) := goodIn_app (goodIn_of _ (by decide +kernel)) ggX1_mixCell_X0_foreseenColourOf
set_option maxRecDepth 20000 in
theorem ggX1_mixCell_X0_sizeOfRegion : GoodIn wsX1_mixCell wsX0_sizeOfRegion := goodIn_r _ [26, 22, 4, 5, 6, 7, 8, 9, 10, 11, 27, 28, 29, 30, 31, 32, 33, 34, 14, 35, 36, 37, 38, 39, 40, 41, 42, 48, 49, 50, 51, 52, 53] (by decide +kernel) (by decide +kernel)
set_option maxRecDepth 20000 in
theorem gX1_mixCell_X0_sizeOfRegion : GoodIn wsX1_mixCell (wsV RX1 100 RX0 yX0_sizeOfRegion wsX0_sizeOfRegion) := goodIn_app (goodIn_of _ (by decide +kernel)) ggX1_mixCell_X0_sizeOfRegion
theorem dX1_mixCell_0 : decode cX1_mixCell 0 = .ok (.lload_n 1, 1) := by decide +kernel
theorem dX1_mixCell_1 : decode cX1_mixCell 1 = .ok (.aload_n 0, 1) := by decide +kernel
theorem dX1_mixCell_2 : decode cX1_mixCell 2 = .ok (.getfield 12, 3) := by decide +kernel
theorem dX1_mixCell_5 : decode cX1_mixCell 5 = .ok (.iload_n 3, 1) := by decide +kernel
theorem dX1_mixCell_6 : decode cX1_mixCell 6 = .ok (.invokevirtual 60, 3) := by decide +kernel
theorem dX1_mixCell_9 : decode cX1_mixCell 9 = .ok (.invokestatic 146, 3) := by decide +kernel
theorem dX1_mixCell_12 : decode cX1_mixCell 12 = .ok (.lstore 4, 2) := by decide +kernel
theorem dX1_mixCell_14 : decode cX1_mixCell 14 = .ok (.lload 4, 2) := by decide +kernel
theorem dX1_mixCell_16 : decode cX1_mixCell 16 = .ok (.aload_n 0, 1) := by decide +kernel
theorem dX1_mixCell_17 : decode cX1_mixCell 17 = .ok (.getfield 12, 3) := by decide +kernel
theorem dX1_mixCell_20 : decode cX1_mixCell 20 = .ok (.getfield 69, 3) := by decide +kernel
theorem dX1_mixCell_23 : decode cX1_mixCell 23 = .ok (.iload_n 3, 1) := by decide +kernel
theorem dX1_mixCell_24 : decode cX1_mixCell 24 = .ok (.iand, 1) := by decide +kernel
theorem dX1_mixCell_25 : decode cX1_mixCell 25 = .ok (.ifCond .eq 7, 3) := by decide +kernel
theorem dX1_mixCell_28 : decode cX1_mixCell 28 = .ok (.iconst 1, 1) := by decide +kernel
theorem dX1_mixCell_29 : decode cX1_mixCell 29 = .ok (.goto 4, 3) := by decide +kernel
theorem dX1_mixCell_32 : decode cX1_mixCell 32 = .ok (.iconst 0, 1) := by decide +kernel
theorem dX1_mixCell_33 : decode cX1_mixCell 33 = .ok (.invokestatic 146, 3) := by decide +kernel
theorem dX1_mixCell_36 : decode cX1_mixCell 36 = .ok (.lstore 4, 2) := by decide +kernel
theorem dX1_mixCell_38 : decode cX1_mixCell 38 = .ok (.lload 4, 2) := by decide +kernel
theorem dX1_mixCell_40 : decode cX1_mixCell 40 = .ok (.aload_n 0, 1) := by decide +kernel
theorem dX1_mixCell_41 : decode cX1_mixCell 41 = .ok (.getfield 12, 3) := by decide +kernel
theorem dX1_mixCell_44 : decode cX1_mixCell 44 = .ok (.iload_n 3, 1) := by decide +kernel
theorem dX1_mixCell_45 : decode cX1_mixCell 45 = .ok (.invokevirtual 97, 3) := by decide +kernel
theorem dX1_mixCell_48 : decode cX1_mixCell 48 = .ok (.invokestatic 146, 3) := by decide +kernel
theorem dX1_mixCell_51 : decode cX1_mixCell 51 = .ok (.lstore 4, 2) := by decide +kernel
theorem dX1_mixCell_53 : decode cX1_mixCell 53 = .ok (.lload 4, 2) := by decide +kernel
theorem dX1_mixCell_55 : decode cX1_mixCell 55 = .ok (.aload_n 0, 1) := by decide +kernel
theorem dX1_mixCell_56 : decode cX1_mixCell 56 = .ok (.getfield 12, 3) := by decide +kernel
theorem dX1_mixCell_59 : decode cX1_mixCell 59 = .ok (.iload_n 3, 1) := by decide +kernel
theorem dX1_mixCell_60 : decode cX1_mixCell 60 = .ok (.invokevirtual 100, 3) := by decide +kernel
theorem dX1_mixCell_63 : decode cX1_mixCell 63 = .ok (.invokestatic 146, 3) := by decide +kernel
theorem dX1_mixCell_66 : decode cX1_mixCell 66 = .ok (.lreturn, 1) := by decide +kernel
theorem dX1_mix_0 : decode cX1_mix 0 = .ok (.lload_n 0, 1) := by decide +kernel
theorem dX1_mix_1 : decode cX1_mix 1 = .ok (.ldc2_w 171, 3) := by decide +kernel
theorem dX1_mix_4 : decode cX1_mix 4 = .ok (.lmul, 1) := by decide +kernel
theorem dX1_mix_5 : decode cX1_mix 5 = .ok (.iload_n 2, 1) := by decide +kernel
theorem dX1_mix_6 : decode cX1_mix 6 = .ok (.i2l, 1) := by decide +kernel
theorem dX1_mix_7 : decode cX1_mix 7 = .ok (.ladd, 1) := by decide +kernel
theorem dX1_mix_8 : decode cX1_mix 8 = .ok (.lreturn, 1) := by decide +kernel
set_option maxRecDepth 20000 in
theorem ggX1_winsWithOneSeed_X1_winsWith : GoodIn wsX1_winsWithOneSeed wsX1_winsWith := goodIn_r _ [7, 8, 1, 9, 10, 11, 12, 13, 14, 15, 16, 17, 18, 19, 20, 21, 22, 23, 24, 25, 26, 27, 28, 29, 30, 31, 32, 33, 34, 35, 36, 37, 38, 39, 40, 41, 42, 43, 44, 45, 46, 47, 48, 49, 50, 51, 52, 53, 54, 55, 56, 57, 58, 59, 60, 61] (by decide +kernel) (by decide +kernel)
set_option maxRecDepth 20000 in
theorem gX1_winsWithOneSeed_X1_winsWith : GoodIn wsX1_winsWithOneSeed (wsV RX1 131 RX1 yX1_winsWith wsX1_winsWith) := goodIn_app (goodIn_of _ (by decide +kernel)) ggX1_winsWithOneSeed_X1_winsWith
theorem dX1_winsWithOneSeed_0 : decode cX1_winsWithOneSeed 0 = .ok (.iconst 0, 1) := by decide +kernel
theorem dX1_winsWithOneSeed_1 : decode cX1_winsWithOneSeed 1 = .ok (.istore_n 2, 1) := by decide +kernel
theorem dX1_winsWithOneSeed_2 : decode cX1_winsWithOneSeed 2 = .ok (.iload_n 2, 1) := by decide +kernel
theorem dX1_winsWithOneSeed_3 : decode cX1_winsWithOneSeed 3 = .ok (.bipush 30, 2) := by decide +kernel
theorem dX1_winsWithOneSeed_5 : decode cX1_winsWithOneSeed 5 = .ok (.if_icmp .ge 36, 3) := by decide +kernel
theorem dX1_winsWithOneSeed_8 : decode cX1_winsWithOneSeed 8 = .ok (.aload_n 0, 1) := by decide +kernel
theorem dX1_winsWithOneSeed_9 : decode cX1_winsWithOneSeed 9 = .ok (.getfield 12, 3) := by decide +kernel
theorem dX1_winsWithOneSeed_12 : decode cX1_winsWithOneSeed 12 = .ok (.getfield 173, 3) := by decide +kernel
theorem dX1_winsWithOneSeed_15 : decode cX1_winsWithOneSeed 15 = .ok (.iconst 1, 1) := by decide +kernel
theorem dX1_winsWithOneSeed_16 : decode cX1_winsWithOneSeed 16 = .ok (.iload_n 2, 1) := by decide +kernel
theorem dX1_winsWithOneSeed_17 : decode cX1_winsWithOneSeed 17 = .ok (.ishl, 1) := by decide +kernel
theorem dX1_winsWithOneSeed_18 : decode cX1_winsWithOneSeed 18 = .ok (.iand, 1) := by decide +kernel
theorem dX1_winsWithOneSeed_19 : decode cX1_winsWithOneSeed 19 = .ok (.istore_n 3, 1) := by decide +kernel
theorem dX1_winsWithOneSeed_20 : decode cX1_winsWithOneSeed 20 = .ok (.iload_n 3, 1) := by decide +kernel
theorem dX1_winsWithOneSeed_21 : decode cX1_winsWithOneSeed 21 = .ok (.ifCond .eq 14, 3) := by decide +kernel
theorem dX1_winsWithOneSeed_24 : decode cX1_winsWithOneSeed 24 = .ok (.aload_n 0, 1) := by decide +kernel
theorem dX1_winsWithOneSeed_25 : decode cX1_winsWithOneSeed 25 = .ok (.iload_n 3, 1) := by decide +kernel
theorem dX1_winsWithOneSeed_26 : decode cX1_winsWithOneSeed 26 = .ok (.iload_n 1, 1) := by decide +kernel
theorem dX1_winsWithOneSeed_27 : decode cX1_winsWithOneSeed 27 = .ok (.invokevirtual 131, 3) := by decide +kernel
theorem dX1_winsWithOneSeed_30 : decode cX1_winsWithOneSeed 30 = .ok (.ifCond .eq 5, 3) := by decide +kernel
theorem dX1_winsWithOneSeed_33 : decode cX1_winsWithOneSeed 33 = .ok (.iconst 1, 1) := by decide +kernel
theorem dX1_winsWithOneSeed_34 : decode cX1_winsWithOneSeed 34 = .ok (.ireturn, 1) := by decide +kernel
theorem dX1_winsWithOneSeed_35 : decode cX1_winsWithOneSeed 35 = .ok (.iinc 2 1, 3) := by decide +kernel
theorem dX1_winsWithOneSeed_38 : decode cX1_winsWithOneSeed 38 = .ok (.goto (-36), 3) := by decide +kernel
theorem dX1_winsWithOneSeed_41 : decode cX1_winsWithOneSeed 41 = .ok (.iconst 0, 1) := by decide +kernel
theorem dX1_winsWithOneSeed_42 : decode cX1_winsWithOneSeed 42 = .ok (.ireturn, 1) := by decide +kernel
set_option maxRecDepth 20000 in
theorem ggX1_winsWithTwoSeeds_X1_winsWith : GoodIn wsX1_winsWithTwoSeeds wsX1_winsWith := goodIn_r _ [7, 8, 1, 9, 10, 11, 12, 13, 14, 15, 16, 17, 18, 19, 20, 21, 22, 23, 24, 25, 26, 27, 28, 29, 30, 31, 32, 33, 34, 35, 36, 37, 38, 39, 40, 41, 42, 43, 44, 45, 46, 47, 48, 49, 50, 51, 52, 53, 54, 55, 56, 57, 58, 59, 60, 61] (by decide +kernel) (by decide +kernel)
set_option maxRecDepth 20000 in
theorem gX1_winsWithTwoSeeds_X1_winsWith : GoodIn wsX1_winsWithTwoSeeds (wsV RX1 131 RX1 yX1_winsWith wsX1_winsWith) := goodIn_app (goodIn_of _ (by decide +kernel)) ggX1_winsWithTwoSeeds_X1_winsWith
theorem dX1_winsWithTwoSeeds_0 : decode cX1_winsWithTwoSeeds 0 = .ok (.iconst 0, 1) := by decide +kernel
theorem dX1_winsWithTwoSeeds_1 : decode cX1_winsWithTwoSeeds 1 = .ok (.istore_n 2, 1) := by decide +kernel
theorem dX1_winsWithTwoSeeds_2 : decode cX1_winsWithTwoSeeds 2 = .ok (.iload_n 2, 1) := by decide +kernel
theorem dX1_winsWithTwoSeeds_3 : decode cX1_winsWithTwoSeeds 3 = .ok (.bipush 30, 2) := by decide +kernel
theorem dX1_winsWithTwoSeeds_5 : decode cX1_winsWithTwoSeeds 5 = .ok (.if_icmp .ge 61, 3) := by decide +kernel
theorem dX1_winsWithTwoSeeds_8 : decode cX1_winsWithTwoSeeds 8 = .ok (.iload_n 2, 1) := by decide +kernel
theorem dX1_winsWithTwoSeeds_9 : decode cX1_winsWithTwoSeeds 9 = .ok (.iconst 1, 1) := by decide +kernel
theorem dX1_winsWithTwoSeeds_10 : decode cX1_winsWithTwoSeeds 10 = .ok (.iadd, 1) := by decide +kernel
theorem dX1_winsWithTwoSeeds_11 : decode cX1_winsWithTwoSeeds 11 = .ok (.istore_n 3, 1) := by decide +kernel
theorem dX1_winsWithTwoSeeds_12 : decode cX1_winsWithTwoSeeds 12 = .ok (.iload_n 3, 1) := by decide +kernel
theorem dX1_winsWithTwoSeeds_13 : decode cX1_winsWithTwoSeeds 13 = .ok (.bipush 30, 2) := by decide +kernel
theorem dX1_winsWithTwoSeeds_15 : decode cX1_winsWithTwoSeeds 15 = .ok (.if_icmp .ge 45, 3) := by decide +kernel
theorem dX1_winsWithTwoSeeds_18 : decode cX1_winsWithTwoSeeds 18 = .ok (.iconst 1, 1) := by decide +kernel
theorem dX1_winsWithTwoSeeds_19 : decode cX1_winsWithTwoSeeds 19 = .ok (.iload_n 2, 1) := by decide +kernel
theorem dX1_winsWithTwoSeeds_20 : decode cX1_winsWithTwoSeeds 20 = .ok (.ishl, 1) := by decide +kernel
theorem dX1_winsWithTwoSeeds_21 : decode cX1_winsWithTwoSeeds 21 = .ok (.iconst 1, 1) := by decide +kernel
theorem dX1_winsWithTwoSeeds_22 : decode cX1_winsWithTwoSeeds 22 = .ok (.iload_n 3, 1) := by decide +kernel
theorem dX1_winsWithTwoSeeds_23 : decode cX1_winsWithTwoSeeds 23 = .ok (.ishl, 1) := by decide +kernel
theorem dX1_winsWithTwoSeeds_24 : decode cX1_winsWithTwoSeeds 24 = .ok (.ior, 1) := by decide +kernel
theorem dX1_winsWithTwoSeeds_25 : decode cX1_winsWithTwoSeeds 25 = .ok (.istore 4, 2) := by decide +kernel
theorem dX1_winsWithTwoSeeds_27 : decode cX1_winsWithTwoSeeds 27 = .ok (.iload 4, 2) := by decide +kernel
theorem dX1_winsWithTwoSeeds_29 : decode cX1_winsWithTwoSeeds 29 = .ok (.aload_n 0, 1) := by decide +kernel
theorem dX1_winsWithTwoSeeds_30 : decode cX1_winsWithTwoSeeds 30 = .ok (.getfield 12, 3) := by decide +kernel
theorem dX1_winsWithTwoSeeds_33 : decode cX1_winsWithTwoSeeds 33 = .ok (.getfield 173, 3) := by decide +kernel
theorem dX1_winsWithTwoSeeds_36 : decode cX1_winsWithTwoSeeds 36 = .ok (.iconst (-1), 1) := by decide +kernel
theorem dX1_winsWithTwoSeeds_37 : decode cX1_winsWithTwoSeeds 37 = .ok (.ixor, 1) := by decide +kernel
theorem dX1_winsWithTwoSeeds_38 : decode cX1_winsWithTwoSeeds 38 = .ok (.iand, 1) := by decide +kernel
theorem dX1_winsWithTwoSeeds_39 : decode cX1_winsWithTwoSeeds 39 = .ok (.ifCond .ne 15, 3) := by decide +kernel
theorem dX1_winsWithTwoSeeds_42 : decode cX1_winsWithTwoSeeds 42 = .ok (.aload_n 0, 1) := by decide +kernel
theorem dX1_winsWithTwoSeeds_43 : decode cX1_winsWithTwoSeeds 43 = .ok (.iload 4, 2) := by decide +kernel
theorem dX1_winsWithTwoSeeds_45 : decode cX1_winsWithTwoSeeds 45 = .ok (.iload_n 1, 1) := by decide +kernel
theorem dX1_winsWithTwoSeeds_46 : decode cX1_winsWithTwoSeeds 46 = .ok (.invokevirtual 131, 3) := by decide +kernel
theorem dX1_winsWithTwoSeeds_49 : decode cX1_winsWithTwoSeeds 49 = .ok (.ifCond .eq 5, 3) := by decide +kernel
theorem dX1_winsWithTwoSeeds_52 : decode cX1_winsWithTwoSeeds 52 = .ok (.iconst 1, 1) := by decide +kernel
theorem dX1_winsWithTwoSeeds_53 : decode cX1_winsWithTwoSeeds 53 = .ok (.ireturn, 1) := by decide +kernel
theorem dX1_winsWithTwoSeeds_54 : decode cX1_winsWithTwoSeeds 54 = .ok (.iinc 3 1, 3) := by decide +kernel
theorem dX1_winsWithTwoSeeds_57 : decode cX1_winsWithTwoSeeds 57 = .ok (.goto (-45), 3) := by decide +kernel
theorem dX1_winsWithTwoSeeds_60 : decode cX1_winsWithTwoSeeds 60 = .ok (.iinc 2 1, 3) := by decide +kernel
theorem dX1_winsWithTwoSeeds_63 : decode cX1_winsWithTwoSeeds 63 = .ok (.goto (-61), 3) := by decide +kernel
theorem dX1_winsWithTwoSeeds_66 : decode cX1_winsWithTwoSeeds 66 = .ok (.iconst 0, 1) := by decide +kernel
theorem dX1_winsWithTwoSeeds_67 : decode cX1_winsWithTwoSeeds 67 = .ok (.ireturn, 1) := by decide +kernel
set_option maxRecDepth 20000 in
theorem ggX1_winsWith_X0_copyFrom : GoodIn wsX1_winsWith wsX0_copyFrom := goodIn_r _ [7, 8, 9, 10, 11, 50, 51, 52, 53, 54, 55] (by decide +kernel) (by decide +kernel)
set_option maxRecDepth 20000 in
theorem gX1_winsWith_X0_copyFrom : GoodIn wsX1_winsWith (wsV RX1 123 RX0 yX0_copyFrom wsX0_copyFrom) := goodIn_app (goodIn_of _ (by decide +kernel)) ggX1_winsWith_X0_copyFrom
set_option maxRecDepth 20000 in
theorem ggX1_winsWith_X0_dye : GoodIn wsX1_winsWith wsX0_dye := goodIn_r _ [15, 11, 50, 51, 52, 53, 54, 55] (by decide +kernel) (by decide +kernel)
set_option maxRecDepth 20000 in
theorem gX1_winsWith_X0_dye : GoodIn wsX1_winsWith (wsV RX1 64 RX0 yX0_dye wsX0_dye) := goodIn_app (goodIn_of _ (by decide +kernel)) ggX1_winsWith_X0_dye
set_option maxRecDepth 20000 in
theorem ggX1_winsWith_X0_surge : GoodIn wsX1_winsWith wsX0_surge := goodIn_r _ [19, 20, 21, 22, 6, 23, 24, 10, 11, 25, 26, 27, 28, 29, 8, 9, 30, 31, 32, 33, 34, 35, 36, 50, 51, 52, 53, 54, 55] (by decide +kernel) (by decide +kernel)
set_option maxRecDepth 20000 in
theorem gX1_winsWith_X0_surge : GoodIn wsX1_winsWith (wsV RX1 79 RX0 yX0_surge wsX0_surge) := goodIn_app (goodIn_of _ (by decide +kernel)) ggX1_winsWith_X0_surge
set_option maxRecDepth 20000 in
theorem ggX1_winsWith_X0_isAll : GoodIn wsX1_winsWith wsX0_isAll := goodIn_r _ [40, 8, 41, 42, 43, 6, 44, 11, 50, 51, 52, 53, 54, 55] (by decide +kernel) (by decide +kernel)
set_option maxRecDepth 20000 in
theorem gX1_winsWith_X0_isAll : GoodIn wsX1_winsWith (wsV RX1 120 RX0 yX0_isAll wsX0_isAll) := goodIn_app (goodIn_of _ (by decide +kernel)) ggX1_winsWith_X0_isAll
theorem dX1_winsWith_0 : decode cX1_winsWith 0 = .ok (.aload_n 0, 1) := by decide +kernel
theorem dX1_winsWith_1 : decode cX1_winsWith 1 = .ok (.getfield 16, 3) := by decide +kernel
theorem dX1_winsWith_4 : decode cX1_winsWith 4 = .ok (.aload_n 0, 1) := by decide +kernel
theorem dX1_winsWith_5 : decode cX1_winsWith 5 = .ok (.getfield 12, 3) := by decide +kernel
theorem dX1_winsWith_8 : decode cX1_winsWith 8 = .ok (.invokevirtual 123, 3) := by decide +kernel
theorem dX1_winsWith_11 : decode cX1_winsWith 11 = .ok (.aload_n 0, 1) := by decide +kernel
theorem dX1_winsWith_12 : decode cX1_winsWith 12 = .ok (.getfield 16, 3) := by decide +kernel
theorem dX1_winsWith_15 : decode cX1_winsWith 15 = .ok (.iload_n 1, 1) := by decide +kernel
theorem dX1_winsWith_16 : decode cX1_winsWith 16 = .ok (.iload_n 2, 1) := by decide +kernel
theorem dX1_winsWith_17 : decode cX1_winsWith 17 = .ok (.invokevirtual 64, 3) := by decide +kernel
theorem dX1_winsWith_20 : decode cX1_winsWith 20 = .ok (.aload_n 0, 1) := by decide +kernel
theorem dX1_winsWith_21 : decode cX1_winsWith 21 = .ok (.getfield 16, 3) := by decide +kernel
theorem dX1_winsWith_24 : decode cX1_winsWith 24 = .ok (.bipush 8, 2) := by decide +kernel
theorem dX1_winsWith_26 : decode cX1_winsWith 26 = .ok (.invokevirtual 79, 3) := by decide +kernel
theorem dX1_winsWith_29 : decode cX1_winsWith 29 = .ok (.pop, 1) := by decide +kernel
theorem dX1_winsWith_30 : decode cX1_winsWith 30 = .ok (.aload_n 0, 1) := by decide +kernel
theorem dX1_winsWith_31 : decode cX1_winsWith 31 = .ok (.getfield 16, 3) := by decide +kernel
theorem dX1_winsWith_34 : decode cX1_winsWith 34 = .ok (.iload_n 2, 1) := by decide +kernel
theorem dX1_winsWith_35 : decode cX1_winsWith 35 = .ok (.invokevirtual 120, 3) := by decide +kernel
theorem dX1_winsWith_38 : decode cX1_winsWith 38 = .ok (.ireturn, 1) := by decide +kernel
set_option maxRecDepth 20000 in
theorem ggX1_countAfter_X0_copyFrom : GoodIn wsX1_countAfter wsX0_copyFrom := goodIn_r _ [7, 8, 9, 10, 11, 57, 58, 59, 60, 61, 62] (by decide +kernel) (by decide +kernel)
set_option maxRecDepth 20000 in
theorem gX1_countAfter_X0_copyFrom : GoodIn wsX1_countAfter (wsV RX1 123 RX0 yX0_copyFrom wsX0_copyFrom) := goodIn_app (goodIn_of _ (by decide +kernel)) ggX1_countAfter_X0_copyFrom
set_option maxRecDepth 20000 in
theorem ggX1_countAfter_X0_dye : GoodIn wsX1_countAfter wsX0_dye := goodIn_r _ [15, 11, 57, 58, 59, 60, 61, 62] (by decide +kernel) (by decide +kernel)
set_option maxRecDepth 20000 in
theorem gX1_countAfter_X0_dye : GoodIn wsX1_countAfter (wsV RX1 64 RX0 yX0_dye wsX0_dye) := goodIn_app (goodIn_of _ (by decide +kernel)) ggX1_countAfter_X0_dye
set_option maxRecDepth 20000 in
theorem ggX1_countAfter_X0_surge : GoodIn wsX1_countAfter wsX0_surge := goodIn_r _ [19, 20, 21, 22, 6, 23, 24, 10, 11, 25, 26, 27, 28, 29, 8, 9, 30, 31, 32, 33, 34, 35, 36, 57, 58, 59, 60, 61, 62] (by decide +kernel) (by decide +kernel)
set_option maxRecDepth 20000 in
theorem gX1_countAfter_X0_surge : GoodIn wsX1_countAfter (wsV RX1 79 RX0 yX0_surge wsX0_surge) := goodIn_app (goodIn_of _ (by decide +kernel)) ggX1_countAfter_X0_surge
set_option maxRecDepth 20000 in
theorem ggX1_countAfter_X0_count : GoodIn wsX1_countAfter wsX0_count := goodIn_r _ [40, 41, 42, 43, 6, 44, 11, 45, 46, 47, 48, 49, 50, 51, 57, 58, 59, 60, 61, 62] (by decide +kernel) (by decide +kernel)
set_option maxRecDepth 20000 in
theorem gX1_countAfter_X0_count : GoodIn wsX1_countAfter (wsV RX1 105 RX0 yX0_count wsX0_count) := goodIn_app (goodIn_of _ (by decide +kernel)) ggX1_countAfter_X0_count
theorem dX1_countAfter_0 : decode cX1_countAfter 0 = .ok (.aload_n 0, 1) := by decide +kernel
theorem dX1_countAfter_1 : decode cX1_countAfter 1 = .ok (.getfield 16, 3) := by decide +kernel
theorem dX1_countAfter_4 : decode cX1_countAfter 4 = .ok (.aload_n 0, 1) := by decide +kernel
theorem dX1_countAfter_5 : decode cX1_countAfter 5 = .ok (.getfield 12, 3) := by decide +kernel
theorem dX1_countAfter_8 : decode cX1_countAfter 8 = .ok (.invokevirtual 123, 3) := by decide +kernel
theorem dX1_countAfter_11 : decode cX1_countAfter 11 = .ok (.aload_n 0, 1) := by decide +kernel
theorem dX1_countAfter_12 : decode cX1_countAfter 12 = .ok (.getfield 16, 3) := by decide +kernel
theorem dX1_countAfter_15 : decode cX1_countAfter 15 = .ok (.iload_n 1, 1) := by decide +kernel
theorem dX1_countAfter_16 : decode cX1_countAfter 16 = .ok (.iload_n 2, 1) := by decide +kernel
theorem dX1_countAfter_17 : decode cX1_countAfter 17 = .ok (.invokevirtual 64, 3) := by decide +kernel
theorem dX1_countAfter_20 : decode cX1_countAfter 20 = .ok (.aload_n 0, 1) := by decide +kernel
theorem dX1_countAfter_21 : decode cX1_countAfter 21 = .ok (.getfield 16, 3) := by decide +kernel
theorem dX1_countAfter_24 : decode cX1_countAfter 24 = .ok (.iload_n 3, 1) := by decide +kernel
theorem dX1_countAfter_25 : decode cX1_countAfter 25 = .ok (.invokevirtual 79, 3) := by decide +kernel
theorem dX1_countAfter_28 : decode cX1_countAfter 28 = .ok (.pop, 1) := by decide +kernel
theorem dX1_countAfter_29 : decode cX1_countAfter 29 = .ok (.aload_n 0, 1) := by decide +kernel
theorem dX1_countAfter_30 : decode cX1_countAfter 30 = .ok (.getfield 16, 3) := by decide +kernel
theorem dX1_countAfter_33 : decode cX1_countAfter 33 = .ok (.iload_n 2, 1) := by decide +kernel
theorem dX1_countAfter_34 : decode cX1_countAfter 34 = .ok (.invokevirtual 105, 3) := by decide +kernel
theorem dX1_countAfter_37 : decode cX1_countAfter 37 = .ok (.ireturn, 1) := by decide +kernel
theorem dX1_isOnMap_0 : decode cX1_isOnMap 0 = .ok (.iload_n 1, 1) := by decide +kernel
theorem dX1_isOnMap_1 : decode cX1_isOnMap 1 = .ok (.ifCond .lt 27, 3) := by decide +kernel
theorem dX1_isOnMap_4 : decode cX1_isOnMap 4 = .ok (.iload_n 1, 1) := by decide +kernel
theorem dX1_isOnMap_5 : decode cX1_isOnMap 5 = .ok (.aload_n 0, 1) := by decide +kernel
theorem dX1_isOnMap_6 : decode cX1_isOnMap 6 = .ok (.getfield 19, 3) := by decide +kernel
theorem dX1_isOnMap_9 : decode cX1_isOnMap 9 = .ok (.if_icmp .ge 19, 3) := by decide +kernel
theorem dX1_isOnMap_12 : decode cX1_isOnMap 12 = .ok (.iload_n 2, 1) := by decide +kernel
theorem dX1_isOnMap_13 : decode cX1_isOnMap 13 = .ok (.ifCond .lt 15, 3) := by decide +kernel
theorem dX1_isOnMap_16 : decode cX1_isOnMap 16 = .ok (.iload_n 2, 1) := by decide +kernel
theorem dX1_isOnMap_17 : decode cX1_isOnMap 17 = .ok (.aload_n 0, 1) := by decide +kernel
theorem dX1_isOnMap_18 : decode cX1_isOnMap 18 = .ok (.getfield 23, 3) := by decide +kernel
theorem dX1_isOnMap_21 : decode cX1_isOnMap 21 = .ok (.if_icmp .ge 7, 3) := by decide +kernel
theorem dX1_isOnMap_24 : decode cX1_isOnMap 24 = .ok (.iconst 1, 1) := by decide +kernel
theorem dX1_isOnMap_25 : decode cX1_isOnMap 25 = .ok (.goto 4, 3) := by decide +kernel
theorem dX1_isOnMap_28 : decode cX1_isOnMap 28 = .ok (.iconst 0, 1) := by decide +kernel
theorem dX1_isOnMap_29 : decode cX1_isOnMap 29 = .ok (.ireturn, 1) := by decide +kernel
theorem dX1_isSide_0 : decode cX1_isSide 0 = .ok (.iload_n 0, 1) := by decide +kernel
theorem dX1_isSide_1 : decode cX1_isSide 1 = .ok (.iconst 2, 1) := by decide +kernel
theorem dX1_isSide_2 : decode cX1_isSide 2 = .ok (.if_icmp .lt 12, 3) := by decide +kernel
theorem dX1_isSide_5 : decode cX1_isSide 5 = .ok (.iload_n 0, 1) := by decide +kernel
theorem dX1_isSide_6 : decode cX1_isSide 6 = .ok (.iconst 5, 1) := by decide +kernel
theorem dX1_isSide_7 : decode cX1_isSide 7 = .ok (.if_icmp .gt 7, 3) := by decide +kernel
theorem dX1_isSide_10 : decode cX1_isSide 10 = .ok (.iconst 1, 1) := by decide +kernel
theorem dX1_isSide_11 : decode cX1_isSide 11 = .ok (.goto 4, 3) := by decide +kernel
theorem dX1_isSide_14 : decode cX1_isSide 14 = .ok (.iconst 0, 1) := by decide +kernel
theorem dX1_isSide_15 : decode cX1_isSide 15 = .ok (.ireturn, 1) := by decide +kernel
theorem dX1_isColour_0 : decode cX1_isColour 0 = .ok (.iload_n 0, 1) := by decide +kernel
theorem dX1_isColour_1 : decode cX1_isColour 1 = .ok (.iconst 1, 1) := by decide +kernel
theorem dX1_isColour_2 : decode cX1_isColour 2 = .ok (.if_icmp .lt 12, 3) := by decide +kernel
theorem dX1_isColour_5 : decode cX1_isColour 5 = .ok (.iload_n 0, 1) := by decide +kernel
theorem dX1_isColour_6 : decode cX1_isColour 6 = .ok (.iconst 4, 1) := by decide +kernel
theorem dX1_isColour_7 : decode cX1_isColour 7 = .ok (.if_icmp .gt 7, 3) := by decide +kernel
theorem dX1_isColour_10 : decode cX1_isColour 10 = .ok (.iconst 1, 1) := by decide +kernel
theorem dX1_isColour_11 : decode cX1_isColour 11 = .ok (.goto 4, 3) := by decide +kernel
theorem dX1_isColour_14 : decode cX1_isColour 14 = .ok (.iconst 0, 1) := by decide +kernel
theorem dX1_isColour_15 : decode cX1_isColour 15 = .ok (.ireturn, 1) := by decide +kernel
set_option maxRecDepth 20000 in
theorem ggX1_isColourOrBare_X1_isColour : GoodIn wsX1_isColourOrBare wsX1_isColour := goodIn_r _ [4] (by decide +kernel) (by decide +kernel)
set_option maxRecDepth 20000 in
theorem gX1_isColourOrBare_X1_isColour : GoodIn wsX1_isColourOrBare (va_wsS RX1 108 yX1_isColour wsX1_isColour) := goodIn_app (goodIn_of _ (by decide +kernel)) ggX1_isColourOrBare_X1_isColour
theorem dX1_isColourOrBare_0 : decode cX1_isColourOrBare 0 = .ok (.iload_n 0, 1) := by decide +kernel
theorem dX1_isColourOrBare_1 : decode cX1_isColourOrBare 1 = .ok (.ifCond .eq 10, 3) := by decide +kernel
theorem dX1_isColourOrBare_4 : decode cX1_isColourOrBare 4 = .ok (.iload_n 0, 1) := by decide +kernel
theorem dX1_isColourOrBare_5 : decode cX1_isColourOrBare 5 = .ok (.invokestatic 108, 3) := by decide +kernel
theorem dX1_isColourOrBare_8 : decode cX1_isColourOrBare 8 = .ok (.ifCond .eq 7, 3) := by decide +kernel
theorem dX1_isColourOrBare_11 : decode cX1_isColourOrBare 11 = .ok (.iconst 1, 1) := by decide +kernel
theorem dX1_isColourOrBare_12 : decode cX1_isColourOrBare 12 = .ok (.goto 4, 3) := by decide +kernel
theorem dX1_isColourOrBare_15 : decode cX1_isColourOrBare 15 = .ok (.iconst 0, 1) := by decide +kernel
theorem dX1_isColourOrBare_16 : decode cX1_isColourOrBare 16 = .ok (.ireturn, 1) := by decide +kernel
theorem dX1_cell_0 : decode cX1_cell 0 = .ok (.iconst 1, 1) := by decide +kernel
theorem dX1_cell_1 : decode cX1_cell 1 = .ok (.iload_n 0, 1) := by decide +kernel
theorem dX1_cell_2 : decode cX1_cell 2 = .ok (.bipush 6, 2) := by decide +kernel
theorem dX1_cell_4 : decode cX1_cell 4 = .ok (.iload_n 1, 1) := by decide +kernel
theorem dX1_cell_5 : decode cX1_cell 5 = .ok (.imul, 1) := by decide +kernel
theorem dX1_cell_6 : decode cX1_cell 6 = .ok (.iadd, 1) := by decide +kernel
theorem dX1_cell_7 : decode cX1_cell 7 = .ok (.ishl, 1) := by decide +kernel
theorem dX1_cell_8 : decode cX1_cell 8 = .ok (.ireturn, 1) := by decide +kernel
theorem dX1_nextTo_0 : decode cX1_nextTo 0 = .ok (.iload_n 0, 1) := by decide +kernel
theorem dX1_nextTo_1 : decode cX1_nextTo 1 = .ok (.iconst 1, 1) := by decide +kernel
theorem dX1_nextTo_2 : decode cX1_nextTo 2 = .ok (.ishl, 1) := by decide +kernel
theorem dX1_nextTo_3 : decode cX1_nextTo 3 = .ok (.iload_n 0, 1) := by decide +kernel
theorem dX1_nextTo_4 : decode cX1_nextTo 4 = .ok (.iconst 1, 1) := by decide +kernel
theorem dX1_nextTo_5 : decode cX1_nextTo 5 = .ok (.iushr, 1) := by decide +kernel
theorem dX1_nextTo_6 : decode cX1_nextTo 6 = .ok (.ior, 1) := by decide +kernel
theorem dX1_nextTo_7 : decode cX1_nextTo 7 = .ok (.iload_n 0, 1) := by decide +kernel
theorem dX1_nextTo_8 : decode cX1_nextTo 8 = .ok (.bipush 6, 2) := by decide +kernel
theorem dX1_nextTo_10 : decode cX1_nextTo 10 = .ok (.ishl, 1) := by decide +kernel
theorem dX1_nextTo_11 : decode cX1_nextTo 11 = .ok (.ior, 1) := by decide +kernel
theorem dX1_nextTo_12 : decode cX1_nextTo 12 = .ok (.iload_n 0, 1) := by decide +kernel
theorem dX1_nextTo_13 : decode cX1_nextTo 13 = .ok (.bipush 6, 2) := by decide +kernel
theorem dX1_nextTo_15 : decode cX1_nextTo 15 = .ok (.iushr, 1) := by decide +kernel
theorem dX1_nextTo_16 : decode cX1_nextTo 16 = .ok (.ior, 1) := by decide +kernel
theorem dX1_nextTo_17 : decode cX1_nextTo 17 = .ok (.ireturn, 1) := by decide +kernel
set_option maxRecDepth 20000 in
theorem ggX2_init_X2_take : GoodIn wsX2_init wsX2_take := goodIn_r _ [19, 20, 21, 22, 6, 9, 10, 23, 24, 25, 26, 27, 28, 29, 30, 31, 32, 33, 34, 35, 36] (by decide +kernel) (by decide +kernel)
set_option maxRecDepth 20000 in
theorem gX2_init_X2_take : GoodIn wsX2_init (wsV RX2 39 RX2 yX2_take wsX2_take) := goodIn_app (goodIn_of _ (by decide +kernel)) ggX2_init_X2_take
theorem dX2_init_0 : decode cX2_init 0 = .ok (.aload_n 0, 1) := by decide +kernel
theorem dX2_init_1 : decode cX2_init 1 = .ok (.invokespecial 1, 3) := by decide +kernel
theorem dX2_init_4 : decode cX2_init 4 = .ok (.aload_n 0, 1) := by decide +kernel
theorem dX2_init_5 : decode cX2_init 5 = .ok (.iconst 2, 1) := by decide +kernel
theorem dX2_init_6 : decode cX2_init 6 = .ok (.putfield 7, 3) := by decide +kernel
theorem dX2_init_9 : decode cX2_init 9 = .ok (.aload_n 0, 1) := by decide +kernel
theorem dX2_init_10 : decode cX2_init 10 = .ok (.bipush 25, 2) := by decide +kernel
theorem dX2_init_12 : decode cX2_init 12 = .ok (.newarray .int, 2) := by decide +kernel
theorem dX2_init_14 : decode cX2_init 14 = .ok (.putfield 13, 3) := by decide +kernel
theorem dX2_init_17 : decode cX2_init 17 = .ok (.aload_n 0, 1) := by decide +kernel
theorem dX2_init_18 : decode cX2_init 18 = .ok (.bipush 25, 2) := by decide +kernel
theorem dX2_init_20 : decode cX2_init 20 = .ok (.newarray .int, 2) := by decide +kernel
theorem dX2_init_22 : decode cX2_init 22 = .ok (.putfield 17, 3) := by decide +kernel
theorem dX2_init_25 : decode cX2_init 25 = .ok (.aload_n 0, 1) := by decide +kernel
theorem dX2_init_26 : decode cX2_init 26 = .ok (.bipush 25, 2) := by decide +kernel
theorem dX2_init_28 : decode cX2_init 28 = .ok (.newarray .boolean, 2) := by decide +kernel
theorem dX2_init_30 : decode cX2_init 30 = .ok (.putfield 20, 3) := by decide +kernel
theorem dX2_init_33 : decode cX2_init 33 = .ok (.aload_n 0, 1) := by decide +kernel
theorem dX2_init_34 : decode cX2_init 34 = .ok (.bipush 100, 2) := by decide +kernel
theorem dX2_init_36 : decode cX2_init 36 = .ok (.newarray .int, 2) := by decide +kernel
theorem dX2_init_38 : decode cX2_init 38 = .ok (.putfield 24, 3) := by decide +kernel
theorem dX2_init_41 : decode cX2_init 41 = .ok (.aload_n 0, 1) := by decide +kernel
theorem dX2_init_42 : decode cX2_init 42 = .ok (.bipush 25, 2) := by decide +kernel
theorem dX2_init_44 : decode cX2_init 44 = .ok (.newarray .int, 2) := by decide +kernel
theorem dX2_init_46 : decode cX2_init 46 = .ok (.putfield 27, 3) := by decide +kernel
theorem dX2_init_49 : decode cX2_init 49 = .ok (.aload_n 0, 1) := by decide +kernel
theorem dX2_init_50 : decode cX2_init 50 = .ok (.bipush 25, 2) := by decide +kernel
theorem dX2_init_52 : decode cX2_init 52 = .ok (.newarray .int, 2) := by decide +kernel
theorem dX2_init_54 : decode cX2_init 54 = .ok (.putfield 30, 3) := by decide +kernel
theorem dX2_init_57 : decode cX2_init 57 = .ok (.aload_n 0, 1) := by decide +kernel
theorem dX2_init_58 : decode cX2_init 58 = .ok (.bipush 26, 2) := by decide +kernel
theorem dX2_init_60 : decode cX2_init 60 = .ok (.newarray .int, 2) := by decide +kernel
theorem dX2_init_62 : decode cX2_init 62 = .ok (.putfield 33, 3) := by decide +kernel
theorem dX2_init_65 : decode cX2_init 65 = .ok (.aload_n 0, 1) := by decide +kernel
theorem dX2_init_66 : decode cX2_init 66 = .ok (.bipush 25, 2) := by decide +kernel
theorem dX2_init_68 : decode cX2_init 68 = .ok (.newarray .int, 2) := by decide +kernel
theorem dX2_init_70 : decode cX2_init 70 = .ok (.putfield 36, 3) := by decide +kernel
theorem dX2_init_73 : decode cX2_init 73 = .ok (.aload_n 0, 1) := by decide +kernel
theorem dX2_init_74 : decode cX2_init 74 = .ok (.iconst 4, 1) := by decide +kernel
theorem dX2_init_75 : decode cX2_init 75 = .ok (.iconst 4, 1) := by decide +kernel
theorem dX2_init_76 : decode cX2_init 76 = .ok (.invokevirtual 39, 3) := by decide +kernel
theorem dX2_init_79 : decode cX2_init 79 = .ok (.return_, 1) := by decide +kernel
theorem dX2_thrown_0 : decode cX2_thrown 0 = .ok (.aload_n 0, 1) := by decide +kernel
theorem dX2_thrown_1 : decode cX2_thrown 1 = .ok (.getfield 43, 3) := by decide +kernel
theorem dX2_thrown_4 : decode cX2_thrown 4 = .ok (.ireturn, 1) := by decide +kernel
theorem dX2_fail_0 : decode cX2_fail 0 = .ok (.aload_n 0, 1) := by decide +kernel
theorem dX2_fail_1 : decode cX2_fail 1 = .ok (.iload_n 1, 1) := by decide +kernel
theorem dX2_fail_2 : decode cX2_fail 2 = .ok (.putfield 43, 3) := by decide +kernel
theorem dX2_fail_5 : decode cX2_fail 5 = .ok (.iconst 0, 1) := by decide +kernel
theorem dX2_fail_6 : decode cX2_fail 6 = .ok (.ireturn, 1) := by decide +kernel
theorem dX2_isIn_0 : decode cX2_isIn 0 = .ok (.iload_n 0, 1) := by decide +kernel
theorem dX2_isIn_1 : decode cX2_isIn 1 = .ok (.iload_n 1, 1) := by decide +kernel
theorem dX2_isIn_2 : decode cX2_isIn 2 = .ok (.if_icmp .lt 12, 3) := by decide +kernel
theorem dX2_isIn_5 : decode cX2_isIn 5 = .ok (.iload_n 0, 1) := by decide +kernel
theorem dX2_isIn_6 : decode cX2_isIn 6 = .ok (.iload_n 2, 1) := by decide +kernel
theorem dX2_isIn_7 : decode cX2_isIn 7 = .ok (.if_icmp .gt 7, 3) := by decide +kernel
theorem dX2_isIn_10 : decode cX2_isIn 10 = .ok (.iconst 1, 1) := by decide +kernel
theorem dX2_isIn_11 : decode cX2_isIn 11 = .ok (.goto 4, 3) := by decide +kernel
theorem dX2_isIn_14 : decode cX2_isIn 14 = .ok (.iconst 0, 1) := by decide +kernel
theorem dX2_isIn_15 : decode cX2_isIn 15 = .ok (.ireturn, 1) := by decide +kernel
theorem dX2_cells_0 : decode cX2_cells 0 = .ok (.aload_n 0, 1) := by decide +kernel
theorem dX2_cells_1 : decode cX2_cells 1 = .ok (.getfield 46, 3) := by decide +kernel
theorem dX2_cells_4 : decode cX2_cells 4 = .ok (.aload_n 0, 1) := by decide +kernel
theorem dX2_cells_5 : decode cX2_cells 5 = .ok (.getfield 49, 3) := by decide +kernel
theorem dX2_cells_8 : decode cX2_cells 8 = .ok (.imul, 1) := by decide +kernel
theorem dX2_cells_9 : decode cX2_cells 9 = .ok (.ireturn, 1) := by decide +kernel
set_option maxRecDepth 20000 in
theorem ggX2_isCell_X2_isIn : GoodIn wsX2_isCell wsX2_isIn := goodIn_r _ [6] (by decide +kernel) (by decide +kernel)
set_option maxRecDepth 20000 in
theorem gX2_isCell_X2_isIn : GoodIn wsX2_isCell (va_wsS RX2 52 yX2_isIn wsX2_isIn) := goodIn_app (goodIn_of _ (by decide +kernel)) ggX2_isCell_X2_isIn
theorem dX2_isCell_0 : decode cX2_isCell 0 = .ok (.iload_n 1, 1) := by decide +kernel
theorem dX2_isCell_1 : decode cX2_isCell 1 = .ok (.iconst 0, 1) := by decide +kernel
theorem dX2_isCell_2 : decode cX2_isCell 2 = .ok (.aload_n 0, 1) := by decide +kernel
theorem dX2_isCell_3 : decode cX2_isCell 3 = .ok (.getfield 46, 3) := by decide +kernel
theorem dX2_isCell_6 : decode cX2_isCell 6 = .ok (.iconst 1, 1) := by decide +kernel
theorem dX2_isCell_7 : decode cX2_isCell 7 = .ok (.isub, 1) := by decide +kernel
theorem dX2_isCell_8 : decode cX2_isCell 8 = .ok (.invokestatic 52, 3) := by decide +kernel
theorem dX2_isCell_11 : decode cX2_isCell 11 = .ok (.ifCond .eq 21, 3) := by decide +kernel
theorem dX2_isCell_14 : decode cX2_isCell 14 = .ok (.iload_n 2, 1) := by decide +kernel
theorem dX2_isCell_15 : decode cX2_isCell 15 = .ok (.iconst 0, 1) := by decide +kernel
theorem dX2_isCell_16 : decode cX2_isCell 16 = .ok (.aload_n 0, 1) := by decide +kernel
theorem dX2_isCell_17 : decode cX2_isCell 17 = .ok (.getfield 49, 3) := by decide +kernel
theorem dX2_isCell_20 : decode cX2_isCell 20 = .ok (.iconst 1, 1) := by decide +kernel
theorem dX2_isCell_21 : decode cX2_isCell 21 = .ok (.isub, 1) := by decide +kernel
theorem dX2_isCell_22 : decode cX2_isCell 22 = .ok (.invokestatic 52, 3) := by decide +kernel
theorem dX2_isCell_25 : decode cX2_isCell 25 = .ok (.ifCond .eq 7, 3) := by decide +kernel
theorem dX2_isCell_28 : decode cX2_isCell 28 = .ok (.iconst 1, 1) := by decide +kernel
theorem dX2_isCell_29 : decode cX2_isCell 29 = .ok (.goto 4, 3) := by decide +kernel
theorem dX2_isCell_32 : decode cX2_isCell 32 = .ok (.iconst 0, 1) := by decide +kernel
theorem dX2_isCell_33 : decode cX2_isCell 33 = .ok (.ireturn, 1) := by decide +kernel
set_option maxRecDepth 20000 in
theorem ggX2_isColour_X2_isIn : GoodIn wsX2_isColour wsX2_isIn := goodIn_r _ [4] (by decide +kernel) (by decide +kernel)
set_option maxRecDepth 20000 in
theorem gX2_isColour_X2_isIn : GoodIn wsX2_isColour (va_wsS RX2 52 yX2_isIn wsX2_isIn) := goodIn_app (goodIn_of _ (by decide +kernel)) ggX2_isColour_X2_isIn
theorem dX2_isColour_0 : decode cX2_isColour 0 = .ok (.iload_n 0, 1) := by decide +kernel
theorem dX2_isColour_1 : decode cX2_isColour 1 = .ok (.iconst 1, 1) := by decide +kernel
theorem dX2_isColour_2 : decode cX2_isColour 2 = .ok (.iconst 4, 1) := by decide +kernel
theorem dX2_isColour_3 : decode cX2_isColour 3 = .ok (.invokestatic 52, 3) := by decide +kernel
theorem dX2_isColour_6 : decode cX2_isColour 6 = .ok (.ireturn, 1) := by decide +kernel
set_option maxRecDepth 20000 in
theorem ggX2_isAny_X2_isIn : GoodIn wsX2_isAny wsX2_isIn := goodIn_r _ [4] (by decide +kernel) (by decide +kernel)
set_option maxRecDepth 20000 in
theorem gX2_isAny_X2_isIn : GoodIn wsX2_isAny (va_wsS RX2 52 yX2_isIn wsX2_isIn) := goodIn_app (goodIn_of _ (by decide +kernel)) ggX2_isAny_X2_isIn
theorem dX2_isAny_0 : decode cX2_isAny 0 = .ok (.iload_n 0, 1) := by decide +kernel
theorem dX2_isAny_1 : decode cX2_isAny 1 = .ok (.iconst 0, 1) := by decide +kernel
theorem dX2_isAny_2 : decode cX2_isAny 2 = .ok (.iconst 4, 1) := by decide +kernel
theorem dX2_isAny_3 : decode cX2_isAny 3 = .ok (.invokestatic 52, 3) := by decide +kernel
theorem dX2_isAny_6 : decode cX2_isAny 6 = .ok (.ireturn, 1) := by decide +kernel
theorem dX2_take_0 : decode cX2_take 0 = .ok (.aload_n 0, 1) := by decide +kernel
theorem dX2_take_1 : decode cX2_take 1 = .ok (.iload_n 1, 1) := by decide +kernel
theorem dX2_take_2 : decode cX2_take 2 = .ok (.putfield 46, 3) := by decide +kernel
theorem dX2_take_5 : decode cX2_take 5 = .ok (.aload_n 0, 1) := by decide +kernel
theorem dX2_take_6 : decode cX2_take 6 = .ok (.iload_n 2, 1) := by decide +kernel
theorem dX2_take_7 : decode cX2_take 7 = .ok (.putfield 49, 3) := by decide +kernel
theorem dX2_take_10 : decode cX2_take 10 = .ok (.aload_n 0, 1) := by decide +kernel
theorem dX2_take_11 : decode cX2_take 11 = .ok (.iconst 0, 1) := by decide +kernel
theorem dX2_take_12 : decode cX2_take 12 = .ok (.putfield 56, 3) := by decide +kernel
theorem dX2_take_15 : decode cX2_take 15 = .ok (.iconst 0, 1) := by decide +kernel
theorem dX2_take_16 : decode cX2_take 16 = .ok (.istore_n 3, 1) := by decide +kernel
theorem dX2_take_17 : decode cX2_take 17 = .ok (.iload_n 3, 1) := by decide +kernel
theorem dX2_take_18 : decode cX2_take 18 = .ok (.bipush 25, 2) := by decide +kernel
theorem dX2_take_20 : decode cX2_take 20 = .ok (.if_icmp .ge 143, 3) := by decide +kernel
theorem dX2_take_23 : decode cX2_take 23 = .ok (.aload_n 0, 1) := by decide +kernel
theorem dX2_take_24 : decode cX2_take 24 = .ok (.getfield 13, 3) := by decide +kernel
theorem dX2_take_27 : decode cX2_take 27 = .ok (.iload_n 3, 1) := by decide +kernel
theorem dX2_take_28 : decode cX2_take 28 = .ok (.iconst 0, 1) := by decide +kernel
theorem dX2_take_29 : decode cX2_take 29 = .ok (.iastore, 1) := by decide +kernel
theorem dX2_take_30 : decode cX2_take 30 = .ok (.aload_n 0, 1) := by decide +kernel
theorem dX2_take_31 : decode cX2_take 31 = .ok (.getfield 20, 3) := by decide +kernel
theorem dX2_take_34 : decode cX2_take 34 = .ok (.iload_n 3, 1) := by decide +kernel
theorem dX2_take_35 : decode cX2_take 35 = .ok (.iconst 0, 1) := by decide +kernel
theorem dX2_take_36 : decode cX2_take 36 = .ok (.bastore, 1) := by decide +kernel
theorem dX2_take_37 : decode cX2_take 37 = .ok (.iload_n 3, 1) := by decide +kernel
theorem dX2_take_38 : decode cX2_take 38 = .ok (.aload_n 0, 1) := by decide +kernel
theorem dX2_take_39 : decode cX2_take 39 = .ok (.getfield 46, 3) := by decide +kernel
theorem dX2_take_42 : decode cX2_take 42 = .ok (.irem, 1) := by decide +kernel
theorem dX2_take_43 : decode cX2_take 43 = .ok (.istore 4, 2) := by decide +kernel
theorem dX2_take_45 : decode cX2_take 45 = .ok (.iload_n 3, 1) := by decide +kernel
theorem dX2_take_46 : decode cX2_take 46 = .ok (.aload_n 0, 1) := by decide +kernel
theorem dX2_take_47 : decode cX2_take 47 = .ok (.getfield 46, 3) := by decide +kernel
theorem dX2_take_50 : decode cX2_take 50 = .ok (.idiv, 1) := by decide +kernel
theorem dX2_take_51 : decode cX2_take 51 = .ok (.istore 5, 2) := by decide +kernel
theorem dX2_take_53 : decode cX2_take 53 = .ok (.aload_n 0, 1) := by decide +kernel
theorem dX2_take_54 : decode cX2_take 54 = .ok (.getfield 24, 3) := by decide +kernel
theorem dX2_take_57 : decode cX2_take 57 = .ok (.iconst 4, 1) := by decide +kernel
theorem dX2_take_58 : decode cX2_take 58 = .ok (.iload_n 3, 1) := by decide +kernel
theorem dX2_take_59 : decode cX2_take 59 = .ok (.imul, 1) := by decide +kernel
theorem dX2_take_60 : decode cX2_take 60 = .ok (.iload 4, 2) := by decide +kernel
theorem dX2_take_62 : decode cX2_take 62 = .ok (.ifCond .le 9, 3) := by decide +kernel
theorem dX2_take_65 : decode cX2_take 65 = .ok (.iload_n 3, 1) := by decide +kernel
theorem dX2_take_66 : decode cX2_take 66 = .ok (.iconst 1, 1) := by decide +kernel
theorem dX2_take_67 : decode cX2_take 67 = .ok (.isub, 1) := by decide +kernel
theorem dX2_take_68 : decode cX2_take 68 = .ok (.goto 4, 3) := by decide +kernel
theorem dX2_take_71 : decode cX2_take 71 = .ok (.iconst (-1), 1) := by decide +kernel
theorem dX2_take_72 : decode cX2_take 72 = .ok (.iastore, 1) := by decide +kernel
theorem dX2_take_73 : decode cX2_take 73 = .ok (.aload_n 0, 1) := by decide +kernel
theorem dX2_take_74 : decode cX2_take 74 = .ok (.getfield 24, 3) := by decide +kernel
theorem dX2_take_77 : decode cX2_take 77 = .ok (.iconst 4, 1) := by decide +kernel
theorem dX2_take_78 : decode cX2_take 78 = .ok (.iload_n 3, 1) := by decide +kernel
theorem dX2_take_79 : decode cX2_take 79 = .ok (.imul, 1) := by decide +kernel
theorem dX2_take_80 : decode cX2_take 80 = .ok (.iconst 1, 1) := by decide +kernel
theorem dX2_take_81 : decode cX2_take 81 = .ok (.iadd, 1) := by decide +kernel
theorem dX2_take_82 : decode cX2_take 82 = .ok (.iload 4, 2) := by decide +kernel
theorem dX2_take_84 : decode cX2_take 84 = .ok (.aload_n 0, 1) := by decide +kernel
theorem dX2_take_85 : decode cX2_take 85 = .ok (.getfield 46, 3) := by decide +kernel
theorem dX2_take_88 : decode cX2_take 88 = .ok (.iconst 1, 1) := by decide +kernel
theorem dX2_take_89 : decode cX2_take 89 = .ok (.isub, 1) := by decide +kernel
theorem dX2_take_90 : decode cX2_take 90 = .ok (.if_icmp .ge 9, 3) := by decide +kernel
theorem dX2_take_93 : decode cX2_take 93 = .ok (.iload_n 3, 1) := by decide +kernel
theorem dX2_take_94 : decode cX2_take 94 = .ok (.iconst 1, 1) := by decide +kernel
theorem dX2_take_95 : decode cX2_take 95 = .ok (.iadd, 1) := by decide +kernel
theorem dX2_take_96 : decode cX2_take 96 = .ok (.goto 4, 3) := by decide +kernel
theorem dX2_take_99 : decode cX2_take 99 = .ok (.iconst (-1), 1) := by decide +kernel
theorem dX2_take_100 : decode cX2_take 100 = .ok (.iastore, 1) := by decide +kernel
theorem dX2_take_101 : decode cX2_take 101 = .ok (.aload_n 0, 1) := by decide +kernel
theorem dX2_take_102 : decode cX2_take 102 = .ok (.getfield 24, 3) := by decide +kernel
theorem dX2_take_105 : decode cX2_take 105 = .ok (.iconst 4, 1) := by decide +kernel
theorem dX2_take_106 : decode cX2_take 106 = .ok (.iload_n 3, 1) := by decide +kernel
theorem dX2_take_107 : decode cX2_take 107 = .ok (.imul, 1) := by decide +kernel
theorem dX2_take_108 : decode cX2_take 108 = .ok (.iconst 2, 1) := by decide +kernel
theorem dX2_take_109 : decode cX2_take 109 = .ok (.iadd, 1) := by decide +kernel
theorem dX2_take_110 : decode cX2_take 110 = .ok (.iload 5, 2) := by decide +kernel
theorem dX2_take_112 : decode cX2_take 112 = .ok (.ifCond .le 12, 3) := by decide +kernel
theorem dX2_take_115 : decode cX2_take 115 = .ok (.iload_n 3, 1) := by decide +kernel
theorem dX2_take_116 : decode cX2_take 116 = .ok (.aload_n 0, 1) := by decide +kernel
theorem dX2_take_117 : decode cX2_take 117 = .ok (.getfield 46, 3) := by decide +kernel
theorem dX2_take_120 : decode cX2_take 120 = .ok (.isub, 1) := by decide +kernel
theorem dX2_take_121 : decode cX2_take 121 = .ok (.goto 4, 3) := by decide +kernel
theorem dX2_take_124 : decode cX2_take 124 = .ok (.iconst (-1), 1) := by decide +kernel
theorem dX2_take_125 : decode cX2_take 125 = .ok (.iastore, 1) := by decide +kernel
theorem dX2_take_126 : decode cX2_take 126 = .ok (.aload_n 0, 1) := by decide +kernel
theorem dX2_take_127 : decode cX2_take 127 = .ok (.getfield 24, 3) := by decide +kernel
theorem dX2_take_130 : decode cX2_take 130 = .ok (.iconst 4, 1) := by decide +kernel
theorem dX2_take_131 : decode cX2_take 131 = .ok (.iload_n 3, 1) := by decide +kernel
theorem dX2_take_132 : decode cX2_take 132 = .ok (.imul, 1) := by decide +kernel
theorem dX2_take_133 : decode cX2_take 133 = .ok (.iconst 3, 1) := by decide +kernel
theorem dX2_take_134 : decode cX2_take 134 = .ok (.iadd, 1) := by decide +kernel
theorem dX2_take_135 : decode cX2_take 135 = .ok (.iload 5, 2) := by decide +kernel
theorem dX2_take_137 : decode cX2_take 137 = .ok (.aload_n 0, 1) := by decide +kernel
theorem dX2_take_138 : decode cX2_take 138 = .ok (.getfield 49, 3) := by decide +kernel
theorem dX2_take_141 : decode cX2_take 141 = .ok (.iconst 1, 1) := by decide +kernel
theorem dX2_take_142 : decode cX2_take 142 = .ok (.isub, 1) := by decide +kernel
theorem dX2_take_143 : decode cX2_take 143 = .ok (.if_icmp .ge 12, 3) := by decide +kernel
theorem dX2_take_146 : decode cX2_take 146 = .ok (.iload_n 3, 1) := by decide +kernel
theorem dX2_take_147 : decode cX2_take 147 = .ok (.aload_n 0, 1) := by decide +kernel
theorem dX2_take_148 : decode cX2_take 148 = .ok (.getfield 46, 3) := by decide +kernel
theorem dX2_take_151 : decode cX2_take 151 = .ok (.iadd, 1) := by decide +kernel
theorem dX2_take_152 : decode cX2_take 152 = .ok (.goto 4, 3) := by decide +kernel
theorem dX2_take_155 : decode cX2_take 155 = .ok (.iconst (-1), 1) := by decide +kernel
theorem dX2_take_156 : decode cX2_take 156 = .ok (.iastore, 1) := by decide +kernel
theorem dX2_take_157 : decode cX2_take 157 = .ok (.iinc 3 1, 3) := by decide +kernel
theorem dX2_take_160 : decode cX2_take 160 = .ok (.goto (-143), 3) := by decide +kernel
theorem dX2_take_163 : decode cX2_take 163 = .ok (.return_, 1) := by decide +kernel
theorem dX2_keep_0 : decode cX2_keep 0 = .ok (.aload_n 0, 1) := by decide +kernel
theorem dX2_keep_1 : decode cX2_keep 1 = .ok (.getfield 13, 3) := by decide +kernel
theorem dX2_keep_4 : decode cX2_keep 4 = .ok (.iconst 0, 1) := by decide +kernel
theorem dX2_keep_5 : decode cX2_keep 5 = .ok (.aload_n 0, 1) := by decide +kernel
theorem dX2_keep_6 : decode cX2_keep 6 = .ok (.getfield 27, 3) := by decide +kernel
theorem dX2_keep_9 : decode cX2_keep 9 = .ok (.iconst 0, 1) := by decide +kernel
theorem dX2_keep_10 : decode cX2_keep 10 = .ok (.bipush 25, 2) := by decide +kernel
theorem dX2_keep_12 : decode cX2_keep 12 = .ok (.invokestatic 59, 3) := by decide +kernel
theorem dX2_keep_15 : decode cX2_keep 15 = .ok (.return_, 1) := by decide +kernel
theorem dX2_bringBack_0 : decode cX2_bringBack 0 = .ok (.aload_n 0, 1) := by decide +kernel
theorem dX2_bringBack_1 : decode cX2_bringBack 1 = .ok (.getfield 27, 3) := by decide +kernel
theorem dX2_bringBack_4 : decode cX2_bringBack 4 = .ok (.iconst 0, 1) := by decide +kernel
theorem dX2_bringBack_5 : decode cX2_bringBack 5 = .ok (.aload_n 0, 1) := by decide +kernel
theorem dX2_bringBack_6 : decode cX2_bringBack 6 = .ok (.getfield 13, 3) := by decide +kernel
theorem dX2_bringBack_9 : decode cX2_bringBack 9 = .ok (.iconst 0, 1) := by decide +kernel
theorem dX2_bringBack_10 : decode cX2_bringBack 10 = .ok (.bipush 25, 2) := by decide +kernel
theorem dX2_bringBack_12 : decode cX2_bringBack 12 = .ok (.invokestatic 59, 3) := by decide +kernel
theorem dX2_bringBack_15 : decode cX2_bringBack 15 = .ok (.return_, 1) := by decide +kernel
theorem dX2_beside_0 : decode cX2_beside 0 = .ok (.iconst 0, 1) := by decide +kernel
theorem dX2_beside_1 : decode cX2_beside 1 = .ok (.istore_n 3, 1) := by decide +kernel
theorem dX2_beside_2 : decode cX2_beside 2 = .ok (.iconst 4, 1) := by decide +kernel
theorem dX2_beside_3 : decode cX2_beside 3 = .ok (.iload_n 1, 1) := by decide +kernel
theorem dX2_beside_4 : decode cX2_beside 4 = .ok (.imul, 1) := by decide +kernel
theorem dX2_beside_5 : decode cX2_beside 5 = .ok (.istore 4, 2) := by decide +kernel
theorem dX2_beside_7 : decode cX2_beside 7 = .ok (.iload 4, 2) := by decide +kernel
theorem dX2_beside_9 : decode cX2_beside 9 = .ok (.iconst 4, 1) := by decide +kernel
theorem dX2_beside_10 : decode cX2_beside 10 = .ok (.iload_n 1, 1) := by decide +kernel
theorem dX2_beside_11 : decode cX2_beside 11 = .ok (.imul, 1) := by decide +kernel
theorem dX2_beside_12 : decode cX2_beside 12 = .ok (.iconst 4, 1) := by decide +kernel
theorem dX2_beside_13 : decode cX2_beside 13 = .ok (.iadd, 1) := by decide +kernel
theorem dX2_beside_14 : decode cX2_beside 14 = .ok (.if_icmp .ge 44, 3) := by decide +kernel
theorem dX2_beside_17 : decode cX2_beside 17 = .ok (.iload_n 3, 1) := by decide +kernel
theorem dX2_beside_18 : decode cX2_beside 18 = .ok (.aload_n 0, 1) := by decide +kernel
theorem dX2_beside_19 : decode cX2_beside 19 = .ok (.getfield 24, 3) := by decide +kernel
theorem dX2_beside_22 : decode cX2_beside 22 = .ok (.iload 4, 2) := by decide +kernel
theorem dX2_beside_24 : decode cX2_beside 24 = .ok (.iaload, 1) := by decide +kernel
theorem dX2_beside_25 : decode cX2_beside 25 = .ok (.iconst (-1), 1) := by decide +kernel
theorem dX2_beside_26 : decode cX2_beside 26 = .ok (.if_icmp .eq 23, 3) := by decide +kernel
theorem dX2_beside_29 : decode cX2_beside 29 = .ok (.aload_n 0, 1) := by decide +kernel
theorem dX2_beside_30 : decode cX2_beside 30 = .ok (.getfield 13, 3) := by decide +kernel
theorem dX2_beside_33 : decode cX2_beside 33 = .ok (.aload_n 0, 1) := by decide +kernel
theorem dX2_beside_34 : decode cX2_beside 34 = .ok (.getfield 24, 3) := by decide +kernel
theorem dX2_beside_37 : decode cX2_beside 37 = .ok (.iload 4, 2) := by decide +kernel
theorem dX2_beside_39 : decode cX2_beside 39 = .ok (.iaload, 1) := by decide +kernel
theorem dX2_beside_40 : decode cX2_beside 40 = .ok (.iaload, 1) := by decide +kernel
theorem dX2_beside_41 : decode cX2_beside 41 = .ok (.iload_n 2, 1) := by decide +kernel
theorem dX2_beside_42 : decode cX2_beside 42 = .ok (.if_icmp .ne 7, 3) := by decide +kernel
theorem dX2_beside_45 : decode cX2_beside 45 = .ok (.iconst 1, 1) := by decide +kernel
theorem dX2_beside_46 : decode cX2_beside 46 = .ok (.goto 4, 3) := by decide +kernel
theorem dX2_beside_49 : decode cX2_beside 49 = .ok (.iconst 0, 1) := by decide +kernel
theorem dX2_beside_50 : decode cX2_beside 50 = .ok (.iadd, 1) := by decide +kernel
theorem dX2_beside_51 : decode cX2_beside 51 = .ok (.istore_n 3, 1) := by decide +kernel
theorem dX2_beside_52 : decode cX2_beside 52 = .ok (.iinc 4 1, 3) := by decide +kernel
theorem dX2_beside_55 : decode cX2_beside 55 = .ok (.goto (-48), 3) := by decide +kernel
theorem dX2_beside_58 : decode cX2_beside 58 = .ok (.iload_n 3, 1) := by decide +kernel
theorem dX2_beside_59 : decode cX2_beside 59 = .ok (.ireturn, 1) := by decide +kernel
set_option maxRecDepth 20000 in
theorem ggX2_nextOf_X2_beside : GoodIn wsX2_nextOf wsX2_beside := goodIn_r _ [8, 9, 2, 10, 11, 12, 13, 14, 15, 16, 17, 18, 19, 20, 21, 22, 23] (by decide +kernel) (by decide +kernel)
set_option maxRecDepth 20000 in
theorem gX2_nextOf_X2_beside : GoodIn wsX2_nextOf (wsV RX2 65 RX2 yX2_beside wsX2_beside) := goodIn_app (goodIn_of _ (by decide +kernel)) ggX2_nextOf_X2_beside
theorem dX2_nextOf_0 : decode cX2_nextOf 0 = .ok (.aload_n 0, 1) := by decide +kernel
theorem dX2_nextOf_1 : decode cX2_nextOf 1 = .ok (.getfield 20, 3) := by decide +kernel
theorem dX2_nextOf_4 : decode cX2_nextOf 4 = .ok (.iload_n 1, 1) := by decide +kernel
theorem dX2_nextOf_5 : decode cX2_nextOf 5 = .ok (.baload, 1) := by decide +kernel
theorem dX2_nextOf_6 : decode cX2_nextOf 6 = .ok (.ifCond .eq 10, 3) := by decide +kernel
theorem dX2_nextOf_9 : decode cX2_nextOf 9 = .ok (.aload_n 0, 1) := by decide +kernel
theorem dX2_nextOf_10 : decode cX2_nextOf 10 = .ok (.getfield 13, 3) := by decide +kernel
theorem dX2_nextOf_13 : decode cX2_nextOf 13 = .ok (.iload_n 1, 1) := by decide +kernel
theorem dX2_nextOf_14 : decode cX2_nextOf 14 = .ok (.iaload, 1) := by decide +kernel
theorem dX2_nextOf_15 : decode cX2_nextOf 15 = .ok (.ireturn, 1) := by decide +kernel
theorem dX2_nextOf_16 : decode cX2_nextOf 16 = .ok (.iconst 0, 1) := by decide +kernel
theorem dX2_nextOf_17 : decode cX2_nextOf 17 = .ok (.istore_n 2, 1) := by decide +kernel
theorem dX2_nextOf_18 : decode cX2_nextOf 18 = .ok (.aload_n 0, 1) := by decide +kernel
theorem dX2_nextOf_19 : decode cX2_nextOf 19 = .ok (.getfield 7, 3) := by decide +kernel
theorem dX2_nextOf_22 : decode cX2_nextOf 22 = .ok (.iconst 1, 1) := by decide +kernel
theorem dX2_nextOf_23 : decode cX2_nextOf 23 = .ok (.isub, 1) := by decide +kernel
theorem dX2_nextOf_24 : decode cX2_nextOf 24 = .ok (.istore_n 3, 1) := by decide +kernel
theorem dX2_nextOf_25 : decode cX2_nextOf 25 = .ok (.iconst 0, 1) := by decide +kernel
theorem dX2_nextOf_26 : decode cX2_nextOf 26 = .ok (.istore 4, 2) := by decide +kernel
theorem dX2_nextOf_28 : decode cX2_nextOf 28 = .ok (.iconst 1, 1) := by decide +kernel
theorem dX2_nextOf_29 : decode cX2_nextOf 29 = .ok (.istore 5, 2) := by decide +kernel
theorem dX2_nextOf_31 : decode cX2_nextOf 31 = .ok (.iload 5, 2) := by decide +kernel
theorem dX2_nextOf_33 : decode cX2_nextOf 33 = .ok (.iconst 4, 1) := by decide +kernel
theorem dX2_nextOf_34 : decode cX2_nextOf 34 = .ok (.if_icmp .gt 45, 3) := by decide +kernel
theorem dX2_nextOf_37 : decode cX2_nextOf 37 = .ok (.aload_n 0, 1) := by decide +kernel
theorem dX2_nextOf_38 : decode cX2_nextOf 38 = .ok (.iload_n 1, 1) := by decide +kernel
theorem dX2_nextOf_39 : decode cX2_nextOf 39 = .ok (.iload 5, 2) := by decide +kernel
theorem dX2_nextOf_41 : decode cX2_nextOf 41 = .ok (.invokevirtual 65, 3) := by decide +kernel
theorem dX2_nextOf_44 : decode cX2_nextOf 44 = .ok (.istore 6, 2) := by decide +kernel
theorem dX2_nextOf_46 : decode cX2_nextOf 46 = .ok (.iload 6, 2) := by decide +kernel
theorem dX2_nextOf_48 : decode cX2_nextOf 48 = .ok (.iload_n 3, 1) := by decide +kernel
theorem dX2_nextOf_49 : decode cX2_nextOf 49 = .ok (.if_icmp .le 15, 3) := by decide +kernel
theorem dX2_nextOf_52 : decode cX2_nextOf 52 = .ok (.iload 5, 2) := by decide +kernel
theorem dX2_nextOf_54 : decode cX2_nextOf 54 = .ok (.istore_n 2, 1) := by decide +kernel
theorem dX2_nextOf_55 : decode cX2_nextOf 55 = .ok (.iload 6, 2) := by decide +kernel
theorem dX2_nextOf_57 : decode cX2_nextOf 57 = .ok (.istore_n 3, 1) := by decide +kernel
theorem dX2_nextOf_58 : decode cX2_nextOf 58 = .ok (.iconst 1, 1) := by decide +kernel
theorem dX2_nextOf_59 : decode cX2_nextOf 59 = .ok (.istore 4, 2) := by decide +kernel
theorem dX2_nextOf_61 : decode cX2_nextOf 61 = .ok (.goto 12, 3) := by decide +kernel
theorem dX2_nextOf_64 : decode cX2_nextOf 64 = .ok (.iload 6, 2) := by decide +kernel
theorem dX2_nextOf_66 : decode cX2_nextOf 66 = .ok (.iload_n 3, 1) := by decide +kernel
theorem dX2_nextOf_67 : decode cX2_nextOf 67 = .ok (.if_icmp .ne 6, 3) := by decide +kernel
theorem dX2_nextOf_70 : decode cX2_nextOf 70 = .ok (.iconst 0, 1) := by decide +kernel
theorem dX2_nextOf_71 : decode cX2_nextOf 71 = .ok (.istore 4, 2) := by decide +kernel
theorem dX2_nextOf_73 : decode cX2_nextOf 73 = .ok (.iinc 5 1, 3) := by decide +kernel
theorem dX2_nextOf_76 : decode cX2_nextOf 76 = .ok (.goto (-45), 3) := by decide +kernel
theorem dX2_nextOf_79 : decode cX2_nextOf 79 = .ok (.iload_n 2, 1) := by decide +kernel
theorem dX2_nextOf_80 : decode cX2_nextOf 80 = .ok (.ifCond .le 12, 3) := by decide +kernel
theorem dX2_nextOf_83 : decode cX2_nextOf 83 = .ok (.iload 4, 2) := by decide +kernel
theorem dX2_nextOf_85 : decode cX2_nextOf 85 = .ok (.ifCond .eq 7, 3) := by decide +kernel
theorem dX2_nextOf_88 : decode cX2_nextOf 88 = .ok (.iload_n 2, 1) := by decide +kernel
theorem dX2_nextOf_89 : decode cX2_nextOf 89 = .ok (.goto 9, 3) := by decide +kernel
theorem dX2_nextOf_92 : decode cX2_nextOf 92 = .ok (.aload_n 0, 1) := by decide +kernel
theorem dX2_nextOf_93 : decode cX2_nextOf 93 = .ok (.getfield 13, 3) := by decide +kernel
theorem dX2_nextOf_96 : decode cX2_nextOf 96 = .ok (.iload_n 1, 1) := by decide +kernel
theorem dX2_nextOf_97 : decode cX2_nextOf 97 = .ok (.iaload, 1) := by decide +kernel
theorem dX2_nextOf_98 : decode cX2_nextOf 98 = .ok (.ireturn, 1) := by decide +kernel
set_option maxRecDepth 20000 in
theorem ggX2_wave_X2_cells : GoodIn wsX2_wave wsX2_cells := goodIn_r _ [11, 12, 13, 25, 26, 27, 28, 29, 30, 31, 32, 33, 34, 35, 36, 37, 38] (by decide +kernel) (by decide +kernel)
set_option maxRecDepth 20000 in
theorem gX2_wave_X2_cells : GoodIn wsX2_wave (wsV RX2 68 RX2 yX2_cells wsX2_cells) := goodIn_app (goodIn_of _ (by decide +kernel)) ggX2_wave_X2_cells
set_option maxRecDepth 20000 in
theorem ggX2_wave_X2_nextOf : GoodIn wsX2_wave wsX2_nextOf := goodIn_r _ [17, 18, 2, 19, 20, 21, 22, 10, 23, 24, 25, 26, 27, 28, 29, 30, 31, 32, 33, 34, 35, 36, 37, 38] (by decide +kernel) (by decide +kernel)
set_option maxRecDepth 20000 in
theorem gX2_wave_X2_nextOf : GoodIn wsX2_wave (wsV RX2 72 RX2 yX2_nextOf wsX2_nextOf) := goodIn_app (goodIn_of _ (by decide +kernel)) ggX2_wave_X2_nextOf
theorem dX2_wave_0 : decode cX2_wave 0 = .ok (.iconst 0, 1) := by decide +kernel
theorem dX2_wave_1 : decode cX2_wave 1 = .ok (.istore_n 1, 1) := by decide +kernel
theorem dX2_wave_2 : decode cX2_wave 2 = .ok (.iconst 0, 1) := by decide +kernel
theorem dX2_wave_3 : decode cX2_wave 3 = .ok (.istore_n 2, 1) := by decide +kernel
theorem dX2_wave_4 : decode cX2_wave 4 = .ok (.iload_n 2, 1) := by decide +kernel
theorem dX2_wave_5 : decode cX2_wave 5 = .ok (.aload_n 0, 1) := by decide +kernel
theorem dX2_wave_6 : decode cX2_wave 6 = .ok (.invokevirtual 68, 3) := by decide +kernel
theorem dX2_wave_9 : decode cX2_wave 9 = .ok (.if_icmp .ge 43, 3) := by decide +kernel
theorem dX2_wave_12 : decode cX2_wave 12 = .ok (.aload_n 0, 1) := by decide +kernel
theorem dX2_wave_13 : decode cX2_wave 13 = .ok (.getfield 17, 3) := by decide +kernel
theorem dX2_wave_16 : decode cX2_wave 16 = .ok (.iload_n 2, 1) := by decide +kernel
theorem dX2_wave_17 : decode cX2_wave 17 = .ok (.aload_n 0, 1) := by decide +kernel
theorem dX2_wave_18 : decode cX2_wave 18 = .ok (.iload_n 2, 1) := by decide +kernel
theorem dX2_wave_19 : decode cX2_wave 19 = .ok (.invokevirtual 72, 3) := by decide +kernel
theorem dX2_wave_22 : decode cX2_wave 22 = .ok (.iastore, 1) := by decide +kernel
theorem dX2_wave_23 : decode cX2_wave 23 = .ok (.iload_n 1, 1) := by decide +kernel
theorem dX2_wave_24 : decode cX2_wave 24 = .ok (.aload_n 0, 1) := by decide +kernel
theorem dX2_wave_25 : decode cX2_wave 25 = .ok (.getfield 17, 3) := by decide +kernel
theorem dX2_wave_28 : decode cX2_wave 28 = .ok (.iload_n 2, 1) := by decide +kernel
theorem dX2_wave_29 : decode cX2_wave 29 = .ok (.iaload, 1) := by decide +kernel
theorem dX2_wave_30 : decode cX2_wave 30 = .ok (.aload_n 0, 1) := by decide +kernel
theorem dX2_wave_31 : decode cX2_wave 31 = .ok (.getfield 13, 3) := by decide +kernel
theorem dX2_wave_34 : decode cX2_wave 34 = .ok (.iload_n 2, 1) := by decide +kernel
theorem dX2_wave_35 : decode cX2_wave 35 = .ok (.iaload, 1) := by decide +kernel
theorem dX2_wave_36 : decode cX2_wave 36 = .ok (.if_icmp .ne 7, 3) := by decide +kernel
theorem dX2_wave_39 : decode cX2_wave 39 = .ok (.iconst 0, 1) := by decide +kernel
theorem dX2_wave_40 : decode cX2_wave 40 = .ok (.goto 4, 3) := by decide +kernel
theorem dX2_wave_43 : decode cX2_wave 43 = .ok (.iconst 1, 1) := by decide +kernel
theorem dX2_wave_44 : decode cX2_wave 44 = .ok (.iadd, 1) := by decide +kernel
theorem dX2_wave_45 : decode cX2_wave 45 = .ok (.istore_n 1, 1) := by decide +kernel
theorem dX2_wave_46 : decode cX2_wave 46 = .ok (.iinc 2 1, 3) := by decide +kernel
theorem dX2_wave_49 : decode cX2_wave 49 = .ok (.goto (-45), 3) := by decide +kernel
theorem dX2_wave_52 : decode cX2_wave 52 = .ok (.aload_n 0, 1) := by decide +kernel
theorem dX2_wave_53 : decode cX2_wave 53 = .ok (.getfield 17, 3) := by decide +kernel
theorem dX2_wave_56 : decode cX2_wave 56 = .ok (.iconst 0, 1) := by decide +kernel
theorem dX2_wave_57 : decode cX2_wave 57 = .ok (.aload_n 0, 1) := by decide +kernel
theorem dX2_wave_58 : decode cX2_wave 58 = .ok (.getfield 13, 3) := by decide +kernel
theorem dX2_wave_61 : decode cX2_wave 61 = .ok (.iconst 0, 1) := by decide +kernel
theorem dX2_wave_62 : decode cX2_wave 62 = .ok (.aload_n 0, 1) := by decide +kernel
theorem dX2_wave_63 : decode cX2_wave 63 = .ok (.invokevirtual 68, 3) := by decide +kernel
theorem dX2_wave_66 : decode cX2_wave 66 = .ok (.invokestatic 59, 3) := by decide +kernel
theorem dX2_wave_69 : decode cX2_wave 69 = .ok (.iload_n 1, 1) := by decide +kernel
theorem dX2_wave_70 : decode cX2_wave 70 = .ok (.ireturn, 1) := by decide +kernel
set_option maxRecDepth 20000 in
theorem ggX2_cellsWith_X2_cells : GoodIn wsX2_cellsWith wsX2_cells := goodIn_r _ [6, 7, 8, 9, 10, 11, 12, 13, 14, 15, 16, 17, 18, 19, 20, 21, 22] (by decide +kernel) (by decide +kernel)
set_option maxRecDepth 20000 in
theorem gX2_cellsWith_X2_cells : GoodIn wsX2_cellsWith (wsV RX2 68 RX2 yX2_cells wsX2_cells) := goodIn_app (goodIn_of _ (by decide +kernel)) ggX2_cellsWith_X2_cells
theorem dX2_cellsWith_0 : decode cX2_cellsWith 0 = .ok (.iconst 0, 1) := by decide +kernel
theorem dX2_cellsWith_1 : decode cX2_cellsWith 1 = .ok (.istore_n 2, 1) := by decide +kernel
theorem dX2_cellsWith_2 : decode cX2_cellsWith 2 = .ok (.iconst 0, 1) := by decide +kernel
theorem dX2_cellsWith_3 : decode cX2_cellsWith 3 = .ok (.istore_n 3, 1) := by decide +kernel
theorem dX2_cellsWith_4 : decode cX2_cellsWith 4 = .ok (.iload_n 3, 1) := by decide +kernel
theorem dX2_cellsWith_5 : decode cX2_cellsWith 5 = .ok (.aload_n 0, 1) := by decide +kernel
theorem dX2_cellsWith_6 : decode cX2_cellsWith 6 = .ok (.invokevirtual 68, 3) := by decide +kernel
theorem dX2_cellsWith_9 : decode cX2_cellsWith 9 = .ok (.if_icmp .ge 27, 3) := by decide +kernel
theorem dX2_cellsWith_12 : decode cX2_cellsWith 12 = .ok (.iload_n 2, 1) := by decide +kernel
theorem dX2_cellsWith_13 : decode cX2_cellsWith 13 = .ok (.aload_n 0, 1) := by decide +kernel
theorem dX2_cellsWith_14 : decode cX2_cellsWith 14 = .ok (.getfield 13, 3) := by decide +kernel
theorem dX2_cellsWith_17 : decode cX2_cellsWith 17 = .ok (.iload_n 3, 1) := by decide +kernel
theorem dX2_cellsWith_18 : decode cX2_cellsWith 18 = .ok (.iaload, 1) := by decide +kernel
theorem dX2_cellsWith_19 : decode cX2_cellsWith 19 = .ok (.iload_n 1, 1) := by decide +kernel
theorem dX2_cellsWith_20 : decode cX2_cellsWith 20 = .ok (.if_icmp .ne 7, 3) := by decide +kernel
theorem dX2_cellsWith_23 : decode cX2_cellsWith 23 = .ok (.iconst 1, 1) := by decide +kernel
theorem dX2_cellsWith_24 : decode cX2_cellsWith 24 = .ok (.goto 4, 3) := by decide +kernel
theorem dX2_cellsWith_27 : decode cX2_cellsWith 27 = .ok (.iconst 0, 1) := by decide +kernel
theorem dX2_cellsWith_28 : decode cX2_cellsWith 28 = .ok (.iadd, 1) := by decide +kernel
theorem dX2_cellsWith_29 : decode cX2_cellsWith 29 = .ok (.istore_n 2, 1) := by decide +kernel
theorem dX2_cellsWith_30 : decode cX2_cellsWith 30 = .ok (.iinc 3 1, 3) := by decide +kernel
theorem dX2_cellsWith_33 : decode cX2_cellsWith 33 = .ok (.goto (-29), 3) := by decide +kernel
theorem dX2_cellsWith_36 : decode cX2_cellsWith 36 = .ok (.iload_n 2, 1) := by decide +kernel
theorem dX2_cellsWith_37 : decode cX2_cellsWith 37 = .ok (.ireturn, 1) := by decide +kernel
set_option maxRecDepth 20000 in
theorem ggX2_newMap_X2_isIn : GoodIn wsX2_newMap wsX2_isIn := goodIn_r _ [5] (by decide +kernel) (by decide +kernel)
set_option maxRecDepth 20000 in
theorem gX2_newMap_X2_isIn : GoodIn wsX2_newMap (va_wsS RX2 52 yX2_isIn wsX2_isIn) := goodIn_app (goodIn_of _ (by decide +kernel)) ggX2_newMap_X2_isIn
set_option maxRecDepth 20000 in
theorem ggX2_newMap_X2_fail : GoodIn wsX2_newMap wsX2_fail := goodIn_r _ [9, 1, 24, 25, 26, 27, 28, 29, 30, 31, 32, 33, 34, 35, 36, 37] (by decide +kernel) (by decide +kernel)
set_option maxRecDepth 20000 in
theorem gX2_newMap_X2_fail : GoodIn wsX2_newMap (wsV RX2 76 RX2 yX2_fail wsX2_fail) := goodIn_app (goodIn_of _ (by decide +kernel)) ggX2_newMap_X2_fail
set_option maxRecDepth 20000 in
theorem ggX2_newMap_X2_take : GoodIn wsX2_newMap wsX2_take := goodIn_r _ [13, 14, 15, 16, 17, 18, 19, 24, 25, 26, 27, 28, 29, 30, 31, 32, 33, 34, 35, 36, 37] (by decide +kernel) (by decide +kernel)
set_option maxRecDepth 20000 in
theorem gX2_newMap_X2_take : GoodIn wsX2_newMap (wsV RX2 39 RX2 yX2_take wsX2_take) := goodIn_app (goodIn_of _ (by decide +kernel)) ggX2_newMap_X2_take
set_option maxRecDepth 20000 in
theorem ggX2_newMap_X2_cells : GoodIn wsX2_newMap wsX2_cells := goodIn_r _ [23, 14, 15, 24, 25, 26, 27, 28, 29, 30, 31, 32, 33, 34, 35, 36, 37] (by decide +kernel) (by decide +kernel)
set_option maxRecDepth 20000 in
theorem gX2_newMap_X2_cells : GoodIn wsX2_newMap (wsV RX2 68 RX2 yX2_cells wsX2_cells) := goodIn_app (goodIn_of _ (by decide +kernel)) ggX2_newMap_X2_cells
theorem dX2_newMap_0 : decode cX2_newMap 0 = .ok (.aload_n 0, 1) := by decide +kernel
theorem dX2_newMap_1 : decode cX2_newMap 1 = .ok (.iconst 0, 1) := by decide +kernel
theorem dX2_newMap_2 : decode cX2_newMap 2 = .ok (.putfield 43, 3) := by decide +kernel
theorem dX2_newMap_5 : decode cX2_newMap 5 = .ok (.iload_n 1, 1) := by decide +kernel
theorem dX2_newMap_6 : decode cX2_newMap 6 = .ok (.iconst 2, 1) := by decide +kernel
theorem dX2_newMap_7 : decode cX2_newMap 7 = .ok (.iconst 5, 1) := by decide +kernel
theorem dX2_newMap_8 : decode cX2_newMap 8 = .ok (.invokestatic 52, 3) := by decide +kernel
theorem dX2_newMap_11 : decode cX2_newMap 11 = .ok (.ifCond .eq 12, 3) := by decide +kernel
theorem dX2_newMap_14 : decode cX2_newMap 14 = .ok (.iload_n 2, 1) := by decide +kernel
theorem dX2_newMap_15 : decode cX2_newMap 15 = .ok (.iconst 2, 1) := by decide +kernel
theorem dX2_newMap_16 : decode cX2_newMap 16 = .ok (.iconst 5, 1) := by decide +kernel
theorem dX2_newMap_17 : decode cX2_newMap 17 = .ok (.invokestatic 52, 3) := by decide +kernel
theorem dX2_newMap_20 : decode cX2_newMap 20 = .ok (.ifCond .ne 9, 3) := by decide +kernel
theorem dX2_newMap_23 : decode cX2_newMap 23 = .ok (.aload_n 0, 1) := by decide +kernel
theorem dX2_newMap_24 : decode cX2_newMap 24 = .ok (.iconst 1, 1) := by decide +kernel
theorem dX2_newMap_25 : decode cX2_newMap 25 = .ok (.invokevirtual 76, 3) := by decide +kernel
theorem dX2_newMap_28 : decode cX2_newMap 28 = .ok (.ireturn, 1) := by decide +kernel
theorem dX2_newMap_29 : decode cX2_newMap 29 = .ok (.aload_n 0, 1) := by decide +kernel
theorem dX2_newMap_30 : decode cX2_newMap 30 = .ok (.iload_n 1, 1) := by decide +kernel
theorem dX2_newMap_31 : decode cX2_newMap 31 = .ok (.iload_n 2, 1) := by decide +kernel
theorem dX2_newMap_32 : decode cX2_newMap 32 = .ok (.invokevirtual 39, 3) := by decide +kernel
theorem dX2_newMap_35 : decode cX2_newMap 35 = .ok (.aload_n 0, 1) := by decide +kernel
theorem dX2_newMap_36 : decode cX2_newMap 36 = .ok (.invokevirtual 68, 3) := by decide +kernel
theorem dX2_newMap_39 : decode cX2_newMap 39 = .ok (.ireturn, 1) := by decide +kernel
set_option maxRecDepth 20000 in
theorem ggX2_paint_X2_isCell : GoodIn wsX2_paint wsX2_isCell := goodIn_r _ [8, 3, 9, 10, 11, 7, 12, 20, 21, 22, 23, 24, 25, 26, 27, 28, 29, 30, 31, 32, 33] (by decide +kernel) (by decide +kernel)
set_option maxRecDepth 20000 in
theorem gX2_paint_X2_isCell : GoodIn wsX2_paint (wsV RX2 79 RX2 yX2_isCell wsX2_isCell) := goodIn_app (goodIn_of _ (by decide +kernel)) ggX2_paint_X2_isCell
set_option maxRecDepth 20000 in
theorem ggX2_paint_X2_isAny : GoodIn wsX2_paint wsX2_isAny := goodIn_r _ [15, 10, 11, 7, 12] (by decide +kernel) (by decide +kernel)
set_option maxRecDepth 20000 in
theorem gX2_paint_X2_isAny : GoodIn wsX2_paint (va_wsS RX2 83 yX2_isAny wsX2_isAny) := goodIn_app (goodIn_of _ (by decide +kernel)) ggX2_paint_X2_isAny
set_option maxRecDepth 20000 in
theorem ggX2_paint_X2_fail : GoodIn wsX2_paint wsX2_fail := goodIn_r _ [19, 1, 20, 21, 22, 23, 24, 25, 26, 27, 28, 29, 30, 31, 32, 33] (by decide +kernel) (by decide +kernel)
set_option maxRecDepth 20000 in
theorem gX2_paint_X2_fail : GoodIn wsX2_paint (wsV RX2 76 RX2 yX2_fail wsX2_fail) := goodIn_app (goodIn_of _ (by decide +kernel)) ggX2_paint_X2_fail
theorem dX2_paint_0 : decode cX2_paint 0 = .ok (.aload_n 0, 1) := by decide +kernel
theorem dX2_paint_1 : decode cX2_paint 1 = .ok (.iconst 0, 1) := by decide +kernel
theorem dX2_paint_2 : decode cX2_paint 2 = .ok (.putfield 43, 3) := by decide +kernel
theorem dX2_paint_5 : decode cX2_paint 5 = .ok (.aload_n 0, 1) := by decide +kernel
theorem dX2_paint_6 : decode cX2_paint 6 = .ok (.iload_n 1, 1) := by decide +kernel
theorem dX2_paint_7 : decode cX2_paint 7 = .ok (.iload_n 2, 1) := by decide +kernel
theorem dX2_paint_8 : decode cX2_paint 8 = .ok (.invokevirtual 79, 3) := by decide +kernel
theorem dX2_paint_11 : decode cX2_paint 11 = .ok (.ifCond .eq 10, 3) := by decide +kernel
theorem dX2_paint_14 : decode cX2_paint 14 = .ok (.iload_n 3, 1) := by decide +kernel
theorem dX2_paint_15 : decode cX2_paint 15 = .ok (.invokestatic 83, 3) := by decide +kernel
theorem dX2_paint_18 : decode cX2_paint 18 = .ok (.ifCond .ne 9, 3) := by decide +kernel
theorem dX2_paint_21 : decode cX2_paint 21 = .ok (.aload_n 0, 1) := by decide +kernel
theorem dX2_paint_22 : decode cX2_paint 22 = .ok (.iconst 1, 1) := by decide +kernel
theorem dX2_paint_23 : decode cX2_paint 23 = .ok (.invokevirtual 76, 3) := by decide +kernel
theorem dX2_paint_26 : decode cX2_paint 26 = .ok (.ireturn, 1) := by decide +kernel
theorem dX2_paint_27 : decode cX2_paint 27 = .ok (.aload_n 0, 1) := by decide +kernel
theorem dX2_paint_28 : decode cX2_paint 28 = .ok (.getfield 13, 3) := by decide +kernel
theorem dX2_paint_31 : decode cX2_paint 31 = .ok (.aload_n 0, 1) := by decide +kernel
theorem dX2_paint_32 : decode cX2_paint 32 = .ok (.getfield 46, 3) := by decide +kernel
theorem dX2_paint_35 : decode cX2_paint 35 = .ok (.iload_n 2, 1) := by decide +kernel
theorem dX2_paint_36 : decode cX2_paint 36 = .ok (.imul, 1) := by decide +kernel
theorem dX2_paint_37 : decode cX2_paint 37 = .ok (.iload_n 1, 1) := by decide +kernel
theorem dX2_paint_38 : decode cX2_paint 38 = .ok (.iadd, 1) := by decide +kernel
theorem dX2_paint_39 : decode cX2_paint 39 = .ok (.iaload, 1) := by decide +kernel
theorem dX2_paint_40 : decode cX2_paint 40 = .ok (.istore 4, 2) := by decide +kernel
theorem dX2_paint_42 : decode cX2_paint 42 = .ok (.aload_n 0, 1) := by decide +kernel
theorem dX2_paint_43 : decode cX2_paint 43 = .ok (.getfield 13, 3) := by decide +kernel
theorem dX2_paint_46 : decode cX2_paint 46 = .ok (.aload_n 0, 1) := by decide +kernel
theorem dX2_paint_47 : decode cX2_paint 47 = .ok (.getfield 46, 3) := by decide +kernel
theorem dX2_paint_50 : decode cX2_paint 50 = .ok (.iload_n 2, 1) := by decide +kernel
theorem dX2_paint_51 : decode cX2_paint 51 = .ok (.imul, 1) := by decide +kernel
theorem dX2_paint_52 : decode cX2_paint 52 = .ok (.iload_n 1, 1) := by decide +kernel
theorem dX2_paint_53 : decode cX2_paint 53 = .ok (.iadd, 1) := by decide +kernel
theorem dX2_paint_54 : decode cX2_paint 54 = .ok (.iload_n 3, 1) := by decide +kernel
theorem dX2_paint_55 : decode cX2_paint 55 = .ok (.iastore, 1) := by decide +kernel
theorem dX2_paint_56 : decode cX2_paint 56 = .ok (.iload 4, 2) := by decide +kernel
theorem dX2_paint_58 : decode cX2_paint 58 = .ok (.ireturn, 1) := by decide +kernel
set_option maxRecDepth 20000 in
theorem ggX2_turnStubborn_X2_isCell : GoodIn wsX2_turnStubborn wsX2_isCell := goodIn_r _ [8, 3, 9, 10, 11, 7, 12, 13, 14, 15, 16, 17, 18, 19, 20, 21, 22, 23, 24, 25, 26] (by decide +kernel) (by decide +kernel)
set_option maxRecDepth 20000 in
theorem gX2_turnStubborn_X2_isCell : GoodIn wsX2_turnStubborn (wsV RX2 79 RX2 yX2_isCell wsX2_isCell) := goodIn_app (goodIn_of _ (by decide +kernel)) ggX2_turnStubborn_X2_isCell
theorem dX2_turnStubborn_0 : decode cX2_turnStubborn 0 = .ok (.aload_n 0, 1) := by decide +kernel
theorem dX2_turnStubborn_1 : decode cX2_turnStubborn 1 = .ok (.aload_n 0, 1) := by decide +kernel
theorem dX2_turnStubborn_2 : decode cX2_turnStubborn 2 = .ok (.iload_n 1, 1) := by decide +kernel
theorem dX2_turnStubborn_3 : decode cX2_turnStubborn 3 = .ok (.iload_n 2, 1) := by decide +kernel
theorem dX2_turnStubborn_4 : decode cX2_turnStubborn 4 = .ok (.invokevirtual 79, 3) := by decide +kernel
theorem dX2_turnStubborn_7 : decode cX2_turnStubborn 7 = .ok (.ifCond .eq 7, 3) := by decide +kernel
theorem dX2_turnStubborn_10 : decode cX2_turnStubborn 10 = .ok (.iconst 0, 1) := by decide +kernel
theorem dX2_turnStubborn_11 : decode cX2_turnStubborn 11 = .ok (.goto 4, 3) := by decide +kernel
theorem dX2_turnStubborn_14 : decode cX2_turnStubborn 14 = .ok (.iconst 1, 1) := by decide +kernel
theorem dX2_turnStubborn_15 : decode cX2_turnStubborn 15 = .ok (.putfield 43, 3) := by decide +kernel
theorem dX2_turnStubborn_18 : decode cX2_turnStubborn 18 = .ok (.aload_n 0, 1) := by decide +kernel
theorem dX2_turnStubborn_19 : decode cX2_turnStubborn 19 = .ok (.getfield 43, 3) := by decide +kernel
theorem dX2_turnStubborn_22 : decode cX2_turnStubborn 22 = .ok (.ifCond .eq 5, 3) := by decide +kernel
theorem dX2_turnStubborn_25 : decode cX2_turnStubborn 25 = .ok (.iconst 0, 1) := by decide +kernel
theorem dX2_turnStubborn_26 : decode cX2_turnStubborn 26 = .ok (.ireturn, 1) := by decide +kernel
theorem dX2_turnStubborn_27 : decode cX2_turnStubborn 27 = .ok (.aload_n 0, 1) := by decide +kernel
theorem dX2_turnStubborn_28 : decode cX2_turnStubborn 28 = .ok (.getfield 20, 3) := by decide +kernel
theorem dX2_turnStubborn_31 : decode cX2_turnStubborn 31 = .ok (.aload_n 0, 1) := by decide +kernel
theorem dX2_turnStubborn_32 : decode cX2_turnStubborn 32 = .ok (.getfield 46, 3) := by decide +kernel
theorem dX2_turnStubborn_35 : decode cX2_turnStubborn 35 = .ok (.iload_n 2, 1) := by decide +kernel
theorem dX2_turnStubborn_36 : decode cX2_turnStubborn 36 = .ok (.imul, 1) := by decide +kernel
theorem dX2_turnStubborn_37 : decode cX2_turnStubborn 37 = .ok (.iload_n 1, 1) := by decide +kernel
theorem dX2_turnStubborn_38 : decode cX2_turnStubborn 38 = .ok (.iadd, 1) := by decide +kernel
theorem dX2_turnStubborn_39 : decode cX2_turnStubborn 39 = .ok (.aload_n 0, 1) := by decide +kernel
theorem dX2_turnStubborn_40 : decode cX2_turnStubborn 40 = .ok (.getfield 20, 3) := by decide +kernel
theorem dX2_turnStubborn_43 : decode cX2_turnStubborn 43 = .ok (.aload_n 0, 1) := by decide +kernel
theorem dX2_turnStubborn_44 : decode cX2_turnStubborn 44 = .ok (.getfield 46, 3) := by decide +kernel
theorem dX2_turnStubborn_47 : decode cX2_turnStubborn 47 = .ok (.iload_n 2, 1) := by decide +kernel
theorem dX2_turnStubborn_48 : decode cX2_turnStubborn 48 = .ok (.imul, 1) := by decide +kernel
theorem dX2_turnStubborn_49 : decode cX2_turnStubborn 49 = .ok (.iload_n 1, 1) := by decide +kernel
theorem dX2_turnStubborn_50 : decode cX2_turnStubborn 50 = .ok (.iadd, 1) := by decide +kernel
theorem dX2_turnStubborn_51 : decode cX2_turnStubborn 51 = .ok (.baload, 1) := by decide +kernel
theorem dX2_turnStubborn_52 : decode cX2_turnStubborn 52 = .ok (.ifCond .ne 7, 3) := by decide +kernel
theorem dX2_turnStubborn_55 : decode cX2_turnStubborn 55 = .ok (.iconst 1, 1) := by decide +kernel
theorem dX2_turnStubborn_56 : decode cX2_turnStubborn 56 = .ok (.goto 4, 3) := by decide +kernel
theorem dX2_turnStubborn_59 : decode cX2_turnStubborn 59 = .ok (.iconst 0, 1) := by decide +kernel
theorem dX2_turnStubborn_60 : decode cX2_turnStubborn 60 = .ok (.bastore, 1) := by decide +kernel
theorem dX2_turnStubborn_61 : decode cX2_turnStubborn 61 = .ok (.aload_n 0, 1) := by decide +kernel
theorem dX2_turnStubborn_62 : decode cX2_turnStubborn 62 = .ok (.getfield 20, 3) := by decide +kernel
theorem dX2_turnStubborn_65 : decode cX2_turnStubborn 65 = .ok (.aload_n 0, 1) := by decide +kernel
theorem dX2_turnStubborn_66 : decode cX2_turnStubborn 66 = .ok (.getfield 46, 3) := by decide +kernel
theorem dX2_turnStubborn_69 : decode cX2_turnStubborn 69 = .ok (.iload_n 2, 1) := by decide +kernel
theorem dX2_turnStubborn_70 : decode cX2_turnStubborn 70 = .ok (.imul, 1) := by decide +kernel
theorem dX2_turnStubborn_71 : decode cX2_turnStubborn 71 = .ok (.iload_n 1, 1) := by decide +kernel
theorem dX2_turnStubborn_72 : decode cX2_turnStubborn 72 = .ok (.iadd, 1) := by decide +kernel
theorem dX2_turnStubborn_73 : decode cX2_turnStubborn 73 = .ok (.baload, 1) := by decide +kernel
theorem dX2_turnStubborn_74 : decode cX2_turnStubborn 74 = .ok (.ireturn, 1) := by decide +kernel
set_option maxRecDepth 20000 in
theorem ggX2_setNeed_X2_isIn : GoodIn wsX2_setNeed wsX2_isIn := goodIn_r _ [6] (by decide +kernel) (by decide +kernel)
set_option maxRecDepth 20000 in
theorem gX2_setNeed_X2_isIn : GoodIn wsX2_setNeed (va_wsS RX2 52 yX2_isIn wsX2_isIn) := goodIn_app (goodIn_of _ (by decide +kernel)) ggX2_setNeed_X2_isIn
set_option maxRecDepth 20000 in
theorem ggX2_setNeed_X2_fail : GoodIn wsX2_setNeed wsX2_fail := goodIn_r _ [10, 1, 11, 12, 13, 14, 15, 16, 17, 18, 19, 20, 21, 22, 23, 24] (by decide +kernel) (by decide +kernel)
set_option maxRecDepth 20000 in
theorem gX2_setNeed_X2_fail : GoodIn wsX2_setNeed (wsV RX2 76 RX2 yX2_fail wsX2_fail) := goodIn_app (goodIn_of _ (by decide +kernel)) ggX2_setNeed_X2_fail
theorem dX2_setNeed_0 : decode cX2_setNeed 0 = .ok (.aload_n 0, 1) := by decide +kernel
theorem dX2_setNeed_1 : decode cX2_setNeed 1 = .ok (.iconst 0, 1) := by decide +kernel
theorem dX2_setNeed_2 : decode cX2_setNeed 2 = .ok (.putfield 43, 3) := by decide +kernel
theorem dX2_setNeed_5 : decode cX2_setNeed 5 = .ok (.iload_n 1, 1) := by decide +kernel
theorem dX2_setNeed_6 : decode cX2_setNeed 6 = .ok (.iconst 1, 1) := by decide +kernel
theorem dX2_setNeed_7 : decode cX2_setNeed 7 = .ok (.iconst 4, 1) := by decide +kernel
theorem dX2_setNeed_8 : decode cX2_setNeed 8 = .ok (.invokestatic 52, 3) := by decide +kernel
theorem dX2_setNeed_11 : decode cX2_setNeed 11 = .ok (.ifCond .ne 9, 3) := by decide +kernel
theorem dX2_setNeed_14 : decode cX2_setNeed 14 = .ok (.aload_n 0, 1) := by decide +kernel
theorem dX2_setNeed_15 : decode cX2_setNeed 15 = .ok (.iconst 1, 1) := by decide +kernel
theorem dX2_setNeed_16 : decode cX2_setNeed 16 = .ok (.invokevirtual 76, 3) := by decide +kernel
theorem dX2_setNeed_19 : decode cX2_setNeed 19 = .ok (.ireturn, 1) := by decide +kernel
theorem dX2_setNeed_20 : decode cX2_setNeed 20 = .ok (.aload_n 0, 1) := by decide +kernel
theorem dX2_setNeed_21 : decode cX2_setNeed 21 = .ok (.getfield 7, 3) := by decide +kernel
theorem dX2_setNeed_24 : decode cX2_setNeed 24 = .ok (.istore_n 2, 1) := by decide +kernel
theorem dX2_setNeed_25 : decode cX2_setNeed 25 = .ok (.aload_n 0, 1) := by decide +kernel
theorem dX2_setNeed_26 : decode cX2_setNeed 26 = .ok (.iload_n 1, 1) := by decide +kernel
theorem dX2_setNeed_27 : decode cX2_setNeed 27 = .ok (.putfield 7, 3) := by decide +kernel
theorem dX2_setNeed_30 : decode cX2_setNeed 30 = .ok (.iload_n 2, 1) := by decide +kernel
theorem dX2_setNeed_31 : decode cX2_setNeed 31 = .ok (.ireturn, 1) := by decide +kernel
set_option maxRecDepth 20000 in
theorem ggX2_pass_X2_isIn : GoodIn wsX2_pass wsX2_isIn := goodIn_r _ [6] (by decide +kernel) (by decide +kernel)
set_option maxRecDepth 20000 in
theorem gX2_pass_X2_isIn : GoodIn wsX2_pass (va_wsS RX2 52 yX2_isIn wsX2_isIn) := goodIn_app (goodIn_of _ (by decide +kernel)) ggX2_pass_X2_isIn
set_option maxRecDepth 20000 in
theorem ggX2_pass_X2_fail : GoodIn wsX2_pass wsX2_fail := goodIn_r _ [10, 1, 38, 39, 40, 41, 42, 43, 44, 45, 46, 47, 48, 49, 50, 51] (by decide +kernel) (by decide +kernel)
set_option maxRecDepth 20000 in
theorem gX2_pass_X2_fail : GoodIn wsX2_pass (wsV RX2 76 RX2 yX2_fail wsX2_fail) := goodIn_app (goodIn_of _ (by decide +kernel)) ggX2_pass_X2_fail
set_option maxRecDepth 20000 in
theorem ggX2_pass_X2_wave : GoodIn wsX2_pass wsX2_wave := goodIn_r _ [14, 15, 16, 17, 18, 19, 20, 21, 22, 23, 5, 24, 25, 26, 27, 28, 29, 30, 31, 32, 33, 34, 35, 36, 37, 38, 39, 40, 41, 42, 43, 44, 45, 46, 47, 48, 49, 50, 51] (by decide +kernel) (by decide +kernel)
set_option maxRecDepth 20000 in
theorem gX2_pass_X2_wave : GoodIn wsX2_pass (wsV RX2 87 RX2 yX2_wave wsX2_wave) := goodIn_app (goodIn_of _ (by decide +kernel)) ggX2_pass_X2_wave
theorem dX2_pass_0 : decode cX2_pass 0 = .ok (.aload_n 0, 1) := by decide +kernel
theorem dX2_pass_1 : decode cX2_pass 1 = .ok (.iconst 0, 1) := by decide +kernel
theorem dX2_pass_2 : decode cX2_pass 2 = .ok (.putfield 43, 3) := by decide +kernel
theorem dX2_pass_5 : decode cX2_pass 5 = .ok (.iload_n 1, 1) := by decide +kernel
theorem dX2_pass_6 : decode cX2_pass 6 = .ok (.iconst 1, 1) := by decide +kernel
theorem dX2_pass_7 : decode cX2_pass 7 = .ok (.bipush 40, 2) := by decide +kernel
theorem dX2_pass_9 : decode cX2_pass 9 = .ok (.invokestatic 52, 3) := by decide +kernel
theorem dX2_pass_12 : decode cX2_pass 12 = .ok (.ifCond .ne 9, 3) := by decide +kernel
theorem dX2_pass_15 : decode cX2_pass 15 = .ok (.aload_n 0, 1) := by decide +kernel
theorem dX2_pass_16 : decode cX2_pass 16 = .ok (.iconst 1, 1) := by decide +kernel
theorem dX2_pass_17 : decode cX2_pass 17 = .ok (.invokevirtual 76, 3) := by decide +kernel
theorem dX2_pass_20 : decode cX2_pass 20 = .ok (.ireturn, 1) := by decide +kernel
theorem dX2_pass_21 : decode cX2_pass 21 = .ok (.iconst 0, 1) := by decide +kernel
theorem dX2_pass_22 : decode cX2_pass 22 = .ok (.istore_n 2, 1) := by decide +kernel
theorem dX2_pass_23 : decode cX2_pass 23 = .ok (.iconst 0, 1) := by decide +kernel
theorem dX2_pass_24 : decode cX2_pass 24 = .ok (.istore_n 3, 1) := by decide +kernel
theorem dX2_pass_25 : decode cX2_pass 25 = .ok (.iload_n 3, 1) := by decide +kernel
theorem dX2_pass_26 : decode cX2_pass 26 = .ok (.iload_n 1, 1) := by decide +kernel
theorem dX2_pass_27 : decode cX2_pass 27 = .ok (.if_icmp .ge 14, 3) := by decide +kernel
theorem dX2_pass_30 : decode cX2_pass 30 = .ok (.aload_n 0, 1) := by decide +kernel
theorem dX2_pass_31 : decode cX2_pass 31 = .ok (.invokevirtual 87, 3) := by decide +kernel
theorem dX2_pass_34 : decode cX2_pass 34 = .ok (.istore_n 2, 1) := by decide +kernel
theorem dX2_pass_35 : decode cX2_pass 35 = .ok (.iinc 3 1, 3) := by decide +kernel
theorem dX2_pass_38 : decode cX2_pass 38 = .ok (.goto (-13), 3) := by decide +kernel
theorem dX2_pass_41 : decode cX2_pass 41 = .ok (.aload_n 0, 1) := by decide +kernel
theorem dX2_pass_42 : decode cX2_pass 42 = .ok (.dup, 1) := by decide +kernel
theorem dX2_pass_43 : decode cX2_pass 43 = .ok (.getfield 56, 3) := by decide +kernel
theorem dX2_pass_46 : decode cX2_pass 46 = .ok (.iload_n 1, 1) := by decide +kernel
theorem dX2_pass_47 : decode cX2_pass 47 = .ok (.iadd, 1) := by decide +kernel
theorem dX2_pass_48 : decode cX2_pass 48 = .ok (.putfield 56, 3) := by decide +kernel
theorem dX2_pass_51 : decode cX2_pass 51 = .ok (.iload_n 2, 1) := by decide +kernel
theorem dX2_pass_52 : decode cX2_pass 52 = .ok (.ireturn, 1) := by decide +kernel
set_option maxRecDepth 20000 in
theorem ggX2_colourAt_X2_isCell : GoodIn wsX2_colourAt wsX2_isCell := goodIn_r _ [8, 3, 9, 10, 11, 7, 12, 17, 18, 19, 20, 21, 22, 23, 24, 25, 26, 27, 28, 29, 30] (by decide +kernel) (by decide +kernel)
set_option maxRecDepth 20000 in
theorem gX2_colourAt_X2_isCell : GoodIn wsX2_colourAt (wsV RX2 79 RX2 yX2_isCell wsX2_isCell) := goodIn_app (goodIn_of _ (by decide +kernel)) ggX2_colourAt_X2_isCell
set_option maxRecDepth 20000 in
theorem ggX2_colourAt_X2_fail : GoodIn wsX2_colourAt wsX2_fail := goodIn_r _ [16, 1, 17, 18, 19, 20, 21, 22, 23, 24, 25, 26, 27, 28, 29, 30] (by decide +kernel) (by decide +kernel)
set_option maxRecDepth 20000 in
theorem gX2_colourAt_X2_fail : GoodIn wsX2_colourAt (wsV RX2 76 RX2 yX2_fail wsX2_fail) := goodIn_app (goodIn_of _ (by decide +kernel)) ggX2_colourAt_X2_fail
theorem dX2_colourAt_0 : decode cX2_colourAt 0 = .ok (.aload_n 0, 1) := by decide +kernel
theorem dX2_colourAt_1 : decode cX2_colourAt 1 = .ok (.iconst 0, 1) := by decide +kernel
theorem dX2_colourAt_2 : decode cX2_colourAt 2 = .ok (.putfield 43, 3) := by decide +kernel
theorem dX2_colourAt_5 : decode cX2_colourAt 5 = .ok (.aload_n 0, 1) := by decide +kernel
theorem dX2_colourAt_6 : decode cX2_colourAt 6 = .ok (.iload_n 1, 1) := by decide +kernel
theorem dX2_colourAt_7 : decode cX2_colourAt 7 = .ok (.iload_n 2, 1) := by decide +kernel
theorem dX2_colourAt_8 : decode cX2_colourAt 8 = .ok (.invokevirtual 79, 3) := by decide +kernel
theorem dX2_colourAt_11 : decode cX2_colourAt 11 = .ok (.ifCond .eq 19, 3) := by decide +kernel
theorem dX2_colourAt_14 : decode cX2_colourAt 14 = .ok (.aload_n 0, 1) := by decide +kernel
theorem dX2_colourAt_15 : decode cX2_colourAt 15 = .ok (.getfield 13, 3) := by decide +kernel
theorem dX2_colourAt_18 : decode cX2_colourAt 18 = .ok (.aload_n 0, 1) := by decide +kernel
theorem dX2_colourAt_19 : decode cX2_colourAt 19 = .ok (.getfield 46, 3) := by decide +kernel
theorem dX2_colourAt_22 : decode cX2_colourAt 22 = .ok (.iload_n 2, 1) := by decide +kernel
theorem dX2_colourAt_23 : decode cX2_colourAt 23 = .ok (.imul, 1) := by decide +kernel
theorem dX2_colourAt_24 : decode cX2_colourAt 24 = .ok (.iload_n 1, 1) := by decide +kernel
theorem dX2_colourAt_25 : decode cX2_colourAt 25 = .ok (.iadd, 1) := by decide +kernel
theorem dX2_colourAt_26 : decode cX2_colourAt 26 = .ok (.iaload, 1) := by decide +kernel
theorem dX2_colourAt_27 : decode cX2_colourAt 27 = .ok (.goto 8, 3) := by decide +kernel
theorem dX2_colourAt_30 : decode cX2_colourAt 30 = .ok (.aload_n 0, 1) := by decide +kernel
theorem dX2_colourAt_31 : decode cX2_colourAt 31 = .ok (.iconst 1, 1) := by decide +kernel
theorem dX2_colourAt_32 : decode cX2_colourAt 32 = .ok (.invokevirtual 76, 3) := by decide +kernel
theorem dX2_colourAt_35 : decode cX2_colourAt 35 = .ok (.ireturn, 1) := by decide +kernel
set_option maxRecDepth 20000 in
theorem ggX2_isStubborn_X2_isCell : GoodIn wsX2_isStubborn wsX2_isCell := goodIn_r _ [8, 3, 9, 10, 11, 7, 12, 13, 14, 15, 16, 17, 18, 19, 20, 21, 22, 23, 24, 25, 26] (by decide +kernel) (by decide +kernel)
set_option maxRecDepth 20000 in
theorem gX2_isStubborn_X2_isCell : GoodIn wsX2_isStubborn (wsV RX2 79 RX2 yX2_isCell wsX2_isCell) := goodIn_app (goodIn_of _ (by decide +kernel)) ggX2_isStubborn_X2_isCell
theorem dX2_isStubborn_0 : decode cX2_isStubborn 0 = .ok (.aload_n 0, 1) := by decide +kernel
theorem dX2_isStubborn_1 : decode cX2_isStubborn 1 = .ok (.aload_n 0, 1) := by decide +kernel
theorem dX2_isStubborn_2 : decode cX2_isStubborn 2 = .ok (.iload_n 1, 1) := by decide +kernel
theorem dX2_isStubborn_3 : decode cX2_isStubborn 3 = .ok (.iload_n 2, 1) := by decide +kernel
theorem dX2_isStubborn_4 : decode cX2_isStubborn 4 = .ok (.invokevirtual 79, 3) := by decide +kernel
theorem dX2_isStubborn_7 : decode cX2_isStubborn 7 = .ok (.ifCond .eq 7, 3) := by decide +kernel
theorem dX2_isStubborn_10 : decode cX2_isStubborn 10 = .ok (.iconst 0, 1) := by decide +kernel
theorem dX2_isStubborn_11 : decode cX2_isStubborn 11 = .ok (.goto 4, 3) := by decide +kernel
theorem dX2_isStubborn_14 : decode cX2_isStubborn 14 = .ok (.iconst 1, 1) := by decide +kernel
theorem dX2_isStubborn_15 : decode cX2_isStubborn 15 = .ok (.putfield 43, 3) := by decide +kernel
theorem dX2_isStubborn_18 : decode cX2_isStubborn 18 = .ok (.aload_n 0, 1) := by decide +kernel
theorem dX2_isStubborn_19 : decode cX2_isStubborn 19 = .ok (.getfield 43, 3) := by decide +kernel
theorem dX2_isStubborn_22 : decode cX2_isStubborn 22 = .ok (.ifCond .ne 23, 3) := by decide +kernel
theorem dX2_isStubborn_25 : decode cX2_isStubborn 25 = .ok (.aload_n 0, 1) := by decide +kernel
theorem dX2_isStubborn_26 : decode cX2_isStubborn 26 = .ok (.getfield 20, 3) := by decide +kernel
theorem dX2_isStubborn_29 : decode cX2_isStubborn 29 = .ok (.aload_n 0, 1) := by decide +kernel
theorem dX2_isStubborn_30 : decode cX2_isStubborn 30 = .ok (.getfield 46, 3) := by decide +kernel
theorem dX2_isStubborn_33 : decode cX2_isStubborn 33 = .ok (.iload_n 2, 1) := by decide +kernel
theorem dX2_isStubborn_34 : decode cX2_isStubborn 34 = .ok (.imul, 1) := by decide +kernel
theorem dX2_isStubborn_35 : decode cX2_isStubborn 35 = .ok (.iload_n 1, 1) := by decide +kernel
theorem dX2_isStubborn_36 : decode cX2_isStubborn 36 = .ok (.iadd, 1) := by decide +kernel
theorem dX2_isStubborn_37 : decode cX2_isStubborn 37 = .ok (.baload, 1) := by decide +kernel
theorem dX2_isStubborn_38 : decode cX2_isStubborn 38 = .ok (.ifCond .eq 7, 3) := by decide +kernel
theorem dX2_isStubborn_41 : decode cX2_isStubborn 41 = .ok (.iconst 1, 1) := by decide +kernel
theorem dX2_isStubborn_42 : decode cX2_isStubborn 42 = .ok (.goto 4, 3) := by decide +kernel
theorem dX2_isStubborn_45 : decode cX2_isStubborn 45 = .ok (.iconst 0, 1) := by decide +kernel
theorem dX2_isStubborn_46 : decode cX2_isStubborn 46 = .ok (.ireturn, 1) := by decide +kernel
set_option maxRecDepth 20000 in
theorem ggX2_neighboursWith_X2_isCell : GoodIn wsX2_neighboursWith wsX2_isCell := goodIn_r _ [7, 2, 8, 9, 10, 6, 11, 25, 26, 27, 28, 29, 30, 31, 32, 33, 34, 35, 36, 37, 38] (by decide +kernel) (by decide +kernel)
set_option maxRecDepth 20000 in
theorem gX2_neighboursWith_X2_isCell : GoodIn wsX2_neighboursWith (wsV RX2 79 RX2 yX2_isCell wsX2_isCell) := goodIn_app (goodIn_of _ (by decide +kernel)) ggX2_neighboursWith_X2_isCell
set_option maxRecDepth 20000 in
theorem ggX2_neighboursWith_X2_isAny : GoodIn wsX2_neighboursWith wsX2_isAny := goodIn_r _ [14, 9, 10, 6, 11] (by decide +kernel) (by decide +kernel)
set_option maxRecDepth 20000 in
theorem gX2_neighboursWith_X2_isAny : GoodIn wsX2_neighboursWith (va_wsS RX2 83 yX2_isAny wsX2_isAny) := goodIn_app (goodIn_of _ (by decide +kernel)) ggX2_neighboursWith_X2_isAny
set_option maxRecDepth 20000 in
theorem ggX2_neighboursWith_X2_beside : GoodIn wsX2_neighboursWith wsX2_beside := goodIn_r _ [18, 19, 20, 25, 26, 27, 28, 29, 30, 31, 32, 33, 34, 35, 36, 37, 38] (by decide +kernel) (by decide +kernel)
set_option maxRecDepth 20000 in
theorem gX2_neighboursWith_X2_beside : GoodIn wsX2_neighboursWith (wsV RX2 65 RX2 yX2_beside wsX2_beside) := goodIn_app (goodIn_of _ (by decide +kernel)) ggX2_neighboursWith_X2_beside
set_option maxRecDepth 20000 in
theorem ggX2_neighboursWith_X2_fail : GoodIn wsX2_neighboursWith wsX2_fail := goodIn_r _ [24, 1, 25, 26, 27, 28, 29, 30, 31, 32, 33, 34, 35, 36, 37, 38] (by decide +kernel) (by decide +kernel)
set_option maxRecDepth 20000 in
theorem gX2_neighboursWith_X2_fail : GoodIn wsX2_neighboursWith (wsV RX2 76 RX2 yX2_fail wsX2_fail) := goodIn_app (goodIn_of _ (by decide +kernel)) ggX2_neighboursWith_X2_fail
theorem dX2_neighboursWith_0 : decode cX2_neighboursWith 0 = .ok (.aload_n 0, 1) := by decide +kernel
theorem dX2_neighboursWith_1 : decode cX2_neighboursWith 1 = .ok (.iconst 0, 1) := by decide +kernel
theorem dX2_neighboursWith_2 : decode cX2_neighboursWith 2 = .ok (.putfield 43, 3) := by decide +kernel
theorem dX2_neighboursWith_5 : decode cX2_neighboursWith 5 = .ok (.aload_n 0, 1) := by decide +kernel
theorem dX2_neighboursWith_6 : decode cX2_neighboursWith 6 = .ok (.iload_n 1, 1) := by decide +kernel
theorem dX2_neighboursWith_7 : decode cX2_neighboursWith 7 = .ok (.iload_n 2, 1) := by decide +kernel
theorem dX2_neighboursWith_8 : decode cX2_neighboursWith 8 = .ok (.invokevirtual 79, 3) := by decide +kernel
theorem dX2_neighboursWith_11 : decode cX2_neighboursWith 11 = .ok (.ifCond .eq 26, 3) := by decide +kernel
theorem dX2_neighboursWith_14 : decode cX2_neighboursWith 14 = .ok (.iload_n 3, 1) := by decide +kernel
theorem dX2_neighboursWith_15 : decode cX2_neighboursWith 15 = .ok (.invokestatic 83, 3) := by decide +kernel
theorem dX2_neighboursWith_18 : decode cX2_neighboursWith 18 = .ok (.ifCond .eq 19, 3) := by decide +kernel
theorem dX2_neighboursWith_21 : decode cX2_neighboursWith 21 = .ok (.aload_n 0, 1) := by decide +kernel
theorem dX2_neighboursWith_22 : decode cX2_neighboursWith 22 = .ok (.aload_n 0, 1) := by decide +kernel
theorem dX2_neighboursWith_23 : decode cX2_neighboursWith 23 = .ok (.getfield 46, 3) := by decide +kernel
theorem dX2_neighboursWith_26 : decode cX2_neighboursWith 26 = .ok (.iload_n 2, 1) := by decide +kernel
theorem dX2_neighboursWith_27 : decode cX2_neighboursWith 27 = .ok (.imul, 1) := by decide +kernel
theorem dX2_neighboursWith_28 : decode cX2_neighboursWith 28 = .ok (.iload_n 1, 1) := by decide +kernel
theorem dX2_neighboursWith_29 : decode cX2_neighboursWith 29 = .ok (.iadd, 1) := by decide +kernel
theorem dX2_neighboursWith_30 : decode cX2_neighboursWith 30 = .ok (.iload_n 3, 1) := by decide +kernel
theorem dX2_neighboursWith_31 : decode cX2_neighboursWith 31 = .ok (.invokevirtual 65, 3) := by decide +kernel
theorem dX2_neighboursWith_34 : decode cX2_neighboursWith 34 = .ok (.goto 8, 3) := by decide +kernel
theorem dX2_neighboursWith_37 : decode cX2_neighboursWith 37 = .ok (.aload_n 0, 1) := by decide +kernel
theorem dX2_neighboursWith_38 : decode cX2_neighboursWith 38 = .ok (.iconst 1, 1) := by decide +kernel
theorem dX2_neighboursWith_39 : decode cX2_neighboursWith 39 = .ok (.invokevirtual 76, 3) := by decide +kernel
theorem dX2_neighboursWith_42 : decode cX2_neighboursWith 42 = .ok (.ireturn, 1) := by decide +kernel
set_option maxRecDepth 20000 in
theorem ggX2_nextColour_X2_isCell : GoodIn wsX2_nextColour wsX2_isCell := goodIn_r _ [7, 2, 8, 9, 10, 6, 11, 28, 29, 30, 31, 32, 33, 34, 35, 36, 37, 38, 39, 40, 41] (by decide +kernel) (by decide +kernel)
set_option maxRecDepth 20000 in
theorem gX2_nextColour_X2_isCell : GoodIn wsX2_nextColour (wsV RX2 79 RX2 yX2_isCell wsX2_isCell) := goodIn_app (goodIn_of _ (by decide +kernel)) ggX2_nextColour_X2_isCell
set_option maxRecDepth 20000 in
theorem ggX2_nextColour_X2_nextOf : GoodIn wsX2_nextColour wsX2_nextOf := goodIn_r _ [15, 16, 17, 18, 19, 20, 21, 6, 22, 23, 28, 29, 30, 31, 32, 33, 34, 35, 36, 37, 38, 39, 40, 41] (by decide +kernel) (by decide +kernel)
set_option maxRecDepth 20000 in
theorem gX2_nextColour_X2_nextOf : GoodIn wsX2_nextColour (wsV RX2 72 RX2 yX2_nextOf wsX2_nextOf) := goodIn_app (goodIn_of _ (by decide +kernel)) ggX2_nextColour_X2_nextOf
set_option maxRecDepth 20000 in
theorem ggX2_nextColour_X2_fail : GoodIn wsX2_nextColour wsX2_fail := goodIn_r _ [27, 1, 28, 29, 30, 31, 32, 33, 34, 35, 36, 37, 38, 39, 40, 41] (by decide +kernel) (by decide +kernel)
set_option maxRecDepth 20000 in
theorem gX2_nextColour_X2_fail : GoodIn wsX2_nextColour (wsV RX2 76 RX2 yX2_fail wsX2_fail) := goodIn_app (goodIn_of _ (by decide +kernel)) ggX2_nextColour_X2_fail
theorem dX2_nextColour_0 : decode cX2_nextColour 0 = .ok (.aload_n 0, 1) := by decide +kernel
theorem dX2_nextColour_1 : decode cX2_nextColour 1 = .ok (.iconst 0, 1) := by decide +kernel
theorem dX2_nextColour_2 : decode cX2_nextColour 2 = .ok (.putfield 43, 3) := by decide +kernel
theorem dX2_nextColour_5 : decode cX2_nextColour 5 = .ok (.aload_n 0, 1) := by decide +kernel
theorem dX2_nextColour_6 : decode cX2_nextColour 6 = .ok (.iload_n 1, 1) := by decide +kernel
theorem dX2_nextColour_7 : decode cX2_nextColour 7 = .ok (.iload_n 2, 1) := by decide +kernel
theorem dX2_nextColour_8 : decode cX2_nextColour 8 = .ok (.invokevirtual 79, 3) := by decide +kernel
theorem dX2_nextColour_11 : decode cX2_nextColour 11 = .ok (.ifCond .eq 18, 3) := by decide +kernel
theorem dX2_nextColour_14 : decode cX2_nextColour 14 = .ok (.aload_n 0, 1) := by decide +kernel
theorem dX2_nextColour_15 : decode cX2_nextColour 15 = .ok (.aload_n 0, 1) := by decide +kernel
theorem dX2_nextColour_16 : decode cX2_nextColour 16 = .ok (.getfield 46, 3) := by decide +kernel
theorem dX2_nextColour_19 : decode cX2_nextColour 19 = .ok (.iload_n 2, 1) := by decide +kernel
theorem dX2_nextColour_20 : decode cX2_nextColour 20 = .ok (.imul, 1) := by decide +kernel
theorem dX2_nextColour_21 : decode cX2_nextColour 21 = .ok (.iload_n 1, 1) := by decide +kernel
theorem dX2_nextColour_22 : decode cX2_nextColour 22 = .ok (.iadd, 1) := by decide +kernel
theorem dX2_nextColour_23 : decode cX2_nextColour 23 = .ok (.invokevirtual 72, 3) := by decide +kernel
theorem dX2_nextColour_26 : decode cX2_nextColour 26 = .ok (.goto 8, 3) := by decide +kernel
theorem dX2_nextColour_29 : decode cX2_nextColour 29 = .ok (.aload_n 0, 1) := by decide +kernel
theorem dX2_nextColour_30 : decode cX2_nextColour 30 = .ok (.iconst 1, 1) := by decide +kernel
theorem dX2_nextColour_31 : decode cX2_nextColour 31 = .ok (.invokevirtual 76, 3) := by decide +kernel
theorem dX2_nextColour_34 : decode cX2_nextColour 34 = .ok (.ireturn, 1) := by decide +kernel
set_option maxRecDepth 20000 in
theorem ggX2_hang_X2_cells : GoodIn wsX2_hang wsX2_cells := goodIn_r _ [8, 9, 10, 18, 19, 20, 21, 22, 23, 24, 25, 26, 27, 28, 29, 30, 31] (by decide +kernel) (by decide +kernel)
set_option maxRecDepth 20000 in
theorem gX2_hang_X2_cells : GoodIn wsX2_hang (wsV RX2 68 RX2 yX2_cells wsX2_cells) := goodIn_app (goodIn_of _ (by decide +kernel)) ggX2_hang_X2_cells
set_option maxRecDepth 20000 in
theorem ggX2_hang_X2_spread : GoodIn wsX2_hang wsX2_spread := goodIn_r _ [14, 1, 2, 15, 16, 3, 17, 18, 19, 20, 21, 22, 23, 24, 25, 26, 27, 28, 29, 30, 31] (by decide +kernel) (by decide +kernel)
set_option maxRecDepth 20000 in
theorem gX2_hang_X2_spread : GoodIn wsX2_hang (wsV RX2 93 RX2 yX2_spread wsX2_spread) := goodIn_app (goodIn_of _ (by decide +kernel)) ggX2_hang_X2_spread
theorem dX2_hang_0 : decode cX2_hang 0 = .ok (.aload_n 0, 1) := by decide +kernel
theorem dX2_hang_1 : decode cX2_hang 1 = .ok (.iconst 0, 1) := by decide +kernel
theorem dX2_hang_2 : decode cX2_hang 2 = .ok (.putfield 90, 3) := by decide +kernel
theorem dX2_hang_5 : decode cX2_hang 5 = .ok (.iconst 0, 1) := by decide +kernel
theorem dX2_hang_6 : decode cX2_hang 6 = .ok (.istore_n 1, 1) := by decide +kernel
theorem dX2_hang_7 : decode cX2_hang 7 = .ok (.iload_n 1, 1) := by decide +kernel
theorem dX2_hang_8 : decode cX2_hang 8 = .ok (.aload_n 0, 1) := by decide +kernel
theorem dX2_hang_9 : decode cX2_hang 9 = .ok (.invokevirtual 68, 3) := by decide +kernel
theorem dX2_hang_12 : decode cX2_hang 12 = .ok (.if_icmp .ge 16, 3) := by decide +kernel
theorem dX2_hang_15 : decode cX2_hang 15 = .ok (.aload_n 0, 1) := by decide +kernel
theorem dX2_hang_16 : decode cX2_hang 16 = .ok (.getfield 30, 3) := by decide +kernel
theorem dX2_hang_19 : decode cX2_hang 19 = .ok (.iload_n 1, 1) := by decide +kernel
theorem dX2_hang_20 : decode cX2_hang 20 = .ok (.iconst 0, 1) := by decide +kernel
theorem dX2_hang_21 : decode cX2_hang 21 = .ok (.iastore, 1) := by decide +kernel
theorem dX2_hang_22 : decode cX2_hang 22 = .ok (.iinc 1 1, 3) := by decide +kernel
theorem dX2_hang_25 : decode cX2_hang 25 = .ok (.goto (-18), 3) := by decide +kernel
theorem dX2_hang_28 : decode cX2_hang 28 = .ok (.iconst 0, 1) := by decide +kernel
theorem dX2_hang_29 : decode cX2_hang 29 = .ok (.istore_n 1, 1) := by decide +kernel
theorem dX2_hang_30 : decode cX2_hang 30 = .ok (.iload_n 1, 1) := by decide +kernel
theorem dX2_hang_31 : decode cX2_hang 31 = .ok (.aload_n 0, 1) := by decide +kernel
theorem dX2_hang_32 : decode cX2_hang 32 = .ok (.invokevirtual 68, 3) := by decide +kernel
theorem dX2_hang_35 : decode cX2_hang 35 = .ok (.if_icmp .ge 32, 3) := by decide +kernel
theorem dX2_hang_38 : decode cX2_hang 38 = .ok (.aload_n 0, 1) := by decide +kernel
theorem dX2_hang_39 : decode cX2_hang 39 = .ok (.getfield 13, 3) := by decide +kernel
theorem dX2_hang_42 : decode cX2_hang 42 = .ok (.iload_n 1, 1) := by decide +kernel
theorem dX2_hang_43 : decode cX2_hang 43 = .ok (.iaload, 1) := by decide +kernel
theorem dX2_hang_44 : decode cX2_hang 44 = .ok (.ifCond .eq 17, 3) := by decide +kernel
theorem dX2_hang_47 : decode cX2_hang 47 = .ok (.aload_n 0, 1) := by decide +kernel
theorem dX2_hang_48 : decode cX2_hang 48 = .ok (.getfield 30, 3) := by decide +kernel
theorem dX2_hang_51 : decode cX2_hang 51 = .ok (.iload_n 1, 1) := by decide +kernel
theorem dX2_hang_52 : decode cX2_hang 52 = .ok (.iaload, 1) := by decide +kernel
theorem dX2_hang_53 : decode cX2_hang 53 = .ok (.ifCond .ne 8, 3) := by decide +kernel
theorem dX2_hang_56 : decode cX2_hang 56 = .ok (.aload_n 0, 1) := by decide +kernel
theorem dX2_hang_57 : decode cX2_hang 57 = .ok (.iload_n 1, 1) := by decide +kernel
theorem dX2_hang_58 : decode cX2_hang 58 = .ok (.invokevirtual 93, 3) := by decide +kernel
theorem dX2_hang_61 : decode cX2_hang 61 = .ok (.iinc 1 1, 3) := by decide +kernel
theorem dX2_hang_64 : decode cX2_hang 64 = .ok (.goto (-34), 3) := by decide +kernel
theorem dX2_hang_67 : decode cX2_hang 67 = .ok (.return_, 1) := by decide +kernel
theorem dX2_spread_0 : decode cX2_spread 0 = .ok (.aload_n 0, 1) := by decide +kernel
theorem dX2_spread_1 : decode cX2_spread 1 = .ok (.dup, 1) := by decide +kernel
theorem dX2_spread_2 : decode cX2_spread 2 = .ok (.getfield 90, 3) := by decide +kernel
theorem dX2_spread_5 : decode cX2_spread 5 = .ok (.iconst 1, 1) := by decide +kernel
theorem dX2_spread_6 : decode cX2_spread 6 = .ok (.iadd, 1) := by decide +kernel
theorem dX2_spread_7 : decode cX2_spread 7 = .ok (.putfield 90, 3) := by decide +kernel
theorem dX2_spread_10 : decode cX2_spread 10 = .ok (.aload_n 0, 1) := by decide +kernel
theorem dX2_spread_11 : decode cX2_spread 11 = .ok (.getfield 30, 3) := by decide +kernel
theorem dX2_spread_14 : decode cX2_spread 14 = .ok (.iload_n 1, 1) := by decide +kernel
theorem dX2_spread_15 : decode cX2_spread 15 = .ok (.aload_n 0, 1) := by decide +kernel
theorem dX2_spread_16 : decode cX2_spread 16 = .ok (.getfield 90, 3) := by decide +kernel
theorem dX2_spread_19 : decode cX2_spread 19 = .ok (.iastore, 1) := by decide +kernel
theorem dX2_spread_20 : decode cX2_spread 20 = .ok (.aload_n 0, 1) := by decide +kernel
theorem dX2_spread_21 : decode cX2_spread 21 = .ok (.getfield 36, 3) := by decide +kernel
theorem dX2_spread_24 : decode cX2_spread 24 = .ok (.iconst 0, 1) := by decide +kernel
theorem dX2_spread_25 : decode cX2_spread 25 = .ok (.iload_n 1, 1) := by decide +kernel
theorem dX2_spread_26 : decode cX2_spread 26 = .ok (.iastore, 1) := by decide +kernel
theorem dX2_spread_27 : decode cX2_spread 27 = .ok (.iconst 1, 1) := by decide +kernel
theorem dX2_spread_28 : decode cX2_spread 28 = .ok (.istore_n 2, 1) := by decide +kernel
theorem dX2_spread_29 : decode cX2_spread 29 = .ok (.iconst 0, 1) := by decide +kernel
theorem dX2_spread_30 : decode cX2_spread 30 = .ok (.istore_n 3, 1) := by decide +kernel
theorem dX2_spread_31 : decode cX2_spread 31 = .ok (.iload_n 3, 1) := by decide +kernel
theorem dX2_spread_32 : decode cX2_spread 32 = .ok (.iload_n 2, 1) := by decide +kernel
theorem dX2_spread_33 : decode cX2_spread 33 = .ok (.if_icmp .ge 99, 3) := by decide +kernel
theorem dX2_spread_36 : decode cX2_spread 36 = .ok (.iconst 0, 1) := by decide +kernel
theorem dX2_spread_37 : decode cX2_spread 37 = .ok (.istore 4, 2) := by decide +kernel
theorem dX2_spread_39 : decode cX2_spread 39 = .ok (.iload 4, 2) := by decide +kernel
theorem dX2_spread_41 : decode cX2_spread 41 = .ok (.iconst 4, 1) := by decide +kernel
theorem dX2_spread_42 : decode cX2_spread 42 = .ok (.if_icmp .ge 84, 3) := by decide +kernel
theorem dX2_spread_45 : decode cX2_spread 45 = .ok (.aload_n 0, 1) := by decide +kernel
theorem dX2_spread_46 : decode cX2_spread 46 = .ok (.getfield 24, 3) := by decide +kernel
theorem dX2_spread_49 : decode cX2_spread 49 = .ok (.iconst 4, 1) := by decide +kernel
theorem dX2_spread_50 : decode cX2_spread 50 = .ok (.aload_n 0, 1) := by decide +kernel
theorem dX2_spread_51 : decode cX2_spread 51 = .ok (.getfield 36, 3) := by decide +kernel
theorem dX2_spread_54 : decode cX2_spread 54 = .ok (.iload_n 3, 1) := by decide +kernel
theorem dX2_spread_55 : decode cX2_spread 55 = .ok (.iaload, 1) := by decide +kernel
theorem dX2_spread_56 : decode cX2_spread 56 = .ok (.imul, 1) := by decide +kernel
theorem dX2_spread_57 : decode cX2_spread 57 = .ok (.iload 4, 2) := by decide +kernel
theorem dX2_spread_59 : decode cX2_spread 59 = .ok (.iadd, 1) := by decide +kernel
theorem dX2_spread_60 : decode cX2_spread 60 = .ok (.iaload, 1) := by decide +kernel
theorem dX2_spread_61 : decode cX2_spread 61 = .ok (.istore 5, 2) := by decide +kernel
theorem dX2_spread_63 : decode cX2_spread 63 = .ok (.iload 5, 2) := by decide +kernel
theorem dX2_spread_65 : decode cX2_spread 65 = .ok (.iconst (-1), 1) := by decide +kernel
theorem dX2_spread_66 : decode cX2_spread 66 = .ok (.if_icmp .eq 54, 3) := by decide +kernel
theorem dX2_spread_69 : decode cX2_spread 69 = .ok (.aload_n 0, 1) := by decide +kernel
theorem dX2_spread_70 : decode cX2_spread 70 = .ok (.getfield 30, 3) := by decide +kernel
theorem dX2_spread_73 : decode cX2_spread 73 = .ok (.iload 5, 2) := by decide +kernel
theorem dX2_spread_75 : decode cX2_spread 75 = .ok (.iaload, 1) := by decide +kernel
theorem dX2_spread_76 : decode cX2_spread 76 = .ok (.ifCond .ne 44, 3) := by decide +kernel
theorem dX2_spread_79 : decode cX2_spread 79 = .ok (.aload_n 0, 1) := by decide +kernel
theorem dX2_spread_80 : decode cX2_spread 80 = .ok (.getfield 13, 3) := by decide +kernel
theorem dX2_spread_83 : decode cX2_spread 83 = .ok (.iload 5, 2) := by decide +kernel
theorem dX2_spread_85 : decode cX2_spread 85 = .ok (.iaload, 1) := by decide +kernel
theorem dX2_spread_86 : decode cX2_spread 86 = .ok (.aload_n 0, 1) := by decide +kernel
theorem dX2_spread_87 : decode cX2_spread 87 = .ok (.getfield 13, 3) := by decide +kernel
theorem dX2_spread_90 : decode cX2_spread 90 = .ok (.iload_n 1, 1) := by decide +kernel
theorem dX2_spread_91 : decode cX2_spread 91 = .ok (.iaload, 1) := by decide +kernel
theorem dX2_spread_92 : decode cX2_spread 92 = .ok (.if_icmp .eq 6, 3) := by decide +kernel
theorem dX2_spread_95 : decode cX2_spread 95 = .ok (.goto 25, 3) := by decide +kernel
theorem dX2_spread_98 : decode cX2_spread 98 = .ok (.aload_n 0, 1) := by decide +kernel
theorem dX2_spread_99 : decode cX2_spread 99 = .ok (.getfield 30, 3) := by decide +kernel
theorem dX2_spread_102 : decode cX2_spread 102 = .ok (.iload 5, 2) := by decide +kernel
theorem dX2_spread_104 : decode cX2_spread 104 = .ok (.aload_n 0, 1) := by decide +kernel
theorem dX2_spread_105 : decode cX2_spread 105 = .ok (.getfield 90, 3) := by decide +kernel
theorem dX2_spread_108 : decode cX2_spread 108 = .ok (.iastore, 1) := by decide +kernel
theorem dX2_spread_109 : decode cX2_spread 109 = .ok (.aload_n 0, 1) := by decide +kernel
theorem dX2_spread_110 : decode cX2_spread 110 = .ok (.getfield 36, 3) := by decide +kernel
theorem dX2_spread_113 : decode cX2_spread 113 = .ok (.iload_n 2, 1) := by decide +kernel
theorem dX2_spread_114 : decode cX2_spread 114 = .ok (.iload 5, 2) := by decide +kernel
theorem dX2_spread_116 : decode cX2_spread 116 = .ok (.iastore, 1) := by decide +kernel
theorem dX2_spread_117 : decode cX2_spread 117 = .ok (.iinc 2 1, 3) := by decide +kernel
theorem dX2_spread_120 : decode cX2_spread 120 = .ok (.iinc 4 1, 3) := by decide +kernel
theorem dX2_spread_123 : decode cX2_spread 123 = .ok (.goto (-84), 3) := by decide +kernel
theorem dX2_spread_126 : decode cX2_spread 126 = .ok (.iinc 3 1, 3) := by decide +kernel
theorem dX2_spread_129 : decode cX2_spread 129 = .ok (.goto (-98), 3) := by decide +kernel
theorem dX2_spread_132 : decode cX2_spread 132 = .ok (.aload_n 0, 1) := by decide +kernel
theorem dX2_spread_133 : decode cX2_spread 133 = .ok (.getfield 33, 3) := by decide +kernel
theorem dX2_spread_136 : decode cX2_spread 136 = .ok (.aload_n 0, 1) := by decide +kernel
theorem dX2_spread_137 : decode cX2_spread 137 = .ok (.getfield 90, 3) := by decide +kernel
theorem dX2_spread_140 : decode cX2_spread 140 = .ok (.iload_n 2, 1) := by decide +kernel
theorem dX2_spread_141 : decode cX2_spread 141 = .ok (.iastore, 1) := by decide +kernel
theorem dX2_spread_142 : decode cX2_spread 142 = .ok (.return_, 1) := by decide +kernel
theorem dX2_sizeOf_0 : decode cX2_sizeOf 0 = .ok (.aload_n 0, 1) := by decide +kernel
theorem dX2_sizeOf_1 : decode cX2_sizeOf 1 = .ok (.getfield 13, 3) := by decide +kernel
theorem dX2_sizeOf_4 : decode cX2_sizeOf 4 = .ok (.iload_n 1, 1) := by decide +kernel
theorem dX2_sizeOf_5 : decode cX2_sizeOf 5 = .ok (.iaload, 1) := by decide +kernel
theorem dX2_sizeOf_6 : decode cX2_sizeOf 6 = .ok (.ifCond .ne 7, 3) := by decide +kernel
theorem dX2_sizeOf_9 : decode cX2_sizeOf 9 = .ok (.iconst 0, 1) := by decide +kernel
theorem dX2_sizeOf_10 : decode cX2_sizeOf 10 = .ok (.goto 14, 3) := by decide +kernel
theorem dX2_sizeOf_13 : decode cX2_sizeOf 13 = .ok (.aload_n 0, 1) := by decide +kernel
theorem dX2_sizeOf_14 : decode cX2_sizeOf 14 = .ok (.getfield 33, 3) := by decide +kernel
theorem dX2_sizeOf_17 : decode cX2_sizeOf 17 = .ok (.aload_n 0, 1) := by decide +kernel
theorem dX2_sizeOf_18 : decode cX2_sizeOf 18 = .ok (.getfield 30, 3) := by decide +kernel
theorem dX2_sizeOf_21 : decode cX2_sizeOf 21 = .ok (.iload_n 1, 1) := by decide +kernel
theorem dX2_sizeOf_22 : decode cX2_sizeOf 22 = .ok (.iaload, 1) := by decide +kernel
theorem dX2_sizeOf_23 : decode cX2_sizeOf 23 = .ok (.iaload, 1) := by decide +kernel
theorem dX2_sizeOf_24 : decode cX2_sizeOf 24 = .ok (.ireturn, 1) := by decide +kernel
set_option maxRecDepth 20000 in
theorem ggX2_regionSize_X2_isCell : GoodIn wsX2_regionSize wsX2_isCell := goodIn_r _ [7, 2, 8, 9, 10, 6, 11, 38, 39, 40, 41, 42, 43, 44, 45, 46, 47, 48, 49, 50, 51] (by decide +kernel) (by decide +kernel)
set_option maxRecDepth 20000 in
theorem gX2_regionSize_X2_isCell : GoodIn wsX2_regionSize (wsV RX2 79 RX2 yX2_isCell wsX2_isCell) := goodIn_app (goodIn_of _ (by decide +kernel)) ggX2_regionSize_X2_isCell
set_option maxRecDepth 20000 in
theorem ggX2_regionSize_X2_fail : GoodIn wsX2_regionSize wsX2_fail := goodIn_r _ [15, 1, 38, 39, 40, 41, 42, 43, 44, 45, 46, 47, 48, 49, 50, 51] (by decide +kernel) (by decide +kernel)
set_option maxRecDepth 20000 in
theorem gX2_regionSize_X2_fail : GoodIn wsX2_regionSize (wsV RX2 76 RX2 yX2_fail wsX2_fail) := goodIn_app (goodIn_of _ (by decide +kernel)) ggX2_regionSize_X2_fail
set_option maxRecDepth 20000 in
theorem ggX2_regionSize_X2_hang : GoodIn wsX2_regionSize wsX2_hang := goodIn_r _ [19, 20, 21, 22, 23, 24, 25, 6, 26, 2, 8, 27, 28, 29, 30, 31, 32, 33, 38, 39, 40, 41, 42, 43, 44, 45, 46, 47, 48, 49, 50, 51] (by decide +kernel) (by decide +kernel)
set_option maxRecDepth 20000 in
theorem gX2_regionSize_X2_hang : GoodIn wsX2_regionSize (wsV RX2 97 RX2 yX2_hang wsX2_hang) := goodIn_app (goodIn_of _ (by decide +kernel)) ggX2_regionSize_X2_hang
set_option maxRecDepth 20000 in
theorem ggX2_regionSize_X2_sizeOf : GoodIn wsX2_regionSize wsX2_sizeOf := goodIn_r _ [37, 22, 33, 21, 38, 39, 40, 41, 42, 43, 44, 45, 46, 47, 48, 49, 50, 51] (by decide +kernel) (by decide +kernel)
set_option maxRecDepth 20000 in
theorem gX2_regionSize_X2_sizeOf : GoodIn wsX2_regionSize (wsV RX2 100 RX2 yX2_sizeOf wsX2_sizeOf) := goodIn_app (goodIn_of _ (by decide +kernel)) ggX2_regionSize_X2_sizeOf
theorem dX2_regionSize_0 : decode cX2_regionSize 0 = .ok (.aload_n 0, 1) := by decide +kernel
theorem dX2_regionSize_1 : decode cX2_regionSize 1 = .ok (.iconst 0, 1) := by decide +kernel
theorem dX2_regionSize_2 : decode cX2_regionSize 2 = .ok (.putfield 43, 3) := by decide +kernel
theorem dX2_regionSize_5 : decode cX2_regionSize 5 = .ok (.aload_n 0, 1) := by decide +kernel
theorem dX2_regionSize_6 : decode cX2_regionSize 6 = .ok (.iload_n 1, 1) := by decide +kernel
theorem dX2_regionSize_7 : decode cX2_regionSize 7 = .ok (.iload_n 2, 1) := by decide +kernel
theorem dX2_regionSize_8 : decode cX2_regionSize 8 = .ok (.invokevirtual 79, 3) := by decide +kernel
theorem dX2_regionSize_11 : decode cX2_regionSize 11 = .ok (.ifCond .ne 9, 3) := by decide +kernel
theorem dX2_regionSize_14 : decode cX2_regionSize 14 = .ok (.aload_n 0, 1) := by decide +kernel
theorem dX2_regionSize_15 : decode cX2_regionSize 15 = .ok (.iconst 1, 1) := by decide +kernel
theorem dX2_regionSize_16 : decode cX2_regionSize 16 = .ok (.invokevirtual 76, 3) := by decide +kernel
theorem dX2_regionSize_19 : decode cX2_regionSize 19 = .ok (.ireturn, 1) := by decide +kernel
theorem dX2_regionSize_20 : decode cX2_regionSize 20 = .ok (.aload_n 0, 1) := by decide +kernel
theorem dX2_regionSize_21 : decode cX2_regionSize 21 = .ok (.invokevirtual 97, 3) := by decide +kernel
theorem dX2_regionSize_24 : decode cX2_regionSize 24 = .ok (.aload_n 0, 1) := by decide +kernel
theorem dX2_regionSize_25 : decode cX2_regionSize 25 = .ok (.aload_n 0, 1) := by decide +kernel
theorem dX2_regionSize_26 : decode cX2_regionSize 26 = .ok (.getfield 46, 3) := by decide +kernel
theorem dX2_regionSize_29 : decode cX2_regionSize 29 = .ok (.iload_n 2, 1) := by decide +kernel
theorem dX2_regionSize_30 : decode cX2_regionSize 30 = .ok (.imul, 1) := by decide +kernel
theorem dX2_regionSize_31 : decode cX2_regionSize 31 = .ok (.iload_n 1, 1) := by decide +kernel
theorem dX2_regionSize_32 : decode cX2_regionSize 32 = .ok (.iadd, 1) := by decide +kernel
theorem dX2_regionSize_33 : decode cX2_regionSize 33 = .ok (.invokevirtual 100, 3) := by decide +kernel
theorem dX2_regionSize_36 : decode cX2_regionSize 36 = .ok (.ireturn, 1) := by decide +kernel
theorem dX2_width_0 : decode cX2_width 0 = .ok (.aload_n 0, 1) := by decide +kernel
theorem dX2_width_1 : decode cX2_width 1 = .ok (.iconst 0, 1) := by decide +kernel
theorem dX2_width_2 : decode cX2_width 2 = .ok (.putfield 43, 3) := by decide +kernel
theorem dX2_width_5 : decode cX2_width 5 = .ok (.aload_n 0, 1) := by decide +kernel
theorem dX2_width_6 : decode cX2_width 6 = .ok (.getfield 46, 3) := by decide +kernel
theorem dX2_width_9 : decode cX2_width 9 = .ok (.ireturn, 1) := by decide +kernel
theorem dX2_height_0 : decode cX2_height 0 = .ok (.aload_n 0, 1) := by decide +kernel
theorem dX2_height_1 : decode cX2_height 1 = .ok (.iconst 0, 1) := by decide +kernel
theorem dX2_height_2 : decode cX2_height 2 = .ok (.putfield 43, 3) := by decide +kernel
theorem dX2_height_5 : decode cX2_height 5 = .ok (.aload_n 0, 1) := by decide +kernel
theorem dX2_height_6 : decode cX2_height 6 = .ok (.getfield 49, 3) := by decide +kernel
theorem dX2_height_9 : decode cX2_height 9 = .ok (.ireturn, 1) := by decide +kernel
theorem dX2_need_0 : decode cX2_need 0 = .ok (.aload_n 0, 1) := by decide +kernel
theorem dX2_need_1 : decode cX2_need 1 = .ok (.iconst 0, 1) := by decide +kernel
theorem dX2_need_2 : decode cX2_need 2 = .ok (.putfield 43, 3) := by decide +kernel
theorem dX2_need_5 : decode cX2_need 5 = .ok (.aload_n 0, 1) := by decide +kernel
theorem dX2_need_6 : decode cX2_need 6 = .ok (.getfield 7, 3) := by decide +kernel
theorem dX2_need_9 : decode cX2_need 9 = .ok (.ireturn, 1) := by decide +kernel
theorem dX2_waves_0 : decode cX2_waves 0 = .ok (.aload_n 0, 1) := by decide +kernel
theorem dX2_waves_1 : decode cX2_waves 1 = .ok (.iconst 0, 1) := by decide +kernel
theorem dX2_waves_2 : decode cX2_waves 2 = .ok (.putfield 43, 3) := by decide +kernel
theorem dX2_waves_5 : decode cX2_waves 5 = .ok (.aload_n 0, 1) := by decide +kernel
theorem dX2_waves_6 : decode cX2_waves 6 = .ok (.getfield 56, 3) := by decide +kernel
theorem dX2_waves_9 : decode cX2_waves 9 = .ok (.ireturn, 1) := by decide +kernel
set_option maxRecDepth 20000 in
theorem ggX2_stubbornOnes_X2_cells : GoodIn wsX2_stubbornOnes wsX2_cells := goodIn_r _ [6, 7, 8, 9, 10, 11, 12, 13, 14, 15, 16, 17, 18, 19, 20, 21, 22] (by decide +kernel) (by decide +kernel)
set_option maxRecDepth 20000 in
theorem gX2_stubbornOnes_X2_cells : GoodIn wsX2_stubbornOnes (wsV RX2 68 RX2 yX2_cells wsX2_cells) := goodIn_app (goodIn_of _ (by decide +kernel)) ggX2_stubbornOnes_X2_cells
theorem dX2_stubbornOnes_0 : decode cX2_stubbornOnes 0 = .ok (.iconst 0, 1) := by decide +kernel
theorem dX2_stubbornOnes_1 : decode cX2_stubbornOnes 1 = .ok (.istore_n 1, 1) := by decide +kernel
theorem dX2_stubbornOnes_2 : decode cX2_stubbornOnes 2 = .ok (.iconst 0, 1) := by decide +kernel
theorem dX2_stubbornOnes_3 : decode cX2_stubbornOnes 3 = .ok (.istore_n 2, 1) := by decide +kernel
theorem dX2_stubbornOnes_4 : decode cX2_stubbornOnes 4 = .ok (.iload_n 2, 1) := by decide +kernel
theorem dX2_stubbornOnes_5 : decode cX2_stubbornOnes 5 = .ok (.aload_n 0, 1) := by decide +kernel
theorem dX2_stubbornOnes_6 : decode cX2_stubbornOnes 6 = .ok (.invokevirtual 68, 3) := by decide +kernel
theorem dX2_stubbornOnes_9 : decode cX2_stubbornOnes 9 = .ok (.if_icmp .ge 26, 3) := by decide +kernel
theorem dX2_stubbornOnes_12 : decode cX2_stubbornOnes 12 = .ok (.iload_n 1, 1) := by decide +kernel
theorem dX2_stubbornOnes_13 : decode cX2_stubbornOnes 13 = .ok (.aload_n 0, 1) := by decide +kernel
theorem dX2_stubbornOnes_14 : decode cX2_stubbornOnes 14 = .ok (.getfield 20, 3) := by decide +kernel
theorem dX2_stubbornOnes_17 : decode cX2_stubbornOnes 17 = .ok (.iload_n 2, 1) := by decide +kernel
theorem dX2_stubbornOnes_18 : decode cX2_stubbornOnes 18 = .ok (.baload, 1) := by decide +kernel
theorem dX2_stubbornOnes_19 : decode cX2_stubbornOnes 19 = .ok (.ifCond .eq 7, 3) := by decide +kernel
theorem dX2_stubbornOnes_22 : decode cX2_stubbornOnes 22 = .ok (.iconst 1, 1) := by decide +kernel
theorem dX2_stubbornOnes_23 : decode cX2_stubbornOnes 23 = .ok (.goto 4, 3) := by decide +kernel
theorem dX2_stubbornOnes_26 : decode cX2_stubbornOnes 26 = .ok (.iconst 0, 1) := by decide +kernel
theorem dX2_stubbornOnes_27 : decode cX2_stubbornOnes 27 = .ok (.iadd, 1) := by decide +kernel
theorem dX2_stubbornOnes_28 : decode cX2_stubbornOnes 28 = .ok (.istore_n 1, 1) := by decide +kernel
theorem dX2_stubbornOnes_29 : decode cX2_stubbornOnes 29 = .ok (.iinc 2 1, 3) := by decide +kernel
theorem dX2_stubbornOnes_32 : decode cX2_stubbornOnes 32 = .ok (.goto (-28), 3) := by decide +kernel
theorem dX2_stubbornOnes_35 : decode cX2_stubbornOnes 35 = .ok (.iload_n 1, 1) := by decide +kernel
theorem dX2_stubbornOnes_36 : decode cX2_stubbornOnes 36 = .ok (.ireturn, 1) := by decide +kernel
set_option maxRecDepth 20000 in
theorem ggX2_stubbornCells_X2_stubbornOnes : GoodIn wsX2_stubbornCells wsX2_stubbornOnes := goodIn_r _ [6, 7, 8, 9, 10, 5, 11, 12, 13, 14, 15, 16, 17, 18, 19, 20, 21, 22, 23, 24, 25, 26, 27] (by decide +kernel) (by decide +kernel)
set_option maxRecDepth 20000 in
theorem gX2_stubbornCells_X2_stubbornOnes : GoodIn wsX2_stubbornCells (wsV RX2 103 RX2 yX2_stubbornOnes wsX2_stubbornOnes) := goodIn_app (goodIn_of _ (by decide +kernel)) ggX2_stubbornCells_X2_stubbornOnes
theorem dX2_stubbornCells_0 : decode cX2_stubbornCells 0 = .ok (.aload_n 0, 1) := by decide +kernel
theorem dX2_stubbornCells_1 : decode cX2_stubbornCells 1 = .ok (.iconst 0, 1) := by decide +kernel
theorem dX2_stubbornCells_2 : decode cX2_stubbornCells 2 = .ok (.putfield 43, 3) := by decide +kernel
theorem dX2_stubbornCells_5 : decode cX2_stubbornCells 5 = .ok (.aload_n 0, 1) := by decide +kernel
theorem dX2_stubbornCells_6 : decode cX2_stubbornCells 6 = .ok (.invokevirtual 103, 3) := by decide +kernel
theorem dX2_stubbornCells_9 : decode cX2_stubbornCells 9 = .ok (.ireturn, 1) := by decide +kernel
set_option maxRecDepth 20000 in
theorem ggX2_cellsOf_X2_isAny : GoodIn wsX2_cellsOf wsX2_isAny := goodIn_r _ [5, 6, 7, 4, 8] (by decide +kernel) (by decide +kernel)
set_option maxRecDepth 20000 in
theorem gX2_cellsOf_X2_isAny : GoodIn wsX2_cellsOf (va_wsS RX2 83 yX2_isAny wsX2_isAny) := goodIn_app (goodIn_of _ (by decide +kernel)) ggX2_cellsOf_X2_isAny
set_option maxRecDepth 20000 in
theorem ggX2_cellsOf_X2_cellsWith : GoodIn wsX2_cellsOf wsX2_cellsWith := goodIn_r _ [12, 13, 14, 15, 16, 4, 17, 18, 19, 24, 25, 26, 27, 28, 29, 30, 31, 32, 33, 34, 35, 36, 37] (by decide +kernel) (by decide +kernel)
set_option maxRecDepth 20000 in
theorem gX2_cellsOf_X2_cellsWith : GoodIn wsX2_cellsOf (wsV RX2 106 RX2 yX2_cellsWith wsX2_cellsWith) := goodIn_app (goodIn_of _ (by decide +kernel)) ggX2_cellsOf_X2_cellsWith
set_option maxRecDepth 20000 in
theorem ggX2_cellsOf_X2_fail : GoodIn wsX2_cellsOf wsX2_fail := goodIn_r _ [23, 1, 24, 25, 26, 27, 28, 29, 30, 31, 32, 33, 34, 35, 36, 37] (by decide +kernel) (by decide +kernel)
set_option maxRecDepth 20000 in
theorem gX2_cellsOf_X2_fail : GoodIn wsX2_cellsOf (wsV RX2 76 RX2 yX2_fail wsX2_fail) := goodIn_app (goodIn_of _ (by decide +kernel)) ggX2_cellsOf_X2_fail
theorem dX2_cellsOf_0 : decode cX2_cellsOf 0 = .ok (.aload_n 0, 1) := by decide +kernel
theorem dX2_cellsOf_1 : decode cX2_cellsOf 1 = .ok (.iconst 0, 1) := by decide +kernel
theorem dX2_cellsOf_2 : decode cX2_cellsOf 2 = .ok (.putfield 43, 3) := by decide +kernel
theorem dX2_cellsOf_5 : decode cX2_cellsOf 5 = .ok (.iload_n 1, 1) := by decide +kernel
theorem dX2_cellsOf_6 : decode cX2_cellsOf 6 = .ok (.invokestatic 83, 3) := by decide +kernel
theorem dX2_cellsOf_9 : decode cX2_cellsOf 9 = .ok (.ifCond .eq 11, 3) := by decide +kernel
theorem dX2_cellsOf_12 : decode cX2_cellsOf 12 = .ok (.aload_n 0, 1) := by decide +kernel
theorem dX2_cellsOf_13 : decode cX2_cellsOf 13 = .ok (.iload_n 1, 1) := by decide +kernel
theorem dX2_cellsOf_14 : decode cX2_cellsOf 14 = .ok (.invokevirtual 106, 3) := by decide +kernel
theorem dX2_cellsOf_17 : decode cX2_cellsOf 17 = .ok (.goto 8, 3) := by decide +kernel
theorem dX2_cellsOf_20 : decode cX2_cellsOf 20 = .ok (.aload_n 0, 1) := by decide +kernel
theorem dX2_cellsOf_21 : decode cX2_cellsOf 21 = .ok (.iconst 1, 1) := by decide +kernel
theorem dX2_cellsOf_22 : decode cX2_cellsOf 22 = .ok (.invokevirtual 76, 3) := by decide +kernel
theorem dX2_cellsOf_25 : decode cX2_cellsOf 25 = .ok (.ireturn, 1) := by decide +kernel
set_option maxRecDepth 20000 in
theorem ggX2_regions_X2_cells : GoodIn wsX2_regions wsX2_cells := goodIn_r _ [11, 12, 13, 19, 20, 21, 22, 23, 24, 25, 26, 27, 28, 29, 30, 31, 32] (by decide +kernel) (by decide +kernel)
set_option maxRecDepth 20000 in
theorem gX2_regions_X2_cells : GoodIn wsX2_regions (wsV RX2 68 RX2 yX2_cells wsX2_cells) := goodIn_app (goodIn_of _ (by decide +kernel)) ggX2_regions_X2_cells
set_option maxRecDepth 20000 in
theorem ggX2_regions_X2_sizeOf : GoodIn wsX2_regions wsX2_sizeOf := goodIn_r _ [17, 1, 18, 6, 19, 20, 21, 22, 23, 24, 25, 26, 27, 28, 29, 30, 31, 32] (by decide +kernel) (by decide +kernel)
set_option maxRecDepth 20000 in
theorem gX2_regions_X2_sizeOf : GoodIn wsX2_regions (wsV RX2 100 RX2 yX2_sizeOf wsX2_sizeOf) := goodIn_app (goodIn_of _ (by decide +kernel)) ggX2_regions_X2_sizeOf
theorem dX2_regions_0 : decode cX2_regions 0 = .ok (.iconst 0, 1) := by decide +kernel
theorem dX2_regions_1 : decode cX2_regions 1 = .ok (.istore_n 3, 1) := by decide +kernel
theorem dX2_regions_2 : decode cX2_regions 2 = .ok (.iconst 0, 1) := by decide +kernel
theorem dX2_regions_3 : decode cX2_regions 3 = .ok (.istore 4, 2) := by decide +kernel
theorem dX2_regions_5 : decode cX2_regions 5 = .ok (.iconst 0, 1) := by decide +kernel
theorem dX2_regions_6 : decode cX2_regions 6 = .ok (.istore 5, 2) := by decide +kernel
theorem dX2_regions_8 : decode cX2_regions 8 = .ok (.iconst 0, 1) := by decide +kernel
theorem dX2_regions_9 : decode cX2_regions 9 = .ok (.istore 6, 2) := by decide +kernel
theorem dX2_regions_11 : decode cX2_regions 11 = .ok (.iload 6, 2) := by decide +kernel
theorem dX2_regions_13 : decode cX2_regions 13 = .ok (.aload_n 0, 1) := by decide +kernel
theorem dX2_regions_14 : decode cX2_regions 14 = .ok (.invokevirtual 68, 3) := by decide +kernel
theorem dX2_regions_17 : decode cX2_regions 17 = .ok (.if_icmp .ge 63, 3) := by decide +kernel
theorem dX2_regions_20 : decode cX2_regions 20 = .ok (.aload_n 0, 1) := by decide +kernel
theorem dX2_regions_21 : decode cX2_regions 21 = .ok (.getfield 13, 3) := by decide +kernel
theorem dX2_regions_24 : decode cX2_regions 24 = .ok (.iload 6, 2) := by decide +kernel
theorem dX2_regions_26 : decode cX2_regions 26 = .ok (.iaload, 1) := by decide +kernel
theorem dX2_regions_27 : decode cX2_regions 27 = .ok (.iload_n 1, 1) := by decide +kernel
theorem dX2_regions_28 : decode cX2_regions 28 = .ok (.if_icmp .eq 6, 3) := by decide +kernel
theorem dX2_regions_31 : decode cX2_regions 31 = .ok (.goto 43, 3) := by decide +kernel
theorem dX2_regions_34 : decode cX2_regions 34 = .ok (.iload 4, 2) := by decide +kernel
theorem dX2_regions_36 : decode cX2_regions 36 = .ok (.aload_n 0, 1) := by decide +kernel
theorem dX2_regions_37 : decode cX2_regions 37 = .ok (.iload 6, 2) := by decide +kernel
theorem dX2_regions_39 : decode cX2_regions 39 = .ok (.invokevirtual 100, 3) := by decide +kernel
theorem dX2_regions_42 : decode cX2_regions 42 = .ok (.invokestatic 109, 3) := by decide +kernel
theorem dX2_regions_45 : decode cX2_regions 45 = .ok (.istore 4, 2) := by decide +kernel
theorem dX2_regions_47 : decode cX2_regions 47 = .ok (.aload_n 0, 1) := by decide +kernel
theorem dX2_regions_48 : decode cX2_regions 48 = .ok (.getfield 30, 3) := by decide +kernel
theorem dX2_regions_51 : decode cX2_regions 51 = .ok (.iload 6, 2) := by decide +kernel
theorem dX2_regions_53 : decode cX2_regions 53 = .ok (.iaload, 1) := by decide +kernel
theorem dX2_regions_54 : decode cX2_regions 54 = .ok (.iload 5, 2) := by decide +kernel
theorem dX2_regions_56 : decode cX2_regions 56 = .ok (.if_icmp .gt 6, 3) := by decide +kernel
theorem dX2_regions_59 : decode cX2_regions 59 = .ok (.goto 15, 3) := by decide +kernel
theorem dX2_regions_62 : decode cX2_regions 62 = .ok (.aload_n 0, 1) := by decide +kernel
theorem dX2_regions_63 : decode cX2_regions 63 = .ok (.getfield 30, 3) := by decide +kernel
theorem dX2_regions_66 : decode cX2_regions 66 = .ok (.iload 6, 2) := by decide +kernel
theorem dX2_regions_68 : decode cX2_regions 68 = .ok (.iaload, 1) := by decide +kernel
theorem dX2_regions_69 : decode cX2_regions 69 = .ok (.istore 5, 2) := by decide +kernel
theorem dX2_regions_71 : decode cX2_regions 71 = .ok (.iinc 3 1, 3) := by decide +kernel
theorem dX2_regions_74 : decode cX2_regions 74 = .ok (.iinc 6 1, 3) := by decide +kernel
theorem dX2_regions_77 : decode cX2_regions 77 = .ok (.goto (-66), 3) := by decide +kernel
theorem dX2_regions_80 : decode cX2_regions 80 = .ok (.iload_n 2, 1) := by decide +kernel
theorem dX2_regions_81 : decode cX2_regions 81 = .ok (.ifCond .eq 8, 3) := by decide +kernel
theorem dX2_regions_84 : decode cX2_regions 84 = .ok (.iload 4, 2) := by decide +kernel
theorem dX2_regions_86 : decode cX2_regions 86 = .ok (.goto 4, 3) := by decide +kernel
theorem dX2_regions_89 : decode cX2_regions 89 = .ok (.iload_n 3, 1) := by decide +kernel
theorem dX2_regions_90 : decode cX2_regions 90 = .ok (.ireturn, 1) := by decide +kernel
set_option maxRecDepth 20000 in
theorem ggX2_regionsOf_X2_isColour : GoodIn wsX2_regionsOf wsX2_isColour := goodIn_r _ [5, 6, 7, 4, 8] (by decide +kernel) (by decide +kernel)
set_option maxRecDepth 20000 in
theorem gX2_regionsOf_X2_isColour : GoodIn wsX2_regionsOf (va_wsS RX2 114 yX2_isColour wsX2_isColour) := goodIn_app (goodIn_of _ (by decide +kernel)) ggX2_regionsOf_X2_isColour
set_option maxRecDepth 20000 in
theorem ggX2_regionsOf_X2_fail : GoodIn wsX2_regionsOf wsX2_fail := goodIn_r _ [12, 1, 45, 46, 47, 48, 49, 50, 51, 52, 53, 54, 55, 56, 57, 58] (by decide +kernel) (by decide +kernel)
set_option maxRecDepth 20000 in
theorem gX2_regionsOf_X2_fail : GoodIn wsX2_regionsOf (wsV RX2 76 RX2 yX2_fail wsX2_fail) := goodIn_app (goodIn_of _ (by decide +kernel)) ggX2_regionsOf_X2_fail
set_option maxRecDepth 20000 in
theorem ggX2_regionsOf_X2_hang : GoodIn wsX2_regionsOf wsX2_hang := goodIn_r _ [16, 17, 18, 19, 20, 21, 22, 4, 23, 24, 25, 26, 27, 28, 29, 30, 31, 32, 45, 46, 47, 48, 49, 50, 51, 52, 53, 54, 55, 56, 57, 58] (by decide +kernel) (by decide +kernel)
set_option maxRecDepth 20000 in
theorem gX2_regionsOf_X2_hang : GoodIn wsX2_regionsOf (wsV RX2 97 RX2 yX2_hang wsX2_hang) := goodIn_app (goodIn_of _ (by decide +kernel)) ggX2_regionsOf_X2_hang
set_option maxRecDepth 20000 in
theorem ggX2_regionsOf_X2_regions : GoodIn wsX2_regionsOf wsX2_regions := goodIn_r _ [36, 19, 37, 38, 39, 40, 18, 20, 21, 22, 4, 23, 24, 25, 41, 42, 43, 44, 32, 45, 46, 47, 48, 49, 50, 51, 52, 53, 54, 55, 56, 57, 58] (by decide +kernel) (by decide +kernel)
set_option maxRecDepth 20000 in
theorem gX2_regionsOf_X2_regions : GoodIn wsX2_regionsOf (wsV RX2 117 RX2 yX2_regions wsX2_regions) := goodIn_app (goodIn_of _ (by decide +kernel)) ggX2_regionsOf_X2_regions
theorem dX2_regionsOf_0 : decode cX2_regionsOf 0 = .ok (.aload_n 0, 1) := by decide +kernel
theorem dX2_regionsOf_1 : decode cX2_regionsOf 1 = .ok (.iconst 0, 1) := by decide +kernel
theorem dX2_regionsOf_2 : decode cX2_regionsOf 2 = .ok (.putfield 43, 3) := by decide +kernel
theorem dX2_regionsOf_5 : decode cX2_regionsOf 5 = .ok (.iload_n 1, 1) := by decide +kernel
theorem dX2_regionsOf_6 : decode cX2_regionsOf 6 = .ok (.invokestatic 114, 3) := by decide +kernel
theorem dX2_regionsOf_9 : decode cX2_regionsOf 9 = .ok (.ifCond .ne 9, 3) := by decide +kernel
theorem dX2_regionsOf_12 : decode cX2_regionsOf 12 = .ok (.aload_n 0, 1) := by decide +kernel
theorem dX2_regionsOf_13 : decode cX2_regionsOf 13 = .ok (.iconst 1, 1) := by decide +kernel
theorem dX2_regionsOf_14 : decode cX2_regionsOf 14 = .ok (.invokevirtual 76, 3) := by decide +kernel
theorem dX2_regionsOf_17 : decode cX2_regionsOf 17 = .ok (.ireturn, 1) := by decide +kernel
theorem dX2_regionsOf_18 : decode cX2_regionsOf 18 = .ok (.aload_n 0, 1) := by decide +kernel
theorem dX2_regionsOf_19 : decode cX2_regionsOf 19 = .ok (.invokevirtual 97, 3) := by decide +kernel
theorem dX2_regionsOf_22 : decode cX2_regionsOf 22 = .ok (.aload_n 0, 1) := by decide +kernel
theorem dX2_regionsOf_23 : decode cX2_regionsOf 23 = .ok (.iload_n 1, 1) := by decide +kernel
theorem dX2_regionsOf_24 : decode cX2_regionsOf 24 = .ok (.iconst 0, 1) := by decide +kernel
theorem dX2_regionsOf_25 : decode cX2_regionsOf 25 = .ok (.invokevirtual 117, 3) := by decide +kernel
theorem dX2_regionsOf_28 : decode cX2_regionsOf 28 = .ok (.ireturn, 1) := by decide +kernel
set_option maxRecDepth 20000 in
theorem ggX2_greatestRegion_X2_isColour : GoodIn wsX2_greatestRegion wsX2_isColour := goodIn_r _ [5, 6, 7, 4, 8] (by decide +kernel) (by decide +kernel)
set_option maxRecDepth 20000 in
theorem gX2_greatestRegion_X2_isColour : GoodIn wsX2_greatestRegion (va_wsS RX2 114 yX2_isColour wsX2_isColour) := goodIn_app (goodIn_of _ (by decide +kernel)) ggX2_greatestRegion_X2_isColour
set_option maxRecDepth 20000 in
theorem ggX2_greatestRegion_X2_fail : GoodIn wsX2_greatestRegion wsX2_fail := goodIn_r _ [12, 1, 45, 46, 47, 48, 49, 50, 51, 52, 53, 54, 55, 56, 57, 58] (by decide +kernel) (by decide +kernel)
set_option maxRecDepth 20000 in
theorem gX2_greatestRegion_X2_fail : GoodIn wsX2_greatestRegion (wsV RX2 76 RX2 yX2_fail wsX2_fail) := goodIn_app (goodIn_of _ (by decide +kernel)) ggX2_greatestRegion_X2_fail
set_option maxRecDepth 20000 in
theorem ggX2_greatestRegion_X2_hang : GoodIn wsX2_greatestRegion wsX2_hang := goodIn_r _ [16, 17, 18, 19, 20, 21, 22, 4, 23, 24, 25, 26, 27, 28, 29, 30, 31, 32, 45, 46, 47, 48, 49, 50, 51, 52, 53, 54, 55, 56, 57, 58] (by decide +kernel) (by decide +kernel)
set_option maxRecDepth 20000 in
theorem gX2_greatestRegion_X2_hang : GoodIn wsX2_greatestRegion (wsV RX2 97 RX2 yX2_hang wsX2_hang) := goodIn_app (goodIn_of _ (by decide +kernel)) ggX2_greatestRegion_X2_hang
set_option maxRecDepth 20000 in
theorem ggX2_greatestRegion_X2_regions : GoodIn wsX2_greatestRegion wsX2_regions := goodIn_r _ [36, 19, 37, 38, 39, 40, 18, 20, 21, 22, 4, 23, 24, 25, 41, 42, 43, 44, 32, 45, 46, 47, 48, 49, 50, 51, 52, 53, 54, 55, 56, 57, 58] (by decide +kernel) (by decide +kernel)
set_option maxRecDepth 20000 in
theorem gX2_greatestRegion_X2_regions : GoodIn wsX2_greatestRegion (wsV RX2 117 RX2 yX2_regions wsX2_regions) := goodIn_app (goodIn_of _ (by decide +kernel)) ggX2_greatestRegion_X2_regions
theorem dX2_greatestRegion_0 : decode cX2_greatestRegion 0 = .ok (.aload_n 0, 1) := by decide +kernel
theorem dX2_greatestRegion_1 : decode cX2_greatestRegion 1 = .ok (.iconst 0, 1) := by decide +kernel
theorem dX2_greatestRegion_2 : decode cX2_greatestRegion 2 = .ok (.putfield 43, 3) := by decide +kernel
theorem dX2_greatestRegion_5 : decode cX2_greatestRegion 5 = .ok (.iload_n 1, 1) := by decide +kernel
theorem dX2_greatestRegion_6 : decode cX2_greatestRegion 6 = .ok (.invokestatic 114, 3) := by decide +kernel
theorem dX2_greatestRegion_9 : decode cX2_greatestRegion 9 = .ok (.ifCond .ne 9, 3) := by decide +kernel
theorem dX2_greatestRegion_12 : decode cX2_greatestRegion 12 = .ok (.aload_n 0, 1) := by decide +kernel
theorem dX2_greatestRegion_13 : decode cX2_greatestRegion 13 = .ok (.iconst 1, 1) := by decide +kernel
theorem dX2_greatestRegion_14 : decode cX2_greatestRegion 14 = .ok (.invokevirtual 76, 3) := by decide +kernel
theorem dX2_greatestRegion_17 : decode cX2_greatestRegion 17 = .ok (.ireturn, 1) := by decide +kernel
theorem dX2_greatestRegion_18 : decode cX2_greatestRegion 18 = .ok (.aload_n 0, 1) := by decide +kernel
theorem dX2_greatestRegion_19 : decode cX2_greatestRegion 19 = .ok (.invokevirtual 97, 3) := by decide +kernel
theorem dX2_greatestRegion_22 : decode cX2_greatestRegion 22 = .ok (.aload_n 0, 1) := by decide +kernel
theorem dX2_greatestRegion_23 : decode cX2_greatestRegion 23 = .ok (.iload_n 1, 1) := by decide +kernel
theorem dX2_greatestRegion_24 : decode cX2_greatestRegion 24 = .ok (.iconst 1, 1) := by decide +kernel
theorem dX2_greatestRegion_25 : decode cX2_greatestRegion 25 = .ok (.invokevirtual 117, 3) := by decide +kernel
theorem dX2_greatestRegion_28 : decode cX2_greatestRegion 28 = .ok (.ireturn, 1) := by decide +kernel
set_option maxRecDepth 20000 in
theorem ggX2_between_X2_cells : GoodIn wsX2_between wsX2_cells := goodIn_r _ [7, 8, 9, 10, 11, 12, 13, 14, 15, 16, 17, 18, 19, 20, 21, 22, 23] (by decide +kernel) (by decide +kernel)
set_option maxRecDepth 20000 in
theorem gX2_between_X2_cells : GoodIn wsX2_between (wsV RX2 68 RX2 yX2_cells wsX2_cells) := goodIn_app (goodIn_of _ (by decide +kernel)) ggX2_between_X2_cells
theorem dX2_between_0 : decode cX2_between 0 = .ok (.iconst 0, 1) := by decide +kernel
theorem dX2_between_1 : decode cX2_between 1 = .ok (.istore_n 1, 1) := by decide +kernel
theorem dX2_between_2 : decode cX2_between 2 = .ok (.iconst 0, 1) := by decide +kernel
theorem dX2_between_3 : decode cX2_between 3 = .ok (.istore_n 2, 1) := by decide +kernel
theorem dX2_between_4 : decode cX2_between 4 = .ok (.iload_n 2, 1) := by decide +kernel
theorem dX2_between_5 : decode cX2_between 5 = .ok (.aload_n 0, 1) := by decide +kernel
theorem dX2_between_6 : decode cX2_between 6 = .ok (.invokevirtual 68, 3) := by decide +kernel
theorem dX2_between_9 : decode cX2_between 9 = .ok (.if_icmp .ge 83, 3) := by decide +kernel
theorem dX2_between_12 : decode cX2_between 12 = .ok (.iconst 1, 1) := by decide +kernel
theorem dX2_between_13 : decode cX2_between 13 = .ok (.istore_n 3, 1) := by decide +kernel
theorem dX2_between_14 : decode cX2_between 14 = .ok (.iload_n 3, 1) := by decide +kernel
theorem dX2_between_15 : decode cX2_between 15 = .ok (.iconst 4, 1) := by decide +kernel
theorem dX2_between_16 : decode cX2_between 16 = .ok (.if_icmp .ge 70, 3) := by decide +kernel
theorem dX2_between_19 : decode cX2_between 19 = .ok (.aload_n 0, 1) := by decide +kernel
theorem dX2_between_20 : decode cX2_between 20 = .ok (.getfield 24, 3) := by decide +kernel
theorem dX2_between_23 : decode cX2_between 23 = .ok (.iconst 4, 1) := by decide +kernel
theorem dX2_between_24 : decode cX2_between 24 = .ok (.iload_n 2, 1) := by decide +kernel
theorem dX2_between_25 : decode cX2_between 25 = .ok (.imul, 1) := by decide +kernel
theorem dX2_between_26 : decode cX2_between 26 = .ok (.iload_n 3, 1) := by decide +kernel
theorem dX2_between_27 : decode cX2_between 27 = .ok (.iadd, 1) := by decide +kernel
theorem dX2_between_28 : decode cX2_between 28 = .ok (.iaload, 1) := by decide +kernel
theorem dX2_between_29 : decode cX2_between 29 = .ok (.istore 4, 2) := by decide +kernel
theorem dX2_between_31 : decode cX2_between 31 = .ok (.iload_n 1, 1) := by decide +kernel
theorem dX2_between_32 : decode cX2_between 32 = .ok (.iload 4, 2) := by decide +kernel
theorem dX2_between_34 : decode cX2_between 34 = .ok (.iconst (-1), 1) := by decide +kernel
theorem dX2_between_35 : decode cX2_between 35 = .ok (.if_icmp .eq 42, 3) := by decide +kernel
theorem dX2_between_38 : decode cX2_between 38 = .ok (.aload_n 0, 1) := by decide +kernel
theorem dX2_between_39 : decode cX2_between 39 = .ok (.getfield 13, 3) := by decide +kernel
theorem dX2_between_42 : decode cX2_between 42 = .ok (.iload_n 2, 1) := by decide +kernel
theorem dX2_between_43 : decode cX2_between 43 = .ok (.iaload, 1) := by decide +kernel
theorem dX2_between_44 : decode cX2_between 44 = .ok (.ifCond .eq 33, 3) := by decide +kernel
theorem dX2_between_47 : decode cX2_between 47 = .ok (.aload_n 0, 1) := by decide +kernel
theorem dX2_between_48 : decode cX2_between 48 = .ok (.getfield 13, 3) := by decide +kernel
theorem dX2_between_51 : decode cX2_between 51 = .ok (.iload 4, 2) := by decide +kernel
theorem dX2_between_53 : decode cX2_between 53 = .ok (.iaload, 1) := by decide +kernel
theorem dX2_between_54 : decode cX2_between 54 = .ok (.ifCond .eq 23, 3) := by decide +kernel
theorem dX2_between_57 : decode cX2_between 57 = .ok (.aload_n 0, 1) := by decide +kernel
theorem dX2_between_58 : decode cX2_between 58 = .ok (.getfield 13, 3) := by decide +kernel
theorem dX2_between_61 : decode cX2_between 61 = .ok (.iload_n 2, 1) := by decide +kernel
theorem dX2_between_62 : decode cX2_between 62 = .ok (.iaload, 1) := by decide +kernel
theorem dX2_between_63 : decode cX2_between 63 = .ok (.aload_n 0, 1) := by decide +kernel
theorem dX2_between_64 : decode cX2_between 64 = .ok (.getfield 13, 3) := by decide +kernel
theorem dX2_between_67 : decode cX2_between 67 = .ok (.iload 4, 2) := by decide +kernel
theorem dX2_between_69 : decode cX2_between 69 = .ok (.iaload, 1) := by decide +kernel
theorem dX2_between_70 : decode cX2_between 70 = .ok (.if_icmp .eq 7, 3) := by decide +kernel
theorem dX2_between_73 : decode cX2_between 73 = .ok (.iconst 1, 1) := by decide +kernel
theorem dX2_between_74 : decode cX2_between 74 = .ok (.goto 4, 3) := by decide +kernel
theorem dX2_between_77 : decode cX2_between 77 = .ok (.iconst 0, 1) := by decide +kernel
theorem dX2_between_78 : decode cX2_between 78 = .ok (.iadd, 1) := by decide +kernel
theorem dX2_between_79 : decode cX2_between 79 = .ok (.istore_n 1, 1) := by decide +kernel
theorem dX2_between_80 : decode cX2_between 80 = .ok (.iinc 3 2, 3) := by decide +kernel
theorem dX2_between_83 : decode cX2_between 83 = .ok (.goto (-69), 3) := by decide +kernel
theorem dX2_between_86 : decode cX2_between 86 = .ok (.iinc 2 1, 3) := by decide +kernel
theorem dX2_between_89 : decode cX2_between 89 = .ok (.goto (-85), 3) := by decide +kernel
theorem dX2_between_92 : decode cX2_between 92 = .ok (.iload_n 1, 1) := by decide +kernel
theorem dX2_between_93 : decode cX2_between 93 = .ok (.ireturn, 1) := by decide +kernel
set_option maxRecDepth 20000 in
theorem ggX2_borders_X2_between : GoodIn wsX2_borders wsX2_between := goodIn_r _ [6, 7, 8, 9, 10, 11, 5, 12, 13, 14, 15, 16, 17, 18, 19, 20, 21, 22, 23, 24, 25, 26, 27, 28] (by decide +kernel) (by decide +kernel)
set_option maxRecDepth 20000 in
theorem gX2_borders_X2_between : GoodIn wsX2_borders (wsV RX2 120 RX2 yX2_between wsX2_between) := goodIn_app (goodIn_of _ (by decide +kernel)) ggX2_borders_X2_between
theorem dX2_borders_0 : decode cX2_borders 0 = .ok (.aload_n 0, 1) := by decide +kernel
theorem dX2_borders_1 : decode cX2_borders 1 = .ok (.iconst 0, 1) := by decide +kernel
theorem dX2_borders_2 : decode cX2_borders 2 = .ok (.putfield 43, 3) := by decide +kernel
theorem dX2_borders_5 : decode cX2_borders 5 = .ok (.aload_n 0, 1) := by decide +kernel
theorem dX2_borders_6 : decode cX2_borders 6 = .ok (.invokevirtual 120, 3) := by decide +kernel
theorem dX2_borders_9 : decode cX2_borders 9 = .ok (.ireturn, 1) := by decide +kernel
set_option maxRecDepth 20000 in
theorem ggX2_first_X2_cellsWith : GoodIn wsX2_first wsX2_cellsWith := goodIn_r _ [5, 6, 7, 8, 9, 4, 10, 11, 12, 13, 14, 15, 16, 17, 18, 19, 20, 21, 22, 23, 24, 25, 26] (by decide +kernel) (by decide +kernel)
set_option maxRecDepth 20000 in
theorem gX2_first_X2_cellsWith : GoodIn wsX2_first (wsV RX2 106 RX2 yX2_cellsWith wsX2_cellsWith) := goodIn_app (goodIn_of _ (by decide +kernel)) ggX2_first_X2_cellsWith
theorem dX2_first_0 : decode cX2_first 0 = .ok (.iconst 0, 1) := by decide +kernel
theorem dX2_first_1 : decode cX2_first 1 = .ok (.istore_n 1, 1) := by decide +kernel
theorem dX2_first_2 : decode cX2_first 2 = .ok (.iconst 0, 1) := by decide +kernel
theorem dX2_first_3 : decode cX2_first 3 = .ok (.istore_n 2, 1) := by decide +kernel
theorem dX2_first_4 : decode cX2_first 4 = .ok (.iconst 1, 1) := by decide +kernel
theorem dX2_first_5 : decode cX2_first 5 = .ok (.istore_n 3, 1) := by decide +kernel
theorem dX2_first_6 : decode cX2_first 6 = .ok (.iload_n 3, 1) := by decide +kernel
theorem dX2_first_7 : decode cX2_first 7 = .ok (.iconst 4, 1) := by decide +kernel
theorem dX2_first_8 : decode cX2_first 8 = .ok (.if_icmp .gt 30, 3) := by decide +kernel
theorem dX2_first_11 : decode cX2_first 11 = .ok (.aload_n 0, 1) := by decide +kernel
theorem dX2_first_12 : decode cX2_first 12 = .ok (.iload_n 3, 1) := by decide +kernel
theorem dX2_first_13 : decode cX2_first 13 = .ok (.invokevirtual 106, 3) := by decide +kernel
theorem dX2_first_16 : decode cX2_first 16 = .ok (.istore 4, 2) := by decide +kernel
theorem dX2_first_18 : decode cX2_first 18 = .ok (.iload 4, 2) := by decide +kernel
theorem dX2_first_20 : decode cX2_first 20 = .ok (.iload_n 2, 1) := by decide +kernel
theorem dX2_first_21 : decode cX2_first 21 = .ok (.if_icmp .gt 6, 3) := by decide +kernel
theorem dX2_first_24 : decode cX2_first 24 = .ok (.goto 8, 3) := by decide +kernel
theorem dX2_first_27 : decode cX2_first 27 = .ok (.iload_n 3, 1) := by decide +kernel
theorem dX2_first_28 : decode cX2_first 28 = .ok (.istore_n 1, 1) := by decide +kernel
theorem dX2_first_29 : decode cX2_first 29 = .ok (.iload 4, 2) := by decide +kernel
theorem dX2_first_31 : decode cX2_first 31 = .ok (.istore_n 2, 1) := by decide +kernel
theorem dX2_first_32 : decode cX2_first 32 = .ok (.iinc 3 1, 3) := by decide +kernel
theorem dX2_first_35 : decode cX2_first 35 = .ok (.goto (-29), 3) := by decide +kernel
theorem dX2_first_38 : decode cX2_first 38 = .ok (.iload_n 1, 1) := by decide +kernel
theorem dX2_first_39 : decode cX2_first 39 = .ok (.ireturn, 1) := by decide +kernel
set_option maxRecDepth 20000 in
theorem ggX2_leader_X2_first : GoodIn wsX2_leader wsX2_first := goodIn_r _ [6, 7, 8, 9, 5, 10, 11, 12, 13, 14, 15, 16, 17, 18, 19, 20, 21, 22, 23, 24, 25, 26, 27, 28, 29, 30, 31] (by decide +kernel) (by decide +kernel)
set_option maxRecDepth 20000 in
theorem gX2_leader_X2_first : GoodIn wsX2_leader (wsV RX2 123 RX2 yX2_first wsX2_first) := goodIn_app (goodIn_of _ (by decide +kernel)) ggX2_leader_X2_first
theorem dX2_leader_0 : decode cX2_leader 0 = .ok (.aload_n 0, 1) := by decide +kernel
theorem dX2_leader_1 : decode cX2_leader 1 = .ok (.iconst 0, 1) := by decide +kernel
theorem dX2_leader_2 : decode cX2_leader 2 = .ok (.putfield 43, 3) := by decide +kernel
theorem dX2_leader_5 : decode cX2_leader 5 = .ok (.aload_n 0, 1) := by decide +kernel
theorem dX2_leader_6 : decode cX2_leader 6 = .ok (.invokevirtual 123, 3) := by decide +kernel
theorem dX2_leader_9 : decode cX2_leader 9 = .ok (.ireturn, 1) := by decide +kernel
set_option maxRecDepth 20000 in
theorem ggX2_still_X2_cells : GoodIn wsX2_still wsX2_cells := goodIn_r _ [6, 7, 8, 20, 21, 22, 23, 24, 25, 26, 27, 28, 29, 30, 31, 32, 33] (by decide +kernel) (by decide +kernel)
set_option maxRecDepth 20000 in
theorem gX2_still_X2_cells : GoodIn wsX2_still (wsV RX2 68 RX2 yX2_cells wsX2_cells) := goodIn_app (goodIn_of _ (by decide +kernel)) ggX2_still_X2_cells
set_option maxRecDepth 20000 in
theorem ggX2_still_X2_nextOf : GoodIn wsX2_still wsX2_nextOf := goodIn_r _ [12, 13, 1, 14, 15, 16, 17, 5, 18, 19, 20, 21, 22, 23, 24, 25, 26, 27, 28, 29, 30, 31, 32, 33] (by decide +kernel) (by decide +kernel)
set_option maxRecDepth 20000 in
theorem gX2_still_X2_nextOf : GoodIn wsX2_still (wsV RX2 72 RX2 yX2_nextOf wsX2_nextOf) := goodIn_app (goodIn_of _ (by decide +kernel)) ggX2_still_X2_nextOf
theorem dX2_still_0 : decode cX2_still 0 = .ok (.iconst 0, 1) := by decide +kernel
theorem dX2_still_1 : decode cX2_still 1 = .ok (.istore_n 1, 1) := by decide +kernel
theorem dX2_still_2 : decode cX2_still 2 = .ok (.iload_n 1, 1) := by decide +kernel
theorem dX2_still_3 : decode cX2_still 3 = .ok (.aload_n 0, 1) := by decide +kernel
theorem dX2_still_4 : decode cX2_still 4 = .ok (.invokevirtual 68, 3) := by decide +kernel
theorem dX2_still_7 : decode cX2_still 7 = .ok (.if_icmp .ge 25, 3) := by decide +kernel
theorem dX2_still_10 : decode cX2_still 10 = .ok (.aload_n 0, 1) := by decide +kernel
theorem dX2_still_11 : decode cX2_still 11 = .ok (.iload_n 1, 1) := by decide +kernel
theorem dX2_still_12 : decode cX2_still 12 = .ok (.invokevirtual 72, 3) := by decide +kernel
theorem dX2_still_15 : decode cX2_still 15 = .ok (.aload_n 0, 1) := by decide +kernel
theorem dX2_still_16 : decode cX2_still 16 = .ok (.getfield 13, 3) := by decide +kernel
theorem dX2_still_19 : decode cX2_still 19 = .ok (.iload_n 1, 1) := by decide +kernel
theorem dX2_still_20 : decode cX2_still 20 = .ok (.iaload, 1) := by decide +kernel
theorem dX2_still_21 : decode cX2_still 21 = .ok (.if_icmp .eq 5, 3) := by decide +kernel
theorem dX2_still_24 : decode cX2_still 24 = .ok (.iconst 0, 1) := by decide +kernel
theorem dX2_still_25 : decode cX2_still 25 = .ok (.ireturn, 1) := by decide +kernel
theorem dX2_still_26 : decode cX2_still 26 = .ok (.iinc 1 1, 3) := by decide +kernel
theorem dX2_still_29 : decode cX2_still 29 = .ok (.goto (-27), 3) := by decide +kernel
theorem dX2_still_32 : decode cX2_still 32 = .ok (.iconst 1, 1) := by decide +kernel
theorem dX2_still_33 : decode cX2_still 33 = .ok (.ireturn, 1) := by decide +kernel
set_option maxRecDepth 20000 in
theorem ggX2_isStill_X2_still : GoodIn wsX2_isStill wsX2_still := goodIn_r _ [6, 7, 8, 9, 10, 5, 11, 12, 13, 14, 15, 16, 17, 18, 19, 20, 21, 22, 23, 24, 25, 26, 27, 28, 29, 30, 31, 32, 33, 34, 35, 36, 37, 38] (by decide +kernel) (by decide +kernel)
set_option maxRecDepth 20000 in
theorem gX2_isStill_X2_still : GoodIn wsX2_isStill (wsV RX2 126 RX2 yX2_still wsX2_still) := goodIn_app (goodIn_of _ (by decide +kernel)) ggX2_isStill_X2_still
theorem dX2_isStill_0 : decode cX2_isStill 0 = .ok (.aload_n 0, 1) := by decide +kernel
theorem dX2_isStill_1 : decode cX2_isStill 1 = .ok (.iconst 0, 1) := by decide +kernel
theorem dX2_isStill_2 : decode cX2_isStill 2 = .ok (.putfield 43, 3) := by decide +kernel
theorem dX2_isStill_5 : decode cX2_isStill 5 = .ok (.aload_n 0, 1) := by decide +kernel
theorem dX2_isStill_6 : decode cX2_isStill 6 = .ok (.invokevirtual 126, 3) := by decide +kernel
theorem dX2_isStill_9 : decode cX2_isStill 9 = .ok (.ireturn, 1) := by decide +kernel
set_option maxRecDepth 20000 in
theorem ggX2_all_X2_cellsWith : GoodIn wsX2_all wsX2_cellsWith := goodIn_r _ [6, 1, 7, 8, 9, 5, 10, 11, 12, 13, 14, 15, 16, 17, 18, 19, 20, 21, 22, 23, 24, 25, 26] (by decide +kernel) (by decide +kernel)
set_option maxRecDepth 20000 in
theorem gX2_all_X2_cellsWith : GoodIn wsX2_all (wsV RX2 106 RX2 yX2_cellsWith wsX2_cellsWith) := goodIn_app (goodIn_of _ (by decide +kernel)) ggX2_all_X2_cellsWith
set_option maxRecDepth 20000 in
theorem ggX2_all_X2_cells : GoodIn wsX2_all wsX2_cells := goodIn_r _ [10, 11, 12, 13, 14, 15, 16, 17, 18, 19, 20, 21, 22, 23, 24, 25, 26] (by decide +kernel) (by decide +kernel)
set_option maxRecDepth 20000 in
theorem gX2_all_X2_cells : GoodIn wsX2_all (wsV RX2 68 RX2 yX2_cells wsX2_cells) := goodIn_app (goodIn_of _ (by decide +kernel)) ggX2_all_X2_cells
theorem dX2_all_0 : decode cX2_all 0 = .ok (.aload_n 0, 1) := by decide +kernel
theorem dX2_all_1 : decode cX2_all 1 = .ok (.aload_n 0, 1) := by decide +kernel
theorem dX2_all_2 : decode cX2_all 2 = .ok (.getfield 13, 3) := by decide +kernel
theorem dX2_all_5 : decode cX2_all 5 = .ok (.iconst 0, 1) := by decide +kernel
theorem dX2_all_6 : decode cX2_all 6 = .ok (.iaload, 1) := by decide +kernel
theorem dX2_all_7 : decode cX2_all 7 = .ok (.invokevirtual 106, 3) := by decide +kernel
theorem dX2_all_10 : decode cX2_all 10 = .ok (.aload_n 0, 1) := by decide +kernel
theorem dX2_all_11 : decode cX2_all 11 = .ok (.invokevirtual 68, 3) := by decide +kernel
theorem dX2_all_14 : decode cX2_all 14 = .ok (.if_icmp .ne 12, 3) := by decide +kernel
theorem dX2_all_17 : decode cX2_all 17 = .ok (.aload_n 0, 1) := by decide +kernel
theorem dX2_all_18 : decode cX2_all 18 = .ok (.getfield 13, 3) := by decide +kernel
theorem dX2_all_21 : decode cX2_all 21 = .ok (.iconst 0, 1) := by decide +kernel
theorem dX2_all_22 : decode cX2_all 22 = .ok (.iaload, 1) := by decide +kernel
theorem dX2_all_23 : decode cX2_all 23 = .ok (.goto 4, 3) := by decide +kernel
theorem dX2_all_26 : decode cX2_all 26 = .ok (.iconst 0, 1) := by decide +kernel
theorem dX2_all_27 : decode cX2_all 27 = .ok (.ireturn, 1) := by decide +kernel
set_option maxRecDepth 20000 in
theorem ggX2_winner_X2_all : GoodIn wsX2_winner wsX2_all := goodIn_r _ [6, 7, 8, 9, 10, 5, 11, 12, 13, 14, 15, 16, 17, 18, 19, 20, 21, 22, 23, 24, 25, 26, 27, 28, 29, 30, 31] (by decide +kernel) (by decide +kernel)
set_option maxRecDepth 20000 in
theorem gX2_winner_X2_all : GoodIn wsX2_winner (wsV RX2 130 RX2 yX2_all wsX2_all) := goodIn_app (goodIn_of _ (by decide +kernel)) ggX2_winner_X2_all
theorem dX2_winner_0 : decode cX2_winner 0 = .ok (.aload_n 0, 1) := by decide +kernel
theorem dX2_winner_1 : decode cX2_winner 1 = .ok (.iconst 0, 1) := by decide +kernel
theorem dX2_winner_2 : decode cX2_winner 2 = .ok (.putfield 43, 3) := by decide +kernel
theorem dX2_winner_5 : decode cX2_winner 5 = .ok (.aload_n 0, 1) := by decide +kernel
theorem dX2_winner_6 : decode cX2_winner 6 = .ok (.invokevirtual 130, 3) := by decide +kernel
theorem dX2_winner_9 : decode cX2_winner 9 = .ok (.ireturn, 1) := by decide +kernel
set_option maxRecDepth 20000 in
theorem ggX2_wavesUntilStill_X2_keep : GoodIn wsX2_wavesUntilStill wsX2_keep := goodIn_r _ [6, 7, 8, 9, 10, 11, 12, 39, 40, 41, 42, 43, 44, 45, 46, 47, 48, 49, 50, 51, 52] (by decide +kernel) (by decide +kernel)
set_option maxRecDepth 20000 in
theorem gX2_wavesUntilStill_X2_keep : GoodIn wsX2_wavesUntilStill (wsV RX2 133 RX2 yX2_keep wsX2_keep) := goodIn_app (goodIn_of _ (by decide +kernel)) ggX2_wavesUntilStill_X2_keep
set_option maxRecDepth 20000 in
theorem ggX2_wavesUntilStill_X2_wave : GoodIn wsX2_wavesUntilStill wsX2_wave := goodIn_r _ [16, 17, 7, 9, 10, 11, 12, 18, 19, 20, 5, 21, 22, 23, 24, 25, 26, 27, 28, 29, 30, 31, 32, 33, 34, 39, 40, 41, 42, 43, 44, 45, 46, 47, 48, 49, 50, 51, 52] (by decide +kernel) (by decide +kernel)
set_option maxRecDepth 20000 in
theorem gX2_wavesUntilStill_X2_wave : GoodIn wsX2_wavesUntilStill (wsV RX2 87 RX2 yX2_wave wsX2_wave) := goodIn_app (goodIn_of _ (by decide +kernel)) ggX2_wavesUntilStill_X2_wave
set_option maxRecDepth 20000 in
theorem ggX2_wavesUntilStill_X2_bringBack : GoodIn wsX2_wavesUntilStill wsX2_bringBack := goodIn_r _ [38, 8, 7, 9, 10, 11, 12, 39, 40, 41, 42, 43, 44, 45, 46, 47, 48, 49, 50, 51, 52] (by decide +kernel) (by decide +kernel)
set_option maxRecDepth 20000 in
theorem gX2_wavesUntilStill_X2_bringBack : GoodIn wsX2_wavesUntilStill (wsV RX2 136 RX2 yX2_bringBack wsX2_bringBack) := goodIn_app (goodIn_of _ (by decide +kernel)) ggX2_wavesUntilStill_X2_bringBack
theorem dX2_wavesUntilStill_0 : decode cX2_wavesUntilStill 0 = .ok (.aload_n 0, 1) := by decide +kernel
theorem dX2_wavesUntilStill_1 : decode cX2_wavesUntilStill 1 = .ok (.iconst 0, 1) := by decide +kernel
theorem dX2_wavesUntilStill_2 : decode cX2_wavesUntilStill 2 = .ok (.putfield 43, 3) := by decide +kernel
theorem dX2_wavesUntilStill_5 : decode cX2_wavesUntilStill 5 = .ok (.aload_n 0, 1) := by decide +kernel
theorem dX2_wavesUntilStill_6 : decode cX2_wavesUntilStill 6 = .ok (.invokevirtual 133, 3) := by decide +kernel
theorem dX2_wavesUntilStill_9 : decode cX2_wavesUntilStill 9 = .ok (.iconst 0, 1) := by decide +kernel
theorem dX2_wavesUntilStill_10 : decode cX2_wavesUntilStill 10 = .ok (.istore_n 1, 1) := by decide +kernel
theorem dX2_wavesUntilStill_11 : decode cX2_wavesUntilStill 11 = .ok (.iload_n 1, 1) := by decide +kernel
theorem dX2_wavesUntilStill_12 : decode cX2_wavesUntilStill 12 = .ok (.bipush 40, 2) := by decide +kernel
theorem dX2_wavesUntilStill_14 : decode cX2_wavesUntilStill 14 = .ok (.if_icmp .gt 16, 3) := by decide +kernel
theorem dX2_wavesUntilStill_17 : decode cX2_wavesUntilStill 17 = .ok (.aload_n 0, 1) := by decide +kernel
theorem dX2_wavesUntilStill_18 : decode cX2_wavesUntilStill 18 = .ok (.invokevirtual 87, 3) := by decide +kernel
theorem dX2_wavesUntilStill_21 : decode cX2_wavesUntilStill 21 = .ok (.ifCond .le 9, 3) := by decide +kernel
theorem dX2_wavesUntilStill_24 : decode cX2_wavesUntilStill 24 = .ok (.iinc 1 1, 3) := by decide +kernel
theorem dX2_wavesUntilStill_27 : decode cX2_wavesUntilStill 27 = .ok (.goto (-16), 3) := by decide +kernel
theorem dX2_wavesUntilStill_30 : decode cX2_wavesUntilStill 30 = .ok (.aload_n 0, 1) := by decide +kernel
theorem dX2_wavesUntilStill_31 : decode cX2_wavesUntilStill 31 = .ok (.invokevirtual 136, 3) := by decide +kernel
theorem dX2_wavesUntilStill_34 : decode cX2_wavesUntilStill 34 = .ok (.iload_n 1, 1) := by decide +kernel
theorem dX2_wavesUntilStill_35 : decode cX2_wavesUntilStill 35 = .ok (.bipush 40, 2) := by decide +kernel
theorem dX2_wavesUntilStill_37 : decode cX2_wavesUntilStill 37 = .ok (.if_icmp .le 7, 3) := by decide +kernel
theorem dX2_wavesUntilStill_40 : decode cX2_wavesUntilStill 40 = .ok (.iconst (-1), 1) := by decide +kernel
theorem dX2_wavesUntilStill_41 : decode cX2_wavesUntilStill 41 = .ok (.goto 4, 3) := by decide +kernel
theorem dX2_wavesUntilStill_44 : decode cX2_wavesUntilStill 44 = .ok (.iload_n 1, 1) := by decide +kernel
theorem dX2_wavesUntilStill_45 : decode cX2_wavesUntilStill 45 = .ok (.ireturn, 1) := by decide +kernel
set_option maxRecDepth 20000 in
theorem ggX2_after_X2_wave : GoodIn wsX2_after wsX2_wave := goodIn_r _ [5, 6, 7, 8, 9, 10, 11, 12, 13, 14, 4, 15, 16, 17, 18, 19, 20, 21, 22, 23, 24, 25, 26, 27, 28, 38, 39, 40, 41, 42, 43, 44, 45, 46, 47, 48, 49, 50, 51] (by decide +kernel) (by decide +kernel)
set_option maxRecDepth 20000 in
theorem gX2_after_X2_wave : GoodIn wsX2_after (wsV RX2 87 RX2 yX2_wave wsX2_wave) := goodIn_app (goodIn_of _ (by decide +kernel)) ggX2_after_X2_wave
set_option maxRecDepth 20000 in
theorem ggX2_after_X2_cellsWith : GoodIn wsX2_after wsX2_cellsWith := goodIn_r _ [32, 7, 12, 13, 14, 4, 15, 16, 17, 38, 39, 40, 41, 42, 43, 44, 45, 46, 47, 48, 49, 50, 51] (by decide +kernel) (by decide +kernel)
set_option maxRecDepth 20000 in
theorem gX2_after_X2_cellsWith : GoodIn wsX2_after (wsV RX2 106 RX2 yX2_cellsWith wsX2_cellsWith) := goodIn_app (goodIn_of _ (by decide +kernel)) ggX2_after_X2_cellsWith
set_option maxRecDepth 20000 in
theorem ggX2_after_X2_bringBack : GoodIn wsX2_after wsX2_bringBack := goodIn_r _ [36, 37, 7, 8, 9, 10, 11, 38, 39, 40, 41, 42, 43, 44, 45, 46, 47, 48, 49, 50, 51] (by decide +kernel) (by decide +kernel)
set_option maxRecDepth 20000 in
theorem gX2_after_X2_bringBack : GoodIn wsX2_after (wsV RX2 136 RX2 yX2_bringBack wsX2_bringBack) := goodIn_app (goodIn_of _ (by decide +kernel)) ggX2_after_X2_bringBack
theorem dX2_after_0 : decode cX2_after 0 = .ok (.iconst 0, 1) := by decide +kernel
theorem dX2_after_1 : decode cX2_after 1 = .ok (.istore_n 3, 1) := by decide +kernel
theorem dX2_after_2 : decode cX2_after 2 = .ok (.iload_n 3, 1) := by decide +kernel
theorem dX2_after_3 : decode cX2_after 3 = .ok (.iload_n 1, 1) := by decide +kernel
theorem dX2_after_4 : decode cX2_after 4 = .ok (.if_icmp .ge 14, 3) := by decide +kernel
theorem dX2_after_7 : decode cX2_after 7 = .ok (.aload_n 0, 1) := by decide +kernel
theorem dX2_after_8 : decode cX2_after 8 = .ok (.invokevirtual 87, 3) := by decide +kernel
theorem dX2_after_11 : decode cX2_after 11 = .ok (.pop, 1) := by decide +kernel
theorem dX2_after_12 : decode cX2_after 12 = .ok (.iinc 3 1, 3) := by decide +kernel
theorem dX2_after_15 : decode cX2_after 15 = .ok (.goto (-13), 3) := by decide +kernel
theorem dX2_after_18 : decode cX2_after 18 = .ok (.aload_n 0, 1) := by decide +kernel
theorem dX2_after_19 : decode cX2_after 19 = .ok (.iload_n 2, 1) := by decide +kernel
theorem dX2_after_20 : decode cX2_after 20 = .ok (.invokevirtual 106, 3) := by decide +kernel
theorem dX2_after_23 : decode cX2_after 23 = .ok (.istore_n 3, 1) := by decide +kernel
theorem dX2_after_24 : decode cX2_after 24 = .ok (.aload_n 0, 1) := by decide +kernel
theorem dX2_after_25 : decode cX2_after 25 = .ok (.invokevirtual 136, 3) := by decide +kernel
theorem dX2_after_28 : decode cX2_after 28 = .ok (.iload_n 3, 1) := by decide +kernel
theorem dX2_after_29 : decode cX2_after 29 = .ok (.ireturn, 1) := by decide +kernel
set_option maxRecDepth 20000 in
theorem ggX2_cellsAfter_X2_isIn : GoodIn wsX2_cellsAfter wsX2_isIn := goodIn_r _ [5] (by decide +kernel) (by decide +kernel)
set_option maxRecDepth 20000 in
theorem gX2_cellsAfter_X2_isIn : GoodIn wsX2_cellsAfter (va_wsS RX2 52 yX2_isIn wsX2_isIn) := goodIn_app (goodIn_of _ (by decide +kernel)) ggX2_cellsAfter_X2_isIn
set_option maxRecDepth 20000 in
theorem ggX2_cellsAfter_X2_fail : GoodIn wsX2_cellsAfter wsX2_fail := goodIn_r _ [9, 1, 57, 58, 59, 60, 61, 62, 63, 64, 65, 66, 67, 68, 69, 70] (by decide +kernel) (by decide +kernel)
set_option maxRecDepth 20000 in
theorem gX2_cellsAfter_X2_fail : GoodIn wsX2_cellsAfter (wsV RX2 76 RX2 yX2_fail wsX2_fail) := goodIn_app (goodIn_of _ (by decide +kernel)) ggX2_cellsAfter_X2_fail
set_option maxRecDepth 20000 in
theorem ggX2_cellsAfter_X2_isAny : GoodIn wsX2_cellsAfter wsX2_isAny := goodIn_r _ [12, 2, 3, 4, 5] (by decide +kernel) (by decide +kernel)
set_option maxRecDepth 20000 in
theorem gX2_cellsAfter_X2_isAny : GoodIn wsX2_cellsAfter (va_wsS RX2 83 yX2_isAny wsX2_isAny) := goodIn_app (goodIn_of _ (by decide +kernel)) ggX2_cellsAfter_X2_isAny
set_option maxRecDepth 20000 in
theorem ggX2_cellsAfter_X2_keep : GoodIn wsX2_cellsAfter wsX2_keep := goodIn_r _ [16, 17, 18, 19, 20, 21, 22, 57, 58, 59, 60, 61, 62, 63, 64, 65, 66, 67, 68, 69, 70] (by decide +kernel) (by decide +kernel)
set_option maxRecDepth 20000 in
theorem gX2_cellsAfter_X2_keep : GoodIn wsX2_cellsAfter (wsV RX2 133 RX2 yX2_keep wsX2_keep) := goodIn_app (goodIn_of _ (by decide +kernel)) ggX2_cellsAfter_X2_keep
set_option maxRecDepth 20000 in
theorem ggX2_cellsAfter_X2_after : GoodIn wsX2_cellsAfter wsX2_after := goodIn_r _ [26, 27, 28, 29, 4, 30, 31, 17, 19, 20, 21, 22, 32, 33, 34, 35, 36, 37, 38, 39, 40, 41, 42, 43, 44, 45, 46, 47, 48, 49, 50, 51, 52, 53, 54, 55, 56, 18, 57, 58, 59, 60, 61, 62, 63, 64, 65, 66, 67, 68, 69, 70] (by decide +kernel) (by decide +kernel)
set_option maxRecDepth 20000 in
theorem gX2_cellsAfter_X2_after : GoodIn wsX2_cellsAfter (wsV RX2 139 RX2 yX2_after wsX2_after) := goodIn_app (goodIn_of _ (by decide +kernel)) ggX2_cellsAfter_X2_after
theorem dX2_cellsAfter_0 : decode cX2_cellsAfter 0 = .ok (.aload_n 0, 1) := by decide +kernel
theorem dX2_cellsAfter_1 : decode cX2_cellsAfter 1 = .ok (.iconst 0, 1) := by decide +kernel
theorem dX2_cellsAfter_2 : decode cX2_cellsAfter 2 = .ok (.putfield 43, 3) := by decide +kernel
theorem dX2_cellsAfter_5 : decode cX2_cellsAfter 5 = .ok (.iload_n 1, 1) := by decide +kernel
theorem dX2_cellsAfter_6 : decode cX2_cellsAfter 6 = .ok (.iconst 1, 1) := by decide +kernel
theorem dX2_cellsAfter_7 : decode cX2_cellsAfter 7 = .ok (.bipush 40, 2) := by decide +kernel
theorem dX2_cellsAfter_9 : decode cX2_cellsAfter 9 = .ok (.invokestatic 52, 3) := by decide +kernel
theorem dX2_cellsAfter_12 : decode cX2_cellsAfter 12 = .ok (.ifCond .ne 9, 3) := by decide +kernel
theorem dX2_cellsAfter_15 : decode cX2_cellsAfter 15 = .ok (.aload_n 0, 1) := by decide +kernel
theorem dX2_cellsAfter_16 : decode cX2_cellsAfter 16 = .ok (.iconst 1, 1) := by decide +kernel
theorem dX2_cellsAfter_17 : decode cX2_cellsAfter 17 = .ok (.invokevirtual 76, 3) := by decide +kernel
theorem dX2_cellsAfter_20 : decode cX2_cellsAfter 20 = .ok (.ireturn, 1) := by decide +kernel
theorem dX2_cellsAfter_21 : decode cX2_cellsAfter 21 = .ok (.iload_n 2, 1) := by decide +kernel
theorem dX2_cellsAfter_22 : decode cX2_cellsAfter 22 = .ok (.invokestatic 83, 3) := by decide +kernel
theorem dX2_cellsAfter_25 : decode cX2_cellsAfter 25 = .ok (.ifCond .ne 9, 3) := by decide +kernel
theorem dX2_cellsAfter_28 : decode cX2_cellsAfter 28 = .ok (.aload_n 0, 1) := by decide +kernel
theorem dX2_cellsAfter_29 : decode cX2_cellsAfter 29 = .ok (.iconst 2, 1) := by decide +kernel
theorem dX2_cellsAfter_30 : decode cX2_cellsAfter 30 = .ok (.invokevirtual 76, 3) := by decide +kernel
theorem dX2_cellsAfter_33 : decode cX2_cellsAfter 33 = .ok (.ireturn, 1) := by decide +kernel
theorem dX2_cellsAfter_34 : decode cX2_cellsAfter 34 = .ok (.aload_n 0, 1) := by decide +kernel
theorem dX2_cellsAfter_35 : decode cX2_cellsAfter 35 = .ok (.invokevirtual 133, 3) := by decide +kernel
theorem dX2_cellsAfter_38 : decode cX2_cellsAfter 38 = .ok (.aload_n 0, 1) := by decide +kernel
theorem dX2_cellsAfter_39 : decode cX2_cellsAfter 39 = .ok (.iload_n 1, 1) := by decide +kernel
theorem dX2_cellsAfter_40 : decode cX2_cellsAfter 40 = .ok (.iload_n 2, 1) := by decide +kernel
theorem dX2_cellsAfter_41 : decode cX2_cellsAfter 41 = .ok (.invokevirtual 139, 3) := by decide +kernel
theorem dX2_cellsAfter_44 : decode cX2_cellsAfter 44 = .ok (.ireturn, 1) := by decide +kernel
set_option maxRecDepth 20000 in
theorem ggX2_winsNow_X2_all : GoodIn wsX2_winsNow wsX2_all := goodIn_r _ [5, 6, 7, 8, 9, 4, 10, 11, 12, 13, 14, 15, 16, 37, 38, 39, 40, 41, 42, 43, 44, 45, 46, 47, 48, 49, 50] (by decide +kernel) (by decide +kernel)
set_option maxRecDepth 20000 in
theorem gX2_winsNow_X2_all : GoodIn wsX2_winsNow (wsV RX2 130 RX2 yX2_all wsX2_all) := goodIn_app (goodIn_of _ (by decide +kernel)) ggX2_winsNow_X2_all
set_option maxRecDepth 20000 in
theorem ggX2_winsNow_X2_wave : GoodIn wsX2_winsNow wsX2_wave := goodIn_r _ [20, 21, 6, 22, 23, 24, 25, 11, 12, 13, 4, 14, 15, 16, 26, 27, 28, 29, 30, 31, 32, 33, 34, 35, 36, 37, 38, 39, 40, 41, 42, 43, 44, 45, 46, 47, 48, 49, 50] (by decide +kernel) (by decide +kernel)
set_option maxRecDepth 20000 in
theorem gX2_winsNow_X2_wave : GoodIn wsX2_winsNow (wsV RX2 87 RX2 yX2_wave wsX2_wave) := goodIn_app (goodIn_of _ (by decide +kernel)) ggX2_winsNow_X2_wave
theorem dX2_winsNow_0 : decode cX2_winsNow 0 = .ok (.iconst 0, 1) := by decide +kernel
theorem dX2_winsNow_1 : decode cX2_winsNow 1 = .ok (.istore_n 2, 1) := by decide +kernel
theorem dX2_winsNow_2 : decode cX2_winsNow 2 = .ok (.iload_n 2, 1) := by decide +kernel
theorem dX2_winsNow_3 : decode cX2_winsNow 3 = .ok (.bipush 8, 2) := by decide +kernel
theorem dX2_winsNow_5 : decode cX2_winsNow 5 = .ok (.if_icmp .ge 28, 3) := by decide +kernel
theorem dX2_winsNow_8 : decode cX2_winsNow 8 = .ok (.aload_n 0, 1) := by decide +kernel
theorem dX2_winsNow_9 : decode cX2_winsNow 9 = .ok (.invokevirtual 130, 3) := by decide +kernel
theorem dX2_winsNow_12 : decode cX2_winsNow 12 = .ok (.iload_n 1, 1) := by decide +kernel
theorem dX2_winsNow_13 : decode cX2_winsNow 13 = .ok (.if_icmp .ne 5, 3) := by decide +kernel
theorem dX2_winsNow_16 : decode cX2_winsNow 16 = .ok (.iconst 1, 1) := by decide +kernel
theorem dX2_winsNow_17 : decode cX2_winsNow 17 = .ok (.ireturn, 1) := by decide +kernel
theorem dX2_winsNow_18 : decode cX2_winsNow 18 = .ok (.aload_n 0, 1) := by decide +kernel
theorem dX2_winsNow_19 : decode cX2_winsNow 19 = .ok (.invokevirtual 87, 3) := by decide +kernel
theorem dX2_winsNow_22 : decode cX2_winsNow 22 = .ok (.ifCond .ne 5, 3) := by decide +kernel
theorem dX2_winsNow_25 : decode cX2_winsNow 25 = .ok (.iconst 0, 1) := by decide +kernel
theorem dX2_winsNow_26 : decode cX2_winsNow 26 = .ok (.ireturn, 1) := by decide +kernel
theorem dX2_winsNow_27 : decode cX2_winsNow 27 = .ok (.iinc 2 1, 3) := by decide +kernel
theorem dX2_winsNow_30 : decode cX2_winsNow 30 = .ok (.goto (-28), 3) := by decide +kernel
theorem dX2_winsNow_33 : decode cX2_winsNow 33 = .ok (.aload_n 0, 1) := by decide +kernel
theorem dX2_winsNow_34 : decode cX2_winsNow 34 = .ok (.invokevirtual 130, 3) := by decide +kernel
theorem dX2_winsNow_37 : decode cX2_winsNow 37 = .ok (.iload_n 1, 1) := by decide +kernel
theorem dX2_winsNow_38 : decode cX2_winsNow 38 = .ok (.if_icmp .ne 7, 3) := by decide +kernel
theorem dX2_winsNow_41 : decode cX2_winsNow 41 = .ok (.iconst 1, 1) := by decide +kernel
theorem dX2_winsNow_42 : decode cX2_winsNow 42 = .ok (.goto 4, 3) := by decide +kernel
theorem dX2_winsNow_45 : decode cX2_winsNow 45 = .ok (.iconst 0, 1) := by decide +kernel
theorem dX2_winsNow_46 : decode cX2_winsNow 46 = .ok (.ireturn, 1) := by decide +kernel
set_option maxRecDepth 20000 in
theorem ggX2_winsWith_X2_winsNow : GoodIn wsX2_winsWith wsX2_winsNow := goodIn_r _ [6, 7, 8, 9, 5, 10, 1, 11, 12, 13, 14, 15, 16, 17, 18, 19, 20, 21, 22, 23, 24, 25, 26, 27, 28, 29, 30, 31, 32, 33, 34, 35, 36, 37, 38, 39, 40, 46, 47, 48, 49, 50, 51, 52, 53, 54, 55, 56, 57, 58, 59] (by decide +kernel) (by decide +kernel)
set_option maxRecDepth 20000 in
theorem gX2_winsWith_X2_winsNow : GoodIn wsX2_winsWith (wsV RX2 142 RX2 yX2_winsNow wsX2_winsNow) := goodIn_app (goodIn_of _ (by decide +kernel)) ggX2_winsWith_X2_winsNow
set_option maxRecDepth 20000 in
theorem ggX2_winsWith_X2_bringBack : GoodIn wsX2_winsWith wsX2_bringBack := goodIn_r _ [44, 45, 1, 26, 27, 28, 29, 46, 47, 48, 49, 50, 51, 52, 53, 54, 55, 56, 57, 58, 59] (by decide +kernel) (by decide +kernel)
set_option maxRecDepth 20000 in
theorem gX2_winsWith_X2_bringBack : GoodIn wsX2_winsWith (wsV RX2 136 RX2 yX2_bringBack wsX2_bringBack) := goodIn_app (goodIn_of _ (by decide +kernel)) ggX2_winsWith_X2_bringBack
theorem dX2_winsWith_0 : decode cX2_winsWith 0 = .ok (.iload_n 2, 1) := by decide +kernel
theorem dX2_winsWith_1 : decode cX2_winsWith 1 = .ok (.iconst (-1), 1) := by decide +kernel
theorem dX2_winsWith_2 : decode cX2_winsWith 2 = .ok (.if_icmp .eq 10, 3) := by decide +kernel
theorem dX2_winsWith_5 : decode cX2_winsWith 5 = .ok (.aload_n 0, 1) := by decide +kernel
theorem dX2_winsWith_6 : decode cX2_winsWith 6 = .ok (.getfield 13, 3) := by decide +kernel
theorem dX2_winsWith_9 : decode cX2_winsWith 9 = .ok (.iload_n 2, 1) := by decide +kernel
theorem dX2_winsWith_10 : decode cX2_winsWith 10 = .ok (.iload_n 1, 1) := by decide +kernel
theorem dX2_winsWith_11 : decode cX2_winsWith 11 = .ok (.iastore, 1) := by decide +kernel
theorem dX2_winsWith_12 : decode cX2_winsWith 12 = .ok (.iload_n 3, 1) := by decide +kernel
theorem dX2_winsWith_13 : decode cX2_winsWith 13 = .ok (.iconst (-1), 1) := by decide +kernel
theorem dX2_winsWith_14 : decode cX2_winsWith 14 = .ok (.if_icmp .eq 10, 3) := by decide +kernel
theorem dX2_winsWith_17 : decode cX2_winsWith 17 = .ok (.aload_n 0, 1) := by decide +kernel
theorem dX2_winsWith_18 : decode cX2_winsWith 18 = .ok (.getfield 13, 3) := by decide +kernel
theorem dX2_winsWith_21 : decode cX2_winsWith 21 = .ok (.iload_n 3, 1) := by decide +kernel
theorem dX2_winsWith_22 : decode cX2_winsWith 22 = .ok (.iload_n 1, 1) := by decide +kernel
theorem dX2_winsWith_23 : decode cX2_winsWith 23 = .ok (.iastore, 1) := by decide +kernel
theorem dX2_winsWith_24 : decode cX2_winsWith 24 = .ok (.aload_n 0, 1) := by decide +kernel
theorem dX2_winsWith_25 : decode cX2_winsWith 25 = .ok (.iload_n 1, 1) := by decide +kernel
theorem dX2_winsWith_26 : decode cX2_winsWith 26 = .ok (.invokevirtual 142, 3) := by decide +kernel
theorem dX2_winsWith_29 : decode cX2_winsWith 29 = .ok (.istore 4, 2) := by decide +kernel
theorem dX2_winsWith_31 : decode cX2_winsWith 31 = .ok (.aload_n 0, 1) := by decide +kernel
theorem dX2_winsWith_32 : decode cX2_winsWith 32 = .ok (.invokevirtual 136, 3) := by decide +kernel
theorem dX2_winsWith_35 : decode cX2_winsWith 35 = .ok (.iload 4, 2) := by decide +kernel
theorem dX2_winsWith_37 : decode cX2_winsWith 37 = .ok (.ireturn, 1) := by decide +kernel
set_option maxRecDepth 20000 in
theorem ggX2_wins_X2_isColour : GoodIn wsX2_wins wsX2_isColour := goodIn_r _ [5, 6, 7, 4, 8] (by decide +kernel) (by decide +kernel)
set_option maxRecDepth 20000 in
theorem gX2_wins_X2_isColour : GoodIn wsX2_wins (va_wsS RX2 114 yX2_isColour wsX2_isColour) := goodIn_app (goodIn_of _ (by decide +kernel)) ggX2_wins_X2_isColour
set_option maxRecDepth 20000 in
theorem ggX2_wins_X2_keep : GoodIn wsX2_wins wsX2_keep := goodIn_r _ [12, 13, 14, 15, 16, 17, 18, 61, 62, 63, 64, 65, 66, 67, 68, 69, 70, 71, 72, 73, 74] (by decide +kernel) (by decide +kernel)
set_option maxRecDepth 20000 in
theorem gX2_wins_X2_keep : GoodIn wsX2_wins (wsV RX2 133 RX2 yX2_keep wsX2_keep) := goodIn_app (goodIn_of _ (by decide +kernel)) ggX2_wins_X2_keep
set_option maxRecDepth 20000 in
theorem ggX2_wins_X2_winsWith : GoodIn wsX2_wins wsX2_winsWith := goodIn_r _ [22, 13, 23, 24, 25, 4, 26, 27, 28, 29, 30, 31, 32, 33, 34, 35, 36, 37, 38, 39, 40, 41, 42, 43, 44, 45, 15, 16, 17, 18, 46, 47, 48, 49, 50, 51, 52, 53, 54, 55, 56, 57, 58, 59, 60, 14, 61, 62, 63, 64, 65, 66, 67, 68, 69, 70, 71, 72, 73, 74] (by decide +kernel) (by decide +kernel)
set_option maxRecDepth 20000 in
theorem gX2_wins_X2_winsWith : GoodIn wsX2_wins (wsV RX2 145 RX2 yX2_winsWith wsX2_winsWith) := goodIn_app (goodIn_of _ (by decide +kernel)) ggX2_wins_X2_winsWith
theorem dX2_wins_0 : decode cX2_wins 0 = .ok (.aload_n 0, 1) := by decide +kernel
theorem dX2_wins_1 : decode cX2_wins 1 = .ok (.iload_n 1, 1) := by decide +kernel
theorem dX2_wins_2 : decode cX2_wins 2 = .ok (.invokestatic 114, 3) := by decide +kernel
theorem dX2_wins_5 : decode cX2_wins 5 = .ok (.ifCond .eq 7, 3) := by decide +kernel
theorem dX2_wins_8 : decode cX2_wins 8 = .ok (.iconst 0, 1) := by decide +kernel
theorem dX2_wins_9 : decode cX2_wins 9 = .ok (.goto 4, 3) := by decide +kernel
theorem dX2_wins_12 : decode cX2_wins 12 = .ok (.iconst 1, 1) := by decide +kernel
theorem dX2_wins_13 : decode cX2_wins 13 = .ok (.putfield 43, 3) := by decide +kernel
theorem dX2_wins_16 : decode cX2_wins 16 = .ok (.aload_n 0, 1) := by decide +kernel
theorem dX2_wins_17 : decode cX2_wins 17 = .ok (.getfield 43, 3) := by decide +kernel
theorem dX2_wins_20 : decode cX2_wins 20 = .ok (.ifCond .eq 5, 3) := by decide +kernel
theorem dX2_wins_23 : decode cX2_wins 23 = .ok (.iconst 0, 1) := by decide +kernel
theorem dX2_wins_24 : decode cX2_wins 24 = .ok (.ireturn, 1) := by decide +kernel
theorem dX2_wins_25 : decode cX2_wins 25 = .ok (.aload_n 0, 1) := by decide +kernel
theorem dX2_wins_26 : decode cX2_wins 26 = .ok (.invokevirtual 133, 3) := by decide +kernel
theorem dX2_wins_29 : decode cX2_wins 29 = .ok (.aload_n 0, 1) := by decide +kernel
theorem dX2_wins_30 : decode cX2_wins 30 = .ok (.iload_n 1, 1) := by decide +kernel
theorem dX2_wins_31 : decode cX2_wins 31 = .ok (.iconst (-1), 1) := by decide +kernel
theorem dX2_wins_32 : decode cX2_wins 32 = .ok (.iconst (-1), 1) := by decide +kernel
theorem dX2_wins_33 : decode cX2_wins 33 = .ok (.invokevirtual 145, 3) := by decide +kernel
theorem dX2_wins_36 : decode cX2_wins 36 = .ok (.ireturn, 1) := by decide +kernel
set_option maxRecDepth 20000 in
theorem ggX2_fewestSeeds_X2_isColour : GoodIn wsX2_fewestSeeds wsX2_isColour := goodIn_r _ [5, 6, 7, 4, 8] (by decide +kernel) (by decide +kernel)
set_option maxRecDepth 20000 in
theorem gX2_fewestSeeds_X2_isColour : GoodIn wsX2_fewestSeeds (va_wsS RX2 114 yX2_isColour wsX2_isColour) := goodIn_app (goodIn_of _ (by decide +kernel)) ggX2_fewestSeeds_X2_isColour
set_option maxRecDepth 20000 in
theorem ggX2_fewestSeeds_X2_fail : GoodIn wsX2_fewestSeeds wsX2_fail := goodIn_r _ [12, 1, 65, 66, 67, 68, 69, 70, 71, 72, 73, 74, 75, 76, 77, 78] (by decide +kernel) (by decide +kernel)
set_option maxRecDepth 20000 in
theorem gX2_fewestSeeds_X2_fail : GoodIn wsX2_fewestSeeds (wsV RX2 76 RX2 yX2_fail wsX2_fail) := goodIn_app (goodIn_of _ (by decide +kernel)) ggX2_fewestSeeds_X2_fail
set_option maxRecDepth 20000 in
theorem ggX2_fewestSeeds_X2_keep : GoodIn wsX2_fewestSeeds wsX2_keep := goodIn_r _ [16, 17, 18, 19, 20, 21, 22, 65, 66, 67, 68, 69, 70, 71, 72, 73, 74, 75, 76, 77, 78] (by decide +kernel) (by decide +kernel)
set_option maxRecDepth 20000 in
theorem gX2_fewestSeeds_X2_keep : GoodIn wsX2_fewestSeeds (wsV RX2 133 RX2 yX2_keep wsX2_keep) := goodIn_app (goodIn_of _ (by decide +kernel)) ggX2_fewestSeeds_X2_keep
set_option maxRecDepth 20000 in
theorem ggX2_fewestSeeds_X2_winsWith : GoodIn wsX2_fewestSeeds wsX2_winsWith := goodIn_r _ [26, 17, 27, 28, 29, 4, 30, 31, 32, 33, 34, 35, 36, 37, 38, 39, 40, 41, 42, 43, 44, 45, 46, 47, 48, 49, 19, 20, 21, 22, 50, 51, 52, 53, 54, 55, 56, 57, 58, 59, 60, 61, 62, 63, 64, 18, 65, 66, 67, 68, 69, 70, 71, 72, 73, 74, 75, 76, 77, 78] (by decide +kernel) (by decide +kernel)
set_option maxRecDepth 20000 in
theorem gX2_fewestSeeds_X2_winsWith : GoodIn wsX2_fewestSeeds (wsV RX2 145 RX2 yX2_winsWith wsX2_winsWith) := goodIn_app (goodIn_of _ (by decide +kernel)) ggX2_fewestSeeds_X2_winsWith
set_option maxRecDepth 20000 in
theorem ggX2_fewestSeeds_X2_cells : GoodIn wsX2_fewestSeeds wsX2_cells := goodIn_r _ [42, 43, 44, 65, 66, 67, 68, 69, 70, 71, 72, 73, 74, 75, 76, 77, 78] (by decide +kernel) (by decide +kernel)
set_option maxRecDepth 20000 in
theorem gX2_fewestSeeds_X2_cells : GoodIn wsX2_fewestSeeds (wsV RX2 68 RX2 yX2_cells wsX2_cells) := goodIn_app (goodIn_of _ (by decide +kernel)) ggX2_fewestSeeds_X2_cells
theorem dX2_fewestSeeds_0 : decode cX2_fewestSeeds 0 = .ok (.aload_n 0, 1) := by decide +kernel
theorem dX2_fewestSeeds_1 : decode cX2_fewestSeeds 1 = .ok (.iconst 0, 1) := by decide +kernel
theorem dX2_fewestSeeds_2 : decode cX2_fewestSeeds 2 = .ok (.putfield 43, 3) := by decide +kernel
theorem dX2_fewestSeeds_5 : decode cX2_fewestSeeds 5 = .ok (.iload_n 1, 1) := by decide +kernel
theorem dX2_fewestSeeds_6 : decode cX2_fewestSeeds 6 = .ok (.invokestatic 114, 3) := by decide +kernel
theorem dX2_fewestSeeds_9 : decode cX2_fewestSeeds 9 = .ok (.ifCond .ne 9, 3) := by decide +kernel
theorem dX2_fewestSeeds_12 : decode cX2_fewestSeeds 12 = .ok (.aload_n 0, 1) := by decide +kernel
theorem dX2_fewestSeeds_13 : decode cX2_fewestSeeds 13 = .ok (.iconst 1, 1) := by decide +kernel
theorem dX2_fewestSeeds_14 : decode cX2_fewestSeeds 14 = .ok (.invokevirtual 76, 3) := by decide +kernel
theorem dX2_fewestSeeds_17 : decode cX2_fewestSeeds 17 = .ok (.ireturn, 1) := by decide +kernel
theorem dX2_fewestSeeds_18 : decode cX2_fewestSeeds 18 = .ok (.aload_n 0, 1) := by decide +kernel
theorem dX2_fewestSeeds_19 : decode cX2_fewestSeeds 19 = .ok (.invokevirtual 133, 3) := by decide +kernel
theorem dX2_fewestSeeds_22 : decode cX2_fewestSeeds 22 = .ok (.aload_n 0, 1) := by decide +kernel
theorem dX2_fewestSeeds_23 : decode cX2_fewestSeeds 23 = .ok (.iload_n 1, 1) := by decide +kernel
theorem dX2_fewestSeeds_24 : decode cX2_fewestSeeds 24 = .ok (.iconst (-1), 1) := by decide +kernel
theorem dX2_fewestSeeds_25 : decode cX2_fewestSeeds 25 = .ok (.iconst (-1), 1) := by decide +kernel
theorem dX2_fewestSeeds_26 : decode cX2_fewestSeeds 26 = .ok (.invokevirtual 145, 3) := by decide +kernel
theorem dX2_fewestSeeds_29 : decode cX2_fewestSeeds 29 = .ok (.ifCond .eq 5, 3) := by decide +kernel
theorem dX2_fewestSeeds_32 : decode cX2_fewestSeeds 32 = .ok (.iconst 0, 1) := by decide +kernel
theorem dX2_fewestSeeds_33 : decode cX2_fewestSeeds 33 = .ok (.ireturn, 1) := by decide +kernel
theorem dX2_fewestSeeds_34 : decode cX2_fewestSeeds 34 = .ok (.iconst 0, 1) := by decide +kernel
theorem dX2_fewestSeeds_35 : decode cX2_fewestSeeds 35 = .ok (.istore_n 2, 1) := by decide +kernel
theorem dX2_fewestSeeds_36 : decode cX2_fewestSeeds 36 = .ok (.iload_n 2, 1) := by decide +kernel
theorem dX2_fewestSeeds_37 : decode cX2_fewestSeeds 37 = .ok (.aload_n 0, 1) := by decide +kernel
theorem dX2_fewestSeeds_38 : decode cX2_fewestSeeds 38 = .ok (.invokevirtual 68, 3) := by decide +kernel
theorem dX2_fewestSeeds_41 : decode cX2_fewestSeeds 41 = .ok (.if_icmp .ge 21, 3) := by decide +kernel
theorem dX2_fewestSeeds_44 : decode cX2_fewestSeeds 44 = .ok (.aload_n 0, 1) := by decide +kernel
theorem dX2_fewestSeeds_45 : decode cX2_fewestSeeds 45 = .ok (.iload_n 1, 1) := by decide +kernel
theorem dX2_fewestSeeds_46 : decode cX2_fewestSeeds 46 = .ok (.iload_n 2, 1) := by decide +kernel
theorem dX2_fewestSeeds_47 : decode cX2_fewestSeeds 47 = .ok (.iconst (-1), 1) := by decide +kernel
theorem dX2_fewestSeeds_48 : decode cX2_fewestSeeds 48 = .ok (.invokevirtual 145, 3) := by decide +kernel
theorem dX2_fewestSeeds_51 : decode cX2_fewestSeeds 51 = .ok (.ifCond .eq 5, 3) := by decide +kernel
theorem dX2_fewestSeeds_54 : decode cX2_fewestSeeds 54 = .ok (.iconst 1, 1) := by decide +kernel
theorem dX2_fewestSeeds_55 : decode cX2_fewestSeeds 55 = .ok (.ireturn, 1) := by decide +kernel
theorem dX2_fewestSeeds_56 : decode cX2_fewestSeeds 56 = .ok (.iinc 2 1, 3) := by decide +kernel
theorem dX2_fewestSeeds_59 : decode cX2_fewestSeeds 59 = .ok (.goto (-23), 3) := by decide +kernel
theorem dX2_fewestSeeds_62 : decode cX2_fewestSeeds 62 = .ok (.iconst 0, 1) := by decide +kernel
theorem dX2_fewestSeeds_63 : decode cX2_fewestSeeds 63 = .ok (.istore_n 2, 1) := by decide +kernel
theorem dX2_fewestSeeds_64 : decode cX2_fewestSeeds 64 = .ok (.iload_n 2, 1) := by decide +kernel
theorem dX2_fewestSeeds_65 : decode cX2_fewestSeeds 65 = .ok (.aload_n 0, 1) := by decide +kernel
theorem dX2_fewestSeeds_66 : decode cX2_fewestSeeds 66 = .ok (.invokevirtual 68, 3) := by decide +kernel
theorem dX2_fewestSeeds_69 : decode cX2_fewestSeeds 69 = .ok (.if_icmp .ge 34, 3) := by decide +kernel
theorem dX2_fewestSeeds_72 : decode cX2_fewestSeeds 72 = .ok (.iconst 0, 1) := by decide +kernel
theorem dX2_fewestSeeds_73 : decode cX2_fewestSeeds 73 = .ok (.istore_n 3, 1) := by decide +kernel
theorem dX2_fewestSeeds_74 : decode cX2_fewestSeeds 74 = .ok (.iload_n 3, 1) := by decide +kernel
theorem dX2_fewestSeeds_75 : decode cX2_fewestSeeds 75 = .ok (.iload_n 2, 1) := by decide +kernel
theorem dX2_fewestSeeds_76 : decode cX2_fewestSeeds 76 = .ok (.if_icmp .ge 21, 3) := by decide +kernel
theorem dX2_fewestSeeds_79 : decode cX2_fewestSeeds 79 = .ok (.aload_n 0, 1) := by decide +kernel
theorem dX2_fewestSeeds_80 : decode cX2_fewestSeeds 80 = .ok (.iload_n 1, 1) := by decide +kernel
theorem dX2_fewestSeeds_81 : decode cX2_fewestSeeds 81 = .ok (.iload_n 2, 1) := by decide +kernel
theorem dX2_fewestSeeds_82 : decode cX2_fewestSeeds 82 = .ok (.iload_n 3, 1) := by decide +kernel
theorem dX2_fewestSeeds_83 : decode cX2_fewestSeeds 83 = .ok (.invokevirtual 145, 3) := by decide +kernel
theorem dX2_fewestSeeds_86 : decode cX2_fewestSeeds 86 = .ok (.ifCond .eq 5, 3) := by decide +kernel
theorem dX2_fewestSeeds_89 : decode cX2_fewestSeeds 89 = .ok (.iconst 2, 1) := by decide +kernel
theorem dX2_fewestSeeds_90 : decode cX2_fewestSeeds 90 = .ok (.ireturn, 1) := by decide +kernel
theorem dX2_fewestSeeds_91 : decode cX2_fewestSeeds 91 = .ok (.iinc 3 1, 3) := by decide +kernel
theorem dX2_fewestSeeds_94 : decode cX2_fewestSeeds 94 = .ok (.goto (-20), 3) := by decide +kernel
theorem dX2_fewestSeeds_97 : decode cX2_fewestSeeds 97 = .ok (.iinc 2 1, 3) := by decide +kernel
theorem dX2_fewestSeeds_100 : decode cX2_fewestSeeds 100 = .ok (.goto (-36), 3) := by decide +kernel
theorem dX2_fewestSeeds_103 : decode cX2_fewestSeeds 103 = .ok (.iconst (-1), 1) := by decide +kernel
theorem dX2_fewestSeeds_104 : decode cX2_fewestSeeds 104 = .ok (.ireturn, 1) := by decide +kernel
set_option maxRecDepth 20000 in
theorem ggX2_bestCell_X2_isColour : GoodIn wsX2_bestCell wsX2_isColour := goodIn_r _ [6, 7, 8, 5, 9] (by decide +kernel) (by decide +kernel)
set_option maxRecDepth 20000 in
theorem gX2_bestCell_X2_isColour : GoodIn wsX2_bestCell (va_wsS RX2 114 yX2_isColour wsX2_isColour) := goodIn_app (goodIn_of _ (by decide +kernel)) ggX2_bestCell_X2_isColour
set_option maxRecDepth 20000 in
theorem ggX2_bestCell_X2_fail : GoodIn wsX2_bestCell wsX2_fail := goodIn_r _ [13, 1, 57, 58, 59, 60, 61, 62, 63, 64, 65, 66, 67, 68, 69, 70] (by decide +kernel) (by decide +kernel)
set_option maxRecDepth 20000 in
theorem gX2_bestCell_X2_fail : GoodIn wsX2_bestCell (wsV RX2 76 RX2 yX2_fail wsX2_fail) := goodIn_app (goodIn_of _ (by decide +kernel)) ggX2_bestCell_X2_fail
set_option maxRecDepth 20000 in
theorem ggX2_bestCell_X2_isIn : GoodIn wsX2_bestCell wsX2_isIn := goodIn_r _ [9] (by decide +kernel) (by decide +kernel)
set_option maxRecDepth 20000 in
theorem gX2_bestCell_X2_isIn : GoodIn wsX2_bestCell (va_wsS RX2 52 yX2_isIn wsX2_isIn) := goodIn_app (goodIn_of _ (by decide +kernel)) ggX2_bestCell_X2_isIn
set_option maxRecDepth 20000 in
theorem ggX2_bestCell_X2_keep : GoodIn wsX2_bestCell wsX2_keep := goodIn_r _ [17, 2, 18, 19, 20, 21, 22, 57, 58, 59, 60, 61, 62, 63, 64, 65, 66, 67, 68, 69, 70] (by decide +kernel) (by decide +kernel)
set_option maxRecDepth 20000 in
theorem gX2_bestCell_X2_keep : GoodIn wsX2_bestCell (wsV RX2 133 RX2 yX2_keep wsX2_keep) := goodIn_app (goodIn_of _ (by decide +kernel)) ggX2_bestCell_X2_keep
set_option maxRecDepth 20000 in
theorem ggX2_bestCell_X2_cells : GoodIn wsX2_bestCell wsX2_cells := goodIn_r _ [26, 27, 28, 57, 58, 59, 60, 61, 62, 63, 64, 65, 66, 67, 68, 69, 70] (by decide +kernel) (by decide +kernel)
set_option maxRecDepth 20000 in
theorem gX2_bestCell_X2_cells : GoodIn wsX2_bestCell (wsV RX2 68 RX2 yX2_cells wsX2_cells) := goodIn_app (goodIn_of _ (by decide +kernel)) ggX2_bestCell_X2_cells
set_option maxRecDepth 20000 in
theorem ggX2_bestCell_X2_after : GoodIn wsX2_bestCell wsX2_after := goodIn_r _ [32, 33, 34, 35, 5, 36, 37, 2, 19, 20, 21, 22, 23, 24, 25, 26, 27, 28, 38, 39, 40, 41, 42, 43, 44, 45, 46, 47, 48, 49, 50, 51, 52, 53, 54, 55, 56, 18, 57, 58, 59, 60, 61, 62, 63, 64, 65, 66, 67, 68, 69, 70] (by decide +kernel) (by decide +kernel)
set_option maxRecDepth 20000 in
theorem gX2_bestCell_X2_after : GoodIn wsX2_bestCell (wsV RX2 139 RX2 yX2_after wsX2_after) := goodIn_app (goodIn_of _ (by decide +kernel)) ggX2_bestCell_X2_after
theorem dX2_bestCell_0 : decode cX2_bestCell 0 = .ok (.aload_n 0, 1) := by decide +kernel
theorem dX2_bestCell_1 : decode cX2_bestCell 1 = .ok (.iconst 0, 1) := by decide +kernel
theorem dX2_bestCell_2 : decode cX2_bestCell 2 = .ok (.putfield 43, 3) := by decide +kernel
theorem dX2_bestCell_5 : decode cX2_bestCell 5 = .ok (.iload_n 1, 1) := by decide +kernel
theorem dX2_bestCell_6 : decode cX2_bestCell 6 = .ok (.invokestatic 114, 3) := by decide +kernel
theorem dX2_bestCell_9 : decode cX2_bestCell 9 = .ok (.ifCond .ne 9, 3) := by decide +kernel
theorem dX2_bestCell_12 : decode cX2_bestCell 12 = .ok (.aload_n 0, 1) := by decide +kernel
theorem dX2_bestCell_13 : decode cX2_bestCell 13 = .ok (.iconst 1, 1) := by decide +kernel
theorem dX2_bestCell_14 : decode cX2_bestCell 14 = .ok (.invokevirtual 76, 3) := by decide +kernel
theorem dX2_bestCell_17 : decode cX2_bestCell 17 = .ok (.ireturn, 1) := by decide +kernel
theorem dX2_bestCell_18 : decode cX2_bestCell 18 = .ok (.iload_n 2, 1) := by decide +kernel
theorem dX2_bestCell_19 : decode cX2_bestCell 19 = .ok (.iconst 1, 1) := by decide +kernel
theorem dX2_bestCell_20 : decode cX2_bestCell 20 = .ok (.bipush 24, 2) := by decide +kernel
theorem dX2_bestCell_22 : decode cX2_bestCell 22 = .ok (.invokestatic 52, 3) := by decide +kernel
theorem dX2_bestCell_25 : decode cX2_bestCell 25 = .ok (.ifCond .ne 9, 3) := by decide +kernel
theorem dX2_bestCell_28 : decode cX2_bestCell 28 = .ok (.aload_n 0, 1) := by decide +kernel
theorem dX2_bestCell_29 : decode cX2_bestCell 29 = .ok (.iconst 2, 1) := by decide +kernel
theorem dX2_bestCell_30 : decode cX2_bestCell 30 = .ok (.invokevirtual 76, 3) := by decide +kernel
theorem dX2_bestCell_33 : decode cX2_bestCell 33 = .ok (.ireturn, 1) := by decide +kernel
theorem dX2_bestCell_34 : decode cX2_bestCell 34 = .ok (.aload_n 0, 1) := by decide +kernel
theorem dX2_bestCell_35 : decode cX2_bestCell 35 = .ok (.invokevirtual 133, 3) := by decide +kernel
theorem dX2_bestCell_38 : decode cX2_bestCell 38 = .ok (.iconst (-1), 1) := by decide +kernel
theorem dX2_bestCell_39 : decode cX2_bestCell 39 = .ok (.istore_n 3, 1) := by decide +kernel
theorem dX2_bestCell_40 : decode cX2_bestCell 40 = .ok (.iconst (-1), 1) := by decide +kernel
theorem dX2_bestCell_41 : decode cX2_bestCell 41 = .ok (.istore 4, 2) := by decide +kernel
theorem dX2_bestCell_43 : decode cX2_bestCell 43 = .ok (.iconst 0, 1) := by decide +kernel
theorem dX2_bestCell_44 : decode cX2_bestCell 44 = .ok (.istore 5, 2) := by decide +kernel
theorem dX2_bestCell_46 : decode cX2_bestCell 46 = .ok (.iload 5, 2) := by decide +kernel
theorem dX2_bestCell_48 : decode cX2_bestCell 48 = .ok (.aload_n 0, 1) := by decide +kernel
theorem dX2_bestCell_49 : decode cX2_bestCell 49 = .ok (.invokevirtual 68, 3) := by decide +kernel
theorem dX2_bestCell_52 : decode cX2_bestCell 52 = .ok (.if_icmp .ge 42, 3) := by decide +kernel
theorem dX2_bestCell_55 : decode cX2_bestCell 55 = .ok (.aload_n 0, 1) := by decide +kernel
theorem dX2_bestCell_56 : decode cX2_bestCell 56 = .ok (.getfield 13, 3) := by decide +kernel
theorem dX2_bestCell_59 : decode cX2_bestCell 59 = .ok (.iload 5, 2) := by decide +kernel
theorem dX2_bestCell_61 : decode cX2_bestCell 61 = .ok (.iload_n 1, 1) := by decide +kernel
theorem dX2_bestCell_62 : decode cX2_bestCell 62 = .ok (.iastore, 1) := by decide +kernel
theorem dX2_bestCell_63 : decode cX2_bestCell 63 = .ok (.aload_n 0, 1) := by decide +kernel
theorem dX2_bestCell_64 : decode cX2_bestCell 64 = .ok (.iload_n 2, 1) := by decide +kernel
theorem dX2_bestCell_65 : decode cX2_bestCell 65 = .ok (.iload_n 1, 1) := by decide +kernel
theorem dX2_bestCell_66 : decode cX2_bestCell 66 = .ok (.invokevirtual 139, 3) := by decide +kernel
theorem dX2_bestCell_69 : decode cX2_bestCell 69 = .ok (.istore 6, 2) := by decide +kernel
theorem dX2_bestCell_71 : decode cX2_bestCell 71 = .ok (.iload 6, 2) := by decide +kernel
theorem dX2_bestCell_73 : decode cX2_bestCell 73 = .ok (.iload 4, 2) := by decide +kernel
theorem dX2_bestCell_75 : decode cX2_bestCell 75 = .ok (.if_icmp .gt 6, 3) := by decide +kernel
theorem dX2_bestCell_78 : decode cX2_bestCell 78 = .ok (.goto 10, 3) := by decide +kernel
theorem dX2_bestCell_81 : decode cX2_bestCell 81 = .ok (.iload 5, 2) := by decide +kernel
theorem dX2_bestCell_83 : decode cX2_bestCell 83 = .ok (.istore_n 3, 1) := by decide +kernel
theorem dX2_bestCell_84 : decode cX2_bestCell 84 = .ok (.iload 6, 2) := by decide +kernel
theorem dX2_bestCell_86 : decode cX2_bestCell 86 = .ok (.istore 4, 2) := by decide +kernel
theorem dX2_bestCell_88 : decode cX2_bestCell 88 = .ok (.iinc 5 1, 3) := by decide +kernel
theorem dX2_bestCell_91 : decode cX2_bestCell 91 = .ok (.goto (-45), 3) := by decide +kernel
theorem dX2_bestCell_94 : decode cX2_bestCell 94 = .ok (.iload_n 3, 1) := by decide +kernel
theorem dX2_bestCell_95 : decode cX2_bestCell 95 = .ok (.ireturn, 1) := by decide +kernel
set_option maxRecDepth 20000 in
theorem ggX2_share_X2_isAny : GoodIn wsX2_share wsX2_isAny := goodIn_r _ [5, 6, 7, 4, 8] (by decide +kernel) (by decide +kernel)
set_option maxRecDepth 20000 in
theorem gX2_share_X2_isAny : GoodIn wsX2_share (va_wsS RX2 83 yX2_isAny wsX2_isAny) := goodIn_app (goodIn_of _ (by decide +kernel)) ggX2_share_X2_isAny
set_option maxRecDepth 20000 in
theorem ggX2_share_X2_cellsWith : GoodIn wsX2_share wsX2_cellsWith := goodIn_r _ [12, 13, 14, 15, 16, 4, 17, 18, 19, 20, 21, 22, 23, 24, 25, 26, 27, 28, 29, 30, 31, 32, 33] (by decide +kernel) (by decide +kernel)
set_option maxRecDepth 20000 in
theorem gX2_share_X2_cellsWith : GoodIn wsX2_share (wsV RX2 106 RX2 yX2_cellsWith wsX2_cellsWith) := goodIn_app (goodIn_of _ (by decide +kernel)) ggX2_share_X2_cellsWith
set_option maxRecDepth 20000 in
theorem ggX2_share_X2_cells : GoodIn wsX2_share wsX2_cells := goodIn_r _ [17, 18, 19, 20, 21, 22, 23, 24, 25, 26, 27, 28, 29, 30, 31, 32, 33] (by decide +kernel) (by decide +kernel)
set_option maxRecDepth 20000 in
theorem gX2_share_X2_cells : GoodIn wsX2_share (wsV RX2 68 RX2 yX2_cells wsX2_cells) := goodIn_app (goodIn_of _ (by decide +kernel)) ggX2_share_X2_cells
theorem dX2_share_0 : decode cX2_share 0 = .ok (.aload_n 0, 1) := by decide +kernel
theorem dX2_share_1 : decode cX2_share 1 = .ok (.iload_n 1, 1) := by decide +kernel
theorem dX2_share_2 : decode cX2_share 2 = .ok (.invokestatic 83, 3) := by decide +kernel
theorem dX2_share_5 : decode cX2_share 5 = .ok (.ifCond .eq 7, 3) := by decide +kernel
theorem dX2_share_8 : decode cX2_share 8 = .ok (.iconst 0, 1) := by decide +kernel
theorem dX2_share_9 : decode cX2_share 9 = .ok (.goto 4, 3) := by decide +kernel
theorem dX2_share_12 : decode cX2_share 12 = .ok (.iconst 1, 1) := by decide +kernel
theorem dX2_share_13 : decode cX2_share 13 = .ok (.putfield 43, 3) := by decide +kernel
theorem dX2_share_16 : decode cX2_share 16 = .ok (.aload_n 0, 1) := by decide +kernel
theorem dX2_share_17 : decode cX2_share 17 = .ok (.getfield 43, 3) := by decide +kernel
theorem dX2_share_20 : decode cX2_share 20 = .ok (.ifCond .ne 18, 3) := by decide +kernel
theorem dX2_share_23 : decode cX2_share 23 = .ok (.aload_n 0, 1) := by decide +kernel
theorem dX2_share_24 : decode cX2_share 24 = .ok (.iload_n 1, 1) := by decide +kernel
theorem dX2_share_25 : decode cX2_share 25 = .ok (.invokevirtual 106, 3) := by decide +kernel
theorem dX2_share_28 : decode cX2_share 28 = .ok (.i2d, 1) := by decide +kernel
theorem dX2_share_29 : decode cX2_share 29 = .ok (.aload_n 0, 1) := by decide +kernel
theorem dX2_share_30 : decode cX2_share 30 = .ok (.invokevirtual 68, 3) := by decide +kernel
theorem dX2_share_33 : decode cX2_share 33 = .ok (.i2d, 1) := by decide +kernel
theorem dX2_share_34 : decode cX2_share 34 = .ok (.ddiv, 1) := by decide +kernel
theorem dX2_share_35 : decode cX2_share 35 = .ok (.goto 4, 3) := by decide +kernel
theorem dX2_share_38 : decode cX2_share 38 = .ok (.dconst 0, 1) := by decide +kernel
theorem dX2_share_39 : decode cX2_share 39 = .ok (.dreturn, 1) := by decide +kernel
set_option maxRecDepth 20000 in
theorem ggX2_digest_X2_hang : GoodIn wsX2_digest wsX2_hang := goodIn_r _ [15, 16, 17, 9, 18, 19, 20, 14, 21, 3, 4, 22, 23, 24, 25, 26, 27, 28, 73, 74, 75, 76, 77, 78, 79, 80, 81, 82, 83, 84, 85, 86] (by decide +kernel) (by decide +kernel)
set_option maxRecDepth 20000 in
theorem gX2_digest_X2_hang : GoodIn wsX2_digest (wsV RX2 97 RX2 yX2_hang wsX2_hang) := goodIn_app (goodIn_of _ (by decide +kernel)) ggX2_digest_X2_hang
set_option maxRecDepth 20000 in
theorem ggX2_digest_X2_stubbornOnes : GoodIn wsX2_digest wsX2_stubbornOnes := goodIn_r _ [32, 10, 18, 19, 20, 14, 21, 3, 4, 73, 74, 75, 76, 77, 78, 79, 80, 81, 82, 83, 84, 85, 86] (by decide +kernel) (by decide +kernel)
set_option maxRecDepth 20000 in
theorem gX2_digest_X2_stubbornOnes : GoodIn wsX2_digest (wsV RX2 103 RX2 yX2_stubbornOnes wsX2_stubbornOnes) := goodIn_app (goodIn_of _ (by decide +kernel)) ggX2_digest_X2_stubbornOnes
set_option maxRecDepth 20000 in
theorem ggX2_digest_X2_between : GoodIn wsX2_digest wsX2_between := goodIn_r _ [36, 27, 9, 18, 19, 20, 14, 21, 3, 4, 73, 74, 75, 76, 77, 78, 79, 80, 81, 82, 83, 84, 85, 86] (by decide +kernel) (by decide +kernel)
set_option maxRecDepth 20000 in
theorem gX2_digest_X2_between : GoodIn wsX2_digest (wsV RX2 120 RX2 yX2_between wsX2_between) := goodIn_app (goodIn_of _ (by decide +kernel)) ggX2_digest_X2_between
set_option maxRecDepth 20000 in
theorem ggX2_digest_X2_first : GoodIn wsX2_digest wsX2_first := goodIn_r _ [40, 41, 42, 43, 14, 44, 9, 18, 19, 20, 21, 3, 4, 73, 74, 75, 76, 77, 78, 79, 80, 81, 82, 83, 84, 85, 86] (by decide +kernel) (by decide +kernel)
set_option maxRecDepth 20000 in
theorem gX2_digest_X2_first : GoodIn wsX2_digest (wsV RX2 123 RX2 yX2_first wsX2_first) := goodIn_app (goodIn_of _ (by decide +kernel)) ggX2_digest_X2_first
set_option maxRecDepth 20000 in
theorem ggX2_digest_X2_still : GoodIn wsX2_digest wsX2_still := goodIn_r _ [48, 9, 18, 19, 20, 14, 21, 3, 4, 49, 50, 51, 52, 10, 5, 53, 54, 55, 56, 27, 73, 74, 75, 76, 77, 78, 79, 80, 81, 82, 83, 84, 85, 86] (by decide +kernel) (by decide +kernel)
set_option maxRecDepth 20000 in
theorem gX2_digest_X2_still : GoodIn wsX2_digest (wsV RX2 126 RX2 yX2_still wsX2_still) := goodIn_app (goodIn_of _ (by decide +kernel)) ggX2_digest_X2_still
set_option maxRecDepth 20000 in
theorem ggX2_digest_X2_all : GoodIn wsX2_digest wsX2_all := goodIn_r _ [60, 9, 41, 42, 43, 14, 44, 18, 19, 20, 21, 3, 4, 73, 74, 75, 76, 77, 78, 79, 80, 81, 82, 83, 84, 85, 86] (by decide +kernel) (by decide +kernel)
set_option maxRecDepth 20000 in
theorem gX2_digest_X2_all : GoodIn wsX2_digest (wsV RX2 130 RX2 yX2_all wsX2_all) := goodIn_app (goodIn_of _ (by decide +kernel)) ggX2_digest_X2_all
set_option maxRecDepth 20000 in
theorem ggX2_digest_X2_cellsWith : GoodIn wsX2_digest wsX2_cellsWith := goodIn_r _ [44, 9, 18, 19, 20, 14, 21, 3, 4, 73, 74, 75, 76, 77, 78, 79, 80, 81, 82, 83, 84, 85, 86] (by decide +kernel) (by decide +kernel)
set_option maxRecDepth 20000 in
theorem gX2_digest_X2_cellsWith : GoodIn wsX2_digest (wsV RX2 106 RX2 yX2_cellsWith wsX2_cellsWith) := goodIn_app (goodIn_of _ (by decide +kernel)) ggX2_digest_X2_cellsWith
set_option maxRecDepth 20000 in
theorem ggX2_digest_X2_regions : GoodIn wsX2_digest wsX2_regions := goodIn_r _ [64, 9, 65, 66, 67, 68, 17, 18, 19, 20, 14, 21, 3, 4, 69, 70, 71, 72, 28, 73, 74, 75, 76, 77, 78, 79, 80, 81, 82, 83, 84, 85, 86] (by decide +kernel) (by decide +kernel)
set_option maxRecDepth 20000 in
theorem gX2_digest_X2_regions : GoodIn wsX2_digest (wsV RX2 117 RX2 yX2_regions wsX2_regions) := goodIn_app (goodIn_of _ (by decide +kernel)) ggX2_digest_X2_regions
set_option maxRecDepth 20000 in
theorem ggX2_digest_X2_cells : GoodIn wsX2_digest wsX2_cells := goodIn_r _ [21, 3, 4, 73, 74, 75, 76, 77, 78, 79, 80, 81, 82, 83, 84, 85, 86] (by decide +kernel) (by decide +kernel)
set_option maxRecDepth 20000 in
theorem gX2_digest_X2_cells : GoodIn wsX2_digest (wsV RX2 68 RX2 yX2_cells wsX2_cells) := goodIn_app (goodIn_of _ (by decide +kernel)) ggX2_digest_X2_cells
set_option maxRecDepth 20000 in
theorem ggX2_digest_X2_nextOf : GoodIn wsX2_digest wsX2_nextOf := goodIn_r _ [52, 10, 9, 5, 53, 54, 55, 14, 56, 27, 73, 74, 75, 76, 77, 78, 79, 80, 81, 82, 83, 84, 85, 86] (by decide +kernel) (by decide +kernel)
set_option maxRecDepth 20000 in
theorem gX2_digest_X2_nextOf : GoodIn wsX2_digest (wsV RX2 72 RX2 yX2_nextOf wsX2_nextOf) := goodIn_app (goodIn_of _ (by decide +kernel)) ggX2_digest_X2_nextOf
set_option maxRecDepth 20000 in
theorem ggX2_digest_X2_sizeOf : GoodIn wsX2_digest wsX2_sizeOf := goodIn_r _ [72, 9, 28, 17, 73, 74, 75, 76, 77, 78, 79, 80, 81, 82, 83, 84, 85, 86] (by decide +kernel) (by decide +kernel)
set_option maxRecDepth 20000 in
theorem gX2_digest_X2_sizeOf : GoodIn wsX2_digest (wsV RX2 100 RX2 yX2_sizeOf wsX2_sizeOf) := goodIn_app (goodIn_of _ (by decide +kernel)) ggX2_digest_X2_sizeOf
theorem dX2_digest_0 : decode cX2_digest 0 = .ok (.aload_n 0, 1) := by decide +kernel
theorem dX2_digest_1 : decode cX2_digest 1 = .ok (.iconst 0, 1) := by decide +kernel
theorem dX2_digest_2 : decode cX2_digest 2 = .ok (.putfield 43, 3) := by decide +kernel
theorem dX2_digest_5 : decode cX2_digest 5 = .ok (.aload_n 0, 1) := by decide +kernel
theorem dX2_digest_6 : decode cX2_digest 6 = .ok (.invokevirtual 97, 3) := by decide +kernel
theorem dX2_digest_9 : decode cX2_digest 9 = .ok (.bipush 9, 2) := by decide +kernel
theorem dX2_digest_11 : decode cX2_digest 11 = .ok (.newarray .int, 2) := by decide +kernel
theorem dX2_digest_13 : decode cX2_digest 13 = .ok (.dup, 1) := by decide +kernel
theorem dX2_digest_14 : decode cX2_digest 14 = .ok (.iconst 0, 1) := by decide +kernel
theorem dX2_digest_15 : decode cX2_digest 15 = .ok (.aload_n 0, 1) := by decide +kernel
theorem dX2_digest_16 : decode cX2_digest 16 = .ok (.getfield 46, 3) := by decide +kernel
theorem dX2_digest_19 : decode cX2_digest 19 = .ok (.iastore, 1) := by decide +kernel
theorem dX2_digest_20 : decode cX2_digest 20 = .ok (.dup, 1) := by decide +kernel
theorem dX2_digest_21 : decode cX2_digest 21 = .ok (.iconst 1, 1) := by decide +kernel
theorem dX2_digest_22 : decode cX2_digest 22 = .ok (.aload_n 0, 1) := by decide +kernel
theorem dX2_digest_23 : decode cX2_digest 23 = .ok (.getfield 49, 3) := by decide +kernel
theorem dX2_digest_26 : decode cX2_digest 26 = .ok (.iastore, 1) := by decide +kernel
theorem dX2_digest_27 : decode cX2_digest 27 = .ok (.dup, 1) := by decide +kernel
theorem dX2_digest_28 : decode cX2_digest 28 = .ok (.iconst 2, 1) := by decide +kernel
theorem dX2_digest_29 : decode cX2_digest 29 = .ok (.aload_n 0, 1) := by decide +kernel
theorem dX2_digest_30 : decode cX2_digest 30 = .ok (.getfield 7, 3) := by decide +kernel
theorem dX2_digest_33 : decode cX2_digest 33 = .ok (.iastore, 1) := by decide +kernel
theorem dX2_digest_34 : decode cX2_digest 34 = .ok (.dup, 1) := by decide +kernel
theorem dX2_digest_35 : decode cX2_digest 35 = .ok (.iconst 3, 1) := by decide +kernel
theorem dX2_digest_36 : decode cX2_digest 36 = .ok (.aload_n 0, 1) := by decide +kernel
theorem dX2_digest_37 : decode cX2_digest 37 = .ok (.getfield 56, 3) := by decide +kernel
theorem dX2_digest_40 : decode cX2_digest 40 = .ok (.iastore, 1) := by decide +kernel
theorem dX2_digest_41 : decode cX2_digest 41 = .ok (.dup, 1) := by decide +kernel
theorem dX2_digest_42 : decode cX2_digest 42 = .ok (.iconst 4, 1) := by decide +kernel
theorem dX2_digest_43 : decode cX2_digest 43 = .ok (.aload_n 0, 1) := by decide +kernel
theorem dX2_digest_44 : decode cX2_digest 44 = .ok (.invokevirtual 103, 3) := by decide +kernel
theorem dX2_digest_47 : decode cX2_digest 47 = .ok (.iastore, 1) := by decide +kernel
theorem dX2_digest_48 : decode cX2_digest 48 = .ok (.dup, 1) := by decide +kernel
theorem dX2_digest_49 : decode cX2_digest 49 = .ok (.iconst 5, 1) := by decide +kernel
theorem dX2_digest_50 : decode cX2_digest 50 = .ok (.aload_n 0, 1) := by decide +kernel
theorem dX2_digest_51 : decode cX2_digest 51 = .ok (.invokevirtual 120, 3) := by decide +kernel
theorem dX2_digest_54 : decode cX2_digest 54 = .ok (.iastore, 1) := by decide +kernel
theorem dX2_digest_55 : decode cX2_digest 55 = .ok (.dup, 1) := by decide +kernel
theorem dX2_digest_56 : decode cX2_digest 56 = .ok (.bipush 6, 2) := by decide +kernel
theorem dX2_digest_58 : decode cX2_digest 58 = .ok (.aload_n 0, 1) := by decide +kernel
theorem dX2_digest_59 : decode cX2_digest 59 = .ok (.invokevirtual 123, 3) := by decide +kernel
theorem dX2_digest_62 : decode cX2_digest 62 = .ok (.iastore, 1) := by decide +kernel
theorem dX2_digest_63 : decode cX2_digest 63 = .ok (.dup, 1) := by decide +kernel
theorem dX2_digest_64 : decode cX2_digest 64 = .ok (.bipush 7, 2) := by decide +kernel
theorem dX2_digest_66 : decode cX2_digest 66 = .ok (.aload_n 0, 1) := by decide +kernel
theorem dX2_digest_67 : decode cX2_digest 67 = .ok (.invokevirtual 126, 3) := by decide +kernel
theorem dX2_digest_70 : decode cX2_digest 70 = .ok (.ifCond .eq 7, 3) := by decide +kernel
theorem dX2_digest_73 : decode cX2_digest 73 = .ok (.iconst 1, 1) := by decide +kernel
theorem dX2_digest_74 : decode cX2_digest 74 = .ok (.goto 4, 3) := by decide +kernel
theorem dX2_digest_77 : decode cX2_digest 77 = .ok (.iconst 0, 1) := by decide +kernel
theorem dX2_digest_78 : decode cX2_digest 78 = .ok (.iastore, 1) := by decide +kernel
theorem dX2_digest_79 : decode cX2_digest 79 = .ok (.dup, 1) := by decide +kernel
theorem dX2_digest_80 : decode cX2_digest 80 = .ok (.bipush 8, 2) := by decide +kernel
theorem dX2_digest_82 : decode cX2_digest 82 = .ok (.aload_n 0, 1) := by decide +kernel
theorem dX2_digest_83 : decode cX2_digest 83 = .ok (.invokevirtual 130, 3) := by decide +kernel
theorem dX2_digest_86 : decode cX2_digest 86 = .ok (.iastore, 1) := by decide +kernel
theorem dX2_digest_87 : decode cX2_digest 87 = .ok (.astore_n 1, 1) := by decide +kernel
theorem dX2_digest_88 : decode cX2_digest 88 = .ok (.ldc2_w 148, 3) := by decide +kernel
theorem dX2_digest_91 : decode cX2_digest 91 = .ok (.lstore_n 2, 1) := by decide +kernel
theorem dX2_digest_92 : decode cX2_digest 92 = .ok (.aload_n 1, 1) := by decide +kernel
theorem dX2_digest_93 : decode cX2_digest 93 = .ok (.astore 4, 2) := by decide +kernel
theorem dX2_digest_95 : decode cX2_digest 95 = .ok (.aload 4, 2) := by decide +kernel
theorem dX2_digest_97 : decode cX2_digest 97 = .ok (.arraylength, 1) := by decide +kernel
theorem dX2_digest_98 : decode cX2_digest 98 = .ok (.istore 5, 2) := by decide +kernel
theorem dX2_digest_100 : decode cX2_digest 100 = .ok (.iconst 0, 1) := by decide +kernel
theorem dX2_digest_101 : decode cX2_digest 101 = .ok (.istore 6, 2) := by decide +kernel
theorem dX2_digest_103 : decode cX2_digest 103 = .ok (.iload 6, 2) := by decide +kernel
theorem dX2_digest_105 : decode cX2_digest 105 = .ok (.iload 5, 2) := by decide +kernel
theorem dX2_digest_107 : decode cX2_digest 107 = .ok (.if_icmp .ge 26, 3) := by decide +kernel
theorem dX2_digest_110 : decode cX2_digest 110 = .ok (.aload 4, 2) := by decide +kernel
theorem dX2_digest_112 : decode cX2_digest 112 = .ok (.iload 6, 2) := by decide +kernel
theorem dX2_digest_114 : decode cX2_digest 114 = .ok (.iaload, 1) := by decide +kernel
theorem dX2_digest_115 : decode cX2_digest 115 = .ok (.istore 7, 2) := by decide +kernel
theorem dX2_digest_117 : decode cX2_digest 117 = .ok (.lload_n 2, 1) := by decide +kernel
theorem dX2_digest_118 : decode cX2_digest 118 = .ok (.ldc2_w 150, 3) := by decide +kernel
theorem dX2_digest_121 : decode cX2_digest 121 = .ok (.lmul, 1) := by decide +kernel
theorem dX2_digest_122 : decode cX2_digest 122 = .ok (.iload 7, 2) := by decide +kernel
theorem dX2_digest_124 : decode cX2_digest 124 = .ok (.i2l, 1) := by decide +kernel
theorem dX2_digest_125 : decode cX2_digest 125 = .ok (.ladd, 1) := by decide +kernel
theorem dX2_digest_126 : decode cX2_digest 126 = .ok (.lstore_n 2, 1) := by decide +kernel
theorem dX2_digest_127 : decode cX2_digest 127 = .ok (.iinc 6 1, 3) := by decide +kernel
theorem dX2_digest_130 : decode cX2_digest 130 = .ok (.goto (-27), 3) := by decide +kernel
theorem dX2_digest_133 : decode cX2_digest 133 = .ok (.iconst 1, 1) := by decide +kernel
theorem dX2_digest_134 : decode cX2_digest 134 = .ok (.istore 4, 2) := by decide +kernel
theorem dX2_digest_136 : decode cX2_digest 136 = .ok (.iload 4, 2) := by decide +kernel
theorem dX2_digest_138 : decode cX2_digest 138 = .ok (.iconst 4, 1) := by decide +kernel
theorem dX2_digest_139 : decode cX2_digest 139 = .ok (.if_icmp .gt 53, 3) := by decide +kernel
theorem dX2_digest_142 : decode cX2_digest 142 = .ok (.lload_n 2, 1) := by decide +kernel
theorem dX2_digest_143 : decode cX2_digest 143 = .ok (.ldc2_w 150, 3) := by decide +kernel
theorem dX2_digest_146 : decode cX2_digest 146 = .ok (.lmul, 1) := by decide +kernel
theorem dX2_digest_147 : decode cX2_digest 147 = .ok (.aload_n 0, 1) := by decide +kernel
theorem dX2_digest_148 : decode cX2_digest 148 = .ok (.iload 4, 2) := by decide +kernel
theorem dX2_digest_150 : decode cX2_digest 150 = .ok (.invokevirtual 106, 3) := by decide +kernel
theorem dX2_digest_153 : decode cX2_digest 153 = .ok (.i2l, 1) := by decide +kernel
theorem dX2_digest_154 : decode cX2_digest 154 = .ok (.ladd, 1) := by decide +kernel
theorem dX2_digest_155 : decode cX2_digest 155 = .ok (.lstore_n 2, 1) := by decide +kernel
theorem dX2_digest_156 : decode cX2_digest 156 = .ok (.lload_n 2, 1) := by decide +kernel
theorem dX2_digest_157 : decode cX2_digest 157 = .ok (.ldc2_w 150, 3) := by decide +kernel
theorem dX2_digest_160 : decode cX2_digest 160 = .ok (.lmul, 1) := by decide +kernel
theorem dX2_digest_161 : decode cX2_digest 161 = .ok (.aload_n 0, 1) := by decide +kernel
theorem dX2_digest_162 : decode cX2_digest 162 = .ok (.iload 4, 2) := by decide +kernel
theorem dX2_digest_164 : decode cX2_digest 164 = .ok (.iconst 0, 1) := by decide +kernel
theorem dX2_digest_165 : decode cX2_digest 165 = .ok (.invokevirtual 117, 3) := by decide +kernel
theorem dX2_digest_168 : decode cX2_digest 168 = .ok (.i2l, 1) := by decide +kernel
theorem dX2_digest_169 : decode cX2_digest 169 = .ok (.ladd, 1) := by decide +kernel
theorem dX2_digest_170 : decode cX2_digest 170 = .ok (.lstore_n 2, 1) := by decide +kernel
theorem dX2_digest_171 : decode cX2_digest 171 = .ok (.lload_n 2, 1) := by decide +kernel
theorem dX2_digest_172 : decode cX2_digest 172 = .ok (.ldc2_w 150, 3) := by decide +kernel
theorem dX2_digest_175 : decode cX2_digest 175 = .ok (.lmul, 1) := by decide +kernel
theorem dX2_digest_176 : decode cX2_digest 176 = .ok (.aload_n 0, 1) := by decide +kernel
theorem dX2_digest_177 : decode cX2_digest 177 = .ok (.iload 4, 2) := by decide +kernel
theorem dX2_digest_179 : decode cX2_digest 179 = .ok (.iconst 1, 1) := by decide +kernel
theorem dX2_digest_180 : decode cX2_digest 180 = .ok (.invokevirtual 117, 3) := by decide +kernel
theorem dX2_digest_183 : decode cX2_digest 183 = .ok (.i2l, 1) := by decide +kernel
theorem dX2_digest_184 : decode cX2_digest 184 = .ok (.ladd, 1) := by decide +kernel
theorem dX2_digest_185 : decode cX2_digest 185 = .ok (.lstore_n 2, 1) := by decide +kernel
theorem dX2_digest_186 : decode cX2_digest 186 = .ok (.iinc 4 1, 3) := by decide +kernel
theorem dX2_digest_189 : decode cX2_digest 189 = .ok (.goto (-53), 3) := by decide +kernel
theorem dX2_digest_192 : decode cX2_digest 192 = .ok (.iconst 0, 1) := by decide +kernel
theorem dX2_digest_193 : decode cX2_digest 193 = .ok (.istore 4, 2) := by decide +kernel
theorem dX2_digest_195 : decode cX2_digest 195 = .ok (.iload 4, 2) := by decide +kernel
theorem dX2_digest_197 : decode cX2_digest 197 = .ok (.aload_n 0, 1) := by decide +kernel
theorem dX2_digest_198 : decode cX2_digest 198 = .ok (.invokevirtual 68, 3) := by decide +kernel
theorem dX2_digest_201 : decode cX2_digest 201 = .ok (.if_icmp .ge 75, 3) := by decide +kernel
theorem dX2_digest_204 : decode cX2_digest 204 = .ok (.lload_n 2, 1) := by decide +kernel
theorem dX2_digest_205 : decode cX2_digest 205 = .ok (.ldc2_w 150, 3) := by decide +kernel
theorem dX2_digest_208 : decode cX2_digest 208 = .ok (.lmul, 1) := by decide +kernel
theorem dX2_digest_209 : decode cX2_digest 209 = .ok (.aload_n 0, 1) := by decide +kernel
theorem dX2_digest_210 : decode cX2_digest 210 = .ok (.getfield 13, 3) := by decide +kernel
theorem dX2_digest_213 : decode cX2_digest 213 = .ok (.iload 4, 2) := by decide +kernel
theorem dX2_digest_215 : decode cX2_digest 215 = .ok (.iaload, 1) := by decide +kernel
theorem dX2_digest_216 : decode cX2_digest 216 = .ok (.i2l, 1) := by decide +kernel
theorem dX2_digest_217 : decode cX2_digest 217 = .ok (.ladd, 1) := by decide +kernel
theorem dX2_digest_218 : decode cX2_digest 218 = .ok (.lstore_n 2, 1) := by decide +kernel
theorem dX2_digest_219 : decode cX2_digest 219 = .ok (.lload_n 2, 1) := by decide +kernel
theorem dX2_digest_220 : decode cX2_digest 220 = .ok (.ldc2_w 150, 3) := by decide +kernel
theorem dX2_digest_223 : decode cX2_digest 223 = .ok (.lmul, 1) := by decide +kernel
theorem dX2_digest_224 : decode cX2_digest 224 = .ok (.aload_n 0, 1) := by decide +kernel
theorem dX2_digest_225 : decode cX2_digest 225 = .ok (.getfield 20, 3) := by decide +kernel
theorem dX2_digest_228 : decode cX2_digest 228 = .ok (.iload 4, 2) := by decide +kernel
theorem dX2_digest_230 : decode cX2_digest 230 = .ok (.baload, 1) := by decide +kernel
theorem dX2_digest_231 : decode cX2_digest 231 = .ok (.ifCond .eq 7, 3) := by decide +kernel
theorem dX2_digest_234 : decode cX2_digest 234 = .ok (.iconst 1, 1) := by decide +kernel
theorem dX2_digest_235 : decode cX2_digest 235 = .ok (.goto 4, 3) := by decide +kernel
theorem dX2_digest_238 : decode cX2_digest 238 = .ok (.iconst 0, 1) := by decide +kernel
theorem dX2_digest_239 : decode cX2_digest 239 = .ok (.i2l, 1) := by decide +kernel
theorem dX2_digest_240 : decode cX2_digest 240 = .ok (.ladd, 1) := by decide +kernel
theorem dX2_digest_241 : decode cX2_digest 241 = .ok (.lstore_n 2, 1) := by decide +kernel
theorem dX2_digest_242 : decode cX2_digest 242 = .ok (.lload_n 2, 1) := by decide +kernel
theorem dX2_digest_243 : decode cX2_digest 243 = .ok (.ldc2_w 150, 3) := by decide +kernel
theorem dX2_digest_246 : decode cX2_digest 246 = .ok (.lmul, 1) := by decide +kernel
theorem dX2_digest_247 : decode cX2_digest 247 = .ok (.aload_n 0, 1) := by decide +kernel
theorem dX2_digest_248 : decode cX2_digest 248 = .ok (.iload 4, 2) := by decide +kernel
theorem dX2_digest_250 : decode cX2_digest 250 = .ok (.invokevirtual 72, 3) := by decide +kernel
theorem dX2_digest_253 : decode cX2_digest 253 = .ok (.i2l, 1) := by decide +kernel
theorem dX2_digest_254 : decode cX2_digest 254 = .ok (.ladd, 1) := by decide +kernel
theorem dX2_digest_255 : decode cX2_digest 255 = .ok (.lstore_n 2, 1) := by decide +kernel
theorem dX2_digest_256 : decode cX2_digest 256 = .ok (.lload_n 2, 1) := by decide +kernel
theorem dX2_digest_257 : decode cX2_digest 257 = .ok (.ldc2_w 150, 3) := by decide +kernel
theorem dX2_digest_260 : decode cX2_digest 260 = .ok (.lmul, 1) := by decide +kernel
theorem dX2_digest_261 : decode cX2_digest 261 = .ok (.aload_n 0, 1) := by decide +kernel
theorem dX2_digest_262 : decode cX2_digest 262 = .ok (.iload 4, 2) := by decide +kernel
theorem dX2_digest_264 : decode cX2_digest 264 = .ok (.invokevirtual 100, 3) := by decide +kernel
theorem dX2_digest_267 : decode cX2_digest 267 = .ok (.i2l, 1) := by decide +kernel
theorem dX2_digest_268 : decode cX2_digest 268 = .ok (.ladd, 1) := by decide +kernel
theorem dX2_digest_269 : decode cX2_digest 269 = .ok (.lstore_n 2, 1) := by decide +kernel
theorem dX2_digest_270 : decode cX2_digest 270 = .ok (.iinc 4 1, 3) := by decide +kernel
theorem dX2_digest_273 : decode cX2_digest 273 = .ok (.goto (-78), 3) := by decide +kernel
theorem dX2_digest_276 : decode cX2_digest 276 = .ok (.lload_n 2, 1) := by decide +kernel
theorem dX2_digest_277 : decode cX2_digest 277 = .ok (.lreturn, 1) := by decide +kernel
theorem dJ6_bitCount_0f7a4_0 : decode cJ6_bitCount_0f7a4 0 = .ok (.iload_n 0, 1) := by decide +kernel
theorem dJ6_bitCount_0f7a4_1 : decode cJ6_bitCount_0f7a4 1 = .ok (.iload_n 0, 1) := by decide +kernel
theorem dJ6_bitCount_0f7a4_2 : decode cJ6_bitCount_0f7a4 2 = .ok (.iconst 1, 1) := by decide +kernel
theorem dJ6_bitCount_0f7a4_3 : decode cJ6_bitCount_0f7a4 3 = .ok (.iushr, 1) := by decide +kernel
theorem dJ6_bitCount_0f7a4_4 : decode cJ6_bitCount_0f7a4 4 = .ok (.ldc_w 265, 3) := by decide +kernel
theorem dJ6_bitCount_0f7a4_7 : decode cJ6_bitCount_0f7a4 7 = .ok (.iand, 1) := by decide +kernel
theorem dJ6_bitCount_0f7a4_8 : decode cJ6_bitCount_0f7a4 8 = .ok (.isub, 1) := by decide +kernel
theorem dJ6_bitCount_0f7a4_9 : decode cJ6_bitCount_0f7a4 9 = .ok (.istore_n 0, 1) := by decide +kernel
theorem dJ6_bitCount_0f7a4_10 : decode cJ6_bitCount_0f7a4 10 = .ok (.iload_n 0, 1) := by decide +kernel
theorem dJ6_bitCount_0f7a4_11 : decode cJ6_bitCount_0f7a4 11 = .ok (.ldc_w 266, 3) := by decide +kernel
theorem dJ6_bitCount_0f7a4_14 : decode cJ6_bitCount_0f7a4 14 = .ok (.iand, 1) := by decide +kernel
theorem dJ6_bitCount_0f7a4_15 : decode cJ6_bitCount_0f7a4 15 = .ok (.iload_n 0, 1) := by decide +kernel
theorem dJ6_bitCount_0f7a4_16 : decode cJ6_bitCount_0f7a4 16 = .ok (.iconst 2, 1) := by decide +kernel
theorem dJ6_bitCount_0f7a4_17 : decode cJ6_bitCount_0f7a4 17 = .ok (.iushr, 1) := by decide +kernel
theorem dJ6_bitCount_0f7a4_18 : decode cJ6_bitCount_0f7a4 18 = .ok (.ldc_w 266, 3) := by decide +kernel
theorem dJ6_bitCount_0f7a4_21 : decode cJ6_bitCount_0f7a4 21 = .ok (.iand, 1) := by decide +kernel
theorem dJ6_bitCount_0f7a4_22 : decode cJ6_bitCount_0f7a4 22 = .ok (.iadd, 1) := by decide +kernel
theorem dJ6_bitCount_0f7a4_23 : decode cJ6_bitCount_0f7a4 23 = .ok (.istore_n 0, 1) := by decide +kernel
theorem dJ6_bitCount_0f7a4_24 : decode cJ6_bitCount_0f7a4 24 = .ok (.iload_n 0, 1) := by decide +kernel
theorem dJ6_bitCount_0f7a4_25 : decode cJ6_bitCount_0f7a4 25 = .ok (.iload_n 0, 1) := by decide +kernel
theorem dJ6_bitCount_0f7a4_26 : decode cJ6_bitCount_0f7a4 26 = .ok (.iconst 4, 1) := by decide +kernel
theorem dJ6_bitCount_0f7a4_27 : decode cJ6_bitCount_0f7a4 27 = .ok (.iushr, 1) := by decide +kernel
theorem dJ6_bitCount_0f7a4_28 : decode cJ6_bitCount_0f7a4 28 = .ok (.iadd, 1) := by decide +kernel
theorem dJ6_bitCount_0f7a4_29 : decode cJ6_bitCount_0f7a4 29 = .ok (.ldc_w 267, 3) := by decide +kernel
theorem dJ6_bitCount_0f7a4_32 : decode cJ6_bitCount_0f7a4 32 = .ok (.iand, 1) := by decide +kernel
theorem dJ6_bitCount_0f7a4_33 : decode cJ6_bitCount_0f7a4 33 = .ok (.istore_n 0, 1) := by decide +kernel
theorem dJ6_bitCount_0f7a4_34 : decode cJ6_bitCount_0f7a4 34 = .ok (.iload_n 0, 1) := by decide +kernel
theorem dJ6_bitCount_0f7a4_35 : decode cJ6_bitCount_0f7a4 35 = .ok (.iload_n 0, 1) := by decide +kernel
theorem dJ6_bitCount_0f7a4_36 : decode cJ6_bitCount_0f7a4 36 = .ok (.bipush 8, 2) := by decide +kernel
theorem dJ6_bitCount_0f7a4_38 : decode cJ6_bitCount_0f7a4 38 = .ok (.iushr, 1) := by decide +kernel
theorem dJ6_bitCount_0f7a4_39 : decode cJ6_bitCount_0f7a4 39 = .ok (.iadd, 1) := by decide +kernel
theorem dJ6_bitCount_0f7a4_40 : decode cJ6_bitCount_0f7a4 40 = .ok (.istore_n 0, 1) := by decide +kernel
theorem dJ6_bitCount_0f7a4_41 : decode cJ6_bitCount_0f7a4 41 = .ok (.iload_n 0, 1) := by decide +kernel
theorem dJ6_bitCount_0f7a4_42 : decode cJ6_bitCount_0f7a4 42 = .ok (.iload_n 0, 1) := by decide +kernel
theorem dJ6_bitCount_0f7a4_43 : decode cJ6_bitCount_0f7a4 43 = .ok (.bipush 16, 2) := by decide +kernel
theorem dJ6_bitCount_0f7a4_45 : decode cJ6_bitCount_0f7a4 45 = .ok (.iushr, 1) := by decide +kernel
theorem dJ6_bitCount_0f7a4_46 : decode cJ6_bitCount_0f7a4 46 = .ok (.iadd, 1) := by decide +kernel
theorem dJ6_bitCount_0f7a4_47 : decode cJ6_bitCount_0f7a4 47 = .ok (.istore_n 0, 1) := by decide +kernel
theorem dJ6_bitCount_0f7a4_48 : decode cJ6_bitCount_0f7a4 48 = .ok (.iload_n 0, 1) := by decide +kernel
theorem dJ6_bitCount_0f7a4_49 : decode cJ6_bitCount_0f7a4 49 = .ok (.bipush 63, 2) := by decide +kernel
theorem dJ6_bitCount_0f7a4_51 : decode cJ6_bitCount_0f7a4 51 = .ok (.iand, 1) := by decide +kernel
theorem dJ6_bitCount_0f7a4_52 : decode cJ6_bitCount_0f7a4 52 = .ok (.ireturn, 1) := by decide +kernel
theorem dJ9_max_7cf53_0 : decode cJ9_max_7cf53 0 = .ok (.iload_n 0, 1) := by decide +kernel
theorem dJ9_max_7cf53_1 : decode cJ9_max_7cf53 1 = .ok (.iload_n 1, 1) := by decide +kernel
theorem dJ9_max_7cf53_2 : decode cJ9_max_7cf53 2 = .ok (.if_icmp .lt 7, 3) := by decide +kernel
theorem dJ9_max_7cf53_5 : decode cJ9_max_7cf53 5 = .ok (.iload_n 0, 1) := by decide +kernel
theorem dJ9_max_7cf53_6 : decode cJ9_max_7cf53 6 = .ok (.goto 4, 3) := by decide +kernel
theorem dJ9_max_7cf53_9 : decode cJ9_max_7cf53 9 = .ok (.iload_n 1, 1) := by decide +kernel
theorem dJ9_max_7cf53_10 : decode cJ9_max_7cf53 10 = .ok (.ireturn, 1) := by decide +kernel
set_option maxRecDepth 20000 in
theorem ggL_newMap_X1_newMap : GoodIn wsL_newMap wsX1_newMap := goodIn_ca (goodIn_r _ [6, 7, 8, 9, 10, 11, 12, 13, 14, 5, 15, 16, 17, 18, 19, 20, 21, 22, 23, 24, 25, 26, 27, 28, 29, 30, 31, 32, 33, 34, 35, 36] (by decide +kernel) (by decide +kernel)) (goodIn_sub (fun _ h => List.mem_cons_of_mem _ (List.mem_append_right _ h)) (by decide +kernel))
set_option maxRecDepth 20000 in
theorem gL_newMap_X1_newMap : GoodIn wsL_newMap (wsV RL 7 RX1 yX1_newMap wsX1_newMap) := goodIn_app (goodIn_of _ (by decide +kernel)) ggL_newMap_X1_newMap
theorem dL_newMap_0 : decode cL_newMap 0 = .ok (.aload_n 3, 1) := by decide +kernel
theorem dL_newMap_1 : decode cL_newMap 1 = .ok (.iconst 0, 1) := by decide +kernel
theorem dL_newMap_2 : decode cL_newMap 2 = .ok (.aload_n 0, 1) := by decide +kernel
theorem dL_newMap_3 : decode cL_newMap 3 = .ok (.iload_n 1, 1) := by decide +kernel
theorem dL_newMap_4 : decode cL_newMap 4 = .ok (.iload_n 2, 1) := by decide +kernel
theorem dL_newMap_5 : decode cL_newMap 5 = .ok (.invokevirtual 7, 3) := by decide +kernel
theorem dL_newMap_8 : decode cL_newMap 8 = .ok (.i2l, 1) := by decide +kernel
theorem dL_newMap_9 : decode cL_newMap 9 = .ok (.lastore, 1) := by decide +kernel
theorem dL_newMap_10 : decode cL_newMap 10 = .ok (.goto 7, 3) := by decide +kernel
theorem dL_newMap_13 : decode cL_newMap 13 = .ok (.astore 4, 2) := by decide +kernel
theorem dL_newMap_15 : decode cL_newMap 15 = .ok (.iconst 1, 1) := by decide +kernel
theorem dL_newMap_16 : decode cL_newMap 16 = .ok (.ireturn, 1) := by decide +kernel
theorem dL_newMap_17 : decode cL_newMap 17 = .ok (.iconst 0, 1) := by decide +kernel
theorem dL_newMap_18 : decode cL_newMap 18 = .ok (.ireturn, 1) := by decide +kernel
set_option maxRecDepth 20000 in
theorem ggL_paint_X1_paint : GoodIn wsL_paint wsX1_paint := goodIn_ca (goodIn_r _ [6, 7, 8, 9, 10, 11, 12, 5, 13, 14, 15, 16, 17, 18, 19, 20, 21, 22, 23, 24, 25, 26, 27, 28, 29, 30, 31, 32, 33, 34, 35, 36, 37, 38, 39, 40, 41, 42, 43, 44, 45, 46, 47, 48] (by decide +kernel) (by decide +kernel)) (goodIn_sub (fun _ h => List.mem_cons_of_mem _ (List.mem_append_right _ h)) (by decide +kernel))
set_option maxRecDepth 20000 in
theorem gL_paint_X1_paint : GoodIn wsL_paint (wsV RL 15 RX1 yX1_paint wsX1_paint) := goodIn_app (goodIn_of _ (by decide +kernel)) ggL_paint_X1_paint
theorem dL_paint_0 : decode cL_paint 0 = .ok (.aload 4, 2) := by decide +kernel
theorem dL_paint_2 : decode cL_paint 2 = .ok (.iconst 0, 1) := by decide +kernel
theorem dL_paint_3 : decode cL_paint 3 = .ok (.aload_n 0, 1) := by decide +kernel
theorem dL_paint_4 : decode cL_paint 4 = .ok (.iload_n 1, 1) := by decide +kernel
theorem dL_paint_5 : decode cL_paint 5 = .ok (.iload_n 2, 1) := by decide +kernel
theorem dL_paint_6 : decode cL_paint 6 = .ok (.iload_n 3, 1) := by decide +kernel
theorem dL_paint_7 : decode cL_paint 7 = .ok (.invokevirtual 15, 3) := by decide +kernel
theorem dL_paint_10 : decode cL_paint 10 = .ok (.i2l, 1) := by decide +kernel
theorem dL_paint_11 : decode cL_paint 11 = .ok (.lastore, 1) := by decide +kernel
theorem dL_paint_12 : decode cL_paint 12 = .ok (.goto 7, 3) := by decide +kernel
theorem dL_paint_15 : decode cL_paint 15 = .ok (.astore 5, 2) := by decide +kernel
theorem dL_paint_17 : decode cL_paint 17 = .ok (.iconst 1, 1) := by decide +kernel
theorem dL_paint_18 : decode cL_paint 18 = .ok (.ireturn, 1) := by decide +kernel
theorem dL_paint_19 : decode cL_paint 19 = .ok (.iconst 0, 1) := by decide +kernel
theorem dL_paint_20 : decode cL_paint 20 = .ok (.ireturn, 1) := by decide +kernel
set_option maxRecDepth 20000 in
theorem ggL_turnStubborn_X1_turnStubborn : GoodIn wsL_turnStubborn wsX1_turnStubborn := goodIn_ca (goodIn_r _ [6, 7, 8, 9, 10, 11, 12, 13, 5, 14, 15, 16, 17, 18, 19, 20, 21, 22, 23, 24, 25, 26, 27, 28, 29, 30] (by decide +kernel) (by decide +kernel)) (goodIn_sub (fun _ h => List.mem_cons_of_mem _ (List.mem_append_right _ h)) (by decide +kernel))
set_option maxRecDepth 20000 in
theorem gL_turnStubborn_X1_turnStubborn : GoodIn wsL_turnStubborn (wsV RL 21 RX1 yX1_turnStubborn wsX1_turnStubborn) := goodIn_app (goodIn_of _ (by decide +kernel)) ggL_turnStubborn_X1_turnStubborn
theorem dL_turnStubborn_0 : decode cL_turnStubborn 0 = .ok (.aload_n 3, 1) := by decide +kernel
theorem dL_turnStubborn_1 : decode cL_turnStubborn 1 = .ok (.iconst 0, 1) := by decide +kernel
theorem dL_turnStubborn_2 : decode cL_turnStubborn 2 = .ok (.aload_n 0, 1) := by decide +kernel
theorem dL_turnStubborn_3 : decode cL_turnStubborn 3 = .ok (.iload_n 1, 1) := by decide +kernel
theorem dL_turnStubborn_4 : decode cL_turnStubborn 4 = .ok (.iload_n 2, 1) := by decide +kernel
theorem dL_turnStubborn_5 : decode cL_turnStubborn 5 = .ok (.invokevirtual 21, 3) := by decide +kernel
theorem dL_turnStubborn_8 : decode cL_turnStubborn 8 = .ok (.ifCond .eq 7, 3) := by decide +kernel
theorem dL_turnStubborn_11 : decode cL_turnStubborn 11 = .ok (.lconst 1, 1) := by decide +kernel
theorem dL_turnStubborn_12 : decode cL_turnStubborn 12 = .ok (.goto 4, 3) := by decide +kernel
theorem dL_turnStubborn_15 : decode cL_turnStubborn 15 = .ok (.lconst 0, 1) := by decide +kernel
theorem dL_turnStubborn_16 : decode cL_turnStubborn 16 = .ok (.lastore, 1) := by decide +kernel
theorem dL_turnStubborn_17 : decode cL_turnStubborn 17 = .ok (.goto 7, 3) := by decide +kernel
theorem dL_turnStubborn_20 : decode cL_turnStubborn 20 = .ok (.astore 4, 2) := by decide +kernel
theorem dL_turnStubborn_22 : decode cL_turnStubborn 22 = .ok (.iconst 1, 1) := by decide +kernel
theorem dL_turnStubborn_23 : decode cL_turnStubborn 23 = .ok (.ireturn, 1) := by decide +kernel
theorem dL_turnStubborn_24 : decode cL_turnStubborn 24 = .ok (.iconst 0, 1) := by decide +kernel
theorem dL_turnStubborn_25 : decode cL_turnStubborn 25 = .ok (.ireturn, 1) := by decide +kernel
set_option maxRecDepth 20000 in
theorem ggL_setNeed_X1_setNeed : GoodIn wsL_setNeed wsX1_setNeed := goodIn_ca (goodIn_r _ [6, 7, 8, 9, 10, 11, 12, 13, 14, 15, 16, 17, 18, 19, 20, 21] (by decide +kernel) (by decide +kernel)) (goodIn_sub (fun _ h => List.mem_cons_of_mem _ (List.mem_append_right _ h)) (by decide +kernel))
set_option maxRecDepth 20000 in
theorem gL_setNeed_X1_setNeed : GoodIn wsL_setNeed (wsV RL 25 RX1 yX1_setNeed wsX1_setNeed) := goodIn_app (goodIn_of _ (by decide +kernel)) ggL_setNeed_X1_setNeed
theorem dL_setNeed_0 : decode cL_setNeed 0 = .ok (.aload_n 2, 1) := by decide +kernel
theorem dL_setNeed_1 : decode cL_setNeed 1 = .ok (.iconst 0, 1) := by decide +kernel
theorem dL_setNeed_2 : decode cL_setNeed 2 = .ok (.aload_n 0, 1) := by decide +kernel
theorem dL_setNeed_3 : decode cL_setNeed 3 = .ok (.iload_n 1, 1) := by decide +kernel
theorem dL_setNeed_4 : decode cL_setNeed 4 = .ok (.invokevirtual 25, 3) := by decide +kernel
theorem dL_setNeed_7 : decode cL_setNeed 7 = .ok (.i2l, 1) := by decide +kernel
theorem dL_setNeed_8 : decode cL_setNeed 8 = .ok (.lastore, 1) := by decide +kernel
theorem dL_setNeed_9 : decode cL_setNeed 9 = .ok (.goto 6, 3) := by decide +kernel
theorem dL_setNeed_12 : decode cL_setNeed 12 = .ok (.astore_n 3, 1) := by decide +kernel
theorem dL_setNeed_13 : decode cL_setNeed 13 = .ok (.iconst 1, 1) := by decide +kernel
theorem dL_setNeed_14 : decode cL_setNeed 14 = .ok (.ireturn, 1) := by decide +kernel
theorem dL_setNeed_15 : decode cL_setNeed 15 = .ok (.iconst 0, 1) := by decide +kernel
theorem dL_setNeed_16 : decode cL_setNeed 16 = .ok (.ireturn, 1) := by decide +kernel
set_option maxRecDepth 20000 in
theorem ggL_pass_X1_pass : GoodIn wsL_pass wsX1_pass := goodIn_ca (goodIn_r _ [6, 7, 8, 9, 10, 11, 12, 13, 14, 15, 16, 17, 18, 19, 20, 21, 22, 23, 24, 25, 26, 27, 28, 29, 30, 31, 32, 33, 34, 35, 36, 37, 38, 39, 40, 41, 42, 43, 44, 45, 46, 47, 48, 49, 50, 51, 52, 53, 54] (by decide +kernel) (by decide +kernel)) (goodIn_sub (fun _ h => List.mem_cons_of_mem _ (List.mem_append_right _ h)) (by decide +kernel))
set_option maxRecDepth 20000 in
theorem gL_pass_X1_pass : GoodIn wsL_pass (wsV RL 29 RX1 yX1_pass wsX1_pass) := goodIn_app (goodIn_of _ (by decide +kernel)) ggL_pass_X1_pass
theorem dL_pass_0 : decode cL_pass 0 = .ok (.aload_n 2, 1) := by decide +kernel
theorem dL_pass_1 : decode cL_pass 1 = .ok (.iconst 0, 1) := by decide +kernel
theorem dL_pass_2 : decode cL_pass 2 = .ok (.aload_n 0, 1) := by decide +kernel
theorem dL_pass_3 : decode cL_pass 3 = .ok (.iload_n 1, 1) := by decide +kernel
theorem dL_pass_4 : decode cL_pass 4 = .ok (.invokevirtual 29, 3) := by decide +kernel
theorem dL_pass_7 : decode cL_pass 7 = .ok (.i2l, 1) := by decide +kernel
theorem dL_pass_8 : decode cL_pass 8 = .ok (.lastore, 1) := by decide +kernel
theorem dL_pass_9 : decode cL_pass 9 = .ok (.goto 6, 3) := by decide +kernel
theorem dL_pass_12 : decode cL_pass 12 = .ok (.astore_n 3, 1) := by decide +kernel
theorem dL_pass_13 : decode cL_pass 13 = .ok (.iconst 1, 1) := by decide +kernel
theorem dL_pass_14 : decode cL_pass 14 = .ok (.ireturn, 1) := by decide +kernel
theorem dL_pass_15 : decode cL_pass 15 = .ok (.iconst 0, 1) := by decide +kernel
theorem dL_pass_16 : decode cL_pass 16 = .ok (.ireturn, 1) := by decide +kernel
set_option maxRecDepth 20000 in
theorem ggL_colourAt_X1_colourAt : GoodIn wsL_colourAt wsX1_colourAt := goodIn_ca (goodIn_r _ [6, 7, 8, 9, 10, 11, 12, 5, 13, 14, 15, 16, 17, 18, 19, 20, 21, 22, 23, 24, 25, 26, 27, 28, 29, 30, 31, 32, 33, 34, 35, 36, 37, 38] (by decide +kernel) (by decide +kernel)) (goodIn_sub (fun _ h => List.mem_cons_of_mem _ (List.mem_append_right _ h)) (by decide +kernel))
set_option maxRecDepth 20000 in
theorem gL_colourAt_X1_colourAt : GoodIn wsL_colourAt (wsV RL 32 RX1 yX1_colourAt wsX1_colourAt) := goodIn_app (goodIn_of _ (by decide +kernel)) ggL_colourAt_X1_colourAt
theorem dL_colourAt_0 : decode cL_colourAt 0 = .ok (.aload_n 3, 1) := by decide +kernel
theorem dL_colourAt_1 : decode cL_colourAt 1 = .ok (.iconst 0, 1) := by decide +kernel
theorem dL_colourAt_2 : decode cL_colourAt 2 = .ok (.aload_n 0, 1) := by decide +kernel
theorem dL_colourAt_3 : decode cL_colourAt 3 = .ok (.iload_n 1, 1) := by decide +kernel
theorem dL_colourAt_4 : decode cL_colourAt 4 = .ok (.iload_n 2, 1) := by decide +kernel
theorem dL_colourAt_5 : decode cL_colourAt 5 = .ok (.invokevirtual 32, 3) := by decide +kernel
theorem dL_colourAt_8 : decode cL_colourAt 8 = .ok (.i2l, 1) := by decide +kernel
theorem dL_colourAt_9 : decode cL_colourAt 9 = .ok (.lastore, 1) := by decide +kernel
theorem dL_colourAt_10 : decode cL_colourAt 10 = .ok (.goto 7, 3) := by decide +kernel
theorem dL_colourAt_13 : decode cL_colourAt 13 = .ok (.astore 4, 2) := by decide +kernel
theorem dL_colourAt_15 : decode cL_colourAt 15 = .ok (.iconst 1, 1) := by decide +kernel
theorem dL_colourAt_16 : decode cL_colourAt 16 = .ok (.ireturn, 1) := by decide +kernel
theorem dL_colourAt_17 : decode cL_colourAt 17 = .ok (.iconst 0, 1) := by decide +kernel
theorem dL_colourAt_18 : decode cL_colourAt 18 = .ok (.ireturn, 1) := by decide +kernel
set_option maxRecDepth 20000 in
theorem ggL_isStubborn_X1_isStubborn : GoodIn wsL_isStubborn wsX1_isStubborn := goodIn_ca (goodIn_r _ [6, 7, 8, 9, 10, 11, 12, 13, 5, 14, 15, 16, 17, 18, 19, 20, 21, 22, 23, 24, 25, 26, 27, 28, 29, 30] (by decide +kernel) (by decide +kernel)) (goodIn_sub (fun _ h => List.mem_cons_of_mem _ (List.mem_append_right _ h)) (by decide +kernel))
set_option maxRecDepth 20000 in
theorem gL_isStubborn_X1_isStubborn : GoodIn wsL_isStubborn (wsV RL 35 RX1 yX1_isStubborn wsX1_isStubborn) := goodIn_app (goodIn_of _ (by decide +kernel)) ggL_isStubborn_X1_isStubborn
theorem dL_isStubborn_0 : decode cL_isStubborn 0 = .ok (.aload_n 3, 1) := by decide +kernel
theorem dL_isStubborn_1 : decode cL_isStubborn 1 = .ok (.iconst 0, 1) := by decide +kernel
theorem dL_isStubborn_2 : decode cL_isStubborn 2 = .ok (.aload_n 0, 1) := by decide +kernel
theorem dL_isStubborn_3 : decode cL_isStubborn 3 = .ok (.iload_n 1, 1) := by decide +kernel
theorem dL_isStubborn_4 : decode cL_isStubborn 4 = .ok (.iload_n 2, 1) := by decide +kernel
theorem dL_isStubborn_5 : decode cL_isStubborn 5 = .ok (.invokevirtual 35, 3) := by decide +kernel
theorem dL_isStubborn_8 : decode cL_isStubborn 8 = .ok (.ifCond .eq 7, 3) := by decide +kernel
theorem dL_isStubborn_11 : decode cL_isStubborn 11 = .ok (.lconst 1, 1) := by decide +kernel
theorem dL_isStubborn_12 : decode cL_isStubborn 12 = .ok (.goto 4, 3) := by decide +kernel
theorem dL_isStubborn_15 : decode cL_isStubborn 15 = .ok (.lconst 0, 1) := by decide +kernel
theorem dL_isStubborn_16 : decode cL_isStubborn 16 = .ok (.lastore, 1) := by decide +kernel
theorem dL_isStubborn_17 : decode cL_isStubborn 17 = .ok (.goto 7, 3) := by decide +kernel
theorem dL_isStubborn_20 : decode cL_isStubborn 20 = .ok (.astore 4, 2) := by decide +kernel
theorem dL_isStubborn_22 : decode cL_isStubborn 22 = .ok (.iconst 1, 1) := by decide +kernel
theorem dL_isStubborn_23 : decode cL_isStubborn 23 = .ok (.ireturn, 1) := by decide +kernel
theorem dL_isStubborn_24 : decode cL_isStubborn 24 = .ok (.iconst 0, 1) := by decide +kernel
theorem dL_isStubborn_25 : decode cL_isStubborn 25 = .ok (.ireturn, 1) := by decide +kernel
set_option maxRecDepth 20000 in
theorem ggL_neighboursWith_X1_neighboursWith : GoodIn wsL_neighboursWith wsX1_neighboursWith := goodIn_ca (goodIn_r _ [6, 7, 8, 9, 10, 11, 12, 5, 13, 14, 15, 16, 17, 18, 19, 20, 21, 22, 23, 24, 25, 26, 27, 28, 29, 30, 31, 32, 33, 34, 35, 36, 37, 38, 39, 40, 41, 42, 43, 44, 45, 46, 47, 48, 49, 50, 51] (by decide +kernel) (by decide +kernel)) (goodIn_sub (fun _ h => List.mem_cons_of_mem _ (List.mem_append_right _ h)) (by decide +kernel))
set_option maxRecDepth 20000 in
theorem gL_neighboursWith_X1_neighboursWith : GoodIn wsL_neighboursWith (wsV RL 38 RX1 yX1_neighboursWith wsX1_neighboursWith) := goodIn_app (goodIn_of _ (by decide +kernel)) ggL_neighboursWith_X1_neighboursWith
theorem dL_neighboursWith_0 : decode cL_neighboursWith 0 = .ok (.aload 4, 2) := by decide +kernel
theorem dL_neighboursWith_2 : decode cL_neighboursWith 2 = .ok (.iconst 0, 1) := by decide +kernel
theorem dL_neighboursWith_3 : decode cL_neighboursWith 3 = .ok (.aload_n 0, 1) := by decide +kernel
theorem dL_neighboursWith_4 : decode cL_neighboursWith 4 = .ok (.iload_n 1, 1) := by decide +kernel
theorem dL_neighboursWith_5 : decode cL_neighboursWith 5 = .ok (.iload_n 2, 1) := by decide +kernel
theorem dL_neighboursWith_6 : decode cL_neighboursWith 6 = .ok (.iload_n 3, 1) := by decide +kernel
theorem dL_neighboursWith_7 : decode cL_neighboursWith 7 = .ok (.invokevirtual 38, 3) := by decide +kernel
theorem dL_neighboursWith_10 : decode cL_neighboursWith 10 = .ok (.i2l, 1) := by decide +kernel
theorem dL_neighboursWith_11 : decode cL_neighboursWith 11 = .ok (.lastore, 1) := by decide +kernel
theorem dL_neighboursWith_12 : decode cL_neighboursWith 12 = .ok (.goto 7, 3) := by decide +kernel
theorem dL_neighboursWith_15 : decode cL_neighboursWith 15 = .ok (.astore 5, 2) := by decide +kernel
theorem dL_neighboursWith_17 : decode cL_neighboursWith 17 = .ok (.iconst 1, 1) := by decide +kernel
theorem dL_neighboursWith_18 : decode cL_neighboursWith 18 = .ok (.ireturn, 1) := by decide +kernel
theorem dL_neighboursWith_19 : decode cL_neighboursWith 19 = .ok (.iconst 0, 1) := by decide +kernel
theorem dL_neighboursWith_20 : decode cL_neighboursWith 20 = .ok (.ireturn, 1) := by decide +kernel
set_option maxRecDepth 20000 in
theorem ggL_nextColour_X1_nextColour : GoodIn wsL_nextColour wsX1_nextColour := goodIn_ca (goodIn_r _ [6, 7, 8, 9, 10, 11, 12, 5, 13, 14, 15, 16, 17, 18, 19, 20, 21, 22, 23, 24, 25, 26, 27, 28, 29, 30, 31, 32, 33, 34, 35, 36, 37, 38, 39, 40, 41, 42, 43, 44, 45, 46, 47, 48, 49, 50, 51, 52, 53, 54, 55, 56, 57, 58] (by decide +kernel) (by decide +kernel)) (goodIn_sub (fun _ h => List.mem_cons_of_mem _ (List.mem_append_right _ h)) (by decide +kernel))
set_option maxRecDepth 20000 in
theorem gL_nextColour_X1_nextColour : GoodIn wsL_nextColour (wsV RL 41 RX1 yX1_nextColour wsX1_nextColour) := goodIn_app (goodIn_of _ (by decide +kernel)) ggL_nextColour_X1_nextColour
theorem dL_nextColour_0 : decode cL_nextColour 0 = .ok (.aload_n 3, 1) := by decide +kernel
theorem dL_nextColour_1 : decode cL_nextColour 1 = .ok (.iconst 0, 1) := by decide +kernel
theorem dL_nextColour_2 : decode cL_nextColour 2 = .ok (.aload_n 0, 1) := by decide +kernel
theorem dL_nextColour_3 : decode cL_nextColour 3 = .ok (.iload_n 1, 1) := by decide +kernel
theorem dL_nextColour_4 : decode cL_nextColour 4 = .ok (.iload_n 2, 1) := by decide +kernel
theorem dL_nextColour_5 : decode cL_nextColour 5 = .ok (.invokevirtual 41, 3) := by decide +kernel
theorem dL_nextColour_8 : decode cL_nextColour 8 = .ok (.i2l, 1) := by decide +kernel
theorem dL_nextColour_9 : decode cL_nextColour 9 = .ok (.lastore, 1) := by decide +kernel
theorem dL_nextColour_10 : decode cL_nextColour 10 = .ok (.goto 7, 3) := by decide +kernel
theorem dL_nextColour_13 : decode cL_nextColour 13 = .ok (.astore 4, 2) := by decide +kernel
theorem dL_nextColour_15 : decode cL_nextColour 15 = .ok (.iconst 1, 1) := by decide +kernel
theorem dL_nextColour_16 : decode cL_nextColour 16 = .ok (.ireturn, 1) := by decide +kernel
theorem dL_nextColour_17 : decode cL_nextColour 17 = .ok (.iconst 0, 1) := by decide +kernel
theorem dL_nextColour_18 : decode cL_nextColour 18 = .ok (.ireturn, 1) := by decide +kernel
set_option maxRecDepth 20000 in
theorem ggL_regionSize_X1_regionSize : GoodIn wsL_regionSize wsX1_regionSize := goodIn_ca (goodIn_r _ [6, 7, 8, 9, 10, 11, 12, 5, 13, 14, 15, 16, 17, 18, 19, 20, 21, 22, 23, 24, 25, 26, 27, 28, 29, 30, 31, 32, 33, 34, 35, 36, 37, 38, 39, 40, 41, 42, 43, 44, 45, 46, 47, 48, 49, 50, 51, 52, 53, 54, 55, 56, 57, 58] (by decide +kernel) (by decide +kernel)) (goodIn_sub (fun _ h => List.mem_cons_of_mem _ (List.mem_append_right _ h)) (by decide +kernel))
set_option maxRecDepth 20000 in
theorem gL_regionSize_X1_regionSize : GoodIn wsL_regionSize (wsV RL 44 RX1 yX1_regionSize wsX1_regionSize) := goodIn_app (goodIn_of _ (by decide +kernel)) ggL_regionSize_X1_regionSize
theorem dL_regionSize_0 : decode cL_regionSize 0 = .ok (.aload_n 3, 1) := by decide +kernel
theorem dL_regionSize_1 : decode cL_regionSize 1 = .ok (.iconst 0, 1) := by decide +kernel
theorem dL_regionSize_2 : decode cL_regionSize 2 = .ok (.aload_n 0, 1) := by decide +kernel
theorem dL_regionSize_3 : decode cL_regionSize 3 = .ok (.iload_n 1, 1) := by decide +kernel
theorem dL_regionSize_4 : decode cL_regionSize 4 = .ok (.iload_n 2, 1) := by decide +kernel
theorem dL_regionSize_5 : decode cL_regionSize 5 = .ok (.invokevirtual 44, 3) := by decide +kernel
theorem dL_regionSize_8 : decode cL_regionSize 8 = .ok (.i2l, 1) := by decide +kernel
theorem dL_regionSize_9 : decode cL_regionSize 9 = .ok (.lastore, 1) := by decide +kernel
theorem dL_regionSize_10 : decode cL_regionSize 10 = .ok (.goto 7, 3) := by decide +kernel
theorem dL_regionSize_13 : decode cL_regionSize 13 = .ok (.astore 4, 2) := by decide +kernel
theorem dL_regionSize_15 : decode cL_regionSize 15 = .ok (.iconst 1, 1) := by decide +kernel
theorem dL_regionSize_16 : decode cL_regionSize 16 = .ok (.ireturn, 1) := by decide +kernel
theorem dL_regionSize_17 : decode cL_regionSize 17 = .ok (.iconst 0, 1) := by decide +kernel
theorem dL_regionSize_18 : decode cL_regionSize 18 = .ok (.ireturn, 1) := by decide +kernel
set_option maxRecDepth 20000 in
theorem ggL_cellsOf_X1_cellsOf : GoodIn wsL_cellsOf wsX1_cellsOf := goodIn_ca (goodIn_r _ [6, 7, 8, 9, 10, 11, 5, 12, 13, 14, 15, 16, 17, 18, 19, 20, 21, 22, 23, 24, 25, 26, 27, 28, 29, 30, 31, 32, 33, 34, 35, 36, 37, 38, 39, 40, 41, 42, 43] (by decide +kernel) (by decide +kernel)) (goodIn_sub (fun _ h => List.mem_cons_of_mem _ (List.mem_append_right _ h)) (by decide +kernel))
set_option maxRecDepth 20000 in
theorem gL_cellsOf_X1_cellsOf : GoodIn wsL_cellsOf (wsV RL 47 RX1 yX1_cellsOf wsX1_cellsOf) := goodIn_app (goodIn_of _ (by decide +kernel)) ggL_cellsOf_X1_cellsOf
theorem dL_cellsOf_0 : decode cL_cellsOf 0 = .ok (.aload_n 2, 1) := by decide +kernel
theorem dL_cellsOf_1 : decode cL_cellsOf 1 = .ok (.iconst 0, 1) := by decide +kernel
theorem dL_cellsOf_2 : decode cL_cellsOf 2 = .ok (.aload_n 0, 1) := by decide +kernel
theorem dL_cellsOf_3 : decode cL_cellsOf 3 = .ok (.iload_n 1, 1) := by decide +kernel
theorem dL_cellsOf_4 : decode cL_cellsOf 4 = .ok (.invokevirtual 47, 3) := by decide +kernel
theorem dL_cellsOf_7 : decode cL_cellsOf 7 = .ok (.i2l, 1) := by decide +kernel
theorem dL_cellsOf_8 : decode cL_cellsOf 8 = .ok (.lastore, 1) := by decide +kernel
theorem dL_cellsOf_9 : decode cL_cellsOf 9 = .ok (.goto 6, 3) := by decide +kernel
theorem dL_cellsOf_12 : decode cL_cellsOf 12 = .ok (.astore_n 3, 1) := by decide +kernel
theorem dL_cellsOf_13 : decode cL_cellsOf 13 = .ok (.iconst 1, 1) := by decide +kernel
theorem dL_cellsOf_14 : decode cL_cellsOf 14 = .ok (.ireturn, 1) := by decide +kernel
theorem dL_cellsOf_15 : decode cL_cellsOf 15 = .ok (.iconst 0, 1) := by decide +kernel
theorem dL_cellsOf_16 : decode cL_cellsOf 16 = .ok (.ireturn, 1) := by decide +kernel
set_option maxRecDepth 20000 in
theorem ggL_regionsOf_X1_regionsOf : GoodIn wsL_regionsOf wsX1_regionsOf := goodIn_ca (goodIn_r _ [6, 7, 8, 9, 10, 11, 5, 12, 13, 14, 15, 16, 17, 18, 19, 20, 21, 22, 23, 24, 25, 26, 27, 28, 29, 30, 31, 32, 33, 34, 35, 36, 37, 38] (by decide +kernel) (by decide +kernel)) (goodIn_sub (fun _ h => List.mem_cons_of_mem _ (List.mem_append_right _ h)) (by decide +kernel))
set_option maxRecDepth 20000 in
theorem gL_regionsOf_X1_regionsOf : GoodIn wsL_regionsOf (wsV RL 50 RX1 yX1_regionsOf wsX1_regionsOf) := goodIn_app (goodIn_of _ (by decide +kernel)) ggL_regionsOf_X1_regionsOf
theorem dL_regionsOf_0 : decode cL_regionsOf 0 = .ok (.aload_n 2, 1) := by decide +kernel
theorem dL_regionsOf_1 : decode cL_regionsOf 1 = .ok (.iconst 0, 1) := by decide +kernel
theorem dL_regionsOf_2 : decode cL_regionsOf 2 = .ok (.aload_n 0, 1) := by decide +kernel
theorem dL_regionsOf_3 : decode cL_regionsOf 3 = .ok (.iload_n 1, 1) := by decide +kernel
theorem dL_regionsOf_4 : decode cL_regionsOf 4 = .ok (.invokevirtual 50, 3) := by decide +kernel
theorem dL_regionsOf_7 : decode cL_regionsOf 7 = .ok (.i2l, 1) := by decide +kernel
theorem dL_regionsOf_8 : decode cL_regionsOf 8 = .ok (.lastore, 1) := by decide +kernel
theorem dL_regionsOf_9 : decode cL_regionsOf 9 = .ok (.goto 6, 3) := by decide +kernel
theorem dL_regionsOf_12 : decode cL_regionsOf 12 = .ok (.astore_n 3, 1) := by decide +kernel
theorem dL_regionsOf_13 : decode cL_regionsOf 13 = .ok (.iconst 1, 1) := by decide +kernel
theorem dL_regionsOf_14 : decode cL_regionsOf 14 = .ok (.ireturn, 1) := by decide +kernel
theorem dL_regionsOf_15 : decode cL_regionsOf 15 = .ok (.iconst 0, 1) := by decide +kernel
theorem dL_regionsOf_16 : decode cL_regionsOf 16 = .ok (.ireturn, 1) := by decide +kernel
set_option maxRecDepth 20000 in
theorem ggL_greatestRegion_X1_greatestRegion : GoodIn wsL_greatestRegion wsX1_greatestRegion := goodIn_ca (goodIn_r _ [6, 7, 8, 9, 10, 11, 5, 12, 13, 14, 15, 16, 17, 18, 19, 20, 21, 22, 23, 24, 25, 26, 27, 28, 29, 30, 31, 32, 33, 34, 35, 36, 37, 38, 39, 40, 41, 42, 43, 44, 45, 46, 47, 48, 49] (by decide +kernel) (by decide +kernel)) (goodIn_sub (fun _ h => List.mem_cons_of_mem _ (List.mem_append_right _ h)) (by decide +kernel))
set_option maxRecDepth 20000 in
theorem gL_greatestRegion_X1_greatestRegion : GoodIn wsL_greatestRegion (wsV RL 53 RX1 yX1_greatestRegion wsX1_greatestRegion) := goodIn_app (goodIn_of _ (by decide +kernel)) ggL_greatestRegion_X1_greatestRegion
theorem dL_greatestRegion_0 : decode cL_greatestRegion 0 = .ok (.aload_n 2, 1) := by decide +kernel
theorem dL_greatestRegion_1 : decode cL_greatestRegion 1 = .ok (.iconst 0, 1) := by decide +kernel
theorem dL_greatestRegion_2 : decode cL_greatestRegion 2 = .ok (.aload_n 0, 1) := by decide +kernel
theorem dL_greatestRegion_3 : decode cL_greatestRegion 3 = .ok (.iload_n 1, 1) := by decide +kernel
theorem dL_greatestRegion_4 : decode cL_greatestRegion 4 = .ok (.invokevirtual 53, 3) := by decide +kernel
theorem dL_greatestRegion_7 : decode cL_greatestRegion 7 = .ok (.i2l, 1) := by decide +kernel
theorem dL_greatestRegion_8 : decode cL_greatestRegion 8 = .ok (.lastore, 1) := by decide +kernel
theorem dL_greatestRegion_9 : decode cL_greatestRegion 9 = .ok (.goto 6, 3) := by decide +kernel
theorem dL_greatestRegion_12 : decode cL_greatestRegion 12 = .ok (.astore_n 3, 1) := by decide +kernel
theorem dL_greatestRegion_13 : decode cL_greatestRegion 13 = .ok (.iconst 1, 1) := by decide +kernel
theorem dL_greatestRegion_14 : decode cL_greatestRegion 14 = .ok (.ireturn, 1) := by decide +kernel
theorem dL_greatestRegion_15 : decode cL_greatestRegion 15 = .ok (.iconst 0, 1) := by decide +kernel
theorem dL_greatestRegion_16 : decode cL_greatestRegion 16 = .ok (.ireturn, 1) := by decide +kernel
set_option maxRecDepth 20000 in
theorem ggL_cellsAfter_X1_cellsAfter : GoodIn wsL_cellsAfter wsX1_cellsAfter := goodIn_ca (goodIn_ca (goodIn_r _ [7, 8, 9, 10, 11, 12, 13, 6, 14, 15, 16, 17, 18, 19, 20, 21, 22, 23, 24, 25, 26, 27, 28, 29, 30, 31, 32, 33, 34, 35, 36, 37, 38, 39, 40, 41, 42, 43, 44, 45, 46, 47, 48, 49, 50, 51, 52, 53, 54, 55, 56, 57, 58, 59, 60, 61, 62, 63, 64, 65, 66, 67, 68, 69, 70, 71, 72, 73, 74, 75, 76, 77, 78, 79, 80, 81, 82, 83] (by decide +kernel) (by decide +kernel)) (goodIn_sub (fun _ h => List.mem_cons_of_mem _ (List.mem_append_left _ (List.mem_append_right _ h))) (by decide +kernel))) (goodIn_sub (fun _ h => List.mem_cons_of_mem _ (List.mem_append_right _ h)) (by decide +kernel))
set_option maxRecDepth 20000 in
theorem gL_cellsAfter_X1_cellsAfter : GoodIn wsL_cellsAfter (wsV RL 56 RX1 yX1_cellsAfter wsX1_cellsAfter) := goodIn_app (goodIn_of _ (by decide +kernel)) ggL_cellsAfter_X1_cellsAfter
theorem dL_cellsAfter_0 : decode cL_cellsAfter 0 = .ok (.aload_n 3, 1) := by decide +kernel
theorem dL_cellsAfter_1 : decode cL_cellsAfter 1 = .ok (.iconst 0, 1) := by decide +kernel
theorem dL_cellsAfter_2 : decode cL_cellsAfter 2 = .ok (.aload_n 0, 1) := by decide +kernel
theorem dL_cellsAfter_3 : decode cL_cellsAfter 3 = .ok (.iload_n 1, 1) := by decide +kernel
theorem dL_cellsAfter_4 : decode cL_cellsAfter 4 = .ok (.iload_n 2, 1) := by decide +kernel
theorem dL_cellsAfter_5 : decode cL_cellsAfter 5 = .ok (.invokevirtual 56, 3) := by decide +kernel
theorem dL_cellsAfter_8 : decode cL_cellsAfter 8 = .ok (.i2l, 1) := by decide +kernel
theorem dL_cellsAfter_9 : decode cL_cellsAfter 9 = .ok (.lastore, 1) := by decide +kernel
theorem dL_cellsAfter_10 : decode cL_cellsAfter 10 = .ok (.goto 11, 3) := by decide +kernel
theorem dL_cellsAfter_13 : decode cL_cellsAfter 13 = .ok (.astore 4, 2) := by decide +kernel
theorem dL_cellsAfter_15 : decode cL_cellsAfter 15 = .ok (.iconst 1, 1) := by decide +kernel
theorem dL_cellsAfter_16 : decode cL_cellsAfter 16 = .ok (.ireturn, 1) := by decide +kernel
theorem dL_cellsAfter_17 : decode cL_cellsAfter 17 = .ok (.astore 4, 2) := by decide +kernel
theorem dL_cellsAfter_19 : decode cL_cellsAfter 19 = .ok (.iconst 2, 1) := by decide +kernel
theorem dL_cellsAfter_20 : decode cL_cellsAfter 20 = .ok (.ireturn, 1) := by decide +kernel
theorem dL_cellsAfter_21 : decode cL_cellsAfter 21 = .ok (.iconst 0, 1) := by decide +kernel
theorem dL_cellsAfter_22 : decode cL_cellsAfter 22 = .ok (.ireturn, 1) := by decide +kernel
set_option maxRecDepth 20000 in
theorem ggL_wins_X1_wins : GoodIn wsL_wins wsX1_wins := goodIn_ca (goodIn_r _ [6, 7, 8, 9, 10, 5, 11, 12, 13, 14, 15, 16, 17, 18, 19, 20, 21, 22, 23, 24, 25, 26, 27, 28, 29, 30, 31, 32, 33, 34, 35, 36, 37, 38, 39, 40, 41, 42, 43, 44, 45, 46, 47, 48, 49, 50, 51, 52, 53, 54, 55, 56, 57, 58, 59, 60, 61, 62, 63, 64, 65, 66, 67, 68, 69, 70] (by decide +kernel) (by decide +kernel)) (goodIn_sub (fun _ h => List.mem_cons_of_mem _ (List.mem_append_right _ h)) (by decide +kernel))
set_option maxRecDepth 20000 in
theorem gL_wins_X1_wins : GoodIn wsL_wins (wsV RL 59 RX1 yX1_wins wsX1_wins) := goodIn_app (goodIn_of _ (by decide +kernel)) ggL_wins_X1_wins
theorem dL_wins_0 : decode cL_wins 0 = .ok (.aload_n 2, 1) := by decide +kernel
theorem dL_wins_1 : decode cL_wins 1 = .ok (.iconst 0, 1) := by decide +kernel
theorem dL_wins_2 : decode cL_wins 2 = .ok (.aload_n 0, 1) := by decide +kernel
theorem dL_wins_3 : decode cL_wins 3 = .ok (.iload_n 1, 1) := by decide +kernel
theorem dL_wins_4 : decode cL_wins 4 = .ok (.invokevirtual 59, 3) := by decide +kernel
theorem dL_wins_7 : decode cL_wins 7 = .ok (.ifCond .eq 7, 3) := by decide +kernel
theorem dL_wins_10 : decode cL_wins 10 = .ok (.lconst 1, 1) := by decide +kernel
theorem dL_wins_11 : decode cL_wins 11 = .ok (.goto 4, 3) := by decide +kernel
theorem dL_wins_14 : decode cL_wins 14 = .ok (.lconst 0, 1) := by decide +kernel
theorem dL_wins_15 : decode cL_wins 15 = .ok (.lastore, 1) := by decide +kernel
theorem dL_wins_16 : decode cL_wins 16 = .ok (.goto 6, 3) := by decide +kernel
theorem dL_wins_19 : decode cL_wins 19 = .ok (.astore_n 3, 1) := by decide +kernel
theorem dL_wins_20 : decode cL_wins 20 = .ok (.iconst 1, 1) := by decide +kernel
theorem dL_wins_21 : decode cL_wins 21 = .ok (.ireturn, 1) := by decide +kernel
theorem dL_wins_22 : decode cL_wins 22 = .ok (.iconst 0, 1) := by decide +kernel
theorem dL_wins_23 : decode cL_wins 23 = .ok (.ireturn, 1) := by decide +kernel
set_option maxRecDepth 20000 in
theorem ggL_fewestSeeds_X1_fewestSeeds : GoodIn wsL_fewestSeeds wsX1_fewestSeeds := goodIn_ca (goodIn_r _ [6, 7, 8, 9, 10, 5, 11, 12, 13, 14, 15, 16, 17, 18, 19, 20, 21, 22, 23, 24, 25, 26, 27, 28, 29, 30, 31, 32, 33, 34, 35, 36, 37, 38, 39, 40, 41, 42, 43, 44, 45, 46, 47, 48, 49, 50, 51, 52, 53, 54, 55, 56, 57, 58, 59, 60, 61, 62, 63, 64, 65, 66, 67, 68, 69, 70, 71, 72, 73, 74, 75, 76, 77, 78, 79] (by decide +kernel) (by decide +kernel)) (goodIn_sub (fun _ h => List.mem_cons_of_mem _ (List.mem_append_right _ h)) (by decide +kernel))
set_option maxRecDepth 20000 in
theorem gL_fewestSeeds_X1_fewestSeeds : GoodIn wsL_fewestSeeds (wsV RL 63 RX1 yX1_fewestSeeds wsX1_fewestSeeds) := goodIn_app (goodIn_of _ (by decide +kernel)) ggL_fewestSeeds_X1_fewestSeeds
theorem dL_fewestSeeds_0 : decode cL_fewestSeeds 0 = .ok (.aload_n 2, 1) := by decide +kernel
theorem dL_fewestSeeds_1 : decode cL_fewestSeeds 1 = .ok (.iconst 0, 1) := by decide +kernel
theorem dL_fewestSeeds_2 : decode cL_fewestSeeds 2 = .ok (.aload_n 0, 1) := by decide +kernel
theorem dL_fewestSeeds_3 : decode cL_fewestSeeds 3 = .ok (.iload_n 1, 1) := by decide +kernel
theorem dL_fewestSeeds_4 : decode cL_fewestSeeds 4 = .ok (.invokevirtual 63, 3) := by decide +kernel
theorem dL_fewestSeeds_7 : decode cL_fewestSeeds 7 = .ok (.i2l, 1) := by decide +kernel
theorem dL_fewestSeeds_8 : decode cL_fewestSeeds 8 = .ok (.lastore, 1) := by decide +kernel
theorem dL_fewestSeeds_9 : decode cL_fewestSeeds 9 = .ok (.goto 6, 3) := by decide +kernel
theorem dL_fewestSeeds_12 : decode cL_fewestSeeds 12 = .ok (.astore_n 3, 1) := by decide +kernel
theorem dL_fewestSeeds_13 : decode cL_fewestSeeds 13 = .ok (.iconst 1, 1) := by decide +kernel
theorem dL_fewestSeeds_14 : decode cL_fewestSeeds 14 = .ok (.ireturn, 1) := by decide +kernel
theorem dL_fewestSeeds_15 : decode cL_fewestSeeds 15 = .ok (.iconst 0, 1) := by decide +kernel
theorem dL_fewestSeeds_16 : decode cL_fewestSeeds 16 = .ok (.ireturn, 1) := by decide +kernel
set_option maxRecDepth 20000 in
theorem ggL_bestCell_X1_bestCell : GoodIn wsL_bestCell wsX1_bestCell := goodIn_ca (goodIn_ca (goodIn_r _ [7, 8, 9, 10, 11, 12, 13, 14, 15, 6, 16, 17, 18, 19, 20, 21, 22, 23, 24, 25, 26, 27, 28, 29, 30, 31, 32, 33, 34, 35, 36, 37, 38, 39, 40, 41, 42, 43, 44, 45, 46, 47, 48, 49, 50, 51, 52, 53, 54, 55, 56, 57, 58, 59, 60, 61, 62, 63, 64, 65, 66, 67, 68, 69, 70, 71, 72, 73, 74, 75, 76, 77, 78, 79, 80, 81, 82, 83, 84, 85] (by decide +kernel) (by decide +kernel)) (goodIn_sub (fun _ h => List.mem_cons_of_mem _ (List.mem_append_left _ (List.mem_append_right _ h))) (by decide +kernel))) (goodIn_sub (fun _ h => List.mem_cons_of_mem _ (List.mem_append_right _ h)) (by decide +kernel))
set_option maxRecDepth 20000 in
theorem gL_bestCell_X1_bestCell : GoodIn wsL_bestCell (wsV RL 66 RX1 yX1_bestCell wsX1_bestCell) := goodIn_app (goodIn_of _ (by decide +kernel)) ggL_bestCell_X1_bestCell
theorem dL_bestCell_0 : decode cL_bestCell 0 = .ok (.aload_n 3, 1) := by decide +kernel
theorem dL_bestCell_1 : decode cL_bestCell 1 = .ok (.iconst 0, 1) := by decide +kernel
theorem dL_bestCell_2 : decode cL_bestCell 2 = .ok (.aload_n 0, 1) := by decide +kernel
theorem dL_bestCell_3 : decode cL_bestCell 3 = .ok (.iload_n 1, 1) := by decide +kernel
theorem dL_bestCell_4 : decode cL_bestCell 4 = .ok (.iload_n 2, 1) := by decide +kernel
theorem dL_bestCell_5 : decode cL_bestCell 5 = .ok (.invokevirtual 66, 3) := by decide +kernel
theorem dL_bestCell_8 : decode cL_bestCell 8 = .ok (.i2l, 1) := by decide +kernel
theorem dL_bestCell_9 : decode cL_bestCell 9 = .ok (.lastore, 1) := by decide +kernel
theorem dL_bestCell_10 : decode cL_bestCell 10 = .ok (.goto 11, 3) := by decide +kernel
theorem dL_bestCell_13 : decode cL_bestCell 13 = .ok (.astore 4, 2) := by decide +kernel
theorem dL_bestCell_15 : decode cL_bestCell 15 = .ok (.iconst 1, 1) := by decide +kernel
theorem dL_bestCell_16 : decode cL_bestCell 16 = .ok (.ireturn, 1) := by decide +kernel
theorem dL_bestCell_17 : decode cL_bestCell 17 = .ok (.astore 4, 2) := by decide +kernel
theorem dL_bestCell_19 : decode cL_bestCell 19 = .ok (.iconst 2, 1) := by decide +kernel
theorem dL_bestCell_20 : decode cL_bestCell 20 = .ok (.ireturn, 1) := by decide +kernel
theorem dL_bestCell_21 : decode cL_bestCell 21 = .ok (.iconst 0, 1) := by decide +kernel
theorem dL_bestCell_22 : decode cL_bestCell 22 = .ok (.ireturn, 1) := by decide +kernel
set_option maxRecDepth 20000 in
theorem ggL_share_X1_share : GoodIn wsL_share wsX1_share := goodIn_ca (goodIn_r _ [6, 7, 8, 9, 10, 11, 12, 13, 5, 14, 15, 16, 17, 18, 19, 20, 21, 22, 23, 24, 25, 26, 27, 28, 29, 30, 31, 32, 33, 34, 35, 36, 37, 38, 39, 40, 41, 42, 43, 44, 45] (by decide +kernel) (by decide +kernel)) (goodIn_sub (fun _ h => List.mem_cons_of_mem _ (List.mem_append_right _ h)) (by decide +kernel))
set_option maxRecDepth 20000 in
theorem gL_share_X1_share : GoodIn wsL_share (wsV RL 69 RX1 yX1_share wsX1_share) := goodIn_app (goodIn_of _ (by decide +kernel)) ggL_share_X1_share
theorem dL_share_0 : decode cL_share 0 = .ok (.aload_n 2, 1) := by decide +kernel
theorem dL_share_1 : decode cL_share 1 = .ok (.iconst 0, 1) := by decide +kernel
theorem dL_share_2 : decode cL_share 2 = .ok (.aload_n 0, 1) := by decide +kernel
theorem dL_share_3 : decode cL_share 3 = .ok (.iload_n 1, 1) := by decide +kernel
theorem dL_share_4 : decode cL_share 4 = .ok (.invokevirtual 69, 3) := by decide +kernel
theorem dL_share_7 : decode cL_share 7 = .ok (.dastore, 1) := by decide +kernel
theorem dL_share_8 : decode cL_share 8 = .ok (.goto 6, 3) := by decide +kernel
theorem dL_share_11 : decode cL_share 11 = .ok (.astore_n 3, 1) := by decide +kernel
theorem dL_share_12 : decode cL_share 12 = .ok (.iconst 1, 1) := by decide +kernel
theorem dL_share_13 : decode cL_share 13 = .ok (.ireturn, 1) := by decide +kernel
theorem dL_share_14 : decode cL_share 14 = .ok (.iconst 0, 1) := by decide +kernel
theorem dL_share_15 : decode cL_share 15 = .ok (.ireturn, 1) := by decide +kernel
set_option maxRecDepth 20000 in
theorem ggL_law_X1_init : GoodIn wsL_law wsX1_init := goodIn_r _ [10, 11, 12, 13, 14, 15, 16, 17, 18, 19, 20, 21, 22, 23, 24, 25, 26, 27, 28, 29, 30, 31, 32, 33, 34, 35, 36, 37, 2, 38, 619, 620, 621, 622, 623, 624, 600, 601, 602, 603, 604] (by decide +kernel) (by decide +kernel)
set_option maxRecDepth 20000 in
theorem gL_law_X1_init : GoodIn wsL_law (wsX1_init) := ggL_law_X1_init
set_option maxRecDepth 20000 in
theorem ggL_law_X2_init : GoodIn wsL_law wsX2_init := goodIn_r _ [41, 42, 12, 13, 43, 27, 44, 45, 46, 47, 48, 49, 50, 51, 52, 53, 54, 55, 5, 56, 57, 58, 59, 605, 606, 607, 608, 609, 610, 611, 612, 613, 614, 615, 616, 617, 618] (by decide +kernel) (by decide +kernel)
set_option maxRecDepth 20000 in
theorem gL_law_X2_init : GoodIn wsL_law (wsX2_init) := ggL_law_X2_init
set_option maxRecDepth 20000 in
theorem ggL_law_L_newMap : GoodIn wsL_law wsL_newMap := goodIn_ca (goodIn_r _ [63, 64, 65, 66, 67, 2, 68, 69, 70, 19, 20, 21, 17, 71, 72, 73, 31, 32, 33, 16, 34, 35, 36, 28, 37, 38, 600, 601, 602, 603, 604, 619, 620, 621, 622, 623, 624] (by decide +kernel) (by decide +kernel)) (goodIn_sub (fun _ h => List.mem_append_left _ (List.mem_append_right _ h)) (by decide +kernel))
set_option maxRecDepth 20000 in
theorem gL_law_L_newMap : GoodIn wsL_law (va_wsS RL 77 yL_newMap wsL_newMap) := goodIn_app (goodIn_of _ (by decide +kernel)) ggL_law_L_newMap
set_option maxRecDepth 20000 in
theorem ggL_law_X2_newMap : GoodIn wsL_law wsX2_newMap := goodIn_r _ [77, 78, 79, 80, 5, 81, 82, 83, 84, 85, 53, 54, 55, 56, 57, 58, 59, 44, 47, 48, 86, 87, 88, 89, 605, 606, 607, 608, 609, 610, 611, 612, 613, 614, 615, 616, 617, 618] (by decide +kernel) (by decide +kernel)
set_option maxRecDepth 20000 in
theorem gL_law_X2_newMap : GoodIn wsL_law (wsV RL 82 RX2 yX2_newMap wsX2_newMap) := goodIn_app (goodIn_of _ (by decide +kernel)) ggL_law_X2_newMap
set_option maxRecDepth 20000 in
theorem ggL_law_X2_thrown : GoodIn wsL_law wsX2_thrown := goodIn_r _ [93, 78, 605, 606, 607, 608, 609, 610, 611, 612, 613, 614, 615, 616, 617, 618] (by decide +kernel) (by decide +kernel)
set_option maxRecDepth 20000 in
theorem gL_law_X2_thrown : GoodIn wsL_law (wsV RL 83 RX2 yX2_thrown wsX2_thrown) := goodIn_app (goodIn_of _ (by decide +kernel)) ggL_law_X2_thrown
set_option maxRecDepth 20000 in
theorem ggL_law_L_paint : GoodIn wsL_law wsL_paint := goodIn_ca (goodIn_r _ [96, 97, 98, 99, 100, 2, 101, 102, 103, 17, 104, 105, 106, 107, 19, 20, 108, 109, 110, 111, 112, 113, 114, 37, 38, 115, 116, 117, 16, 118, 28, 119, 120, 121, 122, 123, 124, 125, 600, 601, 602, 603, 604, 619, 620, 621, 622, 623, 624] (by decide +kernel) (by decide +kernel)) (goodIn_sub (fun _ h => List.mem_append_right _ h) (by decide +kernel))
set_option maxRecDepth 20000 in
theorem gL_law_L_paint : GoodIn wsL_law (va_wsS RL 87 yL_paint wsL_paint) := goodIn_app (goodIn_of _ (by decide +kernel)) ggL_law_L_paint
set_option maxRecDepth 20000 in
theorem ggL_law_X2_paint : GoodIn wsL_law wsX2_paint := goodIn_r _ [129, 78, 44, 57, 130, 131, 132, 5, 133, 58, 79, 80, 81, 134, 135, 136, 82, 83, 84, 85, 605, 606, 607, 608, 609, 610, 611, 612, 613, 614, 615, 616, 617, 618] (by decide +kernel) (by decide +kernel)
set_option maxRecDepth 20000 in
theorem gL_law_X2_paint : GoodIn wsL_law (wsV RL 90 RX2 yX2_paint wsX2_paint) := goodIn_app (goodIn_of _ (by decide +kernel)) ggL_law_X2_paint
set_option maxRecDepth 20000 in
theorem ggL_law_L_turnStubborn : GoodIn wsL_law wsL_turnStubborn := goodIn_ca (goodIn_r _ [139, 97, 140, 141, 142, 2, 143, 102, 103, 17, 144, 104, 105, 106, 107, 19, 20, 114, 37, 38, 600, 601, 602, 603, 604, 619, 620, 621, 622, 623, 624] (by decide +kernel) (by decide +kernel)) (goodIn_sub (fun _ h => List.mem_append_right _ h) (by decide +kernel))
set_option maxRecDepth 20000 in
theorem gL_law_L_turnStubborn : GoodIn wsL_law (va_wsS RL 91 yL_turnStubborn wsL_turnStubborn) := goodIn_app (goodIn_of _ (by decide +kernel)) ggL_law_L_turnStubborn
set_option maxRecDepth 20000 in
theorem ggL_law_X2_turnStubborn : GoodIn wsL_law wsX2_turnStubborn := goodIn_r _ [148, 78, 47, 57, 130, 131, 132, 5, 133, 58, 79, 80, 81, 605, 606, 607, 608, 609, 610, 611, 612, 613, 614, 615, 616, 617, 618] (by decide +kernel) (by decide +kernel)
set_option maxRecDepth 20000 in
theorem gL_law_X2_turnStubborn : GoodIn wsL_law (wsV RL 93 RX2 yX2_turnStubborn wsX2_turnStubborn) := goodIn_app (goodIn_of _ (by decide +kernel)) ggL_law_X2_turnStubborn
set_option maxRecDepth 20000 in
theorem ggL_law_L_setNeed : GoodIn wsL_law wsL_setNeed := goodIn_ca (goodIn_r _ [151, 64, 152, 153, 154, 2, 155, 69, 70, 17, 156, 600, 601, 602, 603, 604, 619, 620, 621, 622, 623, 624] (by decide +kernel) (by decide +kernel)) (goodIn_sub (fun _ h => List.mem_append_left _ (List.mem_append_right _ h)) (by decide +kernel))
set_option maxRecDepth 20000 in
theorem gL_law_L_setNeed : GoodIn wsL_law (va_wsS RL 94 yL_setNeed wsL_setNeed) := goodIn_app (goodIn_of _ (by decide +kernel)) ggL_law_L_setNeed
set_option maxRecDepth 20000 in
theorem ggL_law_X2_setNeed : GoodIn wsL_law wsX2_setNeed := goodIn_r _ [160, 78, 43, 79, 80, 5, 81, 82, 83, 84, 85, 605, 606, 607, 608, 609, 610, 611, 612, 613, 614, 615, 616, 617, 618] (by decide +kernel) (by decide +kernel)
set_option maxRecDepth 20000 in
theorem gL_law_X2_setNeed : GoodIn wsL_law (wsV RL 97 RX2 yX2_setNeed wsX2_setNeed) := goodIn_app (goodIn_of _ (by decide +kernel)) ggL_law_X2_setNeed
set_option maxRecDepth 20000 in
theorem ggL_law_L_pass : GoodIn wsL_law wsL_pass := goodIn_ca (goodIn_r _ [163, 64, 164, 165, 166, 2, 167, 69, 70, 21, 17, 168, 169, 170, 16, 171, 172, 173, 174, 175, 30, 26, 28, 176, 177, 178, 179, 29, 35, 36, 180, 181, 182, 183, 184, 185, 186, 187, 188, 189, 190, 191, 192, 193, 600, 601, 602, 603, 604, 619, 620, 621, 622, 623, 624] (by decide +kernel) (by decide +kernel)) (goodIn_sub (fun _ h => List.mem_append_left _ (List.mem_append_right _ h)) (by decide +kernel))
set_option maxRecDepth 20000 in
theorem gL_law_L_pass : GoodIn wsL_law (va_wsS RL 98 yL_pass wsL_pass) := goodIn_app (goodIn_of _ (by decide +kernel)) ggL_law_L_pass
set_option maxRecDepth 20000 in
theorem ggL_law_X2_pass : GoodIn wsL_law wsX2_pass := goodIn_r _ [197, 78, 59, 79, 80, 5, 81, 82, 83, 84, 85, 198, 199, 200, 201, 45, 44, 202, 203, 204, 205, 86, 87, 88, 89, 57, 58, 206, 207, 208, 209, 47, 43, 210, 211, 212, 213, 48, 605, 606, 607, 608, 609, 610, 611, 612, 613, 614, 615, 616, 617, 618] (by decide +kernel) (by decide +kernel)
set_option maxRecDepth 20000 in
theorem gL_law_X2_pass : GoodIn wsL_law (wsV RL 100 RX2 yX2_pass wsX2_pass) := goodIn_app (goodIn_of _ (by decide +kernel)) ggL_law_X2_pass
set_option maxRecDepth 20000 in
theorem ggL_law_L_colourAt : GoodIn wsL_law wsL_colourAt := goodIn_ca (goodIn_r _ [216, 97, 217, 218, 219, 2, 220, 102, 103, 17, 104, 105, 106, 107, 19, 20, 114, 37, 38, 115, 116, 117, 16, 118, 28, 119, 120, 121, 600, 601, 602, 603, 604, 619, 620, 621, 622, 623, 624] (by decide +kernel) (by decide +kernel)) (goodIn_sub (fun _ h => List.mem_append_right _ h) (by decide +kernel))
set_option maxRecDepth 20000 in
theorem gL_law_L_colourAt : GoodIn wsL_law (va_wsS RL 101 yL_colourAt wsL_colourAt) := goodIn_app (goodIn_of _ (by decide +kernel)) ggL_law_L_colourAt
set_option maxRecDepth 20000 in
theorem ggL_law_X2_colourAt : GoodIn wsL_law wsX2_colourAt := goodIn_r _ [224, 78, 44, 57, 130, 131, 132, 5, 133, 58, 79, 80, 81, 82, 83, 84, 85, 605, 606, 607, 608, 609, 610, 611, 612, 613, 614, 615, 616, 617, 618] (by decide +kernel) (by decide +kernel)
set_option maxRecDepth 20000 in
theorem gL_law_X2_colourAt : GoodIn wsL_law (wsV RL 103 RX2 yX2_colourAt wsX2_colourAt) := goodIn_app (goodIn_of _ (by decide +kernel)) ggL_law_X2_colourAt
set_option maxRecDepth 20000 in
theorem ggL_law_L_isStubborn : GoodIn wsL_law wsL_isStubborn := goodIn_ca (goodIn_r _ [227, 97, 228, 229, 230, 2, 231, 102, 103, 17, 144, 104, 105, 106, 107, 19, 20, 114, 37, 38, 600, 601, 602, 603, 604, 619, 620, 621, 622, 623, 624] (by decide +kernel) (by decide +kernel)) (goodIn_sub (fun _ h => List.mem_append_right _ h) (by decide +kernel))
set_option maxRecDepth 20000 in
theorem gL_law_L_isStubborn : GoodIn wsL_law (va_wsS RL 104 yL_isStubborn wsL_isStubborn) := goodIn_app (goodIn_of _ (by decide +kernel)) ggL_law_L_isStubborn
set_option maxRecDepth 20000 in
theorem ggL_law_X2_isStubborn : GoodIn wsL_law wsX2_isStubborn := goodIn_r _ [235, 78, 47, 57, 130, 131, 132, 5, 133, 58, 79, 80, 81, 605, 606, 607, 608, 609, 610, 611, 612, 613, 614, 615, 616, 617, 618] (by decide +kernel) (by decide +kernel)
set_option maxRecDepth 20000 in
theorem gL_law_X2_isStubborn : GoodIn wsL_law (wsV RL 106 RX2 yX2_isStubborn wsX2_isStubborn) := goodIn_app (goodIn_of _ (by decide +kernel)) ggL_law_X2_isStubborn
set_option maxRecDepth 20000 in
theorem ggL_law_L_neighboursWith : GoodIn wsL_law wsL_neighboursWith := goodIn_ca (goodIn_r _ [238, 97, 239, 240, 241, 2, 242, 102, 103, 17, 104, 105, 106, 107, 19, 20, 108, 109, 110, 111, 112, 113, 114, 37, 38, 243, 244, 245, 246, 247, 248, 16, 249, 28, 187, 188, 189, 190, 191, 192, 193, 600, 601, 602, 603, 604, 619, 620, 621, 622, 623, 624] (by decide +kernel) (by decide +kernel)) (goodIn_sub (fun _ h => List.mem_append_right _ h) (by decide +kernel))
set_option maxRecDepth 20000 in
theorem gL_law_L_neighboursWith : GoodIn wsL_law (va_wsS RL 107 yL_neighboursWith wsL_neighboursWith) := goodIn_app (goodIn_of _ (by decide +kernel)) ggL_law_L_neighboursWith
set_option maxRecDepth 20000 in
theorem ggL_law_X2_neighboursWith : GoodIn wsL_law wsX2_neighboursWith := goodIn_r _ [253, 78, 57, 130, 131, 132, 5, 133, 58, 79, 80, 81, 134, 135, 136, 210, 211, 212, 213, 48, 44, 82, 83, 84, 85, 605, 606, 607, 608, 609, 610, 611, 612, 613, 614, 615, 616, 617, 618] (by decide +kernel) (by decide +kernel)
set_option maxRecDepth 20000 in
theorem gL_law_X2_neighboursWith : GoodIn wsL_law (wsV RL 109 RX2 yX2_neighboursWith wsX2_neighboursWith) := goodIn_app (goodIn_of _ (by decide +kernel)) ggL_law_X2_neighboursWith
set_option maxRecDepth 20000 in
theorem ggL_law_L_nextColour : GoodIn wsL_law wsL_nextColour := goodIn_ca (goodIn_r _ [256, 97, 257, 258, 259, 2, 260, 102, 103, 17, 104, 105, 106, 107, 19, 20, 261, 173, 174, 16, 175, 30, 26, 28, 176, 177, 178, 179, 29, 35, 36, 180, 181, 182, 114, 37, 38, 262, 263, 264, 265, 119, 120, 121, 266, 116, 117, 118, 600, 601, 602, 603, 604, 619, 620, 621, 622, 623, 624] (by decide +kernel) (by decide +kernel)) (goodIn_sub (fun _ h => List.mem_append_right _ h) (by decide +kernel))
set_option maxRecDepth 20000 in
theorem gL_law_L_nextColour : GoodIn wsL_law (va_wsS RL 110 yL_nextColour wsL_nextColour) := goodIn_app (goodIn_of _ (by decide +kernel)) ggL_law_L_nextColour
set_option maxRecDepth 20000 in
theorem ggL_law_X2_nextColour : GoodIn wsL_law wsX2_nextColour := goodIn_r _ [270, 78, 57, 130, 131, 132, 5, 133, 58, 79, 80, 81, 206, 207, 208, 209, 47, 44, 43, 210, 211, 212, 213, 48, 82, 83, 84, 85, 605, 606, 607, 608, 609, 610, 611, 612, 613, 614, 615, 616, 617, 618] (by decide +kernel) (by decide +kernel)
set_option maxRecDepth 20000 in
theorem gL_law_X2_nextColour : GoodIn wsL_law (wsV RL 112 RX2 yX2_nextColour wsX2_nextColour) := goodIn_app (goodIn_of _ (by decide +kernel)) ggL_law_X2_nextColour
set_option maxRecDepth 20000 in
theorem ggL_law_L_regionSize : GoodIn wsL_law wsL_regionSize := goodIn_ca (goodIn_r _ [273, 97, 274, 275, 276, 2, 277, 102, 103, 17, 104, 105, 106, 107, 19, 20, 114, 37, 38, 278, 279, 280, 16, 281, 266, 116, 117, 118, 28, 119, 120, 121, 282, 247, 248, 249, 283, 284, 285, 244, 245, 286, 188, 189, 190, 191, 192, 193, 600, 601, 602, 603, 604, 619, 620, 621, 622, 623, 624] (by decide +kernel) (by decide +kernel)) (goodIn_sub (fun _ h => List.mem_append_right _ h) (by decide +kernel))
set_option maxRecDepth 20000 in
theorem gL_law_L_regionSize : GoodIn wsL_law (va_wsS RL 113 yL_regionSize wsL_regionSize) := goodIn_app (goodIn_of _ (by decide +kernel)) ggL_law_L_regionSize
set_option maxRecDepth 20000 in
theorem ggL_law_X2_regionSize : GoodIn wsL_law wsX2_regionSize := goodIn_r _ [290, 78, 57, 130, 131, 132, 5, 133, 58, 79, 80, 81, 82, 83, 84, 85, 291, 292, 293, 294, 295, 50, 44, 86, 87, 88, 89, 296, 297, 298, 299, 52, 48, 51, 300, 301, 302, 303, 605, 606, 607, 608, 609, 610, 611, 612, 613, 614, 615, 616, 617, 618] (by decide +kernel) (by decide +kernel)
set_option maxRecDepth 20000 in
theorem gL_law_X2_regionSize : GoodIn wsL_law (wsV RL 115 RX2 yX2_regionSize wsX2_regionSize) := goodIn_app (goodIn_of _ (by decide +kernel)) ggL_law_X2_regionSize
set_option maxRecDepth 20000 in
theorem ggL_law_X1_width : GoodIn wsL_law wsX1_width := goodIn_r _ [307, 19, 600, 601, 602, 603, 604] (by decide +kernel) (by decide +kernel)
set_option maxRecDepth 20000 in
theorem gL_law_X1_width : GoodIn wsL_law (wsV RL 116 RX1 yX1_width wsX1_width) := goodIn_app (goodIn_of _ (by decide +kernel)) ggL_law_X1_width
set_option maxRecDepth 20000 in
theorem ggL_law_X2_width : GoodIn wsL_law wsX2_width := goodIn_r _ [311, 78, 57, 605, 606, 607, 608, 609, 610, 611, 612, 613, 614, 615, 616, 617, 618] (by decide +kernel) (by decide +kernel)
set_option maxRecDepth 20000 in
theorem gL_law_X2_width : GoodIn wsL_law (wsV RL 119 RX2 yX2_width wsX2_width) := goodIn_app (goodIn_of _ (by decide +kernel)) ggL_law_X2_width
set_option maxRecDepth 20000 in
theorem ggL_law_X1_height : GoodIn wsL_law wsX1_height := goodIn_r _ [315, 20, 600, 601, 602, 603, 604] (by decide +kernel) (by decide +kernel)
set_option maxRecDepth 20000 in
theorem gL_law_X1_height : GoodIn wsL_law (wsV RL 120 RX1 yX1_height wsX1_height) := goodIn_app (goodIn_of _ (by decide +kernel)) ggL_law_X1_height
set_option maxRecDepth 20000 in
theorem ggL_law_X2_height : GoodIn wsL_law wsX2_height := goodIn_r _ [319, 78, 58, 605, 606, 607, 608, 609, 610, 611, 612, 613, 614, 615, 616, 617, 618] (by decide +kernel) (by decide +kernel)
set_option maxRecDepth 20000 in
theorem gL_law_X2_height : GoodIn wsL_law (wsV RL 123 RX2 yX2_height wsX2_height) := goodIn_app (goodIn_of _ (by decide +kernel)) ggL_law_X2_height
set_option maxRecDepth 20000 in
theorem ggL_law_X1_need : GoodIn wsL_law wsX1_need := goodIn_r _ [323, 17, 156, 600, 601, 602, 603, 604, 619, 620, 621, 622, 623, 624] (by decide +kernel) (by decide +kernel)
set_option maxRecDepth 20000 in
theorem gL_law_X1_need : GoodIn wsL_law (wsV RL 124 RX1 yX1_need wsX1_need) := goodIn_app (goodIn_of _ (by decide +kernel)) ggL_law_X1_need
set_option maxRecDepth 20000 in
theorem ggL_law_X2_need : GoodIn wsL_law wsX2_need := goodIn_r _ [327, 78, 43, 605, 606, 607, 608, 609, 610, 611, 612, 613, 614, 615, 616, 617, 618] (by decide +kernel) (by decide +kernel)
set_option maxRecDepth 20000 in
theorem gL_law_X2_need : GoodIn wsL_law (wsV RL 127 RX2 yX2_need wsX2_need) := goodIn_app (goodIn_of _ (by decide +kernel)) ggL_law_X2_need
set_option maxRecDepth 20000 in
theorem ggL_law_X1_waves : GoodIn wsL_law wsX1_waves := goodIn_r _ [331, 21, 600, 601, 602, 603, 604] (by decide +kernel) (by decide +kernel)
set_option maxRecDepth 20000 in
theorem gL_law_X1_waves : GoodIn wsL_law (wsV RL 128 RX1 yX1_waves wsX1_waves) := goodIn_app (goodIn_of _ (by decide +kernel)) ggL_law_X1_waves
set_option maxRecDepth 20000 in
theorem ggL_law_X2_waves : GoodIn wsL_law wsX2_waves := goodIn_r _ [335, 78, 59, 605, 606, 607, 608, 609, 610, 611, 612, 613, 614, 615, 616, 617, 618] (by decide +kernel) (by decide +kernel)
set_option maxRecDepth 20000 in
theorem gL_law_X2_waves : GoodIn wsL_law (wsV RL 131 RX2 yX2_waves wsX2_waves) := goodIn_app (goodIn_of _ (by decide +kernel)) ggL_law_X2_waves
set_option maxRecDepth 20000 in
theorem ggL_law_X1_stubbornCells : GoodIn wsL_law wsX1_stubbornCells := goodIn_r _ [339, 17, 144, 187, 188, 189, 190, 191, 192, 193, 600, 601, 602, 603, 604, 619, 620, 621, 622, 623, 624] (by decide +kernel) (by decide +kernel)
set_option maxRecDepth 20000 in
theorem gL_law_X1_stubbornCells : GoodIn wsL_law (wsV RL 132 RX1 yX1_stubbornCells wsX1_stubbornCells) := goodIn_app (goodIn_of _ (by decide +kernel)) ggL_law_X1_stubbornCells
set_option maxRecDepth 20000 in
theorem ggL_law_X2_stubbornCells : GoodIn wsL_law wsX2_stubbornCells := goodIn_r _ [343, 78, 344, 345, 346, 5, 347, 47, 86, 87, 88, 89, 57, 58, 605, 606, 607, 608, 609, 610, 611, 612, 613, 614, 615, 616, 617, 618] (by decide +kernel) (by decide +kernel)
set_option maxRecDepth 20000 in
theorem gL_law_X2_stubbornCells : GoodIn wsL_law (wsV RL 135 RX2 yX2_stubbornCells wsX2_stubbornCells) := goodIn_app (goodIn_of _ (by decide +kernel)) ggL_law_X2_stubbornCells
set_option maxRecDepth 20000 in
theorem ggL_law_L_cellsOf : GoodIn wsL_law wsL_cellsOf := goodIn_ca (goodIn_r _ [350, 97, 351, 352, 353, 2, 354, 102, 103, 17, 108, 109, 110, 111, 112, 113, 355, 356, 357, 16, 358, 282, 247, 248, 249, 28, 286, 188, 189, 190, 191, 192, 193, 600, 601, 602, 603, 604, 619, 620, 621, 622, 623, 624] (by decide +kernel) (by decide +kernel)) (goodIn_sub (fun _ h => List.mem_append_right _ h) (by decide +kernel))
set_option maxRecDepth 20000 in
theorem gL_law_L_cellsOf : GoodIn wsL_law (va_wsS RL 136 yL_cellsOf wsL_cellsOf) := goodIn_app (goodIn_of _ (by decide +kernel)) ggL_law_L_cellsOf
set_option maxRecDepth 20000 in
theorem ggL_law_X2_cellsOf : GoodIn wsL_law wsX2_cellsOf := goodIn_r _ [362, 78, 134, 135, 5, 136, 79, 80, 81, 363, 364, 365, 366, 44, 86, 87, 88, 89, 57, 58, 82, 83, 84, 85, 605, 606, 607, 608, 609, 610, 611, 612, 613, 614, 615, 616, 617, 618] (by decide +kernel) (by decide +kernel)
set_option maxRecDepth 20000 in
theorem gL_law_X2_cellsOf : GoodIn wsL_law (wsV RL 138 RX2 yX2_cellsOf wsX2_cellsOf) := goodIn_app (goodIn_of _ (by decide +kernel)) ggL_law_X2_cellsOf
set_option maxRecDepth 20000 in
theorem ggL_law_L_regionsOf : GoodIn wsL_law wsL_regionsOf := goodIn_ca (goodIn_r _ [369, 97, 370, 371, 372, 2, 373, 102, 103, 17, 111, 112, 113, 374, 375, 376, 16, 377, 282, 247, 248, 249, 28, 283, 284, 285, 244, 245, 600, 601, 602, 603, 604, 619, 620, 621, 622, 623, 624] (by decide +kernel) (by decide +kernel)) (goodIn_sub (fun _ h => List.mem_append_right _ h) (by decide +kernel))
set_option maxRecDepth 20000 in
theorem gL_law_L_regionsOf : GoodIn wsL_law (va_wsS RL 139 yL_regionsOf wsL_regionsOf) := goodIn_app (goodIn_of _ (by decide +kernel)) ggL_law_L_regionsOf
set_option maxRecDepth 20000 in
theorem ggL_law_X2_regionsOf : GoodIn wsL_law wsX2_regionsOf := goodIn_r _ [381, 78, 382, 383, 5, 384, 79, 80, 81, 82, 83, 84, 85, 291, 292, 293, 294, 295, 50, 44, 86, 87, 88, 89, 57, 58, 296, 297, 298, 299, 52, 48, 51, 385, 386, 387, 388, 389, 390, 391, 392, 300, 301, 302, 303, 605, 606, 607, 608, 609, 610, 611, 612, 613, 614, 615, 616, 617, 618] (by decide +kernel) (by decide +kernel)
set_option maxRecDepth 20000 in
theorem gL_law_X2_regionsOf : GoodIn wsL_law (wsV RL 141 RX2 yX2_regionsOf wsX2_regionsOf) := goodIn_app (goodIn_of _ (by decide +kernel)) ggL_law_X2_regionsOf
set_option maxRecDepth 20000 in
theorem ggL_law_L_greatestRegion : GoodIn wsL_law wsL_greatestRegion := goodIn_ca (goodIn_r _ [395, 97, 396, 397, 398, 2, 399, 102, 103, 17, 111, 112, 113, 400, 401, 402, 16, 403, 404, 390, 391, 392, 282, 247, 248, 249, 28, 283, 284, 285, 244, 245, 286, 188, 189, 190, 191, 192, 193, 600, 601, 602, 603, 604, 619, 620, 621, 622, 623, 624] (by decide +kernel) (by decide +kernel)) (goodIn_sub (fun _ h => List.mem_append_right _ h) (by decide +kernel))
set_option maxRecDepth 20000 in
theorem gL_law_L_greatestRegion : GoodIn wsL_law (va_wsS RL 142 yL_greatestRegion wsL_greatestRegion) := goodIn_app (goodIn_of _ (by decide +kernel)) ggL_law_L_greatestRegion
set_option maxRecDepth 20000 in
theorem ggL_law_X2_greatestRegion : GoodIn wsL_law wsX2_greatestRegion := goodIn_r _ [408, 78, 382, 383, 5, 384, 79, 80, 81, 82, 83, 84, 85, 291, 292, 293, 294, 295, 50, 44, 86, 87, 88, 89, 57, 58, 296, 297, 298, 299, 52, 48, 51, 385, 386, 387, 388, 389, 390, 391, 392, 300, 301, 302, 303, 605, 606, 607, 608, 609, 610, 611, 612, 613, 614, 615, 616, 617, 618] (by decide +kernel) (by decide +kernel)
set_option maxRecDepth 20000 in
theorem gL_law_X2_greatestRegion : GoodIn wsL_law (wsV RL 144 RX2 yX2_greatestRegion wsX2_greatestRegion) := goodIn_app (goodIn_of _ (by decide +kernel)) ggL_law_X2_greatestRegion
set_option maxRecDepth 20000 in
theorem ggL_law_X1_borders : GoodIn wsL_law wsX1_borders := goodIn_r _ [412, 17, 413, 414, 415, 16, 416, 35, 28, 417, 418, 419, 286, 188, 189, 190, 191, 192, 193, 600, 601, 602, 603, 604, 619, 620, 621, 622, 623, 624] (by decide +kernel) (by decide +kernel)
set_option maxRecDepth 20000 in
theorem gL_law_X1_borders : GoodIn wsL_law (wsV RL 145 RX1 yX1_borders wsX1_borders) := goodIn_app (goodIn_of _ (by decide +kernel)) ggL_law_X1_borders
set_option maxRecDepth 20000 in
theorem ggL_law_X2_borders : GoodIn wsL_law wsX2_borders := goodIn_r _ [423, 78, 424, 425, 426, 5, 427, 48, 44, 86, 87, 88, 89, 57, 58, 605, 606, 607, 608, 609, 610, 611, 612, 613, 614, 615, 616, 617, 618] (by decide +kernel) (by decide +kernel)
set_option maxRecDepth 20000 in
theorem gL_law_X2_borders : GoodIn wsL_law (wsV RL 148 RX2 yX2_borders wsX2_borders) := goodIn_app (goodIn_of _ (by decide +kernel)) ggL_law_X2_borders
set_option maxRecDepth 20000 in
theorem ggL_law_X1_leader : GoodIn wsL_law wsX1_leader := goodIn_r _ [431, 17, 355, 356, 357, 16, 358, 282, 247, 248, 249, 28, 286, 188, 189, 190, 191, 192, 193, 600, 601, 602, 603, 604, 619, 620, 621, 622, 623, 624] (by decide +kernel) (by decide +kernel)
set_option maxRecDepth 20000 in
theorem gL_law_X1_leader : GoodIn wsL_law (wsV RL 149 RX1 yX1_leader wsX1_leader) := goodIn_app (goodIn_of _ (by decide +kernel)) ggL_law_X1_leader
set_option maxRecDepth 20000 in
theorem ggL_law_X2_leader : GoodIn wsL_law wsX2_leader := goodIn_r _ [435, 78, 436, 437, 438, 5, 439, 363, 364, 365, 366, 44, 86, 87, 88, 89, 57, 58, 605, 606, 607, 608, 609, 610, 611, 612, 613, 614, 615, 616, 617, 618] (by decide +kernel) (by decide +kernel)
set_option maxRecDepth 20000 in
theorem gL_law_X2_leader : GoodIn wsL_law (wsV RL 152 RX2 yX2_leader wsX2_leader) := goodIn_app (goodIn_of _ (by decide +kernel)) ggL_law_X2_leader
set_option maxRecDepth 20000 in
theorem ggL_law_X1_isStill : GoodIn wsL_law wsX1_isStill := goodIn_r _ [443, 17, 261, 173, 174, 16, 175, 30, 26, 28, 176, 177, 178, 179, 29, 35, 36, 180, 181, 182, 600, 601, 602, 603, 604, 619, 620, 621, 622, 623, 624] (by decide +kernel) (by decide +kernel)
set_option maxRecDepth 20000 in
theorem gL_law_X1_isStill : GoodIn wsL_law (wsV RL 153 RX1 yX1_isStill wsX1_isStill) := goodIn_app (goodIn_of _ (by decide +kernel)) ggL_law_X1_isStill
set_option maxRecDepth 20000 in
theorem ggL_law_X2_isStill : GoodIn wsL_law wsX2_isStill := goodIn_r _ [447, 78, 448, 449, 450, 5, 451, 44, 86, 87, 88, 89, 57, 58, 206, 207, 208, 209, 47, 43, 210, 211, 212, 213, 48, 605, 606, 607, 608, 609, 610, 611, 612, 613, 614, 615, 616, 617, 618] (by decide +kernel) (by decide +kernel)
set_option maxRecDepth 20000 in
theorem gL_law_X2_isStill : GoodIn wsL_law (wsV RL 157 RX2 yX2_isStill wsX2_isStill) := goodIn_app (goodIn_of _ (by decide +kernel)) ggL_law_X2_isStill
set_option maxRecDepth 20000 in
theorem ggL_law_X1_winner : GoodIn wsL_law wsX1_winner := goodIn_r _ [455, 17, 456, 457, 458, 16, 459, 35, 282, 247, 248, 249, 28, 600, 601, 602, 603, 604, 619, 620, 621, 622, 623, 624] (by decide +kernel) (by decide +kernel)
set_option maxRecDepth 20000 in
theorem gL_law_X1_winner : GoodIn wsL_law (wsV RL 158 RX1 yX1_winner wsX1_winner) := goodIn_app (goodIn_of _ (by decide +kernel)) ggL_law_X1_winner
set_option maxRecDepth 20000 in
theorem ggL_law_X2_winner : GoodIn wsL_law wsX2_winner := goodIn_r _ [463, 78, 464, 465, 466, 5, 467, 44, 363, 364, 365, 366, 86, 87, 88, 89, 57, 58, 605, 606, 607, 608, 609, 610, 611, 612, 613, 614, 615, 616, 617, 618] (by decide +kernel) (by decide +kernel)
set_option maxRecDepth 20000 in
theorem gL_law_X2_winner : GoodIn wsL_law (wsV RL 161 RX2 yX2_winner wsX2_winner) := goodIn_app (goodIn_of _ (by decide +kernel)) ggL_law_X2_winner
set_option maxRecDepth 20000 in
theorem ggL_law_X1_wavesUntilStill : GoodIn wsL_law wsX1_wavesUntilStill := goodIn_r _ [471, 18, 17, 472, 473, 474, 16, 475, 35, 36, 26, 28, 168, 169, 170, 171, 172, 173, 174, 175, 30, 176, 177, 178, 179, 29, 180, 181, 182, 183, 184, 185, 186, 600, 601, 602, 603, 604, 619, 620, 621, 622, 623, 624] (by decide +kernel) (by decide +kernel)
set_option maxRecDepth 20000 in
theorem gL_law_X1_wavesUntilStill : GoodIn wsL_law (wsV RL 162 RX1 yX1_wavesUntilStill wsX1_wavesUntilStill) := goodIn_app (goodIn_of _ (by decide +kernel)) ggL_law_X1_wavesUntilStill
set_option maxRecDepth 20000 in
theorem ggL_law_X2_wavesUntilStill : GoodIn wsL_law wsX2_wavesUntilStill := goodIn_r _ [479, 78, 480, 481, 482, 5, 483, 44, 49, 202, 203, 204, 205, 198, 199, 200, 201, 45, 86, 87, 88, 89, 57, 58, 206, 207, 208, 209, 47, 43, 210, 211, 212, 213, 48, 484, 485, 486, 487, 605, 606, 607, 608, 609, 610, 611, 612, 613, 614, 615, 616, 617, 618] (by decide +kernel) (by decide +kernel)
set_option maxRecDepth 20000 in
theorem gL_law_X2_wavesUntilStill : GoodIn wsL_law (wsV RL 165 RX2 yX2_wavesUntilStill wsX2_wavesUntilStill) := goodIn_app (goodIn_of _ (by decide +kernel)) ggL_law_X2_wavesUntilStill
set_option maxRecDepth 20000 in
theorem ggL_law_L_cellsAfter : GoodIn wsL_law wsL_cellsAfter := goodIn_ca (goodIn_ca (goodIn_r _ [490, 64, 97, 491, 492, 493, 2, 494, 69, 70, 102, 103, 108, 109, 110, 111, 112, 113, 495, 496, 497, 498, 18, 17, 472, 473, 474, 16, 475, 35, 36, 26, 28, 122, 123, 124, 125, 168, 169, 170, 171, 172, 173, 174, 175, 30, 176, 177, 178, 179, 29, 180, 181, 182, 183, 184, 185, 186, 355, 356, 357, 358, 282, 247, 248, 249, 286, 188, 189, 190, 191, 192, 193, 600, 601, 602, 603, 604, 619, 620, 621, 622, 623, 624] (by decide +kernel) (by decide +kernel)) (goodIn_sub (fun _ h => List.mem_append_left _ (List.mem_append_right _ h)) (by decide +kernel))) (goodIn_sub (fun _ h => List.mem_append_right _ h) (by decide +kernel))
set_option maxRecDepth 20000 in
theorem gL_law_L_cellsAfter : GoodIn wsL_law (va_wsS RL 166 yL_cellsAfter wsL_cellsAfter) := goodIn_app (goodIn_of _ (by decide +kernel)) ggL_law_L_cellsAfter
set_option maxRecDepth 20000 in
theorem ggL_law_X2_cellsAfter : GoodIn wsL_law wsX2_cellsAfter := goodIn_r _ [502, 78, 79, 80, 5, 81, 82, 83, 84, 85, 134, 135, 136, 480, 481, 482, 483, 44, 49, 202, 203, 204, 205, 503, 504, 505, 506, 198, 199, 200, 201, 45, 86, 87, 88, 89, 57, 58, 206, 207, 208, 209, 47, 43, 210, 211, 212, 213, 48, 363, 364, 365, 366, 484, 485, 486, 487, 605, 606, 607, 608, 609, 610, 611, 612, 613, 614, 615, 616, 617, 618] (by decide +kernel) (by decide +kernel)
set_option maxRecDepth 20000 in
theorem gL_law_X2_cellsAfter : GoodIn wsL_law (wsV RL 168 RX2 yX2_cellsAfter wsX2_cellsAfter) := goodIn_app (goodIn_of _ (by decide +kernel)) ggL_law_X2_cellsAfter
set_option maxRecDepth 20000 in
theorem ggL_law_L_wins : GoodIn wsL_law wsL_wins := goodIn_ca (goodIn_r _ [509, 97, 510, 511, 512, 2, 513, 102, 103, 111, 112, 113, 514, 515, 516, 517, 18, 17, 472, 473, 474, 16, 475, 35, 36, 26, 28, 122, 123, 124, 125, 168, 169, 170, 171, 172, 173, 174, 175, 30, 176, 177, 178, 179, 29, 180, 181, 182, 183, 184, 185, 186, 456, 457, 458, 459, 282, 247, 248, 249, 600, 601, 602, 603, 604, 619, 620, 621, 622, 623, 624] (by decide +kernel) (by decide +kernel)) (goodIn_sub (fun _ h => List.mem_append_right _ h) (by decide +kernel))
set_option maxRecDepth 20000 in
theorem gL_law_L_wins : GoodIn wsL_law (va_wsS RL 169 yL_wins wsL_wins) := goodIn_app (goodIn_of _ (by decide +kernel)) ggL_law_L_wins
set_option maxRecDepth 20000 in
theorem ggL_law_X2_wins : GoodIn wsL_law wsX2_wins := goodIn_r _ [521, 78, 382, 383, 5, 384, 79, 80, 81, 480, 481, 482, 483, 44, 49, 202, 203, 204, 205, 522, 523, 524, 525, 526, 527, 528, 529, 464, 465, 466, 467, 363, 364, 365, 366, 86, 87, 88, 89, 57, 58, 198, 199, 200, 201, 45, 206, 207, 208, 209, 47, 43, 210, 211, 212, 213, 48, 484, 485, 486, 487, 605, 606, 607, 608, 609, 610, 611, 612, 613, 614, 615, 616, 617, 618] (by decide +kernel) (by decide +kernel)
set_option maxRecDepth 20000 in
theorem gL_law_X2_wins : GoodIn wsL_law (wsV RL 171 RX2 yX2_wins wsX2_wins) := goodIn_app (goodIn_of _ (by decide +kernel)) ggL_law_X2_wins
set_option maxRecDepth 20000 in
theorem ggL_law_L_fewestSeeds : GoodIn wsL_law wsL_fewestSeeds := goodIn_ca (goodIn_r _ [532, 97, 533, 534, 535, 2, 536, 102, 103, 111, 112, 113, 514, 515, 516, 517, 18, 17, 472, 473, 474, 16, 475, 35, 36, 26, 28, 122, 123, 124, 125, 168, 169, 170, 171, 172, 173, 174, 175, 30, 176, 177, 178, 179, 29, 180, 181, 182, 183, 184, 185, 186, 456, 457, 458, 459, 282, 247, 248, 249, 537, 538, 539, 540, 541, 542, 543, 544, 545, 600, 601, 602, 603, 604, 619, 620, 621, 622, 623, 624] (by decide +kernel) (by decide +kernel)) (goodIn_sub (fun _ h => List.mem_append_right _ h) (by decide +kernel))
set_option maxRecDepth 20000 in
theorem gL_law_L_fewestSeeds : GoodIn wsL_law (va_wsS RL 172 yL_fewestSeeds wsL_fewestSeeds) := goodIn_app (goodIn_of _ (by decide +kernel)) ggL_law_L_fewestSeeds
set_option maxRecDepth 20000 in
theorem ggL_law_X2_fewestSeeds : GoodIn wsL_law wsX2_fewestSeeds := goodIn_r _ [549, 78, 382, 383, 5, 384, 79, 80, 81, 82, 83, 84, 85, 480, 481, 482, 483, 44, 49, 202, 203, 204, 205, 522, 523, 524, 525, 526, 527, 528, 529, 464, 465, 466, 467, 363, 364, 365, 366, 86, 87, 88, 89, 57, 58, 198, 199, 200, 201, 45, 206, 207, 208, 209, 47, 43, 210, 211, 212, 213, 48, 484, 485, 486, 487, 605, 606, 607, 608, 609, 610, 611, 612, 613, 614, 615, 616, 617, 618] (by decide +kernel) (by decide +kernel)
set_option maxRecDepth 20000 in
theorem gL_law_X2_fewestSeeds : GoodIn wsL_law (wsV RL 174 RX2 yX2_fewestSeeds wsX2_fewestSeeds) := goodIn_app (goodIn_of _ (by decide +kernel)) ggL_law_X2_fewestSeeds
set_option maxRecDepth 20000 in
theorem ggL_law_L_bestCell : GoodIn wsL_law wsL_bestCell := goodIn_ca (goodIn_ca (goodIn_r _ [552, 97, 64, 553, 554, 555, 2, 556, 102, 103, 69, 70, 20, 19, 111, 112, 113, 114, 37, 38, 495, 496, 497, 498, 18, 17, 472, 473, 474, 16, 475, 35, 36, 26, 28, 122, 123, 124, 125, 168, 169, 170, 171, 172, 173, 174, 175, 30, 176, 177, 178, 179, 29, 180, 181, 182, 183, 184, 185, 186, 355, 356, 357, 358, 282, 247, 248, 249, 286, 188, 189, 190, 191, 192, 193, 600, 601, 602, 603, 604, 619, 620, 621, 622, 623, 624] (by decide +kernel) (by decide +kernel)) (goodIn_sub (fun _ h => List.mem_append_right _ h) (by decide +kernel))) (goodIn_sub (fun _ h => List.mem_append_left _ (List.mem_append_right _ h)) (by decide +kernel))
set_option maxRecDepth 20000 in
theorem gL_law_L_bestCell : GoodIn wsL_law (va_wsS RL 175 yL_bestCell wsL_bestCell) := goodIn_app (goodIn_of _ (by decide +kernel)) ggL_law_L_bestCell
set_option maxRecDepth 20000 in
theorem ggL_law_X2_bestCell : GoodIn wsL_law wsX2_bestCell := goodIn_r _ [560, 78, 44, 382, 383, 5, 384, 79, 80, 81, 82, 83, 84, 85, 480, 481, 482, 483, 49, 202, 203, 204, 205, 86, 87, 88, 89, 57, 58, 503, 504, 505, 506, 198, 199, 200, 201, 45, 206, 207, 208, 209, 47, 43, 210, 211, 212, 213, 48, 363, 364, 365, 366, 484, 485, 486, 487, 605, 606, 607, 608, 609, 610, 611, 612, 613, 614, 615, 616, 617, 618] (by decide +kernel) (by decide +kernel)
set_option maxRecDepth 20000 in
theorem gL_law_X2_bestCell : GoodIn wsL_law (wsV RL 177 RX2 yX2_bestCell wsX2_bestCell) := goodIn_app (goodIn_of _ (by decide +kernel)) ggL_law_X2_bestCell
set_option maxRecDepth 20000 in
theorem ggL_law_L_share : GoodIn wsL_law wsL_share := goodIn_ca (goodIn_r _ [563, 97, 564, 565, 566, 2, 567, 102, 103, 19, 20, 17, 108, 109, 110, 111, 112, 113, 355, 356, 357, 16, 358, 282, 247, 248, 249, 28, 286, 188, 189, 190, 191, 192, 193, 600, 601, 602, 603, 604, 619, 620, 621, 622, 623, 624] (by decide +kernel) (by decide +kernel)) (goodIn_sub (fun _ h => List.mem_append_right _ h) (by decide +kernel))
set_option maxRecDepth 20000 in
theorem gL_law_L_share : GoodIn wsL_law (va_wsS RL 178 yL_share wsL_share) := goodIn_app (goodIn_of _ (by decide +kernel)) ggL_law_L_share
set_option maxRecDepth 20000 in
theorem ggL_law_X2_share : GoodIn wsL_law wsX2_share := goodIn_r _ [571, 78, 134, 135, 5, 136, 79, 80, 81, 363, 364, 365, 366, 44, 86, 87, 88, 89, 57, 58, 605, 606, 607, 608, 609, 610, 611, 612, 613, 614, 615, 616, 617, 618] (by decide +kernel) (by decide +kernel)
set_option maxRecDepth 20000 in
theorem gL_law_X2_share : GoodIn wsL_law (wsV RL 181 RX2 yX2_share wsX2_share) := goodIn_app (goodIn_of _ (by decide +kernel)) ggL_law_X2_share
set_option maxRecDepth 20000 in
theorem ggL_law_X1_digest : GoodIn wsL_law wsX1_digest := goodIn_r _ [575, 17, 20, 19, 576, 577, 578, 2, 579, 580, 156, 21, 581, 582, 583, 584, 585, 337, 338, 339, 144, 187, 188, 189, 190, 191, 192, 193, 586, 410, 411, 412, 413, 414, 415, 16, 416, 35, 28, 417, 418, 419, 286, 587, 429, 430, 431, 355, 356, 357, 358, 282, 247, 248, 249, 588, 441, 442, 443, 261, 173, 174, 175, 30, 26, 176, 177, 178, 179, 29, 36, 180, 181, 182, 589, 453, 454, 455, 456, 457, 458, 459, 374, 375, 376, 377, 283, 284, 285, 244, 245, 400, 401, 402, 403, 404, 390, 391, 392, 114, 37, 38, 590, 591, 592, 593, 115, 116, 117, 118, 119, 120, 121, 262, 263, 264, 265, 266, 278, 279, 280, 281, 600, 601, 602, 603, 604, 619, 620, 621, 622, 623, 624] (by decide +kernel) (by decide +kernel)
set_option maxRecDepth 20000 in
theorem gL_law_X1_digest : GoodIn wsL_law (wsV RL 182 RX1 yX1_digest wsX1_digest) := goodIn_app (goodIn_of _ (by decide +kernel)) ggL_law_X1_digest
set_option maxRecDepth 20000 in
theorem ggL_law_X2_digest : GoodIn wsL_law wsX2_digest := goodIn_r _ [597, 78, 27, 57, 58, 43, 59, 598, 599, 44, 47, 291, 292, 293, 5, 294, 295, 50, 86, 87, 88, 89, 296, 297, 298, 299, 52, 48, 51, 344, 345, 346, 347, 424, 425, 426, 427, 436, 437, 438, 439, 363, 364, 365, 366, 448, 449, 450, 451, 206, 207, 208, 209, 210, 211, 212, 213, 464, 465, 466, 467, 385, 386, 387, 388, 389, 390, 391, 392, 300, 301, 302, 303, 605, 606, 607, 608, 609, 610, 611, 612, 613, 614, 615, 616, 617, 618] (by decide +kernel) (by decide +kernel)
set_option maxRecDepth 20000 in
theorem gL_law_X2_digest : GoodIn wsL_law (wsV RL 186 RX2 yX2_digest wsX2_digest) := goodIn_app (goodIn_of _ (by decide +kernel)) ggL_law_X2_digest
theorem dL_law_0 : decode cL_law 0 = .ok (.new 8, 3) := by decide +kernel
theorem dL_law_3 : decode cL_law 3 = .ok (.dup, 1) := by decide +kernel
theorem dL_law_4 : decode cL_law 4 = .ok (.invokespecial 73, 3) := by decide +kernel
theorem dL_law_7 : decode cL_law 7 = .ok (.astore_n 1, 1) := by decide +kernel
theorem dL_law_8 : decode cL_law 8 = .ok (.new 74, 3) := by decide +kernel
theorem dL_law_11 : decode cL_law 11 = .ok (.dup, 1) := by decide +kernel
theorem dL_law_12 : decode cL_law 12 = .ok (.invokespecial 76, 3) := by decide +kernel
theorem dL_law_15 : decode cL_law 15 = .ok (.astore_n 2, 1) := by decide +kernel
theorem dL_law_16 : decode cL_law 16 = .ok (.iconst 1, 1) := by decide +kernel
theorem dL_law_17 : decode cL_law 17 = .ok (.newarray .long, 2) := by decide +kernel
theorem dL_law_19 : decode cL_law 19 = .ok (.astore_n 3, 1) := by decide +kernel
theorem dL_law_20 : decode cL_law 20 = .ok (.iconst 1, 1) := by decide +kernel
theorem dL_law_21 : decode cL_law 21 = .ok (.newarray .double, 2) := by decide +kernel
theorem dL_law_23 : decode cL_law 23 = .ok (.astore 4, 2) := by decide +kernel
theorem dL_law_25 : decode cL_law 25 = .ok (.iconst 0, 1) := by decide +kernel
theorem dL_law_26 : decode cL_law 26 = .ok (.istore 5, 2) := by decide +kernel
theorem dL_law_28 : decode cL_law 28 = .ok (.iload 5, 2) := by decide +kernel
theorem dL_law_30 : decode cL_law 30 = .ok (.aload_n 0, 1) := by decide +kernel
theorem dL_law_31 : decode cL_law 31 = .ok (.arraylength, 1) := by decide +kernel
theorem dL_law_32 : decode cL_law 32 = .ok (.iconst 4, 1) := by decide +kernel
theorem dL_law_33 : decode cL_law 33 = .ok (.isub, 1) := by decide +kernel
theorem dL_law_34 : decode cL_law 34 = .ok (.if_icmp .gt 1486, 3) := by decide +kernel
theorem dL_law_37 : decode cL_law 37 = .ok (.aload_n 0, 1) := by decide +kernel
theorem dL_law_38 : decode cL_law 38 = .ok (.iload 5, 2) := by decide +kernel
theorem dL_law_40 : decode cL_law 40 = .ok (.iaload, 1) := by decide +kernel
theorem dL_law_41 : decode cL_law 41 = .ok (.bipush 31, 2) := by decide +kernel
theorem dL_law_43 : decode cL_law 43 = .ok (.iand, 1) := by decide +kernel
theorem dL_law_44 : decode cL_law 44 = .ok (.tableswitch 1470 0 28 #[132, 200, 280, 355, 411, 467, 535, 610, 690, 758, 826, 839, 852, 865, 878, 891, 947, 1003, 1059, 1072, 1085, 1098, 1111, 1124, 1192, 1255, 1311, 1379, 1456], 132) := by decide +kernel
theorem dL_law_176 : decode cL_law 176 = .ok (.aload_n 1, 1) := by decide +kernel
theorem dL_law_177 : decode cL_law 177 = .ok (.aload_n 0, 1) := by decide +kernel
theorem dL_law_178 : decode cL_law 178 = .ok (.iload 5, 2) := by decide +kernel
theorem dL_law_180 : decode cL_law 180 = .ok (.iconst 1, 1) := by decide +kernel
theorem dL_law_181 : decode cL_law 181 = .ok (.iadd, 1) := by decide +kernel
theorem dL_law_182 : decode cL_law 182 = .ok (.iaload, 1) := by decide +kernel
theorem dL_law_183 : decode cL_law 183 = .ok (.aload_n 0, 1) := by decide +kernel
theorem dL_law_184 : decode cL_law 184 = .ok (.iload 5, 2) := by decide +kernel
theorem dL_law_186 : decode cL_law 186 = .ok (.iconst 2, 1) := by decide +kernel
theorem dL_law_187 : decode cL_law 187 = .ok (.iadd, 1) := by decide +kernel
theorem dL_law_188 : decode cL_law 188 = .ok (.iaload, 1) := by decide +kernel
theorem dL_law_189 : decode cL_law 189 = .ok (.aload_n 3, 1) := by decide +kernel
theorem dL_law_190 : decode cL_law 190 = .ok (.invokestatic 77, 3) := by decide +kernel
theorem dL_law_193 : decode cL_law 193 = .ok (.istore 6, 2) := by decide +kernel
theorem dL_law_195 : decode cL_law 195 = .ok (.aload_n 2, 1) := by decide +kernel
theorem dL_law_196 : decode cL_law 196 = .ok (.aload_n 0, 1) := by decide +kernel
theorem dL_law_197 : decode cL_law 197 = .ok (.iload 5, 2) := by decide +kernel
theorem dL_law_199 : decode cL_law 199 = .ok (.iconst 1, 1) := by decide +kernel
theorem dL_law_200 : decode cL_law 200 = .ok (.iadd, 1) := by decide +kernel
theorem dL_law_201 : decode cL_law 201 = .ok (.iaload, 1) := by decide +kernel
theorem dL_law_202 : decode cL_law 202 = .ok (.aload_n 0, 1) := by decide +kernel
theorem dL_law_203 : decode cL_law 203 = .ok (.iload 5, 2) := by decide +kernel
theorem dL_law_205 : decode cL_law 205 = .ok (.iconst 2, 1) := by decide +kernel
theorem dL_law_206 : decode cL_law 206 = .ok (.iadd, 1) := by decide +kernel
theorem dL_law_207 : decode cL_law 207 = .ok (.iaload, 1) := by decide +kernel
theorem dL_law_208 : decode cL_law 208 = .ok (.invokevirtual 82, 3) := by decide +kernel
theorem dL_law_211 : decode cL_law 211 = .ok (.istore 7, 2) := by decide +kernel
theorem dL_law_213 : decode cL_law 213 = .ok (.aload_n 2, 1) := by decide +kernel
theorem dL_law_214 : decode cL_law 214 = .ok (.invokevirtual 83, 3) := by decide +kernel
theorem dL_law_217 : decode cL_law 217 = .ok (.iload 6, 2) := by decide +kernel
theorem dL_law_219 : decode cL_law 219 = .ok (.if_icmp .eq 5, 3) := by decide +kernel
theorem dL_law_222 : decode cL_law 222 = .ok (.iconst 0, 1) := by decide +kernel
theorem dL_law_223 : decode cL_law 223 = .ok (.ireturn, 1) := by decide +kernel
theorem dL_law_224 : decode cL_law 224 = .ok (.iload 6, 2) := by decide +kernel
theorem dL_law_226 : decode cL_law 226 = .ok (.ifCond .ne 15, 3) := by decide +kernel
theorem dL_law_229 : decode cL_law 229 = .ok (.aload_n 3, 1) := by decide +kernel
theorem dL_law_230 : decode cL_law 230 = .ok (.iconst 0, 1) := by decide +kernel
theorem dL_law_231 : decode cL_law 231 = .ok (.laload, 1) := by decide +kernel
theorem dL_law_232 : decode cL_law 232 = .ok (.iload 7, 2) := by decide +kernel
theorem dL_law_234 : decode cL_law 234 = .ok (.i2l, 1) := by decide +kernel
theorem dL_law_235 : decode cL_law 235 = .ok (.lcmp, 1) := by decide +kernel
theorem dL_law_236 : decode cL_law 236 = .ok (.ifCond .eq 5, 3) := by decide +kernel
theorem dL_law_239 : decode cL_law 239 = .ok (.iconst 0, 1) := by decide +kernel
theorem dL_law_240 : decode cL_law 240 = .ok (.ireturn, 1) := by decide +kernel
theorem dL_law_241 : decode cL_law 241 = .ok (.goto 1273, 3) := by decide +kernel
theorem dL_law_244 : decode cL_law 244 = .ok (.aload_n 1, 1) := by decide +kernel
theorem dL_law_245 : decode cL_law 245 = .ok (.aload_n 0, 1) := by decide +kernel
theorem dL_law_246 : decode cL_law 246 = .ok (.iload 5, 2) := by decide +kernel
theorem dL_law_248 : decode cL_law 248 = .ok (.iconst 1, 1) := by decide +kernel
theorem dL_law_249 : decode cL_law 249 = .ok (.iadd, 1) := by decide +kernel
theorem dL_law_250 : decode cL_law 250 = .ok (.iaload, 1) := by decide +kernel
theorem dL_law_251 : decode cL_law 251 = .ok (.aload_n 0, 1) := by decide +kernel
theorem dL_law_252 : decode cL_law 252 = .ok (.iload 5, 2) := by decide +kernel
theorem dL_law_254 : decode cL_law 254 = .ok (.iconst 2, 1) := by decide +kernel
theorem dL_law_255 : decode cL_law 255 = .ok (.iadd, 1) := by decide +kernel
theorem dL_law_256 : decode cL_law 256 = .ok (.iaload, 1) := by decide +kernel
theorem dL_law_257 : decode cL_law 257 = .ok (.aload_n 0, 1) := by decide +kernel
theorem dL_law_258 : decode cL_law 258 = .ok (.iload 5, 2) := by decide +kernel
theorem dL_law_260 : decode cL_law 260 = .ok (.iconst 3, 1) := by decide +kernel
theorem dL_law_261 : decode cL_law 261 = .ok (.iadd, 1) := by decide +kernel
theorem dL_law_262 : decode cL_law 262 = .ok (.iaload, 1) := by decide +kernel
theorem dL_law_263 : decode cL_law 263 = .ok (.aload_n 3, 1) := by decide +kernel
theorem dL_law_264 : decode cL_law 264 = .ok (.invokestatic 87, 3) := by decide +kernel
theorem dL_law_267 : decode cL_law 267 = .ok (.istore 6, 2) := by decide +kernel
theorem dL_law_269 : decode cL_law 269 = .ok (.aload_n 2, 1) := by decide +kernel
theorem dL_law_270 : decode cL_law 270 = .ok (.aload_n 0, 1) := by decide +kernel
theorem dL_law_271 : decode cL_law 271 = .ok (.iload 5, 2) := by decide +kernel
theorem dL_law_273 : decode cL_law 273 = .ok (.iconst 1, 1) := by decide +kernel
theorem dL_law_274 : decode cL_law 274 = .ok (.iadd, 1) := by decide +kernel
theorem dL_law_275 : decode cL_law 275 = .ok (.iaload, 1) := by decide +kernel
theorem dL_law_276 : decode cL_law 276 = .ok (.aload_n 0, 1) := by decide +kernel
theorem dL_law_277 : decode cL_law 277 = .ok (.iload 5, 2) := by decide +kernel
theorem dL_law_279 : decode cL_law 279 = .ok (.iconst 2, 1) := by decide +kernel
theorem dL_law_280 : decode cL_law 280 = .ok (.iadd, 1) := by decide +kernel
theorem dL_law_281 : decode cL_law 281 = .ok (.iaload, 1) := by decide +kernel
theorem dL_law_282 : decode cL_law 282 = .ok (.aload_n 0, 1) := by decide +kernel
theorem dL_law_283 : decode cL_law 283 = .ok (.iload 5, 2) := by decide +kernel
theorem dL_law_285 : decode cL_law 285 = .ok (.iconst 3, 1) := by decide +kernel
theorem dL_law_286 : decode cL_law 286 = .ok (.iadd, 1) := by decide +kernel
theorem dL_law_287 : decode cL_law 287 = .ok (.iaload, 1) := by decide +kernel
theorem dL_law_288 : decode cL_law 288 = .ok (.invokevirtual 90, 3) := by decide +kernel
theorem dL_law_291 : decode cL_law 291 = .ok (.istore 7, 2) := by decide +kernel
theorem dL_law_293 : decode cL_law 293 = .ok (.aload_n 2, 1) := by decide +kernel
theorem dL_law_294 : decode cL_law 294 = .ok (.invokevirtual 83, 3) := by decide +kernel
theorem dL_law_297 : decode cL_law 297 = .ok (.iload 6, 2) := by decide +kernel
theorem dL_law_299 : decode cL_law 299 = .ok (.if_icmp .eq 5, 3) := by decide +kernel
theorem dL_law_302 : decode cL_law 302 = .ok (.iconst 0, 1) := by decide +kernel
theorem dL_law_303 : decode cL_law 303 = .ok (.ireturn, 1) := by decide +kernel
theorem dL_law_304 : decode cL_law 304 = .ok (.iload 6, 2) := by decide +kernel
theorem dL_law_306 : decode cL_law 306 = .ok (.ifCond .ne 15, 3) := by decide +kernel
theorem dL_law_309 : decode cL_law 309 = .ok (.aload_n 3, 1) := by decide +kernel
theorem dL_law_310 : decode cL_law 310 = .ok (.iconst 0, 1) := by decide +kernel
theorem dL_law_311 : decode cL_law 311 = .ok (.laload, 1) := by decide +kernel
theorem dL_law_312 : decode cL_law 312 = .ok (.iload 7, 2) := by decide +kernel
theorem dL_law_314 : decode cL_law 314 = .ok (.i2l, 1) := by decide +kernel
theorem dL_law_315 : decode cL_law 315 = .ok (.lcmp, 1) := by decide +kernel
theorem dL_law_316 : decode cL_law 316 = .ok (.ifCond .eq 5, 3) := by decide +kernel
theorem dL_law_319 : decode cL_law 319 = .ok (.iconst 0, 1) := by decide +kernel
theorem dL_law_320 : decode cL_law 320 = .ok (.ireturn, 1) := by decide +kernel
theorem dL_law_321 : decode cL_law 321 = .ok (.goto 1193, 3) := by decide +kernel
theorem dL_law_324 : decode cL_law 324 = .ok (.aload_n 1, 1) := by decide +kernel
theorem dL_law_325 : decode cL_law 325 = .ok (.aload_n 0, 1) := by decide +kernel
theorem dL_law_326 : decode cL_law 326 = .ok (.iload 5, 2) := by decide +kernel
theorem dL_law_328 : decode cL_law 328 = .ok (.iconst 1, 1) := by decide +kernel
theorem dL_law_329 : decode cL_law 329 = .ok (.iadd, 1) := by decide +kernel
theorem dL_law_330 : decode cL_law 330 = .ok (.iaload, 1) := by decide +kernel
theorem dL_law_331 : decode cL_law 331 = .ok (.aload_n 0, 1) := by decide +kernel
theorem dL_law_332 : decode cL_law 332 = .ok (.iload 5, 2) := by decide +kernel
theorem dL_law_334 : decode cL_law 334 = .ok (.iconst 2, 1) := by decide +kernel
theorem dL_law_335 : decode cL_law 335 = .ok (.iadd, 1) := by decide +kernel
theorem dL_law_336 : decode cL_law 336 = .ok (.iaload, 1) := by decide +kernel
theorem dL_law_337 : decode cL_law 337 = .ok (.aload_n 3, 1) := by decide +kernel
theorem dL_law_338 : decode cL_law 338 = .ok (.invokestatic 91, 3) := by decide +kernel
theorem dL_law_341 : decode cL_law 341 = .ok (.istore 6, 2) := by decide +kernel
theorem dL_law_343 : decode cL_law 343 = .ok (.aload_n 2, 1) := by decide +kernel
theorem dL_law_344 : decode cL_law 344 = .ok (.aload_n 0, 1) := by decide +kernel
theorem dL_law_345 : decode cL_law 345 = .ok (.iload 5, 2) := by decide +kernel
theorem dL_law_347 : decode cL_law 347 = .ok (.iconst 1, 1) := by decide +kernel
theorem dL_law_348 : decode cL_law 348 = .ok (.iadd, 1) := by decide +kernel
theorem dL_law_349 : decode cL_law 349 = .ok (.iaload, 1) := by decide +kernel
theorem dL_law_350 : decode cL_law 350 = .ok (.aload_n 0, 1) := by decide +kernel
theorem dL_law_351 : decode cL_law 351 = .ok (.iload 5, 2) := by decide +kernel
theorem dL_law_353 : decode cL_law 353 = .ok (.iconst 2, 1) := by decide +kernel
theorem dL_law_354 : decode cL_law 354 = .ok (.iadd, 1) := by decide +kernel
theorem dL_law_355 : decode cL_law 355 = .ok (.iaload, 1) := by decide +kernel
theorem dL_law_356 : decode cL_law 356 = .ok (.invokevirtual 93, 3) := by decide +kernel
theorem dL_law_359 : decode cL_law 359 = .ok (.istore 7, 2) := by decide +kernel
theorem dL_law_361 : decode cL_law 361 = .ok (.aload_n 2, 1) := by decide +kernel
theorem dL_law_362 : decode cL_law 362 = .ok (.invokevirtual 83, 3) := by decide +kernel
theorem dL_law_365 : decode cL_law 365 = .ok (.iload 6, 2) := by decide +kernel
theorem dL_law_367 : decode cL_law 367 = .ok (.if_icmp .eq 5, 3) := by decide +kernel
theorem dL_law_370 : decode cL_law 370 = .ok (.iconst 0, 1) := by decide +kernel
theorem dL_law_371 : decode cL_law 371 = .ok (.ireturn, 1) := by decide +kernel
theorem dL_law_372 : decode cL_law 372 = .ok (.iload 6, 2) := by decide +kernel
theorem dL_law_374 : decode cL_law 374 = .ok (.ifCond .ne 22, 3) := by decide +kernel
theorem dL_law_377 : decode cL_law 377 = .ok (.aload_n 3, 1) := by decide +kernel
theorem dL_law_378 : decode cL_law 378 = .ok (.iconst 0, 1) := by decide +kernel
theorem dL_law_379 : decode cL_law 379 = .ok (.laload, 1) := by decide +kernel
theorem dL_law_380 : decode cL_law 380 = .ok (.iload 7, 2) := by decide +kernel
theorem dL_law_382 : decode cL_law 382 = .ok (.ifCond .eq 7, 3) := by decide +kernel
theorem dL_law_385 : decode cL_law 385 = .ok (.lconst 1, 1) := by decide +kernel
theorem dL_law_386 : decode cL_law 386 = .ok (.goto 4, 3) := by decide +kernel
theorem dL_law_389 : decode cL_law 389 = .ok (.lconst 0, 1) := by decide +kernel
theorem dL_law_390 : decode cL_law 390 = .ok (.lcmp, 1) := by decide +kernel
theorem dL_law_391 : decode cL_law 391 = .ok (.ifCond .eq 5, 3) := by decide +kernel
theorem dL_law_394 : decode cL_law 394 = .ok (.iconst 0, 1) := by decide +kernel
theorem dL_law_395 : decode cL_law 395 = .ok (.ireturn, 1) := by decide +kernel
theorem dL_law_396 : decode cL_law 396 = .ok (.goto 1118, 3) := by decide +kernel
theorem dL_law_399 : decode cL_law 399 = .ok (.aload_n 1, 1) := by decide +kernel
theorem dL_law_400 : decode cL_law 400 = .ok (.aload_n 0, 1) := by decide +kernel
theorem dL_law_401 : decode cL_law 401 = .ok (.iload 5, 2) := by decide +kernel
theorem dL_law_403 : decode cL_law 403 = .ok (.iconst 1, 1) := by decide +kernel
theorem dL_law_404 : decode cL_law 404 = .ok (.iadd, 1) := by decide +kernel
theorem dL_law_405 : decode cL_law 405 = .ok (.iaload, 1) := by decide +kernel
theorem dL_law_406 : decode cL_law 406 = .ok (.aload_n 3, 1) := by decide +kernel
theorem dL_law_407 : decode cL_law 407 = .ok (.invokestatic 94, 3) := by decide +kernel
theorem dL_law_410 : decode cL_law 410 = .ok (.istore 6, 2) := by decide +kernel
theorem dL_law_412 : decode cL_law 412 = .ok (.aload_n 2, 1) := by decide +kernel
theorem dL_law_413 : decode cL_law 413 = .ok (.aload_n 0, 1) := by decide +kernel
theorem dL_law_414 : decode cL_law 414 = .ok (.iload 5, 2) := by decide +kernel
theorem dL_law_416 : decode cL_law 416 = .ok (.iconst 1, 1) := by decide +kernel
theorem dL_law_417 : decode cL_law 417 = .ok (.iadd, 1) := by decide +kernel
theorem dL_law_418 : decode cL_law 418 = .ok (.iaload, 1) := by decide +kernel
theorem dL_law_419 : decode cL_law 419 = .ok (.invokevirtual 97, 3) := by decide +kernel
theorem dL_law_422 : decode cL_law 422 = .ok (.istore 7, 2) := by decide +kernel
theorem dL_law_424 : decode cL_law 424 = .ok (.aload_n 2, 1) := by decide +kernel
theorem dL_law_425 : decode cL_law 425 = .ok (.invokevirtual 83, 3) := by decide +kernel
theorem dL_law_428 : decode cL_law 428 = .ok (.iload 6, 2) := by decide +kernel
theorem dL_law_430 : decode cL_law 430 = .ok (.if_icmp .eq 5, 3) := by decide +kernel
theorem dL_law_433 : decode cL_law 433 = .ok (.iconst 0, 1) := by decide +kernel
theorem dL_law_434 : decode cL_law 434 = .ok (.ireturn, 1) := by decide +kernel
theorem dL_law_435 : decode cL_law 435 = .ok (.iload 6, 2) := by decide +kernel
theorem dL_law_437 : decode cL_law 437 = .ok (.ifCond .ne 15, 3) := by decide +kernel
theorem dL_law_440 : decode cL_law 440 = .ok (.aload_n 3, 1) := by decide +kernel
theorem dL_law_441 : decode cL_law 441 = .ok (.iconst 0, 1) := by decide +kernel
theorem dL_law_442 : decode cL_law 442 = .ok (.laload, 1) := by decide +kernel
theorem dL_law_443 : decode cL_law 443 = .ok (.iload 7, 2) := by decide +kernel
theorem dL_law_445 : decode cL_law 445 = .ok (.i2l, 1) := by decide +kernel
theorem dL_law_446 : decode cL_law 446 = .ok (.lcmp, 1) := by decide +kernel
theorem dL_law_447 : decode cL_law 447 = .ok (.ifCond .eq 5, 3) := by decide +kernel
theorem dL_law_450 : decode cL_law 450 = .ok (.iconst 0, 1) := by decide +kernel
theorem dL_law_451 : decode cL_law 451 = .ok (.ireturn, 1) := by decide +kernel
theorem dL_law_452 : decode cL_law 452 = .ok (.goto 1062, 3) := by decide +kernel
theorem dL_law_455 : decode cL_law 455 = .ok (.aload_n 1, 1) := by decide +kernel
theorem dL_law_456 : decode cL_law 456 = .ok (.aload_n 0, 1) := by decide +kernel
theorem dL_law_457 : decode cL_law 457 = .ok (.iload 5, 2) := by decide +kernel
theorem dL_law_459 : decode cL_law 459 = .ok (.iconst 1, 1) := by decide +kernel
theorem dL_law_460 : decode cL_law 460 = .ok (.iadd, 1) := by decide +kernel
theorem dL_law_461 : decode cL_law 461 = .ok (.iaload, 1) := by decide +kernel
theorem dL_law_462 : decode cL_law 462 = .ok (.aload_n 3, 1) := by decide +kernel
theorem dL_law_463 : decode cL_law 463 = .ok (.invokestatic 98, 3) := by decide +kernel
theorem dL_law_466 : decode cL_law 466 = .ok (.istore 6, 2) := by decide +kernel
theorem dL_law_468 : decode cL_law 468 = .ok (.aload_n 2, 1) := by decide +kernel
theorem dL_law_469 : decode cL_law 469 = .ok (.aload_n 0, 1) := by decide +kernel
theorem dL_law_470 : decode cL_law 470 = .ok (.iload 5, 2) := by decide +kernel
theorem dL_law_472 : decode cL_law 472 = .ok (.iconst 1, 1) := by decide +kernel
theorem dL_law_473 : decode cL_law 473 = .ok (.iadd, 1) := by decide +kernel
theorem dL_law_474 : decode cL_law 474 = .ok (.iaload, 1) := by decide +kernel
theorem dL_law_475 : decode cL_law 475 = .ok (.invokevirtual 100, 3) := by decide +kernel
theorem dL_law_478 : decode cL_law 478 = .ok (.istore 7, 2) := by decide +kernel
theorem dL_law_480 : decode cL_law 480 = .ok (.aload_n 2, 1) := by decide +kernel
theorem dL_law_481 : decode cL_law 481 = .ok (.invokevirtual 83, 3) := by decide +kernel
theorem dL_law_484 : decode cL_law 484 = .ok (.iload 6, 2) := by decide +kernel
theorem dL_law_486 : decode cL_law 486 = .ok (.if_icmp .eq 5, 3) := by decide +kernel
theorem dL_law_489 : decode cL_law 489 = .ok (.iconst 0, 1) := by decide +kernel
theorem dL_law_490 : decode cL_law 490 = .ok (.ireturn, 1) := by decide +kernel
theorem dL_law_491 : decode cL_law 491 = .ok (.iload 6, 2) := by decide +kernel
theorem dL_law_493 : decode cL_law 493 = .ok (.ifCond .ne 15, 3) := by decide +kernel
theorem dL_law_496 : decode cL_law 496 = .ok (.aload_n 3, 1) := by decide +kernel
theorem dL_law_497 : decode cL_law 497 = .ok (.iconst 0, 1) := by decide +kernel
theorem dL_law_498 : decode cL_law 498 = .ok (.laload, 1) := by decide +kernel
theorem dL_law_499 : decode cL_law 499 = .ok (.iload 7, 2) := by decide +kernel
theorem dL_law_501 : decode cL_law 501 = .ok (.i2l, 1) := by decide +kernel
theorem dL_law_502 : decode cL_law 502 = .ok (.lcmp, 1) := by decide +kernel
theorem dL_law_503 : decode cL_law 503 = .ok (.ifCond .eq 5, 3) := by decide +kernel
theorem dL_law_506 : decode cL_law 506 = .ok (.iconst 0, 1) := by decide +kernel
theorem dL_law_507 : decode cL_law 507 = .ok (.ireturn, 1) := by decide +kernel
theorem dL_law_508 : decode cL_law 508 = .ok (.goto 1006, 3) := by decide +kernel
theorem dL_law_511 : decode cL_law 511 = .ok (.aload_n 1, 1) := by decide +kernel
theorem dL_law_512 : decode cL_law 512 = .ok (.aload_n 0, 1) := by decide +kernel
theorem dL_law_513 : decode cL_law 513 = .ok (.iload 5, 2) := by decide +kernel
theorem dL_law_515 : decode cL_law 515 = .ok (.iconst 1, 1) := by decide +kernel
theorem dL_law_516 : decode cL_law 516 = .ok (.iadd, 1) := by decide +kernel
theorem dL_law_517 : decode cL_law 517 = .ok (.iaload, 1) := by decide +kernel
theorem dL_law_518 : decode cL_law 518 = .ok (.aload_n 0, 1) := by decide +kernel
theorem dL_law_519 : decode cL_law 519 = .ok (.iload 5, 2) := by decide +kernel
theorem dL_law_521 : decode cL_law 521 = .ok (.iconst 2, 1) := by decide +kernel
theorem dL_law_522 : decode cL_law 522 = .ok (.iadd, 1) := by decide +kernel
theorem dL_law_523 : decode cL_law 523 = .ok (.iaload, 1) := by decide +kernel
theorem dL_law_524 : decode cL_law 524 = .ok (.aload_n 3, 1) := by decide +kernel
theorem dL_law_525 : decode cL_law 525 = .ok (.invokestatic 101, 3) := by decide +kernel
theorem dL_law_528 : decode cL_law 528 = .ok (.istore 6, 2) := by decide +kernel
theorem dL_law_530 : decode cL_law 530 = .ok (.aload_n 2, 1) := by decide +kernel
theorem dL_law_531 : decode cL_law 531 = .ok (.aload_n 0, 1) := by decide +kernel
theorem dL_law_532 : decode cL_law 532 = .ok (.iload 5, 2) := by decide +kernel
theorem dL_law_534 : decode cL_law 534 = .ok (.iconst 1, 1) := by decide +kernel
theorem dL_law_535 : decode cL_law 535 = .ok (.iadd, 1) := by decide +kernel
theorem dL_law_536 : decode cL_law 536 = .ok (.iaload, 1) := by decide +kernel
theorem dL_law_537 : decode cL_law 537 = .ok (.aload_n 0, 1) := by decide +kernel
theorem dL_law_538 : decode cL_law 538 = .ok (.iload 5, 2) := by decide +kernel
theorem dL_law_540 : decode cL_law 540 = .ok (.iconst 2, 1) := by decide +kernel
theorem dL_law_541 : decode cL_law 541 = .ok (.iadd, 1) := by decide +kernel
theorem dL_law_542 : decode cL_law 542 = .ok (.iaload, 1) := by decide +kernel
theorem dL_law_543 : decode cL_law 543 = .ok (.invokevirtual 103, 3) := by decide +kernel
theorem dL_law_546 : decode cL_law 546 = .ok (.istore 7, 2) := by decide +kernel
theorem dL_law_548 : decode cL_law 548 = .ok (.aload_n 2, 1) := by decide +kernel
theorem dL_law_549 : decode cL_law 549 = .ok (.invokevirtual 83, 3) := by decide +kernel
theorem dL_law_552 : decode cL_law 552 = .ok (.iload 6, 2) := by decide +kernel
theorem dL_law_554 : decode cL_law 554 = .ok (.if_icmp .eq 5, 3) := by decide +kernel
theorem dL_law_557 : decode cL_law 557 = .ok (.iconst 0, 1) := by decide +kernel
theorem dL_law_558 : decode cL_law 558 = .ok (.ireturn, 1) := by decide +kernel
theorem dL_law_559 : decode cL_law 559 = .ok (.iload 6, 2) := by decide +kernel
theorem dL_law_561 : decode cL_law 561 = .ok (.ifCond .ne 15, 3) := by decide +kernel
theorem dL_law_564 : decode cL_law 564 = .ok (.aload_n 3, 1) := by decide +kernel
theorem dL_law_565 : decode cL_law 565 = .ok (.iconst 0, 1) := by decide +kernel
theorem dL_law_566 : decode cL_law 566 = .ok (.laload, 1) := by decide +kernel
theorem dL_law_567 : decode cL_law 567 = .ok (.iload 7, 2) := by decide +kernel
theorem dL_law_569 : decode cL_law 569 = .ok (.i2l, 1) := by decide +kernel
theorem dL_law_570 : decode cL_law 570 = .ok (.lcmp, 1) := by decide +kernel
theorem dL_law_571 : decode cL_law 571 = .ok (.ifCond .eq 5, 3) := by decide +kernel
theorem dL_law_574 : decode cL_law 574 = .ok (.iconst 0, 1) := by decide +kernel
theorem dL_law_575 : decode cL_law 575 = .ok (.ireturn, 1) := by decide +kernel
theorem dL_law_576 : decode cL_law 576 = .ok (.goto 938, 3) := by decide +kernel
theorem dL_law_579 : decode cL_law 579 = .ok (.aload_n 1, 1) := by decide +kernel
theorem dL_law_580 : decode cL_law 580 = .ok (.aload_n 0, 1) := by decide +kernel
theorem dL_law_581 : decode cL_law 581 = .ok (.iload 5, 2) := by decide +kernel
theorem dL_law_583 : decode cL_law 583 = .ok (.iconst 1, 1) := by decide +kernel
theorem dL_law_584 : decode cL_law 584 = .ok (.iadd, 1) := by decide +kernel
theorem dL_law_585 : decode cL_law 585 = .ok (.iaload, 1) := by decide +kernel
theorem dL_law_586 : decode cL_law 586 = .ok (.aload_n 0, 1) := by decide +kernel
theorem dL_law_587 : decode cL_law 587 = .ok (.iload 5, 2) := by decide +kernel
theorem dL_law_589 : decode cL_law 589 = .ok (.iconst 2, 1) := by decide +kernel
theorem dL_law_590 : decode cL_law 590 = .ok (.iadd, 1) := by decide +kernel
theorem dL_law_591 : decode cL_law 591 = .ok (.iaload, 1) := by decide +kernel
theorem dL_law_592 : decode cL_law 592 = .ok (.aload_n 3, 1) := by decide +kernel
theorem dL_law_593 : decode cL_law 593 = .ok (.invokestatic 104, 3) := by decide +kernel
theorem dL_law_596 : decode cL_law 596 = .ok (.istore 6, 2) := by decide +kernel
theorem dL_law_598 : decode cL_law 598 = .ok (.aload_n 2, 1) := by decide +kernel
theorem dL_law_599 : decode cL_law 599 = .ok (.aload_n 0, 1) := by decide +kernel
theorem dL_law_600 : decode cL_law 600 = .ok (.iload 5, 2) := by decide +kernel
theorem dL_law_602 : decode cL_law 602 = .ok (.iconst 1, 1) := by decide +kernel
theorem dL_law_603 : decode cL_law 603 = .ok (.iadd, 1) := by decide +kernel
theorem dL_law_604 : decode cL_law 604 = .ok (.iaload, 1) := by decide +kernel
theorem dL_law_605 : decode cL_law 605 = .ok (.aload_n 0, 1) := by decide +kernel
theorem dL_law_606 : decode cL_law 606 = .ok (.iload 5, 2) := by decide +kernel
theorem dL_law_608 : decode cL_law 608 = .ok (.iconst 2, 1) := by decide +kernel
theorem dL_law_609 : decode cL_law 609 = .ok (.iadd, 1) := by decide +kernel
theorem dL_law_610 : decode cL_law 610 = .ok (.iaload, 1) := by decide +kernel
theorem dL_law_611 : decode cL_law 611 = .ok (.invokevirtual 106, 3) := by decide +kernel
theorem dL_law_614 : decode cL_law 614 = .ok (.istore 7, 2) := by decide +kernel
theorem dL_law_616 : decode cL_law 616 = .ok (.aload_n 2, 1) := by decide +kernel
theorem dL_law_617 : decode cL_law 617 = .ok (.invokevirtual 83, 3) := by decide +kernel
theorem dL_law_620 : decode cL_law 620 = .ok (.iload 6, 2) := by decide +kernel
theorem dL_law_622 : decode cL_law 622 = .ok (.if_icmp .eq 5, 3) := by decide +kernel
theorem dL_law_625 : decode cL_law 625 = .ok (.iconst 0, 1) := by decide +kernel
theorem dL_law_626 : decode cL_law 626 = .ok (.ireturn, 1) := by decide +kernel
theorem dL_law_627 : decode cL_law 627 = .ok (.iload 6, 2) := by decide +kernel
theorem dL_law_629 : decode cL_law 629 = .ok (.ifCond .ne 22, 3) := by decide +kernel
theorem dL_law_632 : decode cL_law 632 = .ok (.aload_n 3, 1) := by decide +kernel
theorem dL_law_633 : decode cL_law 633 = .ok (.iconst 0, 1) := by decide +kernel
theorem dL_law_634 : decode cL_law 634 = .ok (.laload, 1) := by decide +kernel
theorem dL_law_635 : decode cL_law 635 = .ok (.iload 7, 2) := by decide +kernel
theorem dL_law_637 : decode cL_law 637 = .ok (.ifCond .eq 7, 3) := by decide +kernel
theorem dL_law_640 : decode cL_law 640 = .ok (.lconst 1, 1) := by decide +kernel
theorem dL_law_641 : decode cL_law 641 = .ok (.goto 4, 3) := by decide +kernel
theorem dL_law_644 : decode cL_law 644 = .ok (.lconst 0, 1) := by decide +kernel
theorem dL_law_645 : decode cL_law 645 = .ok (.lcmp, 1) := by decide +kernel
theorem dL_law_646 : decode cL_law 646 = .ok (.ifCond .eq 5, 3) := by decide +kernel
theorem dL_law_649 : decode cL_law 649 = .ok (.iconst 0, 1) := by decide +kernel
theorem dL_law_650 : decode cL_law 650 = .ok (.ireturn, 1) := by decide +kernel
theorem dL_law_651 : decode cL_law 651 = .ok (.goto 863, 3) := by decide +kernel
theorem dL_law_654 : decode cL_law 654 = .ok (.aload_n 1, 1) := by decide +kernel
theorem dL_law_655 : decode cL_law 655 = .ok (.aload_n 0, 1) := by decide +kernel
theorem dL_law_656 : decode cL_law 656 = .ok (.iload 5, 2) := by decide +kernel
theorem dL_law_658 : decode cL_law 658 = .ok (.iconst 1, 1) := by decide +kernel
theorem dL_law_659 : decode cL_law 659 = .ok (.iadd, 1) := by decide +kernel
theorem dL_law_660 : decode cL_law 660 = .ok (.iaload, 1) := by decide +kernel
theorem dL_law_661 : decode cL_law 661 = .ok (.aload_n 0, 1) := by decide +kernel
theorem dL_law_662 : decode cL_law 662 = .ok (.iload 5, 2) := by decide +kernel
theorem dL_law_664 : decode cL_law 664 = .ok (.iconst 2, 1) := by decide +kernel
theorem dL_law_665 : decode cL_law 665 = .ok (.iadd, 1) := by decide +kernel
theorem dL_law_666 : decode cL_law 666 = .ok (.iaload, 1) := by decide +kernel
theorem dL_law_667 : decode cL_law 667 = .ok (.aload_n 0, 1) := by decide +kernel
theorem dL_law_668 : decode cL_law 668 = .ok (.iload 5, 2) := by decide +kernel
theorem dL_law_670 : decode cL_law 670 = .ok (.iconst 3, 1) := by decide +kernel
theorem dL_law_671 : decode cL_law 671 = .ok (.iadd, 1) := by decide +kernel
theorem dL_law_672 : decode cL_law 672 = .ok (.iaload, 1) := by decide +kernel
theorem dL_law_673 : decode cL_law 673 = .ok (.aload_n 3, 1) := by decide +kernel
theorem dL_law_674 : decode cL_law 674 = .ok (.invokestatic 107, 3) := by decide +kernel
theorem dL_law_677 : decode cL_law 677 = .ok (.istore 6, 2) := by decide +kernel
theorem dL_law_679 : decode cL_law 679 = .ok (.aload_n 2, 1) := by decide +kernel
theorem dL_law_680 : decode cL_law 680 = .ok (.aload_n 0, 1) := by decide +kernel
theorem dL_law_681 : decode cL_law 681 = .ok (.iload 5, 2) := by decide +kernel
theorem dL_law_683 : decode cL_law 683 = .ok (.iconst 1, 1) := by decide +kernel
theorem dL_law_684 : decode cL_law 684 = .ok (.iadd, 1) := by decide +kernel
theorem dL_law_685 : decode cL_law 685 = .ok (.iaload, 1) := by decide +kernel
theorem dL_law_686 : decode cL_law 686 = .ok (.aload_n 0, 1) := by decide +kernel
theorem dL_law_687 : decode cL_law 687 = .ok (.iload 5, 2) := by decide +kernel
theorem dL_law_689 : decode cL_law 689 = .ok (.iconst 2, 1) := by decide +kernel
theorem dL_law_690 : decode cL_law 690 = .ok (.iadd, 1) := by decide +kernel
theorem dL_law_691 : decode cL_law 691 = .ok (.iaload, 1) := by decide +kernel
theorem dL_law_692 : decode cL_law 692 = .ok (.aload_n 0, 1) := by decide +kernel
theorem dL_law_693 : decode cL_law 693 = .ok (.iload 5, 2) := by decide +kernel
theorem dL_law_695 : decode cL_law 695 = .ok (.iconst 3, 1) := by decide +kernel
theorem dL_law_696 : decode cL_law 696 = .ok (.iadd, 1) := by decide +kernel
theorem dL_law_697 : decode cL_law 697 = .ok (.iaload, 1) := by decide +kernel
theorem dL_law_698 : decode cL_law 698 = .ok (.invokevirtual 109, 3) := by decide +kernel
theorem dL_law_701 : decode cL_law 701 = .ok (.istore 7, 2) := by decide +kernel
theorem dL_law_703 : decode cL_law 703 = .ok (.aload_n 2, 1) := by decide +kernel
theorem dL_law_704 : decode cL_law 704 = .ok (.invokevirtual 83, 3) := by decide +kernel
theorem dL_law_707 : decode cL_law 707 = .ok (.iload 6, 2) := by decide +kernel
theorem dL_law_709 : decode cL_law 709 = .ok (.if_icmp .eq 5, 3) := by decide +kernel
theorem dL_law_712 : decode cL_law 712 = .ok (.iconst 0, 1) := by decide +kernel
theorem dL_law_713 : decode cL_law 713 = .ok (.ireturn, 1) := by decide +kernel
theorem dL_law_714 : decode cL_law 714 = .ok (.iload 6, 2) := by decide +kernel
theorem dL_law_716 : decode cL_law 716 = .ok (.ifCond .ne 15, 3) := by decide +kernel
theorem dL_law_719 : decode cL_law 719 = .ok (.aload_n 3, 1) := by decide +kernel
theorem dL_law_720 : decode cL_law 720 = .ok (.iconst 0, 1) := by decide +kernel
theorem dL_law_721 : decode cL_law 721 = .ok (.laload, 1) := by decide +kernel
theorem dL_law_722 : decode cL_law 722 = .ok (.iload 7, 2) := by decide +kernel
theorem dL_law_724 : decode cL_law 724 = .ok (.i2l, 1) := by decide +kernel
theorem dL_law_725 : decode cL_law 725 = .ok (.lcmp, 1) := by decide +kernel
theorem dL_law_726 : decode cL_law 726 = .ok (.ifCond .eq 5, 3) := by decide +kernel
theorem dL_law_729 : decode cL_law 729 = .ok (.iconst 0, 1) := by decide +kernel
theorem dL_law_730 : decode cL_law 730 = .ok (.ireturn, 1) := by decide +kernel
theorem dL_law_731 : decode cL_law 731 = .ok (.goto 783, 3) := by decide +kernel
theorem dL_law_734 : decode cL_law 734 = .ok (.aload_n 1, 1) := by decide +kernel
theorem dL_law_735 : decode cL_law 735 = .ok (.aload_n 0, 1) := by decide +kernel
theorem dL_law_736 : decode cL_law 736 = .ok (.iload 5, 2) := by decide +kernel
theorem dL_law_738 : decode cL_law 738 = .ok (.iconst 1, 1) := by decide +kernel
theorem dL_law_739 : decode cL_law 739 = .ok (.iadd, 1) := by decide +kernel
theorem dL_law_740 : decode cL_law 740 = .ok (.iaload, 1) := by decide +kernel
theorem dL_law_741 : decode cL_law 741 = .ok (.aload_n 0, 1) := by decide +kernel
theorem dL_law_742 : decode cL_law 742 = .ok (.iload 5, 2) := by decide +kernel
theorem dL_law_744 : decode cL_law 744 = .ok (.iconst 2, 1) := by decide +kernel
theorem dL_law_745 : decode cL_law 745 = .ok (.iadd, 1) := by decide +kernel
theorem dL_law_746 : decode cL_law 746 = .ok (.iaload, 1) := by decide +kernel
theorem dL_law_747 : decode cL_law 747 = .ok (.aload_n 3, 1) := by decide +kernel
theorem dL_law_748 : decode cL_law 748 = .ok (.invokestatic 110, 3) := by decide +kernel
theorem dL_law_751 : decode cL_law 751 = .ok (.istore 6, 2) := by decide +kernel
theorem dL_law_753 : decode cL_law 753 = .ok (.aload_n 2, 1) := by decide +kernel
theorem dL_law_754 : decode cL_law 754 = .ok (.aload_n 0, 1) := by decide +kernel
theorem dL_law_755 : decode cL_law 755 = .ok (.iload 5, 2) := by decide +kernel
theorem dL_law_757 : decode cL_law 757 = .ok (.iconst 1, 1) := by decide +kernel
theorem dL_law_758 : decode cL_law 758 = .ok (.iadd, 1) := by decide +kernel
theorem dL_law_759 : decode cL_law 759 = .ok (.iaload, 1) := by decide +kernel
theorem dL_law_760 : decode cL_law 760 = .ok (.aload_n 0, 1) := by decide +kernel
theorem dL_law_761 : decode cL_law 761 = .ok (.iload 5, 2) := by decide +kernel
theorem dL_law_763 : decode cL_law 763 = .ok (.iconst 2, 1) := by decide +kernel
theorem dL_law_764 : decode cL_law 764 = .ok (.iadd, 1) := by decide +kernel
theorem dL_law_765 : decode cL_law 765 = .ok (.iaload, 1) := by decide +kernel
theorem dL_law_766 : decode cL_law 766 = .ok (.invokevirtual 112, 3) := by decide +kernel
theorem dL_law_769 : decode cL_law 769 = .ok (.istore 7, 2) := by decide +kernel
theorem dL_law_771 : decode cL_law 771 = .ok (.aload_n 2, 1) := by decide +kernel
theorem dL_law_772 : decode cL_law 772 = .ok (.invokevirtual 83, 3) := by decide +kernel
theorem dL_law_775 : decode cL_law 775 = .ok (.iload 6, 2) := by decide +kernel
theorem dL_law_777 : decode cL_law 777 = .ok (.if_icmp .eq 5, 3) := by decide +kernel
theorem dL_law_780 : decode cL_law 780 = .ok (.iconst 0, 1) := by decide +kernel
theorem dL_law_781 : decode cL_law 781 = .ok (.ireturn, 1) := by decide +kernel
theorem dL_law_782 : decode cL_law 782 = .ok (.iload 6, 2) := by decide +kernel
theorem dL_law_784 : decode cL_law 784 = .ok (.ifCond .ne 15, 3) := by decide +kernel
theorem dL_law_787 : decode cL_law 787 = .ok (.aload_n 3, 1) := by decide +kernel
theorem dL_law_788 : decode cL_law 788 = .ok (.iconst 0, 1) := by decide +kernel
theorem dL_law_789 : decode cL_law 789 = .ok (.laload, 1) := by decide +kernel
theorem dL_law_790 : decode cL_law 790 = .ok (.iload 7, 2) := by decide +kernel
theorem dL_law_792 : decode cL_law 792 = .ok (.i2l, 1) := by decide +kernel
theorem dL_law_793 : decode cL_law 793 = .ok (.lcmp, 1) := by decide +kernel
theorem dL_law_794 : decode cL_law 794 = .ok (.ifCond .eq 5, 3) := by decide +kernel
theorem dL_law_797 : decode cL_law 797 = .ok (.iconst 0, 1) := by decide +kernel
theorem dL_law_798 : decode cL_law 798 = .ok (.ireturn, 1) := by decide +kernel
theorem dL_law_799 : decode cL_law 799 = .ok (.goto 715, 3) := by decide +kernel
theorem dL_law_802 : decode cL_law 802 = .ok (.aload_n 1, 1) := by decide +kernel
theorem dL_law_803 : decode cL_law 803 = .ok (.aload_n 0, 1) := by decide +kernel
theorem dL_law_804 : decode cL_law 804 = .ok (.iload 5, 2) := by decide +kernel
theorem dL_law_806 : decode cL_law 806 = .ok (.iconst 1, 1) := by decide +kernel
theorem dL_law_807 : decode cL_law 807 = .ok (.iadd, 1) := by decide +kernel
theorem dL_law_808 : decode cL_law 808 = .ok (.iaload, 1) := by decide +kernel
theorem dL_law_809 : decode cL_law 809 = .ok (.aload_n 0, 1) := by decide +kernel
theorem dL_law_810 : decode cL_law 810 = .ok (.iload 5, 2) := by decide +kernel
theorem dL_law_812 : decode cL_law 812 = .ok (.iconst 2, 1) := by decide +kernel
theorem dL_law_813 : decode cL_law 813 = .ok (.iadd, 1) := by decide +kernel
theorem dL_law_814 : decode cL_law 814 = .ok (.iaload, 1) := by decide +kernel
theorem dL_law_815 : decode cL_law 815 = .ok (.aload_n 3, 1) := by decide +kernel
theorem dL_law_816 : decode cL_law 816 = .ok (.invokestatic 113, 3) := by decide +kernel
theorem dL_law_819 : decode cL_law 819 = .ok (.istore 6, 2) := by decide +kernel
theorem dL_law_821 : decode cL_law 821 = .ok (.aload_n 2, 1) := by decide +kernel
theorem dL_law_822 : decode cL_law 822 = .ok (.aload_n 0, 1) := by decide +kernel
theorem dL_law_823 : decode cL_law 823 = .ok (.iload 5, 2) := by decide +kernel
theorem dL_law_825 : decode cL_law 825 = .ok (.iconst 1, 1) := by decide +kernel
theorem dL_law_826 : decode cL_law 826 = .ok (.iadd, 1) := by decide +kernel
theorem dL_law_827 : decode cL_law 827 = .ok (.iaload, 1) := by decide +kernel
theorem dL_law_828 : decode cL_law 828 = .ok (.aload_n 0, 1) := by decide +kernel
theorem dL_law_829 : decode cL_law 829 = .ok (.iload 5, 2) := by decide +kernel
theorem dL_law_831 : decode cL_law 831 = .ok (.iconst 2, 1) := by decide +kernel
theorem dL_law_832 : decode cL_law 832 = .ok (.iadd, 1) := by decide +kernel
theorem dL_law_833 : decode cL_law 833 = .ok (.iaload, 1) := by decide +kernel
theorem dL_law_834 : decode cL_law 834 = .ok (.invokevirtual 115, 3) := by decide +kernel
theorem dL_law_837 : decode cL_law 837 = .ok (.istore 7, 2) := by decide +kernel
theorem dL_law_839 : decode cL_law 839 = .ok (.aload_n 2, 1) := by decide +kernel
theorem dL_law_840 : decode cL_law 840 = .ok (.invokevirtual 83, 3) := by decide +kernel
theorem dL_law_843 : decode cL_law 843 = .ok (.iload 6, 2) := by decide +kernel
theorem dL_law_845 : decode cL_law 845 = .ok (.if_icmp .eq 5, 3) := by decide +kernel
theorem dL_law_848 : decode cL_law 848 = .ok (.iconst 0, 1) := by decide +kernel
theorem dL_law_849 : decode cL_law 849 = .ok (.ireturn, 1) := by decide +kernel
theorem dL_law_850 : decode cL_law 850 = .ok (.iload 6, 2) := by decide +kernel
theorem dL_law_852 : decode cL_law 852 = .ok (.ifCond .ne 15, 3) := by decide +kernel
theorem dL_law_855 : decode cL_law 855 = .ok (.aload_n 3, 1) := by decide +kernel
theorem dL_law_856 : decode cL_law 856 = .ok (.iconst 0, 1) := by decide +kernel
theorem dL_law_857 : decode cL_law 857 = .ok (.laload, 1) := by decide +kernel
theorem dL_law_858 : decode cL_law 858 = .ok (.iload 7, 2) := by decide +kernel
theorem dL_law_860 : decode cL_law 860 = .ok (.i2l, 1) := by decide +kernel
theorem dL_law_861 : decode cL_law 861 = .ok (.lcmp, 1) := by decide +kernel
theorem dL_law_862 : decode cL_law 862 = .ok (.ifCond .eq 5, 3) := by decide +kernel
theorem dL_law_865 : decode cL_law 865 = .ok (.iconst 0, 1) := by decide +kernel
theorem dL_law_866 : decode cL_law 866 = .ok (.ireturn, 1) := by decide +kernel
theorem dL_law_867 : decode cL_law 867 = .ok (.goto 647, 3) := by decide +kernel
theorem dL_law_870 : decode cL_law 870 = .ok (.aload_n 1, 1) := by decide +kernel
theorem dL_law_871 : decode cL_law 871 = .ok (.invokevirtual 116, 3) := by decide +kernel
theorem dL_law_874 : decode cL_law 874 = .ok (.aload_n 2, 1) := by decide +kernel
theorem dL_law_875 : decode cL_law 875 = .ok (.invokevirtual 119, 3) := by decide +kernel
theorem dL_law_878 : decode cL_law 878 = .ok (.if_icmp .eq 636, 3) := by decide +kernel
theorem dL_law_881 : decode cL_law 881 = .ok (.iconst 0, 1) := by decide +kernel
theorem dL_law_882 : decode cL_law 882 = .ok (.ireturn, 1) := by decide +kernel
theorem dL_law_883 : decode cL_law 883 = .ok (.aload_n 1, 1) := by decide +kernel
theorem dL_law_884 : decode cL_law 884 = .ok (.invokevirtual 120, 3) := by decide +kernel
theorem dL_law_887 : decode cL_law 887 = .ok (.aload_n 2, 1) := by decide +kernel
theorem dL_law_888 : decode cL_law 888 = .ok (.invokevirtual 123, 3) := by decide +kernel
theorem dL_law_891 : decode cL_law 891 = .ok (.if_icmp .eq 623, 3) := by decide +kernel
theorem dL_law_894 : decode cL_law 894 = .ok (.iconst 0, 1) := by decide +kernel
theorem dL_law_895 : decode cL_law 895 = .ok (.ireturn, 1) := by decide +kernel
theorem dL_law_896 : decode cL_law 896 = .ok (.aload_n 1, 1) := by decide +kernel
theorem dL_law_897 : decode cL_law 897 = .ok (.invokevirtual 124, 3) := by decide +kernel
theorem dL_law_900 : decode cL_law 900 = .ok (.aload_n 2, 1) := by decide +kernel
theorem dL_law_901 : decode cL_law 901 = .ok (.invokevirtual 127, 3) := by decide +kernel
theorem dL_law_904 : decode cL_law 904 = .ok (.if_icmp .eq 610, 3) := by decide +kernel
theorem dL_law_907 : decode cL_law 907 = .ok (.iconst 0, 1) := by decide +kernel
theorem dL_law_908 : decode cL_law 908 = .ok (.ireturn, 1) := by decide +kernel
theorem dL_law_909 : decode cL_law 909 = .ok (.aload_n 1, 1) := by decide +kernel
theorem dL_law_910 : decode cL_law 910 = .ok (.invokevirtual 128, 3) := by decide +kernel
theorem dL_law_913 : decode cL_law 913 = .ok (.aload_n 2, 1) := by decide +kernel
theorem dL_law_914 : decode cL_law 914 = .ok (.invokevirtual 131, 3) := by decide +kernel
theorem dL_law_917 : decode cL_law 917 = .ok (.if_icmp .eq 597, 3) := by decide +kernel
theorem dL_law_920 : decode cL_law 920 = .ok (.iconst 0, 1) := by decide +kernel
theorem dL_law_921 : decode cL_law 921 = .ok (.ireturn, 1) := by decide +kernel
theorem dL_law_922 : decode cL_law 922 = .ok (.aload_n 1, 1) := by decide +kernel
theorem dL_law_923 : decode cL_law 923 = .ok (.invokevirtual 132, 3) := by decide +kernel
theorem dL_law_926 : decode cL_law 926 = .ok (.aload_n 2, 1) := by decide +kernel
theorem dL_law_927 : decode cL_law 927 = .ok (.invokevirtual 135, 3) := by decide +kernel
theorem dL_law_930 : decode cL_law 930 = .ok (.if_icmp .eq 584, 3) := by decide +kernel
theorem dL_law_933 : decode cL_law 933 = .ok (.iconst 0, 1) := by decide +kernel
theorem dL_law_934 : decode cL_law 934 = .ok (.ireturn, 1) := by decide +kernel
theorem dL_law_935 : decode cL_law 935 = .ok (.aload_n 1, 1) := by decide +kernel
theorem dL_law_936 : decode cL_law 936 = .ok (.aload_n 0, 1) := by decide +kernel
theorem dL_law_937 : decode cL_law 937 = .ok (.iload 5, 2) := by decide +kernel
theorem dL_law_939 : decode cL_law 939 = .ok (.iconst 1, 1) := by decide +kernel
theorem dL_law_940 : decode cL_law 940 = .ok (.iadd, 1) := by decide +kernel
theorem dL_law_941 : decode cL_law 941 = .ok (.iaload, 1) := by decide +kernel
theorem dL_law_942 : decode cL_law 942 = .ok (.aload_n 3, 1) := by decide +kernel
theorem dL_law_943 : decode cL_law 943 = .ok (.invokestatic 136, 3) := by decide +kernel
theorem dL_law_946 : decode cL_law 946 = .ok (.istore 6, 2) := by decide +kernel
theorem dL_law_948 : decode cL_law 948 = .ok (.aload_n 2, 1) := by decide +kernel
theorem dL_law_949 : decode cL_law 949 = .ok (.aload_n 0, 1) := by decide +kernel
theorem dL_law_950 : decode cL_law 950 = .ok (.iload 5, 2) := by decide +kernel
theorem dL_law_952 : decode cL_law 952 = .ok (.iconst 1, 1) := by decide +kernel
theorem dL_law_953 : decode cL_law 953 = .ok (.iadd, 1) := by decide +kernel
theorem dL_law_954 : decode cL_law 954 = .ok (.iaload, 1) := by decide +kernel
theorem dL_law_955 : decode cL_law 955 = .ok (.invokevirtual 138, 3) := by decide +kernel
theorem dL_law_958 : decode cL_law 958 = .ok (.istore 7, 2) := by decide +kernel
theorem dL_law_960 : decode cL_law 960 = .ok (.aload_n 2, 1) := by decide +kernel
theorem dL_law_961 : decode cL_law 961 = .ok (.invokevirtual 83, 3) := by decide +kernel
theorem dL_law_964 : decode cL_law 964 = .ok (.iload 6, 2) := by decide +kernel
theorem dL_law_966 : decode cL_law 966 = .ok (.if_icmp .eq 5, 3) := by decide +kernel
theorem dL_law_969 : decode cL_law 969 = .ok (.iconst 0, 1) := by decide +kernel
theorem dL_law_970 : decode cL_law 970 = .ok (.ireturn, 1) := by decide +kernel
theorem dL_law_971 : decode cL_law 971 = .ok (.iload 6, 2) := by decide +kernel
theorem dL_law_973 : decode cL_law 973 = .ok (.ifCond .ne 15, 3) := by decide +kernel
theorem dL_law_976 : decode cL_law 976 = .ok (.aload_n 3, 1) := by decide +kernel
theorem dL_law_977 : decode cL_law 977 = .ok (.iconst 0, 1) := by decide +kernel
theorem dL_law_978 : decode cL_law 978 = .ok (.laload, 1) := by decide +kernel
theorem dL_law_979 : decode cL_law 979 = .ok (.iload 7, 2) := by decide +kernel
theorem dL_law_981 : decode cL_law 981 = .ok (.i2l, 1) := by decide +kernel
theorem dL_law_982 : decode cL_law 982 = .ok (.lcmp, 1) := by decide +kernel
theorem dL_law_983 : decode cL_law 983 = .ok (.ifCond .eq 5, 3) := by decide +kernel
theorem dL_law_986 : decode cL_law 986 = .ok (.iconst 0, 1) := by decide +kernel
theorem dL_law_987 : decode cL_law 987 = .ok (.ireturn, 1) := by decide +kernel
theorem dL_law_988 : decode cL_law 988 = .ok (.goto 526, 3) := by decide +kernel
theorem dL_law_991 : decode cL_law 991 = .ok (.aload_n 1, 1) := by decide +kernel
theorem dL_law_992 : decode cL_law 992 = .ok (.aload_n 0, 1) := by decide +kernel
theorem dL_law_993 : decode cL_law 993 = .ok (.iload 5, 2) := by decide +kernel
theorem dL_law_995 : decode cL_law 995 = .ok (.iconst 1, 1) := by decide +kernel
theorem dL_law_996 : decode cL_law 996 = .ok (.iadd, 1) := by decide +kernel
theorem dL_law_997 : decode cL_law 997 = .ok (.iaload, 1) := by decide +kernel
theorem dL_law_998 : decode cL_law 998 = .ok (.aload_n 3, 1) := by decide +kernel
theorem dL_law_999 : decode cL_law 999 = .ok (.invokestatic 139, 3) := by decide +kernel
theorem dL_law_1002 : decode cL_law 1002 = .ok (.istore 6, 2) := by decide +kernel
theorem dL_law_1004 : decode cL_law 1004 = .ok (.aload_n 2, 1) := by decide +kernel
theorem dL_law_1005 : decode cL_law 1005 = .ok (.aload_n 0, 1) := by decide +kernel
theorem dL_law_1006 : decode cL_law 1006 = .ok (.iload 5, 2) := by decide +kernel
theorem dL_law_1008 : decode cL_law 1008 = .ok (.iconst 1, 1) := by decide +kernel
theorem dL_law_1009 : decode cL_law 1009 = .ok (.iadd, 1) := by decide +kernel
theorem dL_law_1010 : decode cL_law 1010 = .ok (.iaload, 1) := by decide +kernel
theorem dL_law_1011 : decode cL_law 1011 = .ok (.invokevirtual 141, 3) := by decide +kernel
theorem dL_law_1014 : decode cL_law 1014 = .ok (.istore 7, 2) := by decide +kernel
theorem dL_law_1016 : decode cL_law 1016 = .ok (.aload_n 2, 1) := by decide +kernel
theorem dL_law_1017 : decode cL_law 1017 = .ok (.invokevirtual 83, 3) := by decide +kernel
theorem dL_law_1020 : decode cL_law 1020 = .ok (.iload 6, 2) := by decide +kernel
theorem dL_law_1022 : decode cL_law 1022 = .ok (.if_icmp .eq 5, 3) := by decide +kernel
theorem dL_law_1025 : decode cL_law 1025 = .ok (.iconst 0, 1) := by decide +kernel
theorem dL_law_1026 : decode cL_law 1026 = .ok (.ireturn, 1) := by decide +kernel
theorem dL_law_1027 : decode cL_law 1027 = .ok (.iload 6, 2) := by decide +kernel
theorem dL_law_1029 : decode cL_law 1029 = .ok (.ifCond .ne 15, 3) := by decide +kernel
theorem dL_law_1032 : decode cL_law 1032 = .ok (.aload_n 3, 1) := by decide +kernel
theorem dL_law_1033 : decode cL_law 1033 = .ok (.iconst 0, 1) := by decide +kernel
theorem dL_law_1034 : decode cL_law 1034 = .ok (.laload, 1) := by decide +kernel
theorem dL_law_1035 : decode cL_law 1035 = .ok (.iload 7, 2) := by decide +kernel
theorem dL_law_1037 : decode cL_law 1037 = .ok (.i2l, 1) := by decide +kernel
theorem dL_law_1038 : decode cL_law 1038 = .ok (.lcmp, 1) := by decide +kernel
theorem dL_law_1039 : decode cL_law 1039 = .ok (.ifCond .eq 5, 3) := by decide +kernel
theorem dL_law_1042 : decode cL_law 1042 = .ok (.iconst 0, 1) := by decide +kernel
theorem dL_law_1043 : decode cL_law 1043 = .ok (.ireturn, 1) := by decide +kernel
theorem dL_law_1044 : decode cL_law 1044 = .ok (.goto 470, 3) := by decide +kernel
theorem dL_law_1047 : decode cL_law 1047 = .ok (.aload_n 1, 1) := by decide +kernel
theorem dL_law_1048 : decode cL_law 1048 = .ok (.aload_n 0, 1) := by decide +kernel
theorem dL_law_1049 : decode cL_law 1049 = .ok (.iload 5, 2) := by decide +kernel
theorem dL_law_1051 : decode cL_law 1051 = .ok (.iconst 1, 1) := by decide +kernel
theorem dL_law_1052 : decode cL_law 1052 = .ok (.iadd, 1) := by decide +kernel
theorem dL_law_1053 : decode cL_law 1053 = .ok (.iaload, 1) := by decide +kernel
theorem dL_law_1054 : decode cL_law 1054 = .ok (.aload_n 3, 1) := by decide +kernel
theorem dL_law_1055 : decode cL_law 1055 = .ok (.invokestatic 142, 3) := by decide +kernel
theorem dL_law_1058 : decode cL_law 1058 = .ok (.istore 6, 2) := by decide +kernel
theorem dL_law_1060 : decode cL_law 1060 = .ok (.aload_n 2, 1) := by decide +kernel
theorem dL_law_1061 : decode cL_law 1061 = .ok (.aload_n 0, 1) := by decide +kernel
theorem dL_law_1062 : decode cL_law 1062 = .ok (.iload 5, 2) := by decide +kernel
theorem dL_law_1064 : decode cL_law 1064 = .ok (.iconst 1, 1) := by decide +kernel
theorem dL_law_1065 : decode cL_law 1065 = .ok (.iadd, 1) := by decide +kernel
theorem dL_law_1066 : decode cL_law 1066 = .ok (.iaload, 1) := by decide +kernel
theorem dL_law_1067 : decode cL_law 1067 = .ok (.invokevirtual 144, 3) := by decide +kernel
theorem dL_law_1070 : decode cL_law 1070 = .ok (.istore 7, 2) := by decide +kernel
theorem dL_law_1072 : decode cL_law 1072 = .ok (.aload_n 2, 1) := by decide +kernel
theorem dL_law_1073 : decode cL_law 1073 = .ok (.invokevirtual 83, 3) := by decide +kernel
theorem dL_law_1076 : decode cL_law 1076 = .ok (.iload 6, 2) := by decide +kernel
theorem dL_law_1078 : decode cL_law 1078 = .ok (.if_icmp .eq 5, 3) := by decide +kernel
theorem dL_law_1081 : decode cL_law 1081 = .ok (.iconst 0, 1) := by decide +kernel
theorem dL_law_1082 : decode cL_law 1082 = .ok (.ireturn, 1) := by decide +kernel
theorem dL_law_1083 : decode cL_law 1083 = .ok (.iload 6, 2) := by decide +kernel
theorem dL_law_1085 : decode cL_law 1085 = .ok (.ifCond .ne 15, 3) := by decide +kernel
theorem dL_law_1088 : decode cL_law 1088 = .ok (.aload_n 3, 1) := by decide +kernel
theorem dL_law_1089 : decode cL_law 1089 = .ok (.iconst 0, 1) := by decide +kernel
theorem dL_law_1090 : decode cL_law 1090 = .ok (.laload, 1) := by decide +kernel
theorem dL_law_1091 : decode cL_law 1091 = .ok (.iload 7, 2) := by decide +kernel
theorem dL_law_1093 : decode cL_law 1093 = .ok (.i2l, 1) := by decide +kernel
theorem dL_law_1094 : decode cL_law 1094 = .ok (.lcmp, 1) := by decide +kernel
theorem dL_law_1095 : decode cL_law 1095 = .ok (.ifCond .eq 5, 3) := by decide +kernel
theorem dL_law_1098 : decode cL_law 1098 = .ok (.iconst 0, 1) := by decide +kernel
theorem dL_law_1099 : decode cL_law 1099 = .ok (.ireturn, 1) := by decide +kernel
theorem dL_law_1100 : decode cL_law 1100 = .ok (.goto 414, 3) := by decide +kernel
theorem dL_law_1103 : decode cL_law 1103 = .ok (.aload_n 1, 1) := by decide +kernel
theorem dL_law_1104 : decode cL_law 1104 = .ok (.invokevirtual 145, 3) := by decide +kernel
theorem dL_law_1107 : decode cL_law 1107 = .ok (.aload_n 2, 1) := by decide +kernel
theorem dL_law_1108 : decode cL_law 1108 = .ok (.invokevirtual 148, 3) := by decide +kernel
theorem dL_law_1111 : decode cL_law 1111 = .ok (.if_icmp .eq 403, 3) := by decide +kernel
theorem dL_law_1114 : decode cL_law 1114 = .ok (.iconst 0, 1) := by decide +kernel
theorem dL_law_1115 : decode cL_law 1115 = .ok (.ireturn, 1) := by decide +kernel
theorem dL_law_1116 : decode cL_law 1116 = .ok (.aload_n 1, 1) := by decide +kernel
theorem dL_law_1117 : decode cL_law 1117 = .ok (.invokevirtual 149, 3) := by decide +kernel
theorem dL_law_1120 : decode cL_law 1120 = .ok (.aload_n 2, 1) := by decide +kernel
theorem dL_law_1121 : decode cL_law 1121 = .ok (.invokevirtual 152, 3) := by decide +kernel
theorem dL_law_1124 : decode cL_law 1124 = .ok (.if_icmp .eq 390, 3) := by decide +kernel
theorem dL_law_1127 : decode cL_law 1127 = .ok (.iconst 0, 1) := by decide +kernel
theorem dL_law_1128 : decode cL_law 1128 = .ok (.ireturn, 1) := by decide +kernel
theorem dL_law_1129 : decode cL_law 1129 = .ok (.aload_n 1, 1) := by decide +kernel
theorem dL_law_1130 : decode cL_law 1130 = .ok (.invokevirtual 153, 3) := by decide +kernel
theorem dL_law_1133 : decode cL_law 1133 = .ok (.aload_n 2, 1) := by decide +kernel
theorem dL_law_1134 : decode cL_law 1134 = .ok (.invokevirtual 157, 3) := by decide +kernel
theorem dL_law_1137 : decode cL_law 1137 = .ok (.if_icmp .eq 377, 3) := by decide +kernel
theorem dL_law_1140 : decode cL_law 1140 = .ok (.iconst 0, 1) := by decide +kernel
theorem dL_law_1141 : decode cL_law 1141 = .ok (.ireturn, 1) := by decide +kernel
theorem dL_law_1142 : decode cL_law 1142 = .ok (.aload_n 1, 1) := by decide +kernel
theorem dL_law_1143 : decode cL_law 1143 = .ok (.invokevirtual 158, 3) := by decide +kernel
theorem dL_law_1146 : decode cL_law 1146 = .ok (.aload_n 2, 1) := by decide +kernel
theorem dL_law_1147 : decode cL_law 1147 = .ok (.invokevirtual 161, 3) := by decide +kernel
theorem dL_law_1150 : decode cL_law 1150 = .ok (.if_icmp .eq 364, 3) := by decide +kernel
theorem dL_law_1153 : decode cL_law 1153 = .ok (.iconst 0, 1) := by decide +kernel
theorem dL_law_1154 : decode cL_law 1154 = .ok (.ireturn, 1) := by decide +kernel
theorem dL_law_1155 : decode cL_law 1155 = .ok (.aload_n 1, 1) := by decide +kernel
theorem dL_law_1156 : decode cL_law 1156 = .ok (.invokevirtual 162, 3) := by decide +kernel
theorem dL_law_1159 : decode cL_law 1159 = .ok (.aload_n 2, 1) := by decide +kernel
theorem dL_law_1160 : decode cL_law 1160 = .ok (.invokevirtual 165, 3) := by decide +kernel
theorem dL_law_1163 : decode cL_law 1163 = .ok (.if_icmp .eq 351, 3) := by decide +kernel
theorem dL_law_1166 : decode cL_law 1166 = .ok (.iconst 0, 1) := by decide +kernel
theorem dL_law_1167 : decode cL_law 1167 = .ok (.ireturn, 1) := by decide +kernel
theorem dL_law_1168 : decode cL_law 1168 = .ok (.aload_n 1, 1) := by decide +kernel
theorem dL_law_1169 : decode cL_law 1169 = .ok (.aload_n 0, 1) := by decide +kernel
theorem dL_law_1170 : decode cL_law 1170 = .ok (.iload 5, 2) := by decide +kernel
theorem dL_law_1172 : decode cL_law 1172 = .ok (.iconst 1, 1) := by decide +kernel
theorem dL_law_1173 : decode cL_law 1173 = .ok (.iadd, 1) := by decide +kernel
theorem dL_law_1174 : decode cL_law 1174 = .ok (.iaload, 1) := by decide +kernel
theorem dL_law_1175 : decode cL_law 1175 = .ok (.aload_n 0, 1) := by decide +kernel
theorem dL_law_1176 : decode cL_law 1176 = .ok (.iload 5, 2) := by decide +kernel
theorem dL_law_1178 : decode cL_law 1178 = .ok (.iconst 2, 1) := by decide +kernel
theorem dL_law_1179 : decode cL_law 1179 = .ok (.iadd, 1) := by decide +kernel
theorem dL_law_1180 : decode cL_law 1180 = .ok (.iaload, 1) := by decide +kernel
theorem dL_law_1181 : decode cL_law 1181 = .ok (.aload_n 3, 1) := by decide +kernel
theorem dL_law_1182 : decode cL_law 1182 = .ok (.invokestatic 166, 3) := by decide +kernel
theorem dL_law_1185 : decode cL_law 1185 = .ok (.istore 6, 2) := by decide +kernel
theorem dL_law_1187 : decode cL_law 1187 = .ok (.aload_n 2, 1) := by decide +kernel
theorem dL_law_1188 : decode cL_law 1188 = .ok (.aload_n 0, 1) := by decide +kernel
theorem dL_law_1189 : decode cL_law 1189 = .ok (.iload 5, 2) := by decide +kernel
theorem dL_law_1191 : decode cL_law 1191 = .ok (.iconst 1, 1) := by decide +kernel
theorem dL_law_1192 : decode cL_law 1192 = .ok (.iadd, 1) := by decide +kernel
theorem dL_law_1193 : decode cL_law 1193 = .ok (.iaload, 1) := by decide +kernel
theorem dL_law_1194 : decode cL_law 1194 = .ok (.aload_n 0, 1) := by decide +kernel
theorem dL_law_1195 : decode cL_law 1195 = .ok (.iload 5, 2) := by decide +kernel
theorem dL_law_1197 : decode cL_law 1197 = .ok (.iconst 2, 1) := by decide +kernel
theorem dL_law_1198 : decode cL_law 1198 = .ok (.iadd, 1) := by decide +kernel
theorem dL_law_1199 : decode cL_law 1199 = .ok (.iaload, 1) := by decide +kernel
theorem dL_law_1200 : decode cL_law 1200 = .ok (.invokevirtual 168, 3) := by decide +kernel
theorem dL_law_1203 : decode cL_law 1203 = .ok (.istore 7, 2) := by decide +kernel
theorem dL_law_1205 : decode cL_law 1205 = .ok (.aload_n 2, 1) := by decide +kernel
theorem dL_law_1206 : decode cL_law 1206 = .ok (.invokevirtual 83, 3) := by decide +kernel
theorem dL_law_1209 : decode cL_law 1209 = .ok (.iload 6, 2) := by decide +kernel
theorem dL_law_1211 : decode cL_law 1211 = .ok (.if_icmp .eq 5, 3) := by decide +kernel
theorem dL_law_1214 : decode cL_law 1214 = .ok (.iconst 0, 1) := by decide +kernel
theorem dL_law_1215 : decode cL_law 1215 = .ok (.ireturn, 1) := by decide +kernel
theorem dL_law_1216 : decode cL_law 1216 = .ok (.iload 6, 2) := by decide +kernel
theorem dL_law_1218 : decode cL_law 1218 = .ok (.ifCond .ne 15, 3) := by decide +kernel
theorem dL_law_1221 : decode cL_law 1221 = .ok (.aload_n 3, 1) := by decide +kernel
theorem dL_law_1222 : decode cL_law 1222 = .ok (.iconst 0, 1) := by decide +kernel
theorem dL_law_1223 : decode cL_law 1223 = .ok (.laload, 1) := by decide +kernel
theorem dL_law_1224 : decode cL_law 1224 = .ok (.iload 7, 2) := by decide +kernel
theorem dL_law_1226 : decode cL_law 1226 = .ok (.i2l, 1) := by decide +kernel
theorem dL_law_1227 : decode cL_law 1227 = .ok (.lcmp, 1) := by decide +kernel
theorem dL_law_1228 : decode cL_law 1228 = .ok (.ifCond .eq 5, 3) := by decide +kernel
theorem dL_law_1231 : decode cL_law 1231 = .ok (.iconst 0, 1) := by decide +kernel
theorem dL_law_1232 : decode cL_law 1232 = .ok (.ireturn, 1) := by decide +kernel
theorem dL_law_1233 : decode cL_law 1233 = .ok (.goto 281, 3) := by decide +kernel
theorem dL_law_1236 : decode cL_law 1236 = .ok (.aload_n 1, 1) := by decide +kernel
theorem dL_law_1237 : decode cL_law 1237 = .ok (.aload_n 0, 1) := by decide +kernel
theorem dL_law_1238 : decode cL_law 1238 = .ok (.iload 5, 2) := by decide +kernel
theorem dL_law_1240 : decode cL_law 1240 = .ok (.iconst 1, 1) := by decide +kernel
theorem dL_law_1241 : decode cL_law 1241 = .ok (.iadd, 1) := by decide +kernel
theorem dL_law_1242 : decode cL_law 1242 = .ok (.iaload, 1) := by decide +kernel
theorem dL_law_1243 : decode cL_law 1243 = .ok (.aload_n 3, 1) := by decide +kernel
theorem dL_law_1244 : decode cL_law 1244 = .ok (.invokestatic 169, 3) := by decide +kernel
theorem dL_law_1247 : decode cL_law 1247 = .ok (.istore 6, 2) := by decide +kernel
theorem dL_law_1249 : decode cL_law 1249 = .ok (.aload_n 2, 1) := by decide +kernel
theorem dL_law_1250 : decode cL_law 1250 = .ok (.aload_n 0, 1) := by decide +kernel
theorem dL_law_1251 : decode cL_law 1251 = .ok (.iload 5, 2) := by decide +kernel
theorem dL_law_1253 : decode cL_law 1253 = .ok (.iconst 1, 1) := by decide +kernel
theorem dL_law_1254 : decode cL_law 1254 = .ok (.iadd, 1) := by decide +kernel
theorem dL_law_1255 : decode cL_law 1255 = .ok (.iaload, 1) := by decide +kernel
theorem dL_law_1256 : decode cL_law 1256 = .ok (.invokevirtual 171, 3) := by decide +kernel
theorem dL_law_1259 : decode cL_law 1259 = .ok (.istore 7, 2) := by decide +kernel
theorem dL_law_1261 : decode cL_law 1261 = .ok (.aload_n 2, 1) := by decide +kernel
theorem dL_law_1262 : decode cL_law 1262 = .ok (.invokevirtual 83, 3) := by decide +kernel
theorem dL_law_1265 : decode cL_law 1265 = .ok (.iload 6, 2) := by decide +kernel
theorem dL_law_1267 : decode cL_law 1267 = .ok (.if_icmp .eq 5, 3) := by decide +kernel
theorem dL_law_1270 : decode cL_law 1270 = .ok (.iconst 0, 1) := by decide +kernel
theorem dL_law_1271 : decode cL_law 1271 = .ok (.ireturn, 1) := by decide +kernel
theorem dL_law_1272 : decode cL_law 1272 = .ok (.iload 6, 2) := by decide +kernel
theorem dL_law_1274 : decode cL_law 1274 = .ok (.ifCond .ne 22, 3) := by decide +kernel
theorem dL_law_1277 : decode cL_law 1277 = .ok (.aload_n 3, 1) := by decide +kernel
theorem dL_law_1278 : decode cL_law 1278 = .ok (.iconst 0, 1) := by decide +kernel
theorem dL_law_1279 : decode cL_law 1279 = .ok (.laload, 1) := by decide +kernel
theorem dL_law_1280 : decode cL_law 1280 = .ok (.iload 7, 2) := by decide +kernel
theorem dL_law_1282 : decode cL_law 1282 = .ok (.ifCond .eq 7, 3) := by decide +kernel
theorem dL_law_1285 : decode cL_law 1285 = .ok (.lconst 1, 1) := by decide +kernel
theorem dL_law_1286 : decode cL_law 1286 = .ok (.goto 4, 3) := by decide +kernel
theorem dL_law_1289 : decode cL_law 1289 = .ok (.lconst 0, 1) := by decide +kernel
theorem dL_law_1290 : decode cL_law 1290 = .ok (.lcmp, 1) := by decide +kernel
theorem dL_law_1291 : decode cL_law 1291 = .ok (.ifCond .eq 5, 3) := by decide +kernel
theorem dL_law_1294 : decode cL_law 1294 = .ok (.iconst 0, 1) := by decide +kernel
theorem dL_law_1295 : decode cL_law 1295 = .ok (.ireturn, 1) := by decide +kernel
theorem dL_law_1296 : decode cL_law 1296 = .ok (.goto 218, 3) := by decide +kernel
theorem dL_law_1299 : decode cL_law 1299 = .ok (.aload_n 1, 1) := by decide +kernel
theorem dL_law_1300 : decode cL_law 1300 = .ok (.aload_n 0, 1) := by decide +kernel
theorem dL_law_1301 : decode cL_law 1301 = .ok (.iload 5, 2) := by decide +kernel
theorem dL_law_1303 : decode cL_law 1303 = .ok (.iconst 1, 1) := by decide +kernel
theorem dL_law_1304 : decode cL_law 1304 = .ok (.iadd, 1) := by decide +kernel
theorem dL_law_1305 : decode cL_law 1305 = .ok (.iaload, 1) := by decide +kernel
theorem dL_law_1306 : decode cL_law 1306 = .ok (.aload_n 3, 1) := by decide +kernel
theorem dL_law_1307 : decode cL_law 1307 = .ok (.invokestatic 172, 3) := by decide +kernel
theorem dL_law_1310 : decode cL_law 1310 = .ok (.istore 6, 2) := by decide +kernel
theorem dL_law_1312 : decode cL_law 1312 = .ok (.aload_n 2, 1) := by decide +kernel
theorem dL_law_1313 : decode cL_law 1313 = .ok (.aload_n 0, 1) := by decide +kernel
theorem dL_law_1314 : decode cL_law 1314 = .ok (.iload 5, 2) := by decide +kernel
theorem dL_law_1316 : decode cL_law 1316 = .ok (.iconst 1, 1) := by decide +kernel
theorem dL_law_1317 : decode cL_law 1317 = .ok (.iadd, 1) := by decide +kernel
theorem dL_law_1318 : decode cL_law 1318 = .ok (.iaload, 1) := by decide +kernel
theorem dL_law_1319 : decode cL_law 1319 = .ok (.invokevirtual 174, 3) := by decide +kernel
theorem dL_law_1322 : decode cL_law 1322 = .ok (.istore 7, 2) := by decide +kernel
theorem dL_law_1324 : decode cL_law 1324 = .ok (.aload_n 2, 1) := by decide +kernel
theorem dL_law_1325 : decode cL_law 1325 = .ok (.invokevirtual 83, 3) := by decide +kernel
theorem dL_law_1328 : decode cL_law 1328 = .ok (.iload 6, 2) := by decide +kernel
theorem dL_law_1330 : decode cL_law 1330 = .ok (.if_icmp .eq 5, 3) := by decide +kernel
theorem dL_law_1333 : decode cL_law 1333 = .ok (.iconst 0, 1) := by decide +kernel
theorem dL_law_1334 : decode cL_law 1334 = .ok (.ireturn, 1) := by decide +kernel
theorem dL_law_1335 : decode cL_law 1335 = .ok (.iload 6, 2) := by decide +kernel
theorem dL_law_1337 : decode cL_law 1337 = .ok (.ifCond .ne 15, 3) := by decide +kernel
theorem dL_law_1340 : decode cL_law 1340 = .ok (.aload_n 3, 1) := by decide +kernel
theorem dL_law_1341 : decode cL_law 1341 = .ok (.iconst 0, 1) := by decide +kernel
theorem dL_law_1342 : decode cL_law 1342 = .ok (.laload, 1) := by decide +kernel
theorem dL_law_1343 : decode cL_law 1343 = .ok (.iload 7, 2) := by decide +kernel
theorem dL_law_1345 : decode cL_law 1345 = .ok (.i2l, 1) := by decide +kernel
theorem dL_law_1346 : decode cL_law 1346 = .ok (.lcmp, 1) := by decide +kernel
theorem dL_law_1347 : decode cL_law 1347 = .ok (.ifCond .eq 5, 3) := by decide +kernel
theorem dL_law_1350 : decode cL_law 1350 = .ok (.iconst 0, 1) := by decide +kernel
theorem dL_law_1351 : decode cL_law 1351 = .ok (.ireturn, 1) := by decide +kernel
theorem dL_law_1352 : decode cL_law 1352 = .ok (.goto 162, 3) := by decide +kernel
theorem dL_law_1355 : decode cL_law 1355 = .ok (.aload_n 1, 1) := by decide +kernel
theorem dL_law_1356 : decode cL_law 1356 = .ok (.aload_n 0, 1) := by decide +kernel
theorem dL_law_1357 : decode cL_law 1357 = .ok (.iload 5, 2) := by decide +kernel
theorem dL_law_1359 : decode cL_law 1359 = .ok (.iconst 1, 1) := by decide +kernel
theorem dL_law_1360 : decode cL_law 1360 = .ok (.iadd, 1) := by decide +kernel
theorem dL_law_1361 : decode cL_law 1361 = .ok (.iaload, 1) := by decide +kernel
theorem dL_law_1362 : decode cL_law 1362 = .ok (.aload_n 0, 1) := by decide +kernel
theorem dL_law_1363 : decode cL_law 1363 = .ok (.iload 5, 2) := by decide +kernel
theorem dL_law_1365 : decode cL_law 1365 = .ok (.iconst 2, 1) := by decide +kernel
theorem dL_law_1366 : decode cL_law 1366 = .ok (.iadd, 1) := by decide +kernel
theorem dL_law_1367 : decode cL_law 1367 = .ok (.iaload, 1) := by decide +kernel
theorem dL_law_1368 : decode cL_law 1368 = .ok (.aload_n 3, 1) := by decide +kernel
theorem dL_law_1369 : decode cL_law 1369 = .ok (.invokestatic 175, 3) := by decide +kernel
theorem dL_law_1372 : decode cL_law 1372 = .ok (.istore 6, 2) := by decide +kernel
theorem dL_law_1374 : decode cL_law 1374 = .ok (.aload_n 2, 1) := by decide +kernel
theorem dL_law_1375 : decode cL_law 1375 = .ok (.aload_n 0, 1) := by decide +kernel
theorem dL_law_1376 : decode cL_law 1376 = .ok (.iload 5, 2) := by decide +kernel
theorem dL_law_1378 : decode cL_law 1378 = .ok (.iconst 1, 1) := by decide +kernel
theorem dL_law_1379 : decode cL_law 1379 = .ok (.iadd, 1) := by decide +kernel
theorem dL_law_1380 : decode cL_law 1380 = .ok (.iaload, 1) := by decide +kernel
theorem dL_law_1381 : decode cL_law 1381 = .ok (.aload_n 0, 1) := by decide +kernel
theorem dL_law_1382 : decode cL_law 1382 = .ok (.iload 5, 2) := by decide +kernel
theorem dL_law_1384 : decode cL_law 1384 = .ok (.iconst 2, 1) := by decide +kernel
theorem dL_law_1385 : decode cL_law 1385 = .ok (.iadd, 1) := by decide +kernel
theorem dL_law_1386 : decode cL_law 1386 = .ok (.iaload, 1) := by decide +kernel
theorem dL_law_1387 : decode cL_law 1387 = .ok (.invokevirtual 177, 3) := by decide +kernel
theorem dL_law_1390 : decode cL_law 1390 = .ok (.istore 7, 2) := by decide +kernel
theorem dL_law_1392 : decode cL_law 1392 = .ok (.aload_n 2, 1) := by decide +kernel
theorem dL_law_1393 : decode cL_law 1393 = .ok (.invokevirtual 83, 3) := by decide +kernel
theorem dL_law_1396 : decode cL_law 1396 = .ok (.iload 6, 2) := by decide +kernel
theorem dL_law_1398 : decode cL_law 1398 = .ok (.if_icmp .eq 5, 3) := by decide +kernel
theorem dL_law_1401 : decode cL_law 1401 = .ok (.iconst 0, 1) := by decide +kernel
theorem dL_law_1402 : decode cL_law 1402 = .ok (.ireturn, 1) := by decide +kernel
theorem dL_law_1403 : decode cL_law 1403 = .ok (.iload 6, 2) := by decide +kernel
theorem dL_law_1405 : decode cL_law 1405 = .ok (.ifCond .ne 15, 3) := by decide +kernel
theorem dL_law_1408 : decode cL_law 1408 = .ok (.aload_n 3, 1) := by decide +kernel
theorem dL_law_1409 : decode cL_law 1409 = .ok (.iconst 0, 1) := by decide +kernel
theorem dL_law_1410 : decode cL_law 1410 = .ok (.laload, 1) := by decide +kernel
theorem dL_law_1411 : decode cL_law 1411 = .ok (.iload 7, 2) := by decide +kernel
theorem dL_law_1413 : decode cL_law 1413 = .ok (.i2l, 1) := by decide +kernel
theorem dL_law_1414 : decode cL_law 1414 = .ok (.lcmp, 1) := by decide +kernel
theorem dL_law_1415 : decode cL_law 1415 = .ok (.ifCond .eq 5, 3) := by decide +kernel
theorem dL_law_1418 : decode cL_law 1418 = .ok (.iconst 0, 1) := by decide +kernel
theorem dL_law_1419 : decode cL_law 1419 = .ok (.ireturn, 1) := by decide +kernel
theorem dL_law_1420 : decode cL_law 1420 = .ok (.goto 94, 3) := by decide +kernel
theorem dL_law_1423 : decode cL_law 1423 = .ok (.aload_n 1, 1) := by decide +kernel
theorem dL_law_1424 : decode cL_law 1424 = .ok (.aload_n 0, 1) := by decide +kernel
theorem dL_law_1425 : decode cL_law 1425 = .ok (.iload 5, 2) := by decide +kernel
theorem dL_law_1427 : decode cL_law 1427 = .ok (.iconst 1, 1) := by decide +kernel
theorem dL_law_1428 : decode cL_law 1428 = .ok (.iadd, 1) := by decide +kernel
theorem dL_law_1429 : decode cL_law 1429 = .ok (.iaload, 1) := by decide +kernel
theorem dL_law_1430 : decode cL_law 1430 = .ok (.aload 4, 2) := by decide +kernel
theorem dL_law_1432 : decode cL_law 1432 = .ok (.invokestatic 178, 3) := by decide +kernel
theorem dL_law_1435 : decode cL_law 1435 = .ok (.istore 6, 2) := by decide +kernel
theorem dL_law_1437 : decode cL_law 1437 = .ok (.aload_n 2, 1) := by decide +kernel
theorem dL_law_1438 : decode cL_law 1438 = .ok (.aload_n 0, 1) := by decide +kernel
theorem dL_law_1439 : decode cL_law 1439 = .ok (.iload 5, 2) := by decide +kernel
theorem dL_law_1441 : decode cL_law 1441 = .ok (.iconst 1, 1) := by decide +kernel
theorem dL_law_1442 : decode cL_law 1442 = .ok (.iadd, 1) := by decide +kernel
theorem dL_law_1443 : decode cL_law 1443 = .ok (.iaload, 1) := by decide +kernel
theorem dL_law_1444 : decode cL_law 1444 = .ok (.invokevirtual 181, 3) := by decide +kernel
theorem dL_law_1447 : decode cL_law 1447 = .ok (.dstore 7, 2) := by decide +kernel
theorem dL_law_1449 : decode cL_law 1449 = .ok (.aload_n 2, 1) := by decide +kernel
theorem dL_law_1450 : decode cL_law 1450 = .ok (.invokevirtual 83, 3) := by decide +kernel
theorem dL_law_1453 : decode cL_law 1453 = .ok (.iload 6, 2) := by decide +kernel
theorem dL_law_1455 : decode cL_law 1455 = .ok (.if_icmp .eq 5, 3) := by decide +kernel
theorem dL_law_1458 : decode cL_law 1458 = .ok (.iconst 0, 1) := by decide +kernel
theorem dL_law_1459 : decode cL_law 1459 = .ok (.ireturn, 1) := by decide +kernel
theorem dL_law_1460 : decode cL_law 1460 = .ok (.iload 6, 2) := by decide +kernel
theorem dL_law_1462 : decode cL_law 1462 = .ok (.ifCond .ne 35, 3) := by decide +kernel
theorem dL_law_1465 : decode cL_law 1465 = .ok (.aload 4, 2) := by decide +kernel
theorem dL_law_1467 : decode cL_law 1467 = .ok (.iconst 0, 1) := by decide +kernel
theorem dL_law_1468 : decode cL_law 1468 = .ok (.daload, 1) := by decide +kernel
theorem dL_law_1469 : decode cL_law 1469 = .ok (.dload 7, 2) := by decide +kernel
theorem dL_law_1471 : decode cL_law 1471 = .ok (.dcmp .l, 1) := by decide +kernel
theorem dL_law_1472 : decode cL_law 1472 = .ok (.ifCond .eq 25, 3) := by decide +kernel
theorem dL_law_1475 : decode cL_law 1475 = .ok (.aload 4, 2) := by decide +kernel
theorem dL_law_1477 : decode cL_law 1477 = .ok (.iconst 0, 1) := by decide +kernel
theorem dL_law_1478 : decode cL_law 1478 = .ok (.daload, 1) := by decide +kernel
theorem dL_law_1479 : decode cL_law 1479 = .ok (.aload 4, 2) := by decide +kernel
theorem dL_law_1481 : decode cL_law 1481 = .ok (.iconst 0, 1) := by decide +kernel
theorem dL_law_1482 : decode cL_law 1482 = .ok (.daload, 1) := by decide +kernel
theorem dL_law_1483 : decode cL_law 1483 = .ok (.dcmp .l, 1) := by decide +kernel
theorem dL_law_1484 : decode cL_law 1484 = .ok (.ifCond .eq 11, 3) := by decide +kernel
theorem dL_law_1487 : decode cL_law 1487 = .ok (.dload 7, 2) := by decide +kernel
theorem dL_law_1489 : decode cL_law 1489 = .ok (.dload 7, 2) := by decide +kernel
theorem dL_law_1491 : decode cL_law 1491 = .ok (.dcmp .l, 1) := by decide +kernel
theorem dL_law_1492 : decode cL_law 1492 = .ok (.ifCond .ne 5, 3) := by decide +kernel
theorem dL_law_1495 : decode cL_law 1495 = .ok (.iconst 0, 1) := by decide +kernel
theorem dL_law_1496 : decode cL_law 1496 = .ok (.ireturn, 1) := by decide +kernel
theorem dL_law_1497 : decode cL_law 1497 = .ok (.goto 17, 3) := by decide +kernel
theorem dL_law_1500 : decode cL_law 1500 = .ok (.aload_n 1, 1) := by decide +kernel
theorem dL_law_1501 : decode cL_law 1501 = .ok (.invokevirtual 182, 3) := by decide +kernel
theorem dL_law_1504 : decode cL_law 1504 = .ok (.aload_n 2, 1) := by decide +kernel
theorem dL_law_1505 : decode cL_law 1505 = .ok (.invokevirtual 186, 3) := by decide +kernel
theorem dL_law_1508 : decode cL_law 1508 = .ok (.lcmp, 1) := by decide +kernel
theorem dL_law_1509 : decode cL_law 1509 = .ok (.ifCond .eq 5, 3) := by decide +kernel
theorem dL_law_1512 : decode cL_law 1512 = .ok (.iconst 0, 1) := by decide +kernel
theorem dL_law_1513 : decode cL_law 1513 = .ok (.ireturn, 1) := by decide +kernel
theorem dL_law_1514 : decode cL_law 1514 = .ok (.iinc 5 4, 3) := by decide +kernel
theorem dL_law_1517 : decode cL_law 1517 = .ok (.goto (-1489), 3) := by decide +kernel
theorem dL_law_1520 : decode cL_law 1520 = .ok (.iconst 1, 1) := by decide +kernel
theorem dL_law_1521 : decode cL_law 1521 = .ok (.ireturn, 1) := by decide +kernel
abbrev vwCl : List vw_C := [(RX0, TX0, 6), (RX1, TX1, 5), (RX2, TX2, 14)]
