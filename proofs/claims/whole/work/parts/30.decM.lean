set_option maxRecDepth 20000 in
theorem ggX2_init_X2_take : GoodIn wsX2_init wsX2_take := goodIn_r _ [19, 20, 21, 22, 6, 9, 10, 23, 24, 25, 26, 27, 28, 29, 30, 31, 32, 33, 34, 35, 36] (by decide +kernel) (by decide +kernel)
set_option maxRecDepth 20000 in
theorem gX2_init_X2_take : GoodIn wsX2_init (wsV RX2 39 RX2 yX2_take wsX2_take) := goodIn_app (goodIn_of _ (by decide +kernel)) ggX2_init_X2_take
theorem dX2_init_0 : decode cX2_init 0 = .ok (.aload_n 0, 1) := by decide +kernel
theorem dX2_init_1 : decode cX2_init 1 = .ok (.invokespecial 1, 3) := by decide +kernel
theorem dX2_init_4 : decode cX2_init 4 = .ok (.aload_n 0, 1) := by decide +kernel
theorem dX2_init_5 : decode cX2_init 5 = .ok (.iconst 2, 1) := by decide +kernel
theorem dX2_init_6 : decode cX2_init 6 = .ok (.putfield 7, 3) := by decide +kernel
theorem dX2_init_9 : decode cX2_init 9 = .ok (.aload_n 0, 1) := by decide +kernel
theorem dX2_init_10 : decode cX2_init 10 = .ok (.bipush 25, 2) := by decide +kernel
theorem dX2_init_12 : decode cX2_init 12 = .ok (.newarray .int, 2) := by decide +kernel
theorem dX2_init_14 : decode cX2_init 14 = .ok (.putfield 13, 3) := by decide +kernel
theorem dX2_init_17 : decode cX2_init 17 = .ok (.aload_n 0, 1) := by decide +kernel
theorem dX2_init_18 : decode cX2_init 18 = .ok (.bipush 25, 2) := by decide +kernel
theorem dX2_init_20 : decode cX2_init 20 = .ok (.newarray .int, 2) := by decide +kernel
theorem dX2_init_22 : decode cX2_init 22 = .ok (.putfield 17, 3) := by decide +kernel
theorem dX2_init_25 : decode cX2_init 25 = .ok (.aload_n 0, 1) := by decide +kernel
theorem dX2_init_26 : decode cX2_init 26 = .ok (.bipush 25, 2) := by decide +kernel
theorem dX2_init_28 : decode cX2_init 28 = .ok (.newarray .boolean, 2) := by decide +kernel
theorem dX2_init_30 : decode cX2_init 30 = .ok (.putfield 20, 3) := by decide +kernel
theorem dX2_init_33 : decode cX2_init 33 = .ok (.aload_n 0, 1) := by decide +kernel
theorem dX2_init_34 : decode cX2_init 34 = .ok (.bipush 100, 2) := by decide +kernel
theorem dX2_init_36 : decode cX2_init 36 = .ok (.newarray .int, 2) := by decide +kernel
theorem dX2_init_38 : decode cX2_init 38 = .ok (.putfield 24, 3) := by decide +kernel
theorem dX2_init_41 : decode cX2_init 41 = .ok (.aload_n 0, 1) := by decide +kernel
theorem dX2_init_42 : decode cX2_init 42 = .ok (.bipush 25, 2) := by decide +kernel
theorem dX2_init_44 : decode cX2_init 44 = .ok (.newarray .int, 2) := by decide +kernel
theorem dX2_init_46 : decode cX2_init 46 = .ok (.putfield 27, 3) := by decide +kernel
theorem dX2_init_49 : decode cX2_init 49 = .ok (.aload_n 0, 1) := by decide +kernel
theorem dX2_init_50 : decode cX2_init 50 = .ok (.bipush 25, 2) := by decide +kernel
theorem dX2_init_52 : decode cX2_init 52 = .ok (.newarray .int, 2) := by decide +kernel
theorem dX2_init_54 : decode cX2_init 54 = .ok (.putfield 30, 3) := by decide +kernel
theorem dX2_init_57 : decode cX2_init 57 = .ok (.aload_n 0, 1) := by decide +kernel
theorem dX2_init_58 : decode cX2_init 58 = .ok (.bipush 26, 2) := by decide +kernel
theorem dX2_init_60 : decode cX2_init 60 = .ok (.newarray .int, 2) := by decide +kernel
theorem dX2_init_62 : decode cX2_init 62 = .ok (.putfield 33, 3) := by decide +kernel
theorem dX2_init_65 : decode cX2_init 65 = .ok (.aload_n 0, 1) := by decide +kernel
theorem dX2_init_66 : decode cX2_init 66 = .ok (.bipush 25, 2) := by decide +kernel
theorem dX2_init_68 : decode cX2_init 68 = .ok (.newarray .int, 2) := by decide +kernel
theorem dX2_init_70 : decode cX2_init 70 = .ok (.putfield 36, 3) := by decide +kernel
theorem dX2_init_73 : decode cX2_init 73 = .ok (.aload_n 0, 1) := by decide +kernel
theorem dX2_init_74 : decode cX2_init 74 = .ok (.iconst 4, 1) := by decide +kernel
theorem dX2_init_75 : decode cX2_init 75 = .ok (.iconst 4, 1) := by decide +kernel
theorem dX2_init_76 : decode cX2_init 76 = .ok (.invokevirtual 39, 3) := by decide +kernel
theorem dX2_init_79 : decode cX2_init 79 = .ok (.return_, 1) := by decide +kernel
theorem dX2_thrown_0 : decode cX2_thrown 0 = .ok (.aload_n 0, 1) := by decide +kernel
theorem dX2_thrown_1 : decode cX2_thrown 1 = .ok (.getfield 43, 3) := by decide +kernel
theorem dX2_thrown_4 : decode cX2_thrown 4 = .ok (.ireturn, 1) := by decide +kernel
theorem dX2_fail_0 : decode cX2_fail 0 = .ok (.aload_n 0, 1) := by decide +kernel
theorem dX2_fail_1 : decode cX2_fail 1 = .ok (.iload_n 1, 1) := by decide +kernel
theorem dX2_fail_2 : decode cX2_fail 2 = .ok (.putfield 43, 3) := by decide +kernel
theorem dX2_fail_5 : decode cX2_fail 5 = .ok (.iconst 0, 1) := by decide +kernel
theorem dX2_fail_6 : decode cX2_fail 6 = .ok (.ireturn, 1) := by decide +kernel
theorem dX2_isIn_0 : decode cX2_isIn 0 = .ok (.iload_n 0, 1) := by decide +kernel
theorem dX2_isIn_1 : decode cX2_isIn 1 = .ok (.iload_n 1, 1) := by decide +kernel
theorem dX2_isIn_2 : decode cX2_isIn 2 = .ok (.if_icmp .lt 12, 3) := by decide +kernel
theorem dX2_isIn_5 : decode cX2_isIn 5 = .ok (.iload_n 0, 1) := by decide +kernel
theorem dX2_isIn_6 : decode cX2_isIn 6 = .ok (.iload_n 2, 1) := by decide +kernel
theorem dX2_isIn_7 : decode cX2_isIn 7 = .ok (.if_icmp .gt 7, 3) := by decide +kernel
theorem dX2_isIn_10 : decode cX2_isIn 10 = .ok (.iconst 1, 1) := by decide +kernel
theorem dX2_isIn_11 : decode cX2_isIn 11 = .ok (.goto 4, 3) := by decide +kernel
theorem dX2_isIn_14 : decode cX2_isIn 14 = .ok (.iconst 0, 1) := by decide +kernel
theorem dX2_isIn_15 : decode cX2_isIn 15 = .ok (.ireturn, 1) := by decide +kernel
theorem dX2_cells_0 : decode cX2_cells 0 = .ok (.aload_n 0, 1) := by decide +kernel
theorem dX2_cells_1 : decode cX2_cells 1 = .ok (.getfield 46, 3) := by decide +kernel
theorem dX2_cells_4 : decode cX2_cells 4 = .ok (.aload_n 0, 1) := by decide +kernel
theorem dX2_cells_5 : decode cX2_cells 5 = .ok (.getfield 49, 3) := by decide +kernel
theorem dX2_cells_8 : decode cX2_cells 8 = .ok (.imul, 1) := by decide +kernel
theorem dX2_cells_9 : decode cX2_cells 9 = .ok (.ireturn, 1) := by decide +kernel
set_option maxRecDepth 20000 in
theorem ggX2_isCell_X2_isIn : GoodIn wsX2_isCell wsX2_isIn := goodIn_r _ [6] (by decide +kernel) (by decide +kernel)
set_option maxRecDepth 20000 in
theorem gX2_isCell_X2_isIn : GoodIn wsX2_isCell (va_wsS RX2 52 yX2_isIn wsX2_isIn) := goodIn_app (goodIn_of _ (by decide +kernel)) ggX2_isCell_X2_isIn
theorem dX2_isCell_0 : decode cX2_isCell 0 = .ok (.iload_n 1, 1) := by decide +kernel
theorem dX2_isCell_1 : decode cX2_isCell 1 = .ok (.iconst 0, 1) := by decide +kernel
theorem dX2_isCell_2 : decode cX2_isCell 2 = .ok (.aload_n 0, 1) := by decide +kernel
theorem dX2_isCell_3 : decode cX2_isCell 3 = .ok (.getfield 46, 3) := by decide +kernel
theorem dX2_isCell_6 : decode cX2_isCell 6 = .ok (.iconst 1, 1) := by decide +kernel
theorem dX2_isCell_7 : decode cX2_isCell 7 = .ok (.isub, 1) := by decide +kernel
theorem dX2_isCell_8 : decode cX2_isCell 8 = .ok (.invokestatic 52, 3) := by decide +kernel
theorem dX2_isCell_11 : decode cX2_isCell 11 = .ok (.ifCond .eq 21, 3) := by decide +kernel
theorem dX2_isCell_14 : decode cX2_isCell 14 = .ok (.iload_n 2, 1) := by decide +kernel
theorem dX2_isCell_15 : decode cX2_isCell 15 = .ok (.iconst 0, 1) := by decide +kernel
theorem dX2_isCell_16 : decode cX2_isCell 16 = .ok (.aload_n 0, 1) := by decide +kernel
theorem dX2_isCell_17 : decode cX2_isCell 17 = .ok (.getfield 49, 3) := by decide +kernel
theorem dX2_isCell_20 : decode cX2_isCell 20 = .ok (.iconst 1, 1) := by decide +kernel
theorem dX2_isCell_21 : decode cX2_isCell 21 = .ok (.isub, 1) := by decide +kernel
theorem dX2_isCell_22 : decode cX2_isCell 22 = .ok (.invokestatic 52, 3) := by decide +kernel
theorem dX2_isCell_25 : decode cX2_isCell 25 = .ok (.ifCond .eq 7, 3) := by decide +kernel
theorem dX2_isCell_28 : decode cX2_isCell 28 = .ok (.iconst 1, 1) := by decide +kernel
theorem dX2_isCell_29 : decode cX2_isCell 29 = .ok (.goto 4, 3) := by decide +kernel
theorem dX2_isCell_32 : decode cX2_isCell 32 = .ok (.iconst 0, 1) := by decide +kernel
theorem dX2_isCell_33 : decode cX2_isCell 33 = .ok (.ireturn, 1) := by decide +kernel
set_option maxRecDepth 20000 in
theorem ggX2_isColour_X2_isIn : GoodIn wsX2_isColour wsX2_isIn := goodIn_r _ [4] (by decide +kernel) (by decide +kernel)
set_option maxRecDepth 20000 in
theorem gX2_isColour_X2_isIn : GoodIn wsX2_isColour (va_wsS RX2 52 yX2_isIn wsX2_isIn) := goodIn_app (goodIn_of _ (by decide +kernel)) ggX2_isColour_X2_isIn
theorem dX2_isColour_0 : decode cX2_isColour 0 = .ok (.iload_n 0, 1) := by decide +kernel
theorem dX2_isColour_1 : decode cX2_isColour 1 = .ok (.iconst 1, 1) := by decide +kernel
theorem dX2_isColour_2 : decode cX2_isColour 2 = .ok (.iconst 4, 1) := by decide +kernel
theorem dX2_isColour_3 : decode cX2_isColour 3 = .ok (.invokestatic 52, 3) := by decide +kernel
theorem dX2_isColour_6 : decode cX2_isColour 6 = .ok (.ireturn, 1) := by decide +kernel
set_option maxRecDepth 20000 in
theorem ggX2_isAny_X2_isIn : GoodIn wsX2_isAny wsX2_isIn := goodIn_r _ [4] (by decide +kernel) (by decide +kernel)
set_option maxRecDepth 20000 in
theorem gX2_isAny_X2_isIn : GoodIn wsX2_isAny (va_wsS RX2 52 yX2_isIn wsX2_isIn) := goodIn_app (goodIn_of _ (by decide +kernel)) ggX2_isAny_X2_isIn
theorem dX2_isAny_0 : decode cX2_isAny 0 = .ok (.iload_n 0, 1) := by decide +kernel
theorem dX2_isAny_1 : decode cX2_isAny 1 = .ok (.iconst 0, 1) := by decide +kernel
theorem dX2_isAny_2 : decode cX2_isAny 2 = .ok (.iconst 4, 1) := by decide +kernel
theorem dX2_isAny_3 : decode cX2_isAny 3 = .ok (.invokestatic 52, 3) := by decide +kernel
theorem dX2_isAny_6 : decode cX2_isAny 6 = .ok (.ireturn, 1) := by decide +kernel
theorem dX2_take_0 : decode cX2_take 0 = .ok (.aload_n 0, 1) := by decide +kernel
theorem dX2_take_1 : decode cX2_take 1 = .ok (.iload_n 1, 1) := by decide +kernel
theorem dX2_take_2 : decode cX2_take 2 = .ok (.putfield 46, 3) := by decide +kernel
theorem dX2_take_5 : decode cX2_take 5 = .ok (.aload_n 0, 1) := by decide +kernel
theorem dX2_take_6 : decode cX2_take 6 = .ok (.iload_n 2, 1) := by decide +kernel
theorem dX2_take_7 : decode cX2_take 7 = .ok (.putfield 49, 3) := by decide +kernel
theorem dX2_take_10 : decode cX2_take 10 = .ok (.aload_n 0, 1) := by decide +kernel
theorem dX2_take_11 : decode cX2_take 11 = .ok (.iconst 0, 1) := by decide +kernel
theorem dX2_take_12 : decode cX2_take 12 = .ok (.putfield 56, 3) := by decide +kernel
theorem dX2_take_15 : decode cX2_take 15 = .ok (.iconst 0, 1) := by decide +kernel
theorem dX2_take_16 : decode cX2_take 16 = .ok (.istore_n 3, 1) := by decide +kernel
theorem dX2_take_17 : decode cX2_take 17 = .ok (.iload_n 3, 1) := by decide +kernel
theorem dX2_take_18 : decode cX2_take 18 = .ok (.bipush 25, 2) := by decide +kernel
theorem dX2_take_20 : decode cX2_take 20 = .ok (.if_icmp .ge 143, 3) := by decide +kernel
theorem dX2_take_23 : decode cX2_take 23 = .ok (.aload_n 0, 1) := by decide +kernel
theorem dX2_take_24 : decode cX2_take 24 = .ok (.getfield 13, 3) := by decide +kernel
theorem dX2_take_27 : decode cX2_take 27 = .ok (.iload_n 3, 1) := by decide +kernel
theorem dX2_take_28 : decode cX2_take 28 = .ok (.iconst 0, 1) := by decide +kernel
theorem dX2_take_29 : decode cX2_take 29 = .ok (.iastore, 1) := by decide +kernel
theorem dX2_take_30 : decode cX2_take 30 = .ok (.aload_n 0, 1) := by decide +kernel
theorem dX2_take_31 : decode cX2_take 31 = .ok (.getfield 20, 3) := by decide +kernel
theorem dX2_take_34 : decode cX2_take 34 = .ok (.iload_n 3, 1) := by decide +kernel
theorem dX2_take_35 : decode cX2_take 35 = .ok (.iconst 0, 1) := by decide +kernel
theorem dX2_take_36 : decode cX2_take 36 = .ok (.bastore, 1) := by decide +kernel
theorem dX2_take_37 : decode cX2_take 37 = .ok (.iload_n 3, 1) := by decide +kernel
theorem dX2_take_38 : decode cX2_take 38 = .ok (.aload_n 0, 1) := by decide +kernel
theorem dX2_take_39 : decode cX2_take 39 = .ok (.getfield 46, 3) := by decide +kernel
theorem dX2_take_42 : decode cX2_take 42 = .ok (.irem, 1) := by decide +kernel
theorem dX2_take_43 : decode cX2_take 43 = .ok (.istore 4, 2) := by decide +kernel
theorem dX2_take_45 : decode cX2_take 45 = .ok (.iload_n 3, 1) := by decide +kernel
theorem dX2_take_46 : decode cX2_take 46 = .ok (.aload_n 0, 1) := by decide +kernel
theorem dX2_take_47 : decode cX2_take 47 = .ok (.getfield 46, 3) := by decide +kernel
theorem dX2_take_50 : decode cX2_take 50 = .ok (.idiv, 1) := by decide +kernel
theorem dX2_take_51 : decode cX2_take 51 = .ok (.istore 5, 2) := by decide +kernel
theorem dX2_take_53 : decode cX2_take 53 = .ok (.aload_n 0, 1) := by decide +kernel
theorem dX2_take_54 : decode cX2_take 54 = .ok (.getfield 24, 3) := by decide +kernel
theorem dX2_take_57 : decode cX2_take 57 = .ok (.iconst 4, 1) := by decide +kernel
theorem dX2_take_58 : decode cX2_take 58 = .ok (.iload_n 3, 1) := by decide +kernel
theorem dX2_take_59 : decode cX2_take 59 = .ok (.imul, 1) := by decide +kernel
theorem dX2_take_60 : decode cX2_take 60 = .ok (.iload 4, 2) := by decide +kernel
theorem dX2_take_62 : decode cX2_take 62 = .ok (.ifCond .le 9, 3) := by decide +kernel
theorem dX2_take_65 : decode cX2_take 65 = .ok (.iload_n 3, 1) := by decide +kernel
theorem dX2_take_66 : decode cX2_take 66 = .ok (.iconst 1, 1) := by decide +kernel
theorem dX2_take_67 : decode cX2_take 67 = .ok (.isub, 1) := by decide +kernel
theorem dX2_take_68 : decode cX2_take 68 = .ok (.goto 4, 3) := by decide +kernel
theorem dX2_take_71 : decode cX2_take 71 = .ok (.iconst (-1), 1) := by decide +kernel
theorem dX2_take_72 : decode cX2_take 72 = .ok (.iastore, 1) := by decide +kernel
theorem dX2_take_73 : decode cX2_take 73 = .ok (.aload_n 0, 1) := by decide +kernel
theorem dX2_take_74 : decode cX2_take 74 = .ok (.getfield 24, 3) := by decide +kernel
theorem dX2_take_77 : decode cX2_take 77 = .ok (.iconst 4, 1) := by decide +kernel
theorem dX2_take_78 : decode cX2_take 78 = .ok (.iload_n 3, 1) := by decide +kernel
theorem dX2_take_79 : decode cX2_take 79 = .ok (.imul, 1) := by decide +kernel
theorem dX2_take_80 : decode cX2_take 80 = .ok (.iconst 1, 1) := by decide +kernel
theorem dX2_take_81 : decode cX2_take 81 = .ok (.iadd, 1) := by decide +kernel
theorem dX2_take_82 : decode cX2_take 82 = .ok (.iload 4, 2) := by decide +kernel
theorem dX2_take_84 : decode cX2_take 84 = .ok (.aload_n 0, 1) := by decide +kernel
theorem dX2_take_85 : decode cX2_take 85 = .ok (.getfield 46, 3) := by decide +kernel
theorem dX2_take_88 : decode cX2_take 88 = .ok (.iconst 1, 1) := by decide +kernel
theorem dX2_take_89 : decode cX2_take 89 = .ok (.isub, 1) := by decide +kernel
theorem dX2_take_90 : decode cX2_take 90 = .ok (.if_icmp .ge 9, 3) := by decide +kernel
theorem dX2_take_93 : decode cX2_take 93 = .ok (.iload_n 3, 1) := by decide +kernel
theorem dX2_take_94 : decode cX2_take 94 = .ok (.iconst 1, 1) := by decide +kernel
theorem dX2_take_95 : decode cX2_take 95 = .ok (.iadd, 1) := by decide +kernel
theorem dX2_take_96 : decode cX2_take 96 = .ok (.goto 4, 3) := by decide +kernel
theorem dX2_take_99 : decode cX2_take 99 = .ok (.iconst (-1), 1) := by decide +kernel
theorem dX2_take_100 : decode cX2_take 100 = .ok (.iastore, 1) := by decide +kernel
theorem dX2_take_101 : decode cX2_take 101 = .ok (.aload_n 0, 1) := by decide +kernel
theorem dX2_take_102 : decode cX2_take 102 = .ok (.getfield 24, 3) := by decide +kernel
theorem dX2_take_105 : decode cX2_take 105 = .ok (.iconst 4, 1) := by decide +kernel
theorem dX2_take_106 : decode cX2_take 106 = .ok (.iload_n 3, 1) := by decide +kernel
theorem dX2_take_107 : decode cX2_take 107 = .ok (.imul, 1) := by decide +kernel
theorem dX2_take_108 : decode cX2_take 108 = .ok (.iconst 2, 1) := by decide +kernel
theorem dX2_take_109 : decode cX2_take 109 = .ok (.iadd, 1) := by decide +kernel
theorem dX2_take_110 : decode cX2_take 110 = .ok (.iload 5, 2) := by decide +kernel
theorem dX2_take_112 : decode cX2_take 112 = .ok (.ifCond .le 12, 3) := by decide +kernel
theorem dX2_take_115 : decode cX2_take 115 = .ok (.iload_n 3, 1) := by decide +kernel
theorem dX2_take_116 : decode cX2_take 116 = .ok (.aload_n 0, 1) := by decide +kernel
theorem dX2_take_117 : decode cX2_take 117 = .ok (.getfield 46, 3) := by decide +kernel
theorem dX2_take_120 : decode cX2_take 120 = .ok (.isub, 1) := by decide +kernel
theorem dX2_take_121 : decode cX2_take 121 = .ok (.goto 4, 3) := by decide +kernel
theorem dX2_take_124 : decode cX2_take 124 = .ok (.iconst (-1), 1) := by decide +kernel
theorem dX2_take_125 : decode cX2_take 125 = .ok (.iastore, 1) := by decide +kernel
theorem dX2_take_126 : decode cX2_take 126 = .ok (.aload_n 0, 1) := by decide +kernel
theorem dX2_take_127 : decode cX2_take 127 = .ok (.getfield 24, 3) := by decide +kernel
theorem dX2_take_130 : decode cX2_take 130 = .ok (.iconst 4, 1) := by decide +kernel
theorem dX2_take_131 : decode cX2_take 131 = .ok (.iload_n 3, 1) := by decide +kernel
theorem dX2_take_132 : decode cX2_take 132 = .ok (.imul, 1) := by decide +kernel
theorem dX2_take_133 : decode cX2_take 133 = .ok (.iconst 3, 1) := by decide +kernel
theorem dX2_take_134 : decode cX2_take 134 = .ok (.iadd, 1) := by decide +kernel
theorem dX2_take_135 : decode cX2_take 135 = .ok (.iload 5, 2) := by decide +kernel
theorem dX2_take_137 : decode cX2_take 137 = .ok (.aload_n 0, 1) := by decide +kernel
theorem dX2_take_138 : decode cX2_take 138 = .ok (.getfield 49, 3) := by decide +kernel
theorem dX2_take_141 : decode cX2_take 141 = .ok (.iconst 1, 1) := by decide +kernel
theorem dX2_take_142 : decode cX2_take 142 = .ok (.isub, 1) := by decide +kernel
theorem dX2_take_143 : decode cX2_take 143 = .ok (.if_icmp .ge 12, 3) := by decide +kernel
theorem dX2_take_146 : decode cX2_take 146 = .ok (.iload_n 3, 1) := by decide +kernel
theorem dX2_take_147 : decode cX2_take 147 = .ok (.aload_n 0, 1) := by decide +kernel
theorem dX2_take_148 : decode cX2_take 148 = .ok (.getfield 46, 3) := by decide +kernel
theorem dX2_take_151 : decode cX2_take 151 = .ok (.iadd, 1) := by decide +kernel
theorem dX2_take_152 : decode cX2_take 152 = .ok (.goto 4, 3) := by decide +kernel
theorem dX2_take_155 : decode cX2_take 155 = .ok (.iconst (-1), 1) := by decide +kernel
theorem dX2_take_156 : decode cX2_take 156 = .ok (.iastore, 1) := by decide +kernel
theorem dX2_take_157 : decode cX2_take 157 = .ok (.iinc 3 1, 3) := by decide +kernel
theorem dX2_take_160 : decode cX2_take 160 = .ok (.goto (-143), 3) := by decide +kernel
theorem dX2_take_163 : decode cX2_take 163 = .ok (.return_, 1) := by decide +kernel
theorem dX2_keep_0 : decode cX2_keep 0 = .ok (.aload_n 0, 1) := by decide +kernel
theorem dX2_keep_1 : decode cX2_keep 1 = .ok (.getfield 13, 3) := by decide +kernel
theorem dX2_keep_4 : decode cX2_keep 4 = .ok (.iconst 0, 1) := by decide +kernel
theorem dX2_keep_5 : decode cX2_keep 5 = .ok (.aload_n 0, 1) := by decide +kernel
theorem dX2_keep_6 : decode cX2_keep 6 = .ok (.getfield 27, 3) := by decide +kernel
theorem dX2_keep_9 : decode cX2_keep 9 = .ok (.iconst 0, 1) := by decide +kernel
theorem dX2_keep_10 : decode cX2_keep 10 = .ok (.bipush 25, 2) := by decide +kernel
theorem dX2_keep_12 : decode cX2_keep 12 = .ok (.invokestatic 59, 3) := by decide +kernel
theorem dX2_keep_15 : decode cX2_keep 15 = .ok (.return_, 1) := by decide +kernel
theorem dX2_bringBack_0 : decode cX2_bringBack 0 = .ok (.aload_n 0, 1) := by decide +kernel
theorem dX2_bringBack_1 : decode cX2_bringBack 1 = .ok (.getfield 27, 3) := by decide +kernel
theorem dX2_bringBack_4 : decode cX2_bringBack 4 = .ok (.iconst 0, 1) := by decide +kernel
theorem dX2_bringBack_5 : decode cX2_bringBack 5 = .ok (.aload_n 0, 1) := by decide +kernel
theorem dX2_bringBack_6 : decode cX2_bringBack 6 = .ok (.getfield 13, 3) := by decide +kernel
theorem dX2_bringBack_9 : decode cX2_bringBack 9 = .ok (.iconst 0, 1) := by decide +kernel
theorem dX2_bringBack_10 : decode cX2_bringBack 10 = .ok (.bipush 25, 2) := by decide +kernel
theorem dX2_bringBack_12 : decode cX2_bringBack 12 = .ok (.invokestatic 59, 3) := by decide +kernel
theorem dX2_bringBack_15 : decode cX2_bringBack 15 = .ok (.return_, 1) := by decide +kernel
theorem dX2_beside_0 : decode cX2_beside 0 = .ok (.iconst 0, 1) := by decide +kernel
theorem dX2_beside_1 : decode cX2_beside 1 = .ok (.istore_n 3, 1) := by decide +kernel
theorem dX2_beside_2 : decode cX2_beside 2 = .ok (.iconst 4, 1) := by decide +kernel
theorem dX2_beside_3 : decode cX2_beside 3 = .ok (.iload_n 1, 1) := by decide +kernel
theorem dX2_beside_4 : decode cX2_beside 4 = .ok (.imul, 1) := by decide +kernel
theorem dX2_beside_5 : decode cX2_beside 5 = .ok (.istore 4, 2) := by decide +kernel
theorem dX2_beside_7 : decode cX2_beside 7 = .ok (.iload 4, 2) := by decide +kernel
theorem dX2_beside_9 : decode cX2_beside 9 = .ok (.iconst 4, 1) := by decide +kernel
theorem dX2_beside_10 : decode cX2_beside 10 = .ok (.iload_n 1, 1) := by decide +kernel
theorem dX2_beside_11 : decode cX2_beside 11 = .ok (.imul, 1) := by decide +kernel
theorem dX2_beside_12 : decode cX2_beside 12 = .ok (.iconst 4, 1) := by decide +kernel
theorem dX2_beside_13 : decode cX2_beside 13 = .ok (.iadd, 1) := by decide +kernel
theorem dX2_beside_14 : decode cX2_beside 14 = .ok (.if_icmp .ge 44, 3) := by decide +kernel
theorem dX2_beside_17 : decode cX2_beside 17 = .ok (.iload_n 3, 1) := by decide +kernel
theorem dX2_beside_18 : decode cX2_beside 18 = .ok (.aload_n 0, 1) := by decide +kernel
theorem dX2_beside_19 : decode cX2_beside 19 = .ok (.getfield 24, 3) := by decide +kernel
theorem dX2_beside_22 : decode cX2_beside 22 = .ok (.iload 4, 2) := by decide +kernel
theorem dX2_beside_24 : decode cX2_beside 24 = .ok (.iaload, 1) := by decide +kernel
theorem dX2_beside_25 : decode cX2_beside 25 = .ok (.iconst (-1), 1) := by decide +kernel
theorem dX2_beside_26 : decode cX2_beside 26 = .ok (.if_icmp .eq 23, 3) := by decide +kernel
theorem dX2_beside_29 : decode cX2_beside 29 = .ok (.aload_n 0, 1) := by decide +kernel
theorem dX2_beside_30 : decode cX2_beside 30 = .ok (.getfield 13, 3) := by decide +kernel
theorem dX2_beside_33 : decode cX2_beside 33 = .ok (.aload_n 0, 1) := by decide +kernel
theorem dX2_beside_34 : decode cX2_beside 34 = .ok (.getfield 24, 3) := by decide +kernel
theorem dX2_beside_37 : decode cX2_beside 37 = .ok (.iload 4, 2) := by decide +kernel
theorem dX2_beside_39 : decode cX2_beside 39 = .ok (.iaload, 1) := by decide +kernel
theorem dX2_beside_40 : decode cX2_beside 40 = .ok (.iaload, 1) := by decide +kernel
theorem dX2_beside_41 : decode cX2_beside 41 = .ok (.iload_n 2, 1) := by decide +kernel
theorem dX2_beside_42 : decode cX2_beside 42 = .ok (.if_icmp .ne 7, 3) := by decide +kernel
theorem dX2_beside_45 : decode cX2_beside 45 = .ok (.iconst 1, 1) := by decide +kernel
theorem dX2_beside_46 : decode cX2_beside 46 = .ok (.goto 4, 3) := by decide +kernel
theorem dX2_beside_49 : decode cX2_beside 49 = .ok (.iconst 0, 1) := by decide +kernel
theorem dX2_beside_50 : decode cX2_beside 50 = .ok (.iadd, 1) := by decide +kernel
theorem dX2_beside_51 : decode cX2_beside 51 = .ok (.istore_n 3, 1) := by decide +kernel
theorem dX2_beside_52 : decode cX2_beside 52 = .ok (.iinc 4 1, 3) := by decide +kernel
theorem dX2_beside_55 : decode cX2_beside 55 = .ok (.goto (-48), 3) := by decide +kernel
theorem dX2_beside_58 : decode cX2_beside 58 = .ok (.iload_n 3, 1) := by decide +kernel
theorem dX2_beside_59 : decode cX2_beside 59 = .ok (.ireturn, 1) := by decide +kernel
set_option maxRecDepth 20000 in
theorem ggX2_nextOf_X2_beside : GoodIn wsX2_nextOf wsX2_beside := goodIn_r _ [8, 9, 2, 10, 11, 12, 13, 14, 15, 16, 17, 18, 19, 20, 21, 22, 23] (by decide +kernel) (by decide +kernel)
set_option maxRecDepth 20000 in
theorem gX2_nextOf_X2_beside : GoodIn wsX2_nextOf (wsV RX2 65 RX2 yX2_beside wsX2_beside) := goodIn_app (goodIn_of _ (by decide +kernel)) ggX2_nextOf_X2_beside
theorem dX2_nextOf_0 : decode cX2_nextOf 0 = .ok (.aload_n 0, 1) := by decide +kernel
theorem dX2_nextOf_1 : decode cX2_nextOf 1 = .ok (.getfield 20, 3) := by decide +kernel
theorem dX2_nextOf_4 : decode cX2_nextOf 4 = .ok (.iload_n 1, 1) := by decide +kernel
theorem dX2_nextOf_5 : decode cX2_nextOf 5 = .ok (.baload, 1) := by decide +kernel
theorem dX2_nextOf_6 : decode cX2_nextOf 6 = .ok (.ifCond .eq 10, 3) := by decide +kernel
theorem dX2_nextOf_9 : decode cX2_nextOf 9 = .ok (.aload_n 0, 1) := by decide +kernel
theorem dX2_nextOf_10 : decode cX2_nextOf 10 = .ok (.getfield 13, 3) := by decide +kernel
theorem dX2_nextOf_13 : decode cX2_nextOf 13 = .ok (.iload_n 1, 1) := by decide +kernel
theorem dX2_nextOf_14 : decode cX2_nextOf 14 = .ok (.iaload, 1) := by decide +kernel
theorem dX2_nextOf_15 : decode cX2_nextOf 15 = .ok (.ireturn, 1) := by decide +kernel
theorem dX2_nextOf_16 : decode cX2_nextOf 16 = .ok (.iconst 0, 1) := by decide +kernel
theorem dX2_nextOf_17 : decode cX2_nextOf 17 = .ok (.istore_n 2, 1) := by decide +kernel
theorem dX2_nextOf_18 : decode cX2_nextOf 18 = .ok (.aload_n 0, 1) := by decide +kernel
theorem dX2_nextOf_19 : decode cX2_nextOf 19 = .ok (.getfield 7, 3) := by decide +kernel
theorem dX2_nextOf_22 : decode cX2_nextOf 22 = .ok (.iconst 1, 1) := by decide +kernel
theorem dX2_nextOf_23 : decode cX2_nextOf 23 = .ok (.isub, 1) := by decide +kernel
theorem dX2_nextOf_24 : decode cX2_nextOf 24 = .ok (.istore_n 3, 1) := by decide +kernel
theorem dX2_nextOf_25 : decode cX2_nextOf 25 = .ok (.iconst 0, 1) := by decide +kernel
theorem dX2_nextOf_26 : decode cX2_nextOf 26 = .ok (.istore 4, 2) := by decide +kernel
theorem dX2_nextOf_28 : decode cX2_nextOf 28 = .ok (.iconst 1, 1) := by decide +kernel
theorem dX2_nextOf_29 : decode cX2_nextOf 29 = .ok (.istore 5, 2) := by decide +kernel
theorem dX2_nextOf_31 : decode cX2_nextOf 31 = .ok (.iload 5, 2) := by decide +kernel
theorem dX2_nextOf_33 : decode cX2_nextOf 33 = .ok (.iconst 4, 1) := by decide +kernel
theorem dX2_nextOf_34 : decode cX2_nextOf 34 = .ok (.if_icmp .gt 45, 3) := by decide +kernel
theorem dX2_nextOf_37 : decode cX2_nextOf 37 = .ok (.aload_n 0, 1) := by decide +kernel
theorem dX2_nextOf_38 : decode cX2_nextOf 38 = .ok (.iload_n 1, 1) := by decide +kernel
theorem dX2_nextOf_39 : decode cX2_nextOf 39 = .ok (.iload 5, 2) := by decide +kernel
theorem dX2_nextOf_41 : decode cX2_nextOf 41 = .ok (.invokevirtual 65, 3) := by decide +kernel
theorem dX2_nextOf_44 : decode cX2_nextOf 44 = .ok (.istore 6, 2) := by decide +kernel
theorem dX2_nextOf_46 : decode cX2_nextOf 46 = .ok (.iload 6, 2) := by decide +kernel
theorem dX2_nextOf_48 : decode cX2_nextOf 48 = .ok (.iload_n 3, 1) := by decide +kernel
theorem dX2_nextOf_49 : decode cX2_nextOf 49 = .ok (.if_icmp .le 15, 3) := by decide +kernel
theorem dX2_nextOf_52 : decode cX2_nextOf 52 = .ok (.iload 5, 2) := by decide +kernel
theorem dX2_nextOf_54 : decode cX2_nextOf 54 = .ok (.istore_n 2, 1) := by decide +kernel
theorem dX2_nextOf_55 : decode cX2_nextOf 55 = .ok (.iload 6, 2) := by decide +kernel
theorem dX2_nextOf_57 : decode cX2_nextOf 57 = .ok (.istore_n 3, 1) := by decide +kernel
theorem dX2_nextOf_58 : decode cX2_nextOf 58 = .ok (.iconst 1, 1) := by decide +kernel
theorem dX2_nextOf_59 : decode cX2_nextOf 59 = .ok (.istore 4, 2) := by decide +kernel
theorem dX2_nextOf_61 : decode cX2_nextOf 61 = .ok (.goto 12, 3) := by decide +kernel
theorem dX2_nextOf_64 : decode cX2_nextOf 64 = .ok (.iload 6, 2) := by decide +kernel
theorem dX2_nextOf_66 : decode cX2_nextOf 66 = .ok (.iload_n 3, 1) := by decide +kernel
theorem dX2_nextOf_67 : decode cX2_nextOf 67 = .ok (.if_icmp .ne 6, 3) := by decide +kernel
theorem dX2_nextOf_70 : decode cX2_nextOf 70 = .ok (.iconst 0, 1) := by decide +kernel
theorem dX2_nextOf_71 : decode cX2_nextOf 71 = .ok (.istore 4, 2) := by decide +kernel
theorem dX2_nextOf_73 : decode cX2_nextOf 73 = .ok (.iinc 5 1, 3) := by decide +kernel
theorem dX2_nextOf_76 : decode cX2_nextOf 76 = .ok (.goto (-45), 3) := by decide +kernel
theorem dX2_nextOf_79 : decode cX2_nextOf 79 = .ok (.iload_n 2, 1) := by decide +kernel
theorem dX2_nextOf_80 : decode cX2_nextOf 80 = .ok (.ifCond .le 12, 3) := by decide +kernel
theorem dX2_nextOf_83 : decode cX2_nextOf 83 = .ok (.iload 4, 2) := by decide +kernel
theorem dX2_nextOf_85 : decode cX2_nextOf 85 = .ok (.ifCond .eq 7, 3) := by decide +kernel
theorem dX2_nextOf_88 : decode cX2_nextOf 88 = .ok (.iload_n 2, 1) := by decide +kernel
theorem dX2_nextOf_89 : decode cX2_nextOf 89 = .ok (.goto 9, 3) := by decide +kernel
theorem dX2_nextOf_92 : decode cX2_nextOf 92 = .ok (.aload_n 0, 1) := by decide +kernel
theorem dX2_nextOf_93 : decode cX2_nextOf 93 = .ok (.getfield 13, 3) := by decide +kernel
theorem dX2_nextOf_96 : decode cX2_nextOf 96 = .ok (.iload_n 1, 1) := by decide +kernel
theorem dX2_nextOf_97 : decode cX2_nextOf 97 = .ok (.iaload, 1) := by decide +kernel
theorem dX2_nextOf_98 : decode cX2_nextOf 98 = .ok (.ireturn, 1) := by decide +kernel
set_option maxRecDepth 20000 in
theorem ggX2_wave_X2_cells : GoodIn wsX2_wave wsX2_cells := goodIn_r _ [11, 12, 13, 25, 26, 27, 28, 29, 30, 31, 32, 33, 34, 35, 36, 37, 38] (by decide +kernel) (by decide +kernel)
set_option maxRecDepth 20000 in
theorem gX2_wave_X2_cells : GoodIn wsX2_wave (wsV RX2 68 RX2 yX2_cells wsX2_cells) := goodIn_app (goodIn_of _ (by decide +kernel)) ggX2_wave_X2_cells
set_option maxRecDepth 20000 in
theorem ggX2_wave_X2_nextOf : GoodIn wsX2_wave wsX2_nextOf := goodIn_r _ [17, 18, 2, 19, 20, 21, 22, 10, 23, 24, 25, 26, 27, 28, 29, 30, 31, 32, 33, 34, 35, 36, 37, 38] (by decide +kernel) (by decide +kernel)
set_option maxRecDepth 20000 in
theorem gX2_wave_X2_nextOf : GoodIn wsX2_wave (wsV RX2 72 RX2 yX2_nextOf wsX2_nextOf) := goodIn_app (goodIn_of _ (by decide +kernel)) ggX2_wave_X2_nextOf
theorem dX2_wave_0 : decode cX2_wave 0 = .ok (.iconst 0, 1) := by decide +kernel
theorem dX2_wave_1 : decode cX2_wave 1 = .ok (.istore_n 1, 1) := by decide +kernel
theorem dX2_wave_2 : decode cX2_wave 2 = .ok (.iconst 0, 1) := by decide +kernel
theorem dX2_wave_3 : decode cX2_wave 3 = .ok (.istore_n 2, 1) := by decide +kernel
theorem dX2_wave_4 : decode cX2_wave 4 = .ok (.iload_n 2, 1) := by decide +kernel
theorem dX2_wave_5 : decode cX2_wave 5 = .ok (.aload_n 0, 1) := by decide +kernel
theorem dX2_wave_6 : decode cX2_wave 6 = .ok (.invokevirtual 68, 3) := by decide +kernel
theorem dX2_wave_9 : decode cX2_wave 9 = .ok (.if_icmp .ge 43, 3) := by decide +kernel
theorem dX2_wave_12 : decode cX2_wave 12 = .ok (.aload_n 0, 1) := by decide +kernel
theorem dX2_wave_13 : decode cX2_wave 13 = .ok (.getfield 17, 3) := by decide +kernel
theorem dX2_wave_16 : decode cX2_wave 16 = .ok (.iload_n 2, 1) := by decide +kernel
theorem dX2_wave_17 : decode cX2_wave 17 = .ok (.aload_n 0, 1) := by decide +kernel
theorem dX2_wave_18 : decode cX2_wave 18 = .ok (.iload_n 2, 1) := by decide +kernel
theorem dX2_wave_19 : decode cX2_wave 19 = .ok (.invokevirtual 72, 3) := by decide +kernel
theorem dX2_wave_22 : decode cX2_wave 22 = .ok (.iastore, 1) := by decide +kernel
theorem dX2_wave_23 : decode cX2_wave 23 = .ok (.iload_n 1, 1) := by decide +kernel
theorem dX2_wave_24 : decode cX2_wave 24 = .ok (.aload_n 0, 1) := by decide +kernel
theorem dX2_wave_25 : decode cX2_wave 25 = .ok (.getfield 17, 3) := by decide +kernel
theorem dX2_wave_28 : decode cX2_wave 28 = .ok (.iload_n 2, 1) := by decide +kernel
theorem dX2_wave_29 : decode cX2_wave 29 = .ok (.iaload, 1) := by decide +kernel
theorem dX2_wave_30 : decode cX2_wave 30 = .ok (.aload_n 0, 1) := by decide +kernel
theorem dX2_wave_31 : decode cX2_wave 31 = .ok (.getfield 13, 3) := by decide +kernel
theorem dX2_wave_34 : decode cX2_wave 34 = .ok (.iload_n 2, 1) := by decide +kernel
theorem dX2_wave_35 : decode cX2_wave 35 = .ok (.iaload, 1) := by decide +kernel
theorem dX2_wave_36 : decode cX2_wave 36 = .ok (.if_icmp .ne 7, 3) := by decide +kernel
theorem dX2_wave_39 : decode cX2_wave 39 = .ok (.iconst 0, 1) := by decide +kernel
theorem dX2_wave_40 : decode cX2_wave 40 = .ok (.goto 4, 3) := by decide +kernel
theorem dX2_wave_43 : decode cX2_wave 43 = .ok (.iconst 1, 1) := by decide +kernel
theorem dX2_wave_44 : decode cX2_wave 44 = .ok (.iadd, 1) := by decide +kernel
theorem dX2_wave_45 : decode cX2_wave 45 = .ok (.istore_n 1, 1) := by decide +kernel
theorem dX2_wave_46 : decode cX2_wave 46 = .ok (.iinc 2 1, 3) := by decide +kernel
theorem dX2_wave_49 : decode cX2_wave 49 = .ok (.goto (-45), 3) := by decide +kernel
theorem dX2_wave_52 : decode cX2_wave 52 = .ok (.aload_n 0, 1) := by decide +kernel
theorem dX2_wave_53 : decode cX2_wave 53 = .ok (.getfield 17, 3) := by decide +kernel
theorem dX2_wave_56 : decode cX2_wave 56 = .ok (.iconst 0, 1) := by decide +kernel
theorem dX2_wave_57 : decode cX2_wave 57 = .ok (.aload_n 0, 1) := by decide +kernel
theorem dX2_wave_58 : decode cX2_wave 58 = .ok (.getfield 13, 3) := by decide +kernel
theorem dX2_wave_61 : decode cX2_wave 61 = .ok (.iconst 0, 1) := by decide +kernel
theorem dX2_wave_62 : decode cX2_wave 62 = .ok (.aload_n 0, 1) := by decide +kernel
theorem dX2_wave_63 : decode cX2_wave 63 = .ok (.invokevirtual 68, 3) := by decide +kernel
theorem dX2_wave_66 : decode cX2_wave 66 = .ok (.invokestatic 59, 3) := by decide +kernel
theorem dX2_wave_69 : decode cX2_wave 69 = .ok (.iload_n 1, 1) := by decide +kernel
theorem dX2_wave_70 : decode cX2_wave 70 = .ok (.ireturn, 1) := by decide +kernel
set_option maxRecDepth 20000 in
theorem ggX2_cellsWith_X2_cells : GoodIn wsX2_cellsWith wsX2_cells := goodIn_r _ [6, 7, 8, 9, 10, 11, 12, 13, 14, 15, 16, 17, 18, 19, 20, 21, 22] (by decide +kernel) (by decide +kernel)
set_option maxRecDepth 20000 in
theorem gX2_cellsWith_X2_cells : GoodIn wsX2_cellsWith (wsV RX2 68 RX2 yX2_cells wsX2_cells) := goodIn_app (goodIn_of _ (by decide +kernel)) ggX2_cellsWith_X2_cells
theorem dX2_cellsWith_0 : decode cX2_cellsWith 0 = .ok (.iconst 0, 1) := by decide +kernel
theorem dX2_cellsWith_1 : decode cX2_cellsWith 1 = .ok (.istore_n 2, 1) := by decide +kernel
theorem dX2_cellsWith_2 : decode cX2_cellsWith 2 = .ok (.iconst 0, 1) := by decide +kernel
theorem dX2_cellsWith_3 : decode cX2_cellsWith 3 = .ok (.istore_n 3, 1) := by decide +kernel
theorem dX2_cellsWith_4 : decode cX2_cellsWith 4 = .ok (.iload_n 3, 1) := by decide +kernel
theorem dX2_cellsWith_5 : decode cX2_cellsWith 5 = .ok (.aload_n 0, 1) := by decide +kernel
theorem dX2_cellsWith_6 : decode cX2_cellsWith 6 = .ok (.invokevirtual 68, 3) := by decide +kernel
theorem dX2_cellsWith_9 : decode cX2_cellsWith 9 = .ok (.if_icmp .ge 27, 3) := by decide +kernel
theorem dX2_cellsWith_12 : decode cX2_cellsWith 12 = .ok (.iload_n 2, 1) := by decide +kernel
theorem dX2_cellsWith_13 : decode cX2_cellsWith 13 = .ok (.aload_n 0, 1) := by decide +kernel
theorem dX2_cellsWith_14 : decode cX2_cellsWith 14 = .ok (.getfield 13, 3) := by decide +kernel
theorem dX2_cellsWith_17 : decode cX2_cellsWith 17 = .ok (.iload_n 3, 1) := by decide +kernel
theorem dX2_cellsWith_18 : decode cX2_cellsWith 18 = .ok (.iaload, 1) := by decide +kernel
theorem dX2_cellsWith_19 : decode cX2_cellsWith 19 = .ok (.iload_n 1, 1) := by decide +kernel
theorem dX2_cellsWith_20 : decode cX2_cellsWith 20 = .ok (.if_icmp .ne 7, 3) := by decide +kernel
theorem dX2_cellsWith_23 : decode cX2_cellsWith 23 = .ok (.iconst 1, 1) := by decide +kernel
theorem dX2_cellsWith_24 : decode cX2_cellsWith 24 = .ok (.goto 4, 3) := by decide +kernel
theorem dX2_cellsWith_27 : decode cX2_cellsWith 27 = .ok (.iconst 0, 1) := by decide +kernel
theorem dX2_cellsWith_28 : decode cX2_cellsWith 28 = .ok (.iadd, 1) := by decide +kernel
theorem dX2_cellsWith_29 : decode cX2_cellsWith 29 = .ok (.istore_n 2, 1) := by decide +kernel
theorem dX2_cellsWith_30 : decode cX2_cellsWith 30 = .ok (.iinc 3 1, 3) := by decide +kernel
theorem dX2_cellsWith_33 : decode cX2_cellsWith 33 = .ok (.goto (-29), 3) := by decide +kernel
theorem dX2_cellsWith_36 : decode cX2_cellsWith 36 = .ok (.iload_n 2, 1) := by decide +kernel
theorem dX2_cellsWith_37 : decode cX2_cellsWith 37 = .ok (.ireturn, 1) := by decide +kernel
set_option maxRecDepth 20000 in
theorem ggX2_newMap_X2_isIn : GoodIn wsX2_newMap wsX2_isIn := goodIn_r _ [5] (by decide +kernel) (by decide +kernel)
set_option maxRecDepth 20000 in
theorem gX2_newMap_X2_isIn : GoodIn wsX2_newMap (va_wsS RX2 52 yX2_isIn wsX2_isIn) := goodIn_app (goodIn_of _ (by decide +kernel)) ggX2_newMap_X2_isIn
set_option maxRecDepth 20000 in
theorem ggX2_newMap_X2_fail : GoodIn wsX2_newMap wsX2_fail := goodIn_r _ [9, 1, 24, 25, 26, 27, 28, 29, 30, 31, 32, 33, 34, 35, 36, 37] (by decide +kernel) (by decide +kernel)
set_option maxRecDepth 20000 in
theorem gX2_newMap_X2_fail : GoodIn wsX2_newMap (wsV RX2 76 RX2 yX2_fail wsX2_fail) := goodIn_app (goodIn_of _ (by decide +kernel)) ggX2_newMap_X2_fail
set_option maxRecDepth 20000 in
theorem ggX2_newMap_X2_take : GoodIn wsX2_newMap wsX2_take := goodIn_r _ [13, 14, 15, 16, 17, 18, 19, 24, 25, 26, 27, 28, 29, 30, 31, 32, 33, 34, 35, 36, 37] (by decide +kernel) (by decide +kernel)
set_option maxRecDepth 20000 in
theorem gX2_newMap_X2_take : GoodIn wsX2_newMap (wsV RX2 39 RX2 yX2_take wsX2_take) := goodIn_app (goodIn_of _ (by decide +kernel)) ggX2_newMap_X2_take
set_option maxRecDepth 20000 in
theorem ggX2_newMap_X2_cells : GoodIn wsX2_newMap wsX2_cells := goodIn_r _ [23, 14, 15, 24, 25, 26, 27, 28, 29, 30, 31, 32, 33, 34, 35, 36, 37] (by decide +kernel) (by decide +kernel)
set_option maxRecDepth 20000 in
theorem gX2_newMap_X2_cells : GoodIn wsX2_newMap (wsV RX2 68 RX2 yX2_cells wsX2_cells) := goodIn_app (goodIn_of _ (by decide +kernel)) ggX2_newMap_X2_cells
theorem dX2_newMap_0 : decode cX2_newMap 0 = .ok (.aload_n 0, 1) := by decide +kernel
theorem dX2_newMap_1 : decode cX2_newMap 1 = .ok (.iconst 0, 1) := by decide +kernel
theorem dX2_newMap_2 : decode cX2_newMap 2 = .ok (.putfield 43, 3) := by decide +kernel
theorem dX2_newMap_5 : decode cX2_newMap 5 = .ok (.iload_n 1, 1) := by decide +kernel
theorem dX2_newMap_6 : decode cX2_newMap 6 = .ok (.iconst 2, 1) := by decide +kernel
theorem dX2_newMap_7 : decode cX2_newMap 7 = .ok (.iconst 5, 1) := by decide +kernel
theorem dX2_newMap_8 : decode cX2_newMap 8 = .ok (.invokestatic 52, 3) := by decide +kernel
theorem dX2_newMap_11 : decode cX2_newMap 11 = .ok (.ifCond .eq 12, 3) := by decide +kernel
theorem dX2_newMap_14 : decode cX2_newMap 14 = .ok (.iload_n 2, 1) := by decide +kernel
theorem dX2_newMap_15 : decode cX2_newMap 15 = .ok (.iconst 2, 1) := by decide +kernel
theorem dX2_newMap_16 : decode cX2_newMap 16 = .ok (.iconst 5, 1) := by decide +kernel
theorem dX2_newMap_17 : decode cX2_newMap 17 = .ok (.invokestatic 52, 3) := by decide +kernel
theorem dX2_newMap_20 : decode cX2_newMap 20 = .ok (.ifCond .ne 9, 3) := by decide +kernel
theorem dX2_newMap_23 : decode cX2_newMap 23 = .ok (.aload_n 0, 1) := by decide +kernel
theorem dX2_newMap_24 : decode cX2_newMap 24 = .ok (.iconst 1, 1) := by decide +kernel
theorem dX2_newMap_25 : decode cX2_newMap 25 = .ok (.invokevirtual 76, 3) := by decide +kernel
theorem dX2_newMap_28 : decode cX2_newMap 28 = .ok (.ireturn, 1) := by decide +kernel
theorem dX2_newMap_29 : decode cX2_newMap 29 = .ok (.aload_n 0, 1) := by decide +kernel
theorem dX2_newMap_30 : decode cX2_newMap 30 = .ok (.iload_n 1, 1) := by decide +kernel
theorem dX2_newMap_31 : decode cX2_newMap 31 = .ok (.iload_n 2, 1) := by decide +kernel
theorem dX2_newMap_32 : decode cX2_newMap 32 = .ok (.invokevirtual 39, 3) := by decide +kernel
theorem dX2_newMap_35 : decode cX2_newMap 35 = .ok (.aload_n 0, 1) := by decide +kernel
theorem dX2_newMap_36 : decode cX2_newMap 36 = .ok (.invokevirtual 68, 3) := by decide +kernel
theorem dX2_newMap_39 : decode cX2_newMap 39 = .ok (.ireturn, 1) := by decide +kernel
set_option maxRecDepth 20000 in
theorem ggX2_paint_X2_isCell : GoodIn wsX2_paint wsX2_isCell := goodIn_r _ [8, 3, 9, 10, 11, 7, 12, 20, 21, 22, 23, 24, 25, 26, 27, 28, 29, 30, 31, 32, 33] (by decide +kernel) (by decide +kernel)
set_option maxRecDepth 20000 in
theorem gX2_paint_X2_isCell : GoodIn wsX2_paint (wsV RX2 79 RX2 yX2_isCell wsX2_isCell) := goodIn_app (goodIn_of _ (by decide +kernel)) ggX2_paint_X2_isCell
set_option maxRecDepth 20000 in
theorem ggX2_paint_X2_isAny : GoodIn wsX2_paint wsX2_isAny := goodIn_r _ [15, 10, 11, 7, 12] (by decide +kernel) (by decide +kernel)
set_option maxRecDepth 20000 in
theorem gX2_paint_X2_isAny : GoodIn wsX2_paint (va_wsS RX2 83 yX2_isAny wsX2_isAny) := goodIn_app (goodIn_of _ (by decide +kernel)) ggX2_paint_X2_isAny
set_option maxRecDepth 20000 in
theorem ggX2_paint_X2_fail : GoodIn wsX2_paint wsX2_fail := goodIn_r _ [19, 1, 20, 21, 22, 23, 24, 25, 26, 27, 28, 29, 30, 31, 32, 33] (by decide +kernel) (by decide +kernel)
set_option maxRecDepth 20000 in
theorem gX2_paint_X2_fail : GoodIn wsX2_paint (wsV RX2 76 RX2 yX2_fail wsX2_fail) := goodIn_app (goodIn_of _ (by decide +kernel)) ggX2_paint_X2_fail
theorem dX2_paint_0 : decode cX2_paint 0 = .ok (.aload_n 0, 1) := by decide +kernel
theorem dX2_paint_1 : decode cX2_paint 1 = .ok (.iconst 0, 1) := by decide +kernel
theorem dX2_paint_2 : decode cX2_paint 2 = .ok (.putfield 43, 3) := by decide +kernel
theorem dX2_paint_5 : decode cX2_paint 5 = .ok (.aload_n 0, 1) := by decide +kernel
theorem dX2_paint_6 : decode cX2_paint 6 = .ok (.iload_n 1, 1) := by decide +kernel
theorem dX2_paint_7 : decode cX2_paint 7 = .ok (.iload_n 2, 1) := by decide +kernel
theorem dX2_paint_8 : decode cX2_paint 8 = .ok (.invokevirtual 79, 3) := by decide +kernel
theorem dX2_paint_11 : decode cX2_paint 11 = .ok (.ifCond .eq 10, 3) := by decide +kernel
theorem dX2_paint_14 : decode cX2_paint 14 = .ok (.iload_n 3, 1) := by decide +kernel
theorem dX2_paint_15 : decode cX2_paint 15 = .ok (.invokestatic 83, 3) := by decide +kernel
theorem dX2_paint_18 : decode cX2_paint 18 = .ok (.ifCond .ne 9, 3) := by decide +kernel
theorem dX2_paint_21 : decode cX2_paint 21 = .ok (.aload_n 0, 1) := by decide +kernel
theorem dX2_paint_22 : decode cX2_paint 22 = .ok (.iconst 1, 1) := by decide +kernel
theorem dX2_paint_23 : decode cX2_paint 23 = .ok (.invokevirtual 76, 3) := by decide +kernel
theorem dX2_paint_26 : decode cX2_paint 26 = .ok (.ireturn, 1) := by decide +kernel
theorem dX2_paint_27 : decode cX2_paint 27 = .ok (.aload_n 0, 1) := by decide +kernel
theorem dX2_paint_28 : decode cX2_paint 28 = .ok (.getfield 13, 3) := by decide +kernel
theorem dX2_paint_31 : decode cX2_paint 31 = .ok (.aload_n 0, 1) := by decide +kernel
theorem dX2_paint_32 : decode cX2_paint 32 = .ok (.getfield 46, 3) := by decide +kernel
theorem dX2_paint_35 : decode cX2_paint 35 = .ok (.iload_n 2, 1) := by decide +kernel
theorem dX2_paint_36 : decode cX2_paint 36 = .ok (.imul, 1) := by decide +kernel
theorem dX2_paint_37 : decode cX2_paint 37 = .ok (.iload_n 1, 1) := by decide +kernel
theorem dX2_paint_38 : decode cX2_paint 38 = .ok (.iadd, 1) := by decide +kernel
theorem dX2_paint_39 : decode cX2_paint 39 = .ok (.iaload, 1) := by decide +kernel
theorem dX2_paint_40 : decode cX2_paint 40 = .ok (.istore 4, 2) := by decide +kernel
theorem dX2_paint_42 : decode cX2_paint 42 = .ok (.aload_n 0, 1) := by decide +kernel
theorem dX2_paint_43 : decode cX2_paint 43 = .ok (.getfield 13, 3) := by decide +kernel
theorem dX2_paint_46 : decode cX2_paint 46 = .ok (.aload_n 0, 1) := by decide +kernel
theorem dX2_paint_47 : decode cX2_paint 47 = .ok (.getfield 46, 3) := by decide +kernel
theorem dX2_paint_50 : decode cX2_paint 50 = .ok (.iload_n 2, 1) := by decide +kernel
theorem dX2_paint_51 : decode cX2_paint 51 = .ok (.imul, 1) := by decide +kernel
theorem dX2_paint_52 : decode cX2_paint 52 = .ok (.iload_n 1, 1) := by decide +kernel
theorem dX2_paint_53 : decode cX2_paint 53 = .ok (.iadd, 1) := by decide +kernel
theorem dX2_paint_54 : decode cX2_paint 54 = .ok (.iload_n 3, 1) := by decide +kernel
theorem dX2_paint_55 : decode cX2_paint 55 = .ok (.iastore, 1) := by decide +kernel
theorem dX2_paint_56 : decode cX2_paint 56 = .ok (.iload 4, 2) := by decide +kernel
theorem dX2_paint_58 : decode cX2_paint 58 = .ok (.ireturn, 1) := by decide +kernel
set_option maxRecDepth 20000 in
theorem ggX2_turnStubborn_X2_isCell : GoodIn wsX2_turnStubborn wsX2_isCell := goodIn_r _ [8, 3, 9, 10, 11, 7, 12, 13, 14, 15, 16, 17, 18, 19, 20, 21, 22, 23, 24, 25, 26] (by decide +kernel) (by decide +kernel)
set_option maxRecDepth 20000 in
theorem gX2_turnStubborn_X2_isCell : GoodIn wsX2_turnStubborn (wsV RX2 79 RX2 yX2_isCell wsX2_isCell) := goodIn_app (goodIn_of _ (by decide +kernel)) ggX2_turnStubborn_X2_isCell
theorem dX2_turnStubborn_0 : decode cX2_turnStubborn 0 = .ok (.aload_n 0, 1) := by decide +kernel
theorem dX2_turnStubborn_1 : decode cX2_turnStubborn 1 = .ok (.aload_n 0, 1) := by decide +kernel
theorem dX2_turnStubborn_2 : decode cX2_turnStubborn 2 = .ok (.iload_n 1, 1) := by decide +kernel
theorem dX2_turnStubborn_3 : decode cX2_turnStubborn 3 = .ok (.iload_n 2, 1) := by decide +kernel
theorem dX2_turnStubborn_4 : decode cX2_turnStubborn 4 = .ok (.invokevirtual 79, 3) := by decide +kernel
theorem dX2_turnStubborn_7 : decode cX2_turnStubborn 7 = .ok (.ifCond .eq 7, 3) := by decide +kernel
theorem dX2_turnStubborn_10 : decode cX2_turnStubborn 10 = .ok (.iconst 0, 1) := by decide +kernel
theorem dX2_turnStubborn_11 : decode cX2_turnStubborn 11 = .ok (.goto 4, 3) := by decide +kernel
theorem dX2_turnStubborn_14 : decode cX2_turnStubborn 14 = .ok (.iconst 1, 1) := by decide +kernel
theorem dX2_turnStubborn_15 : decode cX2_turnStubborn 15 = .ok (.putfield 43, 3) := by decide +kernel
theorem dX2_turnStubborn_18 : decode cX2_turnStubborn 18 = .ok (.aload_n 0, 1) := by decide +kernel
theorem dX2_turnStubborn_19 : decode cX2_turnStubborn 19 = .ok (.getfield 43, 3) := by decide +kernel
theorem dX2_turnStubborn_22 : decode cX2_turnStubborn 22 = .ok (.ifCond .eq 5, 3) := by decide +kernel
theorem dX2_turnStubborn_25 : decode cX2_turnStubborn 25 = .ok (.iconst 0, 1) := by decide +kernel
theorem dX2_turnStubborn_26 : decode cX2_turnStubborn 26 = .ok (.ireturn, 1) := by decide +kernel
theorem dX2_turnStubborn_27 : decode cX2_turnStubborn 27 = .ok (.aload_n 0, 1) := by decide +kernel
theorem dX2_turnStubborn_28 : decode cX2_turnStubborn 28 = .ok (.getfield 20, 3) := by decide +kernel
theorem dX2_turnStubborn_31 : decode cX2_turnStubborn 31 = .ok (.aload_n 0, 1) := by decide +kernel
theorem dX2_turnStubborn_32 : decode cX2_turnStubborn 32 = .ok (.getfield 46, 3) := by decide +kernel
theorem dX2_turnStubborn_35 : decode cX2_turnStubborn 35 = .ok (.iload_n 2, 1) := by decide +kernel
theorem dX2_turnStubborn_36 : decode cX2_turnStubborn 36 = .ok (.imul, 1) := by decide +kernel
theorem dX2_turnStubborn_37 : decode cX2_turnStubborn 37 = .ok (.iload_n 1, 1) := by decide +kernel
theorem dX2_turnStubborn_38 : decode cX2_turnStubborn 38 = .ok (.iadd, 1) := by decide +kernel
theorem dX2_turnStubborn_39 : decode cX2_turnStubborn 39 = .ok (.aload_n 0, 1) := by decide +kernel
theorem dX2_turnStubborn_40 : decode cX2_turnStubborn 40 = .ok (.getfield 20, 3) := by decide +kernel
theorem dX2_turnStubborn_43 : decode cX2_turnStubborn 43 = .ok (.aload_n 0, 1) := by decide +kernel
theorem dX2_turnStubborn_44 : decode cX2_turnStubborn 44 = .ok (.getfield 46, 3) := by decide +kernel
theorem dX2_turnStubborn_47 : decode cX2_turnStubborn 47 = .ok (.iload_n 2, 1) := by decide +kernel
theorem dX2_turnStubborn_48 : decode cX2_turnStubborn 48 = .ok (.imul, 1) := by decide +kernel
theorem dX2_turnStubborn_49 : decode cX2_turnStubborn 49 = .ok (.iload_n 1, 1) := by decide +kernel
theorem dX2_turnStubborn_50 : decode cX2_turnStubborn 50 = .ok (.iadd, 1) := by decide +kernel
theorem dX2_turnStubborn_51 : decode cX2_turnStubborn 51 = .ok (.baload, 1) := by decide +kernel
theorem dX2_turnStubborn_52 : decode cX2_turnStubborn 52 = .ok (.ifCond .ne 7, 3) := by decide +kernel
theorem dX2_turnStubborn_55 : decode cX2_turnStubborn 55 = .ok (.iconst 1, 1) := by decide +kernel
theorem dX2_turnStubborn_56 : decode cX2_turnStubborn 56 = .ok (.goto 4, 3) := by decide +kernel
theorem dX2_turnStubborn_59 : decode cX2_turnStubborn 59 = .ok (.iconst 0, 1) := by decide +kernel
theorem dX2_turnStubborn_60 : decode cX2_turnStubborn 60 = .ok (.bastore, 1) := by decide +kernel
theorem dX2_turnStubborn_61 : decode cX2_turnStubborn 61 = .ok (.aload_n 0, 1) := by decide +kernel
theorem dX2_turnStubborn_62 : decode cX2_turnStubborn 62 = .ok (.getfield 20, 3) := by decide +kernel
theorem dX2_turnStubborn_65 : decode cX2_turnStubborn 65 = .ok (.aload_n 0, 1) := by decide +kernel
theorem dX2_turnStubborn_66 : decode cX2_turnStubborn 66 = .ok (.getfield 46, 3) := by decide +kernel
theorem dX2_turnStubborn_69 : decode cX2_turnStubborn 69 = .ok (.iload_n 2, 1) := by decide +kernel
theorem dX2_turnStubborn_70 : decode cX2_turnStubborn 70 = .ok (.imul, 1) := by decide +kernel
theorem dX2_turnStubborn_71 : decode cX2_turnStubborn 71 = .ok (.iload_n 1, 1) := by decide +kernel
theorem dX2_turnStubborn_72 : decode cX2_turnStubborn 72 = .ok (.iadd, 1) := by decide +kernel
theorem dX2_turnStubborn_73 : decode cX2_turnStubborn 73 = .ok (.baload, 1) := by decide +kernel
theorem dX2_turnStubborn_74 : decode cX2_turnStubborn 74 = .ok (.ireturn, 1) := by decide +kernel
set_option maxRecDepth 20000 in
theorem ggX2_setNeed_X2_isIn : GoodIn wsX2_setNeed wsX2_isIn := goodIn_r _ [6] (by decide +kernel) (by decide +kernel)
set_option maxRecDepth 20000 in
theorem gX2_setNeed_X2_isIn : GoodIn wsX2_setNeed (va_wsS RX2 52 yX2_isIn wsX2_isIn) := goodIn_app (goodIn_of _ (by decide +kernel)) ggX2_setNeed_X2_isIn
set_option maxRecDepth 20000 in
theorem ggX2_setNeed_X2_fail : GoodIn wsX2_setNeed wsX2_fail := goodIn_r _ [10, 1, 11, 12, 13, 14, 15, 16, 17, 18, 19, 20, 21, 22, 23, 24] (by decide +kernel) (by decide +kernel)
set_option maxRecDepth 20000 in
theorem gX2_setNeed_X2_fail : GoodIn wsX2_setNeed (wsV RX2 76 RX2 yX2_fail wsX2_fail) := goodIn_app (goodIn_of _ (by decide +kernel)) ggX2_setNeed_X2_fail
theorem dX2_setNeed_0 : decode cX2_setNeed 0 = .ok (.aload_n 0, 1) := by decide +kernel
theorem dX2_setNeed_1 : decode cX2_setNeed 1 = .ok (.iconst 0, 1) := by decide +kernel
theorem dX2_setNeed_2 : decode cX2_setNeed 2 = .ok (.putfield 43, 3) := by decide +kernel
theorem dX2_setNeed_5 : decode cX2_setNeed 5 = .ok (.iload_n 1, 1) := by decide +kernel
theorem dX2_setNeed_6 : decode cX2_setNeed 6 = .ok (.iconst 1, 1) := by decide +kernel
theorem dX2_setNeed_7 : decode cX2_setNeed 7 = .ok (.iconst 4, 1) := by decide +kernel
theorem dX2_setNeed_8 : decode cX2_setNeed 8 = .ok (.invokestatic 52, 3) := by decide +kernel
theorem dX2_setNeed_11 : decode cX2_setNeed 11 = .ok (.ifCond .ne 9, 3) := by decide +kernel
theorem dX2_setNeed_14 : decode cX2_setNeed 14 = .ok (.aload_n 0, 1) := by decide +kernel
theorem dX2_setNeed_15 : decode cX2_setNeed 15 = .ok (.iconst 1, 1) := by decide +kernel
theorem dX2_setNeed_16 : decode cX2_setNeed 16 = .ok (.invokevirtual 76, 3) := by decide +kernel
theorem dX2_setNeed_19 : decode cX2_setNeed 19 = .ok (.ireturn, 1) := by decide +kernel
theorem dX2_setNeed_20 : decode cX2_setNeed 20 = .ok (.aload_n 0, 1) := by decide +kernel
theorem dX2_setNeed_21 : decode cX2_setNeed 21 = .ok (.getfield 7, 3) := by decide +kernel
theorem dX2_setNeed_24 : decode cX2_setNeed 24 = .ok (.istore_n 2, 1) := by decide +kernel
theorem dX2_setNeed_25 : decode cX2_setNeed 25 = .ok (.aload_n 0, 1) := by decide +kernel
theorem dX2_setNeed_26 : decode cX2_setNeed 26 = .ok (.iload_n 1, 1) := by decide +kernel
theorem dX2_setNeed_27 : decode cX2_setNeed 27 = .ok (.putfield 7, 3) := by decide +kernel
theorem dX2_setNeed_30 : decode cX2_setNeed 30 = .ok (.iload_n 2, 1) := by decide +kernel
theorem dX2_setNeed_31 : decode cX2_setNeed 31 = .ok (.ireturn, 1) := by decide +kernel
set_option maxRecDepth 20000 in
theorem ggX2_pass_X2_isIn : GoodIn wsX2_pass wsX2_isIn := goodIn_r _ [6] (by decide +kernel) (by decide +kernel)
set_option maxRecDepth 20000 in
theorem gX2_pass_X2_isIn : GoodIn wsX2_pass (va_wsS RX2 52 yX2_isIn wsX2_isIn) := goodIn_app (goodIn_of _ (by decide +kernel)) ggX2_pass_X2_isIn
set_option maxRecDepth 20000 in
theorem ggX2_pass_X2_fail : GoodIn wsX2_pass wsX2_fail := goodIn_r _ [10, 1, 38, 39, 40, 41, 42, 43, 44, 45, 46, 47, 48, 49, 50, 51] (by decide +kernel) (by decide +kernel)
set_option maxRecDepth 20000 in
theorem gX2_pass_X2_fail : GoodIn wsX2_pass (wsV RX2 76 RX2 yX2_fail wsX2_fail) := goodIn_app (goodIn_of _ (by decide +kernel)) ggX2_pass_X2_fail
set_option maxRecDepth 20000 in
theorem ggX2_pass_X2_wave : GoodIn wsX2_pass wsX2_wave := goodIn_r _ [14, 15, 16, 17, 18, 19, 20, 21, 22, 23, 5, 24, 25, 26, 27, 28, 29, 30, 31, 32, 33, 34, 35, 36, 37, 38, 39, 40, 41, 42, 43, 44, 45, 46, 47, 48, 49, 50, 51] (by decide +kernel) (by decide +kernel)
set_option maxRecDepth 20000 in
theorem gX2_pass_X2_wave : GoodIn wsX2_pass (wsV RX2 87 RX2 yX2_wave wsX2_wave) := goodIn_app (goodIn_of _ (by decide +kernel)) ggX2_pass_X2_wave
theorem dX2_pass_0 : decode cX2_pass 0 = .ok (.aload_n 0, 1) := by decide +kernel
theorem dX2_pass_1 : decode cX2_pass 1 = .ok (.iconst 0, 1) := by decide +kernel
theorem dX2_pass_2 : decode cX2_pass 2 = .ok (.putfield 43, 3) := by decide +kernel
theorem dX2_pass_5 : decode cX2_pass 5 = .ok (.iload_n 1, 1) := by decide +kernel
theorem dX2_pass_6 : decode cX2_pass 6 = .ok (.iconst 1, 1) := by decide +kernel
theorem dX2_pass_7 : decode cX2_pass 7 = .ok (.bipush 40, 2) := by decide +kernel
theorem dX2_pass_9 : decode cX2_pass 9 = .ok (.invokestatic 52, 3) := by decide +kernel
theorem dX2_pass_12 : decode cX2_pass 12 = .ok (.ifCond .ne 9, 3) := by decide +kernel
theorem dX2_pass_15 : decode cX2_pass 15 = .ok (.aload_n 0, 1) := by decide +kernel
theorem dX2_pass_16 : decode cX2_pass 16 = .ok (.iconst 1, 1) := by decide +kernel
theorem dX2_pass_17 : decode cX2_pass 17 = .ok (.invokevirtual 76, 3) := by decide +kernel
theorem dX2_pass_20 : decode cX2_pass 20 = .ok (.ireturn, 1) := by decide +kernel
theorem dX2_pass_21 : decode cX2_pass 21 = .ok (.iconst 0, 1) := by decide +kernel
theorem dX2_pass_22 : decode cX2_pass 22 = .ok (.istore_n 2, 1) := by decide +kernel
theorem dX2_pass_23 : decode cX2_pass 23 = .ok (.iconst 0, 1) := by decide +kernel
theorem dX2_pass_24 : decode cX2_pass 24 = .ok (.istore_n 3, 1) := by decide +kernel
theorem dX2_pass_25 : decode cX2_pass 25 = .ok (.iload_n 3, 1) := by decide +kernel
theorem dX2_pass_26 : decode cX2_pass 26 = .ok (.iload_n 1, 1) := by decide +kernel
theorem dX2_pass_27 : decode cX2_pass 27 = .ok (.if_icmp .ge 14, 3) := by decide +kernel
theorem dX2_pass_30 : decode cX2_pass 30 = .ok (.aload_n 0, 1) := by decide +kernel
theorem dX2_pass_31 : decode cX2_pass 31 = .ok (.invokevirtual 87, 3) := by decide +kernel
theorem dX2_pass_34 : decode cX2_pass 34 = .ok (.istore_n 2, 1) := by decide +kernel
theorem dX2_pass_35 : decode cX2_pass 35 = .ok (.iinc 3 1, 3) := by decide +kernel
theorem dX2_pass_38 : decode cX2_pass 38 = .ok (.goto (-13), 3) := by decide +kernel
theorem dX2_pass_41 : decode cX2_pass 41 = .ok (.aload_n 0, 1) := by decide +kernel
theorem dX2_pass_42 : decode cX2_pass 42 = .ok (.dup, 1) := by decide +kernel
theorem dX2_pass_43 : decode cX2_pass 43 = .ok (.getfield 56, 3) := by decide +kernel
theorem dX2_pass_46 : decode cX2_pass 46 = .ok (.iload_n 1, 1) := by decide +kernel
theorem dX2_pass_47 : decode cX2_pass 47 = .ok (.iadd, 1) := by decide +kernel
theorem dX2_pass_48 : decode cX2_pass 48 = .ok (.putfield 56, 3) := by decide +kernel
theorem dX2_pass_51 : decode cX2_pass 51 = .ok (.iload_n 2, 1) := by decide +kernel
theorem dX2_pass_52 : decode cX2_pass 52 = .ok (.ireturn, 1) := by decide +kernel
set_option maxRecDepth 20000 in
theorem ggX2_colourAt_X2_isCell : GoodIn wsX2_colourAt wsX2_isCell := goodIn_r _ [8, 3, 9, 10, 11, 7, 12, 17, 18, 19, 20, 21, 22, 23, 24, 25, 26, 27, 28, 29, 30] (by decide +kernel) (by decide +kernel)
set_option maxRecDepth 20000 in
theorem gX2_colourAt_X2_isCell : GoodIn wsX2_colourAt (wsV RX2 79 RX2 yX2_isCell wsX2_isCell) := goodIn_app (goodIn_of _ (by decide +kernel)) ggX2_colourAt_X2_isCell
set_option maxRecDepth 20000 in
theorem ggX2_colourAt_X2_fail : GoodIn wsX2_colourAt wsX2_fail := goodIn_r _ [16, 1, 17, 18, 19, 20, 21, 22, 23, 24, 25, 26, 27, 28, 29, 30] (by decide +kernel) (by decide +kernel)
set_option maxRecDepth 20000 in
theorem gX2_colourAt_X2_fail : GoodIn wsX2_colourAt (wsV RX2 76 RX2 yX2_fail wsX2_fail) := goodIn_app (goodIn_of _ (by decide +kernel)) ggX2_colourAt_X2_fail
theorem dX2_colourAt_0 : decode cX2_colourAt 0 = .ok (.aload_n 0, 1) := by decide +kernel
theorem dX2_colourAt_1 : decode cX2_colourAt 1 = .ok (.iconst 0, 1) := by decide +kernel
theorem dX2_colourAt_2 : decode cX2_colourAt 2 = .ok (.putfield 43, 3) := by decide +kernel
theorem dX2_colourAt_5 : decode cX2_colourAt 5 = .ok (.aload_n 0, 1) := by decide +kernel
theorem dX2_colourAt_6 : decode cX2_colourAt 6 = .ok (.iload_n 1, 1) := by decide +kernel
theorem dX2_colourAt_7 : decode cX2_colourAt 7 = .ok (.iload_n 2, 1) := by decide +kernel
theorem dX2_colourAt_8 : decode cX2_colourAt 8 = .ok (.invokevirtual 79, 3) := by decide +kernel
theorem dX2_colourAt_11 : decode cX2_colourAt 11 = .ok (.ifCond .eq 19, 3) := by decide +kernel
theorem dX2_colourAt_14 : decode cX2_colourAt 14 = .ok (.aload_n 0, 1) := by decide +kernel
theorem dX2_colourAt_15 : decode cX2_colourAt 15 = .ok (.getfield 13, 3) := by decide +kernel
theorem dX2_colourAt_18 : decode cX2_colourAt 18 = .ok (.aload_n 0, 1) := by decide +kernel
theorem dX2_colourAt_19 : decode cX2_colourAt 19 = .ok (.getfield 46, 3) := by decide +kernel
theorem dX2_colourAt_22 : decode cX2_colourAt 22 = .ok (.iload_n 2, 1) := by decide +kernel
theorem dX2_colourAt_23 : decode cX2_colourAt 23 = .ok (.imul, 1) := by decide +kernel
theorem dX2_colourAt_24 : decode cX2_colourAt 24 = .ok (.iload_n 1, 1) := by decide +kernel
theorem dX2_colourAt_25 : decode cX2_colourAt 25 = .ok (.iadd, 1) := by decide +kernel
theorem dX2_colourAt_26 : decode cX2_colourAt 26 = .ok (.iaload, 1) := by decide +kernel
theorem dX2_colourAt_27 : decode cX2_colourAt 27 = .ok (.goto 8, 3) := by decide +kernel
theorem dX2_colourAt_30 : decode cX2_colourAt 30 = .ok (.aload_n 0, 1) := by decide +kernel
theorem dX2_colourAt_31 : decode cX2_colourAt 31 = .ok (.iconst 1, 1) := by decide +kernel
theorem dX2_colourAt_32 : decode cX2_colourAt 32 = .ok (.invokevirtual 76, 3) := by decide +kernel
theorem dX2_colourAt_35 : decode cX2_colourAt 35 = .ok (.ireturn, 1) := by decide +kernel
set_option maxRecDepth 20000 in
theorem ggX2_isStubborn_X2_isCell : GoodIn wsX2_isStubborn wsX2_isCell := goodIn_r _ [8, 3, 9, 10, 11, 7, 12, 13, 14, 15, 16, 17, 18, 19, 20, 21, 22, 23, 24, 25, 26] (by decide +kernel) (by decide +kernel)
set_option maxRecDepth 20000 in
theorem gX2_isStubborn_X2_isCell : GoodIn wsX2_isStubborn (wsV RX2 79 RX2 yX2_isCell wsX2_isCell) := goodIn_app (goodIn_of _ (by decide +kernel)) ggX2_isStubborn_X2_isCell
theorem dX2_isStubborn_0 : decode cX2_isStubborn 0 = .ok (.aload_n 0, 1) := by decide +kernel
theorem dX2_isStubborn_1 : decode cX2_isStubborn 1 = .ok (.aload_n 0, 1) := by decide +kernel
theorem dX2_isStubborn_2 : decode cX2_isStubborn 2 = .ok (.iload_n 1, 1) := by decide +kernel
theorem dX2_isStubborn_3 : decode cX2_isStubborn 3 = .ok (.iload_n 2, 1) := by decide +kernel
theorem dX2_isStubborn_4 : decode cX2_isStubborn 4 = .ok (.invokevirtual 79, 3) := by decide +kernel
theorem dX2_isStubborn_7 : decode cX2_isStubborn 7 = .ok (.ifCond .eq 7, 3) := by decide +kernel
theorem dX2_isStubborn_10 : decode cX2_isStubborn 10 = .ok (.iconst 0, 1) := by decide +kernel
theorem dX2_isStubborn_11 : decode cX2_isStubborn 11 = .ok (.goto 4, 3) := by decide +kernel
theorem dX2_isStubborn_14 : decode cX2_isStubborn 14 = .ok (.iconst 1, 1) := by decide +kernel
theorem dX2_isStubborn_15 : decode cX2_isStubborn 15 = .ok (.putfield 43, 3) := by decide +kernel
theorem dX2_isStubborn_18 : decode cX2_isStubborn 18 = .ok (.aload_n 0, 1) := by decide +kernel
theorem dX2_isStubborn_19 : decode cX2_isStubborn 19 = .ok (.getfield 43, 3) := by decide +kernel
theorem dX2_isStubborn_22 : decode cX2_isStubborn 22 = .ok (.ifCond .ne 23, 3) := by decide +kernel
theorem dX2_isStubborn_25 : decode cX2_isStubborn 25 = .ok (.aload_n 0, 1) := by decide +kernel
theorem dX2_isStubborn_26 : decode cX2_isStubborn 26 = .ok (.getfield 20, 3) := by decide +kernel
theorem dX2_isStubborn_29 : decode cX2_isStubborn 29 = .ok (.aload_n 0, 1) := by decide +kernel
theorem dX2_isStubborn_30 : decode cX2_isStubborn 30 = .ok (.getfield 46, 3) := by decide +kernel
theorem dX2_isStubborn_33 : decode cX2_isStubborn 33 = .ok (.iload_n 2, 1) := by decide +kernel
theorem dX2_isStubborn_34 : decode cX2_isStubborn 34 = .ok (.imul, 1) := by decide +kernel
theorem dX2_isStubborn_35 : decode cX2_isStubborn 35 = .ok (.iload_n 1, 1) := by decide +kernel
theorem dX2_isStubborn_36 : decode cX2_isStubborn 36 = .ok (.iadd, 1) := by decide +kernel
theorem dX2_isStubborn_37 : decode cX2_isStubborn 37 = .ok (.baload, 1) := by decide +kernel
theorem dX2_isStubborn_38 : decode cX2_isStubborn 38 = .ok (.ifCond .eq 7, 3) := by decide +kernel
theorem dX2_isStubborn_41 : decode cX2_isStubborn 41 = .ok (.iconst 1, 1) := by decide +kernel
theorem dX2_isStubborn_42 : decode cX2_isStubborn 42 = .ok (.goto 4, 3) := by decide +kernel
theorem dX2_isStubborn_45 : decode cX2_isStubborn 45 = .ok (.iconst 0, 1) := by decide +kernel
theorem dX2_isStubborn_46 : decode cX2_isStubborn 46 = .ok (.ireturn, 1) := by decide +kernel
set_option maxRecDepth 20000 in
theorem ggX2_neighboursWith_X2_isCell : GoodIn wsX2_neighboursWith wsX2_isCell := goodIn_r _ [7, 2, 8, 9, 10, 6, 11, 25, 26, 27, 28, 29, 30, 31, 32, 33, 34, 35, 36, 37, 38] (by decide +kernel) (by decide +kernel)
set_option maxRecDepth 20000 in
theorem gX2_neighboursWith_X2_isCell : GoodIn wsX2_neighboursWith (wsV RX2 79 RX2 yX2_isCell wsX2_isCell) := goodIn_app (goodIn_of _ (by decide +kernel)) ggX2_neighboursWith_X2_isCell
set_option maxRecDepth 20000 in
theorem ggX2_neighboursWith_X2_isAny : GoodIn wsX2_neighboursWith wsX2_isAny := goodIn_r _ [14, 9, 10, 6, 11] (by decide +kernel) (by decide +kernel)
set_option maxRecDepth 20000 in
theorem gX2_neighboursWith_X2_isAny : GoodIn wsX2_neighboursWith (va_wsS RX2 83 yX2_isAny wsX2_isAny) := goodIn_app (goodIn_of _ (by decide +kernel)) ggX2_neighboursWith_X2_isAny
set_option maxRecDepth 20000 in
theorem ggX2_neighboursWith_X2_beside : GoodIn wsX2_neighboursWith wsX2_beside := goodIn_r _ [18, 19, 20, 25, 26, 27, 28, 29, 30, 31, 32, 33, 34, 35, 36, 37, 38] (by decide +kernel) (by decide +kernel)
set_option maxRecDepth 20000 in
theorem gX2_neighboursWith_X2_beside : GoodIn wsX2_neighboursWith (wsV RX2 65 RX2 yX2_beside wsX2_beside) := goodIn_app (goodIn_of _ (by decide +kernel)) ggX2_neighboursWith_X2_beside
set_option maxRecDepth 20000 in
theorem ggX2_neighboursWith_X2_fail : GoodIn wsX2_neighboursWith wsX2_fail := goodIn_r _ [24, 1, 25, 26, 27, 28, 29, 30, 31, 32, 33, 34, 35, 36, 37, 38] (by decide +kernel) (by decide +kernel)
set_option maxRecDepth 20000 in
theorem gX2_neighboursWith_X2_fail : GoodIn wsX2_neighboursWith (wsV RX2 76 RX2 yX2_fail wsX2_fail) := goodIn_app (goodIn_of _ (by decide +kernel)) ggX2_neighboursWith_X2_fail
theorem dX2_neighboursWith_0 : decode cX2_neighboursWith 0 = .ok (.aload_n 0, 1) := by decide +kernel
theorem dX2_neighboursWith_1 : decode cX2_neighboursWith 1 = .ok (.iconst 0, 1) := by decide +kernel
theorem dX2_neighboursWith_2 : decode cX2_neighboursWith 2 = .ok (.putfield 43, 3) := by decide +kernel
theorem dX2_neighboursWith_5 : decode cX2_neighboursWith 5 = .ok (.aload_n 0, 1) := by decide +kernel
theorem dX2_neighboursWith_6 : decode cX2_neighboursWith 6 = .ok (.iload_n 1, 1) := by decide +kernel
theorem dX2_neighboursWith_7 : decode cX2_neighboursWith 7 = .ok (.iload_n 2, 1) := by decide +kernel
theorem dX2_neighboursWith_8 : decode cX2_neighboursWith 8 = .ok (.invokevirtual 79, 3) := by decide +kernel
theorem dX2_neighboursWith_11 : decode cX2_neighboursWith 11 = .ok (.ifCond .eq 26, 3) := by decide +kernel
theorem dX2_neighboursWith_14 : decode cX2_neighboursWith 14 = .ok (.iload_n 3, 1) := by decide +kernel
theorem dX2_neighboursWith_15 : decode cX2_neighboursWith 15 = .ok (.invokestatic 83, 3) := by decide +kernel
theorem dX2_neighboursWith_18 : decode cX2_neighboursWith 18 = .ok (.ifCond .eq 19, 3) := by decide +kernel
theorem dX2_neighboursWith_21 : decode cX2_neighboursWith 21 = .ok (.aload_n 0, 1) := by decide +kernel
theorem dX2_neighboursWith_22 : decode cX2_neighboursWith 22 = .ok (.aload_n 0, 1) := by decide +kernel
theorem dX2_neighboursWith_23 : decode cX2_neighboursWith 23 = .ok (.getfield 46, 3) := by decide +kernel
theorem dX2_neighboursWith_26 : decode cX2_neighboursWith 26 = .ok (.iload_n 2, 1) := by decide +kernel
theorem dX2_neighboursWith_27 : decode cX2_neighboursWith 27 = .ok (.imul, 1) := by decide +kernel
theorem dX2_neighboursWith_28 : decode cX2_neighboursWith 28 = .ok (.iload_n 1, 1) := by decide +kernel
theorem dX2_neighboursWith_29 : decode cX2_neighboursWith 29 = .ok (.iadd, 1) := by decide +kernel
theorem dX2_neighboursWith_30 : decode cX2_neighboursWith 30 = .ok (.iload_n 3, 1) := by decide +kernel
theorem dX2_neighboursWith_31 : decode cX2_neighboursWith 31 = .ok (.invokevirtual 65, 3) := by decide +kernel
theorem dX2_neighboursWith_34 : decode cX2_neighboursWith 34 = .ok (.goto 8, 3) := by decide +kernel
theorem dX2_neighboursWith_37 : decode cX2_neighboursWith 37 = .ok (.aload_n 0, 1) := by decide +kernel
theorem dX2_neighboursWith_38 : decode cX2_neighboursWith 38 = .ok (.iconst 1, 1) := by decide +kernel
theorem dX2_neighboursWith_39 : decode cX2_neighboursWith 39 = .ok (.invokevirtual 76, 3) := by decide +kernel
theorem dX2_neighboursWith_42 : decode cX2_neighboursWith 42 = .ok (.ireturn, 1) := by decide +kernel
set_option maxRecDepth 20000 in
theorem ggX2_nextColour_X2_isCell : GoodIn wsX2_nextColour wsX2_isCell := goodIn_r _ [7, 2, 8, 9, 10, 6, 11, 28, 29, 30, 31, 32, 33, 34, 35, 36, 37, 38, 39, 40, 41] (by decide +kernel) (by decide +kernel)
set_option maxRecDepth 20000 in
theorem gX2_nextColour_X2_isCell : GoodIn wsX2_nextColour (wsV RX2 79 RX2 yX2_isCell wsX2_isCell) := goodIn_app (goodIn_of _ (by decide +kernel)) ggX2_nextColour_X2_isCell
set_option maxRecDepth 20000 in
theorem ggX2_nextColour_X2_nextOf : GoodIn wsX2_nextColour wsX2_nextOf := goodIn_r _ [15, 16, 17, 18, 19, 20, 21, 6, 22, 23, 28, 29, 30, 31, 32, 33, 34, 35, 36, 37, 38, 39, 40, 41] (by decide +kernel) (by decide +kernel)
set_option maxRecDepth 20000 in
theorem gX2_nextColour_X2_nextOf : GoodIn wsX2_nextColour (wsV RX2 72 RX2 yX2_nextOf wsX2_nextOf) := goodIn_app (goodIn_of _ (by decide +kernel)) ggX2_nextColour_X2_nextOf
set_option maxRecDepth 20000 in
theorem ggX2_nextColour_X2_fail : GoodIn wsX2_nextColour wsX2_fail := goodIn_r _ [27, 1, 28, 29, 30, 31, 32, 33, 34, 35, 36, 37, 38, 39, 40, 41] (by decide +kernel) (by decide +kernel)
set_option maxRecDepth 20000 in
theorem gX2_nextColour_X2_fail : GoodIn wsX2_nextColour (wsV RX2 76 RX2 yX2_fail wsX2_fail) := goodIn_app (goodIn_of _ (by decide +kernel)) ggX2_nextColour_X2_fail
theorem dX2_nextColour_0 : decode cX2_nextColour 0 = .ok (.aload_n 0, 1) := by decide +kernel
theorem dX2_nextColour_1 : decode cX2_nextColour 1 = .ok (.iconst 0, 1) := by decide +kernel
theorem dX2_nextColour_2 : decode cX2_nextColour 2 = .ok (.putfield 43, 3) := by decide +kernel
theorem dX2_nextColour_5 : decode cX2_nextColour 5 = .ok (.aload_n 0, 1) := by decide +kernel
theorem dX2_nextColour_6 : decode cX2_nextColour 6 = .ok (.iload_n 1, 1) := by decide +kernel
theorem dX2_nextColour_7 : decode cX2_nextColour 7 = .ok (.iload_n 2, 1) := by decide +kernel
theorem dX2_nextColour_8 : decode cX2_nextColour 8 = .ok (.invokevirtual 79, 3) := by decide +kernel
theorem dX2_nextColour_11 : decode cX2_nextColour 11 = .ok (.ifCond .eq 18, 3) := by decide +kernel
theorem dX2_nextColour_14 : decode cX2_nextColour 14 = .ok (.aload_n 0, 1) := by decide +kernel
theorem dX2_nextColour_15 : decode cX2_nextColour 15 = .ok (.aload_n 0, 1) := by decide +kernel
theorem dX2_nextColour_16 : decode cX2_nextColour 16 = .ok (.getfield 46, 3) := by decide +kernel
theorem dX2_nextColour_19 : decode cX2_nextColour 19 = .ok (.iload_n 2, 1) := by decide +kernel
theorem dX2_nextColour_20 : decode cX2_nextColour 20 = .ok (.imul, 1) := by decide +kernel
theorem dX2_nextColour_21 : decode cX2_nextColour 21 = .ok (.iload_n 1, 1) := by decide +kernel
theorem dX2_nextColour_22 : decode cX2_nextColour 22 = .ok (.iadd, 1) := by decide +kernel
theorem dX2_nextColour_23 : decode cX2_nextColour 23 = .ok (.invokevirtual 72, 3) := by decide +kernel
theorem dX2_nextColour_26 : decode cX2_nextColour 26 = .ok (.goto 8, 3) := by decide +kernel
theorem dX2_nextColour_29 : decode cX2_nextColour 29 = .ok (.aload_n 0, 1) := by decide +kernel
theorem dX2_nextColour_30 : decode cX2_nextColour 30 = .ok (.iconst 1, 1) := by decide +kernel
theorem dX2_nextColour_31 : decode cX2_nextColour 31 = .ok (.invokevirtual 76, 3) := by decide +kernel
theorem dX2_nextColour_34 : decode cX2_nextColour 34 = .ok (.ireturn, 1) := by decide +kernel
set_option maxRecDepth 20000 in
theorem ggX2_hang_X2_cells : GoodIn wsX2_hang wsX2_cells := goodIn_r _ [8, 9, 10, 18, 19, 20, 21, 22, 23, 24, 25, 26, 27, 28, 29, 30, 31] (by decide +kernel) (by decide +kernel)
set_option maxRecDepth 20000 in
theorem gX2_hang_X2_cells : GoodIn wsX2_hang (wsV RX2 68 RX2 yX2_cells wsX2_cells) := goodIn_app (goodIn_of _ (by decide +kernel)) ggX2_hang_X2_cells
set_option maxRecDepth 20000 in
theorem ggX2_hang_X2_spread : GoodIn wsX2_hang wsX2_spread := goodIn_r _ [14, 1, 2, 15, 16, 3, 17, 18, 19, 20, 21, 22, 23, 24, 25, 26, 27, 28, 29, 30, 31] (by decide +kernel) (by decide +kernel)
set_option maxRecDepth 20000 in
theorem gX2_hang_X2_spread : GoodIn wsX2_hang (wsV RX2 93 RX2 yX2_spread wsX2_spread) := goodIn_app (goodIn_of _ (by decide +kernel)) ggX2_hang_X2_spread
theorem dX2_hang_0 : decode cX2_hang 0 = .ok (.aload_n 0, 1) := by decide +kernel
theorem dX2_hang_1 : decode cX2_hang 1 = .ok (.iconst 0, 1) := by decide +kernel
theorem dX2_hang_2 : decode cX2_hang 2 = .ok (.putfield 90, 3) := by decide +kernel
theorem dX2_hang_5 : decode cX2_hang 5 = .ok (.iconst 0, 1) := by decide +kernel
theorem dX2_hang_6 : decode cX2_hang 6 = .ok (.istore_n 1, 1) := by decide +kernel
theorem dX2_hang_7 : decode cX2_hang 7 = .ok (.iload_n 1, 1) := by decide +kernel
theorem dX2_hang_8 : decode cX2_hang 8 = .ok (.aload_n 0, 1) := by decide +kernel
theorem dX2_hang_9 : decode cX2_hang 9 = .ok (.invokevirtual 68, 3) := by decide +kernel
theorem dX2_hang_12 : decode cX2_hang 12 = .ok (.if_icmp .ge 16, 3) := by decide +kernel
theorem dX2_hang_15 : decode cX2_hang 15 = .ok (.aload_n 0, 1) := by decide +kernel
theorem dX2_hang_16 : decode cX2_hang 16 = .ok (.getfield 30, 3) := by decide +kernel
theorem dX2_hang_19 : decode cX2_hang 19 = .ok (.iload_n 1, 1) := by decide +kernel
theorem dX2_hang_20 : decode cX2_hang 20 = .ok (.iconst 0, 1) := by decide +kernel
theorem dX2_hang_21 : decode cX2_hang 21 = .ok (.iastore, 1) := by decide +kernel
theorem dX2_hang_22 : decode cX2_hang 22 = .ok (.iinc 1 1, 3) := by decide +kernel
theorem dX2_hang_25 : decode cX2_hang 25 = .ok (.goto (-18), 3) := by decide +kernel
theorem dX2_hang_28 : decode cX2_hang 28 = .ok (.iconst 0, 1) := by decide +kernel
theorem dX2_hang_29 : decode cX2_hang 29 = .ok (.istore_n 1, 1) := by decide +kernel
theorem dX2_hang_30 : decode cX2_hang 30 = .ok (.iload_n 1, 1) := by decide +kernel
theorem dX2_hang_31 : decode cX2_hang 31 = .ok (.aload_n 0, 1) := by decide +kernel
theorem dX2_hang_32 : decode cX2_hang 32 = .ok (.invokevirtual 68, 3) := by decide +kernel
theorem dX2_hang_35 : decode cX2_hang 35 = .ok (.if_icmp .ge 32, 3) := by decide +kernel
theorem dX2_hang_38 : decode cX2_hang 38 = .ok (.aload_n 0, 1) := by decide +kernel
theorem dX2_hang_39 : decode cX2_hang 39 = .ok (.getfield 13, 3) := by decide +kernel
theorem dX2_hang_42 : decode cX2_hang 42 = .ok (.iload_n 1, 1) := by decide +kernel
theorem dX2_hang_43 : decode cX2_hang 43 = .ok (.iaload, 1) := by decide +kernel
theorem dX2_hang_44 : decode cX2_hang 44 = .ok (.ifCond .eq 17, 3) := by decide +kernel
theorem dX2_hang_47 : decode cX2_hang 47 = .ok (.aload_n 0, 1) := by decide +kernel
theorem dX2_hang_48 : decode cX2_hang 48 = .ok (.getfield 30, 3) := by decide +kernel
theorem dX2_hang_51 : decode cX2_hang 51 = .ok (.iload_n 1, 1) := by decide +kernel
theorem dX2_hang_52 : decode cX2_hang 52 = .ok (.iaload, 1) := by decide +kernel
theorem dX2_hang_53 : decode cX2_hang 53 = .ok (.ifCond .ne 8, 3) := by decide +kernel
theorem dX2_hang_56 : decode cX2_hang 56 = .ok (.aload_n 0, 1) := by decide +kernel
theorem dX2_hang_57 : decode cX2_hang 57 = .ok (.iload_n 1, 1) := by decide +kernel
theorem dX2_hang_58 : decode cX2_hang 58 = .ok (.invokevirtual 93, 3) := by decide +kernel
theorem dX2_hang_61 : decode cX2_hang 61 = .ok (.iinc 1 1, 3) := by decide +kernel
theorem dX2_hang_64 : decode cX2_hang 64 = .ok (.goto (-34), 3) := by decide +kernel
theorem dX2_hang_67 : decode cX2_hang 67 = .ok (.return_, 1) := by decide +kernel
theorem dX2_spread_0 : decode cX2_spread 0 = .ok (.aload_n 0, 1) := by decide +kernel
theorem dX2_spread_1 : decode cX2_spread 1 = .ok (.dup, 1) := by decide +kernel
theorem dX2_spread_2 : decode cX2_spread 2 = .ok (.getfield 90, 3) := by decide +kernel
theorem dX2_spread_5 : decode cX2_spread 5 = .ok (.iconst 1, 1) := by decide +kernel
theorem dX2_spread_6 : decode cX2_spread 6 = .ok (.iadd, 1) := by decide +kernel
theorem dX2_spread_7 : decode cX2_spread 7 = .ok (.putfield 90, 3) := by decide +kernel
theorem dX2_spread_10 : decode cX2_spread 10 = .ok (.aload_n 0, 1) := by decide +kernel
theorem dX2_spread_11 : decode cX2_spread 11 = .ok (.getfield 30, 3) := by decide +kernel
theorem dX2_spread_14 : decode cX2_spread 14 = .ok (.iload_n 1, 1) := by decide +kernel
theorem dX2_spread_15 : decode cX2_spread 15 = .ok (.aload_n 0, 1) := by decide +kernel
theorem dX2_spread_16 : decode cX2_spread 16 = .ok (.getfield 90, 3) := by decide +kernel
theorem dX2_spread_19 : decode cX2_spread 19 = .ok (.iastore, 1) := by decide +kernel
theorem dX2_spread_20 : decode cX2_spread 20 = .ok (.aload_n 0, 1) := by decide +kernel
theorem dX2_spread_21 : decode cX2_spread 21 = .ok (.getfield 36, 3) := by decide +kernel
theorem dX2_spread_24 : decode cX2_spread 24 = .ok (.iconst 0, 1) := by decide +kernel
theorem dX2_spread_25 : decode cX2_spread 25 = .ok (.iload_n 1, 1) := by decide +kernel
theorem dX2_spread_26 : decode cX2_spread 26 = .ok (.iastore, 1) := by decide +kernel
theorem dX2_spread_27 : decode cX2_spread 27 = .ok (.iconst 1, 1) := by decide +kernel
theorem dX2_spread_28 : decode cX2_spread 28 = .ok (.istore_n 2, 1) := by decide +kernel
theorem dX2_spread_29 : decode cX2_spread 29 = .ok (.iconst 0, 1) := by decide +kernel
theorem dX2_spread_30 : decode cX2_spread 30 = .ok (.istore_n 3, 1) := by decide +kernel
theorem dX2_spread_31 : decode cX2_spread 31 = .ok (.iload_n 3, 1) := by decide +kernel
theorem dX2_spread_32 : decode cX2_spread 32 = .ok (.iload_n 2, 1) := by decide +kernel
theorem dX2_spread_33 : decode cX2_spread 33 = .ok (.if_icmp .ge 99, 3) := by decide +kernel
theorem dX2_spread_36 : decode cX2_spread 36 = .ok (.iconst 0, 1) := by decide +kernel
theorem dX2_spread_37 : decode cX2_spread 37 = .ok (.istore 4, 2) := by decide +kernel
theorem dX2_spread_39 : decode cX2_spread 39 = .ok (.iload 4, 2) := by decide +kernel
theorem dX2_spread_41 : decode cX2_spread 41 = .ok (.iconst 4, 1) := by decide +kernel
theorem dX2_spread_42 : decode cX2_spread 42 = .ok (.if_icmp .ge 84, 3) := by decide +kernel
theorem dX2_spread_45 : decode cX2_spread 45 = .ok (.aload_n 0, 1) := by decide +kernel
theorem dX2_spread_46 : decode cX2_spread 46 = .ok (.getfield 24, 3) := by decide +kernel
theorem dX2_spread_49 : decode cX2_spread 49 = .ok (.iconst 4, 1) := by decide +kernel
theorem dX2_spread_50 : decode cX2_spread 50 = .ok (.aload_n 0, 1) := by decide +kernel
theorem dX2_spread_51 : decode cX2_spread 51 = .ok (.getfield 36, 3) := by decide +kernel
theorem dX2_spread_54 : decode cX2_spread 54 = .ok (.iload_n 3, 1) := by decide +kernel
theorem dX2_spread_55 : decode cX2_spread 55 = .ok (.iaload, 1) := by decide +kernel
theorem dX2_spread_56 : decode cX2_spread 56 = .ok (.imul, 1) := by decide +kernel
theorem dX2_spread_57 : decode cX2_spread 57 = .ok (.iload 4, 2) := by decide +kernel
theorem dX2_spread_59 : decode cX2_spread 59 = .ok (.iadd, 1) := by decide +kernel
theorem dX2_spread_60 : decode cX2_spread 60 = .ok (.iaload, 1) := by decide +kernel
theorem dX2_spread_61 : decode cX2_spread 61 = .ok (.istore 5, 2) := by decide +kernel
theorem dX2_spread_63 : decode cX2_spread 63 = .ok (.iload 5, 2) := by decide +kernel
theorem dX2_spread_65 : decode cX2_spread 65 = .ok (.iconst (-1), 1) := by decide +kernel
theorem dX2_spread_66 : decode cX2_spread 66 = .ok (.if_icmp .eq 54, 3) := by decide +kernel
theorem dX2_spread_69 : decode cX2_spread 69 = .ok (.aload_n 0, 1) := by decide +kernel
theorem dX2_spread_70 : decode cX2_spread 70 = .ok (.getfield 30, 3) := by decide +kernel
theorem dX2_spread_73 : decode cX2_spread 73 = .ok (.iload 5, 2) := by decide +kernel
theorem dX2_spread_75 : decode cX2_spread 75 = .ok (.iaload, 1) := by decide +kernel
theorem dX2_spread_76 : decode cX2_spread 76 = .ok (.ifCond .ne 44, 3) := by decide +kernel
theorem dX2_spread_79 : decode cX2_spread 79 = .ok (.aload_n 0, 1) := by decide +kernel
theorem dX2_spread_80 : decode cX2_spread 80 = .ok (.getfield 13, 3) := by decide +kernel
theorem dX2_spread_83 : decode cX2_spread 83 = .ok (.iload 5, 2) := by decide +kernel
theorem dX2_spread_85 : decode cX2_spread 85 = .ok (.iaload, 1) := by decide +kernel
theorem dX2_spread_86 : decode cX2_spread 86 = .ok (.aload_n 0, 1) := by decide +kernel
theorem dX2_spread_87 : decode cX2_spread 87 = .ok (.getfield 13, 3) := by decide +kernel
theorem dX2_spread_90 : decode cX2_spread 90 = .ok (.iload_n 1, 1) := by decide +kernel
theorem dX2_spread_91 : decode cX2_spread 91 = .ok (.iaload, 1) := by decide +kernel
theorem dX2_spread_92 : decode cX2_spread 92 = .ok (.if_icmp .eq 6, 3) := by decide +kernel
theorem dX2_spread_95 : decode cX2_spread 95 = .ok (.goto 25, 3) := by decide +kernel
theorem dX2_spread_98 : decode cX2_spread 98 = .ok (.aload_n 0, 1) := by decide +kernel
theorem dX2_spread_99 : decode cX2_spread 99 = .ok (.getfield 30, 3) := by decide +kernel
theorem dX2_spread_102 : decode cX2_spread 102 = .ok (.iload 5, 2) := by decide +kernel
theorem dX2_spread_104 : decode cX2_spread 104 = .ok (.aload_n 0, 1) := by decide +kernel
theorem dX2_spread_105 : decode cX2_spread 105 = .ok (.getfield 90, 3) := by decide +kernel
theorem dX2_spread_108 : decode cX2_spread 108 = .ok (.iastore, 1) := by decide +kernel
theorem dX2_spread_109 : decode cX2_spread 109 = .ok (.aload_n 0, 1) := by decide +kernel
theorem dX2_spread_110 : decode cX2_spread 110 = .ok (.getfield 36, 3) := by decide +kernel
theorem dX2_spread_113 : decode cX2_spread 113 = .ok (.iload_n 2, 1) := by decide +kernel
theorem dX2_spread_114 : decode cX2_spread 114 = .ok (.iload 5, 2) := by decide +kernel
theorem dX2_spread_116 : decode cX2_spread 116 = .ok (.iastore, 1) := by decide +kernel
theorem dX2_spread_117 : decode cX2_spread 117 = .ok (.iinc 2 1, 3) := by decide +kernel
theorem dX2_spread_120 : decode cX2_spread 120 = .ok (.iinc 4 1, 3) := by decide +kernel
theorem dX2_spread_123 : decode cX2_spread 123 = .ok (.goto (-84), 3) := by decide +kernel
theorem dX2_spread_126 : decode cX2_spread 126 = .ok (.iinc 3 1, 3) := by decide +kernel
theorem dX2_spread_129 : decode cX2_spread 129 = .ok (.goto (-98), 3) := by decide +kernel
theorem dX2_spread_132 : decode cX2_spread 132 = .ok (.aload_n 0, 1) := by decide +kernel
theorem dX2_spread_133 : decode cX2_spread 133 = .ok (.getfield 33, 3) := by decide +kernel
theorem dX2_spread_136 : decode cX2_spread 136 = .ok (.aload_n 0, 1) := by decide +kernel
theorem dX2_spread_137 : decode cX2_spread 137 = .ok (.getfield 90, 3) := by decide +kernel
theorem dX2_spread_140 : decode cX2_spread 140 = .ok (.iload_n 2, 1) := by decide +kernel
theorem dX2_spread_141 : decode cX2_spread 141 = .ok (.iastore, 1) := by decide +kernel
theorem dX2_spread_142 : decode cX2_spread 142 = .ok (.return_, 1) := by decide +kernel
theorem dX2_sizeOf_0 : decode cX2_sizeOf 0 = .ok (.aload_n 0, 1) := by decide +kernel
theorem dX2_sizeOf_1 : decode cX2_sizeOf 1 = .ok (.getfield 13, 3) := by decide +kernel
theorem dX2_sizeOf_4 : decode cX2_sizeOf 4 = .ok (.iload_n 1, 1) := by decide +kernel
theorem dX2_sizeOf_5 : decode cX2_sizeOf 5 = .ok (.iaload, 1) := by decide +kernel
theorem dX2_sizeOf_6 : decode cX2_sizeOf 6 = .ok (.ifCond .ne 7, 3) := by decide +kernel
theorem dX2_sizeOf_9 : decode cX2_sizeOf 9 = .ok (.iconst 0, 1) := by decide +kernel
theorem dX2_sizeOf_10 : decode cX2_sizeOf 10 = .ok (.goto 14, 3) := by decide +kernel
theorem dX2_sizeOf_13 : decode cX2_sizeOf 13 = .ok (.aload_n 0, 1) := by decide +kernel
theorem dX2_sizeOf_14 : decode cX2_sizeOf 14 = .ok (.getfield 33, 3) := by decide +kernel
theorem dX2_sizeOf_17 : decode cX2_sizeOf 17 = .ok (.aload_n 0, 1) := by decide +kernel
theorem dX2_sizeOf_18 : decode cX2_sizeOf 18 = .ok (.getfield 30, 3) := by decide +kernel
theorem dX2_sizeOf_21 : decode cX2_sizeOf 21 = .ok (.iload_n 1, 1) := by decide +kernel
theorem dX2_sizeOf_22 : decode cX2_sizeOf 22 = .ok (.iaload, 1) := by decide +kernel
theorem dX2_sizeOf_23 : decode cX2_sizeOf 23 = .ok (.iaload, 1) := by decide +kernel
theorem dX2_sizeOf_24 : decode cX2_sizeOf 24 = .ok (.ireturn, 1) := by decide +kernel
set_option maxRecDepth 20000 in
theorem ggX2_regionSize_X2_isCell : GoodIn wsX2_regionSize wsX2_isCell := goodIn_r _ [7, 2, 8, 9, 10, 6, 11, 38, 39, 40, 41, 42, 43, 44, 45, 46, 47, 48, 49, 50, 51] (by decide +kernel) (by decide +kernel)
set_option maxRecDepth 20000 in
theorem gX2_regionSize_X2_isCell : GoodIn wsX2_regionSize (wsV RX2 79 RX2 yX2_isCell wsX2_isCell) := goodIn_app (goodIn_of _ (by decide +kernel)) ggX2_regionSize_X2_isCell
set_option maxRecDepth 20000 in
theorem ggX2_regionSize_X2_fail : GoodIn wsX2_regionSize wsX2_fail := goodIn_r _ [15, 1, 38, 39, 40, 41, 42, 43, 44, 45, 46, 47, 48, 49, 50, 51] (by decide +kernel) (by decide +kernel)
set_option maxRecDepth 20000 in
theorem gX2_regionSize_X2_fail : GoodIn wsX2_regionSize (wsV RX2 76 RX2 yX2_fail wsX2_fail) := goodIn_app (goodIn_of _ (by decide +kernel)) ggX2_regionSize_X2_fail
set_option maxRecDepth 20000 in
theorem ggX2_regionSize_X2_hang : GoodIn wsX2_regionSize wsX2_hang := goodIn_r _ [19, 20, 21, 22, 23, 24, 25, 6, 26, 2, 8, 27, 28, 29, 30, 31, 32, 33, 38, 39, 40, 41, 42, 43, 44, 45, 46, 47, 48, 49, 50, 51] (by decide +kernel) (by decide +kernel)
set_option maxRecDepth 20000 in
theorem gX2_regionSize_X2_hang : GoodIn wsX2_regionSize (wsV RX2 97 RX2 yX2_hang wsX2_hang) := goodIn_app (goodIn_of _ (by decide +kernel)) ggX2_regionSize_X2_hang
set_option maxRecDepth 20000 in
theorem ggX2_regionSize_X2_sizeOf : GoodIn wsX2_regionSize wsX2_sizeOf := goodIn_r _ [37, 22, 33, 21, 38, 39, 40, 41, 42, 43, 44, 45, 46, 47, 48, 49, 50, 51] (by decide +kernel) (by decide +kernel)
set_option maxRecDepth 20000 in
theorem gX2_regionSize_X2_sizeOf : GoodIn wsX2_regionSize (wsV RX2 100 RX2 yX2_sizeOf wsX2_sizeOf) := goodIn_app (goodIn_of _ (by decide +kernel)) ggX2_regionSize_X2_sizeOf
theorem dX2_regionSize_0 : decode cX2_regionSize 0 = .ok (.aload_n 0, 1) := by decide +kernel
theorem dX2_regionSize_1 : decode cX2_regionSize 1 = .ok (.iconst 0, 1) := by decide +kernel
theorem dX2_regionSize_2 : decode cX2_regionSize 2 = .ok (.putfield 43, 3) := by decide +kernel
theorem dX2_regionSize_5 : decode cX2_regionSize 5 = .ok (.aload_n 0, 1) := by decide +kernel
theorem dX2_regionSize_6 : decode cX2_regionSize 6 = .ok (.iload_n 1, 1) := by decide +kernel
theorem dX2_regionSize_7 : decode cX2_regionSize 7 = .ok (.iload_n 2, 1) := by decide +kernel
theorem dX2_regionSize_8 : decode cX2_regionSize 8 = .ok (.invokevirtual 79, 3) := by decide +kernel
theorem dX2_regionSize_11 : decode cX2_regionSize 11 = .ok (.ifCond .ne 9, 3) := by decide +kernel
theorem dX2_regionSize_14 : decode cX2_regionSize 14 = .ok (.aload_n 0, 1) := by decide +kernel
theorem dX2_regionSize_15 : decode cX2_regionSize 15 = .ok (.iconst 1, 1) := by decide +kernel
theorem dX2_regionSize_16 : decode cX2_regionSize 16 = .ok (.invokevirtual 76, 3) := by decide +kernel
theorem dX2_regionSize_19 : decode cX2_regionSize 19 = .ok (.ireturn, 1) := by decide +kernel
theorem dX2_regionSize_20 : decode cX2_regionSize 20 = .ok (.aload_n 0, 1) := by decide +kernel
theorem dX2_regionSize_21 : decode cX2_regionSize 21 = .ok (.invokevirtual 97, 3) := by decide +kernel
theorem dX2_regionSize_24 : decode cX2_regionSize 24 = .ok (.aload_n 0, 1) := by decide +kernel
theorem dX2_regionSize_25 : decode cX2_regionSize 25 = .ok (.aload_n 0, 1) := by decide +kernel
theorem dX2_regionSize_26 : decode cX2_regionSize 26 = .ok (.getfield 46, 3) := by decide +kernel
theorem dX2_regionSize_29 : decode cX2_regionSize 29 = .ok (.iload_n 2, 1) := by decide +kernel
theorem dX2_regionSize_30 : decode cX2_regionSize 30 = .ok (.imul, 1) := by decide +kernel
theorem dX2_regionSize_31 : decode cX2_regionSize 31 = .ok (.iload_n 1, 1) := by decide +kernel
theorem dX2_regionSize_32 : decode cX2_regionSize 32 = .ok (.iadd, 1) := by decide +kernel
theorem dX2_regionSize_33 : decode cX2_regionSize 33 = .ok (.invokevirtual 100, 3) := by decide +kernel
theorem dX2_regionSize_36 : decode cX2_regionSize 36 = .ok (.ireturn, 1) := by decide +kernel
theorem dX2_width_0 : decode cX2_width 0 = .ok (.aload_n 0, 1) := by decide +kernel
theorem dX2_width_1 : decode cX2_width 1 = .ok (.iconst 0, 1) := by decide +kernel
theorem dX2_width_2 : decode cX2_width 2 = .ok (.putfield 43, 3) := by decide +kernel
theorem dX2_width_5 : decode cX2_width 5 = .ok (.aload_n 0, 1) := by decide +kernel
theorem dX2_width_6 : decode cX2_width 6 = .ok (.getfield 46, 3) := by decide +kernel
theorem dX2_width_9 : decode cX2_width 9 = .ok (.ireturn, 1) := by decide +kernel
theorem dX2_height_0 : decode cX2_height 0 = .ok (.aload_n 0, 1) := by decide +kernel
theorem dX2_height_1 : decode cX2_height 1 = .ok (.iconst 0, 1) := by decide +kernel
theorem dX2_height_2 : decode cX2_height 2 = .ok (.putfield 43, 3) := by decide +kernel
theorem dX2_height_5 : decode cX2_height 5 = .ok (.aload_n 0, 1) := by decide +kernel
theorem dX2_height_6 : decode cX2_height 6 = .ok (.getfield 49, 3) := by decide +kernel
theorem dX2_height_9 : decode cX2_height 9 = .ok (.ireturn, 1) := by decide +kernel
theorem dX2_need_0 : decode cX2_need 0 = .ok (.aload_n 0, 1) := by decide +kernel
theorem dX2_need_1 : decode cX2_need 1 = .ok (.iconst 0, 1) := by decide +kernel
theorem dX2_need_2 : decode cX2_need 2 = .ok (.putfield 43, 3) := by decide +kernel
theorem dX2_need_5 : decode cX2_need 5 = .ok (.aload_n 0, 1) := by decide +kernel
theorem dX2_need_6 : decode cX2_need 6 = .ok (.getfield 7, 3) := by decide +kernel
theorem dX2_need_9 : decode cX2_need 9 = .ok (.ireturn, 1) := by decide +kernel
theorem dX2_waves_0 : decode cX2_waves 0 = .ok (.aload_n 0, 1) := by decide +kernel
theorem dX2_waves_1 : decode cX2_waves 1 = .ok (.iconst 0, 1) := by decide +kernel
theorem dX2_waves_2 : decode cX2_waves 2 = .ok (.putfield 43, 3) := by decide +kernel
theorem dX2_waves_5 : decode cX2_waves 5 = .ok (.aload_n 0, 1) := by decide +kernel
theorem dX2_waves_6 : decode cX2_waves 6 = .ok (.getfield 56, 3) := by decide +kernel
theorem dX2_waves_9 : decode cX2_waves 9 = .ok (.ireturn, 1) := by decide +kernel
set_option maxRecDepth 20000 in
theorem ggX2_stubbornOnes_X2_cells : GoodIn wsX2_stubbornOnes wsX2_cells := goodIn_r _ [6, 7, 8, 9, 10, 11, 12, 13, 14, 15, 16, 17, 18, 19, 20, 21, 22] (by decide +kernel) (by decide +kernel)
set_option maxRecDepth 20000 in
theorem gX2_stubbornOnes_X2_cells : GoodIn wsX2_stubbornOnes (wsV RX2 68 RX2 yX2_cells wsX2_cells) := goodIn_app (goodIn_of _ (by decide +kernel)) ggX2_stubbornOnes_X2_cells
theorem dX2_stubbornOnes_0 : decode cX2_stubbornOnes 0 = .ok (.iconst 0, 1) := by decide +kernel
theorem dX2_stubbornOnes_1 : decode cX2_stubbornOnes 1 = .ok (.istore_n 1, 1) := by decide +kernel
theorem dX2_stubbornOnes_2 : decode cX2_stubbornOnes 2 = .ok (.iconst 0, 1) := by decide +kernel
theorem dX2_stubbornOnes_3 : decode cX2_stubbornOnes 3 = .ok (.istore_n 2, 1) := by decide +kernel
theorem dX2_stubbornOnes_4 : decode cX2_stubbornOnes 4 = .ok (.iload_n 2, 1) := by decide +kernel
theorem dX2_stubbornOnes_5 : decode cX2_stubbornOnes 5 = .ok (.aload_n 0, 1) := by decide +kernel
theorem dX2_stubbornOnes_6 : decode cX2_stubbornOnes 6 = .ok (.invokevirtual 68, 3) := by decide +kernel
theorem dX2_stubbornOnes_9 : decode cX2_stubbornOnes 9 = .ok (.if_icmp .ge 26, 3) := by decide +kernel
theorem dX2_stubbornOnes_12 : decode cX2_stubbornOnes 12 = .ok (.iload_n 1, 1) := by decide +kernel
theorem dX2_stubbornOnes_13 : decode cX2_stubbornOnes 13 = .ok (.aload_n 0, 1) := by decide +kernel
theorem dX2_stubbornOnes_14 : decode cX2_stubbornOnes 14 = .ok (.getfield 20, 3) := by decide +kernel
theorem dX2_stubbornOnes_17 : decode cX2_stubbornOnes 17 = .ok (.iload_n 2, 1) := by decide +kernel
theorem dX2_stubbornOnes_18 : decode cX2_stubbornOnes 18 = .ok (.baload, 1) := by decide +kernel
theorem dX2_stubbornOnes_19 : decode cX2_stubbornOnes 19 = .ok (.ifCond .eq 7, 3) := by decide +kernel
theorem dX2_stubbornOnes_22 : decode cX2_stubbornOnes 22 = .ok (.iconst 1, 1) := by decide +kernel
theorem dX2_stubbornOnes_23 : decode cX2_stubbornOnes 23 = .ok (.goto 4, 3) := by decide +kernel
theorem dX2_stubbornOnes_26 : decode cX2_stubbornOnes 26 = .ok (.iconst 0, 1) := by decide +kernel
theorem dX2_stubbornOnes_27 : decode cX2_stubbornOnes 27 = .ok (.iadd, 1) := by decide +kernel
theorem dX2_stubbornOnes_28 : decode cX2_stubbornOnes 28 = .ok (.istore_n 1, 1) := by decide +kernel
theorem dX2_stubbornOnes_29 : decode cX2_stubbornOnes 29 = .ok (.iinc 2 1, 3) := by decide +kernel
theorem dX2_stubbornOnes_32 : decode cX2_stubbornOnes 32 = .ok (.goto (-28), 3) := by decide +kernel
theorem dX2_stubbornOnes_35 : decode cX2_stubbornOnes 35 = .ok (.iload_n 1, 1) := by decide +kernel
theorem dX2_stubbornOnes_36 : decode cX2_stubbornOnes 36 = .ok (.ireturn, 1) := by decide +kernel
set_option maxRecDepth 20000 in
theorem ggX2_stubbornCells_X2_stubbornOnes : GoodIn wsX2_stubbornCells wsX2_stubbornOnes := goodIn_r _ [6, 7, 8, 9, 10, 5, 11, 12, 13, 14, 15, 16, 17, 18, 19, 20, 21, 22, 23, 24, 25, 26, 27] (by decide +kernel) (by decide +kernel)
set_option maxRecDepth 20000 in
theorem gX2_stubbornCells_X2_stubbornOnes : GoodIn wsX2_stubbornCells (wsV RX2 103 RX2 yX2_stubbornOnes wsX2_stubbornOnes) := goodIn_app (goodIn_of _ (by decide +kernel)) ggX2_stubbornCells_X2_stubbornOnes
theorem dX2_stubbornCells_0 : decode cX2_stubbornCells 0 = .ok (.aload_n 0, 1) := by decide +kernel
theorem dX2_stubbornCells_1 : decode cX2_stubbornCells 1 = .ok (.iconst 0, 1) := by decide +kernel
theorem dX2_stubbornCells_2 : decode cX2_stubbornCells 2 = .ok (.putfield 43, 3) := by decide +kernel
theorem dX2_stubbornCells_5 : decode cX2_stubbornCells 5 = .ok (.aload_n 0, 1) := by decide +kernel
theorem dX2_stubbornCells_6 : decode cX2_stubbornCells 6 = .ok (.invokevirtual 103, 3) := by decide +kernel
theorem dX2_stubbornCells_9 : decode cX2_stubbornCells 9 = .ok (.ireturn, 1) := by decide +kernel
set_option maxRecDepth 20000 in
theorem ggX2_cellsOf_X2_isAny : GoodIn wsX2_cellsOf wsX2_isAny := goodIn_r _ [5, 6, 7, 4, 8] (by decide +kernel) (by decide +kernel)
set_option maxRecDepth 20000 in
theorem gX2_cellsOf_X2_isAny : GoodIn wsX2_cellsOf (va_wsS RX2 83 yX2_isAny wsX2_isAny) := goodIn_app (goodIn_of _ (by decide +kernel)) ggX2_cellsOf_X2_isAny
set_option maxRecDepth 20000 in
theorem ggX2_cellsOf_X2_cellsWith : GoodIn wsX2_cellsOf wsX2_cellsWith := goodIn_r _ [12, 13, 14, 15, 16, 4, 17, 18, 19, 24, 25, 26, 27, 28, 29, 30, 31, 32, 33, 34, 35, 36, 37] (by decide +kernel) (by decide +kernel)
set_option maxRecDepth 20000 in
theorem gX2_cellsOf_X2_cellsWith : GoodIn wsX2_cellsOf (wsV RX2 106 RX2 yX2_cellsWith wsX2_cellsWith) := goodIn_app (goodIn_of _ (by decide +kernel)) ggX2_cellsOf_X2_cellsWith
set_option maxRecDepth 20000 in
theorem ggX2_cellsOf_X2_fail : GoodIn wsX2_cellsOf wsX2_fail := goodIn_r _ [23, 1, 24, 25, 26, 27, 28, 29, 30, 31, 32, 33, 34, 35, 36, 37] (by decide +kernel) (by decide +kernel)
set_option maxRecDepth 20000 in
theorem gX2_cellsOf_X2_fail : GoodIn wsX2_cellsOf (wsV RX2 76 RX2 yX2_fail wsX2_fail) := goodIn_app (goodIn_of _ (by decide +kernel)) ggX2_cellsOf_X2_fail
theorem dX2_cellsOf_0 : decode cX2_cellsOf 0 = .ok (.aload_n 0, 1) := by decide +kernel
theorem dX2_cellsOf_1 : decode cX2_cellsOf 1 = .ok (.iconst 0, 1) := by decide +kernel
theorem dX2_cellsOf_2 : decode cX2_cellsOf 2 = .ok (.putfield 43, 3) := by decide +kernel
theorem dX2_cellsOf_5 : decode cX2_cellsOf 5 = .ok (.iload_n 1, 1) := by decide +kernel
theorem dX2_cellsOf_6 : decode cX2_cellsOf 6 = .ok (.invokestatic 83, 3) := by decide +kernel
theorem dX2_cellsOf_9 : decode cX2_cellsOf 9 = .ok (.ifCond .eq 11, 3) := by decide +kernel
theorem dX2_cellsOf_12 : decode cX2_cellsOf 12 = .ok (.aload_n 0, 1) := by decide +kernel
theorem dX2_cellsOf_13 : decode cX2_cellsOf 13 = .ok (.iload_n 1, 1) := by decide +kernel
theorem dX2_cellsOf_14 : decode cX2_cellsOf 14 = .ok (.invokevirtual 106, 3) := by decide +kernel
theorem dX2_cellsOf_17 : decode cX2_cellsOf 17 = .ok (.goto 8, 3) := by decide +kernel
theorem dX2_cellsOf_20 : decode cX2_cellsOf 20 = .ok (.aload_n 0, 1) := by decide +kernel
theorem dX2_cellsOf_21 : decode cX2_cellsOf 21 = .ok (.iconst 1, 1) := by decide +kernel
theorem dX2_cellsOf_22 : decode cX2_cellsOf 22 = .ok (.invokevirtual 76, 3) := by decide +kernel
theorem dX2_cellsOf_25 : decode cX2_cellsOf 25 = .ok (.ireturn, 1) := by decide +kernel
set_option maxRecDepth 20000 in
theorem ggX2_regions_X2_cells : GoodIn wsX2_regions wsX2_cells := goodIn_r _ [11, 12, 13, 19, 20, 21, 22, 23, 24, 25, 26, 27, 28, 29, 30, 31, 32] (by decide +kernel) (by decide +kernel)
set_option maxRecDepth 20000 in
theorem gX2_regions_X2_cells : GoodIn wsX2_regions (wsV RX2 68 RX2 yX2_cells wsX2_cells) := goodIn_app (goodIn_of _ (by decide +kernel)) ggX2_regions_X2_cells
set_option maxRecDepth 20000 in
theorem ggX2_regions_X2_sizeOf : GoodIn wsX2_regions wsX2_sizeOf := goodIn_r _ [17, 1, 18, 6, 19, 20, 21, 22, 23, 24, 25, 26, 27, 28, 29, 30, 31, 32] (by decide +kernel) (by decide +kernel)
set_option maxRecDepth 20000 in
theorem gX2_regions_X2_sizeOf : GoodIn wsX2_regions (wsV RX2 100 RX2 yX2_sizeOf wsX2_sizeOf) := goodIn_app (goodIn_of _ (by decide +kernel)) ggX2_regions_X2_sizeOf
theorem dX2_regions_0 : decode cX2_regions 0 = .ok (.iconst 0, 1) := by decide +kernel
theorem dX2_regions_1 : decode cX2_regions 1 = .ok (.istore_n 3, 1) := by decide +kernel
theorem dX2_regions_2 : decode cX2_regions 2 = .ok (.iconst 0, 1) := by decide +kernel
theorem dX2_regions_3 : decode cX2_regions 3 = .ok (.istore 4, 2) := by decide +kernel
theorem dX2_regions_5 : decode cX2_regions 5 = .ok (.iconst 0, 1) := by decide +kernel
theorem dX2_regions_6 : decode cX2_regions 6 = .ok (.istore 5, 2) := by decide +kernel
theorem dX2_regions_8 : decode cX2_regions 8 = .ok (.iconst 0, 1) := by decide +kernel
theorem dX2_regions_9 : decode cX2_regions 9 = .ok (.istore 6, 2) := by decide +kernel
theorem dX2_regions_11 : decode cX2_regions 11 = .ok (.iload 6, 2) := by decide +kernel
theorem dX2_regions_13 : decode cX2_regions 13 = .ok (.aload_n 0, 1) := by decide +kernel
theorem dX2_regions_14 : decode cX2_regions 14 = .ok (.invokevirtual 68, 3) := by decide +kernel
theorem dX2_regions_17 : decode cX2_regions 17 = .ok (.if_icmp .ge 63, 3) := by decide +kernel
theorem dX2_regions_20 : decode cX2_regions 20 = .ok (.aload_n 0, 1) := by decide +kernel
theorem dX2_regions_21 : decode cX2_regions 21 = .ok (.getfield 13, 3) := by decide +kernel
theorem dX2_regions_24 : decode cX2_regions 24 = .ok (.iload 6, 2) := by decide +kernel
theorem dX2_regions_26 : decode cX2_regions 26 = .ok (.iaload, 1) := by decide +kernel
theorem dX2_regions_27 : decode cX2_regions 27 = .ok (.iload_n 1, 1) := by decide +kernel
theorem dX2_regions_28 : decode cX2_regions 28 = .ok (.if_icmp .eq 6, 3) := by decide +kernel
theorem dX2_regions_31 : decode cX2_regions 31 = .ok (.goto 43, 3) := by decide +kernel
theorem dX2_regions_34 : decode cX2_regions 34 = .ok (.iload 4, 2) := by decide +kernel
theorem dX2_regions_36 : decode cX2_regions 36 = .ok (.aload_n 0, 1) := by decide +kernel
theorem dX2_regions_37 : decode cX2_regions 37 = .ok (.iload 6, 2) := by decide +kernel
theorem dX2_regions_39 : decode cX2_regions 39 = .ok (.invokevirtual 100, 3) := by decide +kernel
theorem dX2_regions_42 : decode cX2_regions 42 = .ok (.invokestatic 109, 3) := by decide +kernel
theorem dX2_regions_45 : decode cX2_regions 45 = .ok (.istore 4, 2) := by decide +kernel
theorem dX2_regions_47 : decode cX2_regions 47 = .ok (.aload_n 0, 1) := by decide +kernel
theorem dX2_regions_48 : decode cX2_regions 48 = .ok (.getfield 30, 3) := by decide +kernel
theorem dX2_regions_51 : decode cX2_regions 51 = .ok (.iload 6, 2) := by decide +kernel
theorem dX2_regions_53 : decode cX2_regions 53 = .ok (.iaload, 1) := by decide +kernel
theorem dX2_regions_54 : decode cX2_regions 54 = .ok (.iload 5, 2) := by decide +kernel
theorem dX2_regions_56 : decode cX2_regions 56 = .ok (.if_icmp .gt 6, 3) := by decide +kernel
theorem dX2_regions_59 : decode cX2_regions 59 = .ok (.goto 15, 3) := by decide +kernel
theorem dX2_regions_62 : decode cX2_regions 62 = .ok (.aload_n 0, 1) := by decide +kernel
theorem dX2_regions_63 : decode cX2_regions 63 = .ok (.getfield 30, 3) := by decide +kernel
theorem dX2_regions_66 : decode cX2_regions 66 = .ok (.iload 6, 2) := by decide +kernel
theorem dX2_regions_68 : decode cX2_regions 68 = .ok (.iaload, 1) := by decide +kernel
theorem dX2_regions_69 : decode cX2_regions 69 = .ok (.istore 5, 2) := by decide +kernel
theorem dX2_regions_71 : decode cX2_regions 71 = .ok (.iinc 3 1, 3) := by decide +kernel
theorem dX2_regions_74 : decode cX2_regions 74 = .ok (.iinc 6 1, 3) := by decide +kernel
theorem dX2_regions_77 : decode cX2_regions 77 = .ok (.goto (-66), 3) := by decide +kernel
theorem dX2_regions_80 : decode cX2_regions 80 = .ok (.iload_n 2, 1) := by decide +kernel
theorem dX2_regions_81 : decode cX2_regions 81 = .ok (.ifCond .eq 8, 3) := by decide +kernel
theorem dX2_regions_84 : decode cX2_regions 84 = .ok (.iload 4, 2) := by decide +kernel
theorem dX2_regions_86 : decode cX2_regions 86 = .ok (.goto 4, 3) := by decide +kernel
theorem dX2_regions_89 : decode cX2_regions 89 = .ok (.iload_n 3, 1) := by decide +kernel
theorem dX2_regions_90 : decode cX2_regions 90 = .ok (.ireturn, 1) := by decide +kernel
set_option maxRecDepth 20000 in
theorem ggX2_regionsOf_X2_isColour : GoodIn wsX2_regionsOf wsX2_isColour := goodIn_r _ [5, 6, 7, 4, 8] (by decide +kernel) (by decide +kernel)
set_option maxRecDepth 20000 in
theorem gX2_regionsOf_X2_isColour : GoodIn wsX2_regionsOf (va_wsS RX2 114 yX2_isColour wsX2_isColour) := goodIn_app (goodIn_of _ (by decide +kernel)) ggX2_regionsOf_X2_isColour
set_option maxRecDepth 20000 in
theorem ggX2_regionsOf_X2_fail : GoodIn wsX2_regionsOf wsX2_fail := goodIn_r _ [12, 1, 45, 46, 47, 48, 49, 50, 51, 52, 53, 54, 55, 56, 57, 58] (by decide +kernel) (by decide +kernel)
set_option maxRecDepth 20000 in
theorem gX2_regionsOf_X2_fail : GoodIn wsX2_regionsOf (wsV RX2 76 RX2 yX2_fail wsX2_fail) := goodIn_app (goodIn_of _ (by decide +kernel)) ggX2_regionsOf_X2_fail
set_option maxRecDepth 20000 in
theorem ggX2_regionsOf_X2_hang : GoodIn wsX2_regionsOf wsX2_hang := goodIn_r _ [16, 17, 18, 19, 20, 21, 22, 4, 23, 24, 25, 26, 27, 28, 29, 30, 31, 32, 45, 46, 47, 48, 49, 50, 51, 52, 53, 54, 55, 56, 57, 58] (by decide +kernel) (by decide +kernel)
set_option maxRecDepth 20000 in
theorem gX2_regionsOf_X2_hang : GoodIn wsX2_regionsOf (wsV RX2 97 RX2 yX2_hang wsX2_hang) := goodIn_app (goodIn_of _ (by decide +kernel)) ggX2_regionsOf_X2_hang
set_option maxRecDepth 20000 in
theorem ggX2_regionsOf_X2_regions : GoodIn wsX2_regionsOf wsX2_regions := goodIn_r _ [36, 19, 37, 38, 39, 40, 18, 20, 21, 22, 4, 23, 24, 25, 41, 42, 43, 44, 32, 45, 46, 47, 48, 49, 50, 51, 52, 53, 54, 55, 56, 57, 58] (by decide +kernel) (by decide +kernel)
set_option maxRecDepth 20000 in
theorem gX2_regionsOf_X2_regions : GoodIn wsX2_regionsOf (wsV RX2 117 RX2 yX2_regions wsX2_regions) := goodIn_app (goodIn_of _ (by decide +kernel)) ggX2_regionsOf_X2_regions
theorem dX2_regionsOf_0 : decode cX2_regionsOf 0 = .ok (.aload_n 0, 1) := by decide +kernel
theorem dX2_regionsOf_1 : decode cX2_regionsOf 1 = .ok (.iconst 0, 1) := by decide +kernel
theorem dX2_regionsOf_2 : decode cX2_regionsOf 2 = .ok (.putfield 43, 3) := by decide +kernel
theorem dX2_regionsOf_5 : decode cX2_regionsOf 5 = .ok (.iload_n 1, 1) := by decide +kernel
theorem dX2_regionsOf_6 : decode cX2_regionsOf 6 = .ok (.invokestatic 114, 3) := by decide +kernel
theorem dX2_regionsOf_9 : decode cX2_regionsOf 9 = .ok (.ifCond .ne 9, 3) := by decide +kernel
theorem dX2_regionsOf_12 : decode cX2_regionsOf 12 = .ok (.aload_n 0, 1) := by decide +kernel
theorem dX2_regionsOf_13 : decode cX2_regionsOf 13 = .ok (.iconst 1, 1) := by decide +kernel
theorem dX2_regionsOf_14 : decode cX2_regionsOf 14 = .ok (.invokevirtual 76, 3) := by decide +kernel
theorem dX2_regionsOf_17 : decode cX2_regionsOf 17 = .ok (.ireturn, 1) := by decide +kernel
theorem dX2_regionsOf_18 : decode cX2_regionsOf 18 = .ok (.aload_n 0, 1) := by decide +kernel
theorem dX2_regionsOf_19 : decode cX2_regionsOf 19 = .ok (.invokevirtual 97, 3) := by decide +kernel
theorem dX2_regionsOf_22 : decode cX2_regionsOf 22 = .ok (.aload_n 0, 1) := by decide +kernel
theorem dX2_regionsOf_23 : decode cX2_regionsOf 23 = .ok (.iload_n 1, 1) := by decide +kernel
theorem dX2_regionsOf_24 : decode cX2_regionsOf 24 = .ok (.iconst 0, 1) := by decide +kernel
theorem dX2_regionsOf_25 : decode cX2_regionsOf 25 = .ok (.invokevirtual 117, 3) := by decide +kernel
theorem dX2_regionsOf_28 : decode cX2_regionsOf 28 = .ok (.ireturn, 1) := by decide +kernel
set_option maxRecDepth 20000 in
theorem ggX2_greatestRegion_X2_isColour : GoodIn wsX2_greatestRegion wsX2_isColour := goodIn_r _ [5, 6, 7, 4, 8] (by decide +kernel) (by decide +kernel)
set_option maxRecDepth 20000 in
theorem gX2_greatestRegion_X2_isColour : GoodIn wsX2_greatestRegion (va_wsS RX2 114 yX2_isColour wsX2_isColour) := goodIn_app (goodIn_of _ (by decide +kernel)) ggX2_greatestRegion_X2_isColour
set_option maxRecDepth 20000 in
theorem ggX2_greatestRegion_X2_fail : GoodIn wsX2_greatestRegion wsX2_fail := goodIn_r _ [12, 1, 45, 46, 47, 48, 49, 50, 51, 52, 53, 54, 55, 56, 57, 58] (by decide +kernel) (by decide +kernel)
set_option maxRecDepth 20000 in
theorem gX2_greatestRegion_X2_fail : GoodIn wsX2_greatestRegion (wsV RX2 76 RX2 yX2_fail wsX2_fail) := goodIn_app (goodIn_of _ (by decide +kernel)) ggX2_greatestRegion_X2_fail
set_option maxRecDepth 20000 in
theorem ggX2_greatestRegion_X2_hang : GoodIn wsX2_greatestRegion wsX2_hang := goodIn_r _ [16, 17, 18, 19, 20, 21, 22, 4, 23, 24, 25, 26, 27, 28, 29, 30, 31, 32, 45, 46, 47, 48, 49, 50, 51, 52, 53, 54, 55, 56, 57, 58] (by decide +kernel) (by decide +kernel)
set_option maxRecDepth 20000 in
theorem gX2_greatestRegion_X2_hang : GoodIn wsX2_greatestRegion (wsV RX2 97 RX2 yX2_hang wsX2_hang) := goodIn_app (goodIn_of _ (by decide +kernel)) ggX2_greatestRegion_X2_hang
set_option maxRecDepth 20000 in
theorem ggX2_greatestRegion_X2_regions : GoodIn wsX2_greatestRegion wsX2_regions := goodIn_r _ [36, 19, 37, 38, 39, 40, 18, 20, 21, 22, 4, 23, 24, 25, 41, 42, 43, 44, 32, 45, 46, 47, 48, 49, 50, 51, 52, 53, 54, 55, 56, 57, 58] (by decide +kernel) (by decide +kernel)
set_option maxRecDepth 20000 in
theorem gX2_greatestRegion_X2_regions : GoodIn wsX2_greatestRegion (wsV RX2 117 RX2 yX2_regions wsX2_regions) := goodIn_app (goodIn_of _ (by decide +kernel)) ggX2_greatestRegion_X2_regions
theorem dX2_greatestRegion_0 : decode cX2_greatestRegion 0 = .ok (.aload_n 0, 1) := by decide +kernel
theorem dX2_greatestRegion_1 : decode cX2_greatestRegion 1 = .ok (.iconst 0, 1) := by decide +kernel
theorem dX2_greatestRegion_2 : decode cX2_greatestRegion 2 = .ok (.putfield 43, 3) := by decide +kernel
theorem dX2_greatestRegion_5 : decode cX2_greatestRegion 5 = .ok (.iload_n 1, 1) := by decide +kernel
theorem dX2_greatestRegion_6 : decode cX2_greatestRegion 6 = .ok (.invokestatic 114, 3) := by decide +kernel
theorem dX2_greatestRegion_9 : decode cX2_greatestRegion 9 = .ok (.ifCond .ne 9, 3) := by decide +kernel
theorem dX2_greatestRegion_12 : decode cX2_greatestRegion 12 = .ok (.aload_n 0, 1) := by decide +kernel
theorem dX2_greatestRegion_13 : decode cX2_greatestRegion 13 = .ok (.iconst 1, 1) := by decide +kernel
theorem dX2_greatestRegion_14 : decode cX2_greatestRegion 14 = .ok (.invokevirtual 76, 3) := by decide +kernel
theorem dX2_greatestRegion_17 : decode cX2_greatestRegion 17 = .ok (.ireturn, 1) := by decide +kernel
theorem dX2_greatestRegion_18 : decode cX2_greatestRegion 18 = .ok (.aload_n 0, 1) := by decide +kernel
theorem dX2_greatestRegion_19 : decode cX2_greatestRegion 19 = .ok (.invokevirtual 97, 3) := by decide +kernel
theorem dX2_greatestRegion_22 : decode cX2_greatestRegion 22 = .ok (.aload_n 0, 1) := by decide +kernel
theorem dX2_greatestRegion_23 : decode cX2_greatestRegion 23 = .ok (.iload_n 1, 1) := by decide +kernel
theorem dX2_greatestRegion_24 : decode cX2_greatestRegion 24 = .ok (.iconst 1, 1) := by decide +kernel
theorem dX2_greatestRegion_25 : decode cX2_greatestRegion 25 = .ok (.invokevirtual 117, 3) := by decide +kernel
theorem dX2_greatestRegion_28 : decode cX2_greatestRegion 28 = .ok (.ireturn, 1) := by decide +kernel
set_option maxRecDepth 20000 in
theorem ggX2_between_X2_cells : GoodIn wsX2_between wsX2_cells := goodIn_r _ [7, 8, 9, 10, 11, 12, 13, 14, 15, 16, 17, 18, 19, 20, 21, 22, 23] (by decide +kernel) (by decide +kernel)
set_option maxRecDepth 20000 in
theorem gX2_between_X2_cells : GoodIn wsX2_between (wsV RX2 68 RX2 yX2_cells wsX2_cells) := goodIn_app (goodIn_of _ (by decide +kernel)) ggX2_between_X2_cells
theorem dX2_between_0 : decode cX2_between 0 = .ok (.iconst 0, 1) := by decide +kernel
theorem dX2_between_1 : decode cX2_between 1 = .ok (.istore_n 1, 1) := by decide +kernel
theorem dX2_between_2 : decode cX2_between 2 = .ok (.iconst 0, 1) := by decide +kernel
theorem dX2_between_3 : decode cX2_between 3 = .ok (.istore_n 2, 1) := by decide +kernel
theorem dX2_between_4 : decode cX2_between 4 = .ok (.iload_n 2, 1) := by decide +kernel
theorem dX2_between_5 : decode cX2_between 5 = .ok (.aload_n 0, 1) := by decide +kernel
theorem dX2_between_6 : decode cX2_between 6 = .ok (.invokevirtual 68, 3) := by decide +kernel
theorem dX2_between_9 : decode cX2_between 9 = .ok (.if_icmp .ge 83, 3) := by decide +kernel
theorem dX2_between_12 : decode cX2_between 12 = .ok (.iconst 1, 1) := by decide +kernel
theorem dX2_between_13 : decode cX2_between 13 = .ok (.istore_n 3, 1) := by decide +kernel
theorem dX2_between_14 : decode cX2_between 14 = .ok (.iload_n 3, 1) := by decide +kernel
theorem dX2_between_15 : decode cX2_between 15 = .ok (.iconst 4, 1) := by decide +kernel
theorem dX2_between_16 : decode cX2_between 16 = .ok (.if_icmp .ge 70, 3) := by decide +kernel
theorem dX2_between_19 : decode cX2_between 19 = .ok (.aload_n 0, 1) := by decide +kernel
theorem dX2_between_20 : decode cX2_between 20 = .ok (.getfield 24, 3) := by decide +kernel
theorem dX2_between_23 : decode cX2_between 23 = .ok (.iconst 4, 1) := by decide +kernel
theorem dX2_between_24 : decode cX2_between 24 = .ok (.iload_n 2, 1) := by decide +kernel
theorem dX2_between_25 : decode cX2_between 25 = .ok (.imul, 1) := by decide +kernel
theorem dX2_between_26 : decode cX2_between 26 = .ok (.iload_n 3, 1) := by decide +kernel
theorem dX2_between_27 : decode cX2_between 27 = .ok (.iadd, 1) := by decide +kernel
theorem dX2_between_28 : decode cX2_between 28 = .ok (.iaload, 1) := by decide +kernel
theorem dX2_between_29 : decode cX2_between 29 = .ok (.istore 4, 2) := by decide +kernel
theorem dX2_between_31 : decode cX2_between 31 = .ok (.iload_n 1, 1) := by decide +kernel
theorem dX2_between_32 : decode cX2_between 32 = .ok (.iload 4, 2) := by decide +kernel
theorem dX2_between_34 : decode cX2_between 34 = .ok (.iconst (-1), 1) := by decide +kernel
theorem dX2_between_35 : decode cX2_between 35 = .ok (.if_icmp .eq 42, 3) := by decide +kernel
theorem dX2_between_38 : decode cX2_between 38 = .ok (.aload_n 0, 1) := by decide +kernel
theorem dX2_between_39 : decode cX2_between 39 = .ok (.getfield 13, 3) := by decide +kernel
theorem dX2_between_42 : decode cX2_between 42 = .ok (.iload_n 2, 1) := by decide +kernel
theorem dX2_between_43 : decode cX2_between 43 = .ok (.iaload, 1) := by decide +kernel
theorem dX2_between_44 : decode cX2_between 44 = .ok (.ifCond .eq 33, 3) := by decide +kernel
theorem dX2_between_47 : decode cX2_between 47 = .ok (.aload_n 0, 1) := by decide +kernel
theorem dX2_between_48 : decode cX2_between 48 = .ok (.getfield 13, 3) := by decide +kernel
theorem dX2_between_51 : decode cX2_between 51 = .ok (.iload 4, 2) := by decide +kernel
theorem dX2_between_53 : decode cX2_between 53 = .ok (.iaload, 1) := by decide +kernel
theorem dX2_between_54 : decode cX2_between 54 = .ok (.ifCond .eq 23, 3) := by decide +kernel
theorem dX2_between_57 : decode cX2_between 57 = .ok (.aload_n 0, 1) := by decide +kernel
theorem dX2_between_58 : decode cX2_between 58 = .ok (.getfield 13, 3) := by decide +kernel
theorem dX2_between_61 : decode cX2_between 61 = .ok (.iload_n 2, 1) := by decide +kernel
theorem dX2_between_62 : decode cX2_between 62 = .ok (.iaload, 1) := by decide +kernel
theorem dX2_between_63 : decode cX2_between 63 = .ok (.aload_n 0, 1) := by decide +kernel
theorem dX2_between_64 : decode cX2_between 64 = .ok (.getfield 13, 3) := by decide +kernel
theorem dX2_between_67 : decode cX2_between 67 = .ok (.iload 4, 2) := by decide +kernel
theorem dX2_between_69 : decode cX2_between 69 = .ok (.iaload, 1) := by decide +kernel
theorem dX2_between_70 : decode cX2_between 70 = .ok (.if_icmp .eq 7, 3) := by decide +kernel
theorem dX2_between_73 : decode cX2_between 73 = .ok (.iconst 1, 1) := by decide +kernel
theorem dX2_between_74 : decode cX2_between 74 = .ok (.goto 4, 3) := by decide +kernel
theorem dX2_between_77 : decode cX2_between 77 = .ok (.iconst 0, 1) := by decide +kernel
theorem dX2_between_78 : decode cX2_between 78 = .ok (.iadd, 1) := by decide +kernel
theorem dX2_between_79 : decode cX2_between 79 = .ok (.istore_n 1, 1) := by decide +kernel
theorem dX2_between_80 : decode cX2_between 80 = .ok (.iinc 3 2, 3) := by decide +kernel
theorem dX2_between_83 : decode cX2_between 83 = .ok (.goto (-69), 3) := by decide +kernel
theorem dX2_between_86 : decode cX2_between 86 = .ok (.iinc 2 1, 3) := by decide +kernel
theorem dX2_between_89 : decode cX2_between 89 = .ok (.goto (-85), 3) := by decide +kernel
theorem dX2_between_92 : decode cX2_between 92 = .ok (.iload_n 1, 1) := by decide +kernel
theorem dX2_between_93 : decode cX2_between 93 = .ok (.ireturn, 1) := by decide +kernel
set_option maxRecDepth 20000 in
theorem ggX2_borders_X2_between : GoodIn wsX2_borders wsX2_between := goodIn_r _ [6, 7, 8, 9, 10, 11, 5, 12, 13, 14, 15, 16, 17, 18, 19, 20, 21, 22, 23, 24, 25, 26, 27, 28] (by decide +kernel) (by decide +kernel)
set_option maxRecDepth 20000 in
theorem gX2_borders_X2_between : GoodIn wsX2_borders (wsV RX2 120 RX2 yX2_between wsX2_between) := goodIn_app (goodIn_of _ (by decide +kernel)) ggX2_borders_X2_between
theorem dX2_borders_0 : decode cX2_borders 0 = .ok (.aload_n 0, 1) := by decide +kernel
theorem dX2_borders_1 : decode cX2_borders 1 = .ok (.iconst 0, 1) := by decide +kernel
theorem dX2_borders_2 : decode cX2_borders 2 = .ok (.putfield 43, 3) := by decide +kernel
theorem dX2_borders_5 : decode cX2_borders 5 = .ok (.aload_n 0, 1) := by decide +kernel
theorem dX2_borders_6 : decode cX2_borders 6 = .ok (.invokevirtual 120, 3) := by decide +kernel
theorem dX2_borders_9 : decode cX2_borders 9 = .ok (.ireturn, 1) := by decide +kernel
set_option maxRecDepth 20000 in
theorem ggX2_first_X2_cellsWith : GoodIn wsX2_first wsX2_cellsWith := goodIn_r _ [5, 6, 7, 8, 9, 4, 10, 11, 12, 13, 14, 15, 16, 17, 18, 19, 20, 21, 22, 23, 24, 25, 26] (by decide +kernel) (by decide +kernel)
set_option maxRecDepth 20000 in
theorem gX2_first_X2_cellsWith : GoodIn wsX2_first (wsV RX2 106 RX2 yX2_cellsWith wsX2_cellsWith) := goodIn_app (goodIn_of _ (by decide +kernel)) ggX2_first_X2_cellsWith
theorem dX2_first_0 : decode cX2_first 0 = .ok (.iconst 0, 1) := by decide +kernel
theorem dX2_first_1 : decode cX2_first 1 = .ok (.istore_n 1, 1) := by decide +kernel
theorem dX2_first_2 : decode cX2_first 2 = .ok (.iconst 0, 1) := by decide +kernel
theorem dX2_first_3 : decode cX2_first 3 = .ok (.istore_n 2, 1) := by decide +kernel
theorem dX2_first_4 : decode cX2_first 4 = .ok (.iconst 1, 1) := by decide +kernel
theorem dX2_first_5 : decode cX2_first 5 = .ok (.istore_n 3, 1) := by decide +kernel
theorem dX2_first_6 : decode cX2_first 6 = .ok (.iload_n 3, 1) := by decide +kernel
theorem dX2_first_7 : decode cX2_first 7 = .ok (.iconst 4, 1) := by decide +kernel
theorem dX2_first_8 : decode cX2_first 8 = .ok (.if_icmp .gt 30, 3) := by decide +kernel
theorem dX2_first_11 : decode cX2_first 11 = .ok (.aload_n 0, 1) := by decide +kernel
theorem dX2_first_12 : decode cX2_first 12 = .ok (.iload_n 3, 1) := by decide +kernel
theorem dX2_first_13 : decode cX2_first 13 = .ok (.invokevirtual 106, 3) := by decide +kernel
theorem dX2_first_16 : decode cX2_first 16 = .ok (.istore 4, 2) := by decide +kernel
theorem dX2_first_18 : decode cX2_first 18 = .ok (.iload 4, 2) := by decide +kernel
theorem dX2_first_20 : decode cX2_first 20 = .ok (.iload_n 2, 1) := by decide +kernel
theorem dX2_first_21 : decode cX2_first 21 = .ok (.if_icmp .gt 6, 3) := by decide +kernel
theorem dX2_first_24 : decode cX2_first 24 = .ok (.goto 8, 3) := by decide +kernel
theorem dX2_first_27 : decode cX2_first 27 = .ok (.iload_n 3, 1) := by decide +kernel
theorem dX2_first_28 : decode cX2_first 28 = .ok (.istore_n 1, 1) := by decide +kernel
theorem dX2_first_29 : decode cX2_first 29 = .ok (.iload 4, 2) := by decide +kernel
theorem dX2_first_31 : decode cX2_first 31 = .ok (.istore_n 2, 1) := by decide +kernel
theorem dX2_first_32 : decode cX2_first 32 = .ok (.iinc 3 1, 3) := by decide +kernel
theorem dX2_first_35 : decode cX2_first 35 = .ok (.goto (-29), 3) := by decide +kernel
theorem dX2_first_38 : decode cX2_first 38 = .ok (.iload_n 1, 1) := by decide +kernel
theorem dX2_first_39 : decode cX2_first 39 = .ok (.ireturn, 1) := by decide +kernel
set_option maxRecDepth 20000 in
theorem ggX2_leader_X2_first : GoodIn wsX2_leader wsX2_first := goodIn_r _ [6, 7, 8, 9, 5, 10, 11, 12, 13, 14, 15, 16, 17, 18, 19, 20, 21, 22, 23, 24, 25, 26, 27, 28, 29, 30, 31] (by decide +kernel) (by decide +kernel)
set_option maxRecDepth 20000 in
theorem gX2_leader_X2_first : GoodIn wsX2_leader (wsV RX2 123 RX2 yX2_first wsX2_first) := goodIn_app (goodIn_of _ (by decide +kernel)) ggX2_leader_X2_first
theorem dX2_leader_0 : decode cX2_leader 0 = .ok (.aload_n 0, 1) := by decide +kernel
theorem dX2_leader_1 : decode cX2_leader 1 = .ok (.iconst 0, 1) := by decide +kernel
theorem dX2_leader_2 : decode cX2_leader 2 = .ok (.putfield 43, 3) := by decide +kernel
theorem dX2_leader_5 : decode cX2_leader 5 = .ok (.aload_n 0, 1) := by decide +kernel
theorem dX2_leader_6 : decode cX2_leader 6 = .ok (.invokevirtual 123, 3) := by decide +kernel
theorem dX2_leader_9 : decode cX2_leader 9 = .ok (.ireturn, 1) := by decide +kernel
set_option maxRecDepth 20000 in
theorem ggX2_still_X2_cells : GoodIn wsX2_still wsX2_cells := goodIn_r _ [6, 7, 8, 20, 21, 22, 23, 24, 25, 26, 27, 28, 29, 30, 31, 32, 33] (by decide +kernel) (by decide +kernel)
set_option maxRecDepth 20000 in
theorem gX2_still_X2_cells : GoodIn wsX2_still (wsV RX2 68 RX2 yX2_cells wsX2_cells) := goodIn_app (goodIn_of _ (by decide +kernel)) ggX2_still_X2_cells
set_option maxRecDepth 20000 in
theorem ggX2_still_X2_nextOf : GoodIn wsX2_still wsX2_nextOf := goodIn_r _ [12, 13, 1, 14, 15, 16, 17, 5, 18, 19, 20, 21, 22, 23, 24, 25, 26, 27, 28, 29, 30, 31, 32, 33] (by decide +kernel) (by decide +kernel)
set_option maxRecDepth 20000 in
theorem gX2_still_X2_nextOf : GoodIn wsX2_still (wsV RX2 72 RX2 yX2_nextOf wsX2_nextOf) := goodIn_app (goodIn_of _ (by decide +kernel)) ggX2_still_X2_nextOf
theorem dX2_still_0 : decode cX2_still 0 = .ok (.iconst 0, 1) := by decide +kernel
theorem dX2_still_1 : decode cX2_still 1 = .ok (.istore_n 1, 1) := by decide +kernel
theorem dX2_still_2 : decode cX2_still 2 = .ok (.iload_n 1, 1) := by decide +kernel
theorem dX2_still_3 : decode cX2_still 3 = .ok (.aload_n 0, 1) := by decide +kernel
theorem dX2_still_4 : decode cX2_still 4 = .ok (.invokevirtual 68, 3) := by decide +kernel
theorem dX2_still_7 : decode cX2_still 7 = .ok (.if_icmp .ge 25, 3) := by decide +kernel
theorem dX2_still_10 : decode cX2_still 10 = .ok (.aload_n 0, 1) := by decide +kernel
theorem dX2_still_11 : decode cX2_still 11 = .ok (.iload_n 1, 1) := by decide +kernel
theorem dX2_still_12 : decode cX2_still 12 = .ok (.invokevirtual 72, 3) := by decide +kernel
theorem dX2_still_15 : decode cX2_still 15 = .ok (.aload_n 0, 1) := by decide +kernel
theorem dX2_still_16 : decode cX2_still 16 = .ok (.getfield 13, 3) := by decide +kernel
theorem dX2_still_19 : decode cX2_still 19 = .ok (.iload_n 1, 1) := by decide +kernel
theorem dX2_still_20 : decode cX2_still 20 = .ok (.iaload, 1) := by decide +kernel
theorem dX2_still_21 : decode cX2_still 21 = .ok (.if_icmp .eq 5, 3) := by decide +kernel
theorem dX2_still_24 : decode cX2_still 24 = .ok (.iconst 0, 1) := by decide +kernel
theorem dX2_still_25 : decode cX2_still 25 = .ok (.ireturn, 1) := by decide +kernel
theorem dX2_still_26 : decode cX2_still 26 = .ok (.iinc 1 1, 3) := by decide +kernel
theorem dX2_still_29 : decode cX2_still 29 = .ok (.goto (-27), 3) := by decide +kernel
theorem dX2_still_32 : decode cX2_still 32 = .ok (.iconst 1, 1) := by decide +kernel
theorem dX2_still_33 : decode cX2_still 33 = .ok (.ireturn, 1) := by decide +kernel
set_option maxRecDepth 20000 in
theorem ggX2_isStill_X2_still : GoodIn wsX2_isStill wsX2_still := goodIn_r _ [6, 7, 8, 9, 10, 5, 11, 12, 13, 14, 15, 16, 17, 18, 19, 20, 21, 22, 23, 24, 25, 26, 27, 28, 29, 30, 31, 32, 33, 34, 35, 36, 37, 38] (by decide +kernel) (by decide +kernel)
set_option maxRecDepth 20000 in
theorem gX2_isStill_X2_still : GoodIn wsX2_isStill (wsV RX2 126 RX2 yX2_still wsX2_still) := goodIn_app (goodIn_of _ (by decide +kernel)) ggX2_isStill_X2_still
theorem dX2_isStill_0 : decode cX2_isStill 0 = .ok (.aload_n 0, 1) := by decide +kernel
theorem dX2_isStill_1 : decode cX2_isStill 1 = .ok (.iconst 0, 1) := by decide +kernel
theorem dX2_isStill_2 : decode cX2_isStill 2 = .ok (.putfield 43, 3) := by decide +kernel
theorem dX2_isStill_5 : decode cX2_isStill 5 = .ok (.aload_n 0, 1) := by decide +kernel
theorem dX2_isStill_6 : decode cX2_isStill 6 = .ok (.invokevirtual 126, 3) := by decide +kernel
theorem dX2_isStill_9 : decode cX2_isStill 9 = .ok (.ireturn, 1) := by decide +kernel
set_option maxRecDepth 20000 in
theorem ggX2_all_X2_cellsWith : GoodIn wsX2_all wsX2_cellsWith := goodIn_r _ [6, 1, 7, 8, 9, 5, 10, 11, 12, 13, 14, 15, 16, 17, 18, 19, 20, 21, 22, 23, 24, 25, 26] (by decide +kernel) (by decide +kernel)
set_option maxRecDepth 20000 in
theorem gX2_all_X2_cellsWith : GoodIn wsX2_all (wsV RX2 106 RX2 yX2_cellsWith wsX2_cellsWith) := goodIn_app (goodIn_of _ (by decide +kernel)) ggX2_all_X2_cellsWith
set_option maxRecDepth 20000 in
theorem ggX2_all_X2_cells : GoodIn wsX2_all wsX2_cells := goodIn_r _ [10, 11, 12, 13, 14, 15, 16, 17, 18, 19, 20, 21, 22, 23, 24, 25, 26] (by decide +kernel) (by decide +kernel)
set_option maxRecDepth 20000 in
theorem gX2_all_X2_cells : GoodIn wsX2_all (wsV RX2 68 RX2 yX2_cells wsX2_cells) := goodIn_app (goodIn_of _ (by decide +kernel)) ggX2_all_X2_cells
theorem dX2_all_0 : decode cX2_all 0 = .ok (.aload_n 0, 1) := by decide +kernel
theorem dX2_all_1 : decode cX2_all 1 = .ok (.aload_n 0, 1) := by decide +kernel
theorem dX2_all_2 : decode cX2_all 2 = .ok (.getfield 13, 3) := by decide +kernel
theorem dX2_all_5 : decode cX2_all 5 = .ok (.iconst 0, 1) := by decide +kernel
theorem dX2_all_6 : decode cX2_all 6 = .ok (.iaload, 1) := by decide +kernel
theorem dX2_all_7 : decode cX2_all 7 = .ok (.invokevirtual 106, 3) := by decide +kernel
theorem dX2_all_10 : decode cX2_all 10 = .ok (.aload_n 0, 1) := by decide +kernel
theorem dX2_all_11 : decode cX2_all 11 = .ok (.invokevirtual 68, 3) := by decide +kernel
theorem dX2_all_14 : decode cX2_all 14 = .ok (.if_icmp .ne 12, 3) := by decide +kernel
theorem dX2_all_17 : decode cX2_all 17 = .ok (.aload_n 0, 1) := by decide +kernel
theorem dX2_all_18 : decode cX2_all 18 = .ok (.getfield 13, 3) := by decide +kernel
theorem dX2_all_21 : decode cX2_all 21 = .ok (.iconst 0, 1) := by decide +kernel
theorem dX2_all_22 : decode cX2_all 22 = .ok (.iaload, 1) := by decide +kernel
theorem dX2_all_23 : decode cX2_all 23 = .ok (.goto 4, 3) := by decide +kernel
theorem dX2_all_26 : decode cX2_all 26 = .ok (.iconst 0, 1) := by decide +kernel
theorem dX2_all_27 : decode cX2_all 27 = .ok (.ireturn, 1) := by decide +kernel
set_option maxRecDepth 20000 in
theorem ggX2_winner_X2_all : GoodIn wsX2_winner wsX2_all := goodIn_r _ [6, 7, 8, 9, 10, 5, 11, 12, 13, 14, 15, 16, 17, 18, 19, 20, 21, 22, 23, 24, 25, 26, 27, 28, 29, 30, 31] (by decide +kernel) (by decide +kernel)
set_option maxRecDepth 20000 in
theorem gX2_winner_X2_all : GoodIn wsX2_winner (wsV RX2 130 RX2 yX2_all wsX2_all) := goodIn_app (goodIn_of _ (by decide +kernel)) ggX2_winner_X2_all
theorem dX2_winner_0 : decode cX2_winner 0 = .ok (.aload_n 0, 1) := by decide +kernel
theorem dX2_winner_1 : decode cX2_winner 1 = .ok (.iconst 0, 1) := by decide +kernel
theorem dX2_winner_2 : decode cX2_winner 2 = .ok (.putfield 43, 3) := by decide +kernel
theorem dX2_winner_5 : decode cX2_winner 5 = .ok (.aload_n 0, 1) := by decide +kernel
theorem dX2_winner_6 : decode cX2_winner 6 = .ok (.invokevirtual 130, 3) := by decide +kernel
theorem dX2_winner_9 : decode cX2_winner 9 = .ok (.ireturn, 1) := by decide +kernel
set_option maxRecDepth 20000 in
theorem ggX2_wavesUntilStill_X2_keep : GoodIn wsX2_wavesUntilStill wsX2_keep := goodIn_r _ [6, 7, 8, 9, 10, 11, 12, 39, 40, 41, 42, 43, 44, 45, 46, 47, 48, 49, 50, 51, 52] (by decide +kernel) (by decide +kernel)
set_option maxRecDepth 20000 in
theorem gX2_wavesUntilStill_X2_keep : GoodIn wsX2_wavesUntilStill (wsV RX2 133 RX2 yX2_keep wsX2_keep) := goodIn_app (goodIn_of _ (by decide +kernel)) ggX2_wavesUntilStill_X2_keep
set_option maxRecDepth 20000 in
theorem ggX2_wavesUntilStill_X2_wave : GoodIn wsX2_wavesUntilStill wsX2_wave := goodIn_r _ [16, 17, 7, 9, 10, 11, 12, 18, 19, 20, 5, 21, 22, 23, 24, 25, 26, 27, 28, 29, 30, 31, 32, 33, 34, 39, 40, 41, 42, 43, 44, 45, 46, 47, 48, 49, 50, 51, 52] (by decide +kernel) (by decide +kernel)
set_option maxRecDepth 20000 in
theorem gX2_wavesUntilStill_X2_wave : GoodIn wsX2_wavesUntilStill (wsV RX2 87 RX2 yX2_wave wsX2_wave) := goodIn_app (goodIn_of _ (by decide +kernel)) ggX2_wavesUntilStill_X2_wave
set_option maxRecDepth 20000 in
theorem ggX2_wavesUntilStill_X2_bringBack : GoodIn wsX2_wavesUntilStill wsX2_bringBack := goodIn_r _ [38, 8, 7, 9, 10, 11, 12, 39, 40, 41, 42, 43, 44, 45, 46, 47, 48, 49, 50, 51, 52] (by decide +kernel) (by decide +kernel)
set_option maxRecDepth 20000 in
theorem gX2_wavesUntilStill_X2_bringBack : GoodIn wsX2_wavesUntilStill (wsV RX2 136 RX2 yX2_bringBack wsX2_bringBack) := goodIn_app (goodIn_of _ (by decide +kernel)) ggX2_wavesUntilStill_X2_bringBack
theorem dX2_wavesUntilStill_0 : decode cX2_wavesUntilStill 0 = .ok (.aload_n 0, 1) := by decide +kernel
theorem dX2_wavesUntilStill_1 : decode cX2_wavesUntilStill 1 = .ok (.iconst 0, 1) := by decide +kernel
theorem dX2_wavesUntilStill_2 : decode cX2_wavesUntilStill 2 = .ok (.putfield 43, 3) := by decide +kernel
theorem dX2_wavesUntilStill_5 : decode cX2_wavesUntilStill 5 = .ok (.aload_n 0, 1) := by decide +kernel
theorem dX2_wavesUntilStill_6 : decode cX2_wavesUntilStill 6 = .ok (.invokevirtual 133, 3) := by decide +kernel
theorem dX2_wavesUntilStill_9 : decode cX2_wavesUntilStill 9 = .ok (.iconst 0, 1) := by decide +kernel
theorem dX2_wavesUntilStill_10 : decode cX2_wavesUntilStill 10 = .ok (.istore_n 1, 1) := by decide +kernel
theorem dX2_wavesUntilStill_11 : decode cX2_wavesUntilStill 11 = .ok (.iload_n 1, 1) := by decide +kernel
theorem dX2_wavesUntilStill_12 : decode cX2_wavesUntilStill 12 = .ok (.bipush 40, 2) := by decide +kernel
theorem dX2_wavesUntilStill_14 : decode cX2_wavesUntilStill 14 = .ok (.if_icmp .gt 16, 3) := by decide +kernel
theorem dX2_wavesUntilStill_17 : decode cX2_wavesUntilStill 17 = .ok (.aload_n 0, 1) := by decide +kernel
theorem dX2_wavesUntilStill_18 : decode cX2_wavesUntilStill 18 = .ok (.invokevirtual 87, 3) := by decide +kernel
theorem dX2_wavesUntilStill_21 : decode cX2_wavesUntilStill 21 = .ok (.ifCond .le 9, 3) := by decide +kernel
theorem dX2_wavesUntilStill_24 : decode cX2_wavesUntilStill 24 = .ok (.iinc 1 1, 3) := by decide +kernel
theorem dX2_wavesUntilStill_27 : decode cX2_wavesUntilStill 27 = .ok (.goto (-16), 3) := by decide +kernel
theorem dX2_wavesUntilStill_30 : decode cX2_wavesUntilStill 30 = .ok (.aload_n 0, 1) := by decide +kernel
theorem dX2_wavesUntilStill_31 : decode cX2_wavesUntilStill 31 = .ok (.invokevirtual 136, 3) := by decide +kernel
theorem dX2_wavesUntilStill_34 : decode cX2_wavesUntilStill 34 = .ok (.iload_n 1, 1) := by decide +kernel
theorem dX2_wavesUntilStill_35 : decode cX2_wavesUntilStill 35 = .ok (.bipush 40, 2) := by decide +kernel
theorem dX2_wavesUntilStill_37 : decode cX2_wavesUntilStill 37 = .ok (.if_icmp .le 7, 3) := by decide +kernel
theorem dX2_wavesUntilStill_40 : decode cX2_wavesUntilStill 40 = .ok (.iconst (-1), 1) := by decide +kernel
theorem dX2_wavesUntilStill_41 : decode cX2_wavesUntilStill 41 = .ok (.goto 4, 3) := by decide +kernel
theorem dX2_wavesUntilStill_44 : decode cX2_wavesUntilStill 44 = .ok (.iload_n 1, 1) := by decide +kernel
theorem dX2_wavesUntilStill_45 : decode cX2_wavesUntilStill 45 = .ok (.ireturn, 1) := by decide +kernel
set_option maxRecDepth 20000 in
theorem ggX2_after_X2_wave : GoodIn wsX2_after wsX2_wave := goodIn_r _ [5, 6, 7, 8, 9, 10, 11, 12, 13, 14, 4, 15, 16, 17, 18, 19, 20, 21, 22, 23, 24, 25, 26, 27, 28, 38, 39, 40, 41, 42, 43, 44, 45, 46, 47, 48, 49, 50, 51] (by decide +kernel) (by decide +kernel)
set_option maxRecDepth 20000 in
theorem gX2_after_X2_wave : GoodIn wsX2_after (wsV RX2 87 RX2 yX2_wave wsX2_wave) := goodIn_app (goodIn_of _ (by decide +kernel)) ggX2_after_X2_wave
set_option maxRecDepth 20000 in
theorem ggX2_after_X2_cellsWith : GoodIn wsX2_after wsX2_cellsWith := goodIn_r _ [32, 7, 12, 13, 14, 4, 15, 16, 17, 38, 39, 40, 41, 42, 43, 44, 45, 46, 47, 48, 49, 50, 51] (by decide +kernel) (by decide +kernel)
set_option maxRecDepth 20000 in
theorem gX2_after_X2_cellsWith : GoodIn wsX2_after (wsV RX2 106 RX2 yX2_cellsWith wsX2_cellsWith) := goodIn_app (goodIn_of _ (by decide +kernel)) ggX2_after_X2_cellsWith
set_option maxRecDepth 20000 in
theorem ggX2_after_X2_bringBack : GoodIn wsX2_after wsX2_bringBack := goodIn_r _ [36, 37, 7, 8, 9, 10, 11, 38, 39, 40, 41, 42, 43, 44, 45, 46, 47, 48, 49, 50, 51] (by decide +kernel) (by decide +kernel)
set_option maxRecDepth 20000 in
theorem gX2_after_X2_bringBack : GoodIn wsX2_after (wsV RX2 136 RX2 yX2_bringBack wsX2_bringBack) := goodIn_app (goodIn_of _ (by decide +kernel)) ggX2_after_X2_bringBack
theorem dX2_after_0 : decode cX2_after 0 = .ok (.iconst 0, 1) := by decide +kernel
theorem dX2_after_1 : decode cX2_after 1 = .ok (.istore_n 3, 1) := by decide +kernel
theorem dX2_after_2 : decode cX2_after 2 = .ok (.iload_n 3, 1) := by decide +kernel
theorem dX2_after_3 : decode cX2_after 3 = .ok (.iload_n 1, 1) := by decide +kernel
theorem dX2_after_4 : decode cX2_after 4 = .ok (.if_icmp .ge 14, 3) := by decide +kernel
theorem dX2_after_7 : decode cX2_after 7 = .ok (.aload_n 0, 1) := by decide +kernel
theorem dX2_after_8 : decode cX2_after 8 = .ok (.invokevirtual 87, 3) := by decide +kernel
theorem dX2_after_11 : decode cX2_after 11 = .ok (.pop, 1) := by decide +kernel
theorem dX2_after_12 : decode cX2_after 12 = .ok (.iinc 3 1, 3) := by decide +kernel
theorem dX2_after_15 : decode cX2_after 15 = .ok (.goto (-13), 3) := by decide +kernel
theorem dX2_after_18 : decode cX2_after 18 = .ok (.aload_n 0, 1) := by decide +kernel
theorem dX2_after_19 : decode cX2_after 19 = .ok (.iload_n 2, 1) := by decide +kernel
theorem dX2_after_20 : decode cX2_after 20 = .ok (.invokevirtual 106, 3) := by decide +kernel
theorem dX2_after_23 : decode cX2_after 23 = .ok (.istore_n 3, 1) := by decide +kernel
theorem dX2_after_24 : decode cX2_after 24 = .ok (.aload_n 0, 1) := by decide +kernel
theorem dX2_after_25 : decode cX2_after 25 = .ok (.invokevirtual 136, 3) := by decide +kernel
theorem dX2_after_28 : decode cX2_after 28 = .ok (.iload_n 3, 1) := by decide +kernel
theorem dX2_after_29 : decode cX2_after 29 = .ok (.ireturn, 1) := by decide +kernel
set_option maxRecDepth 20000 in
theorem ggX2_cellsAfter_X2_isIn : GoodIn wsX2_cellsAfter wsX2_isIn := goodIn_r _ [5] (by decide +kernel) (by decide +kernel)
set_option maxRecDepth 20000 in
theorem gX2_cellsAfter_X2_isIn : GoodIn wsX2_cellsAfter (va_wsS RX2 52 yX2_isIn wsX2_isIn) := goodIn_app (goodIn_of _ (by decide +kernel)) ggX2_cellsAfter_X2_isIn
set_option maxRecDepth 20000 in
theorem ggX2_cellsAfter_X2_fail : GoodIn wsX2_cellsAfter wsX2_fail := goodIn_r _ [9, 1, 57, 58, 59, 60, 61, 62, 63, 64, 65, 66, 67, 68, 69, 70] (by decide +kernel) (by decide +kernel)
set_option maxRecDepth 20000 in
theorem gX2_cellsAfter_X2_fail : GoodIn wsX2_cellsAfter (wsV RX2 76 RX2 yX2_fail wsX2_fail) := goodIn_app (goodIn_of _ (by decide +kernel)) ggX2_cellsAfter_X2_fail
set_option maxRecDepth 20000 in
theorem ggX2_cellsAfter_X2_isAny : GoodIn wsX2_cellsAfter wsX2_isAny := goodIn_r _ [12, 2, 3, 4, 5] (by decide +kernel) (by decide +kernel)
set_option maxRecDepth 20000 in
theorem gX2_cellsAfter_X2_isAny : GoodIn wsX2_cellsAfter (va_wsS RX2 83 yX2_isAny wsX2_isAny) := goodIn_app (goodIn_of _ (by decide +kernel)) ggX2_cellsAfter_X2_isAny
set_option maxRecDepth 20000 in
theorem ggX2_cellsAfter_X2_keep : GoodIn wsX2_cellsAfter wsX2_keep := goodIn_r _ [16, 17, 18, 19, 20, 21, 22, 57, 58, 59, 60, 61, 62, 63, 64, 65, 66, 67, 68, 69, 70] (by decide +kernel) (by decide +kernel)
set_option maxRecDepth 20000 in
theorem gX2_cellsAfter_X2_keep : GoodIn wsX2_cellsAfter (wsV RX2 133 RX2 yX2_keep wsX2_keep) := goodIn_app (goodIn_of _ (by decide +kernel)) ggX2_cellsAfter_X2_keep
set_option maxRecDepth 20000 in
theorem ggX2_cellsAfter_X2_after : GoodIn wsX2_cellsAfter wsX2_after := goodIn_r _ [26, 27, 28, 29, 4, 30, 31, 17, 19, 20, 21, 22, 32, 33, 34, 35, 36, 37, 38, 39, 40, 41, 42, 43, 44, 45, 46, 47, 48, 49, 50, 51, 52, 53, 54, 55, 56, 18, 57, 58, 59, 60, 61, 62, 63, 64, 65, 66, 67, 68, 69, 70] (by decide +kernel) (by decide +kernel)
set_option maxRecDepth 20000 in
theorem gX2_cellsAfter_X2_after : GoodIn wsX2_cellsAfter (wsV RX2 139 RX2 yX2_after wsX2_after) := goodIn_app (goodIn_of _ (by decide +kernel)) ggX2_cellsAfter_X2_after
theorem dX2_cellsAfter_0 : decode cX2_cellsAfter 0 = .ok (.aload_n 0, 1) := by decide +kernel
theorem dX2_cellsAfter_1 : decode cX2_cellsAfter 1 = .ok (.iconst 0, 1) := by decide +kernel
theorem dX2_cellsAfter_2 : decode cX2_cellsAfter 2 = .ok (.putfield 43, 3) := by decide +kernel
theorem dX2_cellsAfter_5 : decode cX2_cellsAfter 5 = .ok (.iload_n 1, 1) := by decide +kernel
theorem dX2_cellsAfter_6 : decode cX2_cellsAfter 6 = .ok (.iconst 1, 1) := by decide +kernel
theorem dX2_cellsAfter_7 : decode cX2_cellsAfter 7 = .ok (.bipush 40, 2) := by decide +kernel
theorem dX2_cellsAfter_9 : decode cX2_cellsAfter 9 = .ok (.invokestatic 52, 3) := by decide +kernel
theorem dX2_cellsAfter_12 : decode cX2_cellsAfter 12 = .ok (.ifCond .ne 9, 3) := by decide +kernel
theorem dX2_cellsAfter_15 : decode cX2_cellsAfter 15 = .ok (.aload_n 0, 1) := by decide +kernel
theorem dX2_cellsAfter_16 : decode cX2_cellsAfter 16 = .ok (.iconst 1, 1) := by decide +kernel
theorem dX2_cellsAfter_17 : decode cX2_cellsAfter 17 = .ok (.invokevirtual 76, 3) := by decide +kernel
theorem dX2_cellsAfter_20 : decode cX2_cellsAfter 20 = .ok (.ireturn, 1) := by decide +kernel
theorem dX2_cellsAfter_21 : decode cX2_cellsAfter 21 = .ok (.iload_n 2, 1) := by decide +kernel
theorem dX2_cellsAfter_22 : decode cX2_cellsAfter 22 = .ok (.invokestatic 83, 3) := by decide +kernel
theorem dX2_cellsAfter_25 : decode cX2_cellsAfter 25 = .ok (.ifCond .ne 9, 3) := by decide +kernel
theorem dX2_cellsAfter_28 : decode cX2_cellsAfter 28 = .ok (.aload_n 0, 1) := by decide +kernel
theorem dX2_cellsAfter_29 : decode cX2_cellsAfter 29 = .ok (.iconst 2, 1) := by decide +kernel
theorem dX2_cellsAfter_30 : decode cX2_cellsAfter 30 = .ok (.invokevirtual 76, 3) := by decide +kernel
theorem dX2_cellsAfter_33 : decode cX2_cellsAfter 33 = .ok (.ireturn, 1) := by decide +kernel
theorem dX2_cellsAfter_34 : decode cX2_cellsAfter 34 = .ok (.aload_n 0, 1) := by decide +kernel
theorem dX2_cellsAfter_35 : decode cX2_cellsAfter 35 = .ok (.invokevirtual 133, 3) := by decide +kernel
theorem dX2_cellsAfter_38 : decode cX2_cellsAfter 38 = .ok (.aload_n 0, 1) := by decide +kernel
theorem dX2_cellsAfter_39 : decode cX2_cellsAfter 39 = .ok (.iload_n 1, 1) := by decide +kernel
theorem dX2_cellsAfter_40 : decode cX2_cellsAfter 40 = .ok (.iload_n 2, 1) := by decide +kernel
theorem dX2_cellsAfter_41 : decode cX2_cellsAfter 41 = .ok (.invokevirtual 139, 3) := by decide +kernel
theorem dX2_cellsAfter_44 : decode cX2_cellsAfter 44 = .ok (.ireturn, 1) := by decide +kernel
set_option maxRecDepth 20000 in
theorem ggX2_winsNow_X2_all : GoodIn wsX2_winsNow wsX2_all := goodIn_r _ [5, 6, 7, 8, 9, 4, 10, 11, 12, 13, 14, 15, 16, 37, 38, 39, 40, 41, 42, 43, 44, 45, 46, 47, 48, 49, 50] (by decide +kernel) (by decide +kernel)
set_option maxRecDepth 20000 in
theorem gX2_winsNow_X2_all : GoodIn wsX2_winsNow (wsV RX2 130 RX2 yX2_all wsX2_all) := goodIn_app (goodIn_of _ (by decide +kernel)) ggX2_winsNow_X2_all
set_option maxRecDepth 20000 in
theorem ggX2_winsNow_X2_wave : GoodIn wsX2_winsNow wsX2_wave := goodIn_r _ [20, 21, 6, 22, 23, 24, 25, 11, 12, 13, 4, 14, 15, 16, 26, 27, 28, 29, 30, 31, 32, 33, 34, 35, 36, 37, 38, 39, 40, 41, 42, 43, 44, 45, 46, 47, 48, 49, 50] (by decide +kernel) (by decide +kernel)
set_option maxRecDepth 20000 in
theorem gX2_winsNow_X2_wave : GoodIn wsX2_winsNow (wsV RX2 87 RX2 yX2_wave wsX2_wave) := goodIn_app (goodIn_of _ (by decide +kernel)) ggX2_winsNow_X2_wave
theorem dX2_winsNow_0 : decode cX2_winsNow 0 = .ok (.iconst 0, 1) := by decide +kernel
theorem dX2_winsNow_1 : decode cX2_winsNow 1 = .ok (.istore_n 2, 1) := by decide +kernel
theorem dX2_winsNow_2 : decode cX2_winsNow 2 = .ok (.iload_n 2, 1) := by decide +kernel
theorem dX2_winsNow_3 : decode cX2_winsNow 3 = .ok (.bipush 8, 2) := by decide +kernel
theorem dX2_winsNow_5 : decode cX2_winsNow 5 = .ok (.if_icmp .ge 28, 3) := by decide +kernel
theorem dX2_winsNow_8 : decode cX2_winsNow 8 = .ok (.aload_n 0, 1) := by decide +kernel
theorem dX2_winsNow_9 : decode cX2_winsNow 9 = .ok (.invokevirtual 130, 3) := by decide +kernel
theorem dX2_winsNow_12 : decode cX2_winsNow 12 = .ok (.iload_n 1, 1) := by decide +kernel
theorem dX2_winsNow_13 : decode cX2_winsNow 13 = .ok (.if_icmp .ne 5, 3) := by decide +kernel
theorem dX2_winsNow_16 : decode cX2_winsNow 16 = .ok (.iconst 1, 1) := by decide +kernel
theorem dX2_winsNow_17 : decode cX2_winsNow 17 = .ok (.ireturn, 1) := by decide +kernel
theorem dX2_winsNow_18 : decode cX2_winsNow 18 = .ok (.aload_n 0, 1) := by decide +kernel
theorem dX2_winsNow_19 : decode cX2_winsNow 19 = .ok (.invokevirtual 87, 3) := by decide +kernel
theorem dX2_winsNow_22 : decode cX2_winsNow 22 = .ok (.ifCond .ne 5, 3) := by decide +kernel
theorem dX2_winsNow_25 : decode cX2_winsNow 25 = .ok (.iconst 0, 1) := by decide +kernel
theorem dX2_winsNow_26 : decode cX2_winsNow 26 = .ok (.ireturn, 1) := by decide +kernel
theorem dX2_winsNow_27 : decode cX2_winsNow 27 = .ok (.iinc 2 1, 3) := by decide +kernel
theorem dX2_winsNow_30 : decode cX2_winsNow 30 = .ok (.goto (-28), 3) := by decide +kernel
theorem dX2_winsNow_33 : decode cX2_winsNow 33 = .ok (.aload_n 0, 1) := by decide +kernel
theorem dX2_winsNow_34 : decode cX2_winsNow 34 = .ok (.invokevirtual 130, 3) := by decide +kernel
theorem dX2_winsNow_37 : decode cX2_winsNow 37 = .ok (.iload_n 1, 1) := by decide +kernel
theorem dX2_winsNow_38 : decode cX2_winsNow 38 = .ok (.if_icmp .ne 7, 3) := by decide +kernel
theorem dX2_winsNow_41 : decode cX2_winsNow 41 = .ok (.iconst 1, 1) := by decide +kernel
theorem dX2_winsNow_42 : decode cX2_winsNow 42 = .ok (.goto 4, 3) := by decide +kernel
theorem dX2_winsNow_45 : decode cX2_winsNow 45 = .ok (.iconst 0, 1) := by decide +kernel
theorem dX2_winsNow_46 : decode cX2_winsNow 46 = .ok (.ireturn, 1) := by decide +kernel
set_option maxRecDepth 20000 in
theorem ggX2_winsWith_X2_winsNow : GoodIn wsX2_winsWith wsX2_winsNow := goodIn_r _ [6, 7, 8, 9, 5, 10, 1, 11, 12, 13, 14, 15, 16, 17, 18, 19, 20, 21, 22, 23, 24, 25, 26, 27, 28, 29, 30, 31, 32, 33, 34, 35, 36, 37, 38, 39, 40, 46, 47, 48, 49, 50, 51, 52, 53, 54, 55, 56, 57, 58, 59] (by decide +kernel) (by decide +kernel)
set_option maxRecDepth 20000 in
theorem gX2_winsWith_X2_winsNow : GoodIn wsX2_winsWith (wsV RX2 142 RX2 yX2_winsNow wsX2_winsNow) := goodIn_app (goodIn_of _ (by decide +kernel)) ggX2_winsWith_X2_winsNow
set_option maxRecDepth 20000 in
theorem ggX2_winsWith_X2_bringBack : GoodIn wsX2_winsWith wsX2_bringBack := goodIn_r _ [44, 45, 1, 26, 27, 28, 29, 46, 47, 48, 49, 50, 51, 52, 53, 54, 55, 56, 57, 58, 59] (by decide +kernel) (by decide +kernel)
set_option maxRecDepth 20000 in
theorem gX2_winsWith_X2_bringBack : GoodIn wsX2_winsWith (wsV RX2 136 RX2 yX2_bringBack wsX2_bringBack) := goodIn_app (goodIn_of _ (by decide +kernel)) ggX2_winsWith_X2_bringBack
theorem dX2_winsWith_0 : decode cX2_winsWith 0 = .ok (.iload_n 2, 1) := by decide +kernel
theorem dX2_winsWith_1 : decode cX2_winsWith 1 = .ok (.iconst (-1), 1) := by decide +kernel
theorem dX2_winsWith_2 : decode cX2_winsWith 2 = .ok (.if_icmp .eq 10, 3) := by decide +kernel
theorem dX2_winsWith_5 : decode cX2_winsWith 5 = .ok (.aload_n 0, 1) := by decide +kernel
theorem dX2_winsWith_6 : decode cX2_winsWith 6 = .ok (.getfield 13, 3) := by decide +kernel
theorem dX2_winsWith_9 : decode cX2_winsWith 9 = .ok (.iload_n 2, 1) := by decide +kernel
theorem dX2_winsWith_10 : decode cX2_winsWith 10 = .ok (.iload_n 1, 1) := by decide +kernel
theorem dX2_winsWith_11 : decode cX2_winsWith 11 = .ok (.iastore, 1) := by decide +kernel
theorem dX2_winsWith_12 : decode cX2_winsWith 12 = .ok (.iload_n 3, 1) := by decide +kernel
theorem dX2_winsWith_13 : decode cX2_winsWith 13 = .ok (.iconst (-1), 1) := by decide +kernel
theorem dX2_winsWith_14 : decode cX2_winsWith 14 = .ok (.if_icmp .eq 10, 3) := by decide +kernel
theorem dX2_winsWith_17 : decode cX2_winsWith 17 = .ok (.aload_n 0, 1) := by decide +kernel
theorem dX2_winsWith_18 : decode cX2_winsWith 18 = .ok (.getfield 13, 3) := by decide +kernel
theorem dX2_winsWith_21 : decode cX2_winsWith 21 = .ok (.iload_n 3, 1) := by decide +kernel
theorem dX2_winsWith_22 : decode cX2_winsWith 22 = .ok (.iload_n 1, 1) := by decide +kernel
theorem dX2_winsWith_23 : decode cX2_winsWith 23 = .ok (.iastore, 1) := by decide +kernel
theorem dX2_winsWith_24 : decode cX2_winsWith 24 = .ok (.aload_n 0, 1) := by decide +kernel
theorem dX2_winsWith_25 : decode cX2_winsWith 25 = .ok (.iload_n 1, 1) := by decide +kernel
theorem dX2_winsWith_26 : decode cX2_winsWith 26 = .ok (.invokevirtual 142, 3) := by decide +kernel
theorem dX2_winsWith_29 : decode cX2_winsWith 29 = .ok (.istore 4, 2) := by decide +kernel
theorem dX2_winsWith_31 : decode cX2_winsWith 31 = .ok (.aload_n 0, 1) := by decide +kernel
theorem dX2_winsWith_32 : decode cX2_winsWith 32 = .ok (.invokevirtual 136, 3) := by decide +kernel
theorem dX2_winsWith_35 : decode cX2_winsWith 35 = .ok (.iload 4, 2) := by decide +kernel
theorem dX2_winsWith_37 : decode cX2_winsWith 37 = .ok (.ireturn, 1) := by decide +kernel
set_option maxRecDepth 20000 in
theorem ggX2_wins_X2_isColour : GoodIn wsX2_wins wsX2_isColour := goodIn_r _ [5, 6, 7, 4, 8] (by decide +kernel) (by decide +kernel)
set_option maxRecDepth 20000 in
theorem gX2_wins_X2_isColour : GoodIn wsX2_wins (va_wsS RX2 114 yX2_isColour wsX2_isColour) := goodIn_app (goodIn_of _ (by decide +kernel)) ggX2_wins_X2_isColour
set_option maxRecDepth 20000 in
theorem ggX2_wins_X2_keep : GoodIn wsX2_wins wsX2_keep := goodIn_r _ [12, 13, 14, 15, 16, 17, 18, 61, 62, 63, 64, 65, 66, 67, 68, 69, 70, 71, 72, 73, 74] (by decide +kernel) (by decide +kernel)
set_option maxRecDepth 20000 in
theorem gX2_wins_X2_keep : GoodIn wsX2_wins (wsV RX2 133 RX2 yX2_keep wsX2_keep) := goodIn_app (goodIn_of _ (by decide +kernel)) ggX2_wins_X2_keep
set_option maxRecDepth 20000 in
theorem ggX2_wins_X2_winsWith : GoodIn wsX2_wins wsX2_winsWith := goodIn_r _ [22, 13, 23, 24, 25, 4, 26, 27, 28, 29, 30, 31, 32, 33, 34, 35, 36, 37, 38, 39, 40, 41, 42, 43, 44, 45, 15, 16, 17, 18, 46, 47, 48, 49, 50, 51, 52, 53, 54, 55, 56, 57, 58, 59, 60, 14, 61, 62, 63, 64, 65, 66, 67, 68, 69, 70, 71, 72, 73, 74] (by decide +kernel) (by decide +kernel)
set_option maxRecDepth 20000 in
theorem gX2_wins_X2_winsWith : GoodIn wsX2_wins (wsV RX2 145 RX2 yX2_winsWith wsX2_winsWith) := goodIn_app (goodIn_of _ (by decide +kernel)) ggX2_wins_X2_winsWith
theorem dX2_wins_0 : decode cX2_wins 0 = .ok (.aload_n 0, 1) := by decide +kernel
theorem dX2_wins_1 : decode cX2_wins 1 = .ok (.iload_n 1, 1) := by decide +kernel
theorem dX2_wins_2 : decode cX2_wins 2 = .ok (.invokestatic 114, 3) := by decide +kernel
theorem dX2_wins_5 : decode cX2_wins 5 = .ok (.ifCond .eq 7, 3) := by decide +kernel
theorem dX2_wins_8 : decode cX2_wins 8 = .ok (.iconst 0, 1) := by decide +kernel
theorem dX2_wins_9 : decode cX2_wins 9 = .ok (.goto 4, 3) := by decide +kernel
theorem dX2_wins_12 : decode cX2_wins 12 = .ok (.iconst 1, 1) := by decide +kernel
theorem dX2_wins_13 : decode cX2_wins 13 = .ok (.putfield 43, 3) := by decide +kernel
theorem dX2_wins_16 : decode cX2_wins 16 = .ok (.aload_n 0, 1) := by decide +kernel
theorem dX2_wins_17 : decode cX2_wins 17 = .ok (.getfield 43, 3) := by decide +kernel
theorem dX2_wins_20 : decode cX2_wins 20 = .ok (.ifCond .eq 5, 3) := by decide +kernel
theorem dX2_wins_23 : decode cX2_wins 23 = .ok (.iconst 0, 1) := by decide +kernel
theorem dX2_wins_24 : decode cX2_wins 24 = .ok (.ireturn, 1) := by decide +kernel
theorem dX2_wins_25 : decode cX2_wins 25 = .ok (.aload_n 0, 1) := by decide +kernel
theorem dX2_wins_26 : decode cX2_wins 26 = .ok (.invokevirtual 133, 3) := by decide +kernel
theorem dX2_wins_29 : decode cX2_wins 29 = .ok (.aload_n 0, 1) := by decide +kernel
theorem dX2_wins_30 : decode cX2_wins 30 = .ok (.iload_n 1, 1) := by decide +kernel
theorem dX2_wins_31 : decode cX2_wins 31 = .ok (.iconst (-1), 1) := by decide +kernel
theorem dX2_wins_32 : decode cX2_wins 32 = .ok (.iconst (-1), 1) := by decide +kernel
theorem dX2_wins_33 : decode cX2_wins 33 = .ok (.invokevirtual 145, 3) := by decide +kernel
theorem dX2_wins_36 : decode cX2_wins 36 = .ok (.ireturn, 1) := by decide +kernel
set_option maxRecDepth 20000 in
theorem ggX2_fewestSeeds_X2_isColour : GoodIn wsX2_fewestSeeds wsX2_isColour := goodIn_r _ [5, 6, 7, 4, 8] (by decide +kernel) (by decide +kernel)
set_option maxRecDepth 20000 in
theorem gX2_fewestSeeds_X2_isColour : GoodIn wsX2_fewestSeeds (va_wsS RX2 114 yX2_isColour wsX2_isColour) := goodIn_app (goodIn_of _ (by decide +kernel)) ggX2_fewestSeeds_X2_isColour
set_option maxRecDepth 20000 in
theorem ggX2_fewestSeeds_X2_fail : GoodIn wsX2_fewestSeeds wsX2_fail := goodIn_r _ [12, 1, 65, 66, 67, 68, 69, 70, 71, 72, 73, 74, 75, 76, 77, 78] (by decide +kernel) (by decide +kernel)
set_option maxRecDepth 20000 in
theorem gX2_fewestSeeds_X2_fail : GoodIn wsX2_fewestSeeds (wsV RX2 76 RX2 yX2_fail wsX2_fail) := goodIn_app (goodIn_of _ (by decide +kernel)) ggX2_fewestSeeds_X2_fail
set_option maxRecDepth 20000 in
theorem ggX2_fewestSeeds_X2_keep : GoodIn wsX2_fewestSeeds wsX2_keep := goodIn_r _ [16, 17, 18, 19, 20, 21, 22, 65, 66, 67, 68, 69, 70, 71, 72, 73, 74, 75, 76, 77, 78] (by decide +kernel) (by decide +kernel)
set_option maxRecDepth 20000 in
theorem gX2_fewestSeeds_X2_keep : GoodIn wsX2_fewestSeeds (wsV RX2 133 RX2 yX2_keep wsX2_keep) := goodIn_app (goodIn_of _ (by decide +kernel)) ggX2_fewestSeeds_X2_keep
set_option maxRecDepth 20000 in
theorem ggX2_fewestSeeds_X2_winsWith : GoodIn wsX2_fewestSeeds wsX2_winsWith := goodIn_r _ [26, 17, 27, 28, 29, 4, 30, 31, 32, 33, 34, 35, 36, 37, 38, 39, 40, 41, 42, 43, 44, 45, 46, 47, 48, 49, 19, 20, 21, 22, 50, 51, 52, 53, 54, 55, 56, 57, 58, 59, 60, 61, 62, 63, 64, 18, 65, 66, 67, 68, 69, 70, 71, 72, 73, 74, 75, 76, 77, 78] (by decide +kernel) (by decide +kernel)
set_option maxRecDepth 20000 in
theorem gX2_fewestSeeds_X2_winsWith : GoodIn wsX2_fewestSeeds (wsV RX2 145 RX2 yX2_winsWith wsX2_winsWith) := goodIn_app (goodIn_of _ (by decide +kernel)) ggX2_fewestSeeds_X2_winsWith
set_option maxRecDepth 20000 in
theorem ggX2_fewestSeeds_X2_cells : GoodIn wsX2_fewestSeeds wsX2_cells := goodIn_r _ [42, 43, 44, 65, 66, 67, 68, 69, 70, 71, 72, 73, 74, 75, 76, 77, 78] (by decide +kernel) (by decide +kernel)
set_option maxRecDepth 20000 in
theorem gX2_fewestSeeds_X2_cells : GoodIn wsX2_fewestSeeds (wsV RX2 68 RX2 yX2_cells wsX2_cells) := goodIn_app (goodIn_of _ (by decide +kernel)) ggX2_fewestSeeds_X2_cells
theorem dX2_fewestSeeds_0 : decode cX2_fewestSeeds 0 = .ok (.aload_n 0, 1) := by decide +kernel
theorem dX2_fewestSeeds_1 : decode cX2_fewestSeeds 1 = .ok (.iconst 0, 1) := by decide +kernel
theorem dX2_fewestSeeds_2 : decode cX2_fewestSeeds 2 = .ok (.putfield 43, 3) := by decide +kernel
theorem dX2_fewestSeeds_5 : decode cX2_fewestSeeds 5 = .ok (.iload_n 1, 1) := by decide +kernel
theorem dX2_fewestSeeds_6 : decode cX2_fewestSeeds 6 = .ok (.invokestatic 114, 3) := by decide +kernel
theorem dX2_fewestSeeds_9 : decode cX2_fewestSeeds 9 = .ok (.ifCond .ne 9, 3) := by decide +kernel
theorem dX2_fewestSeeds_12 : decode cX2_fewestSeeds 12 = .ok (.aload_n 0, 1) := by decide +kernel
theorem dX2_fewestSeeds_13 : decode cX2_fewestSeeds 13 = .ok (.iconst 1, 1) := by decide +kernel
theorem dX2_fewestSeeds_14 : decode cX2_fewestSeeds 14 = .ok (.invokevirtual 76, 3) := by decide +kernel
theorem dX2_fewestSeeds_17 : decode cX2_fewestSeeds 17 = .ok (.ireturn, 1) := by decide +kernel
theorem dX2_fewestSeeds_18 : decode cX2_fewestSeeds 18 = .ok (.aload_n 0, 1) := by decide +kernel
theorem dX2_fewestSeeds_19 : decode cX2_fewestSeeds 19 = .ok (.invokevirtual 133, 3) := by decide +kernel
theorem dX2_fewestSeeds_22 : decode cX2_fewestSeeds 22 = .ok (.aload_n 0, 1) := by decide +kernel
theorem dX2_fewestSeeds_23 : decode cX2_fewestSeeds 23 = .ok (.iload_n 1, 1) := by decide +kernel
theorem dX2_fewestSeeds_24 : decode cX2_fewestSeeds 24 = .ok (.iconst (-1), 1) := by decide +kernel
theorem dX2_fewestSeeds_25 : decode cX2_fewestSeeds 25 = .ok (.iconst (-1), 1) := by decide +kernel
theorem dX2_fewestSeeds_26 : decode cX2_fewestSeeds 26 = .ok (.invokevirtual 145, 3) := by decide +kernel
theorem dX2_fewestSeeds_29 : decode cX2_fewestSeeds 29 = .ok (.ifCond .eq 5, 3) := by decide +kernel
theorem dX2_fewestSeeds_32 : decode cX2_fewestSeeds 32 = .ok (.iconst 0, 1) := by decide +kernel
theorem dX2_fewestSeeds_33 : decode cX2_fewestSeeds 33 = .ok (.ireturn, 1) := by decide +kernel
theorem dX2_fewestSeeds_34 : decode cX2_fewestSeeds 34 = .ok (.iconst 0, 1) := by decide +kernel
theorem dX2_fewestSeeds_35 : decode cX2_fewestSeeds 35 = .ok (.istore_n 2, 1) := by decide +kernel
theorem dX2_fewestSeeds_36 : decode cX2_fewestSeeds 36 = .ok (.iload_n 2, 1) := by decide +kernel
theorem dX2_fewestSeeds_37 : decode cX2_fewestSeeds 37 = .ok (.aload_n 0, 1) := by decide +kernel
theorem dX2_fewestSeeds_38 : decode cX2_fewestSeeds 38 = .ok (.invokevirtual 68, 3) := by decide +kernel
theorem dX2_fewestSeeds_41 : decode cX2_fewestSeeds 41 = .ok (.if_icmp .ge 21, 3) := by decide +kernel
theorem dX2_fewestSeeds_44 : decode cX2_fewestSeeds 44 = .ok (.aload_n 0, 1) := by decide +kernel
theorem dX2_fewestSeeds_45 : decode cX2_fewestSeeds 45 = .ok (.iload_n 1, 1) := by decide +kernel
theorem dX2_fewestSeeds_46 : decode cX2_fewestSeeds 46 = .ok (.iload_n 2, 1) := by decide +kernel
theorem dX2_fewestSeeds_47 : decode cX2_fewestSeeds 47 = .ok (.iconst (-1), 1) := by decide +kernel
theorem dX2_fewestSeeds_48 : decode cX2_fewestSeeds 48 = .ok (.invokevirtual 145, 3) := by decide +kernel
theorem dX2_fewestSeeds_51 : decode cX2_fewestSeeds 51 = .ok (.ifCond .eq 5, 3) := by decide +kernel
theorem dX2_fewestSeeds_54 : decode cX2_fewestSeeds 54 = .ok (.iconst 1, 1) := by decide +kernel
theorem dX2_fewestSeeds_55 : decode cX2_fewestSeeds 55 = .ok (.ireturn, 1) := by decide +kernel
theorem dX2_fewestSeeds_56 : decode cX2_fewestSeeds 56 = .ok (.iinc 2 1, 3) := by decide +kernel
theorem dX2_fewestSeeds_59 : decode cX2_fewestSeeds 59 = .ok (.goto (-23), 3) := by decide +kernel
theorem dX2_fewestSeeds_62 : decode cX2_fewestSeeds 62 = .ok (.iconst 0, 1) := by decide +kernel
theorem dX2_fewestSeeds_63 : decode cX2_fewestSeeds 63 = .ok (.istore_n 2, 1) := by decide +kernel
theorem dX2_fewestSeeds_64 : decode cX2_fewestSeeds 64 = .ok (.iload_n 2, 1) := by decide +kernel
theorem dX2_fewestSeeds_65 : decode cX2_fewestSeeds 65 = .ok (.aload_n 0, 1) := by decide +kernel
theorem dX2_fewestSeeds_66 : decode cX2_fewestSeeds 66 = .ok (.invokevirtual 68, 3) := by decide +kernel
theorem dX2_fewestSeeds_69 : decode cX2_fewestSeeds 69 = .ok (.if_icmp .ge 34, 3) := by decide +kernel
theorem dX2_fewestSeeds_72 : decode cX2_fewestSeeds 72 = .ok (.iconst 0, 1) := by decide +kernel
theorem dX2_fewestSeeds_73 : decode cX2_fewestSeeds 73 = .ok (.istore_n 3, 1) := by decide +kernel
theorem dX2_fewestSeeds_74 : decode cX2_fewestSeeds 74 = .ok (.iload_n 3, 1) := by decide +kernel
theorem dX2_fewestSeeds_75 : decode cX2_fewestSeeds 75 = .ok (.iload_n 2, 1) := by decide +kernel
theorem dX2_fewestSeeds_76 : decode cX2_fewestSeeds 76 = .ok (.if_icmp .ge 21, 3) := by decide +kernel
theorem dX2_fewestSeeds_79 : decode cX2_fewestSeeds 79 = .ok (.aload_n 0, 1) := by decide +kernel
theorem dX2_fewestSeeds_80 : decode cX2_fewestSeeds 80 = .ok (.iload_n 1, 1) := by decide +kernel
theorem dX2_fewestSeeds_81 : decode cX2_fewestSeeds 81 = .ok (.iload_n 2, 1) := by decide +kernel
theorem dX2_fewestSeeds_82 : decode cX2_fewestSeeds 82 = .ok (.iload_n 3, 1) := by decide +kernel
theorem dX2_fewestSeeds_83 : decode cX2_fewestSeeds 83 = .ok (.invokevirtual 145, 3) := by decide +kernel
theorem dX2_fewestSeeds_86 : decode cX2_fewestSeeds 86 = .ok (.ifCond .eq 5, 3) := by decide +kernel
theorem dX2_fewestSeeds_89 : decode cX2_fewestSeeds 89 = .ok (.iconst 2, 1) := by decide +kernel
theorem dX2_fewestSeeds_90 : decode cX2_fewestSeeds 90 = .ok (.ireturn, 1) := by decide +kernel
theorem dX2_fewestSeeds_91 : decode cX2_fewestSeeds 91 = .ok (.iinc 3 1, 3) := by decide +kernel
theorem dX2_fewestSeeds_94 : decode cX2_fewestSeeds 94 = .ok (.goto (-20), 3) := by decide +kernel
theorem dX2_fewestSeeds_97 : decode cX2_fewestSeeds 97 = .ok (.iinc 2 1, 3) := by decide +kernel
theorem dX2_fewestSeeds_100 : decode cX2_fewestSeeds 100 = .ok (.goto (-36), 3) := by decide +kernel
theorem dX2_fewestSeeds_103 : decode cX2_fewestSeeds 103 = .ok (.iconst (-1), 1) := by decide +kernel
theorem dX2_fewestSeeds_104 : decode cX2_fewestSeeds 104 = .ok (.ireturn, 1) := by decide +kernel
set_option maxRecDepth 20000 in
theorem ggX2_bestCell_X2_isColour : GoodIn wsX2_bestCell wsX2_isColour := goodIn_r _ [6, 7, 8, 5, 9] (by decide +kernel) (by decide +kernel)
set_option maxRecDepth 20000 in
theorem gX2_bestCell_X2_isColour : GoodIn wsX2_bestCell (va_wsS RX2 114 yX2_isColour wsX2_isColour) := goodIn_app (goodIn_of _ (by decide +kernel)) ggX2_bestCell_X2_isColour
set_option maxRecDepth 20000 in
theorem ggX2_bestCell_X2_fail : GoodIn wsX2_bestCell wsX2_fail := goodIn_r _ [13, 1, 57, 58, 59, 60, 61, 62, 63, 64, 65, 66, 67, 68, 69, 70] (by decide +kernel) (by decide +kernel)
set_option maxRecDepth 20000 in
theorem gX2_bestCell_X2_fail : GoodIn wsX2_bestCell (wsV RX2 76 RX2 yX2_fail wsX2_fail) := goodIn_app (goodIn_of _ (by decide +kernel)) ggX2_bestCell_X2_fail
set_option maxRecDepth 20000 in
theorem ggX2_bestCell_X2_isIn : GoodIn wsX2_bestCell wsX2_isIn := goodIn_r _ [9] (by decide +kernel) (by decide +kernel)
set_option maxRecDepth 20000 in
theorem gX2_bestCell_X2_isIn : GoodIn wsX2_bestCell (va_wsS RX2 52 yX2_isIn wsX2_isIn) := goodIn_app (goodIn_of _ (by decide +kernel)) ggX2_bestCell_X2_isIn
set_option maxRecDepth 20000 in
theorem ggX2_bestCell_X2_keep : GoodIn wsX2_bestCell wsX2_keep := goodIn_r _ [17, 2, 18, 19, 20, 21, 22, 57, 58, 59, 60, 61, 62, 63, 64, 65, 66, 67, 68, 69, 70] (by decide +kernel) (by decide +kernel)
set_option maxRecDepth 20000 in
theorem gX2_bestCell_X2_keep : GoodIn wsX2_bestCell (wsV RX2 133 RX2 yX2_keep wsX2_keep) := goodIn_app (goodIn_of _ (by decide +kernel)) ggX2_bestCell_X2_keep
set_option maxRecDepth 20000 in
theorem ggX2_bestCell_X2_cells : GoodIn wsX2_bestCell wsX2_cells := goodIn_r _ [26, 27, 28, 57, 58, 59, 60, 61, 62, 63, 64, 65, 66, 67, 68, 69, 70] (by decide +kernel) (by decide +kernel)
set_option maxRecDepth 20000 in
theorem gX2_bestCell_X2_cells : GoodIn wsX2_bestCell (wsV RX2 68 RX2 yX2_cells wsX2_cells) := goodIn_app (goodIn_of _ (by decide +kernel)) ggX2_bestCell_X2_cells
set_option maxRecDepth 20000 in
theorem ggX2_bestCell_X2_after : GoodIn wsX2_bestCell wsX2_after := goodIn_r _ [32, 33, 34, 35, 5, 36, 37, 2, 19, 20, 21, 22, 23, 24, 25, 26, 27, 28, 38, 39, 40, 41, 42, 43, 44, 45, 46, 47, 48, 49, 50, 51, 52, 53, 54, 55, 56, 18, 57, 58, 59, 60, 61, 62, 63, 64, 65, 66, 67, 68, 69, 70] (by decide +kernel) (by decide +kernel)
set_option maxRecDepth 20000 in
theorem gX2_bestCell_X2_after : GoodIn wsX2_bestCell (wsV RX2 139 RX2 yX2_after wsX2_after) := goodIn_app (goodIn_of _ (by decide +kernel)) ggX2_bestCell_X2_after
theorem dX2_bestCell_0 : decode cX2_bestCell 0 = .ok (.aload_n 0, 1) := by decide +kernel
theorem dX2_bestCell_1 : decode cX2_bestCell 1 = .ok (.iconst 0, 1) := by decide +kernel
theorem dX2_bestCell_2 : decode cX2_bestCell 2 = .ok (.putfield 43, 3) := by decide +kernel
theorem dX2_bestCell_5 : decode cX2_bestCell 5 = .ok (.iload_n 1, 1) := by decide +kernel
theorem dX2_bestCell_6 : decode cX2_bestCell 6 = .ok (.invokestatic 114, 3) := by decide +kernel
theorem dX2_bestCell_9 : decode cX2_bestCell 9 = .ok (.ifCond .ne 9, 3) := by decide +kernel
theorem dX2_bestCell_12 : decode cX2_bestCell 12 = .ok (.aload_n 0, 1) := by decide +kernel
theorem dX2_bestCell_13 : decode cX2_bestCell 13 = .ok (.iconst 1, 1) := by decide +kernel
theorem dX2_bestCell_14 : decode cX2_bestCell 14 = .ok (.invokevirtual 76, 3) := by decide +kernel
theorem dX2_bestCell_17 : decode cX2_bestCell 17 = .ok (.ireturn, 1) := by decide +kernel
theorem dX2_bestCell_18 : decode cX2_bestCell 18 = .ok (.iload_n 2, 1) := by decide +kernel
theorem dX2_bestCell_19 : decode cX2_bestCell 19 = .ok (.iconst 1, 1) := by decide +kernel
theorem dX2_bestCell_20 : decode cX2_bestCell 20 = .ok (.bipush 24, 2) := by decide +kernel
theorem dX2_bestCell_22 : decode cX2_bestCell 22 = .ok (.invokestatic 52, 3) := by decide +kernel
theorem dX2_bestCell_25 : decode cX2_bestCell 25 = .ok (.ifCond .ne 9, 3) := by decide +kernel
theorem dX2_bestCell_28 : decode cX2_bestCell 28 = .ok (.aload_n 0, 1) := by decide +kernel
theorem dX2_bestCell_29 : decode cX2_bestCell 29 = .ok (.iconst 2, 1) := by decide +kernel
theorem dX2_bestCell_30 : decode cX2_bestCell 30 = .ok (.invokevirtual 76, 3) := by decide +kernel
theorem dX2_bestCell_33 : decode cX2_bestCell 33 = .ok (.ireturn, 1) := by decide +kernel
theorem dX2_bestCell_34 : decode cX2_bestCell 34 = .ok (.aload_n 0, 1) := by decide +kernel
theorem dX2_bestCell_35 : decode cX2_bestCell 35 = .ok (.invokevirtual 133, 3) := by decide +kernel
theorem dX2_bestCell_38 : decode cX2_bestCell 38 = .ok (.iconst (-1), 1) := by decide +kernel
theorem dX2_bestCell_39 : decode cX2_bestCell 39 = .ok (.istore_n 3, 1) := by decide +kernel
theorem dX2_bestCell_40 : decode cX2_bestCell 40 = .ok (.iconst (-1), 1) := by decide +kernel
theorem dX2_bestCell_41 : decode cX2_bestCell 41 = .ok (.istore 4, 2) := by decide +kernel
theorem dX2_bestCell_43 : decode cX2_bestCell 43 = .ok (.iconst 0, 1) := by decide +kernel
theorem dX2_bestCell_44 : decode cX2_bestCell 44 = .ok (.istore 5, 2) := by decide +kernel
theorem dX2_bestCell_46 : decode cX2_bestCell 46 = .ok (.iload 5, 2) := by decide +kernel
theorem dX2_bestCell_48 : decode cX2_bestCell 48 = .ok (.aload_n 0, 1) := by decide +kernel
theorem dX2_bestCell_49 : decode cX2_bestCell 49 = .ok (.invokevirtual 68, 3) := by decide +kernel
theorem dX2_bestCell_52 : decode cX2_bestCell 52 = .ok (.if_icmp .ge 42, 3) := by decide +kernel
theorem dX2_bestCell_55 : decode cX2_bestCell 55 = .ok (.aload_n 0, 1) := by decide +kernel
theorem dX2_bestCell_56 : decode cX2_bestCell 56 = .ok (.getfield 13, 3) := by decide +kernel
theorem dX2_bestCell_59 : decode cX2_bestCell 59 = .ok (.iload 5, 2) := by decide +kernel
theorem dX2_bestCell_61 : decode cX2_bestCell 61 = .ok (.iload_n 1, 1) := by decide +kernel
theorem dX2_bestCell_62 : decode cX2_bestCell 62 = .ok (.iastore, 1) := by decide +kernel
theorem dX2_bestCell_63 : decode cX2_bestCell 63 = .ok (.aload_n 0, 1) := by decide +kernel
theorem dX2_bestCell_64 : decode cX2_bestCell 64 = .ok (.iload_n 2, 1) := by decide +kernel
theorem dX2_bestCell_65 : decode cX2_bestCell 65 = .ok (.iload_n 1, 1) := by decide +kernel
theorem dX2_bestCell_66 : decode cX2_bestCell 66 = .ok (.invokevirtual 139, 3) := by decide +kernel
theorem dX2_bestCell_69 : decode cX2_bestCell 69 = .ok (.istore 6, 2) := by decide +kernel
theorem dX2_bestCell_71 : decode cX2_bestCell 71 = .ok (.iload 6, 2) := by decide +kernel
theorem dX2_bestCell_73 : decode cX2_bestCell 73 = .ok (.iload 4, 2) := by decide +kernel
theorem dX2_bestCell_75 : decode cX2_bestCell 75 = .ok (.if_icmp .gt 6, 3) := by decide +kernel
theorem dX2_bestCell_78 : decode cX2_bestCell 78 = .ok (.goto 10, 3) := by decide +kernel
theorem dX2_bestCell_81 : decode cX2_bestCell 81 = .ok (.iload 5, 2) := by decide +kernel
theorem dX2_bestCell_83 : decode cX2_bestCell 83 = .ok (.istore_n 3, 1) := by decide +kernel
theorem dX2_bestCell_84 : decode cX2_bestCell 84 = .ok (.iload 6, 2) := by decide +kernel
theorem dX2_bestCell_86 : decode cX2_bestCell 86 = .ok (.istore 4, 2) := by decide +kernel
theorem dX2_bestCell_88 : decode cX2_bestCell 88 = .ok (.iinc 5 1, 3) := by decide +kernel
theorem dX2_bestCell_91 : decode cX2_bestCell 91 = .ok (.goto (-45), 3) := by decide +kernel
theorem dX2_bestCell_94 : decode cX2_bestCell 94 = .ok (.iload_n 3, 1) := by decide +kernel
theorem dX2_bestCell_95 : decode cX2_bestCell 95 = .ok (.ireturn, 1) := by decide +kernel
set_option maxRecDepth 20000 in
theorem ggX2_share_X2_isAny : GoodIn wsX2_share wsX2_isAny := goodIn_r _ [5, 6, 7, 4, 8] (by decide +kernel) (by decide +kernel)
set_option maxRecDepth 20000 in
theorem gX2_share_X2_isAny : GoodIn wsX2_share (va_wsS RX2 83 yX2_isAny wsX2_isAny) := goodIn_app (goodIn_of _ (by decide +kernel)) ggX2_share_X2_isAny
set_option maxRecDepth 20000 in
theorem ggX2_share_X2_cellsWith : GoodIn wsX2_share wsX2_cellsWith := goodIn_r _ [12, 13, 14, 15, 16, 4, 17, 18, 19, 20, 21, 22, 23, 24, 25, 26, 27, 28, 29, 30, 31, 32, 33] (by decide +kernel) (by decide +kernel)
set_option maxRecDepth 20000 in
theorem gX2_share_X2_cellsWith : GoodIn wsX2_share (wsV RX2 106 RX2 yX2_cellsWith wsX2_cellsWith) := goodIn_app (goodIn_of _ (by decide +kernel)) ggX2_share_X2_cellsWith
set_option maxRecDepth 20000 in
theorem ggX2_share_X2_cells : GoodIn wsX2_share wsX2_cells := goodIn_r _ [17, 18, 19, 20, 21, 22, 23, 24, 25, 26, 27, 28, 29, 30, 31, 32, 33] (by decide +kernel) (by decide +kernel)
set_option maxRecDepth 20000 in
theorem gX2_share_X2_cells : GoodIn wsX2_share (wsV RX2 68 RX2 yX2_cells wsX2_cells) := goodIn_app (goodIn_of _ (by decide +kernel)) ggX2_share_X2_cells
theorem dX2_share_0 : decode cX2_share 0 = .ok (.aload_n 0, 1) := by decide +kernel
theorem dX2_share_1 : decode cX2_share 1 = .ok (.iload_n 1, 1) := by decide +kernel
theorem dX2_share_2 : decode cX2_share 2 = .ok (.invokestatic 83, 3) := by decide +kernel
theorem dX2_share_5 : decode cX2_share 5 = .ok (.ifCond .eq 7, 3) := by decide +kernel
theorem dX2_share_8 : decode cX2_share 8 = .ok (.iconst 0, 1) := by decide +kernel
theorem dX2_share_9 : decode cX2_share 9 = .ok (.goto 4, 3) := by decide +kernel
theorem dX2_share_12 : decode cX2_share 12 = .ok (.iconst 1, 1) := by decide +kernel
theorem dX2_share_13 : decode cX2_share 13 = .ok (.putfield 43, 3) := by decide +kernel
theorem dX2_share_16 : decode cX2_share 16 = .ok (.aload_n 0, 1) := by decide +kernel
theorem dX2_share_17 : decode cX2_share 17 = .ok (.getfield 43, 3) := by decide +kernel
theorem dX2_share_20 : decode cX2_share 20 = .ok (.ifCond .ne 18, 3) := by decide +kernel
theorem dX2_share_23 : decode cX2_share 23 = .ok (.aload_n 0, 1) := by decide +kernel
theorem dX2_share_24 : decode cX2_share 24 = .ok (.iload_n 1, 1) := by decide +kernel
theorem dX2_share_25 : decode cX2_share 25 = .ok (.invokevirtual 106, 3) := by decide +kernel
theorem dX2_share_28 : decode cX2_share 28 = .ok (.i2d, 1) := by decide +kernel
theorem dX2_share_29 : decode cX2_share 29 = .ok (.aload_n 0, 1) := by decide +kernel
theorem dX2_share_30 : decode cX2_share 30 = .ok (.invokevirtual 68, 3) := by decide +kernel
theorem dX2_share_33 : decode cX2_share 33 = .ok (.i2d, 1) := by decide +kernel
theorem dX2_share_34 : decode cX2_share 34 = .ok (.ddiv, 1) := by decide +kernel
theorem dX2_share_35 : decode cX2_share 35 = .ok (.goto 4, 3) := by decide +kernel
theorem dX2_share_38 : decode cX2_share 38 = .ok (.dconst 0, 1) := by decide +kernel
theorem dX2_share_39 : decode cX2_share 39 = .ok (.dreturn, 1) := by decide +kernel
set_option maxRecDepth 20000 in
theorem ggX2_digest_X2_hang : GoodIn wsX2_digest wsX2_hang := goodIn_r _ [15, 16, 17, 9, 18, 19, 20, 14, 21, 3, 4, 22, 23, 24, 25, 26, 27, 28, 73, 74, 75, 76, 77, 78, 79, 80, 81, 82, 83, 84, 85, 86] (by decide +kernel) (by decide +kernel)
set_option maxRecDepth 20000 in
theorem gX2_digest_X2_hang : GoodIn wsX2_digest (wsV RX2 97 RX2 yX2_hang wsX2_hang) := goodIn_app (goodIn_of _ (by decide +kernel)) ggX2_digest_X2_hang
set_option maxRecDepth 20000 in
theorem ggX2_digest_X2_stubbornOnes : GoodIn wsX2_digest wsX2_stubbornOnes := goodIn_r _ [32, 10, 18, 19, 20, 14, 21, 3, 4, 73, 74, 75, 76, 77, 78, 79, 80, 81, 82, 83, 84, 85, 86] (by decide +kernel) (by decide +kernel)
set_option maxRecDepth 20000 in
theorem gX2_digest_X2_stubbornOnes : GoodIn wsX2_digest (wsV RX2 103 RX2 yX2_stubbornOnes wsX2_stubbornOnes) := goodIn_app (goodIn_of _ (by decide +kernel)) ggX2_digest_X2_stubbornOnes
set_option maxRecDepth 20000 in
theorem ggX2_digest_X2_between : GoodIn wsX2_digest wsX2_between := goodIn_r _ [36, 27, 9, 18, 19, 20, 14, 21, 3, 4, 73, 74, 75, 76, 77, 78, 79, 80, 81, 82, 83, 84, 85, 86] (by decide +kernel) (by decide +kernel)
set_option maxRecDepth 20000 in
theorem gX2_digest_X2_between : GoodIn wsX2_digest (wsV RX2 120 RX2 yX2_between wsX2_between) := goodIn_app (goodIn_of _ (by decide +kernel)) ggX2_digest_X2_between
set_option maxRecDepth 20000 in
theorem ggX2_digest_X2_first : GoodIn wsX2_digest wsX2_first := goodIn_r _ [40, 41, 42, 43, 14, 44, 9, 18, 19, 20, 21, 3, 4, 73, 74, 75, 76, 77, 78, 79, 80, 81, 82, 83, 84, 85, 86] (by decide +kernel) (by decide +kernel)
set_option maxRecDepth 20000 in
theorem gX2_digest_X2_first : GoodIn wsX2_digest (wsV RX2 123 RX2 yX2_first wsX2_first) := goodIn_app (goodIn_of _ (by decide +kernel)) ggX2_digest_X2_first
set_option maxRecDepth 20000 in
theorem ggX2_digest_X2_still : GoodIn wsX2_digest wsX2_still := goodIn_r _ [48, 9, 18, 19, 20, 14, 21, 3, 4, 49, 50, 51, 52, 10, 5, 53, 54, 55, 56, 27, 73, 74, 75, 76, 77, 78, 79, 80, 81, 82, 83, 84, 85, 86] (by decide +kernel) (by decide +kernel)
set_option maxRecDepth 20000 in
theorem gX2_digest_X2_still : GoodIn wsX2_digest (wsV RX2 126 RX2 yX2_still wsX2_still) := goodIn_app (goodIn_of _ (by decide +kernel)) ggX2_digest_X2_still
set_option maxRecDepth 20000 in
theorem ggX2_digest_X2_all : GoodIn wsX2_digest wsX2_all := goodIn_r _ [60, 9, 41, 42, 43, 14, 44, 18, 19, 20, 21, 3, 4, 73, 74, 75, 76, 77, 78, 79, 80, 81, 82, 83, 84, 85, 86] (by decide +kernel) (by decide +kernel)
set_option maxRecDepth 20000 in
theorem gX2_digest_X2_all : GoodIn wsX2_digest (wsV RX2 130 RX2 yX2_all wsX2_all) := goodIn_app (goodIn_of _ (by decide +kernel)) ggX2_digest_X2_all
set_option maxRecDepth 20000 in
theorem ggX2_digest_X2_cellsWith : GoodIn wsX2_digest wsX2_cellsWith := goodIn_r _ [44, 9, 18, 19, 20, 14, 21, 3, 4, 73, 74, 75, 76, 77, 78, 79, 80, 81, 82, 83, 84, 85, 86] (by decide +kernel) (by decide +kernel)
set_option maxRecDepth 20000 in
theorem gX2_digest_X2_cellsWith : GoodIn wsX2_digest (wsV RX2 106 RX2 yX2_cellsWith wsX2_cellsWith) := goodIn_app (goodIn_of _ (by decide +kernel)) ggX2_digest_X2_cellsWith
set_option maxRecDepth 20000 in
theorem ggX2_digest_X2_regions : GoodIn wsX2_digest wsX2_regions := goodIn_r _ [64, 9, 65, 66, 67, 68, 17, 18, 19, 20, 14, 21, 3, 4, 69, 70, 71, 72, 28, 73, 74, 75, 76, 77, 78, 79, 80, 81, 82, 83, 84, 85, 86] (by decide +kernel) (by decide +kernel)
set_option maxRecDepth 20000 in
theorem gX2_digest_X2_regions : GoodIn wsX2_digest (wsV RX2 117 RX2 yX2_regions wsX2_regions) := goodIn_app (goodIn_of _ (by decide +kernel)) ggX2_digest_X2_regions
set_option maxRecDepth 20000 in
theorem ggX2_digest_X2_cells : GoodIn wsX2_digest wsX2_cells := goodIn_r _ [21, 3, 4, 73, 74, 75, 76, 77, 78, 79, 80, 81, 82, 83, 84, 85, 86] (by decide +kernel) (by decide +kernel)
set_option maxRecDepth 20000 in
theorem gX2_digest_X2_cells : GoodIn wsX2_digest (wsV RX2 68 RX2 yX2_cells wsX2_cells) := goodIn_app (goodIn_of _ (by decide +kernel)) ggX2_digest_X2_cells
set_option maxRecDepth 20000 in
theorem ggX2_digest_X2_nextOf : GoodIn wsX2_digest wsX2_nextOf := goodIn_r _ [52, 10, 9, 5, 53, 54, 55, 14, 56, 27, 73, 74, 75, 76, 77, 78, 79, 80, 81, 82, 83, 84, 85, 86] (by decide +kernel) (by decide +kernel)
set_option maxRecDepth 20000 in
theorem gX2_digest_X2_nextOf : GoodIn wsX2_digest (wsV RX2 72 RX2 yX2_nextOf wsX2_nextOf) := goodIn_app (goodIn_of _ (by decide +kernel)) ggX2_digest_X2_nextOf
set_option maxRecDepth 20000 in
theorem ggX2_digest_X2_sizeOf : GoodIn wsX2_digest wsX2_sizeOf := goodIn_r _ [72, 9, 28, 17, 73, 74, 75, 76, 77, 78, 79, 80, 81, 82, 83, 84, 85, 86] (by decide +kernel) (by decide +kernel)
set_option maxRecDepth 20000 in
theorem gX2_digest_X2_sizeOf : GoodIn wsX2_digest (wsV RX2 100 RX2 yX2_sizeOf wsX2_sizeOf) := goodIn_app (goodIn_of _ (by decide +kernel)) ggX2_digest_X2_sizeOf
theorem dX2_digest_0 : decode cX2_digest 0 = .ok (.aload_n 0, 1) := by decide +kernel
theorem dX2_digest_1 : decode cX2_digest 1 = .ok (.iconst 0, 1) := by decide +kernel
theorem dX2_digest_2 : decode cX2_digest 2 = .ok (.putfield 43, 3) := by decide +kernel
theorem dX2_digest_5 : decode cX2_digest 5 = .ok (.aload_n 0, 1) := by decide +kernel
theorem dX2_digest_6 : decode cX2_digest 6 = .ok (.invokevirtual 97, 3) := by decide +kernel
theorem dX2_digest_9 : decode cX2_digest 9 = .ok (.bipush 9, 2) := by decide +kernel
theorem dX2_digest_11 : decode cX2_digest 11 = .ok (.newarray .int, 2) := by decide +kernel
theorem dX2_digest_13 : decode cX2_digest 13 = .ok (.dup, 1) := by decide +kernel
theorem dX2_digest_14 : decode cX2_digest 14 = .ok (.iconst 0, 1) := by decide +kernel
theorem dX2_digest_15 : decode cX2_digest 15 = .ok (.aload_n 0, 1) := by decide +kernel
theorem dX2_digest_16 : decode cX2_digest 16 = .ok (.getfield 46, 3) := by decide +kernel
theorem dX2_digest_19 : decode cX2_digest 19 = .ok (.iastore, 1) := by decide +kernel
theorem dX2_digest_20 : decode cX2_digest 20 = .ok (.dup, 1) := by decide +kernel
theorem dX2_digest_21 : decode cX2_digest 21 = .ok (.iconst 1, 1) := by decide +kernel
theorem dX2_digest_22 : decode cX2_digest 22 = .ok (.aload_n 0, 1) := by decide +kernel
theorem dX2_digest_23 : decode cX2_digest 23 = .ok (.getfield 49, 3) := by decide +kernel
theorem dX2_digest_26 : decode cX2_digest 26 = .ok (.iastore, 1) := by decide +kernel
theorem dX2_digest_27 : decode cX2_digest 27 = .ok (.dup, 1) := by decide +kernel
theorem dX2_digest_28 : decode cX2_digest 28 = .ok (.iconst 2, 1) := by decide +kernel
theorem dX2_digest_29 : decode cX2_digest 29 = .ok (.aload_n 0, 1) := by decide +kernel
theorem dX2_digest_30 : decode cX2_digest 30 = .ok (.getfield 7, 3) := by decide +kernel
theorem dX2_digest_33 : decode cX2_digest 33 = .ok (.iastore, 1) := by decide +kernel
theorem dX2_digest_34 : decode cX2_digest 34 = .ok (.dup, 1) := by decide +kernel
theorem dX2_digest_35 : decode cX2_digest 35 = .ok (.iconst 3, 1) := by decide +kernel
theorem dX2_digest_36 : decode cX2_digest 36 = .ok (.aload_n 0, 1) := by decide +kernel
theorem dX2_digest_37 : decode cX2_digest 37 = .ok (.getfield 56, 3) := by decide +kernel
theorem dX2_digest_40 : decode cX2_digest 40 = .ok (.iastore, 1) := by decide +kernel
theorem dX2_digest_41 : decode cX2_digest 41 = .ok (.dup, 1) := by decide +kernel
theorem dX2_digest_42 : decode cX2_digest 42 = .ok (.iconst 4, 1) := by decide +kernel
theorem dX2_digest_43 : decode cX2_digest 43 = .ok (.aload_n 0, 1) := by decide +kernel
theorem dX2_digest_44 : decode cX2_digest 44 = .ok (.invokevirtual 103, 3) := by decide +kernel
theorem dX2_digest_47 : decode cX2_digest 47 = .ok (.iastore, 1) := by decide +kernel
theorem dX2_digest_48 : decode cX2_digest 48 = .ok (.dup, 1) := by decide +kernel
theorem dX2_digest_49 : decode cX2_digest 49 = .ok (.iconst 5, 1) := by decide +kernel
theorem dX2_digest_50 : decode cX2_digest 50 = .ok (.aload_n 0, 1) := by decide +kernel
theorem dX2_digest_51 : decode cX2_digest 51 = .ok (.invokevirtual 120, 3) := by decide +kernel
theorem dX2_digest_54 : decode cX2_digest 54 = .ok (.iastore, 1) := by decide +kernel
theorem dX2_digest_55 : decode cX2_digest 55 = .ok (.dup, 1) := by decide +kernel
theorem dX2_digest_56 : decode cX2_digest 56 = .ok (.bipush 6, 2) := by decide +kernel
theorem dX2_digest_58 : decode cX2_digest 58 = .ok (.aload_n 0, 1) := by decide +kernel
theorem dX2_digest_59 : decode cX2_digest 59 = .ok (.invokevirtual 123, 3) := by decide +kernel
theorem dX2_digest_62 : decode cX2_digest 62 = .ok (.iastore, 1) := by decide +kernel
theorem dX2_digest_63 : decode cX2_digest 63 = .ok (.dup, 1) := by decide +kernel
theorem dX2_digest_64 : decode cX2_digest 64 = .ok (.bipush 7, 2) := by decide +kernel
theorem dX2_digest_66 : decode cX2_digest 66 = .ok (.aload_n 0, 1) := by decide +kernel
theorem dX2_digest_67 : decode cX2_digest 67 = .ok (.invokevirtual 126, 3) := by decide +kernel
theorem dX2_digest_70 : decode cX2_digest 70 = .ok (.ifCond .eq 7, 3) := by decide +kernel
theorem dX2_digest_73 : decode cX2_digest 73 = .ok (.iconst 1, 1) := by decide +kernel
theorem dX2_digest_74 : decode cX2_digest 74 = .ok (.goto 4, 3) := by decide +kernel
theorem dX2_digest_77 : decode cX2_digest 77 = .ok (.iconst 0, 1) := by decide +kernel
theorem dX2_digest_78 : decode cX2_digest 78 = .ok (.iastore, 1) := by decide +kernel
theorem dX2_digest_79 : decode cX2_digest 79 = .ok (.dup, 1) := by decide +kernel
theorem dX2_digest_80 : decode cX2_digest 80 = .ok (.bipush 8, 2) := by decide +kernel
theorem dX2_digest_82 : decode cX2_digest 82 = .ok (.aload_n 0, 1) := by decide +kernel
theorem dX2_digest_83 : decode cX2_digest 83 = .ok (.invokevirtual 130, 3) := by decide +kernel
theorem dX2_digest_86 : decode cX2_digest 86 = .ok (.iastore, 1) := by decide +kernel
theorem dX2_digest_87 : decode cX2_digest 87 = .ok (.astore_n 1, 1) := by decide +kernel
theorem dX2_digest_88 : decode cX2_digest 88 = .ok (.ldc2_w 148, 3) := by decide +kernel
theorem dX2_digest_91 : decode cX2_digest 91 = .ok (.lstore_n 2, 1) := by decide +kernel
theorem dX2_digest_92 : decode cX2_digest 92 = .ok (.aload_n 1, 1) := by decide +kernel
theorem dX2_digest_93 : decode cX2_digest 93 = .ok (.astore 4, 2) := by decide +kernel
theorem dX2_digest_95 : decode cX2_digest 95 = .ok (.aload 4, 2) := by decide +kernel
theorem dX2_digest_97 : decode cX2_digest 97 = .ok (.arraylength, 1) := by decide +kernel
theorem dX2_digest_98 : decode cX2_digest 98 = .ok (.istore 5, 2) := by decide +kernel
theorem dX2_digest_100 : decode cX2_digest 100 = .ok (.iconst 0, 1) := by decide +kernel
theorem dX2_digest_101 : decode cX2_digest 101 = .ok (.istore 6, 2) := by decide +kernel
theorem dX2_digest_103 : decode cX2_digest 103 = .ok (.iload 6, 2) := by decide +kernel
theorem dX2_digest_105 : decode cX2_digest 105 = .ok (.iload 5, 2) := by decide +kernel
theorem dX2_digest_107 : decode cX2_digest 107 = .ok (.if_icmp .ge 26, 3) := by decide +kernel
theorem dX2_digest_110 : decode cX2_digest 110 = .ok (.aload 4, 2) := by decide +kernel
theorem dX2_digest_112 : decode cX2_digest 112 = .ok (.iload 6, 2) := by decide +kernel
theorem dX2_digest_114 : decode cX2_digest 114 = .ok (.iaload, 1) := by decide +kernel
theorem dX2_digest_115 : decode cX2_digest 115 = .ok (.istore 7, 2) := by decide +kernel
theorem dX2_digest_117 : decode cX2_digest 117 = .ok (.lload_n 2, 1) := by decide +kernel
theorem dX2_digest_118 : decode cX2_digest 118 = .ok (.ldc2_w 150, 3) := by decide +kernel
theorem dX2_digest_121 : decode cX2_digest 121 = .ok (.lmul, 1) := by decide +kernel
theorem dX2_digest_122 : decode cX2_digest 122 = .ok (.iload 7, 2) := by decide +kernel
theorem dX2_digest_124 : decode cX2_digest 124 = .ok (.i2l, 1) := by decide +kernel
theorem dX2_digest_125 : decode cX2_digest 125 = .ok (.ladd, 1) := by decide +kernel
theorem dX2_digest_126 : decode cX2_digest 126 = .ok (.lstore_n 2, 1) := by decide +kernel
theorem dX2_digest_127 : decode cX2_digest 127 = .ok (.iinc 6 1, 3) := by decide +kernel
theorem dX2_digest_130 : decode cX2_digest 130 = .ok (.goto (-27), 3) := by decide +kernel
theorem dX2_digest_133 : decode cX2_digest 133 = .ok (.iconst 1, 1) := by decide +kernel
theorem dX2_digest_134 : decode cX2_digest 134 = .ok (.istore 4, 2) := by decide +kernel
theorem dX2_digest_136 : decode cX2_digest 136 = .ok (.iload 4, 2) := by decide +kernel
theorem dX2_digest_138 : decode cX2_digest 138 = .ok (.iconst 4, 1) := by decide +kernel
theorem dX2_digest_139 : decode cX2_digest 139 = .ok (.if_icmp .gt 53, 3) := by decide +kernel
theorem dX2_digest_142 : decode cX2_digest 142 = .ok (.lload_n 2, 1) := by decide +kernel
theorem dX2_digest_143 : decode cX2_digest 143 = .ok (.ldc2_w 150, 3) := by decide +kernel
theorem dX2_digest_146 : decode cX2_digest 146 = .ok (.lmul, 1) := by decide +kernel
theorem dX2_digest_147 : decode cX2_digest 147 = .ok (.aload_n 0, 1) := by decide +kernel
theorem dX2_digest_148 : decode cX2_digest 148 = .ok (.iload 4, 2) := by decide +kernel
theorem dX2_digest_150 : decode cX2_digest 150 = .ok (.invokevirtual 106, 3) := by decide +kernel
theorem dX2_digest_153 : decode cX2_digest 153 = .ok (.i2l, 1) := by decide +kernel
theorem dX2_digest_154 : decode cX2_digest 154 = .ok (.ladd, 1) := by decide +kernel
theorem dX2_digest_155 : decode cX2_digest 155 = .ok (.lstore_n 2, 1) := by decide +kernel
theorem dX2_digest_156 : decode cX2_digest 156 = .ok (.lload_n 2, 1) := by decide +kernel
theorem dX2_digest_157 : decode cX2_digest 157 = .ok (.ldc2_w 150, 3) := by decide +kernel
theorem dX2_digest_160 : decode cX2_digest 160 = .ok (.lmul, 1) := by decide +kernel
theorem dX2_digest_161 : decode cX2_digest 161 = .ok (.aload_n 0, 1) := by decide +kernel
theorem dX2_digest_162 : decode cX2_digest 162 = .ok (.iload 4, 2) := by decide +kernel
theorem dX2_digest_164 : decode cX2_digest 164 = .ok (.iconst 0, 1) := by decide +kernel
theorem dX2_digest_165 : decode cX2_digest 165 = .ok (.invokevirtual 117, 3) := by decide +kernel
theorem dX2_digest_168 : decode cX2_digest 168 = .ok (.i2l, 1) := by decide +kernel
theorem dX2_digest_169 : decode cX2_digest 169 = .ok (.ladd, 1) := by decide +kernel
theorem dX2_digest_170 : decode cX2_digest 170 = .ok (.lstore_n 2, 1) := by decide +kernel
theorem dX2_digest_171 : decode cX2_digest 171 = .ok (.lload_n 2, 1) := by decide +kernel
theorem dX2_digest_172 : decode cX2_digest 172 = .ok (.ldc2_w 150, 3) := by decide +kernel
theorem dX2_digest_175 : decode cX2_digest 175 = .ok (.lmul, 1) := by decide +kernel
theorem dX2_digest_176 : decode cX2_digest 176 = .ok (.aload_n 0, 1) := by decide +kernel
theorem dX2_digest_177 : decode cX2_digest 177 = .ok (.iload 4, 2) := by decide +kernel
theorem dX2_digest_179 : decode cX2_digest 179 = .ok (.iconst 1, 1) := by decide +kernel
theorem dX2_digest_180 : decode cX2_digest 180 = .ok (.invokevirtual 117, 3) := by decide +kernel
theorem dX2_digest_183 : decode cX2_digest 183 = .ok (.i2l, 1) := by decide +kernel
theorem dX2_digest_184 : decode cX2_digest 184 = .ok (.ladd, 1) := by decide +kernel
theorem dX2_digest_185 : decode cX2_digest 185 = .ok (.lstore_n 2, 1) := by decide +kernel
theorem dX2_digest_186 : decode cX2_digest 186 = .ok (.iinc 4 1, 3) := by decide +kernel
theorem dX2_digest_189 : decode cX2_digest 189 = .ok (.goto (-53), 3) := by decide +kernel
theorem dX2_digest_192 : decode cX2_digest 192 = .ok (.iconst 0, 1) := by decide +kernel
theorem dX2_digest_193 : decode cX2_digest 193 = .ok (.istore 4, 2) := by decide +kernel
theorem dX2_digest_195 : decode cX2_digest 195 = .ok (.iload 4, 2) := by decide +kernel
theorem dX2_digest_197 : decode cX2_digest 197 = .ok (.aload_n 0, 1) := by decide +kernel
theorem dX2_digest_198 : decode cX2_digest 198 = .ok (.invokevirtual 68, 3) := by decide +kernel
theorem dX2_digest_201 : decode cX2_digest 201 = .ok (.if_icmp .ge 75, 3) := by decide +kernel
theorem dX2_digest_204 : decode cX2_digest 204 = .ok (.lload_n 2, 1) := by decide +kernel
theorem dX2_digest_205 : decode cX2_digest 205 = .ok (.ldc2_w 150, 3) := by decide +kernel
theorem dX2_digest_208 : decode cX2_digest 208 = .ok (.lmul, 1) := by decide +kernel
theorem dX2_digest_209 : decode cX2_digest 209 = .ok (.aload_n 0, 1) := by decide +kernel
theorem dX2_digest_210 : decode cX2_digest 210 = .ok (.getfield 13, 3) := by decide +kernel
theorem dX2_digest_213 : decode cX2_digest 213 = .ok (.iload 4, 2) := by decide +kernel
theorem dX2_digest_215 : decode cX2_digest 215 = .ok (.iaload, 1) := by decide +kernel
theorem dX2_digest_216 : decode cX2_digest 216 = .ok (.i2l, 1) := by decide +kernel
theorem dX2_digest_217 : decode cX2_digest 217 = .ok (.ladd, 1) := by decide +kernel
theorem dX2_digest_218 : decode cX2_digest 218 = .ok (.lstore_n 2, 1) := by decide +kernel
theorem dX2_digest_219 : decode cX2_digest 219 = .ok (.lload_n 2, 1) := by decide +kernel
theorem dX2_digest_220 : decode cX2_digest 220 = .ok (.ldc2_w 150, 3) := by decide +kernel
theorem dX2_digest_223 : decode cX2_digest 223 = .ok (.lmul, 1) := by decide +kernel
theorem dX2_digest_224 : decode cX2_digest 224 = .ok (.aload_n 0, 1) := by decide +kernel
theorem dX2_digest_225 : decode cX2_digest 225 = .ok (.getfield 20, 3) := by decide +kernel
theorem dX2_digest_228 : decode cX2_digest 228 = .ok (.iload 4, 2) := by decide +kernel
theorem dX2_digest_230 : decode cX2_digest 230 = .ok (.baload, 1) := by decide +kernel
theorem dX2_digest_231 : decode cX2_digest 231 = .ok (.ifCond .eq 7, 3) := by decide +kernel
theorem dX2_digest_234 : decode cX2_digest 234 = .ok (.iconst 1, 1) := by decide +kernel
theorem dX2_digest_235 : decode cX2_digest 235 = .ok (.goto 4, 3) := by decide +kernel
theorem dX2_digest_238 : decode cX2_digest 238 = .ok (.iconst 0, 1) := by decide +kernel
theorem dX2_digest_239 : decode cX2_digest 239 = .ok (.i2l, 1) := by decide +kernel
theorem dX2_digest_240 : decode cX2_digest 240 = .ok (.ladd, 1) := by decide +kernel
theorem dX2_digest_241 : decode cX2_digest 241 = .ok (.lstore_n 2, 1) := by decide +kernel
theorem dX2_digest_242 : decode cX2_digest 242 = .ok (.lload_n 2, 1) := by decide +kernel
theorem dX2_digest_243 : decode cX2_digest 243 = .ok (.ldc2_w 150, 3) := by decide +kernel
theorem dX2_digest_246 : decode cX2_digest 246 = .ok (.lmul, 1) := by decide +kernel
theorem dX2_digest_247 : decode cX2_digest 247 = .ok (.aload_n 0, 1) := by decide +kernel
theorem dX2_digest_248 : decode cX2_digest 248 = .ok (.iload 4, 2) := by decide +kernel
theorem dX2_digest_250 : decode cX2_digest 250 = .ok (.invokevirtual 72, 3) := by decide +kernel
theorem dX2_digest_253 : decode cX2_digest 253 = .ok (.i2l, 1) := by decide +kernel
theorem dX2_digest_254 : decode cX2_digest 254 = .ok (.ladd, 1) := by decide +kernel
theorem dX2_digest_255 : decode cX2_digest 255 = .ok (.lstore_n 2, 1) := by decide +kernel
theorem dX2_digest_256 : decode cX2_digest 256 = .ok (.lload_n 2, 1) := by decide +kernel
theorem dX2_digest_257 : decode cX2_digest 257 = .ok (.ldc2_w 150, 3) := by decide +kernel
theorem dX2_digest_260 : decode cX2_digest 260 = .ok (.lmul, 1) := by decide +kernel
theorem dX2_digest_261 : decode cX2_digest 261 = .ok (.aload_n 0, 1) := by decide +kernel
theorem dX2_digest_262 : decode cX2_digest 262 = .ok (.iload 4, 2) := by decide +kernel
theorem dX2_digest_264 : decode cX2_digest 264 = .ok (.invokevirtual 100, 3) := by decide +kernel
theorem dX2_digest_267 : decode cX2_digest 267 = .ok (.i2l, 1) := by decide +kernel
theorem dX2_digest_268 : decode cX2_digest 268 = .ok (.ladd, 1) := by decide +kernel
theorem dX2_digest_269 : decode cX2_digest 269 = .ok (.lstore_n 2, 1) := by decide +kernel
theorem dX2_digest_270 : decode cX2_digest 270 = .ok (.iinc 4 1, 3) := by decide +kernel
theorem dX2_digest_273 : decode cX2_digest 273 = .ok (.goto (-78), 3) := by decide +kernel
theorem dX2_digest_276 : decode cX2_digest 276 = .ok (.lload_n 2, 1) := by decide +kernel
theorem dX2_digest_277 : decode cX2_digest 277 = .ok (.lreturn, 1) := by decide +kernel
