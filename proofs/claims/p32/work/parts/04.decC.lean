theorem dX0_init_0 : decode cX0_init 0 = .ok (.aload_n 0, 1) := by decide +kernel
theorem dX0_init_1 : decode cX0_init 1 = .ok (.invokespecial 3, 3) := by decide +kernel
theorem dX0_init_4 : decode cX0_init 4 = .ok (.aload_n 0, 1) := by decide +kernel
theorem dX0_init_5 : decode cX0_init 5 = .ok (.iconst 2, 1) := by decide +kernel
theorem dX0_init_6 : decode cX0_init 6 = .ok (.putfield 9, 3) := by decide +kernel
theorem dX0_init_9 : decode cX0_init 9 = .ok (.aload_n 0, 1) := by decide +kernel
theorem dX0_init_10 : decode cX0_init 10 = .ok (.iconst 5, 1) := by decide +kernel
theorem dX0_init_11 : decode cX0_init 11 = .ok (.newarray .int, 2) := by decide +kernel
theorem dX0_init_13 : decode cX0_init 13 = .ok (.putfield 15, 3) := by decide +kernel
theorem dX0_init_16 : decode cX0_init 16 = .ok (.aload_n 0, 1) := by decide +kernel
theorem dX0_init_17 : decode cX0_init 17 = .ok (.iconst 5, 1) := by decide +kernel
theorem dX0_init_18 : decode cX0_init 18 = .ok (.newarray .int, 2) := by decide +kernel
theorem dX0_init_20 : decode cX0_init 20 = .ok (.putfield 19, 3) := by decide +kernel
theorem dX0_init_23 : decode cX0_init 23 = .ok (.aload_n 0, 1) := by decide +kernel
theorem dX0_init_24 : decode cX0_init 24 = .ok (.iconst 5, 1) := by decide +kernel
theorem dX0_init_25 : decode cX0_init 25 = .ok (.newarray .int, 2) := by decide +kernel
theorem dX0_init_27 : decode cX0_init 27 = .ok (.putfield 22, 3) := by decide +kernel
theorem dX0_init_30 : decode cX0_init 30 = .ok (.return_, 1) := by decide +kernel
theorem dX0_clear_0 : decode cX0_clear 0 = .ok (.aload_n 0, 1) := by decide +kernel
theorem dX0_clear_1 : decode cX0_clear 1 = .ok (.iconst 0, 1) := by decide +kernel
theorem dX0_clear_2 : decode cX0_clear 2 = .ok (.putfield 25, 3) := by decide +kernel
theorem dX0_clear_5 : decode cX0_clear 5 = .ok (.iconst 0, 1) := by decide +kernel
theorem dX0_clear_6 : decode cX0_clear 6 = .ok (.istore_n 3, 1) := by decide +kernel
theorem dX0_clear_7 : decode cX0_clear 7 = .ok (.iload_n 3, 1) := by decide +kernel
theorem dX0_clear_8 : decode cX0_clear 8 = .ok (.iload_n 2, 1) := by decide +kernel
theorem dX0_clear_9 : decode cX0_clear 9 = .ok (.if_icmp .ge 39, 3) := by decide +kernel
theorem dX0_clear_12 : decode cX0_clear 12 = .ok (.iconst 0, 1) := by decide +kernel
theorem dX0_clear_13 : decode cX0_clear 13 = .ok (.istore 4, 2) := by decide +kernel
theorem dX0_clear_15 : decode cX0_clear 15 = .ok (.iload 4, 2) := by decide +kernel
theorem dX0_clear_17 : decode cX0_clear 17 = .ok (.iload_n 1, 1) := by decide +kernel
theorem dX0_clear_18 : decode cX0_clear 18 = .ok (.if_icmp .ge 24, 3) := by decide +kernel
theorem dX0_clear_21 : decode cX0_clear 21 = .ok (.aload_n 0, 1) := by decide +kernel
theorem dX0_clear_22 : decode cX0_clear 22 = .ok (.dup, 1) := by decide +kernel
theorem dX0_clear_23 : decode cX0_clear 23 = .ok (.getfield 25, 3) := by decide +kernel
theorem dX0_clear_26 : decode cX0_clear 26 = .ok (.iload 4, 2) := by decide +kernel
theorem dX0_clear_28 : decode cX0_clear 28 = .ok (.iload_n 3, 1) := by decide +kernel
theorem dX0_clear_29 : decode cX0_clear 29 = .ok (.invokestatic 28, 3) := by decide +kernel
theorem dX0_clear_32 : decode cX0_clear 32 = .ok (.ior, 1) := by decide +kernel
theorem dX0_clear_33 : decode cX0_clear 33 = .ok (.putfield 25, 3) := by decide +kernel
theorem dX0_clear_36 : decode cX0_clear 36 = .ok (.iinc 4 1, 3) := by decide +kernel
theorem dX0_clear_39 : decode cX0_clear 39 = .ok (.goto (-24), 3) := by decide +kernel
theorem dX0_clear_42 : decode cX0_clear 42 = .ok (.iinc 3 1, 3) := by decide +kernel
theorem dX0_clear_45 : decode cX0_clear 45 = .ok (.goto (-38), 3) := by decide +kernel
theorem dX0_clear_48 : decode cX0_clear 48 = .ok (.aload_n 0, 1) := by decide +kernel
theorem dX0_clear_49 : decode cX0_clear 49 = .ok (.iconst 0, 1) := by decide +kernel
theorem dX0_clear_50 : decode cX0_clear 50 = .ok (.putfield 32, 3) := by decide +kernel
theorem dX0_clear_53 : decode cX0_clear 53 = .ok (.iconst 0, 1) := by decide +kernel
theorem dX0_clear_54 : decode cX0_clear 54 = .ok (.istore_n 3, 1) := by decide +kernel
theorem dX0_clear_55 : decode cX0_clear 55 = .ok (.iload_n 3, 1) := by decide +kernel
theorem dX0_clear_56 : decode cX0_clear 56 = .ok (.iconst 5, 1) := by decide +kernel
theorem dX0_clear_57 : decode cX0_clear 57 = .ok (.if_icmp .ge 27, 3) := by decide +kernel
theorem dX0_clear_60 : decode cX0_clear 60 = .ok (.aload_n 0, 1) := by decide +kernel
theorem dX0_clear_61 : decode cX0_clear 61 = .ok (.getfield 15, 3) := by decide +kernel
theorem dX0_clear_64 : decode cX0_clear 64 = .ok (.iload_n 3, 1) := by decide +kernel
theorem dX0_clear_65 : decode cX0_clear 65 = .ok (.iload_n 3, 1) := by decide +kernel
theorem dX0_clear_66 : decode cX0_clear 66 = .ok (.ifCond .ne 10, 3) := by decide +kernel
theorem dX0_clear_69 : decode cX0_clear 69 = .ok (.aload_n 0, 1) := by decide +kernel
theorem dX0_clear_70 : decode cX0_clear 70 = .ok (.getfield 25, 3) := by decide +kernel
theorem dX0_clear_73 : decode cX0_clear 73 = .ok (.goto 4, 3) := by decide +kernel
theorem dX0_clear_76 : decode cX0_clear 76 = .ok (.iconst 0, 1) := by decide +kernel
theorem dX0_clear_77 : decode cX0_clear 77 = .ok (.iastore, 1) := by decide +kernel
theorem dX0_clear_78 : decode cX0_clear 78 = .ok (.iinc 3 1, 3) := by decide +kernel
theorem dX0_clear_81 : decode cX0_clear 81 = .ok (.goto (-26), 3) := by decide +kernel
theorem dX0_clear_84 : decode cX0_clear 84 = .ok (.return_, 1) := by decide +kernel
theorem dX0_cellsWith_0 : decode cX0_cellsWith 0 = .ok (.iload_n 1, 1) := by decide +kernel
theorem dX0_cellsWith_1 : decode cX0_cellsWith 1 = .ok (.ifCond .lt 17, 3) := by decide +kernel
theorem dX0_cellsWith_4 : decode cX0_cellsWith 4 = .ok (.iload_n 1, 1) := by decide +kernel
theorem dX0_cellsWith_5 : decode cX0_cellsWith 5 = .ok (.iconst 5, 1) := by decide +kernel
theorem dX0_cellsWith_6 : decode cX0_cellsWith 6 = .ok (.if_icmp .ge 12, 3) := by decide +kernel
theorem dX0_cellsWith_9 : decode cX0_cellsWith 9 = .ok (.aload_n 0, 1) := by decide +kernel
theorem dX0_cellsWith_10 : decode cX0_cellsWith 10 = .ok (.getfield 15, 3) := by decide +kernel
theorem dX0_cellsWith_13 : decode cX0_cellsWith 13 = .ok (.iload_n 1, 1) := by decide +kernel
theorem dX0_cellsWith_14 : decode cX0_cellsWith 14 = .ok (.iaload, 1) := by decide +kernel
theorem dX0_cellsWith_15 : decode cX0_cellsWith 15 = .ok (.goto 4, 3) := by decide +kernel
theorem dX0_cellsWith_18 : decode cX0_cellsWith 18 = .ok (.iconst 0, 1) := by decide +kernel
theorem dX0_cellsWith_19 : decode cX0_cellsWith 19 = .ok (.ireturn, 1) := by decide +kernel
theorem dX0_count_0 : decode cX0_count 0 = .ok (.aload_n 0, 1) := by decide +kernel
theorem dX0_count_1 : decode cX0_count 1 = .ok (.iload_n 1, 1) := by decide +kernel
theorem dX0_count_2 : decode cX0_count 2 = .ok (.invokevirtual 35, 3) := by decide +kernel
theorem dX0_count_5 : decode cX0_count 5 = .ok (.invokestatic 39, 3) := by decide +kernel
theorem dX0_count_8 : decode cX0_count 8 = .ok (.ireturn, 1) := by decide +kernel
theorem dX0_isAll_0 : decode cX0_isAll 0 = .ok (.aload_n 0, 1) := by decide +kernel
theorem dX0_isAll_1 : decode cX0_isAll 1 = .ok (.iload_n 1, 1) := by decide +kernel
theorem dX0_isAll_2 : decode cX0_isAll 2 = .ok (.invokevirtual 35, 3) := by decide +kernel
theorem dX0_isAll_5 : decode cX0_isAll 5 = .ok (.aload_n 0, 1) := by decide +kernel
theorem dX0_isAll_6 : decode cX0_isAll 6 = .ok (.getfield 25, 3) := by decide +kernel
theorem dX0_isAll_9 : decode cX0_isAll 9 = .ok (.if_icmp .ne 7, 3) := by decide +kernel
theorem dX0_isAll_12 : decode cX0_isAll 12 = .ok (.iconst 1, 1) := by decide +kernel
theorem dX0_isAll_13 : decode cX0_isAll 13 = .ok (.goto 4, 3) := by decide +kernel
theorem dX0_isAll_16 : decode cX0_isAll 16 = .ok (.iconst 0, 1) := by decide +kernel
theorem dX0_isAll_17 : decode cX0_isAll 17 = .ok (.ireturn, 1) := by decide +kernel
theorem dX0_colourOf_0 : decode cX0_colourOf 0 = .ok (.iload_n 1, 1) := by decide +kernel
theorem dX0_colourOf_1 : decode cX0_colourOf 1 = .ok (.aload_n 0, 1) := by decide +kernel
theorem dX0_colourOf_2 : decode cX0_colourOf 2 = .ok (.getfield 15, 3) := by decide +kernel
theorem dX0_colourOf_5 : decode cX0_colourOf 5 = .ok (.invokestatic 44, 3) := by decide +kernel
theorem dX0_colourOf_8 : decode cX0_colourOf 8 = .ok (.ireturn, 1) := by decide +kernel
theorem dX0_dye_0 : decode cX0_dye 0 = .ok (.iconst 0, 1) := by decide +kernel
theorem dX0_dye_1 : decode cX0_dye 1 = .ok (.istore_n 3, 1) := by decide +kernel
theorem dX0_dye_2 : decode cX0_dye 2 = .ok (.iload_n 3, 1) := by decide +kernel
theorem dX0_dye_3 : decode cX0_dye 3 = .ok (.iconst 5, 1) := by decide +kernel
theorem dX0_dye_4 : decode cX0_dye 4 = .ok (.if_icmp .ge 41, 3) := by decide +kernel
theorem dX0_dye_7 : decode cX0_dye 7 = .ok (.aload_n 0, 1) := by decide +kernel
theorem dX0_dye_8 : decode cX0_dye 8 = .ok (.getfield 15, 3) := by decide +kernel
theorem dX0_dye_11 : decode cX0_dye 11 = .ok (.iload_n 3, 1) := by decide +kernel
theorem dX0_dye_12 : decode cX0_dye 12 = .ok (.iload_n 3, 1) := by decide +kernel
theorem dX0_dye_13 : decode cX0_dye 13 = .ok (.iload_n 2, 1) := by decide +kernel
theorem dX0_dye_14 : decode cX0_dye 14 = .ok (.if_icmp .ne 14, 3) := by decide +kernel
theorem dX0_dye_17 : decode cX0_dye 17 = .ok (.aload_n 0, 1) := by decide +kernel
theorem dX0_dye_18 : decode cX0_dye 18 = .ok (.getfield 15, 3) := by decide +kernel
theorem dX0_dye_21 : decode cX0_dye 21 = .ok (.iload_n 3, 1) := by decide +kernel
theorem dX0_dye_22 : decode cX0_dye 22 = .ok (.iaload, 1) := by decide +kernel
theorem dX0_dye_23 : decode cX0_dye 23 = .ok (.iload_n 1, 1) := by decide +kernel
theorem dX0_dye_24 : decode cX0_dye 24 = .ok (.ior, 1) := by decide +kernel
theorem dX0_dye_25 : decode cX0_dye 25 = .ok (.goto 13, 3) := by decide +kernel
theorem dX0_dye_28 : decode cX0_dye 28 = .ok (.aload_n 0, 1) := by decide +kernel
theorem dX0_dye_29 : decode cX0_dye 29 = .ok (.getfield 15, 3) := by decide +kernel
theorem dX0_dye_32 : decode cX0_dye 32 = .ok (.iload_n 3, 1) := by decide +kernel
theorem dX0_dye_33 : decode cX0_dye 33 = .ok (.iaload, 1) := by decide +kernel
theorem dX0_dye_34 : decode cX0_dye 34 = .ok (.iload_n 1, 1) := by decide +kernel
theorem dX0_dye_35 : decode cX0_dye 35 = .ok (.iconst (-1), 1) := by decide +kernel
theorem dX0_dye_36 : decode cX0_dye 36 = .ok (.ixor, 1) := by decide +kernel
theorem dX0_dye_37 : decode cX0_dye 37 = .ok (.iand, 1) := by decide +kernel
theorem dX0_dye_38 : decode cX0_dye 38 = .ok (.iastore, 1) := by decide +kernel
theorem dX0_dye_39 : decode cX0_dye 39 = .ok (.iinc 3 1, 3) := by decide +kernel
theorem dX0_dye_42 : decode cX0_dye 42 = .ok (.goto (-40), 3) := by decide +kernel
theorem dX0_dye_45 : decode cX0_dye 45 = .ok (.return_, 1) := by decide +kernel
theorem dX0_surge_0 : decode cX0_surge 0 = .ok (.iconst 0, 1) := by decide +kernel
theorem dX0_surge_1 : decode cX0_surge 1 = .ok (.istore_n 2, 1) := by decide +kernel
theorem dX0_surge_2 : decode cX0_surge 2 = .ok (.iconst 0, 1) := by decide +kernel
theorem dX0_surge_3 : decode cX0_surge 3 = .ok (.istore_n 3, 1) := by decide +kernel
theorem dX0_surge_4 : decode cX0_surge 4 = .ok (.iload_n 3, 1) := by decide +kernel
theorem dX0_surge_5 : decode cX0_surge 5 = .ok (.iload_n 1, 1) := by decide +kernel
theorem dX0_surge_6 : decode cX0_surge 6 = .ok (.if_icmp .ge 25, 3) := by decide +kernel
theorem dX0_surge_9 : decode cX0_surge 9 = .ok (.aload_n 0, 1) := by decide +kernel
theorem dX0_surge_10 : decode cX0_surge 10 = .ok (.invokevirtual 48, 3) := by decide +kernel
theorem dX0_surge_13 : decode cX0_surge 13 = .ok (.istore_n 2, 1) := by decide +kernel
theorem dX0_surge_14 : decode cX0_surge 14 = .ok (.iload_n 2, 1) := by decide +kernel
theorem dX0_surge_15 : decode cX0_surge 15 = .ok (.ifCond .ne 5, 3) := by decide +kernel
theorem dX0_surge_18 : decode cX0_surge 18 = .ok (.iconst 0, 1) := by decide +kernel
theorem dX0_surge_19 : decode cX0_surge 19 = .ok (.ireturn, 1) := by decide +kernel
theorem dX0_surge_20 : decode cX0_surge 20 = .ok (.aload_n 0, 1) := by decide +kernel
theorem dX0_surge_21 : decode cX0_surge 21 = .ok (.iload_n 2, 1) := by decide +kernel
theorem dX0_surge_22 : decode cX0_surge 22 = .ok (.invokevirtual 52, 3) := by decide +kernel
theorem dX0_surge_25 : decode cX0_surge 25 = .ok (.iinc 3 1, 3) := by decide +kernel
theorem dX0_surge_28 : decode cX0_surge 28 = .ok (.goto (-24), 3) := by decide +kernel
theorem dX0_surge_31 : decode cX0_surge 31 = .ok (.iload_n 2, 1) := by decide +kernel
theorem dX0_surge_32 : decode cX0_surge 32 = .ok (.ireturn, 1) := by decide +kernel
theorem dX0_foresee_0 : decode cX0_foresee 0 = .ok (.iconst 0, 1) := by decide +kernel
theorem dX0_foresee_1 : decode cX0_foresee 1 = .ok (.istore_n 1, 1) := by decide +kernel
theorem dX0_foresee_2 : decode cX0_foresee 2 = .ok (.iload_n 1, 1) := by decide +kernel
theorem dX0_foresee_3 : decode cX0_foresee 3 = .ok (.iconst 5, 1) := by decide +kernel
theorem dX0_foresee_4 : decode cX0_foresee 4 = .ok (.if_icmp .ge 16, 3) := by decide +kernel
theorem dX0_foresee_7 : decode cX0_foresee 7 = .ok (.aload_n 0, 1) := by decide +kernel
theorem dX0_foresee_8 : decode cX0_foresee 8 = .ok (.getfield 22, 3) := by decide +kernel
theorem dX0_foresee_11 : decode cX0_foresee 11 = .ok (.iload_n 1, 1) := by decide +kernel
theorem dX0_foresee_12 : decode cX0_foresee 12 = .ok (.iconst 0, 1) := by decide +kernel
theorem dX0_foresee_13 : decode cX0_foresee 13 = .ok (.iastore, 1) := by decide +kernel
theorem dX0_foresee_14 : decode cX0_foresee 14 = .ok (.iinc 1 1, 3) := by decide +kernel
theorem dX0_foresee_17 : decode cX0_foresee 17 = .ok (.goto (-15), 3) := by decide +kernel
theorem dX0_foresee_20 : decode cX0_foresee 20 = .ok (.aload_n 0, 1) := by decide +kernel
theorem dX0_foresee_21 : decode cX0_foresee 21 = .ok (.getfield 9, 3) := by decide +kernel
theorem dX0_foresee_24 : decode cX0_foresee 24 = .ok (.istore_n 1, 1) := by decide +kernel
theorem dX0_foresee_25 : decode cX0_foresee 25 = .ok (.iload_n 1, 1) := by decide +kernel
theorem dX0_foresee_26 : decode cX0_foresee 26 = .ok (.iconst 4, 1) := by decide +kernel
theorem dX0_foresee_27 : decode cX0_foresee 27 = .ok (.if_icmp .gt 14, 3) := by decide +kernel
theorem dX0_foresee_30 : decode cX0_foresee 30 = .ok (.aload_n 0, 1) := by decide +kernel
theorem dX0_foresee_31 : decode cX0_foresee 31 = .ok (.iload_n 1, 1) := by decide +kernel
theorem dX0_foresee_32 : decode cX0_foresee 32 = .ok (.invokevirtual 56, 3) := by decide +kernel
theorem dX0_foresee_35 : decode cX0_foresee 35 = .ok (.iinc 1 1, 3) := by decide +kernel
theorem dX0_foresee_38 : decode cX0_foresee 38 = .ok (.goto (-13), 3) := by decide +kernel
theorem dX0_foresee_41 : decode cX0_foresee 41 = .ok (.iconst 0, 1) := by decide +kernel
theorem dX0_foresee_42 : decode cX0_foresee 42 = .ok (.istore_n 1, 1) := by decide +kernel
theorem dX0_foresee_43 : decode cX0_foresee 43 = .ok (.iconst 1, 1) := by decide +kernel
theorem dX0_foresee_44 : decode cX0_foresee 44 = .ok (.istore_n 2, 1) := by decide +kernel
theorem dX0_foresee_45 : decode cX0_foresee 45 = .ok (.iload_n 2, 1) := by decide +kernel
theorem dX0_foresee_46 : decode cX0_foresee 46 = .ok (.iconst 5, 1) := by decide +kernel
theorem dX0_foresee_47 : decode cX0_foresee 47 = .ok (.if_icmp .ge 27, 3) := by decide +kernel
theorem dX0_foresee_50 : decode cX0_foresee 50 = .ok (.iload_n 1, 1) := by decide +kernel
theorem dX0_foresee_51 : decode cX0_foresee 51 = .ok (.aload_n 0, 1) := by decide +kernel
theorem dX0_foresee_52 : decode cX0_foresee 52 = .ok (.getfield 22, 3) := by decide +kernel
theorem dX0_foresee_55 : decode cX0_foresee 55 = .ok (.iload_n 2, 1) := by decide +kernel
theorem dX0_foresee_56 : decode cX0_foresee 56 = .ok (.iaload, 1) := by decide +kernel
theorem dX0_foresee_57 : decode cX0_foresee 57 = .ok (.aload_n 0, 1) := by decide +kernel
theorem dX0_foresee_58 : decode cX0_foresee 58 = .ok (.getfield 15, 3) := by decide +kernel
theorem dX0_foresee_61 : decode cX0_foresee 61 = .ok (.iload_n 2, 1) := by decide +kernel
theorem dX0_foresee_62 : decode cX0_foresee 62 = .ok (.iaload, 1) := by decide +kernel
theorem dX0_foresee_63 : decode cX0_foresee 63 = .ok (.iconst (-1), 1) := by decide +kernel
theorem dX0_foresee_64 : decode cX0_foresee 64 = .ok (.ixor, 1) := by decide +kernel
theorem dX0_foresee_65 : decode cX0_foresee 65 = .ok (.iand, 1) := by decide +kernel
theorem dX0_foresee_66 : decode cX0_foresee 66 = .ok (.ior, 1) := by decide +kernel
theorem dX0_foresee_67 : decode cX0_foresee 67 = .ok (.istore_n 1, 1) := by decide +kernel
theorem dX0_foresee_68 : decode cX0_foresee 68 = .ok (.iinc 2 1, 3) := by decide +kernel
theorem dX0_foresee_71 : decode cX0_foresee 71 = .ok (.goto (-26), 3) := by decide +kernel
theorem dX0_foresee_74 : decode cX0_foresee 74 = .ok (.iload_n 1, 1) := by decide +kernel
theorem dX0_foresee_75 : decode cX0_foresee 75 = .ok (.ireturn, 1) := by decide +kernel
theorem dX0_foreseenColourOf_0 : decode cX0_foreseenColourOf 0 = .ok (.iload_n 1, 1) := by decide +kernel
theorem dX0_foreseenColourOf_1 : decode cX0_foreseenColourOf 1 = .ok (.aload_n 0, 1) := by decide +kernel
theorem dX0_foreseenColourOf_2 : decode cX0_foreseenColourOf 2 = .ok (.getfield 22, 3) := by decide +kernel
theorem dX0_foreseenColourOf_5 : decode cX0_foreseenColourOf 5 = .ok (.invokestatic 44, 3) := by decide +kernel
theorem dX0_foreseenColourOf_8 : decode cX0_foreseenColourOf 8 = .ok (.istore_n 2, 1) := by decide +kernel
theorem dX0_foreseenColourOf_9 : decode cX0_foreseenColourOf 9 = .ok (.iload_n 2, 1) := by decide +kernel
theorem dX0_foreseenColourOf_10 : decode cX0_foreseenColourOf 10 = .ok (.ifCond .ne 11, 3) := by decide +kernel
theorem dX0_foreseenColourOf_13 : decode cX0_foreseenColourOf 13 = .ok (.aload_n 0, 1) := by decide +kernel
theorem dX0_foreseenColourOf_14 : decode cX0_foreseenColourOf 14 = .ok (.iload_n 1, 1) := by decide +kernel
theorem dX0_foreseenColourOf_15 : decode cX0_foreseenColourOf 15 = .ok (.invokevirtual 59, 3) := by decide +kernel
theorem dX0_foreseenColourOf_18 : decode cX0_foreseenColourOf 18 = .ok (.goto 4, 3) := by decide +kernel
theorem dX0_foreseenColourOf_21 : decode cX0_foreseenColourOf 21 = .ok (.iload_n 2, 1) := by decide +kernel
theorem dX0_foreseenColourOf_22 : decode cX0_foreseenColourOf 22 = .ok (.ireturn, 1) := by decide +kernel
theorem dX0_sizeOfRegion_0 : decode cX0_sizeOfRegion 0 = .ok (.aload_n 0, 1) := by decide +kernel
theorem dX0_sizeOfRegion_1 : decode cX0_sizeOfRegion 1 = .ok (.iload_n 1, 1) := by decide +kernel
theorem dX0_sizeOfRegion_2 : decode cX0_sizeOfRegion 2 = .ok (.invokevirtual 59, 3) := by decide +kernel
theorem dX0_sizeOfRegion_5 : decode cX0_sizeOfRegion 5 = .ok (.istore_n 2, 1) := by decide +kernel
theorem dX0_sizeOfRegion_6 : decode cX0_sizeOfRegion 6 = .ok (.iload_n 2, 1) := by decide +kernel
theorem dX0_sizeOfRegion_7 : decode cX0_sizeOfRegion 7 = .ok (.ifCond .ne 7, 3) := by decide +kernel
theorem dX0_sizeOfRegion_10 : decode cX0_sizeOfRegion 10 = .ok (.iconst 0, 1) := by decide +kernel
theorem dX0_sizeOfRegion_11 : decode cX0_sizeOfRegion 11 = .ok (.goto 15, 3) := by decide +kernel
theorem dX0_sizeOfRegion_14 : decode cX0_sizeOfRegion 14 = .ok (.iload_n 1, 1) := by decide +kernel
theorem dX0_sizeOfRegion_15 : decode cX0_sizeOfRegion 15 = .ok (.aload_n 0, 1) := by decide +kernel
theorem dX0_sizeOfRegion_16 : decode cX0_sizeOfRegion 16 = .ok (.iload_n 2, 1) := by decide +kernel
theorem dX0_sizeOfRegion_17 : decode cX0_sizeOfRegion 17 = .ok (.invokevirtual 35, 3) := by decide +kernel
theorem dX0_sizeOfRegion_20 : decode cX0_sizeOfRegion 20 = .ok (.invokestatic 62, 3) := by decide +kernel
theorem dX0_sizeOfRegion_23 : decode cX0_sizeOfRegion 23 = .ok (.invokestatic 39, 3) := by decide +kernel
theorem dX0_sizeOfRegion_26 : decode cX0_sizeOfRegion 26 = .ok (.ireturn, 1) := by decide +kernel
theorem dX0_countRegions_0 : decode cX0_countRegions 0 = .ok (.aload_n 0, 1) := by decide +kernel
theorem dX0_countRegions_1 : decode cX0_countRegions 1 = .ok (.iload_n 1, 1) := by decide +kernel
theorem dX0_countRegions_2 : decode cX0_countRegions 2 = .ok (.invokevirtual 35, 3) := by decide +kernel
theorem dX0_countRegions_5 : decode cX0_countRegions 5 = .ok (.istore_n 2, 1) := by decide +kernel
theorem dX0_countRegions_6 : decode cX0_countRegions 6 = .ok (.iconst 0, 1) := by decide +kernel
theorem dX0_countRegions_7 : decode cX0_countRegions 7 = .ok (.istore_n 3, 1) := by decide +kernel
theorem dX0_countRegions_8 : decode cX0_countRegions 8 = .ok (.iconst 0, 1) := by decide +kernel
theorem dX0_countRegions_9 : decode cX0_countRegions 9 = .ok (.istore 4, 2) := by decide +kernel
theorem dX0_countRegions_11 : decode cX0_countRegions 11 = .ok (.iload 4, 2) := by decide +kernel
theorem dX0_countRegions_13 : decode cX0_countRegions 13 = .ok (.bipush 25, 2) := by decide +kernel
theorem dX0_countRegions_15 : decode cX0_countRegions 15 = .ok (.if_icmp .ge 29, 3) := by decide +kernel
theorem dX0_countRegions_18 : decode cX0_countRegions 18 = .ok (.iload_n 2, 1) := by decide +kernel
theorem dX0_countRegions_19 : decode cX0_countRegions 19 = .ok (.ifCond .eq 25, 3) := by decide +kernel
theorem dX0_countRegions_22 : decode cX0_countRegions 22 = .ok (.iload_n 2, 1) := by decide +kernel
theorem dX0_countRegions_23 : decode cX0_countRegions 23 = .ok (.iload_n 2, 1) := by decide +kernel
theorem dX0_countRegions_24 : decode cX0_countRegions 24 = .ok (.iload_n 2, 1) := by decide +kernel
theorem dX0_countRegions_25 : decode cX0_countRegions 25 = .ok (.ineg, 1) := by decide +kernel
theorem dX0_countRegions_26 : decode cX0_countRegions 26 = .ok (.iand, 1) := by decide +kernel
theorem dX0_countRegions_27 : decode cX0_countRegions 27 = .ok (.iload_n 2, 1) := by decide +kernel
theorem dX0_countRegions_28 : decode cX0_countRegions 28 = .ok (.invokestatic 62, 3) := by decide +kernel
theorem dX0_countRegions_31 : decode cX0_countRegions 31 = .ok (.iconst (-1), 1) := by decide +kernel
theorem dX0_countRegions_32 : decode cX0_countRegions 32 = .ok (.ixor, 1) := by decide +kernel
theorem dX0_countRegions_33 : decode cX0_countRegions 33 = .ok (.iand, 1) := by decide +kernel
theorem dX0_countRegions_34 : decode cX0_countRegions 34 = .ok (.istore_n 2, 1) := by decide +kernel
theorem dX0_countRegions_35 : decode cX0_countRegions 35 = .ok (.iinc 3 1, 3) := by decide +kernel
theorem dX0_countRegions_38 : decode cX0_countRegions 38 = .ok (.iinc 4 1, 3) := by decide +kernel
theorem dX0_countRegions_41 : decode cX0_countRegions 41 = .ok (.goto (-30), 3) := by decide +kernel
theorem dX0_countRegions_44 : decode cX0_countRegions 44 = .ok (.iload_n 3, 1) := by decide +kernel
theorem dX0_countRegions_45 : decode cX0_countRegions 45 = .ok (.ireturn, 1) := by decide +kernel
theorem dX0_sizeOfGreatestRegion_0 : decode cX0_sizeOfGreatestRegion 0 = .ok (.aload_n 0, 1) := by decide +kernel
theorem dX0_sizeOfGreatestRegion_1 : decode cX0_sizeOfGreatestRegion 1 = .ok (.iload_n 1, 1) := by decide +kernel
theorem dX0_sizeOfGreatestRegion_2 : decode cX0_sizeOfGreatestRegion 2 = .ok (.invokevirtual 35, 3) := by decide +kernel
theorem dX0_sizeOfGreatestRegion_5 : decode cX0_sizeOfGreatestRegion 5 = .ok (.istore_n 2, 1) := by decide +kernel
theorem dX0_sizeOfGreatestRegion_6 : decode cX0_sizeOfGreatestRegion 6 = .ok (.iconst 0, 1) := by decide +kernel
theorem dX0_sizeOfGreatestRegion_7 : decode cX0_sizeOfGreatestRegion 7 = .ok (.istore_n 3, 1) := by decide +kernel
theorem dX0_sizeOfGreatestRegion_8 : decode cX0_sizeOfGreatestRegion 8 = .ok (.iconst 0, 1) := by decide +kernel
theorem dX0_sizeOfGreatestRegion_9 : decode cX0_sizeOfGreatestRegion 9 = .ok (.istore 4, 2) := by decide +kernel
theorem dX0_sizeOfGreatestRegion_11 : decode cX0_sizeOfGreatestRegion 11 = .ok (.iload 4, 2) := by decide +kernel
theorem dX0_sizeOfGreatestRegion_13 : decode cX0_sizeOfGreatestRegion 13 = .ok (.bipush 25, 2) := by decide +kernel
theorem dX0_sizeOfGreatestRegion_15 : decode cX0_sizeOfGreatestRegion 15 = .ok (.if_icmp .ge 40, 3) := by decide +kernel
theorem dX0_sizeOfGreatestRegion_18 : decode cX0_sizeOfGreatestRegion 18 = .ok (.iload_n 2, 1) := by decide +kernel
theorem dX0_sizeOfGreatestRegion_19 : decode cX0_sizeOfGreatestRegion 19 = .ok (.ifCond .eq 36, 3) := by decide +kernel
theorem dX0_sizeOfGreatestRegion_22 : decode cX0_sizeOfGreatestRegion 22 = .ok (.iload_n 2, 1) := by decide +kernel
theorem dX0_sizeOfGreatestRegion_23 : decode cX0_sizeOfGreatestRegion 23 = .ok (.iload_n 2, 1) := by decide +kernel
theorem dX0_sizeOfGreatestRegion_24 : decode cX0_sizeOfGreatestRegion 24 = .ok (.ineg, 1) := by decide +kernel
theorem dX0_sizeOfGreatestRegion_25 : decode cX0_sizeOfGreatestRegion 25 = .ok (.iand, 1) := by decide +kernel
theorem dX0_sizeOfGreatestRegion_26 : decode cX0_sizeOfGreatestRegion 26 = .ok (.iload_n 2, 1) := by decide +kernel
theorem dX0_sizeOfGreatestRegion_27 : decode cX0_sizeOfGreatestRegion 27 = .ok (.invokestatic 62, 3) := by decide +kernel
theorem dX0_sizeOfGreatestRegion_30 : decode cX0_sizeOfGreatestRegion 30 = .ok (.istore 5, 2) := by decide +kernel
theorem dX0_sizeOfGreatestRegion_32 : decode cX0_sizeOfGreatestRegion 32 = .ok (.iload_n 2, 1) := by decide +kernel
theorem dX0_sizeOfGreatestRegion_33 : decode cX0_sizeOfGreatestRegion 33 = .ok (.iload 5, 2) := by decide +kernel
theorem dX0_sizeOfGreatestRegion_35 : decode cX0_sizeOfGreatestRegion 35 = .ok (.iconst (-1), 1) := by decide +kernel
theorem dX0_sizeOfGreatestRegion_36 : decode cX0_sizeOfGreatestRegion 36 = .ok (.ixor, 1) := by decide +kernel
theorem dX0_sizeOfGreatestRegion_37 : decode cX0_sizeOfGreatestRegion 37 = .ok (.iand, 1) := by decide +kernel
theorem dX0_sizeOfGreatestRegion_38 : decode cX0_sizeOfGreatestRegion 38 = .ok (.istore_n 2, 1) := by decide +kernel
theorem dX0_sizeOfGreatestRegion_39 : decode cX0_sizeOfGreatestRegion 39 = .ok (.iload_n 3, 1) := by decide +kernel
theorem dX0_sizeOfGreatestRegion_40 : decode cX0_sizeOfGreatestRegion 40 = .ok (.iload 5, 2) := by decide +kernel
theorem dX0_sizeOfGreatestRegion_42 : decode cX0_sizeOfGreatestRegion 42 = .ok (.invokestatic 39, 3) := by decide +kernel
theorem dX0_sizeOfGreatestRegion_45 : decode cX0_sizeOfGreatestRegion 45 = .ok (.invokestatic 65, 3) := by decide +kernel
theorem dX0_sizeOfGreatestRegion_48 : decode cX0_sizeOfGreatestRegion 48 = .ok (.istore_n 3, 1) := by decide +kernel
theorem dX0_sizeOfGreatestRegion_49 : decode cX0_sizeOfGreatestRegion 49 = .ok (.iinc 4 1, 3) := by decide +kernel
theorem dX0_sizeOfGreatestRegion_52 : decode cX0_sizeOfGreatestRegion 52 = .ok (.goto (-41), 3) := by decide +kernel
theorem dX0_sizeOfGreatestRegion_55 : decode cX0_sizeOfGreatestRegion 55 = .ok (.iload_n 3, 1) := by decide +kernel
theorem dX0_sizeOfGreatestRegion_56 : decode cX0_sizeOfGreatestRegion 56 = .ok (.ireturn, 1) := by decide +kernel
theorem dX0_countBorders_0 : decode cX0_countBorders 0 = .ok (.aload_n 0, 1) := by decide +kernel
theorem dX0_countBorders_1 : decode cX0_countBorders 1 = .ok (.getfield 25, 3) := by decide +kernel
theorem dX0_countBorders_4 : decode cX0_countBorders 4 = .ok (.aload_n 0, 1) := by decide +kernel
theorem dX0_countBorders_5 : decode cX0_countBorders 5 = .ok (.iconst 0, 1) := by decide +kernel
theorem dX0_countBorders_6 : decode cX0_countBorders 6 = .ok (.invokevirtual 35, 3) := by decide +kernel
theorem dX0_countBorders_9 : decode cX0_countBorders 9 = .ok (.iconst (-1), 1) := by decide +kernel
theorem dX0_countBorders_10 : decode cX0_countBorders 10 = .ok (.ixor, 1) := by decide +kernel
theorem dX0_countBorders_11 : decode cX0_countBorders 11 = .ok (.iand, 1) := by decide +kernel
theorem dX0_countBorders_12 : decode cX0_countBorders 12 = .ok (.invokestatic 70, 3) := by decide +kernel
theorem dX0_countBorders_15 : decode cX0_countBorders 15 = .ok (.istore_n 1, 1) := by decide +kernel
theorem dX0_countBorders_16 : decode cX0_countBorders 16 = .ok (.iconst 1, 1) := by decide +kernel
theorem dX0_countBorders_17 : decode cX0_countBorders 17 = .ok (.istore_n 2, 1) := by decide +kernel
theorem dX0_countBorders_18 : decode cX0_countBorders 18 = .ok (.iload_n 2, 1) := by decide +kernel
theorem dX0_countBorders_19 : decode cX0_countBorders 19 = .ok (.iconst 5, 1) := by decide +kernel
theorem dX0_countBorders_20 : decode cX0_countBorders 20 = .ok (.if_icmp .ge 21, 3) := by decide +kernel
theorem dX0_countBorders_23 : decode cX0_countBorders 23 = .ok (.iload_n 1, 1) := by decide +kernel
theorem dX0_countBorders_24 : decode cX0_countBorders 24 = .ok (.aload_n 0, 1) := by decide +kernel
theorem dX0_countBorders_25 : decode cX0_countBorders 25 = .ok (.getfield 15, 3) := by decide +kernel
theorem dX0_countBorders_28 : decode cX0_countBorders 28 = .ok (.iload_n 2, 1) := by decide +kernel
theorem dX0_countBorders_29 : decode cX0_countBorders 29 = .ok (.iaload, 1) := by decide +kernel
theorem dX0_countBorders_30 : decode cX0_countBorders 30 = .ok (.invokestatic 70, 3) := by decide +kernel
theorem dX0_countBorders_33 : decode cX0_countBorders 33 = .ok (.isub, 1) := by decide +kernel
theorem dX0_countBorders_34 : decode cX0_countBorders 34 = .ok (.istore_n 1, 1) := by decide +kernel
theorem dX0_countBorders_35 : decode cX0_countBorders 35 = .ok (.iinc 2 1, 3) := by decide +kernel
theorem dX0_countBorders_38 : decode cX0_countBorders 38 = .ok (.goto (-20), 3) := by decide +kernel
theorem dX0_countBorders_41 : decode cX0_countBorders 41 = .ok (.iload_n 1, 1) := by decide +kernel
theorem dX0_countBorders_42 : decode cX0_countBorders 42 = .ok (.ireturn, 1) := by decide +kernel
theorem dX0_addGains_0 : decode cX0_addGains 0 = .ok (.iconst 0, 1) := by decide +kernel
theorem dX0_addGains_1 : decode cX0_addGains 1 = .ok (.istore_n 2, 1) := by decide +kernel
theorem dX0_addGains_2 : decode cX0_addGains 2 = .ok (.iconst 0, 1) := by decide +kernel
theorem dX0_addGains_3 : decode cX0_addGains 3 = .ok (.istore_n 3, 1) := by decide +kernel
theorem dX0_addGains_4 : decode cX0_addGains 4 = .ok (.iconst 1, 1) := by decide +kernel
theorem dX0_addGains_5 : decode cX0_addGains 5 = .ok (.istore 4, 2) := by decide +kernel
theorem dX0_addGains_7 : decode cX0_addGains 7 = .ok (.iload 4, 2) := by decide +kernel
theorem dX0_addGains_9 : decode cX0_addGains 9 = .ok (.iconst 5, 1) := by decide +kernel
theorem dX0_addGains_10 : decode cX0_addGains 10 = .ok (.if_icmp .ge 49, 3) := by decide +kernel
theorem dX0_addGains_13 : decode cX0_addGains 13 = .ok (.aload_n 0, 1) := by decide +kernel
theorem dX0_addGains_14 : decode cX0_addGains 14 = .ok (.getfield 19, 3) := by decide +kernel
theorem dX0_addGains_17 : decode cX0_addGains 17 = .ok (.iload 4, 2) := by decide +kernel
theorem dX0_addGains_19 : decode cX0_addGains 19 = .ok (.aload_n 0, 1) := by decide +kernel
theorem dX0_addGains_20 : decode cX0_addGains 20 = .ok (.getfield 15, 3) := by decide +kernel
theorem dX0_addGains_23 : decode cX0_addGains 23 = .ok (.iload 4, 2) := by decide +kernel
theorem dX0_addGains_25 : decode cX0_addGains 25 = .ok (.iaload, 1) := by decide +kernel
theorem dX0_addGains_26 : decode cX0_addGains 26 = .ok (.iload_n 1, 1) := by decide +kernel
theorem dX0_addGains_27 : decode cX0_addGains 27 = .ok (.invokestatic 73, 3) := by decide +kernel
theorem dX0_addGains_30 : decode cX0_addGains 30 = .ok (.iastore, 1) := by decide +kernel
theorem dX0_addGains_31 : decode cX0_addGains 31 = .ok (.iload_n 3, 1) := by decide +kernel
theorem dX0_addGains_32 : decode cX0_addGains 32 = .ok (.iload_n 2, 1) := by decide +kernel
theorem dX0_addGains_33 : decode cX0_addGains 33 = .ok (.aload_n 0, 1) := by decide +kernel
theorem dX0_addGains_34 : decode cX0_addGains 34 = .ok (.getfield 19, 3) := by decide +kernel
theorem dX0_addGains_37 : decode cX0_addGains 37 = .ok (.iload 4, 2) := by decide +kernel
theorem dX0_addGains_39 : decode cX0_addGains 39 = .ok (.iaload, 1) := by decide +kernel
theorem dX0_addGains_40 : decode cX0_addGains 40 = .ok (.iand, 1) := by decide +kernel
theorem dX0_addGains_41 : decode cX0_addGains 41 = .ok (.ior, 1) := by decide +kernel
theorem dX0_addGains_42 : decode cX0_addGains 42 = .ok (.istore_n 3, 1) := by decide +kernel
theorem dX0_addGains_43 : decode cX0_addGains 43 = .ok (.iload_n 2, 1) := by decide +kernel
theorem dX0_addGains_44 : decode cX0_addGains 44 = .ok (.aload_n 0, 1) := by decide +kernel
theorem dX0_addGains_45 : decode cX0_addGains 45 = .ok (.getfield 19, 3) := by decide +kernel
theorem dX0_addGains_48 : decode cX0_addGains 48 = .ok (.iload 4, 2) := by decide +kernel
theorem dX0_addGains_50 : decode cX0_addGains 50 = .ok (.iaload, 1) := by decide +kernel
theorem dX0_addGains_51 : decode cX0_addGains 51 = .ok (.ior, 1) := by decide +kernel
theorem dX0_addGains_52 : decode cX0_addGains 52 = .ok (.istore_n 2, 1) := by decide +kernel
theorem dX0_addGains_53 : decode cX0_addGains 53 = .ok (.iinc 4 1, 3) := by decide +kernel
theorem dX0_addGains_56 : decode cX0_addGains 56 = .ok (.goto (-49), 3) := by decide +kernel
theorem dX0_addGains_59 : decode cX0_addGains 59 = .ok (.iconst 1, 1) := by decide +kernel
theorem dX0_addGains_60 : decode cX0_addGains 60 = .ok (.istore 4, 2) := by decide +kernel
theorem dX0_addGains_62 : decode cX0_addGains 62 = .ok (.iload 4, 2) := by decide +kernel
theorem dX0_addGains_64 : decode cX0_addGains 64 = .ok (.iconst 5, 1) := by decide +kernel
theorem dX0_addGains_65 : decode cX0_addGains 65 = .ok (.if_icmp .ge 42, 3) := by decide +kernel
theorem dX0_addGains_68 : decode cX0_addGains 68 = .ok (.aload_n 0, 1) := by decide +kernel
theorem dX0_addGains_69 : decode cX0_addGains 69 = .ok (.getfield 22, 3) := by decide +kernel
theorem dX0_addGains_72 : decode cX0_addGains 72 = .ok (.iload 4, 2) := by decide +kernel
theorem dX0_addGains_74 : decode cX0_addGains 74 = .ok (.dup2, 1) := by decide +kernel
theorem dX0_addGains_75 : decode cX0_addGains 75 = .ok (.iaload, 1) := by decide +kernel
theorem dX0_addGains_76 : decode cX0_addGains 76 = .ok (.aload_n 0, 1) := by decide +kernel
theorem dX0_addGains_77 : decode cX0_addGains 77 = .ok (.getfield 19, 3) := by decide +kernel
theorem dX0_addGains_80 : decode cX0_addGains 80 = .ok (.iload 4, 2) := by decide +kernel
theorem dX0_addGains_82 : decode cX0_addGains 82 = .ok (.iaload, 1) := by decide +kernel
theorem dX0_addGains_83 : decode cX0_addGains 83 = .ok (.iload_n 3, 1) := by decide +kernel
theorem dX0_addGains_84 : decode cX0_addGains 84 = .ok (.iconst (-1), 1) := by decide +kernel
theorem dX0_addGains_85 : decode cX0_addGains 85 = .ok (.ixor, 1) := by decide +kernel
theorem dX0_addGains_86 : decode cX0_addGains 86 = .ok (.iand, 1) := by decide +kernel
theorem dX0_addGains_87 : decode cX0_addGains 87 = .ok (.aload_n 0, 1) := by decide +kernel
theorem dX0_addGains_88 : decode cX0_addGains 88 = .ok (.getfield 25, 3) := by decide +kernel
theorem dX0_addGains_91 : decode cX0_addGains 91 = .ok (.iand, 1) := by decide +kernel
theorem dX0_addGains_92 : decode cX0_addGains 92 = .ok (.aload_n 0, 1) := by decide +kernel
theorem dX0_addGains_93 : decode cX0_addGains 93 = .ok (.getfield 32, 3) := by decide +kernel
theorem dX0_addGains_96 : decode cX0_addGains 96 = .ok (.iconst (-1), 1) := by decide +kernel
theorem dX0_addGains_97 : decode cX0_addGains 97 = .ok (.ixor, 1) := by decide +kernel
theorem dX0_addGains_98 : decode cX0_addGains 98 = .ok (.iand, 1) := by decide +kernel
theorem dX0_addGains_99 : decode cX0_addGains 99 = .ok (.ior, 1) := by decide +kernel
theorem dX0_addGains_100 : decode cX0_addGains 100 = .ok (.iastore, 1) := by decide +kernel
theorem dX0_addGains_101 : decode cX0_addGains 101 = .ok (.iinc 4 1, 3) := by decide +kernel
theorem dX0_addGains_104 : decode cX0_addGains 104 = .ok (.goto (-42), 3) := by decide +kernel
theorem dX0_addGains_107 : decode cX0_addGains 107 = .ok (.return_, 1) := by decide +kernel
theorem dX0_takeGains_0 : decode cX0_takeGains 0 = .ok (.iconst 0, 1) := by decide +kernel
theorem dX0_takeGains_1 : decode cX0_takeGains 1 = .ok (.istore_n 2, 1) := by decide +kernel
theorem dX0_takeGains_2 : decode cX0_takeGains 2 = .ok (.iload_n 2, 1) := by decide +kernel
theorem dX0_takeGains_3 : decode cX0_takeGains 3 = .ok (.iconst 5, 1) := by decide +kernel
theorem dX0_takeGains_4 : decode cX0_takeGains 4 = .ok (.if_icmp .ge 34, 3) := by decide +kernel
theorem dX0_takeGains_7 : decode cX0_takeGains 7 = .ok (.aload_n 0, 1) := by decide +kernel
theorem dX0_takeGains_8 : decode cX0_takeGains 8 = .ok (.getfield 15, 3) := by decide +kernel
theorem dX0_takeGains_11 : decode cX0_takeGains 11 = .ok (.iload_n 2, 1) := by decide +kernel
theorem dX0_takeGains_12 : decode cX0_takeGains 12 = .ok (.aload_n 0, 1) := by decide +kernel
theorem dX0_takeGains_13 : decode cX0_takeGains 13 = .ok (.getfield 15, 3) := by decide +kernel
theorem dX0_takeGains_16 : decode cX0_takeGains 16 = .ok (.iload_n 2, 1) := by decide +kernel
theorem dX0_takeGains_17 : decode cX0_takeGains 17 = .ok (.iaload, 1) := by decide +kernel
theorem dX0_takeGains_18 : decode cX0_takeGains 18 = .ok (.iload_n 1, 1) := by decide +kernel
theorem dX0_takeGains_19 : decode cX0_takeGains 19 = .ok (.iconst (-1), 1) := by decide +kernel
theorem dX0_takeGains_20 : decode cX0_takeGains 20 = .ok (.ixor, 1) := by decide +kernel
theorem dX0_takeGains_21 : decode cX0_takeGains 21 = .ok (.iand, 1) := by decide +kernel
theorem dX0_takeGains_22 : decode cX0_takeGains 22 = .ok (.aload_n 0, 1) := by decide +kernel
theorem dX0_takeGains_23 : decode cX0_takeGains 23 = .ok (.getfield 22, 3) := by decide +kernel
theorem dX0_takeGains_26 : decode cX0_takeGains 26 = .ok (.iload_n 2, 1) := by decide +kernel
theorem dX0_takeGains_27 : decode cX0_takeGains 27 = .ok (.iaload, 1) := by decide +kernel
theorem dX0_takeGains_28 : decode cX0_takeGains 28 = .ok (.iload_n 1, 1) := by decide +kernel
theorem dX0_takeGains_29 : decode cX0_takeGains 29 = .ok (.iand, 1) := by decide +kernel
theorem dX0_takeGains_30 : decode cX0_takeGains 30 = .ok (.ior, 1) := by decide +kernel
theorem dX0_takeGains_31 : decode cX0_takeGains 31 = .ok (.iastore, 1) := by decide +kernel
theorem dX0_takeGains_32 : decode cX0_takeGains 32 = .ok (.iinc 2 1, 3) := by decide +kernel
theorem dX0_takeGains_35 : decode cX0_takeGains 35 = .ok (.goto (-33), 3) := by decide +kernel
theorem dX0_takeGains_38 : decode cX0_takeGains 38 = .ok (.return_, 1) := by decide +kernel
theorem dX0_withNeighbours_0 : decode cX0_withNeighbours 0 = .ok (.iload_n 0, 1) := by decide +kernel
theorem dX0_withNeighbours_1 : decode cX0_withNeighbours 1 = .ok (.iconst 1, 1) := by decide +kernel
theorem dX0_withNeighbours_2 : decode cX0_withNeighbours 2 = .ok (.ishl, 1) := by decide +kernel
theorem dX0_withNeighbours_3 : decode cX0_withNeighbours 3 = .ok (.iload_n 0, 1) := by decide +kernel
theorem dX0_withNeighbours_4 : decode cX0_withNeighbours 4 = .ok (.iconst 1, 1) := by decide +kernel
theorem dX0_withNeighbours_5 : decode cX0_withNeighbours 5 = .ok (.iushr, 1) := by decide +kernel
theorem dX0_withNeighbours_6 : decode cX0_withNeighbours 6 = .ok (.ior, 1) := by decide +kernel
theorem dX0_withNeighbours_7 : decode cX0_withNeighbours 7 = .ok (.istore_n 2, 1) := by decide +kernel
theorem dX0_withNeighbours_8 : decode cX0_withNeighbours 8 = .ok (.iload_n 0, 1) := by decide +kernel
theorem dX0_withNeighbours_9 : decode cX0_withNeighbours 9 = .ok (.iconst 1, 1) := by decide +kernel
theorem dX0_withNeighbours_10 : decode cX0_withNeighbours 10 = .ok (.ishl, 1) := by decide +kernel
theorem dX0_withNeighbours_11 : decode cX0_withNeighbours 11 = .ok (.iload_n 0, 1) := by decide +kernel
theorem dX0_withNeighbours_12 : decode cX0_withNeighbours 12 = .ok (.iconst 1, 1) := by decide +kernel
theorem dX0_withNeighbours_13 : decode cX0_withNeighbours 13 = .ok (.iushr, 1) := by decide +kernel
theorem dX0_withNeighbours_14 : decode cX0_withNeighbours 14 = .ok (.iand, 1) := by decide +kernel
theorem dX0_withNeighbours_15 : decode cX0_withNeighbours 15 = .ok (.istore_n 3, 1) := by decide +kernel
theorem dX0_withNeighbours_16 : decode cX0_withNeighbours 16 = .ok (.iload_n 0, 1) := by decide +kernel
theorem dX0_withNeighbours_17 : decode cX0_withNeighbours 17 = .ok (.bipush 6, 2) := by decide +kernel
theorem dX0_withNeighbours_19 : decode cX0_withNeighbours 19 = .ok (.ishl, 1) := by decide +kernel
theorem dX0_withNeighbours_20 : decode cX0_withNeighbours 20 = .ok (.iload_n 0, 1) := by decide +kernel
theorem dX0_withNeighbours_21 : decode cX0_withNeighbours 21 = .ok (.bipush 6, 2) := by decide +kernel
theorem dX0_withNeighbours_23 : decode cX0_withNeighbours 23 = .ok (.iushr, 1) := by decide +kernel
theorem dX0_withNeighbours_24 : decode cX0_withNeighbours 24 = .ok (.ior, 1) := by decide +kernel
theorem dX0_withNeighbours_25 : decode cX0_withNeighbours 25 = .ok (.istore 4, 2) := by decide +kernel
theorem dX0_withNeighbours_27 : decode cX0_withNeighbours 27 = .ok (.iload_n 0, 1) := by decide +kernel
theorem dX0_withNeighbours_28 : decode cX0_withNeighbours 28 = .ok (.bipush 6, 2) := by decide +kernel
theorem dX0_withNeighbours_30 : decode cX0_withNeighbours 30 = .ok (.ishl, 1) := by decide +kernel
theorem dX0_withNeighbours_31 : decode cX0_withNeighbours 31 = .ok (.iload_n 0, 1) := by decide +kernel
theorem dX0_withNeighbours_32 : decode cX0_withNeighbours 32 = .ok (.bipush 6, 2) := by decide +kernel
theorem dX0_withNeighbours_34 : decode cX0_withNeighbours 34 = .ok (.iushr, 1) := by decide +kernel
theorem dX0_withNeighbours_35 : decode cX0_withNeighbours 35 = .ok (.iand, 1) := by decide +kernel
theorem dX0_withNeighbours_36 : decode cX0_withNeighbours 36 = .ok (.istore 5, 2) := by decide +kernel
theorem dX0_withNeighbours_38 : decode cX0_withNeighbours 38 = .ok (.iload_n 1, 1) := by decide +kernel
theorem dX0_withNeighbours_39 : decode cX0_withNeighbours 39 = .ok (.tableswitch 59 1 4 #[29, 34, 44, 54], 29) := by decide +kernel
theorem dX0_withNeighbours_68 : decode cX0_withNeighbours 68 = .ok (.iload_n 2, 1) := by decide +kernel
theorem dX0_withNeighbours_69 : decode cX0_withNeighbours 69 = .ok (.iload 4, 2) := by decide +kernel
theorem dX0_withNeighbours_71 : decode cX0_withNeighbours 71 = .ok (.ior, 1) := by decide +kernel
theorem dX0_withNeighbours_72 : decode cX0_withNeighbours 72 = .ok (.ireturn, 1) := by decide +kernel
theorem dX0_withNeighbours_73 : decode cX0_withNeighbours 73 = .ok (.iload_n 3, 1) := by decide +kernel
theorem dX0_withNeighbours_74 : decode cX0_withNeighbours 74 = .ok (.iload 5, 2) := by decide +kernel
theorem dX0_withNeighbours_76 : decode cX0_withNeighbours 76 = .ok (.ior, 1) := by decide +kernel
theorem dX0_withNeighbours_77 : decode cX0_withNeighbours 77 = .ok (.iload_n 2, 1) := by decide +kernel
theorem dX0_withNeighbours_78 : decode cX0_withNeighbours 78 = .ok (.iload 4, 2) := by decide +kernel
theorem dX0_withNeighbours_80 : decode cX0_withNeighbours 80 = .ok (.iand, 1) := by decide +kernel
theorem dX0_withNeighbours_81 : decode cX0_withNeighbours 81 = .ok (.ior, 1) := by decide +kernel
theorem dX0_withNeighbours_82 : decode cX0_withNeighbours 82 = .ok (.ireturn, 1) := by decide +kernel
theorem dX0_withNeighbours_83 : decode cX0_withNeighbours 83 = .ok (.iload_n 3, 1) := by decide +kernel
theorem dX0_withNeighbours_84 : decode cX0_withNeighbours 84 = .ok (.iload 4, 2) := by decide +kernel
theorem dX0_withNeighbours_86 : decode cX0_withNeighbours 86 = .ok (.iand, 1) := by decide +kernel
theorem dX0_withNeighbours_87 : decode cX0_withNeighbours 87 = .ok (.iload_n 2, 1) := by decide +kernel
theorem dX0_withNeighbours_88 : decode cX0_withNeighbours 88 = .ok (.iload 5, 2) := by decide +kernel
theorem dX0_withNeighbours_90 : decode cX0_withNeighbours 90 = .ok (.iand, 1) := by decide +kernel
theorem dX0_withNeighbours_91 : decode cX0_withNeighbours 91 = .ok (.ior, 1) := by decide +kernel
theorem dX0_withNeighbours_92 : decode cX0_withNeighbours 92 = .ok (.ireturn, 1) := by decide +kernel
theorem dX0_withNeighbours_93 : decode cX0_withNeighbours 93 = .ok (.iload_n 3, 1) := by decide +kernel
theorem dX0_withNeighbours_94 : decode cX0_withNeighbours 94 = .ok (.iload 5, 2) := by decide +kernel
theorem dX0_withNeighbours_96 : decode cX0_withNeighbours 96 = .ok (.iand, 1) := by decide +kernel
theorem dX0_withNeighbours_97 : decode cX0_withNeighbours 97 = .ok (.ireturn, 1) := by decide +kernel
theorem dX0_withNeighbours_98 : decode cX0_withNeighbours 98 = .ok (.iconst 0, 1) := by decide +kernel
theorem dX0_withNeighbours_99 : decode cX0_withNeighbours 99 = .ok (.ireturn, 1) := by decide +kernel
theorem dX0_regionFrom_0 : decode cX0_regionFrom 0 = .ok (.iload_n 0, 1) := by decide +kernel
theorem dX0_regionFrom_1 : decode cX0_regionFrom 1 = .ok (.istore_n 2, 1) := by decide +kernel
theorem dX0_regionFrom_2 : decode cX0_regionFrom 2 = .ok (.iconst 0, 1) := by decide +kernel
theorem dX0_regionFrom_3 : decode cX0_regionFrom 3 = .ok (.istore_n 3, 1) := by decide +kernel
theorem dX0_regionFrom_4 : decode cX0_regionFrom 4 = .ok (.iload_n 3, 1) := by decide +kernel
theorem dX0_regionFrom_5 : decode cX0_regionFrom 5 = .ok (.bipush 25, 2) := by decide +kernel
theorem dX0_regionFrom_7 : decode cX0_regionFrom 7 = .ok (.if_icmp .ge 30, 3) := by decide +kernel
theorem dX0_regionFrom_10 : decode cX0_regionFrom 10 = .ok (.iload_n 2, 1) := by decide +kernel
theorem dX0_regionFrom_11 : decode cX0_regionFrom 11 = .ok (.iload_n 2, 1) := by decide +kernel
theorem dX0_regionFrom_12 : decode cX0_regionFrom 12 = .ok (.invokestatic 76, 3) := by decide +kernel
theorem dX0_regionFrom_15 : decode cX0_regionFrom 15 = .ok (.iload_n 1, 1) := by decide +kernel
theorem dX0_regionFrom_16 : decode cX0_regionFrom 16 = .ok (.iand, 1) := by decide +kernel
theorem dX0_regionFrom_17 : decode cX0_regionFrom 17 = .ok (.ior, 1) := by decide +kernel
theorem dX0_regionFrom_18 : decode cX0_regionFrom 18 = .ok (.istore 4, 2) := by decide +kernel
theorem dX0_regionFrom_20 : decode cX0_regionFrom 20 = .ok (.iload 4, 2) := by decide +kernel
theorem dX0_regionFrom_22 : decode cX0_regionFrom 22 = .ok (.iload_n 2, 1) := by decide +kernel
theorem dX0_regionFrom_23 : decode cX0_regionFrom 23 = .ok (.if_icmp .ne 5, 3) := by decide +kernel
theorem dX0_regionFrom_26 : decode cX0_regionFrom 26 = .ok (.iload_n 2, 1) := by decide +kernel
theorem dX0_regionFrom_27 : decode cX0_regionFrom 27 = .ok (.ireturn, 1) := by decide +kernel
theorem dX0_regionFrom_28 : decode cX0_regionFrom 28 = .ok (.iload 4, 2) := by decide +kernel
theorem dX0_regionFrom_30 : decode cX0_regionFrom 30 = .ok (.istore_n 2, 1) := by decide +kernel
theorem dX0_regionFrom_31 : decode cX0_regionFrom 31 = .ok (.iinc 3 1, 3) := by decide +kernel
theorem dX0_regionFrom_34 : decode cX0_regionFrom 34 = .ok (.goto (-30), 3) := by decide +kernel
theorem dX0_regionFrom_37 : decode cX0_regionFrom 37 = .ok (.iload_n 2, 1) := by decide +kernel
theorem dX0_regionFrom_38 : decode cX0_regionFrom 38 = .ok (.ireturn, 1) := by decide +kernel
theorem dX0_countPairs_0 : decode cX0_countPairs 0 = .ok (.iload_n 0, 1) := by decide +kernel
theorem dX0_countPairs_1 : decode cX0_countPairs 1 = .ok (.iload_n 0, 1) := by decide +kernel
theorem dX0_countPairs_2 : decode cX0_countPairs 2 = .ok (.iconst 1, 1) := by decide +kernel
theorem dX0_countPairs_3 : decode cX0_countPairs 3 = .ok (.ishl, 1) := by decide +kernel
theorem dX0_countPairs_4 : decode cX0_countPairs 4 = .ok (.iand, 1) := by decide +kernel
theorem dX0_countPairs_5 : decode cX0_countPairs 5 = .ok (.invokestatic 39, 3) := by decide +kernel
theorem dX0_countPairs_8 : decode cX0_countPairs 8 = .ok (.iload_n 0, 1) := by decide +kernel
theorem dX0_countPairs_9 : decode cX0_countPairs 9 = .ok (.iload_n 0, 1) := by decide +kernel
theorem dX0_countPairs_10 : decode cX0_countPairs 10 = .ok (.bipush 6, 2) := by decide +kernel
theorem dX0_countPairs_12 : decode cX0_countPairs 12 = .ok (.ishl, 1) := by decide +kernel
theorem dX0_countPairs_13 : decode cX0_countPairs 13 = .ok (.iand, 1) := by decide +kernel
theorem dX0_countPairs_14 : decode cX0_countPairs 14 = .ok (.invokestatic 39, 3) := by decide +kernel
theorem dX0_countPairs_17 : decode cX0_countPairs 17 = .ok (.iadd, 1) := by decide +kernel
theorem dX0_countPairs_18 : decode cX0_countPairs 18 = .ok (.ireturn, 1) := by decide +kernel
theorem dX0_firstColourWith_0 : decode cX0_firstColourWith 0 = .ok (.iconst 1, 1) := by decide +kernel
theorem dX0_firstColourWith_1 : decode cX0_firstColourWith 1 = .ok (.istore_n 2, 1) := by decide +kernel
theorem dX0_firstColourWith_2 : decode cX0_firstColourWith 2 = .ok (.iload_n 2, 1) := by decide +kernel
theorem dX0_firstColourWith_3 : decode cX0_firstColourWith 3 = .ok (.aload_n 1, 1) := by decide +kernel
theorem dX0_firstColourWith_4 : decode cX0_firstColourWith 4 = .ok (.arraylength, 1) := by decide +kernel
theorem dX0_firstColourWith_5 : decode cX0_firstColourWith 5 = .ok (.if_icmp .ge 19, 3) := by decide +kernel
theorem dX0_firstColourWith_8 : decode cX0_firstColourWith 8 = .ok (.aload_n 1, 1) := by decide +kernel
theorem dX0_firstColourWith_9 : decode cX0_firstColourWith 9 = .ok (.iload_n 2, 1) := by decide +kernel
theorem dX0_firstColourWith_10 : decode cX0_firstColourWith 10 = .ok (.iaload, 1) := by decide +kernel
theorem dX0_firstColourWith_11 : decode cX0_firstColourWith 11 = .ok (.iload_n 0, 1) := by decide +kernel
theorem dX0_firstColourWith_12 : decode cX0_firstColourWith 12 = .ok (.iand, 1) := by decide +kernel
theorem dX0_firstColourWith_13 : decode cX0_firstColourWith 13 = .ok (.ifCond .eq 5, 3) := by decide +kernel
theorem dX0_firstColourWith_16 : decode cX0_firstColourWith 16 = .ok (.iload_n 2, 1) := by decide +kernel
theorem dX0_firstColourWith_17 : decode cX0_firstColourWith 17 = .ok (.ireturn, 1) := by decide +kernel
theorem dX0_firstColourWith_18 : decode cX0_firstColourWith 18 = .ok (.iinc 2 1, 3) := by decide +kernel
theorem dX0_firstColourWith_21 : decode cX0_firstColourWith 21 = .ok (.goto (-19), 3) := by decide +kernel
theorem dX0_firstColourWith_24 : decode cX0_firstColourWith 24 = .ok (.iconst 0, 1) := by decide +kernel
theorem dX0_firstColourWith_25 : decode cX0_firstColourWith 25 = .ok (.ireturn, 1) := by decide +kernel
theorem dX1_init_0 : decode cX1_init 0 = .ok (.aload_n 0, 1) := by decide +kernel
theorem dX1_init_1 : decode cX1_init 1 = .ok (.invokespecial 3, 3) := by decide +kernel
theorem dX1_init_4 : decode cX1_init 4 = .ok (.aload_n 0, 1) := by decide +kernel
theorem dX1_init_5 : decode cX1_init 5 = .ok (.new 9, 3) := by decide +kernel
theorem dX1_init_8 : decode cX1_init 8 = .ok (.dup, 1) := by decide +kernel
theorem dX1_init_9 : decode cX1_init 9 = .ok (.invokespecial 11, 3) := by decide +kernel
theorem dX1_init_12 : decode cX1_init 12 = .ok (.putfield 12, 3) := by decide +kernel
theorem dX1_init_15 : decode cX1_init 15 = .ok (.aload_n 0, 1) := by decide +kernel
theorem dX1_init_16 : decode cX1_init 16 = .ok (.new 9, 3) := by decide +kernel
theorem dX1_init_19 : decode cX1_init 19 = .ok (.dup, 1) := by decide +kernel
theorem dX1_init_20 : decode cX1_init 20 = .ok (.invokespecial 11, 3) := by decide +kernel
theorem dX1_init_23 : decode cX1_init 23 = .ok (.putfield 16, 3) := by decide +kernel
theorem dX1_init_26 : decode cX1_init 26 = .ok (.aload_n 0, 1) := by decide +kernel
theorem dX1_init_27 : decode cX1_init 27 = .ok (.iconst 4, 1) := by decide +kernel
theorem dX1_init_28 : decode cX1_init 28 = .ok (.putfield 19, 3) := by decide +kernel
theorem dX1_init_31 : decode cX1_init 31 = .ok (.aload_n 0, 1) := by decide +kernel
theorem dX1_init_32 : decode cX1_init 32 = .ok (.iconst 4, 1) := by decide +kernel
theorem dX1_init_33 : decode cX1_init 33 = .ok (.putfield 23, 3) := by decide +kernel
theorem dX1_init_36 : decode cX1_init 36 = .ok (.aload_n 0, 1) := by decide +kernel
theorem dX1_init_37 : decode cX1_init 37 = .ok (.iconst 0, 1) := by decide +kernel
theorem dX1_init_38 : decode cX1_init 38 = .ok (.putfield 26, 3) := by decide +kernel
theorem dX1_init_41 : decode cX1_init 41 = .ok (.aload_n 0, 1) := by decide +kernel
theorem dX1_init_42 : decode cX1_init 42 = .ok (.getfield 12, 3) := by decide +kernel
theorem dX1_init_45 : decode cX1_init 45 = .ok (.iconst 4, 1) := by decide +kernel
theorem dX1_init_46 : decode cX1_init 46 = .ok (.iconst 4, 1) := by decide +kernel
theorem dX1_init_47 : decode cX1_init 47 = .ok (.invokevirtual 29, 3) := by decide +kernel
theorem dX1_init_50 : decode cX1_init 50 = .ok (.return_, 1) := by decide +kernel
theorem dX1_newMap_0 : decode cX1_newMap 0 = .ok (.iload_n 1, 1) := by decide +kernel
theorem dX1_newMap_1 : decode cX1_newMap 1 = .ok (.invokestatic 33, 3) := by decide +kernel
theorem dX1_newMap_4 : decode cX1_newMap 4 = .ok (.ifCond .eq 10, 3) := by decide +kernel
theorem dX1_newMap_7 : decode cX1_newMap 7 = .ok (.iload_n 2, 1) := by decide +kernel
theorem dX1_newMap_8 : decode cX1_newMap 8 = .ok (.invokestatic 33, 3) := by decide +kernel
theorem dX1_newMap_11 : decode cX1_newMap 11 = .ok (.ifCond .ne 13, 3) := by decide +kernel
theorem dX1_newMap_14 : decode cX1_newMap 14 = .ok (.new 37, 3) := by decide +kernel
theorem dX1_newMap_17 : decode cX1_newMap 17 = .ok (.dup, 1) := by decide +kernel
theorem dX1_newMap_18 : decode cX1_newMap 18 = .ok (.ldc 39, 2) := by decide +kernel
theorem dX1_newMap_20 : decode cX1_newMap 20 = .ok (.invokespecial 41, 3) := by decide +kernel
theorem dX1_newMap_23 : decode cX1_newMap 23 = .ok (.athrow, 1) := by decide +kernel
theorem dX1_newMap_24 : decode cX1_newMap 24 = .ok (.aload_n 0, 1) := by decide +kernel
theorem dX1_newMap_25 : decode cX1_newMap 25 = .ok (.iload_n 1, 1) := by decide +kernel
theorem dX1_newMap_26 : decode cX1_newMap 26 = .ok (.putfield 19, 3) := by decide +kernel
theorem dX1_newMap_29 : decode cX1_newMap 29 = .ok (.aload_n 0, 1) := by decide +kernel
theorem dX1_newMap_30 : decode cX1_newMap 30 = .ok (.iload_n 2, 1) := by decide +kernel
theorem dX1_newMap_31 : decode cX1_newMap 31 = .ok (.putfield 23, 3) := by decide +kernel
theorem dX1_newMap_34 : decode cX1_newMap 34 = .ok (.aload_n 0, 1) := by decide +kernel
theorem dX1_newMap_35 : decode cX1_newMap 35 = .ok (.iconst 0, 1) := by decide +kernel
theorem dX1_newMap_36 : decode cX1_newMap 36 = .ok (.putfield 26, 3) := by decide +kernel
theorem dX1_newMap_39 : decode cX1_newMap 39 = .ok (.aload_n 0, 1) := by decide +kernel
theorem dX1_newMap_40 : decode cX1_newMap 40 = .ok (.getfield 12, 3) := by decide +kernel
theorem dX1_newMap_43 : decode cX1_newMap 43 = .ok (.iload_n 1, 1) := by decide +kernel
theorem dX1_newMap_44 : decode cX1_newMap 44 = .ok (.iload_n 2, 1) := by decide +kernel
theorem dX1_newMap_45 : decode cX1_newMap 45 = .ok (.invokevirtual 29, 3) := by decide +kernel
theorem dX1_newMap_48 : decode cX1_newMap 48 = .ok (.iload_n 1, 1) := by decide +kernel
theorem dX1_newMap_49 : decode cX1_newMap 49 = .ok (.iload_n 2, 1) := by decide +kernel
theorem dX1_newMap_50 : decode cX1_newMap 50 = .ok (.imul, 1) := by decide +kernel
theorem dX1_newMap_51 : decode cX1_newMap 51 = .ok (.ireturn, 1) := by decide +kernel
theorem dX1_paint_0 : decode cX1_paint 0 = .ok (.aload_n 0, 1) := by decide +kernel
theorem dX1_paint_1 : decode cX1_paint 1 = .ok (.iload_n 1, 1) := by decide +kernel
theorem dX1_paint_2 : decode cX1_paint 2 = .ok (.iload_n 2, 1) := by decide +kernel
theorem dX1_paint_3 : decode cX1_paint 3 = .ok (.invokevirtual 44, 3) := by decide +kernel
theorem dX1_paint_6 : decode cX1_paint 6 = .ok (.ifCond .eq 10, 3) := by decide +kernel
theorem dX1_paint_9 : decode cX1_paint 9 = .ok (.iload_n 3, 1) := by decide +kernel
theorem dX1_paint_10 : decode cX1_paint 10 = .ok (.invokestatic 48, 3) := by decide +kernel
theorem dX1_paint_13 : decode cX1_paint 13 = .ok (.ifCond .ne 13, 3) := by decide +kernel
theorem dX1_paint_16 : decode cX1_paint 16 = .ok (.new 51, 3) := by decide +kernel
theorem dX1_paint_19 : decode cX1_paint 19 = .ok (.dup, 1) := by decide +kernel
theorem dX1_paint_20 : decode cX1_paint 20 = .ok (.ldc 53, 2) := by decide +kernel
theorem dX1_paint_22 : decode cX1_paint 22 = .ok (.invokespecial 55, 3) := by decide +kernel
theorem dX1_paint_25 : decode cX1_paint 25 = .ok (.athrow, 1) := by decide +kernel
theorem dX1_paint_26 : decode cX1_paint 26 = .ok (.aload_n 0, 1) := by decide +kernel
theorem dX1_paint_27 : decode cX1_paint 27 = .ok (.getfield 12, 3) := by decide +kernel
theorem dX1_paint_30 : decode cX1_paint 30 = .ok (.iload_n 1, 1) := by decide +kernel
theorem dX1_paint_31 : decode cX1_paint 31 = .ok (.iload_n 2, 1) := by decide +kernel
theorem dX1_paint_32 : decode cX1_paint 32 = .ok (.invokestatic 56, 3) := by decide +kernel
theorem dX1_paint_35 : decode cX1_paint 35 = .ok (.invokevirtual 60, 3) := by decide +kernel
theorem dX1_paint_38 : decode cX1_paint 38 = .ok (.istore 4, 2) := by decide +kernel
theorem dX1_paint_40 : decode cX1_paint 40 = .ok (.aload_n 0, 1) := by decide +kernel
theorem dX1_paint_41 : decode cX1_paint 41 = .ok (.getfield 12, 3) := by decide +kernel
theorem dX1_paint_44 : decode cX1_paint 44 = .ok (.iload_n 1, 1) := by decide +kernel
theorem dX1_paint_45 : decode cX1_paint 45 = .ok (.iload_n 2, 1) := by decide +kernel
theorem dX1_paint_46 : decode cX1_paint 46 = .ok (.invokestatic 56, 3) := by decide +kernel
theorem dX1_paint_49 : decode cX1_paint 49 = .ok (.iload_n 3, 1) := by decide +kernel
theorem dX1_paint_50 : decode cX1_paint 50 = .ok (.invokevirtual 64, 3) := by decide +kernel
theorem dX1_paint_53 : decode cX1_paint 53 = .ok (.iload 4, 2) := by decide +kernel
theorem dX1_paint_55 : decode cX1_paint 55 = .ok (.ireturn, 1) := by decide +kernel
theorem dX1_turnStubborn_0 : decode cX1_turnStubborn 0 = .ok (.aload_n 0, 1) := by decide +kernel
theorem dX1_turnStubborn_1 : decode cX1_turnStubborn 1 = .ok (.iload_n 1, 1) := by decide +kernel
theorem dX1_turnStubborn_2 : decode cX1_turnStubborn 2 = .ok (.iload_n 2, 1) := by decide +kernel
theorem dX1_turnStubborn_3 : decode cX1_turnStubborn 3 = .ok (.invokevirtual 44, 3) := by decide +kernel
theorem dX1_turnStubborn_6 : decode cX1_turnStubborn 6 = .ok (.ifCond .ne 13, 3) := by decide +kernel
theorem dX1_turnStubborn_9 : decode cX1_turnStubborn 9 = .ok (.new 51, 3) := by decide +kernel
theorem dX1_turnStubborn_12 : decode cX1_turnStubborn 12 = .ok (.dup, 1) := by decide +kernel
theorem dX1_turnStubborn_13 : decode cX1_turnStubborn 13 = .ok (.ldc 67, 2) := by decide +kernel
theorem dX1_turnStubborn_15 : decode cX1_turnStubborn 15 = .ok (.invokespecial 55, 3) := by decide +kernel
theorem dX1_turnStubborn_18 : decode cX1_turnStubborn 18 = .ok (.athrow, 1) := by decide +kernel
theorem dX1_turnStubborn_19 : decode cX1_turnStubborn 19 = .ok (.aload_n 0, 1) := by decide +kernel
theorem dX1_turnStubborn_20 : decode cX1_turnStubborn 20 = .ok (.getfield 12, 3) := by decide +kernel
theorem dX1_turnStubborn_23 : decode cX1_turnStubborn 23 = .ok (.dup, 1) := by decide +kernel
theorem dX1_turnStubborn_24 : decode cX1_turnStubborn 24 = .ok (.getfield 69, 3) := by decide +kernel
theorem dX1_turnStubborn_27 : decode cX1_turnStubborn 27 = .ok (.iload_n 1, 1) := by decide +kernel
theorem dX1_turnStubborn_28 : decode cX1_turnStubborn 28 = .ok (.iload_n 2, 1) := by decide +kernel
theorem dX1_turnStubborn_29 : decode cX1_turnStubborn 29 = .ok (.invokestatic 56, 3) := by decide +kernel
theorem dX1_turnStubborn_32 : decode cX1_turnStubborn 32 = .ok (.ixor, 1) := by decide +kernel
theorem dX1_turnStubborn_33 : decode cX1_turnStubborn 33 = .ok (.putfield 69, 3) := by decide +kernel
theorem dX1_turnStubborn_36 : decode cX1_turnStubborn 36 = .ok (.aload_n 0, 1) := by decide +kernel
theorem dX1_turnStubborn_37 : decode cX1_turnStubborn 37 = .ok (.getfield 12, 3) := by decide +kernel
theorem dX1_turnStubborn_40 : decode cX1_turnStubborn 40 = .ok (.getfield 69, 3) := by decide +kernel
theorem dX1_turnStubborn_43 : decode cX1_turnStubborn 43 = .ok (.iload_n 1, 1) := by decide +kernel
theorem dX1_turnStubborn_44 : decode cX1_turnStubborn 44 = .ok (.iload_n 2, 1) := by decide +kernel
theorem dX1_turnStubborn_45 : decode cX1_turnStubborn 45 = .ok (.invokestatic 56, 3) := by decide +kernel
theorem dX1_turnStubborn_48 : decode cX1_turnStubborn 48 = .ok (.iand, 1) := by decide +kernel
theorem dX1_turnStubborn_49 : decode cX1_turnStubborn 49 = .ok (.ifCond .eq 7, 3) := by decide +kernel
theorem dX1_turnStubborn_52 : decode cX1_turnStubborn 52 = .ok (.iconst 1, 1) := by decide +kernel
theorem dX1_turnStubborn_53 : decode cX1_turnStubborn 53 = .ok (.goto 4, 3) := by decide +kernel
theorem dX1_turnStubborn_56 : decode cX1_turnStubborn 56 = .ok (.iconst 0, 1) := by decide +kernel
theorem dX1_turnStubborn_57 : decode cX1_turnStubborn 57 = .ok (.ireturn, 1) := by decide +kernel
theorem dX1_setNeed_0 : decode cX1_setNeed 0 = .ok (.iload_n 1, 1) := by decide +kernel
theorem dX1_setNeed_1 : decode cX1_setNeed 1 = .ok (.iconst 1, 1) := by decide +kernel
theorem dX1_setNeed_2 : decode cX1_setNeed 2 = .ok (.if_icmp .lt 8, 3) := by decide +kernel
theorem dX1_setNeed_5 : decode cX1_setNeed 5 = .ok (.iload_n 1, 1) := by decide +kernel
theorem dX1_setNeed_6 : decode cX1_setNeed 6 = .ok (.iconst 4, 1) := by decide +kernel
theorem dX1_setNeed_7 : decode cX1_setNeed 7 = .ok (.if_icmp .le 13, 3) := by decide +kernel
theorem dX1_setNeed_10 : decode cX1_setNeed 10 = .ok (.new 37, 3) := by decide +kernel
theorem dX1_setNeed_13 : decode cX1_setNeed 13 = .ok (.dup, 1) := by decide +kernel
theorem dX1_setNeed_14 : decode cX1_setNeed 14 = .ok (.ldc 72, 2) := by decide +kernel
theorem dX1_setNeed_16 : decode cX1_setNeed 16 = .ok (.invokespecial 41, 3) := by decide +kernel
theorem dX1_setNeed_19 : decode cX1_setNeed 19 = .ok (.athrow, 1) := by decide +kernel
theorem dX1_setNeed_20 : decode cX1_setNeed 20 = .ok (.aload_n 0, 1) := by decide +kernel
theorem dX1_setNeed_21 : decode cX1_setNeed 21 = .ok (.getfield 12, 3) := by decide +kernel
theorem dX1_setNeed_24 : decode cX1_setNeed 24 = .ok (.getfield 74, 3) := by decide +kernel
theorem dX1_setNeed_27 : decode cX1_setNeed 27 = .ok (.istore_n 2, 1) := by decide +kernel
theorem dX1_setNeed_28 : decode cX1_setNeed 28 = .ok (.aload_n 0, 1) := by decide +kernel
theorem dX1_setNeed_29 : decode cX1_setNeed 29 = .ok (.getfield 12, 3) := by decide +kernel
theorem dX1_setNeed_32 : decode cX1_setNeed 32 = .ok (.iload_n 1, 1) := by decide +kernel
theorem dX1_setNeed_33 : decode cX1_setNeed 33 = .ok (.putfield 74, 3) := by decide +kernel
theorem dX1_setNeed_36 : decode cX1_setNeed 36 = .ok (.iload_n 2, 1) := by decide +kernel
theorem dX1_setNeed_37 : decode cX1_setNeed 37 = .ok (.ireturn, 1) := by decide +kernel
theorem dX1_pass_0 : decode cX1_pass 0 = .ok (.iload_n 1, 1) := by decide +kernel
theorem dX1_pass_1 : decode cX1_pass 1 = .ok (.iconst 1, 1) := by decide +kernel
theorem dX1_pass_2 : decode cX1_pass 2 = .ok (.if_icmp .lt 9, 3) := by decide +kernel
theorem dX1_pass_5 : decode cX1_pass 5 = .ok (.iload_n 1, 1) := by decide +kernel
theorem dX1_pass_6 : decode cX1_pass 6 = .ok (.bipush 40, 2) := by decide +kernel
theorem dX1_pass_8 : decode cX1_pass 8 = .ok (.if_icmp .le 13, 3) := by decide +kernel
theorem dX1_pass_11 : decode cX1_pass 11 = .ok (.new 37, 3) := by decide +kernel
theorem dX1_pass_14 : decode cX1_pass 14 = .ok (.dup, 1) := by decide +kernel
theorem dX1_pass_15 : decode cX1_pass 15 = .ok (.ldc 77, 2) := by decide +kernel
theorem dX1_pass_17 : decode cX1_pass 17 = .ok (.invokespecial 41, 3) := by decide +kernel
theorem dX1_pass_20 : decode cX1_pass 20 = .ok (.athrow, 1) := by decide +kernel
theorem dX1_pass_21 : decode cX1_pass 21 = .ok (.aload_n 0, 1) := by decide +kernel
theorem dX1_pass_22 : decode cX1_pass 22 = .ok (.dup, 1) := by decide +kernel
theorem dX1_pass_23 : decode cX1_pass 23 = .ok (.getfield 26, 3) := by decide +kernel
theorem dX1_pass_26 : decode cX1_pass 26 = .ok (.iload_n 1, 1) := by decide +kernel
theorem dX1_pass_27 : decode cX1_pass 27 = .ok (.iadd, 1) := by decide +kernel
theorem dX1_pass_28 : decode cX1_pass 28 = .ok (.putfield 26, 3) := by decide +kernel
theorem dX1_pass_31 : decode cX1_pass 31 = .ok (.aload_n 0, 1) := by decide +kernel
theorem dX1_pass_32 : decode cX1_pass 32 = .ok (.getfield 12, 3) := by decide +kernel
theorem dX1_pass_35 : decode cX1_pass 35 = .ok (.iload_n 1, 1) := by decide +kernel
theorem dX1_pass_36 : decode cX1_pass 36 = .ok (.invokevirtual 79, 3) := by decide +kernel
theorem dX1_pass_39 : decode cX1_pass 39 = .ok (.invokestatic 82, 3) := by decide +kernel
theorem dX1_pass_42 : decode cX1_pass 42 = .ok (.ireturn, 1) := by decide +kernel
theorem dX1_colourAt_0 : decode cX1_colourAt 0 = .ok (.aload_n 0, 1) := by decide +kernel
theorem dX1_colourAt_1 : decode cX1_colourAt 1 = .ok (.iload_n 1, 1) := by decide +kernel
theorem dX1_colourAt_2 : decode cX1_colourAt 2 = .ok (.iload_n 2, 1) := by decide +kernel
theorem dX1_colourAt_3 : decode cX1_colourAt 3 = .ok (.invokevirtual 44, 3) := by decide +kernel
theorem dX1_colourAt_6 : decode cX1_colourAt 6 = .ok (.ifCond .ne 13, 3) := by decide +kernel
theorem dX1_colourAt_9 : decode cX1_colourAt 9 = .ok (.new 51, 3) := by decide +kernel
theorem dX1_colourAt_12 : decode cX1_colourAt 12 = .ok (.dup, 1) := by decide +kernel
theorem dX1_colourAt_13 : decode cX1_colourAt 13 = .ok (.ldc 67, 2) := by decide +kernel
theorem dX1_colourAt_15 : decode cX1_colourAt 15 = .ok (.invokespecial 55, 3) := by decide +kernel
theorem dX1_colourAt_18 : decode cX1_colourAt 18 = .ok (.athrow, 1) := by decide +kernel
theorem dX1_colourAt_19 : decode cX1_colourAt 19 = .ok (.aload_n 0, 1) := by decide +kernel
theorem dX1_colourAt_20 : decode cX1_colourAt 20 = .ok (.getfield 12, 3) := by decide +kernel
theorem dX1_colourAt_23 : decode cX1_colourAt 23 = .ok (.iload_n 1, 1) := by decide +kernel
theorem dX1_colourAt_24 : decode cX1_colourAt 24 = .ok (.iload_n 2, 1) := by decide +kernel
theorem dX1_colourAt_25 : decode cX1_colourAt 25 = .ok (.invokestatic 56, 3) := by decide +kernel
theorem dX1_colourAt_28 : decode cX1_colourAt 28 = .ok (.invokevirtual 60, 3) := by decide +kernel
theorem dX1_colourAt_31 : decode cX1_colourAt 31 = .ok (.ireturn, 1) := by decide +kernel
theorem dX1_isStubborn_0 : decode cX1_isStubborn 0 = .ok (.aload_n 0, 1) := by decide +kernel
theorem dX1_isStubborn_1 : decode cX1_isStubborn 1 = .ok (.iload_n 1, 1) := by decide +kernel
theorem dX1_isStubborn_2 : decode cX1_isStubborn 2 = .ok (.iload_n 2, 1) := by decide +kernel
theorem dX1_isStubborn_3 : decode cX1_isStubborn 3 = .ok (.invokevirtual 44, 3) := by decide +kernel
theorem dX1_isStubborn_6 : decode cX1_isStubborn 6 = .ok (.ifCond .ne 13, 3) := by decide +kernel
theorem dX1_isStubborn_9 : decode cX1_isStubborn 9 = .ok (.new 51, 3) := by decide +kernel
theorem dX1_isStubborn_12 : decode cX1_isStubborn 12 = .ok (.dup, 1) := by decide +kernel
theorem dX1_isStubborn_13 : decode cX1_isStubborn 13 = .ok (.ldc 67, 2) := by decide +kernel
theorem dX1_isStubborn_15 : decode cX1_isStubborn 15 = .ok (.invokespecial 55, 3) := by decide +kernel
theorem dX1_isStubborn_18 : decode cX1_isStubborn 18 = .ok (.athrow, 1) := by decide +kernel
theorem dX1_isStubborn_19 : decode cX1_isStubborn 19 = .ok (.aload_n 0, 1) := by decide +kernel
theorem dX1_isStubborn_20 : decode cX1_isStubborn 20 = .ok (.getfield 12, 3) := by decide +kernel
theorem dX1_isStubborn_23 : decode cX1_isStubborn 23 = .ok (.getfield 69, 3) := by decide +kernel
theorem dX1_isStubborn_26 : decode cX1_isStubborn 26 = .ok (.iload_n 1, 1) := by decide +kernel
theorem dX1_isStubborn_27 : decode cX1_isStubborn 27 = .ok (.iload_n 2, 1) := by decide +kernel
theorem dX1_isStubborn_28 : decode cX1_isStubborn 28 = .ok (.invokestatic 56, 3) := by decide +kernel
theorem dX1_isStubborn_31 : decode cX1_isStubborn 31 = .ok (.iand, 1) := by decide +kernel
theorem dX1_isStubborn_32 : decode cX1_isStubborn 32 = .ok (.ifCond .eq 7, 3) := by decide +kernel
theorem dX1_isStubborn_35 : decode cX1_isStubborn 35 = .ok (.iconst 1, 1) := by decide +kernel
theorem dX1_isStubborn_36 : decode cX1_isStubborn 36 = .ok (.goto 4, 3) := by decide +kernel
theorem dX1_isStubborn_39 : decode cX1_isStubborn 39 = .ok (.iconst 0, 1) := by decide +kernel
theorem dX1_isStubborn_40 : decode cX1_isStubborn 40 = .ok (.ireturn, 1) := by decide +kernel
theorem dX1_neighboursWith_0 : decode cX1_neighboursWith 0 = .ok (.aload_n 0, 1) := by decide +kernel
theorem dX1_neighboursWith_1 : decode cX1_neighboursWith 1 = .ok (.iload_n 1, 1) := by decide +kernel
theorem dX1_neighboursWith_2 : decode cX1_neighboursWith 2 = .ok (.iload_n 2, 1) := by decide +kernel
theorem dX1_neighboursWith_3 : decode cX1_neighboursWith 3 = .ok (.invokevirtual 44, 3) := by decide +kernel
theorem dX1_neighboursWith_6 : decode cX1_neighboursWith 6 = .ok (.ifCond .eq 10, 3) := by decide +kernel
theorem dX1_neighboursWith_9 : decode cX1_neighboursWith 9 = .ok (.iload_n 3, 1) := by decide +kernel
theorem dX1_neighboursWith_10 : decode cX1_neighboursWith 10 = .ok (.invokestatic 48, 3) := by decide +kernel
theorem dX1_neighboursWith_13 : decode cX1_neighboursWith 13 = .ok (.ifCond .ne 13, 3) := by decide +kernel
theorem dX1_neighboursWith_16 : decode cX1_neighboursWith 16 = .ok (.new 51, 3) := by decide +kernel
theorem dX1_neighboursWith_19 : decode cX1_neighboursWith 19 = .ok (.dup, 1) := by decide +kernel
theorem dX1_neighboursWith_20 : decode cX1_neighboursWith 20 = .ok (.ldc 53, 2) := by decide +kernel
theorem dX1_neighboursWith_22 : decode cX1_neighboursWith 22 = .ok (.invokespecial 55, 3) := by decide +kernel
theorem dX1_neighboursWith_25 : decode cX1_neighboursWith 25 = .ok (.athrow, 1) := by decide +kernel
theorem dX1_neighboursWith_26 : decode cX1_neighboursWith 26 = .ok (.iload_n 1, 1) := by decide +kernel
theorem dX1_neighboursWith_27 : decode cX1_neighboursWith 27 = .ok (.iload_n 2, 1) := by decide +kernel
theorem dX1_neighboursWith_28 : decode cX1_neighboursWith 28 = .ok (.invokestatic 56, 3) := by decide +kernel
theorem dX1_neighboursWith_31 : decode cX1_neighboursWith 31 = .ok (.invokestatic 87, 3) := by decide +kernel
theorem dX1_neighboursWith_34 : decode cX1_neighboursWith 34 = .ok (.aload_n 0, 1) := by decide +kernel
theorem dX1_neighboursWith_35 : decode cX1_neighboursWith 35 = .ok (.getfield 12, 3) := by decide +kernel
theorem dX1_neighboursWith_38 : decode cX1_neighboursWith 38 = .ok (.iload_n 3, 1) := by decide +kernel
theorem dX1_neighboursWith_39 : decode cX1_neighboursWith 39 = .ok (.invokevirtual 90, 3) := by decide +kernel
theorem dX1_neighboursWith_42 : decode cX1_neighboursWith 42 = .ok (.iand, 1) := by decide +kernel
theorem dX1_neighboursWith_43 : decode cX1_neighboursWith 43 = .ok (.invokestatic 82, 3) := by decide +kernel
theorem dX1_neighboursWith_46 : decode cX1_neighboursWith 46 = .ok (.ireturn, 1) := by decide +kernel
theorem dX1_nextColour_0 : decode cX1_nextColour 0 = .ok (.aload_n 0, 1) := by decide +kernel
theorem dX1_nextColour_1 : decode cX1_nextColour 1 = .ok (.iload_n 1, 1) := by decide +kernel
theorem dX1_nextColour_2 : decode cX1_nextColour 2 = .ok (.iload_n 2, 1) := by decide +kernel
theorem dX1_nextColour_3 : decode cX1_nextColour 3 = .ok (.invokevirtual 44, 3) := by decide +kernel
theorem dX1_nextColour_6 : decode cX1_nextColour 6 = .ok (.ifCond .ne 13, 3) := by decide +kernel
theorem dX1_nextColour_9 : decode cX1_nextColour 9 = .ok (.new 51, 3) := by decide +kernel
theorem dX1_nextColour_12 : decode cX1_nextColour 12 = .ok (.dup, 1) := by decide +kernel
theorem dX1_nextColour_13 : decode cX1_nextColour 13 = .ok (.ldc 67, 2) := by decide +kernel
theorem dX1_nextColour_15 : decode cX1_nextColour 15 = .ok (.invokespecial 55, 3) := by decide +kernel
theorem dX1_nextColour_18 : decode cX1_nextColour 18 = .ok (.athrow, 1) := by decide +kernel
theorem dX1_nextColour_19 : decode cX1_nextColour 19 = .ok (.aload_n 0, 1) := by decide +kernel
theorem dX1_nextColour_20 : decode cX1_nextColour 20 = .ok (.getfield 12, 3) := by decide +kernel
theorem dX1_nextColour_23 : decode cX1_nextColour 23 = .ok (.invokevirtual 93, 3) := by decide +kernel
theorem dX1_nextColour_26 : decode cX1_nextColour 26 = .ok (.pop, 1) := by decide +kernel
theorem dX1_nextColour_27 : decode cX1_nextColour 27 = .ok (.aload_n 0, 1) := by decide +kernel
theorem dX1_nextColour_28 : decode cX1_nextColour 28 = .ok (.getfield 12, 3) := by decide +kernel
theorem dX1_nextColour_31 : decode cX1_nextColour 31 = .ok (.iload_n 1, 1) := by decide +kernel
theorem dX1_nextColour_32 : decode cX1_nextColour 32 = .ok (.iload_n 2, 1) := by decide +kernel
theorem dX1_nextColour_33 : decode cX1_nextColour 33 = .ok (.invokestatic 56, 3) := by decide +kernel
theorem dX1_nextColour_36 : decode cX1_nextColour 36 = .ok (.invokevirtual 97, 3) := by decide +kernel
theorem dX1_nextColour_39 : decode cX1_nextColour 39 = .ok (.ireturn, 1) := by decide +kernel
theorem dX1_regionSize_0 : decode cX1_regionSize 0 = .ok (.aload_n 0, 1) := by decide +kernel
theorem dX1_regionSize_1 : decode cX1_regionSize 1 = .ok (.iload_n 1, 1) := by decide +kernel
theorem dX1_regionSize_2 : decode cX1_regionSize 2 = .ok (.iload_n 2, 1) := by decide +kernel
theorem dX1_regionSize_3 : decode cX1_regionSize 3 = .ok (.invokevirtual 44, 3) := by decide +kernel
theorem dX1_regionSize_6 : decode cX1_regionSize 6 = .ok (.ifCond .ne 13, 3) := by decide +kernel
theorem dX1_regionSize_9 : decode cX1_regionSize 9 = .ok (.new 51, 3) := by decide +kernel
theorem dX1_regionSize_12 : decode cX1_regionSize 12 = .ok (.dup, 1) := by decide +kernel
theorem dX1_regionSize_13 : decode cX1_regionSize 13 = .ok (.ldc 67, 2) := by decide +kernel
theorem dX1_regionSize_15 : decode cX1_regionSize 15 = .ok (.invokespecial 55, 3) := by decide +kernel
theorem dX1_regionSize_18 : decode cX1_regionSize 18 = .ok (.athrow, 1) := by decide +kernel
theorem dX1_regionSize_19 : decode cX1_regionSize 19 = .ok (.aload_n 0, 1) := by decide +kernel
theorem dX1_regionSize_20 : decode cX1_regionSize 20 = .ok (.getfield 12, 3) := by decide +kernel
theorem dX1_regionSize_23 : decode cX1_regionSize 23 = .ok (.iload_n 1, 1) := by decide +kernel
theorem dX1_regionSize_24 : decode cX1_regionSize 24 = .ok (.iload_n 2, 1) := by decide +kernel
theorem dX1_regionSize_25 : decode cX1_regionSize 25 = .ok (.invokestatic 56, 3) := by decide +kernel
theorem dX1_regionSize_28 : decode cX1_regionSize 28 = .ok (.invokevirtual 100, 3) := by decide +kernel
theorem dX1_regionSize_31 : decode cX1_regionSize 31 = .ok (.ireturn, 1) := by decide +kernel
theorem dX1_width_0 : decode cX1_width 0 = .ok (.aload_n 0, 1) := by decide +kernel
theorem dX1_width_1 : decode cX1_width 1 = .ok (.getfield 19, 3) := by decide +kernel
theorem dX1_width_4 : decode cX1_width 4 = .ok (.ireturn, 1) := by decide +kernel
theorem dX1_height_0 : decode cX1_height 0 = .ok (.aload_n 0, 1) := by decide +kernel
theorem dX1_height_1 : decode cX1_height 1 = .ok (.getfield 23, 3) := by decide +kernel
theorem dX1_height_4 : decode cX1_height 4 = .ok (.ireturn, 1) := by decide +kernel
theorem dX1_need_0 : decode cX1_need 0 = .ok (.aload_n 0, 1) := by decide +kernel
theorem dX1_need_1 : decode cX1_need 1 = .ok (.getfield 12, 3) := by decide +kernel
theorem dX1_need_4 : decode cX1_need 4 = .ok (.getfield 74, 3) := by decide +kernel
theorem dX1_need_7 : decode cX1_need 7 = .ok (.ireturn, 1) := by decide +kernel
theorem dX1_waves_0 : decode cX1_waves 0 = .ok (.aload_n 0, 1) := by decide +kernel
theorem dX1_waves_1 : decode cX1_waves 1 = .ok (.getfield 26, 3) := by decide +kernel
theorem dX1_waves_4 : decode cX1_waves 4 = .ok (.ireturn, 1) := by decide +kernel
theorem dX1_stubbornCells_0 : decode cX1_stubbornCells 0 = .ok (.aload_n 0, 1) := by decide +kernel
theorem dX1_stubbornCells_1 : decode cX1_stubbornCells 1 = .ok (.getfield 12, 3) := by decide +kernel
theorem dX1_stubbornCells_4 : decode cX1_stubbornCells 4 = .ok (.getfield 69, 3) := by decide +kernel
theorem dX1_stubbornCells_7 : decode cX1_stubbornCells 7 = .ok (.invokestatic 82, 3) := by decide +kernel
theorem dX1_stubbornCells_10 : decode cX1_stubbornCells 10 = .ok (.ireturn, 1) := by decide +kernel
theorem dX1_cellsOf_0 : decode cX1_cellsOf 0 = .ok (.iload_n 1, 1) := by decide +kernel
theorem dX1_cellsOf_1 : decode cX1_cellsOf 1 = .ok (.invokestatic 48, 3) := by decide +kernel
theorem dX1_cellsOf_4 : decode cX1_cellsOf 4 = .ok (.ifCond .ne 13, 3) := by decide +kernel
theorem dX1_cellsOf_7 : decode cX1_cellsOf 7 = .ok (.new 51, 3) := by decide +kernel
theorem dX1_cellsOf_10 : decode cX1_cellsOf 10 = .ok (.dup, 1) := by decide +kernel
theorem dX1_cellsOf_11 : decode cX1_cellsOf 11 = .ok (.ldc 103, 2) := by decide +kernel
theorem dX1_cellsOf_13 : decode cX1_cellsOf 13 = .ok (.invokespecial 55, 3) := by decide +kernel
theorem dX1_cellsOf_16 : decode cX1_cellsOf 16 = .ok (.athrow, 1) := by decide +kernel
theorem dX1_cellsOf_17 : decode cX1_cellsOf 17 = .ok (.aload_n 0, 1) := by decide +kernel
theorem dX1_cellsOf_18 : decode cX1_cellsOf 18 = .ok (.getfield 12, 3) := by decide +kernel
theorem dX1_cellsOf_21 : decode cX1_cellsOf 21 = .ok (.iload_n 1, 1) := by decide +kernel
theorem dX1_cellsOf_22 : decode cX1_cellsOf 22 = .ok (.invokevirtual 105, 3) := by decide +kernel
theorem dX1_cellsOf_25 : decode cX1_cellsOf 25 = .ok (.ireturn, 1) := by decide +kernel
theorem dX1_regionsOf_0 : decode cX1_regionsOf 0 = .ok (.iload_n 1, 1) := by decide +kernel
theorem dX1_regionsOf_1 : decode cX1_regionsOf 1 = .ok (.invokestatic 108, 3) := by decide +kernel
theorem dX1_regionsOf_4 : decode cX1_regionsOf 4 = .ok (.ifCond .ne 13, 3) := by decide +kernel
theorem dX1_regionsOf_7 : decode cX1_regionsOf 7 = .ok (.new 51, 3) := by decide +kernel
theorem dX1_regionsOf_10 : decode cX1_regionsOf 10 = .ok (.dup, 1) := by decide +kernel
theorem dX1_regionsOf_11 : decode cX1_regionsOf 11 = .ok (.ldc 103, 2) := by decide +kernel
theorem dX1_regionsOf_13 : decode cX1_regionsOf 13 = .ok (.invokespecial 55, 3) := by decide +kernel
theorem dX1_regionsOf_16 : decode cX1_regionsOf 16 = .ok (.athrow, 1) := by decide +kernel
theorem dX1_regionsOf_17 : decode cX1_regionsOf 17 = .ok (.aload_n 0, 1) := by decide +kernel
theorem dX1_regionsOf_18 : decode cX1_regionsOf 18 = .ok (.getfield 12, 3) := by decide +kernel
theorem dX1_regionsOf_21 : decode cX1_regionsOf 21 = .ok (.iload_n 1, 1) := by decide +kernel
theorem dX1_regionsOf_22 : decode cX1_regionsOf 22 = .ok (.invokevirtual 111, 3) := by decide +kernel
theorem dX1_regionsOf_25 : decode cX1_regionsOf 25 = .ok (.ireturn, 1) := by decide +kernel
theorem dX1_greatestRegion_0 : decode cX1_greatestRegion 0 = .ok (.iload_n 1, 1) := by decide +kernel
theorem dX1_greatestRegion_1 : decode cX1_greatestRegion 1 = .ok (.invokestatic 108, 3) := by decide +kernel
theorem dX1_greatestRegion_4 : decode cX1_greatestRegion 4 = .ok (.ifCond .ne 13, 3) := by decide +kernel
theorem dX1_greatestRegion_7 : decode cX1_greatestRegion 7 = .ok (.new 51, 3) := by decide +kernel
theorem dX1_greatestRegion_10 : decode cX1_greatestRegion 10 = .ok (.dup, 1) := by decide +kernel
theorem dX1_greatestRegion_11 : decode cX1_greatestRegion 11 = .ok (.ldc 103, 2) := by decide +kernel
theorem dX1_greatestRegion_13 : decode cX1_greatestRegion 13 = .ok (.invokespecial 55, 3) := by decide +kernel
theorem dX1_greatestRegion_16 : decode cX1_greatestRegion 16 = .ok (.athrow, 1) := by decide +kernel
theorem dX1_greatestRegion_17 : decode cX1_greatestRegion 17 = .ok (.aload_n 0, 1) := by decide +kernel
theorem dX1_greatestRegion_18 : decode cX1_greatestRegion 18 = .ok (.getfield 12, 3) := by decide +kernel
theorem dX1_greatestRegion_21 : decode cX1_greatestRegion 21 = .ok (.iload_n 1, 1) := by decide +kernel
theorem dX1_greatestRegion_22 : decode cX1_greatestRegion 22 = .ok (.invokevirtual 114, 3) := by decide +kernel
theorem dX1_greatestRegion_25 : decode cX1_greatestRegion 25 = .ok (.ireturn, 1) := by decide +kernel
theorem dX1_borders_0 : decode cX1_borders 0 = .ok (.aload_n 0, 1) := by decide +kernel
theorem dX1_borders_1 : decode cX1_borders 1 = .ok (.getfield 12, 3) := by decide +kernel
theorem dX1_borders_4 : decode cX1_borders 4 = .ok (.invokevirtual 117, 3) := by decide +kernel
theorem dX1_borders_7 : decode cX1_borders 7 = .ok (.ireturn, 1) := by decide +kernel
theorem dX1_leader_0 : decode cX1_leader 0 = .ok (.iconst 0, 1) := by decide +kernel
theorem dX1_leader_1 : decode cX1_leader 1 = .ok (.istore_n 1, 1) := by decide +kernel
theorem dX1_leader_2 : decode cX1_leader 2 = .ok (.iconst 0, 1) := by decide +kernel
theorem dX1_leader_3 : decode cX1_leader 3 = .ok (.istore_n 2, 1) := by decide +kernel
theorem dX1_leader_4 : decode cX1_leader 4 = .ok (.iconst 1, 1) := by decide +kernel
theorem dX1_leader_5 : decode cX1_leader 5 = .ok (.istore_n 3, 1) := by decide +kernel
theorem dX1_leader_6 : decode cX1_leader 6 = .ok (.iload_n 3, 1) := by decide +kernel
theorem dX1_leader_7 : decode cX1_leader 7 = .ok (.iconst 4, 1) := by decide +kernel
theorem dX1_leader_8 : decode cX1_leader 8 = .ok (.if_icmp .gt 30, 3) := by decide +kernel
theorem dX1_leader_11 : decode cX1_leader 11 = .ok (.aload_n 0, 1) := by decide +kernel
theorem dX1_leader_12 : decode cX1_leader 12 = .ok (.getfield 12, 3) := by decide +kernel
theorem dX1_leader_15 : decode cX1_leader 15 = .ok (.iload_n 3, 1) := by decide +kernel
theorem dX1_leader_16 : decode cX1_leader 16 = .ok (.invokevirtual 105, 3) := by decide +kernel
theorem dX1_leader_19 : decode cX1_leader 19 = .ok (.istore 4, 2) := by decide +kernel
theorem dX1_leader_21 : decode cX1_leader 21 = .ok (.iload 4, 2) := by decide +kernel
theorem dX1_leader_23 : decode cX1_leader 23 = .ok (.iload_n 2, 1) := by decide +kernel
theorem dX1_leader_24 : decode cX1_leader 24 = .ok (.if_icmp .le 8, 3) := by decide +kernel
theorem dX1_leader_27 : decode cX1_leader 27 = .ok (.iload 4, 2) := by decide +kernel
theorem dX1_leader_29 : decode cX1_leader 29 = .ok (.istore_n 2, 1) := by decide +kernel
theorem dX1_leader_30 : decode cX1_leader 30 = .ok (.iload_n 3, 1) := by decide +kernel
theorem dX1_leader_31 : decode cX1_leader 31 = .ok (.istore_n 1, 1) := by decide +kernel
theorem dX1_leader_32 : decode cX1_leader 32 = .ok (.iinc 3 1, 3) := by decide +kernel
theorem dX1_leader_35 : decode cX1_leader 35 = .ok (.goto (-29), 3) := by decide +kernel
theorem dX1_leader_38 : decode cX1_leader 38 = .ok (.iload_n 1, 1) := by decide +kernel
theorem dX1_leader_39 : decode cX1_leader 39 = .ok (.ireturn, 1) := by decide +kernel
theorem dX1_isStill_0 : decode cX1_isStill 0 = .ok (.aload_n 0, 1) := by decide +kernel
theorem dX1_isStill_1 : decode cX1_isStill 1 = .ok (.getfield 12, 3) := by decide +kernel
theorem dX1_isStill_4 : decode cX1_isStill 4 = .ok (.invokevirtual 93, 3) := by decide +kernel
theorem dX1_isStill_7 : decode cX1_isStill 7 = .ok (.ifCond .ne 7, 3) := by decide +kernel
theorem dX1_isStill_10 : decode cX1_isStill 10 = .ok (.iconst 1, 1) := by decide +kernel
theorem dX1_isStill_11 : decode cX1_isStill 11 = .ok (.goto 4, 3) := by decide +kernel
theorem dX1_isStill_14 : decode cX1_isStill 14 = .ok (.iconst 0, 1) := by decide +kernel
theorem dX1_isStill_15 : decode cX1_isStill 15 = .ok (.ireturn, 1) := by decide +kernel
theorem dX1_winner_0 : decode cX1_winner 0 = .ok (.iconst 1, 1) := by decide +kernel
theorem dX1_winner_1 : decode cX1_winner 1 = .ok (.istore_n 1, 1) := by decide +kernel
theorem dX1_winner_2 : decode cX1_winner 2 = .ok (.iload_n 1, 1) := by decide +kernel
theorem dX1_winner_3 : decode cX1_winner 3 = .ok (.iconst 4, 1) := by decide +kernel
theorem dX1_winner_4 : decode cX1_winner 4 = .ok (.if_icmp .gt 22, 3) := by decide +kernel
theorem dX1_winner_7 : decode cX1_winner 7 = .ok (.aload_n 0, 1) := by decide +kernel
theorem dX1_winner_8 : decode cX1_winner 8 = .ok (.getfield 12, 3) := by decide +kernel
theorem dX1_winner_11 : decode cX1_winner 11 = .ok (.iload_n 1, 1) := by decide +kernel
theorem dX1_winner_12 : decode cX1_winner 12 = .ok (.invokevirtual 120, 3) := by decide +kernel
theorem dX1_winner_15 : decode cX1_winner 15 = .ok (.ifCond .eq 5, 3) := by decide +kernel
theorem dX1_winner_18 : decode cX1_winner 18 = .ok (.iload_n 1, 1) := by decide +kernel
theorem dX1_winner_19 : decode cX1_winner 19 = .ok (.ireturn, 1) := by decide +kernel
theorem dX1_winner_20 : decode cX1_winner 20 = .ok (.iinc 1 1, 3) := by decide +kernel
theorem dX1_winner_23 : decode cX1_winner 23 = .ok (.goto (-21), 3) := by decide +kernel
theorem dX1_winner_26 : decode cX1_winner 26 = .ok (.iconst 0, 1) := by decide +kernel
theorem dX1_winner_27 : decode cX1_winner 27 = .ok (.ireturn, 1) := by decide +kernel
theorem dX1_share_0 : decode cX1_share 0 = .ok (.iload_n 1, 1) := by decide +kernel
theorem dX1_share_1 : decode cX1_share 1 = .ok (.invokestatic 48, 3) := by decide +kernel
theorem dX1_share_4 : decode cX1_share 4 = .ok (.ifCond .ne 13, 3) := by decide +kernel
theorem dX1_share_7 : decode cX1_share 7 = .ok (.new 51, 3) := by decide +kernel
theorem dX1_share_10 : decode cX1_share 10 = .ok (.dup, 1) := by decide +kernel
theorem dX1_share_11 : decode cX1_share 11 = .ok (.ldc 103, 2) := by decide +kernel
theorem dX1_share_13 : decode cX1_share 13 = .ok (.invokespecial 55, 3) := by decide +kernel
theorem dX1_share_16 : decode cX1_share 16 = .ok (.athrow, 1) := by decide +kernel
theorem dX1_share_17 : decode cX1_share 17 = .ok (.aload_n 0, 1) := by decide +kernel
theorem dX1_share_18 : decode cX1_share 18 = .ok (.getfield 19, 3) := by decide +kernel
theorem dX1_share_21 : decode cX1_share 21 = .ok (.aload_n 0, 1) := by decide +kernel
theorem dX1_share_22 : decode cX1_share 22 = .ok (.getfield 23, 3) := by decide +kernel
theorem dX1_share_25 : decode cX1_share 25 = .ok (.imul, 1) := by decide +kernel
theorem dX1_share_26 : decode cX1_share 26 = .ok (.istore_n 2, 1) := by decide +kernel
theorem dX1_share_27 : decode cX1_share 27 = .ok (.iload_n 2, 1) := by decide +kernel
theorem dX1_share_28 : decode cX1_share 28 = .ok (.ifCond .ne 7, 3) := by decide +kernel
theorem dX1_share_31 : decode cX1_share 31 = .ok (.dconst 0, 1) := by decide +kernel
theorem dX1_share_32 : decode cX1_share 32 = .ok (.goto 15, 3) := by decide +kernel
theorem dX1_share_35 : decode cX1_share 35 = .ok (.aload_n 0, 1) := by decide +kernel
theorem dX1_share_36 : decode cX1_share 36 = .ok (.getfield 12, 3) := by decide +kernel
theorem dX1_share_39 : decode cX1_share 39 = .ok (.iload_n 1, 1) := by decide +kernel
theorem dX1_share_40 : decode cX1_share 40 = .ok (.invokevirtual 105, 3) := by decide +kernel
theorem dX1_share_43 : decode cX1_share 43 = .ok (.i2d, 1) := by decide +kernel
theorem dX1_share_44 : decode cX1_share 44 = .ok (.iload_n 2, 1) := by decide +kernel
theorem dX1_share_45 : decode cX1_share 45 = .ok (.i2d, 1) := by decide +kernel
theorem dX1_share_46 : decode cX1_share 46 = .ok (.ddiv, 1) := by decide +kernel
theorem dX1_share_47 : decode cX1_share 47 = .ok (.dreturn, 1) := by decide +kernel
theorem dX1_isOnMap_0 : decode cX1_isOnMap 0 = .ok (.iload_n 1, 1) := by decide +kernel
theorem dX1_isOnMap_1 : decode cX1_isOnMap 1 = .ok (.ifCond .lt 27, 3) := by decide +kernel
theorem dX1_isOnMap_4 : decode cX1_isOnMap 4 = .ok (.iload_n 1, 1) := by decide +kernel
theorem dX1_isOnMap_5 : decode cX1_isOnMap 5 = .ok (.aload_n 0, 1) := by decide +kernel
theorem dX1_isOnMap_6 : decode cX1_isOnMap 6 = .ok (.getfield 19, 3) := by decide +kernel
theorem dX1_isOnMap_9 : decode cX1_isOnMap 9 = .ok (.if_icmp .ge 19, 3) := by decide +kernel
theorem dX1_isOnMap_12 : decode cX1_isOnMap 12 = .ok (.iload_n 2, 1) := by decide +kernel
theorem dX1_isOnMap_13 : decode cX1_isOnMap 13 = .ok (.ifCond .lt 15, 3) := by decide +kernel
theorem dX1_isOnMap_16 : decode cX1_isOnMap 16 = .ok (.iload_n 2, 1) := by decide +kernel
theorem dX1_isOnMap_17 : decode cX1_isOnMap 17 = .ok (.aload_n 0, 1) := by decide +kernel
theorem dX1_isOnMap_18 : decode cX1_isOnMap 18 = .ok (.getfield 23, 3) := by decide +kernel
theorem dX1_isOnMap_21 : decode cX1_isOnMap 21 = .ok (.if_icmp .ge 7, 3) := by decide +kernel
theorem dX1_isOnMap_24 : decode cX1_isOnMap 24 = .ok (.iconst 1, 1) := by decide +kernel
theorem dX1_isOnMap_25 : decode cX1_isOnMap 25 = .ok (.goto 4, 3) := by decide +kernel
theorem dX1_isOnMap_28 : decode cX1_isOnMap 28 = .ok (.iconst 0, 1) := by decide +kernel
theorem dX1_isOnMap_29 : decode cX1_isOnMap 29 = .ok (.ireturn, 1) := by decide +kernel
theorem dX1_isSide_0 : decode cX1_isSide 0 = .ok (.iload_n 0, 1) := by decide +kernel
theorem dX1_isSide_1 : decode cX1_isSide 1 = .ok (.iconst 2, 1) := by decide +kernel
theorem dX1_isSide_2 : decode cX1_isSide 2 = .ok (.if_icmp .lt 12, 3) := by decide +kernel
theorem dX1_isSide_5 : decode cX1_isSide 5 = .ok (.iload_n 0, 1) := by decide +kernel
theorem dX1_isSide_6 : decode cX1_isSide 6 = .ok (.iconst 5, 1) := by decide +kernel
theorem dX1_isSide_7 : decode cX1_isSide 7 = .ok (.if_icmp .gt 7, 3) := by decide +kernel
theorem dX1_isSide_10 : decode cX1_isSide 10 = .ok (.iconst 1, 1) := by decide +kernel
theorem dX1_isSide_11 : decode cX1_isSide 11 = .ok (.goto 4, 3) := by decide +kernel
theorem dX1_isSide_14 : decode cX1_isSide 14 = .ok (.iconst 0, 1) := by decide +kernel
theorem dX1_isSide_15 : decode cX1_isSide 15 = .ok (.ireturn, 1) := by decide +kernel
theorem dX1_isColour_0 : decode cX1_isColour 0 = .ok (.iload_n 0, 1) := by decide +kernel
theorem dX1_isColour_1 : decode cX1_isColour 1 = .ok (.iconst 1, 1) := by decide +kernel
theorem dX1_isColour_2 : decode cX1_isColour 2 = .ok (.if_icmp .lt 12, 3) := by decide +kernel
theorem dX1_isColour_5 : decode cX1_isColour 5 = .ok (.iload_n 0, 1) := by decide +kernel
theorem dX1_isColour_6 : decode cX1_isColour 6 = .ok (.iconst 4, 1) := by decide +kernel
theorem dX1_isColour_7 : decode cX1_isColour 7 = .ok (.if_icmp .gt 7, 3) := by decide +kernel
theorem dX1_isColour_10 : decode cX1_isColour 10 = .ok (.iconst 1, 1) := by decide +kernel
theorem dX1_isColour_11 : decode cX1_isColour 11 = .ok (.goto 4, 3) := by decide +kernel
theorem dX1_isColour_14 : decode cX1_isColour 14 = .ok (.iconst 0, 1) := by decide +kernel
theorem dX1_isColour_15 : decode cX1_isColour 15 = .ok (.ireturn, 1) := by decide +kernel
theorem dX1_isColourOrBare_0 : decode cX1_isColourOrBare 0 = .ok (.iload_n 0, 1) := by decide +kernel
theorem dX1_isColourOrBare_1 : decode cX1_isColourOrBare 1 = .ok (.ifCond .eq 10, 3) := by decide +kernel
theorem dX1_isColourOrBare_4 : decode cX1_isColourOrBare 4 = .ok (.iload_n 0, 1) := by decide +kernel
theorem dX1_isColourOrBare_5 : decode cX1_isColourOrBare 5 = .ok (.invokestatic 108, 3) := by decide +kernel
theorem dX1_isColourOrBare_8 : decode cX1_isColourOrBare 8 = .ok (.ifCond .eq 7, 3) := by decide +kernel
theorem dX1_isColourOrBare_11 : decode cX1_isColourOrBare 11 = .ok (.iconst 1, 1) := by decide +kernel
theorem dX1_isColourOrBare_12 : decode cX1_isColourOrBare 12 = .ok (.goto 4, 3) := by decide +kernel
theorem dX1_isColourOrBare_15 : decode cX1_isColourOrBare 15 = .ok (.iconst 0, 1) := by decide +kernel
theorem dX1_isColourOrBare_16 : decode cX1_isColourOrBare 16 = .ok (.ireturn, 1) := by decide +kernel
theorem dX1_cell_0 : decode cX1_cell 0 = .ok (.iconst 1, 1) := by decide +kernel
theorem dX1_cell_1 : decode cX1_cell 1 = .ok (.iload_n 0, 1) := by decide +kernel
theorem dX1_cell_2 : decode cX1_cell 2 = .ok (.bipush 6, 2) := by decide +kernel
theorem dX1_cell_4 : decode cX1_cell 4 = .ok (.iload_n 1, 1) := by decide +kernel
theorem dX1_cell_5 : decode cX1_cell 5 = .ok (.imul, 1) := by decide +kernel
theorem dX1_cell_6 : decode cX1_cell 6 = .ok (.iadd, 1) := by decide +kernel
theorem dX1_cell_7 : decode cX1_cell 7 = .ok (.ishl, 1) := by decide +kernel
theorem dX1_cell_8 : decode cX1_cell 8 = .ok (.ireturn, 1) := by decide +kernel
theorem dX1_nextTo_0 : decode cX1_nextTo 0 = .ok (.iload_n 0, 1) := by decide +kernel
theorem dX1_nextTo_1 : decode cX1_nextTo 1 = .ok (.iconst 1, 1) := by decide +kernel
theorem dX1_nextTo_2 : decode cX1_nextTo 2 = .ok (.ishl, 1) := by decide +kernel
theorem dX1_nextTo_3 : decode cX1_nextTo 3 = .ok (.iload_n 0, 1) := by decide +kernel
theorem dX1_nextTo_4 : decode cX1_nextTo 4 = .ok (.iconst 1, 1) := by decide +kernel
theorem dX1_nextTo_5 : decode cX1_nextTo 5 = .ok (.iushr, 1) := by decide +kernel
theorem dX1_nextTo_6 : decode cX1_nextTo 6 = .ok (.ior, 1) := by decide +kernel
theorem dX1_nextTo_7 : decode cX1_nextTo 7 = .ok (.iload_n 0, 1) := by decide +kernel
theorem dX1_nextTo_8 : decode cX1_nextTo 8 = .ok (.bipush 6, 2) := by decide +kernel
theorem dX1_nextTo_10 : decode cX1_nextTo 10 = .ok (.ishl, 1) := by decide +kernel
theorem dX1_nextTo_11 : decode cX1_nextTo 11 = .ok (.ior, 1) := by decide +kernel
theorem dX1_nextTo_12 : decode cX1_nextTo 12 = .ok (.iload_n 0, 1) := by decide +kernel
theorem dX1_nextTo_13 : decode cX1_nextTo 13 = .ok (.bipush 6, 2) := by decide +kernel
theorem dX1_nextTo_15 : decode cX1_nextTo 15 = .ok (.iushr, 1) := by decide +kernel
theorem dX1_nextTo_16 : decode cX1_nextTo 16 = .ok (.ior, 1) := by decide +kernel
theorem dX1_nextTo_17 : decode cX1_nextTo 17 = .ok (.ireturn, 1) := by decide +kernel
theorem dJ6_bitCount_0f7a4_0 : decode cJ6_bitCount_0f7a4 0 = .ok (.iload_n 0, 1) := by decide +kernel
theorem dJ6_bitCount_0f7a4_1 : decode cJ6_bitCount_0f7a4 1 = .ok (.iload_n 0, 1) := by decide +kernel
theorem dJ6_bitCount_0f7a4_2 : decode cJ6_bitCount_0f7a4 2 = .ok (.iconst 1, 1) := by decide +kernel
theorem dJ6_bitCount_0f7a4_3 : decode cJ6_bitCount_0f7a4 3 = .ok (.iushr, 1) := by decide +kernel
theorem dJ6_bitCount_0f7a4_4 : decode cJ6_bitCount_0f7a4 4 = .ok (.ldc_w 265, 3) := by decide +kernel
theorem dJ6_bitCount_0f7a4_7 : decode cJ6_bitCount_0f7a4 7 = .ok (.iand, 1) := by decide +kernel
theorem dJ6_bitCount_0f7a4_8 : decode cJ6_bitCount_0f7a4 8 = .ok (.isub, 1) := by decide +kernel
theorem dJ6_bitCount_0f7a4_9 : decode cJ6_bitCount_0f7a4 9 = .ok (.istore_n 0, 1) := by decide +kernel
theorem dJ6_bitCount_0f7a4_10 : decode cJ6_bitCount_0f7a4 10 = .ok (.iload_n 0, 1) := by decide +kernel
theorem dJ6_bitCount_0f7a4_11 : decode cJ6_bitCount_0f7a4 11 = .ok (.ldc_w 266, 3) := by decide +kernel
theorem dJ6_bitCount_0f7a4_14 : decode cJ6_bitCount_0f7a4 14 = .ok (.iand, 1) := by decide +kernel
theorem dJ6_bitCount_0f7a4_15 : decode cJ6_bitCount_0f7a4 15 = .ok (.iload_n 0, 1) := by decide +kernel
theorem dJ6_bitCount_0f7a4_16 : decode cJ6_bitCount_0f7a4 16 = .ok (.iconst 2, 1) := by decide +kernel
theorem dJ6_bitCount_0f7a4_17 : decode cJ6_bitCount_0f7a4 17 = .ok (.iushr, 1) := by decide +kernel
theorem dJ6_bitCount_0f7a4_18 : decode cJ6_bitCount_0f7a4 18 = .ok (.ldc_w 266, 3) := by decide +kernel
theorem dJ6_bitCount_0f7a4_21 : decode cJ6_bitCount_0f7a4 21 = .ok (.iand, 1) := by decide +kernel
theorem dJ6_bitCount_0f7a4_22 : decode cJ6_bitCount_0f7a4 22 = .ok (.iadd, 1) := by decide +kernel
theorem dJ6_bitCount_0f7a4_23 : decode cJ6_bitCount_0f7a4 23 = .ok (.istore_n 0, 1) := by decide +kernel
theorem dJ6_bitCount_0f7a4_24 : decode cJ6_bitCount_0f7a4 24 = .ok (.iload_n 0, 1) := by decide +kernel
theorem dJ6_bitCount_0f7a4_25 : decode cJ6_bitCount_0f7a4 25 = .ok (.iload_n 0, 1) := by decide +kernel
theorem dJ6_bitCount_0f7a4_26 : decode cJ6_bitCount_0f7a4 26 = .ok (.iconst 4, 1) := by decide +kernel
theorem dJ6_bitCount_0f7a4_27 : decode cJ6_bitCount_0f7a4 27 = .ok (.iushr, 1) := by decide +kernel
theorem dJ6_bitCount_0f7a4_28 : decode cJ6_bitCount_0f7a4 28 = .ok (.iadd, 1) := by decide +kernel
theorem dJ6_bitCount_0f7a4_29 : decode cJ6_bitCount_0f7a4 29 = .ok (.ldc_w 267, 3) := by decide +kernel
theorem dJ6_bitCount_0f7a4_32 : decode cJ6_bitCount_0f7a4 32 = .ok (.iand, 1) := by decide +kernel
theorem dJ6_bitCount_0f7a4_33 : decode cJ6_bitCount_0f7a4 33 = .ok (.istore_n 0, 1) := by decide +kernel
theorem dJ6_bitCount_0f7a4_34 : decode cJ6_bitCount_0f7a4 34 = .ok (.iload_n 0, 1) := by decide +kernel
theorem dJ6_bitCount_0f7a4_35 : decode cJ6_bitCount_0f7a4 35 = .ok (.iload_n 0, 1) := by decide +kernel
theorem dJ6_bitCount_0f7a4_36 : decode cJ6_bitCount_0f7a4 36 = .ok (.bipush 8, 2) := by decide +kernel
theorem dJ6_bitCount_0f7a4_38 : decode cJ6_bitCount_0f7a4 38 = .ok (.iushr, 1) := by decide +kernel
theorem dJ6_bitCount_0f7a4_39 : decode cJ6_bitCount_0f7a4 39 = .ok (.iadd, 1) := by decide +kernel
theorem dJ6_bitCount_0f7a4_40 : decode cJ6_bitCount_0f7a4 40 = .ok (.istore_n 0, 1) := by decide +kernel
theorem dJ6_bitCount_0f7a4_41 : decode cJ6_bitCount_0f7a4 41 = .ok (.iload_n 0, 1) := by decide +kernel
theorem dJ6_bitCount_0f7a4_42 : decode cJ6_bitCount_0f7a4 42 = .ok (.iload_n 0, 1) := by decide +kernel
theorem dJ6_bitCount_0f7a4_43 : decode cJ6_bitCount_0f7a4 43 = .ok (.bipush 16, 2) := by decide +kernel
theorem dJ6_bitCount_0f7a4_45 : decode cJ6_bitCount_0f7a4 45 = .ok (.iushr, 1) := by decide +kernel
theorem dJ6_bitCount_0f7a4_46 : decode cJ6_bitCount_0f7a4 46 = .ok (.iadd, 1) := by decide +kernel
theorem dJ6_bitCount_0f7a4_47 : decode cJ6_bitCount_0f7a4 47 = .ok (.istore_n 0, 1) := by decide +kernel
theorem dJ6_bitCount_0f7a4_48 : decode cJ6_bitCount_0f7a4 48 = .ok (.iload_n 0, 1) := by decide +kernel
theorem dJ6_bitCount_0f7a4_49 : decode cJ6_bitCount_0f7a4 49 = .ok (.bipush 63, 2) := by decide +kernel
theorem dJ6_bitCount_0f7a4_51 : decode cJ6_bitCount_0f7a4 51 = .ok (.iand, 1) := by decide +kernel
theorem dJ6_bitCount_0f7a4_52 : decode cJ6_bitCount_0f7a4 52 = .ok (.ireturn, 1) := by decide +kernel
