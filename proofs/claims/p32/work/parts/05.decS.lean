theorem dX2_init_0 : decode cX2_init 0 = .ok (.aload_n 0, 1) := by decide +kernel
theorem dX2_init_1 : decode cX2_init 1 = .ok (.invokespecial 1, 3) := by decide +kernel
theorem dX2_init_4 : decode cX2_init 4 = .ok (.aload_n 0, 1) := by decide +kernel
theorem dX2_init_5 : decode cX2_init 5 = .ok (.iconst 2, 1) := by decide +kernel
theorem dX2_init_6 : decode cX2_init 6 = .ok (.putfield 7, 3) := by decide +kernel
theorem dX2_init_9 : decode cX2_init 9 = .ok (.aload_n 0, 1) := by decide +kernel
theorem dX2_init_10 : decode cX2_init 10 = .ok (.iload_n 1, 1) := by decide +kernel
theorem dX2_init_11 : decode cX2_init 11 = .ok (.putfield 13, 3) := by decide +kernel
theorem dX2_init_14 : decode cX2_init 14 = .ok (.aload_n 0, 1) := by decide +kernel
theorem dX2_init_15 : decode cX2_init 15 = .ok (.iload_n 2, 1) := by decide +kernel
theorem dX2_init_16 : decode cX2_init 16 = .ok (.putfield 16, 3) := by decide +kernel
theorem dX2_init_19 : decode cX2_init 19 = .ok (.aload_n 0, 1) := by decide +kernel
theorem dX2_init_20 : decode cX2_init 20 = .ok (.iload_n 1, 1) := by decide +kernel
theorem dX2_init_21 : decode cX2_init 21 = .ok (.iload_n 2, 1) := by decide +kernel
theorem dX2_init_22 : decode cX2_init 22 = .ok (.multianewarray 19 2, 4) := by decide +kernel
theorem dX2_init_26 : decode cX2_init 26 = .ok (.putfield 21, 3) := by decide +kernel
theorem dX2_init_29 : decode cX2_init 29 = .ok (.aload_n 0, 1) := by decide +kernel
theorem dX2_init_30 : decode cX2_init 30 = .ok (.iload_n 1, 1) := by decide +kernel
theorem dX2_init_31 : decode cX2_init 31 = .ok (.iload_n 2, 1) := by decide +kernel
theorem dX2_init_32 : decode cX2_init 32 = .ok (.multianewarray 24 2, 4) := by decide +kernel
theorem dX2_init_36 : decode cX2_init 36 = .ok (.putfield 26, 3) := by decide +kernel
theorem dX2_init_39 : decode cX2_init 39 = .ok (.return_, 1) := by decide +kernel
theorem dX2_at_0 : decode cX2_at 0 = .ok (.iload_n 1, 1) := by decide +kernel
theorem dX2_at_1 : decode cX2_at 1 = .ok (.ifCond .lt 23, 3) := by decide +kernel
theorem dX2_at_4 : decode cX2_at 4 = .ok (.iload_n 2, 1) := by decide +kernel
theorem dX2_at_5 : decode cX2_at 5 = .ok (.ifCond .lt 19, 3) := by decide +kernel
theorem dX2_at_8 : decode cX2_at 8 = .ok (.iload_n 1, 1) := by decide +kernel
theorem dX2_at_9 : decode cX2_at 9 = .ok (.aload_n 0, 1) := by decide +kernel
theorem dX2_at_10 : decode cX2_at 10 = .ok (.getfield 13, 3) := by decide +kernel
theorem dX2_at_13 : decode cX2_at 13 = .ok (.if_icmp .ge 11, 3) := by decide +kernel
theorem dX2_at_16 : decode cX2_at 16 = .ok (.iload_n 2, 1) := by decide +kernel
theorem dX2_at_17 : decode cX2_at 17 = .ok (.aload_n 0, 1) := by decide +kernel
theorem dX2_at_18 : decode cX2_at 18 = .ok (.getfield 16, 3) := by decide +kernel
theorem dX2_at_21 : decode cX2_at 21 = .ok (.if_icmp .lt 7, 3) := by decide +kernel
theorem dX2_at_24 : decode cX2_at 24 = .ok (.iconst 0, 1) := by decide +kernel
theorem dX2_at_25 : decode cX2_at 25 = .ok (.goto 11, 3) := by decide +kernel
theorem dX2_at_28 : decode cX2_at 28 = .ok (.aload_n 0, 1) := by decide +kernel
theorem dX2_at_29 : decode cX2_at 29 = .ok (.getfield 21, 3) := by decide +kernel
theorem dX2_at_32 : decode cX2_at 32 = .ok (.iload_n 1, 1) := by decide +kernel
theorem dX2_at_33 : decode cX2_at 33 = .ok (.aaload, 1) := by decide +kernel
theorem dX2_at_34 : decode cX2_at 34 = .ok (.iload_n 2, 1) := by decide +kernel
theorem dX2_at_35 : decode cX2_at 35 = .ok (.iaload, 1) := by decide +kernel
theorem dX2_at_36 : decode cX2_at 36 = .ok (.ireturn, 1) := by decide +kernel
theorem dX2_beside_0 : decode cX2_beside 0 = .ok (.aload_n 0, 1) := by decide +kernel
theorem dX2_beside_1 : decode cX2_beside 1 = .ok (.iload_n 1, 1) := by decide +kernel
theorem dX2_beside_2 : decode cX2_beside 2 = .ok (.iconst 1, 1) := by decide +kernel
theorem dX2_beside_3 : decode cX2_beside 3 = .ok (.isub, 1) := by decide +kernel
theorem dX2_beside_4 : decode cX2_beside 4 = .ok (.iload_n 2, 1) := by decide +kernel
theorem dX2_beside_5 : decode cX2_beside 5 = .ok (.invokevirtual 29, 3) := by decide +kernel
theorem dX2_beside_8 : decode cX2_beside 8 = .ok (.iload_n 3, 1) := by decide +kernel
theorem dX2_beside_9 : decode cX2_beside 9 = .ok (.if_icmp .ne 7, 3) := by decide +kernel
theorem dX2_beside_12 : decode cX2_beside 12 = .ok (.iconst 1, 1) := by decide +kernel
theorem dX2_beside_13 : decode cX2_beside 13 = .ok (.goto 4, 3) := by decide +kernel
theorem dX2_beside_16 : decode cX2_beside 16 = .ok (.iconst 0, 1) := by decide +kernel
theorem dX2_beside_17 : decode cX2_beside 17 = .ok (.aload_n 0, 1) := by decide +kernel
theorem dX2_beside_18 : decode cX2_beside 18 = .ok (.iload_n 1, 1) := by decide +kernel
theorem dX2_beside_19 : decode cX2_beside 19 = .ok (.iconst 1, 1) := by decide +kernel
theorem dX2_beside_20 : decode cX2_beside 20 = .ok (.iadd, 1) := by decide +kernel
theorem dX2_beside_21 : decode cX2_beside 21 = .ok (.iload_n 2, 1) := by decide +kernel
theorem dX2_beside_22 : decode cX2_beside 22 = .ok (.invokevirtual 29, 3) := by decide +kernel
theorem dX2_beside_25 : decode cX2_beside 25 = .ok (.iload_n 3, 1) := by decide +kernel
theorem dX2_beside_26 : decode cX2_beside 26 = .ok (.if_icmp .ne 7, 3) := by decide +kernel
theorem dX2_beside_29 : decode cX2_beside 29 = .ok (.iconst 1, 1) := by decide +kernel
theorem dX2_beside_30 : decode cX2_beside 30 = .ok (.goto 4, 3) := by decide +kernel
theorem dX2_beside_33 : decode cX2_beside 33 = .ok (.iconst 0, 1) := by decide +kernel
theorem dX2_beside_34 : decode cX2_beside 34 = .ok (.iadd, 1) := by decide +kernel
theorem dX2_beside_35 : decode cX2_beside 35 = .ok (.aload_n 0, 1) := by decide +kernel
theorem dX2_beside_36 : decode cX2_beside 36 = .ok (.iload_n 1, 1) := by decide +kernel
theorem dX2_beside_37 : decode cX2_beside 37 = .ok (.iload_n 2, 1) := by decide +kernel
theorem dX2_beside_38 : decode cX2_beside 38 = .ok (.iconst 1, 1) := by decide +kernel
theorem dX2_beside_39 : decode cX2_beside 39 = .ok (.isub, 1) := by decide +kernel
theorem dX2_beside_40 : decode cX2_beside 40 = .ok (.invokevirtual 29, 3) := by decide +kernel
theorem dX2_beside_43 : decode cX2_beside 43 = .ok (.iload_n 3, 1) := by decide +kernel
theorem dX2_beside_44 : decode cX2_beside 44 = .ok (.if_icmp .ne 7, 3) := by decide +kernel
theorem dX2_beside_47 : decode cX2_beside 47 = .ok (.iconst 1, 1) := by decide +kernel
theorem dX2_beside_48 : decode cX2_beside 48 = .ok (.goto 4, 3) := by decide +kernel
theorem dX2_beside_51 : decode cX2_beside 51 = .ok (.iconst 0, 1) := by decide +kernel
theorem dX2_beside_52 : decode cX2_beside 52 = .ok (.iadd, 1) := by decide +kernel
theorem dX2_beside_53 : decode cX2_beside 53 = .ok (.aload_n 0, 1) := by decide +kernel
theorem dX2_beside_54 : decode cX2_beside 54 = .ok (.iload_n 1, 1) := by decide +kernel
theorem dX2_beside_55 : decode cX2_beside 55 = .ok (.iload_n 2, 1) := by decide +kernel
theorem dX2_beside_56 : decode cX2_beside 56 = .ok (.iconst 1, 1) := by decide +kernel
theorem dX2_beside_57 : decode cX2_beside 57 = .ok (.iadd, 1) := by decide +kernel
theorem dX2_beside_58 : decode cX2_beside 58 = .ok (.invokevirtual 29, 3) := by decide +kernel
theorem dX2_beside_61 : decode cX2_beside 61 = .ok (.iload_n 3, 1) := by decide +kernel
theorem dX2_beside_62 : decode cX2_beside 62 = .ok (.if_icmp .ne 7, 3) := by decide +kernel
theorem dX2_beside_65 : decode cX2_beside 65 = .ok (.iconst 1, 1) := by decide +kernel
theorem dX2_beside_66 : decode cX2_beside 66 = .ok (.goto 4, 3) := by decide +kernel
theorem dX2_beside_69 : decode cX2_beside 69 = .ok (.iconst 0, 1) := by decide +kernel
theorem dX2_beside_70 : decode cX2_beside 70 = .ok (.iadd, 1) := by decide +kernel
theorem dX2_beside_71 : decode cX2_beside 71 = .ok (.ireturn, 1) := by decide +kernel
theorem dX2_bare_0 : decode cX2_bare 0 = .ok (.iload_n 1, 1) := by decide +kernel
theorem dX2_bare_1 : decode cX2_bare 1 = .ok (.ifCond .le 7, 3) := by decide +kernel
theorem dX2_bare_4 : decode cX2_bare 4 = .ok (.iconst 1, 1) := by decide +kernel
theorem dX2_bare_5 : decode cX2_bare 5 = .ok (.goto 4, 3) := by decide +kernel
theorem dX2_bare_8 : decode cX2_bare 8 = .ok (.iconst 0, 1) := by decide +kernel
theorem dX2_bare_9 : decode cX2_bare 9 = .ok (.iload_n 1, 1) := by decide +kernel
theorem dX2_bare_10 : decode cX2_bare 10 = .ok (.aload_n 0, 1) := by decide +kernel
theorem dX2_bare_11 : decode cX2_bare 11 = .ok (.getfield 13, 3) := by decide +kernel
theorem dX2_bare_14 : decode cX2_bare 14 = .ok (.iconst 1, 1) := by decide +kernel
theorem dX2_bare_15 : decode cX2_bare 15 = .ok (.isub, 1) := by decide +kernel
theorem dX2_bare_16 : decode cX2_bare 16 = .ok (.if_icmp .ge 7, 3) := by decide +kernel
theorem dX2_bare_19 : decode cX2_bare 19 = .ok (.iconst 1, 1) := by decide +kernel
theorem dX2_bare_20 : decode cX2_bare 20 = .ok (.goto 4, 3) := by decide +kernel
theorem dX2_bare_23 : decode cX2_bare 23 = .ok (.iconst 0, 1) := by decide +kernel
theorem dX2_bare_24 : decode cX2_bare 24 = .ok (.iadd, 1) := by decide +kernel
theorem dX2_bare_25 : decode cX2_bare 25 = .ok (.iload_n 2, 1) := by decide +kernel
theorem dX2_bare_26 : decode cX2_bare 26 = .ok (.ifCond .le 7, 3) := by decide +kernel
theorem dX2_bare_29 : decode cX2_bare 29 = .ok (.iconst 1, 1) := by decide +kernel
theorem dX2_bare_30 : decode cX2_bare 30 = .ok (.goto 4, 3) := by decide +kernel
theorem dX2_bare_33 : decode cX2_bare 33 = .ok (.iconst 0, 1) := by decide +kernel
theorem dX2_bare_34 : decode cX2_bare 34 = .ok (.iadd, 1) := by decide +kernel
theorem dX2_bare_35 : decode cX2_bare 35 = .ok (.iload_n 2, 1) := by decide +kernel
theorem dX2_bare_36 : decode cX2_bare 36 = .ok (.aload_n 0, 1) := by decide +kernel
theorem dX2_bare_37 : decode cX2_bare 37 = .ok (.getfield 16, 3) := by decide +kernel
theorem dX2_bare_40 : decode cX2_bare 40 = .ok (.iconst 1, 1) := by decide +kernel
theorem dX2_bare_41 : decode cX2_bare 41 = .ok (.isub, 1) := by decide +kernel
theorem dX2_bare_42 : decode cX2_bare 42 = .ok (.if_icmp .ge 7, 3) := by decide +kernel
theorem dX2_bare_45 : decode cX2_bare 45 = .ok (.iconst 1, 1) := by decide +kernel
theorem dX2_bare_46 : decode cX2_bare 46 = .ok (.goto 4, 3) := by decide +kernel
theorem dX2_bare_49 : decode cX2_bare 49 = .ok (.iconst 0, 1) := by decide +kernel
theorem dX2_bare_50 : decode cX2_bare 50 = .ok (.iadd, 1) := by decide +kernel
theorem dX2_bare_51 : decode cX2_bare 51 = .ok (.istore_n 3, 1) := by decide +kernel
theorem dX2_bare_52 : decode cX2_bare 52 = .ok (.iload_n 3, 1) := by decide +kernel
theorem dX2_bare_53 : decode cX2_bare 53 = .ok (.aload_n 0, 1) := by decide +kernel
theorem dX2_bare_54 : decode cX2_bare 54 = .ok (.iload_n 1, 1) := by decide +kernel
theorem dX2_bare_55 : decode cX2_bare 55 = .ok (.iload_n 2, 1) := by decide +kernel
theorem dX2_bare_56 : decode cX2_bare 56 = .ok (.iconst 1, 1) := by decide +kernel
theorem dX2_bare_57 : decode cX2_bare 57 = .ok (.invokevirtual 33, 3) := by decide +kernel
theorem dX2_bare_60 : decode cX2_bare 60 = .ok (.isub, 1) := by decide +kernel
theorem dX2_bare_61 : decode cX2_bare 61 = .ok (.aload_n 0, 1) := by decide +kernel
theorem dX2_bare_62 : decode cX2_bare 62 = .ok (.iload_n 1, 1) := by decide +kernel
theorem dX2_bare_63 : decode cX2_bare 63 = .ok (.iload_n 2, 1) := by decide +kernel
theorem dX2_bare_64 : decode cX2_bare 64 = .ok (.iconst 2, 1) := by decide +kernel
theorem dX2_bare_65 : decode cX2_bare 65 = .ok (.invokevirtual 33, 3) := by decide +kernel
theorem dX2_bare_68 : decode cX2_bare 68 = .ok (.isub, 1) := by decide +kernel
theorem dX2_bare_69 : decode cX2_bare 69 = .ok (.aload_n 0, 1) := by decide +kernel
theorem dX2_bare_70 : decode cX2_bare 70 = .ok (.iload_n 1, 1) := by decide +kernel
theorem dX2_bare_71 : decode cX2_bare 71 = .ok (.iload_n 2, 1) := by decide +kernel
theorem dX2_bare_72 : decode cX2_bare 72 = .ok (.iconst 3, 1) := by decide +kernel
theorem dX2_bare_73 : decode cX2_bare 73 = .ok (.invokevirtual 33, 3) := by decide +kernel
theorem dX2_bare_76 : decode cX2_bare 76 = .ok (.isub, 1) := by decide +kernel
theorem dX2_bare_77 : decode cX2_bare 77 = .ok (.aload_n 0, 1) := by decide +kernel
theorem dX2_bare_78 : decode cX2_bare 78 = .ok (.iload_n 1, 1) := by decide +kernel
theorem dX2_bare_79 : decode cX2_bare 79 = .ok (.iload_n 2, 1) := by decide +kernel
theorem dX2_bare_80 : decode cX2_bare 80 = .ok (.iconst 4, 1) := by decide +kernel
theorem dX2_bare_81 : decode cX2_bare 81 = .ok (.invokevirtual 33, 3) := by decide +kernel
theorem dX2_bare_84 : decode cX2_bare 84 = .ok (.isub, 1) := by decide +kernel
theorem dX2_bare_85 : decode cX2_bare 85 = .ok (.ireturn, 1) := by decide +kernel
theorem dX2_next_0 : decode cX2_next 0 = .ok (.aload_n 0, 1) := by decide +kernel
theorem dX2_next_1 : decode cX2_next 1 = .ok (.getfield 26, 3) := by decide +kernel
theorem dX2_next_4 : decode cX2_next 4 = .ok (.iload_n 1, 1) := by decide +kernel
theorem dX2_next_5 : decode cX2_next 5 = .ok (.aaload, 1) := by decide +kernel
theorem dX2_next_6 : decode cX2_next 6 = .ok (.iload_n 2, 1) := by decide +kernel
theorem dX2_next_7 : decode cX2_next 7 = .ok (.baload, 1) := by decide +kernel
theorem dX2_next_8 : decode cX2_next 8 = .ok (.ifCond .eq 12, 3) := by decide +kernel
theorem dX2_next_11 : decode cX2_next 11 = .ok (.aload_n 0, 1) := by decide +kernel
theorem dX2_next_12 : decode cX2_next 12 = .ok (.getfield 21, 3) := by decide +kernel
theorem dX2_next_15 : decode cX2_next 15 = .ok (.iload_n 1, 1) := by decide +kernel
theorem dX2_next_16 : decode cX2_next 16 = .ok (.aaload, 1) := by decide +kernel
theorem dX2_next_17 : decode cX2_next 17 = .ok (.iload_n 2, 1) := by decide +kernel
theorem dX2_next_18 : decode cX2_next 18 = .ok (.iaload, 1) := by decide +kernel
theorem dX2_next_19 : decode cX2_next 19 = .ok (.ireturn, 1) := by decide +kernel
theorem dX2_next_20 : decode cX2_next 20 = .ok (.iconst 1, 1) := by decide +kernel
theorem dX2_next_21 : decode cX2_next 21 = .ok (.istore_n 3, 1) := by decide +kernel
theorem dX2_next_22 : decode cX2_next 22 = .ok (.iload_n 3, 1) := by decide +kernel
theorem dX2_next_23 : decode cX2_next 23 = .ok (.iconst 5, 1) := by decide +kernel
theorem dX2_next_24 : decode cX2_next 24 = .ok (.if_icmp .ge 87, 3) := by decide +kernel
theorem dX2_next_27 : decode cX2_next 27 = .ok (.aload_n 0, 1) := by decide +kernel
theorem dX2_next_28 : decode cX2_next 28 = .ok (.iload_n 1, 1) := by decide +kernel
theorem dX2_next_29 : decode cX2_next 29 = .ok (.iload_n 2, 1) := by decide +kernel
theorem dX2_next_30 : decode cX2_next 30 = .ok (.iload_n 3, 1) := by decide +kernel
theorem dX2_next_31 : decode cX2_next 31 = .ok (.invokevirtual 33, 3) := by decide +kernel
theorem dX2_next_34 : decode cX2_next 34 = .ok (.istore 4, 2) := by decide +kernel
theorem dX2_next_36 : decode cX2_next 36 = .ok (.iload 4, 2) := by decide +kernel
theorem dX2_next_38 : decode cX2_next 38 = .ok (.aload_n 0, 1) := by decide +kernel
theorem dX2_next_39 : decode cX2_next 39 = .ok (.getfield 7, 3) := by decide +kernel
theorem dX2_next_42 : decode cX2_next 42 = .ok (.if_icmp .lt 7, 3) := by decide +kernel
theorem dX2_next_45 : decode cX2_next 45 = .ok (.iconst 1, 1) := by decide +kernel
theorem dX2_next_46 : decode cX2_next 46 = .ok (.goto 4, 3) := by decide +kernel
theorem dX2_next_49 : decode cX2_next 49 = .ok (.iconst 0, 1) := by decide +kernel
theorem dX2_next_50 : decode cX2_next 50 = .ok (.istore 5, 2) := by decide +kernel
theorem dX2_next_52 : decode cX2_next 52 = .ok (.iconst 1, 1) := by decide +kernel
theorem dX2_next_53 : decode cX2_next 53 = .ok (.istore 6, 2) := by decide +kernel
theorem dX2_next_55 : decode cX2_next 55 = .ok (.iload 6, 2) := by decide +kernel
theorem dX2_next_57 : decode cX2_next 57 = .ok (.iconst 5, 1) := by decide +kernel
theorem dX2_next_58 : decode cX2_next 58 = .ok (.if_icmp .ge 40, 3) := by decide +kernel
theorem dX2_next_61 : decode cX2_next 61 = .ok (.iload 5, 2) := by decide +kernel
theorem dX2_next_63 : decode cX2_next 63 = .ok (.ifCond .eq 26, 3) := by decide +kernel
theorem dX2_next_66 : decode cX2_next 66 = .ok (.iload 6, 2) := by decide +kernel
theorem dX2_next_68 : decode cX2_next 68 = .ok (.iload_n 3, 1) := by decide +kernel
theorem dX2_next_69 : decode cX2_next 69 = .ok (.if_icmp .eq 16, 3) := by decide +kernel
theorem dX2_next_72 : decode cX2_next 72 = .ok (.aload_n 0, 1) := by decide +kernel
theorem dX2_next_73 : decode cX2_next 73 = .ok (.iload_n 1, 1) := by decide +kernel
theorem dX2_next_74 : decode cX2_next 74 = .ok (.iload_n 2, 1) := by decide +kernel
theorem dX2_next_75 : decode cX2_next 75 = .ok (.iload 6, 2) := by decide +kernel
theorem dX2_next_77 : decode cX2_next 77 = .ok (.invokevirtual 33, 3) := by decide +kernel
theorem dX2_next_80 : decode cX2_next 80 = .ok (.iload 4, 2) := by decide +kernel
theorem dX2_next_82 : decode cX2_next 82 = .ok (.if_icmp .ge 7, 3) := by decide +kernel
theorem dX2_next_85 : decode cX2_next 85 = .ok (.iconst 1, 1) := by decide +kernel
theorem dX2_next_86 : decode cX2_next 86 = .ok (.goto 4, 3) := by decide +kernel
theorem dX2_next_89 : decode cX2_next 89 = .ok (.iconst 0, 1) := by decide +kernel
theorem dX2_next_90 : decode cX2_next 90 = .ok (.istore 5, 2) := by decide +kernel
theorem dX2_next_92 : decode cX2_next 92 = .ok (.iinc 6 1, 3) := by decide +kernel
theorem dX2_next_95 : decode cX2_next 95 = .ok (.goto (-40), 3) := by decide +kernel
theorem dX2_next_98 : decode cX2_next 98 = .ok (.iload 5, 2) := by decide +kernel
theorem dX2_next_100 : decode cX2_next 100 = .ok (.ifCond .eq 5, 3) := by decide +kernel
theorem dX2_next_103 : decode cX2_next 103 = .ok (.iload_n 3, 1) := by decide +kernel
theorem dX2_next_104 : decode cX2_next 104 = .ok (.ireturn, 1) := by decide +kernel
theorem dX2_next_105 : decode cX2_next 105 = .ok (.iinc 3 1, 3) := by decide +kernel
theorem dX2_next_108 : decode cX2_next 108 = .ok (.goto (-86), 3) := by decide +kernel
theorem dX2_next_111 : decode cX2_next 111 = .ok (.aload_n 0, 1) := by decide +kernel
theorem dX2_next_112 : decode cX2_next 112 = .ok (.getfield 21, 3) := by decide +kernel
theorem dX2_next_115 : decode cX2_next 115 = .ok (.iload_n 1, 1) := by decide +kernel
theorem dX2_next_116 : decode cX2_next 116 = .ok (.aaload, 1) := by decide +kernel
theorem dX2_next_117 : decode cX2_next 117 = .ok (.iload_n 2, 1) := by decide +kernel
theorem dX2_next_118 : decode cX2_next 118 = .ok (.iaload, 1) := by decide +kernel
theorem dX2_next_119 : decode cX2_next 119 = .ok (.ireturn, 1) := by decide +kernel
theorem dX2_wave_0 : decode cX2_wave 0 = .ok (.iconst 0, 1) := by decide +kernel
theorem dX2_wave_1 : decode cX2_wave 1 = .ok (.istore_n 1, 1) := by decide +kernel
theorem dX2_wave_2 : decode cX2_wave 2 = .ok (.aload_n 0, 1) := by decide +kernel
theorem dX2_wave_3 : decode cX2_wave 3 = .ok (.getfield 13, 3) := by decide +kernel
theorem dX2_wave_6 : decode cX2_wave 6 = .ok (.aload_n 0, 1) := by decide +kernel
theorem dX2_wave_7 : decode cX2_wave 7 = .ok (.getfield 16, 3) := by decide +kernel
theorem dX2_wave_10 : decode cX2_wave 10 = .ok (.multianewarray 19 2, 4) := by decide +kernel
theorem dX2_wave_14 : decode cX2_wave 14 = .ok (.astore_n 2, 1) := by decide +kernel
theorem dX2_wave_15 : decode cX2_wave 15 = .ok (.iconst 0, 1) := by decide +kernel
theorem dX2_wave_16 : decode cX2_wave 16 = .ok (.istore_n 3, 1) := by decide +kernel
theorem dX2_wave_17 : decode cX2_wave 17 = .ok (.iload_n 3, 1) := by decide +kernel
theorem dX2_wave_18 : decode cX2_wave 18 = .ok (.aload_n 0, 1) := by decide +kernel
theorem dX2_wave_19 : decode cX2_wave 19 = .ok (.getfield 13, 3) := by decide +kernel
theorem dX2_wave_22 : decode cX2_wave 22 = .ok (.if_icmp .ge 66, 3) := by decide +kernel
theorem dX2_wave_25 : decode cX2_wave 25 = .ok (.iconst 0, 1) := by decide +kernel
theorem dX2_wave_26 : decode cX2_wave 26 = .ok (.istore 4, 2) := by decide +kernel
theorem dX2_wave_28 : decode cX2_wave 28 = .ok (.iload 4, 2) := by decide +kernel
theorem dX2_wave_30 : decode cX2_wave 30 = .ok (.aload_n 0, 1) := by decide +kernel
theorem dX2_wave_31 : decode cX2_wave 31 = .ok (.getfield 16, 3) := by decide +kernel
theorem dX2_wave_34 : decode cX2_wave 34 = .ok (.if_icmp .ge 48, 3) := by decide +kernel
theorem dX2_wave_37 : decode cX2_wave 37 = .ok (.aload_n 2, 1) := by decide +kernel
theorem dX2_wave_38 : decode cX2_wave 38 = .ok (.iload_n 3, 1) := by decide +kernel
theorem dX2_wave_39 : decode cX2_wave 39 = .ok (.aaload, 1) := by decide +kernel
theorem dX2_wave_40 : decode cX2_wave 40 = .ok (.iload 4, 2) := by decide +kernel
theorem dX2_wave_42 : decode cX2_wave 42 = .ok (.aload_n 0, 1) := by decide +kernel
theorem dX2_wave_43 : decode cX2_wave 43 = .ok (.iload_n 3, 1) := by decide +kernel
theorem dX2_wave_44 : decode cX2_wave 44 = .ok (.iload 4, 2) := by decide +kernel
theorem dX2_wave_46 : decode cX2_wave 46 = .ok (.invokevirtual 37, 3) := by decide +kernel
theorem dX2_wave_49 : decode cX2_wave 49 = .ok (.iastore, 1) := by decide +kernel
theorem dX2_wave_50 : decode cX2_wave 50 = .ok (.iload_n 1, 1) := by decide +kernel
theorem dX2_wave_51 : decode cX2_wave 51 = .ok (.aload_n 2, 1) := by decide +kernel
theorem dX2_wave_52 : decode cX2_wave 52 = .ok (.iload_n 3, 1) := by decide +kernel
theorem dX2_wave_53 : decode cX2_wave 53 = .ok (.aaload, 1) := by decide +kernel
theorem dX2_wave_54 : decode cX2_wave 54 = .ok (.iload 4, 2) := by decide +kernel
theorem dX2_wave_56 : decode cX2_wave 56 = .ok (.iaload, 1) := by decide +kernel
theorem dX2_wave_57 : decode cX2_wave 57 = .ok (.aload_n 0, 1) := by decide +kernel
theorem dX2_wave_58 : decode cX2_wave 58 = .ok (.getfield 21, 3) := by decide +kernel
theorem dX2_wave_61 : decode cX2_wave 61 = .ok (.iload_n 3, 1) := by decide +kernel
theorem dX2_wave_62 : decode cX2_wave 62 = .ok (.aaload, 1) := by decide +kernel
theorem dX2_wave_63 : decode cX2_wave 63 = .ok (.iload 4, 2) := by decide +kernel
theorem dX2_wave_65 : decode cX2_wave 65 = .ok (.iaload, 1) := by decide +kernel
theorem dX2_wave_66 : decode cX2_wave 66 = .ok (.if_icmp .eq 7, 3) := by decide +kernel
theorem dX2_wave_69 : decode cX2_wave 69 = .ok (.iconst 1, 1) := by decide +kernel
theorem dX2_wave_70 : decode cX2_wave 70 = .ok (.goto 4, 3) := by decide +kernel
theorem dX2_wave_73 : decode cX2_wave 73 = .ok (.iconst 0, 1) := by decide +kernel
theorem dX2_wave_74 : decode cX2_wave 74 = .ok (.iadd, 1) := by decide +kernel
theorem dX2_wave_75 : decode cX2_wave 75 = .ok (.istore_n 1, 1) := by decide +kernel
theorem dX2_wave_76 : decode cX2_wave 76 = .ok (.iinc 4 1, 3) := by decide +kernel
theorem dX2_wave_79 : decode cX2_wave 79 = .ok (.goto (-51), 3) := by decide +kernel
theorem dX2_wave_82 : decode cX2_wave 82 = .ok (.iinc 3 1, 3) := by decide +kernel
theorem dX2_wave_85 : decode cX2_wave 85 = .ok (.goto (-68), 3) := by decide +kernel
theorem dX2_wave_88 : decode cX2_wave 88 = .ok (.aload_n 0, 1) := by decide +kernel
theorem dX2_wave_89 : decode cX2_wave 89 = .ok (.aload_n 2, 1) := by decide +kernel
theorem dX2_wave_90 : decode cX2_wave 90 = .ok (.putfield 21, 3) := by decide +kernel
theorem dX2_wave_93 : decode cX2_wave 93 = .ok (.iload_n 1, 1) := by decide +kernel
theorem dX2_wave_94 : decode cX2_wave 94 = .ok (.ireturn, 1) := by decide +kernel
theorem dX2_cells_0 : decode cX2_cells 0 = .ok (.iconst 0, 1) := by decide +kernel
theorem dX2_cells_1 : decode cX2_cells 1 = .ok (.istore_n 2, 1) := by decide +kernel
theorem dX2_cells_2 : decode cX2_cells 2 = .ok (.aload_n 0, 1) := by decide +kernel
theorem dX2_cells_3 : decode cX2_cells 3 = .ok (.getfield 21, 3) := by decide +kernel
theorem dX2_cells_6 : decode cX2_cells 6 = .ok (.astore_n 3, 1) := by decide +kernel
theorem dX2_cells_7 : decode cX2_cells 7 = .ok (.aload_n 3, 1) := by decide +kernel
theorem dX2_cells_8 : decode cX2_cells 8 = .ok (.arraylength, 1) := by decide +kernel
theorem dX2_cells_9 : decode cX2_cells 9 = .ok (.istore 4, 2) := by decide +kernel
theorem dX2_cells_11 : decode cX2_cells 11 = .ok (.iconst 0, 1) := by decide +kernel
theorem dX2_cells_12 : decode cX2_cells 12 = .ok (.istore 5, 2) := by decide +kernel
theorem dX2_cells_14 : decode cX2_cells 14 = .ok (.iload 5, 2) := by decide +kernel
theorem dX2_cells_16 : decode cX2_cells 16 = .ok (.iload 4, 2) := by decide +kernel
theorem dX2_cells_18 : decode cX2_cells 18 = .ok (.if_icmp .ge 61, 3) := by decide +kernel
theorem dX2_cells_21 : decode cX2_cells 21 = .ok (.aload_n 3, 1) := by decide +kernel
theorem dX2_cells_22 : decode cX2_cells 22 = .ok (.iload 5, 2) := by decide +kernel
theorem dX2_cells_24 : decode cX2_cells 24 = .ok (.aaload, 1) := by decide +kernel
theorem dX2_cells_25 : decode cX2_cells 25 = .ok (.astore 6, 2) := by decide +kernel
theorem dX2_cells_27 : decode cX2_cells 27 = .ok (.aload 6, 2) := by decide +kernel
theorem dX2_cells_29 : decode cX2_cells 29 = .ok (.astore 7, 2) := by decide +kernel
theorem dX2_cells_31 : decode cX2_cells 31 = .ok (.aload 7, 2) := by decide +kernel
theorem dX2_cells_33 : decode cX2_cells 33 = .ok (.arraylength, 1) := by decide +kernel
theorem dX2_cells_34 : decode cX2_cells 34 = .ok (.istore 8, 2) := by decide +kernel
theorem dX2_cells_36 : decode cX2_cells 36 = .ok (.iconst 0, 1) := by decide +kernel
theorem dX2_cells_37 : decode cX2_cells 37 = .ok (.istore 9, 2) := by decide +kernel
theorem dX2_cells_39 : decode cX2_cells 39 = .ok (.iload 9, 2) := by decide +kernel
theorem dX2_cells_41 : decode cX2_cells 41 = .ok (.iload 8, 2) := by decide +kernel
theorem dX2_cells_43 : decode cX2_cells 43 = .ok (.if_icmp .ge 30, 3) := by decide +kernel
theorem dX2_cells_46 : decode cX2_cells 46 = .ok (.aload 7, 2) := by decide +kernel
theorem dX2_cells_48 : decode cX2_cells 48 = .ok (.iload 9, 2) := by decide +kernel
theorem dX2_cells_50 : decode cX2_cells 50 = .ok (.iaload, 1) := by decide +kernel
theorem dX2_cells_51 : decode cX2_cells 51 = .ok (.istore 10, 2) := by decide +kernel
theorem dX2_cells_53 : decode cX2_cells 53 = .ok (.iload_n 2, 1) := by decide +kernel
theorem dX2_cells_54 : decode cX2_cells 54 = .ok (.iload 10, 2) := by decide +kernel
theorem dX2_cells_56 : decode cX2_cells 56 = .ok (.iload_n 1, 1) := by decide +kernel
theorem dX2_cells_57 : decode cX2_cells 57 = .ok (.if_icmp .ne 7, 3) := by decide +kernel
theorem dX2_cells_60 : decode cX2_cells 60 = .ok (.iconst 1, 1) := by decide +kernel
theorem dX2_cells_61 : decode cX2_cells 61 = .ok (.goto 4, 3) := by decide +kernel
theorem dX2_cells_64 : decode cX2_cells 64 = .ok (.iconst 0, 1) := by decide +kernel
theorem dX2_cells_65 : decode cX2_cells 65 = .ok (.iadd, 1) := by decide +kernel
theorem dX2_cells_66 : decode cX2_cells 66 = .ok (.istore_n 2, 1) := by decide +kernel
theorem dX2_cells_67 : decode cX2_cells 67 = .ok (.iinc 9 1, 3) := by decide +kernel
theorem dX2_cells_70 : decode cX2_cells 70 = .ok (.goto (-31), 3) := by decide +kernel
theorem dX2_cells_73 : decode cX2_cells 73 = .ok (.iinc 5 1, 3) := by decide +kernel
theorem dX2_cells_76 : decode cX2_cells 76 = .ok (.goto (-62), 3) := by decide +kernel
theorem dX2_cells_79 : decode cX2_cells 79 = .ok (.iload_n 2, 1) := by decide +kernel
theorem dX2_cells_80 : decode cX2_cells 80 = .ok (.ireturn, 1) := by decide +kernel
theorem dX2_regions_0 : decode cX2_regions 0 = .ok (.aload_n 0, 1) := by decide +kernel
theorem dX2_regions_1 : decode cX2_regions 1 = .ok (.getfield 13, 3) := by decide +kernel
theorem dX2_regions_4 : decode cX2_regions 4 = .ok (.aload_n 0, 1) := by decide +kernel
theorem dX2_regions_5 : decode cX2_regions 5 = .ok (.getfield 16, 3) := by decide +kernel
theorem dX2_regions_8 : decode cX2_regions 8 = .ok (.multianewarray 19 2, 4) := by decide +kernel
theorem dX2_regions_12 : decode cX2_regions 12 = .ok (.astore_n 1, 1) := by decide +kernel
theorem dX2_regions_13 : decode cX2_regions 13 = .ok (.iconst 0, 1) := by decide +kernel
theorem dX2_regions_14 : decode cX2_regions 14 = .ok (.istore_n 2, 1) := by decide +kernel
theorem dX2_regions_15 : decode cX2_regions 15 = .ok (.iload_n 2, 1) := by decide +kernel
theorem dX2_regions_16 : decode cX2_regions 16 = .ok (.aload_n 0, 1) := by decide +kernel
theorem dX2_regions_17 : decode cX2_regions 17 = .ok (.getfield 13, 3) := by decide +kernel
theorem dX2_regions_20 : decode cX2_regions 20 = .ok (.if_icmp .ge 53, 3) := by decide +kernel
theorem dX2_regions_23 : decode cX2_regions 23 = .ok (.iconst 0, 1) := by decide +kernel
theorem dX2_regions_24 : decode cX2_regions 24 = .ok (.istore_n 3, 1) := by decide +kernel
theorem dX2_regions_25 : decode cX2_regions 25 = .ok (.iload_n 3, 1) := by decide +kernel
theorem dX2_regions_26 : decode cX2_regions 26 = .ok (.aload_n 0, 1) := by decide +kernel
theorem dX2_regions_27 : decode cX2_regions 27 = .ok (.getfield 16, 3) := by decide +kernel
theorem dX2_regions_30 : decode cX2_regions 30 = .ok (.if_icmp .ge 37, 3) := by decide +kernel
theorem dX2_regions_33 : decode cX2_regions 33 = .ok (.aload_n 1, 1) := by decide +kernel
theorem dX2_regions_34 : decode cX2_regions 34 = .ok (.iload_n 2, 1) := by decide +kernel
theorem dX2_regions_35 : decode cX2_regions 35 = .ok (.aaload, 1) := by decide +kernel
theorem dX2_regions_36 : decode cX2_regions 36 = .ok (.iload_n 3, 1) := by decide +kernel
theorem dX2_regions_37 : decode cX2_regions 37 = .ok (.aload_n 0, 1) := by decide +kernel
theorem dX2_regions_38 : decode cX2_regions 38 = .ok (.getfield 21, 3) := by decide +kernel
theorem dX2_regions_41 : decode cX2_regions 41 = .ok (.iload_n 2, 1) := by decide +kernel
theorem dX2_regions_42 : decode cX2_regions 42 = .ok (.aaload, 1) := by decide +kernel
theorem dX2_regions_43 : decode cX2_regions 43 = .ok (.iload_n 3, 1) := by decide +kernel
theorem dX2_regions_44 : decode cX2_regions 44 = .ok (.iaload, 1) := by decide +kernel
theorem dX2_regions_45 : decode cX2_regions 45 = .ok (.ifCond .ne 7, 3) := by decide +kernel
theorem dX2_regions_48 : decode cX2_regions 48 = .ok (.iconst (-1), 1) := by decide +kernel
theorem dX2_regions_49 : decode cX2_regions 49 = .ok (.goto 11, 3) := by decide +kernel
theorem dX2_regions_52 : decode cX2_regions 52 = .ok (.aload_n 0, 1) := by decide +kernel
theorem dX2_regions_53 : decode cX2_regions 53 = .ok (.getfield 13, 3) := by decide +kernel
theorem dX2_regions_56 : decode cX2_regions 56 = .ok (.iload_n 3, 1) := by decide +kernel
theorem dX2_regions_57 : decode cX2_regions 57 = .ok (.imul, 1) := by decide +kernel
theorem dX2_regions_58 : decode cX2_regions 58 = .ok (.iload_n 2, 1) := by decide +kernel
theorem dX2_regions_59 : decode cX2_regions 59 = .ok (.iadd, 1) := by decide +kernel
theorem dX2_regions_60 : decode cX2_regions 60 = .ok (.iastore, 1) := by decide +kernel
theorem dX2_regions_61 : decode cX2_regions 61 = .ok (.iinc 3 1, 3) := by decide +kernel
theorem dX2_regions_64 : decode cX2_regions 64 = .ok (.goto (-39), 3) := by decide +kernel
theorem dX2_regions_67 : decode cX2_regions 67 = .ok (.iinc 2 1, 3) := by decide +kernel
theorem dX2_regions_70 : decode cX2_regions 70 = .ok (.goto (-55), 3) := by decide +kernel
theorem dX2_regions_73 : decode cX2_regions 73 = .ok (.iconst 0, 1) := by decide +kernel
theorem dX2_regions_74 : decode cX2_regions 74 = .ok (.istore_n 2, 1) := by decide +kernel
theorem dX2_regions_75 : decode cX2_regions 75 = .ok (.iload_n 2, 1) := by decide +kernel
theorem dX2_regions_76 : decode cX2_regions 76 = .ok (.ifCond .ne 238, 3) := by decide +kernel
theorem dX2_regions_79 : decode cX2_regions 79 = .ok (.iconst 1, 1) := by decide +kernel
theorem dX2_regions_80 : decode cX2_regions 80 = .ok (.istore_n 2, 1) := by decide +kernel
theorem dX2_regions_81 : decode cX2_regions 81 = .ok (.iconst 0, 1) := by decide +kernel
theorem dX2_regions_82 : decode cX2_regions 82 = .ok (.istore_n 3, 1) := by decide +kernel
theorem dX2_regions_83 : decode cX2_regions 83 = .ok (.iload_n 3, 1) := by decide +kernel
theorem dX2_regions_84 : decode cX2_regions 84 = .ok (.aload_n 0, 1) := by decide +kernel
theorem dX2_regions_85 : decode cX2_regions 85 = .ok (.getfield 13, 3) := by decide +kernel
theorem dX2_regions_88 : decode cX2_regions 88 = .ok (.if_icmp .ge 223, 3) := by decide +kernel
theorem dX2_regions_91 : decode cX2_regions 91 = .ok (.iconst 0, 1) := by decide +kernel
theorem dX2_regions_92 : decode cX2_regions 92 = .ok (.istore 4, 2) := by decide +kernel
theorem dX2_regions_94 : decode cX2_regions 94 = .ok (.iload 4, 2) := by decide +kernel
theorem dX2_regions_96 : decode cX2_regions 96 = .ok (.aload_n 0, 1) := by decide +kernel
theorem dX2_regions_97 : decode cX2_regions 97 = .ok (.getfield 16, 3) := by decide +kernel
theorem dX2_regions_100 : decode cX2_regions 100 = .ok (.if_icmp .ge 205, 3) := by decide +kernel
theorem dX2_regions_103 : decode cX2_regions 103 = .ok (.aload_n 0, 1) := by decide +kernel
theorem dX2_regions_104 : decode cX2_regions 104 = .ok (.getfield 21, 3) := by decide +kernel
theorem dX2_regions_107 : decode cX2_regions 107 = .ok (.iload_n 3, 1) := by decide +kernel
theorem dX2_regions_108 : decode cX2_regions 108 = .ok (.aaload, 1) := by decide +kernel
theorem dX2_regions_109 : decode cX2_regions 109 = .ok (.iload 4, 2) := by decide +kernel
theorem dX2_regions_111 : decode cX2_regions 111 = .ok (.iaload, 1) := by decide +kernel
theorem dX2_regions_112 : decode cX2_regions 112 = .ok (.ifCond .ne 6, 3) := by decide +kernel
theorem dX2_regions_115 : decode cX2_regions 115 = .ok (.goto 184, 3) := by decide +kernel
theorem dX2_regions_118 : decode cX2_regions 118 = .ok (.aload_n 1, 1) := by decide +kernel
theorem dX2_regions_119 : decode cX2_regions 119 = .ok (.iload_n 3, 1) := by decide +kernel
theorem dX2_regions_120 : decode cX2_regions 120 = .ok (.aaload, 1) := by decide +kernel
theorem dX2_regions_121 : decode cX2_regions 121 = .ok (.iload 4, 2) := by decide +kernel
theorem dX2_regions_123 : decode cX2_regions 123 = .ok (.iaload, 1) := by decide +kernel
theorem dX2_regions_124 : decode cX2_regions 124 = .ok (.istore 5, 2) := by decide +kernel
theorem dX2_regions_126 : decode cX2_regions 126 = .ok (.aload_n 0, 1) := by decide +kernel
theorem dX2_regions_127 : decode cX2_regions 127 = .ok (.iload_n 3, 1) := by decide +kernel
theorem dX2_regions_128 : decode cX2_regions 128 = .ok (.iconst 1, 1) := by decide +kernel
theorem dX2_regions_129 : decode cX2_regions 129 = .ok (.isub, 1) := by decide +kernel
theorem dX2_regions_130 : decode cX2_regions 130 = .ok (.iload 4, 2) := by decide +kernel
theorem dX2_regions_132 : decode cX2_regions 132 = .ok (.invokevirtual 29, 3) := by decide +kernel
theorem dX2_regions_135 : decode cX2_regions 135 = .ok (.aload_n 0, 1) := by decide +kernel
theorem dX2_regions_136 : decode cX2_regions 136 = .ok (.getfield 21, 3) := by decide +kernel
theorem dX2_regions_139 : decode cX2_regions 139 = .ok (.iload_n 3, 1) := by decide +kernel
theorem dX2_regions_140 : decode cX2_regions 140 = .ok (.aaload, 1) := by decide +kernel
theorem dX2_regions_141 : decode cX2_regions 141 = .ok (.iload 4, 2) := by decide +kernel
theorem dX2_regions_143 : decode cX2_regions 143 = .ok (.iaload, 1) := by decide +kernel
theorem dX2_regions_144 : decode cX2_regions 144 = .ok (.if_icmp .ne 18, 3) := by decide +kernel
theorem dX2_regions_147 : decode cX2_regions 147 = .ok (.iload 5, 2) := by decide +kernel
theorem dX2_regions_149 : decode cX2_regions 149 = .ok (.aload_n 1, 1) := by decide +kernel
theorem dX2_regions_150 : decode cX2_regions 150 = .ok (.iload_n 3, 1) := by decide +kernel
theorem dX2_regions_151 : decode cX2_regions 151 = .ok (.iconst 1, 1) := by decide +kernel
theorem dX2_regions_152 : decode cX2_regions 152 = .ok (.isub, 1) := by decide +kernel
theorem dX2_regions_153 : decode cX2_regions 153 = .ok (.aaload, 1) := by decide +kernel
theorem dX2_regions_154 : decode cX2_regions 154 = .ok (.iload 4, 2) := by decide +kernel
theorem dX2_regions_156 : decode cX2_regions 156 = .ok (.iaload, 1) := by decide +kernel
theorem dX2_regions_157 : decode cX2_regions 157 = .ok (.invokestatic 46, 3) := by decide +kernel
theorem dX2_regions_160 : decode cX2_regions 160 = .ok (.istore 5, 2) := by decide +kernel
theorem dX2_regions_162 : decode cX2_regions 162 = .ok (.aload_n 0, 1) := by decide +kernel
theorem dX2_regions_163 : decode cX2_regions 163 = .ok (.iload_n 3, 1) := by decide +kernel
theorem dX2_regions_164 : decode cX2_regions 164 = .ok (.iconst 1, 1) := by decide +kernel
theorem dX2_regions_165 : decode cX2_regions 165 = .ok (.iadd, 1) := by decide +kernel
theorem dX2_regions_166 : decode cX2_regions 166 = .ok (.iload 4, 2) := by decide +kernel
theorem dX2_regions_168 : decode cX2_regions 168 = .ok (.invokevirtual 29, 3) := by decide +kernel
theorem dX2_regions_171 : decode cX2_regions 171 = .ok (.aload_n 0, 1) := by decide +kernel
theorem dX2_regions_172 : decode cX2_regions 172 = .ok (.getfield 21, 3) := by decide +kernel
theorem dX2_regions_175 : decode cX2_regions 175 = .ok (.iload_n 3, 1) := by decide +kernel
theorem dX2_regions_176 : decode cX2_regions 176 = .ok (.aaload, 1) := by decide +kernel
theorem dX2_regions_177 : decode cX2_regions 177 = .ok (.iload 4, 2) := by decide +kernel
theorem dX2_regions_179 : decode cX2_regions 179 = .ok (.iaload, 1) := by decide +kernel
theorem dX2_regions_180 : decode cX2_regions 180 = .ok (.if_icmp .ne 18, 3) := by decide +kernel
theorem dX2_regions_183 : decode cX2_regions 183 = .ok (.iload 5, 2) := by decide +kernel
theorem dX2_regions_185 : decode cX2_regions 185 = .ok (.aload_n 1, 1) := by decide +kernel
theorem dX2_regions_186 : decode cX2_regions 186 = .ok (.iload_n 3, 1) := by decide +kernel
theorem dX2_regions_187 : decode cX2_regions 187 = .ok (.iconst 1, 1) := by decide +kernel
theorem dX2_regions_188 : decode cX2_regions 188 = .ok (.iadd, 1) := by decide +kernel
theorem dX2_regions_189 : decode cX2_regions 189 = .ok (.aaload, 1) := by decide +kernel
theorem dX2_regions_190 : decode cX2_regions 190 = .ok (.iload 4, 2) := by decide +kernel
theorem dX2_regions_192 : decode cX2_regions 192 = .ok (.iaload, 1) := by decide +kernel
theorem dX2_regions_193 : decode cX2_regions 193 = .ok (.invokestatic 46, 3) := by decide +kernel
theorem dX2_regions_196 : decode cX2_regions 196 = .ok (.istore 5, 2) := by decide +kernel
theorem dX2_regions_198 : decode cX2_regions 198 = .ok (.aload_n 0, 1) := by decide +kernel
theorem dX2_regions_199 : decode cX2_regions 199 = .ok (.iload_n 3, 1) := by decide +kernel
theorem dX2_regions_200 : decode cX2_regions 200 = .ok (.iload 4, 2) := by decide +kernel
theorem dX2_regions_202 : decode cX2_regions 202 = .ok (.iconst 1, 1) := by decide +kernel
theorem dX2_regions_203 : decode cX2_regions 203 = .ok (.isub, 1) := by decide +kernel
theorem dX2_regions_204 : decode cX2_regions 204 = .ok (.invokevirtual 29, 3) := by decide +kernel
theorem dX2_regions_207 : decode cX2_regions 207 = .ok (.aload_n 0, 1) := by decide +kernel
theorem dX2_regions_208 : decode cX2_regions 208 = .ok (.getfield 21, 3) := by decide +kernel
theorem dX2_regions_211 : decode cX2_regions 211 = .ok (.iload_n 3, 1) := by decide +kernel
theorem dX2_regions_212 : decode cX2_regions 212 = .ok (.aaload, 1) := by decide +kernel
theorem dX2_regions_213 : decode cX2_regions 213 = .ok (.iload 4, 2) := by decide +kernel
theorem dX2_regions_215 : decode cX2_regions 215 = .ok (.iaload, 1) := by decide +kernel
theorem dX2_regions_216 : decode cX2_regions 216 = .ok (.if_icmp .ne 18, 3) := by decide +kernel
theorem dX2_regions_219 : decode cX2_regions 219 = .ok (.iload 5, 2) := by decide +kernel
theorem dX2_regions_221 : decode cX2_regions 221 = .ok (.aload_n 1, 1) := by decide +kernel
theorem dX2_regions_222 : decode cX2_regions 222 = .ok (.iload_n 3, 1) := by decide +kernel
theorem dX2_regions_223 : decode cX2_regions 223 = .ok (.aaload, 1) := by decide +kernel
theorem dX2_regions_224 : decode cX2_regions 224 = .ok (.iload 4, 2) := by decide +kernel
theorem dX2_regions_226 : decode cX2_regions 226 = .ok (.iconst 1, 1) := by decide +kernel
theorem dX2_regions_227 : decode cX2_regions 227 = .ok (.isub, 1) := by decide +kernel
theorem dX2_regions_228 : decode cX2_regions 228 = .ok (.iaload, 1) := by decide +kernel
theorem dX2_regions_229 : decode cX2_regions 229 = .ok (.invokestatic 46, 3) := by decide +kernel
theorem dX2_regions_232 : decode cX2_regions 232 = .ok (.istore 5, 2) := by decide +kernel
theorem dX2_regions_234 : decode cX2_regions 234 = .ok (.aload_n 0, 1) := by decide +kernel
theorem dX2_regions_235 : decode cX2_regions 235 = .ok (.iload_n 3, 1) := by decide +kernel
theorem dX2_regions_236 : decode cX2_regions 236 = .ok (.iload 4, 2) := by decide +kernel
theorem dX2_regions_238 : decode cX2_regions 238 = .ok (.iconst 1, 1) := by decide +kernel
theorem dX2_regions_239 : decode cX2_regions 239 = .ok (.iadd, 1) := by decide +kernel
theorem dX2_regions_240 : decode cX2_regions 240 = .ok (.invokevirtual 29, 3) := by decide +kernel
theorem dX2_regions_243 : decode cX2_regions 243 = .ok (.aload_n 0, 1) := by decide +kernel
theorem dX2_regions_244 : decode cX2_regions 244 = .ok (.getfield 21, 3) := by decide +kernel
theorem dX2_regions_247 : decode cX2_regions 247 = .ok (.iload_n 3, 1) := by decide +kernel
theorem dX2_regions_248 : decode cX2_regions 248 = .ok (.aaload, 1) := by decide +kernel
theorem dX2_regions_249 : decode cX2_regions 249 = .ok (.iload 4, 2) := by decide +kernel
theorem dX2_regions_251 : decode cX2_regions 251 = .ok (.iaload, 1) := by decide +kernel
theorem dX2_regions_252 : decode cX2_regions 252 = .ok (.if_icmp .ne 18, 3) := by decide +kernel
theorem dX2_regions_255 : decode cX2_regions 255 = .ok (.iload 5, 2) := by decide +kernel
theorem dX2_regions_257 : decode cX2_regions 257 = .ok (.aload_n 1, 1) := by decide +kernel
theorem dX2_regions_258 : decode cX2_regions 258 = .ok (.iload_n 3, 1) := by decide +kernel
theorem dX2_regions_259 : decode cX2_regions 259 = .ok (.aaload, 1) := by decide +kernel
theorem dX2_regions_260 : decode cX2_regions 260 = .ok (.iload 4, 2) := by decide +kernel
theorem dX2_regions_262 : decode cX2_regions 262 = .ok (.iconst 1, 1) := by decide +kernel
theorem dX2_regions_263 : decode cX2_regions 263 = .ok (.iadd, 1) := by decide +kernel
theorem dX2_regions_264 : decode cX2_regions 264 = .ok (.iaload, 1) := by decide +kernel
theorem dX2_regions_265 : decode cX2_regions 265 = .ok (.invokestatic 46, 3) := by decide +kernel
theorem dX2_regions_268 : decode cX2_regions 268 = .ok (.istore 5, 2) := by decide +kernel
theorem dX2_regions_270 : decode cX2_regions 270 = .ok (.iload_n 2, 1) := by decide +kernel
theorem dX2_regions_271 : decode cX2_regions 271 = .ok (.ifCond .eq 18, 3) := by decide +kernel
theorem dX2_regions_274 : decode cX2_regions 274 = .ok (.iload 5, 2) := by decide +kernel
theorem dX2_regions_276 : decode cX2_regions 276 = .ok (.aload_n 1, 1) := by decide +kernel
theorem dX2_regions_277 : decode cX2_regions 277 = .ok (.iload_n 3, 1) := by decide +kernel
theorem dX2_regions_278 : decode cX2_regions 278 = .ok (.aaload, 1) := by decide +kernel
theorem dX2_regions_279 : decode cX2_regions 279 = .ok (.iload 4, 2) := by decide +kernel
theorem dX2_regions_281 : decode cX2_regions 281 = .ok (.iaload, 1) := by decide +kernel
theorem dX2_regions_282 : decode cX2_regions 282 = .ok (.if_icmp .ne 7, 3) := by decide +kernel
theorem dX2_regions_285 : decode cX2_regions 285 = .ok (.iconst 1, 1) := by decide +kernel
theorem dX2_regions_286 : decode cX2_regions 286 = .ok (.goto 4, 3) := by decide +kernel
theorem dX2_regions_289 : decode cX2_regions 289 = .ok (.iconst 0, 1) := by decide +kernel
theorem dX2_regions_290 : decode cX2_regions 290 = .ok (.istore_n 2, 1) := by decide +kernel
theorem dX2_regions_291 : decode cX2_regions 291 = .ok (.aload_n 1, 1) := by decide +kernel
theorem dX2_regions_292 : decode cX2_regions 292 = .ok (.iload_n 3, 1) := by decide +kernel
theorem dX2_regions_293 : decode cX2_regions 293 = .ok (.aaload, 1) := by decide +kernel
theorem dX2_regions_294 : decode cX2_regions 294 = .ok (.iload 4, 2) := by decide +kernel
theorem dX2_regions_296 : decode cX2_regions 296 = .ok (.iload 5, 2) := by decide +kernel
theorem dX2_regions_298 : decode cX2_regions 298 = .ok (.iastore, 1) := by decide +kernel
theorem dX2_regions_299 : decode cX2_regions 299 = .ok (.iinc 4 1, 3) := by decide +kernel
theorem dX2_regions_302 : decode cX2_regions 302 = .ok (.goto (-208), 3) := by decide +kernel
theorem dX2_regions_305 : decode cX2_regions 305 = .ok (.iinc 3 1, 3) := by decide +kernel
theorem dX2_regions_308 : decode cX2_regions 308 = .ok (.goto (-225), 3) := by decide +kernel
theorem dX2_regions_311 : decode cX2_regions 311 = .ok (.goto (-236), 3) := by decide +kernel
theorem dX2_regions_314 : decode cX2_regions 314 = .ok (.aload_n 1, 1) := by decide +kernel
theorem dX2_regions_315 : decode cX2_regions 315 = .ok (.areturn, 1) := by decide +kernel
theorem dX2_isSame_0 : decode cX2_isSame 0 = .ok (.aload_n 1, 1) := by decide +kernel
theorem dX2_isSame_1 : decode cX2_isSame 1 = .ok (.invokevirtual 63, 3) := by decide +kernel
theorem dX2_isSame_4 : decode cX2_isSame 4 = .ok (.aload_n 0, 1) := by decide +kernel
theorem dX2_isSame_5 : decode cX2_isSame 5 = .ok (.getfield 13, 3) := by decide +kernel
theorem dX2_isSame_8 : decode cX2_isSame 8 = .ok (.if_icmp .ne 36, 3) := by decide +kernel
theorem dX2_isSame_11 : decode cX2_isSame 11 = .ok (.aload_n 1, 1) := by decide +kernel
theorem dX2_isSame_12 : decode cX2_isSame 12 = .ok (.invokevirtual 68, 3) := by decide +kernel
theorem dX2_isSame_15 : decode cX2_isSame 15 = .ok (.aload_n 0, 1) := by decide +kernel
theorem dX2_isSame_16 : decode cX2_isSame 16 = .ok (.getfield 16, 3) := by decide +kernel
theorem dX2_isSame_19 : decode cX2_isSame 19 = .ok (.if_icmp .ne 25, 3) := by decide +kernel
theorem dX2_isSame_22 : decode cX2_isSame 22 = .ok (.aload_n 1, 1) := by decide +kernel
theorem dX2_isSame_23 : decode cX2_isSame 23 = .ok (.invokevirtual 71, 3) := by decide +kernel
theorem dX2_isSame_26 : decode cX2_isSame 26 = .ok (.aload_n 0, 1) := by decide +kernel
theorem dX2_isSame_27 : decode cX2_isSame 27 = .ok (.getfield 7, 3) := by decide +kernel
theorem dX2_isSame_30 : decode cX2_isSame 30 = .ok (.if_icmp .ne 14, 3) := by decide +kernel
theorem dX2_isSame_33 : decode cX2_isSame 33 = .ok (.aload_n 1, 1) := by decide +kernel
theorem dX2_isSame_34 : decode cX2_isSame 34 = .ok (.invokevirtual 73, 3) := by decide +kernel
theorem dX2_isSame_37 : decode cX2_isSame 37 = .ok (.aload_n 0, 1) := by decide +kernel
theorem dX2_isSame_38 : decode cX2_isSame 38 = .ok (.getfield 43, 3) := by decide +kernel
theorem dX2_isSame_41 : decode cX2_isSame 41 = .ok (.if_icmp .eq 5, 3) := by decide +kernel
theorem dX2_isSame_44 : decode cX2_isSame 44 = .ok (.iconst 0, 1) := by decide +kernel
theorem dX2_isSame_45 : decode cX2_isSame 45 = .ok (.ireturn, 1) := by decide +kernel
theorem dX2_isSame_46 : decode cX2_isSame 46 = .ok (.aload_n 0, 1) := by decide +kernel
theorem dX2_isSame_47 : decode cX2_isSame 47 = .ok (.invokevirtual 75, 3) := by decide +kernel
theorem dX2_isSame_50 : decode cX2_isSame 50 = .ok (.astore_n 2, 1) := by decide +kernel
theorem dX2_isSame_51 : decode cX2_isSame 51 = .ok (.aload_n 0, 1) := by decide +kernel
theorem dX2_isSame_52 : decode cX2_isSame 52 = .ok (.getfield 13, 3) := by decide +kernel
theorem dX2_isSame_55 : decode cX2_isSame 55 = .ok (.aload_n 0, 1) := by decide +kernel
theorem dX2_isSame_56 : decode cX2_isSame 56 = .ok (.getfield 16, 3) := by decide +kernel
theorem dX2_isSame_59 : decode cX2_isSame 59 = .ok (.imul, 1) := by decide +kernel
theorem dX2_isSame_60 : decode cX2_isSame 60 = .ok (.newarray .int, 2) := by decide +kernel
theorem dX2_isSame_62 : decode cX2_isSame 62 = .ok (.astore_n 3, 1) := by decide +kernel
theorem dX2_isSame_63 : decode cX2_isSame 63 = .ok (.iconst 0, 1) := by decide +kernel
theorem dX2_isSame_64 : decode cX2_isSame 64 = .ok (.istore 4, 2) := by decide +kernel
theorem dX2_isSame_66 : decode cX2_isSame 66 = .ok (.iconst 0, 1) := by decide +kernel
theorem dX2_isSame_67 : decode cX2_isSame 67 = .ok (.istore 5, 2) := by decide +kernel
theorem dX2_isSame_69 : decode cX2_isSame 69 = .ok (.iconst 1, 1) := by decide +kernel
theorem dX2_isSame_70 : decode cX2_isSame 70 = .ok (.istore 6, 2) := by decide +kernel
theorem dX2_isSame_72 : decode cX2_isSame 72 = .ok (.iconst 0, 1) := by decide +kernel
theorem dX2_isSame_73 : decode cX2_isSame 73 = .ok (.istore 7, 2) := by decide +kernel
theorem dX2_isSame_75 : decode cX2_isSame 75 = .ok (.iload 7, 2) := by decide +kernel
theorem dX2_isSame_77 : decode cX2_isSame 77 = .ok (.aload_n 0, 1) := by decide +kernel
theorem dX2_isSame_78 : decode cX2_isSame 78 = .ok (.getfield 13, 3) := by decide +kernel
theorem dX2_isSame_81 : decode cX2_isSame 81 = .ok (.if_icmp .ge 190, 3) := by decide +kernel
theorem dX2_isSame_84 : decode cX2_isSame 84 = .ok (.iconst 0, 1) := by decide +kernel
theorem dX2_isSame_85 : decode cX2_isSame 85 = .ok (.istore 8, 2) := by decide +kernel
theorem dX2_isSame_87 : decode cX2_isSame 87 = .ok (.iload 8, 2) := by decide +kernel
theorem dX2_isSame_89 : decode cX2_isSame 89 = .ok (.aload_n 0, 1) := by decide +kernel
theorem dX2_isSame_90 : decode cX2_isSame 90 = .ok (.getfield 16, 3) := by decide +kernel
theorem dX2_isSame_93 : decode cX2_isSame 93 = .ok (.if_icmp .ge 172, 3) := by decide +kernel
theorem dX2_isSame_96 : decode cX2_isSame 96 = .ok (.aload_n 2, 1) := by decide +kernel
theorem dX2_isSame_97 : decode cX2_isSame 97 = .ok (.iload 7, 2) := by decide +kernel
theorem dX2_isSame_99 : decode cX2_isSame 99 = .ok (.aaload, 1) := by decide +kernel
theorem dX2_isSame_100 : decode cX2_isSame 100 = .ok (.iload 8, 2) := by decide +kernel
theorem dX2_isSame_102 : decode cX2_isSame 102 = .ok (.iaload, 1) := by decide +kernel
theorem dX2_isSame_103 : decode cX2_isSame 103 = .ok (.ifCond .lt 16, 3) := by decide +kernel
theorem dX2_isSame_106 : decode cX2_isSame 106 = .ok (.aload_n 3, 1) := by decide +kernel
theorem dX2_isSame_107 : decode cX2_isSame 107 = .ok (.aload_n 2, 1) := by decide +kernel
theorem dX2_isSame_108 : decode cX2_isSame 108 = .ok (.iload 7, 2) := by decide +kernel
theorem dX2_isSame_110 : decode cX2_isSame 110 = .ok (.aaload, 1) := by decide +kernel
theorem dX2_isSame_111 : decode cX2_isSame 111 = .ok (.iload 8, 2) := by decide +kernel
theorem dX2_isSame_113 : decode cX2_isSame 113 = .ok (.iaload, 1) := by decide +kernel
theorem dX2_isSame_114 : decode cX2_isSame 114 = .ok (.dup2, 1) := by decide +kernel
theorem dX2_isSame_115 : decode cX2_isSame 115 = .ok (.iaload, 1) := by decide +kernel
theorem dX2_isSame_116 : decode cX2_isSame 116 = .ok (.iconst 1, 1) := by decide +kernel
theorem dX2_isSame_117 : decode cX2_isSame 117 = .ok (.iadd, 1) := by decide +kernel
theorem dX2_isSame_118 : decode cX2_isSame 118 = .ok (.iastore, 1) := by decide +kernel
theorem dX2_isSame_119 : decode cX2_isSame 119 = .ok (.iload 4, 2) := by decide +kernel
theorem dX2_isSame_121 : decode cX2_isSame 121 = .ok (.aload_n 0, 1) := by decide +kernel
theorem dX2_isSame_122 : decode cX2_isSame 122 = .ok (.getfield 26, 3) := by decide +kernel
theorem dX2_isSame_125 : decode cX2_isSame 125 = .ok (.iload 7, 2) := by decide +kernel
theorem dX2_isSame_127 : decode cX2_isSame 127 = .ok (.aaload, 1) := by decide +kernel
theorem dX2_isSame_128 : decode cX2_isSame 128 = .ok (.iload 8, 2) := by decide +kernel
theorem dX2_isSame_130 : decode cX2_isSame 130 = .ok (.baload, 1) := by decide +kernel
theorem dX2_isSame_131 : decode cX2_isSame 131 = .ok (.ifCond .eq 7, 3) := by decide +kernel
theorem dX2_isSame_134 : decode cX2_isSame 134 = .ok (.iconst 1, 1) := by decide +kernel
theorem dX2_isSame_135 : decode cX2_isSame 135 = .ok (.goto 4, 3) := by decide +kernel
theorem dX2_isSame_138 : decode cX2_isSame 138 = .ok (.iconst 0, 1) := by decide +kernel
theorem dX2_isSame_139 : decode cX2_isSame 139 = .ok (.iadd, 1) := by decide +kernel
theorem dX2_isSame_140 : decode cX2_isSame 140 = .ok (.istore 4, 2) := by decide +kernel
theorem dX2_isSame_142 : decode cX2_isSame 142 = .ok (.iload 6, 2) := by decide +kernel
theorem dX2_isSame_144 : decode cX2_isSame 144 = .ok (.ifCond .eq 28, 3) := by decide +kernel
theorem dX2_isSame_147 : decode cX2_isSame 147 = .ok (.aload_n 0, 1) := by decide +kernel
theorem dX2_isSame_148 : decode cX2_isSame 148 = .ok (.iload 7, 2) := by decide +kernel
theorem dX2_isSame_150 : decode cX2_isSame 150 = .ok (.iload 8, 2) := by decide +kernel
theorem dX2_isSame_152 : decode cX2_isSame 152 = .ok (.invokevirtual 37, 3) := by decide +kernel
theorem dX2_isSame_155 : decode cX2_isSame 155 = .ok (.aload_n 0, 1) := by decide +kernel
theorem dX2_isSame_156 : decode cX2_isSame 156 = .ok (.getfield 21, 3) := by decide +kernel
theorem dX2_isSame_159 : decode cX2_isSame 159 = .ok (.iload 7, 2) := by decide +kernel
theorem dX2_isSame_161 : decode cX2_isSame 161 = .ok (.aaload, 1) := by decide +kernel
theorem dX2_isSame_162 : decode cX2_isSame 162 = .ok (.iload 8, 2) := by decide +kernel
theorem dX2_isSame_164 : decode cX2_isSame 164 = .ok (.iaload, 1) := by decide +kernel
theorem dX2_isSame_165 : decode cX2_isSame 165 = .ok (.if_icmp .ne 7, 3) := by decide +kernel
theorem dX2_isSame_168 : decode cX2_isSame 168 = .ok (.iconst 1, 1) := by decide +kernel
theorem dX2_isSame_169 : decode cX2_isSame 169 = .ok (.goto 4, 3) := by decide +kernel
theorem dX2_isSame_172 : decode cX2_isSame 172 = .ok (.iconst 0, 1) := by decide +kernel
theorem dX2_isSame_173 : decode cX2_isSame 173 = .ok (.istore 6, 2) := by decide +kernel
theorem dX2_isSame_175 : decode cX2_isSame 175 = .ok (.aload_n 0, 1) := by decide +kernel
theorem dX2_isSame_176 : decode cX2_isSame 176 = .ok (.getfield 21, 3) := by decide +kernel
theorem dX2_isSame_179 : decode cX2_isSame 179 = .ok (.iload 7, 2) := by decide +kernel
theorem dX2_isSame_181 : decode cX2_isSame 181 = .ok (.aaload, 1) := by decide +kernel
theorem dX2_isSame_182 : decode cX2_isSame 182 = .ok (.iload 8, 2) := by decide +kernel
theorem dX2_isSame_184 : decode cX2_isSame 184 = .ok (.iaload, 1) := by decide +kernel
theorem dX2_isSame_185 : decode cX2_isSame 185 = .ok (.istore 9, 2) := by decide +kernel
theorem dX2_isSame_187 : decode cX2_isSame 187 = .ok (.iload 9, 2) := by decide +kernel
theorem dX2_isSame_189 : decode cX2_isSame 189 = .ok (.ifCond .le 34, 3) := by decide +kernel
theorem dX2_isSame_192 : decode cX2_isSame 192 = .ok (.aload_n 0, 1) := by decide +kernel
theorem dX2_isSame_193 : decode cX2_isSame 193 = .ok (.iload 7, 2) := by decide +kernel
theorem dX2_isSame_195 : decode cX2_isSame 195 = .ok (.iconst 1, 1) := by decide +kernel
theorem dX2_isSame_196 : decode cX2_isSame 196 = .ok (.iadd, 1) := by decide +kernel
theorem dX2_isSame_197 : decode cX2_isSame 197 = .ok (.iload 8, 2) := by decide +kernel
theorem dX2_isSame_199 : decode cX2_isSame 199 = .ok (.invokevirtual 29, 3) := by decide +kernel
theorem dX2_isSame_202 : decode cX2_isSame 202 = .ok (.ifCond .le 21, 3) := by decide +kernel
theorem dX2_isSame_205 : decode cX2_isSame 205 = .ok (.aload_n 0, 1) := by decide +kernel
theorem dX2_isSame_206 : decode cX2_isSame 206 = .ok (.iload 7, 2) := by decide +kernel
theorem dX2_isSame_208 : decode cX2_isSame 208 = .ok (.iconst 1, 1) := by decide +kernel
theorem dX2_isSame_209 : decode cX2_isSame 209 = .ok (.iadd, 1) := by decide +kernel
theorem dX2_isSame_210 : decode cX2_isSame 210 = .ok (.iload 8, 2) := by decide +kernel
theorem dX2_isSame_212 : decode cX2_isSame 212 = .ok (.invokevirtual 29, 3) := by decide +kernel
theorem dX2_isSame_215 : decode cX2_isSame 215 = .ok (.iload 9, 2) := by decide +kernel
theorem dX2_isSame_217 : decode cX2_isSame 217 = .ok (.if_icmp .eq 6, 3) := by decide +kernel
theorem dX2_isSame_220 : decode cX2_isSame 220 = .ok (.iinc 5 1, 3) := by decide +kernel
theorem dX2_isSame_223 : decode cX2_isSame 223 = .ok (.iload 9, 2) := by decide +kernel
theorem dX2_isSame_225 : decode cX2_isSame 225 = .ok (.ifCond .le 34, 3) := by decide +kernel
theorem dX2_isSame_228 : decode cX2_isSame 228 = .ok (.aload_n 0, 1) := by decide +kernel
theorem dX2_isSame_229 : decode cX2_isSame 229 = .ok (.iload 7, 2) := by decide +kernel
theorem dX2_isSame_231 : decode cX2_isSame 231 = .ok (.iload 8, 2) := by decide +kernel
theorem dX2_isSame_233 : decode cX2_isSame 233 = .ok (.iconst 1, 1) := by decide +kernel
theorem dX2_isSame_234 : decode cX2_isSame 234 = .ok (.iadd, 1) := by decide +kernel
theorem dX2_isSame_235 : decode cX2_isSame 235 = .ok (.invokevirtual 29, 3) := by decide +kernel
theorem dX2_isSame_238 : decode cX2_isSame 238 = .ok (.ifCond .le 21, 3) := by decide +kernel
theorem dX2_isSame_241 : decode cX2_isSame 241 = .ok (.aload_n 0, 1) := by decide +kernel
theorem dX2_isSame_242 : decode cX2_isSame 242 = .ok (.iload 7, 2) := by decide +kernel
theorem dX2_isSame_244 : decode cX2_isSame 244 = .ok (.iload 8, 2) := by decide +kernel
theorem dX2_isSame_246 : decode cX2_isSame 246 = .ok (.iconst 1, 1) := by decide +kernel
theorem dX2_isSame_247 : decode cX2_isSame 247 = .ok (.iadd, 1) := by decide +kernel
theorem dX2_isSame_248 : decode cX2_isSame 248 = .ok (.invokevirtual 29, 3) := by decide +kernel
theorem dX2_isSame_251 : decode cX2_isSame 251 = .ok (.iload 9, 2) := by decide +kernel
theorem dX2_isSame_253 : decode cX2_isSame 253 = .ok (.if_icmp .eq 6, 3) := by decide +kernel
theorem dX2_isSame_256 : decode cX2_isSame 256 = .ok (.iinc 5 1, 3) := by decide +kernel
theorem dX2_isSame_259 : decode cX2_isSame 259 = .ok (.iinc 8 1, 3) := by decide +kernel
theorem dX2_isSame_262 : decode cX2_isSame 262 = .ok (.goto (-175), 3) := by decide +kernel
theorem dX2_isSame_265 : decode cX2_isSame 265 = .ok (.iinc 7 1, 3) := by decide +kernel
theorem dX2_isSame_268 : decode cX2_isSame 268 = .ok (.goto (-193), 3) := by decide +kernel
theorem dX2_isSame_271 : decode cX2_isSame 271 = .ok (.iconst 0, 1) := by decide +kernel
theorem dX2_isSame_272 : decode cX2_isSame 272 = .ok (.istore 7, 2) := by decide +kernel
theorem dX2_isSame_274 : decode cX2_isSame 274 = .ok (.iconst 0, 1) := by decide +kernel
theorem dX2_isSame_275 : decode cX2_isSame 275 = .ok (.istore 8, 2) := by decide +kernel
theorem dX2_isSame_277 : decode cX2_isSame 277 = .ok (.iconst 4, 1) := by decide +kernel
theorem dX2_isSame_278 : decode cX2_isSame 278 = .ok (.istore 9, 2) := by decide +kernel
theorem dX2_isSame_280 : decode cX2_isSame 280 = .ok (.iload 9, 2) := by decide +kernel
theorem dX2_isSame_282 : decode cX2_isSame 282 = .ok (.ifCond .le 203, 3) := by decide +kernel
theorem dX2_isSame_285 : decode cX2_isSame 285 = .ok (.iconst 0, 1) := by decide +kernel
theorem dX2_isSame_286 : decode cX2_isSame 286 = .ok (.istore 10, 2) := by decide +kernel
theorem dX2_isSame_288 : decode cX2_isSame 288 = .ok (.iconst 0, 1) := by decide +kernel
theorem dX2_isSame_289 : decode cX2_isSame 289 = .ok (.istore 11, 2) := by decide +kernel
theorem dX2_isSame_291 : decode cX2_isSame 291 = .ok (.iconst 0, 1) := by decide +kernel
theorem dX2_isSame_292 : decode cX2_isSame 292 = .ok (.istore 12, 2) := by decide +kernel
theorem dX2_isSame_294 : decode cX2_isSame 294 = .ok (.iload 12, 2) := by decide +kernel
theorem dX2_isSame_296 : decode cX2_isSame 296 = .ok (.aload_n 0, 1) := by decide +kernel
theorem dX2_isSame_297 : decode cX2_isSame 297 = .ok (.getfield 13, 3) := by decide +kernel
theorem dX2_isSame_300 : decode cX2_isSame 300 = .ok (.if_icmp .ge 91, 3) := by decide +kernel
theorem dX2_isSame_303 : decode cX2_isSame 303 = .ok (.iconst 0, 1) := by decide +kernel
theorem dX2_isSame_304 : decode cX2_isSame 304 = .ok (.istore 13, 2) := by decide +kernel
theorem dX2_isSame_306 : decode cX2_isSame 306 = .ok (.iload 13, 2) := by decide +kernel
theorem dX2_isSame_308 : decode cX2_isSame 308 = .ok (.aload_n 0, 1) := by decide +kernel
theorem dX2_isSame_309 : decode cX2_isSame 309 = .ok (.getfield 16, 3) := by decide +kernel
theorem dX2_isSame_312 : decode cX2_isSame 312 = .ok (.if_icmp .ge 73, 3) := by decide +kernel
theorem dX2_isSame_315 : decode cX2_isSame 315 = .ok (.aload_n 0, 1) := by decide +kernel
theorem dX2_isSame_316 : decode cX2_isSame 316 = .ok (.getfield 21, 3) := by decide +kernel
theorem dX2_isSame_319 : decode cX2_isSame 319 = .ok (.iload 12, 2) := by decide +kernel
theorem dX2_isSame_321 : decode cX2_isSame 321 = .ok (.aaload, 1) := by decide +kernel
theorem dX2_isSame_322 : decode cX2_isSame 322 = .ok (.iload 13, 2) := by decide +kernel
theorem dX2_isSame_324 : decode cX2_isSame 324 = .ok (.iaload, 1) := by decide +kernel
theorem dX2_isSame_325 : decode cX2_isSame 325 = .ok (.iload 9, 2) := by decide +kernel
theorem dX2_isSame_327 : decode cX2_isSame 327 = .ok (.if_icmp .eq 6, 3) := by decide +kernel
theorem dX2_isSame_330 : decode cX2_isSame 330 = .ok (.goto 49, 3) := by decide +kernel
theorem dX2_isSame_333 : decode cX2_isSame 333 = .ok (.iload 10, 2) := by decide +kernel
theorem dX2_isSame_335 : decode cX2_isSame 335 = .ok (.aload_n 2, 1) := by decide +kernel
theorem dX2_isSame_336 : decode cX2_isSame 336 = .ok (.iload 12, 2) := by decide +kernel
theorem dX2_isSame_338 : decode cX2_isSame 338 = .ok (.aaload, 1) := by decide +kernel
theorem dX2_isSame_339 : decode cX2_isSame 339 = .ok (.iload 13, 2) := by decide +kernel
theorem dX2_isSame_341 : decode cX2_isSame 341 = .ok (.iaload, 1) := by decide +kernel
theorem dX2_isSame_342 : decode cX2_isSame 342 = .ok (.aload_n 0, 1) := by decide +kernel
theorem dX2_isSame_343 : decode cX2_isSame 343 = .ok (.getfield 13, 3) := by decide +kernel
theorem dX2_isSame_346 : decode cX2_isSame 346 = .ok (.iload 13, 2) := by decide +kernel
theorem dX2_isSame_348 : decode cX2_isSame 348 = .ok (.imul, 1) := by decide +kernel
theorem dX2_isSame_349 : decode cX2_isSame 349 = .ok (.iload 12, 2) := by decide +kernel
theorem dX2_isSame_351 : decode cX2_isSame 351 = .ok (.iadd, 1) := by decide +kernel
theorem dX2_isSame_352 : decode cX2_isSame 352 = .ok (.if_icmp .ne 7, 3) := by decide +kernel
theorem dX2_isSame_355 : decode cX2_isSame 355 = .ok (.iconst 1, 1) := by decide +kernel
theorem dX2_isSame_356 : decode cX2_isSame 356 = .ok (.goto 4, 3) := by decide +kernel
theorem dX2_isSame_359 : decode cX2_isSame 359 = .ok (.iconst 0, 1) := by decide +kernel
theorem dX2_isSame_360 : decode cX2_isSame 360 = .ok (.iadd, 1) := by decide +kernel
theorem dX2_isSame_361 : decode cX2_isSame 361 = .ok (.istore 10, 2) := by decide +kernel
theorem dX2_isSame_363 : decode cX2_isSame 363 = .ok (.iload 11, 2) := by decide +kernel
theorem dX2_isSame_365 : decode cX2_isSame 365 = .ok (.aload_n 3, 1) := by decide +kernel
theorem dX2_isSame_366 : decode cX2_isSame 366 = .ok (.aload_n 2, 1) := by decide +kernel
theorem dX2_isSame_367 : decode cX2_isSame 367 = .ok (.iload 12, 2) := by decide +kernel
theorem dX2_isSame_369 : decode cX2_isSame 369 = .ok (.aaload, 1) := by decide +kernel
theorem dX2_isSame_370 : decode cX2_isSame 370 = .ok (.iload 13, 2) := by decide +kernel
theorem dX2_isSame_372 : decode cX2_isSame 372 = .ok (.iaload, 1) := by decide +kernel
theorem dX2_isSame_373 : decode cX2_isSame 373 = .ok (.iaload, 1) := by decide +kernel
theorem dX2_isSame_374 : decode cX2_isSame 374 = .ok (.invokestatic 79, 3) := by decide +kernel
theorem dX2_isSame_377 : decode cX2_isSame 377 = .ok (.istore 11, 2) := by decide +kernel
theorem dX2_isSame_379 : decode cX2_isSame 379 = .ok (.iinc 13 1, 3) := by decide +kernel
theorem dX2_isSame_382 : decode cX2_isSame 382 = .ok (.goto (-76), 3) := by decide +kernel
theorem dX2_isSame_385 : decode cX2_isSame 385 = .ok (.iinc 12 1, 3) := by decide +kernel
theorem dX2_isSame_388 : decode cX2_isSame 388 = .ok (.goto (-94), 3) := by decide +kernel
theorem dX2_isSame_391 : decode cX2_isSame 391 = .ok (.aload_n 1, 1) := by decide +kernel
theorem dX2_isSame_392 : decode cX2_isSame 392 = .ok (.iload 9, 2) := by decide +kernel
theorem dX2_isSame_394 : decode cX2_isSame 394 = .ok (.invokevirtual 82, 3) := by decide +kernel
theorem dX2_isSame_397 : decode cX2_isSame 397 = .ok (.iload 10, 2) := by decide +kernel
theorem dX2_isSame_399 : decode cX2_isSame 399 = .ok (.if_icmp .ne 14, 3) := by decide +kernel
theorem dX2_isSame_402 : decode cX2_isSame 402 = .ok (.aload_n 1, 1) := by decide +kernel
theorem dX2_isSame_403 : decode cX2_isSame 403 = .ok (.iload 9, 2) := by decide +kernel
theorem dX2_isSame_405 : decode cX2_isSame 405 = .ok (.invokevirtual 85, 3) := by decide +kernel
theorem dX2_isSame_408 : decode cX2_isSame 408 = .ok (.iload 11, 2) := by decide +kernel
theorem dX2_isSame_410 : decode cX2_isSame 410 = .ok (.if_icmp .eq 5, 3) := by decide +kernel
theorem dX2_isSame_413 : decode cX2_isSame 413 = .ok (.iconst 0, 1) := by decide +kernel
theorem dX2_isSame_414 : decode cX2_isSame 414 = .ok (.ireturn, 1) := by decide +kernel
theorem dX2_isSame_415 : decode cX2_isSame 415 = .ok (.aload_n 0, 1) := by decide +kernel
theorem dX2_isSame_416 : decode cX2_isSame 416 = .ok (.iload 9, 2) := by decide +kernel
theorem dX2_isSame_418 : decode cX2_isSame 418 = .ok (.invokevirtual 55, 3) := by decide +kernel
theorem dX2_isSame_421 : decode cX2_isSame 421 = .ok (.ifCond .le 18, 3) := by decide +kernel
theorem dX2_isSame_424 : decode cX2_isSame 424 = .ok (.aload_n 0, 1) := by decide +kernel
theorem dX2_isSame_425 : decode cX2_isSame 425 = .ok (.iload 9, 2) := by decide +kernel
theorem dX2_isSame_427 : decode cX2_isSame 427 = .ok (.invokevirtual 55, 3) := by decide +kernel
theorem dX2_isSame_430 : decode cX2_isSame 430 = .ok (.aload_n 0, 1) := by decide +kernel
theorem dX2_isSame_431 : decode cX2_isSame 431 = .ok (.iload 7, 2) := by decide +kernel
theorem dX2_isSame_433 : decode cX2_isSame 433 = .ok (.invokevirtual 55, 3) := by decide +kernel
theorem dX2_isSame_436 : decode cX2_isSame 436 = .ok (.if_icmp .ge 17, 3) := by decide +kernel
theorem dX2_isSame_439 : decode cX2_isSame 439 = .ok (.iload 7, 2) := by decide +kernel
theorem dX2_isSame_441 : decode cX2_isSame 441 = .ok (.ifCond .ne 16, 3) := by decide +kernel
theorem dX2_isSame_444 : decode cX2_isSame 444 = .ok (.aload_n 0, 1) := by decide +kernel
theorem dX2_isSame_445 : decode cX2_isSame 445 = .ok (.iload 9, 2) := by decide +kernel
theorem dX2_isSame_447 : decode cX2_isSame 447 = .ok (.invokevirtual 55, 3) := by decide +kernel
theorem dX2_isSame_450 : decode cX2_isSame 450 = .ok (.ifCond .le 7, 3) := by decide +kernel
theorem dX2_isSame_453 : decode cX2_isSame 453 = .ok (.iload 9, 2) := by decide +kernel
theorem dX2_isSame_455 : decode cX2_isSame 455 = .ok (.istore 7, 2) := by decide +kernel
theorem dX2_isSame_457 : decode cX2_isSame 457 = .ok (.aload_n 0, 1) := by decide +kernel
theorem dX2_isSame_458 : decode cX2_isSame 458 = .ok (.iload 9, 2) := by decide +kernel
theorem dX2_isSame_460 : decode cX2_isSame 460 = .ok (.invokevirtual 55, 3) := by decide +kernel
theorem dX2_isSame_463 : decode cX2_isSame 463 = .ok (.aload_n 0, 1) := by decide +kernel
theorem dX2_isSame_464 : decode cX2_isSame 464 = .ok (.getfield 13, 3) := by decide +kernel
theorem dX2_isSame_467 : decode cX2_isSame 467 = .ok (.aload_n 0, 1) := by decide +kernel
theorem dX2_isSame_468 : decode cX2_isSame 468 = .ok (.getfield 16, 3) := by decide +kernel
theorem dX2_isSame_471 : decode cX2_isSame 471 = .ok (.imul, 1) := by decide +kernel
theorem dX2_isSame_472 : decode cX2_isSame 472 = .ok (.if_icmp .ne 7, 3) := by decide +kernel
theorem dX2_isSame_475 : decode cX2_isSame 475 = .ok (.iload 9, 2) := by decide +kernel
theorem dX2_isSame_477 : decode cX2_isSame 477 = .ok (.istore 8, 2) := by decide +kernel
theorem dX2_isSame_479 : decode cX2_isSame 479 = .ok (.iinc 9 (-1), 3) := by decide +kernel
theorem dX2_isSame_482 : decode cX2_isSame 482 = .ok (.goto (-202), 3) := by decide +kernel
theorem dX2_isSame_485 : decode cX2_isSame 485 = .ok (.iconst 0, 1) := by decide +kernel
theorem dX2_isSame_486 : decode cX2_isSame 486 = .ok (.istore 9, 2) := by decide +kernel
theorem dX2_isSame_488 : decode cX2_isSame 488 = .ok (.iload 9, 2) := by decide +kernel
theorem dX2_isSame_490 : decode cX2_isSame 490 = .ok (.iconst 5, 1) := by decide +kernel
theorem dX2_isSame_491 : decode cX2_isSame 491 = .ok (.if_icmp .ge 54, 3) := by decide +kernel
theorem dX2_isSame_494 : decode cX2_isSame 494 = .ok (.aload_n 1, 1) := by decide +kernel
theorem dX2_isSame_495 : decode cX2_isSame 495 = .ok (.iload 9, 2) := by decide +kernel
theorem dX2_isSame_497 : decode cX2_isSame 497 = .ok (.invokevirtual 88, 3) := by decide +kernel
theorem dX2_isSame_500 : decode cX2_isSame 500 = .ok (.aload_n 0, 1) := by decide +kernel
theorem dX2_isSame_501 : decode cX2_isSame 501 = .ok (.iload 9, 2) := by decide +kernel
theorem dX2_isSame_503 : decode cX2_isSame 503 = .ok (.invokevirtual 55, 3) := by decide +kernel
theorem dX2_isSame_506 : decode cX2_isSame 506 = .ok (.if_icmp .ne 31, 3) := by decide +kernel
theorem dX2_isSame_509 : decode cX2_isSame 509 = .ok (.aload_n 1, 1) := by decide +kernel
theorem dX2_isSame_510 : decode cX2_isSame 510 = .ok (.iload 9, 2) := by decide +kernel
theorem dX2_isSame_512 : decode cX2_isSame 512 = .ok (.invokevirtual 91, 3) := by decide +kernel
theorem dX2_isSame_515 : decode cX2_isSame 515 = .ok (.aload_n 0, 1) := by decide +kernel
theorem dX2_isSame_516 : decode cX2_isSame 516 = .ok (.iload 9, 2) := by decide +kernel
theorem dX2_isSame_518 : decode cX2_isSame 518 = .ok (.invokevirtual 55, 3) := by decide +kernel
theorem dX2_isSame_521 : decode cX2_isSame 521 = .ok (.i2d, 1) := by decide +kernel
theorem dX2_isSame_522 : decode cX2_isSame 522 = .ok (.aload_n 0, 1) := by decide +kernel
theorem dX2_isSame_523 : decode cX2_isSame 523 = .ok (.getfield 13, 3) := by decide +kernel
theorem dX2_isSame_526 : decode cX2_isSame 526 = .ok (.aload_n 0, 1) := by decide +kernel
theorem dX2_isSame_527 : decode cX2_isSame 527 = .ok (.getfield 16, 3) := by decide +kernel
theorem dX2_isSame_530 : decode cX2_isSame 530 = .ok (.imul, 1) := by decide +kernel
theorem dX2_isSame_531 : decode cX2_isSame 531 = .ok (.i2d, 1) := by decide +kernel
theorem dX2_isSame_532 : decode cX2_isSame 532 = .ok (.ddiv, 1) := by decide +kernel
theorem dX2_isSame_533 : decode cX2_isSame 533 = .ok (.dcmp .l, 1) := by decide +kernel
theorem dX2_isSame_534 : decode cX2_isSame 534 = .ok (.ifCond .eq 5, 3) := by decide +kernel
theorem dX2_isSame_537 : decode cX2_isSame 537 = .ok (.iconst 0, 1) := by decide +kernel
theorem dX2_isSame_538 : decode cX2_isSame 538 = .ok (.ireturn, 1) := by decide +kernel
theorem dX2_isSame_539 : decode cX2_isSame 539 = .ok (.iinc 9 1, 3) := by decide +kernel
theorem dX2_isSame_542 : decode cX2_isSame 542 = .ok (.goto (-54), 3) := by decide +kernel
theorem dX2_isSame_545 : decode cX2_isSame 545 = .ok (.iconst 0, 1) := by decide +kernel
theorem dX2_isSame_546 : decode cX2_isSame 546 = .ok (.istore 9, 2) := by decide +kernel
theorem dX2_isSame_548 : decode cX2_isSame 548 = .ok (.iload 9, 2) := by decide +kernel
theorem dX2_isSame_550 : decode cX2_isSame 550 = .ok (.aload_n 0, 1) := by decide +kernel
theorem dX2_isSame_551 : decode cX2_isSame 551 = .ok (.getfield 13, 3) := by decide +kernel
theorem dX2_isSame_554 : decode cX2_isSame 554 = .ok (.if_icmp .ge 187, 3) := by decide +kernel
theorem dX2_isSame_557 : decode cX2_isSame 557 = .ok (.iconst 0, 1) := by decide +kernel
theorem dX2_isSame_558 : decode cX2_isSame 558 = .ok (.istore 10, 2) := by decide +kernel
theorem dX2_isSame_560 : decode cX2_isSame 560 = .ok (.iload 10, 2) := by decide +kernel
theorem dX2_isSame_562 : decode cX2_isSame 562 = .ok (.aload_n 0, 1) := by decide +kernel
theorem dX2_isSame_563 : decode cX2_isSame 563 = .ok (.getfield 16, 3) := by decide +kernel
theorem dX2_isSame_566 : decode cX2_isSame 566 = .ok (.if_icmp .ge 169, 3) := by decide +kernel
theorem dX2_isSame_569 : decode cX2_isSame 569 = .ok (.aload_n 1, 1) := by decide +kernel
theorem dX2_isSame_570 : decode cX2_isSame 570 = .ok (.iload 9, 2) := by decide +kernel
theorem dX2_isSame_572 : decode cX2_isSame 572 = .ok (.iload 10, 2) := by decide +kernel
theorem dX2_isSame_574 : decode cX2_isSame 574 = .ok (.invokevirtual 95, 3) := by decide +kernel
theorem dX2_isSame_577 : decode cX2_isSame 577 = .ok (.aload_n 0, 1) := by decide +kernel
theorem dX2_isSame_578 : decode cX2_isSame 578 = .ok (.getfield 21, 3) := by decide +kernel
theorem dX2_isSame_581 : decode cX2_isSame 581 = .ok (.iload 9, 2) := by decide +kernel
theorem dX2_isSame_583 : decode cX2_isSame 583 = .ok (.aaload, 1) := by decide +kernel
theorem dX2_isSame_584 : decode cX2_isSame 584 = .ok (.iload 10, 2) := by decide +kernel
theorem dX2_isSame_586 : decode cX2_isSame 586 = .ok (.iaload, 1) := by decide +kernel
theorem dX2_isSame_587 : decode cX2_isSame 587 = .ok (.if_icmp .ne 100, 3) := by decide +kernel
theorem dX2_isSame_590 : decode cX2_isSame 590 = .ok (.aload_n 1, 1) := by decide +kernel
theorem dX2_isSame_591 : decode cX2_isSame 591 = .ok (.iload 9, 2) := by decide +kernel
theorem dX2_isSame_593 : decode cX2_isSame 593 = .ok (.iload 10, 2) := by decide +kernel
theorem dX2_isSame_595 : decode cX2_isSame 595 = .ok (.invokevirtual 98, 3) := by decide +kernel
theorem dX2_isSame_598 : decode cX2_isSame 598 = .ok (.aload_n 0, 1) := by decide +kernel
theorem dX2_isSame_599 : decode cX2_isSame 599 = .ok (.getfield 26, 3) := by decide +kernel
theorem dX2_isSame_602 : decode cX2_isSame 602 = .ok (.iload 9, 2) := by decide +kernel
theorem dX2_isSame_604 : decode cX2_isSame 604 = .ok (.aaload, 1) := by decide +kernel
theorem dX2_isSame_605 : decode cX2_isSame 605 = .ok (.iload 10, 2) := by decide +kernel
theorem dX2_isSame_607 : decode cX2_isSame 607 = .ok (.baload, 1) := by decide +kernel
theorem dX2_isSame_608 : decode cX2_isSame 608 = .ok (.if_icmp .ne 79, 3) := by decide +kernel
theorem dX2_isSame_611 : decode cX2_isSame 611 = .ok (.aload_n 1, 1) := by decide +kernel
theorem dX2_isSame_612 : decode cX2_isSame 612 = .ok (.iload 9, 2) := by decide +kernel
theorem dX2_isSame_614 : decode cX2_isSame 614 = .ok (.iload 10, 2) := by decide +kernel
theorem dX2_isSame_616 : decode cX2_isSame 616 = .ok (.invokevirtual 102, 3) := by decide +kernel
theorem dX2_isSame_619 : decode cX2_isSame 619 = .ok (.aload_n 0, 1) := by decide +kernel
theorem dX2_isSame_620 : decode cX2_isSame 620 = .ok (.iload 9, 2) := by decide +kernel
theorem dX2_isSame_622 : decode cX2_isSame 622 = .ok (.iload 10, 2) := by decide +kernel
theorem dX2_isSame_624 : decode cX2_isSame 624 = .ok (.invokevirtual 37, 3) := by decide +kernel
theorem dX2_isSame_627 : decode cX2_isSame 627 = .ok (.if_icmp .ne 60, 3) := by decide +kernel
theorem dX2_isSame_630 : decode cX2_isSame 630 = .ok (.aload_n 1, 1) := by decide +kernel
theorem dX2_isSame_631 : decode cX2_isSame 631 = .ok (.iload 9, 2) := by decide +kernel
theorem dX2_isSame_633 : decode cX2_isSame 633 = .ok (.iload 10, 2) := by decide +kernel
theorem dX2_isSame_635 : decode cX2_isSame 635 = .ok (.invokevirtual 105, 3) := by decide +kernel
theorem dX2_isSame_638 : decode cX2_isSame 638 = .ok (.aload_n 0, 1) := by decide +kernel
theorem dX2_isSame_639 : decode cX2_isSame 639 = .ok (.getfield 21, 3) := by decide +kernel
theorem dX2_isSame_642 : decode cX2_isSame 642 = .ok (.iload 9, 2) := by decide +kernel
theorem dX2_isSame_644 : decode cX2_isSame 644 = .ok (.aaload, 1) := by decide +kernel
theorem dX2_isSame_645 : decode cX2_isSame 645 = .ok (.iload 10, 2) := by decide +kernel
theorem dX2_isSame_647 : decode cX2_isSame 647 = .ok (.iaload, 1) := by decide +kernel
theorem dX2_isSame_648 : decode cX2_isSame 648 = .ok (.ifCond .ne 7, 3) := by decide +kernel
theorem dX2_isSame_651 : decode cX2_isSame 651 = .ok (.iconst 0, 1) := by decide +kernel
theorem dX2_isSame_652 : decode cX2_isSame 652 = .ok (.goto 12, 3) := by decide +kernel
theorem dX2_isSame_655 : decode cX2_isSame 655 = .ok (.aload_n 3, 1) := by decide +kernel
theorem dX2_isSame_656 : decode cX2_isSame 656 = .ok (.aload_n 2, 1) := by decide +kernel
theorem dX2_isSame_657 : decode cX2_isSame 657 = .ok (.iload 9, 2) := by decide +kernel
theorem dX2_isSame_659 : decode cX2_isSame 659 = .ok (.aaload, 1) := by decide +kernel
theorem dX2_isSame_660 : decode cX2_isSame 660 = .ok (.iload 10, 2) := by decide +kernel
theorem dX2_isSame_662 : decode cX2_isSame 662 = .ok (.iaload, 1) := by decide +kernel
theorem dX2_isSame_663 : decode cX2_isSame 663 = .ok (.iaload, 1) := by decide +kernel
theorem dX2_isSame_664 : decode cX2_isSame 664 = .ok (.if_icmp .ne 23, 3) := by decide +kernel
theorem dX2_isSame_667 : decode cX2_isSame 667 = .ok (.aload_n 1, 1) := by decide +kernel
theorem dX2_isSame_668 : decode cX2_isSame 668 = .ok (.iload 9, 2) := by decide +kernel
theorem dX2_isSame_670 : decode cX2_isSame 670 = .ok (.iload 10, 2) := by decide +kernel
theorem dX2_isSame_672 : decode cX2_isSame 672 = .ok (.iconst 0, 1) := by decide +kernel
theorem dX2_isSame_673 : decode cX2_isSame 673 = .ok (.invokevirtual 108, 3) := by decide +kernel
theorem dX2_isSame_676 : decode cX2_isSame 676 = .ok (.aload_n 0, 1) := by decide +kernel
theorem dX2_isSame_677 : decode cX2_isSame 677 = .ok (.iload 9, 2) := by decide +kernel
theorem dX2_isSame_679 : decode cX2_isSame 679 = .ok (.iload 10, 2) := by decide +kernel
theorem dX2_isSame_681 : decode cX2_isSame 681 = .ok (.invokevirtual 111, 3) := by decide +kernel
theorem dX2_isSame_684 : decode cX2_isSame 684 = .ok (.if_icmp .eq 5, 3) := by decide +kernel
theorem dX2_isSame_687 : decode cX2_isSame 687 = .ok (.iconst 0, 1) := by decide +kernel
theorem dX2_isSame_688 : decode cX2_isSame 688 = .ok (.ireturn, 1) := by decide +kernel
theorem dX2_isSame_689 : decode cX2_isSame 689 = .ok (.iconst 1, 1) := by decide +kernel
theorem dX2_isSame_690 : decode cX2_isSame 690 = .ok (.istore 11, 2) := by decide +kernel
theorem dX2_isSame_692 : decode cX2_isSame 692 = .ok (.iload 11, 2) := by decide +kernel
theorem dX2_isSame_694 : decode cX2_isSame 694 = .ok (.iconst 5, 1) := by decide +kernel
theorem dX2_isSame_695 : decode cX2_isSame 695 = .ok (.if_icmp .ge 34, 3) := by decide +kernel
theorem dX2_isSame_698 : decode cX2_isSame 698 = .ok (.aload_n 1, 1) := by decide +kernel
theorem dX2_isSame_699 : decode cX2_isSame 699 = .ok (.iload 9, 2) := by decide +kernel
theorem dX2_isSame_701 : decode cX2_isSame 701 = .ok (.iload 10, 2) := by decide +kernel
theorem dX2_isSame_703 : decode cX2_isSame 703 = .ok (.iload 11, 2) := by decide +kernel
theorem dX2_isSame_705 : decode cX2_isSame 705 = .ok (.invokevirtual 108, 3) := by decide +kernel
theorem dX2_isSame_708 : decode cX2_isSame 708 = .ok (.aload_n 0, 1) := by decide +kernel
theorem dX2_isSame_709 : decode cX2_isSame 709 = .ok (.iload 9, 2) := by decide +kernel
theorem dX2_isSame_711 : decode cX2_isSame 711 = .ok (.iload 10, 2) := by decide +kernel
theorem dX2_isSame_713 : decode cX2_isSame 713 = .ok (.iload 11, 2) := by decide +kernel
theorem dX2_isSame_715 : decode cX2_isSame 715 = .ok (.invokevirtual 33, 3) := by decide +kernel
theorem dX2_isSame_718 : decode cX2_isSame 718 = .ok (.if_icmp .eq 5, 3) := by decide +kernel
theorem dX2_isSame_721 : decode cX2_isSame 721 = .ok (.iconst 0, 1) := by decide +kernel
theorem dX2_isSame_722 : decode cX2_isSame 722 = .ok (.ireturn, 1) := by decide +kernel
theorem dX2_isSame_723 : decode cX2_isSame 723 = .ok (.iinc 11 1, 3) := by decide +kernel
theorem dX2_isSame_726 : decode cX2_isSame 726 = .ok (.goto (-34), 3) := by decide +kernel
theorem dX2_isSame_729 : decode cX2_isSame 729 = .ok (.iinc 10 1, 3) := by decide +kernel
theorem dX2_isSame_732 : decode cX2_isSame 732 = .ok (.goto (-172), 3) := by decide +kernel
theorem dX2_isSame_735 : decode cX2_isSame 735 = .ok (.iinc 9 1, 3) := by decide +kernel
theorem dX2_isSame_738 : decode cX2_isSame 738 = .ok (.goto (-190), 3) := by decide +kernel
theorem dX2_isSame_741 : decode cX2_isSame 741 = .ok (.aload_n 1, 1) := by decide +kernel
theorem dX2_isSame_742 : decode cX2_isSame 742 = .ok (.invokevirtual 114, 3) := by decide +kernel
theorem dX2_isSame_745 : decode cX2_isSame 745 = .ok (.iload 4, 2) := by decide +kernel
theorem dX2_isSame_747 : decode cX2_isSame 747 = .ok (.if_icmp .ne 43, 3) := by decide +kernel
theorem dX2_isSame_750 : decode cX2_isSame 750 = .ok (.aload_n 1, 1) := by decide +kernel
theorem dX2_isSame_751 : decode cX2_isSame 751 = .ok (.invokevirtual 117, 3) := by decide +kernel
theorem dX2_isSame_754 : decode cX2_isSame 754 = .ok (.iload 5, 2) := by decide +kernel
theorem dX2_isSame_756 : decode cX2_isSame 756 = .ok (.if_icmp .ne 34, 3) := by decide +kernel
theorem dX2_isSame_759 : decode cX2_isSame 759 = .ok (.aload_n 1, 1) := by decide +kernel
theorem dX2_isSame_760 : decode cX2_isSame 760 = .ok (.invokevirtual 120, 3) := by decide +kernel
theorem dX2_isSame_763 : decode cX2_isSame 763 = .ok (.iload 7, 2) := by decide +kernel
theorem dX2_isSame_765 : decode cX2_isSame 765 = .ok (.if_icmp .ne 25, 3) := by decide +kernel
theorem dX2_isSame_768 : decode cX2_isSame 768 = .ok (.aload_n 1, 1) := by decide +kernel
theorem dX2_isSame_769 : decode cX2_isSame 769 = .ok (.invokevirtual 123, 3) := by decide +kernel
theorem dX2_isSame_772 : decode cX2_isSame 772 = .ok (.iload 8, 2) := by decide +kernel
theorem dX2_isSame_774 : decode cX2_isSame 774 = .ok (.if_icmp .ne 16, 3) := by decide +kernel
theorem dX2_isSame_777 : decode cX2_isSame 777 = .ok (.aload_n 1, 1) := by decide +kernel
theorem dX2_isSame_778 : decode cX2_isSame 778 = .ok (.invokevirtual 126, 3) := by decide +kernel
theorem dX2_isSame_781 : decode cX2_isSame 781 = .ok (.iload 6, 2) := by decide +kernel
theorem dX2_isSame_783 : decode cX2_isSame 783 = .ok (.if_icmp .ne 7, 3) := by decide +kernel
theorem dX2_isSame_786 : decode cX2_isSame 786 = .ok (.iconst 1, 1) := by decide +kernel
theorem dX2_isSame_787 : decode cX2_isSame 787 = .ok (.goto 4, 3) := by decide +kernel
theorem dX2_isSame_790 : decode cX2_isSame 790 = .ok (.iconst 0, 1) := by decide +kernel
theorem dX2_isSame_791 : decode cX2_isSame 791 = .ok (.ireturn, 1) := by decide +kernel
theorem dJ9_max_7cf53_0 : decode cJ9_max_7cf53 0 = .ok (.iload_n 0, 1) := by decide +kernel
theorem dJ9_max_7cf53_1 : decode cJ9_max_7cf53 1 = .ok (.iload_n 1, 1) := by decide +kernel
theorem dJ9_max_7cf53_2 : decode cJ9_max_7cf53 2 = .ok (.if_icmp .lt 7, 3) := by decide +kernel
theorem dJ9_max_7cf53_5 : decode cJ9_max_7cf53 5 = .ok (.iload_n 0, 1) := by decide +kernel
theorem dJ9_max_7cf53_6 : decode cJ9_max_7cf53 6 = .ok (.goto 4, 3) := by decide +kernel
theorem dJ9_max_7cf53_9 : decode cJ9_max_7cf53 9 = .ok (.iload_n 1, 1) := by decide +kernel
theorem dJ9_max_7cf53_10 : decode cJ9_max_7cf53 10 = .ok (.ireturn, 1) := by decide +kernel
theorem dJ9_min_7cf53_0 : decode cJ9_min_7cf53 0 = .ok (.iload_n 0, 1) := by decide +kernel
theorem dJ9_min_7cf53_1 : decode cJ9_min_7cf53 1 = .ok (.iload_n 1, 1) := by decide +kernel
theorem dJ9_min_7cf53_2 : decode cJ9_min_7cf53 2 = .ok (.if_icmp .gt 7, 3) := by decide +kernel
theorem dJ9_min_7cf53_5 : decode cJ9_min_7cf53 5 = .ok (.iload_n 0, 1) := by decide +kernel
theorem dJ9_min_7cf53_6 : decode cJ9_min_7cf53 6 = .ok (.goto 4, 3) := by decide +kernel
theorem dJ9_min_7cf53_9 : decode cJ9_min_7cf53 9 = .ok (.iload_n 1, 1) := by decide +kernel
theorem dJ9_min_7cf53_10 : decode cJ9_min_7cf53 10 = .ok (.ireturn, 1) := by decide +kernel
