theorem dX5_init_0 : decode cX5_init 0 = .ok (.aload_n 0, 1) := by decide +kernel
theorem dX5_init_1 : decode cX5_init 1 = .ok (.invokespecial 1, 3) := by decide +kernel
theorem dX5_init_4 : decode cX5_init 4 = .ok (.aload_n 0, 1) := by decide +kernel
theorem dX5_init_5 : decode cX5_init 5 = .ok (.bipush 81, 2) := by decide +kernel
theorem dX5_init_7 : decode cX5_init 7 = .ok (.newarray .int, 2) := by decide +kernel
theorem dX5_init_9 : decode cX5_init 9 = .ok (.putfield 9, 3) := by decide +kernel
theorem dX5_init_12 : decode cX5_init 12 = .ok (.aload_n 0, 1) := by decide +kernel
theorem dX5_init_13 : decode cX5_init 13 = .ok (.bipush 81, 2) := by decide +kernel
theorem dX5_init_15 : decode cX5_init 15 = .ok (.newarray .int, 2) := by decide +kernel
theorem dX5_init_17 : decode cX5_init 17 = .ok (.putfield 13, 3) := by decide +kernel
theorem dX5_init_20 : decode cX5_init 20 = .ok (.aload_n 0, 1) := by decide +kernel
theorem dX5_init_21 : decode cX5_init 21 = .ok (.bipush 81, 2) := by decide +kernel
theorem dX5_init_23 : decode cX5_init 23 = .ok (.newarray .int, 2) := by decide +kernel
theorem dX5_init_25 : decode cX5_init 25 = .ok (.putfield 16, 3) := by decide +kernel
theorem dX5_init_28 : decode cX5_init 28 = .ok (.aload_n 0, 1) := by decide +kernel
theorem dX5_init_29 : decode cX5_init 29 = .ok (.bipush 81, 2) := by decide +kernel
theorem dX5_init_31 : decode cX5_init 31 = .ok (.newarray .int, 2) := by decide +kernel
theorem dX5_init_33 : decode cX5_init 33 = .ok (.putfield 19, 3) := by decide +kernel
theorem dX5_init_36 : decode cX5_init 36 = .ok (.aload_n 0, 1) := by decide +kernel
theorem dX5_init_37 : decode cX5_init 37 = .ok (.bipush 12, 2) := by decide +kernel
theorem dX5_init_39 : decode cX5_init 39 = .ok (.newarray .int, 2) := by decide +kernel
theorem dX5_init_41 : decode cX5_init 41 = .ok (.putfield 22, 3) := by decide +kernel
theorem dX5_init_44 : decode cX5_init 44 = .ok (.aload_n 0, 1) := by decide +kernel
theorem dX5_init_45 : decode cX5_init 45 = .ok (.bipush 12, 2) := by decide +kernel
theorem dX5_init_47 : decode cX5_init 47 = .ok (.newarray .int, 2) := by decide +kernel
theorem dX5_init_49 : decode cX5_init 49 = .ok (.putfield 25, 3) := by decide +kernel
theorem dX5_init_52 : decode cX5_init 52 = .ok (.aload_n 0, 1) := by decide +kernel
theorem dX5_init_53 : decode cX5_init 53 = .ok (.bipush 81, 2) := by decide +kernel
theorem dX5_init_55 : decode cX5_init 55 = .ok (.newarray .int, 2) := by decide +kernel
theorem dX5_init_57 : decode cX5_init 57 = .ok (.putfield 28, 3) := by decide +kernel
theorem dX5_init_60 : decode cX5_init 60 = .ok (.aload_n 0, 1) := by decide +kernel
theorem dX5_init_61 : decode cX5_init 61 = .ok (.bipush 81, 2) := by decide +kernel
theorem dX5_init_63 : decode cX5_init 63 = .ok (.newarray .int, 2) := by decide +kernel
theorem dX5_init_65 : decode cX5_init 65 = .ok (.putfield 31, 3) := by decide +kernel
theorem dX5_init_68 : decode cX5_init 68 = .ok (.aload_n 0, 1) := by decide +kernel
theorem dX5_init_69 : decode cX5_init 69 = .ok (.bipush 81, 2) := by decide +kernel
theorem dX5_init_71 : decode cX5_init 71 = .ok (.newarray .int, 2) := by decide +kernel
theorem dX5_init_73 : decode cX5_init 73 = .ok (.putfield 34, 3) := by decide +kernel
theorem dX5_init_76 : decode cX5_init 76 = .ok (.iconst 0, 1) := by decide +kernel
theorem dX5_init_77 : decode cX5_init 77 = .ok (.istore_n 1, 1) := by decide +kernel
theorem dX5_init_78 : decode cX5_init 78 = .ok (.iload_n 1, 1) := by decide +kernel
theorem dX5_init_79 : decode cX5_init 79 = .ok (.bipush 81, 2) := by decide +kernel
theorem dX5_init_81 : decode cX5_init 81 = .ok (.if_icmp .ge 24, 3) := by decide +kernel
theorem dX5_init_84 : decode cX5_init 84 = .ok (.aload_n 0, 1) := by decide +kernel
theorem dX5_init_85 : decode cX5_init 85 = .ok (.getfield 9, 3) := by decide +kernel
theorem dX5_init_88 : decode cX5_init 88 = .ok (.iload_n 1, 1) := by decide +kernel
theorem dX5_init_89 : decode cX5_init 89 = .ok (.bipush 20, 2) := by decide +kernel
theorem dX5_init_91 : decode cX5_init 91 = .ok (.iastore, 1) := by decide +kernel
theorem dX5_init_92 : decode cX5_init 92 = .ok (.aload_n 0, 1) := by decide +kernel
theorem dX5_init_93 : decode cX5_init 93 = .ok (.getfield 16, 3) := by decide +kernel
theorem dX5_init_96 : decode cX5_init 96 = .ok (.iload_n 1, 1) := by decide +kernel
theorem dX5_init_97 : decode cX5_init 97 = .ok (.iconst (-1), 1) := by decide +kernel
theorem dX5_init_98 : decode cX5_init 98 = .ok (.iastore, 1) := by decide +kernel
theorem dX5_init_99 : decode cX5_init 99 = .ok (.iinc 1 1, 3) := by decide +kernel
theorem dX5_init_102 : decode cX5_init 102 = .ok (.goto (-24), 3) := by decide +kernel
theorem dX5_init_105 : decode cX5_init 105 = .ok (.iconst 0, 1) := by decide +kernel
theorem dX5_init_106 : decode cX5_init 106 = .ok (.istore_n 1, 1) := by decide +kernel
theorem dX5_init_107 : decode cX5_init 107 = .ok (.iload_n 1, 1) := by decide +kernel
theorem dX5_init_108 : decode cX5_init 108 = .ok (.bipush 12, 2) := by decide +kernel
theorem dX5_init_110 : decode cX5_init 110 = .ok (.if_icmp .ge 16, 3) := by decide +kernel
theorem dX5_init_113 : decode cX5_init 113 = .ok (.aload_n 0, 1) := by decide +kernel
theorem dX5_init_114 : decode cX5_init 114 = .ok (.getfield 22, 3) := by decide +kernel
theorem dX5_init_117 : decode cX5_init 117 = .ok (.iload_n 1, 1) := by decide +kernel
theorem dX5_init_118 : decode cX5_init 118 = .ok (.iconst 4, 1) := by decide +kernel
theorem dX5_init_119 : decode cX5_init 119 = .ok (.iastore, 1) := by decide +kernel
theorem dX5_init_120 : decode cX5_init 120 = .ok (.iinc 1 1, 3) := by decide +kernel
theorem dX5_init_123 : decode cX5_init 123 = .ok (.goto (-16), 3) := by decide +kernel
theorem dX5_init_126 : decode cX5_init 126 = .ok (.return_, 1) := by decide +kernel
theorem dX5_thrown_0 : decode cX5_thrown 0 = .ok (.aload_n 0, 1) := by decide +kernel
theorem dX5_thrown_1 : decode cX5_thrown 1 = .ok (.getfield 37, 3) := by decide +kernel
theorem dX5_thrown_4 : decode cX5_thrown 4 = .ok (.ireturn, 1) := by decide +kernel
theorem dX5_fail_0 : decode cX5_fail 0 = .ok (.aload_n 0, 1) := by decide +kernel
theorem dX5_fail_1 : decode cX5_fail 1 = .ok (.iload_n 1, 1) := by decide +kernel
theorem dX5_fail_2 : decode cX5_fail 2 = .ok (.putfield 37, 3) := by decide +kernel
theorem dX5_fail_5 : decode cX5_fail 5 = .ok (.iconst 0, 1) := by decide +kernel
theorem dX5_fail_6 : decode cX5_fail 6 = .ok (.ireturn, 1) := by decide +kernel
theorem dX5_isIn_0 : decode cX5_isIn 0 = .ok (.iload_n 0, 1) := by decide +kernel
theorem dX5_isIn_1 : decode cX5_isIn 1 = .ok (.iload_n 1, 1) := by decide +kernel
theorem dX5_isIn_2 : decode cX5_isIn 2 = .ok (.if_icmp .lt 12, 3) := by decide +kernel
theorem dX5_isIn_5 : decode cX5_isIn 5 = .ok (.iload_n 0, 1) := by decide +kernel
theorem dX5_isIn_6 : decode cX5_isIn 6 = .ok (.iload_n 2, 1) := by decide +kernel
theorem dX5_isIn_7 : decode cX5_isIn 7 = .ok (.if_icmp .gt 7, 3) := by decide +kernel
theorem dX5_isIn_10 : decode cX5_isIn 10 = .ok (.iconst 1, 1) := by decide +kernel
theorem dX5_isIn_11 : decode cX5_isIn 11 = .ok (.goto 4, 3) := by decide +kernel
theorem dX5_isIn_14 : decode cX5_isIn 14 = .ok (.iconst 0, 1) := by decide +kernel
theorem dX5_isIn_15 : decode cX5_isIn 15 = .ok (.ireturn, 1) := by decide +kernel
set_option maxRecDepth 20000 in
theorem ggX5_isCell_X5_isIn : GoodIn wsX5_isCell wsX5_isIn := goodIn_r _ [4] (by decide +kernel) (by decide +kernel)
set_option maxRecDepth 20000 in
theorem gX5_isCell_X5_isIn : GoodIn wsX5_isCell (va_wsS RX5 41 yX5_isIn wsX5_isIn) := goodIn_app (goodIn_of _ (by decide +kernel)) ggX5_isCell_X5_isIn
theorem dX5_isCell_0 : decode cX5_isCell 0 = .ok (.iload_n 0, 1) := by decide +kernel
theorem dX5_isCell_1 : decode cX5_isCell 1 = .ok (.iconst 0, 1) := by decide +kernel
theorem dX5_isCell_2 : decode cX5_isCell 2 = .ok (.bipush 8, 2) := by decide +kernel
theorem dX5_isCell_4 : decode cX5_isCell 4 = .ok (.invokestatic 41, 3) := by decide +kernel
theorem dX5_isCell_7 : decode cX5_isCell 7 = .ok (.ifCond .eq 17, 3) := by decide +kernel
theorem dX5_isCell_10 : decode cX5_isCell 10 = .ok (.iload_n 1, 1) := by decide +kernel
theorem dX5_isCell_11 : decode cX5_isCell 11 = .ok (.iconst 0, 1) := by decide +kernel
theorem dX5_isCell_12 : decode cX5_isCell 12 = .ok (.bipush 8, 2) := by decide +kernel
theorem dX5_isCell_14 : decode cX5_isCell 14 = .ok (.invokestatic 41, 3) := by decide +kernel
theorem dX5_isCell_17 : decode cX5_isCell 17 = .ok (.ifCond .eq 7, 3) := by decide +kernel
theorem dX5_isCell_20 : decode cX5_isCell 20 = .ok (.iconst 1, 1) := by decide +kernel
theorem dX5_isCell_21 : decode cX5_isCell 21 = .ok (.goto 4, 3) := by decide +kernel
theorem dX5_isCell_24 : decode cX5_isCell 24 = .ok (.iconst 0, 1) := by decide +kernel
theorem dX5_isCell_25 : decode cX5_isCell 25 = .ok (.ireturn, 1) := by decide +kernel
theorem dX5_beside_0 : decode cX5_beside 0 = .ok (.iload_n 1, 1) := by decide +kernel
theorem dX5_beside_1 : decode cX5_beside 1 = .ok (.ifCond .ne 18, 3) := by decide +kernel
theorem dX5_beside_4 : decode cX5_beside 4 = .ok (.iload_n 0, 1) := by decide +kernel
theorem dX5_beside_5 : decode cX5_beside 5 = .ok (.bipush 9, 2) := by decide +kernel
theorem dX5_beside_7 : decode cX5_beside 7 = .ok (.if_icmp .ge 7, 3) := by decide +kernel
theorem dX5_beside_10 : decode cX5_beside 10 = .ok (.iconst (-1), 1) := by decide +kernel
theorem dX5_beside_11 : decode cX5_beside 11 = .ok (.goto 7, 3) := by decide +kernel
theorem dX5_beside_14 : decode cX5_beside 14 = .ok (.iload_n 0, 1) := by decide +kernel
theorem dX5_beside_15 : decode cX5_beside 15 = .ok (.bipush 9, 2) := by decide +kernel
theorem dX5_beside_17 : decode cX5_beside 17 = .ok (.isub, 1) := by decide +kernel
theorem dX5_beside_18 : decode cX5_beside 18 = .ok (.ireturn, 1) := by decide +kernel
theorem dX5_beside_19 : decode cX5_beside 19 = .ok (.iload_n 1, 1) := by decide +kernel
theorem dX5_beside_20 : decode cX5_beside 20 = .ok (.iconst 1, 1) := by decide +kernel
theorem dX5_beside_21 : decode cX5_beside 21 = .ok (.if_icmp .ne 18, 3) := by decide +kernel
theorem dX5_beside_24 : decode cX5_beside 24 = .ok (.iload_n 0, 1) := by decide +kernel
theorem dX5_beside_25 : decode cX5_beside 25 = .ok (.bipush 9, 2) := by decide +kernel
theorem dX5_beside_27 : decode cX5_beside 27 = .ok (.irem, 1) := by decide +kernel
theorem dX5_beside_28 : decode cX5_beside 28 = .ok (.ifCond .ne 7, 3) := by decide +kernel
theorem dX5_beside_31 : decode cX5_beside 31 = .ok (.iconst (-1), 1) := by decide +kernel
theorem dX5_beside_32 : decode cX5_beside 32 = .ok (.goto 6, 3) := by decide +kernel
theorem dX5_beside_35 : decode cX5_beside 35 = .ok (.iload_n 0, 1) := by decide +kernel
theorem dX5_beside_36 : decode cX5_beside 36 = .ok (.iconst 1, 1) := by decide +kernel
theorem dX5_beside_37 : decode cX5_beside 37 = .ok (.isub, 1) := by decide +kernel
theorem dX5_beside_38 : decode cX5_beside 38 = .ok (.ireturn, 1) := by decide +kernel
theorem dX5_beside_39 : decode cX5_beside 39 = .ok (.iload_n 1, 1) := by decide +kernel
theorem dX5_beside_40 : decode cX5_beside 40 = .ok (.iconst 2, 1) := by decide +kernel
theorem dX5_beside_41 : decode cX5_beside 41 = .ok (.if_icmp .ne 20, 3) := by decide +kernel
theorem dX5_beside_44 : decode cX5_beside 44 = .ok (.iload_n 0, 1) := by decide +kernel
theorem dX5_beside_45 : decode cX5_beside 45 = .ok (.bipush 9, 2) := by decide +kernel
theorem dX5_beside_47 : decode cX5_beside 47 = .ok (.irem, 1) := by decide +kernel
theorem dX5_beside_48 : decode cX5_beside 48 = .ok (.bipush 8, 2) := by decide +kernel
theorem dX5_beside_50 : decode cX5_beside 50 = .ok (.if_icmp .ne 7, 3) := by decide +kernel
theorem dX5_beside_53 : decode cX5_beside 53 = .ok (.iconst (-1), 1) := by decide +kernel
theorem dX5_beside_54 : decode cX5_beside 54 = .ok (.goto 6, 3) := by decide +kernel
theorem dX5_beside_57 : decode cX5_beside 57 = .ok (.iload_n 0, 1) := by decide +kernel
theorem dX5_beside_58 : decode cX5_beside 58 = .ok (.iconst 1, 1) := by decide +kernel
theorem dX5_beside_59 : decode cX5_beside 59 = .ok (.iadd, 1) := by decide +kernel
theorem dX5_beside_60 : decode cX5_beside 60 = .ok (.ireturn, 1) := by decide +kernel
theorem dX5_beside_61 : decode cX5_beside 61 = .ok (.iload_n 0, 1) := by decide +kernel
theorem dX5_beside_62 : decode cX5_beside 62 = .ok (.bipush 9, 2) := by decide +kernel
theorem dX5_beside_64 : decode cX5_beside 64 = .ok (.iadd, 1) := by decide +kernel
theorem dX5_beside_65 : decode cX5_beside 65 = .ok (.bipush 81, 2) := by decide +kernel
theorem dX5_beside_67 : decode cX5_beside 67 = .ok (.if_icmp .ge 10, 3) := by decide +kernel
theorem dX5_beside_70 : decode cX5_beside 70 = .ok (.iload_n 0, 1) := by decide +kernel
theorem dX5_beside_71 : decode cX5_beside 71 = .ok (.bipush 9, 2) := by decide +kernel
theorem dX5_beside_73 : decode cX5_beside 73 = .ok (.iadd, 1) := by decide +kernel
theorem dX5_beside_74 : decode cX5_beside 74 = .ok (.goto 4, 3) := by decide +kernel
theorem dX5_beside_77 : decode cX5_beside 77 = .ok (.iconst (-1), 1) := by decide +kernel
theorem dX5_beside_78 : decode cX5_beside 78 = .ok (.ireturn, 1) := by decide +kernel
theorem dX5_depth_0 : decode cX5_depth 0 = .ok (.iconst 0, 1) := by decide +kernel
theorem dX5_depth_1 : decode cX5_depth 1 = .ok (.aload_n 0, 1) := by decide +kernel
theorem dX5_depth_2 : decode cX5_depth 2 = .ok (.getfield 9, 3) := by decide +kernel
theorem dX5_depth_5 : decode cX5_depth 5 = .ok (.iload_n 1, 1) := by decide +kernel
theorem dX5_depth_6 : decode cX5_depth 6 = .ok (.iaload, 1) := by decide +kernel
theorem dX5_depth_7 : decode cX5_depth 7 = .ok (.aload_n 0, 1) := by decide +kernel
theorem dX5_depth_8 : decode cX5_depth 8 = .ok (.getfield 13, 3) := by decide +kernel
theorem dX5_depth_11 : decode cX5_depth 11 = .ok (.iload_n 1, 1) := by decide +kernel
theorem dX5_depth_12 : decode cX5_depth 12 = .ok (.iaload, 1) := by decide +kernel
theorem dX5_depth_13 : decode cX5_depth 13 = .ok (.isub, 1) := by decide +kernel
theorem dX5_depth_14 : decode cX5_depth 14 = .ok (.invokestatic 45, 3) := by decide +kernel
theorem dX5_depth_17 : decode cX5_depth 17 = .ok (.ireturn, 1) := by decide +kernel
theorem dX5_isHead_0 : decode cX5_isHead 0 = .ok (.aload_n 0, 1) := by decide +kernel
theorem dX5_isHead_1 : decode cX5_isHead 1 = .ok (.getfield 13, 3) := by decide +kernel
theorem dX5_isHead_4 : decode cX5_isHead 4 = .ok (.iload_n 1, 1) := by decide +kernel
theorem dX5_isHead_5 : decode cX5_isHead 5 = .ok (.iaload, 1) := by decide +kernel
theorem dX5_isHead_6 : decode cX5_isHead 6 = .ok (.iconst 5, 1) := by decide +kernel
theorem dX5_isHead_7 : decode cX5_isHead 7 = .ok (.if_icmp .lt 7, 3) := by decide +kernel
theorem dX5_isHead_10 : decode cX5_isHead 10 = .ok (.iconst 1, 1) := by decide +kernel
theorem dX5_isHead_11 : decode cX5_isHead 11 = .ok (.goto 4, 3) := by decide +kernel
theorem dX5_isHead_14 : decode cX5_isHead 14 = .ok (.iconst 0, 1) := by decide +kernel
theorem dX5_isHead_15 : decode cX5_isHead 15 = .ok (.ireturn, 1) := by decide +kernel
set_option maxRecDepth 20000 in
theorem ggX5_headsBeside_X5_beside : GoodIn wsX5_headsBeside wsX5_beside := goodIn_r _ [4] (by decide +kernel) (by decide +kernel)
set_option maxRecDepth 20000 in
theorem gX5_headsBeside_X5_beside : GoodIn wsX5_headsBeside (va_wsS RX5 51 yX5_beside wsX5_beside) := goodIn_app (goodIn_of _ (by decide +kernel)) ggX5_headsBeside_X5_beside
set_option maxRecDepth 20000 in
theorem ggX5_headsBeside_X5_isHead : GoodIn wsX5_headsBeside wsX5_isHead := goodIn_r _ [8, 9, 10, 11, 12, 13, 14, 15, 16, 17, 18, 19, 20] (by decide +kernel) (by decide +kernel)
set_option maxRecDepth 20000 in
theorem gX5_headsBeside_X5_isHead : GoodIn wsX5_headsBeside (wsV RX5 54 RX5 yX5_isHead wsX5_isHead) := goodIn_app (goodIn_of _ (by decide +kernel)) ggX5_headsBeside_X5_isHead
theorem dX5_headsBeside_0 : decode cX5_headsBeside 0 = .ok (.iconst 0, 1) := by decide +kernel
theorem dX5_headsBeside_1 : decode cX5_headsBeside 1 = .ok (.istore_n 2, 1) := by decide +kernel
theorem dX5_headsBeside_2 : decode cX5_headsBeside 2 = .ok (.iconst 0, 1) := by decide +kernel
theorem dX5_headsBeside_3 : decode cX5_headsBeside 3 = .ok (.istore_n 3, 1) := by decide +kernel
theorem dX5_headsBeside_4 : decode cX5_headsBeside 4 = .ok (.iload_n 3, 1) := by decide +kernel
theorem dX5_headsBeside_5 : decode cX5_headsBeside 5 = .ok (.iconst 4, 1) := by decide +kernel
theorem dX5_headsBeside_6 : decode cX5_headsBeside 6 = .ok (.if_icmp .ge 38, 3) := by decide +kernel
theorem dX5_headsBeside_9 : decode cX5_headsBeside 9 = .ok (.iload_n 2, 1) := by decide +kernel
theorem dX5_headsBeside_10 : decode cX5_headsBeside 10 = .ok (.iload_n 1, 1) := by decide +kernel
theorem dX5_headsBeside_11 : decode cX5_headsBeside 11 = .ok (.iload_n 3, 1) := by decide +kernel
theorem dX5_headsBeside_12 : decode cX5_headsBeside 12 = .ok (.invokestatic 51, 3) := by decide +kernel
theorem dX5_headsBeside_15 : decode cX5_headsBeside 15 = .ok (.iconst (-1), 1) := by decide +kernel
theorem dX5_headsBeside_16 : decode cX5_headsBeside 16 = .ok (.if_icmp .eq 19, 3) := by decide +kernel
theorem dX5_headsBeside_19 : decode cX5_headsBeside 19 = .ok (.aload_n 0, 1) := by decide +kernel
theorem dX5_headsBeside_20 : decode cX5_headsBeside 20 = .ok (.iload_n 1, 1) := by decide +kernel
theorem dX5_headsBeside_21 : decode cX5_headsBeside 21 = .ok (.iload_n 3, 1) := by decide +kernel
theorem dX5_headsBeside_22 : decode cX5_headsBeside 22 = .ok (.invokestatic 51, 3) := by decide +kernel
theorem dX5_headsBeside_25 : decode cX5_headsBeside 25 = .ok (.invokevirtual 54, 3) := by decide +kernel
theorem dX5_headsBeside_28 : decode cX5_headsBeside 28 = .ok (.ifCond .eq 7, 3) := by decide +kernel
theorem dX5_headsBeside_31 : decode cX5_headsBeside 31 = .ok (.iconst 1, 1) := by decide +kernel
theorem dX5_headsBeside_32 : decode cX5_headsBeside 32 = .ok (.goto 4, 3) := by decide +kernel
theorem dX5_headsBeside_35 : decode cX5_headsBeside 35 = .ok (.iconst 0, 1) := by decide +kernel
theorem dX5_headsBeside_36 : decode cX5_headsBeside 36 = .ok (.iadd, 1) := by decide +kernel
theorem dX5_headsBeside_37 : decode cX5_headsBeside 37 = .ok (.istore_n 2, 1) := by decide +kernel
theorem dX5_headsBeside_38 : decode cX5_headsBeside 38 = .ok (.iinc 3 1, 3) := by decide +kernel
theorem dX5_headsBeside_41 : decode cX5_headsBeside 41 = .ok (.goto (-37), 3) := by decide +kernel
theorem dX5_headsBeside_44 : decode cX5_headsBeside 44 = .ok (.iload_n 2, 1) := by decide +kernel
theorem dX5_headsBeside_45 : decode cX5_headsBeside 45 = .ok (.ireturn, 1) := by decide +kernel
set_option maxRecDepth 20000 in
theorem ggX5_setGround_X5_isCell : GoodIn wsX5_setGround wsX5_isCell := goodIn_r _ [11, 12, 13, 10, 14] (by decide +kernel) (by decide +kernel)
set_option maxRecDepth 20000 in
theorem gX5_setGround_X5_isCell : GoodIn wsX5_setGround (va_wsS RX5 58 yX5_isCell wsX5_isCell) := goodIn_app (goodIn_of _ (by decide +kernel)) ggX5_setGround_X5_isCell
set_option maxRecDepth 20000 in
theorem ggX5_setGround_X5_fail : GoodIn wsX5_setGround wsX5_fail := goodIn_r _ [18, 1, 19, 20, 21, 22, 23, 24, 25, 26, 27, 28, 29] (by decide +kernel) (by decide +kernel)
set_option maxRecDepth 20000 in
theorem gX5_setGround_X5_fail : GoodIn wsX5_setGround (wsV RX5 62 RX5 yX5_fail wsX5_fail) := goodIn_app (goodIn_of _ (by decide +kernel)) ggX5_setGround_X5_fail
set_option maxRecDepth 20000 in
theorem ggX5_setGround_X5_isIn : GoodIn wsX5_setGround wsX5_isIn := goodIn_r _ [14] (by decide +kernel) (by decide +kernel)
set_option maxRecDepth 20000 in
theorem gX5_setGround_X5_isIn : GoodIn wsX5_setGround (va_wsS RX5 41 yX5_isIn wsX5_isIn) := goodIn_app (goodIn_of _ (by decide +kernel)) ggX5_setGround_X5_isIn
theorem dX5_setGround_0 : decode cX5_setGround 0 = .ok (.aload_n 0, 1) := by decide +kernel
theorem dX5_setGround_1 : decode cX5_setGround 1 = .ok (.iconst 0, 1) := by decide +kernel
theorem dX5_setGround_2 : decode cX5_setGround 2 = .ok (.putfield 37, 3) := by decide +kernel
theorem dX5_setGround_5 : decode cX5_setGround 5 = .ok (.iload_n 1, 1) := by decide +kernel
theorem dX5_setGround_6 : decode cX5_setGround 6 = .ok (.iload_n 2, 1) := by decide +kernel
theorem dX5_setGround_7 : decode cX5_setGround 7 = .ok (.invokestatic 58, 3) := by decide +kernel
theorem dX5_setGround_10 : decode cX5_setGround 10 = .ok (.ifCond .ne 9, 3) := by decide +kernel
theorem dX5_setGround_13 : decode cX5_setGround 13 = .ok (.aload_n 0, 1) := by decide +kernel
theorem dX5_setGround_14 : decode cX5_setGround 14 = .ok (.iconst 1, 1) := by decide +kernel
theorem dX5_setGround_15 : decode cX5_setGround 15 = .ok (.invokevirtual 62, 3) := by decide +kernel
theorem dX5_setGround_18 : decode cX5_setGround 18 = .ok (.ireturn, 1) := by decide +kernel
theorem dX5_setGround_19 : decode cX5_setGround 19 = .ok (.iload_n 3, 1) := by decide +kernel
theorem dX5_setGround_20 : decode cX5_setGround 20 = .ok (.iconst 0, 1) := by decide +kernel
theorem dX5_setGround_21 : decode cX5_setGround 21 = .ok (.bipush 40, 2) := by decide +kernel
theorem dX5_setGround_23 : decode cX5_setGround 23 = .ok (.invokestatic 41, 3) := by decide +kernel
theorem dX5_setGround_26 : decode cX5_setGround 26 = .ok (.ifCond .ne 9, 3) := by decide +kernel
theorem dX5_setGround_29 : decode cX5_setGround 29 = .ok (.aload_n 0, 1) := by decide +kernel
theorem dX5_setGround_30 : decode cX5_setGround 30 = .ok (.iconst 2, 1) := by decide +kernel
theorem dX5_setGround_31 : decode cX5_setGround 31 = .ok (.invokevirtual 62, 3) := by decide +kernel
theorem dX5_setGround_34 : decode cX5_setGround 34 = .ok (.ireturn, 1) := by decide +kernel
theorem dX5_setGround_35 : decode cX5_setGround 35 = .ok (.bipush 9, 2) := by decide +kernel
theorem dX5_setGround_37 : decode cX5_setGround 37 = .ok (.iload_n 2, 1) := by decide +kernel
theorem dX5_setGround_38 : decode cX5_setGround 38 = .ok (.imul, 1) := by decide +kernel
theorem dX5_setGround_39 : decode cX5_setGround 39 = .ok (.iload_n 1, 1) := by decide +kernel
theorem dX5_setGround_40 : decode cX5_setGround 40 = .ok (.iadd, 1) := by decide +kernel
theorem dX5_setGround_41 : decode cX5_setGround 41 = .ok (.istore 4, 2) := by decide +kernel
theorem dX5_setGround_43 : decode cX5_setGround 43 = .ok (.aload_n 0, 1) := by decide +kernel
theorem dX5_setGround_44 : decode cX5_setGround 44 = .ok (.getfield 9, 3) := by decide +kernel
theorem dX5_setGround_47 : decode cX5_setGround 47 = .ok (.iload 4, 2) := by decide +kernel
theorem dX5_setGround_49 : decode cX5_setGround 49 = .ok (.iaload, 1) := by decide +kernel
theorem dX5_setGround_50 : decode cX5_setGround 50 = .ok (.istore 5, 2) := by decide +kernel
theorem dX5_setGround_52 : decode cX5_setGround 52 = .ok (.aload_n 0, 1) := by decide +kernel
theorem dX5_setGround_53 : decode cX5_setGround 53 = .ok (.getfield 9, 3) := by decide +kernel
theorem dX5_setGround_56 : decode cX5_setGround 56 = .ok (.iload 4, 2) := by decide +kernel
theorem dX5_setGround_58 : decode cX5_setGround 58 = .ok (.iload_n 3, 1) := by decide +kernel
theorem dX5_setGround_59 : decode cX5_setGround 59 = .ok (.iastore, 1) := by decide +kernel
theorem dX5_setGround_60 : decode cX5_setGround 60 = .ok (.aload_n 0, 1) := by decide +kernel
theorem dX5_setGround_61 : decode cX5_setGround 61 = .ok (.getfield 13, 3) := by decide +kernel
theorem dX5_setGround_64 : decode cX5_setGround 64 = .ok (.iload 4, 2) := by decide +kernel
theorem dX5_setGround_66 : decode cX5_setGround 66 = .ok (.iload_n 3, 1) := by decide +kernel
theorem dX5_setGround_67 : decode cX5_setGround 67 = .ok (.aload_n 0, 1) := by decide +kernel
theorem dX5_setGround_68 : decode cX5_setGround 68 = .ok (.getfield 13, 3) := by decide +kernel
theorem dX5_setGround_71 : decode cX5_setGround 71 = .ok (.iload 4, 2) := by decide +kernel
theorem dX5_setGround_73 : decode cX5_setGround 73 = .ok (.iaload, 1) := by decide +kernel
theorem dX5_setGround_74 : decode cX5_setGround 74 = .ok (.invokestatic 66, 3) := by decide +kernel
theorem dX5_setGround_77 : decode cX5_setGround 77 = .ok (.iastore, 1) := by decide +kernel
theorem dX5_setGround_78 : decode cX5_setGround 78 = .ok (.iload 5, 2) := by decide +kernel
theorem dX5_setGround_80 : decode cX5_setGround 80 = .ok (.ireturn, 1) := by decide +kernel
set_option maxRecDepth 20000 in
theorem ggX5_plant_X5_isCell : GoodIn wsX5_plant wsX5_isCell := goodIn_r _ [7, 8, 9, 6, 10] (by decide +kernel) (by decide +kernel)
set_option maxRecDepth 20000 in
theorem gX5_plant_X5_isCell : GoodIn wsX5_plant (va_wsS RX5 58 yX5_isCell wsX5_isCell) := goodIn_app (goodIn_of _ (by decide +kernel)) ggX5_plant_X5_isCell
set_option maxRecDepth 20000 in
theorem ggX5_plant_X5_fail : GoodIn wsX5_plant wsX5_fail := goodIn_r _ [14, 1, 15, 16, 17, 18, 19, 20, 21, 22, 23, 24, 25] (by decide +kernel) (by decide +kernel)
set_option maxRecDepth 20000 in
theorem gX5_plant_X5_fail : GoodIn wsX5_plant (wsV RX5 62 RX5 yX5_fail wsX5_fail) := goodIn_app (goodIn_of _ (by decide +kernel)) ggX5_plant_X5_fail
set_option maxRecDepth 20000 in
theorem ggX5_plant_X5_isIn : GoodIn wsX5_plant wsX5_isIn := goodIn_r _ [10] (by decide +kernel) (by decide +kernel)
set_option maxRecDepth 20000 in
theorem gX5_plant_X5_isIn : GoodIn wsX5_plant (va_wsS RX5 41 yX5_isIn wsX5_isIn) := goodIn_app (goodIn_of _ (by decide +kernel)) ggX5_plant_X5_isIn
theorem dX5_plant_0 : decode cX5_plant 0 = .ok (.aload_n 0, 1) := by decide +kernel
theorem dX5_plant_1 : decode cX5_plant 1 = .ok (.iconst 0, 1) := by decide +kernel
theorem dX5_plant_2 : decode cX5_plant 2 = .ok (.putfield 37, 3) := by decide +kernel
theorem dX5_plant_5 : decode cX5_plant 5 = .ok (.iload_n 1, 1) := by decide +kernel
theorem dX5_plant_6 : decode cX5_plant 6 = .ok (.iload_n 2, 1) := by decide +kernel
theorem dX5_plant_7 : decode cX5_plant 7 = .ok (.invokestatic 58, 3) := by decide +kernel
theorem dX5_plant_10 : decode cX5_plant 10 = .ok (.ifCond .ne 9, 3) := by decide +kernel
theorem dX5_plant_13 : decode cX5_plant 13 = .ok (.aload_n 0, 1) := by decide +kernel
theorem dX5_plant_14 : decode cX5_plant 14 = .ok (.iconst 1, 1) := by decide +kernel
theorem dX5_plant_15 : decode cX5_plant 15 = .ok (.invokevirtual 62, 3) := by decide +kernel
theorem dX5_plant_18 : decode cX5_plant 18 = .ok (.ireturn, 1) := by decide +kernel
theorem dX5_plant_19 : decode cX5_plant 19 = .ok (.bipush 9, 2) := by decide +kernel
theorem dX5_plant_21 : decode cX5_plant 21 = .ok (.iload_n 2, 1) := by decide +kernel
theorem dX5_plant_22 : decode cX5_plant 22 = .ok (.imul, 1) := by decide +kernel
theorem dX5_plant_23 : decode cX5_plant 23 = .ok (.iload_n 1, 1) := by decide +kernel
theorem dX5_plant_24 : decode cX5_plant 24 = .ok (.iadd, 1) := by decide +kernel
theorem dX5_plant_25 : decode cX5_plant 25 = .ok (.istore 4, 2) := by decide +kernel
theorem dX5_plant_27 : decode cX5_plant 27 = .ok (.iload_n 3, 1) := by decide +kernel
theorem dX5_plant_28 : decode cX5_plant 28 = .ok (.iconst 0, 1) := by decide +kernel
theorem dX5_plant_29 : decode cX5_plant 29 = .ok (.aload_n 0, 1) := by decide +kernel
theorem dX5_plant_30 : decode cX5_plant 30 = .ok (.getfield 9, 3) := by decide +kernel
theorem dX5_plant_33 : decode cX5_plant 33 = .ok (.iload 4, 2) := by decide +kernel
theorem dX5_plant_35 : decode cX5_plant 35 = .ok (.iaload, 1) := by decide +kernel
theorem dX5_plant_36 : decode cX5_plant 36 = .ok (.invokestatic 41, 3) := by decide +kernel
theorem dX5_plant_39 : decode cX5_plant 39 = .ok (.ifCond .ne 9, 3) := by decide +kernel
theorem dX5_plant_42 : decode cX5_plant 42 = .ok (.aload_n 0, 1) := by decide +kernel
theorem dX5_plant_43 : decode cX5_plant 43 = .ok (.iconst 2, 1) := by decide +kernel
theorem dX5_plant_44 : decode cX5_plant 44 = .ok (.invokevirtual 62, 3) := by decide +kernel
theorem dX5_plant_47 : decode cX5_plant 47 = .ok (.ireturn, 1) := by decide +kernel
theorem dX5_plant_48 : decode cX5_plant 48 = .ok (.aload_n 0, 1) := by decide +kernel
theorem dX5_plant_49 : decode cX5_plant 49 = .ok (.getfield 13, 3) := by decide +kernel
theorem dX5_plant_52 : decode cX5_plant 52 = .ok (.iload 4, 2) := by decide +kernel
theorem dX5_plant_54 : decode cX5_plant 54 = .ok (.iaload, 1) := by decide +kernel
theorem dX5_plant_55 : decode cX5_plant 55 = .ok (.istore 5, 2) := by decide +kernel
theorem dX5_plant_57 : decode cX5_plant 57 = .ok (.aload_n 0, 1) := by decide +kernel
theorem dX5_plant_58 : decode cX5_plant 58 = .ok (.getfield 13, 3) := by decide +kernel
theorem dX5_plant_61 : decode cX5_plant 61 = .ok (.iload 4, 2) := by decide +kernel
theorem dX5_plant_63 : decode cX5_plant 63 = .ok (.iload_n 3, 1) := by decide +kernel
theorem dX5_plant_64 : decode cX5_plant 64 = .ok (.iastore, 1) := by decide +kernel
theorem dX5_plant_65 : decode cX5_plant 65 = .ok (.iload 5, 2) := by decide +kernel
theorem dX5_plant_67 : decode cX5_plant 67 = .ok (.ireturn, 1) := by decide +kernel
set_option maxRecDepth 20000 in
theorem ggX5_setMonth_X5_isIn : GoodIn wsX5_setMonth wsX5_isIn := goodIn_r _ [7] (by decide +kernel) (by decide +kernel)
set_option maxRecDepth 20000 in
theorem gX5_setMonth_X5_isIn : GoodIn wsX5_setMonth (va_wsS RX5 41 yX5_isIn wsX5_isIn) := goodIn_app (goodIn_of _ (by decide +kernel)) ggX5_setMonth_X5_isIn
set_option maxRecDepth 20000 in
theorem ggX5_setMonth_X5_fail : GoodIn wsX5_setMonth wsX5_fail := goodIn_r _ [11, 1, 12, 13, 14, 15, 16, 17, 18, 19, 20, 21, 22] (by decide +kernel) (by decide +kernel)
set_option maxRecDepth 20000 in
theorem gX5_setMonth_X5_fail : GoodIn wsX5_setMonth (wsV RX5 62 RX5 yX5_fail wsX5_fail) := goodIn_app (goodIn_of _ (by decide +kernel)) ggX5_setMonth_X5_fail
theorem dX5_setMonth_0 : decode cX5_setMonth 0 = .ok (.aload_n 0, 1) := by decide +kernel
theorem dX5_setMonth_1 : decode cX5_setMonth 1 = .ok (.iconst 0, 1) := by decide +kernel
theorem dX5_setMonth_2 : decode cX5_setMonth 2 = .ok (.putfield 37, 3) := by decide +kernel
theorem dX5_setMonth_5 : decode cX5_setMonth 5 = .ok (.iload_n 1, 1) := by decide +kernel
theorem dX5_setMonth_6 : decode cX5_setMonth 6 = .ok (.iconst 0, 1) := by decide +kernel
theorem dX5_setMonth_7 : decode cX5_setMonth 7 = .ok (.bipush 11, 2) := by decide +kernel
theorem dX5_setMonth_9 : decode cX5_setMonth 9 = .ok (.invokestatic 41, 3) := by decide +kernel
theorem dX5_setMonth_12 : decode cX5_setMonth 12 = .ok (.ifCond .ne 9, 3) := by decide +kernel
theorem dX5_setMonth_15 : decode cX5_setMonth 15 = .ok (.aload_n 0, 1) := by decide +kernel
theorem dX5_setMonth_16 : decode cX5_setMonth 16 = .ok (.iconst 1, 1) := by decide +kernel
theorem dX5_setMonth_17 : decode cX5_setMonth 17 = .ok (.invokevirtual 62, 3) := by decide +kernel
theorem dX5_setMonth_20 : decode cX5_setMonth 20 = .ok (.ireturn, 1) := by decide +kernel
theorem dX5_setMonth_21 : decode cX5_setMonth 21 = .ok (.iload_n 2, 1) := by decide +kernel
theorem dX5_setMonth_22 : decode cX5_setMonth 22 = .ok (.iconst 0, 1) := by decide +kernel
theorem dX5_setMonth_23 : decode cX5_setMonth 23 = .ok (.bipush 9, 2) := by decide +kernel
theorem dX5_setMonth_25 : decode cX5_setMonth 25 = .ok (.invokestatic 41, 3) := by decide +kernel
theorem dX5_setMonth_28 : decode cX5_setMonth 28 = .ok (.ifCond .eq 13, 3) := by decide +kernel
theorem dX5_setMonth_31 : decode cX5_setMonth 31 = .ok (.iload_n 3, 1) := by decide +kernel
theorem dX5_setMonth_32 : decode cX5_setMonth 32 = .ok (.iconst 0, 1) := by decide +kernel
theorem dX5_setMonth_33 : decode cX5_setMonth 33 = .ok (.bipush 9, 2) := by decide +kernel
theorem dX5_setMonth_35 : decode cX5_setMonth 35 = .ok (.invokestatic 41, 3) := by decide +kernel
theorem dX5_setMonth_38 : decode cX5_setMonth 38 = .ok (.ifCond .ne 9, 3) := by decide +kernel
theorem dX5_setMonth_41 : decode cX5_setMonth 41 = .ok (.aload_n 0, 1) := by decide +kernel
theorem dX5_setMonth_42 : decode cX5_setMonth 42 = .ok (.iconst 2, 1) := by decide +kernel
theorem dX5_setMonth_43 : decode cX5_setMonth 43 = .ok (.invokevirtual 62, 3) := by decide +kernel
theorem dX5_setMonth_46 : decode cX5_setMonth 46 = .ok (.ireturn, 1) := by decide +kernel
theorem dX5_setMonth_47 : decode cX5_setMonth 47 = .ok (.bipush 10, 2) := by decide +kernel
theorem dX5_setMonth_49 : decode cX5_setMonth 49 = .ok (.aload_n 0, 1) := by decide +kernel
theorem dX5_setMonth_50 : decode cX5_setMonth 50 = .ok (.getfield 22, 3) := by decide +kernel
theorem dX5_setMonth_53 : decode cX5_setMonth 53 = .ok (.iload_n 1, 1) := by decide +kernel
theorem dX5_setMonth_54 : decode cX5_setMonth 54 = .ok (.iaload, 1) := by decide +kernel
theorem dX5_setMonth_55 : decode cX5_setMonth 55 = .ok (.imul, 1) := by decide +kernel
theorem dX5_setMonth_56 : decode cX5_setMonth 56 = .ok (.aload_n 0, 1) := by decide +kernel
theorem dX5_setMonth_57 : decode cX5_setMonth 57 = .ok (.getfield 25, 3) := by decide +kernel
theorem dX5_setMonth_60 : decode cX5_setMonth 60 = .ok (.iload_n 1, 1) := by decide +kernel
theorem dX5_setMonth_61 : decode cX5_setMonth 61 = .ok (.iaload, 1) := by decide +kernel
theorem dX5_setMonth_62 : decode cX5_setMonth 62 = .ok (.iadd, 1) := by decide +kernel
theorem dX5_setMonth_63 : decode cX5_setMonth 63 = .ok (.istore 4, 2) := by decide +kernel
theorem dX5_setMonth_65 : decode cX5_setMonth 65 = .ok (.aload_n 0, 1) := by decide +kernel
theorem dX5_setMonth_66 : decode cX5_setMonth 66 = .ok (.getfield 22, 3) := by decide +kernel
theorem dX5_setMonth_69 : decode cX5_setMonth 69 = .ok (.iload_n 1, 1) := by decide +kernel
theorem dX5_setMonth_70 : decode cX5_setMonth 70 = .ok (.iload_n 2, 1) := by decide +kernel
theorem dX5_setMonth_71 : decode cX5_setMonth 71 = .ok (.iastore, 1) := by decide +kernel
theorem dX5_setMonth_72 : decode cX5_setMonth 72 = .ok (.aload_n 0, 1) := by decide +kernel
theorem dX5_setMonth_73 : decode cX5_setMonth 73 = .ok (.getfield 25, 3) := by decide +kernel
theorem dX5_setMonth_76 : decode cX5_setMonth 76 = .ok (.iload_n 1, 1) := by decide +kernel
theorem dX5_setMonth_77 : decode cX5_setMonth 77 = .ok (.iload_n 3, 1) := by decide +kernel
theorem dX5_setMonth_78 : decode cX5_setMonth 78 = .ok (.iastore, 1) := by decide +kernel
theorem dX5_setMonth_79 : decode cX5_setMonth 79 = .ok (.iload 4, 2) := by decide +kernel
theorem dX5_setMonth_81 : decode cX5_setMonth 81 = .ok (.ireturn, 1) := by decide +kernel
set_option maxRecDepth 20000 in
theorem ggX5_mark_X5_isHead : GoodIn wsX5_mark wsX5_isHead := goodIn_r _ [6, 7, 11, 12, 13, 14, 15, 16, 17, 18, 19, 20, 21] (by decide +kernel) (by decide +kernel)
set_option maxRecDepth 20000 in
theorem gX5_mark_X5_isHead : GoodIn wsX5_mark (wsV RX5 54 RX5 yX5_isHead wsX5_isHead) := goodIn_app (goodIn_of _ (by decide +kernel)) ggX5_mark_X5_isHead
set_option maxRecDepth 20000 in
theorem ggX5_mark_X5_beside : GoodIn wsX5_mark wsX5_beside := goodIn_r _ [10] (by decide +kernel) (by decide +kernel)
set_option maxRecDepth 20000 in
theorem gX5_mark_X5_beside : GoodIn wsX5_mark (va_wsS RX5 51 yX5_beside wsX5_beside) := goodIn_app (goodIn_of _ (by decide +kernel)) ggX5_mark_X5_beside
theorem dX5_mark_0 : decode cX5_mark 0 = .ok (.iconst 0, 1) := by decide +kernel
theorem dX5_mark_1 : decode cX5_mark 1 = .ok (.istore_n 1, 1) := by decide +kernel
theorem dX5_mark_2 : decode cX5_mark 2 = .ok (.iload_n 1, 1) := by decide +kernel
theorem dX5_mark_3 : decode cX5_mark 3 = .ok (.bipush 81, 2) := by decide +kernel
theorem dX5_mark_5 : decode cX5_mark 5 = .ok (.if_icmp .ge 28, 3) := by decide +kernel
theorem dX5_mark_8 : decode cX5_mark 8 = .ok (.aload_n 0, 1) := by decide +kernel
theorem dX5_mark_9 : decode cX5_mark 9 = .ok (.getfield 31, 3) := by decide +kernel
theorem dX5_mark_12 : decode cX5_mark 12 = .ok (.iload_n 1, 1) := by decide +kernel
theorem dX5_mark_13 : decode cX5_mark 13 = .ok (.aload_n 0, 1) := by decide +kernel
theorem dX5_mark_14 : decode cX5_mark 14 = .ok (.iload_n 1, 1) := by decide +kernel
theorem dX5_mark_15 : decode cX5_mark 15 = .ok (.invokevirtual 54, 3) := by decide +kernel
theorem dX5_mark_18 : decode cX5_mark 18 = .ok (.ifCond .eq 7, 3) := by decide +kernel
theorem dX5_mark_21 : decode cX5_mark 21 = .ok (.iload_n 1, 1) := by decide +kernel
theorem dX5_mark_22 : decode cX5_mark 22 = .ok (.goto 4, 3) := by decide +kernel
theorem dX5_mark_25 : decode cX5_mark 25 = .ok (.iconst (-1), 1) := by decide +kernel
theorem dX5_mark_26 : decode cX5_mark 26 = .ok (.iastore, 1) := by decide +kernel
theorem dX5_mark_27 : decode cX5_mark 27 = .ok (.iinc 1 1, 3) := by decide +kernel
theorem dX5_mark_30 : decode cX5_mark 30 = .ok (.goto (-28), 3) := by decide +kernel
theorem dX5_mark_33 : decode cX5_mark 33 = .ok (.iconst 1, 1) := by decide +kernel
theorem dX5_mark_34 : decode cX5_mark 34 = .ok (.istore_n 1, 1) := by decide +kernel
theorem dX5_mark_35 : decode cX5_mark 35 = .ok (.iload_n 1, 1) := by decide +kernel
theorem dX5_mark_36 : decode cX5_mark 36 = .ok (.ifCond .eq 103, 3) := by decide +kernel
theorem dX5_mark_39 : decode cX5_mark 39 = .ok (.iconst 0, 1) := by decide +kernel
theorem dX5_mark_40 : decode cX5_mark 40 = .ok (.istore_n 1, 1) := by decide +kernel
theorem dX5_mark_41 : decode cX5_mark 41 = .ok (.iconst 0, 1) := by decide +kernel
theorem dX5_mark_42 : decode cX5_mark 42 = .ok (.istore_n 2, 1) := by decide +kernel
theorem dX5_mark_43 : decode cX5_mark 43 = .ok (.iload_n 2, 1) := by decide +kernel
theorem dX5_mark_44 : decode cX5_mark 44 = .ok (.bipush 81, 2) := by decide +kernel
theorem dX5_mark_46 : decode cX5_mark 46 = .ok (.if_icmp .ge 90, 3) := by decide +kernel
theorem dX5_mark_49 : decode cX5_mark 49 = .ok (.iconst 0, 1) := by decide +kernel
theorem dX5_mark_50 : decode cX5_mark 50 = .ok (.istore_n 3, 1) := by decide +kernel
theorem dX5_mark_51 : decode cX5_mark 51 = .ok (.iload_n 3, 1) := by decide +kernel
theorem dX5_mark_52 : decode cX5_mark 52 = .ok (.iconst 4, 1) := by decide +kernel
theorem dX5_mark_53 : decode cX5_mark 53 = .ok (.if_icmp .ge 77, 3) := by decide +kernel
theorem dX5_mark_56 : decode cX5_mark 56 = .ok (.aload_n 0, 1) := by decide +kernel
theorem dX5_mark_57 : decode cX5_mark 57 = .ok (.getfield 31, 3) := by decide +kernel
theorem dX5_mark_60 : decode cX5_mark 60 = .ok (.iload_n 2, 1) := by decide +kernel
theorem dX5_mark_61 : decode cX5_mark 61 = .ok (.iaload, 1) := by decide +kernel
theorem dX5_mark_62 : decode cX5_mark 62 = .ok (.iconst (-1), 1) := by decide +kernel
theorem dX5_mark_63 : decode cX5_mark 63 = .ok (.if_icmp .eq 67, 3) := by decide +kernel
theorem dX5_mark_66 : decode cX5_mark 66 = .ok (.iload_n 2, 1) := by decide +kernel
theorem dX5_mark_67 : decode cX5_mark 67 = .ok (.iload_n 3, 1) := by decide +kernel
theorem dX5_mark_68 : decode cX5_mark 68 = .ok (.invokestatic 51, 3) := by decide +kernel
theorem dX5_mark_71 : decode cX5_mark 71 = .ok (.istore 4, 2) := by decide +kernel
theorem dX5_mark_73 : decode cX5_mark 73 = .ok (.iload 4, 2) := by decide +kernel
theorem dX5_mark_75 : decode cX5_mark 75 = .ok (.iconst (-1), 1) := by decide +kernel
theorem dX5_mark_76 : decode cX5_mark 76 = .ok (.if_icmp .eq 48, 3) := by decide +kernel
theorem dX5_mark_79 : decode cX5_mark 79 = .ok (.aload_n 0, 1) := by decide +kernel
theorem dX5_mark_80 : decode cX5_mark 80 = .ok (.getfield 31, 3) := by decide +kernel
theorem dX5_mark_83 : decode cX5_mark 83 = .ok (.iload 4, 2) := by decide +kernel
theorem dX5_mark_85 : decode cX5_mark 85 = .ok (.iaload, 1) := by decide +kernel
theorem dX5_mark_86 : decode cX5_mark 86 = .ok (.iconst (-1), 1) := by decide +kernel
theorem dX5_mark_87 : decode cX5_mark 87 = .ok (.if_icmp .eq 37, 3) := by decide +kernel
theorem dX5_mark_90 : decode cX5_mark 90 = .ok (.aload_n 0, 1) := by decide +kernel
theorem dX5_mark_91 : decode cX5_mark 91 = .ok (.getfield 31, 3) := by decide +kernel
theorem dX5_mark_94 : decode cX5_mark 94 = .ok (.iload 4, 2) := by decide +kernel
theorem dX5_mark_96 : decode cX5_mark 96 = .ok (.iaload, 1) := by decide +kernel
theorem dX5_mark_97 : decode cX5_mark 97 = .ok (.aload_n 0, 1) := by decide +kernel
theorem dX5_mark_98 : decode cX5_mark 98 = .ok (.getfield 31, 3) := by decide +kernel
theorem dX5_mark_101 : decode cX5_mark 101 = .ok (.iload_n 2, 1) := by decide +kernel
theorem dX5_mark_102 : decode cX5_mark 102 = .ok (.iaload, 1) := by decide +kernel
theorem dX5_mark_103 : decode cX5_mark 103 = .ok (.if_icmp .lt 6, 3) := by decide +kernel
theorem dX5_mark_106 : decode cX5_mark 106 = .ok (.goto 18, 3) := by decide +kernel
theorem dX5_mark_109 : decode cX5_mark 109 = .ok (.aload_n 0, 1) := by decide +kernel
theorem dX5_mark_110 : decode cX5_mark 110 = .ok (.getfield 31, 3) := by decide +kernel
theorem dX5_mark_113 : decode cX5_mark 113 = .ok (.iload_n 2, 1) := by decide +kernel
theorem dX5_mark_114 : decode cX5_mark 114 = .ok (.aload_n 0, 1) := by decide +kernel
theorem dX5_mark_115 : decode cX5_mark 115 = .ok (.getfield 31, 3) := by decide +kernel
theorem dX5_mark_118 : decode cX5_mark 118 = .ok (.iload 4, 2) := by decide +kernel
theorem dX5_mark_120 : decode cX5_mark 120 = .ok (.iaload, 1) := by decide +kernel
theorem dX5_mark_121 : decode cX5_mark 121 = .ok (.iastore, 1) := by decide +kernel
theorem dX5_mark_122 : decode cX5_mark 122 = .ok (.iconst 1, 1) := by decide +kernel
theorem dX5_mark_123 : decode cX5_mark 123 = .ok (.istore_n 1, 1) := by decide +kernel
theorem dX5_mark_124 : decode cX5_mark 124 = .ok (.iinc 3 1, 3) := by decide +kernel
theorem dX5_mark_127 : decode cX5_mark 127 = .ok (.goto (-76), 3) := by decide +kernel
theorem dX5_mark_130 : decode cX5_mark 130 = .ok (.iinc 2 1, 3) := by decide +kernel
theorem dX5_mark_133 : decode cX5_mark 133 = .ok (.goto (-90), 3) := by decide +kernel
theorem dX5_mark_136 : decode cX5_mark 136 = .ok (.goto (-101), 3) := by decide +kernel
theorem dX5_mark_139 : decode cX5_mark 139 = .ok (.return_, 1) := by decide +kernel
set_option maxRecDepth 20000 in
theorem ggX5_reefOf_X5_isHead : GoodIn wsX5_reefOf wsX5_isHead := goodIn_r _ [6, 7, 15, 16, 17, 18, 19, 20, 21, 22, 23, 24, 25] (by decide +kernel) (by decide +kernel)
set_option maxRecDepth 20000 in
theorem gX5_reefOf_X5_isHead : GoodIn wsX5_reefOf (wsV RX5 54 RX5 yX5_isHead wsX5_isHead) := goodIn_app (goodIn_of _ (by decide +kernel)) ggX5_reefOf_X5_isHead
set_option maxRecDepth 20000 in
theorem ggX5_reefOf_X5_mark : GoodIn wsX5_reefOf wsX5_mark := goodIn_r _ [11, 1, 2, 3, 4, 5, 6, 7, 12, 13, 14, 15, 16, 17, 18, 19, 20, 21, 22, 23, 24, 25] (by decide +kernel) (by decide +kernel)
set_option maxRecDepth 20000 in
theorem gX5_reefOf_X5_mark : GoodIn wsX5_reefOf (wsV RX5 69 RX5 yX5_mark wsX5_mark) := goodIn_app (goodIn_of _ (by decide +kernel)) ggX5_reefOf_X5_mark
theorem dX5_reefOf_0 : decode cX5_reefOf 0 = .ok (.aload_n 0, 1) := by decide +kernel
theorem dX5_reefOf_1 : decode cX5_reefOf 1 = .ok (.iload_n 1, 1) := by decide +kernel
theorem dX5_reefOf_2 : decode cX5_reefOf 2 = .ok (.invokevirtual 54, 3) := by decide +kernel
theorem dX5_reefOf_5 : decode cX5_reefOf 5 = .ok (.ifCond .ne 5, 3) := by decide +kernel
theorem dX5_reefOf_8 : decode cX5_reefOf 8 = .ok (.iconst 0, 1) := by decide +kernel
theorem dX5_reefOf_9 : decode cX5_reefOf 9 = .ok (.ireturn, 1) := by decide +kernel
theorem dX5_reefOf_10 : decode cX5_reefOf 10 = .ok (.aload_n 0, 1) := by decide +kernel
theorem dX5_reefOf_11 : decode cX5_reefOf 11 = .ok (.invokevirtual 69, 3) := by decide +kernel
theorem dX5_reefOf_14 : decode cX5_reefOf 14 = .ok (.iconst 0, 1) := by decide +kernel
theorem dX5_reefOf_15 : decode cX5_reefOf 15 = .ok (.istore_n 2, 1) := by decide +kernel
theorem dX5_reefOf_16 : decode cX5_reefOf 16 = .ok (.iconst 0, 1) := by decide +kernel
theorem dX5_reefOf_17 : decode cX5_reefOf 17 = .ok (.istore_n 3, 1) := by decide +kernel
theorem dX5_reefOf_18 : decode cX5_reefOf 18 = .ok (.iload_n 3, 1) := by decide +kernel
theorem dX5_reefOf_19 : decode cX5_reefOf 19 = .ok (.bipush 81, 2) := by decide +kernel
theorem dX5_reefOf_21 : decode cX5_reefOf 21 = .ok (.if_icmp .ge 32, 3) := by decide +kernel
theorem dX5_reefOf_24 : decode cX5_reefOf 24 = .ok (.iload_n 2, 1) := by decide +kernel
theorem dX5_reefOf_25 : decode cX5_reefOf 25 = .ok (.aload_n 0, 1) := by decide +kernel
theorem dX5_reefOf_26 : decode cX5_reefOf 26 = .ok (.getfield 31, 3) := by decide +kernel
theorem dX5_reefOf_29 : decode cX5_reefOf 29 = .ok (.iload_n 3, 1) := by decide +kernel
theorem dX5_reefOf_30 : decode cX5_reefOf 30 = .ok (.iaload, 1) := by decide +kernel
theorem dX5_reefOf_31 : decode cX5_reefOf 31 = .ok (.aload_n 0, 1) := by decide +kernel
theorem dX5_reefOf_32 : decode cX5_reefOf 32 = .ok (.getfield 31, 3) := by decide +kernel
theorem dX5_reefOf_35 : decode cX5_reefOf 35 = .ok (.iload_n 1, 1) := by decide +kernel
theorem dX5_reefOf_36 : decode cX5_reefOf 36 = .ok (.iaload, 1) := by decide +kernel
theorem dX5_reefOf_37 : decode cX5_reefOf 37 = .ok (.if_icmp .ne 7, 3) := by decide +kernel
theorem dX5_reefOf_40 : decode cX5_reefOf 40 = .ok (.iconst 1, 1) := by decide +kernel
theorem dX5_reefOf_41 : decode cX5_reefOf 41 = .ok (.goto 4, 3) := by decide +kernel
theorem dX5_reefOf_44 : decode cX5_reefOf 44 = .ok (.iconst 0, 1) := by decide +kernel
theorem dX5_reefOf_45 : decode cX5_reefOf 45 = .ok (.iadd, 1) := by decide +kernel
theorem dX5_reefOf_46 : decode cX5_reefOf 46 = .ok (.istore_n 2, 1) := by decide +kernel
theorem dX5_reefOf_47 : decode cX5_reefOf 47 = .ok (.iinc 3 1, 3) := by decide +kernel
theorem dX5_reefOf_50 : decode cX5_reefOf 50 = .ok (.goto (-32), 3) := by decide +kernel
theorem dX5_reefOf_53 : decode cX5_reefOf 53 = .ok (.iload_n 2, 1) := by decide +kernel
theorem dX5_reefOf_54 : decode cX5_reefOf 54 = .ok (.ireturn, 1) := by decide +kernel
set_option maxRecDepth 20000 in
theorem ggX5_cell_X5_isCell : GoodIn wsX5_cell wsX5_isCell := goodIn_r _ [7, 8, 9, 6, 10] (by decide +kernel) (by decide +kernel)
set_option maxRecDepth 20000 in
theorem gX5_cell_X5_isCell : GoodIn wsX5_cell (va_wsS RX5 58 yX5_isCell wsX5_isCell) := goodIn_app (goodIn_of _ (by decide +kernel)) ggX5_cell_X5_isCell
set_option maxRecDepth 20000 in
theorem ggX5_cell_X5_isIn : GoodIn wsX5_cell wsX5_isIn := goodIn_r _ [10] (by decide +kernel) (by decide +kernel)
set_option maxRecDepth 20000 in
theorem gX5_cell_X5_isIn : GoodIn wsX5_cell (va_wsS RX5 41 yX5_isIn wsX5_isIn) := goodIn_app (goodIn_of _ (by decide +kernel)) ggX5_cell_X5_isIn
set_option maxRecDepth 20000 in
theorem ggX5_cell_X5_fail : GoodIn wsX5_cell wsX5_fail := goodIn_r _ [14, 1, 39, 40, 41, 42, 43, 44, 45, 46, 47, 48, 49] (by decide +kernel) (by decide +kernel)
set_option maxRecDepth 20000 in
theorem gX5_cell_X5_fail : GoodIn wsX5_cell (wsV RX5 62 RX5 yX5_fail wsX5_fail) := goodIn_app (goodIn_of _ (by decide +kernel)) ggX5_cell_X5_fail
set_option maxRecDepth 20000 in
theorem ggX5_cell_X5_depth : GoodIn wsX5_cell wsX5_depth := goodIn_r _ [18, 2, 3, 19, 20, 21, 22, 39, 40, 41, 42, 43, 44, 45, 46, 47, 48, 49] (by decide +kernel) (by decide +kernel)
set_option maxRecDepth 20000 in
theorem gX5_cell_X5_depth : GoodIn wsX5_cell (wsV RX5 72 RX5 yX5_depth wsX5_depth) := goodIn_app (goodIn_of _ (by decide +kernel)) ggX5_cell_X5_depth
set_option maxRecDepth 20000 in
theorem ggX5_cell_X5_isHead : GoodIn wsX5_cell wsX5_isHead := goodIn_r _ [26, 3, 39, 40, 41, 42, 43, 44, 45, 46, 47, 48, 49] (by decide +kernel) (by decide +kernel)
set_option maxRecDepth 20000 in
theorem gX5_cell_X5_isHead : GoodIn wsX5_cell (wsV RX5 54 RX5 yX5_isHead wsX5_isHead) := goodIn_app (goodIn_of _ (by decide +kernel)) ggX5_cell_X5_isHead
set_option maxRecDepth 20000 in
theorem ggX5_cell_X5_reefOf : GoodIn wsX5_cell wsX5_reefOf := goodIn_r _ [30, 31, 23, 24, 25, 6, 26, 3, 32, 33, 34, 35, 36, 37, 38, 39, 40, 41, 42, 43, 44, 45, 46, 47, 48, 49] (by decide +kernel) (by decide +kernel)
set_option maxRecDepth 20000 in
theorem gX5_cell_X5_reefOf : GoodIn wsX5_cell (wsV RX5 75 RX5 yX5_reefOf wsX5_reefOf) := goodIn_app (goodIn_of _ (by decide +kernel)) ggX5_cell_X5_reefOf
theorem dX5_cell_0 : decode cX5_cell 0 = .ok (.aload_n 0, 1) := by decide +kernel
theorem dX5_cell_1 : decode cX5_cell 1 = .ok (.iconst 0, 1) := by decide +kernel
theorem dX5_cell_2 : decode cX5_cell 2 = .ok (.putfield 37, 3) := by decide +kernel
theorem dX5_cell_5 : decode cX5_cell 5 = .ok (.iload_n 1, 1) := by decide +kernel
theorem dX5_cell_6 : decode cX5_cell 6 = .ok (.iload_n 2, 1) := by decide +kernel
theorem dX5_cell_7 : decode cX5_cell 7 = .ok (.invokestatic 58, 3) := by decide +kernel
theorem dX5_cell_10 : decode cX5_cell 10 = .ok (.ifCond .eq 12, 3) := by decide +kernel
theorem dX5_cell_13 : decode cX5_cell 13 = .ok (.iload_n 3, 1) := by decide +kernel
theorem dX5_cell_14 : decode cX5_cell 14 = .ok (.iconst 0, 1) := by decide +kernel
theorem dX5_cell_15 : decode cX5_cell 15 = .ok (.iconst 4, 1) := by decide +kernel
theorem dX5_cell_16 : decode cX5_cell 16 = .ok (.invokestatic 41, 3) := by decide +kernel
theorem dX5_cell_19 : decode cX5_cell 19 = .ok (.ifCond .ne 9, 3) := by decide +kernel
theorem dX5_cell_22 : decode cX5_cell 22 = .ok (.aload_n 0, 1) := by decide +kernel
theorem dX5_cell_23 : decode cX5_cell 23 = .ok (.iconst 1, 1) := by decide +kernel
theorem dX5_cell_24 : decode cX5_cell 24 = .ok (.invokevirtual 62, 3) := by decide +kernel
theorem dX5_cell_27 : decode cX5_cell 27 = .ok (.ireturn, 1) := by decide +kernel
theorem dX5_cell_28 : decode cX5_cell 28 = .ok (.bipush 9, 2) := by decide +kernel
theorem dX5_cell_30 : decode cX5_cell 30 = .ok (.iload_n 2, 1) := by decide +kernel
theorem dX5_cell_31 : decode cX5_cell 31 = .ok (.imul, 1) := by decide +kernel
theorem dX5_cell_32 : decode cX5_cell 32 = .ok (.iload_n 1, 1) := by decide +kernel
theorem dX5_cell_33 : decode cX5_cell 33 = .ok (.iadd, 1) := by decide +kernel
theorem dX5_cell_34 : decode cX5_cell 34 = .ok (.istore 4, 2) := by decide +kernel
theorem dX5_cell_36 : decode cX5_cell 36 = .ok (.iload_n 3, 1) := by decide +kernel
theorem dX5_cell_37 : decode cX5_cell 37 = .ok (.ifCond .ne 13, 3) := by decide +kernel
theorem dX5_cell_40 : decode cX5_cell 40 = .ok (.aload_n 0, 1) := by decide +kernel
theorem dX5_cell_41 : decode cX5_cell 41 = .ok (.getfield 9, 3) := by decide +kernel
theorem dX5_cell_44 : decode cX5_cell 44 = .ok (.iload 4, 2) := by decide +kernel
theorem dX5_cell_46 : decode cX5_cell 46 = .ok (.iaload, 1) := by decide +kernel
theorem dX5_cell_47 : decode cX5_cell 47 = .ok (.goto 60, 3) := by decide +kernel
theorem dX5_cell_50 : decode cX5_cell 50 = .ok (.iload_n 3, 1) := by decide +kernel
theorem dX5_cell_51 : decode cX5_cell 51 = .ok (.iconst 1, 1) := by decide +kernel
theorem dX5_cell_52 : decode cX5_cell 52 = .ok (.if_icmp .ne 13, 3) := by decide +kernel
theorem dX5_cell_55 : decode cX5_cell 55 = .ok (.aload_n 0, 1) := by decide +kernel
theorem dX5_cell_56 : decode cX5_cell 56 = .ok (.getfield 13, 3) := by decide +kernel
theorem dX5_cell_59 : decode cX5_cell 59 = .ok (.iload 4, 2) := by decide +kernel
theorem dX5_cell_61 : decode cX5_cell 61 = .ok (.iaload, 1) := by decide +kernel
theorem dX5_cell_62 : decode cX5_cell 62 = .ok (.goto 45, 3) := by decide +kernel
theorem dX5_cell_65 : decode cX5_cell 65 = .ok (.iload_n 3, 1) := by decide +kernel
theorem dX5_cell_66 : decode cX5_cell 66 = .ok (.iconst 2, 1) := by decide +kernel
theorem dX5_cell_67 : decode cX5_cell 67 = .ok (.if_icmp .ne 12, 3) := by decide +kernel
theorem dX5_cell_70 : decode cX5_cell 70 = .ok (.aload_n 0, 1) := by decide +kernel
theorem dX5_cell_71 : decode cX5_cell 71 = .ok (.iload 4, 2) := by decide +kernel
theorem dX5_cell_73 : decode cX5_cell 73 = .ok (.invokevirtual 72, 3) := by decide +kernel
theorem dX5_cell_76 : decode cX5_cell 76 = .ok (.goto 31, 3) := by decide +kernel
theorem dX5_cell_79 : decode cX5_cell 79 = .ok (.iload_n 3, 1) := by decide +kernel
theorem dX5_cell_80 : decode cX5_cell 80 = .ok (.iconst 3, 1) := by decide +kernel
theorem dX5_cell_81 : decode cX5_cell 81 = .ok (.if_icmp .ne 20, 3) := by decide +kernel
theorem dX5_cell_84 : decode cX5_cell 84 = .ok (.aload_n 0, 1) := by decide +kernel
theorem dX5_cell_85 : decode cX5_cell 85 = .ok (.iload 4, 2) := by decide +kernel
theorem dX5_cell_87 : decode cX5_cell 87 = .ok (.invokevirtual 54, 3) := by decide +kernel
theorem dX5_cell_90 : decode cX5_cell 90 = .ok (.ifCond .eq 7, 3) := by decide +kernel
theorem dX5_cell_93 : decode cX5_cell 93 = .ok (.iconst 1, 1) := by decide +kernel
theorem dX5_cell_94 : decode cX5_cell 94 = .ok (.goto 13, 3) := by decide +kernel
theorem dX5_cell_97 : decode cX5_cell 97 = .ok (.iconst 0, 1) := by decide +kernel
theorem dX5_cell_98 : decode cX5_cell 98 = .ok (.goto 9, 3) := by decide +kernel
theorem dX5_cell_101 : decode cX5_cell 101 = .ok (.aload_n 0, 1) := by decide +kernel
theorem dX5_cell_102 : decode cX5_cell 102 = .ok (.iload 4, 2) := by decide +kernel
theorem dX5_cell_104 : decode cX5_cell 104 = .ok (.invokevirtual 75, 3) := by decide +kernel
theorem dX5_cell_107 : decode cX5_cell 107 = .ok (.ireturn, 1) := by decide +kernel
set_option maxRecDepth 20000 in
theorem ggX5_sound_X5_isCell : GoodIn wsX5_sound wsX5_isCell := goodIn_r _ [8, 9, 10, 7, 11] (by decide +kernel) (by decide +kernel)
set_option maxRecDepth 20000 in
theorem gX5_sound_X5_isCell : GoodIn wsX5_sound (va_wsS RX5 58 yX5_isCell wsX5_isCell) := goodIn_app (goodIn_of _ (by decide +kernel)) ggX5_sound_X5_isCell
set_option maxRecDepth 20000 in
theorem ggX5_sound_X5_fail : GoodIn wsX5_sound wsX5_fail := goodIn_r _ [15, 1, 26, 27, 28, 29, 30, 31, 32, 33, 34, 35, 36] (by decide +kernel) (by decide +kernel)
set_option maxRecDepth 20000 in
theorem gX5_sound_X5_fail : GoodIn wsX5_sound (wsV RX5 62 RX5 yX5_fail wsX5_fail) := goodIn_app (goodIn_of _ (by decide +kernel)) ggX5_sound_X5_fail
set_option maxRecDepth 20000 in
theorem ggX5_sound_X5_depth : GoodIn wsX5_sound wsX5_depth := goodIn_r _ [19, 20, 21, 22, 23, 24, 25, 26, 27, 28, 29, 30, 31, 32, 33, 34, 35, 36] (by decide +kernel) (by decide +kernel)
set_option maxRecDepth 20000 in
theorem gX5_sound_X5_depth : GoodIn wsX5_sound (wsV RX5 72 RX5 yX5_depth wsX5_depth) := goodIn_app (goodIn_of _ (by decide +kernel)) ggX5_sound_X5_depth
theorem dX5_sound_0 : decode cX5_sound 0 = .ok (.aload_n 0, 1) := by decide +kernel
theorem dX5_sound_1 : decode cX5_sound 1 = .ok (.iconst 0, 1) := by decide +kernel
theorem dX5_sound_2 : decode cX5_sound 2 = .ok (.putfield 37, 3) := by decide +kernel
theorem dX5_sound_5 : decode cX5_sound 5 = .ok (.iload_n 1, 1) := by decide +kernel
theorem dX5_sound_6 : decode cX5_sound 6 = .ok (.iload_n 2, 1) := by decide +kernel
theorem dX5_sound_7 : decode cX5_sound 7 = .ok (.invokestatic 58, 3) := by decide +kernel
theorem dX5_sound_10 : decode cX5_sound 10 = .ok (.ifCond .ne 9, 3) := by decide +kernel
theorem dX5_sound_13 : decode cX5_sound 13 = .ok (.aload_n 0, 1) := by decide +kernel
theorem dX5_sound_14 : decode cX5_sound 14 = .ok (.iconst 1, 1) := by decide +kernel
theorem dX5_sound_15 : decode cX5_sound 15 = .ok (.invokevirtual 62, 3) := by decide +kernel
theorem dX5_sound_18 : decode cX5_sound 18 = .ok (.ireturn, 1) := by decide +kernel
theorem dX5_sound_19 : decode cX5_sound 19 = .ok (.bipush 9, 2) := by decide +kernel
theorem dX5_sound_21 : decode cX5_sound 21 = .ok (.iload_n 2, 1) := by decide +kernel
theorem dX5_sound_22 : decode cX5_sound 22 = .ok (.imul, 1) := by decide +kernel
theorem dX5_sound_23 : decode cX5_sound 23 = .ok (.iload_n 1, 1) := by decide +kernel
theorem dX5_sound_24 : decode cX5_sound 24 = .ok (.iadd, 1) := by decide +kernel
theorem dX5_sound_25 : decode cX5_sound 25 = .ok (.istore_n 3, 1) := by decide +kernel
theorem dX5_sound_26 : decode cX5_sound 26 = .ok (.aload_n 0, 1) := by decide +kernel
theorem dX5_sound_27 : decode cX5_sound 27 = .ok (.getfield 16, 3) := by decide +kernel
theorem dX5_sound_30 : decode cX5_sound 30 = .ok (.iload_n 3, 1) := by decide +kernel
theorem dX5_sound_31 : decode cX5_sound 31 = .ok (.iaload, 1) := by decide +kernel
theorem dX5_sound_32 : decode cX5_sound 32 = .ok (.iconst (-1), 1) := by decide +kernel
theorem dX5_sound_33 : decode cX5_sound 33 = .ok (.if_icmp .ne 7, 3) := by decide +kernel
theorem dX5_sound_36 : decode cX5_sound 36 = .ok (.iconst 0, 1) := by decide +kernel
theorem dX5_sound_37 : decode cX5_sound 37 = .ok (.goto 15, 3) := by decide +kernel
theorem dX5_sound_40 : decode cX5_sound 40 = .ok (.aload_n 0, 1) := by decide +kernel
theorem dX5_sound_41 : decode cX5_sound 41 = .ok (.iload_n 3, 1) := by decide +kernel
theorem dX5_sound_42 : decode cX5_sound 42 = .ok (.invokevirtual 72, 3) := by decide +kernel
theorem dX5_sound_45 : decode cX5_sound 45 = .ok (.aload_n 0, 1) := by decide +kernel
theorem dX5_sound_46 : decode cX5_sound 46 = .ok (.getfield 16, 3) := by decide +kernel
theorem dX5_sound_49 : decode cX5_sound 49 = .ok (.iload_n 3, 1) := by decide +kernel
theorem dX5_sound_50 : decode cX5_sound 50 = .ok (.iaload, 1) := by decide +kernel
theorem dX5_sound_51 : decode cX5_sound 51 = .ok (.isub, 1) := by decide +kernel
theorem dX5_sound_52 : decode cX5_sound 52 = .ok (.istore 4, 2) := by decide +kernel
theorem dX5_sound_54 : decode cX5_sound 54 = .ok (.aload_n 0, 1) := by decide +kernel
theorem dX5_sound_55 : decode cX5_sound 55 = .ok (.getfield 16, 3) := by decide +kernel
theorem dX5_sound_58 : decode cX5_sound 58 = .ok (.iload_n 3, 1) := by decide +kernel
theorem dX5_sound_59 : decode cX5_sound 59 = .ok (.aload_n 0, 1) := by decide +kernel
theorem dX5_sound_60 : decode cX5_sound 60 = .ok (.iload_n 3, 1) := by decide +kernel
theorem dX5_sound_61 : decode cX5_sound 61 = .ok (.invokevirtual 72, 3) := by decide +kernel
theorem dX5_sound_64 : decode cX5_sound 64 = .ok (.iastore, 1) := by decide +kernel
theorem dX5_sound_65 : decode cX5_sound 65 = .ok (.aload_n 0, 1) := by decide +kernel
theorem dX5_sound_66 : decode cX5_sound 66 = .ok (.getfield 19, 3) := by decide +kernel
theorem dX5_sound_69 : decode cX5_sound 69 = .ok (.iload_n 3, 1) := by decide +kernel
theorem dX5_sound_70 : decode cX5_sound 70 = .ok (.aload_n 0, 1) := by decide +kernel
theorem dX5_sound_71 : decode cX5_sound 71 = .ok (.getfield 78, 3) := by decide +kernel
theorem dX5_sound_74 : decode cX5_sound 74 = .ok (.iastore, 1) := by decide +kernel
theorem dX5_sound_75 : decode cX5_sound 75 = .ok (.iload 4, 2) := by decide +kernel
theorem dX5_sound_77 : decode cX5_sound 77 = .ok (.ireturn, 1) := by decide +kernel
theorem dX5_charted_0 : decode cX5_charted 0 = .ok (.aload_n 0, 1) := by decide +kernel
theorem dX5_charted_1 : decode cX5_charted 1 = .ok (.getfield 16, 3) := by decide +kernel
theorem dX5_charted_4 : decode cX5_charted 4 = .ok (.iload_n 1, 1) := by decide +kernel
theorem dX5_charted_5 : decode cX5_charted 5 = .ok (.iaload, 1) := by decide +kernel
theorem dX5_charted_6 : decode cX5_charted 6 = .ok (.iconst (-1), 1) := by decide +kernel
theorem dX5_charted_7 : decode cX5_charted 7 = .ok (.if_icmp .ne 5, 3) := by decide +kernel
theorem dX5_charted_10 : decode cX5_charted 10 = .ok (.iconst (-1), 1) := by decide +kernel
theorem dX5_charted_11 : decode cX5_charted 11 = .ok (.ireturn, 1) := by decide +kernel
theorem dX5_charted_12 : decode cX5_charted 12 = .ok (.aload_n 0, 1) := by decide +kernel
theorem dX5_charted_13 : decode cX5_charted 13 = .ok (.getfield 78, 3) := by decide +kernel
theorem dX5_charted_16 : decode cX5_charted 16 = .ok (.aload_n 0, 1) := by decide +kernel
theorem dX5_charted_17 : decode cX5_charted 17 = .ok (.getfield 19, 3) := by decide +kernel
theorem dX5_charted_20 : decode cX5_charted 20 = .ok (.iload_n 1, 1) := by decide +kernel
theorem dX5_charted_21 : decode cX5_charted 21 = .ok (.iaload, 1) := by decide +kernel
theorem dX5_charted_22 : decode cX5_charted 22 = .ok (.isub, 1) := by decide +kernel
theorem dX5_charted_23 : decode cX5_charted 23 = .ok (.istore_n 3, 1) := by decide +kernel
theorem dX5_charted_24 : decode cX5_charted 24 = .ok (.iload_n 2, 1) := by decide +kernel
theorem dX5_charted_25 : decode cX5_charted 25 = .ok (.ifCond .ne 12, 3) := by decide +kernel
theorem dX5_charted_28 : decode cX5_charted 28 = .ok (.aload_n 0, 1) := by decide +kernel
theorem dX5_charted_29 : decode cX5_charted 29 = .ok (.getfield 16, 3) := by decide +kernel
theorem dX5_charted_32 : decode cX5_charted 32 = .ok (.iload_n 1, 1) := by decide +kernel
theorem dX5_charted_33 : decode cX5_charted 33 = .ok (.iaload, 1) := by decide +kernel
theorem dX5_charted_34 : decode cX5_charted 34 = .ok (.goto 26, 3) := by decide +kernel
theorem dX5_charted_37 : decode cX5_charted 37 = .ok (.iload_n 2, 1) := by decide +kernel
theorem dX5_charted_38 : decode cX5_charted 38 = .ok (.iconst 1, 1) := by decide +kernel
theorem dX5_charted_39 : decode cX5_charted 39 = .ok (.if_icmp .ne 7, 3) := by decide +kernel
theorem dX5_charted_42 : decode cX5_charted 42 = .ok (.iload_n 3, 1) := by decide +kernel
theorem dX5_charted_43 : decode cX5_charted 43 = .ok (.goto 17, 3) := by decide +kernel
theorem dX5_charted_46 : decode cX5_charted 46 = .ok (.iconst 0, 1) := by decide +kernel
theorem dX5_charted_47 : decode cX5_charted 47 = .ok (.aload_n 0, 1) := by decide +kernel
theorem dX5_charted_48 : decode cX5_charted 48 = .ok (.getfield 16, 3) := by decide +kernel
theorem dX5_charted_51 : decode cX5_charted 51 = .ok (.iload_n 1, 1) := by decide +kernel
theorem dX5_charted_52 : decode cX5_charted 52 = .ok (.iaload, 1) := by decide +kernel
theorem dX5_charted_53 : decode cX5_charted 53 = .ok (.iload_n 3, 1) := by decide +kernel
theorem dX5_charted_54 : decode cX5_charted 54 = .ok (.iconst 2, 1) := by decide +kernel
theorem dX5_charted_55 : decode cX5_charted 55 = .ok (.idiv, 1) := by decide +kernel
theorem dX5_charted_56 : decode cX5_charted 56 = .ok (.isub, 1) := by decide +kernel
theorem dX5_charted_57 : decode cX5_charted 57 = .ok (.invokestatic 45, 3) := by decide +kernel
theorem dX5_charted_60 : decode cX5_charted 60 = .ok (.ireturn, 1) := by decide +kernel
set_option maxRecDepth 20000 in
theorem ggX5_chart_X5_isCell : GoodIn wsX5_chart wsX5_isCell := goodIn_r _ [5, 6, 7, 4, 8] (by decide +kernel) (by decide +kernel)
set_option maxRecDepth 20000 in
theorem gX5_chart_X5_isCell : GoodIn wsX5_chart (va_wsS RX5 58 yX5_isCell wsX5_isCell) := goodIn_app (goodIn_of _ (by decide +kernel)) ggX5_chart_X5_isCell
set_option maxRecDepth 20000 in
theorem ggX5_chart_X5_isIn : GoodIn wsX5_chart wsX5_isIn := goodIn_r _ [8] (by decide +kernel) (by decide +kernel)
set_option maxRecDepth 20000 in
theorem gX5_chart_X5_isIn : GoodIn wsX5_chart (va_wsS RX5 41 yX5_isIn wsX5_isIn) := goodIn_app (goodIn_of _ (by decide +kernel)) ggX5_chart_X5_isIn
set_option maxRecDepth 20000 in
theorem ggX5_chart_X5_charted : GoodIn wsX5_chart wsX5_charted := goodIn_r _ [12, 13, 14, 15, 16, 17, 18, 19, 24, 25, 26, 27, 28, 29, 30, 31, 32, 33, 34] (by decide +kernel) (by decide +kernel)
set_option maxRecDepth 20000 in
theorem gX5_chart_X5_charted : GoodIn wsX5_chart (wsV RX5 81 RX5 yX5_charted wsX5_charted) := goodIn_app (goodIn_of _ (by decide +kernel)) ggX5_chart_X5_charted
set_option maxRecDepth 20000 in
theorem ggX5_chart_X5_fail : GoodIn wsX5_chart wsX5_fail := goodIn_r _ [23, 1, 24, 25, 26, 27, 28, 29, 30, 31, 32, 33, 34] (by decide +kernel) (by decide +kernel)
set_option maxRecDepth 20000 in
theorem gX5_chart_X5_fail : GoodIn wsX5_chart (wsV RX5 62 RX5 yX5_fail wsX5_fail) := goodIn_app (goodIn_of _ (by decide +kernel)) ggX5_chart_X5_fail
theorem dX5_chart_0 : decode cX5_chart 0 = .ok (.aload_n 0, 1) := by decide +kernel
theorem dX5_chart_1 : decode cX5_chart 1 = .ok (.iconst 0, 1) := by decide +kernel
theorem dX5_chart_2 : decode cX5_chart 2 = .ok (.putfield 37, 3) := by decide +kernel
theorem dX5_chart_5 : decode cX5_chart 5 = .ok (.iload_n 1, 1) := by decide +kernel
theorem dX5_chart_6 : decode cX5_chart 6 = .ok (.iload_n 2, 1) := by decide +kernel
theorem dX5_chart_7 : decode cX5_chart 7 = .ok (.invokestatic 58, 3) := by decide +kernel
theorem dX5_chart_10 : decode cX5_chart 10 = .ok (.ifCond .eq 26, 3) := by decide +kernel
theorem dX5_chart_13 : decode cX5_chart 13 = .ok (.iload_n 3, 1) := by decide +kernel
theorem dX5_chart_14 : decode cX5_chart 14 = .ok (.iconst 0, 1) := by decide +kernel
theorem dX5_chart_15 : decode cX5_chart 15 = .ok (.iconst 2, 1) := by decide +kernel
theorem dX5_chart_16 : decode cX5_chart 16 = .ok (.invokestatic 41, 3) := by decide +kernel
theorem dX5_chart_19 : decode cX5_chart 19 = .ok (.ifCond .eq 17, 3) := by decide +kernel
theorem dX5_chart_22 : decode cX5_chart 22 = .ok (.aload_n 0, 1) := by decide +kernel
theorem dX5_chart_23 : decode cX5_chart 23 = .ok (.bipush 9, 2) := by decide +kernel
theorem dX5_chart_25 : decode cX5_chart 25 = .ok (.iload_n 2, 1) := by decide +kernel
theorem dX5_chart_26 : decode cX5_chart 26 = .ok (.imul, 1) := by decide +kernel
theorem dX5_chart_27 : decode cX5_chart 27 = .ok (.iload_n 1, 1) := by decide +kernel
theorem dX5_chart_28 : decode cX5_chart 28 = .ok (.iadd, 1) := by decide +kernel
theorem dX5_chart_29 : decode cX5_chart 29 = .ok (.iload_n 3, 1) := by decide +kernel
theorem dX5_chart_30 : decode cX5_chart 30 = .ok (.invokevirtual 81, 3) := by decide +kernel
theorem dX5_chart_33 : decode cX5_chart 33 = .ok (.goto 8, 3) := by decide +kernel
theorem dX5_chart_36 : decode cX5_chart 36 = .ok (.aload_n 0, 1) := by decide +kernel
theorem dX5_chart_37 : decode cX5_chart 37 = .ok (.iconst 1, 1) := by decide +kernel
theorem dX5_chart_38 : decode cX5_chart 38 = .ok (.invokevirtual 62, 3) := by decide +kernel
theorem dX5_chart_41 : decode cX5_chart 41 = .ok (.ireturn, 1) := by decide +kernel
set_option maxRecDepth 20000 in
theorem ggX5_spread_X5_charted : GoodIn wsX5_spread wsX5_charted := goodIn_r _ [10, 11, 12, 13, 14, 15, 4, 16, 26, 27, 28, 29, 30, 31, 32, 33, 34, 35, 36] (by decide +kernel) (by decide +kernel)
set_option maxRecDepth 20000 in
theorem gX5_spread_X5_charted : GoodIn wsX5_spread (wsV RX5 81 RX5 yX5_charted wsX5_charted) := goodIn_app (goodIn_of _ (by decide +kernel)) ggX5_spread_X5_charted
set_option maxRecDepth 20000 in
theorem ggX5_spread_X5_depth : GoodIn wsX5_spread wsX5_depth := goodIn_r _ [20, 21, 22, 14, 15, 4, 16, 26, 27, 28, 29, 30, 31, 32, 33, 34, 35, 36] (by decide +kernel) (by decide +kernel)
set_option maxRecDepth 20000 in
theorem gX5_spread_X5_depth : GoodIn wsX5_spread (wsV RX5 72 RX5 yX5_depth wsX5_depth) := goodIn_app (goodIn_of _ (by decide +kernel)) ggX5_spread_X5_depth
set_option maxRecDepth 20000 in
theorem ggX5_spread_X5_beside : GoodIn wsX5_spread wsX5_beside := goodIn_r _ [25] (by decide +kernel) (by decide +kernel)
set_option maxRecDepth 20000 in
theorem gX5_spread_X5_beside : GoodIn wsX5_spread (va_wsS RX5 51 yX5_beside wsX5_beside) := goodIn_app (goodIn_of _ (by decide +kernel)) ggX5_spread_X5_beside
theorem dX5_spread_0 : decode cX5_spread 0 = .ok (.iconst 0, 1) := by decide +kernel
theorem dX5_spread_1 : decode cX5_spread 1 = .ok (.istore 4, 2) := by decide +kernel
theorem dX5_spread_3 : decode cX5_spread 3 = .ok (.iload 4, 2) := by decide +kernel
theorem dX5_spread_5 : decode cX5_spread 5 = .ok (.bipush 81, 2) := by decide +kernel
theorem dX5_spread_7 : decode cX5_spread 7 = .ok (.if_icmp .ge 19, 3) := by decide +kernel
theorem dX5_spread_10 : decode cX5_spread 10 = .ok (.aload_n 0, 1) := by decide +kernel
theorem dX5_spread_11 : decode cX5_spread 11 = .ok (.getfield 34, 3) := by decide +kernel
theorem dX5_spread_14 : decode cX5_spread 14 = .ok (.iload 4, 2) := by decide +kernel
theorem dX5_spread_16 : decode cX5_spread 16 = .ok (.sipush 999, 3) := by decide +kernel
theorem dX5_spread_19 : decode cX5_spread 19 = .ok (.iastore, 1) := by decide +kernel
theorem dX5_spread_20 : decode cX5_spread 20 = .ok (.iinc 4 1, 3) := by decide +kernel
theorem dX5_spread_23 : decode cX5_spread 23 = .ok (.goto (-20), 3) := by decide +kernel
theorem dX5_spread_26 : decode cX5_spread 26 = .ok (.iconst 1, 1) := by decide +kernel
theorem dX5_spread_27 : decode cX5_spread 27 = .ok (.istore 4, 2) := by decide +kernel
theorem dX5_spread_29 : decode cX5_spread 29 = .ok (.iload 4, 2) := by decide +kernel
theorem dX5_spread_31 : decode cX5_spread 31 = .ok (.ifCond .eq 153, 3) := by decide +kernel
theorem dX5_spread_34 : decode cX5_spread 34 = .ok (.iconst 0, 1) := by decide +kernel
theorem dX5_spread_35 : decode cX5_spread 35 = .ok (.istore 4, 2) := by decide +kernel
theorem dX5_spread_37 : decode cX5_spread 37 = .ok (.iconst 0, 1) := by decide +kernel
theorem dX5_spread_38 : decode cX5_spread 38 = .ok (.istore 5, 2) := by decide +kernel
theorem dX5_spread_40 : decode cX5_spread 40 = .ok (.iload 5, 2) := by decide +kernel
theorem dX5_spread_42 : decode cX5_spread 42 = .ok (.bipush 81, 2) := by decide +kernel
theorem dX5_spread_44 : decode cX5_spread 44 = .ok (.if_icmp .ge 137, 3) := by decide +kernel
theorem dX5_spread_47 : decode cX5_spread 47 = .ok (.iload_n 2, 1) := by decide +kernel
theorem dX5_spread_48 : decode cX5_spread 48 = .ok (.ifCond .eq 13, 3) := by decide +kernel
theorem dX5_spread_51 : decode cX5_spread 51 = .ok (.aload_n 0, 1) := by decide +kernel
theorem dX5_spread_52 : decode cX5_spread 52 = .ok (.iload 5, 2) := by decide +kernel
theorem dX5_spread_54 : decode cX5_spread 54 = .ok (.iconst 2, 1) := by decide +kernel
theorem dX5_spread_55 : decode cX5_spread 55 = .ok (.invokevirtual 81, 3) := by decide +kernel
theorem dX5_spread_58 : decode cX5_spread 58 = .ok (.goto 9, 3) := by decide +kernel
theorem dX5_spread_61 : decode cX5_spread 61 = .ok (.aload_n 0, 1) := by decide +kernel
theorem dX5_spread_62 : decode cX5_spread 62 = .ok (.iload 5, 2) := by decide +kernel
theorem dX5_spread_64 : decode cX5_spread 64 = .ok (.invokevirtual 72, 3) := by decide +kernel
theorem dX5_spread_67 : decode cX5_spread 67 = .ok (.iload_n 1, 1) := by decide +kernel
theorem dX5_spread_68 : decode cX5_spread 68 = .ok (.if_icmp .gt 6, 3) := by decide +kernel
theorem dX5_spread_71 : decode cX5_spread 71 = .ok (.goto 104, 3) := by decide +kernel
theorem dX5_spread_74 : decode cX5_spread 74 = .ok (.iload 5, 2) := by decide +kernel
theorem dX5_spread_76 : decode cX5_spread 76 = .ok (.bipush 9, 2) := by decide +kernel
theorem dX5_spread_78 : decode cX5_spread 78 = .ok (.idiv, 1) := by decide +kernel
theorem dX5_spread_79 : decode cX5_spread 79 = .ok (.iload_n 3, 1) := by decide +kernel
theorem dX5_spread_80 : decode cX5_spread 80 = .ok (.ifCond .eq 8, 3) := by decide +kernel
theorem dX5_spread_83 : decode cX5_spread 83 = .ok (.bipush 8, 2) := by decide +kernel
theorem dX5_spread_85 : decode cX5_spread 85 = .ok (.goto 4, 3) := by decide +kernel
theorem dX5_spread_88 : decode cX5_spread 88 = .ok (.iconst 0, 1) := by decide +kernel
theorem dX5_spread_89 : decode cX5_spread 89 = .ok (.if_icmp .ne 7, 3) := by decide +kernel
theorem dX5_spread_92 : decode cX5_spread 92 = .ok (.iconst 1, 1) := by decide +kernel
theorem dX5_spread_93 : decode cX5_spread 93 = .ok (.goto 6, 3) := by decide +kernel
theorem dX5_spread_96 : decode cX5_spread 96 = .ok (.sipush 999, 3) := by decide +kernel
theorem dX5_spread_99 : decode cX5_spread 99 = .ok (.istore 6, 2) := by decide +kernel
theorem dX5_spread_101 : decode cX5_spread 101 = .ok (.iconst 0, 1) := by decide +kernel
theorem dX5_spread_102 : decode cX5_spread 102 = .ok (.istore 7, 2) := by decide +kernel
theorem dX5_spread_104 : decode cX5_spread 104 = .ok (.iload 7, 2) := by decide +kernel
theorem dX5_spread_106 : decode cX5_spread 106 = .ok (.iconst 4, 1) := by decide +kernel
theorem dX5_spread_107 : decode cX5_spread 107 = .ok (.if_icmp .ge 41, 3) := by decide +kernel
theorem dX5_spread_110 : decode cX5_spread 110 = .ok (.iload 5, 2) := by decide +kernel
theorem dX5_spread_112 : decode cX5_spread 112 = .ok (.iload 7, 2) := by decide +kernel
theorem dX5_spread_114 : decode cX5_spread 114 = .ok (.invokestatic 51, 3) := by decide +kernel
theorem dX5_spread_117 : decode cX5_spread 117 = .ok (.iconst (-1), 1) := by decide +kernel
theorem dX5_spread_118 : decode cX5_spread 118 = .ok (.if_icmp .eq 24, 3) := by decide +kernel
theorem dX5_spread_121 : decode cX5_spread 121 = .ok (.iload 6, 2) := by decide +kernel
theorem dX5_spread_123 : decode cX5_spread 123 = .ok (.aload_n 0, 1) := by decide +kernel
theorem dX5_spread_124 : decode cX5_spread 124 = .ok (.getfield 34, 3) := by decide +kernel
theorem dX5_spread_127 : decode cX5_spread 127 = .ok (.iload 5, 2) := by decide +kernel
theorem dX5_spread_129 : decode cX5_spread 129 = .ok (.iload 7, 2) := by decide +kernel
theorem dX5_spread_131 : decode cX5_spread 131 = .ok (.invokestatic 51, 3) := by decide +kernel
theorem dX5_spread_134 : decode cX5_spread 134 = .ok (.iaload, 1) := by decide +kernel
theorem dX5_spread_135 : decode cX5_spread 135 = .ok (.iconst 1, 1) := by decide +kernel
theorem dX5_spread_136 : decode cX5_spread 136 = .ok (.iadd, 1) := by decide +kernel
theorem dX5_spread_137 : decode cX5_spread 137 = .ok (.invokestatic 66, 3) := by decide +kernel
theorem dX5_spread_140 : decode cX5_spread 140 = .ok (.istore 6, 2) := by decide +kernel
theorem dX5_spread_142 : decode cX5_spread 142 = .ok (.iinc 7 1, 3) := by decide +kernel
theorem dX5_spread_145 : decode cX5_spread 145 = .ok (.goto (-41), 3) := by decide +kernel
theorem dX5_spread_148 : decode cX5_spread 148 = .ok (.iload 6, 2) := by decide +kernel
theorem dX5_spread_150 : decode cX5_spread 150 = .ok (.aload_n 0, 1) := by decide +kernel
theorem dX5_spread_151 : decode cX5_spread 151 = .ok (.getfield 34, 3) := by decide +kernel
theorem dX5_spread_154 : decode cX5_spread 154 = .ok (.iload 5, 2) := by decide +kernel
theorem dX5_spread_156 : decode cX5_spread 156 = .ok (.iaload, 1) := by decide +kernel
theorem dX5_spread_157 : decode cX5_spread 157 = .ok (.if_icmp .lt 6, 3) := by decide +kernel
theorem dX5_spread_160 : decode cX5_spread 160 = .ok (.goto 15, 3) := by decide +kernel
theorem dX5_spread_163 : decode cX5_spread 163 = .ok (.aload_n 0, 1) := by decide +kernel
theorem dX5_spread_164 : decode cX5_spread 164 = .ok (.getfield 34, 3) := by decide +kernel
theorem dX5_spread_167 : decode cX5_spread 167 = .ok (.iload 5, 2) := by decide +kernel
theorem dX5_spread_169 : decode cX5_spread 169 = .ok (.iload 6, 2) := by decide +kernel
theorem dX5_spread_171 : decode cX5_spread 171 = .ok (.iastore, 1) := by decide +kernel
theorem dX5_spread_172 : decode cX5_spread 172 = .ok (.iconst 1, 1) := by decide +kernel
theorem dX5_spread_173 : decode cX5_spread 173 = .ok (.istore 4, 2) := by decide +kernel
theorem dX5_spread_175 : decode cX5_spread 175 = .ok (.iinc 5 1, 3) := by decide +kernel
theorem dX5_spread_178 : decode cX5_spread 178 = .ok (.goto (-138), 3) := by decide +kernel
theorem dX5_spread_181 : decode cX5_spread 181 = .ok (.goto (-152), 3) := by decide +kernel
theorem dX5_spread_184 : decode cX5_spread 184 = .ok (.return_, 1) := by decide +kernel
set_option maxRecDepth 20000 in
theorem ggX5_shortest_X5_spread : GoodIn wsX5_shortest wsX5_spread := goodIn_r _ [10, 1, 2, 3, 4, 5, 11, 12, 13, 9, 14, 15, 16, 17, 18, 19, 20, 21, 22, 23, 24, 25, 26, 27, 28, 29, 30, 31, 32, 33, 34, 35, 36, 37, 38, 39, 40] (by decide +kernel) (by decide +kernel)
set_option maxRecDepth 20000 in
theorem gX5_shortest_X5_spread : GoodIn wsX5_shortest (wsV RX5 84 RX5 yX5_spread wsX5_spread) := goodIn_app (goodIn_of _ (by decide +kernel)) ggX5_shortest_X5_spread
theorem dX5_shortest_0 : decode cX5_shortest 0 = .ok (.aload_n 0, 1) := by decide +kernel
theorem dX5_shortest_1 : decode cX5_shortest 1 = .ok (.iload_n 1, 1) := by decide +kernel
theorem dX5_shortest_2 : decode cX5_shortest 2 = .ok (.iload_n 2, 1) := by decide +kernel
theorem dX5_shortest_3 : decode cX5_shortest 3 = .ok (.iconst 1, 1) := by decide +kernel
theorem dX5_shortest_4 : decode cX5_shortest 4 = .ok (.invokevirtual 84, 3) := by decide +kernel
theorem dX5_shortest_7 : decode cX5_shortest 7 = .ok (.sipush 999, 3) := by decide +kernel
theorem dX5_shortest_10 : decode cX5_shortest 10 = .ok (.istore_n 3, 1) := by decide +kernel
theorem dX5_shortest_11 : decode cX5_shortest 11 = .ok (.iconst 0, 1) := by decide +kernel
theorem dX5_shortest_12 : decode cX5_shortest 12 = .ok (.istore 4, 2) := by decide +kernel
theorem dX5_shortest_14 : decode cX5_shortest 14 = .ok (.iload 4, 2) := by decide +kernel
theorem dX5_shortest_16 : decode cX5_shortest 16 = .ok (.bipush 9, 2) := by decide +kernel
theorem dX5_shortest_18 : decode cX5_shortest 18 = .ok (.if_icmp .ge 21, 3) := by decide +kernel
theorem dX5_shortest_21 : decode cX5_shortest 21 = .ok (.iload_n 3, 1) := by decide +kernel
theorem dX5_shortest_22 : decode cX5_shortest 22 = .ok (.aload_n 0, 1) := by decide +kernel
theorem dX5_shortest_23 : decode cX5_shortest 23 = .ok (.getfield 34, 3) := by decide +kernel
theorem dX5_shortest_26 : decode cX5_shortest 26 = .ok (.iload 4, 2) := by decide +kernel
theorem dX5_shortest_28 : decode cX5_shortest 28 = .ok (.iaload, 1) := by decide +kernel
theorem dX5_shortest_29 : decode cX5_shortest 29 = .ok (.invokestatic 66, 3) := by decide +kernel
theorem dX5_shortest_32 : decode cX5_shortest 32 = .ok (.istore_n 3, 1) := by decide +kernel
theorem dX5_shortest_33 : decode cX5_shortest 33 = .ok (.iinc 4 1, 3) := by decide +kernel
theorem dX5_shortest_36 : decode cX5_shortest 36 = .ok (.goto (-22), 3) := by decide +kernel
theorem dX5_shortest_39 : decode cX5_shortest 39 = .ok (.iload_n 3, 1) := by decide +kernel
theorem dX5_shortest_40 : decode cX5_shortest 40 = .ok (.sipush 999, 3) := by decide +kernel
theorem dX5_shortest_43 : decode cX5_shortest 43 = .ok (.if_icmp .ne 7, 3) := by decide +kernel
theorem dX5_shortest_46 : decode cX5_shortest 46 = .ok (.iconst (-1), 1) := by decide +kernel
theorem dX5_shortest_47 : decode cX5_shortest 47 = .ok (.goto 4, 3) := by decide +kernel
theorem dX5_shortest_50 : decode cX5_shortest 50 = .ok (.iload_n 3, 1) := by decide +kernel
theorem dX5_shortest_51 : decode cX5_shortest 51 = .ok (.ireturn, 1) := by decide +kernel
set_option maxRecDepth 20000 in
theorem ggX5_way_X5_isIn : GoodIn wsX5_way wsX5_isIn := goodIn_r _ [5] (by decide +kernel) (by decide +kernel)
set_option maxRecDepth 20000 in
theorem gX5_way_X5_isIn : GoodIn wsX5_way (va_wsS RX5 41 yX5_isIn wsX5_isIn) := goodIn_app (goodIn_of _ (by decide +kernel)) ggX5_way_X5_isIn
set_option maxRecDepth 20000 in
theorem ggX5_way_X5_shortest : GoodIn wsX5_way wsX5_shortest := goodIn_r _ [9, 10, 11, 12, 13, 14, 15, 16, 17, 4, 18, 19, 20, 21, 22, 23, 24, 25, 26, 27, 28, 29, 30, 31, 32, 33, 34, 35, 36, 37, 42, 43, 44, 45, 46, 47, 48, 49, 50, 51, 52] (by decide +kernel) (by decide +kernel)
set_option maxRecDepth 20000 in
theorem gX5_way_X5_shortest : GoodIn wsX5_way (wsV RX5 88 RX5 yX5_shortest wsX5_shortest) := goodIn_app (goodIn_of _ (by decide +kernel)) ggX5_way_X5_shortest
set_option maxRecDepth 20000 in
theorem ggX5_way_X5_fail : GoodIn wsX5_way wsX5_fail := goodIn_r _ [41, 1, 42, 43, 44, 45, 46, 47, 48, 49, 50, 51, 52] (by decide +kernel) (by decide +kernel)
set_option maxRecDepth 20000 in
theorem gX5_way_X5_fail : GoodIn wsX5_way (wsV RX5 62 RX5 yX5_fail wsX5_fail) := goodIn_app (goodIn_of _ (by decide +kernel)) ggX5_way_X5_fail
theorem dX5_way_0 : decode cX5_way 0 = .ok (.aload_n 0, 1) := by decide +kernel
theorem dX5_way_1 : decode cX5_way 1 = .ok (.iconst 0, 1) := by decide +kernel
theorem dX5_way_2 : decode cX5_way 2 = .ok (.putfield 37, 3) := by decide +kernel
theorem dX5_way_5 : decode cX5_way 5 = .ok (.iload_n 1, 1) := by decide +kernel
theorem dX5_way_6 : decode cX5_way 6 = .ok (.iconst 0, 1) := by decide +kernel
theorem dX5_way_7 : decode cX5_way 7 = .ok (.bipush 39, 2) := by decide +kernel
theorem dX5_way_9 : decode cX5_way 9 = .ok (.invokestatic 41, 3) := by decide +kernel
theorem dX5_way_12 : decode cX5_way 12 = .ok (.ifCond .eq 12, 3) := by decide +kernel
theorem dX5_way_15 : decode cX5_way 15 = .ok (.aload_n 0, 1) := by decide +kernel
theorem dX5_way_16 : decode cX5_way 16 = .ok (.iload_n 1, 1) := by decide +kernel
theorem dX5_way_17 : decode cX5_way 17 = .ok (.iload_n 2, 1) := by decide +kernel
theorem dX5_way_18 : decode cX5_way 18 = .ok (.invokevirtual 88, 3) := by decide +kernel
theorem dX5_way_21 : decode cX5_way 21 = .ok (.goto 8, 3) := by decide +kernel
theorem dX5_way_24 : decode cX5_way 24 = .ok (.aload_n 0, 1) := by decide +kernel
theorem dX5_way_25 : decode cX5_way 25 = .ok (.iconst 1, 1) := by decide +kernel
theorem dX5_way_26 : decode cX5_way 26 = .ok (.invokevirtual 62, 3) := by decide +kernel
theorem dX5_way_29 : decode cX5_way 29 = .ok (.ireturn, 1) := by decide +kernel
set_option maxRecDepth 20000 in
theorem ggX5_most_X5_shortest : GoodIn wsX5_most wsX5_shortest := goodIn_r _ [5, 6, 7, 8, 9, 10, 11, 12, 13, 4, 14, 15, 16, 17, 18, 19, 20, 21, 22, 23, 24, 25, 26, 27, 28, 29, 30, 31, 32, 33, 34, 35, 36, 37, 38, 39, 40, 41, 42, 43, 44] (by decide +kernel) (by decide +kernel)
set_option maxRecDepth 20000 in
theorem gX5_most_X5_shortest : GoodIn wsX5_most (wsV RX5 88 RX5 yX5_shortest wsX5_shortest) := goodIn_app (goodIn_of _ (by decide +kernel)) ggX5_most_X5_shortest
theorem dX5_most_0 : decode cX5_most 0 = .ok (.bipush 39, 2) := by decide +kernel
theorem dX5_most_2 : decode cX5_most 2 = .ok (.istore_n 2, 1) := by decide +kernel
theorem dX5_most_3 : decode cX5_most 3 = .ok (.iload_n 2, 1) := by decide +kernel
theorem dX5_most_4 : decode cX5_most 4 = .ok (.ifCond .lt 19, 3) := by decide +kernel
theorem dX5_most_7 : decode cX5_most 7 = .ok (.aload_n 0, 1) := by decide +kernel
theorem dX5_most_8 : decode cX5_most 8 = .ok (.iload_n 2, 1) := by decide +kernel
theorem dX5_most_9 : decode cX5_most 9 = .ok (.iload_n 1, 1) := by decide +kernel
theorem dX5_most_10 : decode cX5_most 10 = .ok (.invokevirtual 88, 3) := by decide +kernel
theorem dX5_most_13 : decode cX5_most 13 = .ok (.iconst (-1), 1) := by decide +kernel
theorem dX5_most_14 : decode cX5_most 14 = .ok (.if_icmp .ne 9, 3) := by decide +kernel
theorem dX5_most_17 : decode cX5_most 17 = .ok (.iinc 2 (-1), 3) := by decide +kernel
theorem dX5_most_20 : decode cX5_most 20 = .ok (.goto (-17), 3) := by decide +kernel
theorem dX5_most_23 : decode cX5_most 23 = .ok (.iload_n 2, 1) := by decide +kernel
theorem dX5_most_24 : decode cX5_most 24 = .ok (.ireturn, 1) := by decide +kernel
set_option maxRecDepth 20000 in
theorem ggX5_deepest_X5_most : GoodIn wsX5_deepest wsX5_most := goodIn_r _ [6, 7, 8, 9, 5, 10, 11, 12, 13, 14, 15, 16, 17, 18, 19, 20, 21, 22, 23, 24, 25, 26, 27, 28, 29, 30, 31, 32, 33, 34, 35, 36, 37, 38, 39, 40, 41, 42, 43, 44, 45, 46, 47, 48, 49] (by decide +kernel) (by decide +kernel)
set_option maxRecDepth 20000 in
theorem gX5_deepest_X5_most : GoodIn wsX5_deepest (wsV RX5 92 RX5 yX5_most wsX5_most) := goodIn_app (goodIn_of _ (by decide +kernel)) ggX5_deepest_X5_most
theorem dX5_deepest_0 : decode cX5_deepest 0 = .ok (.aload_n 0, 1) := by decide +kernel
theorem dX5_deepest_1 : decode cX5_deepest 1 = .ok (.iconst 0, 1) := by decide +kernel
theorem dX5_deepest_2 : decode cX5_deepest 2 = .ok (.putfield 37, 3) := by decide +kernel
theorem dX5_deepest_5 : decode cX5_deepest 5 = .ok (.aload_n 0, 1) := by decide +kernel
theorem dX5_deepest_6 : decode cX5_deepest 6 = .ok (.iload_n 1, 1) := by decide +kernel
theorem dX5_deepest_7 : decode cX5_deepest 7 = .ok (.invokevirtual 92, 3) := by decide +kernel
theorem dX5_deepest_10 : decode cX5_deepest 10 = .ok (.ireturn, 1) := by decide +kernel
set_option maxRecDepth 20000 in
theorem ggX5_harbours_X5_isIn : GoodIn wsX5_harbours wsX5_isIn := goodIn_r _ [6] (by decide +kernel) (by decide +kernel)
set_option maxRecDepth 20000 in
theorem gX5_harbours_X5_isIn : GoodIn wsX5_harbours (va_wsS RX5 41 yX5_isIn wsX5_isIn) := goodIn_app (goodIn_of _ (by decide +kernel)) ggX5_harbours_X5_isIn
set_option maxRecDepth 20000 in
theorem ggX5_harbours_X5_fail : GoodIn wsX5_harbours wsX5_fail := goodIn_r _ [10, 1, 38, 39, 40, 41, 42, 43, 44, 45, 46, 47, 48] (by decide +kernel) (by decide +kernel)
set_option maxRecDepth 20000 in
theorem gX5_harbours_X5_fail : GoodIn wsX5_harbours (wsV RX5 62 RX5 yX5_fail wsX5_fail) := goodIn_app (goodIn_of _ (by decide +kernel)) ggX5_harbours_X5_fail
set_option maxRecDepth 20000 in
theorem ggX5_harbours_X5_spread : GoodIn wsX5_harbours wsX5_spread := goodIn_r _ [14, 2, 15, 16, 17, 18, 19, 20, 21, 5, 22, 23, 24, 25, 26, 27, 28, 29, 30, 31, 32, 33, 34, 35, 36, 37, 38, 39, 40, 41, 42, 43, 44, 45, 46, 47, 48] (by decide +kernel) (by decide +kernel)
set_option maxRecDepth 20000 in
theorem gX5_harbours_X5_spread : GoodIn wsX5_harbours (wsV RX5 84 RX5 yX5_spread wsX5_spread) := goodIn_app (goodIn_of _ (by decide +kernel)) ggX5_harbours_X5_spread
theorem dX5_harbours_0 : decode cX5_harbours 0 = .ok (.aload_n 0, 1) := by decide +kernel
theorem dX5_harbours_1 : decode cX5_harbours 1 = .ok (.iconst 0, 1) := by decide +kernel
theorem dX5_harbours_2 : decode cX5_harbours 2 = .ok (.putfield 37, 3) := by decide +kernel
theorem dX5_harbours_5 : decode cX5_harbours 5 = .ok (.iload_n 1, 1) := by decide +kernel
theorem dX5_harbours_6 : decode cX5_harbours 6 = .ok (.iconst 0, 1) := by decide +kernel
theorem dX5_harbours_7 : decode cX5_harbours 7 = .ok (.bipush 39, 2) := by decide +kernel
theorem dX5_harbours_9 : decode cX5_harbours 9 = .ok (.invokestatic 41, 3) := by decide +kernel
theorem dX5_harbours_12 : decode cX5_harbours 12 = .ok (.ifCond .ne 9, 3) := by decide +kernel
theorem dX5_harbours_15 : decode cX5_harbours 15 = .ok (.aload_n 0, 1) := by decide +kernel
theorem dX5_harbours_16 : decode cX5_harbours 16 = .ok (.iconst 1, 1) := by decide +kernel
theorem dX5_harbours_17 : decode cX5_harbours 17 = .ok (.invokevirtual 62, 3) := by decide +kernel
theorem dX5_harbours_20 : decode cX5_harbours 20 = .ok (.ireturn, 1) := by decide +kernel
theorem dX5_harbours_21 : decode cX5_harbours 21 = .ok (.aload_n 0, 1) := by decide +kernel
theorem dX5_harbours_22 : decode cX5_harbours 22 = .ok (.iload_n 1, 1) := by decide +kernel
theorem dX5_harbours_23 : decode cX5_harbours 23 = .ok (.iconst 0, 1) := by decide +kernel
theorem dX5_harbours_24 : decode cX5_harbours 24 = .ok (.iconst 0, 1) := by decide +kernel
theorem dX5_harbours_25 : decode cX5_harbours 25 = .ok (.invokevirtual 84, 3) := by decide +kernel
theorem dX5_harbours_28 : decode cX5_harbours 28 = .ok (.iconst 0, 1) := by decide +kernel
theorem dX5_harbours_29 : decode cX5_harbours 29 = .ok (.istore_n 2, 1) := by decide +kernel
theorem dX5_harbours_30 : decode cX5_harbours 30 = .ok (.bipush 72, 2) := by decide +kernel
theorem dX5_harbours_32 : decode cX5_harbours 32 = .ok (.istore_n 3, 1) := by decide +kernel
theorem dX5_harbours_33 : decode cX5_harbours 33 = .ok (.iload_n 3, 1) := by decide +kernel
theorem dX5_harbours_34 : decode cX5_harbours 34 = .ok (.bipush 81, 2) := by decide +kernel
theorem dX5_harbours_36 : decode cX5_harbours 36 = .ok (.if_icmp .ge 29, 3) := by decide +kernel
theorem dX5_harbours_39 : decode cX5_harbours 39 = .ok (.iload_n 2, 1) := by decide +kernel
theorem dX5_harbours_40 : decode cX5_harbours 40 = .ok (.aload_n 0, 1) := by decide +kernel
theorem dX5_harbours_41 : decode cX5_harbours 41 = .ok (.getfield 34, 3) := by decide +kernel
theorem dX5_harbours_44 : decode cX5_harbours 44 = .ok (.iload_n 3, 1) := by decide +kernel
theorem dX5_harbours_45 : decode cX5_harbours 45 = .ok (.iaload, 1) := by decide +kernel
theorem dX5_harbours_46 : decode cX5_harbours 46 = .ok (.sipush 999, 3) := by decide +kernel
theorem dX5_harbours_49 : decode cX5_harbours 49 = .ok (.if_icmp .ge 7, 3) := by decide +kernel
theorem dX5_harbours_52 : decode cX5_harbours 52 = .ok (.iconst 1, 1) := by decide +kernel
theorem dX5_harbours_53 : decode cX5_harbours 53 = .ok (.goto 4, 3) := by decide +kernel
theorem dX5_harbours_56 : decode cX5_harbours 56 = .ok (.iconst 0, 1) := by decide +kernel
theorem dX5_harbours_57 : decode cX5_harbours 57 = .ok (.iadd, 1) := by decide +kernel
theorem dX5_harbours_58 : decode cX5_harbours 58 = .ok (.istore_n 2, 1) := by decide +kernel
theorem dX5_harbours_59 : decode cX5_harbours 59 = .ok (.iinc 3 1, 3) := by decide +kernel
theorem dX5_harbours_62 : decode cX5_harbours 62 = .ok (.goto (-29), 3) := by decide +kernel
theorem dX5_harbours_65 : decode cX5_harbours 65 = .ok (.iload_n 2, 1) := by decide +kernel
theorem dX5_harbours_66 : decode cX5_harbours 66 = .ok (.ireturn, 1) := by decide +kernel
set_option maxRecDepth 20000 in
theorem ggX5_pilot_X5_isIn : GoodIn wsX5_pilot wsX5_isIn := goodIn_r _ [6] (by decide +kernel) (by decide +kernel)
set_option maxRecDepth 20000 in
theorem gX5_pilot_X5_isIn : GoodIn wsX5_pilot (va_wsS RX5 41 yX5_isIn wsX5_isIn) := goodIn_app (goodIn_of _ (by decide +kernel)) ggX5_pilot_X5_isIn
set_option maxRecDepth 20000 in
theorem ggX5_pilot_X5_fail : GoodIn wsX5_pilot wsX5_fail := goodIn_r _ [10, 1, 42, 43, 44, 45, 46, 47, 48, 49, 50, 51, 52] (by decide +kernel) (by decide +kernel)
set_option maxRecDepth 20000 in
theorem gX5_pilot_X5_fail : GoodIn wsX5_pilot (wsV RX5 62 RX5 yX5_fail wsX5_fail) := goodIn_app (goodIn_of _ (by decide +kernel)) ggX5_pilot_X5_fail
set_option maxRecDepth 20000 in
theorem ggX5_pilot_X5_shortest : GoodIn wsX5_pilot wsX5_shortest := goodIn_r _ [14, 2, 15, 16, 17, 18, 19, 20, 21, 5, 22, 23, 24, 25, 26, 27, 28, 29, 30, 31, 32, 33, 34, 35, 36, 37, 38, 39, 40, 41, 42, 43, 44, 45, 46, 47, 48, 49, 50, 51, 52] (by decide +kernel) (by decide +kernel)
set_option maxRecDepth 20000 in
theorem gX5_pilot_X5_shortest : GoodIn wsX5_pilot (wsV RX5 88 RX5 yX5_shortest wsX5_shortest) := goodIn_app (goodIn_of _ (by decide +kernel)) ggX5_pilot_X5_shortest
set_option maxRecDepth 20000 in
theorem ggX5_pilot_X5_depth : GoodIn wsX5_pilot wsX5_depth := goodIn_r _ [36, 37, 38, 30, 31, 17, 32, 42, 43, 44, 45, 46, 47, 48, 49, 50, 51, 52] (by decide +kernel) (by decide +kernel)
set_option maxRecDepth 20000 in
theorem gX5_pilot_X5_depth : GoodIn wsX5_pilot (wsV RX5 72 RX5 yX5_depth wsX5_depth) := goodIn_app (goodIn_of _ (by decide +kernel)) ggX5_pilot_X5_depth
set_option maxRecDepth 20000 in
theorem ggX5_pilot_X5_beside : GoodIn wsX5_pilot wsX5_beside := goodIn_r _ [41] (by decide +kernel) (by decide +kernel)
set_option maxRecDepth 20000 in
theorem gX5_pilot_X5_beside : GoodIn wsX5_pilot (va_wsS RX5 51 yX5_beside wsX5_beside) := goodIn_app (goodIn_of _ (by decide +kernel)) ggX5_pilot_X5_beside
theorem dX5_pilot_0 : decode cX5_pilot 0 = .ok (.aload_n 0, 1) := by decide +kernel
theorem dX5_pilot_1 : decode cX5_pilot 1 = .ok (.iconst 0, 1) := by decide +kernel
theorem dX5_pilot_2 : decode cX5_pilot 2 = .ok (.putfield 37, 3) := by decide +kernel
theorem dX5_pilot_5 : decode cX5_pilot 5 = .ok (.iload_n 1, 1) := by decide +kernel
theorem dX5_pilot_6 : decode cX5_pilot 6 = .ok (.iconst 0, 1) := by decide +kernel
theorem dX5_pilot_7 : decode cX5_pilot 7 = .ok (.bipush 39, 2) := by decide +kernel
theorem dX5_pilot_9 : decode cX5_pilot 9 = .ok (.invokestatic 41, 3) := by decide +kernel
theorem dX5_pilot_12 : decode cX5_pilot 12 = .ok (.ifCond .ne 9, 3) := by decide +kernel
theorem dX5_pilot_15 : decode cX5_pilot 15 = .ok (.aload_n 0, 1) := by decide +kernel
theorem dX5_pilot_16 : decode cX5_pilot 16 = .ok (.iconst 1, 1) := by decide +kernel
theorem dX5_pilot_17 : decode cX5_pilot 17 = .ok (.invokevirtual 62, 3) := by decide +kernel
theorem dX5_pilot_20 : decode cX5_pilot 20 = .ok (.ireturn, 1) := by decide +kernel
theorem dX5_pilot_21 : decode cX5_pilot 21 = .ok (.aload_n 0, 1) := by decide +kernel
theorem dX5_pilot_22 : decode cX5_pilot 22 = .ok (.iload_n 1, 1) := by decide +kernel
theorem dX5_pilot_23 : decode cX5_pilot 23 = .ok (.iconst 1, 1) := by decide +kernel
theorem dX5_pilot_24 : decode cX5_pilot 24 = .ok (.invokevirtual 88, 3) := by decide +kernel
theorem dX5_pilot_27 : decode cX5_pilot 27 = .ok (.istore_n 2, 1) := by decide +kernel
theorem dX5_pilot_28 : decode cX5_pilot 28 = .ok (.iload_n 2, 1) := by decide +kernel
theorem dX5_pilot_29 : decode cX5_pilot 29 = .ok (.iconst (-1), 1) := by decide +kernel
theorem dX5_pilot_30 : decode cX5_pilot 30 = .ok (.if_icmp .ne 5, 3) := by decide +kernel
theorem dX5_pilot_33 : decode cX5_pilot 33 = .ok (.iconst (-1), 1) := by decide +kernel
theorem dX5_pilot_34 : decode cX5_pilot 34 = .ok (.ireturn, 1) := by decide +kernel
theorem dX5_pilot_35 : decode cX5_pilot 35 = .ok (.iconst 0, 1) := by decide +kernel
theorem dX5_pilot_36 : decode cX5_pilot 36 = .ok (.istore_n 3, 1) := by decide +kernel
theorem dX5_pilot_37 : decode cX5_pilot 37 = .ok (.aload_n 0, 1) := by decide +kernel
theorem dX5_pilot_38 : decode cX5_pilot 38 = .ok (.getfield 34, 3) := by decide +kernel
theorem dX5_pilot_41 : decode cX5_pilot 41 = .ok (.iload_n 3, 1) := by decide +kernel
theorem dX5_pilot_42 : decode cX5_pilot 42 = .ok (.iaload, 1) := by decide +kernel
theorem dX5_pilot_43 : decode cX5_pilot 43 = .ok (.iload_n 2, 1) := by decide +kernel
theorem dX5_pilot_44 : decode cX5_pilot 44 = .ok (.if_icmp .eq 9, 3) := by decide +kernel
theorem dX5_pilot_47 : decode cX5_pilot 47 = .ok (.iinc 3 1, 3) := by decide +kernel
theorem dX5_pilot_50 : decode cX5_pilot 50 = .ok (.goto (-13), 3) := by decide +kernel
theorem dX5_pilot_53 : decode cX5_pilot 53 = .ok (.aload_n 0, 1) := by decide +kernel
theorem dX5_pilot_54 : decode cX5_pilot 54 = .ok (.iload_n 3, 1) := by decide +kernel
theorem dX5_pilot_55 : decode cX5_pilot 55 = .ok (.invokevirtual 72, 3) := by decide +kernel
theorem dX5_pilot_58 : decode cX5_pilot 58 = .ok (.iload_n 1, 1) := by decide +kernel
theorem dX5_pilot_59 : decode cX5_pilot 59 = .ok (.if_icmp .le 76, 3) := by decide +kernel
theorem dX5_pilot_62 : decode cX5_pilot 62 = .ok (.iinc 2 (-1), 3) := by decide +kernel
theorem dX5_pilot_65 : decode cX5_pilot 65 = .ok (.iload_n 2, 1) := by decide +kernel
theorem dX5_pilot_66 : decode cX5_pilot 66 = .ok (.ifCond .ne 6, 3) := by decide +kernel
theorem dX5_pilot_69 : decode cX5_pilot 69 = .ok (.bipush 81, 2) := by decide +kernel
theorem dX5_pilot_71 : decode cX5_pilot 71 = .ok (.ireturn, 1) := by decide +kernel
theorem dX5_pilot_72 : decode cX5_pilot 72 = .ok (.iconst (-1), 1) := by decide +kernel
theorem dX5_pilot_73 : decode cX5_pilot 73 = .ok (.istore 4, 2) := by decide +kernel
theorem dX5_pilot_75 : decode cX5_pilot 75 = .ok (.iconst 0, 1) := by decide +kernel
theorem dX5_pilot_76 : decode cX5_pilot 76 = .ok (.istore 5, 2) := by decide +kernel
theorem dX5_pilot_78 : decode cX5_pilot 78 = .ok (.iload 5, 2) := by decide +kernel
theorem dX5_pilot_80 : decode cX5_pilot 80 = .ok (.iconst 4, 1) := by decide +kernel
theorem dX5_pilot_81 : decode cX5_pilot 81 = .ok (.if_icmp .ge 48, 3) := by decide +kernel
theorem dX5_pilot_84 : decode cX5_pilot 84 = .ok (.iload 4, 2) := by decide +kernel
theorem dX5_pilot_86 : decode cX5_pilot 86 = .ok (.iconst (-1), 1) := by decide +kernel
theorem dX5_pilot_87 : decode cX5_pilot 87 = .ok (.if_icmp .ne 42, 3) := by decide +kernel
theorem dX5_pilot_90 : decode cX5_pilot 90 = .ok (.iload_n 3, 1) := by decide +kernel
theorem dX5_pilot_91 : decode cX5_pilot 91 = .ok (.iload 5, 2) := by decide +kernel
theorem dX5_pilot_93 : decode cX5_pilot 93 = .ok (.invokestatic 51, 3) := by decide +kernel
theorem dX5_pilot_96 : decode cX5_pilot 96 = .ok (.iconst (-1), 1) := by decide +kernel
theorem dX5_pilot_97 : decode cX5_pilot 97 = .ok (.if_icmp .eq 26, 3) := by decide +kernel
theorem dX5_pilot_100 : decode cX5_pilot 100 = .ok (.aload_n 0, 1) := by decide +kernel
theorem dX5_pilot_101 : decode cX5_pilot 101 = .ok (.getfield 34, 3) := by decide +kernel
theorem dX5_pilot_104 : decode cX5_pilot 104 = .ok (.iload_n 3, 1) := by decide +kernel
theorem dX5_pilot_105 : decode cX5_pilot 105 = .ok (.iload 5, 2) := by decide +kernel
theorem dX5_pilot_107 : decode cX5_pilot 107 = .ok (.invokestatic 51, 3) := by decide +kernel
theorem dX5_pilot_110 : decode cX5_pilot 110 = .ok (.iaload, 1) := by decide +kernel
theorem dX5_pilot_111 : decode cX5_pilot 111 = .ok (.iload_n 2, 1) := by decide +kernel
theorem dX5_pilot_112 : decode cX5_pilot 112 = .ok (.if_icmp .ne 11, 3) := by decide +kernel
theorem dX5_pilot_115 : decode cX5_pilot 115 = .ok (.iload_n 3, 1) := by decide +kernel
theorem dX5_pilot_116 : decode cX5_pilot 116 = .ok (.iload 5, 2) := by decide +kernel
theorem dX5_pilot_118 : decode cX5_pilot 118 = .ok (.invokestatic 51, 3) := by decide +kernel
theorem dX5_pilot_121 : decode cX5_pilot 121 = .ok (.istore 4, 2) := by decide +kernel
theorem dX5_pilot_123 : decode cX5_pilot 123 = .ok (.iinc 5 1, 3) := by decide +kernel
theorem dX5_pilot_126 : decode cX5_pilot 126 = .ok (.goto (-48), 3) := by decide +kernel
theorem dX5_pilot_129 : decode cX5_pilot 129 = .ok (.iload 4, 2) := by decide +kernel
theorem dX5_pilot_131 : decode cX5_pilot 131 = .ok (.istore_n 3, 1) := by decide +kernel
theorem dX5_pilot_132 : decode cX5_pilot 132 = .ok (.goto (-79), 3) := by decide +kernel
theorem dX5_pilot_135 : decode cX5_pilot 135 = .ok (.iload_n 3, 1) := by decide +kernel
theorem dX5_pilot_136 : decode cX5_pilot 136 = .ok (.ireturn, 1) := by decide +kernel
set_option maxRecDepth 20000 in
theorem ggX5_grow_X5_depth : GoodIn wsX5_grow wsX5_depth := goodIn_r _ [19, 3, 2, 8, 9, 6, 10, 34, 35, 36, 37, 38, 39, 40, 41, 42, 43, 44] (by decide +kernel) (by decide +kernel)
set_option maxRecDepth 20000 in
theorem gX5_grow_X5_depth : GoodIn wsX5_grow (wsV RX5 72 RX5 yX5_depth wsX5_depth) := goodIn_app (goodIn_of _ (by decide +kernel)) ggX5_grow_X5_depth
set_option maxRecDepth 20000 in
theorem ggX5_grow_X5_isIn : GoodIn wsX5_grow wsX5_isIn := goodIn_r _ [22] (by decide +kernel) (by decide +kernel)
set_option maxRecDepth 20000 in
theorem gX5_grow_X5_isIn : GoodIn wsX5_grow (va_wsS RX5 41 yX5_isIn wsX5_isIn) := goodIn_app (goodIn_of _ (by decide +kernel)) ggX5_grow_X5_isIn
set_option maxRecDepth 20000 in
theorem ggX5_grow_X5_headsBeside : GoodIn wsX5_grow wsX5_headsBeside := goodIn_r _ [26, 27, 28, 18, 29, 30, 31, 32, 33, 2, 34, 35, 36, 37, 38, 39, 40, 41, 42, 43, 44] (by decide +kernel) (by decide +kernel)
set_option maxRecDepth 20000 in
theorem gX5_grow_X5_headsBeside : GoodIn wsX5_grow (wsV RX5 96 RX5 yX5_headsBeside wsX5_headsBeside) := goodIn_app (goodIn_of _ (by decide +kernel)) ggX5_grow_X5_headsBeside
theorem dX5_grow_0 : decode cX5_grow 0 = .ok (.iconst 0, 1) := by decide +kernel
theorem dX5_grow_1 : decode cX5_grow 1 = .ok (.istore_n 2, 1) := by decide +kernel
theorem dX5_grow_2 : decode cX5_grow 2 = .ok (.iload_n 2, 1) := by decide +kernel
theorem dX5_grow_3 : decode cX5_grow 3 = .ok (.bipush 81, 2) := by decide +kernel
theorem dX5_grow_5 : decode cX5_grow 5 = .ok (.if_icmp .ge 127, 3) := by decide +kernel
theorem dX5_grow_8 : decode cX5_grow 8 = .ok (.aload_n 0, 1) := by decide +kernel
theorem dX5_grow_9 : decode cX5_grow 9 = .ok (.getfield 28, 3) := by decide +kernel
theorem dX5_grow_12 : decode cX5_grow 12 = .ok (.iload_n 2, 1) := by decide +kernel
theorem dX5_grow_13 : decode cX5_grow 13 = .ok (.aload_n 0, 1) := by decide +kernel
theorem dX5_grow_14 : decode cX5_grow 14 = .ok (.getfield 13, 3) := by decide +kernel
theorem dX5_grow_17 : decode cX5_grow 17 = .ok (.iload_n 2, 1) := by decide +kernel
theorem dX5_grow_18 : decode cX5_grow 18 = .ok (.iaload, 1) := by decide +kernel
theorem dX5_grow_19 : decode cX5_grow 19 = .ok (.iastore, 1) := by decide +kernel
theorem dX5_grow_20 : decode cX5_grow 20 = .ok (.iload_n 1, 1) := by decide +kernel
theorem dX5_grow_21 : decode cX5_grow 21 = .ok (.iconst 3, 1) := by decide +kernel
theorem dX5_grow_22 : decode cX5_grow 22 = .ok (.if_icmp .lt 36, 3) := by decide +kernel
theorem dX5_grow_25 : decode cX5_grow 25 = .ok (.iload_n 1, 1) := by decide +kernel
theorem dX5_grow_26 : decode cX5_grow 26 = .ok (.bipush 7, 2) := by decide +kernel
theorem dX5_grow_28 : decode cX5_grow 28 = .ok (.if_icmp .gt 30, 3) := by decide +kernel
theorem dX5_grow_31 : decode cX5_grow 31 = .ok (.aload_n 0, 1) := by decide +kernel
theorem dX5_grow_32 : decode cX5_grow 32 = .ok (.getfield 13, 3) := by decide +kernel
theorem dX5_grow_35 : decode cX5_grow 35 = .ok (.iload_n 2, 1) := by decide +kernel
theorem dX5_grow_36 : decode cX5_grow 36 = .ok (.iaload, 1) := by decide +kernel
theorem dX5_grow_37 : decode cX5_grow 37 = .ok (.ifCond .le 21, 3) := by decide +kernel
theorem dX5_grow_40 : decode cX5_grow 40 = .ok (.aload_n 0, 1) := by decide +kernel
theorem dX5_grow_41 : decode cX5_grow 41 = .ok (.iload_n 2, 1) := by decide +kernel
theorem dX5_grow_42 : decode cX5_grow 42 = .ok (.invokevirtual 72, 3) := by decide +kernel
theorem dX5_grow_45 : decode cX5_grow 45 = .ok (.iconst 2, 1) := by decide +kernel
theorem dX5_grow_46 : decode cX5_grow 46 = .ok (.bipush 15, 2) := by decide +kernel
theorem dX5_grow_48 : decode cX5_grow 48 = .ok (.invokestatic 41, 3) := by decide +kernel
theorem dX5_grow_51 : decode cX5_grow 51 = .ok (.ifCond .eq 7, 3) := by decide +kernel
theorem dX5_grow_54 : decode cX5_grow 54 = .ok (.iconst 1, 1) := by decide +kernel
theorem dX5_grow_55 : decode cX5_grow 55 = .ok (.goto 4, 3) := by decide +kernel
theorem dX5_grow_58 : decode cX5_grow 58 = .ok (.iconst 0, 1) := by decide +kernel
theorem dX5_grow_59 : decode cX5_grow 59 = .ok (.istore_n 3, 1) := by decide +kernel
theorem dX5_grow_60 : decode cX5_grow 60 = .ok (.iload_n 3, 1) := by decide +kernel
theorem dX5_grow_61 : decode cX5_grow 61 = .ok (.ifCond .eq 41, 3) := by decide +kernel
theorem dX5_grow_64 : decode cX5_grow 64 = .ok (.aload_n 0, 1) := by decide +kernel
theorem dX5_grow_65 : decode cX5_grow 65 = .ok (.getfield 28, 3) := by decide +kernel
theorem dX5_grow_68 : decode cX5_grow 68 = .ok (.iload_n 2, 1) := by decide +kernel
theorem dX5_grow_69 : decode cX5_grow 69 = .ok (.aload_n 0, 1) := by decide +kernel
theorem dX5_grow_70 : decode cX5_grow 70 = .ok (.getfield 9, 3) := by decide +kernel
theorem dX5_grow_73 : decode cX5_grow 73 = .ok (.iload_n 2, 1) := by decide +kernel
theorem dX5_grow_74 : decode cX5_grow 74 = .ok (.iaload, 1) := by decide +kernel
theorem dX5_grow_75 : decode cX5_grow 75 = .ok (.iconst 1, 1) := by decide +kernel
theorem dX5_grow_76 : decode cX5_grow 76 = .ok (.isub, 1) := by decide +kernel
theorem dX5_grow_77 : decode cX5_grow 77 = .ok (.aload_n 0, 1) := by decide +kernel
theorem dX5_grow_78 : decode cX5_grow 78 = .ok (.getfield 13, 3) := by decide +kernel
theorem dX5_grow_81 : decode cX5_grow 81 = .ok (.iload_n 2, 1) := by decide +kernel
theorem dX5_grow_82 : decode cX5_grow 82 = .ok (.iaload, 1) := by decide +kernel
theorem dX5_grow_83 : decode cX5_grow 83 = .ok (.aload_n 0, 1) := by decide +kernel
theorem dX5_grow_84 : decode cX5_grow 84 = .ok (.iload_n 2, 1) := by decide +kernel
theorem dX5_grow_85 : decode cX5_grow 85 = .ok (.invokevirtual 96, 3) := by decide +kernel
theorem dX5_grow_88 : decode cX5_grow 88 = .ok (.iconst 1, 1) := by decide +kernel
theorem dX5_grow_89 : decode cX5_grow 89 = .ok (.if_icmp .le 7, 3) := by decide +kernel
theorem dX5_grow_92 : decode cX5_grow 92 = .ok (.iconst 2, 1) := by decide +kernel
theorem dX5_grow_93 : decode cX5_grow 93 = .ok (.goto 4, 3) := by decide +kernel
theorem dX5_grow_96 : decode cX5_grow 96 = .ok (.iconst 1, 1) := by decide +kernel
theorem dX5_grow_97 : decode cX5_grow 97 = .ok (.iadd, 1) := by decide +kernel
theorem dX5_grow_98 : decode cX5_grow 98 = .ok (.invokestatic 66, 3) := by decide +kernel
theorem dX5_grow_101 : decode cX5_grow 101 = .ok (.iastore, 1) := by decide +kernel
theorem dX5_grow_102 : decode cX5_grow 102 = .ok (.iload_n 1, 1) := by decide +kernel
theorem dX5_grow_103 : decode cX5_grow 103 = .ok (.bipush 7, 2) := by decide +kernel
theorem dX5_grow_105 : decode cX5_grow 105 = .ok (.if_icmp .le 21, 3) := by decide +kernel
theorem dX5_grow_108 : decode cX5_grow 108 = .ok (.aload_n 0, 1) := by decide +kernel
theorem dX5_grow_109 : decode cX5_grow 109 = .ok (.getfield 28, 3) := by decide +kernel
theorem dX5_grow_112 : decode cX5_grow 112 = .ok (.iload_n 2, 1) := by decide +kernel
theorem dX5_grow_113 : decode cX5_grow 113 = .ok (.iconst 0, 1) := by decide +kernel
theorem dX5_grow_114 : decode cX5_grow 114 = .ok (.aload_n 0, 1) := by decide +kernel
theorem dX5_grow_115 : decode cX5_grow 115 = .ok (.getfield 13, 3) := by decide +kernel
theorem dX5_grow_118 : decode cX5_grow 118 = .ok (.iload_n 2, 1) := by decide +kernel
theorem dX5_grow_119 : decode cX5_grow 119 = .ok (.iaload, 1) := by decide +kernel
theorem dX5_grow_120 : decode cX5_grow 120 = .ok (.iconst 1, 1) := by decide +kernel
theorem dX5_grow_121 : decode cX5_grow 121 = .ok (.isub, 1) := by decide +kernel
theorem dX5_grow_122 : decode cX5_grow 122 = .ok (.invokestatic 45, 3) := by decide +kernel
theorem dX5_grow_125 : decode cX5_grow 125 = .ok (.iastore, 1) := by decide +kernel
theorem dX5_grow_126 : decode cX5_grow 126 = .ok (.iinc 2 1, 3) := by decide +kernel
theorem dX5_grow_129 : decode cX5_grow 129 = .ok (.goto (-127), 3) := by decide +kernel
theorem dX5_grow_132 : decode cX5_grow 132 = .ok (.aload_n 0, 1) := by decide +kernel
theorem dX5_grow_133 : decode cX5_grow 133 = .ok (.getfield 28, 3) := by decide +kernel
theorem dX5_grow_136 : decode cX5_grow 136 = .ok (.iconst 0, 1) := by decide +kernel
theorem dX5_grow_137 : decode cX5_grow 137 = .ok (.aload_n 0, 1) := by decide +kernel
theorem dX5_grow_138 : decode cX5_grow 138 = .ok (.getfield 13, 3) := by decide +kernel
theorem dX5_grow_141 : decode cX5_grow 141 = .ok (.iconst 0, 1) := by decide +kernel
theorem dX5_grow_142 : decode cX5_grow 142 = .ok (.bipush 81, 2) := by decide +kernel
theorem dX5_grow_144 : decode cX5_grow 144 = .ok (.invokestatic 99, 3) := by decide +kernel
theorem dX5_grow_147 : decode cX5_grow 147 = .ok (.iconst 0, 1) := by decide +kernel
theorem dX5_grow_148 : decode cX5_grow 148 = .ok (.istore_n 2, 1) := by decide +kernel
theorem dX5_grow_149 : decode cX5_grow 149 = .ok (.iload_n 2, 1) := by decide +kernel
theorem dX5_grow_150 : decode cX5_grow 150 = .ok (.bipush 81, 2) := by decide +kernel
theorem dX5_grow_152 : decode cX5_grow 152 = .ok (.if_icmp .ge 57, 3) := by decide +kernel
theorem dX5_grow_155 : decode cX5_grow 155 = .ok (.aload_n 0, 1) := by decide +kernel
theorem dX5_grow_156 : decode cX5_grow 156 = .ok (.getfield 28, 3) := by decide +kernel
theorem dX5_grow_159 : decode cX5_grow 159 = .ok (.iload_n 2, 1) := by decide +kernel
theorem dX5_grow_160 : decode cX5_grow 160 = .ok (.aload_n 0, 1) := by decide +kernel
theorem dX5_grow_161 : decode cX5_grow 161 = .ok (.getfield 13, 3) := by decide +kernel
theorem dX5_grow_164 : decode cX5_grow 164 = .ok (.iload_n 2, 1) := by decide +kernel
theorem dX5_grow_165 : decode cX5_grow 165 = .ok (.iaload, 1) := by decide +kernel
theorem dX5_grow_166 : decode cX5_grow 166 = .ok (.ifCond .ne 30, 3) := by decide +kernel
theorem dX5_grow_169 : decode cX5_grow 169 = .ok (.aload_n 0, 1) := by decide +kernel
theorem dX5_grow_170 : decode cX5_grow 170 = .ok (.getfield 9, 3) := by decide +kernel
theorem dX5_grow_173 : decode cX5_grow 173 = .ok (.iload_n 2, 1) := by decide +kernel
theorem dX5_grow_174 : decode cX5_grow 174 = .ok (.iaload, 1) := by decide +kernel
theorem dX5_grow_175 : decode cX5_grow 175 = .ok (.iconst 3, 1) := by decide +kernel
theorem dX5_grow_176 : decode cX5_grow 176 = .ok (.bipush 15, 2) := by decide +kernel
theorem dX5_grow_178 : decode cX5_grow 178 = .ok (.invokestatic 41, 3) := by decide +kernel
theorem dX5_grow_181 : decode cX5_grow 181 = .ok (.ifCond .eq 15, 3) := by decide +kernel
theorem dX5_grow_184 : decode cX5_grow 184 = .ok (.aload_n 0, 1) := by decide +kernel
theorem dX5_grow_185 : decode cX5_grow 185 = .ok (.iload_n 2, 1) := by decide +kernel
theorem dX5_grow_186 : decode cX5_grow 186 = .ok (.invokevirtual 96, 3) := by decide +kernel
theorem dX5_grow_189 : decode cX5_grow 189 = .ok (.ifCond .le 7, 3) := by decide +kernel
theorem dX5_grow_192 : decode cX5_grow 192 = .ok (.iconst 1, 1) := by decide +kernel
theorem dX5_grow_193 : decode cX5_grow 193 = .ok (.goto 9, 3) := by decide +kernel
theorem dX5_grow_196 : decode cX5_grow 196 = .ok (.aload_n 0, 1) := by decide +kernel
theorem dX5_grow_197 : decode cX5_grow 197 = .ok (.getfield 13, 3) := by decide +kernel
theorem dX5_grow_200 : decode cX5_grow 200 = .ok (.iload_n 2, 1) := by decide +kernel
theorem dX5_grow_201 : decode cX5_grow 201 = .ok (.iaload, 1) := by decide +kernel
theorem dX5_grow_202 : decode cX5_grow 202 = .ok (.iastore, 1) := by decide +kernel
theorem dX5_grow_203 : decode cX5_grow 203 = .ok (.iinc 2 1, 3) := by decide +kernel
theorem dX5_grow_206 : decode cX5_grow 206 = .ok (.goto (-57), 3) := by decide +kernel
theorem dX5_grow_209 : decode cX5_grow 209 = .ok (.aload_n 0, 1) := by decide +kernel
theorem dX5_grow_210 : decode cX5_grow 210 = .ok (.getfield 28, 3) := by decide +kernel
theorem dX5_grow_213 : decode cX5_grow 213 = .ok (.iconst 0, 1) := by decide +kernel
theorem dX5_grow_214 : decode cX5_grow 214 = .ok (.aload_n 0, 1) := by decide +kernel
theorem dX5_grow_215 : decode cX5_grow 215 = .ok (.getfield 13, 3) := by decide +kernel
theorem dX5_grow_218 : decode cX5_grow 218 = .ok (.iconst 0, 1) := by decide +kernel
theorem dX5_grow_219 : decode cX5_grow 219 = .ok (.bipush 81, 2) := by decide +kernel
theorem dX5_grow_221 : decode cX5_grow 221 = .ok (.invokestatic 99, 3) := by decide +kernel
theorem dX5_grow_224 : decode cX5_grow 224 = .ok (.return_, 1) := by decide +kernel
set_option maxRecDepth 20000 in
theorem ggX5_blow_X5_depth : GoodIn wsX5_blow wsX5_depth := goodIn_r _ [14, 6, 1, 7, 8, 4, 9, 18, 19, 20, 21, 22, 23, 24, 25, 26, 27, 28] (by decide +kernel) (by decide +kernel)
set_option maxRecDepth 20000 in
theorem gX5_blow_X5_depth : GoodIn wsX5_blow (wsV RX5 72 RX5 yX5_depth wsX5_depth) := goodIn_app (goodIn_of _ (by decide +kernel)) ggX5_blow_X5_depth
set_option maxRecDepth 20000 in
theorem ggX5_blow_X5_beside : GoodIn wsX5_blow wsX5_beside := goodIn_r _ [17] (by decide +kernel) (by decide +kernel)
set_option maxRecDepth 20000 in
theorem gX5_blow_X5_beside : GoodIn wsX5_blow (va_wsS RX5 51 yX5_beside wsX5_beside) := goodIn_app (goodIn_of _ (by decide +kernel)) ggX5_blow_X5_beside
theorem dX5_blow_0 : decode cX5_blow 0 = .ok (.iconst 0, 1) := by decide +kernel
theorem dX5_blow_1 : decode cX5_blow 1 = .ok (.istore_n 2, 1) := by decide +kernel
theorem dX5_blow_2 : decode cX5_blow 2 = .ok (.iload_n 2, 1) := by decide +kernel
theorem dX5_blow_3 : decode cX5_blow 3 = .ok (.bipush 81, 2) := by decide +kernel
theorem dX5_blow_5 : decode cX5_blow 5 = .ok (.if_icmp .ge 94, 3) := by decide +kernel
theorem dX5_blow_8 : decode cX5_blow 8 = .ok (.aload_n 0, 1) := by decide +kernel
theorem dX5_blow_9 : decode cX5_blow 9 = .ok (.getfield 13, 3) := by decide +kernel
theorem dX5_blow_12 : decode cX5_blow 12 = .ok (.iload_n 2, 1) := by decide +kernel
theorem dX5_blow_13 : decode cX5_blow 13 = .ok (.iaload, 1) := by decide +kernel
theorem dX5_blow_14 : decode cX5_blow 14 = .ok (.ifCond .eq 79, 3) := by decide +kernel
theorem dX5_blow_17 : decode cX5_blow 17 = .ok (.aload_n 0, 1) := by decide +kernel
theorem dX5_blow_18 : decode cX5_blow 18 = .ok (.iload_n 2, 1) := by decide +kernel
theorem dX5_blow_19 : decode cX5_blow 19 = .ok (.invokevirtual 72, 3) := by decide +kernel
theorem dX5_blow_22 : decode cX5_blow 22 = .ok (.iload_n 1, 1) := by decide +kernel
theorem dX5_blow_23 : decode cX5_blow 23 = .ok (.iconst 2, 1) := by decide +kernel
theorem dX5_blow_24 : decode cX5_blow 24 = .ok (.idiv, 1) := by decide +kernel
theorem dX5_blow_25 : decode cX5_blow 25 = .ok (.if_icmp .lt 6, 3) := by decide +kernel
theorem dX5_blow_28 : decode cX5_blow 28 = .ok (.goto 65, 3) := by decide +kernel
theorem dX5_blow_31 : decode cX5_blow 31 = .ok (.aload_n 0, 1) := by decide +kernel
theorem dX5_blow_32 : decode cX5_blow 32 = .ok (.getfield 13, 3) := by decide +kernel
theorem dX5_blow_35 : decode cX5_blow 35 = .ok (.iload_n 2, 1) := by decide +kernel
theorem dX5_blow_36 : decode cX5_blow 36 = .ok (.iaload, 1) := by decide +kernel
theorem dX5_blow_37 : decode cX5_blow 37 = .ok (.iload_n 1, 1) := by decide +kernel
theorem dX5_blow_38 : decode cX5_blow 38 = .ok (.iconst 3, 1) := by decide +kernel
theorem dX5_blow_39 : decode cX5_blow 39 = .ok (.idiv, 1) := by decide +kernel
theorem dX5_blow_40 : decode cX5_blow 40 = .ok (.invokestatic 66, 3) := by decide +kernel
theorem dX5_blow_43 : decode cX5_blow 43 = .ok (.istore_n 3, 1) := by decide +kernel
theorem dX5_blow_44 : decode cX5_blow 44 = .ok (.aload_n 0, 1) := by decide +kernel
theorem dX5_blow_45 : decode cX5_blow 45 = .ok (.getfield 13, 3) := by decide +kernel
theorem dX5_blow_48 : decode cX5_blow 48 = .ok (.iload_n 2, 1) := by decide +kernel
theorem dX5_blow_49 : decode cX5_blow 49 = .ok (.dup2, 1) := by decide +kernel
theorem dX5_blow_50 : decode cX5_blow 50 = .ok (.iaload, 1) := by decide +kernel
theorem dX5_blow_51 : decode cX5_blow 51 = .ok (.iload_n 3, 1) := by decide +kernel
theorem dX5_blow_52 : decode cX5_blow 52 = .ok (.isub, 1) := by decide +kernel
theorem dX5_blow_53 : decode cX5_blow 53 = .ok (.iastore, 1) := by decide +kernel
theorem dX5_blow_54 : decode cX5_blow 54 = .ok (.iload_n 2, 1) := by decide +kernel
theorem dX5_blow_55 : decode cX5_blow 55 = .ok (.iconst 3, 1) := by decide +kernel
theorem dX5_blow_56 : decode cX5_blow 56 = .ok (.invokestatic 51, 3) := by decide +kernel
theorem dX5_blow_59 : decode cX5_blow 59 = .ok (.istore 4, 2) := by decide +kernel
theorem dX5_blow_61 : decode cX5_blow 61 = .ok (.iload 4, 2) := by decide +kernel
theorem dX5_blow_63 : decode cX5_blow 63 = .ok (.iconst (-1), 1) := by decide +kernel
theorem dX5_blow_64 : decode cX5_blow 64 = .ok (.if_icmp .eq 29, 3) := by decide +kernel
theorem dX5_blow_67 : decode cX5_blow 67 = .ok (.aload_n 0, 1) := by decide +kernel
theorem dX5_blow_68 : decode cX5_blow 68 = .ok (.getfield 9, 3) := by decide +kernel
theorem dX5_blow_71 : decode cX5_blow 71 = .ok (.iload 4, 2) := by decide +kernel
theorem dX5_blow_73 : decode cX5_blow 73 = .ok (.aload_n 0, 1) := by decide +kernel
theorem dX5_blow_74 : decode cX5_blow 74 = .ok (.getfield 13, 3) := by decide +kernel
theorem dX5_blow_77 : decode cX5_blow 77 = .ok (.iload 4, 2) := by decide +kernel
theorem dX5_blow_79 : decode cX5_blow 79 = .ok (.iaload, 1) := by decide +kernel
theorem dX5_blow_80 : decode cX5_blow 80 = .ok (.aload_n 0, 1) := by decide +kernel
theorem dX5_blow_81 : decode cX5_blow 81 = .ok (.getfield 9, 3) := by decide +kernel
theorem dX5_blow_84 : decode cX5_blow 84 = .ok (.iload 4, 2) := by decide +kernel
theorem dX5_blow_86 : decode cX5_blow 86 = .ok (.iaload, 1) := by decide +kernel
theorem dX5_blow_87 : decode cX5_blow 87 = .ok (.iload_n 3, 1) := by decide +kernel
theorem dX5_blow_88 : decode cX5_blow 88 = .ok (.isub, 1) := by decide +kernel
theorem dX5_blow_89 : decode cX5_blow 89 = .ok (.invokestatic 45, 3) := by decide +kernel
theorem dX5_blow_92 : decode cX5_blow 92 = .ok (.iastore, 1) := by decide +kernel
theorem dX5_blow_93 : decode cX5_blow 93 = .ok (.iinc 2 1, 3) := by decide +kernel
theorem dX5_blow_96 : decode cX5_blow 96 = .ok (.goto (-94), 3) := by decide +kernel
theorem dX5_blow_99 : decode cX5_blow 99 = .ok (.return_, 1) := by decide +kernel
set_option maxRecDepth 20000 in
theorem ggX5_monthOn_X5_grow : GoodIn wsX5_monthOn wsX5_grow := goodIn_r _ [8, 9, 10, 11, 12, 13, 14, 15, 16, 17, 18, 19, 20, 21, 22, 23, 24, 25, 7, 26, 27, 28, 29, 30, 31, 32, 33, 34, 35, 36, 37, 38, 39, 40, 45, 46, 47, 48, 49, 50, 51, 52, 53, 54, 55] (by decide +kernel) (by decide +kernel)
set_option maxRecDepth 20000 in
theorem gX5_monthOn_X5_grow : GoodIn wsX5_monthOn (wsV RX5 105 RX5 yX5_grow wsX5_grow) := goodIn_app (goodIn_of _ (by decide +kernel)) ggX5_monthOn_X5_grow
set_option maxRecDepth 20000 in
theorem ggX5_monthOn_X5_blow : GoodIn wsX5_monthOn wsX5_blow := goodIn_r _ [44, 10, 12, 13, 14, 15, 11, 16, 17, 18, 23, 24, 25, 7, 26, 34, 35, 36, 45, 46, 47, 48, 49, 50, 51, 52, 53, 54, 55] (by decide +kernel) (by decide +kernel)
set_option maxRecDepth 20000 in
theorem gX5_monthOn_X5_blow : GoodIn wsX5_monthOn (wsV RX5 109 RX5 yX5_blow wsX5_blow) := goodIn_app (goodIn_of _ (by decide +kernel)) ggX5_monthOn_X5_blow
theorem dX5_monthOn_0 : decode cX5_monthOn 0 = .ok (.aload_n 0, 1) := by decide +kernel
theorem dX5_monthOn_1 : decode cX5_monthOn 1 = .ok (.getfield 78, 3) := by decide +kernel
theorem dX5_monthOn_4 : decode cX5_monthOn 4 = .ok (.bipush 12, 2) := by decide +kernel
theorem dX5_monthOn_6 : decode cX5_monthOn 6 = .ok (.irem, 1) := by decide +kernel
theorem dX5_monthOn_7 : decode cX5_monthOn 7 = .ok (.istore_n 1, 1) := by decide +kernel
theorem dX5_monthOn_8 : decode cX5_monthOn 8 = .ok (.aload_n 0, 1) := by decide +kernel
theorem dX5_monthOn_9 : decode cX5_monthOn 9 = .ok (.aload_n 0, 1) := by decide +kernel
theorem dX5_monthOn_10 : decode cX5_monthOn 10 = .ok (.getfield 22, 3) := by decide +kernel
theorem dX5_monthOn_13 : decode cX5_monthOn 13 = .ok (.iload_n 1, 1) := by decide +kernel
theorem dX5_monthOn_14 : decode cX5_monthOn 14 = .ok (.iaload, 1) := by decide +kernel
theorem dX5_monthOn_15 : decode cX5_monthOn 15 = .ok (.invokevirtual 105, 3) := by decide +kernel
theorem dX5_monthOn_18 : decode cX5_monthOn 18 = .ok (.aload_n 0, 1) := by decide +kernel
theorem dX5_monthOn_19 : decode cX5_monthOn 19 = .ok (.aload_n 0, 1) := by decide +kernel
theorem dX5_monthOn_20 : decode cX5_monthOn 20 = .ok (.getfield 25, 3) := by decide +kernel
theorem dX5_monthOn_23 : decode cX5_monthOn 23 = .ok (.iload_n 1, 1) := by decide +kernel
theorem dX5_monthOn_24 : decode cX5_monthOn 24 = .ok (.iaload, 1) := by decide +kernel
theorem dX5_monthOn_25 : decode cX5_monthOn 25 = .ok (.invokevirtual 109, 3) := by decide +kernel
theorem dX5_monthOn_28 : decode cX5_monthOn 28 = .ok (.aload_n 0, 1) := by decide +kernel
theorem dX5_monthOn_29 : decode cX5_monthOn 29 = .ok (.dup, 1) := by decide +kernel
theorem dX5_monthOn_30 : decode cX5_monthOn 30 = .ok (.getfield 78, 3) := by decide +kernel
theorem dX5_monthOn_33 : decode cX5_monthOn 33 = .ok (.iconst 1, 1) := by decide +kernel
theorem dX5_monthOn_34 : decode cX5_monthOn 34 = .ok (.iadd, 1) := by decide +kernel
theorem dX5_monthOn_35 : decode cX5_monthOn 35 = .ok (.putfield 78, 3) := by decide +kernel
theorem dX5_monthOn_38 : decode cX5_monthOn 38 = .ok (.return_, 1) := by decide +kernel
set_option maxRecDepth 20000 in
theorem ggX5_heads_X5_isHead : GoodIn wsX5_heads wsX5_isHead := goodIn_r _ [5, 6, 7, 8, 9, 10, 11, 12, 13, 14, 15, 16, 17] (by decide +kernel) (by decide +kernel)
set_option maxRecDepth 20000 in
theorem gX5_heads_X5_isHead : GoodIn wsX5_heads (wsV RX5 54 RX5 yX5_isHead wsX5_isHead) := goodIn_app (goodIn_of _ (by decide +kernel)) ggX5_heads_X5_isHead
theorem dX5_heads_0 : decode cX5_heads 0 = .ok (.iconst 0, 1) := by decide +kernel
theorem dX5_heads_1 : decode cX5_heads 1 = .ok (.istore_n 1, 1) := by decide +kernel
theorem dX5_heads_2 : decode cX5_heads 2 = .ok (.iconst 0, 1) := by decide +kernel
theorem dX5_heads_3 : decode cX5_heads 3 = .ok (.istore_n 2, 1) := by decide +kernel
theorem dX5_heads_4 : decode cX5_heads 4 = .ok (.iload_n 2, 1) := by decide +kernel
theorem dX5_heads_5 : decode cX5_heads 5 = .ok (.bipush 81, 2) := by decide +kernel
theorem dX5_heads_7 : decode cX5_heads 7 = .ok (.if_icmp .ge 25, 3) := by decide +kernel
theorem dX5_heads_10 : decode cX5_heads 10 = .ok (.iload_n 1, 1) := by decide +kernel
theorem dX5_heads_11 : decode cX5_heads 11 = .ok (.aload_n 0, 1) := by decide +kernel
theorem dX5_heads_12 : decode cX5_heads 12 = .ok (.iload_n 2, 1) := by decide +kernel
theorem dX5_heads_13 : decode cX5_heads 13 = .ok (.invokevirtual 54, 3) := by decide +kernel
theorem dX5_heads_16 : decode cX5_heads 16 = .ok (.ifCond .eq 7, 3) := by decide +kernel
theorem dX5_heads_19 : decode cX5_heads 19 = .ok (.iconst 1, 1) := by decide +kernel
theorem dX5_heads_20 : decode cX5_heads 20 = .ok (.goto 4, 3) := by decide +kernel
theorem dX5_heads_23 : decode cX5_heads 23 = .ok (.iconst 0, 1) := by decide +kernel
theorem dX5_heads_24 : decode cX5_heads 24 = .ok (.iadd, 1) := by decide +kernel
theorem dX5_heads_25 : decode cX5_heads 25 = .ok (.istore_n 1, 1) := by decide +kernel
theorem dX5_heads_26 : decode cX5_heads 26 = .ok (.iinc 2 1, 3) := by decide +kernel
theorem dX5_heads_29 : decode cX5_heads 29 = .ok (.goto (-25), 3) := by decide +kernel
theorem dX5_heads_32 : decode cX5_heads 32 = .ok (.iload_n 1, 1) := by decide +kernel
theorem dX5_heads_33 : decode cX5_heads 33 = .ok (.ireturn, 1) := by decide +kernel
set_option maxRecDepth 20000 in
theorem ggX5_pass_X5_isIn : GoodIn wsX5_pass wsX5_isIn := goodIn_r _ [5] (by decide +kernel) (by decide +kernel)
set_option maxRecDepth 20000 in
theorem gX5_pass_X5_isIn : GoodIn wsX5_pass (va_wsS RX5 41 yX5_isIn wsX5_isIn) := goodIn_app (goodIn_of _ (by decide +kernel)) ggX5_pass_X5_isIn
set_option maxRecDepth 20000 in
theorem ggX5_pass_X5_fail : GoodIn wsX5_pass wsX5_fail := goodIn_r _ [9, 1, 58, 59, 60, 61, 62, 63, 64, 65, 66, 67, 68] (by decide +kernel) (by decide +kernel)
set_option maxRecDepth 20000 in
theorem gX5_pass_X5_fail : GoodIn wsX5_pass (wsV RX5 62 RX5 yX5_fail wsX5_fail) := goodIn_app (goodIn_of _ (by decide +kernel)) ggX5_pass_X5_fail
set_option maxRecDepth 20000 in
theorem ggX5_pass_X5_heads : GoodIn wsX5_pass wsX5_heads := goodIn_r _ [13, 14, 15, 16, 4, 17, 18, 58, 59, 60, 61, 62, 63, 64, 65, 66, 67, 68] (by decide +kernel) (by decide +kernel)
set_option maxRecDepth 20000 in
theorem gX5_pass_X5_heads : GoodIn wsX5_pass (wsV RX5 112 RX5 yX5_heads wsX5_heads) := goodIn_app (goodIn_of _ (by decide +kernel)) ggX5_pass_X5_heads
set_option maxRecDepth 20000 in
theorem ggX5_pass_X5_monthOn : GoodIn wsX5_pass wsX5_monthOn := goodIn_r _ [22, 23, 24, 25, 26, 27, 28, 4, 29, 30, 18, 31, 32, 33, 34, 35, 36, 37, 38, 39, 40, 41, 42, 43, 44, 45, 46, 2, 3, 5, 47, 48, 49, 50, 51, 52, 53, 14, 15, 16, 17, 54, 55, 56, 57, 58, 59, 60, 61, 62, 63, 64, 65, 66, 67, 68] (by decide +kernel) (by decide +kernel)
set_option maxRecDepth 20000 in
theorem gX5_pass_X5_monthOn : GoodIn wsX5_pass (wsV RX5 116 RX5 yX5_monthOn wsX5_monthOn) := goodIn_app (goodIn_of _ (by decide +kernel)) ggX5_pass_X5_monthOn
theorem dX5_pass_0 : decode cX5_pass 0 = .ok (.aload_n 0, 1) := by decide +kernel
theorem dX5_pass_1 : decode cX5_pass 1 = .ok (.iconst 0, 1) := by decide +kernel
theorem dX5_pass_2 : decode cX5_pass 2 = .ok (.putfield 37, 3) := by decide +kernel
theorem dX5_pass_5 : decode cX5_pass 5 = .ok (.iload_n 1, 1) := by decide +kernel
theorem dX5_pass_6 : decode cX5_pass 6 = .ok (.iconst 1, 1) := by decide +kernel
theorem dX5_pass_7 : decode cX5_pass 7 = .ok (.bipush 120, 2) := by decide +kernel
theorem dX5_pass_9 : decode cX5_pass 9 = .ok (.invokestatic 41, 3) := by decide +kernel
theorem dX5_pass_12 : decode cX5_pass 12 = .ok (.ifCond .ne 9, 3) := by decide +kernel
theorem dX5_pass_15 : decode cX5_pass 15 = .ok (.aload_n 0, 1) := by decide +kernel
theorem dX5_pass_16 : decode cX5_pass 16 = .ok (.iconst 1, 1) := by decide +kernel
theorem dX5_pass_17 : decode cX5_pass 17 = .ok (.invokevirtual 62, 3) := by decide +kernel
theorem dX5_pass_20 : decode cX5_pass 20 = .ok (.ireturn, 1) := by decide +kernel
theorem dX5_pass_21 : decode cX5_pass 21 = .ok (.aload_n 0, 1) := by decide +kernel
theorem dX5_pass_22 : decode cX5_pass 22 = .ok (.invokevirtual 112, 3) := by decide +kernel
theorem dX5_pass_25 : decode cX5_pass 25 = .ok (.istore_n 2, 1) := by decide +kernel
theorem dX5_pass_26 : decode cX5_pass 26 = .ok (.iconst 0, 1) := by decide +kernel
theorem dX5_pass_27 : decode cX5_pass 27 = .ok (.istore_n 3, 1) := by decide +kernel
theorem dX5_pass_28 : decode cX5_pass 28 = .ok (.iload_n 3, 1) := by decide +kernel
theorem dX5_pass_29 : decode cX5_pass 29 = .ok (.iload_n 1, 1) := by decide +kernel
theorem dX5_pass_30 : decode cX5_pass 30 = .ok (.if_icmp .ge 13, 3) := by decide +kernel
theorem dX5_pass_33 : decode cX5_pass 33 = .ok (.aload_n 0, 1) := by decide +kernel
theorem dX5_pass_34 : decode cX5_pass 34 = .ok (.invokevirtual 116, 3) := by decide +kernel
theorem dX5_pass_37 : decode cX5_pass 37 = .ok (.iinc 3 1, 3) := by decide +kernel
theorem dX5_pass_40 : decode cX5_pass 40 = .ok (.goto (-12), 3) := by decide +kernel
theorem dX5_pass_43 : decode cX5_pass 43 = .ok (.aload_n 0, 1) := by decide +kernel
theorem dX5_pass_44 : decode cX5_pass 44 = .ok (.invokevirtual 112, 3) := by decide +kernel
theorem dX5_pass_47 : decode cX5_pass 47 = .ok (.iload_n 2, 1) := by decide +kernel
theorem dX5_pass_48 : decode cX5_pass 48 = .ok (.isub, 1) := by decide +kernel
theorem dX5_pass_49 : decode cX5_pass 49 = .ok (.ireturn, 1) := by decide +kernel
set_option maxRecDepth 20000 in
theorem ggX5_reefs_X5_mark : GoodIn wsX5_reefs wsX5_mark := goodIn_r _ [6, 1, 7, 8, 9, 5, 10, 11, 12, 13, 14, 15, 16, 17, 18, 19, 20, 21, 22, 23, 24, 25] (by decide +kernel) (by decide +kernel)
set_option maxRecDepth 20000 in
theorem gX5_reefs_X5_mark : GoodIn wsX5_reefs (wsV RX5 69 RX5 yX5_mark wsX5_mark) := goodIn_app (goodIn_of _ (by decide +kernel)) ggX5_reefs_X5_mark
theorem dX5_reefs_0 : decode cX5_reefs 0 = .ok (.aload_n 0, 1) := by decide +kernel
theorem dX5_reefs_1 : decode cX5_reefs 1 = .ok (.invokevirtual 69, 3) := by decide +kernel
theorem dX5_reefs_4 : decode cX5_reefs 4 = .ok (.iconst 0, 1) := by decide +kernel
theorem dX5_reefs_5 : decode cX5_reefs 5 = .ok (.istore_n 1, 1) := by decide +kernel
theorem dX5_reefs_6 : decode cX5_reefs 6 = .ok (.iconst 0, 1) := by decide +kernel
theorem dX5_reefs_7 : decode cX5_reefs 7 = .ok (.istore_n 2, 1) := by decide +kernel
theorem dX5_reefs_8 : decode cX5_reefs 8 = .ok (.iload_n 2, 1) := by decide +kernel
theorem dX5_reefs_9 : decode cX5_reefs 9 = .ok (.bipush 81, 2) := by decide +kernel
theorem dX5_reefs_11 : decode cX5_reefs 11 = .ok (.if_icmp .ge 27, 3) := by decide +kernel
theorem dX5_reefs_14 : decode cX5_reefs 14 = .ok (.iload_n 1, 1) := by decide +kernel
theorem dX5_reefs_15 : decode cX5_reefs 15 = .ok (.aload_n 0, 1) := by decide +kernel
theorem dX5_reefs_16 : decode cX5_reefs 16 = .ok (.getfield 31, 3) := by decide +kernel
theorem dX5_reefs_19 : decode cX5_reefs 19 = .ok (.iload_n 2, 1) := by decide +kernel
theorem dX5_reefs_20 : decode cX5_reefs 20 = .ok (.iaload, 1) := by decide +kernel
theorem dX5_reefs_21 : decode cX5_reefs 21 = .ok (.iload_n 2, 1) := by decide +kernel
theorem dX5_reefs_22 : decode cX5_reefs 22 = .ok (.if_icmp .ne 7, 3) := by decide +kernel
theorem dX5_reefs_25 : decode cX5_reefs 25 = .ok (.iconst 1, 1) := by decide +kernel
theorem dX5_reefs_26 : decode cX5_reefs 26 = .ok (.goto 4, 3) := by decide +kernel
theorem dX5_reefs_29 : decode cX5_reefs 29 = .ok (.iconst 0, 1) := by decide +kernel
theorem dX5_reefs_30 : decode cX5_reefs 30 = .ok (.iadd, 1) := by decide +kernel
theorem dX5_reefs_31 : decode cX5_reefs 31 = .ok (.istore_n 1, 1) := by decide +kernel
theorem dX5_reefs_32 : decode cX5_reefs 32 = .ok (.iinc 2 1, 3) := by decide +kernel
theorem dX5_reefs_35 : decode cX5_reefs 35 = .ok (.goto (-27), 3) := by decide +kernel
theorem dX5_reefs_38 : decode cX5_reefs 38 = .ok (.iload_n 1, 1) := by decide +kernel
theorem dX5_reefs_39 : decode cX5_reefs 39 = .ok (.ireturn, 1) := by decide +kernel
set_option maxRecDepth 20000 in
theorem ggX5_largest_X5_mark : GoodIn wsX5_largest wsX5_mark := goodIn_r _ [10, 1, 11, 12, 13, 9, 14, 15, 16, 17, 18, 19, 20, 21, 22, 23, 24, 25, 26, 27, 28, 29] (by decide +kernel) (by decide +kernel)
set_option maxRecDepth 20000 in
theorem gX5_largest_X5_mark : GoodIn wsX5_largest (wsV RX5 69 RX5 yX5_mark wsX5_mark) := goodIn_app (goodIn_of _ (by decide +kernel)) ggX5_largest_X5_mark
theorem dX5_largest_0 : decode cX5_largest 0 = .ok (.iconst 0, 1) := by decide +kernel
theorem dX5_largest_1 : decode cX5_largest 1 = .ok (.istore_n 1, 1) := by decide +kernel
theorem dX5_largest_2 : decode cX5_largest 2 = .ok (.aload_n 0, 1) := by decide +kernel
theorem dX5_largest_3 : decode cX5_largest 3 = .ok (.invokevirtual 69, 3) := by decide +kernel
theorem dX5_largest_6 : decode cX5_largest 6 = .ok (.iconst 0, 1) := by decide +kernel
theorem dX5_largest_7 : decode cX5_largest 7 = .ok (.istore_n 2, 1) := by decide +kernel
theorem dX5_largest_8 : decode cX5_largest 8 = .ok (.iload_n 2, 1) := by decide +kernel
theorem dX5_largest_9 : decode cX5_largest 9 = .ok (.bipush 81, 2) := by decide +kernel
theorem dX5_largest_11 : decode cX5_largest 11 = .ok (.if_icmp .ge 62, 3) := by decide +kernel
theorem dX5_largest_14 : decode cX5_largest 14 = .ok (.iconst 0, 1) := by decide +kernel
theorem dX5_largest_15 : decode cX5_largest 15 = .ok (.istore_n 3, 1) := by decide +kernel
theorem dX5_largest_16 : decode cX5_largest 16 = .ok (.iconst 0, 1) := by decide +kernel
theorem dX5_largest_17 : decode cX5_largest 17 = .ok (.istore 4, 2) := by decide +kernel
theorem dX5_largest_19 : decode cX5_largest 19 = .ok (.iload 4, 2) := by decide +kernel
theorem dX5_largest_21 : decode cX5_largest 21 = .ok (.bipush 81, 2) := by decide +kernel
theorem dX5_largest_23 : decode cX5_largest 23 = .ok (.if_icmp .ge 38, 3) := by decide +kernel
theorem dX5_largest_26 : decode cX5_largest 26 = .ok (.aload_n 0, 1) := by decide +kernel
theorem dX5_largest_27 : decode cX5_largest 27 = .ok (.getfield 31, 3) := by decide +kernel
theorem dX5_largest_30 : decode cX5_largest 30 = .ok (.iload_n 2, 1) := by decide +kernel
theorem dX5_largest_31 : decode cX5_largest 31 = .ok (.iaload, 1) := by decide +kernel
theorem dX5_largest_32 : decode cX5_largest 32 = .ok (.iload_n 2, 1) := by decide +kernel
theorem dX5_largest_33 : decode cX5_largest 33 = .ok (.if_icmp .ne 28, 3) := by decide +kernel
theorem dX5_largest_36 : decode cX5_largest 36 = .ok (.iload_n 3, 1) := by decide +kernel
theorem dX5_largest_37 : decode cX5_largest 37 = .ok (.aload_n 0, 1) := by decide +kernel
theorem dX5_largest_38 : decode cX5_largest 38 = .ok (.getfield 31, 3) := by decide +kernel
theorem dX5_largest_41 : decode cX5_largest 41 = .ok (.iload 4, 2) := by decide +kernel
theorem dX5_largest_43 : decode cX5_largest 43 = .ok (.iaload, 1) := by decide +kernel
theorem dX5_largest_44 : decode cX5_largest 44 = .ok (.iload_n 2, 1) := by decide +kernel
theorem dX5_largest_45 : decode cX5_largest 45 = .ok (.if_icmp .ne 7, 3) := by decide +kernel
theorem dX5_largest_48 : decode cX5_largest 48 = .ok (.iconst 1, 1) := by decide +kernel
theorem dX5_largest_49 : decode cX5_largest 49 = .ok (.goto 4, 3) := by decide +kernel
theorem dX5_largest_52 : decode cX5_largest 52 = .ok (.iconst 0, 1) := by decide +kernel
theorem dX5_largest_53 : decode cX5_largest 53 = .ok (.iadd, 1) := by decide +kernel
theorem dX5_largest_54 : decode cX5_largest 54 = .ok (.istore_n 3, 1) := by decide +kernel
theorem dX5_largest_55 : decode cX5_largest 55 = .ok (.iinc 4 1, 3) := by decide +kernel
theorem dX5_largest_58 : decode cX5_largest 58 = .ok (.goto (-39), 3) := by decide +kernel
theorem dX5_largest_61 : decode cX5_largest 61 = .ok (.iload_n 1, 1) := by decide +kernel
theorem dX5_largest_62 : decode cX5_largest 62 = .ok (.iload_n 3, 1) := by decide +kernel
theorem dX5_largest_63 : decode cX5_largest 63 = .ok (.invokestatic 45, 3) := by decide +kernel
theorem dX5_largest_66 : decode cX5_largest 66 = .ok (.istore_n 1, 1) := by decide +kernel
theorem dX5_largest_67 : decode cX5_largest 67 = .ok (.iinc 2 1, 3) := by decide +kernel
theorem dX5_largest_70 : decode cX5_largest 70 = .ok (.goto (-62), 3) := by decide +kernel
theorem dX5_largest_73 : decode cX5_largest 73 = .ok (.iload_n 1, 1) := by decide +kernel
theorem dX5_largest_74 : decode cX5_largest 74 = .ok (.ireturn, 1) := by decide +kernel
set_option maxRecDepth 20000 in
theorem ggX5_counted_X5_heads : GoodIn wsX5_counted wsX5_heads := goodIn_r _ [8, 9, 10, 11, 7, 12, 2, 38, 39, 40, 41, 42, 43, 44, 45, 46, 47, 48] (by decide +kernel) (by decide +kernel)
set_option maxRecDepth 20000 in
theorem gX5_counted_X5_heads : GoodIn wsX5_counted (wsV RX5 112 RX5 yX5_heads wsX5_heads) := goodIn_app (goodIn_of _ (by decide +kernel)) ggX5_counted_X5_heads
set_option maxRecDepth 20000 in
theorem ggX5_counted_X5_reefs : GoodIn wsX5_counted wsX5_reefs := goodIn_r _ [16, 17, 18, 19, 20, 7, 21, 9, 10, 11, 12, 2, 22, 23, 24, 38, 39, 40, 41, 42, 43, 44, 45, 46, 47, 48] (by decide +kernel) (by decide +kernel)
set_option maxRecDepth 20000 in
theorem gX5_counted_X5_reefs : GoodIn wsX5_counted (wsV RX5 119 RX5 yX5_reefs wsX5_reefs) := goodIn_app (goodIn_of _ (by decide +kernel)) ggX5_counted_X5_reefs
set_option maxRecDepth 20000 in
theorem ggX5_counted_X5_largest : GoodIn wsX5_counted wsX5_largest := goodIn_r _ [28, 17, 29, 30, 31, 32, 18, 19, 20, 7, 21, 9, 10, 11, 12, 2, 22, 23, 24, 38, 39, 40, 41, 42, 43, 44, 45, 46, 47, 48] (by decide +kernel) (by decide +kernel)
set_option maxRecDepth 20000 in
theorem gX5_counted_X5_largest : GoodIn wsX5_counted (wsV RX5 122 RX5 yX5_largest wsX5_largest) := goodIn_app (goodIn_of _ (by decide +kernel)) ggX5_counted_X5_largest
set_option maxRecDepth 20000 in
theorem ggX5_counted_X5_depth : GoodIn wsX5_counted wsX5_depth := goodIn_r _ [36, 37, 2, 29, 30, 31, 32, 38, 39, 40, 41, 42, 43, 44, 45, 46, 47, 48] (by decide +kernel) (by decide +kernel)
set_option maxRecDepth 20000 in
theorem gX5_counted_X5_depth : GoodIn wsX5_counted (wsV RX5 72 RX5 yX5_depth wsX5_depth) := goodIn_app (goodIn_of _ (by decide +kernel)) ggX5_counted_X5_depth
theorem dX5_counted_0 : decode cX5_counted 0 = .ok (.iconst 0, 1) := by decide +kernel
theorem dX5_counted_1 : decode cX5_counted 1 = .ok (.istore_n 2, 1) := by decide +kernel
theorem dX5_counted_2 : decode cX5_counted 2 = .ok (.iload_n 1, 1) := by decide +kernel
theorem dX5_counted_3 : decode cX5_counted 3 = .ok (.tableswitch 184 0 6 #[41, 46, 51, 56, 61, 99, 146], 41) := by decide +kernel
theorem dX5_counted_44 : decode cX5_counted 44 = .ok (.aload_n 0, 1) := by decide +kernel
theorem dX5_counted_45 : decode cX5_counted 45 = .ok (.getfield 78, 3) := by decide +kernel
theorem dX5_counted_48 : decode cX5_counted 48 = .ok (.ireturn, 1) := by decide +kernel
theorem dX5_counted_49 : decode cX5_counted 49 = .ok (.aload_n 0, 1) := by decide +kernel
theorem dX5_counted_50 : decode cX5_counted 50 = .ok (.invokevirtual 112, 3) := by decide +kernel
theorem dX5_counted_53 : decode cX5_counted 53 = .ok (.ireturn, 1) := by decide +kernel
theorem dX5_counted_54 : decode cX5_counted 54 = .ok (.aload_n 0, 1) := by decide +kernel
theorem dX5_counted_55 : decode cX5_counted 55 = .ok (.invokevirtual 119, 3) := by decide +kernel
theorem dX5_counted_58 : decode cX5_counted 58 = .ok (.ireturn, 1) := by decide +kernel
theorem dX5_counted_59 : decode cX5_counted 59 = .ok (.aload_n 0, 1) := by decide +kernel
theorem dX5_counted_60 : decode cX5_counted 60 = .ok (.invokevirtual 122, 3) := by decide +kernel
theorem dX5_counted_63 : decode cX5_counted 63 = .ok (.ireturn, 1) := by decide +kernel
theorem dX5_counted_64 : decode cX5_counted 64 = .ok (.aload_n 0, 1) := by decide +kernel
theorem dX5_counted_65 : decode cX5_counted 65 = .ok (.getfield 13, 3) := by decide +kernel
theorem dX5_counted_68 : decode cX5_counted 68 = .ok (.astore_n 3, 1) := by decide +kernel
theorem dX5_counted_69 : decode cX5_counted 69 = .ok (.aload_n 3, 1) := by decide +kernel
theorem dX5_counted_70 : decode cX5_counted 70 = .ok (.arraylength, 1) := by decide +kernel
theorem dX5_counted_71 : decode cX5_counted 71 = .ok (.istore 4, 2) := by decide +kernel
theorem dX5_counted_73 : decode cX5_counted 73 = .ok (.iconst 0, 1) := by decide +kernel
theorem dX5_counted_74 : decode cX5_counted 74 = .ok (.istore 5, 2) := by decide +kernel
theorem dX5_counted_76 : decode cX5_counted 76 = .ok (.iload 5, 2) := by decide +kernel
theorem dX5_counted_78 : decode cX5_counted 78 = .ok (.iload 4, 2) := by decide +kernel
theorem dX5_counted_80 : decode cX5_counted 80 = .ok (.if_icmp .ge 20, 3) := by decide +kernel
theorem dX5_counted_83 : decode cX5_counted 83 = .ok (.aload_n 3, 1) := by decide +kernel
theorem dX5_counted_84 : decode cX5_counted 84 = .ok (.iload 5, 2) := by decide +kernel
theorem dX5_counted_86 : decode cX5_counted 86 = .ok (.iaload, 1) := by decide +kernel
theorem dX5_counted_87 : decode cX5_counted 87 = .ok (.istore 6, 2) := by decide +kernel
theorem dX5_counted_89 : decode cX5_counted 89 = .ok (.iload_n 2, 1) := by decide +kernel
theorem dX5_counted_90 : decode cX5_counted 90 = .ok (.iload 6, 2) := by decide +kernel
theorem dX5_counted_92 : decode cX5_counted 92 = .ok (.iadd, 1) := by decide +kernel
theorem dX5_counted_93 : decode cX5_counted 93 = .ok (.istore_n 2, 1) := by decide +kernel
theorem dX5_counted_94 : decode cX5_counted 94 = .ok (.iinc 5 1, 3) := by decide +kernel
theorem dX5_counted_97 : decode cX5_counted 97 = .ok (.goto (-21), 3) := by decide +kernel
theorem dX5_counted_100 : decode cX5_counted 100 = .ok (.iload_n 2, 1) := by decide +kernel
theorem dX5_counted_101 : decode cX5_counted 101 = .ok (.ireturn, 1) := by decide +kernel
theorem dX5_counted_102 : decode cX5_counted 102 = .ok (.aload_n 0, 1) := by decide +kernel
theorem dX5_counted_103 : decode cX5_counted 103 = .ok (.getfield 16, 3) := by decide +kernel
theorem dX5_counted_106 : decode cX5_counted 106 = .ok (.astore_n 3, 1) := by decide +kernel
theorem dX5_counted_107 : decode cX5_counted 107 = .ok (.aload_n 3, 1) := by decide +kernel
theorem dX5_counted_108 : decode cX5_counted 108 = .ok (.arraylength, 1) := by decide +kernel
theorem dX5_counted_109 : decode cX5_counted 109 = .ok (.istore 4, 2) := by decide +kernel
theorem dX5_counted_111 : decode cX5_counted 111 = .ok (.iconst 0, 1) := by decide +kernel
theorem dX5_counted_112 : decode cX5_counted 112 = .ok (.istore 5, 2) := by decide +kernel
theorem dX5_counted_114 : decode cX5_counted 114 = .ok (.iload 5, 2) := by decide +kernel
theorem dX5_counted_116 : decode cX5_counted 116 = .ok (.iload 4, 2) := by decide +kernel
theorem dX5_counted_118 : decode cX5_counted 118 = .ok (.if_icmp .ge 29, 3) := by decide +kernel
theorem dX5_counted_121 : decode cX5_counted 121 = .ok (.aload_n 3, 1) := by decide +kernel
theorem dX5_counted_122 : decode cX5_counted 122 = .ok (.iload 5, 2) := by decide +kernel
theorem dX5_counted_124 : decode cX5_counted 124 = .ok (.iaload, 1) := by decide +kernel
theorem dX5_counted_125 : decode cX5_counted 125 = .ok (.istore 6, 2) := by decide +kernel
theorem dX5_counted_127 : decode cX5_counted 127 = .ok (.iload_n 2, 1) := by decide +kernel
theorem dX5_counted_128 : decode cX5_counted 128 = .ok (.iload 6, 2) := by decide +kernel
theorem dX5_counted_130 : decode cX5_counted 130 = .ok (.iconst (-1), 1) := by decide +kernel
theorem dX5_counted_131 : decode cX5_counted 131 = .ok (.if_icmp .ne 7, 3) := by decide +kernel
theorem dX5_counted_134 : decode cX5_counted 134 = .ok (.iconst 0, 1) := by decide +kernel
theorem dX5_counted_135 : decode cX5_counted 135 = .ok (.goto 4, 3) := by decide +kernel
theorem dX5_counted_138 : decode cX5_counted 138 = .ok (.iconst 1, 1) := by decide +kernel
theorem dX5_counted_139 : decode cX5_counted 139 = .ok (.iadd, 1) := by decide +kernel
theorem dX5_counted_140 : decode cX5_counted 140 = .ok (.istore_n 2, 1) := by decide +kernel
theorem dX5_counted_141 : decode cX5_counted 141 = .ok (.iinc 5 1, 3) := by decide +kernel
theorem dX5_counted_144 : decode cX5_counted 144 = .ok (.goto (-30), 3) := by decide +kernel
theorem dX5_counted_147 : decode cX5_counted 147 = .ok (.iload_n 2, 1) := by decide +kernel
theorem dX5_counted_148 : decode cX5_counted 148 = .ok (.ireturn, 1) := by decide +kernel
theorem dX5_counted_149 : decode cX5_counted 149 = .ok (.iconst 0, 1) := by decide +kernel
theorem dX5_counted_150 : decode cX5_counted 150 = .ok (.istore_n 3, 1) := by decide +kernel
theorem dX5_counted_151 : decode cX5_counted 151 = .ok (.iload_n 3, 1) := by decide +kernel
theorem dX5_counted_152 : decode cX5_counted 152 = .ok (.bipush 81, 2) := by decide +kernel
theorem dX5_counted_154 : decode cX5_counted 154 = .ok (.if_icmp .ge 31, 3) := by decide +kernel
theorem dX5_counted_157 : decode cX5_counted 157 = .ok (.iload_n 2, 1) := by decide +kernel
theorem dX5_counted_158 : decode cX5_counted 158 = .ok (.aload_n 0, 1) := by decide +kernel
theorem dX5_counted_159 : decode cX5_counted 159 = .ok (.getfield 16, 3) := by decide +kernel
theorem dX5_counted_162 : decode cX5_counted 162 = .ok (.iload_n 3, 1) := by decide +kernel
theorem dX5_counted_163 : decode cX5_counted 163 = .ok (.iaload, 1) := by decide +kernel
theorem dX5_counted_164 : decode cX5_counted 164 = .ok (.aload_n 0, 1) := by decide +kernel
theorem dX5_counted_165 : decode cX5_counted 165 = .ok (.iload_n 3, 1) := by decide +kernel
theorem dX5_counted_166 : decode cX5_counted 166 = .ok (.invokevirtual 72, 3) := by decide +kernel
theorem dX5_counted_169 : decode cX5_counted 169 = .ok (.if_icmp .le 7, 3) := by decide +kernel
theorem dX5_counted_172 : decode cX5_counted 172 = .ok (.iconst 1, 1) := by decide +kernel
theorem dX5_counted_173 : decode cX5_counted 173 = .ok (.goto 4, 3) := by decide +kernel
theorem dX5_counted_176 : decode cX5_counted 176 = .ok (.iconst 0, 1) := by decide +kernel
theorem dX5_counted_177 : decode cX5_counted 177 = .ok (.iadd, 1) := by decide +kernel
theorem dX5_counted_178 : decode cX5_counted 178 = .ok (.istore_n 2, 1) := by decide +kernel
theorem dX5_counted_179 : decode cX5_counted 179 = .ok (.iinc 3 1, 3) := by decide +kernel
theorem dX5_counted_182 : decode cX5_counted 182 = .ok (.goto (-31), 3) := by decide +kernel
theorem dX5_counted_185 : decode cX5_counted 185 = .ok (.iload_n 2, 1) := by decide +kernel
theorem dX5_counted_186 : decode cX5_counted 186 = .ok (.ireturn, 1) := by decide +kernel
theorem dX5_counted_187 : decode cX5_counted 187 = .ok (.iconst 0, 1) := by decide +kernel
theorem dX5_counted_188 : decode cX5_counted 188 = .ok (.istore_n 3, 1) := by decide +kernel
theorem dX5_counted_189 : decode cX5_counted 189 = .ok (.iload_n 3, 1) := by decide +kernel
theorem dX5_counted_190 : decode cX5_counted 190 = .ok (.bipush 81, 2) := by decide +kernel
theorem dX5_counted_192 : decode cX5_counted 192 = .ok (.if_icmp .ge 25, 3) := by decide +kernel
theorem dX5_counted_195 : decode cX5_counted 195 = .ok (.iload_n 2, 1) := by decide +kernel
theorem dX5_counted_196 : decode cX5_counted 196 = .ok (.aload_n 0, 1) := by decide +kernel
theorem dX5_counted_197 : decode cX5_counted 197 = .ok (.iload_n 3, 1) := by decide +kernel
theorem dX5_counted_198 : decode cX5_counted 198 = .ok (.invokevirtual 72, 3) := by decide +kernel
theorem dX5_counted_201 : decode cX5_counted 201 = .ok (.ifCond .ne 7, 3) := by decide +kernel
theorem dX5_counted_204 : decode cX5_counted 204 = .ok (.iconst 1, 1) := by decide +kernel
theorem dX5_counted_205 : decode cX5_counted 205 = .ok (.goto 4, 3) := by decide +kernel
theorem dX5_counted_208 : decode cX5_counted 208 = .ok (.iconst 0, 1) := by decide +kernel
theorem dX5_counted_209 : decode cX5_counted 209 = .ok (.iadd, 1) := by decide +kernel
theorem dX5_counted_210 : decode cX5_counted 210 = .ok (.istore_n 2, 1) := by decide +kernel
theorem dX5_counted_211 : decode cX5_counted 211 = .ok (.iinc 3 1, 3) := by decide +kernel
theorem dX5_counted_214 : decode cX5_counted 214 = .ok (.goto (-25), 3) := by decide +kernel
theorem dX5_counted_217 : decode cX5_counted 217 = .ok (.iload_n 2, 1) := by decide +kernel
theorem dX5_counted_218 : decode cX5_counted 218 = .ok (.ireturn, 1) := by decide +kernel
set_option maxRecDepth 20000 in
theorem ggX5_count_X5_isIn : GoodIn wsX5_count wsX5_isIn := goodIn_r _ [5] (by decide +kernel) (by decide +kernel)
set_option maxRecDepth 20000 in
theorem gX5_count_X5_isIn : GoodIn wsX5_count (va_wsS RX5 41 yX5_isIn wsX5_isIn) := goodIn_app (goodIn_of _ (by decide +kernel)) ggX5_count_X5_isIn
set_option maxRecDepth 20000 in
theorem ggX5_count_X5_counted : GoodIn wsX5_count wsX5_counted := goodIn_r _ [9, 10, 11, 12, 13, 14, 15, 4, 16, 17, 18, 19, 20, 21, 22, 23, 24, 25, 26, 27, 28, 29, 30, 31, 32, 33, 34, 35, 36, 37, 38, 39, 40, 41, 42, 43, 44, 45, 50, 51, 52, 53, 54, 55, 56, 57, 58, 59, 60] (by decide +kernel) (by decide +kernel)
set_option maxRecDepth 20000 in
theorem gX5_count_X5_counted : GoodIn wsX5_count (wsV RX5 125 RX5 yX5_counted wsX5_counted) := goodIn_app (goodIn_of _ (by decide +kernel)) ggX5_count_X5_counted
set_option maxRecDepth 20000 in
theorem ggX5_count_X5_fail : GoodIn wsX5_count wsX5_fail := goodIn_r _ [49, 1, 50, 51, 52, 53, 54, 55, 56, 57, 58, 59, 60] (by decide +kernel) (by decide +kernel)
set_option maxRecDepth 20000 in
theorem gX5_count_X5_fail : GoodIn wsX5_count (wsV RX5 62 RX5 yX5_fail wsX5_fail) := goodIn_app (goodIn_of _ (by decide +kernel)) ggX5_count_X5_fail
theorem dX5_count_0 : decode cX5_count 0 = .ok (.aload_n 0, 1) := by decide +kernel
theorem dX5_count_1 : decode cX5_count 1 = .ok (.iconst 0, 1) := by decide +kernel
theorem dX5_count_2 : decode cX5_count 2 = .ok (.putfield 37, 3) := by decide +kernel
theorem dX5_count_5 : decode cX5_count 5 = .ok (.iload_n 1, 1) := by decide +kernel
theorem dX5_count_6 : decode cX5_count 6 = .ok (.iconst 0, 1) := by decide +kernel
theorem dX5_count_7 : decode cX5_count 7 = .ok (.bipush 7, 2) := by decide +kernel
theorem dX5_count_9 : decode cX5_count 9 = .ok (.invokestatic 41, 3) := by decide +kernel
theorem dX5_count_12 : decode cX5_count 12 = .ok (.ifCond .eq 11, 3) := by decide +kernel
theorem dX5_count_15 : decode cX5_count 15 = .ok (.aload_n 0, 1) := by decide +kernel
theorem dX5_count_16 : decode cX5_count 16 = .ok (.iload_n 1, 1) := by decide +kernel
theorem dX5_count_17 : decode cX5_count 17 = .ok (.invokevirtual 125, 3) := by decide +kernel
theorem dX5_count_20 : decode cX5_count 20 = .ok (.goto 8, 3) := by decide +kernel
theorem dX5_count_23 : decode cX5_count 23 = .ok (.aload_n 0, 1) := by decide +kernel
theorem dX5_count_24 : decode cX5_count 24 = .ok (.iconst 1, 1) := by decide +kernel
theorem dX5_count_25 : decode cX5_count 25 = .ok (.invokevirtual 62, 3) := by decide +kernel
theorem dX5_count_28 : decode cX5_count 28 = .ok (.ireturn, 1) := by decide +kernel
theorem dX5_bringBack_0 : decode cX5_bringBack 0 = .ok (.aload_n 1, 1) := by decide +kernel
theorem dX5_bringBack_1 : decode cX5_bringBack 1 = .ok (.iconst 0, 1) := by decide +kernel
theorem dX5_bringBack_2 : decode cX5_bringBack 2 = .ok (.aload_n 0, 1) := by decide +kernel
theorem dX5_bringBack_3 : decode cX5_bringBack 3 = .ok (.getfield 9, 3) := by decide +kernel
theorem dX5_bringBack_6 : decode cX5_bringBack 6 = .ok (.iconst 0, 1) := by decide +kernel
theorem dX5_bringBack_7 : decode cX5_bringBack 7 = .ok (.bipush 81, 2) := by decide +kernel
theorem dX5_bringBack_9 : decode cX5_bringBack 9 = .ok (.invokestatic 99, 3) := by decide +kernel
theorem dX5_bringBack_12 : decode cX5_bringBack 12 = .ok (.aload_n 2, 1) := by decide +kernel
theorem dX5_bringBack_13 : decode cX5_bringBack 13 = .ok (.iconst 0, 1) := by decide +kernel
theorem dX5_bringBack_14 : decode cX5_bringBack 14 = .ok (.aload_n 0, 1) := by decide +kernel
theorem dX5_bringBack_15 : decode cX5_bringBack 15 = .ok (.getfield 13, 3) := by decide +kernel
theorem dX5_bringBack_18 : decode cX5_bringBack 18 = .ok (.iconst 0, 1) := by decide +kernel
theorem dX5_bringBack_19 : decode cX5_bringBack 19 = .ok (.bipush 81, 2) := by decide +kernel
theorem dX5_bringBack_21 : decode cX5_bringBack 21 = .ok (.invokestatic 99, 3) := by decide +kernel
theorem dX5_bringBack_24 : decode cX5_bringBack 24 = .ok (.aload_n 0, 1) := by decide +kernel
theorem dX5_bringBack_25 : decode cX5_bringBack 25 = .ok (.iload_n 3, 1) := by decide +kernel
theorem dX5_bringBack_26 : decode cX5_bringBack 26 = .ok (.putfield 78, 3) := by decide +kernel
theorem dX5_bringBack_29 : decode cX5_bringBack 29 = .ok (.return_, 1) := by decide +kernel
set_option maxRecDepth 20000 in
theorem ggX5_closes_X5_isIn : GoodIn wsX5_closes wsX5_isIn := goodIn_r _ [14] (by decide +kernel) (by decide +kernel)
set_option maxRecDepth 20000 in
theorem gX5_closes_X5_isIn : GoodIn wsX5_closes (va_wsS RX5 41 yX5_isIn wsX5_isIn) := goodIn_app (goodIn_of _ (by decide +kernel)) ggX5_closes_X5_isIn
set_option maxRecDepth 20000 in
theorem ggX5_closes_X5_fail : GoodIn wsX5_closes wsX5_fail := goodIn_r _ [18, 1, 79, 80, 81, 82, 83, 84, 85, 86, 87, 88, 89] (by decide +kernel) (by decide +kernel)
set_option maxRecDepth 20000 in
theorem gX5_closes_X5_fail : GoodIn wsX5_closes (wsV RX5 62 RX5 yX5_fail wsX5_fail) := goodIn_app (goodIn_of _ (by decide +kernel)) ggX5_closes_X5_fail
set_option maxRecDepth 20000 in
theorem ggX5_closes_X5_shortest : GoodIn wsX5_closes wsX5_shortest := goodIn_r _ [22, 23, 24, 25, 26, 27, 28, 29, 30, 13, 31, 32, 33, 34, 35, 36, 10, 37, 38, 39, 40, 41, 42, 43, 44, 2, 9, 45, 46, 47, 79, 80, 81, 82, 83, 84, 85, 86, 87, 88, 89] (by decide +kernel) (by decide +kernel)
set_option maxRecDepth 20000 in
theorem gX5_closes_X5_shortest : GoodIn wsX5_closes (wsV RX5 88 RX5 yX5_shortest wsX5_shortest) := goodIn_app (goodIn_of _ (by decide +kernel)) ggX5_closes_X5_shortest
set_option maxRecDepth 20000 in
theorem ggX5_closes_X5_monthOn : GoodIn wsX5_closes wsX5_monthOn := goodIn_r _ [51, 10, 52, 53, 54, 55, 56, 13, 57, 58, 9, 2, 24, 25, 26, 27, 38, 39, 40, 59, 60, 61, 62, 41, 42, 43, 44, 11, 12, 14, 63, 64, 65, 66, 45, 46, 47, 67, 68, 69, 70, 71, 72, 73, 74, 79, 80, 81, 82, 83, 84, 85, 86, 87, 88, 89] (by decide +kernel) (by decide +kernel)
set_option maxRecDepth 20000 in
theorem gX5_closes_X5_monthOn : GoodIn wsX5_closes (wsV RX5 116 RX5 yX5_monthOn wsX5_monthOn) := goodIn_app (goodIn_of _ (by decide +kernel)) ggX5_closes_X5_monthOn
set_option maxRecDepth 20000 in
theorem ggX5_closes_X5_bringBack : GoodIn wsX5_closes wsX5_bringBack := goodIn_r _ [78, 2, 59, 60, 61, 62, 9, 10, 79, 80, 81, 82, 83, 84, 85, 86, 87, 88, 89] (by decide +kernel) (by decide +kernel)
set_option maxRecDepth 20000 in
theorem gX5_closes_X5_bringBack : GoodIn wsX5_closes (wsV RX5 133 RX5 yX5_bringBack wsX5_bringBack) := goodIn_app (goodIn_of _ (by decide +kernel)) ggX5_closes_X5_bringBack
theorem dX5_closes_0 : decode cX5_closes 0 = .ok (.aload_n 0, 1) := by decide +kernel
theorem dX5_closes_1 : decode cX5_closes 1 = .ok (.iconst 0, 1) := by decide +kernel
theorem dX5_closes_2 : decode cX5_closes 2 = .ok (.putfield 37, 3) := by decide +kernel
theorem dX5_closes_5 : decode cX5_closes 5 = .ok (.iload_n 1, 1) := by decide +kernel
theorem dX5_closes_6 : decode cX5_closes 6 = .ok (.iconst 0, 1) := by decide +kernel
theorem dX5_closes_7 : decode cX5_closes 7 = .ok (.bipush 39, 2) := by decide +kernel
theorem dX5_closes_9 : decode cX5_closes 9 = .ok (.invokestatic 41, 3) := by decide +kernel
theorem dX5_closes_12 : decode cX5_closes 12 = .ok (.ifCond .ne 9, 3) := by decide +kernel
theorem dX5_closes_15 : decode cX5_closes 15 = .ok (.aload_n 0, 1) := by decide +kernel
theorem dX5_closes_16 : decode cX5_closes 16 = .ok (.iconst 1, 1) := by decide +kernel
theorem dX5_closes_17 : decode cX5_closes 17 = .ok (.invokevirtual 62, 3) := by decide +kernel
theorem dX5_closes_20 : decode cX5_closes 20 = .ok (.ireturn, 1) := by decide +kernel
theorem dX5_closes_21 : decode cX5_closes 21 = .ok (.aload_n 0, 1) := by decide +kernel
theorem dX5_closes_22 : decode cX5_closes 22 = .ok (.getfield 9, 3) := by decide +kernel
theorem dX5_closes_25 : decode cX5_closes 25 = .ok (.invokevirtual 128, 3) := by decide +kernel
theorem dX5_closes_28 : decode cX5_closes 28 = .ok (.checkcast 129, 3) := by decide +kernel
theorem dX5_closes_31 : decode cX5_closes 31 = .ok (.astore_n 2, 1) := by decide +kernel
theorem dX5_closes_32 : decode cX5_closes 32 = .ok (.aload_n 0, 1) := by decide +kernel
theorem dX5_closes_33 : decode cX5_closes 33 = .ok (.getfield 13, 3) := by decide +kernel
theorem dX5_closes_36 : decode cX5_closes 36 = .ok (.invokevirtual 128, 3) := by decide +kernel
theorem dX5_closes_39 : decode cX5_closes 39 = .ok (.checkcast 129, 3) := by decide +kernel
theorem dX5_closes_42 : decode cX5_closes 42 = .ok (.astore_n 3, 1) := by decide +kernel
theorem dX5_closes_43 : decode cX5_closes 43 = .ok (.aload_n 0, 1) := by decide +kernel
theorem dX5_closes_44 : decode cX5_closes 44 = .ok (.getfield 78, 3) := by decide +kernel
theorem dX5_closes_47 : decode cX5_closes 47 = .ok (.istore 4, 2) := by decide +kernel
theorem dX5_closes_49 : decode cX5_closes 49 = .ok (.iconst 0, 1) := by decide +kernel
theorem dX5_closes_50 : decode cX5_closes 50 = .ok (.istore 5, 2) := by decide +kernel
theorem dX5_closes_52 : decode cX5_closes 52 = .ok (.iload 5, 2) := by decide +kernel
theorem dX5_closes_54 : decode cX5_closes 54 = .ok (.bipush 100, 2) := by decide +kernel
theorem dX5_closes_56 : decode cX5_closes 56 = .ok (.if_icmp .ge 23, 3) := by decide +kernel
theorem dX5_closes_59 : decode cX5_closes 59 = .ok (.aload_n 0, 1) := by decide +kernel
theorem dX5_closes_60 : decode cX5_closes 60 = .ok (.iload_n 1, 1) := by decide +kernel
theorem dX5_closes_61 : decode cX5_closes 61 = .ok (.iconst 0, 1) := by decide +kernel
theorem dX5_closes_62 : decode cX5_closes 62 = .ok (.invokevirtual 88, 3) := by decide +kernel
theorem dX5_closes_65 : decode cX5_closes 65 = .ok (.iconst (-1), 1) := by decide +kernel
theorem dX5_closes_66 : decode cX5_closes 66 = .ok (.if_icmp .eq 13, 3) := by decide +kernel
theorem dX5_closes_69 : decode cX5_closes 69 = .ok (.aload_n 0, 1) := by decide +kernel
theorem dX5_closes_70 : decode cX5_closes 70 = .ok (.invokevirtual 116, 3) := by decide +kernel
theorem dX5_closes_73 : decode cX5_closes 73 = .ok (.iinc 5 1, 3) := by decide +kernel
theorem dX5_closes_76 : decode cX5_closes 76 = .ok (.goto (-24), 3) := by decide +kernel
theorem dX5_closes_79 : decode cX5_closes 79 = .ok (.aload_n 0, 1) := by decide +kernel
theorem dX5_closes_80 : decode cX5_closes 80 = .ok (.iload_n 1, 1) := by decide +kernel
theorem dX5_closes_81 : decode cX5_closes 81 = .ok (.iconst 0, 1) := by decide +kernel
theorem dX5_closes_82 : decode cX5_closes 82 = .ok (.invokevirtual 88, 3) := by decide +kernel
theorem dX5_closes_85 : decode cX5_closes 85 = .ok (.iconst (-1), 1) := by decide +kernel
theorem dX5_closes_86 : decode cX5_closes 86 = .ok (.if_icmp .eq 6, 3) := by decide +kernel
theorem dX5_closes_89 : decode cX5_closes 89 = .ok (.iconst (-1), 1) := by decide +kernel
theorem dX5_closes_90 : decode cX5_closes 90 = .ok (.istore 5, 2) := by decide +kernel
theorem dX5_closes_92 : decode cX5_closes 92 = .ok (.aload_n 0, 1) := by decide +kernel
theorem dX5_closes_93 : decode cX5_closes 93 = .ok (.aload_n 2, 1) := by decide +kernel
theorem dX5_closes_94 : decode cX5_closes 94 = .ok (.aload_n 3, 1) := by decide +kernel
theorem dX5_closes_95 : decode cX5_closes 95 = .ok (.iload 4, 2) := by decide +kernel
theorem dX5_closes_97 : decode cX5_closes 97 = .ok (.invokevirtual 133, 3) := by decide +kernel
theorem dX5_closes_100 : decode cX5_closes 100 = .ok (.iload 5, 2) := by decide +kernel
theorem dX5_closes_102 : decode cX5_closes 102 = .ok (.ireturn, 1) := by decide +kernel
set_option maxRecDepth 20000 in
theorem ggX5_foresee_X5_isIn : GoodIn wsX5_foresee wsX5_isIn := goodIn_r _ [14] (by decide +kernel) (by decide +kernel)
set_option maxRecDepth 20000 in
theorem gX5_foresee_X5_isIn : GoodIn wsX5_foresee (va_wsS RX5 41 yX5_isIn wsX5_isIn) := goodIn_app (goodIn_of _ (by decide +kernel)) ggX5_foresee_X5_isIn
set_option maxRecDepth 20000 in
theorem ggX5_foresee_X5_fail : GoodIn wsX5_foresee wsX5_fail := goodIn_r _ [18, 1, 96, 97, 98, 99, 100, 101, 102, 103, 104, 105, 106] (by decide +kernel) (by decide +kernel)
set_option maxRecDepth 20000 in
theorem gX5_foresee_X5_fail : GoodIn wsX5_foresee (wsV RX5 62 RX5 yX5_fail wsX5_fail) := goodIn_app (goodIn_of _ (by decide +kernel)) ggX5_foresee_X5_fail
set_option maxRecDepth 20000 in
theorem ggX5_foresee_X5_monthOn : GoodIn wsX5_foresee wsX5_monthOn := goodIn_r _ [22, 10, 23, 24, 25, 26, 27, 13, 28, 29, 9, 2, 30, 31, 32, 33, 34, 35, 36, 37, 38, 39, 40, 41, 42, 43, 44, 11, 12, 14, 45, 46, 47, 48, 49, 50, 51, 52, 53, 54, 55, 56, 57, 58, 59, 96, 97, 98, 99, 100, 101, 102, 103, 104, 105, 106] (by decide +kernel) (by decide +kernel)
set_option maxRecDepth 20000 in
theorem gX5_foresee_X5_monthOn : GoodIn wsX5_foresee (wsV RX5 116 RX5 yX5_monthOn wsX5_monthOn) := goodIn_app (goodIn_of _ (by decide +kernel)) ggX5_foresee_X5_monthOn
set_option maxRecDepth 20000 in
theorem ggX5_foresee_X5_heads : GoodIn wsX5_foresee wsX5_heads := goodIn_r _ [63, 52, 53, 54, 13, 55, 9, 96, 97, 98, 99, 100, 101, 102, 103, 104, 105, 106] (by decide +kernel) (by decide +kernel)
set_option maxRecDepth 20000 in
theorem gX5_foresee_X5_heads : GoodIn wsX5_foresee (wsV RX5 112 RX5 yX5_heads wsX5_heads) := goodIn_app (goodIn_of _ (by decide +kernel)) ggX5_foresee_X5_heads
set_option maxRecDepth 20000 in
theorem ggX5_foresee_X5_reefs : GoodIn wsX5_foresee wsX5_reefs := goodIn_r _ [67, 68, 69, 70, 71, 13, 72, 52, 53, 54, 55, 9, 49, 50, 51, 96, 97, 98, 99, 100, 101, 102, 103, 104, 105, 106] (by decide +kernel) (by decide +kernel)
set_option maxRecDepth 20000 in
theorem gX5_foresee_X5_reefs : GoodIn wsX5_foresee (wsV RX5 119 RX5 yX5_reefs wsX5_reefs) := goodIn_app (goodIn_of _ (by decide +kernel)) ggX5_foresee_X5_reefs
set_option maxRecDepth 20000 in
theorem ggX5_foresee_X5_most : GoodIn wsX5_foresee wsX5_most := goodIn_r _ [76, 77, 78, 79, 13, 80, 81, 30, 31, 32, 33, 82, 83, 84, 85, 86, 87, 88, 89, 90, 10, 91, 34, 35, 36, 41, 42, 43, 44, 2, 9, 49, 50, 51, 96, 97, 98, 99, 100, 101, 102, 103, 104, 105, 106] (by decide +kernel) (by decide +kernel)
set_option maxRecDepth 20000 in
theorem gX5_foresee_X5_most : GoodIn wsX5_foresee (wsV RX5 92 RX5 yX5_most wsX5_most) := goodIn_app (goodIn_of _ (by decide +kernel)) ggX5_foresee_X5_most
set_option maxRecDepth 20000 in
theorem ggX5_foresee_X5_bringBack : GoodIn wsX5_foresee wsX5_bringBack := goodIn_r _ [95, 2, 37, 38, 39, 40, 9, 10, 96, 97, 98, 99, 100, 101, 102, 103, 104, 105, 106] (by decide +kernel) (by decide +kernel)
set_option maxRecDepth 20000 in
theorem gX5_foresee_X5_bringBack : GoodIn wsX5_foresee (wsV RX5 133 RX5 yX5_bringBack wsX5_bringBack) := goodIn_app (goodIn_of _ (by decide +kernel)) ggX5_foresee_X5_bringBack
theorem dX5_foresee_0 : decode cX5_foresee 0 = .ok (.aload_n 0, 1) := by decide +kernel
theorem dX5_foresee_1 : decode cX5_foresee 1 = .ok (.iconst 0, 1) := by decide +kernel
theorem dX5_foresee_2 : decode cX5_foresee 2 = .ok (.putfield 37, 3) := by decide +kernel
theorem dX5_foresee_5 : decode cX5_foresee 5 = .ok (.iload_n 1, 1) := by decide +kernel
theorem dX5_foresee_6 : decode cX5_foresee 6 = .ok (.iconst 1, 1) := by decide +kernel
theorem dX5_foresee_7 : decode cX5_foresee 7 = .ok (.bipush 100, 2) := by decide +kernel
theorem dX5_foresee_9 : decode cX5_foresee 9 = .ok (.invokestatic 41, 3) := by decide +kernel
theorem dX5_foresee_12 : decode cX5_foresee 12 = .ok (.ifCond .ne 9, 3) := by decide +kernel
theorem dX5_foresee_15 : decode cX5_foresee 15 = .ok (.aload_n 0, 1) := by decide +kernel
theorem dX5_foresee_16 : decode cX5_foresee 16 = .ok (.iconst 1, 1) := by decide +kernel
theorem dX5_foresee_17 : decode cX5_foresee 17 = .ok (.invokevirtual 62, 3) := by decide +kernel
theorem dX5_foresee_20 : decode cX5_foresee 20 = .ok (.ireturn, 1) := by decide +kernel
theorem dX5_foresee_21 : decode cX5_foresee 21 = .ok (.iload_n 2, 1) := by decide +kernel
theorem dX5_foresee_22 : decode cX5_foresee 22 = .ok (.iconst 0, 1) := by decide +kernel
theorem dX5_foresee_23 : decode cX5_foresee 23 = .ok (.iconst 2, 1) := by decide +kernel
theorem dX5_foresee_24 : decode cX5_foresee 24 = .ok (.invokestatic 41, 3) := by decide +kernel
theorem dX5_foresee_27 : decode cX5_foresee 27 = .ok (.ifCond .ne 9, 3) := by decide +kernel
theorem dX5_foresee_30 : decode cX5_foresee 30 = .ok (.aload_n 0, 1) := by decide +kernel
theorem dX5_foresee_31 : decode cX5_foresee 31 = .ok (.iconst 2, 1) := by decide +kernel
theorem dX5_foresee_32 : decode cX5_foresee 32 = .ok (.invokevirtual 62, 3) := by decide +kernel
theorem dX5_foresee_35 : decode cX5_foresee 35 = .ok (.ireturn, 1) := by decide +kernel
theorem dX5_foresee_36 : decode cX5_foresee 36 = .ok (.aload_n 0, 1) := by decide +kernel
theorem dX5_foresee_37 : decode cX5_foresee 37 = .ok (.getfield 9, 3) := by decide +kernel
theorem dX5_foresee_40 : decode cX5_foresee 40 = .ok (.invokevirtual 128, 3) := by decide +kernel
theorem dX5_foresee_43 : decode cX5_foresee 43 = .ok (.checkcast 129, 3) := by decide +kernel
theorem dX5_foresee_46 : decode cX5_foresee 46 = .ok (.astore_n 3, 1) := by decide +kernel
theorem dX5_foresee_47 : decode cX5_foresee 47 = .ok (.aload_n 0, 1) := by decide +kernel
theorem dX5_foresee_48 : decode cX5_foresee 48 = .ok (.getfield 13, 3) := by decide +kernel
theorem dX5_foresee_51 : decode cX5_foresee 51 = .ok (.invokevirtual 128, 3) := by decide +kernel
theorem dX5_foresee_54 : decode cX5_foresee 54 = .ok (.checkcast 129, 3) := by decide +kernel
theorem dX5_foresee_57 : decode cX5_foresee 57 = .ok (.astore 4, 2) := by decide +kernel
theorem dX5_foresee_59 : decode cX5_foresee 59 = .ok (.aload_n 0, 1) := by decide +kernel
theorem dX5_foresee_60 : decode cX5_foresee 60 = .ok (.getfield 78, 3) := by decide +kernel
theorem dX5_foresee_63 : decode cX5_foresee 63 = .ok (.istore 5, 2) := by decide +kernel
theorem dX5_foresee_65 : decode cX5_foresee 65 = .ok (.iconst 0, 1) := by decide +kernel
theorem dX5_foresee_66 : decode cX5_foresee 66 = .ok (.istore 6, 2) := by decide +kernel
theorem dX5_foresee_68 : decode cX5_foresee 68 = .ok (.iload 6, 2) := by decide +kernel
theorem dX5_foresee_70 : decode cX5_foresee 70 = .ok (.iload_n 1, 1) := by decide +kernel
theorem dX5_foresee_71 : decode cX5_foresee 71 = .ok (.if_icmp .ge 13, 3) := by decide +kernel
theorem dX5_foresee_74 : decode cX5_foresee 74 = .ok (.aload_n 0, 1) := by decide +kernel
theorem dX5_foresee_75 : decode cX5_foresee 75 = .ok (.invokevirtual 116, 3) := by decide +kernel
theorem dX5_foresee_78 : decode cX5_foresee 78 = .ok (.iinc 6 1, 3) := by decide +kernel
theorem dX5_foresee_81 : decode cX5_foresee 81 = .ok (.goto (-13), 3) := by decide +kernel
theorem dX5_foresee_84 : decode cX5_foresee 84 = .ok (.iload_n 2, 1) := by decide +kernel
theorem dX5_foresee_85 : decode cX5_foresee 85 = .ok (.ifCond .ne 10, 3) := by decide +kernel
theorem dX5_foresee_88 : decode cX5_foresee 88 = .ok (.aload_n 0, 1) := by decide +kernel
theorem dX5_foresee_89 : decode cX5_foresee 89 = .ok (.invokevirtual 112, 3) := by decide +kernel
theorem dX5_foresee_92 : decode cX5_foresee 92 = .ok (.goto 20, 3) := by decide +kernel
theorem dX5_foresee_95 : decode cX5_foresee 95 = .ok (.iload_n 2, 1) := by decide +kernel
theorem dX5_foresee_96 : decode cX5_foresee 96 = .ok (.iconst 1, 1) := by decide +kernel
theorem dX5_foresee_97 : decode cX5_foresee 97 = .ok (.if_icmp .ne 10, 3) := by decide +kernel
theorem dX5_foresee_100 : decode cX5_foresee 100 = .ok (.aload_n 0, 1) := by decide +kernel
theorem dX5_foresee_101 : decode cX5_foresee 101 = .ok (.invokevirtual 119, 3) := by decide +kernel
theorem dX5_foresee_104 : decode cX5_foresee 104 = .ok (.goto 8, 3) := by decide +kernel
theorem dX5_foresee_107 : decode cX5_foresee 107 = .ok (.aload_n 0, 1) := by decide +kernel
theorem dX5_foresee_108 : decode cX5_foresee 108 = .ok (.iconst 0, 1) := by decide +kernel
theorem dX5_foresee_109 : decode cX5_foresee 109 = .ok (.invokevirtual 92, 3) := by decide +kernel
theorem dX5_foresee_112 : decode cX5_foresee 112 = .ok (.istore 6, 2) := by decide +kernel
theorem dX5_foresee_114 : decode cX5_foresee 114 = .ok (.aload_n 0, 1) := by decide +kernel
theorem dX5_foresee_115 : decode cX5_foresee 115 = .ok (.aload_n 3, 1) := by decide +kernel
theorem dX5_foresee_116 : decode cX5_foresee 116 = .ok (.aload 4, 2) := by decide +kernel
theorem dX5_foresee_118 : decode cX5_foresee 118 = .ok (.iload 5, 2) := by decide +kernel
theorem dX5_foresee_120 : decode cX5_foresee 120 = .ok (.invokevirtual 133, 3) := by decide +kernel
theorem dX5_foresee_123 : decode cX5_foresee 123 = .ok (.iload 6, 2) := by decide +kernel
theorem dX5_foresee_125 : decode cX5_foresee 125 = .ok (.ireturn, 1) := by decide +kernel
set_option maxRecDepth 20000 in
theorem ggX5_advise_X5_charted : GoodIn wsX5_advise wsX5_charted := goodIn_r _ [10, 11, 12, 13, 2, 3, 4, 5, 20, 21, 22, 23, 24, 25, 26, 27, 28, 29, 30] (by decide +kernel) (by decide +kernel)
set_option maxRecDepth 20000 in
theorem gX5_advise_X5_charted : GoodIn wsX5_advise (wsV RX5 81 RX5 yX5_charted wsX5_charted) := goodIn_app (goodIn_of _ (by decide +kernel)) ggX5_advise_X5_charted
set_option maxRecDepth 20000 in
theorem ggX5_advise_X5_depth : GoodIn wsX5_advise wsX5_depth := goodIn_r _ [17, 18, 19, 2, 3, 4, 5, 20, 21, 22, 23, 24, 25, 26, 27, 28, 29, 30] (by decide +kernel) (by decide +kernel)
set_option maxRecDepth 20000 in
theorem gX5_advise_X5_depth : GoodIn wsX5_advise (wsV RX5 72 RX5 yX5_depth wsX5_depth) := goodIn_app (goodIn_of _ (by decide +kernel)) ggX5_advise_X5_depth
theorem dX5_advise_0 : decode cX5_advise 0 = .ok (.aload_n 0, 1) := by decide +kernel
theorem dX5_advise_1 : decode cX5_advise 1 = .ok (.iconst 0, 1) := by decide +kernel
theorem dX5_advise_2 : decode cX5_advise 2 = .ok (.putfield 37, 3) := by decide +kernel
theorem dX5_advise_5 : decode cX5_advise 5 = .ok (.iconst (-1), 1) := by decide +kernel
theorem dX5_advise_6 : decode cX5_advise 6 = .ok (.istore_n 1, 1) := by decide +kernel
theorem dX5_advise_7 : decode cX5_advise 7 = .ok (.iconst 0, 1) := by decide +kernel
theorem dX5_advise_8 : decode cX5_advise 8 = .ok (.istore_n 2, 1) := by decide +kernel
theorem dX5_advise_9 : decode cX5_advise 9 = .ok (.iconst 0, 1) := by decide +kernel
theorem dX5_advise_10 : decode cX5_advise 10 = .ok (.istore_n 3, 1) := by decide +kernel
theorem dX5_advise_11 : decode cX5_advise 11 = .ok (.iload_n 3, 1) := by decide +kernel
theorem dX5_advise_12 : decode cX5_advise 12 = .ok (.bipush 81, 2) := by decide +kernel
theorem dX5_advise_14 : decode cX5_advise 14 = .ok (.if_icmp .ge 41, 3) := by decide +kernel
theorem dX5_advise_17 : decode cX5_advise 17 = .ok (.iconst 0, 1) := by decide +kernel
theorem dX5_advise_18 : decode cX5_advise 18 = .ok (.aload_n 0, 1) := by decide +kernel
theorem dX5_advise_19 : decode cX5_advise 19 = .ok (.iload_n 3, 1) := by decide +kernel
theorem dX5_advise_20 : decode cX5_advise 20 = .ok (.iconst 2, 1) := by decide +kernel
theorem dX5_advise_21 : decode cX5_advise 21 = .ok (.invokevirtual 81, 3) := by decide +kernel
theorem dX5_advise_24 : decode cX5_advise 24 = .ok (.invokestatic 45, 3) := by decide +kernel
theorem dX5_advise_27 : decode cX5_advise 27 = .ok (.aload_n 0, 1) := by decide +kernel
theorem dX5_advise_28 : decode cX5_advise 28 = .ok (.iload_n 3, 1) := by decide +kernel
theorem dX5_advise_29 : decode cX5_advise 29 = .ok (.invokevirtual 72, 3) := by decide +kernel
theorem dX5_advise_32 : decode cX5_advise 32 = .ok (.isub, 1) := by decide +kernel
theorem dX5_advise_33 : decode cX5_advise 33 = .ok (.istore 4, 2) := by decide +kernel
theorem dX5_advise_35 : decode cX5_advise 35 = .ok (.iload 4, 2) := by decide +kernel
theorem dX5_advise_37 : decode cX5_advise 37 = .ok (.iload_n 2, 1) := by decide +kernel
theorem dX5_advise_38 : decode cX5_advise 38 = .ok (.if_icmp .gt 6, 3) := by decide +kernel
theorem dX5_advise_41 : decode cX5_advise 41 = .ok (.goto 8, 3) := by decide +kernel
theorem dX5_advise_44 : decode cX5_advise 44 = .ok (.iload_n 3, 1) := by decide +kernel
theorem dX5_advise_45 : decode cX5_advise 45 = .ok (.istore_n 1, 1) := by decide +kernel
theorem dX5_advise_46 : decode cX5_advise 46 = .ok (.iload 4, 2) := by decide +kernel
theorem dX5_advise_48 : decode cX5_advise 48 = .ok (.istore_n 2, 1) := by decide +kernel
theorem dX5_advise_49 : decode cX5_advise 49 = .ok (.iinc 3 1, 3) := by decide +kernel
theorem dX5_advise_52 : decode cX5_advise 52 = .ok (.goto (-41), 3) := by decide +kernel
theorem dX5_advise_55 : decode cX5_advise 55 = .ok (.iload_n 1, 1) := by decide +kernel
theorem dX5_advise_56 : decode cX5_advise 56 = .ok (.ireturn, 1) := by decide +kernel
set_option maxRecDepth 20000 in
theorem ggX5_mean_X5_depth : GoodIn wsX5_mean wsX5_depth := goodIn_r _ [7, 8, 9, 10, 11, 12, 13, 14, 15, 16, 17, 18, 19, 20, 21, 22, 23, 24] (by decide +kernel) (by decide +kernel)
set_option maxRecDepth 20000 in
theorem gX5_mean_X5_depth : GoodIn wsX5_mean (wsV RX5 72 RX5 yX5_depth wsX5_depth) := goodIn_app (goodIn_of _ (by decide +kernel)) ggX5_mean_X5_depth
theorem dX5_mean_0 : decode cX5_mean 0 = .ok (.aload_n 0, 1) := by decide +kernel
theorem dX5_mean_1 : decode cX5_mean 1 = .ok (.iconst 0, 1) := by decide +kernel
theorem dX5_mean_2 : decode cX5_mean 2 = .ok (.putfield 37, 3) := by decide +kernel
theorem dX5_mean_5 : decode cX5_mean 5 = .ok (.iconst 0, 1) := by decide +kernel
theorem dX5_mean_6 : decode cX5_mean 6 = .ok (.istore_n 1, 1) := by decide +kernel
theorem dX5_mean_7 : decode cX5_mean 7 = .ok (.iconst 0, 1) := by decide +kernel
theorem dX5_mean_8 : decode cX5_mean 8 = .ok (.istore_n 2, 1) := by decide +kernel
theorem dX5_mean_9 : decode cX5_mean 9 = .ok (.iload_n 2, 1) := by decide +kernel
theorem dX5_mean_10 : decode cX5_mean 10 = .ok (.bipush 81, 2) := by decide +kernel
theorem dX5_mean_12 : decode cX5_mean 12 = .ok (.if_icmp .ge 17, 3) := by decide +kernel
theorem dX5_mean_15 : decode cX5_mean 15 = .ok (.iload_n 1, 1) := by decide +kernel
theorem dX5_mean_16 : decode cX5_mean 16 = .ok (.aload_n 0, 1) := by decide +kernel
theorem dX5_mean_17 : decode cX5_mean 17 = .ok (.iload_n 2, 1) := by decide +kernel
theorem dX5_mean_18 : decode cX5_mean 18 = .ok (.invokevirtual 72, 3) := by decide +kernel
theorem dX5_mean_21 : decode cX5_mean 21 = .ok (.iadd, 1) := by decide +kernel
theorem dX5_mean_22 : decode cX5_mean 22 = .ok (.istore_n 1, 1) := by decide +kernel
theorem dX5_mean_23 : decode cX5_mean 23 = .ok (.iinc 2 1, 3) := by decide +kernel
theorem dX5_mean_26 : decode cX5_mean 26 = .ok (.goto (-17), 3) := by decide +kernel
theorem dX5_mean_29 : decode cX5_mean 29 = .ok (.iload_n 1, 1) := by decide +kernel
theorem dX5_mean_30 : decode cX5_mean 30 = .ok (.i2d, 1) := by decide +kernel
theorem dX5_mean_31 : decode cX5_mean 31 = .ok (.ldc2_w 137, 3) := by decide +kernel
theorem dX5_mean_34 : decode cX5_mean 34 = .ok (.ddiv, 1) := by decide +kernel
theorem dX5_mean_35 : decode cX5_mean 35 = .ok (.dreturn, 1) := by decide +kernel
set_option maxRecDepth 20000 in
theorem ggX5_digest_X5_counted : GoodIn wsX5_digest wsX5_counted := goodIn_r _ [12, 13, 7, 14, 15, 16, 17, 11, 18, 19, 20, 21, 22, 23, 24, 25, 26, 27, 28, 29, 30, 31, 32, 33, 34, 35, 36, 37, 38, 39, 40, 41, 42, 43, 44, 45, 46, 6, 52, 53, 54, 55, 56, 57, 58, 59, 60, 61, 62] (by decide +kernel) (by decide +kernel)
set_option maxRecDepth 20000 in
theorem gX5_digest_X5_counted : GoodIn wsX5_digest (wsV RX5 125 RX5 yX5_counted wsX5_counted) := goodIn_app (goodIn_of _ (by decide +kernel)) ggX5_digest_X5_counted
set_option maxRecDepth 20000 in
theorem ggX5_digest_X5_charted : GoodIn wsX5_digest wsX5_charted := goodIn_r _ [50, 14, 13, 51, 39, 40, 41, 42, 52, 53, 54, 55, 56, 57, 58, 59, 60, 61, 62] (by decide +kernel) (by decide +kernel)
set_option maxRecDepth 20000 in
theorem gX5_digest_X5_charted : GoodIn wsX5_digest (wsV RX5 81 RX5 yX5_charted wsX5_charted) := goodIn_app (goodIn_of _ (by decide +kernel)) ggX5_digest_X5_charted
theorem dX5_digest_0 : decode cX5_digest 0 = .ok (.aload_n 0, 1) := by decide +kernel
theorem dX5_digest_1 : decode cX5_digest 1 = .ok (.iconst 0, 1) := by decide +kernel
theorem dX5_digest_2 : decode cX5_digest 2 = .ok (.putfield 37, 3) := by decide +kernel
theorem dX5_digest_5 : decode cX5_digest 5 = .ok (.ldc2_w 139, 3) := by decide +kernel
theorem dX5_digest_8 : decode cX5_digest 8 = .ok (.lstore_n 1, 1) := by decide +kernel
theorem dX5_digest_9 : decode cX5_digest 9 = .ok (.iconst 0, 1) := by decide +kernel
theorem dX5_digest_10 : decode cX5_digest 10 = .ok (.istore_n 3, 1) := by decide +kernel
theorem dX5_digest_11 : decode cX5_digest 11 = .ok (.iload_n 3, 1) := by decide +kernel
theorem dX5_digest_12 : decode cX5_digest 12 = .ok (.bipush 8, 2) := by decide +kernel
theorem dX5_digest_14 : decode cX5_digest 14 = .ok (.if_icmp .ge 22, 3) := by decide +kernel
theorem dX5_digest_17 : decode cX5_digest 17 = .ok (.lload_n 1, 1) := by decide +kernel
theorem dX5_digest_18 : decode cX5_digest 18 = .ok (.ldc2_w 141, 3) := by decide +kernel
theorem dX5_digest_21 : decode cX5_digest 21 = .ok (.lmul, 1) := by decide +kernel
theorem dX5_digest_22 : decode cX5_digest 22 = .ok (.aload_n 0, 1) := by decide +kernel
theorem dX5_digest_23 : decode cX5_digest 23 = .ok (.iload_n 3, 1) := by decide +kernel
theorem dX5_digest_24 : decode cX5_digest 24 = .ok (.invokevirtual 125, 3) := by decide +kernel
theorem dX5_digest_27 : decode cX5_digest 27 = .ok (.i2l, 1) := by decide +kernel
theorem dX5_digest_28 : decode cX5_digest 28 = .ok (.ladd, 1) := by decide +kernel
theorem dX5_digest_29 : decode cX5_digest 29 = .ok (.lstore_n 1, 1) := by decide +kernel
theorem dX5_digest_30 : decode cX5_digest 30 = .ok (.iinc 3 1, 3) := by decide +kernel
theorem dX5_digest_33 : decode cX5_digest 33 = .ok (.goto (-22), 3) := by decide +kernel
theorem dX5_digest_36 : decode cX5_digest 36 = .ok (.iconst 0, 1) := by decide +kernel
theorem dX5_digest_37 : decode cX5_digest 37 = .ok (.istore_n 3, 1) := by decide +kernel
theorem dX5_digest_38 : decode cX5_digest 38 = .ok (.iload_n 3, 1) := by decide +kernel
theorem dX5_digest_39 : decode cX5_digest 39 = .ok (.bipush 12, 2) := by decide +kernel
theorem dX5_digest_41 : decode cX5_digest 41 = .ok (.if_icmp .ge 33, 3) := by decide +kernel
theorem dX5_digest_44 : decode cX5_digest 44 = .ok (.lload_n 1, 1) := by decide +kernel
theorem dX5_digest_45 : decode cX5_digest 45 = .ok (.ldc2_w 141, 3) := by decide +kernel
theorem dX5_digest_48 : decode cX5_digest 48 = .ok (.lmul, 1) := by decide +kernel
theorem dX5_digest_49 : decode cX5_digest 49 = .ok (.bipush 10, 2) := by decide +kernel
theorem dX5_digest_51 : decode cX5_digest 51 = .ok (.aload_n 0, 1) := by decide +kernel
theorem dX5_digest_52 : decode cX5_digest 52 = .ok (.getfield 22, 3) := by decide +kernel
theorem dX5_digest_55 : decode cX5_digest 55 = .ok (.iload_n 3, 1) := by decide +kernel
theorem dX5_digest_56 : decode cX5_digest 56 = .ok (.iaload, 1) := by decide +kernel
theorem dX5_digest_57 : decode cX5_digest 57 = .ok (.imul, 1) := by decide +kernel
theorem dX5_digest_58 : decode cX5_digest 58 = .ok (.aload_n 0, 1) := by decide +kernel
theorem dX5_digest_59 : decode cX5_digest 59 = .ok (.getfield 25, 3) := by decide +kernel
theorem dX5_digest_62 : decode cX5_digest 62 = .ok (.iload_n 3, 1) := by decide +kernel
theorem dX5_digest_63 : decode cX5_digest 63 = .ok (.iaload, 1) := by decide +kernel
theorem dX5_digest_64 : decode cX5_digest 64 = .ok (.iadd, 1) := by decide +kernel
theorem dX5_digest_65 : decode cX5_digest 65 = .ok (.i2l, 1) := by decide +kernel
theorem dX5_digest_66 : decode cX5_digest 66 = .ok (.ladd, 1) := by decide +kernel
theorem dX5_digest_67 : decode cX5_digest 67 = .ok (.lstore_n 1, 1) := by decide +kernel
theorem dX5_digest_68 : decode cX5_digest 68 = .ok (.iinc 3 1, 3) := by decide +kernel
theorem dX5_digest_71 : decode cX5_digest 71 = .ok (.goto (-33), 3) := by decide +kernel
theorem dX5_digest_74 : decode cX5_digest 74 = .ok (.iconst 0, 1) := by decide +kernel
theorem dX5_digest_75 : decode cX5_digest 75 = .ok (.istore_n 3, 1) := by decide +kernel
theorem dX5_digest_76 : decode cX5_digest 76 = .ok (.iload_n 3, 1) := by decide +kernel
theorem dX5_digest_77 : decode cX5_digest 77 = .ok (.bipush 81, 2) := by decide +kernel
theorem dX5_digest_79 : decode cX5_digest 79 = .ok (.if_icmp .ge 65, 3) := by decide +kernel
theorem dX5_digest_82 : decode cX5_digest 82 = .ok (.lload_n 1, 1) := by decide +kernel
theorem dX5_digest_83 : decode cX5_digest 83 = .ok (.ldc2_w 141, 3) := by decide +kernel
theorem dX5_digest_86 : decode cX5_digest 86 = .ok (.lmul, 1) := by decide +kernel
theorem dX5_digest_87 : decode cX5_digest 87 = .ok (.aload_n 0, 1) := by decide +kernel
theorem dX5_digest_88 : decode cX5_digest 88 = .ok (.getfield 9, 3) := by decide +kernel
theorem dX5_digest_91 : decode cX5_digest 91 = .ok (.iload_n 3, 1) := by decide +kernel
theorem dX5_digest_92 : decode cX5_digest 92 = .ok (.iaload, 1) := by decide +kernel
theorem dX5_digest_93 : decode cX5_digest 93 = .ok (.i2l, 1) := by decide +kernel
theorem dX5_digest_94 : decode cX5_digest 94 = .ok (.ladd, 1) := by decide +kernel
theorem dX5_digest_95 : decode cX5_digest 95 = .ok (.ldc2_w 141, 3) := by decide +kernel
theorem dX5_digest_98 : decode cX5_digest 98 = .ok (.lmul, 1) := by decide +kernel
theorem dX5_digest_99 : decode cX5_digest 99 = .ok (.aload_n 0, 1) := by decide +kernel
theorem dX5_digest_100 : decode cX5_digest 100 = .ok (.getfield 13, 3) := by decide +kernel
theorem dX5_digest_103 : decode cX5_digest 103 = .ok (.iload_n 3, 1) := by decide +kernel
theorem dX5_digest_104 : decode cX5_digest 104 = .ok (.iaload, 1) := by decide +kernel
theorem dX5_digest_105 : decode cX5_digest 105 = .ok (.i2l, 1) := by decide +kernel
theorem dX5_digest_106 : decode cX5_digest 106 = .ok (.ladd, 1) := by decide +kernel
theorem dX5_digest_107 : decode cX5_digest 107 = .ok (.lstore_n 1, 1) := by decide +kernel
theorem dX5_digest_108 : decode cX5_digest 108 = .ok (.iconst 0, 1) := by decide +kernel
theorem dX5_digest_109 : decode cX5_digest 109 = .ok (.istore 4, 2) := by decide +kernel
theorem dX5_digest_111 : decode cX5_digest 111 = .ok (.iload 4, 2) := by decide +kernel
theorem dX5_digest_113 : decode cX5_digest 113 = .ok (.iconst 3, 1) := by decide +kernel
theorem dX5_digest_114 : decode cX5_digest 114 = .ok (.if_icmp .ge 24, 3) := by decide +kernel
theorem dX5_digest_117 : decode cX5_digest 117 = .ok (.lload_n 1, 1) := by decide +kernel
theorem dX5_digest_118 : decode cX5_digest 118 = .ok (.ldc2_w 141, 3) := by decide +kernel
theorem dX5_digest_121 : decode cX5_digest 121 = .ok (.lmul, 1) := by decide +kernel
theorem dX5_digest_122 : decode cX5_digest 122 = .ok (.aload_n 0, 1) := by decide +kernel
theorem dX5_digest_123 : decode cX5_digest 123 = .ok (.iload_n 3, 1) := by decide +kernel
theorem dX5_digest_124 : decode cX5_digest 124 = .ok (.iload 4, 2) := by decide +kernel
theorem dX5_digest_126 : decode cX5_digest 126 = .ok (.invokevirtual 81, 3) := by decide +kernel
theorem dX5_digest_129 : decode cX5_digest 129 = .ok (.i2l, 1) := by decide +kernel
theorem dX5_digest_130 : decode cX5_digest 130 = .ok (.ladd, 1) := by decide +kernel
theorem dX5_digest_131 : decode cX5_digest 131 = .ok (.lstore_n 1, 1) := by decide +kernel
theorem dX5_digest_132 : decode cX5_digest 132 = .ok (.iinc 4 1, 3) := by decide +kernel
theorem dX5_digest_135 : decode cX5_digest 135 = .ok (.goto (-24), 3) := by decide +kernel
theorem dX5_digest_138 : decode cX5_digest 138 = .ok (.iinc 3 1, 3) := by decide +kernel
theorem dX5_digest_141 : decode cX5_digest 141 = .ok (.goto (-65), 3) := by decide +kernel
theorem dX5_digest_144 : decode cX5_digest 144 = .ok (.lload_n 1, 1) := by decide +kernel
theorem dX5_digest_145 : decode cX5_digest 145 = .ok (.lreturn, 1) := by decide +kernel
