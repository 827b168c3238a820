set_option maxRecDepth 20000 in
theorem ggX0_init_J7_fill_53178 : GoodIn wsX0_init wsJ7_fill_53178 := goodIn_r _ [12] (by decide +kernel) (by decide +kernel)
set_option maxRecDepth 20000 in
theorem gX0_init_J7_fill_53178 : GoodIn wsX0_init (va_wsS RX0 22 yJ7_fill_53178 wsJ7_fill_53178) := goodIn_app (goodIn_of _ (by decide +kernel)) ggX0_init_J7_fill_53178
theorem dX0_init_0 : decode cX0_init 0 = .ok (.aload_n 0, 1) := by decide +kernel
theorem dX0_init_1 : decode cX0_init 1 = .ok (.invokespecial 3, 3) := by decide +kernel
theorem dX0_init_4 : decode cX0_init 4 = .ok (.aload_n 0, 1) := by decide +kernel
theorem dX0_init_5 : decode cX0_init 5 = .ok (.bipush 81, 2) := by decide +kernel
theorem dX0_init_7 : decode cX0_init 7 = .ok (.newarray .int, 2) := by decide +kernel
theorem dX0_init_9 : decode cX0_init 9 = .ok (.putfield 9, 3) := by decide +kernel
theorem dX0_init_12 : decode cX0_init 12 = .ok (.aload_n 0, 1) := by decide +kernel
theorem dX0_init_13 : decode cX0_init 13 = .ok (.bipush 81, 2) := by decide +kernel
theorem dX0_init_15 : decode cX0_init 15 = .ok (.newarray .int, 2) := by decide +kernel
theorem dX0_init_17 : decode cX0_init 17 = .ok (.putfield 15, 3) := by decide +kernel
theorem dX0_init_20 : decode cX0_init 20 = .ok (.aload_n 0, 1) := by decide +kernel
theorem dX0_init_21 : decode cX0_init 21 = .ok (.bipush 81, 2) := by decide +kernel
theorem dX0_init_23 : decode cX0_init 23 = .ok (.newarray .boolean, 2) := by decide +kernel
theorem dX0_init_25 : decode cX0_init 25 = .ok (.putfield 18, 3) := by decide +kernel
theorem dX0_init_28 : decode cX0_init 28 = .ok (.aload_n 0, 1) := by decide +kernel
theorem dX0_init_29 : decode cX0_init 29 = .ok (.getfield 9, 3) := by decide +kernel
theorem dX0_init_32 : decode cX0_init 32 = .ok (.bipush 20, 2) := by decide +kernel
theorem dX0_init_34 : decode cX0_init 34 = .ok (.invokestatic 22, 3) := by decide +kernel
theorem dX0_init_37 : decode cX0_init 37 = .ok (.return_, 1) := by decide +kernel
theorem dX0_becomeLike_0 : decode cX0_becomeLike 0 = .ok (.aload_n 1, 1) := by decide +kernel
theorem dX0_becomeLike_1 : decode cX0_becomeLike 1 = .ok (.getfield 9, 3) := by decide +kernel
theorem dX0_becomeLike_4 : decode cX0_becomeLike 4 = .ok (.iconst 0, 1) := by decide +kernel
theorem dX0_becomeLike_5 : decode cX0_becomeLike 5 = .ok (.aload_n 0, 1) := by decide +kernel
theorem dX0_becomeLike_6 : decode cX0_becomeLike 6 = .ok (.getfield 9, 3) := by decide +kernel
theorem dX0_becomeLike_9 : decode cX0_becomeLike 9 = .ok (.iconst 0, 1) := by decide +kernel
theorem dX0_becomeLike_10 : decode cX0_becomeLike 10 = .ok (.bipush 81, 2) := by decide +kernel
theorem dX0_becomeLike_12 : decode cX0_becomeLike 12 = .ok (.invokestatic 28, 3) := by decide +kernel
theorem dX0_becomeLike_15 : decode cX0_becomeLike 15 = .ok (.aload_n 1, 1) := by decide +kernel
theorem dX0_becomeLike_16 : decode cX0_becomeLike 16 = .ok (.getfield 15, 3) := by decide +kernel
theorem dX0_becomeLike_19 : decode cX0_becomeLike 19 = .ok (.iconst 0, 1) := by decide +kernel
theorem dX0_becomeLike_20 : decode cX0_becomeLike 20 = .ok (.aload_n 0, 1) := by decide +kernel
theorem dX0_becomeLike_21 : decode cX0_becomeLike 21 = .ok (.getfield 15, 3) := by decide +kernel
theorem dX0_becomeLike_24 : decode cX0_becomeLike 24 = .ok (.iconst 0, 1) := by decide +kernel
theorem dX0_becomeLike_25 : decode cX0_becomeLike 25 = .ok (.bipush 81, 2) := by decide +kernel
theorem dX0_becomeLike_27 : decode cX0_becomeLike 27 = .ok (.invokestatic 28, 3) := by decide +kernel
theorem dX0_becomeLike_30 : decode cX0_becomeLike 30 = .ok (.aload_n 0, 1) := by decide +kernel
theorem dX0_becomeLike_31 : decode cX0_becomeLike 31 = .ok (.aload_n 1, 1) := by decide +kernel
theorem dX0_becomeLike_32 : decode cX0_becomeLike 32 = .ok (.getfield 34, 3) := by decide +kernel
theorem dX0_becomeLike_35 : decode cX0_becomeLike 35 = .ok (.putfield 34, 3) := by decide +kernel
theorem dX0_becomeLike_38 : decode cX0_becomeLike 38 = .ok (.return_, 1) := by decide +kernel
theorem dX0_layGround_0 : decode cX0_layGround 0 = .ok (.aload_n 0, 1) := by decide +kernel
theorem dX0_layGround_1 : decode cX0_layGround 1 = .ok (.getfield 9, 3) := by decide +kernel
theorem dX0_layGround_4 : decode cX0_layGround 4 = .ok (.iload_n 1, 1) := by decide +kernel
theorem dX0_layGround_5 : decode cX0_layGround 5 = .ok (.iaload, 1) := by decide +kernel
theorem dX0_layGround_6 : decode cX0_layGround 6 = .ok (.istore_n 3, 1) := by decide +kernel
theorem dX0_layGround_7 : decode cX0_layGround 7 = .ok (.aload_n 0, 1) := by decide +kernel
theorem dX0_layGround_8 : decode cX0_layGround 8 = .ok (.getfield 9, 3) := by decide +kernel
theorem dX0_layGround_11 : decode cX0_layGround 11 = .ok (.iload_n 1, 1) := by decide +kernel
theorem dX0_layGround_12 : decode cX0_layGround 12 = .ok (.iload_n 2, 1) := by decide +kernel
theorem dX0_layGround_13 : decode cX0_layGround 13 = .ok (.iastore, 1) := by decide +kernel
theorem dX0_layGround_14 : decode cX0_layGround 14 = .ok (.aload_n 0, 1) := by decide +kernel
theorem dX0_layGround_15 : decode cX0_layGround 15 = .ok (.getfield 15, 3) := by decide +kernel
theorem dX0_layGround_18 : decode cX0_layGround 18 = .ok (.iload_n 1, 1) := by decide +kernel
theorem dX0_layGround_19 : decode cX0_layGround 19 = .ok (.aload_n 0, 1) := by decide +kernel
theorem dX0_layGround_20 : decode cX0_layGround 20 = .ok (.getfield 15, 3) := by decide +kernel
theorem dX0_layGround_23 : decode cX0_layGround 23 = .ok (.iload_n 1, 1) := by decide +kernel
theorem dX0_layGround_24 : decode cX0_layGround 24 = .ok (.iaload, 1) := by decide +kernel
theorem dX0_layGround_25 : decode cX0_layGround 25 = .ok (.iload_n 2, 1) := by decide +kernel
theorem dX0_layGround_26 : decode cX0_layGround 26 = .ok (.invokestatic 38, 3) := by decide +kernel
theorem dX0_layGround_29 : decode cX0_layGround 29 = .ok (.iastore, 1) := by decide +kernel
theorem dX0_layGround_30 : decode cX0_layGround 30 = .ok (.iload_n 3, 1) := by decide +kernel
theorem dX0_layGround_31 : decode cX0_layGround 31 = .ok (.ireturn, 1) := by decide +kernel
theorem dX0_setCoral_0 : decode cX0_setCoral 0 = .ok (.aload_n 0, 1) := by decide +kernel
theorem dX0_setCoral_1 : decode cX0_setCoral 1 = .ok (.getfield 15, 3) := by decide +kernel
theorem dX0_setCoral_4 : decode cX0_setCoral 4 = .ok (.iload_n 1, 1) := by decide +kernel
theorem dX0_setCoral_5 : decode cX0_setCoral 5 = .ok (.iaload, 1) := by decide +kernel
theorem dX0_setCoral_6 : decode cX0_setCoral 6 = .ok (.istore_n 3, 1) := by decide +kernel
theorem dX0_setCoral_7 : decode cX0_setCoral 7 = .ok (.aload_n 0, 1) := by decide +kernel
theorem dX0_setCoral_8 : decode cX0_setCoral 8 = .ok (.getfield 15, 3) := by decide +kernel
theorem dX0_setCoral_11 : decode cX0_setCoral 11 = .ok (.iload_n 1, 1) := by decide +kernel
theorem dX0_setCoral_12 : decode cX0_setCoral 12 = .ok (.iload_n 2, 1) := by decide +kernel
theorem dX0_setCoral_13 : decode cX0_setCoral 13 = .ok (.iastore, 1) := by decide +kernel
theorem dX0_setCoral_14 : decode cX0_setCoral 14 = .ok (.iload_n 3, 1) := by decide +kernel
theorem dX0_setCoral_15 : decode cX0_setCoral 15 = .ok (.ireturn, 1) := by decide +kernel
theorem dX0_groundOf_0 : decode cX0_groundOf 0 = .ok (.aload_n 0, 1) := by decide +kernel
theorem dX0_groundOf_1 : decode cX0_groundOf 1 = .ok (.getfield 9, 3) := by decide +kernel
theorem dX0_groundOf_4 : decode cX0_groundOf 4 = .ok (.iload_n 1, 1) := by decide +kernel
theorem dX0_groundOf_5 : decode cX0_groundOf 5 = .ok (.iaload, 1) := by decide +kernel
theorem dX0_groundOf_6 : decode cX0_groundOf 6 = .ok (.ireturn, 1) := by decide +kernel
theorem dX0_coralOf_0 : decode cX0_coralOf 0 = .ok (.aload_n 0, 1) := by decide +kernel
theorem dX0_coralOf_1 : decode cX0_coralOf 1 = .ok (.getfield 15, 3) := by decide +kernel
theorem dX0_coralOf_4 : decode cX0_coralOf 4 = .ok (.iload_n 1, 1) := by decide +kernel
theorem dX0_coralOf_5 : decode cX0_coralOf 5 = .ok (.iaload, 1) := by decide +kernel
theorem dX0_coralOf_6 : decode cX0_coralOf 6 = .ok (.ireturn, 1) := by decide +kernel
theorem dX0_depthOf_0 : decode cX0_depthOf 0 = .ok (.aload_n 0, 1) := by decide +kernel
theorem dX0_depthOf_1 : decode cX0_depthOf 1 = .ok (.getfield 9, 3) := by decide +kernel
theorem dX0_depthOf_4 : decode cX0_depthOf 4 = .ok (.iload_n 1, 1) := by decide +kernel
theorem dX0_depthOf_5 : decode cX0_depthOf 5 = .ok (.iaload, 1) := by decide +kernel
theorem dX0_depthOf_6 : decode cX0_depthOf 6 = .ok (.aload_n 0, 1) := by decide +kernel
theorem dX0_depthOf_7 : decode cX0_depthOf 7 = .ok (.getfield 15, 3) := by decide +kernel
theorem dX0_depthOf_10 : decode cX0_depthOf 10 = .ok (.iload_n 1, 1) := by decide +kernel
theorem dX0_depthOf_11 : decode cX0_depthOf 11 = .ok (.iaload, 1) := by decide +kernel
theorem dX0_depthOf_12 : decode cX0_depthOf 12 = .ok (.isub, 1) := by decide +kernel
theorem dX0_depthOf_13 : decode cX0_depthOf 13 = .ok (.iconst 0, 1) := by decide +kernel
theorem dX0_depthOf_14 : decode cX0_depthOf 14 = .ok (.invokestatic 44, 3) := by decide +kernel
theorem dX0_depthOf_17 : decode cX0_depthOf 17 = .ok (.ireturn, 1) := by decide +kernel
theorem dX0_isHead_0 : decode cX0_isHead 0 = .ok (.aload_n 0, 1) := by decide +kernel
theorem dX0_isHead_1 : decode cX0_isHead 1 = .ok (.getfield 15, 3) := by decide +kernel
theorem dX0_isHead_4 : decode cX0_isHead 4 = .ok (.iload_n 1, 1) := by decide +kernel
theorem dX0_isHead_5 : decode cX0_isHead 5 = .ok (.iaload, 1) := by decide +kernel
theorem dX0_isHead_6 : decode cX0_isHead 6 = .ok (.iconst 5, 1) := by decide +kernel
theorem dX0_isHead_7 : decode cX0_isHead 7 = .ok (.if_icmp .lt 7, 3) := by decide +kernel
theorem dX0_isHead_10 : decode cX0_isHead 10 = .ok (.iconst 1, 1) := by decide +kernel
theorem dX0_isHead_11 : decode cX0_isHead 11 = .ok (.goto 4, 3) := by decide +kernel
theorem dX0_isHead_14 : decode cX0_isHead 14 = .ok (.iconst 0, 1) := by decide +kernel
theorem dX0_isHead_15 : decode cX0_isHead 15 = .ok (.ireturn, 1) := by decide +kernel
theorem dX0_monthNow_0 : decode cX0_monthNow 0 = .ok (.aload_n 0, 1) := by decide +kernel
theorem dX0_monthNow_1 : decode cX0_monthNow 1 = .ok (.getfield 34, 3) := by decide +kernel
theorem dX0_monthNow_4 : decode cX0_monthNow 4 = .ok (.ireturn, 1) := by decide +kernel
set_option maxRecDepth 20000 in
theorem ggX0_heads_X0_isHead : GoodIn wsX0_heads wsX0_isHead := goodIn_r _ [5, 6, 7, 8, 9, 10] (by decide +kernel) (by decide +kernel)
set_option maxRecDepth 20000 in
theorem gX0_heads_X0_isHead : GoodIn wsX0_heads (wsV RX0 47 RX0 yX0_isHead wsX0_isHead) := goodIn_app (goodIn_of _ (by decide +kernel)) ggX0_heads_X0_isHead
theorem dX0_heads_0 : decode cX0_heads 0 = .ok (.iconst 0, 1) := by decide +kernel
theorem dX0_heads_1 : decode cX0_heads 1 = .ok (.istore_n 1, 1) := by decide +kernel
theorem dX0_heads_2 : decode cX0_heads 2 = .ok (.iconst 0, 1) := by decide +kernel
theorem dX0_heads_3 : decode cX0_heads 3 = .ok (.istore_n 2, 1) := by decide +kernel
theorem dX0_heads_4 : decode cX0_heads 4 = .ok (.iload_n 2, 1) := by decide +kernel
theorem dX0_heads_5 : decode cX0_heads 5 = .ok (.bipush 81, 2) := by decide +kernel
theorem dX0_heads_7 : decode cX0_heads 7 = .ok (.if_icmp .ge 20, 3) := by decide +kernel
theorem dX0_heads_10 : decode cX0_heads 10 = .ok (.aload_n 0, 1) := by decide +kernel
theorem dX0_heads_11 : decode cX0_heads 11 = .ok (.iload_n 2, 1) := by decide +kernel
theorem dX0_heads_12 : decode cX0_heads 12 = .ok (.invokevirtual 47, 3) := by decide +kernel
theorem dX0_heads_15 : decode cX0_heads 15 = .ok (.ifCond .eq 6, 3) := by decide +kernel
theorem dX0_heads_18 : decode cX0_heads 18 = .ok (.iinc 1 1, 3) := by decide +kernel
theorem dX0_heads_21 : decode cX0_heads 21 = .ok (.iinc 2 1, 3) := by decide +kernel
theorem dX0_heads_24 : decode cX0_heads 24 = .ok (.goto (-20), 3) := by decide +kernel
theorem dX0_heads_27 : decode cX0_heads 27 = .ok (.iload_n 1, 1) := by decide +kernel
theorem dX0_heads_28 : decode cX0_heads 28 = .ok (.ireturn, 1) := by decide +kernel
theorem dX0_allCoral_0 : decode cX0_allCoral 0 = .ok (.iconst 0, 1) := by decide +kernel
theorem dX0_allCoral_1 : decode cX0_allCoral 1 = .ok (.istore_n 1, 1) := by decide +kernel
theorem dX0_allCoral_2 : decode cX0_allCoral 2 = .ok (.iconst 0, 1) := by decide +kernel
theorem dX0_allCoral_3 : decode cX0_allCoral 3 = .ok (.istore_n 2, 1) := by decide +kernel
theorem dX0_allCoral_4 : decode cX0_allCoral 4 = .ok (.iload_n 2, 1) := by decide +kernel
theorem dX0_allCoral_5 : decode cX0_allCoral 5 = .ok (.bipush 81, 2) := by decide +kernel
theorem dX0_allCoral_7 : decode cX0_allCoral 7 = .ok (.if_icmp .ge 18, 3) := by decide +kernel
theorem dX0_allCoral_10 : decode cX0_allCoral 10 = .ok (.iload_n 1, 1) := by decide +kernel
theorem dX0_allCoral_11 : decode cX0_allCoral 11 = .ok (.aload_n 0, 1) := by decide +kernel
theorem dX0_allCoral_12 : decode cX0_allCoral 12 = .ok (.getfield 15, 3) := by decide +kernel
theorem dX0_allCoral_15 : decode cX0_allCoral 15 = .ok (.iload_n 2, 1) := by decide +kernel
theorem dX0_allCoral_16 : decode cX0_allCoral 16 = .ok (.iaload, 1) := by decide +kernel
theorem dX0_allCoral_17 : decode cX0_allCoral 17 = .ok (.iadd, 1) := by decide +kernel
theorem dX0_allCoral_18 : decode cX0_allCoral 18 = .ok (.istore_n 1, 1) := by decide +kernel
theorem dX0_allCoral_19 : decode cX0_allCoral 19 = .ok (.iinc 2 1, 3) := by decide +kernel
theorem dX0_allCoral_22 : decode cX0_allCoral 22 = .ok (.goto (-18), 3) := by decide +kernel
theorem dX0_allCoral_25 : decode cX0_allCoral 25 = .ok (.iload_n 1, 1) := by decide +kernel
theorem dX0_allCoral_26 : decode cX0_allCoral 26 = .ok (.ireturn, 1) := by decide +kernel
set_option maxRecDepth 20000 in
theorem ggX0_letMonthGo_X3_warmthIn : GoodIn wsX0_letMonthGo wsX3_warmthIn := goodIn_r _ [6, 7, 8, 9, 10, 11, 75, 76] (by decide +kernel) (by decide +kernel)
set_option maxRecDepth 20000 in
theorem gX0_letMonthGo_X3_warmthIn : GoodIn wsX0_letMonthGo (wsV RX0 51 RX3 yX3_warmthIn wsX3_warmthIn) := goodIn_app (goodIn_of _ (by decide +kernel)) ggX0_letMonthGo_X3_warmthIn
set_option maxRecDepth 20000 in
theorem ggX0_letMonthGo_X0_changeByWarmth : GoodIn wsX0_letMonthGo wsX0_changeByWarmth := goodIn_r _ [16, 17, 18, 19, 15, 20, 21, 22, 23, 24, 25, 26, 27, 28, 29, 30, 31, 32, 33, 34, 35, 36, 37, 38, 39, 40, 41, 42, 43, 44, 45, 46, 47, 48, 49, 50, 51, 52, 53, 71, 72, 73, 74] (by decide +kernel) (by decide +kernel)
set_option maxRecDepth 20000 in
theorem gX0_letMonthGo_X0_changeByWarmth : GoodIn wsX0_letMonthGo (wsV RX0 57 RX0 yX0_changeByWarmth wsX0_changeByWarmth) := goodIn_app (goodIn_of _ (by decide +kernel)) ggX0_letMonthGo_X0_changeByWarmth
set_option maxRecDepth 20000 in
theorem ggX0_letMonthGo_X0_seed : GoodIn wsX0_letMonthGo wsX0_seed := goodIn_r _ [57, 21, 30, 34, 35, 36, 15, 37, 38, 39, 40, 41, 42, 47, 48, 49, 50, 51, 52, 53, 71, 72, 73, 74] (by decide +kernel) (by decide +kernel)
set_option maxRecDepth 20000 in
theorem gX0_letMonthGo_X0_seed : GoodIn wsX0_letMonthGo (wsV RX0 61 RX0 yX0_seed wsX0_seed) := goodIn_app (goodIn_of _ (by decide +kernel)) ggX0_letMonthGo_X0_seed
set_option maxRecDepth 20000 in
theorem ggX0_letMonthGo_X3_stormIn : GoodIn wsX0_letMonthGo wsX3_stormIn := goodIn_r _ [61, 62, 8, 9, 10, 11, 75, 76] (by decide +kernel) (by decide +kernel)
set_option maxRecDepth 20000 in
theorem gX0_letMonthGo_X3_stormIn : GoodIn wsX0_letMonthGo (wsV RX0 64 RX3 yX3_stormIn wsX3_stormIn) := goodIn_app (goodIn_of _ (by decide +kernel)) ggX0_letMonthGo_X3_stormIn
set_option maxRecDepth 20000 in
theorem ggX0_letMonthGo_X0_breakByStorm : GoodIn wsX0_letMonthGo wsX0_breakByStorm := goodIn_r _ [66, 21, 31, 32, 24, 33, 43, 44, 45, 15, 46, 30, 22, 23, 25, 67, 68, 69, 70, 71, 72, 73, 74] (by decide +kernel) (by decide +kernel)
set_option maxRecDepth 20000 in
theorem gX0_letMonthGo_X0_breakByStorm : GoodIn wsX0_letMonthGo (wsV RX0 67 RX0 yX0_breakByStorm wsX0_breakByStorm) := goodIn_app (goodIn_of _ (by decide +kernel)) ggX0_letMonthGo_X0_breakByStorm
theorem dX0_letMonthGo_0 : decode cX0_letMonthGo 0 = .ok (.aload_n 0, 1) := by decide +kernel
theorem dX0_letMonthGo_1 : decode cX0_letMonthGo 1 = .ok (.aload_n 1, 1) := by decide +kernel
theorem dX0_letMonthGo_2 : decode cX0_letMonthGo 2 = .ok (.aload_n 0, 1) := by decide +kernel
theorem dX0_letMonthGo_3 : decode cX0_letMonthGo 3 = .ok (.getfield 34, 3) := by decide +kernel
theorem dX0_letMonthGo_6 : decode cX0_letMonthGo 6 = .ok (.invokevirtual 51, 3) := by decide +kernel
theorem dX0_letMonthGo_9 : decode cX0_letMonthGo 9 = .ok (.invokevirtual 57, 3) := by decide +kernel
theorem dX0_letMonthGo_12 : decode cX0_letMonthGo 12 = .ok (.aload_n 0, 1) := by decide +kernel
theorem dX0_letMonthGo_13 : decode cX0_letMonthGo 13 = .ok (.invokevirtual 61, 3) := by decide +kernel
theorem dX0_letMonthGo_16 : decode cX0_letMonthGo 16 = .ok (.aload_n 0, 1) := by decide +kernel
theorem dX0_letMonthGo_17 : decode cX0_letMonthGo 17 = .ok (.aload_n 1, 1) := by decide +kernel
theorem dX0_letMonthGo_18 : decode cX0_letMonthGo 18 = .ok (.aload_n 0, 1) := by decide +kernel
theorem dX0_letMonthGo_19 : decode cX0_letMonthGo 19 = .ok (.getfield 34, 3) := by decide +kernel
theorem dX0_letMonthGo_22 : decode cX0_letMonthGo 22 = .ok (.invokevirtual 64, 3) := by decide +kernel
theorem dX0_letMonthGo_25 : decode cX0_letMonthGo 25 = .ok (.invokevirtual 67, 3) := by decide +kernel
theorem dX0_letMonthGo_28 : decode cX0_letMonthGo 28 = .ok (.aload_n 0, 1) := by decide +kernel
theorem dX0_letMonthGo_29 : decode cX0_letMonthGo 29 = .ok (.dup, 1) := by decide +kernel
theorem dX0_letMonthGo_30 : decode cX0_letMonthGo 30 = .ok (.getfield 34, 3) := by decide +kernel
theorem dX0_letMonthGo_33 : decode cX0_letMonthGo 33 = .ok (.iconst 1, 1) := by decide +kernel
theorem dX0_letMonthGo_34 : decode cX0_letMonthGo 34 = .ok (.iadd, 1) := by decide +kernel
theorem dX0_letMonthGo_35 : decode cX0_letMonthGo 35 = .ok (.putfield 34, 3) := by decide +kernel
theorem dX0_letMonthGo_38 : decode cX0_letMonthGo 38 = .ok (.return_, 1) := by decide +kernel
set_option maxRecDepth 20000 in
theorem ggX0_changeByWarmth_X0_dieBack : GoodIn wsX0_changeByWarmth wsX0_dieBack := goodIn_r _ [5, 6, 7, 8, 9, 10, 39, 40, 41, 42] (by decide +kernel) (by decide +kernel)
set_option maxRecDepth 20000 in
theorem gX0_changeByWarmth_X0_dieBack : GoodIn wsX0_changeByWarmth (wsV RX0 70 RX0 yX0_dieBack wsX0_dieBack) := goodIn_app (goodIn_of _ (by decide +kernel)) ggX0_changeByWarmth_X0_dieBack
set_option maxRecDepth 20000 in
theorem ggX0_changeByWarmth_X0_grow : GoodIn wsX0_changeByWarmth wsX0_grow := goodIn_r _ [14, 6, 15, 16, 17, 9, 18, 19, 20, 21, 4, 22, 23, 24, 25, 26, 27, 28, 29, 30, 31, 7, 8, 10, 32, 33, 34, 35, 36, 37, 38, 39, 40, 41, 42] (by decide +kernel) (by decide +kernel)
set_option maxRecDepth 20000 in
theorem gX0_changeByWarmth_X0_grow : GoodIn wsX0_changeByWarmth (wsV RX0 73 RX0 yX0_grow wsX0_grow) := goodIn_app (goodIn_of _ (by decide +kernel)) ggX0_changeByWarmth_X0_grow
theorem dX0_changeByWarmth_0 : decode cX0_changeByWarmth 0 = .ok (.iload_n 1, 1) := by decide +kernel
theorem dX0_changeByWarmth_1 : decode cX0_changeByWarmth 1 = .ok (.bipush 8, 2) := by decide +kernel
theorem dX0_changeByWarmth_3 : decode cX0_changeByWarmth 3 = .ok (.if_icmp .lt 10, 3) := by decide +kernel
theorem dX0_changeByWarmth_6 : decode cX0_changeByWarmth 6 = .ok (.aload_n 0, 1) := by decide +kernel
theorem dX0_changeByWarmth_7 : decode cX0_changeByWarmth 7 = .ok (.invokevirtual 70, 3) := by decide +kernel
theorem dX0_changeByWarmth_10 : decode cX0_changeByWarmth 10 = .ok (.goto 12, 3) := by decide +kernel
theorem dX0_changeByWarmth_13 : decode cX0_changeByWarmth 13 = .ok (.iload_n 1, 1) := by decide +kernel
theorem dX0_changeByWarmth_14 : decode cX0_changeByWarmth 14 = .ok (.iconst 3, 1) := by decide +kernel
theorem dX0_changeByWarmth_15 : decode cX0_changeByWarmth 15 = .ok (.if_icmp .lt 7, 3) := by decide +kernel
theorem dX0_changeByWarmth_18 : decode cX0_changeByWarmth 18 = .ok (.aload_n 0, 1) := by decide +kernel
theorem dX0_changeByWarmth_19 : decode cX0_changeByWarmth 19 = .ok (.invokevirtual 73, 3) := by decide +kernel
theorem dX0_changeByWarmth_22 : decode cX0_changeByWarmth 22 = .ok (.return_, 1) := by decide +kernel
theorem dX0_dieBack_0 : decode cX0_dieBack 0 = .ok (.iconst 0, 1) := by decide +kernel
theorem dX0_dieBack_1 : decode cX0_dieBack 1 = .ok (.istore_n 1, 1) := by decide +kernel
theorem dX0_dieBack_2 : decode cX0_dieBack 2 = .ok (.iload_n 1, 1) := by decide +kernel
theorem dX0_dieBack_3 : decode cX0_dieBack 3 = .ok (.bipush 81, 2) := by decide +kernel
theorem dX0_dieBack_5 : decode cX0_dieBack 5 = .ok (.if_icmp .ge 27, 3) := by decide +kernel
theorem dX0_dieBack_8 : decode cX0_dieBack 8 = .ok (.aload_n 0, 1) := by decide +kernel
theorem dX0_dieBack_9 : decode cX0_dieBack 9 = .ok (.getfield 15, 3) := by decide +kernel
theorem dX0_dieBack_12 : decode cX0_dieBack 12 = .ok (.iload_n 1, 1) := by decide +kernel
theorem dX0_dieBack_13 : decode cX0_dieBack 13 = .ok (.aload_n 0, 1) := by decide +kernel
theorem dX0_dieBack_14 : decode cX0_dieBack 14 = .ok (.getfield 15, 3) := by decide +kernel
theorem dX0_dieBack_17 : decode cX0_dieBack 17 = .ok (.iload_n 1, 1) := by decide +kernel
theorem dX0_dieBack_18 : decode cX0_dieBack 18 = .ok (.iaload, 1) := by decide +kernel
theorem dX0_dieBack_19 : decode cX0_dieBack 19 = .ok (.iconst 1, 1) := by decide +kernel
theorem dX0_dieBack_20 : decode cX0_dieBack 20 = .ok (.isub, 1) := by decide +kernel
theorem dX0_dieBack_21 : decode cX0_dieBack 21 = .ok (.iconst 0, 1) := by decide +kernel
theorem dX0_dieBack_22 : decode cX0_dieBack 22 = .ok (.invokestatic 44, 3) := by decide +kernel
theorem dX0_dieBack_25 : decode cX0_dieBack 25 = .ok (.iastore, 1) := by decide +kernel
theorem dX0_dieBack_26 : decode cX0_dieBack 26 = .ok (.iinc 1 1, 3) := by decide +kernel
theorem dX0_dieBack_29 : decode cX0_dieBack 29 = .ok (.goto (-27), 3) := by decide +kernel
theorem dX0_dieBack_32 : decode cX0_dieBack 32 = .ok (.return_, 1) := by decide +kernel
set_option maxRecDepth 20000 in
theorem ggX0_grow_X0_rememberHeads : GoodIn wsX0_grow wsX0_rememberHeads := goodIn_r _ [11, 12, 13, 14, 15, 10, 16, 1, 31, 32, 33, 34] (by decide +kernel) (by decide +kernel)
set_option maxRecDepth 20000 in
theorem gX0_grow_X0_rememberHeads : GoodIn wsX0_grow (wsV RX0 76 RX0 yX0_rememberHeads wsX0_rememberHeads) := goodIn_app (goodIn_of _ (by decide +kernel)) ggX0_grow_X0_rememberHeads
set_option maxRecDepth 20000 in
theorem ggX0_grow_X0_depthOf : GoodIn wsX0_grow wsX0_depthOf := goodIn_r _ [20, 2, 1, 21, 22, 5, 23, 31, 32, 33, 34] (by decide +kernel) (by decide +kernel)
set_option maxRecDepth 20000 in
theorem gX0_grow_X0_depthOf : GoodIn wsX0_grow (wsV RX0 79 RX0 yX0_depthOf wsX0_depthOf) := goodIn_app (goodIn_of _ (by decide +kernel)) ggX0_grow_X0_depthOf
set_option maxRecDepth 20000 in
theorem ggX0_grow_X0_headsBeside : GoodIn wsX0_grow wsX0_headsBeside := goodIn_r _ [27, 12, 28, 29, 30, 31, 32, 33, 34] (by decide +kernel) (by decide +kernel)
set_option maxRecDepth 20000 in
theorem gX0_grow_X0_headsBeside : GoodIn wsX0_grow (wsV RX0 82 RX0 yX0_headsBeside wsX0_headsBeside) := goodIn_app (goodIn_of _ (by decide +kernel)) ggX0_grow_X0_headsBeside
theorem dX0_grow_0 : decode cX0_grow 0 = .ok (.aload_n 0, 1) := by decide +kernel
theorem dX0_grow_1 : decode cX0_grow 1 = .ok (.invokevirtual 76, 3) := by decide +kernel
theorem dX0_grow_4 : decode cX0_grow 4 = .ok (.iconst 0, 1) := by decide +kernel
theorem dX0_grow_5 : decode cX0_grow 5 = .ok (.istore_n 1, 1) := by decide +kernel
theorem dX0_grow_6 : decode cX0_grow 6 = .ok (.iload_n 1, 1) := by decide +kernel
theorem dX0_grow_7 : decode cX0_grow 7 = .ok (.bipush 81, 2) := by decide +kernel
theorem dX0_grow_9 : decode cX0_grow 9 = .ok (.if_icmp .ge 75, 3) := by decide +kernel
theorem dX0_grow_12 : decode cX0_grow 12 = .ok (.aload_n 0, 1) := by decide +kernel
theorem dX0_grow_13 : decode cX0_grow 13 = .ok (.iload_n 1, 1) := by decide +kernel
theorem dX0_grow_14 : decode cX0_grow 14 = .ok (.invokevirtual 79, 3) := by decide +kernel
theorem dX0_grow_17 : decode cX0_grow 17 = .ok (.istore_n 2, 1) := by decide +kernel
theorem dX0_grow_18 : decode cX0_grow 18 = .ok (.aload_n 0, 1) := by decide +kernel
theorem dX0_grow_19 : decode cX0_grow 19 = .ok (.getfield 15, 3) := by decide +kernel
theorem dX0_grow_22 : decode cX0_grow 22 = .ok (.iload_n 1, 1) := by decide +kernel
theorem dX0_grow_23 : decode cX0_grow 23 = .ok (.iaload, 1) := by decide +kernel
theorem dX0_grow_24 : decode cX0_grow 24 = .ok (.ifCond .le 54, 3) := by decide +kernel
theorem dX0_grow_27 : decode cX0_grow 27 = .ok (.iload_n 2, 1) := by decide +kernel
theorem dX0_grow_28 : decode cX0_grow 28 = .ok (.iconst 2, 1) := by decide +kernel
theorem dX0_grow_29 : decode cX0_grow 29 = .ok (.if_icmp .lt 49, 3) := by decide +kernel
theorem dX0_grow_32 : decode cX0_grow 32 = .ok (.iload_n 2, 1) := by decide +kernel
theorem dX0_grow_33 : decode cX0_grow 33 = .ok (.bipush 15, 2) := by decide +kernel
theorem dX0_grow_35 : decode cX0_grow 35 = .ok (.if_icmp .gt 43, 3) := by decide +kernel
theorem dX0_grow_38 : decode cX0_grow 38 = .ok (.aload_n 0, 1) := by decide +kernel
theorem dX0_grow_39 : decode cX0_grow 39 = .ok (.iload_n 1, 1) := by decide +kernel
theorem dX0_grow_40 : decode cX0_grow 40 = .ok (.invokevirtual 82, 3) := by decide +kernel
theorem dX0_grow_43 : decode cX0_grow 43 = .ok (.iconst 2, 1) := by decide +kernel
theorem dX0_grow_44 : decode cX0_grow 44 = .ok (.if_icmp .lt 7, 3) := by decide +kernel
theorem dX0_grow_47 : decode cX0_grow 47 = .ok (.iconst 2, 1) := by decide +kernel
theorem dX0_grow_48 : decode cX0_grow 48 = .ok (.goto 4, 3) := by decide +kernel
theorem dX0_grow_51 : decode cX0_grow 51 = .ok (.iconst 1, 1) := by decide +kernel
theorem dX0_grow_52 : decode cX0_grow 52 = .ok (.istore_n 3, 1) := by decide +kernel
theorem dX0_grow_53 : decode cX0_grow 53 = .ok (.aload_n 0, 1) := by decide +kernel
theorem dX0_grow_54 : decode cX0_grow 54 = .ok (.getfield 15, 3) := by decide +kernel
theorem dX0_grow_57 : decode cX0_grow 57 = .ok (.iload_n 1, 1) := by decide +kernel
theorem dX0_grow_58 : decode cX0_grow 58 = .ok (.aload_n 0, 1) := by decide +kernel
theorem dX0_grow_59 : decode cX0_grow 59 = .ok (.getfield 15, 3) := by decide +kernel
theorem dX0_grow_62 : decode cX0_grow 62 = .ok (.iload_n 1, 1) := by decide +kernel
theorem dX0_grow_63 : decode cX0_grow 63 = .ok (.iaload, 1) := by decide +kernel
theorem dX0_grow_64 : decode cX0_grow 64 = .ok (.iload_n 3, 1) := by decide +kernel
theorem dX0_grow_65 : decode cX0_grow 65 = .ok (.iadd, 1) := by decide +kernel
theorem dX0_grow_66 : decode cX0_grow 66 = .ok (.aload_n 0, 1) := by decide +kernel
theorem dX0_grow_67 : decode cX0_grow 67 = .ok (.getfield 9, 3) := by decide +kernel
theorem dX0_grow_70 : decode cX0_grow 70 = .ok (.iload_n 1, 1) := by decide +kernel
theorem dX0_grow_71 : decode cX0_grow 71 = .ok (.iaload, 1) := by decide +kernel
theorem dX0_grow_72 : decode cX0_grow 72 = .ok (.iconst 1, 1) := by decide +kernel
theorem dX0_grow_73 : decode cX0_grow 73 = .ok (.isub, 1) := by decide +kernel
theorem dX0_grow_74 : decode cX0_grow 74 = .ok (.invokestatic 38, 3) := by decide +kernel
theorem dX0_grow_77 : decode cX0_grow 77 = .ok (.iastore, 1) := by decide +kernel
theorem dX0_grow_78 : decode cX0_grow 78 = .ok (.iinc 1 1, 3) := by decide +kernel
theorem dX0_grow_81 : decode cX0_grow 81 = .ok (.goto (-75), 3) := by decide +kernel
theorem dX0_grow_84 : decode cX0_grow 84 = .ok (.return_, 1) := by decide +kernel
set_option maxRecDepth 20000 in
theorem ggX0_seed_X0_rememberHeads : GoodIn wsX0_seed wsX0_rememberHeads := goodIn_r _ [7, 8, 9, 10, 11, 6, 12, 1, 20, 21, 22, 23] (by decide +kernel) (by decide +kernel)
set_option maxRecDepth 20000 in
theorem gX0_seed_X0_rememberHeads : GoodIn wsX0_seed (wsV RX0 76 RX0 yX0_rememberHeads wsX0_rememberHeads) := goodIn_app (goodIn_of _ (by decide +kernel)) ggX0_seed_X0_rememberHeads
set_option maxRecDepth 20000 in
theorem ggX0_seed_X0_headsBeside : GoodIn wsX0_seed wsX0_headsBeside := goodIn_r _ [16, 8, 17, 18, 19, 20, 21, 22, 23] (by decide +kernel) (by decide +kernel)
set_option maxRecDepth 20000 in
theorem gX0_seed_X0_headsBeside : GoodIn wsX0_seed (wsV RX0 82 RX0 yX0_headsBeside wsX0_headsBeside) := goodIn_app (goodIn_of _ (by decide +kernel)) ggX0_seed_X0_headsBeside
theorem dX0_seed_0 : decode cX0_seed 0 = .ok (.aload_n 0, 1) := by decide +kernel
theorem dX0_seed_1 : decode cX0_seed 1 = .ok (.invokevirtual 76, 3) := by decide +kernel
theorem dX0_seed_4 : decode cX0_seed 4 = .ok (.iconst 0, 1) := by decide +kernel
theorem dX0_seed_5 : decode cX0_seed 5 = .ok (.istore_n 1, 1) := by decide +kernel
theorem dX0_seed_6 : decode cX0_seed 6 = .ok (.iload_n 1, 1) := by decide +kernel
theorem dX0_seed_7 : decode cX0_seed 7 = .ok (.bipush 81, 2) := by decide +kernel
theorem dX0_seed_9 : decode cX0_seed 9 = .ok (.if_icmp .ge 64, 3) := by decide +kernel
theorem dX0_seed_12 : decode cX0_seed 12 = .ok (.aload_n 0, 1) := by decide +kernel
theorem dX0_seed_13 : decode cX0_seed 13 = .ok (.getfield 15, 3) := by decide +kernel
theorem dX0_seed_16 : decode cX0_seed 16 = .ok (.iload_n 1, 1) := by decide +kernel
theorem dX0_seed_17 : decode cX0_seed 17 = .ok (.iaload, 1) := by decide +kernel
theorem dX0_seed_18 : decode cX0_seed 18 = .ok (.ifCond .ne 28, 3) := by decide +kernel
theorem dX0_seed_21 : decode cX0_seed 21 = .ok (.aload_n 0, 1) := by decide +kernel
theorem dX0_seed_22 : decode cX0_seed 22 = .ok (.getfield 9, 3) := by decide +kernel
theorem dX0_seed_25 : decode cX0_seed 25 = .ok (.iload_n 1, 1) := by decide +kernel
theorem dX0_seed_26 : decode cX0_seed 26 = .ok (.iaload, 1) := by decide +kernel
theorem dX0_seed_27 : decode cX0_seed 27 = .ok (.iconst 3, 1) := by decide +kernel
theorem dX0_seed_28 : decode cX0_seed 28 = .ok (.if_icmp .lt 18, 3) := by decide +kernel
theorem dX0_seed_31 : decode cX0_seed 31 = .ok (.aload_n 0, 1) := by decide +kernel
theorem dX0_seed_32 : decode cX0_seed 32 = .ok (.getfield 9, 3) := by decide +kernel
theorem dX0_seed_35 : decode cX0_seed 35 = .ok (.iload_n 1, 1) := by decide +kernel
theorem dX0_seed_36 : decode cX0_seed 36 = .ok (.iaload, 1) := by decide +kernel
theorem dX0_seed_37 : decode cX0_seed 37 = .ok (.bipush 15, 2) := by decide +kernel
theorem dX0_seed_39 : decode cX0_seed 39 = .ok (.if_icmp .gt 7, 3) := by decide +kernel
theorem dX0_seed_42 : decode cX0_seed 42 = .ok (.iconst 1, 1) := by decide +kernel
theorem dX0_seed_43 : decode cX0_seed 43 = .ok (.goto 4, 3) := by decide +kernel
theorem dX0_seed_46 : decode cX0_seed 46 = .ok (.iconst 0, 1) := by decide +kernel
theorem dX0_seed_47 : decode cX0_seed 47 = .ok (.istore_n 2, 1) := by decide +kernel
theorem dX0_seed_48 : decode cX0_seed 48 = .ok (.iload_n 2, 1) := by decide +kernel
theorem dX0_seed_49 : decode cX0_seed 49 = .ok (.ifCond .eq 18, 3) := by decide +kernel
theorem dX0_seed_52 : decode cX0_seed 52 = .ok (.aload_n 0, 1) := by decide +kernel
theorem dX0_seed_53 : decode cX0_seed 53 = .ok (.iload_n 1, 1) := by decide +kernel
theorem dX0_seed_54 : decode cX0_seed 54 = .ok (.invokevirtual 82, 3) := by decide +kernel
theorem dX0_seed_57 : decode cX0_seed 57 = .ok (.ifCond .le 10, 3) := by decide +kernel
theorem dX0_seed_60 : decode cX0_seed 60 = .ok (.aload_n 0, 1) := by decide +kernel
theorem dX0_seed_61 : decode cX0_seed 61 = .ok (.getfield 15, 3) := by decide +kernel
theorem dX0_seed_64 : decode cX0_seed 64 = .ok (.iload_n 1, 1) := by decide +kernel
theorem dX0_seed_65 : decode cX0_seed 65 = .ok (.iconst 1, 1) := by decide +kernel
theorem dX0_seed_66 : decode cX0_seed 66 = .ok (.iastore, 1) := by decide +kernel
theorem dX0_seed_67 : decode cX0_seed 67 = .ok (.iinc 1 1, 3) := by decide +kernel
theorem dX0_seed_70 : decode cX0_seed 70 = .ok (.goto (-64), 3) := by decide +kernel
theorem dX0_seed_73 : decode cX0_seed 73 = .ok (.return_, 1) := by decide +kernel
set_option maxRecDepth 20000 in
theorem ggX0_rememberHeads_X0_isHead : GoodIn wsX0_rememberHeads wsX0_isHead := goodIn_r _ [6, 7, 8, 9, 10, 11] (by decide +kernel) (by decide +kernel)
set_option maxRecDepth 20000 in
theorem gX0_rememberHeads_X0_isHead : GoodIn wsX0_rememberHeads (wsV RX0 47 RX0 yX0_isHead wsX0_isHead) := goodIn_app (goodIn_of _ (by decide +kernel)) ggX0_rememberHeads_X0_isHead
theorem dX0_rememberHeads_0 : decode cX0_rememberHeads 0 = .ok (.iconst 0, 1) := by decide +kernel
theorem dX0_rememberHeads_1 : decode cX0_rememberHeads 1 = .ok (.istore_n 1, 1) := by decide +kernel
theorem dX0_rememberHeads_2 : decode cX0_rememberHeads 2 = .ok (.iload_n 1, 1) := by decide +kernel
theorem dX0_rememberHeads_3 : decode cX0_rememberHeads 3 = .ok (.bipush 81, 2) := by decide +kernel
theorem dX0_rememberHeads_5 : decode cX0_rememberHeads 5 = .ok (.if_icmp .ge 20, 3) := by decide +kernel
theorem dX0_rememberHeads_8 : decode cX0_rememberHeads 8 = .ok (.aload_n 0, 1) := by decide +kernel
theorem dX0_rememberHeads_9 : decode cX0_rememberHeads 9 = .ok (.getfield 18, 3) := by decide +kernel
theorem dX0_rememberHeads_12 : decode cX0_rememberHeads 12 = .ok (.iload_n 1, 1) := by decide +kernel
theorem dX0_rememberHeads_13 : decode cX0_rememberHeads 13 = .ok (.aload_n 0, 1) := by decide +kernel
theorem dX0_rememberHeads_14 : decode cX0_rememberHeads 14 = .ok (.iload_n 1, 1) := by decide +kernel
theorem dX0_rememberHeads_15 : decode cX0_rememberHeads 15 = .ok (.invokevirtual 47, 3) := by decide +kernel
theorem dX0_rememberHeads_18 : decode cX0_rememberHeads 18 = .ok (.bastore, 1) := by decide +kernel
theorem dX0_rememberHeads_19 : decode cX0_rememberHeads 19 = .ok (.iinc 1 1, 3) := by decide +kernel
theorem dX0_rememberHeads_22 : decode cX0_rememberHeads 22 = .ok (.goto (-20), 3) := by decide +kernel
theorem dX0_rememberHeads_25 : decode cX0_rememberHeads 25 = .ok (.return_, 1) := by decide +kernel
set_option maxRecDepth 20000 in
theorem ggX0_headsBeside_X4_neighbour : GoodIn wsX0_headsBeside wsX4_neighbour := goodIn_r _ [4] (by decide +kernel) (by decide +kernel)
set_option maxRecDepth 20000 in
theorem gX0_headsBeside_X4_neighbour_n85 : GoodIn wsX0_headsBeside (wsX4_neighbour) := ggX0_headsBeside_X4_neighbour
theorem dX0_headsBeside_0 : decode cX0_headsBeside 0 = .ok (.iconst 0, 1) := by decide +kernel
theorem dX0_headsBeside_1 : decode cX0_headsBeside 1 = .ok (.istore_n 2, 1) := by decide +kernel
theorem dX0_headsBeside_2 : decode cX0_headsBeside 2 = .ok (.iconst 0, 1) := by decide +kernel
theorem dX0_headsBeside_3 : decode cX0_headsBeside 3 = .ok (.istore_n 3, 1) := by decide +kernel
theorem dX0_headsBeside_4 : decode cX0_headsBeside 4 = .ok (.iload_n 3, 1) := by decide +kernel
theorem dX0_headsBeside_5 : decode cX0_headsBeside 5 = .ok (.iconst 4, 1) := by decide +kernel
theorem dX0_headsBeside_6 : decode cX0_headsBeside 6 = .ok (.if_icmp .ge 35, 3) := by decide +kernel
theorem dX0_headsBeside_9 : decode cX0_headsBeside 9 = .ok (.iload_n 1, 1) := by decide +kernel
theorem dX0_headsBeside_10 : decode cX0_headsBeside 10 = .ok (.iload_n 3, 1) := by decide +kernel
theorem dX0_headsBeside_11 : decode cX0_headsBeside 11 = .ok (.invokestatic 85, 3) := by decide +kernel
theorem dX0_headsBeside_14 : decode cX0_headsBeside 14 = .ok (.istore 4, 2) := by decide +kernel
theorem dX0_headsBeside_16 : decode cX0_headsBeside 16 = .ok (.iload 4, 2) := by decide +kernel
theorem dX0_headsBeside_18 : decode cX0_headsBeside 18 = .ok (.iconst (-1), 1) := by decide +kernel
theorem dX0_headsBeside_19 : decode cX0_headsBeside 19 = .ok (.if_icmp .eq 16, 3) := by decide +kernel
theorem dX0_headsBeside_22 : decode cX0_headsBeside 22 = .ok (.aload_n 0, 1) := by decide +kernel
theorem dX0_headsBeside_23 : decode cX0_headsBeside 23 = .ok (.getfield 18, 3) := by decide +kernel
theorem dX0_headsBeside_26 : decode cX0_headsBeside 26 = .ok (.iload 4, 2) := by decide +kernel
theorem dX0_headsBeside_28 : decode cX0_headsBeside 28 = .ok (.baload, 1) := by decide +kernel
theorem dX0_headsBeside_29 : decode cX0_headsBeside 29 = .ok (.ifCond .eq 6, 3) := by decide +kernel
theorem dX0_headsBeside_32 : decode cX0_headsBeside 32 = .ok (.iinc 2 1, 3) := by decide +kernel
theorem dX0_headsBeside_35 : decode cX0_headsBeside 35 = .ok (.iinc 3 1, 3) := by decide +kernel
theorem dX0_headsBeside_38 : decode cX0_headsBeside 38 = .ok (.goto (-34), 3) := by decide +kernel
theorem dX0_headsBeside_41 : decode cX0_headsBeside 41 = .ok (.iload_n 2, 1) := by decide +kernel
theorem dX0_headsBeside_42 : decode cX0_headsBeside 42 = .ok (.ireturn, 1) := by decide +kernel
set_option maxRecDepth 20000 in
theorem ggX0_breakByStorm_X0_depthOf : GoodIn wsX0_breakByStorm wsX0_depthOf := goodIn_r _ [10, 11, 1, 12, 13, 4, 14, 19, 20, 21, 22] (by decide +kernel) (by decide +kernel)
set_option maxRecDepth 20000 in
theorem gX0_breakByStorm_X0_depthOf : GoodIn wsX0_breakByStorm (wsV RX0 79 RX0 yX0_depthOf wsX0_depthOf) := goodIn_app (goodIn_of _ (by decide +kernel)) ggX0_breakByStorm_X0_depthOf
set_option maxRecDepth 20000 in
theorem ggX0_breakByStorm_X0_dropRubble : GoodIn wsX0_breakByStorm wsX0_dropRubble := goodIn_r _ [18, 11, 1, 12, 13, 4, 14, 19, 20, 21, 22] (by decide +kernel) (by decide +kernel)
set_option maxRecDepth 20000 in
theorem gX0_breakByStorm_X0_dropRubble : GoodIn wsX0_breakByStorm (wsV RX0 88 RX0 yX0_dropRubble wsX0_dropRubble) := goodIn_app (goodIn_of _ (by decide +kernel)) ggX0_breakByStorm_X0_dropRubble
theorem dX0_breakByStorm_0 : decode cX0_breakByStorm 0 = .ok (.iconst 0, 1) := by decide +kernel
theorem dX0_breakByStorm_1 : decode cX0_breakByStorm 1 = .ok (.istore_n 2, 1) := by decide +kernel
theorem dX0_breakByStorm_2 : decode cX0_breakByStorm 2 = .ok (.iload_n 2, 1) := by decide +kernel
theorem dX0_breakByStorm_3 : decode cX0_breakByStorm 3 = .ok (.bipush 81, 2) := by decide +kernel
theorem dX0_breakByStorm_5 : decode cX0_breakByStorm 5 = .ok (.if_icmp .ge 52, 3) := by decide +kernel
theorem dX0_breakByStorm_8 : decode cX0_breakByStorm 8 = .ok (.aload_n 0, 1) := by decide +kernel
theorem dX0_breakByStorm_9 : decode cX0_breakByStorm 9 = .ok (.iload_n 2, 1) := by decide +kernel
theorem dX0_breakByStorm_10 : decode cX0_breakByStorm 10 = .ok (.invokevirtual 79, 3) := by decide +kernel
theorem dX0_breakByStorm_13 : decode cX0_breakByStorm 13 = .ok (.iload_n 1, 1) := by decide +kernel
theorem dX0_breakByStorm_14 : decode cX0_breakByStorm 14 = .ok (.iconst 2, 1) := by decide +kernel
theorem dX0_breakByStorm_15 : decode cX0_breakByStorm 15 = .ok (.idiv, 1) := by decide +kernel
theorem dX0_breakByStorm_16 : decode cX0_breakByStorm 16 = .ok (.if_icmp .ge 35, 3) := by decide +kernel
theorem dX0_breakByStorm_19 : decode cX0_breakByStorm 19 = .ok (.iload_n 1, 1) := by decide +kernel
theorem dX0_breakByStorm_20 : decode cX0_breakByStorm 20 = .ok (.iconst 3, 1) := by decide +kernel
theorem dX0_breakByStorm_21 : decode cX0_breakByStorm 21 = .ok (.idiv, 1) := by decide +kernel
theorem dX0_breakByStorm_22 : decode cX0_breakByStorm 22 = .ok (.aload_n 0, 1) := by decide +kernel
theorem dX0_breakByStorm_23 : decode cX0_breakByStorm 23 = .ok (.getfield 15, 3) := by decide +kernel
theorem dX0_breakByStorm_26 : decode cX0_breakByStorm 26 = .ok (.iload_n 2, 1) := by decide +kernel
theorem dX0_breakByStorm_27 : decode cX0_breakByStorm 27 = .ok (.iaload, 1) := by decide +kernel
theorem dX0_breakByStorm_28 : decode cX0_breakByStorm 28 = .ok (.invokestatic 38, 3) := by decide +kernel
theorem dX0_breakByStorm_31 : decode cX0_breakByStorm 31 = .ok (.istore_n 3, 1) := by decide +kernel
theorem dX0_breakByStorm_32 : decode cX0_breakByStorm 32 = .ok (.aload_n 0, 1) := by decide +kernel
theorem dX0_breakByStorm_33 : decode cX0_breakByStorm 33 = .ok (.getfield 15, 3) := by decide +kernel
theorem dX0_breakByStorm_36 : decode cX0_breakByStorm 36 = .ok (.iload_n 2, 1) := by decide +kernel
theorem dX0_breakByStorm_37 : decode cX0_breakByStorm 37 = .ok (.dup2, 1) := by decide +kernel
theorem dX0_breakByStorm_38 : decode cX0_breakByStorm 38 = .ok (.iaload, 1) := by decide +kernel
theorem dX0_breakByStorm_39 : decode cX0_breakByStorm 39 = .ok (.iload_n 3, 1) := by decide +kernel
theorem dX0_breakByStorm_40 : decode cX0_breakByStorm 40 = .ok (.isub, 1) := by decide +kernel
theorem dX0_breakByStorm_41 : decode cX0_breakByStorm 41 = .ok (.iastore, 1) := by decide +kernel
theorem dX0_breakByStorm_42 : decode cX0_breakByStorm 42 = .ok (.aload_n 0, 1) := by decide +kernel
theorem dX0_breakByStorm_43 : decode cX0_breakByStorm 43 = .ok (.iload_n 2, 1) := by decide +kernel
theorem dX0_breakByStorm_44 : decode cX0_breakByStorm 44 = .ok (.bipush 9, 2) := by decide +kernel
theorem dX0_breakByStorm_46 : decode cX0_breakByStorm 46 = .ok (.iadd, 1) := by decide +kernel
theorem dX0_breakByStorm_47 : decode cX0_breakByStorm 47 = .ok (.iload_n 3, 1) := by decide +kernel
theorem dX0_breakByStorm_48 : decode cX0_breakByStorm 48 = .ok (.invokevirtual 88, 3) := by decide +kernel
theorem dX0_breakByStorm_51 : decode cX0_breakByStorm 51 = .ok (.iinc 2 1, 3) := by decide +kernel
theorem dX0_breakByStorm_54 : decode cX0_breakByStorm 54 = .ok (.goto (-52), 3) := by decide +kernel
theorem dX0_breakByStorm_57 : decode cX0_breakByStorm 57 = .ok (.return_, 1) := by decide +kernel
theorem dX0_dropRubble_0 : decode cX0_dropRubble 0 = .ok (.iload_n 1, 1) := by decide +kernel
theorem dX0_dropRubble_1 : decode cX0_dropRubble 1 = .ok (.bipush 81, 2) := by decide +kernel
theorem dX0_dropRubble_3 : decode cX0_dropRubble 3 = .ok (.if_icmp .ge 26, 3) := by decide +kernel
theorem dX0_dropRubble_6 : decode cX0_dropRubble 6 = .ok (.aload_n 0, 1) := by decide +kernel
theorem dX0_dropRubble_7 : decode cX0_dropRubble 7 = .ok (.getfield 9, 3) := by decide +kernel
theorem dX0_dropRubble_10 : decode cX0_dropRubble 10 = .ok (.iload_n 1, 1) := by decide +kernel
theorem dX0_dropRubble_11 : decode cX0_dropRubble 11 = .ok (.aload_n 0, 1) := by decide +kernel
theorem dX0_dropRubble_12 : decode cX0_dropRubble 12 = .ok (.getfield 9, 3) := by decide +kernel
theorem dX0_dropRubble_15 : decode cX0_dropRubble 15 = .ok (.iload_n 1, 1) := by decide +kernel
theorem dX0_dropRubble_16 : decode cX0_dropRubble 16 = .ok (.iaload, 1) := by decide +kernel
theorem dX0_dropRubble_17 : decode cX0_dropRubble 17 = .ok (.iload_n 2, 1) := by decide +kernel
theorem dX0_dropRubble_18 : decode cX0_dropRubble 18 = .ok (.isub, 1) := by decide +kernel
theorem dX0_dropRubble_19 : decode cX0_dropRubble 19 = .ok (.aload_n 0, 1) := by decide +kernel
theorem dX0_dropRubble_20 : decode cX0_dropRubble 20 = .ok (.getfield 15, 3) := by decide +kernel
theorem dX0_dropRubble_23 : decode cX0_dropRubble 23 = .ok (.iload_n 1, 1) := by decide +kernel
theorem dX0_dropRubble_24 : decode cX0_dropRubble 24 = .ok (.iaload, 1) := by decide +kernel
theorem dX0_dropRubble_25 : decode cX0_dropRubble 25 = .ok (.invokestatic 44, 3) := by decide +kernel
theorem dX0_dropRubble_28 : decode cX0_dropRubble 28 = .ok (.iastore, 1) := by decide +kernel
theorem dX0_dropRubble_29 : decode cX0_dropRubble 29 = .ok (.return_, 1) := by decide +kernel
set_option maxRecDepth 20000 in
theorem ggX1_init_J7_fill_53178 : GoodIn wsX1_init wsJ7_fill_53178 := goodIn_r _ [10] (by decide +kernel) (by decide +kernel)
set_option maxRecDepth 20000 in
theorem gX1_init_J7_fill_53178 : GoodIn wsX1_init (va_wsS RX1 18 yJ7_fill_53178 wsJ7_fill_53178) := goodIn_app (goodIn_of _ (by decide +kernel)) ggX1_init_J7_fill_53178
theorem dX1_init_0 : decode cX1_init 0 = .ok (.aload_n 0, 1) := by decide +kernel
theorem dX1_init_1 : decode cX1_init 1 = .ok (.invokespecial 3, 3) := by decide +kernel
theorem dX1_init_4 : decode cX1_init 4 = .ok (.aload_n 0, 1) := by decide +kernel
theorem dX1_init_5 : decode cX1_init 5 = .ok (.bipush 81, 2) := by decide +kernel
theorem dX1_init_7 : decode cX1_init 7 = .ok (.newarray .int, 2) := by decide +kernel
theorem dX1_init_9 : decode cX1_init 9 = .ok (.putfield 9, 3) := by decide +kernel
theorem dX1_init_12 : decode cX1_init 12 = .ok (.aload_n 0, 1) := by decide +kernel
theorem dX1_init_13 : decode cX1_init 13 = .ok (.bipush 81, 2) := by decide +kernel
theorem dX1_init_15 : decode cX1_init 15 = .ok (.newarray .int, 2) := by decide +kernel
theorem dX1_init_17 : decode cX1_init 17 = .ok (.putfield 15, 3) := by decide +kernel
theorem dX1_init_20 : decode cX1_init 20 = .ok (.aload_n 0, 1) := by decide +kernel
theorem dX1_init_21 : decode cX1_init 21 = .ok (.getfield 9, 3) := by decide +kernel
theorem dX1_init_24 : decode cX1_init 24 = .ok (.iconst (-1), 1) := by decide +kernel
theorem dX1_init_25 : decode cX1_init 25 = .ok (.invokestatic 18, 3) := by decide +kernel
theorem dX1_init_28 : decode cX1_init 28 = .ok (.return_, 1) := by decide +kernel
theorem dX1_note_0 : decode cX1_note 0 = .ok (.aload_n 0, 1) := by decide +kernel
theorem dX1_note_1 : decode cX1_note 1 = .ok (.getfield 9, 3) := by decide +kernel
theorem dX1_note_4 : decode cX1_note 4 = .ok (.iload_n 1, 1) := by decide +kernel
theorem dX1_note_5 : decode cX1_note 5 = .ok (.iload_n 2, 1) := by decide +kernel
theorem dX1_note_6 : decode cX1_note 6 = .ok (.iastore, 1) := by decide +kernel
theorem dX1_note_7 : decode cX1_note 7 = .ok (.aload_n 0, 1) := by decide +kernel
theorem dX1_note_8 : decode cX1_note 8 = .ok (.getfield 15, 3) := by decide +kernel
theorem dX1_note_11 : decode cX1_note 11 = .ok (.iload_n 1, 1) := by decide +kernel
theorem dX1_note_12 : decode cX1_note 12 = .ok (.iload_n 3, 1) := by decide +kernel
theorem dX1_note_13 : decode cX1_note 13 = .ok (.iastore, 1) := by decide +kernel
theorem dX1_note_14 : decode cX1_note 14 = .ok (.return_, 1) := by decide +kernel
theorem dX1_noted_0 : decode cX1_noted 0 = .ok (.aload_n 0, 1) := by decide +kernel
theorem dX1_noted_1 : decode cX1_noted 1 = .ok (.getfield 9, 3) := by decide +kernel
theorem dX1_noted_4 : decode cX1_noted 4 = .ok (.iload_n 1, 1) := by decide +kernel
theorem dX1_noted_5 : decode cX1_noted 5 = .ok (.iaload, 1) := by decide +kernel
theorem dX1_noted_6 : decode cX1_noted 6 = .ok (.ireturn, 1) := by decide +kernel
theorem dX1_age_0 : decode cX1_age 0 = .ok (.aload_n 0, 1) := by decide +kernel
theorem dX1_age_1 : decode cX1_age 1 = .ok (.getfield 9, 3) := by decide +kernel
theorem dX1_age_4 : decode cX1_age 4 = .ok (.iload_n 1, 1) := by decide +kernel
theorem dX1_age_5 : decode cX1_age 5 = .ok (.iaload, 1) := by decide +kernel
theorem dX1_age_6 : decode cX1_age 6 = .ok (.iconst (-1), 1) := by decide +kernel
theorem dX1_age_7 : decode cX1_age 7 = .ok (.if_icmp .ne 7, 3) := by decide +kernel
theorem dX1_age_10 : decode cX1_age 10 = .ok (.iconst (-1), 1) := by decide +kernel
theorem dX1_age_11 : decode cX1_age 11 = .ok (.goto 11, 3) := by decide +kernel
theorem dX1_age_14 : decode cX1_age 14 = .ok (.iload_n 2, 1) := by decide +kernel
theorem dX1_age_15 : decode cX1_age 15 = .ok (.aload_n 0, 1) := by decide +kernel
theorem dX1_age_16 : decode cX1_age 16 = .ok (.getfield 15, 3) := by decide +kernel
theorem dX1_age_19 : decode cX1_age 19 = .ok (.iload_n 1, 1) := by decide +kernel
theorem dX1_age_20 : decode cX1_age 20 = .ok (.iaload, 1) := by decide +kernel
theorem dX1_age_21 : decode cX1_age 21 = .ok (.isub, 1) := by decide +kernel
theorem dX1_age_22 : decode cX1_age 22 = .ok (.ireturn, 1) := by decide +kernel
theorem dX2_init_0 : decode cX2_init 0 = .ok (.aload_n 0, 1) := by decide +kernel
theorem dX2_init_1 : decode cX2_init 1 = .ok (.invokespecial 3, 3) := by decide +kernel
theorem dX2_init_4 : decode cX2_init 4 = .ok (.aload_n 0, 1) := by decide +kernel
theorem dX2_init_5 : decode cX2_init 5 = .ok (.bipush 81, 2) := by decide +kernel
theorem dX2_init_7 : decode cX2_init 7 = .ok (.newarray .boolean, 2) := by decide +kernel
theorem dX2_init_9 : decode cX2_init 9 = .ok (.putfield 9, 3) := by decide +kernel
theorem dX2_init_12 : decode cX2_init 12 = .ok (.aload_n 0, 1) := by decide +kernel
theorem dX2_init_13 : decode cX2_init 13 = .ok (.bipush 81, 2) := by decide +kernel
theorem dX2_init_15 : decode cX2_init 15 = .ok (.newarray .int, 2) := by decide +kernel
theorem dX2_init_17 : decode cX2_init 17 = .ok (.putfield 15, 3) := by decide +kernel
theorem dX2_init_20 : decode cX2_init 20 = .ok (.aload_n 0, 1) := by decide +kernel
theorem dX2_init_21 : decode cX2_init 21 = .ok (.bipush 81, 2) := by decide +kernel
theorem dX2_init_23 : decode cX2_init 23 = .ok (.newarray .int, 2) := by decide +kernel
theorem dX2_init_25 : decode cX2_init 25 = .ok (.putfield 19, 3) := by decide +kernel
theorem dX2_init_28 : decode cX2_init 28 = .ok (.return_, 1) := by decide +kernel
set_option maxRecDepth 20000 in
theorem ggX2_clear_J7_fill_53178 : GoodIn wsX2_clear wsJ7_fill_53178 := goodIn_r _ [6] (by decide +kernel) (by decide +kernel)
set_option maxRecDepth 20000 in
theorem gX2_clear_J7_fill_53178 : GoodIn wsX2_clear (va_wsS RX2 22 yJ7_fill_53178 wsJ7_fill_53178) := goodIn_app (goodIn_of _ (by decide +kernel)) ggX2_clear_J7_fill_53178
theorem dX2_clear_0 : decode cX2_clear 0 = .ok (.aload_n 0, 1) := by decide +kernel
theorem dX2_clear_1 : decode cX2_clear 1 = .ok (.getfield 15, 3) := by decide +kernel
theorem dX2_clear_4 : decode cX2_clear 4 = .ok (.iconst 0, 1) := by decide +kernel
theorem dX2_clear_5 : decode cX2_clear 5 = .ok (.invokestatic 22, 3) := by decide +kernel
theorem dX2_clear_8 : decode cX2_clear 8 = .ok (.aload_n 0, 1) := by decide +kernel
theorem dX2_clear_9 : decode cX2_clear 9 = .ok (.iconst 0, 1) := by decide +kernel
theorem dX2_clear_10 : decode cX2_clear 10 = .ok (.putfield 28, 3) := by decide +kernel
theorem dX2_clear_13 : decode cX2_clear 13 = .ok (.return_, 1) := by decide +kernel
theorem dX2_setOpen_0 : decode cX2_setOpen 0 = .ok (.aload_n 0, 1) := by decide +kernel
theorem dX2_setOpen_1 : decode cX2_setOpen 1 = .ok (.getfield 9, 3) := by decide +kernel
theorem dX2_setOpen_4 : decode cX2_setOpen 4 = .ok (.iload_n 1, 1) := by decide +kernel
theorem dX2_setOpen_5 : decode cX2_setOpen 5 = .ok (.iload_n 2, 1) := by decide +kernel
theorem dX2_setOpen_6 : decode cX2_setOpen 6 = .ok (.bastore, 1) := by decide +kernel
theorem dX2_setOpen_7 : decode cX2_setOpen 7 = .ok (.return_, 1) := by decide +kernel
theorem dX2_stepsTo_0 : decode cX2_stepsTo 0 = .ok (.aload_n 0, 1) := by decide +kernel
theorem dX2_stepsTo_1 : decode cX2_stepsTo 1 = .ok (.getfield 15, 3) := by decide +kernel
theorem dX2_stepsTo_4 : decode cX2_stepsTo 4 = .ok (.iload_n 1, 1) := by decide +kernel
theorem dX2_stepsTo_5 : decode cX2_stepsTo 5 = .ok (.iaload, 1) := by decide +kernel
theorem dX2_stepsTo_6 : decode cX2_stepsTo 6 = .ok (.ireturn, 1) := by decide +kernel
set_option maxRecDepth 20000 in
theorem ggX2_goFromRow_X2_reach : GoodIn wsX2_goFromRow wsX2_reach := goodIn_r _ [6, 7, 8, 1, 9, 17, 18, 19, 20] (by decide +kernel) (by decide +kernel)
set_option maxRecDepth 20000 in
theorem gX2_goFromRow_X2_reach : GoodIn wsX2_goFromRow (wsV RX2 32 RX2 yX2_reach wsX2_reach) := goodIn_app (goodIn_of _ (by decide +kernel)) ggX2_goFromRow_X2_reach
set_option maxRecDepth 20000 in
theorem ggX2_goFromRow_X2_goOnFrom : GoodIn wsX2_goFromRow wsX2_goOnFrom := goodIn_r _ [13, 1, 9, 8, 14, 15, 16, 2, 3, 4, 5, 6, 7, 17, 18, 19, 20] (by decide +kernel) (by decide +kernel)
set_option maxRecDepth 20000 in
theorem gX2_goFromRow_X2_goOnFrom : GoodIn wsX2_goFromRow (wsV RX2 36 RX2 yX2_goOnFrom wsX2_goOnFrom) := goodIn_app (goodIn_of _ (by decide +kernel)) ggX2_goFromRow_X2_goOnFrom
theorem dX2_goFromRow_0 : decode cX2_goFromRow 0 = .ok (.aload_n 0, 1) := by decide +kernel
theorem dX2_goFromRow_1 : decode cX2_goFromRow 1 = .ok (.getfield 28, 3) := by decide +kernel
theorem dX2_goFromRow_4 : decode cX2_goFromRow 4 = .ok (.istore_n 2, 1) := by decide +kernel
theorem dX2_goFromRow_5 : decode cX2_goFromRow 5 = .ok (.iconst 0, 1) := by decide +kernel
theorem dX2_goFromRow_6 : decode cX2_goFromRow 6 = .ok (.istore_n 3, 1) := by decide +kernel
theorem dX2_goFromRow_7 : decode cX2_goFromRow 7 = .ok (.iload_n 3, 1) := by decide +kernel
theorem dX2_goFromRow_8 : decode cX2_goFromRow 8 = .ok (.bipush 9, 2) := by decide +kernel
theorem dX2_goFromRow_10 : decode cX2_goFromRow 10 = .ok (.if_icmp .ge 17, 3) := by decide +kernel
theorem dX2_goFromRow_13 : decode cX2_goFromRow 13 = .ok (.aload_n 0, 1) := by decide +kernel
theorem dX2_goFromRow_14 : decode cX2_goFromRow 14 = .ok (.iload_n 1, 1) := by decide +kernel
theorem dX2_goFromRow_15 : decode cX2_goFromRow 15 = .ok (.iload_n 3, 1) := by decide +kernel
theorem dX2_goFromRow_16 : decode cX2_goFromRow 16 = .ok (.iadd, 1) := by decide +kernel
theorem dX2_goFromRow_17 : decode cX2_goFromRow 17 = .ok (.iconst 1, 1) := by decide +kernel
theorem dX2_goFromRow_18 : decode cX2_goFromRow 18 = .ok (.invokevirtual 32, 3) := by decide +kernel
theorem dX2_goFromRow_21 : decode cX2_goFromRow 21 = .ok (.iinc 3 1, 3) := by decide +kernel
theorem dX2_goFromRow_24 : decode cX2_goFromRow 24 = .ok (.goto (-17), 3) := by decide +kernel
theorem dX2_goFromRow_27 : decode cX2_goFromRow 27 = .ok (.aload_n 0, 1) := by decide +kernel
theorem dX2_goFromRow_28 : decode cX2_goFromRow 28 = .ok (.iload_n 2, 1) := by decide +kernel
theorem dX2_goFromRow_29 : decode cX2_goFromRow 29 = .ok (.invokevirtual 36, 3) := by decide +kernel
theorem dX2_goFromRow_32 : decode cX2_goFromRow 32 = .ok (.return_, 1) := by decide +kernel
set_option maxRecDepth 20000 in
theorem ggX2_goFromCell_X2_reach : GoodIn wsX2_goFromCell wsX2_reach := goodIn_r _ [6, 7, 8, 1, 9, 17, 18, 19, 20] (by decide +kernel) (by decide +kernel)
set_option maxRecDepth 20000 in
theorem gX2_goFromCell_X2_reach : GoodIn wsX2_goFromCell (wsV RX2 32 RX2 yX2_reach wsX2_reach) := goodIn_app (goodIn_of _ (by decide +kernel)) ggX2_goFromCell_X2_reach
set_option maxRecDepth 20000 in
theorem ggX2_goFromCell_X2_goOnFrom : GoodIn wsX2_goFromCell wsX2_goOnFrom := goodIn_r _ [13, 1, 9, 8, 14, 15, 16, 2, 3, 4, 5, 6, 7, 17, 18, 19, 20] (by decide +kernel) (by decide +kernel)
set_option maxRecDepth 20000 in
theorem gX2_goFromCell_X2_goOnFrom : GoodIn wsX2_goFromCell (wsV RX2 36 RX2 yX2_goOnFrom wsX2_goOnFrom) := goodIn_app (goodIn_of _ (by decide +kernel)) ggX2_goFromCell_X2_goOnFrom
theorem dX2_goFromCell_0 : decode cX2_goFromCell 0 = .ok (.aload_n 0, 1) := by decide +kernel
theorem dX2_goFromCell_1 : decode cX2_goFromCell 1 = .ok (.getfield 28, 3) := by decide +kernel
theorem dX2_goFromCell_4 : decode cX2_goFromCell 4 = .ok (.istore_n 2, 1) := by decide +kernel
theorem dX2_goFromCell_5 : decode cX2_goFromCell 5 = .ok (.aload_n 0, 1) := by decide +kernel
theorem dX2_goFromCell_6 : decode cX2_goFromCell 6 = .ok (.iload_n 1, 1) := by decide +kernel
theorem dX2_goFromCell_7 : decode cX2_goFromCell 7 = .ok (.iconst 1, 1) := by decide +kernel
theorem dX2_goFromCell_8 : decode cX2_goFromCell 8 = .ok (.invokevirtual 32, 3) := by decide +kernel
theorem dX2_goFromCell_11 : decode cX2_goFromCell 11 = .ok (.aload_n 0, 1) := by decide +kernel
theorem dX2_goFromCell_12 : decode cX2_goFromCell 12 = .ok (.iload_n 2, 1) := by decide +kernel
theorem dX2_goFromCell_13 : decode cX2_goFromCell 13 = .ok (.invokevirtual 36, 3) := by decide +kernel
theorem dX2_goFromCell_16 : decode cX2_goFromCell 16 = .ok (.aload_n 0, 1) := by decide +kernel
theorem dX2_goFromCell_17 : decode cX2_goFromCell 17 = .ok (.getfield 28, 3) := by decide +kernel
theorem dX2_goFromCell_20 : decode cX2_goFromCell 20 = .ok (.iload_n 2, 1) := by decide +kernel
theorem dX2_goFromCell_21 : decode cX2_goFromCell 21 = .ok (.isub, 1) := by decide +kernel
theorem dX2_goFromCell_22 : decode cX2_goFromCell 22 = .ok (.ireturn, 1) := by decide +kernel
set_option maxRecDepth 20000 in
theorem ggX2_nearerFrom_X4_neighbour : GoodIn wsX2_nearerFrom wsX4_neighbour := goodIn_r _ [4] (by decide +kernel) (by decide +kernel)
set_option maxRecDepth 20000 in
theorem gX2_nearerFrom_X4_neighbour_n40 : GoodIn wsX2_nearerFrom (wsX4_neighbour) := ggX2_nearerFrom_X4_neighbour
theorem dX2_nearerFrom_0 : decode cX2_nearerFrom 0 = .ok (.iload_n 1, 1) := by decide +kernel
theorem dX2_nearerFrom_1 : decode cX2_nearerFrom 1 = .ok (.istore_n 2, 1) := by decide +kernel
theorem dX2_nearerFrom_2 : decode cX2_nearerFrom 2 = .ok (.iconst 0, 1) := by decide +kernel
theorem dX2_nearerFrom_3 : decode cX2_nearerFrom 3 = .ok (.istore_n 3, 1) := by decide +kernel
theorem dX2_nearerFrom_4 : decode cX2_nearerFrom 4 = .ok (.iload_n 3, 1) := by decide +kernel
theorem dX2_nearerFrom_5 : decode cX2_nearerFrom 5 = .ok (.iconst 4, 1) := by decide +kernel
theorem dX2_nearerFrom_6 : decode cX2_nearerFrom 6 = .ok (.if_icmp .ge 51, 3) := by decide +kernel
theorem dX2_nearerFrom_9 : decode cX2_nearerFrom 9 = .ok (.iload_n 1, 1) := by decide +kernel
theorem dX2_nearerFrom_10 : decode cX2_nearerFrom 10 = .ok (.iload_n 3, 1) := by decide +kernel
theorem dX2_nearerFrom_11 : decode cX2_nearerFrom 11 = .ok (.invokestatic 40, 3) := by decide +kernel
theorem dX2_nearerFrom_14 : decode cX2_nearerFrom 14 = .ok (.istore 4, 2) := by decide +kernel
theorem dX2_nearerFrom_16 : decode cX2_nearerFrom 16 = .ok (.iload 4, 2) := by decide +kernel
theorem dX2_nearerFrom_18 : decode cX2_nearerFrom 18 = .ok (.iconst (-1), 1) := by decide +kernel
theorem dX2_nearerFrom_19 : decode cX2_nearerFrom 19 = .ok (.if_icmp .eq 32, 3) := by decide +kernel
theorem dX2_nearerFrom_22 : decode cX2_nearerFrom 22 = .ok (.aload_n 0, 1) := by decide +kernel
theorem dX2_nearerFrom_23 : decode cX2_nearerFrom 23 = .ok (.getfield 15, 3) := by decide +kernel
theorem dX2_nearerFrom_26 : decode cX2_nearerFrom 26 = .ok (.iload 4, 2) := by decide +kernel
theorem dX2_nearerFrom_28 : decode cX2_nearerFrom 28 = .ok (.iaload, 1) := by decide +kernel
theorem dX2_nearerFrom_29 : decode cX2_nearerFrom 29 = .ok (.ifCond .le 22, 3) := by decide +kernel
theorem dX2_nearerFrom_32 : decode cX2_nearerFrom 32 = .ok (.aload_n 0, 1) := by decide +kernel
theorem dX2_nearerFrom_33 : decode cX2_nearerFrom 33 = .ok (.getfield 15, 3) := by decide +kernel
theorem dX2_nearerFrom_36 : decode cX2_nearerFrom 36 = .ok (.iload 4, 2) := by decide +kernel
theorem dX2_nearerFrom_38 : decode cX2_nearerFrom 38 = .ok (.iaload, 1) := by decide +kernel
theorem dX2_nearerFrom_39 : decode cX2_nearerFrom 39 = .ok (.aload_n 0, 1) := by decide +kernel
theorem dX2_nearerFrom_40 : decode cX2_nearerFrom 40 = .ok (.getfield 15, 3) := by decide +kernel
theorem dX2_nearerFrom_43 : decode cX2_nearerFrom 43 = .ok (.iload_n 2, 1) := by decide +kernel
theorem dX2_nearerFrom_44 : decode cX2_nearerFrom 44 = .ok (.iaload, 1) := by decide +kernel
theorem dX2_nearerFrom_45 : decode cX2_nearerFrom 45 = .ok (.if_icmp .ge 6, 3) := by decide +kernel
theorem dX2_nearerFrom_48 : decode cX2_nearerFrom 48 = .ok (.iload 4, 2) := by decide +kernel
theorem dX2_nearerFrom_50 : decode cX2_nearerFrom 50 = .ok (.istore_n 2, 1) := by decide +kernel
theorem dX2_nearerFrom_51 : decode cX2_nearerFrom 51 = .ok (.iinc 3 1, 3) := by decide +kernel
theorem dX2_nearerFrom_54 : decode cX2_nearerFrom 54 = .ok (.goto (-50), 3) := by decide +kernel
theorem dX2_nearerFrom_57 : decode cX2_nearerFrom 57 = .ok (.iload_n 2, 1) := by decide +kernel
theorem dX2_nearerFrom_58 : decode cX2_nearerFrom 58 = .ok (.ireturn, 1) := by decide +kernel
set_option maxRecDepth 20000 in
theorem ggX2_goOnFrom_X4_neighbour : GoodIn wsX2_goOnFrom wsX4_neighbour := goodIn_r _ [6] (by decide +kernel) (by decide +kernel)
set_option maxRecDepth 20000 in
theorem gX2_goOnFrom_X4_neighbour_n40 : GoodIn wsX2_goOnFrom (wsX4_neighbour) := ggX2_goOnFrom_X4_neighbour
set_option maxRecDepth 20000 in
theorem ggX2_goOnFrom_X2_reach : GoodIn wsX2_goOnFrom wsX2_reach := goodIn_r _ [11, 12, 3, 1, 2, 13, 14, 15, 16] (by decide +kernel) (by decide +kernel)
set_option maxRecDepth 20000 in
theorem gX2_goOnFrom_X2_reach : GoodIn wsX2_goOnFrom (wsV RX2 32 RX2 yX2_reach wsX2_reach) := goodIn_app (goodIn_of _ (by decide +kernel)) ggX2_goOnFrom_X2_reach
theorem dX2_goOnFrom_0 : decode cX2_goOnFrom 0 = .ok (.iload_n 1, 1) := by decide +kernel
theorem dX2_goOnFrom_1 : decode cX2_goOnFrom 1 = .ok (.istore_n 2, 1) := by decide +kernel
theorem dX2_goOnFrom_2 : decode cX2_goOnFrom 2 = .ok (.iload_n 2, 1) := by decide +kernel
theorem dX2_goOnFrom_3 : decode cX2_goOnFrom 3 = .ok (.bipush 81, 2) := by decide +kernel
theorem dX2_goOnFrom_5 : decode cX2_goOnFrom 5 = .ok (.if_icmp .ge 67, 3) := by decide +kernel
theorem dX2_goOnFrom_8 : decode cX2_goOnFrom 8 = .ok (.iload_n 2, 1) := by decide +kernel
theorem dX2_goOnFrom_9 : decode cX2_goOnFrom 9 = .ok (.aload_n 0, 1) := by decide +kernel
theorem dX2_goOnFrom_10 : decode cX2_goOnFrom 10 = .ok (.getfield 28, 3) := by decide +kernel
theorem dX2_goOnFrom_13 : decode cX2_goOnFrom 13 = .ok (.if_icmp .ge 59, 3) := by decide +kernel
theorem dX2_goOnFrom_16 : decode cX2_goOnFrom 16 = .ok (.aload_n 0, 1) := by decide +kernel
theorem dX2_goOnFrom_17 : decode cX2_goOnFrom 17 = .ok (.getfield 19, 3) := by decide +kernel
theorem dX2_goOnFrom_20 : decode cX2_goOnFrom 20 = .ok (.iload_n 2, 1) := by decide +kernel
theorem dX2_goOnFrom_21 : decode cX2_goOnFrom 21 = .ok (.iaload, 1) := by decide +kernel
theorem dX2_goOnFrom_22 : decode cX2_goOnFrom 22 = .ok (.istore_n 3, 1) := by decide +kernel
theorem dX2_goOnFrom_23 : decode cX2_goOnFrom 23 = .ok (.iconst 0, 1) := by decide +kernel
theorem dX2_goOnFrom_24 : decode cX2_goOnFrom 24 = .ok (.istore 4, 2) := by decide +kernel
theorem dX2_goOnFrom_26 : decode cX2_goOnFrom 26 = .ok (.iload 4, 2) := by decide +kernel
theorem dX2_goOnFrom_28 : decode cX2_goOnFrom 28 = .ok (.iconst 4, 1) := by decide +kernel
theorem dX2_goOnFrom_29 : decode cX2_goOnFrom 29 = .ok (.if_icmp .ge 37, 3) := by decide +kernel
theorem dX2_goOnFrom_32 : decode cX2_goOnFrom 32 = .ok (.iload_n 3, 1) := by decide +kernel
theorem dX2_goOnFrom_33 : decode cX2_goOnFrom 33 = .ok (.iload 4, 2) := by decide +kernel
theorem dX2_goOnFrom_35 : decode cX2_goOnFrom 35 = .ok (.invokestatic 40, 3) := by decide +kernel
theorem dX2_goOnFrom_38 : decode cX2_goOnFrom 38 = .ok (.istore 5, 2) := by decide +kernel
theorem dX2_goOnFrom_40 : decode cX2_goOnFrom 40 = .ok (.iload 5, 2) := by decide +kernel
theorem dX2_goOnFrom_42 : decode cX2_goOnFrom 42 = .ok (.iconst (-1), 1) := by decide +kernel
theorem dX2_goOnFrom_43 : decode cX2_goOnFrom 43 = .ok (.if_icmp .eq 17, 3) := by decide +kernel
theorem dX2_goOnFrom_46 : decode cX2_goOnFrom 46 = .ok (.aload_n 0, 1) := by decide +kernel
theorem dX2_goOnFrom_47 : decode cX2_goOnFrom 47 = .ok (.iload 5, 2) := by decide +kernel
theorem dX2_goOnFrom_49 : decode cX2_goOnFrom 49 = .ok (.aload_n 0, 1) := by decide +kernel
theorem dX2_goOnFrom_50 : decode cX2_goOnFrom 50 = .ok (.getfield 15, 3) := by decide +kernel
theorem dX2_goOnFrom_53 : decode cX2_goOnFrom 53 = .ok (.iload_n 3, 1) := by decide +kernel
theorem dX2_goOnFrom_54 : decode cX2_goOnFrom 54 = .ok (.iaload, 1) := by decide +kernel
theorem dX2_goOnFrom_55 : decode cX2_goOnFrom 55 = .ok (.iconst 1, 1) := by decide +kernel
theorem dX2_goOnFrom_56 : decode cX2_goOnFrom 56 = .ok (.iadd, 1) := by decide +kernel
theorem dX2_goOnFrom_57 : decode cX2_goOnFrom 57 = .ok (.invokevirtual 32, 3) := by decide +kernel
theorem dX2_goOnFrom_60 : decode cX2_goOnFrom 60 = .ok (.iinc 4 1, 3) := by decide +kernel
theorem dX2_goOnFrom_63 : decode cX2_goOnFrom 63 = .ok (.goto (-37), 3) := by decide +kernel
theorem dX2_goOnFrom_66 : decode cX2_goOnFrom 66 = .ok (.iinc 2 1, 3) := by decide +kernel
theorem dX2_goOnFrom_69 : decode cX2_goOnFrom 69 = .ok (.goto (-67), 3) := by decide +kernel
theorem dX2_goOnFrom_72 : decode cX2_goOnFrom 72 = .ok (.return_, 1) := by decide +kernel
theorem dX2_reach_0 : decode cX2_reach 0 = .ok (.aload_n 0, 1) := by decide +kernel
theorem dX2_reach_1 : decode cX2_reach 1 = .ok (.getfield 9, 3) := by decide +kernel
theorem dX2_reach_4 : decode cX2_reach 4 = .ok (.iload_n 1, 1) := by decide +kernel
theorem dX2_reach_5 : decode cX2_reach 5 = .ok (.baload, 1) := by decide +kernel
theorem dX2_reach_6 : decode cX2_reach 6 = .ok (.ifCond .eq 48, 3) := by decide +kernel
theorem dX2_reach_9 : decode cX2_reach 9 = .ok (.aload_n 0, 1) := by decide +kernel
theorem dX2_reach_10 : decode cX2_reach 10 = .ok (.getfield 15, 3) := by decide +kernel
theorem dX2_reach_13 : decode cX2_reach 13 = .ok (.iload_n 1, 1) := by decide +kernel
theorem dX2_reach_14 : decode cX2_reach 14 = .ok (.iaload, 1) := by decide +kernel
theorem dX2_reach_15 : decode cX2_reach 15 = .ok (.ifCond .ne 39, 3) := by decide +kernel
theorem dX2_reach_18 : decode cX2_reach 18 = .ok (.aload_n 0, 1) := by decide +kernel
theorem dX2_reach_19 : decode cX2_reach 19 = .ok (.getfield 28, 3) := by decide +kernel
theorem dX2_reach_22 : decode cX2_reach 22 = .ok (.bipush 81, 2) := by decide +kernel
theorem dX2_reach_24 : decode cX2_reach 24 = .ok (.if_icmp .ge 30, 3) := by decide +kernel
theorem dX2_reach_27 : decode cX2_reach 27 = .ok (.aload_n 0, 1) := by decide +kernel
theorem dX2_reach_28 : decode cX2_reach 28 = .ok (.getfield 15, 3) := by decide +kernel
theorem dX2_reach_31 : decode cX2_reach 31 = .ok (.iload_n 1, 1) := by decide +kernel
theorem dX2_reach_32 : decode cX2_reach 32 = .ok (.iload_n 2, 1) := by decide +kernel
theorem dX2_reach_33 : decode cX2_reach 33 = .ok (.iastore, 1) := by decide +kernel
theorem dX2_reach_34 : decode cX2_reach 34 = .ok (.aload_n 0, 1) := by decide +kernel
theorem dX2_reach_35 : decode cX2_reach 35 = .ok (.getfield 19, 3) := by decide +kernel
theorem dX2_reach_38 : decode cX2_reach 38 = .ok (.aload_n 0, 1) := by decide +kernel
theorem dX2_reach_39 : decode cX2_reach 39 = .ok (.getfield 28, 3) := by decide +kernel
theorem dX2_reach_42 : decode cX2_reach 42 = .ok (.iload_n 1, 1) := by decide +kernel
theorem dX2_reach_43 : decode cX2_reach 43 = .ok (.iastore, 1) := by decide +kernel
theorem dX2_reach_44 : decode cX2_reach 44 = .ok (.aload_n 0, 1) := by decide +kernel
theorem dX2_reach_45 : decode cX2_reach 45 = .ok (.dup, 1) := by decide +kernel
theorem dX2_reach_46 : decode cX2_reach 46 = .ok (.getfield 28, 3) := by decide +kernel
theorem dX2_reach_49 : decode cX2_reach 49 = .ok (.iconst 1, 1) := by decide +kernel
theorem dX2_reach_50 : decode cX2_reach 50 = .ok (.iadd, 1) := by decide +kernel
theorem dX2_reach_51 : decode cX2_reach 51 = .ok (.putfield 28, 3) := by decide +kernel
theorem dX2_reach_54 : decode cX2_reach 54 = .ok (.return_, 1) := by decide +kernel
set_option maxRecDepth 20000 in
theorem ggX3_init_J7_fill_53178 : GoodIn wsX3_init wsJ7_fill_53178 := goodIn_r _ [10] (by decide +kernel) (by decide +kernel)
set_option maxRecDepth 20000 in
theorem gX3_init_J7_fill_53178 : GoodIn wsX3_init (va_wsS RX3 18 yJ7_fill_53178 wsJ7_fill_53178) := goodIn_app (goodIn_of _ (by decide +kernel)) ggX3_init_J7_fill_53178
theorem dX3_init_0 : decode cX3_init 0 = .ok (.aload_n 0, 1) := by decide +kernel
theorem dX3_init_1 : decode cX3_init 1 = .ok (.invokespecial 3, 3) := by decide +kernel
theorem dX3_init_4 : decode cX3_init 4 = .ok (.aload_n 0, 1) := by decide +kernel
theorem dX3_init_5 : decode cX3_init 5 = .ok (.bipush 12, 2) := by decide +kernel
theorem dX3_init_7 : decode cX3_init 7 = .ok (.newarray .int, 2) := by decide +kernel
theorem dX3_init_9 : decode cX3_init 9 = .ok (.putfield 9, 3) := by decide +kernel
theorem dX3_init_12 : decode cX3_init 12 = .ok (.aload_n 0, 1) := by decide +kernel
theorem dX3_init_13 : decode cX3_init 13 = .ok (.bipush 12, 2) := by decide +kernel
theorem dX3_init_15 : decode cX3_init 15 = .ok (.newarray .int, 2) := by decide +kernel
theorem dX3_init_17 : decode cX3_init 17 = .ok (.putfield 15, 3) := by decide +kernel
theorem dX3_init_20 : decode cX3_init 20 = .ok (.aload_n 0, 1) := by decide +kernel
theorem dX3_init_21 : decode cX3_init 21 = .ok (.getfield 9, 3) := by decide +kernel
theorem dX3_init_24 : decode cX3_init 24 = .ok (.iconst 4, 1) := by decide +kernel
theorem dX3_init_25 : decode cX3_init 25 = .ok (.invokestatic 18, 3) := by decide +kernel
theorem dX3_init_28 : decode cX3_init 28 = .ok (.return_, 1) := by decide +kernel
theorem dX3_write_0 : decode cX3_write 0 = .ok (.aload_n 0, 1) := by decide +kernel
theorem dX3_write_1 : decode cX3_write 1 = .ok (.getfield 9, 3) := by decide +kernel
theorem dX3_write_4 : decode cX3_write 4 = .ok (.iload_n 1, 1) := by decide +kernel
theorem dX3_write_5 : decode cX3_write 5 = .ok (.iload_n 2, 1) := by decide +kernel
theorem dX3_write_6 : decode cX3_write 6 = .ok (.iastore, 1) := by decide +kernel
theorem dX3_write_7 : decode cX3_write 7 = .ok (.aload_n 0, 1) := by decide +kernel
theorem dX3_write_8 : decode cX3_write 8 = .ok (.getfield 15, 3) := by decide +kernel
theorem dX3_write_11 : decode cX3_write 11 = .ok (.iload_n 1, 1) := by decide +kernel
theorem dX3_write_12 : decode cX3_write 12 = .ok (.iload_n 3, 1) := by decide +kernel
theorem dX3_write_13 : decode cX3_write 13 = .ok (.iastore, 1) := by decide +kernel
theorem dX3_write_14 : decode cX3_write 14 = .ok (.return_, 1) := by decide +kernel
theorem dX3_entry_0 : decode cX3_entry 0 = .ok (.bipush 10, 2) := by decide +kernel
theorem dX3_entry_2 : decode cX3_entry 2 = .ok (.aload_n 0, 1) := by decide +kernel
theorem dX3_entry_3 : decode cX3_entry 3 = .ok (.getfield 9, 3) := by decide +kernel
theorem dX3_entry_6 : decode cX3_entry 6 = .ok (.iload_n 1, 1) := by decide +kernel
theorem dX3_entry_7 : decode cX3_entry 7 = .ok (.iaload, 1) := by decide +kernel
theorem dX3_entry_8 : decode cX3_entry 8 = .ok (.imul, 1) := by decide +kernel
theorem dX3_entry_9 : decode cX3_entry 9 = .ok (.aload_n 0, 1) := by decide +kernel
theorem dX3_entry_10 : decode cX3_entry 10 = .ok (.getfield 15, 3) := by decide +kernel
theorem dX3_entry_13 : decode cX3_entry 13 = .ok (.iload_n 1, 1) := by decide +kernel
theorem dX3_entry_14 : decode cX3_entry 14 = .ok (.iaload, 1) := by decide +kernel
theorem dX3_entry_15 : decode cX3_entry 15 = .ok (.iadd, 1) := by decide +kernel
theorem dX3_entry_16 : decode cX3_entry 16 = .ok (.ireturn, 1) := by decide +kernel
set_option maxRecDepth 20000 in
theorem ggX3_warmthIn_J9_floorMod_7cf53 : GoodIn wsX3_warmthIn wsJ9_floorMod_7cf53 := goodIn_r _ [5] (by decide +kernel) (by decide +kernel)
set_option maxRecDepth 20000 in
theorem gX3_warmthIn_J9_floorMod_7cf53 : GoodIn wsX3_warmthIn (va_wsS RX3 24 yJ9_floorMod_7cf53 wsJ9_floorMod_7cf53) := goodIn_app (goodIn_of _ (by decide +kernel)) ggX3_warmthIn_J9_floorMod_7cf53
theorem dX3_warmthIn_0 : decode cX3_warmthIn 0 = .ok (.aload_n 0, 1) := by decide +kernel
theorem dX3_warmthIn_1 : decode cX3_warmthIn 1 = .ok (.getfield 9, 3) := by decide +kernel
theorem dX3_warmthIn_4 : decode cX3_warmthIn 4 = .ok (.iload_n 1, 1) := by decide +kernel
theorem dX3_warmthIn_5 : decode cX3_warmthIn 5 = .ok (.bipush 12, 2) := by decide +kernel
theorem dX3_warmthIn_7 : decode cX3_warmthIn 7 = .ok (.invokestatic 24, 3) := by decide +kernel
theorem dX3_warmthIn_10 : decode cX3_warmthIn 10 = .ok (.iaload, 1) := by decide +kernel
theorem dX3_warmthIn_11 : decode cX3_warmthIn 11 = .ok (.ireturn, 1) := by decide +kernel
set_option maxRecDepth 20000 in
theorem ggX3_stormIn_J9_floorMod_7cf53 : GoodIn wsX3_stormIn wsJ9_floorMod_7cf53 := goodIn_r _ [5] (by decide +kernel) (by decide +kernel)
set_option maxRecDepth 20000 in
theorem gX3_stormIn_J9_floorMod_7cf53 : GoodIn wsX3_stormIn (va_wsS RX3 24 yJ9_floorMod_7cf53 wsJ9_floorMod_7cf53) := goodIn_app (goodIn_of _ (by decide +kernel)) ggX3_stormIn_J9_floorMod_7cf53
theorem dX3_stormIn_0 : decode cX3_stormIn 0 = .ok (.aload_n 0, 1) := by decide +kernel
theorem dX3_stormIn_1 : decode cX3_stormIn 1 = .ok (.getfield 15, 3) := by decide +kernel
theorem dX3_stormIn_4 : decode cX3_stormIn 4 = .ok (.iload_n 1, 1) := by decide +kernel
theorem dX3_stormIn_5 : decode cX3_stormIn 5 = .ok (.bipush 12, 2) := by decide +kernel
theorem dX3_stormIn_7 : decode cX3_stormIn 7 = .ok (.invokestatic 24, 3) := by decide +kernel
theorem dX3_stormIn_10 : decode cX3_stormIn 10 = .ok (.iaload, 1) := by decide +kernel
theorem dX3_stormIn_11 : decode cX3_stormIn 11 = .ok (.ireturn, 1) := by decide +kernel
set_option maxRecDepth 20000 in
theorem ggX4_init_X3_init : GoodIn wsX4_init wsX3_init := goodIn_r _ [25, 26, 2, 3, 21, 27, 28, 29, 30, 31, 32, 55, 56] (by decide +kernel) (by decide +kernel)
set_option maxRecDepth 20000 in
theorem gX4_init_X3_init : GoodIn wsX4_init (wsX3_init) := ggX4_init_X3_init
set_option maxRecDepth 20000 in
theorem ggX4_init_X0_init : GoodIn wsX4_init wsX0_init := goodIn_r _ [35, 36, 2, 3, 21, 37, 38, 39, 40, 41, 30, 31, 32, 63, 64, 65, 66] (by decide +kernel) (by decide +kernel)
set_option maxRecDepth 20000 in
theorem gX4_init_X0_init : GoodIn wsX4_init (wsX0_init) := ggX4_init_X0_init
set_option maxRecDepth 20000 in
theorem ggX4_init_X1_init : GoodIn wsX4_init wsX1_init := goodIn_r _ [44, 45, 2, 3, 21, 46, 47, 48, 30, 31, 32, 67, 68] (by decide +kernel) (by decide +kernel)
set_option maxRecDepth 20000 in
theorem gX4_init_X1_init : GoodIn wsX4_init (wsX1_init) := ggX4_init_X1_init
set_option maxRecDepth 20000 in
theorem ggX4_init_X2_init : GoodIn wsX4_init wsX2_init := goodIn_r _ [50, 51, 2, 3, 39, 52, 21, 53, 54, 69, 70, 71, 72] (by decide +kernel) (by decide +kernel)
set_option maxRecDepth 20000 in
theorem gX4_init_X2_init_n35 : GoodIn wsX4_init (wsX2_init) := ggX4_init_X2_init
theorem dX4_init_0 : decode cX4_init 0 = .ok (.aload_n 0, 1) := by decide +kernel
theorem dX4_init_1 : decode cX4_init 1 = .ok (.invokespecial 3, 3) := by decide +kernel
theorem dX4_init_4 : decode cX4_init 4 = .ok (.aload_n 0, 1) := by decide +kernel
theorem dX4_init_5 : decode cX4_init 5 = .ok (.new 9, 3) := by decide +kernel
theorem dX4_init_8 : decode cX4_init 8 = .ok (.dup, 1) := by decide +kernel
theorem dX4_init_9 : decode cX4_init 9 = .ok (.invokespecial 11, 3) := by decide +kernel
theorem dX4_init_12 : decode cX4_init 12 = .ok (.putfield 12, 3) := by decide +kernel
theorem dX4_init_15 : decode cX4_init 15 = .ok (.aload_n 0, 1) := by decide +kernel
theorem dX4_init_16 : decode cX4_init 16 = .ok (.new 16, 3) := by decide +kernel
theorem dX4_init_19 : decode cX4_init 19 = .ok (.dup, 1) := by decide +kernel
theorem dX4_init_20 : decode cX4_init 20 = .ok (.invokespecial 18, 3) := by decide +kernel
theorem dX4_init_23 : decode cX4_init 23 = .ok (.putfield 19, 3) := by decide +kernel
theorem dX4_init_26 : decode cX4_init 26 = .ok (.aload_n 0, 1) := by decide +kernel
theorem dX4_init_27 : decode cX4_init 27 = .ok (.new 16, 3) := by decide +kernel
theorem dX4_init_30 : decode cX4_init 30 = .ok (.dup, 1) := by decide +kernel
theorem dX4_init_31 : decode cX4_init 31 = .ok (.invokespecial 18, 3) := by decide +kernel
theorem dX4_init_34 : decode cX4_init 34 = .ok (.putfield 23, 3) := by decide +kernel
theorem dX4_init_37 : decode cX4_init 37 = .ok (.aload_n 0, 1) := by decide +kernel
theorem dX4_init_38 : decode cX4_init 38 = .ok (.new 26, 3) := by decide +kernel
theorem dX4_init_41 : decode cX4_init 41 = .ok (.dup, 1) := by decide +kernel
theorem dX4_init_42 : decode cX4_init 42 = .ok (.invokespecial 28, 3) := by decide +kernel
theorem dX4_init_45 : decode cX4_init 45 = .ok (.putfield 29, 3) := by decide +kernel
theorem dX4_init_48 : decode cX4_init 48 = .ok (.aload_n 0, 1) := by decide +kernel
theorem dX4_init_49 : decode cX4_init 49 = .ok (.new 33, 3) := by decide +kernel
theorem dX4_init_52 : decode cX4_init 52 = .ok (.dup, 1) := by decide +kernel
theorem dX4_init_53 : decode cX4_init 53 = .ok (.invokespecial 35, 3) := by decide +kernel
theorem dX4_init_56 : decode cX4_init 56 = .ok (.putfield 36, 3) := by decide +kernel
theorem dX4_init_59 : decode cX4_init 59 = .ok (.aload_n 0, 1) := by decide +kernel
theorem dX4_init_60 : decode cX4_init 60 = .ok (.bipush 81, 2) := by decide +kernel
theorem dX4_init_62 : decode cX4_init 62 = .ok (.newarray .int, 2) := by decide +kernel
theorem dX4_init_64 : decode cX4_init 64 = .ok (.putfield 40, 3) := by decide +kernel
theorem dX4_init_67 : decode cX4_init 67 = .ok (.return_, 1) := by decide +kernel
set_option maxRecDepth 20000 in
theorem ggX4_setGround_X4_needCell : GoodIn wsX4_setGround wsX4_needCell := goodIn_ca (goodIn_r _ [5, 6, 7, 4, 8, 9, 10] (by decide +kernel) (by decide +kernel)) (goodIn_sub (fun _ h => List.mem_cons_of_mem _ (List.mem_append_left _ (List.mem_append_right _ h))) (by decide +kernel))
set_option maxRecDepth 20000 in
theorem gX4_setGround_X4_needCell : GoodIn wsX4_setGround (va_wsS RX4 44 yX4_needCell wsX4_needCell) := goodIn_app (goodIn_of _ (by decide +kernel)) ggX4_setGround_X4_needCell
set_option maxRecDepth 20000 in
theorem ggX4_setGround_X4_needWithin : GoodIn wsX4_setGround wsX4_needWithin := goodIn_ca (goodIn_r _ [13, 14, 15] (by decide +kernel) (by decide +kernel)) (goodIn_sub (fun _ h => List.mem_cons_of_mem _ (List.mem_append_right _ h)) (by decide +kernel))
set_option maxRecDepth 20000 in
theorem gX4_setGround_X4_needWithin : GoodIn wsX4_setGround (va_wsS RX4 48 yX4_needWithin wsX4_needWithin) := goodIn_app (goodIn_of _ (by decide +kernel)) ggX4_setGround_X4_needWithin
set_option maxRecDepth 20000 in
theorem ggX4_setGround_X0_layGround : GoodIn wsX4_setGround wsX0_layGround := goodIn_r _ [20, 21, 22, 23, 24, 25, 26, 33, 34, 35, 36] (by decide +kernel) (by decide +kernel)
set_option maxRecDepth 20000 in
theorem gX4_setGround_X0_layGround : GoodIn wsX4_setGround (wsV RX4 52 RX0 yX0_layGround wsX0_layGround) := goodIn_app (goodIn_of _ (by decide +kernel)) ggX4_setGround_X0_layGround
theorem dX4_setGround_0 : decode cX4_setGround 0 = .ok (.iload_n 1, 1) := by decide +kernel
theorem dX4_setGround_1 : decode cX4_setGround 1 = .ok (.iload_n 2, 1) := by decide +kernel
theorem dX4_setGround_2 : decode cX4_setGround 2 = .ok (.invokestatic 44, 3) := by decide +kernel
theorem dX4_setGround_5 : decode cX4_setGround 5 = .ok (.iload_n 3, 1) := by decide +kernel
theorem dX4_setGround_6 : decode cX4_setGround 6 = .ok (.iconst 0, 1) := by decide +kernel
theorem dX4_setGround_7 : decode cX4_setGround 7 = .ok (.bipush 40, 2) := by decide +kernel
theorem dX4_setGround_9 : decode cX4_setGround 9 = .ok (.invokestatic 48, 3) := by decide +kernel
theorem dX4_setGround_12 : decode cX4_setGround 12 = .ok (.aload_n 0, 1) := by decide +kernel
theorem dX4_setGround_13 : decode cX4_setGround 13 = .ok (.getfield 19, 3) := by decide +kernel
theorem dX4_setGround_16 : decode cX4_setGround 16 = .ok (.bipush 9, 2) := by decide +kernel
theorem dX4_setGround_18 : decode cX4_setGround 18 = .ok (.iload_n 2, 1) := by decide +kernel
theorem dX4_setGround_19 : decode cX4_setGround 19 = .ok (.imul, 1) := by decide +kernel
theorem dX4_setGround_20 : decode cX4_setGround 20 = .ok (.iload_n 1, 1) := by decide +kernel
theorem dX4_setGround_21 : decode cX4_setGround 21 = .ok (.iadd, 1) := by decide +kernel
theorem dX4_setGround_22 : decode cX4_setGround 22 = .ok (.iload_n 3, 1) := by decide +kernel
theorem dX4_setGround_23 : decode cX4_setGround 23 = .ok (.invokevirtual 52, 3) := by decide +kernel
theorem dX4_setGround_26 : decode cX4_setGround 26 = .ok (.ireturn, 1) := by decide +kernel
set_option maxRecDepth 20000 in
theorem ggX4_plant_X4_needCell : GoodIn wsX4_plant wsX4_needCell := goodIn_ca (goodIn_r _ [5, 6, 7, 4, 8, 9, 10] (by decide +kernel) (by decide +kernel)) (goodIn_sub (fun _ h => List.mem_cons_of_mem _ (List.mem_append_left _ (List.mem_append_right _ h))) (by decide +kernel))
set_option maxRecDepth 20000 in
theorem gX4_plant_X4_needCell : GoodIn wsX4_plant (va_wsS RX4 44 yX4_needCell wsX4_needCell) := goodIn_app (goodIn_of _ (by decide +kernel)) ggX4_plant_X4_needCell
set_option maxRecDepth 20000 in
theorem ggX4_plant_X0_groundOf : GoodIn wsX4_plant wsX0_groundOf := goodIn_r _ [15, 16, 33, 34, 35, 36] (by decide +kernel) (by decide +kernel)
set_option maxRecDepth 20000 in
theorem gX4_plant_X0_groundOf : GoodIn wsX4_plant (wsV RX4 56 RX0 yX0_groundOf wsX0_groundOf) := goodIn_app (goodIn_of _ (by decide +kernel)) ggX4_plant_X0_groundOf
set_option maxRecDepth 20000 in
theorem ggX4_plant_X4_needWithin : GoodIn wsX4_plant wsX4_needWithin := goodIn_ca (goodIn_r _ [19, 20, 21] (by decide +kernel) (by decide +kernel)) (goodIn_sub (fun _ h => List.mem_cons_of_mem _ (List.mem_append_right _ h)) (by decide +kernel))
set_option maxRecDepth 20000 in
theorem gX4_plant_X4_needWithin : GoodIn wsX4_plant (va_wsS RX4 48 yX4_needWithin wsX4_needWithin) := goodIn_app (goodIn_of _ (by decide +kernel)) ggX4_plant_X4_needWithin
set_option maxRecDepth 20000 in
theorem ggX4_plant_X0_setCoral : GoodIn wsX4_plant wsX0_setCoral := goodIn_r _ [25, 26, 33, 34, 35, 36] (by decide +kernel) (by decide +kernel)
set_option maxRecDepth 20000 in
theorem gX4_plant_X0_setCoral : GoodIn wsX4_plant (wsV RX4 60 RX0 yX0_setCoral wsX0_setCoral) := goodIn_app (goodIn_of _ (by decide +kernel)) ggX4_plant_X0_setCoral
theorem dX4_plant_0 : decode cX4_plant 0 = .ok (.iload_n 1, 1) := by decide +kernel
theorem dX4_plant_1 : decode cX4_plant 1 = .ok (.iload_n 2, 1) := by decide +kernel
theorem dX4_plant_2 : decode cX4_plant 2 = .ok (.invokestatic 44, 3) := by decide +kernel
theorem dX4_plant_5 : decode cX4_plant 5 = .ok (.iload_n 3, 1) := by decide +kernel
theorem dX4_plant_6 : decode cX4_plant 6 = .ok (.iconst 0, 1) := by decide +kernel
theorem dX4_plant_7 : decode cX4_plant 7 = .ok (.aload_n 0, 1) := by decide +kernel
theorem dX4_plant_8 : decode cX4_plant 8 = .ok (.getfield 19, 3) := by decide +kernel
theorem dX4_plant_11 : decode cX4_plant 11 = .ok (.bipush 9, 2) := by decide +kernel
theorem dX4_plant_13 : decode cX4_plant 13 = .ok (.iload_n 2, 1) := by decide +kernel
theorem dX4_plant_14 : decode cX4_plant 14 = .ok (.imul, 1) := by decide +kernel
theorem dX4_plant_15 : decode cX4_plant 15 = .ok (.iload_n 1, 1) := by decide +kernel
theorem dX4_plant_16 : decode cX4_plant 16 = .ok (.iadd, 1) := by decide +kernel
theorem dX4_plant_17 : decode cX4_plant 17 = .ok (.invokevirtual 56, 3) := by decide +kernel
theorem dX4_plant_20 : decode cX4_plant 20 = .ok (.invokestatic 48, 3) := by decide +kernel
theorem dX4_plant_23 : decode cX4_plant 23 = .ok (.aload_n 0, 1) := by decide +kernel
theorem dX4_plant_24 : decode cX4_plant 24 = .ok (.getfield 19, 3) := by decide +kernel
theorem dX4_plant_27 : decode cX4_plant 27 = .ok (.bipush 9, 2) := by decide +kernel
theorem dX4_plant_29 : decode cX4_plant 29 = .ok (.iload_n 2, 1) := by decide +kernel
theorem dX4_plant_30 : decode cX4_plant 30 = .ok (.imul, 1) := by decide +kernel
theorem dX4_plant_31 : decode cX4_plant 31 = .ok (.iload_n 1, 1) := by decide +kernel
theorem dX4_plant_32 : decode cX4_plant 32 = .ok (.iadd, 1) := by decide +kernel
theorem dX4_plant_33 : decode cX4_plant 33 = .ok (.iload_n 3, 1) := by decide +kernel
theorem dX4_plant_34 : decode cX4_plant 34 = .ok (.invokevirtual 60, 3) := by decide +kernel
theorem dX4_plant_37 : decode cX4_plant 37 = .ok (.ireturn, 1) := by decide +kernel
set_option maxRecDepth 20000 in
theorem ggX4_setMonth_X4_needIndex : GoodIn wsX4_setMonth wsX4_needIndex := goodIn_ca (goodIn_r _ [5, 6, 7] (by decide +kernel) (by decide +kernel)) (goodIn_sub (fun _ h => List.mem_cons_of_mem _ (List.mem_append_left _ (List.mem_append_right _ h))) (by decide +kernel))
set_option maxRecDepth 20000 in
theorem gX4_setMonth_X4_needIndex : GoodIn wsX4_setMonth (va_wsS RX4 63 yX4_needIndex wsX4_needIndex) := goodIn_app (goodIn_of _ (by decide +kernel)) ggX4_setMonth_X4_needIndex
set_option maxRecDepth 20000 in
theorem ggX4_setMonth_X4_needWithin : GoodIn wsX4_setMonth wsX4_needWithin := goodIn_ca (goodIn_r _ [10, 11, 12] (by decide +kernel) (by decide +kernel)) (goodIn_sub (fun _ h => List.mem_cons_of_mem _ (List.mem_append_right _ h)) (by decide +kernel))
set_option maxRecDepth 20000 in
theorem gX4_setMonth_X4_needWithin : GoodIn wsX4_setMonth (va_wsS RX4 48 yX4_needWithin wsX4_needWithin) := goodIn_app (goodIn_of _ (by decide +kernel)) ggX4_setMonth_X4_needWithin
set_option maxRecDepth 20000 in
theorem ggX4_setMonth_X3_entry : GoodIn wsX4_setMonth wsX3_entry := goodIn_r _ [17, 18, 19, 30, 31] (by decide +kernel) (by decide +kernel)
set_option maxRecDepth 20000 in
theorem gX4_setMonth_X3_entry : GoodIn wsX4_setMonth (wsV RX4 66 RX3 yX3_entry wsX3_entry) := goodIn_app (goodIn_of _ (by decide +kernel)) ggX4_setMonth_X3_entry
set_option maxRecDepth 20000 in
theorem ggX4_setMonth_X3_write : GoodIn wsX4_setMonth wsX3_write := goodIn_r _ [23, 18, 19, 30, 31] (by decide +kernel) (by decide +kernel)
set_option maxRecDepth 20000 in
theorem gX4_setMonth_X3_write : GoodIn wsX4_setMonth (wsV RX4 69 RX3 yX3_write wsX3_write) := goodIn_app (goodIn_of _ (by decide +kernel)) ggX4_setMonth_X3_write
theorem dX4_setMonth_0 : decode cX4_setMonth 0 = .ok (.iload_n 1, 1) := by decide +kernel
theorem dX4_setMonth_1 : decode cX4_setMonth 1 = .ok (.bipush 12, 2) := by decide +kernel
theorem dX4_setMonth_3 : decode cX4_setMonth 3 = .ok (.invokestatic 63, 3) := by decide +kernel
theorem dX4_setMonth_6 : decode cX4_setMonth 6 = .ok (.iload_n 2, 1) := by decide +kernel
theorem dX4_setMonth_7 : decode cX4_setMonth 7 = .ok (.iconst 0, 1) := by decide +kernel
theorem dX4_setMonth_8 : decode cX4_setMonth 8 = .ok (.bipush 9, 2) := by decide +kernel
theorem dX4_setMonth_10 : decode cX4_setMonth 10 = .ok (.invokestatic 48, 3) := by decide +kernel
theorem dX4_setMonth_13 : decode cX4_setMonth 13 = .ok (.iload_n 3, 1) := by decide +kernel
theorem dX4_setMonth_14 : decode cX4_setMonth 14 = .ok (.iconst 0, 1) := by decide +kernel
theorem dX4_setMonth_15 : decode cX4_setMonth 15 = .ok (.bipush 9, 2) := by decide +kernel
theorem dX4_setMonth_17 : decode cX4_setMonth 17 = .ok (.invokestatic 48, 3) := by decide +kernel
theorem dX4_setMonth_20 : decode cX4_setMonth 20 = .ok (.aload_n 0, 1) := by decide +kernel
theorem dX4_setMonth_21 : decode cX4_setMonth 21 = .ok (.getfield 12, 3) := by decide +kernel
theorem dX4_setMonth_24 : decode cX4_setMonth 24 = .ok (.iload_n 1, 1) := by decide +kernel
theorem dX4_setMonth_25 : decode cX4_setMonth 25 = .ok (.invokevirtual 66, 3) := by decide +kernel
theorem dX4_setMonth_28 : decode cX4_setMonth 28 = .ok (.istore 4, 2) := by decide +kernel
theorem dX4_setMonth_30 : decode cX4_setMonth 30 = .ok (.aload_n 0, 1) := by decide +kernel
theorem dX4_setMonth_31 : decode cX4_setMonth 31 = .ok (.getfield 12, 3) := by decide +kernel
theorem dX4_setMonth_34 : decode cX4_setMonth 34 = .ok (.iload_n 1, 1) := by decide +kernel
theorem dX4_setMonth_35 : decode cX4_setMonth 35 = .ok (.iload_n 2, 1) := by decide +kernel
theorem dX4_setMonth_36 : decode cX4_setMonth 36 = .ok (.iload_n 3, 1) := by decide +kernel
theorem dX4_setMonth_37 : decode cX4_setMonth 37 = .ok (.invokevirtual 69, 3) := by decide +kernel
theorem dX4_setMonth_40 : decode cX4_setMonth 40 = .ok (.iload 4, 2) := by decide +kernel
theorem dX4_setMonth_42 : decode cX4_setMonth 42 = .ok (.ireturn, 1) := by decide +kernel
set_option maxRecDepth 20000 in
theorem ggX4_cell_X4_needCell : GoodIn wsX4_cell wsX4_needCell := goodIn_ca (goodIn_r _ [5, 6, 7, 4, 8, 9, 10] (by decide +kernel) (by decide +kernel)) (goodIn_sub (fun _ h => List.mem_cons_of_mem _ (List.mem_append_right _ h)) (by decide +kernel))
set_option maxRecDepth 20000 in
theorem gX4_cell_X4_needCell : GoodIn wsX4_cell (va_wsS RX4 44 yX4_needCell wsX4_needCell) := goodIn_app (goodIn_of _ (by decide +kernel)) ggX4_cell_X4_needCell
set_option maxRecDepth 20000 in
theorem ggX4_cell_X4_needIndex : GoodIn wsX4_cell wsX4_needIndex := goodIn_ca (goodIn_r _ [8, 9, 10] (by decide +kernel) (by decide +kernel)) (goodIn_sub (fun _ h => List.mem_cons_of_mem _ (List.mem_append_right _ h)) (by decide +kernel))
set_option maxRecDepth 20000 in
theorem gX4_cell_X4_needIndex : GoodIn wsX4_cell (va_wsS RX4 63 yX4_needIndex wsX4_needIndex) := goodIn_app (goodIn_of _ (by decide +kernel)) ggX4_cell_X4_needIndex
set_option maxRecDepth 20000 in
theorem ggX4_cell_X0_groundOf : GoodIn wsX4_cell wsX0_groundOf := goodIn_r _ [15, 16, 80, 81, 82, 83] (by decide +kernel) (by decide +kernel)
set_option maxRecDepth 20000 in
theorem gX4_cell_X0_groundOf : GoodIn wsX4_cell (wsV RX4 56 RX0 yX0_groundOf wsX0_groundOf) := goodIn_app (goodIn_of _ (by decide +kernel)) ggX4_cell_X0_groundOf
set_option maxRecDepth 20000 in
theorem ggX4_cell_X0_coralOf : GoodIn wsX4_cell wsX0_coralOf := goodIn_r _ [20, 21, 80, 81, 82, 83] (by decide +kernel) (by decide +kernel)
set_option maxRecDepth 20000 in
theorem gX4_cell_X0_coralOf : GoodIn wsX4_cell (wsV RX4 72 RX0 yX0_coralOf wsX0_coralOf) := goodIn_app (goodIn_of _ (by decide +kernel)) ggX4_cell_X0_coralOf
set_option maxRecDepth 20000 in
theorem ggX4_cell_X0_depthOf : GoodIn wsX4_cell wsX0_depthOf := goodIn_r _ [25, 16, 21, 26, 27, 28, 29, 80, 81, 82, 83] (by decide +kernel) (by decide +kernel)
set_option maxRecDepth 20000 in
theorem gX4_cell_X0_depthOf : GoodIn wsX4_cell (wsV RX4 75 RX0 yX0_depthOf wsX0_depthOf) := goodIn_app (goodIn_of _ (by decide +kernel)) ggX4_cell_X0_depthOf
set_option maxRecDepth 20000 in
theorem ggX4_cell_X0_isHead : GoodIn wsX4_cell wsX0_isHead := goodIn_r _ [33, 21, 80, 81, 82, 83] (by decide +kernel) (by decide +kernel)
set_option maxRecDepth 20000 in
theorem gX4_cell_X0_isHead : GoodIn wsX4_cell (wsV RX4 78 RX0 yX0_isHead wsX0_isHead) := goodIn_app (goodIn_of _ (by decide +kernel)) ggX4_cell_X0_isHead
set_option maxRecDepth 20000 in
theorem ggX4_cell_X4_headsOfReefAt : GoodIn wsX4_cell wsX4_headsOfReefAt := goodIn_r _ [37, 1, 38, 39, 40, 41, 4, 42, 43, 44, 45, 46, 47, 48, 49, 50, 51, 52, 53, 30, 31, 32, 14, 33, 21, 54, 55, 56, 57, 58, 59, 60, 61, 62, 63, 64, 65, 66, 67, 68, 69, 70, 71, 72, 73, 74, 75, 76, 77, 78, 79, 84, 85, 86, 87, 80, 81, 82, 83] (by decide +kernel) (by decide +kernel)
set_option maxRecDepth 20000 in
theorem gX4_cell_X4_headsOfReefAt : GoodIn wsX4_cell (wsV RX4 82 RX4 yX4_headsOfReefAt wsX4_headsOfReefAt) := goodIn_app (goodIn_of _ (by decide +kernel)) ggX4_cell_X4_headsOfReefAt
theorem dX4_cell_0 : decode cX4_cell 0 = .ok (.iload_n 1, 1) := by decide +kernel
theorem dX4_cell_1 : decode cX4_cell 1 = .ok (.iload_n 2, 1) := by decide +kernel
theorem dX4_cell_2 : decode cX4_cell 2 = .ok (.invokestatic 44, 3) := by decide +kernel
theorem dX4_cell_5 : decode cX4_cell 5 = .ok (.iload_n 3, 1) := by decide +kernel
theorem dX4_cell_6 : decode cX4_cell 6 = .ok (.iconst 5, 1) := by decide +kernel
theorem dX4_cell_7 : decode cX4_cell 7 = .ok (.invokestatic 63, 3) := by decide +kernel
theorem dX4_cell_10 : decode cX4_cell 10 = .ok (.bipush 9, 2) := by decide +kernel
theorem dX4_cell_12 : decode cX4_cell 12 = .ok (.iload_n 2, 1) := by decide +kernel
theorem dX4_cell_13 : decode cX4_cell 13 = .ok (.imul, 1) := by decide +kernel
theorem dX4_cell_14 : decode cX4_cell 14 = .ok (.iload_n 1, 1) := by decide +kernel
theorem dX4_cell_15 : decode cX4_cell 15 = .ok (.iadd, 1) := by decide +kernel
theorem dX4_cell_16 : decode cX4_cell 16 = .ok (.istore 4, 2) := by decide +kernel
theorem dX4_cell_18 : decode cX4_cell 18 = .ok (.iload_n 3, 1) := by decide +kernel
theorem dX4_cell_19 : decode cX4_cell 19 = .ok (.tableswitch 77 0 3 #[29, 39, 49, 59], 29) := by decide +kernel
theorem dX4_cell_48 : decode cX4_cell 48 = .ok (.aload_n 0, 1) := by decide +kernel
theorem dX4_cell_49 : decode cX4_cell 49 = .ok (.getfield 19, 3) := by decide +kernel
theorem dX4_cell_52 : decode cX4_cell 52 = .ok (.iload 4, 2) := by decide +kernel
theorem dX4_cell_54 : decode cX4_cell 54 = .ok (.invokevirtual 56, 3) := by decide +kernel
theorem dX4_cell_57 : decode cX4_cell 57 = .ok (.ireturn, 1) := by decide +kernel
theorem dX4_cell_58 : decode cX4_cell 58 = .ok (.aload_n 0, 1) := by decide +kernel
theorem dX4_cell_59 : decode cX4_cell 59 = .ok (.getfield 19, 3) := by decide +kernel
theorem dX4_cell_62 : decode cX4_cell 62 = .ok (.iload 4, 2) := by decide +kernel
theorem dX4_cell_64 : decode cX4_cell 64 = .ok (.invokevirtual 72, 3) := by decide +kernel
theorem dX4_cell_67 : decode cX4_cell 67 = .ok (.ireturn, 1) := by decide +kernel
theorem dX4_cell_68 : decode cX4_cell 68 = .ok (.aload_n 0, 1) := by decide +kernel
theorem dX4_cell_69 : decode cX4_cell 69 = .ok (.getfield 19, 3) := by decide +kernel
theorem dX4_cell_72 : decode cX4_cell 72 = .ok (.iload 4, 2) := by decide +kernel
theorem dX4_cell_74 : decode cX4_cell 74 = .ok (.invokevirtual 75, 3) := by decide +kernel
theorem dX4_cell_77 : decode cX4_cell 77 = .ok (.ireturn, 1) := by decide +kernel
theorem dX4_cell_78 : decode cX4_cell 78 = .ok (.aload_n 0, 1) := by decide +kernel
theorem dX4_cell_79 : decode cX4_cell 79 = .ok (.getfield 19, 3) := by decide +kernel
theorem dX4_cell_82 : decode cX4_cell 82 = .ok (.iload 4, 2) := by decide +kernel
theorem dX4_cell_84 : decode cX4_cell 84 = .ok (.invokevirtual 78, 3) := by decide +kernel
theorem dX4_cell_87 : decode cX4_cell 87 = .ok (.ifCond .eq 7, 3) := by decide +kernel
theorem dX4_cell_90 : decode cX4_cell 90 = .ok (.iconst 1, 1) := by decide +kernel
theorem dX4_cell_91 : decode cX4_cell 91 = .ok (.goto 4, 3) := by decide +kernel
theorem dX4_cell_94 : decode cX4_cell 94 = .ok (.iconst 0, 1) := by decide +kernel
theorem dX4_cell_95 : decode cX4_cell 95 = .ok (.ireturn, 1) := by decide +kernel
theorem dX4_cell_96 : decode cX4_cell 96 = .ok (.aload_n 0, 1) := by decide +kernel
theorem dX4_cell_97 : decode cX4_cell 97 = .ok (.iload 4, 2) := by decide +kernel
theorem dX4_cell_99 : decode cX4_cell 99 = .ok (.invokevirtual 82, 3) := by decide +kernel
theorem dX4_cell_102 : decode cX4_cell 102 = .ok (.ireturn, 1) := by decide +kernel
set_option maxRecDepth 20000 in
theorem ggX4_sound_X4_needCell : GoodIn wsX4_sound wsX4_needCell := goodIn_ca (goodIn_r _ [6, 7, 8, 5, 9, 10, 11] (by decide +kernel) (by decide +kernel)) (goodIn_sub (fun _ h => List.mem_cons_of_mem _ (List.mem_append_right _ h)) (by decide +kernel))
set_option maxRecDepth 20000 in
theorem gX4_sound_X4_needCell : GoodIn wsX4_sound (va_wsS RX4 44 yX4_needCell wsX4_needCell) := goodIn_app (goodIn_of _ (by decide +kernel)) ggX4_sound_X4_needCell
set_option maxRecDepth 20000 in
theorem ggX4_sound_X1_noted : GoodIn wsX4_sound wsX1_noted := goodIn_r _ [16, 17, 45, 46] (by decide +kernel) (by decide +kernel)
set_option maxRecDepth 20000 in
theorem gX4_sound_X1_noted : GoodIn wsX4_sound (wsV RX4 85 RX1 yX1_noted wsX1_noted) := goodIn_app (goodIn_of _ (by decide +kernel)) ggX4_sound_X1_noted
set_option maxRecDepth 20000 in
theorem ggX4_sound_X0_depthOf : GoodIn wsX4_sound wsX0_depthOf := goodIn_r _ [22, 23, 24, 25, 26, 27, 28, 47, 48, 49, 50] (by decide +kernel) (by decide +kernel)
set_option maxRecDepth 20000 in
theorem gX4_sound_X0_depthOf : GoodIn wsX4_sound (wsV RX4 75 RX0 yX0_depthOf wsX0_depthOf) := goodIn_app (goodIn_of _ (by decide +kernel)) ggX4_sound_X0_depthOf
set_option maxRecDepth 20000 in
theorem ggX4_sound_X0_monthNow : GoodIn wsX4_sound wsX0_monthNow := goodIn_r _ [32, 33, 47, 48, 49, 50] (by decide +kernel) (by decide +kernel)
set_option maxRecDepth 20000 in
theorem gX4_sound_X0_monthNow : GoodIn wsX4_sound (wsV RX4 88 RX0 yX0_monthNow wsX0_monthNow) := goodIn_app (goodIn_of _ (by decide +kernel)) ggX4_sound_X0_monthNow
set_option maxRecDepth 20000 in
theorem ggX4_sound_X1_note : GoodIn wsX4_sound wsX1_note := goodIn_r _ [37, 17, 38, 45, 46] (by decide +kernel) (by decide +kernel)
set_option maxRecDepth 20000 in
theorem gX4_sound_X1_note : GoodIn wsX4_sound (wsV RX4 92 RX1 yX1_note wsX1_note) := goodIn_app (goodIn_of _ (by decide +kernel)) ggX4_sound_X1_note
theorem dX4_sound_0 : decode cX4_sound 0 = .ok (.iload_n 1, 1) := by decide +kernel
theorem dX4_sound_1 : decode cX4_sound 1 = .ok (.iload_n 2, 1) := by decide +kernel
theorem dX4_sound_2 : decode cX4_sound 2 = .ok (.invokestatic 44, 3) := by decide +kernel
theorem dX4_sound_5 : decode cX4_sound 5 = .ok (.bipush 9, 2) := by decide +kernel
theorem dX4_sound_7 : decode cX4_sound 7 = .ok (.iload_n 2, 1) := by decide +kernel
theorem dX4_sound_8 : decode cX4_sound 8 = .ok (.imul, 1) := by decide +kernel
theorem dX4_sound_9 : decode cX4_sound 9 = .ok (.iload_n 1, 1) := by decide +kernel
theorem dX4_sound_10 : decode cX4_sound 10 = .ok (.iadd, 1) := by decide +kernel
theorem dX4_sound_11 : decode cX4_sound 11 = .ok (.istore_n 3, 1) := by decide +kernel
theorem dX4_sound_12 : decode cX4_sound 12 = .ok (.aload_n 0, 1) := by decide +kernel
theorem dX4_sound_13 : decode cX4_sound 13 = .ok (.getfield 29, 3) := by decide +kernel
theorem dX4_sound_16 : decode cX4_sound 16 = .ok (.iload_n 3, 1) := by decide +kernel
theorem dX4_sound_17 : decode cX4_sound 17 = .ok (.invokevirtual 85, 3) := by decide +kernel
theorem dX4_sound_20 : decode cX4_sound 20 = .ok (.istore 4, 2) := by decide +kernel
theorem dX4_sound_22 : decode cX4_sound 22 = .ok (.aload_n 0, 1) := by decide +kernel
theorem dX4_sound_23 : decode cX4_sound 23 = .ok (.getfield 19, 3) := by decide +kernel
theorem dX4_sound_26 : decode cX4_sound 26 = .ok (.iload_n 3, 1) := by decide +kernel
theorem dX4_sound_27 : decode cX4_sound 27 = .ok (.invokevirtual 75, 3) := by decide +kernel
theorem dX4_sound_30 : decode cX4_sound 30 = .ok (.istore 5, 2) := by decide +kernel
theorem dX4_sound_32 : decode cX4_sound 32 = .ok (.aload_n 0, 1) := by decide +kernel
theorem dX4_sound_33 : decode cX4_sound 33 = .ok (.getfield 29, 3) := by decide +kernel
theorem dX4_sound_36 : decode cX4_sound 36 = .ok (.iload_n 3, 1) := by decide +kernel
theorem dX4_sound_37 : decode cX4_sound 37 = .ok (.iload 5, 2) := by decide +kernel
theorem dX4_sound_39 : decode cX4_sound 39 = .ok (.aload_n 0, 1) := by decide +kernel
theorem dX4_sound_40 : decode cX4_sound 40 = .ok (.getfield 19, 3) := by decide +kernel
theorem dX4_sound_43 : decode cX4_sound 43 = .ok (.invokevirtual 88, 3) := by decide +kernel
theorem dX4_sound_46 : decode cX4_sound 46 = .ok (.invokevirtual 92, 3) := by decide +kernel
theorem dX4_sound_49 : decode cX4_sound 49 = .ok (.iload 4, 2) := by decide +kernel
theorem dX4_sound_51 : decode cX4_sound 51 = .ok (.iconst (-1), 1) := by decide +kernel
theorem dX4_sound_52 : decode cX4_sound 52 = .ok (.if_icmp .ne 7, 3) := by decide +kernel
theorem dX4_sound_55 : decode cX4_sound 55 = .ok (.iconst 0, 1) := by decide +kernel
theorem dX4_sound_56 : decode cX4_sound 56 = .ok (.goto 8, 3) := by decide +kernel
theorem dX4_sound_59 : decode cX4_sound 59 = .ok (.iload 5, 2) := by decide +kernel
theorem dX4_sound_61 : decode cX4_sound 61 = .ok (.iload 4, 2) := by decide +kernel
theorem dX4_sound_63 : decode cX4_sound 63 = .ok (.isub, 1) := by decide +kernel
theorem dX4_sound_64 : decode cX4_sound 64 = .ok (.ireturn, 1) := by decide +kernel
set_option maxRecDepth 20000 in
theorem ggX4_chart_X4_needCell : GoodIn wsX4_chart wsX4_needCell := goodIn_ca (goodIn_r _ [4, 5, 6, 3, 7, 8, 9] (by decide +kernel) (by decide +kernel)) (goodIn_sub (fun _ h => List.mem_cons_of_mem _ (List.mem_append_right _ h)) (by decide +kernel))
set_option maxRecDepth 20000 in
theorem gX4_chart_X4_needCell : GoodIn wsX4_chart (va_wsS RX4 44 yX4_needCell wsX4_needCell) := goodIn_app (goodIn_of _ (by decide +kernel)) ggX4_chart_X4_needCell
set_option maxRecDepth 20000 in
theorem ggX4_chart_X4_needIndex : GoodIn wsX4_chart wsX4_needIndex := goodIn_ca (goodIn_r _ [7, 8, 9] (by decide +kernel) (by decide +kernel)) (goodIn_sub (fun _ h => List.mem_cons_of_mem _ (List.mem_append_right _ h)) (by decide +kernel))
set_option maxRecDepth 20000 in
theorem gX4_chart_X4_needIndex : GoodIn wsX4_chart (va_wsS RX4 63 yX4_needIndex wsX4_needIndex) := goodIn_app (goodIn_of _ (by decide +kernel)) ggX4_chart_X4_needIndex
set_option maxRecDepth 20000 in
theorem ggX4_chart_X4_chartAnswer : GoodIn wsX4_chart wsX4_chartAnswer := goodIn_r _ [13, 14, 15, 16, 17, 18, 19, 20, 21, 22, 23, 24, 25, 26, 27, 28, 29, 30, 31, 32, 33, 34, 35, 3, 36, 37, 38, 39, 40, 41, 42, 43, 44, 45, 46, 47, 48, 49, 50, 51, 52] (by decide +kernel) (by decide +kernel)
set_option maxRecDepth 20000 in
theorem gX4_chart_X4_chartAnswer : GoodIn wsX4_chart (wsV RX4 95 RX4 yX4_chartAnswer wsX4_chartAnswer) := goodIn_app (goodIn_of _ (by decide +kernel)) ggX4_chart_X4_chartAnswer
theorem dX4_chart_0 : decode cX4_chart 0 = .ok (.iload_n 1, 1) := by decide +kernel
theorem dX4_chart_1 : decode cX4_chart 1 = .ok (.iload_n 2, 1) := by decide +kernel
theorem dX4_chart_2 : decode cX4_chart 2 = .ok (.invokestatic 44, 3) := by decide +kernel
theorem dX4_chart_5 : decode cX4_chart 5 = .ok (.iload_n 3, 1) := by decide +kernel
theorem dX4_chart_6 : decode cX4_chart 6 = .ok (.iconst 3, 1) := by decide +kernel
theorem dX4_chart_7 : decode cX4_chart 7 = .ok (.invokestatic 63, 3) := by decide +kernel
theorem dX4_chart_10 : decode cX4_chart 10 = .ok (.aload_n 0, 1) := by decide +kernel
theorem dX4_chart_11 : decode cX4_chart 11 = .ok (.bipush 9, 2) := by decide +kernel
theorem dX4_chart_13 : decode cX4_chart 13 = .ok (.iload_n 2, 1) := by decide +kernel
theorem dX4_chart_14 : decode cX4_chart 14 = .ok (.imul, 1) := by decide +kernel
theorem dX4_chart_15 : decode cX4_chart 15 = .ok (.iload_n 1, 1) := by decide +kernel
theorem dX4_chart_16 : decode cX4_chart 16 = .ok (.iadd, 1) := by decide +kernel
theorem dX4_chart_17 : decode cX4_chart 17 = .ok (.iload_n 3, 1) := by decide +kernel
theorem dX4_chart_18 : decode cX4_chart 18 = .ok (.invokevirtual 95, 3) := by decide +kernel
theorem dX4_chart_21 : decode cX4_chart 21 = .ok (.ireturn, 1) := by decide +kernel
set_option maxRecDepth 20000 in
theorem ggX4_way_X4_needWithin : GoodIn wsX4_way wsX4_needWithin := goodIn_ca (goodIn_r _ [5, 6, 7] (by decide +kernel) (by decide +kernel)) (goodIn_sub (fun _ h => List.mem_cons_of_mem _ (List.mem_append_right _ h)) (by decide +kernel))
set_option maxRecDepth 20000 in
theorem gX4_way_X4_needWithin : GoodIn wsX4_way (va_wsS RX4 48 yX4_needWithin wsX4_needWithin) := goodIn_app (goodIn_of _ (by decide +kernel)) ggX4_way_X4_needWithin
set_option maxRecDepth 20000 in
theorem ggX4_way_X4_countOn : GoodIn wsX4_way wsX4_countOn := goodIn_r _ [11, 12, 13, 14, 15, 4, 16, 17, 18, 19, 20, 21, 22, 23, 24, 25, 26, 27, 28, 29, 30, 31, 32, 33, 34, 35, 36, 37, 38, 39, 40, 41, 42, 43, 44, 45, 46, 47, 48, 49, 50, 51, 52, 53, 54, 98, 99, 100, 101, 102, 103, 104, 105, 106, 107, 108, 109] (by decide +kernel) (by decide +kernel)
set_option maxRecDepth 20000 in
theorem gX4_way_X4_countOn : GoodIn wsX4_way (wsV RX4 98 RX4 yX4_countOn wsX4_countOn) := goodIn_app (goodIn_of _ (by decide +kernel)) ggX4_way_X4_countOn
set_option maxRecDepth 20000 in
theorem ggX4_way_X4_startOfShortestWay : GoodIn wsX4_way wsX4_startOfShortestWay := goodIn_r _ [58, 1, 59, 60, 61, 4, 62, 17, 63, 64, 65, 66, 67, 68, 69, 70, 71, 72, 73, 74, 75, 76, 77, 78, 79, 80, 81, 82, 83, 84, 85, 86, 87, 88, 89, 90, 91, 92, 93, 94, 95, 96, 97, 98, 99, 100, 101, 102, 103, 110, 111, 112, 113] (by decide +kernel) (by decide +kernel)
set_option maxRecDepth 20000 in
theorem gX4_way_X4_startOfShortestWay : GoodIn wsX4_way (wsV RX4 102 RX4 yX4_startOfShortestWay wsX4_startOfShortestWay) := goodIn_app (goodIn_of _ (by decide +kernel)) ggX4_way_X4_startOfShortestWay
set_option maxRecDepth 20000 in
theorem ggX4_way_X2_stepsTo : GoodIn wsX4_way wsX2_stepsTo := goodIn_r _ [97, 68, 110, 111, 112, 113] (by decide +kernel) (by decide +kernel)
set_option maxRecDepth 20000 in
theorem gX4_way_X2_stepsTo : GoodIn wsX4_way (wsV RX4 105 RX2 yX2_stepsTo wsX2_stepsTo) := goodIn_app (goodIn_of _ (by decide +kernel)) ggX4_way_X2_stepsTo
theorem dX4_way_0 : decode cX4_way 0 = .ok (.iload_n 1, 1) := by decide +kernel
theorem dX4_way_1 : decode cX4_way 1 = .ok (.iconst 0, 1) := by decide +kernel
theorem dX4_way_2 : decode cX4_way 2 = .ok (.bipush 39, 2) := by decide +kernel
theorem dX4_way_4 : decode cX4_way 4 = .ok (.invokestatic 48, 3) := by decide +kernel
theorem dX4_way_7 : decode cX4_way 7 = .ok (.aload_n 0, 1) := by decide +kernel
theorem dX4_way_8 : decode cX4_way 8 = .ok (.iload_n 2, 1) := by decide +kernel
theorem dX4_way_9 : decode cX4_way 9 = .ok (.invokevirtual 98, 3) := by decide +kernel
theorem dX4_way_12 : decode cX4_way 12 = .ok (.aload_n 0, 1) := by decide +kernel
theorem dX4_way_13 : decode cX4_way 13 = .ok (.iload_n 1, 1) := by decide +kernel
theorem dX4_way_14 : decode cX4_way 14 = .ok (.invokevirtual 102, 3) := by decide +kernel
theorem dX4_way_17 : decode cX4_way 17 = .ok (.istore_n 3, 1) := by decide +kernel
theorem dX4_way_18 : decode cX4_way 18 = .ok (.iload_n 3, 1) := by decide +kernel
theorem dX4_way_19 : decode cX4_way 19 = .ok (.iconst (-1), 1) := by decide +kernel
theorem dX4_way_20 : decode cX4_way 20 = .ok (.if_icmp .ne 7, 3) := by decide +kernel
theorem dX4_way_23 : decode cX4_way 23 = .ok (.iconst (-1), 1) := by decide +kernel
theorem dX4_way_24 : decode cX4_way 24 = .ok (.goto 11, 3) := by decide +kernel
theorem dX4_way_27 : decode cX4_way 27 = .ok (.aload_n 0, 1) := by decide +kernel
theorem dX4_way_28 : decode cX4_way 28 = .ok (.getfield 36, 3) := by decide +kernel
theorem dX4_way_31 : decode cX4_way 31 = .ok (.iload_n 3, 1) := by decide +kernel
theorem dX4_way_32 : decode cX4_way 32 = .ok (.invokevirtual 105, 3) := by decide +kernel
theorem dX4_way_35 : decode cX4_way 35 = .ok (.ireturn, 1) := by decide +kernel
set_option maxRecDepth 20000 in
theorem ggX4_deepest_X4_countOn : GoodIn wsX4_deepest wsX4_countOn := goodIn_r _ [5, 6, 7, 8, 9, 4, 10, 11, 12, 13, 14, 15, 16, 17, 18, 19, 20, 21, 22, 23, 24, 25, 26, 27, 28, 29, 30, 31, 32, 33, 34, 35, 36, 37, 38, 39, 40, 41, 42, 43, 44, 45, 46, 47, 48, 97, 98, 99, 100, 101, 102, 103, 104, 105, 106, 107, 108] (by decide +kernel) (by decide +kernel)
set_option maxRecDepth 20000 in
theorem gX4_deepest_X4_countOn : GoodIn wsX4_deepest (wsV RX4 98 RX4 yX4_countOn wsX4_countOn) := goodIn_app (goodIn_of _ (by decide +kernel)) ggX4_deepest_X4_countOn
set_option maxRecDepth 20000 in
theorem ggX4_deepest_X4_greatestDraught : GoodIn wsX4_deepest wsX4_greatestDraught := goodIn_r _ [52, 53, 54, 55, 4, 56, 57, 58, 59, 60, 61, 11, 62, 63, 64, 65, 66, 67, 68, 69, 70, 71, 72, 73, 74, 75, 76, 77, 78, 79, 80, 81, 82, 83, 84, 85, 86, 87, 88, 89, 90, 91, 92, 93, 94, 95, 96, 97, 98, 99, 100, 101, 102, 109, 110, 111, 112] (by decide +kernel) (by decide +kernel)
set_option maxRecDepth 20000 in
theorem gX4_deepest_X4_greatestDraught : GoodIn wsX4_deepest (wsV RX4 108 RX4 yX4_greatestDraught wsX4_greatestDraught) := goodIn_app (goodIn_of _ (by decide +kernel)) ggX4_deepest_X4_greatestDraught
theorem dX4_deepest_0 : decode cX4_deepest 0 = .ok (.aload_n 0, 1) := by decide +kernel
theorem dX4_deepest_1 : decode cX4_deepest 1 = .ok (.iload_n 1, 1) := by decide +kernel
theorem dX4_deepest_2 : decode cX4_deepest 2 = .ok (.invokevirtual 98, 3) := by decide +kernel
theorem dX4_deepest_5 : decode cX4_deepest 5 = .ok (.aload_n 0, 1) := by decide +kernel
theorem dX4_deepest_6 : decode cX4_deepest 6 = .ok (.invokevirtual 108, 3) := by decide +kernel
theorem dX4_deepest_9 : decode cX4_deepest 9 = .ok (.ireturn, 1) := by decide +kernel
set_option maxRecDepth 20000 in
theorem ggX4_harbours_X4_needWithin : GoodIn wsX4_harbours wsX4_needWithin := goodIn_ca (goodIn_r _ [5, 6, 7] (by decide +kernel) (by decide +kernel)) (goodIn_sub (fun _ h => List.mem_cons_of_mem _ (List.mem_append_right _ h)) (by decide +kernel))
set_option maxRecDepth 20000 in
theorem gX4_harbours_X4_needWithin : GoodIn wsX4_harbours (va_wsS RX4 48 yX4_needWithin wsX4_needWithin) := goodIn_app (goodIn_of _ (by decide +kernel)) ggX4_harbours_X4_needWithin
set_option maxRecDepth 20000 in
theorem ggX4_harbours_X4_countOn : GoodIn wsX4_harbours wsX4_countOn := goodIn_r _ [11, 12, 13, 14, 15, 4, 16, 17, 18, 19, 20, 21, 22, 23, 24, 25, 26, 27, 28, 29, 30, 31, 32, 33, 34, 35, 36, 37, 38, 39, 40, 41, 42, 43, 44, 45, 46, 47, 48, 49, 50, 51, 52, 53, 54, 94, 95, 96, 97, 98, 99, 100, 101, 102, 103, 104, 105] (by decide +kernel) (by decide +kernel)
set_option maxRecDepth 20000 in
theorem gX4_harbours_X4_countOn : GoodIn wsX4_harbours (wsV RX4 98 RX4 yX4_countOn wsX4_countOn) := goodIn_app (goodIn_of _ (by decide +kernel)) ggX4_harbours_X4_countOn
set_option maxRecDepth 20000 in
theorem ggX4_harbours_X4_openWater : GoodIn wsX4_harbours wsX4_openWater := goodIn_r _ [58, 1, 17, 59, 60, 61, 62, 63, 64, 65, 66, 67, 68, 69, 70, 71, 72, 73, 74, 94, 95, 96, 97, 98, 99, 106, 107, 108, 109] (by decide +kernel) (by decide +kernel)
set_option maxRecDepth 20000 in
theorem gX4_harbours_X4_openWater : GoodIn wsX4_harbours (wsV RX4 111 RX4 yX4_openWater wsX4_openWater) := goodIn_app (goodIn_of _ (by decide +kernel)) ggX4_harbours_X4_openWater
set_option maxRecDepth 20000 in
theorem ggX4_harbours_X2_goFromRow : GoodIn wsX4_harbours wsX2_goFromRow := goodIn_r _ [78, 65, 79, 80, 81, 62, 82, 74, 64, 83, 84, 85, 86, 87, 88, 4, 89, 106, 107, 108, 109] (by decide +kernel) (by decide +kernel)
set_option maxRecDepth 20000 in
theorem gX4_harbours_X2_goFromRow : GoodIn wsX4_harbours (wsV RX4 115 RX2 yX2_goFromRow wsX2_goFromRow) := goodIn_app (goodIn_of _ (by decide +kernel)) ggX4_harbours_X2_goFromRow
set_option maxRecDepth 20000 in
theorem ggX4_harbours_X2_stepsTo : GoodIn wsX4_harbours wsX2_stepsTo := goodIn_r _ [93, 64, 106, 107, 108, 109] (by decide +kernel) (by decide +kernel)
set_option maxRecDepth 20000 in
theorem gX4_harbours_X2_stepsTo : GoodIn wsX4_harbours (wsV RX4 105 RX2 yX2_stepsTo wsX2_stepsTo) := goodIn_app (goodIn_of _ (by decide +kernel)) ggX4_harbours_X2_stepsTo
theorem dX4_harbours_0 : decode cX4_harbours 0 = .ok (.iload_n 1, 1) := by decide +kernel
theorem dX4_harbours_1 : decode cX4_harbours 1 = .ok (.iconst 0, 1) := by decide +kernel
theorem dX4_harbours_2 : decode cX4_harbours 2 = .ok (.bipush 39, 2) := by decide +kernel
theorem dX4_harbours_4 : decode cX4_harbours 4 = .ok (.invokestatic 48, 3) := by decide +kernel
theorem dX4_harbours_7 : decode cX4_harbours 7 = .ok (.aload_n 0, 1) := by decide +kernel
theorem dX4_harbours_8 : decode cX4_harbours 8 = .ok (.iconst 0, 1) := by decide +kernel
theorem dX4_harbours_9 : decode cX4_harbours 9 = .ok (.invokevirtual 98, 3) := by decide +kernel
theorem dX4_harbours_12 : decode cX4_harbours 12 = .ok (.aload_n 0, 1) := by decide +kernel
theorem dX4_harbours_13 : decode cX4_harbours 13 = .ok (.iload_n 1, 1) := by decide +kernel
theorem dX4_harbours_14 : decode cX4_harbours 14 = .ok (.invokevirtual 111, 3) := by decide +kernel
theorem dX4_harbours_17 : decode cX4_harbours 17 = .ok (.aload_n 0, 1) := by decide +kernel
theorem dX4_harbours_18 : decode cX4_harbours 18 = .ok (.getfield 36, 3) := by decide +kernel
theorem dX4_harbours_21 : decode cX4_harbours 21 = .ok (.iconst 0, 1) := by decide +kernel
theorem dX4_harbours_22 : decode cX4_harbours 22 = .ok (.invokevirtual 115, 3) := by decide +kernel
theorem dX4_harbours_25 : decode cX4_harbours 25 = .ok (.iconst 0, 1) := by decide +kernel
theorem dX4_harbours_26 : decode cX4_harbours 26 = .ok (.istore_n 2, 1) := by decide +kernel
theorem dX4_harbours_27 : decode cX4_harbours 27 = .ok (.bipush 72, 2) := by decide +kernel
theorem dX4_harbours_29 : decode cX4_harbours 29 = .ok (.istore_n 3, 1) := by decide +kernel
theorem dX4_harbours_30 : decode cX4_harbours 30 = .ok (.iload_n 3, 1) := by decide +kernel
theorem dX4_harbours_31 : decode cX4_harbours 31 = .ok (.bipush 81, 2) := by decide +kernel
theorem dX4_harbours_33 : decode cX4_harbours 33 = .ok (.if_icmp .ge 23, 3) := by decide +kernel
theorem dX4_harbours_36 : decode cX4_harbours 36 = .ok (.aload_n 0, 1) := by decide +kernel
theorem dX4_harbours_37 : decode cX4_harbours 37 = .ok (.getfield 36, 3) := by decide +kernel
theorem dX4_harbours_40 : decode cX4_harbours 40 = .ok (.iload_n 3, 1) := by decide +kernel
theorem dX4_harbours_41 : decode cX4_harbours 41 = .ok (.invokevirtual 105, 3) := by decide +kernel
theorem dX4_harbours_44 : decode cX4_harbours 44 = .ok (.ifCond .le 6, 3) := by decide +kernel
theorem dX4_harbours_47 : decode cX4_harbours 47 = .ok (.iinc 2 1, 3) := by decide +kernel
theorem dX4_harbours_50 : decode cX4_harbours 50 = .ok (.iinc 3 1, 3) := by decide +kernel
theorem dX4_harbours_53 : decode cX4_harbours 53 = .ok (.goto (-23), 3) := by decide +kernel
theorem dX4_harbours_56 : decode cX4_harbours 56 = .ok (.iload_n 2, 1) := by decide +kernel
theorem dX4_harbours_57 : decode cX4_harbours 57 = .ok (.ireturn, 1) := by decide +kernel
set_option maxRecDepth 20000 in
theorem ggX4_pilot_X4_needWithin : GoodIn wsX4_pilot wsX4_needWithin := goodIn_ca (goodIn_r _ [4, 5, 6] (by decide +kernel) (by decide +kernel)) (goodIn_sub (fun _ h => List.mem_cons_of_mem _ (List.mem_append_right _ h)) (by decide +kernel))
set_option maxRecDepth 20000 in
theorem gX4_pilot_X4_needWithin : GoodIn wsX4_pilot (va_wsS RX4 48 yX4_needWithin wsX4_needWithin) := goodIn_app (goodIn_of _ (by decide +kernel)) ggX4_pilot_X4_needWithin
set_option maxRecDepth 20000 in
theorem ggX4_pilot_X4_countOn : GoodIn wsX4_pilot wsX4_countOn := goodIn_r _ [10, 11, 12, 13, 14, 3, 15, 16, 17, 18, 19, 20, 21, 22, 23, 24, 25, 26, 27, 28, 29, 30, 31, 32, 33, 34, 35, 36, 37, 38, 39, 40, 41, 42, 43, 44, 45, 46, 47, 48, 49, 50, 51, 52, 53, 106, 107, 108, 109, 110, 111, 112, 113, 114, 115, 116, 117] (by decide +kernel) (by decide +kernel)
set_option maxRecDepth 20000 in
theorem gX4_pilot_X4_countOn : GoodIn wsX4_pilot (wsV RX4 98 RX4 yX4_countOn wsX4_countOn) := goodIn_app (goodIn_of _ (by decide +kernel)) ggX4_pilot_X4_countOn
set_option maxRecDepth 20000 in
theorem ggX4_pilot_X4_startOfShortestWay : GoodIn wsX4_pilot wsX4_startOfShortestWay := goodIn_r _ [57, 58, 59, 60, 61, 3, 62, 16, 63, 64, 65, 66, 67, 68, 69, 70, 71, 72, 73, 74, 75, 76, 77, 78, 79, 80, 81, 82, 83, 84, 85, 86, 87, 88, 89, 90, 91, 92, 93, 94, 95, 96, 97, 106, 107, 108, 109, 110, 111, 118, 119, 120, 121] (by decide +kernel) (by decide +kernel)
set_option maxRecDepth 20000 in
theorem gX4_pilot_X4_startOfShortestWay : GoodIn wsX4_pilot (wsV RX4 102 RX4 yX4_startOfShortestWay wsX4_startOfShortestWay) := goodIn_app (goodIn_of _ (by decide +kernel)) ggX4_pilot_X4_startOfShortestWay
set_option maxRecDepth 20000 in
theorem ggX4_pilot_X4_leadFrom : GoodIn wsX4_pilot wsX4_leadFrom := goodIn_r _ [101, 58, 11, 94, 95, 96, 66, 97, 68, 47, 48, 49, 35, 50, 51, 52, 53, 23, 24, 25, 102, 103, 104, 105, 92, 3, 93, 106, 107, 108, 109, 110, 111, 118, 119, 120, 121, 114, 115, 116, 117] (by decide +kernel) (by decide +kernel)
set_option maxRecDepth 20000 in
theorem gX4_pilot_X4_leadFrom : GoodIn wsX4_pilot (wsV RX4 118 RX4 yX4_leadFrom wsX4_leadFrom) := goodIn_app (goodIn_of _ (by decide +kernel)) ggX4_pilot_X4_leadFrom
theorem dX4_pilot_0 : decode cX4_pilot 0 = .ok (.iload_n 1, 1) := by decide +kernel
theorem dX4_pilot_1 : decode cX4_pilot 1 = .ok (.iconst 0, 1) := by decide +kernel
theorem dX4_pilot_2 : decode cX4_pilot 2 = .ok (.bipush 39, 2) := by decide +kernel
theorem dX4_pilot_4 : decode cX4_pilot 4 = .ok (.invokestatic 48, 3) := by decide +kernel
theorem dX4_pilot_7 : decode cX4_pilot 7 = .ok (.aload_n 0, 1) := by decide +kernel
theorem dX4_pilot_8 : decode cX4_pilot 8 = .ok (.iconst 1, 1) := by decide +kernel
theorem dX4_pilot_9 : decode cX4_pilot 9 = .ok (.invokevirtual 98, 3) := by decide +kernel
theorem dX4_pilot_12 : decode cX4_pilot 12 = .ok (.aload_n 0, 1) := by decide +kernel
theorem dX4_pilot_13 : decode cX4_pilot 13 = .ok (.iload_n 1, 1) := by decide +kernel
theorem dX4_pilot_14 : decode cX4_pilot 14 = .ok (.invokevirtual 102, 3) := by decide +kernel
theorem dX4_pilot_17 : decode cX4_pilot 17 = .ok (.istore_n 2, 1) := by decide +kernel
theorem dX4_pilot_18 : decode cX4_pilot 18 = .ok (.iload_n 2, 1) := by decide +kernel
theorem dX4_pilot_19 : decode cX4_pilot 19 = .ok (.iconst (-1), 1) := by decide +kernel
theorem dX4_pilot_20 : decode cX4_pilot 20 = .ok (.if_icmp .ne 7, 3) := by decide +kernel
theorem dX4_pilot_23 : decode cX4_pilot 23 = .ok (.iconst (-1), 1) := by decide +kernel
theorem dX4_pilot_24 : decode cX4_pilot 24 = .ok (.goto 9, 3) := by decide +kernel
theorem dX4_pilot_27 : decode cX4_pilot 27 = .ok (.aload_n 0, 1) := by decide +kernel
theorem dX4_pilot_28 : decode cX4_pilot 28 = .ok (.iload_n 2, 1) := by decide +kernel
theorem dX4_pilot_29 : decode cX4_pilot 29 = .ok (.iload_n 1, 1) := by decide +kernel
theorem dX4_pilot_30 : decode cX4_pilot 30 = .ok (.invokevirtual 118, 3) := by decide +kernel
theorem dX4_pilot_33 : decode cX4_pilot 33 = .ok (.ireturn, 1) := by decide +kernel
set_option maxRecDepth 20000 in
theorem ggX4_pass_X4_needWithin : GoodIn wsX4_pass wsX4_needWithin := goodIn_ca (goodIn_r _ [6, 7, 8] (by decide +kernel) (by decide +kernel)) (goodIn_sub (fun _ h => List.mem_cons_of_mem _ (List.mem_append_right _ h)) (by decide +kernel))
set_option maxRecDepth 20000 in
theorem gX4_pass_X4_needWithin : GoodIn wsX4_pass (va_wsS RX4 48 yX4_needWithin wsX4_needWithin) := goodIn_app (goodIn_of _ (by decide +kernel)) ggX4_pass_X4_needWithin
set_option maxRecDepth 20000 in
theorem ggX4_pass_X0_heads : GoodIn wsX4_pass wsX0_heads := goodIn_r _ [13, 14, 15, 16, 12, 17, 18, 92, 93, 94, 95] (by decide +kernel) (by decide +kernel)
set_option maxRecDepth 20000 in
theorem gX4_pass_X0_heads : GoodIn wsX4_pass (wsV RX4 121 RX0 yX0_heads wsX0_heads) := goodIn_app (goodIn_of _ (by decide +kernel)) ggX4_pass_X0_heads
set_option maxRecDepth 20000 in
theorem ggX4_pass_X0_letMonthGo : GoodIn wsX4_pass wsX0_letMonthGo := goodIn_r _ [22, 23, 24, 25, 26, 27, 28, 29, 30, 31, 32, 33, 34, 35, 36, 12, 37, 38, 39, 40, 41, 18, 42, 43, 44, 45, 46, 47, 48, 49, 50, 51, 52, 53, 54, 55, 56, 57, 58, 14, 15, 16, 17, 59, 60, 61, 62, 63, 64, 65, 66, 67, 5, 68, 69, 70, 71, 72, 73, 74, 75, 76, 77, 78, 79, 80, 81, 82, 83, 84, 85, 92, 93, 94, 95, 96, 97] (by decide +kernel) (by decide +kernel)
set_option maxRecDepth 20000 in
theorem gX4_pass_X0_letMonthGo : GoodIn wsX4_pass (wsV RX4 124 RX0 yX0_letMonthGo wsX0_letMonthGo) := goodIn_app (goodIn_of _ (by decide +kernel)) ggX4_pass_X0_letMonthGo
theorem dX4_pass_0 : decode cX4_pass 0 = .ok (.iload_n 1, 1) := by decide +kernel
theorem dX4_pass_1 : decode cX4_pass 1 = .ok (.iconst 1, 1) := by decide +kernel
theorem dX4_pass_2 : decode cX4_pass 2 = .ok (.bipush 120, 2) := by decide +kernel
theorem dX4_pass_4 : decode cX4_pass 4 = .ok (.invokestatic 48, 3) := by decide +kernel
theorem dX4_pass_7 : decode cX4_pass 7 = .ok (.aload_n 0, 1) := by decide +kernel
theorem dX4_pass_8 : decode cX4_pass 8 = .ok (.getfield 19, 3) := by decide +kernel
theorem dX4_pass_11 : decode cX4_pass 11 = .ok (.invokevirtual 121, 3) := by decide +kernel
theorem dX4_pass_14 : decode cX4_pass 14 = .ok (.istore_n 2, 1) := by decide +kernel
theorem dX4_pass_15 : decode cX4_pass 15 = .ok (.iconst 0, 1) := by decide +kernel
theorem dX4_pass_16 : decode cX4_pass 16 = .ok (.istore_n 3, 1) := by decide +kernel
theorem dX4_pass_17 : decode cX4_pass 17 = .ok (.iload_n 3, 1) := by decide +kernel
theorem dX4_pass_18 : decode cX4_pass 18 = .ok (.iload_n 1, 1) := by decide +kernel
theorem dX4_pass_19 : decode cX4_pass 19 = .ok (.if_icmp .ge 20, 3) := by decide +kernel
theorem dX4_pass_22 : decode cX4_pass 22 = .ok (.aload_n 0, 1) := by decide +kernel
theorem dX4_pass_23 : decode cX4_pass 23 = .ok (.getfield 19, 3) := by decide +kernel
theorem dX4_pass_26 : decode cX4_pass 26 = .ok (.aload_n 0, 1) := by decide +kernel
theorem dX4_pass_27 : decode cX4_pass 27 = .ok (.getfield 12, 3) := by decide +kernel
theorem dX4_pass_30 : decode cX4_pass 30 = .ok (.invokevirtual 124, 3) := by decide +kernel
theorem dX4_pass_33 : decode cX4_pass 33 = .ok (.iinc 3 1, 3) := by decide +kernel
theorem dX4_pass_36 : decode cX4_pass 36 = .ok (.goto (-19), 3) := by decide +kernel
theorem dX4_pass_39 : decode cX4_pass 39 = .ok (.aload_n 0, 1) := by decide +kernel
theorem dX4_pass_40 : decode cX4_pass 40 = .ok (.getfield 19, 3) := by decide +kernel
theorem dX4_pass_43 : decode cX4_pass 43 = .ok (.invokevirtual 121, 3) := by decide +kernel
theorem dX4_pass_46 : decode cX4_pass 46 = .ok (.iload_n 2, 1) := by decide +kernel
theorem dX4_pass_47 : decode cX4_pass 47 = .ok (.isub, 1) := by decide +kernel
theorem dX4_pass_48 : decode cX4_pass 48 = .ok (.ireturn, 1) := by decide +kernel
set_option maxRecDepth 20000 in
theorem ggX4_count_X4_needIndex : GoodIn wsX4_count wsX4_needIndex := goodIn_ca (goodIn_r _ [4, 5, 6] (by decide +kernel) (by decide +kernel)) (goodIn_sub (fun _ h => List.mem_cons_of_mem _ (List.mem_append_right _ h)) (by decide +kernel))
set_option maxRecDepth 20000 in
theorem gX4_count_X4_needIndex : GoodIn wsX4_count (va_wsS RX4 63 yX4_needIndex wsX4_needIndex) := goodIn_app (goodIn_of _ (by decide +kernel)) ggX4_count_X4_needIndex
set_option maxRecDepth 20000 in
theorem ggX4_count_X4_countAnswer : GoodIn wsX4_count wsX4_countAnswer := goodIn_r _ [10, 11, 12, 13, 14, 15, 16, 17, 18, 19, 20, 21, 22, 23, 24, 25, 26, 27, 28, 29, 3, 30, 31, 32, 33, 34, 35, 36, 37, 38, 39, 40, 41, 42, 43, 44, 45, 46, 47, 48, 49, 50, 51, 52, 53, 54, 55, 56, 57, 58, 59, 60, 61, 62, 63, 64, 65, 66, 67, 68, 69, 70, 71, 72, 73, 74, 75, 76, 77, 78, 79, 80, 81, 82, 83, 84, 85, 86, 87, 88, 89, 90, 91, 92, 93, 94, 95, 96, 97, 98, 99, 100, 101, 102, 103, 104, 105, 106, 107, 108, 109, 110, 111, 112, 113, 114, 115, 116, 117, 118, 119, 120] (by decide +kernel) (by decide +kernel)
set_option maxRecDepth 20000 in
theorem gX4_count_X4_countAnswer : GoodIn wsX4_count (wsV RX4 128 RX4 yX4_countAnswer wsX4_countAnswer) := goodIn_app (goodIn_of _ (by decide +kernel)) ggX4_count_X4_countAnswer
theorem dX4_count_0 : decode cX4_count 0 = .ok (.iload_n 1, 1) := by decide +kernel
theorem dX4_count_1 : decode cX4_count 1 = .ok (.bipush 8, 2) := by decide +kernel
theorem dX4_count_3 : decode cX4_count 3 = .ok (.invokestatic 63, 3) := by decide +kernel
theorem dX4_count_6 : decode cX4_count 6 = .ok (.aload_n 0, 1) := by decide +kernel
theorem dX4_count_7 : decode cX4_count 7 = .ok (.iload_n 1, 1) := by decide +kernel
theorem dX4_count_8 : decode cX4_count 8 = .ok (.invokevirtual 128, 3) := by decide +kernel
theorem dX4_count_11 : decode cX4_count 11 = .ok (.ireturn, 1) := by decide +kernel
set_option maxRecDepth 20000 in
theorem ggX4_closes_X4_needWithin : GoodIn wsX4_closes wsX4_needWithin := goodIn_ca (goodIn_r _ [7, 8, 9] (by decide +kernel) (by decide +kernel)) (goodIn_sub (fun _ h => List.mem_cons_of_mem _ (List.mem_append_right _ h)) (by decide +kernel))
set_option maxRecDepth 20000 in
theorem gX4_closes_X4_needWithin : GoodIn wsX4_closes (va_wsS RX4 48 yX4_needWithin wsX4_needWithin) := goodIn_app (goodIn_of _ (by decide +kernel)) ggX4_closes_X4_needWithin
set_option maxRecDepth 20000 in
theorem ggX4_closes_X0_becomeLike : GoodIn wsX4_closes wsX0_becomeLike := goodIn_r _ [14, 15, 16, 17, 18, 19, 20, 21, 145, 146, 147, 148] (by decide +kernel) (by decide +kernel)
set_option maxRecDepth 20000 in
theorem gX4_closes_X0_becomeLike : GoodIn wsX4_closes (wsV RX4 131 RX0 yX0_becomeLike wsX0_becomeLike) := goodIn_app (goodIn_of _ (by decide +kernel)) ggX4_closes_X0_becomeLike
set_option maxRecDepth 20000 in
theorem ggX4_closes_X4_countOnDepths : GoodIn wsX4_closes wsX4_countOnDepths := goodIn_r _ [25, 26, 27, 28, 29, 13, 30, 15, 20, 31, 32, 33, 34, 139, 140, 141, 142, 143, 144, 145, 146, 147, 148] (by decide +kernel) (by decide +kernel)
set_option maxRecDepth 20000 in
theorem gX4_closes_X4_countOnDepths : GoodIn wsX4_closes (wsV RX4 135 RX4 yX4_countOnDepths wsX4_countOnDepths) := goodIn_app (goodIn_of _ (by decide +kernel)) ggX4_closes_X4_countOnDepths
set_option maxRecDepth 20000 in
theorem ggX4_closes_X4_startOfShortestWay : GoodIn wsX4_closes wsX4_startOfShortestWay := goodIn_r _ [38, 39, 40, 41, 42, 6, 43, 26, 44, 45, 46, 47, 48, 49, 50, 51, 52, 53, 54, 55, 56, 57, 58, 59, 60, 61, 62, 63, 64, 65, 66, 67, 68, 69, 70, 71, 72, 73, 74, 75, 76, 77, 78, 139, 140, 141, 142, 143, 144, 149, 150, 151, 152] (by decide +kernel) (by decide +kernel)
set_option maxRecDepth 20000 in
theorem gX4_closes_X4_startOfShortestWay : GoodIn wsX4_closes (wsV RX4 102 RX4 yX4_startOfShortestWay wsX4_startOfShortestWay) := goodIn_app (goodIn_of _ (by decide +kernel)) ggX4_closes_X4_startOfShortestWay
set_option maxRecDepth 20000 in
theorem ggX4_closes_X0_letMonthGo : GoodIn wsX4_closes wsX0_letMonthGo := goodIn_r _ [82, 21, 83, 84, 85, 86, 87, 88, 89, 90, 91, 92, 93, 94, 95, 13, 96, 97, 98, 99, 100, 20, 31, 32, 33, 34, 101, 102, 103, 104, 15, 105, 106, 107, 108, 109, 110, 111, 112, 113, 114, 115, 116, 117, 28, 29, 30, 118, 119, 120, 121, 73, 6, 74, 122, 123, 124, 125, 126, 127, 128, 129, 130, 131, 132, 133, 134, 135, 136, 137, 138, 145, 146, 147, 148, 153, 154] (by decide +kernel) (by decide +kernel)
set_option maxRecDepth 20000 in
theorem gX4_closes_X0_letMonthGo : GoodIn wsX4_closes (wsV RX4 124 RX0 yX0_letMonthGo wsX0_letMonthGo) := goodIn_app (goodIn_of _ (by decide +kernel)) ggX4_closes_X0_letMonthGo
theorem dX4_closes_0 : decode cX4_closes 0 = .ok (.iload_n 1, 1) := by decide +kernel
theorem dX4_closes_1 : decode cX4_closes 1 = .ok (.iconst 0, 1) := by decide +kernel
theorem dX4_closes_2 : decode cX4_closes 2 = .ok (.bipush 39, 2) := by decide +kernel
theorem dX4_closes_4 : decode cX4_closes 4 = .ok (.invokestatic 48, 3) := by decide +kernel
theorem dX4_closes_7 : decode cX4_closes 7 = .ok (.aload_n 0, 1) := by decide +kernel
theorem dX4_closes_8 : decode cX4_closes 8 = .ok (.getfield 23, 3) := by decide +kernel
theorem dX4_closes_11 : decode cX4_closes 11 = .ok (.aload_n 0, 1) := by decide +kernel
theorem dX4_closes_12 : decode cX4_closes 12 = .ok (.getfield 19, 3) := by decide +kernel
theorem dX4_closes_15 : decode cX4_closes 15 = .ok (.invokevirtual 131, 3) := by decide +kernel
theorem dX4_closes_18 : decode cX4_closes 18 = .ok (.iconst 0, 1) := by decide +kernel
theorem dX4_closes_19 : decode cX4_closes 19 = .ok (.istore_n 2, 1) := by decide +kernel
theorem dX4_closes_20 : decode cX4_closes 20 = .ok (.iload_n 2, 1) := by decide +kernel
theorem dX4_closes_21 : decode cX4_closes 21 = .ok (.bipush 100, 2) := by decide +kernel
theorem dX4_closes_23 : decode cX4_closes 23 = .ok (.if_icmp .gt 39, 3) := by decide +kernel
theorem dX4_closes_26 : decode cX4_closes 26 = .ok (.aload_n 0, 1) := by decide +kernel
theorem dX4_closes_27 : decode cX4_closes 27 = .ok (.aload_n 0, 1) := by decide +kernel
theorem dX4_closes_28 : decode cX4_closes 28 = .ok (.getfield 23, 3) := by decide +kernel
theorem dX4_closes_31 : decode cX4_closes 31 = .ok (.invokevirtual 135, 3) := by decide +kernel
theorem dX4_closes_34 : decode cX4_closes 34 = .ok (.aload_n 0, 1) := by decide +kernel
theorem dX4_closes_35 : decode cX4_closes 35 = .ok (.iload_n 1, 1) := by decide +kernel
theorem dX4_closes_36 : decode cX4_closes 36 = .ok (.invokevirtual 102, 3) := by decide +kernel
theorem dX4_closes_39 : decode cX4_closes 39 = .ok (.iconst (-1), 1) := by decide +kernel
theorem dX4_closes_40 : decode cX4_closes 40 = .ok (.if_icmp .ne 5, 3) := by decide +kernel
theorem dX4_closes_43 : decode cX4_closes 43 = .ok (.iload_n 2, 1) := by decide +kernel
theorem dX4_closes_44 : decode cX4_closes 44 = .ok (.ireturn, 1) := by decide +kernel
theorem dX4_closes_45 : decode cX4_closes 45 = .ok (.aload_n 0, 1) := by decide +kernel
theorem dX4_closes_46 : decode cX4_closes 46 = .ok (.getfield 23, 3) := by decide +kernel
theorem dX4_closes_49 : decode cX4_closes 49 = .ok (.aload_n 0, 1) := by decide +kernel
theorem dX4_closes_50 : decode cX4_closes 50 = .ok (.getfield 12, 3) := by decide +kernel
theorem dX4_closes_53 : decode cX4_closes 53 = .ok (.invokevirtual 124, 3) := by decide +kernel
theorem dX4_closes_56 : decode cX4_closes 56 = .ok (.iinc 2 1, 3) := by decide +kernel
theorem dX4_closes_59 : decode cX4_closes 59 = .ok (.goto (-39), 3) := by decide +kernel
theorem dX4_closes_62 : decode cX4_closes 62 = .ok (.iconst (-1), 1) := by decide +kernel
theorem dX4_closes_63 : decode cX4_closes 63 = .ok (.ireturn, 1) := by decide +kernel
set_option maxRecDepth 20000 in
theorem ggX4_foresee_X4_needWithin : GoodIn wsX4_foresee wsX4_needWithin := goodIn_ca (goodIn_r _ [7, 8, 9] (by decide +kernel) (by decide +kernel)) (goodIn_sub (fun _ h => List.mem_cons_of_mem _ (List.mem_append_left _ (List.mem_append_right _ h))) (by decide +kernel))
set_option maxRecDepth 20000 in
theorem gX4_foresee_X4_needWithin : GoodIn wsX4_foresee (va_wsS RX4 48 yX4_needWithin wsX4_needWithin) := goodIn_app (goodIn_of _ (by decide +kernel)) ggX4_foresee_X4_needWithin
set_option maxRecDepth 20000 in
theorem ggX4_foresee_X4_needIndex : GoodIn wsX4_foresee wsX4_needIndex := goodIn_ca (goodIn_r _ [12, 13, 14] (by decide +kernel) (by decide +kernel)) (goodIn_sub (fun _ h => List.mem_cons_of_mem _ (List.mem_append_right _ h)) (by decide +kernel))
set_option maxRecDepth 20000 in
theorem gX4_foresee_X4_needIndex : GoodIn wsX4_foresee (va_wsS RX4 63 yX4_needIndex wsX4_needIndex) := goodIn_app (goodIn_of _ (by decide +kernel)) ggX4_foresee_X4_needIndex
set_option maxRecDepth 20000 in
theorem ggX4_foresee_X0_becomeLike : GoodIn wsX4_foresee wsX0_becomeLike := goodIn_r _ [19, 20, 21, 22, 23, 24, 25, 26, 171, 172, 173, 174] (by decide +kernel) (by decide +kernel)
set_option maxRecDepth 20000 in
theorem gX4_foresee_X0_becomeLike : GoodIn wsX4_foresee (wsV RX4 131 RX0 yX0_becomeLike wsX0_becomeLike) := goodIn_app (goodIn_of _ (by decide +kernel)) ggX4_foresee_X0_becomeLike
set_option maxRecDepth 20000 in
theorem ggX4_foresee_X0_letMonthGo : GoodIn wsX4_foresee wsX0_letMonthGo := goodIn_r _ [30, 26, 31, 32, 33, 34, 35, 36, 37, 38, 39, 40, 41, 42, 43, 18, 44, 45, 46, 47, 48, 25, 49, 50, 51, 52, 53, 54, 55, 56, 20, 57, 58, 59, 60, 61, 62, 63, 64, 65, 66, 67, 68, 69, 70, 71, 72, 73, 74, 75, 76, 77, 6, 78, 79, 80, 81, 82, 83, 84, 85, 86, 87, 88, 89, 90, 91, 92, 93, 94, 95, 171, 172, 173, 174, 175, 176] (by decide +kernel) (by decide +kernel)
set_option maxRecDepth 20000 in
theorem gX4_foresee_X0_letMonthGo : GoodIn wsX4_foresee (wsV RX4 124 RX0 yX0_letMonthGo wsX0_letMonthGo) := goodIn_app (goodIn_of _ (by decide +kernel)) ggX4_foresee_X0_letMonthGo
set_option maxRecDepth 20000 in
theorem ggX4_foresee_X0_heads : GoodIn wsX4_foresee wsX0_heads := goodIn_r _ [99, 65, 66, 67, 18, 68, 25, 171, 172, 173, 174] (by decide +kernel) (by decide +kernel)
set_option maxRecDepth 20000 in
theorem gX4_foresee_X0_heads : GoodIn wsX4_foresee (wsV RX4 121 RX0 yX0_heads wsX0_heads) := goodIn_app (goodIn_of _ (by decide +kernel)) ggX4_foresee_X0_heads
set_option maxRecDepth 20000 in
theorem ggX4_foresee_X4_reefsOn : GoodIn wsX4_foresee wsX4_reefsOn := goodIn_r _ [103, 104, 105, 106, 107, 6, 108, 109, 110, 111, 112, 113, 114, 115, 116, 117, 118, 119, 120, 66, 67, 18, 68, 25, 121, 122, 123, 124, 125, 126, 127, 128, 129, 130, 131, 132, 133, 134, 135, 136, 137, 138, 77, 78, 165, 166, 167, 168, 169, 170, 177, 178, 179, 180, 171, 172, 173, 174] (by decide +kernel) (by decide +kernel)
set_option maxRecDepth 20000 in
theorem gX4_foresee_X4_reefsOn : GoodIn wsX4_foresee (wsV RX4 138 RX4 yX4_reefsOn wsX4_reefsOn) := goodIn_app (goodIn_of _ (by decide +kernel)) ggX4_foresee_X4_reefsOn
set_option maxRecDepth 20000 in
theorem ggX4_foresee_X4_countOnDepths : GoodIn wsX4_foresee wsX4_countOnDepths := goodIn_r _ [142, 143, 144, 70, 71, 18, 72, 20, 25, 49, 50, 51, 52, 165, 166, 167, 168, 169, 170, 171, 172, 173, 174] (by decide +kernel) (by decide +kernel)
set_option maxRecDepth 20000 in
theorem gX4_foresee_X4_countOnDepths : GoodIn wsX4_foresee (wsV RX4 135 RX4 yX4_countOnDepths wsX4_countOnDepths) := goodIn_app (goodIn_of _ (by decide +kernel)) ggX4_foresee_X4_countOnDepths
set_option maxRecDepth 20000 in
theorem ggX4_foresee_X4_greatestDraught : GoodIn wsX4_foresee wsX4_greatestDraught := goodIn_r _ [148, 149, 150, 151, 6, 152, 104, 153, 154, 155, 156, 143, 109, 110, 111, 112, 113, 114, 115, 116, 117, 118, 119, 121, 122, 123, 124, 125, 157, 158, 159, 160, 130, 131, 132, 133, 134, 135, 136, 137, 138, 77, 78, 161, 162, 163, 164, 165, 166, 167, 168, 169, 170, 177, 178, 179, 180] (by decide +kernel) (by decide +kernel)
set_option maxRecDepth 20000 in
theorem gX4_foresee_X4_greatestDraught : GoodIn wsX4_foresee (wsV RX4 108 RX4 yX4_greatestDraught wsX4_greatestDraught) := goodIn_app (goodIn_of _ (by decide +kernel)) ggX4_foresee_X4_greatestDraught
theorem dX4_foresee_0 : decode cX4_foresee 0 = .ok (.iload_n 1, 1) := by decide +kernel
theorem dX4_foresee_1 : decode cX4_foresee 1 = .ok (.iconst 1, 1) := by decide +kernel
theorem dX4_foresee_2 : decode cX4_foresee 2 = .ok (.bipush 100, 2) := by decide +kernel
theorem dX4_foresee_4 : decode cX4_foresee 4 = .ok (.invokestatic 48, 3) := by decide +kernel
theorem dX4_foresee_7 : decode cX4_foresee 7 = .ok (.iload_n 2, 1) := by decide +kernel
theorem dX4_foresee_8 : decode cX4_foresee 8 = .ok (.iconst 3, 1) := by decide +kernel
theorem dX4_foresee_9 : decode cX4_foresee 9 = .ok (.invokestatic 63, 3) := by decide +kernel
theorem dX4_foresee_12 : decode cX4_foresee 12 = .ok (.aload_n 0, 1) := by decide +kernel
theorem dX4_foresee_13 : decode cX4_foresee 13 = .ok (.getfield 23, 3) := by decide +kernel
theorem dX4_foresee_16 : decode cX4_foresee 16 = .ok (.aload_n 0, 1) := by decide +kernel
theorem dX4_foresee_17 : decode cX4_foresee 17 = .ok (.getfield 19, 3) := by decide +kernel
theorem dX4_foresee_20 : decode cX4_foresee 20 = .ok (.invokevirtual 131, 3) := by decide +kernel
theorem dX4_foresee_23 : decode cX4_foresee 23 = .ok (.iconst 0, 1) := by decide +kernel
theorem dX4_foresee_24 : decode cX4_foresee 24 = .ok (.istore_n 3, 1) := by decide +kernel
theorem dX4_foresee_25 : decode cX4_foresee 25 = .ok (.iload_n 3, 1) := by decide +kernel
theorem dX4_foresee_26 : decode cX4_foresee 26 = .ok (.iload_n 1, 1) := by decide +kernel
theorem dX4_foresee_27 : decode cX4_foresee 27 = .ok (.if_icmp .ge 20, 3) := by decide +kernel
theorem dX4_foresee_30 : decode cX4_foresee 30 = .ok (.aload_n 0, 1) := by decide +kernel
theorem dX4_foresee_31 : decode cX4_foresee 31 = .ok (.getfield 23, 3) := by decide +kernel
theorem dX4_foresee_34 : decode cX4_foresee 34 = .ok (.aload_n 0, 1) := by decide +kernel
theorem dX4_foresee_35 : decode cX4_foresee 35 = .ok (.getfield 12, 3) := by decide +kernel
theorem dX4_foresee_38 : decode cX4_foresee 38 = .ok (.invokevirtual 124, 3) := by decide +kernel
theorem dX4_foresee_41 : decode cX4_foresee 41 = .ok (.iinc 3 1, 3) := by decide +kernel
theorem dX4_foresee_44 : decode cX4_foresee 44 = .ok (.goto (-19), 3) := by decide +kernel
theorem dX4_foresee_47 : decode cX4_foresee 47 = .ok (.iload_n 2, 1) := by decide +kernel
theorem dX4_foresee_48 : decode cX4_foresee 48 = .ok (.lookupswitch 45 #[(0, 28), (1, 36)], 28) := by decide +kernel
theorem dX4_foresee_76 : decode cX4_foresee 76 = .ok (.aload_n 0, 1) := by decide +kernel
theorem dX4_foresee_77 : decode cX4_foresee 77 = .ok (.getfield 23, 3) := by decide +kernel
theorem dX4_foresee_80 : decode cX4_foresee 80 = .ok (.invokevirtual 121, 3) := by decide +kernel
theorem dX4_foresee_83 : decode cX4_foresee 83 = .ok (.ireturn, 1) := by decide +kernel
theorem dX4_foresee_84 : decode cX4_foresee 84 = .ok (.aload_n 0, 1) := by decide +kernel
theorem dX4_foresee_85 : decode cX4_foresee 85 = .ok (.aload_n 0, 1) := by decide +kernel
theorem dX4_foresee_86 : decode cX4_foresee 86 = .ok (.getfield 23, 3) := by decide +kernel
theorem dX4_foresee_89 : decode cX4_foresee 89 = .ok (.invokevirtual 138, 3) := by decide +kernel
theorem dX4_foresee_92 : decode cX4_foresee 92 = .ok (.ireturn, 1) := by decide +kernel
theorem dX4_foresee_93 : decode cX4_foresee 93 = .ok (.aload_n 0, 1) := by decide +kernel
theorem dX4_foresee_94 : decode cX4_foresee 94 = .ok (.aload_n 0, 1) := by decide +kernel
theorem dX4_foresee_95 : decode cX4_foresee 95 = .ok (.getfield 23, 3) := by decide +kernel
theorem dX4_foresee_98 : decode cX4_foresee 98 = .ok (.invokevirtual 135, 3) := by decide +kernel
theorem dX4_foresee_101 : decode cX4_foresee 101 = .ok (.aload_n 0, 1) := by decide +kernel
theorem dX4_foresee_102 : decode cX4_foresee 102 = .ok (.invokevirtual 108, 3) := by decide +kernel
theorem dX4_foresee_105 : decode cX4_foresee 105 = .ok (.ireturn, 1) := by decide +kernel
set_option maxRecDepth 20000 in
theorem ggX4_advise_X4_safeDepth : GoodIn wsX4_advise wsX4_safeDepth := goodIn_r _ [10, 11, 5, 1, 2, 3, 4, 12, 13, 14, 15, 16, 17, 18, 19, 20, 21, 22, 23, 24, 25, 26, 27, 28, 36, 37, 38, 39, 40, 41, 42, 43, 44, 45, 46, 47] (by decide +kernel) (by decide +kernel)
set_option maxRecDepth 20000 in
theorem gX4_advise_X4_safeDepth : GoodIn wsX4_advise (wsV RX4 142 RX4 yX4_safeDepth wsX4_safeDepth) := goodIn_app (goodIn_of _ (by decide +kernel)) ggX4_advise_X4_safeDepth
set_option maxRecDepth 20000 in
theorem ggX4_advise_X0_depthOf : GoodIn wsX4_advise wsX0_depthOf := goodIn_r _ [32, 33, 34, 35, 2, 3, 4, 44, 45, 46, 47] (by decide +kernel) (by decide +kernel)
set_option maxRecDepth 20000 in
theorem gX4_advise_X0_depthOf : GoodIn wsX4_advise (wsV RX4 75 RX0 yX0_depthOf wsX0_depthOf) := goodIn_app (goodIn_of _ (by decide +kernel)) ggX4_advise_X0_depthOf
theorem dX4_advise_0 : decode cX4_advise 0 = .ok (.iconst (-1), 1) := by decide +kernel
theorem dX4_advise_1 : decode cX4_advise 1 = .ok (.istore_n 1, 1) := by decide +kernel
theorem dX4_advise_2 : decode cX4_advise 2 = .ok (.iconst 0, 1) := by decide +kernel
theorem dX4_advise_3 : decode cX4_advise 3 = .ok (.istore_n 2, 1) := by decide +kernel
theorem dX4_advise_4 : decode cX4_advise 4 = .ok (.iconst 0, 1) := by decide +kernel
theorem dX4_advise_5 : decode cX4_advise 5 = .ok (.istore_n 3, 1) := by decide +kernel
theorem dX4_advise_6 : decode cX4_advise 6 = .ok (.iload_n 3, 1) := by decide +kernel
theorem dX4_advise_7 : decode cX4_advise 7 = .ok (.bipush 81, 2) := by decide +kernel
theorem dX4_advise_9 : decode cX4_advise 9 = .ok (.if_icmp .ge 44, 3) := by decide +kernel
theorem dX4_advise_12 : decode cX4_advise 12 = .ok (.aload_n 0, 1) := by decide +kernel
theorem dX4_advise_13 : decode cX4_advise 13 = .ok (.iload_n 3, 1) := by decide +kernel
theorem dX4_advise_14 : decode cX4_advise 14 = .ok (.invokevirtual 142, 3) := by decide +kernel
theorem dX4_advise_17 : decode cX4_advise 17 = .ok (.iconst 0, 1) := by decide +kernel
theorem dX4_advise_18 : decode cX4_advise 18 = .ok (.invokestatic 145, 3) := by decide +kernel
theorem dX4_advise_21 : decode cX4_advise 21 = .ok (.istore 4, 2) := by decide +kernel
theorem dX4_advise_23 : decode cX4_advise 23 = .ok (.iload 4, 2) := by decide +kernel
theorem dX4_advise_25 : decode cX4_advise 25 = .ok (.aload_n 0, 1) := by decide +kernel
theorem dX4_advise_26 : decode cX4_advise 26 = .ok (.getfield 19, 3) := by decide +kernel
theorem dX4_advise_29 : decode cX4_advise 29 = .ok (.iload_n 3, 1) := by decide +kernel
theorem dX4_advise_30 : decode cX4_advise 30 = .ok (.invokevirtual 75, 3) := by decide +kernel
theorem dX4_advise_33 : decode cX4_advise 33 = .ok (.isub, 1) := by decide +kernel
theorem dX4_advise_34 : decode cX4_advise 34 = .ok (.istore 5, 2) := by decide +kernel
theorem dX4_advise_36 : decode cX4_advise 36 = .ok (.iload 5, 2) := by decide +kernel
theorem dX4_advise_38 : decode cX4_advise 38 = .ok (.iload_n 2, 1) := by decide +kernel
theorem dX4_advise_39 : decode cX4_advise 39 = .ok (.if_icmp .le 8, 3) := by decide +kernel
theorem dX4_advise_42 : decode cX4_advise 42 = .ok (.iload 5, 2) := by decide +kernel
theorem dX4_advise_44 : decode cX4_advise 44 = .ok (.istore_n 2, 1) := by decide +kernel
theorem dX4_advise_45 : decode cX4_advise 45 = .ok (.iload_n 3, 1) := by decide +kernel
theorem dX4_advise_46 : decode cX4_advise 46 = .ok (.istore_n 1, 1) := by decide +kernel
theorem dX4_advise_47 : decode cX4_advise 47 = .ok (.iinc 3 1, 3) := by decide +kernel
theorem dX4_advise_50 : decode cX4_advise 50 = .ok (.goto (-44), 3) := by decide +kernel
theorem dX4_advise_53 : decode cX4_advise 53 = .ok (.iload_n 1, 1) := by decide +kernel
theorem dX4_advise_54 : decode cX4_advise 54 = .ok (.ireturn, 1) := by decide +kernel
set_option maxRecDepth 20000 in
theorem ggX4_mean_X0_depthOf : GoodIn wsX4_mean wsX0_depthOf := goodIn_r _ [7, 8, 9, 10, 11, 12, 13, 20, 21, 22, 23] (by decide +kernel) (by decide +kernel)
set_option maxRecDepth 20000 in
theorem gX4_mean_X0_depthOf : GoodIn wsX4_mean (wsV RX4 75 RX0 yX0_depthOf wsX0_depthOf) := goodIn_app (goodIn_of _ (by decide +kernel)) ggX4_mean_X0_depthOf
theorem dX4_mean_0 : decode cX4_mean 0 = .ok (.iconst 0, 1) := by decide +kernel
theorem dX4_mean_1 : decode cX4_mean 1 = .ok (.istore_n 1, 1) := by decide +kernel
theorem dX4_mean_2 : decode cX4_mean 2 = .ok (.iconst 0, 1) := by decide +kernel
theorem dX4_mean_3 : decode cX4_mean 3 = .ok (.istore_n 2, 1) := by decide +kernel
theorem dX4_mean_4 : decode cX4_mean 4 = .ok (.iload_n 2, 1) := by decide +kernel
theorem dX4_mean_5 : decode cX4_mean 5 = .ok (.bipush 81, 2) := by decide +kernel
theorem dX4_mean_7 : decode cX4_mean 7 = .ok (.if_icmp .ge 20, 3) := by decide +kernel
theorem dX4_mean_10 : decode cX4_mean 10 = .ok (.iload_n 1, 1) := by decide +kernel
theorem dX4_mean_11 : decode cX4_mean 11 = .ok (.aload_n 0, 1) := by decide +kernel
theorem dX4_mean_12 : decode cX4_mean 12 = .ok (.getfield 19, 3) := by decide +kernel
theorem dX4_mean_15 : decode cX4_mean 15 = .ok (.iload_n 2, 1) := by decide +kernel
theorem dX4_mean_16 : decode cX4_mean 16 = .ok (.invokevirtual 75, 3) := by decide +kernel
theorem dX4_mean_19 : decode cX4_mean 19 = .ok (.iadd, 1) := by decide +kernel
theorem dX4_mean_20 : decode cX4_mean 20 = .ok (.istore_n 1, 1) := by decide +kernel
theorem dX4_mean_21 : decode cX4_mean 21 = .ok (.iinc 2 1, 3) := by decide +kernel
theorem dX4_mean_24 : decode cX4_mean 24 = .ok (.goto (-20), 3) := by decide +kernel
theorem dX4_mean_27 : decode cX4_mean 27 = .ok (.iload_n 1, 1) := by decide +kernel
theorem dX4_mean_28 : decode cX4_mean 28 = .ok (.i2d, 1) := by decide +kernel
theorem dX4_mean_29 : decode cX4_mean 29 = .ok (.ldc2_w 150, 3) := by decide +kernel
theorem dX4_mean_32 : decode cX4_mean 32 = .ok (.ddiv, 1) := by decide +kernel
theorem dX4_mean_33 : decode cX4_mean 33 = .ok (.dreturn, 1) := by decide +kernel
set_option maxRecDepth 20000 in
theorem ggX4_digest_X4_countAnswer : GoodIn wsX4_digest wsX4_countAnswer := goodIn_r _ [9, 4, 10, 11, 12, 13, 14, 15, 16, 17, 18, 19, 20, 21, 22, 23, 24, 25, 26, 27, 8, 28, 29, 30, 31, 32, 33, 34, 35, 36, 37, 38, 39, 40, 41, 42, 43, 44, 45, 46, 47, 48, 49, 50, 51, 52, 53, 54, 55, 56, 57, 58, 59, 60, 61, 62, 63, 64, 65, 66, 67, 68, 69, 70, 71, 72, 73, 74, 75, 76, 77, 78, 79, 80, 81, 82, 83, 84, 85, 86, 87, 88, 89, 90, 91, 92, 93, 94, 95, 96, 97, 98, 99, 100, 101, 102, 131, 132, 133, 134, 135, 136, 137, 138, 139, 140, 141, 142, 143, 144, 145, 146] (by decide +kernel) (by decide +kernel)
set_option maxRecDepth 20000 in
theorem gX4_digest_X4_countAnswer : GoodIn wsX4_digest (wsV RX4 128 RX4 yX4_countAnswer wsX4_countAnswer) := goodIn_app (goodIn_of _ (by decide +kernel)) ggX4_digest_X4_countAnswer
set_option maxRecDepth 20000 in
theorem ggX4_digest_X3_entry : GoodIn wsX4_digest wsX3_entry := goodIn_r _ [107, 108, 109, 147, 148] (by decide +kernel) (by decide +kernel)
set_option maxRecDepth 20000 in
theorem gX4_digest_X3_entry : GoodIn wsX4_digest (wsV RX4 66 RX3 yX3_entry wsX3_entry) := goodIn_app (goodIn_of _ (by decide +kernel)) ggX4_digest_X3_entry
set_option maxRecDepth 20000 in
theorem ggX4_digest_X0_groundOf : GoodIn wsX4_digest wsX0_groundOf := goodIn_r _ [113, 97, 137, 138, 139, 140] (by decide +kernel) (by decide +kernel)
set_option maxRecDepth 20000 in
theorem gX4_digest_X0_groundOf : GoodIn wsX4_digest (wsV RX4 56 RX0 yX0_groundOf wsX0_groundOf) := goodIn_app (goodIn_of _ (by decide +kernel)) ggX4_digest_X0_groundOf
set_option maxRecDepth 20000 in
theorem ggX4_digest_X0_coralOf : GoodIn wsX4_digest wsX0_coralOf := goodIn_r _ [117, 24, 137, 138, 139, 140] (by decide +kernel) (by decide +kernel)
set_option maxRecDepth 20000 in
theorem gX4_digest_X0_coralOf : GoodIn wsX4_digest (wsV RX4 72 RX0 yX0_coralOf wsX0_coralOf) := goodIn_app (goodIn_of _ (by decide +kernel)) ggX4_digest_X0_coralOf
set_option maxRecDepth 20000 in
theorem ggX4_digest_X4_chartAnswer : GoodIn wsX4_digest wsX4_chartAnswer := goodIn_r _ [121, 82, 4, 83, 84, 85, 86, 87, 88, 10, 11, 12, 13, 14, 15, 122, 123, 124, 125, 126, 127, 128, 129, 8, 130, 70, 71, 72, 73, 131, 132, 133, 134, 135, 136, 145, 146, 137, 138, 139, 140] (by decide +kernel) (by decide +kernel)
set_option maxRecDepth 20000 in
theorem gX4_digest_X4_chartAnswer : GoodIn wsX4_digest (wsV RX4 95 RX4 yX4_chartAnswer wsX4_chartAnswer) := goodIn_app (goodIn_of _ (by decide +kernel)) ggX4_digest_X4_chartAnswer
theorem dX4_digest_0 : decode cX4_digest 0 = .ok (.ldc2_w 152, 3) := by decide +kernel
theorem dX4_digest_3 : decode cX4_digest 3 = .ok (.lstore_n 1, 1) := by decide +kernel
theorem dX4_digest_4 : decode cX4_digest 4 = .ok (.iconst 0, 1) := by decide +kernel
theorem dX4_digest_5 : decode cX4_digest 5 = .ok (.istore_n 3, 1) := by decide +kernel
theorem dX4_digest_6 : decode cX4_digest 6 = .ok (.iload_n 3, 1) := by decide +kernel
theorem dX4_digest_7 : decode cX4_digest 7 = .ok (.bipush 8, 2) := by decide +kernel
theorem dX4_digest_9 : decode cX4_digest 9 = .ok (.if_icmp .ge 22, 3) := by decide +kernel
theorem dX4_digest_12 : decode cX4_digest 12 = .ok (.lload_n 1, 1) := by decide +kernel
theorem dX4_digest_13 : decode cX4_digest 13 = .ok (.ldc2_w 154, 3) := by decide +kernel
theorem dX4_digest_16 : decode cX4_digest 16 = .ok (.lmul, 1) := by decide +kernel
theorem dX4_digest_17 : decode cX4_digest 17 = .ok (.aload_n 0, 1) := by decide +kernel
theorem dX4_digest_18 : decode cX4_digest 18 = .ok (.iload_n 3, 1) := by decide +kernel
theorem dX4_digest_19 : decode cX4_digest 19 = .ok (.invokevirtual 128, 3) := by decide +kernel
theorem dX4_digest_22 : decode cX4_digest 22 = .ok (.i2l, 1) := by decide +kernel
theorem dX4_digest_23 : decode cX4_digest 23 = .ok (.ladd, 1) := by decide +kernel
theorem dX4_digest_24 : decode cX4_digest 24 = .ok (.lstore_n 1, 1) := by decide +kernel
theorem dX4_digest_25 : decode cX4_digest 25 = .ok (.iinc 3 1, 3) := by decide +kernel
theorem dX4_digest_28 : decode cX4_digest 28 = .ok (.goto (-22), 3) := by decide +kernel
theorem dX4_digest_31 : decode cX4_digest 31 = .ok (.iconst 0, 1) := by decide +kernel
theorem dX4_digest_32 : decode cX4_digest 32 = .ok (.istore_n 3, 1) := by decide +kernel
theorem dX4_digest_33 : decode cX4_digest 33 = .ok (.iload_n 3, 1) := by decide +kernel
theorem dX4_digest_34 : decode cX4_digest 34 = .ok (.bipush 12, 2) := by decide +kernel
theorem dX4_digest_36 : decode cX4_digest 36 = .ok (.if_icmp .ge 25, 3) := by decide +kernel
theorem dX4_digest_39 : decode cX4_digest 39 = .ok (.lload_n 1, 1) := by decide +kernel
theorem dX4_digest_40 : decode cX4_digest 40 = .ok (.ldc2_w 154, 3) := by decide +kernel
theorem dX4_digest_43 : decode cX4_digest 43 = .ok (.lmul, 1) := by decide +kernel
theorem dX4_digest_44 : decode cX4_digest 44 = .ok (.aload_n 0, 1) := by decide +kernel
theorem dX4_digest_45 : decode cX4_digest 45 = .ok (.getfield 12, 3) := by decide +kernel
theorem dX4_digest_48 : decode cX4_digest 48 = .ok (.iload_n 3, 1) := by decide +kernel
theorem dX4_digest_49 : decode cX4_digest 49 = .ok (.invokevirtual 66, 3) := by decide +kernel
theorem dX4_digest_52 : decode cX4_digest 52 = .ok (.i2l, 1) := by decide +kernel
theorem dX4_digest_53 : decode cX4_digest 53 = .ok (.ladd, 1) := by decide +kernel
theorem dX4_digest_54 : decode cX4_digest 54 = .ok (.lstore_n 1, 1) := by decide +kernel
theorem dX4_digest_55 : decode cX4_digest 55 = .ok (.iinc 3 1, 3) := by decide +kernel
theorem dX4_digest_58 : decode cX4_digest 58 = .ok (.goto (-25), 3) := by decide +kernel
theorem dX4_digest_61 : decode cX4_digest 61 = .ok (.iconst 0, 1) := by decide +kernel
theorem dX4_digest_62 : decode cX4_digest 62 = .ok (.istore_n 3, 1) := by decide +kernel
theorem dX4_digest_63 : decode cX4_digest 63 = .ok (.iload_n 3, 1) := by decide +kernel
theorem dX4_digest_64 : decode cX4_digest 64 = .ok (.bipush 81, 2) := by decide +kernel
theorem dX4_digest_66 : decode cX4_digest 66 = .ok (.if_icmp .ge 71, 3) := by decide +kernel
theorem dX4_digest_69 : decode cX4_digest 69 = .ok (.lload_n 1, 1) := by decide +kernel
theorem dX4_digest_70 : decode cX4_digest 70 = .ok (.ldc2_w 154, 3) := by decide +kernel
theorem dX4_digest_73 : decode cX4_digest 73 = .ok (.lmul, 1) := by decide +kernel
theorem dX4_digest_74 : decode cX4_digest 74 = .ok (.aload_n 0, 1) := by decide +kernel
theorem dX4_digest_75 : decode cX4_digest 75 = .ok (.getfield 19, 3) := by decide +kernel
theorem dX4_digest_78 : decode cX4_digest 78 = .ok (.iload_n 3, 1) := by decide +kernel
theorem dX4_digest_79 : decode cX4_digest 79 = .ok (.invokevirtual 56, 3) := by decide +kernel
theorem dX4_digest_82 : decode cX4_digest 82 = .ok (.i2l, 1) := by decide +kernel
theorem dX4_digest_83 : decode cX4_digest 83 = .ok (.ladd, 1) := by decide +kernel
theorem dX4_digest_84 : decode cX4_digest 84 = .ok (.lstore_n 1, 1) := by decide +kernel
theorem dX4_digest_85 : decode cX4_digest 85 = .ok (.lload_n 1, 1) := by decide +kernel
theorem dX4_digest_86 : decode cX4_digest 86 = .ok (.ldc2_w 154, 3) := by decide +kernel
theorem dX4_digest_89 : decode cX4_digest 89 = .ok (.lmul, 1) := by decide +kernel
theorem dX4_digest_90 : decode cX4_digest 90 = .ok (.aload_n 0, 1) := by decide +kernel
theorem dX4_digest_91 : decode cX4_digest 91 = .ok (.getfield 19, 3) := by decide +kernel
theorem dX4_digest_94 : decode cX4_digest 94 = .ok (.iload_n 3, 1) := by decide +kernel
theorem dX4_digest_95 : decode cX4_digest 95 = .ok (.invokevirtual 72, 3) := by decide +kernel
theorem dX4_digest_98 : decode cX4_digest 98 = .ok (.i2l, 1) := by decide +kernel
theorem dX4_digest_99 : decode cX4_digest 99 = .ok (.ladd, 1) := by decide +kernel
theorem dX4_digest_100 : decode cX4_digest 100 = .ok (.lstore_n 1, 1) := by decide +kernel
theorem dX4_digest_101 : decode cX4_digest 101 = .ok (.iconst 0, 1) := by decide +kernel
theorem dX4_digest_102 : decode cX4_digest 102 = .ok (.istore 4, 2) := by decide +kernel
theorem dX4_digest_104 : decode cX4_digest 104 = .ok (.iload 4, 2) := by decide +kernel
theorem dX4_digest_106 : decode cX4_digest 106 = .ok (.iconst 3, 1) := by decide +kernel
theorem dX4_digest_107 : decode cX4_digest 107 = .ok (.if_icmp .ge 24, 3) := by decide +kernel
theorem dX4_digest_110 : decode cX4_digest 110 = .ok (.lload_n 1, 1) := by decide +kernel
theorem dX4_digest_111 : decode cX4_digest 111 = .ok (.ldc2_w 154, 3) := by decide +kernel
theorem dX4_digest_114 : decode cX4_digest 114 = .ok (.lmul, 1) := by decide +kernel
theorem dX4_digest_115 : decode cX4_digest 115 = .ok (.aload_n 0, 1) := by decide +kernel
theorem dX4_digest_116 : decode cX4_digest 116 = .ok (.iload_n 3, 1) := by decide +kernel
theorem dX4_digest_117 : decode cX4_digest 117 = .ok (.iload 4, 2) := by decide +kernel
theorem dX4_digest_119 : decode cX4_digest 119 = .ok (.invokevirtual 95, 3) := by decide +kernel
theorem dX4_digest_122 : decode cX4_digest 122 = .ok (.i2l, 1) := by decide +kernel
theorem dX4_digest_123 : decode cX4_digest 123 = .ok (.ladd, 1) := by decide +kernel
theorem dX4_digest_124 : decode cX4_digest 124 = .ok (.lstore_n 1, 1) := by decide +kernel
theorem dX4_digest_125 : decode cX4_digest 125 = .ok (.iinc 4 1, 3) := by decide +kernel
theorem dX4_digest_128 : decode cX4_digest 128 = .ok (.goto (-24), 3) := by decide +kernel
theorem dX4_digest_131 : decode cX4_digest 131 = .ok (.iinc 3 1, 3) := by decide +kernel
theorem dX4_digest_134 : decode cX4_digest 134 = .ok (.goto (-71), 3) := by decide +kernel
theorem dX4_digest_137 : decode cX4_digest 137 = .ok (.lload_n 1, 1) := by decide +kernel
theorem dX4_digest_138 : decode cX4_digest 138 = .ok (.lreturn, 1) := by decide +kernel
set_option maxRecDepth 20000 in
theorem ggX4_needCell_X4_needIndex : GoodIn wsX4_needCell wsX4_needIndex := goodIn_ca (goodIn_r _ [4, 5, 6] (by decide +kernel) (by decide +kernel)) (goodIn_sub (fun _ h => List.mem_cons_of_mem _ (List.mem_append_right _ h)) (by decide +kernel))
set_option maxRecDepth 20000 in
theorem gX4_needCell_X4_needIndex : GoodIn wsX4_needCell (va_wsS RX4 63 yX4_needIndex wsX4_needIndex) := goodIn_app (goodIn_of _ (by decide +kernel)) ggX4_needCell_X4_needIndex
theorem dX4_needCell_0 : decode cX4_needCell 0 = .ok (.iload_n 0, 1) := by decide +kernel
theorem dX4_needCell_1 : decode cX4_needCell 1 = .ok (.bipush 9, 2) := by decide +kernel
theorem dX4_needCell_3 : decode cX4_needCell 3 = .ok (.invokestatic 63, 3) := by decide +kernel
theorem dX4_needCell_6 : decode cX4_needCell 6 = .ok (.iload_n 1, 1) := by decide +kernel
theorem dX4_needCell_7 : decode cX4_needCell 7 = .ok (.bipush 9, 2) := by decide +kernel
theorem dX4_needCell_9 : decode cX4_needCell 9 = .ok (.invokestatic 63, 3) := by decide +kernel
theorem dX4_needCell_12 : decode cX4_needCell 12 = .ok (.return_, 1) := by decide +kernel
theorem dX4_needIndex_0 : decode cX4_needIndex 0 = .ok (.iload_n 0, 1) := by decide +kernel
theorem dX4_needIndex_1 : decode cX4_needIndex 1 = .ok (.ifCond .lt 8, 3) := by decide +kernel
theorem dX4_needIndex_4 : decode cX4_needIndex 4 = .ok (.iload_n 0, 1) := by decide +kernel
theorem dX4_needIndex_5 : decode cX4_needIndex 5 = .ok (.iload_n 1, 1) := by decide +kernel
theorem dX4_needIndex_6 : decode cX4_needIndex 6 = .ok (.if_icmp .lt 13, 3) := by decide +kernel
theorem dX4_needIndex_9 : decode cX4_needIndex 9 = .ok (.new 156, 3) := by decide +kernel
theorem dX4_needIndex_12 : decode cX4_needIndex 12 = .ok (.dup, 1) := by decide +kernel
theorem dX4_needIndex_13 : decode cX4_needIndex 13 = .ok (.ldc 158, 2) := by decide +kernel
theorem dX4_needIndex_15 : decode cX4_needIndex 15 = .ok (.invokespecial 160, 3) := by decide +kernel
theorem dX4_needIndex_18 : decode cX4_needIndex 18 = .ok (.athrow, 1) := by decide +kernel
theorem dX4_needIndex_19 : decode cX4_needIndex 19 = .ok (.return_, 1) := by decide +kernel
theorem dX4_needWithin_0 : decode cX4_needWithin 0 = .ok (.iload_n 0, 1) := by decide +kernel
theorem dX4_needWithin_1 : decode cX4_needWithin 1 = .ok (.iload_n 1, 1) := by decide +kernel
theorem dX4_needWithin_2 : decode cX4_needWithin 2 = .ok (.if_icmp .lt 8, 3) := by decide +kernel
theorem dX4_needWithin_5 : decode cX4_needWithin 5 = .ok (.iload_n 0, 1) := by decide +kernel
theorem dX4_needWithin_6 : decode cX4_needWithin 6 = .ok (.iload_n 2, 1) := by decide +kernel
theorem dX4_needWithin_7 : decode cX4_needWithin 7 = .ok (.if_icmp .le 13, 3) := by decide +kernel
theorem dX4_needWithin_10 : decode cX4_needWithin 10 = .ok (.new 163, 3) := by decide +kernel
theorem dX4_needWithin_13 : decode cX4_needWithin 13 = .ok (.dup, 1) := by decide +kernel
theorem dX4_needWithin_14 : decode cX4_needWithin 14 = .ok (.ldc 165, 2) := by decide +kernel
theorem dX4_needWithin_16 : decode cX4_needWithin 16 = .ok (.invokespecial 167, 3) := by decide +kernel
theorem dX4_needWithin_19 : decode cX4_needWithin 19 = .ok (.athrow, 1) := by decide +kernel
theorem dX4_needWithin_20 : decode cX4_needWithin 20 = .ok (.return_, 1) := by decide +kernel
set_option maxRecDepth 20000 in
theorem ggX4_countAnswer_X0_monthNow : GoodIn wsX4_countAnswer wsX0_monthNow := goodIn_r _ [6, 7, 102, 103, 104, 105] (by decide +kernel) (by decide +kernel)
set_option maxRecDepth 20000 in
theorem gX4_countAnswer_X0_monthNow : GoodIn wsX4_countAnswer (wsV RX4 88 RX0 yX0_monthNow wsX0_monthNow) := goodIn_app (goodIn_of _ (by decide +kernel)) ggX4_countAnswer_X0_monthNow
set_option maxRecDepth 20000 in
theorem ggX4_countAnswer_X0_heads : GoodIn wsX4_countAnswer wsX0_heads := goodIn_r _ [11, 12, 13, 14, 5, 15, 16, 102, 103, 104, 105] (by decide +kernel) (by decide +kernel)
set_option maxRecDepth 20000 in
theorem gX4_countAnswer_X0_heads : GoodIn wsX4_countAnswer (wsV RX4 121 RX0 yX0_heads wsX0_heads) := goodIn_app (goodIn_of _ (by decide +kernel)) ggX4_countAnswer_X0_heads
set_option maxRecDepth 20000 in
theorem ggX4_countAnswer_X4_reefsOn : GoodIn wsX4_countAnswer wsX4_reefsOn := goodIn_r _ [21, 22, 23, 24, 25, 20, 26, 27, 28, 29, 30, 31, 32, 33, 34, 35, 36, 37, 38, 13, 14, 5, 15, 16, 39, 40, 41, 42, 43, 44, 45, 46, 47, 48, 49, 50, 51, 52, 53, 54, 55, 56, 57, 58, 96, 97, 98, 99, 100, 101, 106, 107, 108, 109, 102, 103, 104, 105] (by decide +kernel) (by decide +kernel)
set_option maxRecDepth 20000 in
theorem gX4_countAnswer_X4_reefsOn : GoodIn wsX4_countAnswer (wsV RX4 138 RX4 yX4_reefsOn wsX4_reefsOn) := goodIn_app (goodIn_of _ (by decide +kernel)) ggX4_countAnswer_X4_reefsOn
set_option maxRecDepth 20000 in
theorem ggX4_countAnswer_X4_headsOfLargestReef : GoodIn wsX4_countAnswer wsX4_headsOfLargestReef := goodIn_r _ [62, 1, 22, 63, 64, 65, 66, 23, 24, 25, 20, 26, 27, 28, 29, 30, 31, 32, 33, 34, 35, 36, 37, 38, 13, 14, 5, 15, 16, 39, 40, 41, 42, 43, 44, 45, 46, 47, 48, 49, 50, 51, 52, 53, 54, 55, 56, 57, 58, 96, 97, 98, 99, 100, 101, 106, 107, 108, 109, 102, 103, 104, 105] (by decide +kernel) (by decide +kernel)
set_option maxRecDepth 20000 in
theorem gX4_countAnswer_X4_headsOfLargestReef : GoodIn wsX4_countAnswer (wsV RX4 168 RX4 yX4_headsOfLargestReef wsX4_headsOfLargestReef) := goodIn_app (goodIn_of _ (by decide +kernel)) ggX4_countAnswer_X4_headsOfLargestReef
set_option maxRecDepth 20000 in
theorem ggX4_countAnswer_X0_allCoral : GoodIn wsX4_countAnswer wsX0_allCoral := goodIn_r _ [70, 16, 102, 103, 104, 105] (by decide +kernel) (by decide +kernel)
set_option maxRecDepth 20000 in
theorem gX4_countAnswer_X0_allCoral : GoodIn wsX4_countAnswer (wsV RX4 171 RX0 yX0_allCoral wsX0_allCoral) := goodIn_app (goodIn_of _ (by decide +kernel)) ggX4_countAnswer_X0_allCoral
set_option maxRecDepth 20000 in
theorem ggX4_countAnswer_X4_soundingsTaken : GoodIn wsX4_countAnswer wsX4_soundingsTaken := goodIn_r _ [74, 75, 76, 77, 78, 79, 80, 81, 96, 97, 98, 99, 100, 101, 110, 111] (by decide +kernel) (by decide +kernel)
set_option maxRecDepth 20000 in
theorem gX4_countAnswer_X4_soundingsTaken : GoodIn wsX4_countAnswer (wsV RX4 174 RX4 yX4_soundingsTaken wsX4_soundingsTaken) := goodIn_app (goodIn_of _ (by decide +kernel)) ggX4_countAnswer_X4_soundingsTaken
set_option maxRecDepth 20000 in
theorem ggX4_countAnswer_X4_soundingsTooDeep : GoodIn wsX4_countAnswer wsX4_soundingsTooDeep := goodIn_r _ [85, 75, 1, 76, 77, 78, 79, 80, 81, 86, 87, 88, 5, 89, 90, 16, 91, 64, 65, 66, 96, 97, 98, 99, 100, 101, 110, 111, 102, 103, 104, 105] (by decide +kernel) (by decide +kernel)
set_option maxRecDepth 20000 in
theorem gX4_countAnswer_X4_soundingsTooDeep : GoodIn wsX4_countAnswer (wsV RX4 177 RX4 yX4_soundingsTooDeep wsX4_soundingsTooDeep) := goodIn_app (goodIn_of _ (by decide +kernel)) ggX4_countAnswer_X4_soundingsTooDeep
set_option maxRecDepth 20000 in
theorem ggX4_countAnswer_X4_cellsWithoutDepth : GoodIn wsX4_countAnswer wsX4_cellsWithoutDepth := goodIn_r _ [95, 1, 86, 87, 88, 5, 89, 90, 16, 91, 64, 65, 66, 96, 97, 98, 99, 100, 101, 102, 103, 104, 105] (by decide +kernel) (by decide +kernel)
set_option maxRecDepth 20000 in
theorem gX4_countAnswer_X4_cellsWithoutDepth : GoodIn wsX4_countAnswer (wsV RX4 180 RX4 yX4_cellsWithoutDepth wsX4_cellsWithoutDepth) := goodIn_app (goodIn_of _ (by decide +kernel)) ggX4_countAnswer_X4_cellsWithoutDepth
theorem dX4_countAnswer_0 : decode cX4_countAnswer 0 = .ok (.iload_n 1, 1) := by decide +kernel
theorem dX4_countAnswer_1 : decode cX4_countAnswer 1 = .ok (.tableswitch 91 0 6 #[43, 51, 59, 68, 73, 81, 86], 43) := by decide +kernel
theorem dX4_countAnswer_44 : decode cX4_countAnswer 44 = .ok (.aload_n 0, 1) := by decide +kernel
theorem dX4_countAnswer_45 : decode cX4_countAnswer 45 = .ok (.getfield 19, 3) := by decide +kernel
theorem dX4_countAnswer_48 : decode cX4_countAnswer 48 = .ok (.invokevirtual 88, 3) := by decide +kernel
theorem dX4_countAnswer_51 : decode cX4_countAnswer 51 = .ok (.ireturn, 1) := by decide +kernel
theorem dX4_countAnswer_52 : decode cX4_countAnswer 52 = .ok (.aload_n 0, 1) := by decide +kernel
theorem dX4_countAnswer_53 : decode cX4_countAnswer 53 = .ok (.getfield 19, 3) := by decide +kernel
theorem dX4_countAnswer_56 : decode cX4_countAnswer 56 = .ok (.invokevirtual 121, 3) := by decide +kernel
theorem dX4_countAnswer_59 : decode cX4_countAnswer 59 = .ok (.ireturn, 1) := by decide +kernel
theorem dX4_countAnswer_60 : decode cX4_countAnswer 60 = .ok (.aload_n 0, 1) := by decide +kernel
theorem dX4_countAnswer_61 : decode cX4_countAnswer 61 = .ok (.aload_n 0, 1) := by decide +kernel
theorem dX4_countAnswer_62 : decode cX4_countAnswer 62 = .ok (.getfield 19, 3) := by decide +kernel
theorem dX4_countAnswer_65 : decode cX4_countAnswer 65 = .ok (.invokevirtual 138, 3) := by decide +kernel
theorem dX4_countAnswer_68 : decode cX4_countAnswer 68 = .ok (.ireturn, 1) := by decide +kernel
theorem dX4_countAnswer_69 : decode cX4_countAnswer 69 = .ok (.aload_n 0, 1) := by decide +kernel
theorem dX4_countAnswer_70 : decode cX4_countAnswer 70 = .ok (.invokevirtual 168, 3) := by decide +kernel
theorem dX4_countAnswer_73 : decode cX4_countAnswer 73 = .ok (.ireturn, 1) := by decide +kernel
theorem dX4_countAnswer_74 : decode cX4_countAnswer 74 = .ok (.aload_n 0, 1) := by decide +kernel
theorem dX4_countAnswer_75 : decode cX4_countAnswer 75 = .ok (.getfield 19, 3) := by decide +kernel
theorem dX4_countAnswer_78 : decode cX4_countAnswer 78 = .ok (.invokevirtual 171, 3) := by decide +kernel
theorem dX4_countAnswer_81 : decode cX4_countAnswer 81 = .ok (.ireturn, 1) := by decide +kernel
theorem dX4_countAnswer_82 : decode cX4_countAnswer 82 = .ok (.aload_n 0, 1) := by decide +kernel
theorem dX4_countAnswer_83 : decode cX4_countAnswer 83 = .ok (.invokevirtual 174, 3) := by decide +kernel
theorem dX4_countAnswer_86 : decode cX4_countAnswer 86 = .ok (.ireturn, 1) := by decide +kernel
theorem dX4_countAnswer_87 : decode cX4_countAnswer 87 = .ok (.aload_n 0, 1) := by decide +kernel
theorem dX4_countAnswer_88 : decode cX4_countAnswer 88 = .ok (.invokevirtual 177, 3) := by decide +kernel
theorem dX4_countAnswer_91 : decode cX4_countAnswer 91 = .ok (.ireturn, 1) := by decide +kernel
theorem dX4_countAnswer_92 : decode cX4_countAnswer 92 = .ok (.aload_n 0, 1) := by decide +kernel
theorem dX4_countAnswer_93 : decode cX4_countAnswer 93 = .ok (.invokevirtual 180, 3) := by decide +kernel
theorem dX4_countAnswer_96 : decode cX4_countAnswer 96 = .ok (.ireturn, 1) := by decide +kernel
set_option maxRecDepth 20000 in
theorem ggX4_soundingsTaken_X1_noted : GoodIn wsX4_soundingsTaken wsX1_noted := goodIn_r _ [6, 7, 14, 15] (by decide +kernel) (by decide +kernel)
set_option maxRecDepth 20000 in
theorem gX4_soundingsTaken_X1_noted : GoodIn wsX4_soundingsTaken (wsV RX4 85 RX1 yX1_noted wsX1_noted) := goodIn_app (goodIn_of _ (by decide +kernel)) ggX4_soundingsTaken_X1_noted
theorem dX4_soundingsTaken_0 : decode cX4_soundingsTaken 0 = .ok (.iconst 0, 1) := by decide +kernel
theorem dX4_soundingsTaken_1 : decode cX4_soundingsTaken 1 = .ok (.istore_n 1, 1) := by decide +kernel
theorem dX4_soundingsTaken_2 : decode cX4_soundingsTaken 2 = .ok (.iconst 0, 1) := by decide +kernel
theorem dX4_soundingsTaken_3 : decode cX4_soundingsTaken 3 = .ok (.istore_n 2, 1) := by decide +kernel
theorem dX4_soundingsTaken_4 : decode cX4_soundingsTaken 4 = .ok (.iload_n 2, 1) := by decide +kernel
theorem dX4_soundingsTaken_5 : decode cX4_soundingsTaken 5 = .ok (.bipush 81, 2) := by decide +kernel
theorem dX4_soundingsTaken_7 : decode cX4_soundingsTaken 7 = .ok (.if_icmp .ge 24, 3) := by decide +kernel
theorem dX4_soundingsTaken_10 : decode cX4_soundingsTaken 10 = .ok (.aload_n 0, 1) := by decide +kernel
theorem dX4_soundingsTaken_11 : decode cX4_soundingsTaken 11 = .ok (.getfield 29, 3) := by decide +kernel
theorem dX4_soundingsTaken_14 : decode cX4_soundingsTaken 14 = .ok (.iload_n 2, 1) := by decide +kernel
theorem dX4_soundingsTaken_15 : decode cX4_soundingsTaken 15 = .ok (.invokevirtual 85, 3) := by decide +kernel
theorem dX4_soundingsTaken_18 : decode cX4_soundingsTaken 18 = .ok (.iconst (-1), 1) := by decide +kernel
theorem dX4_soundingsTaken_19 : decode cX4_soundingsTaken 19 = .ok (.if_icmp .eq 6, 3) := by decide +kernel
theorem dX4_soundingsTaken_22 : decode cX4_soundingsTaken 22 = .ok (.iinc 1 1, 3) := by decide +kernel
theorem dX4_soundingsTaken_25 : decode cX4_soundingsTaken 25 = .ok (.iinc 2 1, 3) := by decide +kernel
theorem dX4_soundingsTaken_28 : decode cX4_soundingsTaken 28 = .ok (.goto (-24), 3) := by decide +kernel
theorem dX4_soundingsTaken_31 : decode cX4_soundingsTaken 31 = .ok (.iload_n 1, 1) := by decide +kernel
theorem dX4_soundingsTaken_32 : decode cX4_soundingsTaken 32 = .ok (.ireturn, 1) := by decide +kernel
set_option maxRecDepth 20000 in
theorem ggX4_soundingsTooDeep_X1_noted : GoodIn wsX4_soundingsTooDeep wsX1_noted := goodIn_r _ [7, 8, 26, 27] (by decide +kernel) (by decide +kernel)
set_option maxRecDepth 20000 in
theorem gX4_soundingsTooDeep_X1_noted : GoodIn wsX4_soundingsTooDeep (wsV RX4 85 RX1 yX1_noted wsX1_noted) := goodIn_app (goodIn_of _ (by decide +kernel)) ggX4_soundingsTooDeep_X1_noted
set_option maxRecDepth 20000 in
theorem ggX4_soundingsTooDeep_X0_depthOf : GoodIn wsX4_soundingsTooDeep wsX0_depthOf := goodIn_r _ [13, 14, 15, 16, 17, 18, 19, 28, 29, 30, 31] (by decide +kernel) (by decide +kernel)
set_option maxRecDepth 20000 in
theorem gX4_soundingsTooDeep_X0_depthOf : GoodIn wsX4_soundingsTooDeep (wsV RX4 75 RX0 yX0_depthOf wsX0_depthOf) := goodIn_app (goodIn_of _ (by decide +kernel)) ggX4_soundingsTooDeep_X0_depthOf
theorem dX4_soundingsTooDeep_0 : decode cX4_soundingsTooDeep 0 = .ok (.iconst 0, 1) := by decide +kernel
theorem dX4_soundingsTooDeep_1 : decode cX4_soundingsTooDeep 1 = .ok (.istore_n 1, 1) := by decide +kernel
theorem dX4_soundingsTooDeep_2 : decode cX4_soundingsTooDeep 2 = .ok (.iconst 0, 1) := by decide +kernel
theorem dX4_soundingsTooDeep_3 : decode cX4_soundingsTooDeep 3 = .ok (.istore_n 2, 1) := by decide +kernel
theorem dX4_soundingsTooDeep_4 : decode cX4_soundingsTooDeep 4 = .ok (.iload_n 2, 1) := by decide +kernel
theorem dX4_soundingsTooDeep_5 : decode cX4_soundingsTooDeep 5 = .ok (.bipush 81, 2) := by decide +kernel
theorem dX4_soundingsTooDeep_7 : decode cX4_soundingsTooDeep 7 = .ok (.if_icmp .ge 31, 3) := by decide +kernel
theorem dX4_soundingsTooDeep_10 : decode cX4_soundingsTooDeep 10 = .ok (.aload_n 0, 1) := by decide +kernel
theorem dX4_soundingsTooDeep_11 : decode cX4_soundingsTooDeep 11 = .ok (.getfield 29, 3) := by decide +kernel
theorem dX4_soundingsTooDeep_14 : decode cX4_soundingsTooDeep 14 = .ok (.iload_n 2, 1) := by decide +kernel
theorem dX4_soundingsTooDeep_15 : decode cX4_soundingsTooDeep 15 = .ok (.invokevirtual 85, 3) := by decide +kernel
theorem dX4_soundingsTooDeep_18 : decode cX4_soundingsTooDeep 18 = .ok (.aload_n 0, 1) := by decide +kernel
theorem dX4_soundingsTooDeep_19 : decode cX4_soundingsTooDeep 19 = .ok (.getfield 19, 3) := by decide +kernel
theorem dX4_soundingsTooDeep_22 : decode cX4_soundingsTooDeep 22 = .ok (.iload_n 2, 1) := by decide +kernel
theorem dX4_soundingsTooDeep_23 : decode cX4_soundingsTooDeep 23 = .ok (.invokevirtual 75, 3) := by decide +kernel
theorem dX4_soundingsTooDeep_26 : decode cX4_soundingsTooDeep 26 = .ok (.if_icmp .le 6, 3) := by decide +kernel
theorem dX4_soundingsTooDeep_29 : decode cX4_soundingsTooDeep 29 = .ok (.iinc 1 1, 3) := by decide +kernel
theorem dX4_soundingsTooDeep_32 : decode cX4_soundingsTooDeep 32 = .ok (.iinc 2 1, 3) := by decide +kernel
theorem dX4_soundingsTooDeep_35 : decode cX4_soundingsTooDeep 35 = .ok (.goto (-31), 3) := by decide +kernel
theorem dX4_soundingsTooDeep_38 : decode cX4_soundingsTooDeep 38 = .ok (.iload_n 1, 1) := by decide +kernel
theorem dX4_soundingsTooDeep_39 : decode cX4_soundingsTooDeep 39 = .ok (.ireturn, 1) := by decide +kernel
set_option maxRecDepth 20000 in
theorem ggX4_cellsWithoutDepth_X0_depthOf : GoodIn wsX4_cellsWithoutDepth wsX0_depthOf := goodIn_r _ [6, 7, 8, 9, 10, 11, 12, 19, 20, 21, 22] (by decide +kernel) (by decide +kernel)
set_option maxRecDepth 20000 in
theorem gX4_cellsWithoutDepth_X0_depthOf : GoodIn wsX4_cellsWithoutDepth (wsV RX4 75 RX0 yX0_depthOf wsX0_depthOf) := goodIn_app (goodIn_of _ (by decide +kernel)) ggX4_cellsWithoutDepth_X0_depthOf
theorem dX4_cellsWithoutDepth_0 : decode cX4_cellsWithoutDepth 0 = .ok (.iconst 0, 1) := by decide +kernel
theorem dX4_cellsWithoutDepth_1 : decode cX4_cellsWithoutDepth 1 = .ok (.istore_n 1, 1) := by decide +kernel
theorem dX4_cellsWithoutDepth_2 : decode cX4_cellsWithoutDepth 2 = .ok (.iconst 0, 1) := by decide +kernel
theorem dX4_cellsWithoutDepth_3 : decode cX4_cellsWithoutDepth 3 = .ok (.istore_n 2, 1) := by decide +kernel
theorem dX4_cellsWithoutDepth_4 : decode cX4_cellsWithoutDepth 4 = .ok (.iload_n 2, 1) := by decide +kernel
theorem dX4_cellsWithoutDepth_5 : decode cX4_cellsWithoutDepth 5 = .ok (.bipush 81, 2) := by decide +kernel
theorem dX4_cellsWithoutDepth_7 : decode cX4_cellsWithoutDepth 7 = .ok (.if_icmp .ge 23, 3) := by decide +kernel
theorem dX4_cellsWithoutDepth_10 : decode cX4_cellsWithoutDepth 10 = .ok (.aload_n 0, 1) := by decide +kernel
theorem dX4_cellsWithoutDepth_11 : decode cX4_cellsWithoutDepth 11 = .ok (.getfield 19, 3) := by decide +kernel
theorem dX4_cellsWithoutDepth_14 : decode cX4_cellsWithoutDepth 14 = .ok (.iload_n 2, 1) := by decide +kernel
theorem dX4_cellsWithoutDepth_15 : decode cX4_cellsWithoutDepth 15 = .ok (.invokevirtual 75, 3) := by decide +kernel
theorem dX4_cellsWithoutDepth_18 : decode cX4_cellsWithoutDepth 18 = .ok (.ifCond .ne 6, 3) := by decide +kernel
theorem dX4_cellsWithoutDepth_21 : decode cX4_cellsWithoutDepth 21 = .ok (.iinc 1 1, 3) := by decide +kernel
theorem dX4_cellsWithoutDepth_24 : decode cX4_cellsWithoutDepth 24 = .ok (.iinc 2 1, 3) := by decide +kernel
theorem dX4_cellsWithoutDepth_27 : decode cX4_cellsWithoutDepth 27 = .ok (.goto (-23), 3) := by decide +kernel
theorem dX4_cellsWithoutDepth_30 : decode cX4_cellsWithoutDepth 30 = .ok (.iload_n 1, 1) := by decide +kernel
theorem dX4_cellsWithoutDepth_31 : decode cX4_cellsWithoutDepth 31 = .ok (.ireturn, 1) := by decide +kernel
set_option maxRecDepth 20000 in
theorem ggX4_chartAnswer_X1_noted : GoodIn wsX4_chartAnswer wsX1_noted := goodIn_r _ [7, 8, 35, 36] (by decide +kernel) (by decide +kernel)
set_option maxRecDepth 20000 in
theorem gX4_chartAnswer_X1_noted : GoodIn wsX4_chartAnswer (wsV RX4 85 RX1 yX1_noted wsX1_noted) := goodIn_app (goodIn_of _ (by decide +kernel)) ggX4_chartAnswer_X1_noted
set_option maxRecDepth 20000 in
theorem ggX4_chartAnswer_X0_monthNow : GoodIn wsX4_chartAnswer wsX0_monthNow := goodIn_r _ [13, 14, 37, 38, 39, 40] (by decide +kernel) (by decide +kernel)
set_option maxRecDepth 20000 in
theorem gX4_chartAnswer_X0_monthNow : GoodIn wsX4_chartAnswer (wsV RX4 88 RX0 yX0_monthNow wsX0_monthNow) := goodIn_app (goodIn_of _ (by decide +kernel)) ggX4_chartAnswer_X0_monthNow
set_option maxRecDepth 20000 in
theorem ggX4_chartAnswer_X1_age : GoodIn wsX4_chartAnswer wsX1_age := goodIn_r _ [18, 8, 19, 35, 36] (by decide +kernel) (by decide +kernel)
set_option maxRecDepth 20000 in
theorem gX4_chartAnswer_X1_age : GoodIn wsX4_chartAnswer (wsV RX4 183 RX1 yX1_age wsX1_age) := goodIn_app (goodIn_of _ (by decide +kernel)) ggX4_chartAnswer_X1_age
set_option maxRecDepth 20000 in
theorem ggX4_chartAnswer_X4_safeDepth : GoodIn wsX4_chartAnswer wsX4_safeDepth := goodIn_r _ [24, 1, 2, 25, 26, 27, 28, 3, 4, 5, 6, 7, 8, 9, 10, 11, 12, 13, 14, 15, 16, 17, 18, 19, 29, 30, 31, 32, 33, 34, 35, 36, 37, 38, 39, 40] (by decide +kernel) (by decide +kernel)
set_option maxRecDepth 20000 in
theorem gX4_chartAnswer_X4_safeDepth : GoodIn wsX4_chartAnswer (wsV RX4 142 RX4 yX4_safeDepth wsX4_safeDepth) := goodIn_app (goodIn_of _ (by decide +kernel)) ggX4_chartAnswer_X4_safeDepth
theorem dX4_chartAnswer_0 : decode cX4_chartAnswer 0 = .ok (.iload_n 2, 1) := by decide +kernel
theorem dX4_chartAnswer_1 : decode cX4_chartAnswer 1 = .ok (.lookupswitch 52 #[(0, 27), (1, 36)], 27) := by decide +kernel
theorem dX4_chartAnswer_28 : decode cX4_chartAnswer 28 = .ok (.aload_n 0, 1) := by decide +kernel
theorem dX4_chartAnswer_29 : decode cX4_chartAnswer 29 = .ok (.getfield 29, 3) := by decide +kernel
theorem dX4_chartAnswer_32 : decode cX4_chartAnswer 32 = .ok (.iload_n 1, 1) := by decide +kernel
theorem dX4_chartAnswer_33 : decode cX4_chartAnswer 33 = .ok (.invokevirtual 85, 3) := by decide +kernel
theorem dX4_chartAnswer_36 : decode cX4_chartAnswer 36 = .ok (.ireturn, 1) := by decide +kernel
theorem dX4_chartAnswer_37 : decode cX4_chartAnswer 37 = .ok (.aload_n 0, 1) := by decide +kernel
theorem dX4_chartAnswer_38 : decode cX4_chartAnswer 38 = .ok (.getfield 29, 3) := by decide +kernel
theorem dX4_chartAnswer_41 : decode cX4_chartAnswer 41 = .ok (.iload_n 1, 1) := by decide +kernel
theorem dX4_chartAnswer_42 : decode cX4_chartAnswer 42 = .ok (.aload_n 0, 1) := by decide +kernel
theorem dX4_chartAnswer_43 : decode cX4_chartAnswer 43 = .ok (.getfield 19, 3) := by decide +kernel
theorem dX4_chartAnswer_46 : decode cX4_chartAnswer 46 = .ok (.invokevirtual 88, 3) := by decide +kernel
theorem dX4_chartAnswer_49 : decode cX4_chartAnswer 49 = .ok (.invokevirtual 183, 3) := by decide +kernel
theorem dX4_chartAnswer_52 : decode cX4_chartAnswer 52 = .ok (.ireturn, 1) := by decide +kernel
theorem dX4_chartAnswer_53 : decode cX4_chartAnswer 53 = .ok (.aload_n 0, 1) := by decide +kernel
theorem dX4_chartAnswer_54 : decode cX4_chartAnswer 54 = .ok (.iload_n 1, 1) := by decide +kernel
theorem dX4_chartAnswer_55 : decode cX4_chartAnswer 55 = .ok (.invokevirtual 142, 3) := by decide +kernel
theorem dX4_chartAnswer_58 : decode cX4_chartAnswer 58 = .ok (.ireturn, 1) := by decide +kernel
set_option maxRecDepth 20000 in
theorem ggX4_safeDepth_X1_noted : GoodIn wsX4_safeDepth wsX1_noted := goodIn_r _ [11, 12, 30, 31] (by decide +kernel) (by decide +kernel)
set_option maxRecDepth 20000 in
theorem gX4_safeDepth_X1_noted : GoodIn wsX4_safeDepth (wsV RX4 85 RX1 yX1_noted wsX1_noted) := goodIn_app (goodIn_of _ (by decide +kernel)) ggX4_safeDepth_X1_noted
set_option maxRecDepth 20000 in
theorem ggX4_safeDepth_X0_monthNow : GoodIn wsX4_safeDepth wsX0_monthNow := goodIn_r _ [17, 18, 32, 33, 34, 35] (by decide +kernel) (by decide +kernel)
set_option maxRecDepth 20000 in
theorem gX4_safeDepth_X0_monthNow : GoodIn wsX4_safeDepth (wsV RX4 88 RX0 yX0_monthNow wsX0_monthNow) := goodIn_app (goodIn_of _ (by decide +kernel)) ggX4_safeDepth_X0_monthNow
set_option maxRecDepth 20000 in
theorem ggX4_safeDepth_X1_age : GoodIn wsX4_safeDepth wsX1_age := goodIn_r _ [22, 12, 23, 30, 31] (by decide +kernel) (by decide +kernel)
set_option maxRecDepth 20000 in
theorem gX4_safeDepth_X1_age : GoodIn wsX4_safeDepth (wsV RX4 183 RX1 yX1_age wsX1_age) := goodIn_app (goodIn_of _ (by decide +kernel)) ggX4_safeDepth_X1_age
theorem dX4_safeDepth_0 : decode cX4_safeDepth 0 = .ok (.aload_n 0, 1) := by decide +kernel
theorem dX4_safeDepth_1 : decode cX4_safeDepth 1 = .ok (.getfield 29, 3) := by decide +kernel
theorem dX4_safeDepth_4 : decode cX4_safeDepth 4 = .ok (.iload_n 1, 1) := by decide +kernel
theorem dX4_safeDepth_5 : decode cX4_safeDepth 5 = .ok (.invokevirtual 85, 3) := by decide +kernel
theorem dX4_safeDepth_8 : decode cX4_safeDepth 8 = .ok (.istore_n 2, 1) := by decide +kernel
theorem dX4_safeDepth_9 : decode cX4_safeDepth 9 = .ok (.iload_n 2, 1) := by decide +kernel
theorem dX4_safeDepth_10 : decode cX4_safeDepth 10 = .ok (.iconst (-1), 1) := by decide +kernel
theorem dX4_safeDepth_11 : decode cX4_safeDepth 11 = .ok (.if_icmp .ne 5, 3) := by decide +kernel
theorem dX4_safeDepth_14 : decode cX4_safeDepth 14 = .ok (.iconst (-1), 1) := by decide +kernel
theorem dX4_safeDepth_15 : decode cX4_safeDepth 15 = .ok (.ireturn, 1) := by decide +kernel
theorem dX4_safeDepth_16 : decode cX4_safeDepth 16 = .ok (.iload_n 2, 1) := by decide +kernel
theorem dX4_safeDepth_17 : decode cX4_safeDepth 17 = .ok (.aload_n 0, 1) := by decide +kernel
theorem dX4_safeDepth_18 : decode cX4_safeDepth 18 = .ok (.getfield 29, 3) := by decide +kernel
theorem dX4_safeDepth_21 : decode cX4_safeDepth 21 = .ok (.iload_n 1, 1) := by decide +kernel
theorem dX4_safeDepth_22 : decode cX4_safeDepth 22 = .ok (.aload_n 0, 1) := by decide +kernel
theorem dX4_safeDepth_23 : decode cX4_safeDepth 23 = .ok (.getfield 19, 3) := by decide +kernel
theorem dX4_safeDepth_26 : decode cX4_safeDepth 26 = .ok (.invokevirtual 88, 3) := by decide +kernel
theorem dX4_safeDepth_29 : decode cX4_safeDepth 29 = .ok (.invokevirtual 183, 3) := by decide +kernel
theorem dX4_safeDepth_32 : decode cX4_safeDepth 32 = .ok (.iconst 2, 1) := by decide +kernel
theorem dX4_safeDepth_33 : decode cX4_safeDepth 33 = .ok (.idiv, 1) := by decide +kernel
theorem dX4_safeDepth_34 : decode cX4_safeDepth 34 = .ok (.isub, 1) := by decide +kernel
theorem dX4_safeDepth_35 : decode cX4_safeDepth 35 = .ok (.iconst 0, 1) := by decide +kernel
theorem dX4_safeDepth_36 : decode cX4_safeDepth 36 = .ok (.invokestatic 145, 3) := by decide +kernel
theorem dX4_safeDepth_39 : decode cX4_safeDepth 39 = .ok (.ireturn, 1) := by decide +kernel
set_option maxRecDepth 20000 in
theorem ggX4_headsOfReefAt_X4_openHeads : GoodIn wsX4_headsOfReefAt wsX4_openHeads := goodIn_r _ [7, 2, 8, 9, 10, 11, 12, 13, 14, 15, 16, 17, 18, 19, 20, 21, 22, 23, 24, 25, 26, 27, 28, 29, 45, 46, 47, 48, 49, 50, 51, 52, 53, 54, 55, 56, 57, 58] (by decide +kernel) (by decide +kernel)
set_option maxRecDepth 20000 in
theorem gX4_headsOfReefAt_X4_openHeads : GoodIn wsX4_headsOfReefAt (wsV RX4 186 RX4 yX4_openHeads wsX4_openHeads) := goodIn_app (goodIn_of _ (by decide +kernel)) ggX4_headsOfReefAt_X4_openHeads
set_option maxRecDepth 20000 in
theorem ggX4_headsOfReefAt_X2_goFromCell : GoodIn wsX4_headsOfReefAt wsX2_goFromCell := goodIn_r _ [33, 14, 34, 35, 36, 11, 37, 29, 13, 38, 39, 40, 41, 42, 43, 6, 44, 51, 52, 53, 54] (by decide +kernel) (by decide +kernel)
set_option maxRecDepth 20000 in
theorem gX4_headsOfReefAt_X2_goFromCell : GoodIn wsX4_headsOfReefAt (wsV RX4 189 RX2 yX2_goFromCell wsX2_goFromCell) := goodIn_app (goodIn_of _ (by decide +kernel)) ggX4_headsOfReefAt_X2_goFromCell
theorem dX4_headsOfReefAt_0 : decode cX4_headsOfReefAt 0 = .ok (.aload_n 0, 1) := by decide +kernel
theorem dX4_headsOfReefAt_1 : decode cX4_headsOfReefAt 1 = .ok (.aload_n 0, 1) := by decide +kernel
theorem dX4_headsOfReefAt_2 : decode cX4_headsOfReefAt 2 = .ok (.getfield 19, 3) := by decide +kernel
theorem dX4_headsOfReefAt_5 : decode cX4_headsOfReefAt 5 = .ok (.invokevirtual 186, 3) := by decide +kernel
theorem dX4_headsOfReefAt_8 : decode cX4_headsOfReefAt 8 = .ok (.aload_n 0, 1) := by decide +kernel
theorem dX4_headsOfReefAt_9 : decode cX4_headsOfReefAt 9 = .ok (.getfield 36, 3) := by decide +kernel
theorem dX4_headsOfReefAt_12 : decode cX4_headsOfReefAt 12 = .ok (.iload_n 1, 1) := by decide +kernel
theorem dX4_headsOfReefAt_13 : decode cX4_headsOfReefAt 13 = .ok (.invokevirtual 189, 3) := by decide +kernel
theorem dX4_headsOfReefAt_16 : decode cX4_headsOfReefAt 16 = .ok (.ireturn, 1) := by decide +kernel
set_option maxRecDepth 20000 in
theorem ggX4_reefsOn_X4_openHeads : GoodIn wsX4_reefsOn wsX4_openHeads := goodIn_r _ [6, 1, 7, 8, 9, 10, 11, 12, 13, 14, 15, 16, 17, 18, 19, 20, 21, 22, 23, 24, 25, 26, 27, 28, 44, 45, 46, 47, 48, 49, 50, 51, 52, 53, 54, 55, 56, 57] (by decide +kernel) (by decide +kernel)
set_option maxRecDepth 20000 in
theorem gX4_reefsOn_X4_openHeads : GoodIn wsX4_reefsOn (wsV RX4 186 RX4 yX4_openHeads wsX4_openHeads) := goodIn_app (goodIn_of _ (by decide +kernel)) ggX4_reefsOn_X4_openHeads
set_option maxRecDepth 20000 in
theorem ggX4_reefsOn_X2_goFromCell : GoodIn wsX4_reefsOn wsX2_goFromCell := goodIn_r _ [32, 13, 33, 34, 35, 10, 36, 28, 12, 37, 38, 39, 40, 41, 42, 5, 43, 50, 51, 52, 53] (by decide +kernel) (by decide +kernel)
set_option maxRecDepth 20000 in
theorem gX4_reefsOn_X2_goFromCell : GoodIn wsX4_reefsOn (wsV RX4 189 RX2 yX2_goFromCell wsX2_goFromCell) := goodIn_app (goodIn_of _ (by decide +kernel)) ggX4_reefsOn_X2_goFromCell
theorem dX4_reefsOn_0 : decode cX4_reefsOn 0 = .ok (.aload_n 0, 1) := by decide +kernel
theorem dX4_reefsOn_1 : decode cX4_reefsOn 1 = .ok (.aload_n 1, 1) := by decide +kernel
theorem dX4_reefsOn_2 : decode cX4_reefsOn 2 = .ok (.invokevirtual 186, 3) := by decide +kernel
theorem dX4_reefsOn_5 : decode cX4_reefsOn 5 = .ok (.iconst 0, 1) := by decide +kernel
theorem dX4_reefsOn_6 : decode cX4_reefsOn 6 = .ok (.istore_n 2, 1) := by decide +kernel
theorem dX4_reefsOn_7 : decode cX4_reefsOn 7 = .ok (.iconst 0, 1) := by decide +kernel
theorem dX4_reefsOn_8 : decode cX4_reefsOn 8 = .ok (.istore_n 3, 1) := by decide +kernel
theorem dX4_reefsOn_9 : decode cX4_reefsOn 9 = .ok (.iload_n 3, 1) := by decide +kernel
theorem dX4_reefsOn_10 : decode cX4_reefsOn 10 = .ok (.bipush 81, 2) := by decide +kernel
theorem dX4_reefsOn_12 : decode cX4_reefsOn 12 = .ok (.if_icmp .ge 23, 3) := by decide +kernel
theorem dX4_reefsOn_15 : decode cX4_reefsOn 15 = .ok (.aload_n 0, 1) := by decide +kernel
theorem dX4_reefsOn_16 : decode cX4_reefsOn 16 = .ok (.getfield 36, 3) := by decide +kernel
theorem dX4_reefsOn_19 : decode cX4_reefsOn 19 = .ok (.iload_n 3, 1) := by decide +kernel
theorem dX4_reefsOn_20 : decode cX4_reefsOn 20 = .ok (.invokevirtual 189, 3) := by decide +kernel
theorem dX4_reefsOn_23 : decode cX4_reefsOn 23 = .ok (.ifCond .le 6, 3) := by decide +kernel
theorem dX4_reefsOn_26 : decode cX4_reefsOn 26 = .ok (.iinc 2 1, 3) := by decide +kernel
theorem dX4_reefsOn_29 : decode cX4_reefsOn 29 = .ok (.iinc 3 1, 3) := by decide +kernel
theorem dX4_reefsOn_32 : decode cX4_reefsOn 32 = .ok (.goto (-23), 3) := by decide +kernel
theorem dX4_reefsOn_35 : decode cX4_reefsOn 35 = .ok (.iload_n 2, 1) := by decide +kernel
theorem dX4_reefsOn_36 : decode cX4_reefsOn 36 = .ok (.ireturn, 1) := by decide +kernel
set_option maxRecDepth 20000 in
theorem ggX4_headsOfLargestReef_X4_openHeads : GoodIn wsX4_headsOfLargestReef wsX4_openHeads := goodIn_r _ [11, 2, 12, 13, 14, 15, 16, 17, 18, 19, 20, 21, 22, 23, 24, 25, 26, 27, 28, 29, 30, 31, 32, 33, 49, 50, 51, 52, 53, 54, 55, 56, 57, 58, 59, 60, 61, 62] (by decide +kernel) (by decide +kernel)
set_option maxRecDepth 20000 in
theorem gX4_headsOfLargestReef_X4_openHeads : GoodIn wsX4_headsOfLargestReef (wsV RX4 186 RX4 yX4_openHeads wsX4_openHeads) := goodIn_app (goodIn_of _ (by decide +kernel)) ggX4_headsOfLargestReef_X4_openHeads
set_option maxRecDepth 20000 in
theorem ggX4_headsOfLargestReef_X2_goFromCell : GoodIn wsX4_headsOfLargestReef wsX2_goFromCell := goodIn_r _ [37, 18, 38, 39, 40, 15, 41, 33, 17, 42, 43, 44, 45, 46, 47, 10, 48, 55, 56, 57, 58] (by decide +kernel) (by decide +kernel)
set_option maxRecDepth 20000 in
theorem gX4_headsOfLargestReef_X2_goFromCell : GoodIn wsX4_headsOfLargestReef (wsV RX4 189 RX2 yX2_goFromCell wsX2_goFromCell) := goodIn_app (goodIn_of _ (by decide +kernel)) ggX4_headsOfLargestReef_X2_goFromCell
theorem dX4_headsOfLargestReef_0 : decode cX4_headsOfLargestReef 0 = .ok (.aload_n 0, 1) := by decide +kernel
theorem dX4_headsOfLargestReef_1 : decode cX4_headsOfLargestReef 1 = .ok (.aload_n 0, 1) := by decide +kernel
theorem dX4_headsOfLargestReef_2 : decode cX4_headsOfLargestReef 2 = .ok (.getfield 19, 3) := by decide +kernel
theorem dX4_headsOfLargestReef_5 : decode cX4_headsOfLargestReef 5 = .ok (.invokevirtual 186, 3) := by decide +kernel
theorem dX4_headsOfLargestReef_8 : decode cX4_headsOfLargestReef 8 = .ok (.iconst 0, 1) := by decide +kernel
theorem dX4_headsOfLargestReef_9 : decode cX4_headsOfLargestReef 9 = .ok (.istore_n 1, 1) := by decide +kernel
theorem dX4_headsOfLargestReef_10 : decode cX4_headsOfLargestReef 10 = .ok (.iconst 0, 1) := by decide +kernel
theorem dX4_headsOfLargestReef_11 : decode cX4_headsOfLargestReef 11 = .ok (.istore_n 2, 1) := by decide +kernel
theorem dX4_headsOfLargestReef_12 : decode cX4_headsOfLargestReef 12 = .ok (.iload_n 2, 1) := by decide +kernel
theorem dX4_headsOfLargestReef_13 : decode cX4_headsOfLargestReef 13 = .ok (.bipush 81, 2) := by decide +kernel
theorem dX4_headsOfLargestReef_15 : decode cX4_headsOfLargestReef 15 = .ok (.if_icmp .ge 22, 3) := by decide +kernel
theorem dX4_headsOfLargestReef_18 : decode cX4_headsOfLargestReef 18 = .ok (.iload_n 1, 1) := by decide +kernel
theorem dX4_headsOfLargestReef_19 : decode cX4_headsOfLargestReef 19 = .ok (.aload_n 0, 1) := by decide +kernel
theorem dX4_headsOfLargestReef_20 : decode cX4_headsOfLargestReef 20 = .ok (.getfield 36, 3) := by decide +kernel
theorem dX4_headsOfLargestReef_23 : decode cX4_headsOfLargestReef 23 = .ok (.iload_n 2, 1) := by decide +kernel
theorem dX4_headsOfLargestReef_24 : decode cX4_headsOfLargestReef 24 = .ok (.invokevirtual 189, 3) := by decide +kernel
theorem dX4_headsOfLargestReef_27 : decode cX4_headsOfLargestReef 27 = .ok (.invokestatic 145, 3) := by decide +kernel
theorem dX4_headsOfLargestReef_30 : decode cX4_headsOfLargestReef 30 = .ok (.istore_n 1, 1) := by decide +kernel
theorem dX4_headsOfLargestReef_31 : decode cX4_headsOfLargestReef 31 = .ok (.iinc 2 1, 3) := by decide +kernel
theorem dX4_headsOfLargestReef_34 : decode cX4_headsOfLargestReef 34 = .ok (.goto (-22), 3) := by decide +kernel
theorem dX4_headsOfLargestReef_37 : decode cX4_headsOfLargestReef 37 = .ok (.iload_n 1, 1) := by decide +kernel
theorem dX4_headsOfLargestReef_38 : decode cX4_headsOfLargestReef 38 = .ok (.ireturn, 1) := by decide +kernel
set_option maxRecDepth 20000 in
theorem ggX4_openHeads_X2_clear : GoodIn wsX4_openHeads wsX2_clear := goodIn_r _ [6, 7, 8, 9, 10, 11, 12, 30, 31, 32, 33] (by decide +kernel) (by decide +kernel)
set_option maxRecDepth 20000 in
theorem gX4_openHeads_X2_clear : GoodIn wsX4_openHeads (wsV RX4 192 RX2 yX2_clear wsX2_clear) := goodIn_app (goodIn_of _ (by decide +kernel)) ggX4_openHeads_X2_clear
set_option maxRecDepth 20000 in
theorem ggX4_openHeads_X0_isHead : GoodIn wsX4_openHeads wsX0_isHead := goodIn_r _ [17, 18, 34, 35, 36, 37] (by decide +kernel) (by decide +kernel)
set_option maxRecDepth 20000 in
theorem gX4_openHeads_X0_isHead : GoodIn wsX4_openHeads (wsV RX4 78 RX0 yX0_isHead wsX0_isHead) := goodIn_app (goodIn_of _ (by decide +kernel)) ggX4_openHeads_X0_isHead
set_option maxRecDepth 20000 in
theorem ggX4_openHeads_X2_setOpen : GoodIn wsX4_openHeads wsX2_setOpen := goodIn_r _ [22, 23, 30, 31, 32, 33] (by decide +kernel) (by decide +kernel)
set_option maxRecDepth 20000 in
theorem gX4_openHeads_X2_setOpen : GoodIn wsX4_openHeads (wsV RX4 195 RX2 yX2_setOpen wsX2_setOpen) := goodIn_app (goodIn_of _ (by decide +kernel)) ggX4_openHeads_X2_setOpen
theorem dX4_openHeads_0 : decode cX4_openHeads 0 = .ok (.aload_n 0, 1) := by decide +kernel
theorem dX4_openHeads_1 : decode cX4_openHeads 1 = .ok (.getfield 36, 3) := by decide +kernel
theorem dX4_openHeads_4 : decode cX4_openHeads 4 = .ok (.invokevirtual 192, 3) := by decide +kernel
theorem dX4_openHeads_7 : decode cX4_openHeads 7 = .ok (.iconst 0, 1) := by decide +kernel
theorem dX4_openHeads_8 : decode cX4_openHeads 8 = .ok (.istore_n 2, 1) := by decide +kernel
theorem dX4_openHeads_9 : decode cX4_openHeads 9 = .ok (.iload_n 2, 1) := by decide +kernel
theorem dX4_openHeads_10 : decode cX4_openHeads 10 = .ok (.bipush 81, 2) := by decide +kernel
theorem dX4_openHeads_12 : decode cX4_openHeads 12 = .ok (.if_icmp .ge 22, 3) := by decide +kernel
theorem dX4_openHeads_15 : decode cX4_openHeads 15 = .ok (.aload_n 0, 1) := by decide +kernel
theorem dX4_openHeads_16 : decode cX4_openHeads 16 = .ok (.getfield 36, 3) := by decide +kernel
theorem dX4_openHeads_19 : decode cX4_openHeads 19 = .ok (.iload_n 2, 1) := by decide +kernel
theorem dX4_openHeads_20 : decode cX4_openHeads 20 = .ok (.aload_n 1, 1) := by decide +kernel
theorem dX4_openHeads_21 : decode cX4_openHeads 21 = .ok (.iload_n 2, 1) := by decide +kernel
theorem dX4_openHeads_22 : decode cX4_openHeads 22 = .ok (.invokevirtual 78, 3) := by decide +kernel
theorem dX4_openHeads_25 : decode cX4_openHeads 25 = .ok (.invokevirtual 195, 3) := by decide +kernel
theorem dX4_openHeads_28 : decode cX4_openHeads 28 = .ok (.iinc 2 1, 3) := by decide +kernel
theorem dX4_openHeads_31 : decode cX4_openHeads 31 = .ok (.goto (-22), 3) := by decide +kernel
theorem dX4_openHeads_34 : decode cX4_openHeads 34 = .ok (.return_, 1) := by decide +kernel
set_option maxRecDepth 20000 in
theorem ggX4_countOn_X4_countOnChart : GoodIn wsX4_countOn wsX4_countOnChart := goodIn_r _ [6, 7, 8, 9, 10, 5, 11, 12, 1, 13, 14, 15, 16, 17, 18, 19, 20, 21, 22, 23, 24, 25, 26, 27, 28, 29, 30, 31, 32, 33, 45, 46, 47, 48, 49, 50, 51, 52, 53, 54, 55, 56] (by decide +kernel) (by decide +kernel)
set_option maxRecDepth 20000 in
theorem gX4_countOn_X4_countOnChart : GoodIn wsX4_countOn (wsV RX4 199 RX4 yX4_countOnChart wsX4_countOnChart) := goodIn_app (goodIn_of _ (by decide +kernel)) ggX4_countOn_X4_countOnChart
set_option maxRecDepth 20000 in
theorem ggX4_countOn_X4_countOnDepths : GoodIn wsX4_countOn wsX4_countOnDepths := goodIn_r _ [37, 7, 38, 39, 40, 26, 41, 42, 43, 44, 14, 15, 16, 45, 46, 47, 48, 49, 50, 53, 54, 55, 56] (by decide +kernel) (by decide +kernel)
set_option maxRecDepth 20000 in
theorem gX4_countOn_X4_countOnDepths : GoodIn wsX4_countOn (wsV RX4 135 RX4 yX4_countOnDepths wsX4_countOnDepths) := goodIn_app (goodIn_of _ (by decide +kernel)) ggX4_countOn_X4_countOnDepths
theorem dX4_countOn_0 : decode cX4_countOn 0 = .ok (.iload_n 1, 1) := by decide +kernel
theorem dX4_countOn_1 : decode cX4_countOn 1 = .ok (.ifCond .eq 10, 3) := by decide +kernel
theorem dX4_countOn_4 : decode cX4_countOn 4 = .ok (.aload_n 0, 1) := by decide +kernel
theorem dX4_countOn_5 : decode cX4_countOn 5 = .ok (.invokevirtual 199, 3) := by decide +kernel
theorem dX4_countOn_8 : decode cX4_countOn 8 = .ok (.goto 11, 3) := by decide +kernel
theorem dX4_countOn_11 : decode cX4_countOn 11 = .ok (.aload_n 0, 1) := by decide +kernel
theorem dX4_countOn_12 : decode cX4_countOn 12 = .ok (.aload_n 0, 1) := by decide +kernel
theorem dX4_countOn_13 : decode cX4_countOn 13 = .ok (.getfield 19, 3) := by decide +kernel
theorem dX4_countOn_16 : decode cX4_countOn 16 = .ok (.invokevirtual 135, 3) := by decide +kernel
theorem dX4_countOn_19 : decode cX4_countOn 19 = .ok (.return_, 1) := by decide +kernel
set_option maxRecDepth 20000 in
theorem ggX4_countOnChart_X4_safeDepth : GoodIn wsX4_countOnChart wsX4_safeDepth := goodIn_r _ [6, 7, 8, 9, 10, 11, 12, 13, 14, 15, 16, 17, 18, 19, 20, 21, 22, 23, 24, 25, 26, 27, 28, 29, 30, 31, 32, 33, 34, 35, 36, 37, 38, 39, 40, 41] (by decide +kernel) (by decide +kernel)
set_option maxRecDepth 20000 in
theorem gX4_countOnChart_X4_safeDepth : GoodIn wsX4_countOnChart (wsV RX4 142 RX4 yX4_safeDepth wsX4_safeDepth) := goodIn_app (goodIn_of _ (by decide +kernel)) ggX4_countOnChart_X4_safeDepth
theorem dX4_countOnChart_0 : decode cX4_countOnChart 0 = .ok (.iconst 0, 1) := by decide +kernel
theorem dX4_countOnChart_1 : decode cX4_countOnChart 1 = .ok (.istore_n 1, 1) := by decide +kernel
theorem dX4_countOnChart_2 : decode cX4_countOnChart 2 = .ok (.iload_n 1, 1) := by decide +kernel
theorem dX4_countOnChart_3 : decode cX4_countOnChart 3 = .ok (.bipush 81, 2) := by decide +kernel
theorem dX4_countOnChart_5 : decode cX4_countOnChart 5 = .ok (.if_icmp .ge 20, 3) := by decide +kernel
theorem dX4_countOnChart_8 : decode cX4_countOnChart 8 = .ok (.aload_n 0, 1) := by decide +kernel
theorem dX4_countOnChart_9 : decode cX4_countOnChart 9 = .ok (.getfield 40, 3) := by decide +kernel
theorem dX4_countOnChart_12 : decode cX4_countOnChart 12 = .ok (.iload_n 1, 1) := by decide +kernel
theorem dX4_countOnChart_13 : decode cX4_countOnChart 13 = .ok (.aload_n 0, 1) := by decide +kernel
theorem dX4_countOnChart_14 : decode cX4_countOnChart 14 = .ok (.iload_n 1, 1) := by decide +kernel
theorem dX4_countOnChart_15 : decode cX4_countOnChart 15 = .ok (.invokevirtual 142, 3) := by decide +kernel
theorem dX4_countOnChart_18 : decode cX4_countOnChart 18 = .ok (.iastore, 1) := by decide +kernel
theorem dX4_countOnChart_19 : decode cX4_countOnChart 19 = .ok (.iinc 1 1, 3) := by decide +kernel
theorem dX4_countOnChart_22 : decode cX4_countOnChart 22 = .ok (.goto (-20), 3) := by decide +kernel
theorem dX4_countOnChart_25 : decode cX4_countOnChart 25 = .ok (.return_, 1) := by decide +kernel
set_option maxRecDepth 20000 in
theorem ggX4_countOnDepths_X0_depthOf : GoodIn wsX4_countOnDepths wsX0_depthOf := goodIn_r _ [6, 7, 8, 9, 10, 11, 12, 19, 20, 21, 22] (by decide +kernel) (by decide +kernel)
set_option maxRecDepth 20000 in
theorem gX4_countOnDepths_X0_depthOf : GoodIn wsX4_countOnDepths (wsV RX4 75 RX0 yX0_depthOf wsX0_depthOf) := goodIn_app (goodIn_of _ (by decide +kernel)) ggX4_countOnDepths_X0_depthOf
theorem dX4_countOnDepths_0 : decode cX4_countOnDepths 0 = .ok (.iconst 0, 1) := by decide +kernel
theorem dX4_countOnDepths_1 : decode cX4_countOnDepths 1 = .ok (.istore_n 2, 1) := by decide +kernel
theorem dX4_countOnDepths_2 : decode cX4_countOnDepths 2 = .ok (.iload_n 2, 1) := by decide +kernel
theorem dX4_countOnDepths_3 : decode cX4_countOnDepths 3 = .ok (.bipush 81, 2) := by decide +kernel
theorem dX4_countOnDepths_5 : decode cX4_countOnDepths 5 = .ok (.if_icmp .ge 20, 3) := by decide +kernel
theorem dX4_countOnDepths_8 : decode cX4_countOnDepths 8 = .ok (.aload_n 0, 1) := by decide +kernel
theorem dX4_countOnDepths_9 : decode cX4_countOnDepths 9 = .ok (.getfield 40, 3) := by decide +kernel
theorem dX4_countOnDepths_12 : decode cX4_countOnDepths 12 = .ok (.iload_n 2, 1) := by decide +kernel
theorem dX4_countOnDepths_13 : decode cX4_countOnDepths 13 = .ok (.aload_n 1, 1) := by decide +kernel
theorem dX4_countOnDepths_14 : decode cX4_countOnDepths 14 = .ok (.iload_n 2, 1) := by decide +kernel
theorem dX4_countOnDepths_15 : decode cX4_countOnDepths 15 = .ok (.invokevirtual 75, 3) := by decide +kernel
theorem dX4_countOnDepths_18 : decode cX4_countOnDepths 18 = .ok (.iastore, 1) := by decide +kernel
theorem dX4_countOnDepths_19 : decode cX4_countOnDepths 19 = .ok (.iinc 2 1, 3) := by decide +kernel
theorem dX4_countOnDepths_22 : decode cX4_countOnDepths 22 = .ok (.goto (-20), 3) := by decide +kernel
theorem dX4_countOnDepths_25 : decode cX4_countOnDepths 25 = .ok (.return_, 1) := by decide +kernel
set_option maxRecDepth 20000 in
theorem ggX4_openWater_X2_clear : GoodIn wsX4_openWater wsX2_clear := goodIn_r _ [7, 8, 9, 10, 11, 12, 13, 25, 26, 27, 28] (by decide +kernel) (by decide +kernel)
set_option maxRecDepth 20000 in
theorem gX4_openWater_X2_clear : GoodIn wsX4_openWater (wsV RX4 192 RX2 yX2_clear wsX2_clear) := goodIn_app (goodIn_of _ (by decide +kernel)) ggX4_openWater_X2_clear
set_option maxRecDepth 20000 in
theorem ggX4_openWater_X2_setOpen : GoodIn wsX4_openWater wsX2_setOpen := goodIn_r _ [17, 18, 25, 26, 27, 28] (by decide +kernel) (by decide +kernel)
set_option maxRecDepth 20000 in
theorem gX4_openWater_X2_setOpen : GoodIn wsX4_openWater (wsV RX4 195 RX2 yX2_setOpen wsX2_setOpen) := goodIn_app (goodIn_of _ (by decide +kernel)) ggX4_openWater_X2_setOpen
theorem dX4_openWater_0 : decode cX4_openWater 0 = .ok (.aload_n 0, 1) := by decide +kernel
theorem dX4_openWater_1 : decode cX4_openWater 1 = .ok (.getfield 36, 3) := by decide +kernel
theorem dX4_openWater_4 : decode cX4_openWater 4 = .ok (.invokevirtual 192, 3) := by decide +kernel
theorem dX4_openWater_7 : decode cX4_openWater 7 = .ok (.iconst 0, 1) := by decide +kernel
theorem dX4_openWater_8 : decode cX4_openWater 8 = .ok (.istore_n 2, 1) := by decide +kernel
theorem dX4_openWater_9 : decode cX4_openWater 9 = .ok (.iload_n 2, 1) := by decide +kernel
theorem dX4_openWater_10 : decode cX4_openWater 10 = .ok (.bipush 81, 2) := by decide +kernel
theorem dX4_openWater_12 : decode cX4_openWater 12 = .ok (.if_icmp .ge 32, 3) := by decide +kernel
theorem dX4_openWater_15 : decode cX4_openWater 15 = .ok (.aload_n 0, 1) := by decide +kernel
theorem dX4_openWater_16 : decode cX4_openWater 16 = .ok (.getfield 36, 3) := by decide +kernel
theorem dX4_openWater_19 : decode cX4_openWater 19 = .ok (.iload_n 2, 1) := by decide +kernel
theorem dX4_openWater_20 : decode cX4_openWater 20 = .ok (.aload_n 0, 1) := by decide +kernel
theorem dX4_openWater_21 : decode cX4_openWater 21 = .ok (.getfield 40, 3) := by decide +kernel
theorem dX4_openWater_24 : decode cX4_openWater 24 = .ok (.iload_n 2, 1) := by decide +kernel
theorem dX4_openWater_25 : decode cX4_openWater 25 = .ok (.iaload, 1) := by decide +kernel
theorem dX4_openWater_26 : decode cX4_openWater 26 = .ok (.iload_n 1, 1) := by decide +kernel
theorem dX4_openWater_27 : decode cX4_openWater 27 = .ok (.if_icmp .le 7, 3) := by decide +kernel
theorem dX4_openWater_30 : decode cX4_openWater 30 = .ok (.iconst 1, 1) := by decide +kernel
theorem dX4_openWater_31 : decode cX4_openWater 31 = .ok (.goto 4, 3) := by decide +kernel
theorem dX4_openWater_34 : decode cX4_openWater 34 = .ok (.iconst 0, 1) := by decide +kernel
theorem dX4_openWater_35 : decode cX4_openWater 35 = .ok (.invokevirtual 195, 3) := by decide +kernel
theorem dX4_openWater_38 : decode cX4_openWater 38 = .ok (.iinc 2 1, 3) := by decide +kernel
theorem dX4_openWater_41 : decode cX4_openWater 41 = .ok (.goto (-32), 3) := by decide +kernel
theorem dX4_openWater_44 : decode cX4_openWater 44 = .ok (.return_, 1) := by decide +kernel
set_option maxRecDepth 20000 in
theorem ggX4_startOfShortestWay_X4_openWater : GoodIn wsX4_startOfShortestWay wsX4_openWater := goodIn_r _ [6, 1, 7, 8, 9, 10, 11, 12, 13, 14, 15, 16, 17, 18, 19, 20, 21, 22, 23, 43, 44, 45, 46, 47, 48, 49, 50, 51, 52] (by decide +kernel) (by decide +kernel)
set_option maxRecDepth 20000 in
theorem gX4_startOfShortestWay_X4_openWater : GoodIn wsX4_startOfShortestWay (wsV RX4 111 RX4 yX4_openWater wsX4_openWater) := goodIn_app (goodIn_of _ (by decide +kernel)) ggX4_startOfShortestWay_X4_openWater
set_option maxRecDepth 20000 in
theorem ggX4_startOfShortestWay_X2_goFromRow : GoodIn wsX4_startOfShortestWay wsX2_goFromRow := goodIn_r _ [27, 14, 28, 29, 30, 11, 31, 23, 13, 32, 33, 34, 35, 36, 37, 5, 38, 49, 50, 51, 52] (by decide +kernel) (by decide +kernel)
set_option maxRecDepth 20000 in
theorem gX4_startOfShortestWay_X2_goFromRow : GoodIn wsX4_startOfShortestWay (wsV RX4 115 RX2 yX2_goFromRow wsX2_goFromRow) := goodIn_app (goodIn_of _ (by decide +kernel)) ggX4_startOfShortestWay_X2_goFromRow
set_option maxRecDepth 20000 in
theorem ggX4_startOfShortestWay_X2_stepsTo : GoodIn wsX4_startOfShortestWay wsX2_stepsTo := goodIn_r _ [42, 13, 49, 50, 51, 52] (by decide +kernel) (by decide +kernel)
set_option maxRecDepth 20000 in
theorem gX4_startOfShortestWay_X2_stepsTo : GoodIn wsX4_startOfShortestWay (wsV RX4 105 RX2 yX2_stepsTo wsX2_stepsTo) := goodIn_app (goodIn_of _ (by decide +kernel)) ggX4_startOfShortestWay_X2_stepsTo
theorem dX4_startOfShortestWay_0 : decode cX4_startOfShortestWay 0 = .ok (.aload_n 0, 1) := by decide +kernel
theorem dX4_startOfShortestWay_1 : decode cX4_startOfShortestWay 1 = .ok (.iload_n 1, 1) := by decide +kernel
theorem dX4_startOfShortestWay_2 : decode cX4_startOfShortestWay 2 = .ok (.invokevirtual 111, 3) := by decide +kernel
theorem dX4_startOfShortestWay_5 : decode cX4_startOfShortestWay 5 = .ok (.aload_n 0, 1) := by decide +kernel
theorem dX4_startOfShortestWay_6 : decode cX4_startOfShortestWay 6 = .ok (.getfield 36, 3) := by decide +kernel
theorem dX4_startOfShortestWay_9 : decode cX4_startOfShortestWay 9 = .ok (.bipush 72, 2) := by decide +kernel
theorem dX4_startOfShortestWay_11 : decode cX4_startOfShortestWay 11 = .ok (.invokevirtual 115, 3) := by decide +kernel
theorem dX4_startOfShortestWay_14 : decode cX4_startOfShortestWay 14 = .ok (.iconst (-1), 1) := by decide +kernel
theorem dX4_startOfShortestWay_15 : decode cX4_startOfShortestWay 15 = .ok (.istore_n 2, 1) := by decide +kernel
theorem dX4_startOfShortestWay_16 : decode cX4_startOfShortestWay 16 = .ok (.iconst 0, 1) := by decide +kernel
theorem dX4_startOfShortestWay_17 : decode cX4_startOfShortestWay 17 = .ok (.istore_n 3, 1) := by decide +kernel
theorem dX4_startOfShortestWay_18 : decode cX4_startOfShortestWay 18 = .ok (.iload_n 3, 1) := by decide +kernel
theorem dX4_startOfShortestWay_19 : decode cX4_startOfShortestWay 19 = .ok (.bipush 9, 2) := by decide +kernel
theorem dX4_startOfShortestWay_21 : decode cX4_startOfShortestWay 21 = .ok (.if_icmp .ge 44, 3) := by decide +kernel
theorem dX4_startOfShortestWay_24 : decode cX4_startOfShortestWay 24 = .ok (.aload_n 0, 1) := by decide +kernel
theorem dX4_startOfShortestWay_25 : decode cX4_startOfShortestWay 25 = .ok (.getfield 36, 3) := by decide +kernel
theorem dX4_startOfShortestWay_28 : decode cX4_startOfShortestWay 28 = .ok (.iload_n 3, 1) := by decide +kernel
theorem dX4_startOfShortestWay_29 : decode cX4_startOfShortestWay 29 = .ok (.invokevirtual 105, 3) := by decide +kernel
theorem dX4_startOfShortestWay_32 : decode cX4_startOfShortestWay 32 = .ok (.istore 4, 2) := by decide +kernel
theorem dX4_startOfShortestWay_34 : decode cX4_startOfShortestWay 34 = .ok (.iload 4, 2) := by decide +kernel
theorem dX4_startOfShortestWay_36 : decode cX4_startOfShortestWay 36 = .ok (.ifCond .le 23, 3) := by decide +kernel
theorem dX4_startOfShortestWay_39 : decode cX4_startOfShortestWay 39 = .ok (.iload_n 2, 1) := by decide +kernel
theorem dX4_startOfShortestWay_40 : decode cX4_startOfShortestWay 40 = .ok (.iconst (-1), 1) := by decide +kernel
theorem dX4_startOfShortestWay_41 : decode cX4_startOfShortestWay 41 = .ok (.if_icmp .eq 16, 3) := by decide +kernel
theorem dX4_startOfShortestWay_44 : decode cX4_startOfShortestWay 44 = .ok (.iload 4, 2) := by decide +kernel
theorem dX4_startOfShortestWay_46 : decode cX4_startOfShortestWay 46 = .ok (.aload_n 0, 1) := by decide +kernel
theorem dX4_startOfShortestWay_47 : decode cX4_startOfShortestWay 47 = .ok (.getfield 36, 3) := by decide +kernel
theorem dX4_startOfShortestWay_50 : decode cX4_startOfShortestWay 50 = .ok (.iload_n 2, 1) := by decide +kernel
theorem dX4_startOfShortestWay_51 : decode cX4_startOfShortestWay 51 = .ok (.invokevirtual 105, 3) := by decide +kernel
theorem dX4_startOfShortestWay_54 : decode cX4_startOfShortestWay 54 = .ok (.if_icmp .ge 5, 3) := by decide +kernel
theorem dX4_startOfShortestWay_57 : decode cX4_startOfShortestWay 57 = .ok (.iload_n 3, 1) := by decide +kernel
theorem dX4_startOfShortestWay_58 : decode cX4_startOfShortestWay 58 = .ok (.istore_n 2, 1) := by decide +kernel
theorem dX4_startOfShortestWay_59 : decode cX4_startOfShortestWay 59 = .ok (.iinc 3 1, 3) := by decide +kernel
theorem dX4_startOfShortestWay_62 : decode cX4_startOfShortestWay 62 = .ok (.goto (-44), 3) := by decide +kernel
theorem dX4_startOfShortestWay_65 : decode cX4_startOfShortestWay 65 = .ok (.iload_n 2, 1) := by decide +kernel
theorem dX4_startOfShortestWay_66 : decode cX4_startOfShortestWay 66 = .ok (.ireturn, 1) := by decide +kernel
set_option maxRecDepth 20000 in
theorem ggX4_greatestDraught_X4_startOfShortestWay : GoodIn wsX4_greatestDraught wsX4_startOfShortestWay := goodIn_r _ [5, 6, 7, 8, 9, 4, 10, 11, 12, 13, 14, 15, 16, 17, 18, 19, 20, 21, 22, 23, 24, 25, 26, 27, 28, 29, 30, 31, 32, 33, 34, 35, 36, 37, 38, 39, 40, 41, 42, 43, 44, 45, 46, 47, 48, 49, 50, 51, 52, 53, 54, 55, 56] (by decide +kernel) (by decide +kernel)
set_option maxRecDepth 20000 in
theorem gX4_greatestDraught_X4_startOfShortestWay : GoodIn wsX4_greatestDraught (wsV RX4 102 RX4 yX4_startOfShortestWay wsX4_startOfShortestWay) := goodIn_app (goodIn_of _ (by decide +kernel)) ggX4_greatestDraught_X4_startOfShortestWay
theorem dX4_greatestDraught_0 : decode cX4_greatestDraught 0 = .ok (.bipush 39, 2) := by decide +kernel
theorem dX4_greatestDraught_2 : decode cX4_greatestDraught 2 = .ok (.istore_n 1, 1) := by decide +kernel
theorem dX4_greatestDraught_3 : decode cX4_greatestDraught 3 = .ok (.iload_n 1, 1) := by decide +kernel
theorem dX4_greatestDraught_4 : decode cX4_greatestDraught 4 = .ok (.ifCond .lt 20, 3) := by decide +kernel
theorem dX4_greatestDraught_7 : decode cX4_greatestDraught 7 = .ok (.aload_n 0, 1) := by decide +kernel
theorem dX4_greatestDraught_8 : decode cX4_greatestDraught 8 = .ok (.iload_n 1, 1) := by decide +kernel
theorem dX4_greatestDraught_9 : decode cX4_greatestDraught 9 = .ok (.invokevirtual 102, 3) := by decide +kernel
theorem dX4_greatestDraught_12 : decode cX4_greatestDraught 12 = .ok (.iconst (-1), 1) := by decide +kernel
theorem dX4_greatestDraught_13 : decode cX4_greatestDraught 13 = .ok (.if_icmp .eq 5, 3) := by decide +kernel
theorem dX4_greatestDraught_16 : decode cX4_greatestDraught 16 = .ok (.iload_n 1, 1) := by decide +kernel
theorem dX4_greatestDraught_17 : decode cX4_greatestDraught 17 = .ok (.ireturn, 1) := by decide +kernel
theorem dX4_greatestDraught_18 : decode cX4_greatestDraught 18 = .ok (.iinc 1 (-1), 3) := by decide +kernel
theorem dX4_greatestDraught_21 : decode cX4_greatestDraught 21 = .ok (.goto (-18), 3) := by decide +kernel
theorem dX4_greatestDraught_24 : decode cX4_greatestDraught 24 = .ok (.iconst (-1), 1) := by decide +kernel
theorem dX4_greatestDraught_25 : decode cX4_greatestDraught 25 = .ok (.ireturn, 1) := by decide +kernel
set_option maxRecDepth 20000 in
theorem ggX4_leadFrom_X2_stepsTo : GoodIn wsX4_leadFrom wsX2_stepsTo := goodIn_r _ [7, 8, 33, 34, 35, 36] (by decide +kernel) (by decide +kernel)
set_option maxRecDepth 20000 in
theorem gX4_leadFrom_X2_stepsTo : GoodIn wsX4_leadFrom (wsV RX4 105 RX2 yX2_stepsTo wsX2_stepsTo) := goodIn_app (goodIn_of _ (by decide +kernel)) ggX4_leadFrom_X2_stepsTo
set_option maxRecDepth 20000 in
theorem ggX4_leadFrom_X0_depthOf : GoodIn wsX4_leadFrom wsX0_depthOf := goodIn_r _ [13, 14, 15, 16, 17, 18, 19, 37, 38, 39, 40] (by decide +kernel) (by decide +kernel)
set_option maxRecDepth 20000 in
theorem gX4_leadFrom_X0_depthOf : GoodIn wsX4_leadFrom (wsV RX4 75 RX0 yX0_depthOf wsX0_depthOf) := goodIn_app (goodIn_of _ (by decide +kernel)) ggX4_leadFrom_X0_depthOf
set_option maxRecDepth 20000 in
theorem ggX4_leadFrom_X2_nearerFrom : GoodIn wsX4_leadFrom wsX2_nearerFrom := goodIn_r _ [23, 8, 24, 25, 26, 33, 34, 35, 36] (by decide +kernel) (by decide +kernel)
set_option maxRecDepth 20000 in
theorem gX4_leadFrom_X2_nearerFrom : GoodIn wsX4_leadFrom (wsV RX4 202 RX2 yX2_nearerFrom wsX2_nearerFrom) := goodIn_app (goodIn_of _ (by decide +kernel)) ggX4_leadFrom_X2_nearerFrom
theorem dX4_leadFrom_0 : decode cX4_leadFrom 0 = .ok (.iload_n 1, 1) := by decide +kernel
theorem dX4_leadFrom_1 : decode cX4_leadFrom 1 = .ok (.istore_n 3, 1) := by decide +kernel
theorem dX4_leadFrom_2 : decode cX4_leadFrom 2 = .ok (.aload_n 0, 1) := by decide +kernel
theorem dX4_leadFrom_3 : decode cX4_leadFrom 3 = .ok (.getfield 36, 3) := by decide +kernel
theorem dX4_leadFrom_6 : decode cX4_leadFrom 6 = .ok (.iload_n 1, 1) := by decide +kernel
theorem dX4_leadFrom_7 : decode cX4_leadFrom 7 = .ok (.invokevirtual 105, 3) := by decide +kernel
theorem dX4_leadFrom_10 : decode cX4_leadFrom 10 = .ok (.istore 4, 2) := by decide +kernel
theorem dX4_leadFrom_12 : decode cX4_leadFrom 12 = .ok (.iload 4, 2) := by decide +kernel
theorem dX4_leadFrom_14 : decode cX4_leadFrom 14 = .ok (.ifCond .le 32, 3) := by decide +kernel
theorem dX4_leadFrom_17 : decode cX4_leadFrom 17 = .ok (.aload_n 0, 1) := by decide +kernel
theorem dX4_leadFrom_18 : decode cX4_leadFrom 18 = .ok (.getfield 19, 3) := by decide +kernel
theorem dX4_leadFrom_21 : decode cX4_leadFrom 21 = .ok (.iload_n 3, 1) := by decide +kernel
theorem dX4_leadFrom_22 : decode cX4_leadFrom 22 = .ok (.invokevirtual 75, 3) := by decide +kernel
theorem dX4_leadFrom_25 : decode cX4_leadFrom 25 = .ok (.iload_n 2, 1) := by decide +kernel
theorem dX4_leadFrom_26 : decode cX4_leadFrom 26 = .ok (.if_icmp .gt 5, 3) := by decide +kernel
theorem dX4_leadFrom_29 : decode cX4_leadFrom 29 = .ok (.iload_n 3, 1) := by decide +kernel
theorem dX4_leadFrom_30 : decode cX4_leadFrom 30 = .ok (.ireturn, 1) := by decide +kernel
theorem dX4_leadFrom_31 : decode cX4_leadFrom 31 = .ok (.aload_n 0, 1) := by decide +kernel
theorem dX4_leadFrom_32 : decode cX4_leadFrom 32 = .ok (.getfield 36, 3) := by decide +kernel
theorem dX4_leadFrom_35 : decode cX4_leadFrom 35 = .ok (.iload_n 3, 1) := by decide +kernel
theorem dX4_leadFrom_36 : decode cX4_leadFrom 36 = .ok (.invokevirtual 202, 3) := by decide +kernel
theorem dX4_leadFrom_39 : decode cX4_leadFrom 39 = .ok (.istore_n 3, 1) := by decide +kernel
theorem dX4_leadFrom_40 : decode cX4_leadFrom 40 = .ok (.iinc 4 (-1), 3) := by decide +kernel
theorem dX4_leadFrom_43 : decode cX4_leadFrom 43 = .ok (.goto (-31), 3) := by decide +kernel
theorem dX4_leadFrom_46 : decode cX4_leadFrom 46 = .ok (.bipush 81, 2) := by decide +kernel
theorem dX4_leadFrom_48 : decode cX4_leadFrom 48 = .ok (.ireturn, 1) := by decide +kernel
theorem dX4_neighbour_0 : decode cX4_neighbour 0 = .ok (.iload_n 0, 1) := by decide +kernel
theorem dX4_neighbour_1 : decode cX4_neighbour 1 = .ok (.bipush 9, 2) := by decide +kernel
theorem dX4_neighbour_3 : decode cX4_neighbour 3 = .ok (.irem, 1) := by decide +kernel
theorem dX4_neighbour_4 : decode cX4_neighbour 4 = .ok (.istore_n 2, 1) := by decide +kernel
theorem dX4_neighbour_5 : decode cX4_neighbour 5 = .ok (.iload_n 1, 1) := by decide +kernel
theorem dX4_neighbour_6 : decode cX4_neighbour 6 = .ok (.tableswitch 67 0 2 #[26, 41, 53], 26) := by decide +kernel
theorem dX4_neighbour_32 : decode cX4_neighbour 32 = .ok (.iload_n 0, 1) := by decide +kernel
theorem dX4_neighbour_33 : decode cX4_neighbour 33 = .ok (.bipush 9, 2) := by decide +kernel
theorem dX4_neighbour_35 : decode cX4_neighbour 35 = .ok (.if_icmp .lt 10, 3) := by decide +kernel
theorem dX4_neighbour_38 : decode cX4_neighbour 38 = .ok (.iload_n 0, 1) := by decide +kernel
theorem dX4_neighbour_39 : decode cX4_neighbour 39 = .ok (.bipush 9, 2) := by decide +kernel
theorem dX4_neighbour_41 : decode cX4_neighbour 41 = .ok (.isub, 1) := by decide +kernel
theorem dX4_neighbour_42 : decode cX4_neighbour 42 = .ok (.goto 4, 3) := by decide +kernel
theorem dX4_neighbour_45 : decode cX4_neighbour 45 = .ok (.iconst (-1), 1) := by decide +kernel
theorem dX4_neighbour_46 : decode cX4_neighbour 46 = .ok (.ireturn, 1) := by decide +kernel
theorem dX4_neighbour_47 : decode cX4_neighbour 47 = .ok (.iload_n 2, 1) := by decide +kernel
theorem dX4_neighbour_48 : decode cX4_neighbour 48 = .ok (.ifCond .le 9, 3) := by decide +kernel
theorem dX4_neighbour_51 : decode cX4_neighbour 51 = .ok (.iload_n 0, 1) := by decide +kernel
theorem dX4_neighbour_52 : decode cX4_neighbour 52 = .ok (.iconst 1, 1) := by decide +kernel
theorem dX4_neighbour_53 : decode cX4_neighbour 53 = .ok (.isub, 1) := by decide +kernel
theorem dX4_neighbour_54 : decode cX4_neighbour 54 = .ok (.goto 4, 3) := by decide +kernel
theorem dX4_neighbour_57 : decode cX4_neighbour 57 = .ok (.iconst (-1), 1) := by decide +kernel
theorem dX4_neighbour_58 : decode cX4_neighbour 58 = .ok (.ireturn, 1) := by decide +kernel
theorem dX4_neighbour_59 : decode cX4_neighbour 59 = .ok (.iload_n 2, 1) := by decide +kernel
theorem dX4_neighbour_60 : decode cX4_neighbour 60 = .ok (.bipush 8, 2) := by decide +kernel
theorem dX4_neighbour_62 : decode cX4_neighbour 62 = .ok (.if_icmp .ge 9, 3) := by decide +kernel
theorem dX4_neighbour_65 : decode cX4_neighbour 65 = .ok (.iload_n 0, 1) := by decide +kernel
theorem dX4_neighbour_66 : decode cX4_neighbour 66 = .ok (.iconst 1, 1) := by decide +kernel
theorem dX4_neighbour_67 : decode cX4_neighbour 67 = .ok (.iadd, 1) := by decide +kernel
theorem dX4_neighbour_68 : decode cX4_neighbour 68 = .ok (.goto 4, 3) := by decide +kernel
theorem dX4_neighbour_71 : decode cX4_neighbour 71 = .ok (.iconst (-1), 1) := by decide +kernel
theorem dX4_neighbour_72 : decode cX4_neighbour 72 = .ok (.ireturn, 1) := by decide +kernel
theorem dX4_neighbour_73 : decode cX4_neighbour 73 = .ok (.iload_n 0, 1) := by decide +kernel
theorem dX4_neighbour_74 : decode cX4_neighbour 74 = .ok (.bipush 72, 2) := by decide +kernel
theorem dX4_neighbour_76 : decode cX4_neighbour 76 = .ok (.if_icmp .ge 10, 3) := by decide +kernel
theorem dX4_neighbour_79 : decode cX4_neighbour 79 = .ok (.iload_n 0, 1) := by decide +kernel
theorem dX4_neighbour_80 : decode cX4_neighbour 80 = .ok (.bipush 9, 2) := by decide +kernel
theorem dX4_neighbour_82 : decode cX4_neighbour 82 = .ok (.iadd, 1) := by decide +kernel
theorem dX4_neighbour_83 : decode cX4_neighbour 83 = .ok (.goto 4, 3) := by decide +kernel
theorem dX4_neighbour_86 : decode cX4_neighbour 86 = .ok (.iconst (-1), 1) := by decide +kernel
theorem dX4_neighbour_87 : decode cX4_neighbour 87 = .ok (.ireturn, 1) := by decide +kernel
