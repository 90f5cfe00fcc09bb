theorem dX5_init_1 : decode cX5_init 1 = .ok (.invokespecial 3, 3) := by decide +kernel
theorem dX5_init_4 : decode cX5_init 4 = .ok (.aload_n 0, 1) := by decide +kernel
theorem dX5_init_5 : decode cX5_init 5 = .ok (.bipush 8, 2) := by decide +kernel
theorem dX5_init_7 : decode cX5_init 7 = .ok (.newarray .int, 2) := by decide +kernel
theorem dX5_init_9 : decode cX5_init 9 = .ok (.putfield 9, 3) := by decide +kernel
theorem dX5_init_12 : decode cX5_init 12 = .ok (.aload_n 0, 1) := by decide +kernel
theorem dX5_init_13 : decode cX5_init 13 = .ok (.bipush 8, 2) := by decide +kernel
theorem dX5_init_15 : decode cX5_init 15 = .ok (.newarray .int, 2) := by decide +kernel
theorem dX5_init_17 : decode cX5_init 17 = .ok (.putfield 15, 3) := by decide +kernel
theorem dX5_init_20 : decode cX5_init 20 = .ok (.aload_n 0, 1) := by decide +kernel
theorem dX5_init_21 : decode cX5_init 21 = .ok (.bipush 8, 2) := by decide +kernel
theorem dX5_init_23 : decode cX5_init 23 = .ok (.newarray .int, 2) := by decide +kernel
theorem dX5_init_25 : decode cX5_init 25 = .ok (.putfield 18, 3) := by decide +kernel
theorem dX5_init_28 : decode cX5_init 28 = .ok (.aload_n 0, 1) := by decide +kernel
theorem dX5_init_29 : decode cX5_init 29 = .ok (.bipush 8, 2) := by decide +kernel
theorem dX5_init_31 : decode cX5_init 31 = .ok (.newarray .int, 2) := by decide +kernel
theorem dX5_init_33 : decode cX5_init 33 = .ok (.putfield 21, 3) := by decide +kernel
theorem dX5_init_36 : decode cX5_init 36 = .ok (.return_, 1) := by decide +kernel
theorem dX5_layOn_0 : decode cX5_layOn 0 = .ok (.aload_n 0, 1) := by decide +kernel
theorem dX5_layOn_1 : decode cX5_layOn 1 = .ok (.iconst 0, 1) := by decide +kernel
theorem dX5_layOn_2 : decode cX5_layOn 2 = .ok (.putfield 24, 3) := by decide +kernel
theorem dX5_layOn_5 : decode cX5_layOn 5 = .ok (.aload_n 0, 1) := by decide +kernel
theorem dX5_layOn_6 : decode cX5_layOn 6 = .ok (.iconst 0, 1) := by decide +kernel
theorem dX5_layOn_7 : decode cX5_layOn 7 = .ok (.putfield 28, 3) := by decide +kernel
theorem dX5_layOn_10 : decode cX5_layOn 10 = .ok (.aload_n 0, 1) := by decide +kernel
theorem dX5_layOn_11 : decode cX5_layOn 11 = .ok (.iload_n 1, 1) := by decide +kernel
theorem dX5_layOn_12 : decode cX5_layOn 12 = .ok (.putfield 31, 3) := by decide +kernel
theorem dX5_layOn_15 : decode cX5_layOn 15 = .ok (.aload_n 0, 1) := by decide +kernel
theorem dX5_layOn_16 : decode cX5_layOn 16 = .ok (.iconst (-1), 1) := by decide +kernel
theorem dX5_layOn_17 : decode cX5_layOn 17 = .ok (.putfield 34, 3) := by decide +kernel
theorem dX5_layOn_20 : decode cX5_layOn 20 = .ok (.aload_n 0, 1) := by decide +kernel
theorem dX5_layOn_21 : decode cX5_layOn 21 = .ok (.iconst 0, 1) := by decide +kernel
theorem dX5_layOn_22 : decode cX5_layOn 22 = .ok (.putfield 37, 3) := by decide +kernel
theorem dX5_layOn_25 : decode cX5_layOn 25 = .ok (.return_, 1) := by decide +kernel
theorem dX5_copyFrom_0 : decode cX5_copyFrom 0 = .ok (.aload_n 0, 1) := by decide +kernel
theorem dX5_copyFrom_1 : decode cX5_copyFrom 1 = .ok (.aload_n 1, 1) := by decide +kernel
theorem dX5_copyFrom_2 : decode cX5_copyFrom 2 = .ok (.getfield 24, 3) := by decide +kernel
theorem dX5_copyFrom_5 : decode cX5_copyFrom 5 = .ok (.putfield 24, 3) := by decide +kernel
theorem dX5_copyFrom_8 : decode cX5_copyFrom 8 = .ok (.aload_n 0, 1) := by decide +kernel
theorem dX5_copyFrom_9 : decode cX5_copyFrom 9 = .ok (.aload_n 1, 1) := by decide +kernel
theorem dX5_copyFrom_10 : decode cX5_copyFrom 10 = .ok (.getfield 28, 3) := by decide +kernel
theorem dX5_copyFrom_13 : decode cX5_copyFrom 13 = .ok (.putfield 28, 3) := by decide +kernel
theorem dX5_copyFrom_16 : decode cX5_copyFrom 16 = .ok (.aload_n 0, 1) := by decide +kernel
theorem dX5_copyFrom_17 : decode cX5_copyFrom 17 = .ok (.aload_n 1, 1) := by decide +kernel
theorem dX5_copyFrom_18 : decode cX5_copyFrom 18 = .ok (.getfield 31, 3) := by decide +kernel
theorem dX5_copyFrom_21 : decode cX5_copyFrom 21 = .ok (.putfield 31, 3) := by decide +kernel
theorem dX5_copyFrom_24 : decode cX5_copyFrom 24 = .ok (.aload_n 0, 1) := by decide +kernel
theorem dX5_copyFrom_25 : decode cX5_copyFrom 25 = .ok (.aload_n 1, 1) := by decide +kernel
theorem dX5_copyFrom_26 : decode cX5_copyFrom 26 = .ok (.getfield 34, 3) := by decide +kernel
theorem dX5_copyFrom_29 : decode cX5_copyFrom 29 = .ok (.putfield 34, 3) := by decide +kernel
theorem dX5_copyFrom_32 : decode cX5_copyFrom 32 = .ok (.aload_n 0, 1) := by decide +kernel
theorem dX5_copyFrom_33 : decode cX5_copyFrom 33 = .ok (.aload_n 1, 1) := by decide +kernel
theorem dX5_copyFrom_34 : decode cX5_copyFrom 34 = .ok (.getfield 37, 3) := by decide +kernel
theorem dX5_copyFrom_37 : decode cX5_copyFrom 37 = .ok (.putfield 37, 3) := by decide +kernel
theorem dX5_copyFrom_40 : decode cX5_copyFrom 40 = .ok (.aload_n 1, 1) := by decide +kernel
theorem dX5_copyFrom_41 : decode cX5_copyFrom 41 = .ok (.getfield 9, 3) := by decide +kernel
theorem dX5_copyFrom_44 : decode cX5_copyFrom 44 = .ok (.iconst 0, 1) := by decide +kernel
theorem dX5_copyFrom_45 : decode cX5_copyFrom 45 = .ok (.aload_n 0, 1) := by decide +kernel
theorem dX5_copyFrom_46 : decode cX5_copyFrom 46 = .ok (.getfield 9, 3) := by decide +kernel
theorem dX5_copyFrom_49 : decode cX5_copyFrom 49 = .ok (.iconst 0, 1) := by decide +kernel
theorem dX5_copyFrom_50 : decode cX5_copyFrom 50 = .ok (.bipush 8, 2) := by decide +kernel
theorem dX5_copyFrom_52 : decode cX5_copyFrom 52 = .ok (.invokestatic 40, 3) := by decide +kernel
theorem dX5_copyFrom_55 : decode cX5_copyFrom 55 = .ok (.aload_n 1, 1) := by decide +kernel
theorem dX5_copyFrom_56 : decode cX5_copyFrom 56 = .ok (.getfield 15, 3) := by decide +kernel
theorem dX5_copyFrom_59 : decode cX5_copyFrom 59 = .ok (.iconst 0, 1) := by decide +kernel
theorem dX5_copyFrom_60 : decode cX5_copyFrom 60 = .ok (.aload_n 0, 1) := by decide +kernel
theorem dX5_copyFrom_61 : decode cX5_copyFrom 61 = .ok (.getfield 15, 3) := by decide +kernel
theorem dX5_copyFrom_64 : decode cX5_copyFrom 64 = .ok (.iconst 0, 1) := by decide +kernel
theorem dX5_copyFrom_65 : decode cX5_copyFrom 65 = .ok (.bipush 8, 2) := by decide +kernel
theorem dX5_copyFrom_67 : decode cX5_copyFrom 67 = .ok (.invokestatic 40, 3) := by decide +kernel
theorem dX5_copyFrom_70 : decode cX5_copyFrom 70 = .ok (.aload_n 1, 1) := by decide +kernel
theorem dX5_copyFrom_71 : decode cX5_copyFrom 71 = .ok (.getfield 18, 3) := by decide +kernel
theorem dX5_copyFrom_74 : decode cX5_copyFrom 74 = .ok (.iconst 0, 1) := by decide +kernel
theorem dX5_copyFrom_75 : decode cX5_copyFrom 75 = .ok (.aload_n 0, 1) := by decide +kernel
theorem dX5_copyFrom_76 : decode cX5_copyFrom 76 = .ok (.getfield 18, 3) := by decide +kernel
theorem dX5_copyFrom_79 : decode cX5_copyFrom 79 = .ok (.iconst 0, 1) := by decide +kernel
theorem dX5_copyFrom_80 : decode cX5_copyFrom 80 = .ok (.bipush 8, 2) := by decide +kernel
theorem dX5_copyFrom_82 : decode cX5_copyFrom 82 = .ok (.invokestatic 40, 3) := by decide +kernel
theorem dX5_copyFrom_85 : decode cX5_copyFrom 85 = .ok (.aload_n 1, 1) := by decide +kernel
theorem dX5_copyFrom_86 : decode cX5_copyFrom 86 = .ok (.getfield 21, 3) := by decide +kernel
theorem dX5_copyFrom_89 : decode cX5_copyFrom 89 = .ok (.iconst 0, 1) := by decide +kernel
theorem dX5_copyFrom_90 : decode cX5_copyFrom 90 = .ok (.aload_n 0, 1) := by decide +kernel
theorem dX5_copyFrom_91 : decode cX5_copyFrom 91 = .ok (.getfield 21, 3) := by decide +kernel
theorem dX5_copyFrom_94 : decode cX5_copyFrom 94 = .ok (.iconst 0, 1) := by decide +kernel
theorem dX5_copyFrom_95 : decode cX5_copyFrom 95 = .ok (.bipush 8, 2) := by decide +kernel
theorem dX5_copyFrom_97 : decode cX5_copyFrom 97 = .ok (.invokestatic 40, 3) := by decide +kernel
theorem dX5_copyFrom_100 : decode cX5_copyFrom 100 = .ok (.return_, 1) := by decide +kernel
set_option maxRecDepth 20000 in
theorem ggX5_hasStep_X10_isWithin : GoodIn wsX5_hasStep wsX10_isWithin := goodIn_r _ [4] (by decide +kernel) (by decide +kernel)
set_option maxRecDepth 20000 in
theorem gX5_hasStep_X10_isWithin_n46 : GoodIn wsX5_hasStep (wsX10_isWithin) := ggX5_hasStep_X10_isWithin
theorem dX5_hasStep_0 : decode cX5_hasStep 0 = .ok (.iload_n 1, 1) := by decide +kernel
theorem dX5_hasStep_1 : decode cX5_hasStep 1 = .ok (.iconst 0, 1) := by decide +kernel
theorem dX5_hasStep_2 : decode cX5_hasStep 2 = .ok (.aload_n 0, 1) := by decide +kernel
theorem dX5_hasStep_3 : decode cX5_hasStep 3 = .ok (.getfield 24, 3) := by decide +kernel
theorem dX5_hasStep_6 : decode cX5_hasStep 6 = .ok (.iconst 1, 1) := by decide +kernel
theorem dX5_hasStep_7 : decode cX5_hasStep 7 = .ok (.isub, 1) := by decide +kernel
theorem dX5_hasStep_8 : decode cX5_hasStep 8 = .ok (.invokestatic 46, 3) := by decide +kernel
theorem dX5_hasStep_11 : decode cX5_hasStep 11 = .ok (.ireturn, 1) := by decide +kernel
theorem dX5_isBuilt_0 : decode cX5_isBuilt 0 = .ok (.aload_n 0, 1) := by decide +kernel
theorem dX5_isBuilt_1 : decode cX5_isBuilt 1 = .ok (.getfield 34, 3) := by decide +kernel
theorem dX5_isBuilt_4 : decode cX5_isBuilt 4 = .ok (.iconst (-1), 1) := by decide +kernel
theorem dX5_isBuilt_5 : decode cX5_isBuilt 5 = .ok (.if_icmp .eq 7, 3) := by decide +kernel
theorem dX5_isBuilt_8 : decode cX5_isBuilt 8 = .ok (.iconst 1, 1) := by decide +kernel
theorem dX5_isBuilt_9 : decode cX5_isBuilt 9 = .ok (.goto 4, 3) := by decide +kernel
theorem dX5_isBuilt_12 : decode cX5_isBuilt 12 = .ok (.iconst 0, 1) := by decide +kernel
theorem dX5_isBuilt_13 : decode cX5_isBuilt 13 = .ok (.ireturn, 1) := by decide +kernel
set_option maxRecDepth 20000 in
theorem ggX5_isSkipped_X10_contains : GoodIn wsX5_isSkipped wsX10_contains := goodIn_r _ [4] (by decide +kernel) (by decide +kernel)
set_option maxRecDepth 20000 in
theorem gX5_isSkipped_X10_contains_n50 : GoodIn wsX5_isSkipped (wsX10_contains) := ggX5_isSkipped_X10_contains
theorem dX5_isSkipped_0 : decode cX5_isSkipped 0 = .ok (.aload_n 0, 1) := by decide +kernel
theorem dX5_isSkipped_1 : decode cX5_isSkipped 1 = .ok (.getfield 37, 3) := by decide +kernel
theorem dX5_isSkipped_4 : decode cX5_isSkipped 4 = .ok (.iload_n 1, 1) := by decide +kernel
theorem dX5_isSkipped_5 : decode cX5_isSkipped 5 = .ok (.invokestatic 50, 3) := by decide +kernel
theorem dX5_isSkipped_8 : decode cX5_isSkipped 8 = .ok (.ireturn, 1) := by decide +kernel
set_option maxRecDepth 20000 in
theorem ggX5_skippedSteps_J6_bitCount_0f7a4 : GoodIn wsX5_skippedSteps wsJ6_bitCount_0f7a4 := goodIn_r _ [5, 6, 7, 8] (by decide +kernel) (by decide +kernel)
set_option maxRecDepth 20000 in
theorem gX5_skippedSteps_J6_bitCount_0f7a4 : GoodIn wsX5_skippedSteps (va_wsS RX5 54 yJ6_bitCount_0f7a4 wsJ6_bitCount_0f7a4) := goodIn_app (goodIn_of _ (by decide +kernel)) ggX5_skippedSteps_J6_bitCount_0f7a4
theorem dX5_skippedSteps_0 : decode cX5_skippedSteps 0 = .ok (.aload_n 0, 1) := by decide +kernel
theorem dX5_skippedSteps_1 : decode cX5_skippedSteps 1 = .ok (.getfield 37, 3) := by decide +kernel
theorem dX5_skippedSteps_4 : decode cX5_skippedSteps 4 = .ok (.invokestatic 54, 3) := by decide +kernel
theorem dX5_skippedSteps_7 : decode cX5_skippedSteps 7 = .ok (.ireturn, 1) := by decide +kernel
theorem dX5_allSteps_0 : decode cX5_allSteps 0 = .ok (.iconst 1, 1) := by decide +kernel
theorem dX5_allSteps_1 : decode cX5_allSteps 1 = .ok (.aload_n 0, 1) := by decide +kernel
theorem dX5_allSteps_2 : decode cX5_allSteps 2 = .ok (.getfield 24, 3) := by decide +kernel
theorem dX5_allSteps_5 : decode cX5_allSteps 5 = .ok (.ishl, 1) := by decide +kernel
theorem dX5_allSteps_6 : decode cX5_allSteps 6 = .ok (.iconst 1, 1) := by decide +kernel
theorem dX5_allSteps_7 : decode cX5_allSteps 7 = .ok (.isub, 1) := by decide +kernel
theorem dX5_allSteps_8 : decode cX5_allSteps 8 = .ok (.ireturn, 1) := by decide +kernel
set_option maxRecDepth 20000 in
theorem ggX5_open_X5_openWith : GoodIn wsX5_open wsX5_openWith := goodIn_r _ [6, 7, 8, 9, 10, 11, 12, 13, 14, 15, 16] (by decide +kernel) (by decide +kernel)
set_option maxRecDepth 20000 in
theorem gX5_open_X5_openWith : GoodIn wsX5_open (wsV RX5 60 RX5 yX5_openWith wsX5_openWith) := goodIn_app (goodIn_of _ (by decide +kernel)) ggX5_open_X5_openWith
theorem dX5_open_0 : decode cX5_open 0 = .ok (.aload_n 0, 1) := by decide +kernel
theorem dX5_open_1 : decode cX5_open 1 = .ok (.aload_n 0, 1) := by decide +kernel
theorem dX5_open_2 : decode cX5_open 2 = .ok (.getfield 28, 3) := by decide +kernel
theorem dX5_open_5 : decode cX5_open 5 = .ok (.invokevirtual 60, 3) := by decide +kernel
theorem dX5_open_8 : decode cX5_open 8 = .ok (.ireturn, 1) := by decide +kernel
theorem dX5_openWith_0 : decode cX5_openWith 0 = .ok (.aload_n 0, 1) := by decide +kernel
theorem dX5_openWith_1 : decode cX5_openWith 1 = .ok (.getfield 24, 3) := by decide +kernel
theorem dX5_openWith_4 : decode cX5_openWith 4 = .ok (.istore_n 2, 1) := by decide +kernel
theorem dX5_openWith_5 : decode cX5_openWith 5 = .ok (.iconst 0, 1) := by decide +kernel
theorem dX5_openWith_6 : decode cX5_openWith 6 = .ok (.istore_n 3, 1) := by decide +kernel
theorem dX5_openWith_7 : decode cX5_openWith 7 = .ok (.iload_n 3, 1) := by decide +kernel
theorem dX5_openWith_8 : decode cX5_openWith 8 = .ok (.iload_n 1, 1) := by decide +kernel
theorem dX5_openWith_9 : decode cX5_openWith 9 = .ok (.if_icmp .ge 15, 3) := by decide +kernel
theorem dX5_openWith_12 : decode cX5_openWith 12 = .ok (.iload_n 2, 1) := by decide +kernel
theorem dX5_openWith_13 : decode cX5_openWith 13 = .ok (.iconst 1, 1) := by decide +kernel
theorem dX5_openWith_14 : decode cX5_openWith 14 = .ok (.iadd, 1) := by decide +kernel
theorem dX5_openWith_15 : decode cX5_openWith 15 = .ok (.iconst 2, 1) := by decide +kernel
theorem dX5_openWith_16 : decode cX5_openWith 16 = .ok (.idiv, 1) := by decide +kernel
theorem dX5_openWith_17 : decode cX5_openWith 17 = .ok (.istore_n 2, 1) := by decide +kernel
theorem dX5_openWith_18 : decode cX5_openWith 18 = .ok (.iinc 3 1, 3) := by decide +kernel
theorem dX5_openWith_21 : decode cX5_openWith 21 = .ok (.goto (-14), 3) := by decide +kernel
theorem dX5_openWith_24 : decode cX5_openWith 24 = .ok (.iload_n 2, 1) := by decide +kernel
theorem dX5_openWith_25 : decode cX5_openWith 25 = .ok (.ireturn, 1) := by decide +kernel
theorem dX5_partsOfStep_0 : decode cX5_partsOfStep 0 = .ok (.aload_n 0, 1) := by decide +kernel
theorem dX5_partsOfStep_1 : decode cX5_partsOfStep 1 = .ok (.getfield 15, 3) := by decide +kernel
theorem dX5_partsOfStep_4 : decode cX5_partsOfStep 4 = .ok (.iload_n 1, 1) := by decide +kernel
theorem dX5_partsOfStep_5 : decode cX5_partsOfStep 5 = .ok (.iaload, 1) := by decide +kernel
theorem dX5_partsOfStep_6 : decode cX5_partsOfStep 6 = .ok (.aload_n 0, 1) := by decide +kernel
theorem dX5_partsOfStep_7 : decode cX5_partsOfStep 7 = .ok (.getfield 21, 3) := by decide +kernel
theorem dX5_partsOfStep_10 : decode cX5_partsOfStep 10 = .ok (.iload_n 1, 1) := by decide +kernel
theorem dX5_partsOfStep_11 : decode cX5_partsOfStep 11 = .ok (.iaload, 1) := by decide +kernel
theorem dX5_partsOfStep_12 : decode cX5_partsOfStep 12 = .ok (.imul, 1) := by decide +kernel
theorem dX5_partsOfStep_13 : decode cX5_partsOfStep 13 = .ok (.ireturn, 1) := by decide +kernel
set_option maxRecDepth 20000 in
theorem ggX5_partsOf_X10_contains : GoodIn wsX5_partsOf wsX10_contains := goodIn_r _ [4] (by decide +kernel) (by decide +kernel)
set_option maxRecDepth 20000 in
theorem gX5_partsOf_X10_contains_n50 : GoodIn wsX5_partsOf (wsX10_contains) := ggX5_partsOf_X10_contains
set_option maxRecDepth 20000 in
theorem ggX5_partsOf_X5_partsOfStep : GoodIn wsX5_partsOf wsX5_partsOfStep := goodIn_r _ [9, 10, 11, 12, 13, 14, 15, 16, 17, 18, 19, 20] (by decide +kernel) (by decide +kernel)
set_option maxRecDepth 20000 in
theorem gX5_partsOf_X5_partsOfStep : GoodIn wsX5_partsOf (wsV RX5 63 RX5 yX5_partsOfStep wsX5_partsOfStep) := goodIn_app (goodIn_of _ (by decide +kernel)) ggX5_partsOf_X5_partsOfStep
theorem dX5_partsOf_0 : decode cX5_partsOf 0 = .ok (.iconst 0, 1) := by decide +kernel
theorem dX5_partsOf_1 : decode cX5_partsOf 1 = .ok (.istore_n 2, 1) := by decide +kernel
theorem dX5_partsOf_2 : decode cX5_partsOf 2 = .ok (.iconst 0, 1) := by decide +kernel
theorem dX5_partsOf_3 : decode cX5_partsOf 3 = .ok (.istore_n 3, 1) := by decide +kernel
theorem dX5_partsOf_4 : decode cX5_partsOf 4 = .ok (.iload_n 3, 1) := by decide +kernel
theorem dX5_partsOf_5 : decode cX5_partsOf 5 = .ok (.aload_n 0, 1) := by decide +kernel
theorem dX5_partsOf_6 : decode cX5_partsOf 6 = .ok (.getfield 24, 3) := by decide +kernel
theorem dX5_partsOf_9 : decode cX5_partsOf 9 = .ok (.if_icmp .ge 25, 3) := by decide +kernel
theorem dX5_partsOf_12 : decode cX5_partsOf 12 = .ok (.iload_n 1, 1) := by decide +kernel
theorem dX5_partsOf_13 : decode cX5_partsOf 13 = .ok (.iload_n 3, 1) := by decide +kernel
theorem dX5_partsOf_14 : decode cX5_partsOf 14 = .ok (.invokestatic 50, 3) := by decide +kernel
theorem dX5_partsOf_17 : decode cX5_partsOf 17 = .ok (.ifCond .eq 11, 3) := by decide +kernel
theorem dX5_partsOf_20 : decode cX5_partsOf 20 = .ok (.iload_n 2, 1) := by decide +kernel
theorem dX5_partsOf_21 : decode cX5_partsOf 21 = .ok (.aload_n 0, 1) := by decide +kernel
theorem dX5_partsOf_22 : decode cX5_partsOf 22 = .ok (.iload_n 3, 1) := by decide +kernel
theorem dX5_partsOf_23 : decode cX5_partsOf 23 = .ok (.invokevirtual 63, 3) := by decide +kernel
theorem dX5_partsOf_26 : decode cX5_partsOf 26 = .ok (.iadd, 1) := by decide +kernel
theorem dX5_partsOf_27 : decode cX5_partsOf 27 = .ok (.istore_n 2, 1) := by decide +kernel
theorem dX5_partsOf_28 : decode cX5_partsOf 28 = .ok (.iinc 3 1, 3) := by decide +kernel
theorem dX5_partsOf_31 : decode cX5_partsOf 31 = .ok (.goto (-27), 3) := by decide +kernel
theorem dX5_partsOf_34 : decode cX5_partsOf 34 = .ok (.iload_n 2, 1) := by decide +kernel
theorem dX5_partsOf_35 : decode cX5_partsOf 35 = .ok (.ireturn, 1) := by decide +kernel
set_option maxRecDepth 20000 in
theorem ggX5_needOf_X10_contains : GoodIn wsX5_needOf wsX10_contains := goodIn_r _ [5] (by decide +kernel) (by decide +kernel)
set_option maxRecDepth 20000 in
theorem gX5_needOf_X10_contains_n50 : GoodIn wsX5_needOf (wsX10_contains) := ggX5_needOf_X10_contains
set_option maxRecDepth 20000 in
theorem ggX5_needOf_X5_usesKind : GoodIn wsX5_needOf wsX5_usesKind := goodIn_r _ [10, 11, 12, 13, 14, 15, 16, 17, 18, 19, 20, 21] (by decide +kernel) (by decide +kernel)
set_option maxRecDepth 20000 in
theorem gX5_needOf_X5_usesKind : GoodIn wsX5_needOf (wsV RX5 66 RX5 yX5_usesKind wsX5_usesKind) := goodIn_app (goodIn_of _ (by decide +kernel)) ggX5_needOf_X5_usesKind
theorem dX5_needOf_0 : decode cX5_needOf 0 = .ok (.iconst 0, 1) := by decide +kernel
theorem dX5_needOf_1 : decode cX5_needOf 1 = .ok (.istore_n 3, 1) := by decide +kernel
theorem dX5_needOf_2 : decode cX5_needOf 2 = .ok (.iconst 0, 1) := by decide +kernel
theorem dX5_needOf_3 : decode cX5_needOf 3 = .ok (.istore 4, 2) := by decide +kernel
theorem dX5_needOf_5 : decode cX5_needOf 5 = .ok (.iload 4, 2) := by decide +kernel
theorem dX5_needOf_7 : decode cX5_needOf 7 = .ok (.aload_n 0, 1) := by decide +kernel
theorem dX5_needOf_8 : decode cX5_needOf 8 = .ok (.getfield 24, 3) := by decide +kernel
theorem dX5_needOf_11 : decode cX5_needOf 11 = .ok (.if_icmp .ge 38, 3) := by decide +kernel
theorem dX5_needOf_14 : decode cX5_needOf 14 = .ok (.iload_n 1, 1) := by decide +kernel
theorem dX5_needOf_15 : decode cX5_needOf 15 = .ok (.iload 4, 2) := by decide +kernel
theorem dX5_needOf_17 : decode cX5_needOf 17 = .ok (.invokestatic 50, 3) := by decide +kernel
theorem dX5_needOf_20 : decode cX5_needOf 20 = .ok (.ifCond .eq 23, 3) := by decide +kernel
theorem dX5_needOf_23 : decode cX5_needOf 23 = .ok (.aload_n 0, 1) := by decide +kernel
theorem dX5_needOf_24 : decode cX5_needOf 24 = .ok (.iload 4, 2) := by decide +kernel
theorem dX5_needOf_26 : decode cX5_needOf 26 = .ok (.iload_n 2, 1) := by decide +kernel
theorem dX5_needOf_27 : decode cX5_needOf 27 = .ok (.invokevirtual 66, 3) := by decide +kernel
theorem dX5_needOf_30 : decode cX5_needOf 30 = .ok (.ifCond .eq 13, 3) := by decide +kernel
theorem dX5_needOf_33 : decode cX5_needOf 33 = .ok (.iload_n 3, 1) := by decide +kernel
theorem dX5_needOf_34 : decode cX5_needOf 34 = .ok (.aload_n 0, 1) := by decide +kernel
theorem dX5_needOf_35 : decode cX5_needOf 35 = .ok (.getfield 15, 3) := by decide +kernel
theorem dX5_needOf_38 : decode cX5_needOf 38 = .ok (.iload 4, 2) := by decide +kernel
theorem dX5_needOf_40 : decode cX5_needOf 40 = .ok (.iaload, 1) := by decide +kernel
theorem dX5_needOf_41 : decode cX5_needOf 41 = .ok (.iadd, 1) := by decide +kernel
theorem dX5_needOf_42 : decode cX5_needOf 42 = .ok (.istore_n 3, 1) := by decide +kernel
theorem dX5_needOf_43 : decode cX5_needOf 43 = .ok (.iinc 4 1, 3) := by decide +kernel
theorem dX5_needOf_46 : decode cX5_needOf 46 = .ok (.goto (-41), 3) := by decide +kernel
theorem dX5_needOf_49 : decode cX5_needOf 49 = .ok (.iload_n 3, 1) := by decide +kernel
theorem dX5_needOf_50 : decode cX5_needOf 50 = .ok (.ireturn, 1) := by decide +kernel
theorem dX5_usesKind_0 : decode cX5_usesKind 0 = .ok (.aload_n 0, 1) := by decide +kernel
theorem dX5_usesKind_1 : decode cX5_usesKind 1 = .ok (.getfield 9, 3) := by decide +kernel
theorem dX5_usesKind_4 : decode cX5_usesKind 4 = .ok (.iload_n 1, 1) := by decide +kernel
theorem dX5_usesKind_5 : decode cX5_usesKind 5 = .ok (.iaload, 1) := by decide +kernel
theorem dX5_usesKind_6 : decode cX5_usesKind 6 = .ok (.iload_n 2, 1) := by decide +kernel
theorem dX5_usesKind_7 : decode cX5_usesKind 7 = .ok (.if_icmp .eq 28, 3) := by decide +kernel
theorem dX5_usesKind_10 : decode cX5_usesKind 10 = .ok (.aload_n 0, 1) := by decide +kernel
theorem dX5_usesKind_11 : decode cX5_usesKind 11 = .ok (.getfield 21, 3) := by decide +kernel
theorem dX5_usesKind_14 : decode cX5_usesKind 14 = .ok (.iload_n 1, 1) := by decide +kernel
theorem dX5_usesKind_15 : decode cX5_usesKind 15 = .ok (.iaload, 1) := by decide +kernel
theorem dX5_usesKind_16 : decode cX5_usesKind 16 = .ok (.iconst 2, 1) := by decide +kernel
theorem dX5_usesKind_17 : decode cX5_usesKind 17 = .ok (.if_icmp .ne 22, 3) := by decide +kernel
theorem dX5_usesKind_20 : decode cX5_usesKind 20 = .ok (.aload_n 0, 1) := by decide +kernel
theorem dX5_usesKind_21 : decode cX5_usesKind 21 = .ok (.getfield 9, 3) := by decide +kernel
theorem dX5_usesKind_24 : decode cX5_usesKind 24 = .ok (.iload_n 1, 1) := by decide +kernel
theorem dX5_usesKind_25 : decode cX5_usesKind 25 = .ok (.iaload, 1) := by decide +kernel
theorem dX5_usesKind_26 : decode cX5_usesKind 26 = .ok (.iconst 1, 1) := by decide +kernel
theorem dX5_usesKind_27 : decode cX5_usesKind 27 = .ok (.iadd, 1) := by decide +kernel
theorem dX5_usesKind_28 : decode cX5_usesKind 28 = .ok (.bipush 6, 2) := by decide +kernel
theorem dX5_usesKind_30 : decode cX5_usesKind 30 = .ok (.irem, 1) := by decide +kernel
theorem dX5_usesKind_31 : decode cX5_usesKind 31 = .ok (.iload_n 2, 1) := by decide +kernel
theorem dX5_usesKind_32 : decode cX5_usesKind 32 = .ok (.if_icmp .ne 7, 3) := by decide +kernel
theorem dX5_usesKind_35 : decode cX5_usesKind 35 = .ok (.iconst 1, 1) := by decide +kernel
theorem dX5_usesKind_36 : decode cX5_usesKind 36 = .ok (.goto 4, 3) := by decide +kernel
theorem dX5_usesKind_39 : decode cX5_usesKind 39 = .ok (.iconst 0, 1) := by decide +kernel
theorem dX5_usesKind_40 : decode cX5_usesKind 40 = .ok (.ireturn, 1) := by decide +kernel
set_option maxRecDepth 20000 in
theorem ggX5_stepsUnder_X5_openWith : GoodIn wsX5_stepsUnder wsX5_openWith := goodIn_r _ [6, 1, 7, 8, 9, 10, 11, 12, 13, 14, 15] (by decide +kernel) (by decide +kernel)
set_option maxRecDepth 20000 in
theorem gX5_stepsUnder_X5_openWith : GoodIn wsX5_stepsUnder (wsV RX5 60 RX5 yX5_openWith wsX5_openWith) := goodIn_app (goodIn_of _ (by decide +kernel)) ggX5_stepsUnder_X5_openWith
theorem dX5_stepsUnder_0 : decode cX5_stepsUnder 0 = .ok (.iconst 1, 1) := by decide +kernel
theorem dX5_stepsUnder_1 : decode cX5_stepsUnder 1 = .ok (.aload_n 0, 1) := by decide +kernel
theorem dX5_stepsUnder_2 : decode cX5_stepsUnder 2 = .ok (.getfield 24, 3) := by decide +kernel
theorem dX5_stepsUnder_5 : decode cX5_stepsUnder 5 = .ok (.ishl, 1) := by decide +kernel
theorem dX5_stepsUnder_6 : decode cX5_stepsUnder 6 = .ok (.iconst 1, 1) := by decide +kernel
theorem dX5_stepsUnder_7 : decode cX5_stepsUnder 7 = .ok (.aload_n 0, 1) := by decide +kernel
theorem dX5_stepsUnder_8 : decode cX5_stepsUnder 8 = .ok (.iload_n 1, 1) := by decide +kernel
theorem dX5_stepsUnder_9 : decode cX5_stepsUnder 9 = .ok (.invokevirtual 60, 3) := by decide +kernel
theorem dX5_stepsUnder_12 : decode cX5_stepsUnder 12 = .ok (.ishl, 1) := by decide +kernel
theorem dX5_stepsUnder_13 : decode cX5_stepsUnder 13 = .ok (.isub, 1) := by decide +kernel
theorem dX5_stepsUnder_14 : decode cX5_stepsUnder 14 = .ok (.ireturn, 1) := by decide +kernel
theorem dX5_stepsUnreadBy_0 : decode cX5_stepsUnreadBy 0 = .ok (.iconst 0, 1) := by decide +kernel
theorem dX5_stepsUnreadBy_1 : decode cX5_stepsUnreadBy 1 = .ok (.istore_n 2, 1) := by decide +kernel
theorem dX5_stepsUnreadBy_2 : decode cX5_stepsUnreadBy 2 = .ok (.iconst 0, 1) := by decide +kernel
theorem dX5_stepsUnreadBy_3 : decode cX5_stepsUnreadBy 3 = .ok (.istore_n 3, 1) := by decide +kernel
theorem dX5_stepsUnreadBy_4 : decode cX5_stepsUnreadBy 4 = .ok (.iload_n 3, 1) := by decide +kernel
theorem dX5_stepsUnreadBy_5 : decode cX5_stepsUnreadBy 5 = .ok (.aload_n 0, 1) := by decide +kernel
theorem dX5_stepsUnreadBy_6 : decode cX5_stepsUnreadBy 6 = .ok (.getfield 24, 3) := by decide +kernel
theorem dX5_stepsUnreadBy_9 : decode cX5_stepsUnreadBy 9 = .ok (.if_icmp .ge 26, 3) := by decide +kernel
theorem dX5_stepsUnreadBy_12 : decode cX5_stepsUnreadBy 12 = .ok (.aload_n 0, 1) := by decide +kernel
theorem dX5_stepsUnreadBy_13 : decode cX5_stepsUnreadBy 13 = .ok (.getfield 18, 3) := by decide +kernel
theorem dX5_stepsUnreadBy_16 : decode cX5_stepsUnreadBy 16 = .ok (.iload_n 3, 1) := by decide +kernel
theorem dX5_stepsUnreadBy_17 : decode cX5_stepsUnreadBy 17 = .ok (.iaload, 1) := by decide +kernel
theorem dX5_stepsUnreadBy_18 : decode cX5_stepsUnreadBy 18 = .ok (.iload_n 1, 1) := by decide +kernel
theorem dX5_stepsUnreadBy_19 : decode cX5_stepsUnreadBy 19 = .ok (.iand, 1) := by decide +kernel
theorem dX5_stepsUnreadBy_20 : decode cX5_stepsUnreadBy 20 = .ok (.ifCond .ne 9, 3) := by decide +kernel
theorem dX5_stepsUnreadBy_23 : decode cX5_stepsUnreadBy 23 = .ok (.iload_n 2, 1) := by decide +kernel
theorem dX5_stepsUnreadBy_24 : decode cX5_stepsUnreadBy 24 = .ok (.iconst 1, 1) := by decide +kernel
theorem dX5_stepsUnreadBy_25 : decode cX5_stepsUnreadBy 25 = .ok (.iload_n 3, 1) := by decide +kernel
theorem dX5_stepsUnreadBy_26 : decode cX5_stepsUnreadBy 26 = .ok (.ishl, 1) := by decide +kernel
theorem dX5_stepsUnreadBy_27 : decode cX5_stepsUnreadBy 27 = .ok (.ior, 1) := by decide +kernel
theorem dX5_stepsUnreadBy_28 : decode cX5_stepsUnreadBy 28 = .ok (.istore_n 2, 1) := by decide +kernel
theorem dX5_stepsUnreadBy_29 : decode cX5_stepsUnreadBy 29 = .ok (.iinc 3 1, 3) := by decide +kernel
theorem dX5_stepsUnreadBy_32 : decode cX5_stepsUnreadBy 32 = .ok (.goto (-28), 3) := by decide +kernel
theorem dX5_stepsUnreadBy_35 : decode cX5_stepsUnreadBy 35 = .ok (.iload_n 2, 1) := by decide +kernel
theorem dX5_stepsUnreadBy_36 : decode cX5_stepsUnreadBy 36 = .ok (.ireturn, 1) := by decide +kernel
set_option maxRecDepth 20000 in
theorem ggX5_stepsBelow_X5_partsOfStep : GoodIn wsX5_stepsBelow wsX5_partsOfStep := goodIn_r _ [6, 7, 8, 9, 10, 11, 12, 13, 14, 15, 16, 17] (by decide +kernel) (by decide +kernel)
set_option maxRecDepth 20000 in
theorem gX5_stepsBelow_X5_partsOfStep : GoodIn wsX5_stepsBelow (wsV RX5 63 RX5 yX5_partsOfStep wsX5_partsOfStep) := goodIn_app (goodIn_of _ (by decide +kernel)) ggX5_stepsBelow_X5_partsOfStep
theorem dX5_stepsBelow_0 : decode cX5_stepsBelow 0 = .ok (.iconst 0, 1) := by decide +kernel
theorem dX5_stepsBelow_1 : decode cX5_stepsBelow 1 = .ok (.istore_n 2, 1) := by decide +kernel
theorem dX5_stepsBelow_2 : decode cX5_stepsBelow 2 = .ok (.iconst 0, 1) := by decide +kernel
theorem dX5_stepsBelow_3 : decode cX5_stepsBelow 3 = .ok (.istore_n 3, 1) := by decide +kernel
theorem dX5_stepsBelow_4 : decode cX5_stepsBelow 4 = .ok (.iload_n 3, 1) := by decide +kernel
theorem dX5_stepsBelow_5 : decode cX5_stepsBelow 5 = .ok (.aload_n 0, 1) := by decide +kernel
theorem dX5_stepsBelow_6 : decode cX5_stepsBelow 6 = .ok (.getfield 24, 3) := by decide +kernel
theorem dX5_stepsBelow_9 : decode cX5_stepsBelow 9 = .ok (.if_icmp .ge 24, 3) := by decide +kernel
theorem dX5_stepsBelow_12 : decode cX5_stepsBelow 12 = .ok (.aload_n 0, 1) := by decide +kernel
theorem dX5_stepsBelow_13 : decode cX5_stepsBelow 13 = .ok (.iload_n 3, 1) := by decide +kernel
theorem dX5_stepsBelow_14 : decode cX5_stepsBelow 14 = .ok (.invokevirtual 63, 3) := by decide +kernel
theorem dX5_stepsBelow_17 : decode cX5_stepsBelow 17 = .ok (.iload_n 1, 1) := by decide +kernel
theorem dX5_stepsBelow_18 : decode cX5_stepsBelow 18 = .ok (.if_icmp .ge 9, 3) := by decide +kernel
theorem dX5_stepsBelow_21 : decode cX5_stepsBelow 21 = .ok (.iload_n 2, 1) := by decide +kernel
theorem dX5_stepsBelow_22 : decode cX5_stepsBelow 22 = .ok (.iconst 1, 1) := by decide +kernel
theorem dX5_stepsBelow_23 : decode cX5_stepsBelow 23 = .ok (.iload_n 3, 1) := by decide +kernel
theorem dX5_stepsBelow_24 : decode cX5_stepsBelow 24 = .ok (.ishl, 1) := by decide +kernel
theorem dX5_stepsBelow_25 : decode cX5_stepsBelow 25 = .ok (.ior, 1) := by decide +kernel
theorem dX5_stepsBelow_26 : decode cX5_stepsBelow 26 = .ok (.istore_n 2, 1) := by decide +kernel
theorem dX5_stepsBelow_27 : decode cX5_stepsBelow 27 = .ok (.iinc 3 1, 3) := by decide +kernel
theorem dX5_stepsBelow_30 : decode cX5_stepsBelow 30 = .ok (.goto (-26), 3) := by decide +kernel
theorem dX5_stepsBelow_33 : decode cX5_stepsBelow 33 = .ok (.iload_n 2, 1) := by decide +kernel
theorem dX5_stepsBelow_34 : decode cX5_stepsBelow 34 = .ok (.ireturn, 1) := by decide +kernel
set_option maxRecDepth 20000 in
theorem ggX5_stepsSkippedWith_X5_stepsUnder : GoodIn wsX5_stepsSkippedWith wsX5_stepsUnder := goodIn_r _ [5, 6, 7, 8, 9, 4, 10, 26, 27, 28, 29, 30, 31, 32, 33, 34] (by decide +kernel) (by decide +kernel)
set_option maxRecDepth 20000 in
theorem gX5_stepsSkippedWith_X5_stepsUnder : GoodIn wsX5_stepsSkippedWith (wsV RX5 69 RX5 yX5_stepsUnder wsX5_stepsUnder) := goodIn_app (goodIn_of _ (by decide +kernel)) ggX5_stepsSkippedWith_X5_stepsUnder
set_option maxRecDepth 20000 in
theorem ggX5_stepsSkippedWith_X5_stepsUnreadBy : GoodIn wsX5_stepsSkippedWith wsX5_stepsUnreadBy := goodIn_r _ [14, 6, 15, 26, 27, 28, 29, 30, 31, 32, 33, 34] (by decide +kernel) (by decide +kernel)
set_option maxRecDepth 20000 in
theorem gX5_stepsSkippedWith_X5_stepsUnreadBy : GoodIn wsX5_stepsSkippedWith (wsV RX5 72 RX5 yX5_stepsUnreadBy wsX5_stepsUnreadBy) := goodIn_app (goodIn_of _ (by decide +kernel)) ggX5_stepsSkippedWith_X5_stepsUnreadBy
set_option maxRecDepth 20000 in
theorem ggX5_stepsSkippedWith_X5_stepsBelow : GoodIn wsX5_stepsSkippedWith wsX5_stepsBelow := goodIn_r _ [19, 6, 20, 21, 22, 4, 23, 24, 25, 26, 27, 28, 29, 30, 31, 32, 33, 34] (by decide +kernel) (by decide +kernel)
set_option maxRecDepth 20000 in
theorem gX5_stepsSkippedWith_X5_stepsBelow : GoodIn wsX5_stepsSkippedWith (wsV RX5 75 RX5 yX5_stepsBelow wsX5_stepsBelow) := goodIn_app (goodIn_of _ (by decide +kernel)) ggX5_stepsSkippedWith_X5_stepsBelow
theorem dX5_stepsSkippedWith_0 : decode cX5_stepsSkippedWith 0 = .ok (.aload_n 0, 1) := by decide +kernel
theorem dX5_stepsSkippedWith_1 : decode cX5_stepsSkippedWith 1 = .ok (.iload_n 3, 1) := by decide +kernel
theorem dX5_stepsSkippedWith_2 : decode cX5_stepsSkippedWith 2 = .ok (.invokevirtual 69, 3) := by decide +kernel
theorem dX5_stepsSkippedWith_5 : decode cX5_stepsSkippedWith 5 = .ok (.aload_n 0, 1) := by decide +kernel
theorem dX5_stepsSkippedWith_6 : decode cX5_stepsSkippedWith 6 = .ok (.iload_n 1, 1) := by decide +kernel
theorem dX5_stepsSkippedWith_7 : decode cX5_stepsSkippedWith 7 = .ok (.invokevirtual 72, 3) := by decide +kernel
theorem dX5_stepsSkippedWith_10 : decode cX5_stepsSkippedWith 10 = .ok (.ior, 1) := by decide +kernel
theorem dX5_stepsSkippedWith_11 : decode cX5_stepsSkippedWith 11 = .ok (.aload_n 0, 1) := by decide +kernel
theorem dX5_stepsSkippedWith_12 : decode cX5_stepsSkippedWith 12 = .ok (.iload_n 2, 1) := by decide +kernel
theorem dX5_stepsSkippedWith_13 : decode cX5_stepsSkippedWith 13 = .ok (.invokevirtual 75, 3) := by decide +kernel
theorem dX5_stepsSkippedWith_16 : decode cX5_stepsSkippedWith 16 = .ok (.ior, 1) := by decide +kernel
theorem dX5_stepsSkippedWith_17 : decode cX5_stepsSkippedWith 17 = .ok (.ireturn, 1) := by decide +kernel
set_option maxRecDepth 20000 in
theorem ggX5_stepsSkippedBy_X5_stepsSkippedWith : GoodIn wsX5_stepsSkippedBy wsX5_stepsSkippedWith := goodIn_r _ [8, 9, 10, 11, 7, 12, 13, 14, 15, 16, 17, 18, 19, 20, 21, 22, 23, 24, 25, 26, 27, 28, 29, 30, 31, 32, 35, 36, 37, 38, 39, 40, 41, 42, 43] (by decide +kernel) (by decide +kernel)
set_option maxRecDepth 20000 in
theorem gX5_stepsSkippedBy_X5_stepsSkippedWith : GoodIn wsX5_stepsSkippedBy (wsV RX5 85 RX5 yX5_stepsSkippedWith wsX5_stepsSkippedWith) := goodIn_app (goodIn_of _ (by decide +kernel)) ggX5_stepsSkippedBy_X5_stepsSkippedWith
theorem dX5_stepsSkippedBy_0 : decode cX5_stepsSkippedBy 0 = .ok (.aload_n 0, 1) := by decide +kernel
theorem dX5_stepsSkippedBy_1 : decode cX5_stepsSkippedBy 1 = .ok (.aload_n 1, 1) := by decide +kernel
theorem dX5_stepsSkippedBy_2 : decode cX5_stepsSkippedBy 2 = .ok (.getfield 78, 3) := by decide +kernel
theorem dX5_stepsSkippedBy_5 : decode cX5_stepsSkippedBy 5 = .ok (.aload_n 1, 1) := by decide +kernel
theorem dX5_stepsSkippedBy_6 : decode cX5_stepsSkippedBy 6 = .ok (.getfield 82, 3) := by decide +kernel
theorem dX5_stepsSkippedBy_9 : decode cX5_stepsSkippedBy 9 = .ok (.aload_n 0, 1) := by decide +kernel
theorem dX5_stepsSkippedBy_10 : decode cX5_stepsSkippedBy 10 = .ok (.getfield 28, 3) := by decide +kernel
theorem dX5_stepsSkippedBy_13 : decode cX5_stepsSkippedBy 13 = .ok (.invokevirtual 85, 3) := by decide +kernel
theorem dX5_stepsSkippedBy_16 : decode cX5_stepsSkippedBy 16 = .ok (.ireturn, 1) := by decide +kernel
theorem dX6_init_0 : decode cX6_init 0 = .ok (.aload_n 0, 1) := by decide +kernel
theorem dX6_init_1 : decode cX6_init 1 = .ok (.invokespecial 3, 3) := by decide +kernel
theorem dX6_init_4 : decode cX6_init 4 = .ok (.aload_n 0, 1) := by decide +kernel
theorem dX6_init_5 : decode cX6_init 5 = .ok (.bipush 48, 2) := by decide +kernel
theorem dX6_init_7 : decode cX6_init 7 = .ok (.newarray .char, 2) := by decide +kernel
theorem dX6_init_9 : decode cX6_init 9 = .ok (.putfield 9, 3) := by decide +kernel
theorem dX6_init_12 : decode cX6_init 12 = .ok (.return_, 1) := by decide +kernel
set_option maxRecDepth 20000 in
theorem ggX6_write_X5_open : GoodIn wsX6_write wsX5_open := goodIn_r _ [7, 8, 9, 10, 11, 6, 12, 13, 37, 38, 39, 40, 41, 42, 43, 44, 45] (by decide +kernel) (by decide +kernel)
set_option maxRecDepth 20000 in
theorem gX6_write_X5_open : GoodIn wsX6_write (wsV RX6 19 RX5 yX5_open wsX5_open) := goodIn_app (goodIn_of _ (by decide +kernel)) ggX6_write_X5_open
set_option maxRecDepth 20000 in
theorem ggX6_write_X6_put : GoodIn wsX6_write wsX6_put := goodIn_r _ [18, 1, 19, 35, 36] (by decide +kernel) (by decide +kernel)
set_option maxRecDepth 20000 in
theorem gX6_write_X6_put : GoodIn wsX6_write (wsV RX6 28 RX6 yX6_put wsX6_put) := goodIn_app (goodIn_of _ (by decide +kernel)) ggX6_write_X6_put
set_option maxRecDepth 20000 in
theorem ggX6_write_X6_writeStep : GoodIn wsX6_write wsX6_writeStep := goodIn_r _ [23, 24, 25, 26, 14, 15, 16, 17, 18, 1, 19, 27, 28, 29, 6, 30, 31, 32, 33, 34, 37, 38, 39, 40, 41, 42, 43, 44, 45, 35, 36] (by decide +kernel) (by decide +kernel)
set_option maxRecDepth 20000 in
theorem gX6_write_X6_writeStep : GoodIn wsX6_write (wsV RX6 32 RX6 yX6_writeStep wsX6_writeStep) := goodIn_app (goodIn_of _ (by decide +kernel)) ggX6_write_X6_writeStep
theorem dX6_write_0 : decode cX6_write 0 = .ok (.aload_n 0, 1) := by decide +kernel
theorem dX6_write_1 : decode cX6_write 1 = .ok (.iconst 0, 1) := by decide +kernel
theorem dX6_write_2 : decode cX6_write 2 = .ok (.putfield 15, 3) := by decide +kernel
theorem dX6_write_5 : decode cX6_write 5 = .ok (.aload_n 1, 1) := by decide +kernel
theorem dX6_write_6 : decode cX6_write 6 = .ok (.invokevirtual 19, 3) := by decide +kernel
theorem dX6_write_9 : decode cX6_write 9 = .ok (.istore_n 2, 1) := by decide +kernel
theorem dX6_write_10 : decode cX6_write 10 = .ok (.iconst 0, 1) := by decide +kernel
theorem dX6_write_11 : decode cX6_write 11 = .ok (.istore_n 3, 1) := by decide +kernel
theorem dX6_write_12 : decode cX6_write 12 = .ok (.iload_n 3, 1) := by decide +kernel
theorem dX6_write_13 : decode cX6_write 13 = .ok (.aload_n 1, 1) := by decide +kernel
theorem dX6_write_14 : decode cX6_write 14 = .ok (.getfield 25, 3) := by decide +kernel
theorem dX6_write_17 : decode cX6_write 17 = .ok (.if_icmp .ge 46, 3) := by decide +kernel
theorem dX6_write_20 : decode cX6_write 20 = .ok (.iload_n 3, 1) := by decide +kernel
theorem dX6_write_21 : decode cX6_write 21 = .ok (.ifCond .le 9, 3) := by decide +kernel
theorem dX6_write_24 : decode cX6_write 24 = .ok (.aload_n 0, 1) := by decide +kernel
theorem dX6_write_25 : decode cX6_write 25 = .ok (.bipush 32, 2) := by decide +kernel
theorem dX6_write_27 : decode cX6_write 27 = .ok (.invokevirtual 28, 3) := by decide +kernel
theorem dX6_write_30 : decode cX6_write 30 = .ok (.aload_n 0, 1) := by decide +kernel
theorem dX6_write_31 : decode cX6_write 31 = .ok (.aload_n 1, 1) := by decide +kernel
theorem dX6_write_32 : decode cX6_write 32 = .ok (.iload_n 3, 1) := by decide +kernel
theorem dX6_write_33 : decode cX6_write 33 = .ok (.invokevirtual 32, 3) := by decide +kernel
theorem dX6_write_36 : decode cX6_write 36 = .ok (.iload_n 3, 1) := by decide +kernel
theorem dX6_write_37 : decode cX6_write 37 = .ok (.iload_n 2, 1) := by decide +kernel
theorem dX6_write_38 : decode cX6_write 38 = .ok (.iconst 1, 1) := by decide +kernel
theorem dX6_write_39 : decode cX6_write 39 = .ok (.isub, 1) := by decide +kernel
theorem dX6_write_40 : decode cX6_write 40 = .ok (.if_icmp .ne 17, 3) := by decide +kernel
theorem dX6_write_43 : decode cX6_write 43 = .ok (.iload_n 2, 1) := by decide +kernel
theorem dX6_write_44 : decode cX6_write 44 = .ok (.aload_n 1, 1) := by decide +kernel
theorem dX6_write_45 : decode cX6_write 45 = .ok (.getfield 25, 3) := by decide +kernel
theorem dX6_write_48 : decode cX6_write 48 = .ok (.if_icmp .ge 9, 3) := by decide +kernel
theorem dX6_write_51 : decode cX6_write 51 = .ok (.aload_n 0, 1) := by decide +kernel
theorem dX6_write_52 : decode cX6_write 52 = .ok (.bipush 47, 2) := by decide +kernel
theorem dX6_write_54 : decode cX6_write 54 = .ok (.invokevirtual 28, 3) := by decide +kernel
theorem dX6_write_57 : decode cX6_write 57 = .ok (.iinc 3 1, 3) := by decide +kernel
theorem dX6_write_60 : decode cX6_write 60 = .ok (.goto (-48), 3) := by decide +kernel
theorem dX6_write_63 : decode cX6_write 63 = .ok (.return_, 1) := by decide +kernel
set_option maxRecDepth 20000 in
theorem ggX6_writeStep_X6_put : GoodIn wsX6_writeStep wsX6_put := goodIn_r _ [8, 9, 10, 29, 30] (by decide +kernel) (by decide +kernel)
set_option maxRecDepth 20000 in
theorem gX6_writeStep_X6_put : GoodIn wsX6_writeStep (wsV RX6 28 RX6 yX6_put wsX6_put) := goodIn_app (goodIn_of _ (by decide +kernel)) ggX6_writeStep_X6_put
set_option maxRecDepth 20000 in
theorem ggX6_writeStep_X5_isSkipped : GoodIn wsX6_writeStep wsX5_isSkipped := goodIn_r _ [15, 16, 17, 18, 19, 20, 21, 22, 23, 24, 25, 26, 27, 28] (by decide +kernel) (by decide +kernel)
set_option maxRecDepth 20000 in
theorem gX6_writeStep_X5_isSkipped : GoodIn wsX6_writeStep (wsV RX6 46 RX5 yX5_isSkipped wsX5_isSkipped) := goodIn_app (goodIn_of _ (by decide +kernel)) ggX6_writeStep_X5_isSkipped
theorem dX6_writeStep_0 : decode cX6_writeStep 0 = .ok (.aload_n 0, 1) := by decide +kernel
theorem dX6_writeStep_1 : decode cX6_writeStep 1 = .ok (.bipush 48, 2) := by decide +kernel
theorem dX6_writeStep_3 : decode cX6_writeStep 3 = .ok (.aload_n 1, 1) := by decide +kernel
theorem dX6_writeStep_4 : decode cX6_writeStep 4 = .ok (.getfield 36, 3) := by decide +kernel
theorem dX6_writeStep_7 : decode cX6_writeStep 7 = .ok (.iload_n 2, 1) := by decide +kernel
theorem dX6_writeStep_8 : decode cX6_writeStep 8 = .ok (.iaload, 1) := by decide +kernel
theorem dX6_writeStep_9 : decode cX6_writeStep 9 = .ok (.iadd, 1) := by decide +kernel
theorem dX6_writeStep_10 : decode cX6_writeStep 10 = .ok (.i2c, 1) := by decide +kernel
theorem dX6_writeStep_11 : decode cX6_writeStep 11 = .ok (.invokevirtual 28, 3) := by decide +kernel
theorem dX6_writeStep_14 : decode cX6_writeStep 14 = .ok (.aload_n 0, 1) := by decide +kernel
theorem dX6_writeStep_15 : decode cX6_writeStep 15 = .ok (.bipush 42, 2) := by decide +kernel
theorem dX6_writeStep_17 : decode cX6_writeStep 17 = .ok (.invokevirtual 28, 3) := by decide +kernel
theorem dX6_writeStep_20 : decode cX6_writeStep 20 = .ok (.aload_n 0, 1) := by decide +kernel
theorem dX6_writeStep_21 : decode cX6_writeStep 21 = .ok (.bipush 48, 2) := by decide +kernel
theorem dX6_writeStep_23 : decode cX6_writeStep 23 = .ok (.aload_n 1, 1) := by decide +kernel
theorem dX6_writeStep_24 : decode cX6_writeStep 24 = .ok (.getfield 40, 3) := by decide +kernel
theorem dX6_writeStep_27 : decode cX6_writeStep 27 = .ok (.iload_n 2, 1) := by decide +kernel
theorem dX6_writeStep_28 : decode cX6_writeStep 28 = .ok (.iaload, 1) := by decide +kernel
theorem dX6_writeStep_29 : decode cX6_writeStep 29 = .ok (.iadd, 1) := by decide +kernel
theorem dX6_writeStep_30 : decode cX6_writeStep 30 = .ok (.i2c, 1) := by decide +kernel
theorem dX6_writeStep_31 : decode cX6_writeStep 31 = .ok (.invokevirtual 28, 3) := by decide +kernel
theorem dX6_writeStep_34 : decode cX6_writeStep 34 = .ok (.aload_n 1, 1) := by decide +kernel
theorem dX6_writeStep_35 : decode cX6_writeStep 35 = .ok (.getfield 43, 3) := by decide +kernel
theorem dX6_writeStep_38 : decode cX6_writeStep 38 = .ok (.iload_n 2, 1) := by decide +kernel
theorem dX6_writeStep_39 : decode cX6_writeStep 39 = .ok (.iaload, 1) := by decide +kernel
theorem dX6_writeStep_40 : decode cX6_writeStep 40 = .ok (.iconst 2, 1) := by decide +kernel
theorem dX6_writeStep_41 : decode cX6_writeStep 41 = .ok (.if_icmp .ne 9, 3) := by decide +kernel
theorem dX6_writeStep_44 : decode cX6_writeStep 44 = .ok (.aload_n 0, 1) := by decide +kernel
theorem dX6_writeStep_45 : decode cX6_writeStep 45 = .ok (.bipush 43, 2) := by decide +kernel
theorem dX6_writeStep_47 : decode cX6_writeStep 47 = .ok (.invokevirtual 28, 3) := by decide +kernel
theorem dX6_writeStep_50 : decode cX6_writeStep 50 = .ok (.aload_n 1, 1) := by decide +kernel
theorem dX6_writeStep_51 : decode cX6_writeStep 51 = .ok (.iload_n 2, 1) := by decide +kernel
theorem dX6_writeStep_52 : decode cX6_writeStep 52 = .ok (.invokevirtual 46, 3) := by decide +kernel
theorem dX6_writeStep_55 : decode cX6_writeStep 55 = .ok (.ifCond .eq 9, 3) := by decide +kernel
theorem dX6_writeStep_58 : decode cX6_writeStep 58 = .ok (.aload_n 0, 1) := by decide +kernel
theorem dX6_writeStep_59 : decode cX6_writeStep 59 = .ok (.bipush 63, 2) := by decide +kernel
theorem dX6_writeStep_61 : decode cX6_writeStep 61 = .ok (.invokevirtual 28, 3) := by decide +kernel
theorem dX6_writeStep_64 : decode cX6_writeStep 64 = .ok (.return_, 1) := by decide +kernel
theorem dX6_put_0 : decode cX6_put 0 = .ok (.aload_n 0, 1) := by decide +kernel
theorem dX6_put_1 : decode cX6_put 1 = .ok (.getfield 15, 3) := by decide +kernel
theorem dX6_put_4 : decode cX6_put 4 = .ok (.bipush 48, 2) := by decide +kernel
theorem dX6_put_6 : decode cX6_put 6 = .ok (.if_icmp .ge 23, 3) := by decide +kernel
theorem dX6_put_9 : decode cX6_put 9 = .ok (.aload_n 0, 1) := by decide +kernel
theorem dX6_put_10 : decode cX6_put 10 = .ok (.getfield 9, 3) := by decide +kernel
theorem dX6_put_13 : decode cX6_put 13 = .ok (.aload_n 0, 1) := by decide +kernel
theorem dX6_put_14 : decode cX6_put 14 = .ok (.getfield 15, 3) := by decide +kernel
theorem dX6_put_17 : decode cX6_put 17 = .ok (.iload_n 1, 1) := by decide +kernel
theorem dX6_put_18 : decode cX6_put 18 = .ok (.castore, 1) := by decide +kernel
theorem dX6_put_19 : decode cX6_put 19 = .ok (.aload_n 0, 1) := by decide +kernel
theorem dX6_put_20 : decode cX6_put 20 = .ok (.dup, 1) := by decide +kernel
theorem dX6_put_21 : decode cX6_put 21 = .ok (.getfield 15, 3) := by decide +kernel
theorem dX6_put_24 : decode cX6_put 24 = .ok (.iconst 1, 1) := by decide +kernel
theorem dX6_put_25 : decode cX6_put 25 = .ok (.iadd, 1) := by decide +kernel
theorem dX6_put_26 : decode cX6_put 26 = .ok (.putfield 15, 3) := by decide +kernel
theorem dX6_put_29 : decode cX6_put 29 = .ok (.return_, 1) := by decide +kernel
theorem dX7_init_0 : decode cX7_init 0 = .ok (.aload_n 0, 1) := by decide +kernel
theorem dX7_init_1 : decode cX7_init 1 = .ok (.invokespecial 3, 3) := by decide +kernel
theorem dX7_init_4 : decode cX7_init 4 = .ok (.return_, 1) := by decide +kernel
theorem dX7_refuse_0 : decode cX7_refuse 0 = .ok (.aload_n 0, 1) := by decide +kernel
theorem dX7_refuse_1 : decode cX7_refuse 1 = .ok (.iload_n 1, 1) := by decide +kernel
theorem dX7_refuse_2 : decode cX7_refuse 2 = .ok (.putfield 9, 3) := by decide +kernel
theorem dX7_refuse_5 : decode cX7_refuse 5 = .ok (.aload_n 0, 1) := by decide +kernel
theorem dX7_refuse_6 : decode cX7_refuse 6 = .ok (.iload_n 2, 1) := by decide +kernel
theorem dX7_refuse_7 : decode cX7_refuse 7 = .ok (.putfield 15, 3) := by decide +kernel
theorem dX7_refuse_10 : decode cX7_refuse 10 = .ok (.aload_n 0, 1) := by decide +kernel
theorem dX7_refuse_11 : decode cX7_refuse 11 = .ok (.iconst 0, 1) := by decide +kernel
theorem dX7_refuse_12 : decode cX7_refuse 12 = .ok (.putfield 18, 3) := by decide +kernel
theorem dX7_refuse_15 : decode cX7_refuse 15 = .ok (.iconst (-1), 1) := by decide +kernel
theorem dX7_refuse_16 : decode cX7_refuse 16 = .ok (.ireturn, 1) := by decide +kernel
set_option maxRecDepth 20000 in
theorem ggX8_init_X2_init : GoodIn wsX8_init wsX2_init := goodIn_r _ [12, 13, 2, 3, 14, 15, 22, 23, 24, 25] (by decide +kernel) (by decide +kernel)
set_option maxRecDepth 20000 in
theorem gX8_init_X2_init_n25 : GoodIn wsX8_init (wsX2_init) := ggX8_init_X2_init
theorem dX8_init_0 : decode cX8_init 0 = .ok (.aload_n 0, 1) := by decide +kernel
theorem dX8_init_1 : decode cX8_init 1 = .ok (.invokespecial 3, 3) := by decide +kernel
theorem dX8_init_4 : decode cX8_init 4 = .ok (.aload_n 0, 1) := by decide +kernel
theorem dX8_init_5 : decode cX8_init 5 = .ok (.bipush 60, 2) := by decide +kernel
theorem dX8_init_7 : decode cX8_init 7 = .ok (.newarray .char, 2) := by decide +kernel
theorem dX8_init_9 : decode cX8_init 9 = .ok (.putfield 9, 3) := by decide +kernel
theorem dX8_init_12 : decode cX8_init 12 = .ok (.aload_n 0, 1) := by decide +kernel
theorem dX8_init_13 : decode cX8_init 13 = .ok (.bipush 20, 2) := by decide +kernel
theorem dX8_init_15 : decode cX8_init 15 = .ok (.anewarray 15, 3) := by decide +kernel
theorem dX8_init_18 : decode cX8_init 18 = .ok (.putfield 17, 3) := by decide +kernel
theorem dX8_init_21 : decode cX8_init 21 = .ok (.aload_n 0, 1) := by decide +kernel
theorem dX8_init_22 : decode cX8_init 22 = .ok (.iconst (-1), 1) := by decide +kernel
theorem dX8_init_23 : decode cX8_init 23 = .ok (.putfield 21, 3) := by decide +kernel
theorem dX8_init_26 : decode cX8_init 26 = .ok (.iconst 0, 1) := by decide +kernel
theorem dX8_init_27 : decode cX8_init 27 = .ok (.istore_n 1, 1) := by decide +kernel
theorem dX8_init_28 : decode cX8_init 28 = .ok (.iload_n 1, 1) := by decide +kernel
theorem dX8_init_29 : decode cX8_init 29 = .ok (.bipush 20, 2) := by decide +kernel
theorem dX8_init_31 : decode cX8_init 31 = .ok (.if_icmp .ge 22, 3) := by decide +kernel
theorem dX8_init_34 : decode cX8_init 34 = .ok (.aload_n 0, 1) := by decide +kernel
theorem dX8_init_35 : decode cX8_init 35 = .ok (.getfield 17, 3) := by decide +kernel
theorem dX8_init_38 : decode cX8_init 38 = .ok (.iload_n 1, 1) := by decide +kernel
theorem dX8_init_39 : decode cX8_init 39 = .ok (.new 15, 3) := by decide +kernel
theorem dX8_init_42 : decode cX8_init 42 = .ok (.dup, 1) := by decide +kernel
theorem dX8_init_43 : decode cX8_init 43 = .ok (.invokespecial 25, 3) := by decide +kernel
theorem dX8_init_46 : decode cX8_init 46 = .ok (.aastore, 1) := by decide +kernel
theorem dX8_init_47 : decode cX8_init 47 = .ok (.iinc 1 1, 3) := by decide +kernel
theorem dX8_init_50 : decode cX8_init 50 = .ok (.goto (-22), 3) := by decide +kernel
theorem dX8_init_53 : decode cX8_init 53 = .ok (.return_, 1) := by decide +kernel
theorem dX8_isFull_0 : decode cX8_isFull 0 = .ok (.aload_n 0, 1) := by decide +kernel
theorem dX8_isFull_1 : decode cX8_isFull 1 = .ok (.getfield 26, 3) := by decide +kernel
theorem dX8_isFull_4 : decode cX8_isFull 4 = .ok (.bipush 60, 2) := by decide +kernel
theorem dX8_isFull_6 : decode cX8_isFull 6 = .ok (.if_icmp .lt 7, 3) := by decide +kernel
theorem dX8_isFull_9 : decode cX8_isFull 9 = .ok (.iconst 1, 1) := by decide +kernel
theorem dX8_isFull_10 : decode cX8_isFull 10 = .ok (.goto 4, 3) := by decide +kernel
theorem dX8_isFull_13 : decode cX8_isFull 13 = .ok (.iconst 0, 1) := by decide +kernel
theorem dX8_isFull_14 : decode cX8_isFull 14 = .ok (.ireturn, 1) := by decide +kernel
set_option maxRecDepth 20000 in
theorem ggX8_add_X8_isFull : GoodIn wsX8_add wsX8_isFull := goodIn_r _ [7, 2, 8, 9, 10, 11, 12, 13] (by decide +kernel) (by decide +kernel)
set_option maxRecDepth 20000 in
theorem gX8_add_X8_isFull : GoodIn wsX8_add (wsV RX8 29 RX8 yX8_isFull wsX8_isFull) := goodIn_app (goodIn_of _ (by decide +kernel)) ggX8_add_X8_isFull
theorem dX8_add_0 : decode cX8_add 0 = .ok (.aload_n 0, 1) := by decide +kernel
theorem dX8_add_1 : decode cX8_add 1 = .ok (.invokevirtual 29, 3) := by decide +kernel
theorem dX8_add_4 : decode cX8_add 4 = .ok (.ifCond .ne 23, 3) := by decide +kernel
theorem dX8_add_7 : decode cX8_add 7 = .ok (.aload_n 0, 1) := by decide +kernel
theorem dX8_add_8 : decode cX8_add 8 = .ok (.getfield 9, 3) := by decide +kernel
theorem dX8_add_11 : decode cX8_add 11 = .ok (.aload_n 0, 1) := by decide +kernel
theorem dX8_add_12 : decode cX8_add 12 = .ok (.getfield 26, 3) := by decide +kernel
theorem dX8_add_15 : decode cX8_add 15 = .ok (.iload_n 1, 1) := by decide +kernel
theorem dX8_add_16 : decode cX8_add 16 = .ok (.castore, 1) := by decide +kernel
theorem dX8_add_17 : decode cX8_add 17 = .ok (.aload_n 0, 1) := by decide +kernel
theorem dX8_add_18 : decode cX8_add 18 = .ok (.dup, 1) := by decide +kernel
theorem dX8_add_19 : decode cX8_add 19 = .ok (.getfield 26, 3) := by decide +kernel
theorem dX8_add_22 : decode cX8_add 22 = .ok (.iconst 1, 1) := by decide +kernel
theorem dX8_add_23 : decode cX8_add 23 = .ok (.iadd, 1) := by decide +kernel
theorem dX8_add_24 : decode cX8_add 24 = .ok (.putfield 26, 3) := by decide +kernel
theorem dX8_add_27 : decode cX8_add 27 = .ok (.aload_n 0, 1) := by decide +kernel
theorem dX8_add_28 : decode cX8_add 28 = .ok (.getfield 26, 3) := by decide +kernel
theorem dX8_add_31 : decode cX8_add 31 = .ok (.ireturn, 1) := by decide +kernel
set_option maxRecDepth 20000 in
theorem ggX8_readAndEmpty_X8_readCommands : GoodIn wsX8_readAndEmpty wsX8_readCommands := goodIn_r _ [9, 10, 2, 1, 4, 11, 12, 13, 8, 14, 15, 16, 17, 18, 19, 20, 21, 22, 23, 24, 25, 26, 27, 28, 29, 30, 31, 32, 33, 34, 35, 36, 37, 38, 39, 40, 41, 42, 43, 44, 45, 46, 47, 48, 49, 50, 51, 52, 53, 54, 55, 56, 57, 58, 59, 60, 61, 62, 63, 64, 65, 66, 67, 68, 69, 70, 71, 72, 73, 74, 75, 76, 77, 78, 79, 80, 81, 82, 83, 84, 85, 86, 87, 88, 89, 90, 91, 92, 93, 94, 95, 96, 97, 98, 99, 100, 101, 102, 103, 104, 105, 106, 107, 108, 109, 110, 111, 112, 113, 114, 115, 116, 117, 118, 119, 120, 121, 122] (by decide +kernel) (by decide +kernel)
set_option maxRecDepth 20000 in
theorem gX8_readAndEmpty_X8_readCommands : GoodIn wsX8_readAndEmpty (wsV RX8 39 RX8 yX8_readCommands wsX8_readCommands) := goodIn_app (goodIn_of _ (by decide +kernel)) ggX8_readAndEmpty_X8_readCommands
theorem dX8_readAndEmpty_0 : decode cX8_readAndEmpty 0 = .ok (.aload_n 0, 1) := by decide +kernel
theorem dX8_readAndEmpty_1 : decode cX8_readAndEmpty 1 = .ok (.iconst 0, 1) := by decide +kernel
theorem dX8_readAndEmpty_2 : decode cX8_readAndEmpty 2 = .ok (.putfield 33, 3) := by decide +kernel
theorem dX8_readAndEmpty_5 : decode cX8_readAndEmpty 5 = .ok (.aload_n 0, 1) := by decide +kernel
theorem dX8_readAndEmpty_6 : decode cX8_readAndEmpty 6 = .ok (.iconst 0, 1) := by decide +kernel
theorem dX8_readAndEmpty_7 : decode cX8_readAndEmpty 7 = .ok (.putfield 36, 3) := by decide +kernel
theorem dX8_readAndEmpty_10 : decode cX8_readAndEmpty 10 = .ok (.aload_n 0, 1) := by decide +kernel
theorem dX8_readAndEmpty_11 : decode cX8_readAndEmpty 11 = .ok (.aload_n 0, 1) := by decide +kernel
theorem dX8_readAndEmpty_12 : decode cX8_readAndEmpty 12 = .ok (.invokevirtual 39, 3) := by decide +kernel
theorem dX8_readAndEmpty_15 : decode cX8_readAndEmpty 15 = .ok (.ifCond .eq 7, 3) := by decide +kernel
theorem dX8_readAndEmpty_18 : decode cX8_readAndEmpty 18 = .ok (.iconst (-1), 1) := by decide +kernel
theorem dX8_readAndEmpty_19 : decode cX8_readAndEmpty 19 = .ok (.goto 7, 3) := by decide +kernel
theorem dX8_readAndEmpty_22 : decode cX8_readAndEmpty 22 = .ok (.aload_n 0, 1) := by decide +kernel
theorem dX8_readAndEmpty_23 : decode cX8_readAndEmpty 23 = .ok (.getfield 33, 3) := by decide +kernel
theorem dX8_readAndEmpty_26 : decode cX8_readAndEmpty 26 = .ok (.putfield 21, 3) := by decide +kernel
theorem dX8_readAndEmpty_29 : decode cX8_readAndEmpty 29 = .ok (.aload_n 0, 1) := by decide +kernel
theorem dX8_readAndEmpty_30 : decode cX8_readAndEmpty 30 = .ok (.iconst 0, 1) := by decide +kernel
theorem dX8_readAndEmpty_31 : decode cX8_readAndEmpty 31 = .ok (.putfield 26, 3) := by decide +kernel
theorem dX8_readAndEmpty_34 : decode cX8_readAndEmpty 34 = .ok (.return_, 1) := by decide +kernel
set_option maxRecDepth 20000 in
theorem ggX8_readCommands_X8_readCommand : GoodIn wsX8_readCommands wsX8_readCommand := goodIn_r _ [9, 3, 4, 10, 11, 12, 8, 13, 14, 15, 16, 17, 18, 19, 20, 21, 22, 23, 24, 25, 26, 27, 28, 29, 30, 31, 32, 33, 34, 35, 36, 37, 38, 39, 40, 41, 42, 43, 44, 45, 46, 47, 48, 49, 50, 51, 52, 53, 54, 55, 56, 57, 58, 59, 60, 61, 62, 63, 64, 65, 66, 67, 68, 69, 70, 71, 72, 73, 74, 75, 76, 77, 78, 79, 80, 81, 82, 83, 84, 85, 86, 87, 88, 89, 90, 91, 92, 93, 94, 95, 96, 97, 98, 99, 100, 101, 102, 103, 104, 105, 106, 107, 108, 109, 110, 111, 112, 113, 114, 115, 116, 117] (by decide +kernel) (by decide +kernel)
set_option maxRecDepth 20000 in
theorem gX8_readCommands_X8_readCommand : GoodIn wsX8_readCommands (wsV RX8 42 RX8 yX8_readCommand wsX8_readCommand) := goodIn_app (goodIn_of _ (by decide +kernel)) ggX8_readCommands_X8_readCommand
set_option maxRecDepth 20000 in
theorem ggX8_readCommands_X8_readSign : GoodIn wsX8_readCommands wsX8_readSign := goodIn_r _ [103, 3, 4, 10, 104, 105, 106, 107, 108, 109] (by decide +kernel) (by decide +kernel)
set_option maxRecDepth 20000 in
theorem gX8_readCommands_X8_readSign : GoodIn wsX8_readCommands (wsV RX8 46 RX8 yX8_readSign wsX8_readSign) := goodIn_app (goodIn_of _ (by decide +kernel)) ggX8_readCommands_X8_readSign
theorem dX8_readCommands_0 : decode cX8_readCommands 0 = .ok (.iconst 0, 1) := by decide +kernel
theorem dX8_readCommands_1 : decode cX8_readCommands 1 = .ok (.istore_n 1, 1) := by decide +kernel
theorem dX8_readCommands_2 : decode cX8_readCommands 2 = .ok (.iload_n 1, 1) := by decide +kernel
theorem dX8_readCommands_3 : decode cX8_readCommands 3 = .ok (.bipush 20, 2) := by decide +kernel
theorem dX8_readCommands_5 : decode cX8_readCommands 5 = .ok (.if_icmp .ge 58, 3) := by decide +kernel
theorem dX8_readCommands_8 : decode cX8_readCommands 8 = .ok (.aload_n 0, 1) := by decide +kernel
theorem dX8_readCommands_9 : decode cX8_readCommands 9 = .ok (.aload_n 0, 1) := by decide +kernel
theorem dX8_readCommands_10 : decode cX8_readCommands 10 = .ok (.getfield 17, 3) := by decide +kernel
theorem dX8_readCommands_13 : decode cX8_readCommands 13 = .ok (.iload_n 1, 1) := by decide +kernel
theorem dX8_readCommands_14 : decode cX8_readCommands 14 = .ok (.aaload, 1) := by decide +kernel
theorem dX8_readCommands_15 : decode cX8_readCommands 15 = .ok (.invokevirtual 42, 3) := by decide +kernel
theorem dX8_readCommands_18 : decode cX8_readCommands 18 = .ok (.ifCond .ne 5, 3) := by decide +kernel
theorem dX8_readCommands_21 : decode cX8_readCommands 21 = .ok (.iconst 0, 1) := by decide +kernel
theorem dX8_readCommands_22 : decode cX8_readCommands 22 = .ok (.ireturn, 1) := by decide +kernel
theorem dX8_readCommands_23 : decode cX8_readCommands 23 = .ok (.aload_n 0, 1) := by decide +kernel
theorem dX8_readCommands_24 : decode cX8_readCommands 24 = .ok (.dup, 1) := by decide +kernel
theorem dX8_readCommands_25 : decode cX8_readCommands 25 = .ok (.getfield 36, 3) := by decide +kernel
theorem dX8_readCommands_28 : decode cX8_readCommands 28 = .ok (.iconst 1, 1) := by decide +kernel
theorem dX8_readCommands_29 : decode cX8_readCommands 29 = .ok (.iadd, 1) := by decide +kernel
theorem dX8_readCommands_30 : decode cX8_readCommands 30 = .ok (.putfield 36, 3) := by decide +kernel
theorem dX8_readCommands_33 : decode cX8_readCommands 33 = .ok (.aload_n 0, 1) := by decide +kernel
theorem dX8_readCommands_34 : decode cX8_readCommands 34 = .ok (.getfield 33, 3) := by decide +kernel
theorem dX8_readCommands_37 : decode cX8_readCommands 37 = .ok (.aload_n 0, 1) := by decide +kernel
theorem dX8_readCommands_38 : decode cX8_readCommands 38 = .ok (.getfield 26, 3) := by decide +kernel
theorem dX8_readCommands_41 : decode cX8_readCommands 41 = .ok (.if_icmp .lt 5, 3) := by decide +kernel
theorem dX8_readCommands_44 : decode cX8_readCommands 44 = .ok (.iconst 1, 1) := by decide +kernel
theorem dX8_readCommands_45 : decode cX8_readCommands 45 = .ok (.ireturn, 1) := by decide +kernel
theorem dX8_readCommands_46 : decode cX8_readCommands 46 = .ok (.aload_n 0, 1) := by decide +kernel
theorem dX8_readCommands_47 : decode cX8_readCommands 47 = .ok (.bipush 59, 2) := by decide +kernel
theorem dX8_readCommands_49 : decode cX8_readCommands 49 = .ok (.invokevirtual 46, 3) := by decide +kernel
theorem dX8_readCommands_52 : decode cX8_readCommands 52 = .ok (.ifCond .ne 5, 3) := by decide +kernel
theorem dX8_readCommands_55 : decode cX8_readCommands 55 = .ok (.iconst 0, 1) := by decide +kernel
theorem dX8_readCommands_56 : decode cX8_readCommands 56 = .ok (.ireturn, 1) := by decide +kernel
theorem dX8_readCommands_57 : decode cX8_readCommands 57 = .ok (.iinc 1 1, 3) := by decide +kernel
theorem dX8_readCommands_60 : decode cX8_readCommands 60 = .ok (.goto (-58), 3) := by decide +kernel
theorem dX8_readCommands_63 : decode cX8_readCommands 63 = .ok (.iconst 0, 1) := by decide +kernel
theorem dX8_readCommands_64 : decode cX8_readCommands 64 = .ok (.ireturn, 1) := by decide +kernel
set_option maxRecDepth 20000 in
theorem ggX8_readCommand_X8_formOf : GoodIn wsX8_readCommand wsX8_formOf := goodIn_r _ [7] (by decide +kernel) (by decide +kernel)
set_option maxRecDepth 20000 in
theorem gX8_readCommand_X8_formOf : GoodIn wsX8_readCommand (va_wsS RX8 50 yX8_formOf wsX8_formOf) := goodIn_app (goodIn_of _ (by decide +kernel)) ggX8_readCommand_X8_formOf
set_option maxRecDepth 20000 in
theorem ggX8_readCommand_J0_isEmpty_aae02 : GoodIn wsX8_readCommand wsJ0_isEmpty_aae02 := goodIn_r _ [12, 13, 104, 105, 106, 107] (by decide +kernel) (by decide +kernel)
set_option maxRecDepth 20000 in
theorem gX8_readCommand_J0_isEmpty_aae02 : GoodIn wsX8_readCommand (wsV RX8 54 RJ0 yJ0_isEmpty_aae02 wsJ0_isEmpty_aae02) := goodIn_app (goodIn_of _ (by decide +kernel)) ggX8_readCommand_J0_isEmpty_aae02
set_option maxRecDepth 20000 in
theorem ggX8_readCommand_X2_begin : GoodIn wsX8_readCommand wsX2_begin := goodIn_r _ [18, 19, 20, 21, 108, 109, 110, 111] (by decide +kernel) (by decide +kernel)
set_option maxRecDepth 20000 in
theorem gX8_readCommand_X2_begin : GoodIn wsX8_readCommand (wsV RX8 59 RX2 yX2_begin wsX2_begin) := goodIn_app (goodIn_of _ (by decide +kernel)) ggX8_readCommand_X2_begin
set_option maxRecDepth 20000 in
theorem ggX8_readCommand_J0_length_8abf5 : GoodIn wsX8_readCommand wsJ0_length_8abf5 := goodIn_r _ [25, 13, 26, 27, 28, 11, 29, 30, 31, 104, 105, 106, 107] (by decide +kernel) (by decide +kernel)
set_option maxRecDepth 20000 in
theorem gX8_readCommand_J0_length_8abf5 : GoodIn wsX8_readCommand (wsV RX8 63 RJ0 yJ0_length_8abf5 wsJ0_length_8abf5) := goodIn_app (goodIn_of _ (by decide +kernel)) ggX8_readCommand_J0_length_8abf5
set_option maxRecDepth 20000 in
theorem ggX8_readCommand_J0_charAt_5068e : GoodIn wsX8_readCommand wsJ0_charAt_5068e := goodIn_r _ [35, 13, 36, 37, 38, 11, 39, 30, 31, 40, 41, 42, 43, 44, 45, 46, 47, 48, 49, 50, 51, 52, 53, 54, 55, 56, 57, 58, 59, 60, 61, 62, 63, 64, 65, 66, 67, 68, 104, 105, 106, 107] (by decide +kernel) (by decide +kernel)
set_option maxRecDepth 20000 in
theorem gX8_readCommand_J0_charAt_5068e : GoodIn wsX8_readCommand (wsV RX8 66 RJ0 yJ0_charAt_5068e wsJ0_charAt_5068e) := goodIn_app (goodIn_of _ (by decide +kernel)) ggX8_readCommand_J0_charAt_5068e
set_option maxRecDepth 20000 in
theorem ggX8_readCommand_X8_readPiece : GoodIn wsX8_readCommand wsX8_readPiece := goodIn_r _ [72, 73, 74, 75, 6, 76, 3, 1, 77, 78, 79, 80, 2, 81, 82, 83, 17, 84, 20, 85, 86, 87, 88, 89, 90, 91, 92, 93, 21, 94, 95, 96, 97, 98, 99, 100, 101, 102, 103, 108, 109, 110, 111] (by decide +kernel) (by decide +kernel)
set_option maxRecDepth 20000 in
theorem gX8_readCommand_X8_readPiece : GoodIn wsX8_readCommand (wsV RX8 70 RX8 yX8_readPiece wsX8_readPiece) := goodIn_app (goodIn_of _ (by decide +kernel)) ggX8_readCommand_X8_readPiece
theorem dX8_readCommand_0 : decode cX8_readCommand 0 = .ok (.aload_n 0, 1) := by decide +kernel
theorem dX8_readCommand_1 : decode cX8_readCommand 1 = .ok (.getfield 33, 3) := by decide +kernel
theorem dX8_readCommand_4 : decode cX8_readCommand 4 = .ok (.aload_n 0, 1) := by decide +kernel
theorem dX8_readCommand_5 : decode cX8_readCommand 5 = .ok (.getfield 26, 3) := by decide +kernel
theorem dX8_readCommand_8 : decode cX8_readCommand 8 = .ok (.if_icmp .lt 5, 3) := by decide +kernel
theorem dX8_readCommand_11 : decode cX8_readCommand 11 = .ok (.iconst 0, 1) := by decide +kernel
theorem dX8_readCommand_12 : decode cX8_readCommand 12 = .ok (.ireturn, 1) := by decide +kernel
theorem dX8_readCommand_13 : decode cX8_readCommand 13 = .ok (.aload_n 0, 1) := by decide +kernel
theorem dX8_readCommand_14 : decode cX8_readCommand 14 = .ok (.getfield 9, 3) := by decide +kernel
theorem dX8_readCommand_17 : decode cX8_readCommand 17 = .ok (.aload_n 0, 1) := by decide +kernel
theorem dX8_readCommand_18 : decode cX8_readCommand 18 = .ok (.getfield 33, 3) := by decide +kernel
theorem dX8_readCommand_21 : decode cX8_readCommand 21 = .ok (.caload, 1) := by decide +kernel
theorem dX8_readCommand_22 : decode cX8_readCommand 22 = .ok (.istore_n 2, 1) := by decide +kernel
theorem dX8_readCommand_23 : decode cX8_readCommand 23 = .ok (.iload_n 2, 1) := by decide +kernel
theorem dX8_readCommand_24 : decode cX8_readCommand 24 = .ok (.invokestatic 50, 3) := by decide +kernel
theorem dX8_readCommand_27 : decode cX8_readCommand 27 = .ok (.astore_n 3, 1) := by decide +kernel
theorem dX8_readCommand_28 : decode cX8_readCommand 28 = .ok (.aload_n 3, 1) := by decide +kernel
theorem dX8_readCommand_29 : decode cX8_readCommand 29 = .ok (.invokevirtual 54, 3) := by decide +kernel
theorem dX8_readCommand_32 : decode cX8_readCommand 32 = .ok (.ifCond .eq 5, 3) := by decide +kernel
theorem dX8_readCommand_35 : decode cX8_readCommand 35 = .ok (.iconst 0, 1) := by decide +kernel
theorem dX8_readCommand_36 : decode cX8_readCommand 36 = .ok (.ireturn, 1) := by decide +kernel
theorem dX8_readCommand_37 : decode cX8_readCommand 37 = .ok (.aload_n 0, 1) := by decide +kernel
theorem dX8_readCommand_38 : decode cX8_readCommand 38 = .ok (.dup, 1) := by decide +kernel
theorem dX8_readCommand_39 : decode cX8_readCommand 39 = .ok (.getfield 33, 3) := by decide +kernel
theorem dX8_readCommand_42 : decode cX8_readCommand 42 = .ok (.iconst 1, 1) := by decide +kernel
theorem dX8_readCommand_43 : decode cX8_readCommand 43 = .ok (.iadd, 1) := by decide +kernel
theorem dX8_readCommand_44 : decode cX8_readCommand 44 = .ok (.putfield 33, 3) := by decide +kernel
theorem dX8_readCommand_47 : decode cX8_readCommand 47 = .ok (.aload_n 1, 1) := by decide +kernel
theorem dX8_readCommand_48 : decode cX8_readCommand 48 = .ok (.iload_n 2, 1) := by decide +kernel
theorem dX8_readCommand_49 : decode cX8_readCommand 49 = .ok (.invokevirtual 59, 3) := by decide +kernel
theorem dX8_readCommand_52 : decode cX8_readCommand 52 = .ok (.iconst 0, 1) := by decide +kernel
theorem dX8_readCommand_53 : decode cX8_readCommand 53 = .ok (.istore 4, 2) := by decide +kernel
theorem dX8_readCommand_55 : decode cX8_readCommand 55 = .ok (.iload 4, 2) := by decide +kernel
theorem dX8_readCommand_57 : decode cX8_readCommand 57 = .ok (.aload_n 3, 1) := by decide +kernel
theorem dX8_readCommand_58 : decode cX8_readCommand 58 = .ok (.invokevirtual 63, 3) := by decide +kernel
theorem dX8_readCommand_61 : decode cX8_readCommand 61 = .ok (.if_icmp .ge 25, 3) := by decide +kernel
theorem dX8_readCommand_64 : decode cX8_readCommand 64 = .ok (.aload_n 0, 1) := by decide +kernel
theorem dX8_readCommand_65 : decode cX8_readCommand 65 = .ok (.aload_n 3, 1) := by decide +kernel
theorem dX8_readCommand_66 : decode cX8_readCommand 66 = .ok (.iload 4, 2) := by decide +kernel
theorem dX8_readCommand_68 : decode cX8_readCommand 68 = .ok (.invokevirtual 66, 3) := by decide +kernel
theorem dX8_readCommand_71 : decode cX8_readCommand 71 = .ok (.aload_n 1, 1) := by decide +kernel
theorem dX8_readCommand_72 : decode cX8_readCommand 72 = .ok (.invokevirtual 70, 3) := by decide +kernel
theorem dX8_readCommand_75 : decode cX8_readCommand 75 = .ok (.ifCond .ne 5, 3) := by decide +kernel
theorem dX8_readCommand_78 : decode cX8_readCommand 78 = .ok (.iconst 0, 1) := by decide +kernel
theorem dX8_readCommand_79 : decode cX8_readCommand 79 = .ok (.ireturn, 1) := by decide +kernel
theorem dX8_readCommand_80 : decode cX8_readCommand 80 = .ok (.iinc 4 1, 3) := by decide +kernel
theorem dX8_readCommand_83 : decode cX8_readCommand 83 = .ok (.goto (-28), 3) := by decide +kernel
theorem dX8_readCommand_86 : decode cX8_readCommand 86 = .ok (.iconst 1, 1) := by decide +kernel
theorem dX8_readCommand_87 : decode cX8_readCommand 87 = .ok (.ireturn, 1) := by decide +kernel
theorem dX8_formOf_0 : decode cX8_formOf 0 = .ok (.iload_n 0, 1) := by decide +kernel
theorem dX8_formOf_1 : decode cX8_formOf 1 = .ok (.tableswitch 192 83 121 #[174, 192, 192, 192, 192, 192, 192, 192, 192, 192, 192, 192, 192, 192, 192, 180, 177, 183, 192, 171, 192, 192, 192, 192, 192, 171, 186, 192, 192, 192, 192, 192, 174, 171, 171, 192, 192, 189, 189], 171) := by decide +kernel
theorem dX8_formOf_172 : decode cX8_formOf 172 = .ok (.ldc 74, 2) := by decide +kernel
theorem dX8_formOf_174 : decode cX8_formOf 174 = .ok (.areturn, 1) := by decide +kernel
theorem dX8_formOf_175 : decode cX8_formOf 175 = .ok (.ldc 76, 2) := by decide +kernel
theorem dX8_formOf_177 : decode cX8_formOf 177 = .ok (.areturn, 1) := by decide +kernel
theorem dX8_formOf_178 : decode cX8_formOf 178 = .ok (.ldc 78, 2) := by decide +kernel
theorem dX8_formOf_180 : decode cX8_formOf 180 = .ok (.areturn, 1) := by decide +kernel
theorem dX8_formOf_181 : decode cX8_formOf 181 = .ok (.ldc 80, 2) := by decide +kernel
theorem dX8_formOf_183 : decode cX8_formOf 183 = .ok (.areturn, 1) := by decide +kernel
theorem dX8_formOf_184 : decode cX8_formOf 184 = .ok (.ldc 82, 2) := by decide +kernel
theorem dX8_formOf_186 : decode cX8_formOf 186 = .ok (.areturn, 1) := by decide +kernel
theorem dX8_formOf_187 : decode cX8_formOf 187 = .ok (.ldc 84, 2) := by decide +kernel
theorem dX8_formOf_189 : decode cX8_formOf 189 = .ok (.areturn, 1) := by decide +kernel
theorem dX8_formOf_190 : decode cX8_formOf 190 = .ok (.ldc 86, 2) := by decide +kernel
theorem dX8_formOf_192 : decode cX8_formOf 192 = .ok (.areturn, 1) := by decide +kernel
theorem dX8_formOf_193 : decode cX8_formOf 193 = .ok (.ldc 88, 2) := by decide +kernel
theorem dX8_formOf_195 : decode cX8_formOf 195 = .ok (.areturn, 1) := by decide +kernel
set_option maxRecDepth 20000 in
theorem ggX8_readPiece_X8_readNumber : GoodIn wsX8_readPiece wsX8_readNumber := goodIn_r _ [5, 6, 7, 8, 9, 10, 4, 11, 12, 13, 14, 15, 16, 17, 18, 19, 33, 34, 35, 36, 37, 38, 39, 40, 41, 42] (by decide +kernel) (by decide +kernel)
set_option maxRecDepth 20000 in
theorem gX8_readPiece_X8_readNumber : GoodIn wsX8_readPiece (wsV RX8 90 RX8 yX8_readNumber wsX8_readNumber) := goodIn_app (goodIn_of _ (by decide +kernel)) ggX8_readPiece_X8_readNumber
set_option maxRecDepth 20000 in
theorem ggX8_readPiece_X8_readLanguages : GoodIn wsX8_readPiece wsX8_readLanguages := goodIn_r _ [23, 6, 7, 8, 9, 10, 4, 11, 12, 24, 25, 26, 16, 27, 28, 33, 34, 35, 36, 37, 38, 39, 40, 41, 42] (by decide +kernel) (by decide +kernel)
set_option maxRecDepth 20000 in
theorem gX8_readPiece_X8_readLanguages : GoodIn wsX8_readPiece (wsV RX8 93 RX8 yX8_readLanguages wsX8_readLanguages) := goodIn_app (goodIn_of _ (by decide +kernel)) ggX8_readPiece_X8_readLanguages
set_option maxRecDepth 20000 in
theorem ggX8_readPiece_X8_readSign : GoodIn wsX8_readPiece wsX8_readSign := goodIn_r _ [32, 7, 12, 6, 33, 34, 35, 36, 37, 38] (by decide +kernel) (by decide +kernel)
set_option maxRecDepth 20000 in
theorem gX8_readPiece_X8_readSign : GoodIn wsX8_readPiece (wsV RX8 46 RX8 yX8_readSign wsX8_readSign) := goodIn_app (goodIn_of _ (by decide +kernel)) ggX8_readPiece_X8_readSign
theorem dX8_readPiece_0 : decode cX8_readPiece 0 = .ok (.iload_n 1, 1) := by decide +kernel
theorem dX8_readPiece_1 : decode cX8_readPiece 1 = .ok (.lookupswitch 69 #[(35, 35), (43, 41), (63, 55)], 35) := by decide +kernel
theorem dX8_readPiece_36 : decode cX8_readPiece 36 = .ok (.aload_n 0, 1) := by decide +kernel
theorem dX8_readPiece_37 : decode cX8_readPiece 37 = .ok (.aload_n 2, 1) := by decide +kernel
theorem dX8_readPiece_38 : decode cX8_readPiece 38 = .ok (.invokevirtual 90, 3) := by decide +kernel
theorem dX8_readPiece_41 : decode cX8_readPiece 41 = .ok (.ireturn, 1) := by decide +kernel
theorem dX8_readPiece_42 : decode cX8_readPiece 42 = .ok (.aload_n 0, 1) := by decide +kernel
theorem dX8_readPiece_43 : decode cX8_readPiece 43 = .ok (.aload_n 2, 1) := by decide +kernel
theorem dX8_readPiece_44 : decode cX8_readPiece 44 = .ok (.invokevirtual 93, 3) := by decide +kernel
theorem dX8_readPiece_47 : decode cX8_readPiece 47 = .ok (.ifCond .le 7, 3) := by decide +kernel
theorem dX8_readPiece_50 : decode cX8_readPiece 50 = .ok (.iconst 1, 1) := by decide +kernel
theorem dX8_readPiece_51 : decode cX8_readPiece 51 = .ok (.goto 4, 3) := by decide +kernel
theorem dX8_readPiece_54 : decode cX8_readPiece 54 = .ok (.iconst 0, 1) := by decide +kernel
theorem dX8_readPiece_55 : decode cX8_readPiece 55 = .ok (.ireturn, 1) := by decide +kernel
theorem dX8_readPiece_56 : decode cX8_readPiece 56 = .ok (.aload_n 0, 1) := by decide +kernel
theorem dX8_readPiece_57 : decode cX8_readPiece 57 = .ok (.aload_n 2, 1) := by decide +kernel
theorem dX8_readPiece_58 : decode cX8_readPiece 58 = .ok (.invokevirtual 93, 3) := by decide +kernel
theorem dX8_readPiece_61 : decode cX8_readPiece 61 = .ok (.ifCond .lt 7, 3) := by decide +kernel
theorem dX8_readPiece_64 : decode cX8_readPiece 64 = .ok (.iconst 1, 1) := by decide +kernel
theorem dX8_readPiece_65 : decode cX8_readPiece 65 = .ok (.goto 4, 3) := by decide +kernel
theorem dX8_readPiece_68 : decode cX8_readPiece 68 = .ok (.iconst 0, 1) := by decide +kernel
theorem dX8_readPiece_69 : decode cX8_readPiece 69 = .ok (.ireturn, 1) := by decide +kernel
theorem dX8_readPiece_70 : decode cX8_readPiece 70 = .ok (.aload_n 0, 1) := by decide +kernel
theorem dX8_readPiece_71 : decode cX8_readPiece 71 = .ok (.iload_n 1, 1) := by decide +kernel
theorem dX8_readPiece_72 : decode cX8_readPiece 72 = .ok (.invokevirtual 46, 3) := by decide +kernel
theorem dX8_readPiece_75 : decode cX8_readPiece 75 = .ok (.ireturn, 1) := by decide +kernel
theorem dX8_readSign_0 : decode cX8_readSign 0 = .ok (.aload_n 0, 1) := by decide +kernel
theorem dX8_readSign_1 : decode cX8_readSign 1 = .ok (.getfield 33, 3) := by decide +kernel
theorem dX8_readSign_4 : decode cX8_readSign 4 = .ok (.aload_n 0, 1) := by decide +kernel
theorem dX8_readSign_5 : decode cX8_readSign 5 = .ok (.getfield 26, 3) := by decide +kernel
theorem dX8_readSign_8 : decode cX8_readSign 8 = .ok (.if_icmp .ge 16, 3) := by decide +kernel
theorem dX8_readSign_11 : decode cX8_readSign 11 = .ok (.aload_n 0, 1) := by decide +kernel
theorem dX8_readSign_12 : decode cX8_readSign 12 = .ok (.getfield 9, 3) := by decide +kernel
theorem dX8_readSign_15 : decode cX8_readSign 15 = .ok (.aload_n 0, 1) := by decide +kernel
theorem dX8_readSign_16 : decode cX8_readSign 16 = .ok (.getfield 33, 3) := by decide +kernel
theorem dX8_readSign_19 : decode cX8_readSign 19 = .ok (.caload, 1) := by decide +kernel
theorem dX8_readSign_20 : decode cX8_readSign 20 = .ok (.iload_n 1, 1) := by decide +kernel
theorem dX8_readSign_21 : decode cX8_readSign 21 = .ok (.if_icmp .eq 5, 3) := by decide +kernel
theorem dX8_readSign_24 : decode cX8_readSign 24 = .ok (.iconst 0, 1) := by decide +kernel
theorem dX8_readSign_25 : decode cX8_readSign 25 = .ok (.ireturn, 1) := by decide +kernel
theorem dX8_readSign_26 : decode cX8_readSign 26 = .ok (.aload_n 0, 1) := by decide +kernel
theorem dX8_readSign_27 : decode cX8_readSign 27 = .ok (.dup, 1) := by decide +kernel
theorem dX8_readSign_28 : decode cX8_readSign 28 = .ok (.getfield 33, 3) := by decide +kernel
theorem dX8_readSign_31 : decode cX8_readSign 31 = .ok (.iconst 1, 1) := by decide +kernel
theorem dX8_readSign_32 : decode cX8_readSign 32 = .ok (.iadd, 1) := by decide +kernel
theorem dX8_readSign_33 : decode cX8_readSign 33 = .ok (.putfield 33, 3) := by decide +kernel
theorem dX8_readSign_36 : decode cX8_readSign 36 = .ok (.iconst 1, 1) := by decide +kernel
theorem dX8_readSign_37 : decode cX8_readSign 37 = .ok (.ireturn, 1) := by decide +kernel
set_option maxRecDepth 20000 in
theorem ggX8_readNumber_X8_isDigitNext : GoodIn wsX8_readNumber wsX8_isDigitNext := goodIn_r _ [7, 2, 8, 1, 16, 17, 18, 19, 20, 21] (by decide +kernel) (by decide +kernel)
set_option maxRecDepth 20000 in
theorem gX8_readNumber_X8_isDigitNext : GoodIn wsX8_readNumber (wsV RX8 97 RX8 yX8_isDigitNext wsX8_isDigitNext) := goodIn_app (goodIn_of _ (by decide +kernel)) ggX8_readNumber_X8_isDigitNext
set_option maxRecDepth 20000 in
theorem ggX8_readNumber_X2_addNumber : GoodIn wsX8_readNumber wsX2_addNumber := goodIn_r _ [13, 14, 15, 22, 23, 24, 25] (by decide +kernel) (by decide +kernel)
set_option maxRecDepth 20000 in
theorem gX8_readNumber_X2_addNumber : GoodIn wsX8_readNumber (wsV RX8 100 RX2 yX2_addNumber wsX2_addNumber) := goodIn_app (goodIn_of _ (by decide +kernel)) ggX8_readNumber_X2_addNumber
theorem dX8_readNumber_0 : decode cX8_readNumber 0 = .ok (.aload_n 0, 1) := by decide +kernel
theorem dX8_readNumber_1 : decode cX8_readNumber 1 = .ok (.invokevirtual 97, 3) := by decide +kernel
theorem dX8_readNumber_4 : decode cX8_readNumber 4 = .ok (.ifCond .ne 5, 3) := by decide +kernel
theorem dX8_readNumber_7 : decode cX8_readNumber 7 = .ok (.iconst 0, 1) := by decide +kernel
theorem dX8_readNumber_8 : decode cX8_readNumber 8 = .ok (.ireturn, 1) := by decide +kernel
theorem dX8_readNumber_9 : decode cX8_readNumber 9 = .ok (.aload_n 1, 1) := by decide +kernel
theorem dX8_readNumber_10 : decode cX8_readNumber 10 = .ok (.aload_n 0, 1) := by decide +kernel
theorem dX8_readNumber_11 : decode cX8_readNumber 11 = .ok (.getfield 9, 3) := by decide +kernel
theorem dX8_readNumber_14 : decode cX8_readNumber 14 = .ok (.aload_n 0, 1) := by decide +kernel
theorem dX8_readNumber_15 : decode cX8_readNumber 15 = .ok (.getfield 33, 3) := by decide +kernel
theorem dX8_readNumber_18 : decode cX8_readNumber 18 = .ok (.caload, 1) := by decide +kernel
theorem dX8_readNumber_19 : decode cX8_readNumber 19 = .ok (.bipush 48, 2) := by decide +kernel
theorem dX8_readNumber_21 : decode cX8_readNumber 21 = .ok (.isub, 1) := by decide +kernel
theorem dX8_readNumber_22 : decode cX8_readNumber 22 = .ok (.invokevirtual 100, 3) := by decide +kernel
theorem dX8_readNumber_25 : decode cX8_readNumber 25 = .ok (.aload_n 0, 1) := by decide +kernel
theorem dX8_readNumber_26 : decode cX8_readNumber 26 = .ok (.dup, 1) := by decide +kernel
theorem dX8_readNumber_27 : decode cX8_readNumber 27 = .ok (.getfield 33, 3) := by decide +kernel
theorem dX8_readNumber_30 : decode cX8_readNumber 30 = .ok (.iconst 1, 1) := by decide +kernel
theorem dX8_readNumber_31 : decode cX8_readNumber 31 = .ok (.iadd, 1) := by decide +kernel
theorem dX8_readNumber_32 : decode cX8_readNumber 32 = .ok (.putfield 33, 3) := by decide +kernel
theorem dX8_readNumber_35 : decode cX8_readNumber 35 = .ok (.iconst 1, 1) := by decide +kernel
theorem dX8_readNumber_36 : decode cX8_readNumber 36 = .ok (.ireturn, 1) := by decide +kernel
set_option maxRecDepth 20000 in
theorem ggX8_readLanguages_X8_isDigitNext : GoodIn wsX8_readLanguages wsX8_isDigitNext := goodIn_r _ [7, 2, 8, 1, 15, 16, 17, 18, 19, 20] (by decide +kernel) (by decide +kernel)
set_option maxRecDepth 20000 in
theorem gX8_readLanguages_X8_isDigitNext : GoodIn wsX8_readLanguages (wsV RX8 97 RX8 yX8_isDigitNext wsX8_isDigitNext) := goodIn_app (goodIn_of _ (by decide +kernel)) ggX8_readLanguages_X8_isDigitNext
set_option maxRecDepth 20000 in
theorem ggX8_readLanguages_X2_addLanguage : GoodIn wsX8_readLanguages wsX2_addLanguage := goodIn_r _ [13, 14, 21, 22, 23, 24] (by decide +kernel) (by decide +kernel)
set_option maxRecDepth 20000 in
theorem gX8_readLanguages_X2_addLanguage : GoodIn wsX8_readLanguages (wsV RX8 104 RX2 yX2_addLanguage wsX2_addLanguage) := goodIn_app (goodIn_of _ (by decide +kernel)) ggX8_readLanguages_X2_addLanguage
theorem dX8_readLanguages_0 : decode cX8_readLanguages 0 = .ok (.iconst 0, 1) := by decide +kernel
theorem dX8_readLanguages_1 : decode cX8_readLanguages 1 = .ok (.istore_n 2, 1) := by decide +kernel
theorem dX8_readLanguages_2 : decode cX8_readLanguages 2 = .ok (.iload_n 2, 1) := by decide +kernel
theorem dX8_readLanguages_3 : decode cX8_readLanguages 3 = .ok (.iconst 5, 1) := by decide +kernel
theorem dX8_readLanguages_4 : decode cX8_readLanguages 4 = .ok (.if_icmp .ge 42, 3) := by decide +kernel
theorem dX8_readLanguages_7 : decode cX8_readLanguages 7 = .ok (.aload_n 0, 1) := by decide +kernel
theorem dX8_readLanguages_8 : decode cX8_readLanguages 8 = .ok (.invokevirtual 97, 3) := by decide +kernel
theorem dX8_readLanguages_11 : decode cX8_readLanguages 11 = .ok (.ifCond .eq 35, 3) := by decide +kernel
theorem dX8_readLanguages_14 : decode cX8_readLanguages 14 = .ok (.aload_n 1, 1) := by decide +kernel
theorem dX8_readLanguages_15 : decode cX8_readLanguages 15 = .ok (.aload_n 0, 1) := by decide +kernel
theorem dX8_readLanguages_16 : decode cX8_readLanguages 16 = .ok (.getfield 9, 3) := by decide +kernel
theorem dX8_readLanguages_19 : decode cX8_readLanguages 19 = .ok (.aload_n 0, 1) := by decide +kernel
theorem dX8_readLanguages_20 : decode cX8_readLanguages 20 = .ok (.getfield 33, 3) := by decide +kernel
theorem dX8_readLanguages_23 : decode cX8_readLanguages 23 = .ok (.caload, 1) := by decide +kernel
theorem dX8_readLanguages_24 : decode cX8_readLanguages 24 = .ok (.bipush 48, 2) := by decide +kernel
theorem dX8_readLanguages_26 : decode cX8_readLanguages 26 = .ok (.isub, 1) := by decide +kernel
theorem dX8_readLanguages_27 : decode cX8_readLanguages 27 = .ok (.invokevirtual 104, 3) := by decide +kernel
theorem dX8_readLanguages_30 : decode cX8_readLanguages 30 = .ok (.aload_n 0, 1) := by decide +kernel
theorem dX8_readLanguages_31 : decode cX8_readLanguages 31 = .ok (.dup, 1) := by decide +kernel
theorem dX8_readLanguages_32 : decode cX8_readLanguages 32 = .ok (.getfield 33, 3) := by decide +kernel
theorem dX8_readLanguages_35 : decode cX8_readLanguages 35 = .ok (.iconst 1, 1) := by decide +kernel
theorem dX8_readLanguages_36 : decode cX8_readLanguages 36 = .ok (.iadd, 1) := by decide +kernel
theorem dX8_readLanguages_37 : decode cX8_readLanguages 37 = .ok (.putfield 33, 3) := by decide +kernel
theorem dX8_readLanguages_40 : decode cX8_readLanguages 40 = .ok (.iinc 2 1, 3) := by decide +kernel
theorem dX8_readLanguages_43 : decode cX8_readLanguages 43 = .ok (.goto (-41), 3) := by decide +kernel
theorem dX8_readLanguages_46 : decode cX8_readLanguages 46 = .ok (.iload_n 2, 1) := by decide +kernel
theorem dX8_readLanguages_47 : decode cX8_readLanguages 47 = .ok (.ireturn, 1) := by decide +kernel
theorem dX8_isDigitNext_0 : decode cX8_isDigitNext 0 = .ok (.aload_n 0, 1) := by decide +kernel
theorem dX8_isDigitNext_1 : decode cX8_isDigitNext 1 = .ok (.getfield 33, 3) := by decide +kernel
theorem dX8_isDigitNext_4 : decode cX8_isDigitNext 4 = .ok (.aload_n 0, 1) := by decide +kernel
theorem dX8_isDigitNext_5 : decode cX8_isDigitNext 5 = .ok (.getfield 26, 3) := by decide +kernel
theorem dX8_isDigitNext_8 : decode cX8_isDigitNext 8 = .ok (.if_icmp .ge 35, 3) := by decide +kernel
theorem dX8_isDigitNext_11 : decode cX8_isDigitNext 11 = .ok (.aload_n 0, 1) := by decide +kernel
theorem dX8_isDigitNext_12 : decode cX8_isDigitNext 12 = .ok (.getfield 9, 3) := by decide +kernel
theorem dX8_isDigitNext_15 : decode cX8_isDigitNext 15 = .ok (.aload_n 0, 1) := by decide +kernel
theorem dX8_isDigitNext_16 : decode cX8_isDigitNext 16 = .ok (.getfield 33, 3) := by decide +kernel
theorem dX8_isDigitNext_19 : decode cX8_isDigitNext 19 = .ok (.caload, 1) := by decide +kernel
theorem dX8_isDigitNext_20 : decode cX8_isDigitNext 20 = .ok (.bipush 48, 2) := by decide +kernel
theorem dX8_isDigitNext_22 : decode cX8_isDigitNext 22 = .ok (.if_icmp .lt 21, 3) := by decide +kernel
theorem dX8_isDigitNext_25 : decode cX8_isDigitNext 25 = .ok (.aload_n 0, 1) := by decide +kernel
theorem dX8_isDigitNext_26 : decode cX8_isDigitNext 26 = .ok (.getfield 9, 3) := by decide +kernel
theorem dX8_isDigitNext_29 : decode cX8_isDigitNext 29 = .ok (.aload_n 0, 1) := by decide +kernel
theorem dX8_isDigitNext_30 : decode cX8_isDigitNext 30 = .ok (.getfield 33, 3) := by decide +kernel
theorem dX8_isDigitNext_33 : decode cX8_isDigitNext 33 = .ok (.caload, 1) := by decide +kernel
theorem dX8_isDigitNext_34 : decode cX8_isDigitNext 34 = .ok (.bipush 57, 2) := by decide +kernel
theorem dX8_isDigitNext_36 : decode cX8_isDigitNext 36 = .ok (.if_icmp .gt 7, 3) := by decide +kernel
theorem dX8_isDigitNext_39 : decode cX8_isDigitNext 39 = .ok (.iconst 1, 1) := by decide +kernel
theorem dX8_isDigitNext_40 : decode cX8_isDigitNext 40 = .ok (.goto 4, 3) := by decide +kernel
theorem dX8_isDigitNext_43 : decode cX8_isDigitNext 43 = .ok (.iconst 0, 1) := by decide +kernel
theorem dX8_isDigitNext_44 : decode cX8_isDigitNext 44 = .ok (.ireturn, 1) := by decide +kernel
theorem dX9_init_0 : decode cX9_init 0 = .ok (.aload_n 0, 1) := by decide +kernel
theorem dX9_init_1 : decode cX9_init 1 = .ok (.invokespecial 3, 3) := by decide +kernel
theorem dX9_init_4 : decode cX9_init 4 = .ok (.aload_n 0, 1) := by decide +kernel
theorem dX9_init_5 : decode cX9_init 5 = .ok (.bipush 6, 2) := by decide +kernel
theorem dX9_init_7 : decode cX9_init 7 = .ok (.newarray .int, 2) := by decide +kernel
theorem dX9_init_9 : decode cX9_init 9 = .ok (.putfield 9, 3) := by decide +kernel
theorem dX9_init_12 : decode cX9_init 12 = .ok (.aload_n 0, 1) := by decide +kernel
theorem dX9_init_13 : decode cX9_init 13 = .ok (.bipush 6, 2) := by decide +kernel
theorem dX9_init_15 : decode cX9_init 15 = .ok (.newarray .int, 2) := by decide +kernel
theorem dX9_init_17 : decode cX9_init 17 = .ok (.putfield 15, 3) := by decide +kernel
theorem dX9_init_20 : decode cX9_init 20 = .ok (.return_, 1) := by decide +kernel
theorem dX9_copyFrom_0 : decode cX9_copyFrom 0 = .ok (.aload_n 1, 1) := by decide +kernel
theorem dX9_copyFrom_1 : decode cX9_copyFrom 1 = .ok (.getfield 9, 3) := by decide +kernel
theorem dX9_copyFrom_4 : decode cX9_copyFrom 4 = .ok (.iconst 0, 1) := by decide +kernel
theorem dX9_copyFrom_5 : decode cX9_copyFrom 5 = .ok (.aload_n 0, 1) := by decide +kernel
theorem dX9_copyFrom_6 : decode cX9_copyFrom 6 = .ok (.getfield 9, 3) := by decide +kernel
theorem dX9_copyFrom_9 : decode cX9_copyFrom 9 = .ok (.iconst 0, 1) := by decide +kernel
theorem dX9_copyFrom_10 : decode cX9_copyFrom 10 = .ok (.bipush 6, 2) := by decide +kernel
theorem dX9_copyFrom_12 : decode cX9_copyFrom 12 = .ok (.invokestatic 18, 3) := by decide +kernel
theorem dX9_copyFrom_15 : decode cX9_copyFrom 15 = .ok (.aload_n 1, 1) := by decide +kernel
theorem dX9_copyFrom_16 : decode cX9_copyFrom 16 = .ok (.getfield 15, 3) := by decide +kernel
theorem dX9_copyFrom_19 : decode cX9_copyFrom 19 = .ok (.iconst 0, 1) := by decide +kernel
theorem dX9_copyFrom_20 : decode cX9_copyFrom 20 = .ok (.aload_n 0, 1) := by decide +kernel
theorem dX9_copyFrom_21 : decode cX9_copyFrom 21 = .ok (.getfield 15, 3) := by decide +kernel
theorem dX9_copyFrom_24 : decode cX9_copyFrom 24 = .ok (.iconst 0, 1) := by decide +kernel
theorem dX9_copyFrom_25 : decode cX9_copyFrom 25 = .ok (.bipush 6, 2) := by decide +kernel
theorem dX9_copyFrom_27 : decode cX9_copyFrom 27 = .ok (.invokestatic 18, 3) := by decide +kernel
theorem dX9_copyFrom_30 : decode cX9_copyFrom 30 = .ok (.return_, 1) := by decide +kernel
theorem dX9_allInside_0 : decode cX9_allInside 0 = .ok (.iconst 0, 1) := by decide +kernel
theorem dX9_allInside_1 : decode cX9_allInside 1 = .ok (.istore_n 1, 1) := by decide +kernel
theorem dX9_allInside_2 : decode cX9_allInside 2 = .ok (.iconst 0, 1) := by decide +kernel
theorem dX9_allInside_3 : decode cX9_allInside 3 = .ok (.istore_n 2, 1) := by decide +kernel
theorem dX9_allInside_4 : decode cX9_allInside 4 = .ok (.iload_n 2, 1) := by decide +kernel
theorem dX9_allInside_5 : decode cX9_allInside 5 = .ok (.bipush 6, 2) := by decide +kernel
theorem dX9_allInside_7 : decode cX9_allInside 7 = .ok (.if_icmp .ge 18, 3) := by decide +kernel
theorem dX9_allInside_10 : decode cX9_allInside 10 = .ok (.iload_n 1, 1) := by decide +kernel
theorem dX9_allInside_11 : decode cX9_allInside 11 = .ok (.aload_n 0, 1) := by decide +kernel
theorem dX9_allInside_12 : decode cX9_allInside 12 = .ok (.getfield 9, 3) := by decide +kernel
theorem dX9_allInside_15 : decode cX9_allInside 15 = .ok (.iload_n 2, 1) := by decide +kernel
theorem dX9_allInside_16 : decode cX9_allInside 16 = .ok (.iaload, 1) := by decide +kernel
theorem dX9_allInside_17 : decode cX9_allInside 17 = .ok (.iadd, 1) := by decide +kernel
theorem dX9_allInside_18 : decode cX9_allInside 18 = .ok (.istore_n 1, 1) := by decide +kernel
theorem dX9_allInside_19 : decode cX9_allInside 19 = .ok (.iinc 2 1, 3) := by decide +kernel
theorem dX9_allInside_22 : decode cX9_allInside 22 = .ok (.goto (-18), 3) := by decide +kernel
theorem dX9_allInside_25 : decode cX9_allInside 25 = .ok (.iload_n 1, 1) := by decide +kernel
theorem dX9_allInside_26 : decode cX9_allInside 26 = .ok (.ireturn, 1) := by decide +kernel
set_option maxRecDepth 20000 in
theorem ggX9_kindLacking_X5_needOf : GoodIn wsX9_kindLacking wsX5_needOf := goodIn_r _ [6, 7, 8, 9, 10, 11, 12, 13, 14, 5, 15, 16, 17, 20, 21, 22, 23, 24, 25, 26, 27, 28] (by decide +kernel) (by decide +kernel)
set_option maxRecDepth 20000 in
theorem gX9_kindLacking_X5_needOf : GoodIn wsX9_kindLacking (wsV RX9 24 RX5 yX5_needOf wsX5_needOf) := goodIn_app (goodIn_of _ (by decide +kernel)) ggX9_kindLacking_X5_needOf
theorem dX9_kindLacking_0 : decode cX9_kindLacking 0 = .ok (.iconst 0, 1) := by decide +kernel
theorem dX9_kindLacking_1 : decode cX9_kindLacking 1 = .ok (.istore_n 3, 1) := by decide +kernel
theorem dX9_kindLacking_2 : decode cX9_kindLacking 2 = .ok (.iload_n 3, 1) := by decide +kernel
theorem dX9_kindLacking_3 : decode cX9_kindLacking 3 = .ok (.bipush 6, 2) := by decide +kernel
theorem dX9_kindLacking_5 : decode cX9_kindLacking 5 = .ok (.if_icmp .ge 26, 3) := by decide +kernel
theorem dX9_kindLacking_8 : decode cX9_kindLacking 8 = .ok (.aload_n 0, 1) := by decide +kernel
theorem dX9_kindLacking_9 : decode cX9_kindLacking 9 = .ok (.getfield 9, 3) := by decide +kernel
theorem dX9_kindLacking_12 : decode cX9_kindLacking 12 = .ok (.iload_n 3, 1) := by decide +kernel
theorem dX9_kindLacking_13 : decode cX9_kindLacking 13 = .ok (.iaload, 1) := by decide +kernel
theorem dX9_kindLacking_14 : decode cX9_kindLacking 14 = .ok (.aload_n 1, 1) := by decide +kernel
theorem dX9_kindLacking_15 : decode cX9_kindLacking 15 = .ok (.iload_n 2, 1) := by decide +kernel
theorem dX9_kindLacking_16 : decode cX9_kindLacking 16 = .ok (.iload_n 3, 1) := by decide +kernel
theorem dX9_kindLacking_17 : decode cX9_kindLacking 17 = .ok (.invokevirtual 24, 3) := by decide +kernel
theorem dX9_kindLacking_20 : decode cX9_kindLacking 20 = .ok (.if_icmp .ge 5, 3) := by decide +kernel
theorem dX9_kindLacking_23 : decode cX9_kindLacking 23 = .ok (.iload_n 3, 1) := by decide +kernel
theorem dX9_kindLacking_24 : decode cX9_kindLacking 24 = .ok (.ireturn, 1) := by decide +kernel
theorem dX9_kindLacking_25 : decode cX9_kindLacking 25 = .ok (.iinc 3 1, 3) := by decide +kernel
theorem dX9_kindLacking_28 : decode cX9_kindLacking 28 = .ok (.goto (-26), 3) := by decide +kernel
theorem dX9_kindLacking_31 : decode cX9_kindLacking 31 = .ok (.iconst (-1), 1) := by decide +kernel
theorem dX9_kindLacking_32 : decode cX9_kindLacking 32 = .ok (.ireturn, 1) := by decide +kernel
set_option maxRecDepth 20000 in
theorem ggX9_putIn_X5_needOf : GoodIn wsX9_putIn wsX5_needOf := goodIn_r _ [6, 7, 8, 9, 10, 11, 12, 13, 14, 5, 15, 16, 17, 20, 21, 22, 23, 24, 25, 26, 27, 28] (by decide +kernel) (by decide +kernel)
set_option maxRecDepth 20000 in
theorem gX9_putIn_X5_needOf : GoodIn wsX9_putIn (wsV RX9 24 RX5 yX5_needOf wsX5_needOf) := goodIn_app (goodIn_of _ (by decide +kernel)) ggX9_putIn_X5_needOf
theorem dX9_putIn_0 : decode cX9_putIn 0 = .ok (.iconst 0, 1) := by decide +kernel
theorem dX9_putIn_1 : decode cX9_putIn 1 = .ok (.istore_n 3, 1) := by decide +kernel
theorem dX9_putIn_2 : decode cX9_putIn 2 = .ok (.iload_n 3, 1) := by decide +kernel
theorem dX9_putIn_3 : decode cX9_putIn 3 = .ok (.bipush 6, 2) := by decide +kernel
theorem dX9_putIn_5 : decode cX9_putIn 5 = .ok (.if_icmp .ge 24, 3) := by decide +kernel
theorem dX9_putIn_8 : decode cX9_putIn 8 = .ok (.aload_n 0, 1) := by decide +kernel
theorem dX9_putIn_9 : decode cX9_putIn 9 = .ok (.getfield 9, 3) := by decide +kernel
theorem dX9_putIn_12 : decode cX9_putIn 12 = .ok (.iload_n 3, 1) := by decide +kernel
theorem dX9_putIn_13 : decode cX9_putIn 13 = .ok (.dup2, 1) := by decide +kernel
theorem dX9_putIn_14 : decode cX9_putIn 14 = .ok (.iaload, 1) := by decide +kernel
theorem dX9_putIn_15 : decode cX9_putIn 15 = .ok (.aload_n 1, 1) := by decide +kernel
theorem dX9_putIn_16 : decode cX9_putIn 16 = .ok (.iload_n 2, 1) := by decide +kernel
theorem dX9_putIn_17 : decode cX9_putIn 17 = .ok (.iload_n 3, 1) := by decide +kernel
theorem dX9_putIn_18 : decode cX9_putIn 18 = .ok (.invokevirtual 24, 3) := by decide +kernel
theorem dX9_putIn_21 : decode cX9_putIn 21 = .ok (.iadd, 1) := by decide +kernel
theorem dX9_putIn_22 : decode cX9_putIn 22 = .ok (.iastore, 1) := by decide +kernel
theorem dX9_putIn_23 : decode cX9_putIn 23 = .ok (.iinc 3 1, 3) := by decide +kernel
theorem dX9_putIn_26 : decode cX9_putIn 26 = .ok (.goto (-24), 3) := by decide +kernel
theorem dX9_putIn_29 : decode cX9_putIn 29 = .ok (.return_, 1) := by decide +kernel
set_option maxRecDepth 20000 in
theorem ggX9_takeOut_X5_needOf : GoodIn wsX9_takeOut wsX5_needOf := goodIn_r _ [6, 7, 8, 9, 10, 11, 12, 13, 14, 5, 15, 16, 17, 20, 21, 22, 23, 24, 25, 26, 27, 28] (by decide +kernel) (by decide +kernel)
set_option maxRecDepth 20000 in
theorem gX9_takeOut_X5_needOf : GoodIn wsX9_takeOut (wsV RX9 24 RX5 yX5_needOf wsX5_needOf) := goodIn_app (goodIn_of _ (by decide +kernel)) ggX9_takeOut_X5_needOf
theorem dX9_takeOut_0 : decode cX9_takeOut 0 = .ok (.iconst 0, 1) := by decide +kernel
theorem dX9_takeOut_1 : decode cX9_takeOut 1 = .ok (.istore_n 3, 1) := by decide +kernel
theorem dX9_takeOut_2 : decode cX9_takeOut 2 = .ok (.iload_n 3, 1) := by decide +kernel
theorem dX9_takeOut_3 : decode cX9_takeOut 3 = .ok (.bipush 6, 2) := by decide +kernel
theorem dX9_takeOut_5 : decode cX9_takeOut 5 = .ok (.if_icmp .ge 24, 3) := by decide +kernel
theorem dX9_takeOut_8 : decode cX9_takeOut 8 = .ok (.aload_n 0, 1) := by decide +kernel
theorem dX9_takeOut_9 : decode cX9_takeOut 9 = .ok (.getfield 9, 3) := by decide +kernel
theorem dX9_takeOut_12 : decode cX9_takeOut 12 = .ok (.iload_n 3, 1) := by decide +kernel
theorem dX9_takeOut_13 : decode cX9_takeOut 13 = .ok (.dup2, 1) := by decide +kernel
theorem dX9_takeOut_14 : decode cX9_takeOut 14 = .ok (.iaload, 1) := by decide +kernel
theorem dX9_takeOut_15 : decode cX9_takeOut 15 = .ok (.aload_n 1, 1) := by decide +kernel
theorem dX9_takeOut_16 : decode cX9_takeOut 16 = .ok (.iload_n 2, 1) := by decide +kernel
theorem dX9_takeOut_17 : decode cX9_takeOut 17 = .ok (.iload_n 3, 1) := by decide +kernel
theorem dX9_takeOut_18 : decode cX9_takeOut 18 = .ok (.invokevirtual 24, 3) := by decide +kernel
theorem dX9_takeOut_21 : decode cX9_takeOut 21 = .ok (.isub, 1) := by decide +kernel
theorem dX9_takeOut_22 : decode cX9_takeOut 22 = .ok (.iastore, 1) := by decide +kernel
theorem dX9_takeOut_23 : decode cX9_takeOut 23 = .ok (.iinc 3 1, 3) := by decide +kernel
theorem dX9_takeOut_26 : decode cX9_takeOut 26 = .ok (.goto (-24), 3) := by decide +kernel
theorem dX9_takeOut_29 : decode cX9_takeOut 29 = .ok (.return_, 1) := by decide +kernel
set_option maxRecDepth 20000 in
theorem ggX10_init_X1_init : GoodIn wsX10_init wsX1_init := goodIn_r _ [33, 34, 2, 3, 35, 17, 18, 36, 37, 38, 39, 40, 41, 42, 43, 44, 45, 46, 47, 48, 49, 29, 30, 50, 51, 52, 53, 54, 55, 56, 57, 58, 59, 60, 61, 62, 63, 64, 65, 66, 67, 68, 69, 70, 71, 72, 73, 115, 116, 117, 118, 119, 120, 121, 122, 123, 101, 102, 134, 135, 136, 132, 133, 137, 138, 139, 140, 141, 142, 143, 144, 145, 146, 147] (by decide +kernel) (by decide +kernel)
set_option maxRecDepth 20000 in
theorem gX10_init_X1_init_n9 : GoodIn wsX10_init (wsX1_init) := ggX10_init_X1_init
set_option maxRecDepth 20000 in
theorem ggX10_init_X4_init : GoodIn wsX10_init wsX4_init := goodIn_r _ [76, 77, 2, 3, 78, 79, 17, 18, 80, 42, 43, 44, 45, 46, 47, 48, 49, 29, 30, 50, 51, 52, 53, 54, 55, 56, 57, 58, 59, 60, 61, 62, 63, 64, 65, 66, 67, 68, 69, 70, 112, 113, 114, 115, 116, 117, 118, 119, 120, 121, 122, 123, 132, 133, 137, 138, 139, 140, 141, 142, 143, 144, 145, 146, 147] (by decide +kernel) (by decide +kernel)
set_option maxRecDepth 20000 in
theorem gX10_init_X4_init : GoodIn wsX10_init (wsX4_init) := ggX10_init_X4_init
set_option maxRecDepth 20000 in
theorem ggX10_init_X0_init : GoodIn wsX10_init wsX0_init := goodIn_r _ [43, 44, 2, 3, 45, 46, 47, 48, 49, 29, 30, 50, 51, 52, 53, 54, 55, 56, 57, 58, 59, 60, 61, 62, 63, 64, 65, 66, 67, 68, 69, 70, 115, 116, 117, 118, 119, 120, 121, 122, 123, 132, 133, 137, 138, 139, 140, 141, 142, 143, 144, 145, 146, 147] (by decide +kernel) (by decide +kernel)
set_option maxRecDepth 20000 in
theorem gX10_init_X0_init : GoodIn wsX10_init (wsX0_init) := ggX10_init_X0_init
set_option maxRecDepth 20000 in
theorem ggX10_init_X8_init : GoodIn wsX10_init wsX8_init := goodIn_r _ [84, 85, 2, 3, 86, 87, 88, 89, 90, 91, 92, 93, 94, 95, 58, 96, 124, 125, 126, 127, 128, 129, 148, 149, 150, 151] (by decide +kernel) (by decide +kernel)
set_option maxRecDepth 20000 in
theorem gX10_init_X8_init : GoodIn wsX10_init (wsX8_init) := ggX10_init_X8_init
set_option maxRecDepth 20000 in
theorem ggX10_init_X6_init : GoodIn wsX10_init wsX6_init := goodIn_r _ [98, 99, 2, 3, 86, 100, 130, 131] (by decide +kernel) (by decide +kernel)
set_option maxRecDepth 20000 in
theorem gX10_init_X6_init_n48 : GoodIn wsX10_init (wsX6_init) := ggX10_init_X6_init
set_option maxRecDepth 20000 in
theorem ggX10_init_X9_init : GoodIn wsX10_init wsX9_init := goodIn_r _ [56, 57, 2, 3, 58, 59, 60, 132, 133] (by decide +kernel) (by decide +kernel)
set_option maxRecDepth 20000 in
theorem gX10_init_X9_init_n55 : GoodIn wsX10_init (wsX9_init) := ggX10_init_X9_init
theorem dX10_init_0 : decode cX10_init 0 = .ok (.aload_n 0, 1) := by decide +kernel
theorem dX10_init_1 : decode cX10_init 1 = .ok (.invokespecial 1, 3) := by decide +kernel
theorem dX10_init_4 : decode cX10_init 4 = .ok (.aload_n 0, 1) := by decide +kernel
theorem dX10_init_5 : decode cX10_init 5 = .ok (.new 7, 3) := by decide +kernel
theorem dX10_init_8 : decode cX10_init 8 = .ok (.dup, 1) := by decide +kernel
theorem dX10_init_9 : decode cX10_init 9 = .ok (.invokespecial 9, 3) := by decide +kernel
theorem dX10_init_12 : decode cX10_init 12 = .ok (.putfield 10, 3) := by decide +kernel
theorem dX10_init_15 : decode cX10_init 15 = .ok (.aload_n 0, 1) := by decide +kernel
theorem dX10_init_16 : decode cX10_init 16 = .ok (.aload_n 0, 1) := by decide +kernel
theorem dX10_init_17 : decode cX10_init 17 = .ok (.getfield 10, 3) := by decide +kernel
theorem dX10_init_20 : decode cX10_init 20 = .ok (.getfield 16, 3) := by decide +kernel
theorem dX10_init_23 : decode cX10_init 23 = .ok (.putfield 20, 3) := by decide +kernel
theorem dX10_init_26 : decode cX10_init 26 = .ok (.aload_n 0, 1) := by decide +kernel
theorem dX10_init_27 : decode cX10_init 27 = .ok (.aload_n 0, 1) := by decide +kernel
theorem dX10_init_28 : decode cX10_init 28 = .ok (.getfield 10, 3) := by decide +kernel
theorem dX10_init_31 : decode cX10_init 31 = .ok (.getfield 21, 3) := by decide +kernel
theorem dX10_init_34 : decode cX10_init 34 = .ok (.putfield 25, 3) := by decide +kernel
theorem dX10_init_37 : decode cX10_init 37 = .ok (.aload_n 0, 1) := by decide +kernel
theorem dX10_init_38 : decode cX10_init 38 = .ok (.new 26, 3) := by decide +kernel
theorem dX10_init_41 : decode cX10_init 41 = .ok (.dup, 1) := by decide +kernel
theorem dX10_init_42 : decode cX10_init 42 = .ok (.invokespecial 28, 3) := by decide +kernel
theorem dX10_init_45 : decode cX10_init 45 = .ok (.putfield 29, 3) := by decide +kernel
theorem dX10_init_48 : decode cX10_init 48 = .ok (.aload_n 0, 1) := by decide +kernel
theorem dX10_init_49 : decode cX10_init 49 = .ok (.new 33, 3) := by decide +kernel
theorem dX10_init_52 : decode cX10_init 52 = .ok (.dup, 1) := by decide +kernel
theorem dX10_init_53 : decode cX10_init 53 = .ok (.invokespecial 35, 3) := by decide +kernel
theorem dX10_init_56 : decode cX10_init 56 = .ok (.putfield 36, 3) := by decide +kernel
theorem dX10_init_59 : decode cX10_init 59 = .ok (.aload_n 0, 1) := by decide +kernel
theorem dX10_init_60 : decode cX10_init 60 = .ok (.new 39, 3) := by decide +kernel
theorem dX10_init_63 : decode cX10_init 63 = .ok (.dup, 1) := by decide +kernel
theorem dX10_init_64 : decode cX10_init 64 = .ok (.invokespecial 41, 3) := by decide +kernel
theorem dX10_init_67 : decode cX10_init 67 = .ok (.putfield 42, 3) := by decide +kernel
theorem dX10_init_70 : decode cX10_init 70 = .ok (.aload_n 0, 1) := by decide +kernel
theorem dX10_init_71 : decode cX10_init 71 = .ok (.new 46, 3) := by decide +kernel
theorem dX10_init_74 : decode cX10_init 74 = .ok (.dup, 1) := by decide +kernel
theorem dX10_init_75 : decode cX10_init 75 = .ok (.invokespecial 48, 3) := by decide +kernel
theorem dX10_init_78 : decode cX10_init 78 = .ok (.putfield 49, 3) := by decide +kernel
theorem dX10_init_81 : decode cX10_init 81 = .ok (.aload_n 0, 1) := by decide +kernel
theorem dX10_init_82 : decode cX10_init 82 = .ok (.new 53, 3) := by decide +kernel
theorem dX10_init_85 : decode cX10_init 85 = .ok (.dup, 1) := by decide +kernel
theorem dX10_init_86 : decode cX10_init 86 = .ok (.invokespecial 55, 3) := by decide +kernel
theorem dX10_init_89 : decode cX10_init 89 = .ok (.putfield 56, 3) := by decide +kernel
theorem dX10_init_92 : decode cX10_init 92 = .ok (.return_, 1) := by decide +kernel
set_option maxRecDepth 20000 in
theorem ggX10_leaflet_X4_note : GoodIn wsX10_leaflet wsX4_note := goodIn_r _ [8, 9, 10, 11, 12, 13, 14, 15, 16, 17, 18, 19, 20, 21, 22, 23, 24, 25, 26, 27, 28, 29, 30, 31, 32, 33, 34, 35, 36, 37, 38, 39, 40, 41, 42, 43, 44, 45, 46, 47, 48, 49, 50, 51, 52, 53, 54, 55, 56, 57, 125, 126, 127, 128, 129, 130, 131, 132, 133, 134, 135, 136, 137, 138, 139, 140, 141, 142, 143, 144, 145, 146, 147, 148, 149] (by decide +kernel) (by decide +kernel)
set_option maxRecDepth 20000 in
theorem gX10_leaflet_X4_note : GoodIn wsX10_leaflet (wsV RX10 60 RX4 yX4_note wsX4_note) := goodIn_app (goodIn_of _ (by decide +kernel)) ggX10_leaflet_X4_note
set_option maxRecDepth 20000 in
theorem ggX10_leaflet_X1_layLeaflet : GoodIn wsX10_leaflet wsX1_layLeaflet := goodIn_r _ [62, 63, 64, 65, 66, 67, 68, 69, 70, 71, 72, 73, 74, 75, 76, 77, 78, 79, 80, 81, 82, 83, 14, 84, 85, 86, 87, 88, 16, 17, 89, 90, 91, 92, 93, 94, 95, 96, 97, 98, 99, 28, 100, 30, 31, 32, 33, 34, 150, 151, 128, 129, 130, 131, 132, 133, 134, 135, 136, 152, 153, 154, 137, 138, 139, 140, 141, 142, 143, 144, 145] (by decide +kernel) (by decide +kernel)
set_option maxRecDepth 20000 in
theorem gX10_leaflet_X1_layLeaflet : GoodIn wsX10_leaflet (wsV RX10 64 RX1 yX1_layLeaflet wsX1_layLeaflet) := goodIn_app (goodIn_of _ (by decide +kernel)) ggX10_leaflet_X1_layLeaflet
set_option maxRecDepth 20000 in
theorem ggX10_leaflet_X10_settled : GoodIn wsX10_leaflet wsX10_settled := goodIn_ca (goodIn_r _ [104, 105, 106, 1, 107, 108, 109, 7, 110, 10, 111, 112, 113, 114, 115, 116, 117, 118, 119, 120, 121, 122, 123, 124, 125, 126, 127] (by decide +kernel) (by decide +kernel)) (goodIn_sub (fun _ h => List.mem_cons_of_mem _ (List.mem_append_right _ h)) (by decide +kernel))
set_option maxRecDepth 20000 in
theorem gX10_leaflet_X10_settled : GoodIn wsX10_leaflet (wsV RX10 68 RX10 yX10_settled wsX10_settled) := goodIn_app (goodIn_of _ (by decide +kernel)) ggX10_leaflet_X10_settled
theorem dX10_leaflet_0 : decode cX10_leaflet 0 = .ok (.aload_n 0, 1) := by decide +kernel
theorem dX10_leaflet_1 : decode cX10_leaflet 1 = .ok (.getfield 29, 3) := by decide +kernel
theorem dX10_leaflet_4 : decode cX10_leaflet 4 = .ok (.aload_n 0, 1) := by decide +kernel
theorem dX10_leaflet_5 : decode cX10_leaflet 5 = .ok (.getfield 20, 3) := by decide +kernel
theorem dX10_leaflet_8 : decode cX10_leaflet 8 = .ok (.invokevirtual 60, 3) := by decide +kernel
theorem dX10_leaflet_11 : decode cX10_leaflet 11 = .ok (.aload_n 0, 1) := by decide +kernel
theorem dX10_leaflet_12 : decode cX10_leaflet 12 = .ok (.aload_n 0, 1) := by decide +kernel
theorem dX10_leaflet_13 : decode cX10_leaflet 13 = .ok (.getfield 10, 3) := by decide +kernel
theorem dX10_leaflet_16 : decode cX10_leaflet 16 = .ok (.iload_n 1, 1) := by decide +kernel
theorem dX10_leaflet_17 : decode cX10_leaflet 17 = .ok (.invokevirtual 64, 3) := by decide +kernel
theorem dX10_leaflet_20 : decode cX10_leaflet 20 = .ok (.invokevirtual 68, 3) := by decide +kernel
theorem dX10_leaflet_23 : decode cX10_leaflet 23 = .ok (.ireturn, 1) := by decide +kernel
set_option maxRecDepth 20000 in
theorem ggX10_step_X4_note : GoodIn wsX10_step wsX4_note := goodIn_r _ [8, 9, 10, 11, 12, 13, 14, 15, 16, 17, 18, 19, 20, 21, 22, 23, 24, 25, 26, 27, 28, 29, 30, 31, 32, 33, 34, 35, 36, 37, 38, 39, 40, 41, 42, 43, 44, 45, 46, 47, 48, 49, 50, 51, 52, 53, 54, 55, 56, 57, 120, 121, 122, 123, 124, 125, 126, 127, 128, 129, 130, 131, 132, 133, 134, 135, 136, 137, 138, 139, 140, 141, 142, 143, 144] (by decide +kernel) (by decide +kernel)
set_option maxRecDepth 20000 in
theorem gX10_step_X4_note : GoodIn wsX10_step (wsV RX10 60 RX4 yX4_note wsX4_note) := goodIn_app (goodIn_of _ (by decide +kernel)) ggX10_step_X4_note
set_option maxRecDepth 20000 in
theorem ggX10_step_X1_addStep : GoodIn wsX10_step wsX1_addStep := goodIn_r _ [62, 63, 64, 65, 66, 67, 68, 69, 70, 71, 72, 73, 74, 14, 75, 16, 76, 77, 78, 79, 80, 81, 61, 82, 83, 84, 85, 86, 87, 88, 89, 90, 91, 92, 93, 94, 28, 95, 33, 145, 146, 123, 124, 125, 126, 127, 128, 129, 130, 131, 132, 133, 134, 135, 136, 137, 138, 139, 140, 147, 148, 149] (by decide +kernel) (by decide +kernel)
set_option maxRecDepth 20000 in
theorem gX10_step_X1_addStep : GoodIn wsX10_step (wsV RX10 71 RX1 yX1_addStep wsX1_addStep) := goodIn_app (goodIn_of _ (by decide +kernel)) ggX10_step_X1_addStep
set_option maxRecDepth 20000 in
theorem ggX10_step_X10_settled : GoodIn wsX10_step wsX10_settled := goodIn_ca (goodIn_r _ [99, 100, 101, 1, 102, 103, 104, 7, 105, 10, 106, 107, 108, 109, 110, 111, 112, 113, 114, 115, 116, 117, 118, 119, 120, 121, 122] (by decide +kernel) (by decide +kernel)) (goodIn_sub (fun _ h => List.mem_cons_of_mem _ (List.mem_append_right _ h)) (by decide +kernel))
set_option maxRecDepth 20000 in
theorem gX10_step_X10_settled : GoodIn wsX10_step (wsV RX10 68 RX10 yX10_settled wsX10_settled) := goodIn_app (goodIn_of _ (by decide +kernel)) ggX10_step_X10_settled
theorem dX10_step_0 : decode cX10_step 0 = .ok (.aload_n 0, 1) := by decide +kernel
theorem dX10_step_1 : decode cX10_step 1 = .ok (.getfield 29, 3) := by decide +kernel
theorem dX10_step_4 : decode cX10_step 4 = .ok (.aload_n 0, 1) := by decide +kernel
theorem dX10_step_5 : decode cX10_step 5 = .ok (.getfield 20, 3) := by decide +kernel
theorem dX10_step_8 : decode cX10_step 8 = .ok (.invokevirtual 60, 3) := by decide +kernel
theorem dX10_step_11 : decode cX10_step 11 = .ok (.aload_n 0, 1) := by decide +kernel
theorem dX10_step_12 : decode cX10_step 12 = .ok (.aload_n 0, 1) := by decide +kernel
theorem dX10_step_13 : decode cX10_step 13 = .ok (.getfield 10, 3) := by decide +kernel
theorem dX10_step_16 : decode cX10_step 16 = .ok (.iload_n 1, 1) := by decide +kernel
theorem dX10_step_17 : decode cX10_step 17 = .ok (.iload_n 2, 1) := by decide +kernel
theorem dX10_step_18 : decode cX10_step 18 = .ok (.iload_n 3, 1) := by decide +kernel
theorem dX10_step_19 : decode cX10_step 19 = .ok (.iload 4, 2) := by decide +kernel
theorem dX10_step_21 : decode cX10_step 21 = .ok (.iload 5, 2) := by decide +kernel
theorem dX10_step_23 : decode cX10_step 23 = .ok (.invokevirtual 71, 3) := by decide +kernel
theorem dX10_step_26 : decode cX10_step 26 = .ok (.invokevirtual 68, 3) := by decide +kernel
theorem dX10_step_29 : decode cX10_step 29 = .ok (.ireturn, 1) := by decide +kernel
set_option maxRecDepth 20000 in
theorem ggX10_fold_X4_note : GoodIn wsX10_fold wsX4_note := goodIn_r _ [8, 9, 10, 11, 12, 13, 14, 15, 16, 17, 18, 19, 20, 21, 22, 23, 24, 25, 26, 27, 28, 29, 30, 31, 32, 33, 34, 35, 36, 37, 38, 39, 40, 41, 42, 43, 44, 45, 46, 47, 48, 49, 50, 51, 52, 53, 54, 55, 56, 57, 124, 125, 126, 127, 128, 129, 130, 131, 132, 133, 134, 135, 136, 137, 138, 139, 140, 141, 142, 143, 144, 145, 146, 147, 148] (by decide +kernel) (by decide +kernel)
set_option maxRecDepth 20000 in
theorem gX10_fold_X4_note : GoodIn wsX10_fold (wsV RX10 60 RX4 yX4_note wsX4_note) := goodIn_app (goodIn_of _ (by decide +kernel)) ggX10_fold_X4_note
set_option maxRecDepth 20000 in
theorem ggX10_fold_X1_changeFolds : GoodIn wsX10_fold wsX1_changeFolds := goodIn_r _ [62, 63, 64, 65, 66, 67, 68, 69, 70, 14, 71, 16, 72, 73, 74, 75, 76, 77, 61, 78, 79, 80, 81, 82, 83, 84, 85, 86, 87, 88, 89, 90, 28, 91, 33, 92, 93, 94, 95, 31, 96, 97, 98, 99, 30, 149, 150, 127, 128, 129, 130, 131, 132, 133, 134, 135, 136, 137, 138, 139, 140, 141, 142, 143, 144, 151, 152, 153] (by decide +kernel) (by decide +kernel)
set_option maxRecDepth 20000 in
theorem gX10_fold_X1_changeFolds : GoodIn wsX10_fold (wsV RX10 75 RX1 yX1_changeFolds wsX1_changeFolds) := goodIn_app (goodIn_of _ (by decide +kernel)) ggX10_fold_X1_changeFolds
set_option maxRecDepth 20000 in
theorem ggX10_fold_X10_settled : GoodIn wsX10_fold wsX10_settled := goodIn_ca (goodIn_r _ [103, 104, 105, 1, 106, 107, 108, 7, 109, 10, 110, 111, 112, 113, 114, 115, 116, 117, 118, 119, 120, 121, 122, 123, 124, 125, 126] (by decide +kernel) (by decide +kernel)) (goodIn_sub (fun _ h => List.mem_cons_of_mem _ (List.mem_append_right _ h)) (by decide +kernel))
set_option maxRecDepth 20000 in
theorem gX10_fold_X10_settled : GoodIn wsX10_fold (wsV RX10 68 RX10 yX10_settled wsX10_settled) := goodIn_app (goodIn_of _ (by decide +kernel)) ggX10_fold_X10_settled
theorem dX10_fold_0 : decode cX10_fold 0 = .ok (.aload_n 0, 1) := by decide +kernel
theorem dX10_fold_1 : decode cX10_fold 1 = .ok (.getfield 29, 3) := by decide +kernel
theorem dX10_fold_4 : decode cX10_fold 4 = .ok (.aload_n 0, 1) := by decide +kernel
theorem dX10_fold_5 : decode cX10_fold 5 = .ok (.getfield 20, 3) := by decide +kernel
theorem dX10_fold_8 : decode cX10_fold 8 = .ok (.invokevirtual 60, 3) := by decide +kernel
theorem dX10_fold_11 : decode cX10_fold 11 = .ok (.aload_n 0, 1) := by decide +kernel
theorem dX10_fold_12 : decode cX10_fold 12 = .ok (.aload_n 0, 1) := by decide +kernel
theorem dX10_fold_13 : decode cX10_fold 13 = .ok (.getfield 10, 3) := by decide +kernel
theorem dX10_fold_16 : decode cX10_fold 16 = .ok (.iload_n 1, 1) := by decide +kernel
theorem dX10_fold_17 : decode cX10_fold 17 = .ok (.iconst 1, 1) := by decide +kernel
theorem dX10_fold_18 : decode cX10_fold 18 = .ok (.invokevirtual 75, 3) := by decide +kernel
theorem dX10_fold_21 : decode cX10_fold 21 = .ok (.invokevirtual 68, 3) := by decide +kernel
theorem dX10_fold_24 : decode cX10_fold 24 = .ok (.ireturn, 1) := by decide +kernel
set_option maxRecDepth 20000 in
theorem ggX10_unfold_X4_note : GoodIn wsX10_unfold wsX4_note := goodIn_r _ [8, 9, 10, 11, 12, 13, 14, 15, 16, 17, 18, 19, 20, 21, 22, 23, 24, 25, 26, 27, 28, 29, 30, 31, 32, 33, 34, 35, 36, 37, 38, 39, 40, 41, 42, 43, 44, 45, 46, 47, 48, 49, 50, 51, 52, 53, 54, 55, 56, 57, 124, 125, 126, 127, 128, 129, 130, 131, 132, 133, 134, 135, 136, 137, 138, 139, 140, 141, 142, 143, 144, 145, 146, 147, 148] (by decide +kernel) (by decide +kernel)
set_option maxRecDepth 20000 in
theorem gX10_unfold_X4_note : GoodIn wsX10_unfold (wsV RX10 60 RX4 yX4_note wsX4_note) := goodIn_app (goodIn_of _ (by decide +kernel)) ggX10_unfold_X4_note
set_option maxRecDepth 20000 in
theorem ggX10_unfold_X1_changeFolds : GoodIn wsX10_unfold wsX1_changeFolds := goodIn_r _ [62, 63, 64, 65, 66, 67, 68, 69, 70, 14, 71, 16, 72, 73, 74, 75, 76, 77, 61, 78, 79, 80, 81, 82, 83, 84, 85, 86, 87, 88, 89, 90, 28, 91, 33, 92, 93, 94, 95, 31, 96, 97, 98, 99, 30, 149, 150, 127, 128, 129, 130, 131, 132, 133, 134, 135, 136, 137, 138, 139, 140, 141, 142, 143, 144, 151, 152, 153] (by decide +kernel) (by decide +kernel)
set_option maxRecDepth 20000 in
theorem gX10_unfold_X1_changeFolds : GoodIn wsX10_unfold (wsV RX10 75 RX1 yX1_changeFolds wsX1_changeFolds) := goodIn_app (goodIn_of _ (by decide +kernel)) ggX10_unfold_X1_changeFolds
set_option maxRecDepth 20000 in
theorem ggX10_unfold_X10_settled : GoodIn wsX10_unfold wsX10_settled := goodIn_ca (goodIn_r _ [103, 104, 105, 1, 106, 107, 108, 7, 109, 10, 110, 111, 112, 113, 114, 115, 116, 117, 118, 119, 120, 121, 122, 123, 124, 125, 126] (by decide +kernel) (by decide +kernel)) (goodIn_sub (fun _ h => List.mem_cons_of_mem _ (List.mem_append_right _ h)) (by decide +kernel))
set_option maxRecDepth 20000 in
theorem gX10_unfold_X10_settled : GoodIn wsX10_unfold (wsV RX10 68 RX10 yX10_settled wsX10_settled) := goodIn_app (goodIn_of _ (by decide +kernel)) ggX10_unfold_X10_settled
theorem dX10_unfold_0 : decode cX10_unfold 0 = .ok (.aload_n 0, 1) := by decide +kernel
theorem dX10_unfold_1 : decode cX10_unfold 1 = .ok (.getfield 29, 3) := by decide +kernel
theorem dX10_unfold_4 : decode cX10_unfold 4 = .ok (.aload_n 0, 1) := by decide +kernel
theorem dX10_unfold_5 : decode cX10_unfold 5 = .ok (.getfield 20, 3) := by decide +kernel
theorem dX10_unfold_8 : decode cX10_unfold 8 = .ok (.invokevirtual 60, 3) := by decide +kernel
theorem dX10_unfold_11 : decode cX10_unfold 11 = .ok (.aload_n 0, 1) := by decide +kernel
theorem dX10_unfold_12 : decode cX10_unfold 12 = .ok (.aload_n 0, 1) := by decide +kernel
theorem dX10_unfold_13 : decode cX10_unfold 13 = .ok (.getfield 10, 3) := by decide +kernel
theorem dX10_unfold_16 : decode cX10_unfold 16 = .ok (.iload_n 1, 1) := by decide +kernel
theorem dX10_unfold_17 : decode cX10_unfold 17 = .ok (.iconst (-1), 1) := by decide +kernel
theorem dX10_unfold_18 : decode cX10_unfold 18 = .ok (.invokevirtual 75, 3) := by decide +kernel
theorem dX10_unfold_21 : decode cX10_unfold 21 = .ok (.invokevirtual 68, 3) := by decide +kernel
theorem dX10_unfold_24 : decode cX10_unfold 24 = .ok (.ireturn, 1) := by decide +kernel
set_option maxRecDepth 20000 in
theorem ggX10_cousin_X4_note : GoodIn wsX10_cousin wsX4_note := goodIn_r _ [8, 9, 10, 11, 12, 13, 14, 15, 16, 17, 18, 19, 20, 21, 22, 23, 24, 25, 26, 27, 28, 29, 30, 31, 32, 33, 34, 35, 36, 37, 38, 39, 40, 41, 42, 43, 44, 45, 46, 47, 48, 49, 50, 51, 52, 53, 54, 55, 56, 57, 104, 105, 106, 107, 108, 109, 110, 111, 112, 113, 114, 115, 116, 117, 118, 119, 120, 121, 122, 123, 124, 125, 126, 127, 128] (by decide +kernel) (by decide +kernel)
set_option maxRecDepth 20000 in
theorem gX10_cousin_X4_note : GoodIn wsX10_cousin (wsV RX10 60 RX4 yX4_note wsX4_note) := goodIn_app (goodIn_of _ (by decide +kernel)) ggX10_cousin_X4_note
set_option maxRecDepth 20000 in
theorem ggX10_cousin_X1_letCome : GoodIn wsX10_cousin wsX1_letCome := goodIn_r _ [62, 63, 64, 65, 66, 67, 68, 69, 70, 71, 72, 73, 74, 75, 76, 77, 78, 79, 129, 130, 107, 108, 109, 110, 111, 112, 113, 114, 115, 125, 126, 131, 132, 133] (by decide +kernel) (by decide +kernel)
set_option maxRecDepth 20000 in
theorem gX10_cousin_X1_letCome : GoodIn wsX10_cousin (wsV RX10 79 RX1 yX1_letCome wsX1_letCome) := goodIn_app (goodIn_of _ (by decide +kernel)) ggX10_cousin_X1_letCome
set_option maxRecDepth 20000 in
theorem ggX10_cousin_X10_settled : GoodIn wsX10_cousin wsX10_settled := goodIn_ca (goodIn_r _ [83, 84, 85, 1, 86, 87, 88, 7, 89, 10, 90, 91, 92, 93, 94, 95, 96, 97, 98, 99, 100, 101, 102, 103, 104, 105, 106] (by decide +kernel) (by decide +kernel)) (goodIn_sub (fun _ h => List.mem_cons_of_mem _ (List.mem_append_right _ h)) (by decide +kernel))
set_option maxRecDepth 20000 in
theorem gX10_cousin_X10_settled : GoodIn wsX10_cousin (wsV RX10 68 RX10 yX10_settled wsX10_settled) := goodIn_app (goodIn_of _ (by decide +kernel)) ggX10_cousin_X10_settled
theorem dX10_cousin_0 : decode cX10_cousin 0 = .ok (.aload_n 0, 1) := by decide +kernel
theorem dX10_cousin_1 : decode cX10_cousin 1 = .ok (.getfield 29, 3) := by decide +kernel
theorem dX10_cousin_4 : decode cX10_cousin 4 = .ok (.aload_n 0, 1) := by decide +kernel
theorem dX10_cousin_5 : decode cX10_cousin 5 = .ok (.getfield 20, 3) := by decide +kernel
theorem dX10_cousin_8 : decode cX10_cousin 8 = .ok (.invokevirtual 60, 3) := by decide +kernel
theorem dX10_cousin_11 : decode cX10_cousin 11 = .ok (.aload_n 0, 1) := by decide +kernel
theorem dX10_cousin_12 : decode cX10_cousin 12 = .ok (.aload_n 0, 1) := by decide +kernel
theorem dX10_cousin_13 : decode cX10_cousin 13 = .ok (.getfield 10, 3) := by decide +kernel
theorem dX10_cousin_16 : decode cX10_cousin 16 = .ok (.iload_n 1, 1) := by decide +kernel
theorem dX10_cousin_17 : decode cX10_cousin 17 = .ok (.iload_n 2, 1) := by decide +kernel
theorem dX10_cousin_18 : decode cX10_cousin 18 = .ok (.invokevirtual 79, 3) := by decide +kernel
theorem dX10_cousin_21 : decode cX10_cousin 21 = .ok (.invokevirtual 68, 3) := by decide +kernel
theorem dX10_cousin_24 : decode cX10_cousin 24 = .ok (.ireturn, 1) := by decide +kernel
set_option maxRecDepth 20000 in
theorem ggX10_learn_X4_note : GoodIn wsX10_learn wsX4_note := goodIn_r _ [8, 9, 10, 11, 12, 13, 14, 15, 16, 17, 18, 19, 20, 21, 22, 23, 24, 25, 26, 27, 28, 29, 30, 31, 32, 33, 34, 35, 36, 37, 38, 39, 40, 41, 42, 43, 44, 45, 46, 47, 48, 49, 50, 51, 52, 53, 54, 55, 56, 57, 120, 121, 122, 123, 124, 125, 126, 127, 128, 129, 130, 131, 132, 133, 134, 135, 136, 137, 138, 139, 140, 141, 142, 143, 144] (by decide +kernel) (by decide +kernel)
set_option maxRecDepth 20000 in
theorem gX10_learn_X4_note : GoodIn wsX10_learn (wsV RX10 60 RX4 yX4_note wsX4_note) := goodIn_app (goodIn_of _ (by decide +kernel)) ggX10_learn_X4_note
set_option maxRecDepth 20000 in
theorem ggX10_learn_X1_letLearn : GoodIn wsX10_learn wsX1_letLearn := goodIn_r _ [62, 63, 64, 65, 66, 67, 68, 69, 14, 70, 18, 71, 72, 73, 74, 75, 76, 61, 77, 78, 79, 80, 81, 82, 83, 84, 85, 86, 87, 88, 89, 90, 91, 92, 93, 94, 95, 145, 146, 123, 124, 125, 126, 127, 128, 129, 130, 131, 141, 142, 147, 148, 149] (by decide +kernel) (by decide +kernel)
set_option maxRecDepth 20000 in
theorem gX10_learn_X1_letLearn : GoodIn wsX10_learn (wsV RX10 82 RX1 yX1_letLearn wsX1_letLearn) := goodIn_app (goodIn_of _ (by decide +kernel)) ggX10_learn_X1_letLearn
set_option maxRecDepth 20000 in
theorem ggX10_learn_X10_settled : GoodIn wsX10_learn wsX10_settled := goodIn_ca (goodIn_r _ [99, 100, 101, 1, 102, 103, 104, 7, 105, 10, 106, 107, 108, 109, 110, 111, 112, 113, 114, 115, 116, 117, 118, 119, 120, 121, 122] (by decide +kernel) (by decide +kernel)) (goodIn_sub (fun _ h => List.mem_cons_of_mem _ (List.mem_append_right _ h)) (by decide +kernel))
set_option maxRecDepth 20000 in
theorem gX10_learn_X10_settled : GoodIn wsX10_learn (wsV RX10 68 RX10 yX10_settled wsX10_settled) := goodIn_app (goodIn_of _ (by decide +kernel)) ggX10_learn_X10_settled
theorem dX10_learn_0 : decode cX10_learn 0 = .ok (.aload_n 0, 1) := by decide +kernel
theorem dX10_learn_1 : decode cX10_learn 1 = .ok (.getfield 29, 3) := by decide +kernel
theorem dX10_learn_4 : decode cX10_learn 4 = .ok (.aload_n 0, 1) := by decide +kernel
theorem dX10_learn_5 : decode cX10_learn 5 = .ok (.getfield 20, 3) := by decide +kernel
theorem dX10_learn_8 : decode cX10_learn 8 = .ok (.invokevirtual 60, 3) := by decide +kernel
theorem dX10_learn_11 : decode cX10_learn 11 = .ok (.aload_n 0, 1) := by decide +kernel
theorem dX10_learn_12 : decode cX10_learn 12 = .ok (.aload_n 0, 1) := by decide +kernel
theorem dX10_learn_13 : decode cX10_learn 13 = .ok (.getfield 10, 3) := by decide +kernel
theorem dX10_learn_16 : decode cX10_learn 16 = .ok (.iload_n 1, 1) := by decide +kernel
theorem dX10_learn_17 : decode cX10_learn 17 = .ok (.iload_n 2, 1) := by decide +kernel
theorem dX10_learn_18 : decode cX10_learn 18 = .ok (.invokevirtual 82, 3) := by decide +kernel
theorem dX10_learn_21 : decode cX10_learn 21 = .ok (.invokevirtual 68, 3) := by decide +kernel
theorem dX10_learn_24 : decode cX10_learn 24 = .ok (.ireturn, 1) := by decide +kernel
set_option maxRecDepth 20000 in
theorem ggX10_build_X4_note : GoodIn wsX10_build wsX4_note := goodIn_r _ [8, 9, 10, 11, 12, 13, 14, 15, 16, 17, 18, 19, 20, 21, 22, 23, 24, 25, 26, 27, 28, 29, 30, 31, 32, 33, 34, 35, 36, 37, 38, 39, 40, 41, 42, 43, 44, 45, 46, 47, 48, 49, 50, 51, 52, 53, 54, 55, 56, 57, 182, 183, 184, 185, 186, 187, 188, 189, 190, 191, 192, 193, 194, 195, 196, 197, 198, 199, 200, 201, 202, 203, 204, 205, 206] (by decide +kernel) (by decide +kernel)
set_option maxRecDepth 20000 in
theorem gX10_build_X4_note : GoodIn wsX10_build (wsV RX10 60 RX4 yX4_note wsX4_note) := goodIn_app (goodIn_of _ (by decide +kernel)) ggX10_build_X4_note
set_option maxRecDepth 20000 in
theorem ggX10_build_X1_letBuild : GoodIn wsX10_build wsX1_letBuild := goodIn_r _ [62, 63, 64, 65, 66, 67, 68, 69, 70, 71, 72, 73, 74, 75, 76, 77, 78, 14, 79, 18, 80, 81, 82, 83, 84, 85, 61, 86, 87, 88, 89, 90, 91, 92, 93, 94, 95, 96, 97, 98, 99, 16, 100, 101, 102, 103, 104, 105, 106, 107, 28, 108, 33, 109, 110, 111, 112, 113, 114, 115, 116, 30, 117, 118, 119, 120, 121, 122, 123, 124, 41, 125, 126, 127, 128, 129, 130, 131, 132, 40, 42, 133, 134, 135, 53, 136, 55, 137, 138, 139, 140, 141, 142, 143, 144, 145, 146, 35, 147, 148, 149, 150, 34, 151, 152, 153, 154, 155, 156, 157, 207, 208, 185, 186, 187, 188, 189, 190, 191, 192, 193, 194, 195, 196, 197, 198, 199, 200, 201, 202, 203, 204, 209, 210, 211, 205, 206] (by decide +kernel) (by decide +kernel)
set_option maxRecDepth 20000 in
theorem gX10_build_X1_letBuild : GoodIn wsX10_build (wsV RX10 85 RX1 yX1_letBuild wsX1_letBuild) := goodIn_app (goodIn_of _ (by decide +kernel)) ggX10_build_X1_letBuild
set_option maxRecDepth 20000 in
theorem ggX10_build_X10_settled : GoodIn wsX10_build wsX10_settled := goodIn_ca (goodIn_r _ [161, 162, 163, 1, 164, 165, 166, 7, 167, 10, 168, 169, 170, 171, 172, 173, 174, 175, 176, 177, 178, 179, 180, 181, 182, 183, 184] (by decide +kernel) (by decide +kernel)) (goodIn_sub (fun _ h => List.mem_cons_of_mem _ (List.mem_append_right _ h)) (by decide +kernel))
set_option maxRecDepth 20000 in
theorem gX10_build_X10_settled : GoodIn wsX10_build (wsV RX10 68 RX10 yX10_settled wsX10_settled) := goodIn_app (goodIn_of _ (by decide +kernel)) ggX10_build_X10_settled
theorem dX10_build_0 : decode cX10_build 0 = .ok (.aload_n 0, 1) := by decide +kernel
theorem dX10_build_1 : decode cX10_build 1 = .ok (.getfield 29, 3) := by decide +kernel
theorem dX10_build_4 : decode cX10_build 4 = .ok (.aload_n 0, 1) := by decide +kernel
theorem dX10_build_5 : decode cX10_build 5 = .ok (.getfield 20, 3) := by decide +kernel
theorem dX10_build_8 : decode cX10_build 8 = .ok (.invokevirtual 60, 3) := by decide +kernel
theorem dX10_build_11 : decode cX10_build 11 = .ok (.aload_n 0, 1) := by decide +kernel
theorem dX10_build_12 : decode cX10_build 12 = .ok (.aload_n 0, 1) := by decide +kernel
theorem dX10_build_13 : decode cX10_build 13 = .ok (.getfield 10, 3) := by decide +kernel
theorem dX10_build_16 : decode cX10_build 16 = .ok (.iload_n 1, 1) := by decide +kernel
theorem dX10_build_17 : decode cX10_build 17 = .ok (.iload_n 2, 1) := by decide +kernel
theorem dX10_build_18 : decode cX10_build 18 = .ok (.invokevirtual 85, 3) := by decide +kernel
theorem dX10_build_21 : decode cX10_build 21 = .ok (.invokevirtual 68, 3) := by decide +kernel
theorem dX10_build_24 : decode cX10_build 24 = .ok (.ireturn, 1) := by decide +kernel
set_option maxRecDepth 20000 in
theorem ggX10_finish_X4_note : GoodIn wsX10_finish wsX4_note := goodIn_r _ [8, 9, 10, 11, 12, 13, 14, 15, 16, 17, 18, 19, 20, 21, 22, 23, 24, 25, 26, 27, 28, 29, 30, 31, 32, 33, 34, 35, 36, 37, 38, 39, 40, 41, 42, 43, 44, 45, 46, 47, 48, 49, 50, 51, 52, 53, 54, 55, 56, 57, 155, 156, 157, 158, 159, 160, 161, 162, 163, 164, 165, 166, 167, 168, 169, 170, 171, 172, 173, 174, 175, 176, 177, 178, 179] (by decide +kernel) (by decide +kernel)
set_option maxRecDepth 20000 in
theorem gX10_finish_X4_note : GoodIn wsX10_finish (wsV RX10 60 RX4 yX4_note wsX4_note) := goodIn_app (goodIn_of _ (by decide +kernel)) ggX10_finish_X4_note
set_option maxRecDepth 20000 in
theorem ggX10_finish_X1_doLater : GoodIn wsX10_finish wsX1_doLater := goodIn_r _ [62, 63, 64, 65, 66, 67, 68, 69, 70, 71, 72, 14, 73, 16, 74, 75, 76, 77, 78, 79, 61, 80, 81, 82, 83, 84, 85, 86, 87, 88, 89, 90, 91, 92, 28, 93, 33, 94, 95, 96, 97, 30, 98, 99, 100, 101, 34, 102, 103, 104, 105, 106, 53, 107, 55, 108, 109, 110, 111, 40, 112, 113, 114, 115, 35, 42, 116, 117, 118, 119, 120, 121, 122, 123, 124, 125, 126, 127, 128, 129, 130, 180, 181, 158, 159, 160, 161, 162, 163, 164, 165, 166, 167, 168, 169, 170, 171, 172, 173, 174, 175, 182, 183, 184, 178, 179] (by decide +kernel) (by decide +kernel)
set_option maxRecDepth 20000 in
theorem gX10_finish_X1_doLater : GoodIn wsX10_finish (wsV RX10 88 RX1 yX1_doLater wsX1_doLater) := goodIn_app (goodIn_of _ (by decide +kernel)) ggX10_finish_X1_doLater
set_option maxRecDepth 20000 in
theorem ggX10_finish_X10_settled : GoodIn wsX10_finish wsX10_settled := goodIn_ca (goodIn_r _ [134, 135, 136, 1, 137, 138, 139, 7, 140, 10, 141, 142, 143, 144, 145, 146, 147, 148, 149, 150, 151, 152, 153, 154, 155, 156, 157] (by decide +kernel) (by decide +kernel)) (goodIn_sub (fun _ h => List.mem_cons_of_mem _ (List.mem_append_right _ h)) (by decide +kernel))
set_option maxRecDepth 20000 in
theorem gX10_finish_X10_settled : GoodIn wsX10_finish (wsV RX10 68 RX10 yX10_settled wsX10_settled) := goodIn_app (goodIn_of _ (by decide +kernel)) ggX10_finish_X10_settled
theorem dX10_finish_0 : decode cX10_finish 0 = .ok (.aload_n 0, 1) := by decide +kernel
theorem dX10_finish_1 : decode cX10_finish 1 = .ok (.getfield 29, 3) := by decide +kernel
theorem dX10_finish_4 : decode cX10_finish 4 = .ok (.aload_n 0, 1) := by decide +kernel
theorem dX10_finish_5 : decode cX10_finish 5 = .ok (.getfield 20, 3) := by decide +kernel
theorem dX10_finish_8 : decode cX10_finish 8 = .ok (.invokevirtual 60, 3) := by decide +kernel
theorem dX10_finish_11 : decode cX10_finish 11 = .ok (.aload_n 0, 1) := by decide +kernel
theorem dX10_finish_12 : decode cX10_finish 12 = .ok (.aload_n 0, 1) := by decide +kernel
theorem dX10_finish_13 : decode cX10_finish 13 = .ok (.getfield 10, 3) := by decide +kernel
theorem dX10_finish_16 : decode cX10_finish 16 = .ok (.iload_n 1, 1) := by decide +kernel
theorem dX10_finish_17 : decode cX10_finish 17 = .ok (.iload_n 2, 1) := by decide +kernel
theorem dX10_finish_18 : decode cX10_finish 18 = .ok (.invokevirtual 88, 3) := by decide +kernel
theorem dX10_finish_21 : decode cX10_finish 21 = .ok (.invokevirtual 68, 3) := by decide +kernel
theorem dX10_finish_24 : decode cX10_finish 24 = .ok (.ireturn, 1) := by decide +kernel
set_option maxRecDepth 20000 in
theorem ggX10_apart_X4_note : GoodIn wsX10_apart wsX4_note := goodIn_r _ [8, 9, 10, 11, 12, 13, 14, 15, 16, 17, 18, 19, 20, 21, 22, 23, 24, 25, 26, 27, 28, 29, 30, 31, 32, 33, 34, 35, 36, 37, 38, 39, 40, 41, 42, 43, 44, 45, 46, 47, 48, 49, 50, 51, 52, 53, 54, 55, 56, 57, 144, 145, 146, 147, 148, 149, 150, 151, 152, 153, 154, 155, 156, 157, 158, 159, 160, 161, 162, 163, 164, 165, 166, 167, 168] (by decide +kernel) (by decide +kernel)
set_option maxRecDepth 20000 in
theorem gX10_apart_X4_note : GoodIn wsX10_apart (wsV RX10 60 RX4 yX4_note wsX4_note) := goodIn_app (goodIn_of _ (by decide +kernel)) ggX10_apart_X4_note
set_option maxRecDepth 20000 in
theorem ggX10_apart_X1_takeApart : GoodIn wsX10_apart wsX1_takeApart := goodIn_r _ [62, 63, 64, 65, 66, 67, 68, 69, 70, 71, 72, 14, 73, 16, 74, 75, 76, 77, 78, 79, 61, 80, 81, 82, 83, 84, 85, 86, 87, 88, 89, 90, 91, 92, 28, 93, 33, 94, 95, 96, 53, 97, 55, 98, 99, 100, 101, 30, 40, 102, 103, 104, 105, 106, 107, 35, 42, 108, 109, 110, 111, 112, 113, 114, 115, 116, 117, 118, 119, 169, 170, 147, 148, 149, 150, 151, 152, 153, 154, 155, 156, 157, 158, 159, 160, 161, 162, 163, 164, 171, 172, 173, 167, 168] (by decide +kernel) (by decide +kernel)
set_option maxRecDepth 20000 in
theorem gX10_apart_X1_takeApart : GoodIn wsX10_apart (wsV RX10 91 RX1 yX1_takeApart wsX1_takeApart) := goodIn_app (goodIn_of _ (by decide +kernel)) ggX10_apart_X1_takeApart
set_option maxRecDepth 20000 in
theorem ggX10_apart_X10_settled : GoodIn wsX10_apart wsX10_settled := goodIn_ca (goodIn_r _ [123, 124, 125, 1, 126, 127, 128, 7, 129, 10, 130, 131, 132, 133, 134, 135, 136, 137, 138, 139, 140, 141, 142, 143, 144, 145, 146] (by decide +kernel) (by decide +kernel)) (goodIn_sub (fun _ h => List.mem_cons_of_mem _ (List.mem_append_right _ h)) (by decide +kernel))
set_option maxRecDepth 20000 in
theorem gX10_apart_X10_settled : GoodIn wsX10_apart (wsV RX10 68 RX10 yX10_settled wsX10_settled) := goodIn_app (goodIn_of _ (by decide +kernel)) ggX10_apart_X10_settled
theorem dX10_apart_0 : decode cX10_apart 0 = .ok (.aload_n 0, 1) := by decide +kernel
theorem dX10_apart_1 : decode cX10_apart 1 = .ok (.getfield 29, 3) := by decide +kernel
theorem dX10_apart_4 : decode cX10_apart 4 = .ok (.aload_n 0, 1) := by decide +kernel
theorem dX10_apart_5 : decode cX10_apart 5 = .ok (.getfield 20, 3) := by decide +kernel
theorem dX10_apart_8 : decode cX10_apart 8 = .ok (.invokevirtual 60, 3) := by decide +kernel
theorem dX10_apart_11 : decode cX10_apart 11 = .ok (.aload_n 0, 1) := by decide +kernel
theorem dX10_apart_12 : decode cX10_apart 12 = .ok (.aload_n 0, 1) := by decide +kernel
theorem dX10_apart_13 : decode cX10_apart 13 = .ok (.getfield 10, 3) := by decide +kernel
theorem dX10_apart_16 : decode cX10_apart 16 = .ok (.iload_n 1, 1) := by decide +kernel
theorem dX10_apart_17 : decode cX10_apart 17 = .ok (.invokevirtual 91, 3) := by decide +kernel
theorem dX10_apart_20 : decode cX10_apart 20 = .ok (.invokevirtual 68, 3) := by decide +kernel
theorem dX10_apart_23 : decode cX10_apart 23 = .ok (.ireturn, 1) := by decide +kernel
set_option maxRecDepth 20000 in
theorem ggX10_move_X4_note : GoodIn wsX10_move wsX4_note := goodIn_r _ [8, 9, 10, 11, 12, 13, 14, 15, 16, 17, 18, 19, 20, 21, 22, 23, 24, 25, 26, 27, 28, 29, 30, 31, 32, 33, 34, 35, 36, 37, 38, 39, 40, 41, 42, 43, 44, 45, 46, 47, 48, 49, 50, 51, 52, 53, 54, 55, 56, 57, 130, 131, 132, 133, 134, 135, 136, 137, 138, 139, 140, 141, 142, 143, 144, 145, 146, 147, 148, 149, 150, 151, 152, 153, 154] (by decide +kernel) (by decide +kernel)
set_option maxRecDepth 20000 in
theorem gX10_move_X4_note : GoodIn wsX10_move (wsV RX10 60 RX4 yX4_note wsX4_note) := goodIn_app (goodIn_of _ (by decide +kernel)) ggX10_move_X4_note
set_option maxRecDepth 20000 in
theorem ggX10_move_X1_moveBox : GoodIn wsX10_move wsX1_moveBox := goodIn_r _ [62, 63, 64, 65, 66, 67, 68, 69, 14, 70, 16, 71, 72, 73, 74, 75, 76, 61, 77, 78, 79, 80, 81, 82, 83, 84, 85, 86, 87, 88, 89, 90, 91, 92, 93, 94, 95, 96, 97, 17, 98, 99, 100, 101, 102, 103, 104, 105, 155, 156, 133, 134, 135, 136, 137, 138, 139, 140, 141, 142, 143, 144, 145, 146, 147, 148, 149, 150, 157, 158, 159] (by decide +kernel) (by decide +kernel)
set_option maxRecDepth 20000 in
theorem gX10_move_X1_moveBox : GoodIn wsX10_move (wsV RX10 94 RX1 yX1_moveBox wsX1_moveBox) := goodIn_app (goodIn_of _ (by decide +kernel)) ggX10_move_X1_moveBox
set_option maxRecDepth 20000 in
theorem ggX10_move_X10_settled : GoodIn wsX10_move wsX10_settled := goodIn_ca (goodIn_r _ [109, 110, 111, 1, 112, 113, 114, 7, 115, 10, 116, 117, 118, 119, 120, 121, 122, 123, 124, 125, 126, 127, 128, 129, 130, 131, 132] (by decide +kernel) (by decide +kernel)) (goodIn_sub (fun _ h => List.mem_cons_of_mem _ (List.mem_append_right _ h)) (by decide +kernel))
set_option maxRecDepth 20000 in
theorem gX10_move_X10_settled : GoodIn wsX10_move (wsV RX10 68 RX10 yX10_settled wsX10_settled) := goodIn_app (goodIn_of _ (by decide +kernel)) ggX10_move_X10_settled
theorem dX10_move_0 : decode cX10_move 0 = .ok (.aload_n 0, 1) := by decide +kernel
theorem dX10_move_1 : decode cX10_move 1 = .ok (.getfield 29, 3) := by decide +kernel
theorem dX10_move_4 : decode cX10_move 4 = .ok (.aload_n 0, 1) := by decide +kernel
theorem dX10_move_5 : decode cX10_move 5 = .ok (.getfield 20, 3) := by decide +kernel
theorem dX10_move_8 : decode cX10_move 8 = .ok (.invokevirtual 60, 3) := by decide +kernel
theorem dX10_move_11 : decode cX10_move 11 = .ok (.aload_n 0, 1) := by decide +kernel
theorem dX10_move_12 : decode cX10_move 12 = .ok (.aload_n 0, 1) := by decide +kernel
theorem dX10_move_13 : decode cX10_move 13 = .ok (.getfield 10, 3) := by decide +kernel
theorem dX10_move_16 : decode cX10_move 16 = .ok (.iload_n 1, 1) := by decide +kernel
theorem dX10_move_17 : decode cX10_move 17 = .ok (.iload_n 2, 1) := by decide +kernel
theorem dX10_move_18 : decode cX10_move 18 = .ok (.invokevirtual 94, 3) := by decide +kernel
theorem dX10_move_21 : decode cX10_move 21 = .ok (.invokevirtual 68, 3) := by decide +kernel
theorem dX10_move_24 : decode cX10_move 24 = .ok (.ireturn, 1) := by decide +kernel
set_option maxRecDepth 20000 in
theorem ggX10_lose_X4_note : GoodIn wsX10_lose wsX4_note := goodIn_r _ [8, 9, 10, 11, 12, 13, 14, 15, 16, 17, 18, 19, 20, 21, 22, 23, 24, 25, 26, 27, 28, 29, 30, 31, 32, 33, 34, 35, 36, 37, 38, 39, 40, 41, 42, 43, 44, 45, 46, 47, 48, 49, 50, 51, 52, 53, 54, 55, 56, 57, 103, 104, 105, 106, 107, 108, 109, 110, 111, 112, 113, 114, 115, 116, 117, 118, 119, 120, 121, 122, 123, 124, 125, 126, 127] (by decide +kernel) (by decide +kernel)
set_option maxRecDepth 20000 in
theorem gX10_lose_X4_note : GoodIn wsX10_lose (wsV RX10 60 RX4 yX4_note wsX4_note) := goodIn_app (goodIn_of _ (by decide +kernel)) ggX10_lose_X4_note
set_option maxRecDepth 20000 in
theorem ggX10_lose_X1_loseParts : GoodIn wsX10_lose wsX1_loseParts := goodIn_r _ [62, 63, 64, 65, 66, 67, 68, 69, 70, 71, 72, 73, 74, 75, 76, 77, 78, 128, 129, 106, 107, 108, 109, 110, 111, 112, 113, 114, 126, 127, 130, 131, 132] (by decide +kernel) (by decide +kernel)
set_option maxRecDepth 20000 in
theorem gX10_lose_X1_loseParts : GoodIn wsX10_lose (wsV RX10 97 RX1 yX1_loseParts wsX1_loseParts) := goodIn_app (goodIn_of _ (by decide +kernel)) ggX10_lose_X1_loseParts
set_option maxRecDepth 20000 in
theorem ggX10_lose_X10_settled : GoodIn wsX10_lose wsX10_settled := goodIn_ca (goodIn_r _ [82, 83, 84, 1, 85, 86, 87, 7, 88, 10, 89, 90, 91, 92, 93, 94, 95, 96, 97, 98, 99, 100, 101, 102, 103, 104, 105] (by decide +kernel) (by decide +kernel)) (goodIn_sub (fun _ h => List.mem_cons_of_mem _ (List.mem_append_right _ h)) (by decide +kernel))
set_option maxRecDepth 20000 in
theorem gX10_lose_X10_settled : GoodIn wsX10_lose (wsV RX10 68 RX10 yX10_settled wsX10_settled) := goodIn_app (goodIn_of _ (by decide +kernel)) ggX10_lose_X10_settled
theorem dX10_lose_0 : decode cX10_lose 0 = .ok (.aload_n 0, 1) := by decide +kernel
theorem dX10_lose_1 : decode cX10_lose 1 = .ok (.getfield 29, 3) := by decide +kernel
theorem dX10_lose_4 : decode cX10_lose 4 = .ok (.aload_n 0, 1) := by decide +kernel
theorem dX10_lose_5 : decode cX10_lose 5 = .ok (.getfield 20, 3) := by decide +kernel
theorem dX10_lose_8 : decode cX10_lose 8 = .ok (.invokevirtual 60, 3) := by decide +kernel
theorem dX10_lose_11 : decode cX10_lose 11 = .ok (.aload_n 0, 1) := by decide +kernel
theorem dX10_lose_12 : decode cX10_lose 12 = .ok (.aload_n 0, 1) := by decide +kernel
theorem dX10_lose_13 : decode cX10_lose 13 = .ok (.getfield 10, 3) := by decide +kernel
theorem dX10_lose_16 : decode cX10_lose 16 = .ok (.iload_n 1, 1) := by decide +kernel
theorem dX10_lose_17 : decode cX10_lose 17 = .ok (.iload_n 2, 1) := by decide +kernel
theorem dX10_lose_18 : decode cX10_lose 18 = .ok (.invokevirtual 97, 3) := by decide +kernel
theorem dX10_lose_21 : decode cX10_lose 21 = .ok (.invokevirtual 68, 3) := by decide +kernel
theorem dX10_lose_24 : decode cX10_lose 24 = .ok (.ireturn, 1) := by decide +kernel
set_option maxRecDepth 20000 in
theorem ggX10_find_X4_note : GoodIn wsX10_find wsX4_note := goodIn_r _ [8, 9, 10, 11, 12, 13, 14, 15, 16, 17, 18, 19, 20, 21, 22, 23, 24, 25, 26, 27, 28, 29, 30, 31, 32, 33, 34, 35, 36, 37, 38, 39, 40, 41, 42, 43, 44, 45, 46, 47, 48, 49, 50, 51, 52, 53, 54, 55, 56, 57, 103, 104, 105, 106, 107, 108, 109, 110, 111, 112, 113, 114, 115, 116, 117, 118, 119, 120, 121, 122, 123, 124, 125, 126, 127] (by decide +kernel) (by decide +kernel)
set_option maxRecDepth 20000 in
theorem gX10_find_X4_note : GoodIn wsX10_find (wsV RX10 60 RX4 yX4_note wsX4_note) := goodIn_app (goodIn_of _ (by decide +kernel)) ggX10_find_X4_note
set_option maxRecDepth 20000 in
theorem ggX10_find_X1_findParts : GoodIn wsX10_find wsX1_findParts := goodIn_r _ [62, 63, 64, 65, 66, 67, 68, 69, 70, 71, 72, 73, 74, 75, 76, 77, 78, 128, 129, 106, 107, 108, 109, 110, 111, 112, 113, 114, 126, 127, 130, 131, 132] (by decide +kernel) (by decide +kernel)
set_option maxRecDepth 20000 in
theorem gX10_find_X1_findParts : GoodIn wsX10_find (wsV RX10 100 RX1 yX1_findParts wsX1_findParts) := goodIn_app (goodIn_of _ (by decide +kernel)) ggX10_find_X1_findParts
set_option maxRecDepth 20000 in
theorem ggX10_find_X10_settled : GoodIn wsX10_find wsX10_settled := goodIn_ca (goodIn_r _ [82, 83, 84, 1, 85, 86, 87, 7, 88, 10, 89, 90, 91, 92, 93, 94, 95, 96, 97, 98, 99, 100, 101, 102, 103, 104, 105] (by decide +kernel) (by decide +kernel)) (goodIn_sub (fun _ h => List.mem_cons_of_mem _ (List.mem_append_right _ h)) (by decide +kernel))
set_option maxRecDepth 20000 in
theorem gX10_find_X10_settled : GoodIn wsX10_find (wsV RX10 68 RX10 yX10_settled wsX10_settled) := goodIn_app (goodIn_of _ (by decide +kernel)) ggX10_find_X10_settled
theorem dX10_find_0 : decode cX10_find 0 = .ok (.aload_n 0, 1) := by decide +kernel
theorem dX10_find_1 : decode cX10_find 1 = .ok (.getfield 29, 3) := by decide +kernel
theorem dX10_find_4 : decode cX10_find 4 = .ok (.aload_n 0, 1) := by decide +kernel
theorem dX10_find_5 : decode cX10_find 5 = .ok (.getfield 20, 3) := by decide +kernel
theorem dX10_find_8 : decode cX10_find 8 = .ok (.invokevirtual 60, 3) := by decide +kernel
theorem dX10_find_11 : decode cX10_find 11 = .ok (.aload_n 0, 1) := by decide +kernel
theorem dX10_find_12 : decode cX10_find 12 = .ok (.aload_n 0, 1) := by decide +kernel
theorem dX10_find_13 : decode cX10_find 13 = .ok (.getfield 10, 3) := by decide +kernel
theorem dX10_find_16 : decode cX10_find 16 = .ok (.iload_n 1, 1) := by decide +kernel
theorem dX10_find_17 : decode cX10_find 17 = .ok (.iload_n 2, 1) := by decide +kernel
theorem dX10_find_18 : decode cX10_find 18 = .ok (.invokevirtual 100, 3) := by decide +kernel
theorem dX10_find_21 : decode cX10_find 21 = .ok (.invokevirtual 68, 3) := by decide +kernel
theorem dX10_find_24 : decode cX10_find 24 = .ok (.ireturn, 1) := by decide +kernel
set_option maxRecDepth 20000 in
theorem ggX10_settled_X4_keep : GoodIn wsX10_settled wsX4_keep := goodIn_r _ [8, 9, 10, 11, 12, 13, 14, 24, 25, 26] (by decide +kernel) (by decide +kernel)
set_option maxRecDepth 20000 in
theorem gX10_settled_X4_keep : GoodIn wsX10_settled (wsV RX10 110 RX4 yX4_keep wsX4_keep) := goodIn_app (goodIn_of _ (by decide +kernel)) ggX10_settled_X4_keep
theorem dX10_settled_0 : decode cX10_settled 0 = .ok (.iload_n 1, 1) := by decide +kernel
theorem dX10_settled_1 : decode cX10_settled 1 = .ok (.iconst (-1), 1) := by decide +kernel
theorem dX10_settled_2 : decode cX10_settled 2 = .ok (.if_icmp .ne 13, 3) := by decide +kernel
theorem dX10_settled_5 : decode cX10_settled 5 = .ok (.new 103, 3) := by decide +kernel
theorem dX10_settled_8 : decode cX10_settled 8 = .ok (.dup, 1) := by decide +kernel
theorem dX10_settled_9 : decode cX10_settled 9 = .ok (.ldc 105, 2) := by decide +kernel
theorem dX10_settled_11 : decode cX10_settled 11 = .ok (.invokespecial 107, 3) := by decide +kernel
theorem dX10_settled_14 : decode cX10_settled 14 = .ok (.athrow, 1) := by decide +kernel
theorem dX10_settled_15 : decode cX10_settled 15 = .ok (.aload_n 0, 1) := by decide +kernel
theorem dX10_settled_16 : decode cX10_settled 16 = .ok (.getfield 29, 3) := by decide +kernel
theorem dX10_settled_19 : decode cX10_settled 19 = .ok (.invokevirtual 110, 3) := by decide +kernel
theorem dX10_settled_22 : decode cX10_settled 22 = .ok (.iload_n 1, 1) := by decide +kernel
theorem dX10_settled_23 : decode cX10_settled 23 = .ok (.ireturn, 1) := by decide +kernel
set_option maxRecDepth 20000 in
theorem ggX10_leafletOf_X10_leafletAt : GoodIn wsX10_leafletOf wsX10_leafletAt := goodIn_ca (goodIn_r _ [12, 13, 14, 15, 16, 17, 18, 19, 20, 21, 22, 23, 11, 24, 73, 74, 75, 76, 77, 78, 79, 80, 81, 82, 83, 84, 85, 86, 87, 88, 89, 90] (by decide +kernel) (by decide +kernel)) (goodIn_sub (fun _ h => List.mem_cons_of_mem _ (List.mem_append_right _ h)) (by decide +kernel))
set_option maxRecDepth 20000 in
theorem gX10_leafletOf_X10_leafletAt : GoodIn wsX10_leafletOf (wsV RX10 113 RX10 yX10_leafletAt wsX10_leafletAt) := goodIn_app (goodIn_of _ (by decide +kernel)) ggX10_leafletOf_X10_leafletAt
set_option maxRecDepth 20000 in
theorem ggX10_leafletOf_X5_open : GoodIn wsX10_leafletOf wsX5_open := goodIn_r _ [29, 30, 31, 32, 33, 28, 34, 35, 64, 65, 66, 67, 68, 69, 70, 71, 72] (by decide +kernel) (by decide +kernel)
set_option maxRecDepth 20000 in
theorem gX10_leafletOf_X5_open : GoodIn wsX10_leafletOf (wsV RX10 126 RX5 yX5_open wsX5_open) := goodIn_app (goodIn_of _ (by decide +kernel)) ggX10_leafletOf_X5_open
set_option maxRecDepth 20000 in
theorem ggX10_leafletOf_X5_skippedSteps : GoodIn wsX10_leafletOf wsX5_skippedSteps := goodIn_r _ [39, 40, 41, 42, 43, 44, 45, 46, 47, 64, 65, 66, 67, 68, 69, 70, 71, 72] (by decide +kernel) (by decide +kernel)
set_option maxRecDepth 20000 in
theorem gX10_leafletOf_X5_skippedSteps : GoodIn wsX10_leafletOf (wsV RX10 136 RX5 yX5_skippedSteps wsX5_skippedSteps) := goodIn_app (goodIn_of _ (by decide +kernel)) ggX10_leafletOf_X5_skippedSteps
set_option maxRecDepth 20000 in
theorem ggX10_leafletOf_X5_allSteps : GoodIn wsX10_leafletOf wsX5_allSteps := goodIn_r _ [51, 35, 64, 65, 66, 67, 68, 69, 70, 71, 72] (by decide +kernel) (by decide +kernel)
set_option maxRecDepth 20000 in
theorem gX10_leafletOf_X5_allSteps : GoodIn wsX10_leafletOf (wsV RX10 139 RX5 yX5_allSteps wsX5_allSteps) := goodIn_app (goodIn_of _ (by decide +kernel)) ggX10_leafletOf_X5_allSteps
set_option maxRecDepth 20000 in
theorem ggX10_leafletOf_X5_partsOf : GoodIn wsX10_leafletOf wsX5_partsOf := goodIn_r _ [55, 35, 56, 11, 57, 58, 59, 60, 28, 61, 62, 63, 64, 65, 66, 67, 68, 69, 70, 71, 72] (by decide +kernel) (by decide +kernel)
set_option maxRecDepth 20000 in
theorem gX10_leafletOf_X5_partsOf : GoodIn wsX10_leafletOf (wsV RX10 142 RX5 yX5_partsOf wsX5_partsOf) := goodIn_app (goodIn_of _ (by decide +kernel)) ggX10_leafletOf_X5_partsOf
theorem dX10_leafletOf_0 : decode cX10_leafletOf 0 = .ok (.aload_n 0, 1) := by decide +kernel
theorem dX10_leafletOf_1 : decode cX10_leafletOf 1 = .ok (.iload_n 1, 1) := by decide +kernel
theorem dX10_leafletOf_2 : decode cX10_leafletOf 2 = .ok (.invokevirtual 113, 3) := by decide +kernel
theorem dX10_leafletOf_5 : decode cX10_leafletOf 5 = .ok (.astore_n 3, 1) := by decide +kernel
theorem dX10_leafletOf_6 : decode cX10_leafletOf 6 = .ok (.iload_n 2, 1) := by decide +kernel
theorem dX10_leafletOf_7 : decode cX10_leafletOf 7 = .ok (.tableswitch 93 0 7 #[45, 50, 55, 60, 65, 70, 75, 84], 45) := by decide +kernel
theorem dX10_leafletOf_52 : decode cX10_leafletOf 52 = .ok (.aload_n 3, 1) := by decide +kernel
theorem dX10_leafletOf_53 : decode cX10_leafletOf 53 = .ok (.getfield 117, 3) := by decide +kernel
theorem dX10_leafletOf_56 : decode cX10_leafletOf 56 = .ok (.ireturn, 1) := by decide +kernel
theorem dX10_leafletOf_57 : decode cX10_leafletOf 57 = .ok (.aload_n 3, 1) := by decide +kernel
theorem dX10_leafletOf_58 : decode cX10_leafletOf 58 = .ok (.getfield 123, 3) := by decide +kernel
theorem dX10_leafletOf_61 : decode cX10_leafletOf 61 = .ok (.ireturn, 1) := by decide +kernel
theorem dX10_leafletOf_62 : decode cX10_leafletOf 62 = .ok (.aload_n 3, 1) := by decide +kernel
theorem dX10_leafletOf_63 : decode cX10_leafletOf 63 = .ok (.invokevirtual 126, 3) := by decide +kernel
theorem dX10_leafletOf_66 : decode cX10_leafletOf 66 = .ok (.ireturn, 1) := by decide +kernel
theorem dX10_leafletOf_67 : decode cX10_leafletOf 67 = .ok (.aload_n 3, 1) := by decide +kernel
theorem dX10_leafletOf_68 : decode cX10_leafletOf 68 = .ok (.getfield 130, 3) := by decide +kernel
theorem dX10_leafletOf_71 : decode cX10_leafletOf 71 = .ok (.ireturn, 1) := by decide +kernel
theorem dX10_leafletOf_72 : decode cX10_leafletOf 72 = .ok (.aload_n 3, 1) := by decide +kernel
theorem dX10_leafletOf_73 : decode cX10_leafletOf 73 = .ok (.getfield 133, 3) := by decide +kernel
theorem dX10_leafletOf_76 : decode cX10_leafletOf 76 = .ok (.ireturn, 1) := by decide +kernel
theorem dX10_leafletOf_77 : decode cX10_leafletOf 77 = .ok (.aload_n 3, 1) := by decide +kernel
theorem dX10_leafletOf_78 : decode cX10_leafletOf 78 = .ok (.invokevirtual 136, 3) := by decide +kernel
theorem dX10_leafletOf_81 : decode cX10_leafletOf 81 = .ok (.ireturn, 1) := by decide +kernel
theorem dX10_leafletOf_82 : decode cX10_leafletOf 82 = .ok (.aload_n 3, 1) := by decide +kernel
theorem dX10_leafletOf_83 : decode cX10_leafletOf 83 = .ok (.aload_n 3, 1) := by decide +kernel
theorem dX10_leafletOf_84 : decode cX10_leafletOf 84 = .ok (.invokevirtual 139, 3) := by decide +kernel
theorem dX10_leafletOf_87 : decode cX10_leafletOf 87 = .ok (.invokevirtual 142, 3) := by decide +kernel
theorem dX10_leafletOf_90 : decode cX10_leafletOf 90 = .ok (.ireturn, 1) := by decide +kernel
theorem dX10_leafletOf_91 : decode cX10_leafletOf 91 = .ok (.aload_n 3, 1) := by decide +kernel
theorem dX10_leafletOf_92 : decode cX10_leafletOf 92 = .ok (.aload_n 3, 1) := by decide +kernel
theorem dX10_leafletOf_93 : decode cX10_leafletOf 93 = .ok (.getfield 145, 3) := by decide +kernel
theorem dX10_leafletOf_96 : decode cX10_leafletOf 96 = .ok (.invokevirtual 142, 3) := by decide +kernel
theorem dX10_leafletOf_99 : decode cX10_leafletOf 99 = .ok (.ireturn, 1) := by decide +kernel
theorem dX10_leafletOf_100 : decode cX10_leafletOf 100 = .ok (.new 148, 3) := by decide +kernel
theorem dX10_leafletOf_103 : decode cX10_leafletOf 103 = .ok (.dup, 1) := by decide +kernel
theorem dX10_leafletOf_104 : decode cX10_leafletOf 104 = .ok (.ldc 150, 2) := by decide +kernel
theorem dX10_leafletOf_106 : decode cX10_leafletOf 106 = .ok (.invokespecial 152, 3) := by decide +kernel
theorem dX10_leafletOf_109 : decode cX10_leafletOf 109 = .ok (.athrow, 1) := by decide +kernel
set_option maxRecDepth 20000 in
theorem ggX10_stepOf_X10_leafletAt : GoodIn wsX10_stepOf wsX10_leafletAt := goodIn_ca (goodIn_r _ [10, 11, 12, 13, 14, 15, 16, 17, 18, 19, 20, 21, 9, 22, 57, 58, 59, 60, 61, 62, 63, 64, 65, 66, 67, 68, 69, 70, 71, 72, 73, 74] (by decide +kernel) (by decide +kernel)) (goodIn_sub (fun _ h => List.mem_cons_of_mem _ (List.mem_append_left _ (List.mem_append_right _ h))) (by decide +kernel))
set_option maxRecDepth 20000 in
theorem gX10_stepOf_X10_leafletAt : GoodIn wsX10_stepOf (wsV RX10 113 RX10 yX10_leafletAt wsX10_leafletAt) := goodIn_app (goodIn_of _ (by decide +kernel)) ggX10_stepOf_X10_leafletAt
set_option maxRecDepth 20000 in
theorem ggX10_stepOf_X10_requireStep : GoodIn wsX10_stepOf wsX10_requireStep := goodIn_ca (goodIn_r _ [26, 27, 28, 29, 30, 31, 32, 33, 34, 21, 9, 22, 48, 49, 50, 51, 52, 53, 54, 55, 56] (by decide +kernel) (by decide +kernel)) (goodIn_sub (fun _ h => List.mem_cons_of_mem _ (List.mem_append_right _ h)) (by decide +kernel))
set_option maxRecDepth 20000 in
theorem gX10_stepOf_X10_requireStep : GoodIn wsX10_stepOf (wsV RX10 153 RX10 yX10_requireStep wsX10_requireStep) := goodIn_app (goodIn_of _ (by decide +kernel)) ggX10_stepOf_X10_requireStep
set_option maxRecDepth 20000 in
theorem ggX10_stepOf_X5_partsOfStep : GoodIn wsX10_stepOf wsX5_partsOfStep := goodIn_r _ [38, 39, 40, 48, 49, 50, 51, 52, 53, 54, 55, 56] (by decide +kernel) (by decide +kernel)
set_option maxRecDepth 20000 in
theorem gX10_stepOf_X5_partsOfStep : GoodIn wsX10_stepOf (wsV RX10 161 RX5 yX5_partsOfStep wsX5_partsOfStep) := goodIn_app (goodIn_of _ (by decide +kernel)) ggX10_stepOf_X5_partsOfStep
set_option maxRecDepth 20000 in
theorem ggX10_stepOf_X5_isSkipped : GoodIn wsX10_stepOf wsX5_isSkipped := goodIn_r _ [44, 45, 46, 9, 47, 48, 49, 50, 51, 52, 53, 54, 55, 56] (by decide +kernel) (by decide +kernel)
set_option maxRecDepth 20000 in
theorem gX10_stepOf_X5_isSkipped : GoodIn wsX10_stepOf (wsV RX10 170 RX5 yX5_isSkipped wsX5_isSkipped) := goodIn_app (goodIn_of _ (by decide +kernel)) ggX10_stepOf_X5_isSkipped
theorem dX10_stepOf_0 : decode cX10_stepOf 0 = .ok (.aload_n 0, 1) := by decide +kernel
theorem dX10_stepOf_1 : decode cX10_stepOf 1 = .ok (.iload_n 1, 1) := by decide +kernel
theorem dX10_stepOf_2 : decode cX10_stepOf 2 = .ok (.invokevirtual 113, 3) := by decide +kernel
theorem dX10_stepOf_5 : decode cX10_stepOf 5 = .ok (.astore 4, 2) := by decide +kernel
theorem dX10_stepOf_7 : decode cX10_stepOf 7 = .ok (.aload_n 0, 1) := by decide +kernel
theorem dX10_stepOf_8 : decode cX10_stepOf 8 = .ok (.aload 4, 2) := by decide +kernel
theorem dX10_stepOf_10 : decode cX10_stepOf 10 = .ok (.iload_n 2, 1) := by decide +kernel
theorem dX10_stepOf_11 : decode cX10_stepOf 11 = .ok (.invokevirtual 153, 3) := by decide +kernel
theorem dX10_stepOf_14 : decode cX10_stepOf 14 = .ok (.iload_n 3, 1) := by decide +kernel
theorem dX10_stepOf_15 : decode cX10_stepOf 15 = .ok (.tableswitch 81 0 4 #[33, 41, 48, 56, 66], 33) := by decide +kernel
theorem dX10_stepOf_48 : decode cX10_stepOf 48 = .ok (.aload 4, 2) := by decide +kernel
theorem dX10_stepOf_50 : decode cX10_stepOf 50 = .ok (.getfield 157, 3) := by decide +kernel
theorem dX10_stepOf_53 : decode cX10_stepOf 53 = .ok (.iload_n 2, 1) := by decide +kernel
theorem dX10_stepOf_54 : decode cX10_stepOf 54 = .ok (.iaload, 1) := by decide +kernel
theorem dX10_stepOf_55 : decode cX10_stepOf 55 = .ok (.ireturn, 1) := by decide +kernel
theorem dX10_stepOf_56 : decode cX10_stepOf 56 = .ok (.aload 4, 2) := by decide +kernel
theorem dX10_stepOf_58 : decode cX10_stepOf 58 = .ok (.iload_n 2, 1) := by decide +kernel
theorem dX10_stepOf_59 : decode cX10_stepOf 59 = .ok (.invokevirtual 161, 3) := by decide +kernel
theorem dX10_stepOf_62 : decode cX10_stepOf 62 = .ok (.ireturn, 1) := by decide +kernel
theorem dX10_stepOf_63 : decode cX10_stepOf 63 = .ok (.aload 4, 2) := by decide +kernel
theorem dX10_stepOf_65 : decode cX10_stepOf 65 = .ok (.getfield 164, 3) := by decide +kernel
theorem dX10_stepOf_68 : decode cX10_stepOf 68 = .ok (.iload_n 2, 1) := by decide +kernel
theorem dX10_stepOf_69 : decode cX10_stepOf 69 = .ok (.iaload, 1) := by decide +kernel
theorem dX10_stepOf_70 : decode cX10_stepOf 70 = .ok (.ireturn, 1) := by decide +kernel
theorem dX10_stepOf_71 : decode cX10_stepOf 71 = .ok (.aload 4, 2) := by decide +kernel
theorem dX10_stepOf_73 : decode cX10_stepOf 73 = .ok (.getfield 167, 3) := by decide +kernel
theorem dX10_stepOf_76 : decode cX10_stepOf 76 = .ok (.iload_n 2, 1) := by decide +kernel
theorem dX10_stepOf_77 : decode cX10_stepOf 77 = .ok (.iaload, 1) := by decide +kernel
theorem dX10_stepOf_78 : decode cX10_stepOf 78 = .ok (.iconst 1, 1) := by decide +kernel
theorem dX10_stepOf_79 : decode cX10_stepOf 79 = .ok (.isub, 1) := by decide +kernel
theorem dX10_stepOf_80 : decode cX10_stepOf 80 = .ok (.ireturn, 1) := by decide +kernel
theorem dX10_stepOf_81 : decode cX10_stepOf 81 = .ok (.aload 4, 2) := by decide +kernel
theorem dX10_stepOf_83 : decode cX10_stepOf 83 = .ok (.iload_n 2, 1) := by decide +kernel
theorem dX10_stepOf_84 : decode cX10_stepOf 84 = .ok (.invokevirtual 170, 3) := by decide +kernel
theorem dX10_stepOf_87 : decode cX10_stepOf 87 = .ok (.ifCond .eq 7, 3) := by decide +kernel
theorem dX10_stepOf_90 : decode cX10_stepOf 90 = .ok (.iconst 1, 1) := by decide +kernel
theorem dX10_stepOf_91 : decode cX10_stepOf 91 = .ok (.goto 4, 3) := by decide +kernel
theorem dX10_stepOf_94 : decode cX10_stepOf 94 = .ok (.iconst 0, 1) := by decide +kernel
theorem dX10_stepOf_95 : decode cX10_stepOf 95 = .ok (.ireturn, 1) := by decide +kernel
theorem dX10_stepOf_96 : decode cX10_stepOf 96 = .ok (.new 148, 3) := by decide +kernel
theorem dX10_stepOf_99 : decode cX10_stepOf 99 = .ok (.dup, 1) := by decide +kernel
theorem dX10_stepOf_100 : decode cX10_stepOf 100 = .ok (.ldc 174, 2) := by decide +kernel
theorem dX10_stepOf_102 : decode cX10_stepOf 102 = .ok (.invokespecial 152, 3) := by decide +kernel
theorem dX10_stepOf_105 : decode cX10_stepOf 105 = .ok (.athrow, 1) := by decide +kernel
set_option maxRecDepth 20000 in
theorem ggX10_cousinOf_X10_cousinAt : GoodIn wsX10_cousinOf wsX10_cousinAt := goodIn_ca (goodIn_r _ [10, 11, 12, 5, 13, 14, 15, 16, 17, 18, 19, 20, 9, 21, 49, 50, 51, 52, 53, 54, 55, 56, 57, 58, 59, 60, 61, 62, 63, 64, 65, 66] (by decide +kernel) (by decide +kernel)) (goodIn_sub (fun _ h => List.mem_cons_of_mem _ (List.mem_append_right _ h)) (by decide +kernel))
set_option maxRecDepth 20000 in
theorem gX10_cousinOf_X10_cousinAt : GoodIn wsX10_cousinOf (wsV RX10 176 RX10 yX10_cousinAt wsX10_cousinAt) := goodIn_app (goodIn_of _ (by decide +kernel)) ggX10_cousinOf_X10_cousinAt
set_option maxRecDepth 20000 in
theorem ggX10_cousinOf_J6_bitCount_0f7a4 : GoodIn wsX10_cousinOf wsJ6_bitCount_0f7a4 := goodIn_r _ [25, 26, 27, 28] (by decide +kernel) (by decide +kernel)
set_option maxRecDepth 20000 in
theorem gX10_cousinOf_J6_bitCount_0f7a4 : GoodIn wsX10_cousinOf (va_wsS RX10 187 yJ6_bitCount_0f7a4 wsJ6_bitCount_0f7a4) := goodIn_app (goodIn_of _ (by decide +kernel)) ggX10_cousinOf_J6_bitCount_0f7a4
set_option maxRecDepth 20000 in
theorem ggX10_cousinOf_X0_leafletsBuiltBy : GoodIn wsX10_cousinOf wsX0_leafletsBuiltBy := goodIn_r _ [32, 33, 34, 35, 58, 59, 60, 61, 62, 63, 64, 65, 66, 67, 68, 69, 70, 71, 72, 73, 74, 75] (by decide +kernel) (by decide +kernel)
set_option maxRecDepth 20000 in
theorem gX10_cousinOf_X0_leafletsBuiltBy : GoodIn wsX10_cousinOf (wsV RX10 192 RX0 yX0_leafletsBuiltBy wsX0_leafletsBuiltBy) := goodIn_app (goodIn_of _ (by decide +kernel)) ggX10_cousinOf_X0_leafletsBuiltBy
set_option maxRecDepth 20000 in
theorem ggX10_cousinOf_X0_stepsSkippedBy : GoodIn wsX10_cousinOf wsX0_stepsSkippedBy := goodIn_r _ [39, 33, 34, 35, 40, 41, 42, 43, 44, 45, 46, 23, 24, 25, 26, 27, 28, 58, 59, 60, 61, 62, 63, 64, 65, 66, 67, 68, 69, 70, 71, 72, 73, 74, 75] (by decide +kernel) (by decide +kernel)
set_option maxRecDepth 20000 in
theorem gX10_cousinOf_X0_stepsSkippedBy : GoodIn wsX10_cousinOf (wsV RX10 195 RX0 yX0_stepsSkippedBy wsX0_stepsSkippedBy) := goodIn_app (goodIn_of _ (by decide +kernel)) ggX10_cousinOf_X0_stepsSkippedBy
theorem dX10_cousinOf_0 : decode cX10_cousinOf 0 = .ok (.aload_n 0, 1) := by decide +kernel
theorem dX10_cousinOf_1 : decode cX10_cousinOf 1 = .ok (.iload_n 1, 1) := by decide +kernel
theorem dX10_cousinOf_2 : decode cX10_cousinOf 2 = .ok (.invokevirtual 176, 3) := by decide +kernel
