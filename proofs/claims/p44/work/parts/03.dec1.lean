set_option maxRecDepth 20000 in
theorem ggX0_init_X9_init : GoodIn wsX0_init wsX9_init := goodIn_r _ [17, 18, 2, 3, 19, 20, 21, 41, 42] (by decide +kernel) (by decide +kernel)
set_option maxRecDepth 20000 in
theorem gX0_init_X9_init_n25 : GoodIn wsX0_init (wsX9_init) := ggX0_init_X9_init
set_option maxRecDepth 20000 in
theorem ggX0_init_X5_init : GoodIn wsX0_init wsX5_init := goodIn_r _ [23, 24, 2, 3, 19, 25, 26, 27, 28, 43, 44, 45, 46, 47, 48, 49, 50, 51] (by decide +kernel) (by decide +kernel)
set_option maxRecDepth 20000 in
theorem gX0_init_X5_init_n30 : GoodIn wsX0_init (wsX5_init) := ggX0_init_X5_init
set_option maxRecDepth 20000 in
theorem ggX0_init_X3_init : GoodIn wsX0_init wsX3_init := goodIn_r _ [30, 31, 2, 3] (by decide +kernel) (by decide +kernel)
set_option maxRecDepth 20000 in
theorem gX0_init_X3_init_n31 : GoodIn wsX0_init (wsX3_init) := ggX0_init_X3_init
theorem dX0_init_0 : decode cX0_init 0 = .ok (.aload_n 0, 1) := by decide +kernel
theorem dX0_init_1 : decode cX0_init 1 = .ok (.invokespecial 3, 3) := by decide +kernel
theorem dX0_init_4 : decode cX0_init 4 = .ok (.aload_n 0, 1) := by decide +kernel
theorem dX0_init_5 : decode cX0_init 5 = .ok (.bipush 8, 2) := by decide +kernel
theorem dX0_init_7 : decode cX0_init 7 = .ok (.anewarray 9, 3) := by decide +kernel
theorem dX0_init_10 : decode cX0_init 10 = .ok (.putfield 11, 3) := by decide +kernel
theorem dX0_init_13 : decode cX0_init 13 = .ok (.aload_n 0, 1) := by decide +kernel
theorem dX0_init_14 : decode cX0_init 14 = .ok (.iconst 5, 1) := by decide +kernel
theorem dX0_init_15 : decode cX0_init 15 = .ok (.anewarray 17, 3) := by decide +kernel
theorem dX0_init_18 : decode cX0_init 18 = .ok (.putfield 19, 3) := by decide +kernel
theorem dX0_init_21 : decode cX0_init 21 = .ok (.aload_n 0, 1) := by decide +kernel
theorem dX0_init_22 : decode cX0_init 22 = .ok (.new 23, 3) := by decide +kernel
theorem dX0_init_25 : decode cX0_init 25 = .ok (.dup, 1) := by decide +kernel
theorem dX0_init_26 : decode cX0_init 26 = .ok (.invokespecial 25, 3) := by decide +kernel
theorem dX0_init_29 : decode cX0_init 29 = .ok (.putfield 26, 3) := by decide +kernel
theorem dX0_init_32 : decode cX0_init 32 = .ok (.iconst 0, 1) := by decide +kernel
theorem dX0_init_33 : decode cX0_init 33 = .ok (.istore_n 1, 1) := by decide +kernel
theorem dX0_init_34 : decode cX0_init 34 = .ok (.iload_n 1, 1) := by decide +kernel
theorem dX0_init_35 : decode cX0_init 35 = .ok (.bipush 8, 2) := by decide +kernel
theorem dX0_init_37 : decode cX0_init 37 = .ok (.if_icmp .ge 22, 3) := by decide +kernel
theorem dX0_init_40 : decode cX0_init 40 = .ok (.aload_n 0, 1) := by decide +kernel
theorem dX0_init_41 : decode cX0_init 41 = .ok (.getfield 11, 3) := by decide +kernel
theorem dX0_init_44 : decode cX0_init 44 = .ok (.iload_n 1, 1) := by decide +kernel
theorem dX0_init_45 : decode cX0_init 45 = .ok (.new 9, 3) := by decide +kernel
theorem dX0_init_48 : decode cX0_init 48 = .ok (.dup, 1) := by decide +kernel
theorem dX0_init_49 : decode cX0_init 49 = .ok (.invokespecial 30, 3) := by decide +kernel
theorem dX0_init_52 : decode cX0_init 52 = .ok (.aastore, 1) := by decide +kernel
theorem dX0_init_53 : decode cX0_init 53 = .ok (.iinc 1 1, 3) := by decide +kernel
theorem dX0_init_56 : decode cX0_init 56 = .ok (.goto (-22), 3) := by decide +kernel
theorem dX0_init_59 : decode cX0_init 59 = .ok (.iconst 0, 1) := by decide +kernel
theorem dX0_init_60 : decode cX0_init 60 = .ok (.istore_n 1, 1) := by decide +kernel
theorem dX0_init_61 : decode cX0_init 61 = .ok (.iload_n 1, 1) := by decide +kernel
theorem dX0_init_62 : decode cX0_init 62 = .ok (.iconst 5, 1) := by decide +kernel
theorem dX0_init_63 : decode cX0_init 63 = .ok (.if_icmp .ge 22, 3) := by decide +kernel
theorem dX0_init_66 : decode cX0_init 66 = .ok (.aload_n 0, 1) := by decide +kernel
theorem dX0_init_67 : decode cX0_init 67 = .ok (.getfield 19, 3) := by decide +kernel
theorem dX0_init_70 : decode cX0_init 70 = .ok (.iload_n 1, 1) := by decide +kernel
theorem dX0_init_71 : decode cX0_init 71 = .ok (.new 17, 3) := by decide +kernel
theorem dX0_init_74 : decode cX0_init 74 = .ok (.dup, 1) := by decide +kernel
theorem dX0_init_75 : decode cX0_init 75 = .ok (.invokespecial 31, 3) := by decide +kernel
theorem dX0_init_78 : decode cX0_init 78 = .ok (.aastore, 1) := by decide +kernel
theorem dX0_init_79 : decode cX0_init 79 = .ok (.iinc 1 1, 3) := by decide +kernel
theorem dX0_init_82 : decode cX0_init 82 = .ok (.goto (-21), 3) := by decide +kernel
theorem dX0_init_85 : decode cX0_init 85 = .ok (.return_, 1) := by decide +kernel
set_option maxRecDepth 20000 in
theorem ggX0_copyFrom_X5_copyFrom : GoodIn wsX0_copyFrom wsX5_copyFrom := goodIn_r _ [14, 15, 16, 17, 18, 19, 20, 21, 22, 23, 24, 25, 26, 27, 52, 53, 54, 55, 56, 57, 58, 59, 60] (by decide +kernel) (by decide +kernel)
set_option maxRecDepth 20000 in
theorem gX0_copyFrom_X5_copyFrom : GoodIn wsX0_copyFrom (wsV RX0 36 RX5 yX5_copyFrom wsX5_copyFrom) := goodIn_app (goodIn_of _ (by decide +kernel)) ggX0_copyFrom_X5_copyFrom
set_option maxRecDepth 20000 in
theorem ggX0_copyFrom_X3_copyFrom : GoodIn wsX0_copyFrom wsX3_copyFrom := goodIn_r _ [32, 33, 34, 61, 62] (by decide +kernel) (by decide +kernel)
set_option maxRecDepth 20000 in
theorem gX0_copyFrom_X3_copyFrom : GoodIn wsX0_copyFrom (wsV RX0 43 RX3 yX3_copyFrom wsX3_copyFrom) := goodIn_app (goodIn_of _ (by decide +kernel)) ggX0_copyFrom_X3_copyFrom
set_option maxRecDepth 20000 in
theorem ggX0_copyFrom_X9_copyFrom : GoodIn wsX0_copyFrom wsX9_copyFrom := goodIn_r _ [39, 40, 41, 22, 23, 24, 42, 63, 64] (by decide +kernel) (by decide +kernel)
set_option maxRecDepth 20000 in
theorem gX0_copyFrom_X9_copyFrom : GoodIn wsX0_copyFrom (wsV RX0 46 RX9 yX9_copyFrom wsX9_copyFrom) := goodIn_app (goodIn_of _ (by decide +kernel)) ggX0_copyFrom_X9_copyFrom
theorem dX0_copyFrom_0 : decode cX0_copyFrom 0 = .ok (.aload_n 0, 1) := by decide +kernel
theorem dX0_copyFrom_1 : decode cX0_copyFrom 1 = .ok (.aload_n 1, 1) := by decide +kernel
theorem dX0_copyFrom_2 : decode cX0_copyFrom 2 = .ok (.getfield 32, 3) := by decide +kernel
theorem dX0_copyFrom_5 : decode cX0_copyFrom 5 = .ok (.putfield 32, 3) := by decide +kernel
theorem dX0_copyFrom_8 : decode cX0_copyFrom 8 = .ok (.iconst 0, 1) := by decide +kernel
theorem dX0_copyFrom_9 : decode cX0_copyFrom 9 = .ok (.istore_n 2, 1) := by decide +kernel
theorem dX0_copyFrom_10 : decode cX0_copyFrom 10 = .ok (.iload_n 2, 1) := by decide +kernel
theorem dX0_copyFrom_11 : decode cX0_copyFrom 11 = .ok (.aload_n 0, 1) := by decide +kernel
theorem dX0_copyFrom_12 : decode cX0_copyFrom 12 = .ok (.getfield 32, 3) := by decide +kernel
theorem dX0_copyFrom_15 : decode cX0_copyFrom 15 = .ok (.if_icmp .ge 24, 3) := by decide +kernel
theorem dX0_copyFrom_18 : decode cX0_copyFrom 18 = .ok (.aload_n 0, 1) := by decide +kernel
theorem dX0_copyFrom_19 : decode cX0_copyFrom 19 = .ok (.getfield 11, 3) := by decide +kernel
theorem dX0_copyFrom_22 : decode cX0_copyFrom 22 = .ok (.iload_n 2, 1) := by decide +kernel
theorem dX0_copyFrom_23 : decode cX0_copyFrom 23 = .ok (.aaload, 1) := by decide +kernel
theorem dX0_copyFrom_24 : decode cX0_copyFrom 24 = .ok (.aload_n 1, 1) := by decide +kernel
theorem dX0_copyFrom_25 : decode cX0_copyFrom 25 = .ok (.getfield 11, 3) := by decide +kernel
theorem dX0_copyFrom_28 : decode cX0_copyFrom 28 = .ok (.iload_n 2, 1) := by decide +kernel
theorem dX0_copyFrom_29 : decode cX0_copyFrom 29 = .ok (.aaload, 1) := by decide +kernel
theorem dX0_copyFrom_30 : decode cX0_copyFrom 30 = .ok (.invokevirtual 36, 3) := by decide +kernel
theorem dX0_copyFrom_33 : decode cX0_copyFrom 33 = .ok (.iinc 2 1, 3) := by decide +kernel
theorem dX0_copyFrom_36 : decode cX0_copyFrom 36 = .ok (.goto (-26), 3) := by decide +kernel
theorem dX0_copyFrom_39 : decode cX0_copyFrom 39 = .ok (.aload_n 0, 1) := by decide +kernel
theorem dX0_copyFrom_40 : decode cX0_copyFrom 40 = .ok (.aload_n 1, 1) := by decide +kernel
theorem dX0_copyFrom_41 : decode cX0_copyFrom 41 = .ok (.getfield 40, 3) := by decide +kernel
theorem dX0_copyFrom_44 : decode cX0_copyFrom 44 = .ok (.putfield 40, 3) := by decide +kernel
theorem dX0_copyFrom_47 : decode cX0_copyFrom 47 = .ok (.iconst 0, 1) := by decide +kernel
theorem dX0_copyFrom_48 : decode cX0_copyFrom 48 = .ok (.istore_n 2, 1) := by decide +kernel
theorem dX0_copyFrom_49 : decode cX0_copyFrom 49 = .ok (.iload_n 2, 1) := by decide +kernel
theorem dX0_copyFrom_50 : decode cX0_copyFrom 50 = .ok (.aload_n 0, 1) := by decide +kernel
theorem dX0_copyFrom_51 : decode cX0_copyFrom 51 = .ok (.getfield 40, 3) := by decide +kernel
theorem dX0_copyFrom_54 : decode cX0_copyFrom 54 = .ok (.if_icmp .ge 24, 3) := by decide +kernel
theorem dX0_copyFrom_57 : decode cX0_copyFrom 57 = .ok (.aload_n 0, 1) := by decide +kernel
theorem dX0_copyFrom_58 : decode cX0_copyFrom 58 = .ok (.getfield 19, 3) := by decide +kernel
theorem dX0_copyFrom_61 : decode cX0_copyFrom 61 = .ok (.iload_n 2, 1) := by decide +kernel
theorem dX0_copyFrom_62 : decode cX0_copyFrom 62 = .ok (.aaload, 1) := by decide +kernel
theorem dX0_copyFrom_63 : decode cX0_copyFrom 63 = .ok (.aload_n 1, 1) := by decide +kernel
theorem dX0_copyFrom_64 : decode cX0_copyFrom 64 = .ok (.getfield 19, 3) := by decide +kernel
theorem dX0_copyFrom_67 : decode cX0_copyFrom 67 = .ok (.iload_n 2, 1) := by decide +kernel
theorem dX0_copyFrom_68 : decode cX0_copyFrom 68 = .ok (.aaload, 1) := by decide +kernel
theorem dX0_copyFrom_69 : decode cX0_copyFrom 69 = .ok (.invokevirtual 43, 3) := by decide +kernel
theorem dX0_copyFrom_72 : decode cX0_copyFrom 72 = .ok (.iinc 2 1, 3) := by decide +kernel
theorem dX0_copyFrom_75 : decode cX0_copyFrom 75 = .ok (.goto (-26), 3) := by decide +kernel
theorem dX0_copyFrom_78 : decode cX0_copyFrom 78 = .ok (.aload_n 0, 1) := by decide +kernel
theorem dX0_copyFrom_79 : decode cX0_copyFrom 79 = .ok (.getfield 26, 3) := by decide +kernel
theorem dX0_copyFrom_82 : decode cX0_copyFrom 82 = .ok (.aload_n 1, 1) := by decide +kernel
theorem dX0_copyFrom_83 : decode cX0_copyFrom 83 = .ok (.getfield 26, 3) := by decide +kernel
theorem dX0_copyFrom_86 : decode cX0_copyFrom 86 = .ok (.invokevirtual 46, 3) := by decide +kernel
theorem dX0_copyFrom_89 : decode cX0_copyFrom 89 = .ok (.aload_n 0, 1) := by decide +kernel
theorem dX0_copyFrom_90 : decode cX0_copyFrom 90 = .ok (.aload_n 1, 1) := by decide +kernel
theorem dX0_copyFrom_91 : decode cX0_copyFrom 91 = .ok (.getfield 49, 3) := by decide +kernel
theorem dX0_copyFrom_94 : decode cX0_copyFrom 94 = .ok (.putfield 49, 3) := by decide +kernel
theorem dX0_copyFrom_97 : decode cX0_copyFrom 97 = .ok (.aload_n 0, 1) := by decide +kernel
theorem dX0_copyFrom_98 : decode cX0_copyFrom 98 = .ok (.aload_n 1, 1) := by decide +kernel
theorem dX0_copyFrom_99 : decode cX0_copyFrom 99 = .ok (.getfield 52, 3) := by decide +kernel
theorem dX0_copyFrom_102 : decode cX0_copyFrom 102 = .ok (.putfield 52, 3) := by decide +kernel
theorem dX0_copyFrom_105 : decode cX0_copyFrom 105 = .ok (.aload_n 0, 1) := by decide +kernel
theorem dX0_copyFrom_106 : decode cX0_copyFrom 106 = .ok (.aload_n 1, 1) := by decide +kernel
theorem dX0_copyFrom_107 : decode cX0_copyFrom 107 = .ok (.getfield 55, 3) := by decide +kernel
theorem dX0_copyFrom_110 : decode cX0_copyFrom 110 = .ok (.putfield 55, 3) := by decide +kernel
theorem dX0_copyFrom_113 : decode cX0_copyFrom 113 = .ok (.aload_n 0, 1) := by decide +kernel
theorem dX0_copyFrom_114 : decode cX0_copyFrom 114 = .ok (.aload_n 1, 1) := by decide +kernel
theorem dX0_copyFrom_115 : decode cX0_copyFrom 115 = .ok (.getfield 58, 3) := by decide +kernel
theorem dX0_copyFrom_118 : decode cX0_copyFrom 118 = .ok (.putfield 58, 3) := by decide +kernel
theorem dX0_copyFrom_121 : decode cX0_copyFrom 121 = .ok (.return_, 1) := by decide +kernel
set_option maxRecDepth 20000 in
theorem ggX0_hasLeaflet_X10_isWithin : GoodIn wsX0_hasLeaflet wsX10_isWithin := goodIn_r _ [4] (by decide +kernel) (by decide +kernel)
set_option maxRecDepth 20000 in
theorem gX0_hasLeaflet_X10_isWithin_n61 : GoodIn wsX0_hasLeaflet (wsX10_isWithin) := ggX0_hasLeaflet_X10_isWithin
theorem dX0_hasLeaflet_0 : decode cX0_hasLeaflet 0 = .ok (.iload_n 1, 1) := by decide +kernel
theorem dX0_hasLeaflet_1 : decode cX0_hasLeaflet 1 = .ok (.iconst 0, 1) := by decide +kernel
theorem dX0_hasLeaflet_2 : decode cX0_hasLeaflet 2 = .ok (.aload_n 0, 1) := by decide +kernel
theorem dX0_hasLeaflet_3 : decode cX0_hasLeaflet 3 = .ok (.getfield 32, 3) := by decide +kernel
theorem dX0_hasLeaflet_6 : decode cX0_hasLeaflet 6 = .ok (.iconst 1, 1) := by decide +kernel
theorem dX0_hasLeaflet_7 : decode cX0_hasLeaflet 7 = .ok (.isub, 1) := by decide +kernel
theorem dX0_hasLeaflet_8 : decode cX0_hasLeaflet 8 = .ok (.invokestatic 61, 3) := by decide +kernel
theorem dX0_hasLeaflet_11 : decode cX0_hasLeaflet 11 = .ok (.ireturn, 1) := by decide +kernel
set_option maxRecDepth 20000 in
theorem ggX0_hasCousin_X10_isWithin : GoodIn wsX0_hasCousin wsX10_isWithin := goodIn_r _ [4] (by decide +kernel) (by decide +kernel)
set_option maxRecDepth 20000 in
theorem gX0_hasCousin_X10_isWithin_n61 : GoodIn wsX0_hasCousin (wsX10_isWithin) := ggX0_hasCousin_X10_isWithin
theorem dX0_hasCousin_0 : decode cX0_hasCousin 0 = .ok (.iload_n 1, 1) := by decide +kernel
theorem dX0_hasCousin_1 : decode cX0_hasCousin 1 = .ok (.iconst 0, 1) := by decide +kernel
theorem dX0_hasCousin_2 : decode cX0_hasCousin 2 = .ok (.aload_n 0, 1) := by decide +kernel
theorem dX0_hasCousin_3 : decode cX0_hasCousin 3 = .ok (.getfield 40, 3) := by decide +kernel
theorem dX0_hasCousin_6 : decode cX0_hasCousin 6 = .ok (.iconst 1, 1) := by decide +kernel
theorem dX0_hasCousin_7 : decode cX0_hasCousin 7 = .ok (.isub, 1) := by decide +kernel
theorem dX0_hasCousin_8 : decode cX0_hasCousin 8 = .ok (.invokestatic 61, 3) := by decide +kernel
theorem dX0_hasCousin_11 : decode cX0_hasCousin 11 = .ok (.ireturn, 1) := by decide +kernel
theorem dX0_leafletsOn_0 : decode cX0_leafletsOn 0 = .ok (.iconst 0, 1) := by decide +kernel
theorem dX0_leafletsOn_1 : decode cX0_leafletsOn 1 = .ok (.istore_n 2, 1) := by decide +kernel
theorem dX0_leafletsOn_2 : decode cX0_leafletsOn 2 = .ok (.iconst 0, 1) := by decide +kernel
theorem dX0_leafletsOn_3 : decode cX0_leafletsOn 3 = .ok (.istore_n 3, 1) := by decide +kernel
theorem dX0_leafletsOn_4 : decode cX0_leafletsOn 4 = .ok (.iload_n 3, 1) := by decide +kernel
theorem dX0_leafletsOn_5 : decode cX0_leafletsOn 5 = .ok (.aload_n 0, 1) := by decide +kernel
theorem dX0_leafletsOn_6 : decode cX0_leafletsOn 6 = .ok (.getfield 32, 3) := by decide +kernel
theorem dX0_leafletsOn_9 : decode cX0_leafletsOn 9 = .ok (.if_icmp .ge 28, 3) := by decide +kernel
theorem dX0_leafletsOn_12 : decode cX0_leafletsOn 12 = .ok (.aload_n 0, 1) := by decide +kernel
theorem dX0_leafletsOn_13 : decode cX0_leafletsOn 13 = .ok (.getfield 11, 3) := by decide +kernel
theorem dX0_leafletsOn_16 : decode cX0_leafletsOn 16 = .ok (.iload_n 3, 1) := by decide +kernel
theorem dX0_leafletsOn_17 : decode cX0_leafletsOn 17 = .ok (.aaload, 1) := by decide +kernel
theorem dX0_leafletsOn_18 : decode cX0_leafletsOn 18 = .ok (.getfield 65, 3) := by decide +kernel
theorem dX0_leafletsOn_21 : decode cX0_leafletsOn 21 = .ok (.iload_n 1, 1) := by decide +kernel
theorem dX0_leafletsOn_22 : decode cX0_leafletsOn 22 = .ok (.if_icmp .ne 9, 3) := by decide +kernel
theorem dX0_leafletsOn_25 : decode cX0_leafletsOn 25 = .ok (.iload_n 2, 1) := by decide +kernel
theorem dX0_leafletsOn_26 : decode cX0_leafletsOn 26 = .ok (.iconst 1, 1) := by decide +kernel
theorem dX0_leafletsOn_27 : decode cX0_leafletsOn 27 = .ok (.iload_n 3, 1) := by decide +kernel
theorem dX0_leafletsOn_28 : decode cX0_leafletsOn 28 = .ok (.ishl, 1) := by decide +kernel
theorem dX0_leafletsOn_29 : decode cX0_leafletsOn 29 = .ok (.ior, 1) := by decide +kernel
theorem dX0_leafletsOn_30 : decode cX0_leafletsOn 30 = .ok (.istore_n 2, 1) := by decide +kernel
theorem dX0_leafletsOn_31 : decode cX0_leafletsOn 31 = .ok (.iinc 3 1, 3) := by decide +kernel
theorem dX0_leafletsOn_34 : decode cX0_leafletsOn 34 = .ok (.goto (-30), 3) := by decide +kernel
theorem dX0_leafletsOn_37 : decode cX0_leafletsOn 37 = .ok (.iload_n 2, 1) := by decide +kernel
theorem dX0_leafletsOn_38 : decode cX0_leafletsOn 38 = .ok (.ireturn, 1) := by decide +kernel
set_option maxRecDepth 20000 in
theorem ggX0_isFull_X0_leafletsOn : GoodIn wsX0_isFull wsX0_leafletsOn := goodIn_r _ [5, 6, 7, 8, 16, 17, 18, 19, 20, 21, 22, 23, 24, 25, 26, 27, 28, 29, 30, 31, 32, 33] (by decide +kernel) (by decide +kernel)
set_option maxRecDepth 20000 in
theorem gX0_isFull_X0_leafletsOn : GoodIn wsX0_isFull (wsV RX0 68 RX0 yX0_leafletsOn wsX0_leafletsOn) := goodIn_app (goodIn_of _ (by decide +kernel)) ggX0_isFull_X0_leafletsOn
set_option maxRecDepth 20000 in
theorem ggX0_isFull_J6_bitCount_0f7a4 : GoodIn wsX0_isFull wsJ6_bitCount_0f7a4 := goodIn_r _ [12, 13, 14, 15] (by decide +kernel) (by decide +kernel)
set_option maxRecDepth 20000 in
theorem gX0_isFull_J6_bitCount_0f7a4 : GoodIn wsX0_isFull (va_wsS RX0 72 yJ6_bitCount_0f7a4 wsJ6_bitCount_0f7a4) := goodIn_app (goodIn_of _ (by decide +kernel)) ggX0_isFull_J6_bitCount_0f7a4
theorem dX0_isFull_0 : decode cX0_isFull 0 = .ok (.aload_n 0, 1) := by decide +kernel
theorem dX0_isFull_1 : decode cX0_isFull 1 = .ok (.iload_n 1, 1) := by decide +kernel
theorem dX0_isFull_2 : decode cX0_isFull 2 = .ok (.invokevirtual 68, 3) := by decide +kernel
theorem dX0_isFull_5 : decode cX0_isFull 5 = .ok (.invokestatic 72, 3) := by decide +kernel
theorem dX0_isFull_8 : decode cX0_isFull 8 = .ok (.iconst 3, 1) := by decide +kernel
theorem dX0_isFull_9 : decode cX0_isFull 9 = .ok (.if_icmp .lt 7, 3) := by decide +kernel
theorem dX0_isFull_12 : decode cX0_isFull 12 = .ok (.iconst 1, 1) := by decide +kernel
theorem dX0_isFull_13 : decode cX0_isFull 13 = .ok (.goto 4, 3) := by decide +kernel
theorem dX0_isFull_16 : decode cX0_isFull 16 = .ok (.iconst 0, 1) := by decide +kernel
theorem dX0_isFull_17 : decode cX0_isFull 17 = .ok (.ireturn, 1) := by decide +kernel
theorem dX0_stepsOfAll_0 : decode cX0_stepsOfAll 0 = .ok (.iconst 0, 1) := by decide +kernel
theorem dX0_stepsOfAll_1 : decode cX0_stepsOfAll 1 = .ok (.istore_n 1, 1) := by decide +kernel
theorem dX0_stepsOfAll_2 : decode cX0_stepsOfAll 2 = .ok (.iconst 0, 1) := by decide +kernel
theorem dX0_stepsOfAll_3 : decode cX0_stepsOfAll 3 = .ok (.istore_n 2, 1) := by decide +kernel
theorem dX0_stepsOfAll_4 : decode cX0_stepsOfAll 4 = .ok (.iload_n 2, 1) := by decide +kernel
theorem dX0_stepsOfAll_5 : decode cX0_stepsOfAll 5 = .ok (.aload_n 0, 1) := by decide +kernel
theorem dX0_stepsOfAll_6 : decode cX0_stepsOfAll 6 = .ok (.getfield 32, 3) := by decide +kernel
theorem dX0_stepsOfAll_9 : decode cX0_stepsOfAll 9 = .ok (.if_icmp .ge 21, 3) := by decide +kernel
theorem dX0_stepsOfAll_12 : decode cX0_stepsOfAll 12 = .ok (.iload_n 1, 1) := by decide +kernel
theorem dX0_stepsOfAll_13 : decode cX0_stepsOfAll 13 = .ok (.aload_n 0, 1) := by decide +kernel
theorem dX0_stepsOfAll_14 : decode cX0_stepsOfAll 14 = .ok (.getfield 11, 3) := by decide +kernel
theorem dX0_stepsOfAll_17 : decode cX0_stepsOfAll 17 = .ok (.iload_n 2, 1) := by decide +kernel
theorem dX0_stepsOfAll_18 : decode cX0_stepsOfAll 18 = .ok (.aaload, 1) := by decide +kernel
theorem dX0_stepsOfAll_19 : decode cX0_stepsOfAll 19 = .ok (.getfield 77, 3) := by decide +kernel
theorem dX0_stepsOfAll_22 : decode cX0_stepsOfAll 22 = .ok (.iadd, 1) := by decide +kernel
theorem dX0_stepsOfAll_23 : decode cX0_stepsOfAll 23 = .ok (.istore_n 1, 1) := by decide +kernel
theorem dX0_stepsOfAll_24 : decode cX0_stepsOfAll 24 = .ok (.iinc 2 1, 3) := by decide +kernel
theorem dX0_stepsOfAll_27 : decode cX0_stepsOfAll 27 = .ok (.goto (-23), 3) := by decide +kernel
theorem dX0_stepsOfAll_30 : decode cX0_stepsOfAll 30 = .ok (.iload_n 1, 1) := by decide +kernel
theorem dX0_stepsOfAll_31 : decode cX0_stepsOfAll 31 = .ok (.ireturn, 1) := by decide +kernel
set_option maxRecDepth 20000 in
theorem ggX0_leafletsBuilt_X5_isBuilt : GoodIn wsX0_leafletsBuilt wsX5_isBuilt := goodIn_r _ [7, 8, 18, 19, 20, 21, 22, 23, 24, 25, 26] (by decide +kernel) (by decide +kernel)
set_option maxRecDepth 20000 in
theorem gX0_leafletsBuilt_X5_isBuilt : GoodIn wsX0_leafletsBuilt (wsV RX0 80 RX5 yX5_isBuilt wsX5_isBuilt) := goodIn_app (goodIn_of _ (by decide +kernel)) ggX0_leafletsBuilt_X5_isBuilt
theorem dX0_leafletsBuilt_0 : decode cX0_leafletsBuilt 0 = .ok (.iconst 0, 1) := by decide +kernel
theorem dX0_leafletsBuilt_1 : decode cX0_leafletsBuilt 1 = .ok (.istore_n 1, 1) := by decide +kernel
theorem dX0_leafletsBuilt_2 : decode cX0_leafletsBuilt 2 = .ok (.iconst 0, 1) := by decide +kernel
theorem dX0_leafletsBuilt_3 : decode cX0_leafletsBuilt 3 = .ok (.istore_n 2, 1) := by decide +kernel
theorem dX0_leafletsBuilt_4 : decode cX0_leafletsBuilt 4 = .ok (.iload_n 2, 1) := by decide +kernel
theorem dX0_leafletsBuilt_5 : decode cX0_leafletsBuilt 5 = .ok (.aload_n 0, 1) := by decide +kernel
theorem dX0_leafletsBuilt_6 : decode cX0_leafletsBuilt 6 = .ok (.getfield 32, 3) := by decide +kernel
theorem dX0_leafletsBuilt_9 : decode cX0_leafletsBuilt 9 = .ok (.if_icmp .ge 29, 3) := by decide +kernel
theorem dX0_leafletsBuilt_12 : decode cX0_leafletsBuilt 12 = .ok (.iload_n 1, 1) := by decide +kernel
theorem dX0_leafletsBuilt_13 : decode cX0_leafletsBuilt 13 = .ok (.aload_n 0, 1) := by decide +kernel
theorem dX0_leafletsBuilt_14 : decode cX0_leafletsBuilt 14 = .ok (.getfield 11, 3) := by decide +kernel
theorem dX0_leafletsBuilt_17 : decode cX0_leafletsBuilt 17 = .ok (.iload_n 2, 1) := by decide +kernel
theorem dX0_leafletsBuilt_18 : decode cX0_leafletsBuilt 18 = .ok (.aaload, 1) := by decide +kernel
theorem dX0_leafletsBuilt_19 : decode cX0_leafletsBuilt 19 = .ok (.invokevirtual 80, 3) := by decide +kernel
theorem dX0_leafletsBuilt_22 : decode cX0_leafletsBuilt 22 = .ok (.ifCond .eq 7, 3) := by decide +kernel
theorem dX0_leafletsBuilt_25 : decode cX0_leafletsBuilt 25 = .ok (.iconst 1, 1) := by decide +kernel
theorem dX0_leafletsBuilt_26 : decode cX0_leafletsBuilt 26 = .ok (.goto 4, 3) := by decide +kernel
theorem dX0_leafletsBuilt_29 : decode cX0_leafletsBuilt 29 = .ok (.iconst 0, 1) := by decide +kernel
theorem dX0_leafletsBuilt_30 : decode cX0_leafletsBuilt 30 = .ok (.iadd, 1) := by decide +kernel
theorem dX0_leafletsBuilt_31 : decode cX0_leafletsBuilt 31 = .ok (.istore_n 1, 1) := by decide +kernel
theorem dX0_leafletsBuilt_32 : decode cX0_leafletsBuilt 32 = .ok (.iinc 2 1, 3) := by decide +kernel
theorem dX0_leafletsBuilt_35 : decode cX0_leafletsBuilt 35 = .ok (.goto (-31), 3) := by decide +kernel
theorem dX0_leafletsBuilt_38 : decode cX0_leafletsBuilt 38 = .ok (.iload_n 1, 1) := by decide +kernel
theorem dX0_leafletsBuilt_39 : decode cX0_leafletsBuilt 39 = .ok (.ireturn, 1) := by decide +kernel
set_option maxRecDepth 20000 in
theorem ggX0_stepsOfBuilt_X5_isBuilt : GoodIn wsX0_stepsOfBuilt wsX5_isBuilt := goodIn_r _ [8, 9, 19, 20, 21, 22, 23, 24, 25, 26, 27] (by decide +kernel) (by decide +kernel)
set_option maxRecDepth 20000 in
theorem gX0_stepsOfBuilt_X5_isBuilt : GoodIn wsX0_stepsOfBuilt (wsV RX0 80 RX5 yX5_isBuilt wsX5_isBuilt) := goodIn_app (goodIn_of _ (by decide +kernel)) ggX0_stepsOfBuilt_X5_isBuilt
theorem dX0_stepsOfBuilt_0 : decode cX0_stepsOfBuilt 0 = .ok (.iconst 0, 1) := by decide +kernel
theorem dX0_stepsOfBuilt_1 : decode cX0_stepsOfBuilt 1 = .ok (.istore_n 1, 1) := by decide +kernel
theorem dX0_stepsOfBuilt_2 : decode cX0_stepsOfBuilt 2 = .ok (.iconst 0, 1) := by decide +kernel
theorem dX0_stepsOfBuilt_3 : decode cX0_stepsOfBuilt 3 = .ok (.istore_n 2, 1) := by decide +kernel
theorem dX0_stepsOfBuilt_4 : decode cX0_stepsOfBuilt 4 = .ok (.iload_n 2, 1) := by decide +kernel
theorem dX0_stepsOfBuilt_5 : decode cX0_stepsOfBuilt 5 = .ok (.aload_n 0, 1) := by decide +kernel
theorem dX0_stepsOfBuilt_6 : decode cX0_stepsOfBuilt 6 = .ok (.getfield 32, 3) := by decide +kernel
theorem dX0_stepsOfBuilt_9 : decode cX0_stepsOfBuilt 9 = .ok (.if_icmp .ge 37, 3) := by decide +kernel
theorem dX0_stepsOfBuilt_12 : decode cX0_stepsOfBuilt 12 = .ok (.iload_n 1, 1) := by decide +kernel
theorem dX0_stepsOfBuilt_13 : decode cX0_stepsOfBuilt 13 = .ok (.aload_n 0, 1) := by decide +kernel
theorem dX0_stepsOfBuilt_14 : decode cX0_stepsOfBuilt 14 = .ok (.getfield 11, 3) := by decide +kernel
theorem dX0_stepsOfBuilt_17 : decode cX0_stepsOfBuilt 17 = .ok (.iload_n 2, 1) := by decide +kernel
theorem dX0_stepsOfBuilt_18 : decode cX0_stepsOfBuilt 18 = .ok (.aaload, 1) := by decide +kernel
theorem dX0_stepsOfBuilt_19 : decode cX0_stepsOfBuilt 19 = .ok (.invokevirtual 80, 3) := by decide +kernel
theorem dX0_stepsOfBuilt_22 : decode cX0_stepsOfBuilt 22 = .ok (.ifCond .eq 15, 3) := by decide +kernel
theorem dX0_stepsOfBuilt_25 : decode cX0_stepsOfBuilt 25 = .ok (.aload_n 0, 1) := by decide +kernel
theorem dX0_stepsOfBuilt_26 : decode cX0_stepsOfBuilt 26 = .ok (.getfield 11, 3) := by decide +kernel
theorem dX0_stepsOfBuilt_29 : decode cX0_stepsOfBuilt 29 = .ok (.iload_n 2, 1) := by decide +kernel
theorem dX0_stepsOfBuilt_30 : decode cX0_stepsOfBuilt 30 = .ok (.aaload, 1) := by decide +kernel
theorem dX0_stepsOfBuilt_31 : decode cX0_stepsOfBuilt 31 = .ok (.getfield 77, 3) := by decide +kernel
theorem dX0_stepsOfBuilt_34 : decode cX0_stepsOfBuilt 34 = .ok (.goto 4, 3) := by decide +kernel
theorem dX0_stepsOfBuilt_37 : decode cX0_stepsOfBuilt 37 = .ok (.iconst 0, 1) := by decide +kernel
theorem dX0_stepsOfBuilt_38 : decode cX0_stepsOfBuilt 38 = .ok (.iadd, 1) := by decide +kernel
theorem dX0_stepsOfBuilt_39 : decode cX0_stepsOfBuilt 39 = .ok (.istore_n 1, 1) := by decide +kernel
theorem dX0_stepsOfBuilt_40 : decode cX0_stepsOfBuilt 40 = .ok (.iinc 2 1, 3) := by decide +kernel
theorem dX0_stepsOfBuilt_43 : decode cX0_stepsOfBuilt 43 = .ok (.goto (-39), 3) := by decide +kernel
theorem dX0_stepsOfBuilt_46 : decode cX0_stepsOfBuilt 46 = .ok (.iload_n 1, 1) := by decide +kernel
theorem dX0_stepsOfBuilt_47 : decode cX0_stepsOfBuilt 47 = .ok (.ireturn, 1) := by decide +kernel
set_option maxRecDepth 20000 in
theorem ggX0_stepsSkipped_X5_skippedSteps : GoodIn wsX0_stepsSkipped wsX5_skippedSteps := goodIn_r _ [7, 8, 9, 10, 11, 12, 13, 14, 15, 25, 26, 27, 28, 29, 30, 31, 32, 33] (by decide +kernel) (by decide +kernel)
set_option maxRecDepth 20000 in
theorem gX0_stepsSkipped_X5_skippedSteps : GoodIn wsX0_stepsSkipped (wsV RX0 84 RX5 yX5_skippedSteps wsX5_skippedSteps) := goodIn_app (goodIn_of _ (by decide +kernel)) ggX0_stepsSkipped_X5_skippedSteps
theorem dX0_stepsSkipped_0 : decode cX0_stepsSkipped 0 = .ok (.iconst 0, 1) := by decide +kernel
theorem dX0_stepsSkipped_1 : decode cX0_stepsSkipped 1 = .ok (.istore_n 1, 1) := by decide +kernel
theorem dX0_stepsSkipped_2 : decode cX0_stepsSkipped 2 = .ok (.iconst 0, 1) := by decide +kernel
theorem dX0_stepsSkipped_3 : decode cX0_stepsSkipped 3 = .ok (.istore_n 2, 1) := by decide +kernel
theorem dX0_stepsSkipped_4 : decode cX0_stepsSkipped 4 = .ok (.iload_n 2, 1) := by decide +kernel
theorem dX0_stepsSkipped_5 : decode cX0_stepsSkipped 5 = .ok (.aload_n 0, 1) := by decide +kernel
theorem dX0_stepsSkipped_6 : decode cX0_stepsSkipped 6 = .ok (.getfield 32, 3) := by decide +kernel
theorem dX0_stepsSkipped_9 : decode cX0_stepsSkipped 9 = .ok (.if_icmp .ge 21, 3) := by decide +kernel
theorem dX0_stepsSkipped_12 : decode cX0_stepsSkipped 12 = .ok (.iload_n 1, 1) := by decide +kernel
theorem dX0_stepsSkipped_13 : decode cX0_stepsSkipped 13 = .ok (.aload_n 0, 1) := by decide +kernel
theorem dX0_stepsSkipped_14 : decode cX0_stepsSkipped 14 = .ok (.getfield 11, 3) := by decide +kernel
theorem dX0_stepsSkipped_17 : decode cX0_stepsSkipped 17 = .ok (.iload_n 2, 1) := by decide +kernel
theorem dX0_stepsSkipped_18 : decode cX0_stepsSkipped 18 = .ok (.aaload, 1) := by decide +kernel
theorem dX0_stepsSkipped_19 : decode cX0_stepsSkipped 19 = .ok (.invokevirtual 84, 3) := by decide +kernel
theorem dX0_stepsSkipped_22 : decode cX0_stepsSkipped 22 = .ok (.iadd, 1) := by decide +kernel
theorem dX0_stepsSkipped_23 : decode cX0_stepsSkipped 23 = .ok (.istore_n 1, 1) := by decide +kernel
theorem dX0_stepsSkipped_24 : decode cX0_stepsSkipped 24 = .ok (.iinc 2 1, 3) := by decide +kernel
theorem dX0_stepsSkipped_27 : decode cX0_stepsSkipped 27 = .ok (.goto (-23), 3) := by decide +kernel
theorem dX0_stepsSkipped_30 : decode cX0_stepsSkipped 30 = .ok (.iload_n 1, 1) := by decide +kernel
theorem dX0_stepsSkipped_31 : decode cX0_stepsSkipped 31 = .ok (.ireturn, 1) := by decide +kernel
theorem dX0_leafletsBuiltBy_0 : decode cX0_leafletsBuiltBy 0 = .ok (.iconst 0, 1) := by decide +kernel
theorem dX0_leafletsBuiltBy_1 : decode cX0_leafletsBuiltBy 1 = .ok (.istore_n 2, 1) := by decide +kernel
theorem dX0_leafletsBuiltBy_2 : decode cX0_leafletsBuiltBy 2 = .ok (.iconst 0, 1) := by decide +kernel
theorem dX0_leafletsBuiltBy_3 : decode cX0_leafletsBuiltBy 3 = .ok (.istore_n 3, 1) := by decide +kernel
theorem dX0_leafletsBuiltBy_4 : decode cX0_leafletsBuiltBy 4 = .ok (.iload_n 3, 1) := by decide +kernel
theorem dX0_leafletsBuiltBy_5 : decode cX0_leafletsBuiltBy 5 = .ok (.aload_n 0, 1) := by decide +kernel
theorem dX0_leafletsBuiltBy_6 : decode cX0_leafletsBuiltBy 6 = .ok (.getfield 32, 3) := by decide +kernel
theorem dX0_leafletsBuiltBy_9 : decode cX0_leafletsBuiltBy 9 = .ok (.if_icmp .ge 30, 3) := by decide +kernel
theorem dX0_leafletsBuiltBy_12 : decode cX0_leafletsBuiltBy 12 = .ok (.iload_n 2, 1) := by decide +kernel
theorem dX0_leafletsBuiltBy_13 : decode cX0_leafletsBuiltBy 13 = .ok (.aload_n 0, 1) := by decide +kernel
theorem dX0_leafletsBuiltBy_14 : decode cX0_leafletsBuiltBy 14 = .ok (.getfield 11, 3) := by decide +kernel
theorem dX0_leafletsBuiltBy_17 : decode cX0_leafletsBuiltBy 17 = .ok (.iload_n 3, 1) := by decide +kernel
theorem dX0_leafletsBuiltBy_18 : decode cX0_leafletsBuiltBy 18 = .ok (.aaload, 1) := by decide +kernel
theorem dX0_leafletsBuiltBy_19 : decode cX0_leafletsBuiltBy 19 = .ok (.getfield 88, 3) := by decide +kernel
theorem dX0_leafletsBuiltBy_22 : decode cX0_leafletsBuiltBy 22 = .ok (.iload_n 1, 1) := by decide +kernel
theorem dX0_leafletsBuiltBy_23 : decode cX0_leafletsBuiltBy 23 = .ok (.if_icmp .ne 7, 3) := by decide +kernel
theorem dX0_leafletsBuiltBy_26 : decode cX0_leafletsBuiltBy 26 = .ok (.iconst 1, 1) := by decide +kernel
theorem dX0_leafletsBuiltBy_27 : decode cX0_leafletsBuiltBy 27 = .ok (.goto 4, 3) := by decide +kernel
theorem dX0_leafletsBuiltBy_30 : decode cX0_leafletsBuiltBy 30 = .ok (.iconst 0, 1) := by decide +kernel
theorem dX0_leafletsBuiltBy_31 : decode cX0_leafletsBuiltBy 31 = .ok (.iadd, 1) := by decide +kernel
theorem dX0_leafletsBuiltBy_32 : decode cX0_leafletsBuiltBy 32 = .ok (.istore_n 2, 1) := by decide +kernel
theorem dX0_leafletsBuiltBy_33 : decode cX0_leafletsBuiltBy 33 = .ok (.iinc 3 1, 3) := by decide +kernel
theorem dX0_leafletsBuiltBy_36 : decode cX0_leafletsBuiltBy 36 = .ok (.goto (-32), 3) := by decide +kernel
theorem dX0_leafletsBuiltBy_39 : decode cX0_leafletsBuiltBy 39 = .ok (.iload_n 2, 1) := by decide +kernel
theorem dX0_leafletsBuiltBy_40 : decode cX0_leafletsBuiltBy 40 = .ok (.ireturn, 1) := by decide +kernel
set_option maxRecDepth 20000 in
theorem ggX0_stepsSkippedBy_X5_skippedSteps : GoodIn wsX0_stepsSkippedBy wsX5_skippedSteps := goodIn_r _ [8, 9, 10, 11, 12, 13, 14, 15, 16, 26, 27, 28, 29, 30, 31, 32, 33, 34] (by decide +kernel) (by decide +kernel)
set_option maxRecDepth 20000 in
theorem gX0_stepsSkippedBy_X5_skippedSteps : GoodIn wsX0_stepsSkippedBy (wsV RX0 84 RX5 yX5_skippedSteps wsX5_skippedSteps) := goodIn_app (goodIn_of _ (by decide +kernel)) ggX0_stepsSkippedBy_X5_skippedSteps
theorem dX0_stepsSkippedBy_0 : decode cX0_stepsSkippedBy 0 = .ok (.iconst 0, 1) := by decide +kernel
theorem dX0_stepsSkippedBy_1 : decode cX0_stepsSkippedBy 1 = .ok (.istore_n 2, 1) := by decide +kernel
theorem dX0_stepsSkippedBy_2 : decode cX0_stepsSkippedBy 2 = .ok (.iconst 0, 1) := by decide +kernel
theorem dX0_stepsSkippedBy_3 : decode cX0_stepsSkippedBy 3 = .ok (.istore_n 3, 1) := by decide +kernel
theorem dX0_stepsSkippedBy_4 : decode cX0_stepsSkippedBy 4 = .ok (.iload_n 3, 1) := by decide +kernel
theorem dX0_stepsSkippedBy_5 : decode cX0_stepsSkippedBy 5 = .ok (.aload_n 0, 1) := by decide +kernel
theorem dX0_stepsSkippedBy_6 : decode cX0_stepsSkippedBy 6 = .ok (.getfield 32, 3) := by decide +kernel
theorem dX0_stepsSkippedBy_9 : decode cX0_stepsSkippedBy 9 = .ok (.if_icmp .ge 38, 3) := by decide +kernel
theorem dX0_stepsSkippedBy_12 : decode cX0_stepsSkippedBy 12 = .ok (.iload_n 2, 1) := by decide +kernel
theorem dX0_stepsSkippedBy_13 : decode cX0_stepsSkippedBy 13 = .ok (.aload_n 0, 1) := by decide +kernel
theorem dX0_stepsSkippedBy_14 : decode cX0_stepsSkippedBy 14 = .ok (.getfield 11, 3) := by decide +kernel
theorem dX0_stepsSkippedBy_17 : decode cX0_stepsSkippedBy 17 = .ok (.iload_n 3, 1) := by decide +kernel
theorem dX0_stepsSkippedBy_18 : decode cX0_stepsSkippedBy 18 = .ok (.aaload, 1) := by decide +kernel
theorem dX0_stepsSkippedBy_19 : decode cX0_stepsSkippedBy 19 = .ok (.getfield 88, 3) := by decide +kernel
theorem dX0_stepsSkippedBy_22 : decode cX0_stepsSkippedBy 22 = .ok (.iload_n 1, 1) := by decide +kernel
theorem dX0_stepsSkippedBy_23 : decode cX0_stepsSkippedBy 23 = .ok (.if_icmp .ne 15, 3) := by decide +kernel
theorem dX0_stepsSkippedBy_26 : decode cX0_stepsSkippedBy 26 = .ok (.aload_n 0, 1) := by decide +kernel
theorem dX0_stepsSkippedBy_27 : decode cX0_stepsSkippedBy 27 = .ok (.getfield 11, 3) := by decide +kernel
theorem dX0_stepsSkippedBy_30 : decode cX0_stepsSkippedBy 30 = .ok (.iload_n 3, 1) := by decide +kernel
theorem dX0_stepsSkippedBy_31 : decode cX0_stepsSkippedBy 31 = .ok (.aaload, 1) := by decide +kernel
theorem dX0_stepsSkippedBy_32 : decode cX0_stepsSkippedBy 32 = .ok (.invokevirtual 84, 3) := by decide +kernel
theorem dX0_stepsSkippedBy_35 : decode cX0_stepsSkippedBy 35 = .ok (.goto 4, 3) := by decide +kernel
theorem dX0_stepsSkippedBy_38 : decode cX0_stepsSkippedBy 38 = .ok (.iconst 0, 1) := by decide +kernel
theorem dX0_stepsSkippedBy_39 : decode cX0_stepsSkippedBy 39 = .ok (.iadd, 1) := by decide +kernel
theorem dX0_stepsSkippedBy_40 : decode cX0_stepsSkippedBy 40 = .ok (.istore_n 2, 1) := by decide +kernel
theorem dX0_stepsSkippedBy_41 : decode cX0_stepsSkippedBy 41 = .ok (.iinc 3 1, 3) := by decide +kernel
theorem dX0_stepsSkippedBy_44 : decode cX0_stepsSkippedBy 44 = .ok (.goto (-40), 3) := by decide +kernel
theorem dX0_stepsSkippedBy_47 : decode cX0_stepsSkippedBy 47 = .ok (.iload_n 2, 1) := by decide +kernel
theorem dX0_stepsSkippedBy_48 : decode cX0_stepsSkippedBy 48 = .ok (.ireturn, 1) := by decide +kernel
set_option maxRecDepth 20000 in
theorem ggX0_needOfSkipped_X5_needOf : GoodIn wsX0_needOfSkipped wsX5_needOf := goodIn_r _ [8, 9, 10, 11, 12, 13, 14, 15, 16, 7, 17, 18, 19, 29, 30, 31, 32, 33, 34, 35, 36, 37] (by decide +kernel) (by decide +kernel)
set_option maxRecDepth 20000 in
theorem gX0_needOfSkipped_X5_needOf : GoodIn wsX0_needOfSkipped (wsV RX0 94 RX5 yX5_needOf wsX5_needOf) := goodIn_app (goodIn_of _ (by decide +kernel)) ggX0_needOfSkipped_X5_needOf
theorem dX0_needOfSkipped_0 : decode cX0_needOfSkipped 0 = .ok (.iconst 0, 1) := by decide +kernel
theorem dX0_needOfSkipped_1 : decode cX0_needOfSkipped 1 = .ok (.istore_n 2, 1) := by decide +kernel
theorem dX0_needOfSkipped_2 : decode cX0_needOfSkipped 2 = .ok (.iconst 0, 1) := by decide +kernel
theorem dX0_needOfSkipped_3 : decode cX0_needOfSkipped 3 = .ok (.istore_n 3, 1) := by decide +kernel
theorem dX0_needOfSkipped_4 : decode cX0_needOfSkipped 4 = .ok (.iload_n 3, 1) := by decide +kernel
theorem dX0_needOfSkipped_5 : decode cX0_needOfSkipped 5 = .ok (.aload_n 0, 1) := by decide +kernel
theorem dX0_needOfSkipped_6 : decode cX0_needOfSkipped 6 = .ok (.getfield 32, 3) := by decide +kernel
theorem dX0_needOfSkipped_9 : decode cX0_needOfSkipped 9 = .ok (.if_icmp .ge 31, 3) := by decide +kernel
theorem dX0_needOfSkipped_12 : decode cX0_needOfSkipped 12 = .ok (.iload_n 2, 1) := by decide +kernel
theorem dX0_needOfSkipped_13 : decode cX0_needOfSkipped 13 = .ok (.aload_n 0, 1) := by decide +kernel
theorem dX0_needOfSkipped_14 : decode cX0_needOfSkipped 14 = .ok (.getfield 11, 3) := by decide +kernel
theorem dX0_needOfSkipped_17 : decode cX0_needOfSkipped 17 = .ok (.iload_n 3, 1) := by decide +kernel
theorem dX0_needOfSkipped_18 : decode cX0_needOfSkipped 18 = .ok (.aaload, 1) := by decide +kernel
theorem dX0_needOfSkipped_19 : decode cX0_needOfSkipped 19 = .ok (.aload_n 0, 1) := by decide +kernel
theorem dX0_needOfSkipped_20 : decode cX0_needOfSkipped 20 = .ok (.getfield 11, 3) := by decide +kernel
theorem dX0_needOfSkipped_23 : decode cX0_needOfSkipped 23 = .ok (.iload_n 3, 1) := by decide +kernel
theorem dX0_needOfSkipped_24 : decode cX0_needOfSkipped 24 = .ok (.aaload, 1) := by decide +kernel
theorem dX0_needOfSkipped_25 : decode cX0_needOfSkipped 25 = .ok (.getfield 91, 3) := by decide +kernel
theorem dX0_needOfSkipped_28 : decode cX0_needOfSkipped 28 = .ok (.iload_n 1, 1) := by decide +kernel
theorem dX0_needOfSkipped_29 : decode cX0_needOfSkipped 29 = .ok (.invokevirtual 94, 3) := by decide +kernel
theorem dX0_needOfSkipped_32 : decode cX0_needOfSkipped 32 = .ok (.iadd, 1) := by decide +kernel
theorem dX0_needOfSkipped_33 : decode cX0_needOfSkipped 33 = .ok (.istore_n 2, 1) := by decide +kernel
theorem dX0_needOfSkipped_34 : decode cX0_needOfSkipped 34 = .ok (.iinc 3 1, 3) := by decide +kernel
theorem dX0_needOfSkipped_37 : decode cX0_needOfSkipped 37 = .ok (.goto (-33), 3) := by decide +kernel
theorem dX0_needOfSkipped_40 : decode cX0_needOfSkipped 40 = .ok (.iload_n 2, 1) := by decide +kernel
theorem dX0_needOfSkipped_41 : decode cX0_needOfSkipped 41 = .ok (.ireturn, 1) := by decide +kernel
set_option maxRecDepth 20000 in
theorem ggX1_init_X0_init : GoodIn wsX1_init wsX0_init := goodIn_r _ [14, 15, 2, 3, 16, 17, 18, 19, 20, 21, 22, 23, 24, 25, 26, 27, 28, 29, 30, 31, 32, 33, 34, 35, 36, 37, 38, 39, 40, 41, 42, 43, 47, 48, 49, 50, 51, 52, 53, 54, 55, 61, 62, 63, 64, 65, 66, 67, 68, 69, 70, 71, 72, 73] (by decide +kernel) (by decide +kernel)
set_option maxRecDepth 20000 in
theorem gX1_init_X0_init : GoodIn wsX1_init (wsX0_init) := ggX1_init_X0_init
set_option maxRecDepth 20000 in
theorem ggX1_init_X7_init : GoodIn wsX1_init wsX7_init := goodIn_r _ [45, 46, 2, 3] (by decide +kernel) (by decide +kernel)
set_option maxRecDepth 20000 in
theorem gX1_init_X7_init_n20 : GoodIn wsX1_init (wsX7_init) := ggX1_init_X7_init
theorem dX1_init_0 : decode cX1_init 0 = .ok (.aload_n 0, 1) := by decide +kernel
theorem dX1_init_1 : decode cX1_init 1 = .ok (.invokespecial 3, 3) := by decide +kernel
theorem dX1_init_4 : decode cX1_init 4 = .ok (.aload_n 0, 1) := by decide +kernel
theorem dX1_init_5 : decode cX1_init 5 = .ok (.new 9, 3) := by decide +kernel
theorem dX1_init_8 : decode cX1_init 8 = .ok (.dup, 1) := by decide +kernel
theorem dX1_init_9 : decode cX1_init 9 = .ok (.invokespecial 11, 3) := by decide +kernel
theorem dX1_init_12 : decode cX1_init 12 = .ok (.putfield 12, 3) := by decide +kernel
theorem dX1_init_15 : decode cX1_init 15 = .ok (.aload_n 0, 1) := by decide +kernel
theorem dX1_init_16 : decode cX1_init 16 = .ok (.new 18, 3) := by decide +kernel
theorem dX1_init_19 : decode cX1_init 19 = .ok (.dup, 1) := by decide +kernel
theorem dX1_init_20 : decode cX1_init 20 = .ok (.invokespecial 20, 3) := by decide +kernel
theorem dX1_init_23 : decode cX1_init 23 = .ok (.putfield 21, 3) := by decide +kernel
theorem dX1_init_26 : decode cX1_init 26 = .ok (.return_, 1) := by decide +kernel
set_option maxRecDepth 20000 in
theorem ggX1_refuseNoLeaflet_X7_refuse : GoodIn wsX1_refuseNoLeaflet wsX7_refuse := goodIn_r _ [8, 9, 10, 11, 23, 24, 25] (by decide +kernel) (by decide +kernel)
set_option maxRecDepth 20000 in
theorem gX1_refuseNoLeaflet_X7_refuse : GoodIn wsX1_refuseNoLeaflet (wsV RX1 29 RX7 yX7_refuse wsX7_refuse) := goodIn_app (goodIn_of _ (by decide +kernel)) ggX1_refuseNoLeaflet_X7_refuse
theorem dX1_refuseNoLeaflet_0 : decode cX1_refuseNoLeaflet 0 = .ok (.aload_n 0, 1) := by decide +kernel
theorem dX1_refuseNoLeaflet_1 : decode cX1_refuseNoLeaflet 1 = .ok (.getfield 21, 3) := by decide +kernel
theorem dX1_refuseNoLeaflet_4 : decode cX1_refuseNoLeaflet 4 = .ok (.iconst 3, 1) := by decide +kernel
theorem dX1_refuseNoLeaflet_5 : decode cX1_refuseNoLeaflet 5 = .ok (.aload_n 0, 1) := by decide +kernel
theorem dX1_refuseNoLeaflet_6 : decode cX1_refuseNoLeaflet 6 = .ok (.getfield 12, 3) := by decide +kernel
theorem dX1_refuseNoLeaflet_9 : decode cX1_refuseNoLeaflet 9 = .ok (.getfield 25, 3) := by decide +kernel
theorem dX1_refuseNoLeaflet_12 : decode cX1_refuseNoLeaflet 12 = .ok (.invokevirtual 29, 3) := by decide +kernel
theorem dX1_refuseNoLeaflet_15 : decode cX1_refuseNoLeaflet 15 = .ok (.ireturn, 1) := by decide +kernel
set_option maxRecDepth 20000 in
theorem ggX1_refuseNoCousin_X7_refuse : GoodIn wsX1_refuseNoCousin wsX7_refuse := goodIn_r _ [8, 9, 10, 11, 23, 24, 25] (by decide +kernel) (by decide +kernel)
set_option maxRecDepth 20000 in
theorem gX1_refuseNoCousin_X7_refuse : GoodIn wsX1_refuseNoCousin (wsV RX1 29 RX7 yX7_refuse wsX7_refuse) := goodIn_app (goodIn_of _ (by decide +kernel)) ggX1_refuseNoCousin_X7_refuse
theorem dX1_refuseNoCousin_0 : decode cX1_refuseNoCousin 0 = .ok (.aload_n 0, 1) := by decide +kernel
theorem dX1_refuseNoCousin_1 : decode cX1_refuseNoCousin 1 = .ok (.getfield 21, 3) := by decide +kernel
theorem dX1_refuseNoCousin_4 : decode cX1_refuseNoCousin 4 = .ok (.iconst 4, 1) := by decide +kernel
theorem dX1_refuseNoCousin_5 : decode cX1_refuseNoCousin 5 = .ok (.aload_n 0, 1) := by decide +kernel
theorem dX1_refuseNoCousin_6 : decode cX1_refuseNoCousin 6 = .ok (.getfield 12, 3) := by decide +kernel
theorem dX1_refuseNoCousin_9 : decode cX1_refuseNoCousin 9 = .ok (.getfield 33, 3) := by decide +kernel
theorem dX1_refuseNoCousin_12 : decode cX1_refuseNoCousin 12 = .ok (.invokevirtual 29, 3) := by decide +kernel
theorem dX1_refuseNoCousin_15 : decode cX1_refuseNoCousin 15 = .ok (.ireturn, 1) := by decide +kernel
set_option maxRecDepth 20000 in
theorem ggX1_layLeaflet_X10_isShelf : GoodIn wsX1_layLeaflet wsX10_isShelf := goodIn_r _ [7, 8, 9, 6, 10] (by decide +kernel) (by decide +kernel)
set_option maxRecDepth 20000 in
theorem gX1_layLeaflet_X10_isShelf_n36 : GoodIn wsX1_layLeaflet (wsX10_isShelf) := ggX1_layLeaflet_X10_isShelf
set_option maxRecDepth 20000 in
theorem ggX1_layLeaflet_X7_refuse : GoodIn wsX1_layLeaflet wsX7_refuse := goodIn_r _ [15, 16, 17, 18, 59, 60, 61] (by decide +kernel) (by decide +kernel)
set_option maxRecDepth 20000 in
theorem gX1_layLeaflet_X7_refuse : GoodIn wsX1_layLeaflet (wsV RX1 29 RX7 yX7_refuse wsX7_refuse) := goodIn_app (goodIn_of _ (by decide +kernel)) ggX1_layLeaflet_X7_refuse
set_option maxRecDepth 20000 in
theorem ggX1_layLeaflet_X0_isFull : GoodIn wsX1_layLeaflet wsX0_isFull := goodIn_r _ [23, 24, 25, 26, 22, 27, 28, 29, 30, 31, 32, 33, 34, 35, 36, 37, 50, 51, 52, 53, 54, 55, 56, 57, 58, 62, 63, 64, 65, 66, 67, 68, 69, 70] (by decide +kernel) (by decide +kernel)
set_option maxRecDepth 20000 in
theorem gX1_layLeaflet_X0_isFull : GoodIn wsX1_layLeaflet (wsV RX1 40 RX0 yX0_isFull wsX0_isFull) := goodIn_app (goodIn_of _ (by decide +kernel)) ggX1_layLeaflet_X0_isFull
set_option maxRecDepth 20000 in
theorem ggX1_layLeaflet_X5_layOn : GoodIn wsX1_layLeaflet wsX5_layOn := goodIn_r _ [42, 43, 44, 45, 46, 47, 62, 63, 64, 65, 66, 67, 68, 69, 70] (by decide +kernel) (by decide +kernel)
set_option maxRecDepth 20000 in
theorem gX1_layLeaflet_X5_layOn : GoodIn wsX1_layLeaflet (wsV RX1 47 RX5 yX5_layOn wsX5_layOn) := goodIn_app (goodIn_of _ (by decide +kernel)) ggX1_layLeaflet_X5_layOn
theorem dX1_layLeaflet_0 : decode cX1_layLeaflet 0 = .ok (.iload_n 1, 1) := by decide +kernel
theorem dX1_layLeaflet_1 : decode cX1_layLeaflet 1 = .ok (.invokestatic 36, 3) := by decide +kernel
theorem dX1_layLeaflet_4 : decode cX1_layLeaflet 4 = .ok (.ifCond .ne 13, 3) := by decide +kernel
theorem dX1_layLeaflet_7 : decode cX1_layLeaflet 7 = .ok (.aload_n 0, 1) := by decide +kernel
theorem dX1_layLeaflet_8 : decode cX1_layLeaflet 8 = .ok (.getfield 21, 3) := by decide +kernel
theorem dX1_layLeaflet_11 : decode cX1_layLeaflet 11 = .ok (.iconst 1, 1) := by decide +kernel
theorem dX1_layLeaflet_12 : decode cX1_layLeaflet 12 = .ok (.iconst 0, 1) := by decide +kernel
theorem dX1_layLeaflet_13 : decode cX1_layLeaflet 13 = .ok (.invokevirtual 29, 3) := by decide +kernel
theorem dX1_layLeaflet_16 : decode cX1_layLeaflet 16 = .ok (.ireturn, 1) := by decide +kernel
theorem dX1_layLeaflet_17 : decode cX1_layLeaflet 17 = .ok (.aload_n 0, 1) := by decide +kernel
theorem dX1_layLeaflet_18 : decode cX1_layLeaflet 18 = .ok (.getfield 12, 3) := by decide +kernel
theorem dX1_layLeaflet_21 : decode cX1_layLeaflet 21 = .ok (.getfield 25, 3) := by decide +kernel
theorem dX1_layLeaflet_24 : decode cX1_layLeaflet 24 = .ok (.bipush 8, 2) := by decide +kernel
theorem dX1_layLeaflet_26 : decode cX1_layLeaflet 26 = .ok (.if_icmp .lt 14, 3) := by decide +kernel
theorem dX1_layLeaflet_29 : decode cX1_layLeaflet 29 = .ok (.aload_n 0, 1) := by decide +kernel
theorem dX1_layLeaflet_30 : decode cX1_layLeaflet 30 = .ok (.getfield 21, 3) := by decide +kernel
theorem dX1_layLeaflet_33 : decode cX1_layLeaflet 33 = .ok (.iconst 2, 1) := by decide +kernel
theorem dX1_layLeaflet_34 : decode cX1_layLeaflet 34 = .ok (.bipush 8, 2) := by decide +kernel
theorem dX1_layLeaflet_36 : decode cX1_layLeaflet 36 = .ok (.invokevirtual 29, 3) := by decide +kernel
theorem dX1_layLeaflet_39 : decode cX1_layLeaflet 39 = .ok (.ireturn, 1) := by decide +kernel
theorem dX1_layLeaflet_40 : decode cX1_layLeaflet 40 = .ok (.aload_n 0, 1) := by decide +kernel
theorem dX1_layLeaflet_41 : decode cX1_layLeaflet 41 = .ok (.getfield 12, 3) := by decide +kernel
theorem dX1_layLeaflet_44 : decode cX1_layLeaflet 44 = .ok (.iload_n 1, 1) := by decide +kernel
theorem dX1_layLeaflet_45 : decode cX1_layLeaflet 45 = .ok (.invokevirtual 40, 3) := by decide +kernel
theorem dX1_layLeaflet_48 : decode cX1_layLeaflet 48 = .ok (.ifCond .eq 13, 3) := by decide +kernel
theorem dX1_layLeaflet_51 : decode cX1_layLeaflet 51 = .ok (.aload_n 0, 1) := by decide +kernel
theorem dX1_layLeaflet_52 : decode cX1_layLeaflet 52 = .ok (.getfield 21, 3) := by decide +kernel
theorem dX1_layLeaflet_55 : decode cX1_layLeaflet 55 = .ok (.iconst 5, 1) := by decide +kernel
theorem dX1_layLeaflet_56 : decode cX1_layLeaflet 56 = .ok (.iload_n 1, 1) := by decide +kernel
theorem dX1_layLeaflet_57 : decode cX1_layLeaflet 57 = .ok (.invokevirtual 29, 3) := by decide +kernel
theorem dX1_layLeaflet_60 : decode cX1_layLeaflet 60 = .ok (.ireturn, 1) := by decide +kernel
theorem dX1_layLeaflet_61 : decode cX1_layLeaflet 61 = .ok (.aload_n 0, 1) := by decide +kernel
theorem dX1_layLeaflet_62 : decode cX1_layLeaflet 62 = .ok (.getfield 12, 3) := by decide +kernel
theorem dX1_layLeaflet_65 : decode cX1_layLeaflet 65 = .ok (.getfield 25, 3) := by decide +kernel
theorem dX1_layLeaflet_68 : decode cX1_layLeaflet 68 = .ok (.istore_n 2, 1) := by decide +kernel
theorem dX1_layLeaflet_69 : decode cX1_layLeaflet 69 = .ok (.aload_n 0, 1) := by decide +kernel
theorem dX1_layLeaflet_70 : decode cX1_layLeaflet 70 = .ok (.getfield 12, 3) := by decide +kernel
theorem dX1_layLeaflet_73 : decode cX1_layLeaflet 73 = .ok (.getfield 43, 3) := by decide +kernel
theorem dX1_layLeaflet_76 : decode cX1_layLeaflet 76 = .ok (.iload_n 2, 1) := by decide +kernel
theorem dX1_layLeaflet_77 : decode cX1_layLeaflet 77 = .ok (.aaload, 1) := by decide +kernel
theorem dX1_layLeaflet_78 : decode cX1_layLeaflet 78 = .ok (.iload_n 1, 1) := by decide +kernel
theorem dX1_layLeaflet_79 : decode cX1_layLeaflet 79 = .ok (.invokevirtual 47, 3) := by decide +kernel
theorem dX1_layLeaflet_82 : decode cX1_layLeaflet 82 = .ok (.aload_n 0, 1) := by decide +kernel
theorem dX1_layLeaflet_83 : decode cX1_layLeaflet 83 = .ok (.getfield 12, 3) := by decide +kernel
theorem dX1_layLeaflet_86 : decode cX1_layLeaflet 86 = .ok (.dup, 1) := by decide +kernel
theorem dX1_layLeaflet_87 : decode cX1_layLeaflet 87 = .ok (.getfield 25, 3) := by decide +kernel
theorem dX1_layLeaflet_90 : decode cX1_layLeaflet 90 = .ok (.iconst 1, 1) := by decide +kernel
theorem dX1_layLeaflet_91 : decode cX1_layLeaflet 91 = .ok (.iadd, 1) := by decide +kernel
theorem dX1_layLeaflet_92 : decode cX1_layLeaflet 92 = .ok (.putfield 25, 3) := by decide +kernel
theorem dX1_layLeaflet_95 : decode cX1_layLeaflet 95 = .ok (.iload_n 2, 1) := by decide +kernel
theorem dX1_layLeaflet_96 : decode cX1_layLeaflet 96 = .ok (.ireturn, 1) := by decide +kernel
set_option maxRecDepth 20000 in
theorem ggX1_addStep_X0_hasLeaflet : GoodIn wsX1_addStep wsX0_hasLeaflet := goodIn_r _ [14, 15, 16, 17, 18, 41, 42, 43, 44, 45, 46, 47, 48, 49] (by decide +kernel) (by decide +kernel)
set_option maxRecDepth 20000 in
theorem gX1_addStep_X0_hasLeaflet : GoodIn wsX1_addStep (wsV RX1 53 RX0 yX0_hasLeaflet wsX0_hasLeaflet) := goodIn_app (goodIn_of _ (by decide +kernel)) ggX1_addStep_X0_hasLeaflet
set_option maxRecDepth 20000 in
theorem ggX1_addStep_X1_refuseNoLeaflet : GoodIn wsX1_addStep wsX1_refuseNoLeaflet := goodIn_r _ [23, 2, 1, 24, 25, 26, 27, 28, 29, 30, 31, 32, 39, 40, 41, 42, 43, 44, 45, 46, 47, 48, 49, 59, 60, 61] (by decide +kernel) (by decide +kernel)
set_option maxRecDepth 20000 in
theorem gX1_addStep_X1_refuseNoLeaflet : GoodIn wsX1_addStep (wsV RX1 56 RX1 yX1_refuseNoLeaflet wsX1_refuseNoLeaflet) := goodIn_app (goodIn_of _ (by decide +kernel)) ggX1_addStep_X1_refuseNoLeaflet
set_option maxRecDepth 20000 in
theorem ggX1_addStep_X10_isWithin : GoodIn wsX1_addStep wsX10_isWithin := goodIn_r _ [18] (by decide +kernel) (by decide +kernel)
set_option maxRecDepth 20000 in
theorem gX1_addStep_X10_isWithin_n60 : GoodIn wsX1_addStep (wsX10_isWithin) := ggX1_addStep_X10_isWithin
set_option maxRecDepth 20000 in
theorem ggX1_addStep_X7_refuse : GoodIn wsX1_addStep wsX7_refuse := goodIn_r _ [29, 30, 31, 32, 59, 60, 61] (by decide +kernel) (by decide +kernel)
set_option maxRecDepth 20000 in
theorem gX1_addStep_X7_refuse : GoodIn wsX1_addStep (wsV RX1 29 RX7 yX7_refuse wsX7_refuse) := goodIn_app (goodIn_of _ (by decide +kernel)) ggX1_addStep_X7_refuse
set_option maxRecDepth 20000 in
theorem ggX1_addStep_X5_isBuilt : GoodIn wsX1_addStep wsX5_isBuilt := goodIn_r _ [37, 38, 50, 51, 52, 53, 54, 55, 56, 57, 58] (by decide +kernel) (by decide +kernel)
set_option maxRecDepth 20000 in
theorem gX1_addStep_X5_isBuilt : GoodIn wsX1_addStep (wsV RX1 64 RX5 yX5_isBuilt wsX5_isBuilt) := goodIn_app (goodIn_of _ (by decide +kernel)) ggX1_addStep_X5_isBuilt
theorem dX1_addStep_0 : decode cX1_addStep 0 = .ok (.aload_n 0, 1) := by decide +kernel
theorem dX1_addStep_1 : decode cX1_addStep 1 = .ok (.getfield 12, 3) := by decide +kernel
theorem dX1_addStep_4 : decode cX1_addStep 4 = .ok (.iload_n 1, 1) := by decide +kernel
theorem dX1_addStep_5 : decode cX1_addStep 5 = .ok (.invokevirtual 53, 3) := by decide +kernel
theorem dX1_addStep_8 : decode cX1_addStep 8 = .ok (.ifCond .ne 8, 3) := by decide +kernel
theorem dX1_addStep_11 : decode cX1_addStep 11 = .ok (.aload_n 0, 1) := by decide +kernel
theorem dX1_addStep_12 : decode cX1_addStep 12 = .ok (.invokevirtual 56, 3) := by decide +kernel
theorem dX1_addStep_15 : decode cX1_addStep 15 = .ok (.ireturn, 1) := by decide +kernel
theorem dX1_addStep_16 : decode cX1_addStep 16 = .ok (.iload_n 2, 1) := by decide +kernel
theorem dX1_addStep_17 : decode cX1_addStep 17 = .ok (.iconst 0, 1) := by decide +kernel
theorem dX1_addStep_18 : decode cX1_addStep 18 = .ok (.iconst 5, 1) := by decide +kernel
theorem dX1_addStep_19 : decode cX1_addStep 19 = .ok (.invokestatic 60, 3) := by decide +kernel
theorem dX1_addStep_22 : decode cX1_addStep 22 = .ok (.ifCond .eq 23, 3) := by decide +kernel
theorem dX1_addStep_25 : decode cX1_addStep 25 = .ok (.iload_n 3, 1) := by decide +kernel
theorem dX1_addStep_26 : decode cX1_addStep 26 = .ok (.iconst 1, 1) := by decide +kernel
theorem dX1_addStep_27 : decode cX1_addStep 27 = .ok (.iconst 4, 1) := by decide +kernel
theorem dX1_addStep_28 : decode cX1_addStep 28 = .ok (.invokestatic 60, 3) := by decide +kernel
theorem dX1_addStep_31 : decode cX1_addStep 31 = .ok (.ifCond .eq 14, 3) := by decide +kernel
theorem dX1_addStep_34 : decode cX1_addStep 34 = .ok (.iload 4, 2) := by decide +kernel
theorem dX1_addStep_36 : decode cX1_addStep 36 = .ok (.iconst 1, 1) := by decide +kernel
theorem dX1_addStep_37 : decode cX1_addStep 37 = .ok (.bipush 31, 2) := by decide +kernel
theorem dX1_addStep_39 : decode cX1_addStep 39 = .ok (.invokestatic 60, 3) := by decide +kernel
theorem dX1_addStep_42 : decode cX1_addStep 42 = .ok (.ifCond .ne 13, 3) := by decide +kernel
theorem dX1_addStep_45 : decode cX1_addStep 45 = .ok (.aload_n 0, 1) := by decide +kernel
theorem dX1_addStep_46 : decode cX1_addStep 46 = .ok (.getfield 21, 3) := by decide +kernel
theorem dX1_addStep_49 : decode cX1_addStep 49 = .ok (.iconst 1, 1) := by decide +kernel
theorem dX1_addStep_50 : decode cX1_addStep 50 = .ok (.iconst 0, 1) := by decide +kernel
theorem dX1_addStep_51 : decode cX1_addStep 51 = .ok (.invokevirtual 29, 3) := by decide +kernel
theorem dX1_addStep_54 : decode cX1_addStep 54 = .ok (.ireturn, 1) := by decide +kernel
theorem dX1_addStep_55 : decode cX1_addStep 55 = .ok (.aload_n 0, 1) := by decide +kernel
theorem dX1_addStep_56 : decode cX1_addStep 56 = .ok (.getfield 12, 3) := by decide +kernel
theorem dX1_addStep_59 : decode cX1_addStep 59 = .ok (.getfield 43, 3) := by decide +kernel
theorem dX1_addStep_62 : decode cX1_addStep 62 = .ok (.iload_n 1, 1) := by decide +kernel
theorem dX1_addStep_63 : decode cX1_addStep 63 = .ok (.aaload, 1) := by decide +kernel
theorem dX1_addStep_64 : decode cX1_addStep 64 = .ok (.astore 6, 2) := by decide +kernel
theorem dX1_addStep_66 : decode cX1_addStep 66 = .ok (.aload 6, 2) := by decide +kernel
theorem dX1_addStep_68 : decode cX1_addStep 68 = .ok (.invokevirtual 64, 3) := by decide +kernel
theorem dX1_addStep_71 : decode cX1_addStep 71 = .ok (.ifCond .eq 18, 3) := by decide +kernel
theorem dX1_addStep_74 : decode cX1_addStep 74 = .ok (.aload_n 0, 1) := by decide +kernel
theorem dX1_addStep_75 : decode cX1_addStep 75 = .ok (.getfield 21, 3) := by decide +kernel
theorem dX1_addStep_78 : decode cX1_addStep 78 = .ok (.bipush 6, 2) := by decide +kernel
theorem dX1_addStep_80 : decode cX1_addStep 80 = .ok (.aload 6, 2) := by decide +kernel
theorem dX1_addStep_82 : decode cX1_addStep 82 = .ok (.getfield 68, 3) := by decide +kernel
theorem dX1_addStep_85 : decode cX1_addStep 85 = .ok (.invokevirtual 29, 3) := by decide +kernel
theorem dX1_addStep_88 : decode cX1_addStep 88 = .ok (.ireturn, 1) := by decide +kernel
theorem dX1_addStep_89 : decode cX1_addStep 89 = .ok (.aload 6, 2) := by decide +kernel
theorem dX1_addStep_91 : decode cX1_addStep 91 = .ok (.getfield 71, 3) := by decide +kernel
theorem dX1_addStep_94 : decode cX1_addStep 94 = .ok (.bipush 8, 2) := by decide +kernel
theorem dX1_addStep_96 : decode cX1_addStep 96 = .ok (.if_icmp .lt 14, 3) := by decide +kernel
theorem dX1_addStep_99 : decode cX1_addStep 99 = .ok (.aload_n 0, 1) := by decide +kernel
theorem dX1_addStep_100 : decode cX1_addStep 100 = .ok (.getfield 21, 3) := by decide +kernel
theorem dX1_addStep_103 : decode cX1_addStep 103 = .ok (.iconst 2, 1) := by decide +kernel
theorem dX1_addStep_104 : decode cX1_addStep 104 = .ok (.bipush 8, 2) := by decide +kernel
theorem dX1_addStep_106 : decode cX1_addStep 106 = .ok (.invokevirtual 29, 3) := by decide +kernel
theorem dX1_addStep_109 : decode cX1_addStep 109 = .ok (.ireturn, 1) := by decide +kernel
theorem dX1_addStep_110 : decode cX1_addStep 110 = .ok (.aload 6, 2) := by decide +kernel
theorem dX1_addStep_112 : decode cX1_addStep 112 = .ok (.getfield 71, 3) := by decide +kernel
theorem dX1_addStep_115 : decode cX1_addStep 115 = .ok (.istore 7, 2) := by decide +kernel
theorem dX1_addStep_117 : decode cX1_addStep 117 = .ok (.aload 6, 2) := by decide +kernel
theorem dX1_addStep_119 : decode cX1_addStep 119 = .ok (.getfield 74, 3) := by decide +kernel
theorem dX1_addStep_122 : decode cX1_addStep 122 = .ok (.iload 7, 2) := by decide +kernel
theorem dX1_addStep_124 : decode cX1_addStep 124 = .ok (.iload_n 2, 1) := by decide +kernel
theorem dX1_addStep_125 : decode cX1_addStep 125 = .ok (.iastore, 1) := by decide +kernel
theorem dX1_addStep_126 : decode cX1_addStep 126 = .ok (.aload 6, 2) := by decide +kernel
theorem dX1_addStep_128 : decode cX1_addStep 128 = .ok (.getfield 78, 3) := by decide +kernel
theorem dX1_addStep_131 : decode cX1_addStep 131 = .ok (.iload 7, 2) := by decide +kernel
theorem dX1_addStep_133 : decode cX1_addStep 133 = .ok (.iload_n 3, 1) := by decide +kernel
theorem dX1_addStep_134 : decode cX1_addStep 134 = .ok (.iastore, 1) := by decide +kernel
theorem dX1_addStep_135 : decode cX1_addStep 135 = .ok (.aload 6, 2) := by decide +kernel
theorem dX1_addStep_137 : decode cX1_addStep 137 = .ok (.getfield 81, 3) := by decide +kernel
theorem dX1_addStep_140 : decode cX1_addStep 140 = .ok (.iload 7, 2) := by decide +kernel
theorem dX1_addStep_142 : decode cX1_addStep 142 = .ok (.iload 4, 2) := by decide +kernel
theorem dX1_addStep_144 : decode cX1_addStep 144 = .ok (.iastore, 1) := by decide +kernel
theorem dX1_addStep_145 : decode cX1_addStep 145 = .ok (.aload 6, 2) := by decide +kernel
theorem dX1_addStep_147 : decode cX1_addStep 147 = .ok (.getfield 84, 3) := by decide +kernel
theorem dX1_addStep_150 : decode cX1_addStep 150 = .ok (.iload 7, 2) := by decide +kernel
theorem dX1_addStep_152 : decode cX1_addStep 152 = .ok (.iload 5, 2) := by decide +kernel
theorem dX1_addStep_154 : decode cX1_addStep 154 = .ok (.ifCond .eq 7, 3) := by decide +kernel
theorem dX1_addStep_157 : decode cX1_addStep 157 = .ok (.iconst 2, 1) := by decide +kernel
theorem dX1_addStep_158 : decode cX1_addStep 158 = .ok (.goto 4, 3) := by decide +kernel
theorem dX1_addStep_161 : decode cX1_addStep 161 = .ok (.iconst 1, 1) := by decide +kernel
theorem dX1_addStep_162 : decode cX1_addStep 162 = .ok (.iastore, 1) := by decide +kernel
theorem dX1_addStep_163 : decode cX1_addStep 163 = .ok (.aload 6, 2) := by decide +kernel
theorem dX1_addStep_165 : decode cX1_addStep 165 = .ok (.dup, 1) := by decide +kernel
theorem dX1_addStep_166 : decode cX1_addStep 166 = .ok (.getfield 71, 3) := by decide +kernel
theorem dX1_addStep_169 : decode cX1_addStep 169 = .ok (.iconst 1, 1) := by decide +kernel
theorem dX1_addStep_170 : decode cX1_addStep 170 = .ok (.iadd, 1) := by decide +kernel
theorem dX1_addStep_171 : decode cX1_addStep 171 = .ok (.putfield 71, 3) := by decide +kernel
theorem dX1_addStep_174 : decode cX1_addStep 174 = .ok (.iload 7, 2) := by decide +kernel
theorem dX1_addStep_176 : decode cX1_addStep 176 = .ok (.ireturn, 1) := by decide +kernel
set_option maxRecDepth 20000 in
theorem ggX1_changeFolds_X0_hasLeaflet : GoodIn wsX1_changeFolds wsX0_hasLeaflet := goodIn_r _ [10, 11, 12, 13, 14, 47, 48, 49, 50, 51, 52, 53, 54, 55] (by decide +kernel) (by decide +kernel)
set_option maxRecDepth 20000 in
theorem gX1_changeFolds_X0_hasLeaflet : GoodIn wsX1_changeFolds (wsV RX1 53 RX0 yX0_hasLeaflet wsX0_hasLeaflet) := goodIn_app (goodIn_of _ (by decide +kernel)) ggX1_changeFolds_X0_hasLeaflet
set_option maxRecDepth 20000 in
theorem ggX1_changeFolds_X1_refuseNoLeaflet : GoodIn wsX1_changeFolds wsX1_refuseNoLeaflet := goodIn_r _ [19, 3, 1, 20, 21, 22, 23, 24, 25, 26, 27, 28, 45, 46, 47, 48, 49, 50, 51, 52, 53, 54, 55, 65, 66, 67] (by decide +kernel) (by decide +kernel)
set_option maxRecDepth 20000 in
theorem gX1_changeFolds_X1_refuseNoLeaflet : GoodIn wsX1_changeFolds (wsV RX1 56 RX1 yX1_refuseNoLeaflet wsX1_refuseNoLeaflet) := goodIn_app (goodIn_of _ (by decide +kernel)) ggX1_changeFolds_X1_refuseNoLeaflet
set_option maxRecDepth 20000 in
theorem ggX1_changeFolds_X5_isBuilt : GoodIn wsX1_changeFolds wsX5_isBuilt := goodIn_r _ [33, 34, 56, 57, 58, 59, 60, 61, 62, 63, 64] (by decide +kernel) (by decide +kernel)
set_option maxRecDepth 20000 in
theorem gX1_changeFolds_X5_isBuilt : GoodIn wsX1_changeFolds (wsV RX1 64 RX5 yX5_isBuilt wsX5_isBuilt) := goodIn_app (goodIn_of _ (by decide +kernel)) ggX1_changeFolds_X5_isBuilt
set_option maxRecDepth 20000 in
theorem ggX1_changeFolds_X7_refuse : GoodIn wsX1_changeFolds wsX7_refuse := goodIn_r _ [25, 26, 27, 28, 65, 66, 67] (by decide +kernel) (by decide +kernel)
set_option maxRecDepth 20000 in
theorem gX1_changeFolds_X7_refuse : GoodIn wsX1_changeFolds (wsV RX1 29 RX7 yX7_refuse wsX7_refuse) := goodIn_app (goodIn_of _ (by decide +kernel)) ggX1_changeFolds_X7_refuse
set_option maxRecDepth 20000 in
theorem ggX1_changeFolds_X10_isWithin : GoodIn wsX1_changeFolds wsX10_isWithin := goodIn_r _ [14] (by decide +kernel) (by decide +kernel)
set_option maxRecDepth 20000 in
theorem gX1_changeFolds_X10_isWithin_n60 : GoodIn wsX1_changeFolds (wsX10_isWithin) := ggX1_changeFolds_X10_isWithin
set_option maxRecDepth 20000 in
theorem ggX1_changeFolds_X5_open : GoodIn wsX1_changeFolds wsX5_open := goodIn_r _ [38, 39, 40, 41, 42, 32, 43, 44, 56, 57, 58, 59, 60, 61, 62, 63, 64] (by decide +kernel) (by decide +kernel)
set_option maxRecDepth 20000 in
theorem gX1_changeFolds_X5_open : GoodIn wsX1_changeFolds (wsV RX1 90 RX5 yX5_open wsX5_open) := goodIn_app (goodIn_of _ (by decide +kernel)) ggX1_changeFolds_X5_open
theorem dX1_changeFolds_0 : decode cX1_changeFolds 0 = .ok (.aload_n 0, 1) := by decide +kernel
theorem dX1_changeFolds_1 : decode cX1_changeFolds 1 = .ok (.getfield 12, 3) := by decide +kernel
theorem dX1_changeFolds_4 : decode cX1_changeFolds 4 = .ok (.iload_n 1, 1) := by decide +kernel
theorem dX1_changeFolds_5 : decode cX1_changeFolds 5 = .ok (.invokevirtual 53, 3) := by decide +kernel
theorem dX1_changeFolds_8 : decode cX1_changeFolds 8 = .ok (.ifCond .ne 8, 3) := by decide +kernel
theorem dX1_changeFolds_11 : decode cX1_changeFolds 11 = .ok (.aload_n 0, 1) := by decide +kernel
theorem dX1_changeFolds_12 : decode cX1_changeFolds 12 = .ok (.invokevirtual 56, 3) := by decide +kernel
theorem dX1_changeFolds_15 : decode cX1_changeFolds 15 = .ok (.ireturn, 1) := by decide +kernel
theorem dX1_changeFolds_16 : decode cX1_changeFolds 16 = .ok (.aload_n 0, 1) := by decide +kernel
theorem dX1_changeFolds_17 : decode cX1_changeFolds 17 = .ok (.getfield 12, 3) := by decide +kernel
theorem dX1_changeFolds_20 : decode cX1_changeFolds 20 = .ok (.getfield 43, 3) := by decide +kernel
theorem dX1_changeFolds_23 : decode cX1_changeFolds 23 = .ok (.iload_n 1, 1) := by decide +kernel
theorem dX1_changeFolds_24 : decode cX1_changeFolds 24 = .ok (.aaload, 1) := by decide +kernel
theorem dX1_changeFolds_25 : decode cX1_changeFolds 25 = .ok (.astore_n 3, 1) := by decide +kernel
theorem dX1_changeFolds_26 : decode cX1_changeFolds 26 = .ok (.aload_n 3, 1) := by decide +kernel
theorem dX1_changeFolds_27 : decode cX1_changeFolds 27 = .ok (.invokevirtual 64, 3) := by decide +kernel
theorem dX1_changeFolds_30 : decode cX1_changeFolds 30 = .ok (.ifCond .eq 17, 3) := by decide +kernel
theorem dX1_changeFolds_33 : decode cX1_changeFolds 33 = .ok (.aload_n 0, 1) := by decide +kernel
theorem dX1_changeFolds_34 : decode cX1_changeFolds 34 = .ok (.getfield 21, 3) := by decide +kernel
theorem dX1_changeFolds_37 : decode cX1_changeFolds 37 = .ok (.bipush 6, 2) := by decide +kernel
theorem dX1_changeFolds_39 : decode cX1_changeFolds 39 = .ok (.aload_n 3, 1) := by decide +kernel
theorem dX1_changeFolds_40 : decode cX1_changeFolds 40 = .ok (.getfield 68, 3) := by decide +kernel
theorem dX1_changeFolds_43 : decode cX1_changeFolds 43 = .ok (.invokevirtual 29, 3) := by decide +kernel
theorem dX1_changeFolds_46 : decode cX1_changeFolds 46 = .ok (.ireturn, 1) := by decide +kernel
theorem dX1_changeFolds_47 : decode cX1_changeFolds 47 = .ok (.aload_n 3, 1) := by decide +kernel
theorem dX1_changeFolds_48 : decode cX1_changeFolds 48 = .ok (.getfield 87, 3) := by decide +kernel
theorem dX1_changeFolds_51 : decode cX1_changeFolds 51 = .ok (.iload_n 2, 1) := by decide +kernel
theorem dX1_changeFolds_52 : decode cX1_changeFolds 52 = .ok (.iadd, 1) := by decide +kernel
theorem dX1_changeFolds_53 : decode cX1_changeFolds 53 = .ok (.istore 4, 2) := by decide +kernel
theorem dX1_changeFolds_55 : decode cX1_changeFolds 55 = .ok (.iload 4, 2) := by decide +kernel
theorem dX1_changeFolds_57 : decode cX1_changeFolds 57 = .ok (.iconst 0, 1) := by decide +kernel
theorem dX1_changeFolds_58 : decode cX1_changeFolds 58 = .ok (.iconst 3, 1) := by decide +kernel
theorem dX1_changeFolds_59 : decode cX1_changeFolds 59 = .ok (.invokestatic 60, 3) := by decide +kernel
theorem dX1_changeFolds_62 : decode cX1_changeFolds 62 = .ok (.ifCond .ne 17, 3) := by decide +kernel
theorem dX1_changeFolds_65 : decode cX1_changeFolds 65 = .ok (.aload_n 0, 1) := by decide +kernel
theorem dX1_changeFolds_66 : decode cX1_changeFolds 66 = .ok (.getfield 21, 3) := by decide +kernel
theorem dX1_changeFolds_69 : decode cX1_changeFolds 69 = .ok (.bipush 11, 2) := by decide +kernel
theorem dX1_changeFolds_71 : decode cX1_changeFolds 71 = .ok (.aload_n 3, 1) := by decide +kernel
theorem dX1_changeFolds_72 : decode cX1_changeFolds 72 = .ok (.getfield 87, 3) := by decide +kernel
theorem dX1_changeFolds_75 : decode cX1_changeFolds 75 = .ok (.invokevirtual 29, 3) := by decide +kernel
theorem dX1_changeFolds_78 : decode cX1_changeFolds 78 = .ok (.ireturn, 1) := by decide +kernel
theorem dX1_changeFolds_79 : decode cX1_changeFolds 79 = .ok (.aload_n 3, 1) := by decide +kernel
theorem dX1_changeFolds_80 : decode cX1_changeFolds 80 = .ok (.iload 4, 2) := by decide +kernel
theorem dX1_changeFolds_82 : decode cX1_changeFolds 82 = .ok (.putfield 87, 3) := by decide +kernel
theorem dX1_changeFolds_85 : decode cX1_changeFolds 85 = .ok (.aload_n 3, 1) := by decide +kernel
theorem dX1_changeFolds_86 : decode cX1_changeFolds 86 = .ok (.invokevirtual 90, 3) := by decide +kernel
theorem dX1_changeFolds_89 : decode cX1_changeFolds 89 = .ok (.ireturn, 1) := by decide +kernel
set_option maxRecDepth 20000 in
theorem ggX1_letCome_X10_isWithin : GoodIn wsX1_letCome wsX10_isWithin := goodIn_r _ [9] (by decide +kernel) (by decide +kernel)
set_option maxRecDepth 20000 in
theorem gX1_letCome_X10_isWithin_n60 : GoodIn wsX1_letCome (wsX10_isWithin) := ggX1_letCome_X10_isWithin
set_option maxRecDepth 20000 in
theorem ggX1_letCome_X7_refuse : GoodIn wsX1_letCome wsX7_refuse := goodIn_r _ [14, 15, 16, 17, 31, 32, 33] (by decide +kernel) (by decide +kernel)
set_option maxRecDepth 20000 in
theorem gX1_letCome_X7_refuse : GoodIn wsX1_letCome (wsV RX1 29 RX7 yX7_refuse wsX7_refuse) := goodIn_app (goodIn_of _ (by decide +kernel)) ggX1_letCome_X7_refuse
theorem dX1_letCome_0 : decode cX1_letCome 0 = .ok (.iload_n 1, 1) := by decide +kernel
theorem dX1_letCome_1 : decode cX1_letCome 1 = .ok (.iconst 0, 1) := by decide +kernel
theorem dX1_letCome_2 : decode cX1_letCome 2 = .ok (.iconst 5, 1) := by decide +kernel
theorem dX1_letCome_3 : decode cX1_letCome 3 = .ok (.invokestatic 60, 3) := by decide +kernel
theorem dX1_letCome_6 : decode cX1_letCome 6 = .ok (.ifCond .eq 13, 3) := by decide +kernel
theorem dX1_letCome_9 : decode cX1_letCome 9 = .ok (.iload_n 2, 1) := by decide +kernel
theorem dX1_letCome_10 : decode cX1_letCome 10 = .ok (.iconst 0, 1) := by decide +kernel
theorem dX1_letCome_11 : decode cX1_letCome 11 = .ok (.bipush 31, 2) := by decide +kernel
theorem dX1_letCome_13 : decode cX1_letCome 13 = .ok (.invokestatic 60, 3) := by decide +kernel
theorem dX1_letCome_16 : decode cX1_letCome 16 = .ok (.ifCond .ne 13, 3) := by decide +kernel
theorem dX1_letCome_19 : decode cX1_letCome 19 = .ok (.aload_n 0, 1) := by decide +kernel
theorem dX1_letCome_20 : decode cX1_letCome 20 = .ok (.getfield 21, 3) := by decide +kernel
theorem dX1_letCome_23 : decode cX1_letCome 23 = .ok (.iconst 1, 1) := by decide +kernel
theorem dX1_letCome_24 : decode cX1_letCome 24 = .ok (.iconst 0, 1) := by decide +kernel
theorem dX1_letCome_25 : decode cX1_letCome 25 = .ok (.invokevirtual 29, 3) := by decide +kernel
theorem dX1_letCome_28 : decode cX1_letCome 28 = .ok (.ireturn, 1) := by decide +kernel
theorem dX1_letCome_29 : decode cX1_letCome 29 = .ok (.aload_n 0, 1) := by decide +kernel
theorem dX1_letCome_30 : decode cX1_letCome 30 = .ok (.getfield 12, 3) := by decide +kernel
theorem dX1_letCome_33 : decode cX1_letCome 33 = .ok (.getfield 33, 3) := by decide +kernel
theorem dX1_letCome_36 : decode cX1_letCome 36 = .ok (.iconst 5, 1) := by decide +kernel
theorem dX1_letCome_37 : decode cX1_letCome 37 = .ok (.if_icmp .lt 13, 3) := by decide +kernel
theorem dX1_letCome_40 : decode cX1_letCome 40 = .ok (.aload_n 0, 1) := by decide +kernel
theorem dX1_letCome_41 : decode cX1_letCome 41 = .ok (.getfield 21, 3) := by decide +kernel
theorem dX1_letCome_44 : decode cX1_letCome 44 = .ok (.iconst 2, 1) := by decide +kernel
theorem dX1_letCome_45 : decode cX1_letCome 45 = .ok (.iconst 5, 1) := by decide +kernel
theorem dX1_letCome_46 : decode cX1_letCome 46 = .ok (.invokevirtual 29, 3) := by decide +kernel
theorem dX1_letCome_49 : decode cX1_letCome 49 = .ok (.ireturn, 1) := by decide +kernel
theorem dX1_letCome_50 : decode cX1_letCome 50 = .ok (.aload_n 0, 1) := by decide +kernel
theorem dX1_letCome_51 : decode cX1_letCome 51 = .ok (.getfield 12, 3) := by decide +kernel
theorem dX1_letCome_54 : decode cX1_letCome 54 = .ok (.getfield 33, 3) := by decide +kernel
theorem dX1_letCome_57 : decode cX1_letCome 57 = .ok (.istore_n 3, 1) := by decide +kernel
theorem dX1_letCome_58 : decode cX1_letCome 58 = .ok (.aload_n 0, 1) := by decide +kernel
theorem dX1_letCome_59 : decode cX1_letCome 59 = .ok (.getfield 12, 3) := by decide +kernel
theorem dX1_letCome_62 : decode cX1_letCome 62 = .ok (.getfield 93, 3) := by decide +kernel
theorem dX1_letCome_65 : decode cX1_letCome 65 = .ok (.iload_n 3, 1) := by decide +kernel
theorem dX1_letCome_66 : decode cX1_letCome 66 = .ok (.aaload, 1) := by decide +kernel
theorem dX1_letCome_67 : decode cX1_letCome 67 = .ok (.iload_n 1, 1) := by decide +kernel
theorem dX1_letCome_68 : decode cX1_letCome 68 = .ok (.putfield 97, 3) := by decide +kernel
theorem dX1_letCome_71 : decode cX1_letCome 71 = .ok (.aload_n 0, 1) := by decide +kernel
theorem dX1_letCome_72 : decode cX1_letCome 72 = .ok (.getfield 12, 3) := by decide +kernel
theorem dX1_letCome_75 : decode cX1_letCome 75 = .ok (.getfield 93, 3) := by decide +kernel
theorem dX1_letCome_78 : decode cX1_letCome 78 = .ok (.iload_n 3, 1) := by decide +kernel
theorem dX1_letCome_79 : decode cX1_letCome 79 = .ok (.aaload, 1) := by decide +kernel
theorem dX1_letCome_80 : decode cX1_letCome 80 = .ok (.iload_n 2, 1) := by decide +kernel
theorem dX1_letCome_81 : decode cX1_letCome 81 = .ok (.putfield 102, 3) := by decide +kernel
theorem dX1_letCome_84 : decode cX1_letCome 84 = .ok (.aload_n 0, 1) := by decide +kernel
theorem dX1_letCome_85 : decode cX1_letCome 85 = .ok (.getfield 12, 3) := by decide +kernel
theorem dX1_letCome_88 : decode cX1_letCome 88 = .ok (.dup, 1) := by decide +kernel
theorem dX1_letCome_89 : decode cX1_letCome 89 = .ok (.getfield 33, 3) := by decide +kernel
theorem dX1_letCome_92 : decode cX1_letCome 92 = .ok (.iconst 1, 1) := by decide +kernel
theorem dX1_letCome_93 : decode cX1_letCome 93 = .ok (.iadd, 1) := by decide +kernel
theorem dX1_letCome_94 : decode cX1_letCome 94 = .ok (.putfield 33, 3) := by decide +kernel
theorem dX1_letCome_97 : decode cX1_letCome 97 = .ok (.iload_n 3, 1) := by decide +kernel
theorem dX1_letCome_98 : decode cX1_letCome 98 = .ok (.ireturn, 1) := by decide +kernel
set_option maxRecDepth 20000 in
theorem ggX1_letLearn_X0_hasCousin : GoodIn wsX1_letLearn wsX0_hasCousin := goodIn_r _ [9, 10, 11, 12, 13, 39, 40, 41, 42, 43, 44, 45, 46, 47] (by decide +kernel) (by decide +kernel)
set_option maxRecDepth 20000 in
theorem gX1_letLearn_X0_hasCousin : GoodIn wsX1_letLearn (wsV RX1 104 RX0 yX0_hasCousin wsX0_hasCousin) := goodIn_app (goodIn_of _ (by decide +kernel)) ggX1_letLearn_X0_hasCousin
set_option maxRecDepth 20000 in
theorem ggX1_letLearn_X1_refuseNoCousin : GoodIn wsX1_letLearn wsX1_refuseNoCousin := goodIn_r _ [18, 2, 1, 19, 20, 21, 22, 23, 24, 25, 26, 27, 37, 38, 39, 40, 41, 42, 43, 44, 45, 46, 47, 50, 51, 52] (by decide +kernel) (by decide +kernel)
set_option maxRecDepth 20000 in
theorem gX1_letLearn_X1_refuseNoCousin : GoodIn wsX1_letLearn (wsV RX1 107 RX1 yX1_refuseNoCousin wsX1_refuseNoCousin) := goodIn_app (goodIn_of _ (by decide +kernel)) ggX1_letLearn_X1_refuseNoCousin
set_option maxRecDepth 20000 in
theorem ggX1_letLearn_X10_isWithin : GoodIn wsX1_letLearn wsX10_isWithin := goodIn_r _ [13] (by decide +kernel) (by decide +kernel)
set_option maxRecDepth 20000 in
theorem gX1_letLearn_X10_isWithin_n60 : GoodIn wsX1_letLearn (wsX10_isWithin) := ggX1_letLearn_X10_isWithin
set_option maxRecDepth 20000 in
theorem ggX1_letLearn_X7_refuse : GoodIn wsX1_letLearn wsX7_refuse := goodIn_r _ [24, 25, 26, 27, 50, 51, 52] (by decide +kernel) (by decide +kernel)
set_option maxRecDepth 20000 in
theorem gX1_letLearn_X7_refuse : GoodIn wsX1_letLearn (wsV RX1 29 RX7 yX7_refuse wsX7_refuse) := goodIn_app (goodIn_of _ (by decide +kernel)) ggX1_letLearn_X7_refuse
set_option maxRecDepth 20000 in
theorem ggX1_letLearn_X10_contains : GoodIn wsX1_letLearn wsX10_contains := goodIn_r _ [29] (by decide +kernel) (by decide +kernel)
set_option maxRecDepth 20000 in
theorem gX1_letLearn_X10_contains_n110 : GoodIn wsX1_letLearn (wsX10_contains) := ggX1_letLearn_X10_contains
set_option maxRecDepth 20000 in
theorem ggX1_letLearn_J6_bitCount_0f7a4 : GoodIn wsX1_letLearn wsJ6_bitCount_0f7a4 := goodIn_r _ [33, 34, 35, 36] (by decide +kernel) (by decide +kernel)
set_option maxRecDepth 20000 in
theorem gX1_letLearn_J6_bitCount_0f7a4 : GoodIn wsX1_letLearn (va_wsS RX1 114 yJ6_bitCount_0f7a4 wsJ6_bitCount_0f7a4) := goodIn_app (goodIn_of _ (by decide +kernel)) ggX1_letLearn_J6_bitCount_0f7a4
theorem dX1_letLearn_0 : decode cX1_letLearn 0 = .ok (.aload_n 0, 1) := by decide +kernel
theorem dX1_letLearn_1 : decode cX1_letLearn 1 = .ok (.getfield 12, 3) := by decide +kernel
theorem dX1_letLearn_4 : decode cX1_letLearn 4 = .ok (.iload_n 1, 1) := by decide +kernel
theorem dX1_letLearn_5 : decode cX1_letLearn 5 = .ok (.invokevirtual 104, 3) := by decide +kernel
theorem dX1_letLearn_8 : decode cX1_letLearn 8 = .ok (.ifCond .ne 8, 3) := by decide +kernel
theorem dX1_letLearn_11 : decode cX1_letLearn 11 = .ok (.aload_n 0, 1) := by decide +kernel
theorem dX1_letLearn_12 : decode cX1_letLearn 12 = .ok (.invokevirtual 107, 3) := by decide +kernel
theorem dX1_letLearn_15 : decode cX1_letLearn 15 = .ok (.ireturn, 1) := by decide +kernel
theorem dX1_letLearn_16 : decode cX1_letLearn 16 = .ok (.iload_n 2, 1) := by decide +kernel
theorem dX1_letLearn_17 : decode cX1_letLearn 17 = .ok (.iconst 0, 1) := by decide +kernel
theorem dX1_letLearn_18 : decode cX1_letLearn 18 = .ok (.iconst 4, 1) := by decide +kernel
theorem dX1_letLearn_19 : decode cX1_letLearn 19 = .ok (.invokestatic 60, 3) := by decide +kernel
theorem dX1_letLearn_22 : decode cX1_letLearn 22 = .ok (.ifCond .ne 13, 3) := by decide +kernel
theorem dX1_letLearn_25 : decode cX1_letLearn 25 = .ok (.aload_n 0, 1) := by decide +kernel
theorem dX1_letLearn_26 : decode cX1_letLearn 26 = .ok (.getfield 21, 3) := by decide +kernel
theorem dX1_letLearn_29 : decode cX1_letLearn 29 = .ok (.iconst 1, 1) := by decide +kernel
theorem dX1_letLearn_30 : decode cX1_letLearn 30 = .ok (.iconst 0, 1) := by decide +kernel
theorem dX1_letLearn_31 : decode cX1_letLearn 31 = .ok (.invokevirtual 29, 3) := by decide +kernel
theorem dX1_letLearn_34 : decode cX1_letLearn 34 = .ok (.ireturn, 1) := by decide +kernel
theorem dX1_letLearn_35 : decode cX1_letLearn 35 = .ok (.aload_n 0, 1) := by decide +kernel
theorem dX1_letLearn_36 : decode cX1_letLearn 36 = .ok (.getfield 12, 3) := by decide +kernel
theorem dX1_letLearn_39 : decode cX1_letLearn 39 = .ok (.getfield 93, 3) := by decide +kernel
theorem dX1_letLearn_42 : decode cX1_letLearn 42 = .ok (.iload_n 1, 1) := by decide +kernel
theorem dX1_letLearn_43 : decode cX1_letLearn 43 = .ok (.aaload, 1) := by decide +kernel
theorem dX1_letLearn_44 : decode cX1_letLearn 44 = .ok (.astore_n 3, 1) := by decide +kernel
theorem dX1_letLearn_45 : decode cX1_letLearn 45 = .ok (.aload_n 3, 1) := by decide +kernel
theorem dX1_letLearn_46 : decode cX1_letLearn 46 = .ok (.getfield 102, 3) := by decide +kernel
theorem dX1_letLearn_49 : decode cX1_letLearn 49 = .ok (.iload_n 2, 1) := by decide +kernel
theorem dX1_letLearn_50 : decode cX1_letLearn 50 = .ok (.invokestatic 110, 3) := by decide +kernel
theorem dX1_letLearn_53 : decode cX1_letLearn 53 = .ok (.ifCond .eq 14, 3) := by decide +kernel
theorem dX1_letLearn_56 : decode cX1_letLearn 56 = .ok (.aload_n 0, 1) := by decide +kernel
theorem dX1_letLearn_57 : decode cX1_letLearn 57 = .ok (.getfield 21, 3) := by decide +kernel
theorem dX1_letLearn_60 : decode cX1_letLearn 60 = .ok (.bipush 12, 2) := by decide +kernel
theorem dX1_letLearn_62 : decode cX1_letLearn 62 = .ok (.iload_n 2, 1) := by decide +kernel
theorem dX1_letLearn_63 : decode cX1_letLearn 63 = .ok (.invokevirtual 29, 3) := by decide +kernel
theorem dX1_letLearn_66 : decode cX1_letLearn 66 = .ok (.ireturn, 1) := by decide +kernel
theorem dX1_letLearn_67 : decode cX1_letLearn 67 = .ok (.aload_n 3, 1) := by decide +kernel
theorem dX1_letLearn_68 : decode cX1_letLearn 68 = .ok (.dup, 1) := by decide +kernel
theorem dX1_letLearn_69 : decode cX1_letLearn 69 = .ok (.getfield 102, 3) := by decide +kernel
theorem dX1_letLearn_72 : decode cX1_letLearn 72 = .ok (.iconst 1, 1) := by decide +kernel
theorem dX1_letLearn_73 : decode cX1_letLearn 73 = .ok (.iload_n 2, 1) := by decide +kernel
theorem dX1_letLearn_74 : decode cX1_letLearn 74 = .ok (.ishl, 1) := by decide +kernel
theorem dX1_letLearn_75 : decode cX1_letLearn 75 = .ok (.ior, 1) := by decide +kernel
theorem dX1_letLearn_76 : decode cX1_letLearn 76 = .ok (.putfield 102, 3) := by decide +kernel
theorem dX1_letLearn_79 : decode cX1_letLearn 79 = .ok (.aload_n 3, 1) := by decide +kernel
theorem dX1_letLearn_80 : decode cX1_letLearn 80 = .ok (.getfield 102, 3) := by decide +kernel
theorem dX1_letLearn_83 : decode cX1_letLearn 83 = .ok (.invokestatic 114, 3) := by decide +kernel
theorem dX1_letLearn_86 : decode cX1_letLearn 86 = .ok (.ireturn, 1) := by decide +kernel
set_option maxRecDepth 20000 in
theorem ggX1_letBuild_X0_hasCousin : GoodIn wsX1_letBuild wsX0_hasCousin := goodIn_r _ [18, 19, 20, 21, 22, 112, 113, 114, 115, 116, 117, 118, 119, 120] (by decide +kernel) (by decide +kernel)
set_option maxRecDepth 20000 in
theorem gX1_letBuild_X0_hasCousin : GoodIn wsX1_letBuild (wsV RX1 104 RX0 yX0_hasCousin wsX0_hasCousin) := goodIn_app (goodIn_of _ (by decide +kernel)) ggX1_letBuild_X0_hasCousin
set_option maxRecDepth 20000 in
theorem ggX1_letBuild_X1_refuseNoCousin : GoodIn wsX1_letBuild wsX1_refuseNoCousin := goodIn_r _ [27, 3, 1, 28, 29, 30, 31, 32, 33, 34, 35, 36, 110, 111, 112, 113, 114, 115, 116, 117, 118, 119, 120, 132, 133, 134] (by decide +kernel) (by decide +kernel)
set_option maxRecDepth 20000 in
theorem gX1_letBuild_X1_refuseNoCousin : GoodIn wsX1_letBuild (wsV RX1 107 RX1 yX1_refuseNoCousin wsX1_refuseNoCousin) := goodIn_app (goodIn_of _ (by decide +kernel)) ggX1_letBuild_X1_refuseNoCousin
set_option maxRecDepth 20000 in
theorem ggX1_letBuild_X0_hasLeaflet : GoodIn wsX1_letBuild wsX0_hasLeaflet := goodIn_r _ [40, 41, 20, 21, 22, 112, 113, 114, 115, 116, 117, 118, 119, 120] (by decide +kernel) (by decide +kernel)
set_option maxRecDepth 20000 in
theorem gX1_letBuild_X0_hasLeaflet : GoodIn wsX1_letBuild (wsV RX1 53 RX0 yX0_hasLeaflet wsX0_hasLeaflet) := goodIn_app (goodIn_of _ (by decide +kernel)) ggX1_letBuild_X0_hasLeaflet
set_option maxRecDepth 20000 in
theorem ggX1_letBuild_X1_refuseNoLeaflet : GoodIn wsX1_letBuild wsX1_refuseNoLeaflet := goodIn_r _ [45, 3, 1, 46, 29, 30, 31, 32, 33, 34, 35, 36, 110, 111, 112, 113, 114, 115, 116, 117, 118, 119, 120, 132, 133, 134] (by decide +kernel) (by decide +kernel)
set_option maxRecDepth 20000 in
theorem gX1_letBuild_X1_refuseNoLeaflet : GoodIn wsX1_letBuild (wsV RX1 56 RX1 yX1_refuseNoLeaflet wsX1_refuseNoLeaflet) := goodIn_app (goodIn_of _ (by decide +kernel)) ggX1_letBuild_X1_refuseNoLeaflet
set_option maxRecDepth 20000 in
theorem ggX1_letBuild_X5_isBuilt : GoodIn wsX1_letBuild wsX5_isBuilt := goodIn_r _ [51, 52, 121, 122, 123, 124, 125, 126, 127, 128, 129] (by decide +kernel) (by decide +kernel)
set_option maxRecDepth 20000 in
theorem gX1_letBuild_X5_isBuilt : GoodIn wsX1_letBuild (wsV RX1 64 RX5 yX5_isBuilt wsX5_isBuilt) := goodIn_app (goodIn_of _ (by decide +kernel)) ggX1_letBuild_X5_isBuilt
set_option maxRecDepth 20000 in
theorem ggX1_letBuild_X7_refuse : GoodIn wsX1_letBuild wsX7_refuse := goodIn_r _ [33, 34, 35, 36, 132, 133, 134] (by decide +kernel) (by decide +kernel)
set_option maxRecDepth 20000 in
theorem gX1_letBuild_X7_refuse : GoodIn wsX1_letBuild (wsV RX1 29 RX7 yX7_refuse wsX7_refuse) := goodIn_app (goodIn_of _ (by decide +kernel)) ggX1_letBuild_X7_refuse
set_option maxRecDepth 20000 in
theorem ggX1_letBuild_X5_stepsSkippedWith : GoodIn wsX1_letBuild wsX5_stepsSkippedWith := goodIn_r _ [56, 57, 58, 59, 50, 60, 61, 62, 63, 64, 65, 66, 67, 68, 69, 70, 71, 72, 73, 74, 75, 76, 77, 78, 79, 80, 121, 122, 123, 124, 125, 126, 127, 128, 129] (by decide +kernel) (by decide +kernel)
set_option maxRecDepth 20000 in
theorem gX1_letBuild_X5_stepsSkippedWith : GoodIn wsX1_letBuild (wsV RX1 120 RX5 yX5_stepsSkippedWith wsX5_stepsSkippedWith) := goodIn_app (goodIn_of _ (by decide +kernel)) ggX1_letBuild_X5_stepsSkippedWith
set_option maxRecDepth 20000 in
theorem ggX1_letBuild_X9_putIn : GoodIn wsX1_letBuild wsX9_putIn := goodIn_r _ [85, 86, 87, 88, 89, 50, 90, 61, 79, 91, 21, 92, 93, 94, 95, 96, 97, 80, 135, 136, 121, 122, 123, 124, 125, 126, 127, 128, 129] (by decide +kernel) (by decide +kernel)
set_option maxRecDepth 20000 in
theorem gX1_letBuild_X9_putIn : GoodIn wsX1_letBuild (wsV RX1 131 RX9 yX9_putIn wsX9_putIn) := goodIn_app (goodIn_of _ (by decide +kernel)) ggX1_letBuild_X9_putIn
set_option maxRecDepth 20000 in
theorem ggX1_letBuild_X5_skippedSteps : GoodIn wsX1_letBuild wsX5_skippedSteps := goodIn_r _ [101, 102, 103, 104, 105, 106, 107, 108, 109, 121, 122, 123, 124, 125, 126, 127, 128, 129] (by decide +kernel) (by decide +kernel)
set_option maxRecDepth 20000 in
theorem gX1_letBuild_X5_skippedSteps : GoodIn wsX1_letBuild (wsV RX1 143 RX5 yX5_skippedSteps wsX5_skippedSteps) := goodIn_app (goodIn_of _ (by decide +kernel)) ggX1_letBuild_X5_skippedSteps
theorem dX1_letBuild_0 : decode cX1_letBuild 0 = .ok (.aload_n 0, 1) := by decide +kernel
theorem dX1_letBuild_1 : decode cX1_letBuild 1 = .ok (.getfield 12, 3) := by decide +kernel
theorem dX1_letBuild_4 : decode cX1_letBuild 4 = .ok (.iload_n 1, 1) := by decide +kernel
theorem dX1_letBuild_5 : decode cX1_letBuild 5 = .ok (.invokevirtual 104, 3) := by decide +kernel
theorem dX1_letBuild_8 : decode cX1_letBuild 8 = .ok (.ifCond .ne 8, 3) := by decide +kernel
theorem dX1_letBuild_11 : decode cX1_letBuild 11 = .ok (.aload_n 0, 1) := by decide +kernel
theorem dX1_letBuild_12 : decode cX1_letBuild 12 = .ok (.invokevirtual 107, 3) := by decide +kernel
theorem dX1_letBuild_15 : decode cX1_letBuild 15 = .ok (.ireturn, 1) := by decide +kernel
theorem dX1_letBuild_16 : decode cX1_letBuild 16 = .ok (.aload_n 0, 1) := by decide +kernel
theorem dX1_letBuild_17 : decode cX1_letBuild 17 = .ok (.getfield 12, 3) := by decide +kernel
theorem dX1_letBuild_20 : decode cX1_letBuild 20 = .ok (.iload_n 2, 1) := by decide +kernel
theorem dX1_letBuild_21 : decode cX1_letBuild 21 = .ok (.invokevirtual 53, 3) := by decide +kernel
theorem dX1_letBuild_24 : decode cX1_letBuild 24 = .ok (.ifCond .ne 8, 3) := by decide +kernel
theorem dX1_letBuild_27 : decode cX1_letBuild 27 = .ok (.aload_n 0, 1) := by decide +kernel
theorem dX1_letBuild_28 : decode cX1_letBuild 28 = .ok (.invokevirtual 56, 3) := by decide +kernel
theorem dX1_letBuild_31 : decode cX1_letBuild 31 = .ok (.ireturn, 1) := by decide +kernel
theorem dX1_letBuild_32 : decode cX1_letBuild 32 = .ok (.aload_n 0, 1) := by decide +kernel
theorem dX1_letBuild_33 : decode cX1_letBuild 33 = .ok (.getfield 12, 3) := by decide +kernel
theorem dX1_letBuild_36 : decode cX1_letBuild 36 = .ok (.getfield 43, 3) := by decide +kernel
theorem dX1_letBuild_39 : decode cX1_letBuild 39 = .ok (.iload_n 2, 1) := by decide +kernel
theorem dX1_letBuild_40 : decode cX1_letBuild 40 = .ok (.aaload, 1) := by decide +kernel
theorem dX1_letBuild_41 : decode cX1_letBuild 41 = .ok (.astore_n 3, 1) := by decide +kernel
theorem dX1_letBuild_42 : decode cX1_letBuild 42 = .ok (.aload_n 3, 1) := by decide +kernel
theorem dX1_letBuild_43 : decode cX1_letBuild 43 = .ok (.invokevirtual 64, 3) := by decide +kernel
theorem dX1_letBuild_46 : decode cX1_letBuild 46 = .ok (.ifCond .eq 17, 3) := by decide +kernel
theorem dX1_letBuild_49 : decode cX1_letBuild 49 = .ok (.aload_n 0, 1) := by decide +kernel
theorem dX1_letBuild_50 : decode cX1_letBuild 50 = .ok (.getfield 21, 3) := by decide +kernel
theorem dX1_letBuild_53 : decode cX1_letBuild 53 = .ok (.bipush 6, 2) := by decide +kernel
theorem dX1_letBuild_55 : decode cX1_letBuild 55 = .ok (.aload_n 3, 1) := by decide +kernel
theorem dX1_letBuild_56 : decode cX1_letBuild 56 = .ok (.getfield 68, 3) := by decide +kernel
theorem dX1_letBuild_59 : decode cX1_letBuild 59 = .ok (.invokevirtual 29, 3) := by decide +kernel
theorem dX1_letBuild_62 : decode cX1_letBuild 62 = .ok (.ireturn, 1) := by decide +kernel
theorem dX1_letBuild_63 : decode cX1_letBuild 63 = .ok (.aload_n 0, 1) := by decide +kernel
theorem dX1_letBuild_64 : decode cX1_letBuild 64 = .ok (.getfield 12, 3) := by decide +kernel
theorem dX1_letBuild_67 : decode cX1_letBuild 67 = .ok (.getfield 93, 3) := by decide +kernel
theorem dX1_letBuild_70 : decode cX1_letBuild 70 = .ok (.iload_n 1, 1) := by decide +kernel
theorem dX1_letBuild_71 : decode cX1_letBuild 71 = .ok (.aaload, 1) := by decide +kernel
theorem dX1_letBuild_72 : decode cX1_letBuild 72 = .ok (.astore 4, 2) := by decide +kernel
theorem dX1_letBuild_74 : decode cX1_letBuild 74 = .ok (.aload_n 3, 1) := by decide +kernel
theorem dX1_letBuild_75 : decode cX1_letBuild 75 = .ok (.iload_n 1, 1) := by decide +kernel
theorem dX1_letBuild_76 : decode cX1_letBuild 76 = .ok (.putfield 68, 3) := by decide +kernel
theorem dX1_letBuild_79 : decode cX1_letBuild 79 = .ok (.aload_n 3, 1) := by decide +kernel
theorem dX1_letBuild_80 : decode cX1_letBuild 80 = .ok (.aload_n 3, 1) := by decide +kernel
theorem dX1_letBuild_81 : decode cX1_letBuild 81 = .ok (.aload 4, 2) := by decide +kernel
theorem dX1_letBuild_83 : decode cX1_letBuild 83 = .ok (.getfield 102, 3) := by decide +kernel
theorem dX1_letBuild_86 : decode cX1_letBuild 86 = .ok (.aload 4, 2) := by decide +kernel
theorem dX1_letBuild_88 : decode cX1_letBuild 88 = .ok (.getfield 97, 3) := by decide +kernel
theorem dX1_letBuild_91 : decode cX1_letBuild 91 = .ok (.aload_n 3, 1) := by decide +kernel
theorem dX1_letBuild_92 : decode cX1_letBuild 92 = .ok (.getfield 87, 3) := by decide +kernel
theorem dX1_letBuild_95 : decode cX1_letBuild 95 = .ok (.invokevirtual 120, 3) := by decide +kernel
theorem dX1_letBuild_98 : decode cX1_letBuild 98 = .ok (.putfield 124, 3) := by decide +kernel
theorem dX1_letBuild_101 : decode cX1_letBuild 101 = .ok (.aload_n 0, 1) := by decide +kernel
theorem dX1_letBuild_102 : decode cX1_letBuild 102 = .ok (.getfield 12, 3) := by decide +kernel
theorem dX1_letBuild_105 : decode cX1_letBuild 105 = .ok (.getfield 127, 3) := by decide +kernel
theorem dX1_letBuild_108 : decode cX1_letBuild 108 = .ok (.aload_n 3, 1) := by decide +kernel
theorem dX1_letBuild_109 : decode cX1_letBuild 109 = .ok (.aload_n 3, 1) := by decide +kernel
theorem dX1_letBuild_110 : decode cX1_letBuild 110 = .ok (.getfield 124, 3) := by decide +kernel
theorem dX1_letBuild_113 : decode cX1_letBuild 113 = .ok (.invokevirtual 131, 3) := by decide +kernel
theorem dX1_letBuild_116 : decode cX1_letBuild 116 = .ok (.aload_n 0, 1) := by decide +kernel
theorem dX1_letBuild_117 : decode cX1_letBuild 117 = .ok (.getfield 12, 3) := by decide +kernel
theorem dX1_letBuild_120 : decode cX1_letBuild 120 = .ok (.dup, 1) := by decide +kernel
theorem dX1_letBuild_121 : decode cX1_letBuild 121 = .ok (.getfield 137, 3) := by decide +kernel
theorem dX1_letBuild_124 : decode cX1_letBuild 124 = .ok (.iconst 1, 1) := by decide +kernel
theorem dX1_letBuild_125 : decode cX1_letBuild 125 = .ok (.iadd, 1) := by decide +kernel
theorem dX1_letBuild_126 : decode cX1_letBuild 126 = .ok (.putfield 137, 3) := by decide +kernel
theorem dX1_letBuild_129 : decode cX1_letBuild 129 = .ok (.aload_n 0, 1) := by decide +kernel
theorem dX1_letBuild_130 : decode cX1_letBuild 130 = .ok (.getfield 12, 3) := by decide +kernel
theorem dX1_letBuild_133 : decode cX1_letBuild 133 = .ok (.dup, 1) := by decide +kernel
theorem dX1_letBuild_134 : decode cX1_letBuild 134 = .ok (.getfield 140, 3) := by decide +kernel
theorem dX1_letBuild_137 : decode cX1_letBuild 137 = .ok (.aload_n 3, 1) := by decide +kernel
theorem dX1_letBuild_138 : decode cX1_letBuild 138 = .ok (.invokevirtual 143, 3) := by decide +kernel
theorem dX1_letBuild_141 : decode cX1_letBuild 141 = .ok (.iadd, 1) := by decide +kernel
theorem dX1_letBuild_142 : decode cX1_letBuild 142 = .ok (.putfield 140, 3) := by decide +kernel
theorem dX1_letBuild_145 : decode cX1_letBuild 145 = .ok (.aload_n 3, 1) := by decide +kernel
theorem dX1_letBuild_146 : decode cX1_letBuild 146 = .ok (.getfield 71, 3) := by decide +kernel
theorem dX1_letBuild_149 : decode cX1_letBuild 149 = .ok (.aload_n 3, 1) := by decide +kernel
theorem dX1_letBuild_150 : decode cX1_letBuild 150 = .ok (.invokevirtual 143, 3) := by decide +kernel
theorem dX1_letBuild_153 : decode cX1_letBuild 153 = .ok (.isub, 1) := by decide +kernel
theorem dX1_letBuild_154 : decode cX1_letBuild 154 = .ok (.ireturn, 1) := by decide +kernel
set_option maxRecDepth 20000 in
theorem ggX1_doLater_X0_hasLeaflet : GoodIn wsX1_doLater wsX0_hasLeaflet := goodIn_r _ [12, 13, 14, 15, 16, 83, 84, 85, 86, 87, 88, 89, 90, 91] (by decide +kernel) (by decide +kernel)
set_option maxRecDepth 20000 in
theorem gX1_doLater_X0_hasLeaflet : GoodIn wsX1_doLater (wsV RX1 53 RX0 yX0_hasLeaflet wsX0_hasLeaflet) := goodIn_app (goodIn_of _ (by decide +kernel)) ggX1_doLater_X0_hasLeaflet
set_option maxRecDepth 20000 in
theorem ggX1_doLater_X1_refuseNoLeaflet : GoodIn wsX1_doLater wsX1_refuseNoLeaflet := goodIn_r _ [21, 3, 1, 22, 23, 24, 25, 26, 27, 28, 29, 30, 81, 82, 83, 84, 85, 86, 87, 88, 89, 90, 91, 101, 102, 103] (by decide +kernel) (by decide +kernel)
set_option maxRecDepth 20000 in
theorem gX1_doLater_X1_refuseNoLeaflet : GoodIn wsX1_doLater (wsV RX1 56 RX1 yX1_refuseNoLeaflet wsX1_refuseNoLeaflet) := goodIn_app (goodIn_of _ (by decide +kernel)) ggX1_doLater_X1_refuseNoLeaflet
set_option maxRecDepth 20000 in
theorem ggX1_doLater_X5_isBuilt : GoodIn wsX1_doLater wsX5_isBuilt := goodIn_r _ [35, 36, 92, 93, 94, 95, 96, 97, 98, 99, 100] (by decide +kernel) (by decide +kernel)
set_option maxRecDepth 20000 in
theorem gX1_doLater_X5_isBuilt : GoodIn wsX1_doLater (wsV RX1 64 RX5 yX5_isBuilt wsX5_isBuilt) := goodIn_app (goodIn_of _ (by decide +kernel)) ggX1_doLater_X5_isBuilt
set_option maxRecDepth 20000 in
theorem ggX1_doLater_X7_refuse : GoodIn wsX1_doLater wsX7_refuse := goodIn_r _ [27, 28, 29, 30, 101, 102, 103] (by decide +kernel) (by decide +kernel)
set_option maxRecDepth 20000 in
theorem gX1_doLater_X7_refuse : GoodIn wsX1_doLater (wsV RX1 29 RX7 yX7_refuse wsX7_refuse) := goodIn_app (goodIn_of _ (by decide +kernel)) ggX1_doLater_X7_refuse
set_option maxRecDepth 20000 in
theorem ggX1_doLater_X5_hasStep : GoodIn wsX1_doLater wsX5_hasStep := goodIn_r _ [40, 41, 14, 15, 16, 92, 93, 94, 95, 96, 97, 98, 99, 100] (by decide +kernel) (by decide +kernel)
set_option maxRecDepth 20000 in
theorem gX1_doLater_X5_hasStep : GoodIn wsX1_doLater (wsV RX1 146 RX5 yX5_hasStep wsX5_hasStep) := goodIn_app (goodIn_of _ (by decide +kernel)) ggX1_doLater_X5_hasStep
set_option maxRecDepth 20000 in
theorem ggX1_doLater_X5_isSkipped : GoodIn wsX1_doLater wsX5_isSkipped := goodIn_r _ [45, 46, 47, 15, 48, 92, 93, 94, 95, 96, 97, 98, 99, 100] (by decide +kernel) (by decide +kernel)
set_option maxRecDepth 20000 in
theorem gX1_doLater_X5_isSkipped : GoodIn wsX1_doLater (wsV RX1 149 RX5 yX5_isSkipped wsX5_isSkipped) := goodIn_app (goodIn_of _ (by decide +kernel)) ggX1_doLater_X5_isSkipped
set_option maxRecDepth 20000 in
theorem ggX1_doLater_X9_kindLacking : GoodIn wsX1_doLater wsX9_kindLacking := goodIn_r _ [53, 54, 55, 56, 57, 34, 58, 41, 59, 47, 15, 48, 60, 61, 62, 63, 64, 65, 104, 105, 92, 93, 94, 95, 96, 97, 98, 99, 100] (by decide +kernel) (by decide +kernel)
set_option maxRecDepth 20000 in
theorem gX1_doLater_X9_kindLacking : GoodIn wsX1_doLater (wsV RX1 152 RX9 yX9_kindLacking wsX9_kindLacking) := goodIn_app (goodIn_of _ (by decide +kernel)) ggX1_doLater_X9_kindLacking
set_option maxRecDepth 20000 in
theorem ggX1_doLater_X9_takeOut : GoodIn wsX1_doLater wsX9_takeOut := goodIn_r _ [69, 54, 55, 56, 57, 34, 58, 41, 59, 47, 15, 48, 60, 61, 62, 63, 64, 65, 104, 105, 92, 93, 94, 95, 96, 97, 98, 99, 100] (by decide +kernel) (by decide +kernel)
set_option maxRecDepth 20000 in
theorem gX1_doLater_X9_takeOut : GoodIn wsX1_doLater (wsV RX1 156 RX9 yX9_takeOut wsX9_takeOut) := goodIn_app (goodIn_of _ (by decide +kernel)) ggX1_doLater_X9_takeOut
set_option maxRecDepth 20000 in
theorem ggX1_doLater_X5_skippedSteps : GoodIn wsX1_doLater wsX5_skippedSteps := goodIn_r _ [73, 46, 74, 75, 76, 77, 78, 79, 80, 92, 93, 94, 95, 96, 97, 98, 99, 100] (by decide +kernel) (by decide +kernel)
set_option maxRecDepth 20000 in
theorem gX1_doLater_X5_skippedSteps : GoodIn wsX1_doLater (wsV RX1 143 RX5 yX5_skippedSteps wsX5_skippedSteps) := goodIn_app (goodIn_of _ (by decide +kernel)) ggX1_doLater_X5_skippedSteps
theorem dX1_doLater_0 : decode cX1_doLater 0 = .ok (.aload_n 0, 1) := by decide +kernel
theorem dX1_doLater_1 : decode cX1_doLater 1 = .ok (.getfield 12, 3) := by decide +kernel
theorem dX1_doLater_4 : decode cX1_doLater 4 = .ok (.iload_n 1, 1) := by decide +kernel
theorem dX1_doLater_5 : decode cX1_doLater 5 = .ok (.invokevirtual 53, 3) := by decide +kernel
theorem dX1_doLater_8 : decode cX1_doLater 8 = .ok (.ifCond .ne 8, 3) := by decide +kernel
theorem dX1_doLater_11 : decode cX1_doLater 11 = .ok (.aload_n 0, 1) := by decide +kernel
theorem dX1_doLater_12 : decode cX1_doLater 12 = .ok (.invokevirtual 56, 3) := by decide +kernel
theorem dX1_doLater_15 : decode cX1_doLater 15 = .ok (.ireturn, 1) := by decide +kernel
theorem dX1_doLater_16 : decode cX1_doLater 16 = .ok (.aload_n 0, 1) := by decide +kernel
theorem dX1_doLater_17 : decode cX1_doLater 17 = .ok (.getfield 12, 3) := by decide +kernel
theorem dX1_doLater_20 : decode cX1_doLater 20 = .ok (.getfield 43, 3) := by decide +kernel
theorem dX1_doLater_23 : decode cX1_doLater 23 = .ok (.iload_n 1, 1) := by decide +kernel
theorem dX1_doLater_24 : decode cX1_doLater 24 = .ok (.aaload, 1) := by decide +kernel
theorem dX1_doLater_25 : decode cX1_doLater 25 = .ok (.astore_n 3, 1) := by decide +kernel
theorem dX1_doLater_26 : decode cX1_doLater 26 = .ok (.aload_n 3, 1) := by decide +kernel
theorem dX1_doLater_27 : decode cX1_doLater 27 = .ok (.invokevirtual 64, 3) := by decide +kernel
theorem dX1_doLater_30 : decode cX1_doLater 30 = .ok (.ifCond .ne 14, 3) := by decide +kernel
theorem dX1_doLater_33 : decode cX1_doLater 33 = .ok (.aload_n 0, 1) := by decide +kernel
theorem dX1_doLater_34 : decode cX1_doLater 34 = .ok (.getfield 21, 3) := by decide +kernel
theorem dX1_doLater_37 : decode cX1_doLater 37 = .ok (.bipush 7, 2) := by decide +kernel
theorem dX1_doLater_39 : decode cX1_doLater 39 = .ok (.iconst 0, 1) := by decide +kernel
theorem dX1_doLater_40 : decode cX1_doLater 40 = .ok (.invokevirtual 29, 3) := by decide +kernel
theorem dX1_doLater_43 : decode cX1_doLater 43 = .ok (.ireturn, 1) := by decide +kernel
theorem dX1_doLater_44 : decode cX1_doLater 44 = .ok (.aload_n 3, 1) := by decide +kernel
theorem dX1_doLater_45 : decode cX1_doLater 45 = .ok (.iload_n 2, 1) := by decide +kernel
theorem dX1_doLater_46 : decode cX1_doLater 46 = .ok (.invokevirtual 146, 3) := by decide +kernel
theorem dX1_doLater_49 : decode cX1_doLater 49 = .ok (.ifCond .ne 17, 3) := by decide +kernel
theorem dX1_doLater_52 : decode cX1_doLater 52 = .ok (.aload_n 0, 1) := by decide +kernel
theorem dX1_doLater_53 : decode cX1_doLater 53 = .ok (.getfield 21, 3) := by decide +kernel
theorem dX1_doLater_56 : decode cX1_doLater 56 = .ok (.bipush 8, 2) := by decide +kernel
theorem dX1_doLater_58 : decode cX1_doLater 58 = .ok (.aload_n 3, 1) := by decide +kernel
theorem dX1_doLater_59 : decode cX1_doLater 59 = .ok (.getfield 71, 3) := by decide +kernel
theorem dX1_doLater_62 : decode cX1_doLater 62 = .ok (.invokevirtual 29, 3) := by decide +kernel
theorem dX1_doLater_65 : decode cX1_doLater 65 = .ok (.ireturn, 1) := by decide +kernel
theorem dX1_doLater_66 : decode cX1_doLater 66 = .ok (.aload_n 3, 1) := by decide +kernel
theorem dX1_doLater_67 : decode cX1_doLater 67 = .ok (.iload_n 2, 1) := by decide +kernel
theorem dX1_doLater_68 : decode cX1_doLater 68 = .ok (.invokevirtual 149, 3) := by decide +kernel
theorem dX1_doLater_71 : decode cX1_doLater 71 = .ok (.ifCond .ne 14, 3) := by decide +kernel
theorem dX1_doLater_74 : decode cX1_doLater 74 = .ok (.aload_n 0, 1) := by decide +kernel
theorem dX1_doLater_75 : decode cX1_doLater 75 = .ok (.getfield 21, 3) := by decide +kernel
theorem dX1_doLater_78 : decode cX1_doLater 78 = .ok (.bipush 9, 2) := by decide +kernel
theorem dX1_doLater_80 : decode cX1_doLater 80 = .ok (.iload_n 2, 1) := by decide +kernel
theorem dX1_doLater_81 : decode cX1_doLater 81 = .ok (.invokevirtual 29, 3) := by decide +kernel
theorem dX1_doLater_84 : decode cX1_doLater 84 = .ok (.ireturn, 1) := by decide +kernel
theorem dX1_doLater_85 : decode cX1_doLater 85 = .ok (.aload_n 0, 1) := by decide +kernel
theorem dX1_doLater_86 : decode cX1_doLater 86 = .ok (.getfield 12, 3) := by decide +kernel
theorem dX1_doLater_89 : decode cX1_doLater 89 = .ok (.getfield 127, 3) := by decide +kernel
theorem dX1_doLater_92 : decode cX1_doLater 92 = .ok (.aload_n 3, 1) := by decide +kernel
theorem dX1_doLater_93 : decode cX1_doLater 93 = .ok (.iconst 1, 1) := by decide +kernel
theorem dX1_doLater_94 : decode cX1_doLater 94 = .ok (.iload_n 2, 1) := by decide +kernel
theorem dX1_doLater_95 : decode cX1_doLater 95 = .ok (.ishl, 1) := by decide +kernel
theorem dX1_doLater_96 : decode cX1_doLater 96 = .ok (.invokevirtual 152, 3) := by decide +kernel
theorem dX1_doLater_99 : decode cX1_doLater 99 = .ok (.istore 4, 2) := by decide +kernel
theorem dX1_doLater_101 : decode cX1_doLater 101 = .ok (.iload 4, 2) := by decide +kernel
theorem dX1_doLater_103 : decode cX1_doLater 103 = .ok (.iconst (-1), 1) := by decide +kernel
theorem dX1_doLater_104 : decode cX1_doLater 104 = .ok (.if_icmp .eq 15, 3) := by decide +kernel
theorem dX1_doLater_107 : decode cX1_doLater 107 = .ok (.aload_n 0, 1) := by decide +kernel
theorem dX1_doLater_108 : decode cX1_doLater 108 = .ok (.getfield 21, 3) := by decide +kernel
theorem dX1_doLater_111 : decode cX1_doLater 111 = .ok (.bipush 10, 2) := by decide +kernel
theorem dX1_doLater_113 : decode cX1_doLater 113 = .ok (.iload 4, 2) := by decide +kernel
theorem dX1_doLater_115 : decode cX1_doLater 115 = .ok (.invokevirtual 29, 3) := by decide +kernel
theorem dX1_doLater_118 : decode cX1_doLater 118 = .ok (.ireturn, 1) := by decide +kernel
theorem dX1_doLater_119 : decode cX1_doLater 119 = .ok (.aload_n 0, 1) := by decide +kernel
theorem dX1_doLater_120 : decode cX1_doLater 120 = .ok (.getfield 12, 3) := by decide +kernel
theorem dX1_doLater_123 : decode cX1_doLater 123 = .ok (.getfield 127, 3) := by decide +kernel
theorem dX1_doLater_126 : decode cX1_doLater 126 = .ok (.aload_n 3, 1) := by decide +kernel
theorem dX1_doLater_127 : decode cX1_doLater 127 = .ok (.iconst 1, 1) := by decide +kernel
theorem dX1_doLater_128 : decode cX1_doLater 128 = .ok (.iload_n 2, 1) := by decide +kernel
theorem dX1_doLater_129 : decode cX1_doLater 129 = .ok (.ishl, 1) := by decide +kernel
theorem dX1_doLater_130 : decode cX1_doLater 130 = .ok (.invokevirtual 156, 3) := by decide +kernel
theorem dX1_doLater_133 : decode cX1_doLater 133 = .ok (.aload_n 3, 1) := by decide +kernel
theorem dX1_doLater_134 : decode cX1_doLater 134 = .ok (.dup, 1) := by decide +kernel
theorem dX1_doLater_135 : decode cX1_doLater 135 = .ok (.getfield 124, 3) := by decide +kernel
theorem dX1_doLater_138 : decode cX1_doLater 138 = .ok (.iconst 1, 1) := by decide +kernel
theorem dX1_doLater_139 : decode cX1_doLater 139 = .ok (.iload_n 2, 1) := by decide +kernel
theorem dX1_doLater_140 : decode cX1_doLater 140 = .ok (.ishl, 1) := by decide +kernel
theorem dX1_doLater_141 : decode cX1_doLater 141 = .ok (.iconst (-1), 1) := by decide +kernel
theorem dX1_doLater_142 : decode cX1_doLater 142 = .ok (.ixor, 1) := by decide +kernel
theorem dX1_doLater_143 : decode cX1_doLater 143 = .ok (.iand, 1) := by decide +kernel
theorem dX1_doLater_144 : decode cX1_doLater 144 = .ok (.putfield 124, 3) := by decide +kernel
theorem dX1_doLater_147 : decode cX1_doLater 147 = .ok (.aload_n 0, 1) := by decide +kernel
theorem dX1_doLater_148 : decode cX1_doLater 148 = .ok (.getfield 12, 3) := by decide +kernel
theorem dX1_doLater_151 : decode cX1_doLater 151 = .ok (.dup, 1) := by decide +kernel
theorem dX1_doLater_152 : decode cX1_doLater 152 = .ok (.getfield 159, 3) := by decide +kernel
theorem dX1_doLater_155 : decode cX1_doLater 155 = .ok (.iconst 1, 1) := by decide +kernel
theorem dX1_doLater_156 : decode cX1_doLater 156 = .ok (.iadd, 1) := by decide +kernel
theorem dX1_doLater_157 : decode cX1_doLater 157 = .ok (.putfield 159, 3) := by decide +kernel
theorem dX1_doLater_160 : decode cX1_doLater 160 = .ok (.aload_n 3, 1) := by decide +kernel
theorem dX1_doLater_161 : decode cX1_doLater 161 = .ok (.invokevirtual 143, 3) := by decide +kernel
theorem dX1_doLater_164 : decode cX1_doLater 164 = .ok (.ireturn, 1) := by decide +kernel
set_option maxRecDepth 20000 in
theorem ggX1_takeApart_X0_hasLeaflet : GoodIn wsX1_takeApart wsX0_hasLeaflet := goodIn_r _ [12, 13, 14, 15, 16, 71, 72, 73, 74, 75, 76, 77, 78, 79] (by decide +kernel) (by decide +kernel)
set_option maxRecDepth 20000 in
theorem gX1_takeApart_X0_hasLeaflet : GoodIn wsX1_takeApart (wsV RX1 53 RX0 yX0_hasLeaflet wsX0_hasLeaflet) := goodIn_app (goodIn_of _ (by decide +kernel)) ggX1_takeApart_X0_hasLeaflet
set_option maxRecDepth 20000 in
theorem ggX1_takeApart_X1_refuseNoLeaflet : GoodIn wsX1_takeApart wsX1_refuseNoLeaflet := goodIn_r _ [21, 3, 1, 22, 23, 24, 25, 26, 27, 28, 29, 30, 69, 70, 71, 72, 73, 74, 75, 76, 77, 78, 79, 89, 90, 91] (by decide +kernel) (by decide +kernel)
set_option maxRecDepth 20000 in
theorem gX1_takeApart_X1_refuseNoLeaflet : GoodIn wsX1_takeApart (wsV RX1 56 RX1 yX1_refuseNoLeaflet wsX1_refuseNoLeaflet) := goodIn_app (goodIn_of _ (by decide +kernel)) ggX1_takeApart_X1_refuseNoLeaflet
set_option maxRecDepth 20000 in
theorem ggX1_takeApart_X5_isBuilt : GoodIn wsX1_takeApart wsX5_isBuilt := goodIn_r _ [35, 36, 80, 81, 82, 83, 84, 85, 86, 87, 88] (by decide +kernel) (by decide +kernel)
set_option maxRecDepth 20000 in
theorem gX1_takeApart_X5_isBuilt : GoodIn wsX1_takeApart (wsV RX1 64 RX5 yX5_isBuilt wsX5_isBuilt) := goodIn_app (goodIn_of _ (by decide +kernel)) ggX1_takeApart_X5_isBuilt
set_option maxRecDepth 20000 in
theorem ggX1_takeApart_X7_refuse : GoodIn wsX1_takeApart wsX7_refuse := goodIn_r _ [27, 28, 29, 30, 89, 90, 91] (by decide +kernel) (by decide +kernel)
set_option maxRecDepth 20000 in
theorem gX1_takeApart_X7_refuse : GoodIn wsX1_takeApart (wsV RX1 29 RX7 yX7_refuse wsX7_refuse) := goodIn_app (goodIn_of _ (by decide +kernel)) ggX1_takeApart_X7_refuse
set_option maxRecDepth 20000 in
theorem ggX1_takeApart_X9_kindLacking : GoodIn wsX1_takeApart wsX9_kindLacking := goodIn_r _ [41, 42, 43, 44, 45, 34, 46, 47, 48, 49, 15, 50, 51, 52, 53, 54, 55, 56, 92, 93, 80, 81, 82, 83, 84, 85, 86, 87, 88] (by decide +kernel) (by decide +kernel)
set_option maxRecDepth 20000 in
theorem gX1_takeApart_X9_kindLacking : GoodIn wsX1_takeApart (wsV RX1 152 RX9 yX9_kindLacking wsX9_kindLacking) := goodIn_app (goodIn_of _ (by decide +kernel)) ggX1_takeApart_X9_kindLacking
set_option maxRecDepth 20000 in
theorem ggX1_takeApart_X5_partsOf : GoodIn wsX1_takeApart wsX5_partsOf := goodIn_r _ [60, 47, 49, 15, 50, 61, 62, 63, 34, 64, 48, 56, 80, 81, 82, 83, 84, 85, 86, 87, 88] (by decide +kernel) (by decide +kernel)
set_option maxRecDepth 20000 in
theorem gX1_takeApart_X5_partsOf : GoodIn wsX1_takeApart (wsV RX1 162 RX5 yX5_partsOf wsX5_partsOf) := goodIn_app (goodIn_of _ (by decide +kernel)) ggX1_takeApart_X5_partsOf
set_option maxRecDepth 20000 in
theorem ggX1_takeApart_X9_takeOut : GoodIn wsX1_takeApart wsX9_takeOut := goodIn_r _ [68, 42, 43, 44, 45, 34, 46, 47, 48, 49, 15, 50, 51, 52, 53, 54, 55, 56, 92, 93, 80, 81, 82, 83, 84, 85, 86, 87, 88] (by decide +kernel) (by decide +kernel)
set_option maxRecDepth 20000 in
theorem gX1_takeApart_X9_takeOut : GoodIn wsX1_takeApart (wsV RX1 156 RX9 yX9_takeOut wsX9_takeOut) := goodIn_app (goodIn_of _ (by decide +kernel)) ggX1_takeApart_X9_takeOut
theorem dX1_takeApart_0 : decode cX1_takeApart 0 = .ok (.aload_n 0, 1) := by decide +kernel
theorem dX1_takeApart_1 : decode cX1_takeApart 1 = .ok (.getfield 12, 3) := by decide +kernel
theorem dX1_takeApart_4 : decode cX1_takeApart 4 = .ok (.iload_n 1, 1) := by decide +kernel
theorem dX1_takeApart_5 : decode cX1_takeApart 5 = .ok (.invokevirtual 53, 3) := by decide +kernel
theorem dX1_takeApart_8 : decode cX1_takeApart 8 = .ok (.ifCond .ne 8, 3) := by decide +kernel
theorem dX1_takeApart_11 : decode cX1_takeApart 11 = .ok (.aload_n 0, 1) := by decide +kernel
theorem dX1_takeApart_12 : decode cX1_takeApart 12 = .ok (.invokevirtual 56, 3) := by decide +kernel
theorem dX1_takeApart_15 : decode cX1_takeApart 15 = .ok (.ireturn, 1) := by decide +kernel
theorem dX1_takeApart_16 : decode cX1_takeApart 16 = .ok (.aload_n 0, 1) := by decide +kernel
theorem dX1_takeApart_17 : decode cX1_takeApart 17 = .ok (.getfield 12, 3) := by decide +kernel
theorem dX1_takeApart_20 : decode cX1_takeApart 20 = .ok (.getfield 43, 3) := by decide +kernel
theorem dX1_takeApart_23 : decode cX1_takeApart 23 = .ok (.iload_n 1, 1) := by decide +kernel
theorem dX1_takeApart_24 : decode cX1_takeApart 24 = .ok (.aaload, 1) := by decide +kernel
theorem dX1_takeApart_25 : decode cX1_takeApart 25 = .ok (.astore_n 2, 1) := by decide +kernel
theorem dX1_takeApart_26 : decode cX1_takeApart 26 = .ok (.aload_n 2, 1) := by decide +kernel
theorem dX1_takeApart_27 : decode cX1_takeApart 27 = .ok (.invokevirtual 64, 3) := by decide +kernel
theorem dX1_takeApart_30 : decode cX1_takeApart 30 = .ok (.ifCond .ne 14, 3) := by decide +kernel
theorem dX1_takeApart_33 : decode cX1_takeApart 33 = .ok (.aload_n 0, 1) := by decide +kernel
theorem dX1_takeApart_34 : decode cX1_takeApart 34 = .ok (.getfield 21, 3) := by decide +kernel
theorem dX1_takeApart_37 : decode cX1_takeApart 37 = .ok (.bipush 7, 2) := by decide +kernel
theorem dX1_takeApart_39 : decode cX1_takeApart 39 = .ok (.iconst 0, 1) := by decide +kernel
theorem dX1_takeApart_40 : decode cX1_takeApart 40 = .ok (.invokevirtual 29, 3) := by decide +kernel
theorem dX1_takeApart_43 : decode cX1_takeApart 43 = .ok (.ireturn, 1) := by decide +kernel
theorem dX1_takeApart_44 : decode cX1_takeApart 44 = .ok (.aload_n 0, 1) := by decide +kernel
theorem dX1_takeApart_45 : decode cX1_takeApart 45 = .ok (.getfield 12, 3) := by decide +kernel
theorem dX1_takeApart_48 : decode cX1_takeApart 48 = .ok (.getfield 127, 3) := by decide +kernel
theorem dX1_takeApart_51 : decode cX1_takeApart 51 = .ok (.aload_n 2, 1) := by decide +kernel
theorem dX1_takeApart_52 : decode cX1_takeApart 52 = .ok (.aload_n 2, 1) := by decide +kernel
theorem dX1_takeApart_53 : decode cX1_takeApart 53 = .ok (.getfield 124, 3) := by decide +kernel
theorem dX1_takeApart_56 : decode cX1_takeApart 56 = .ok (.invokevirtual 152, 3) := by decide +kernel
theorem dX1_takeApart_59 : decode cX1_takeApart 59 = .ok (.istore_n 3, 1) := by decide +kernel
theorem dX1_takeApart_60 : decode cX1_takeApart 60 = .ok (.iload_n 3, 1) := by decide +kernel
theorem dX1_takeApart_61 : decode cX1_takeApart 61 = .ok (.iconst (-1), 1) := by decide +kernel
theorem dX1_takeApart_62 : decode cX1_takeApart 62 = .ok (.if_icmp .eq 14, 3) := by decide +kernel
theorem dX1_takeApart_65 : decode cX1_takeApart 65 = .ok (.aload_n 0, 1) := by decide +kernel
theorem dX1_takeApart_66 : decode cX1_takeApart 66 = .ok (.getfield 21, 3) := by decide +kernel
theorem dX1_takeApart_69 : decode cX1_takeApart 69 = .ok (.bipush 10, 2) := by decide +kernel
theorem dX1_takeApart_71 : decode cX1_takeApart 71 = .ok (.iload_n 3, 1) := by decide +kernel
theorem dX1_takeApart_72 : decode cX1_takeApart 72 = .ok (.invokevirtual 29, 3) := by decide +kernel
theorem dX1_takeApart_75 : decode cX1_takeApart 75 = .ok (.ireturn, 1) := by decide +kernel
theorem dX1_takeApart_76 : decode cX1_takeApart 76 = .ok (.aload_n 2, 1) := by decide +kernel
theorem dX1_takeApart_77 : decode cX1_takeApart 77 = .ok (.aload_n 2, 1) := by decide +kernel
theorem dX1_takeApart_78 : decode cX1_takeApart 78 = .ok (.getfield 124, 3) := by decide +kernel
theorem dX1_takeApart_81 : decode cX1_takeApart 81 = .ok (.invokevirtual 162, 3) := by decide +kernel
theorem dX1_takeApart_84 : decode cX1_takeApart 84 = .ok (.istore 4, 2) := by decide +kernel
theorem dX1_takeApart_86 : decode cX1_takeApart 86 = .ok (.aload_n 0, 1) := by decide +kernel
theorem dX1_takeApart_87 : decode cX1_takeApart 87 = .ok (.getfield 12, 3) := by decide +kernel
theorem dX1_takeApart_90 : decode cX1_takeApart 90 = .ok (.getfield 127, 3) := by decide +kernel
theorem dX1_takeApart_93 : decode cX1_takeApart 93 = .ok (.aload_n 2, 1) := by decide +kernel
theorem dX1_takeApart_94 : decode cX1_takeApart 94 = .ok (.aload_n 2, 1) := by decide +kernel
theorem dX1_takeApart_95 : decode cX1_takeApart 95 = .ok (.getfield 124, 3) := by decide +kernel
theorem dX1_takeApart_98 : decode cX1_takeApart 98 = .ok (.invokevirtual 156, 3) := by decide +kernel
theorem dX1_takeApart_101 : decode cX1_takeApart 101 = .ok (.aload_n 2, 1) := by decide +kernel
theorem dX1_takeApart_102 : decode cX1_takeApart 102 = .ok (.iconst (-1), 1) := by decide +kernel
theorem dX1_takeApart_103 : decode cX1_takeApart 103 = .ok (.putfield 68, 3) := by decide +kernel
theorem dX1_takeApart_106 : decode cX1_takeApart 106 = .ok (.aload_n 2, 1) := by decide +kernel
theorem dX1_takeApart_107 : decode cX1_takeApart 107 = .ok (.iconst 0, 1) := by decide +kernel
theorem dX1_takeApart_108 : decode cX1_takeApart 108 = .ok (.putfield 124, 3) := by decide +kernel
theorem dX1_takeApart_111 : decode cX1_takeApart 111 = .ok (.aload_n 0, 1) := by decide +kernel
theorem dX1_takeApart_112 : decode cX1_takeApart 112 = .ok (.getfield 12, 3) := by decide +kernel
theorem dX1_takeApart_115 : decode cX1_takeApart 115 = .ok (.dup, 1) := by decide +kernel
theorem dX1_takeApart_116 : decode cX1_takeApart 116 = .ok (.getfield 165, 3) := by decide +kernel
theorem dX1_takeApart_119 : decode cX1_takeApart 119 = .ok (.iconst 1, 1) := by decide +kernel
theorem dX1_takeApart_120 : decode cX1_takeApart 120 = .ok (.iadd, 1) := by decide +kernel
theorem dX1_takeApart_121 : decode cX1_takeApart 121 = .ok (.putfield 165, 3) := by decide +kernel
theorem dX1_takeApart_124 : decode cX1_takeApart 124 = .ok (.iload 4, 2) := by decide +kernel
theorem dX1_takeApart_126 : decode cX1_takeApart 126 = .ok (.ireturn, 1) := by decide +kernel
set_option maxRecDepth 20000 in
theorem ggX1_moveBox_X0_hasLeaflet : GoodIn wsX1_moveBox wsX0_hasLeaflet := goodIn_r _ [9, 10, 11, 12, 13, 50, 51, 52, 53, 54, 55, 56, 57, 58] (by decide +kernel) (by decide +kernel)
set_option maxRecDepth 20000 in
theorem gX1_moveBox_X0_hasLeaflet : GoodIn wsX1_moveBox (wsV RX1 53 RX0 yX0_hasLeaflet wsX0_hasLeaflet) := goodIn_app (goodIn_of _ (by decide +kernel)) ggX1_moveBox_X0_hasLeaflet
set_option maxRecDepth 20000 in
theorem ggX1_moveBox_X1_refuseNoLeaflet : GoodIn wsX1_moveBox wsX1_refuseNoLeaflet := goodIn_r _ [18, 2, 1, 19, 20, 21, 22, 23, 24, 25, 26, 27, 48, 49, 50, 51, 52, 53, 54, 55, 56, 57, 58, 68, 69, 70] (by decide +kernel) (by decide +kernel)
set_option maxRecDepth 20000 in
theorem gX1_moveBox_X1_refuseNoLeaflet : GoodIn wsX1_moveBox (wsV RX1 56 RX1 yX1_refuseNoLeaflet wsX1_refuseNoLeaflet) := goodIn_app (goodIn_of _ (by decide +kernel)) ggX1_moveBox_X1_refuseNoLeaflet
set_option maxRecDepth 20000 in
theorem ggX1_moveBox_X10_isShelf : GoodIn wsX1_moveBox wsX10_isShelf := goodIn_r _ [29, 30, 11, 12, 13] (by decide +kernel) (by decide +kernel)
set_option maxRecDepth 20000 in
theorem gX1_moveBox_X10_isShelf_n36 : GoodIn wsX1_moveBox (wsX10_isShelf) := ggX1_moveBox_X10_isShelf
set_option maxRecDepth 20000 in
theorem ggX1_moveBox_X7_refuse : GoodIn wsX1_moveBox wsX7_refuse := goodIn_r _ [24, 25, 26, 27, 68, 69, 70] (by decide +kernel) (by decide +kernel)
set_option maxRecDepth 20000 in
theorem gX1_moveBox_X7_refuse : GoodIn wsX1_moveBox (wsV RX1 29 RX7 yX7_refuse wsX7_refuse) := goodIn_app (goodIn_of _ (by decide +kernel)) ggX1_moveBox_X7_refuse
set_option maxRecDepth 20000 in
theorem ggX1_moveBox_X0_isFull : GoodIn wsX1_moveBox wsX0_isFull := goodIn_r _ [34, 35, 36, 37, 8, 38, 10, 39, 40, 41, 42, 43, 44, 45, 46, 47, 50, 51, 52, 53, 54, 55, 56, 57, 58, 59, 60, 61, 62, 63, 64, 65, 66, 67] (by decide +kernel) (by decide +kernel)
set_option maxRecDepth 20000 in
theorem gX1_moveBox_X0_isFull : GoodIn wsX1_moveBox (wsV RX1 40 RX0 yX0_isFull wsX0_isFull) := goodIn_app (goodIn_of _ (by decide +kernel)) ggX1_moveBox_X0_isFull
theorem dX1_moveBox_0 : decode cX1_moveBox 0 = .ok (.aload_n 0, 1) := by decide +kernel
theorem dX1_moveBox_1 : decode cX1_moveBox 1 = .ok (.getfield 12, 3) := by decide +kernel
theorem dX1_moveBox_4 : decode cX1_moveBox 4 = .ok (.iload_n 1, 1) := by decide +kernel
theorem dX1_moveBox_5 : decode cX1_moveBox 5 = .ok (.invokevirtual 53, 3) := by decide +kernel
theorem dX1_moveBox_8 : decode cX1_moveBox 8 = .ok (.ifCond .ne 8, 3) := by decide +kernel
theorem dX1_moveBox_11 : decode cX1_moveBox 11 = .ok (.aload_n 0, 1) := by decide +kernel
theorem dX1_moveBox_12 : decode cX1_moveBox 12 = .ok (.invokevirtual 56, 3) := by decide +kernel
theorem dX1_moveBox_15 : decode cX1_moveBox 15 = .ok (.ireturn, 1) := by decide +kernel
theorem dX1_moveBox_16 : decode cX1_moveBox 16 = .ok (.iload_n 2, 1) := by decide +kernel
theorem dX1_moveBox_17 : decode cX1_moveBox 17 = .ok (.invokestatic 36, 3) := by decide +kernel
theorem dX1_moveBox_20 : decode cX1_moveBox 20 = .ok (.ifCond .ne 13, 3) := by decide +kernel
theorem dX1_moveBox_23 : decode cX1_moveBox 23 = .ok (.aload_n 0, 1) := by decide +kernel
theorem dX1_moveBox_24 : decode cX1_moveBox 24 = .ok (.getfield 21, 3) := by decide +kernel
theorem dX1_moveBox_27 : decode cX1_moveBox 27 = .ok (.iconst 1, 1) := by decide +kernel
theorem dX1_moveBox_28 : decode cX1_moveBox 28 = .ok (.iconst 0, 1) := by decide +kernel
theorem dX1_moveBox_29 : decode cX1_moveBox 29 = .ok (.invokevirtual 29, 3) := by decide +kernel
theorem dX1_moveBox_32 : decode cX1_moveBox 32 = .ok (.ireturn, 1) := by decide +kernel
theorem dX1_moveBox_33 : decode cX1_moveBox 33 = .ok (.aload_n 0, 1) := by decide +kernel
theorem dX1_moveBox_34 : decode cX1_moveBox 34 = .ok (.getfield 12, 3) := by decide +kernel
theorem dX1_moveBox_37 : decode cX1_moveBox 37 = .ok (.getfield 43, 3) := by decide +kernel
theorem dX1_moveBox_40 : decode cX1_moveBox 40 = .ok (.iload_n 1, 1) := by decide +kernel
theorem dX1_moveBox_41 : decode cX1_moveBox 41 = .ok (.aaload, 1) := by decide +kernel
theorem dX1_moveBox_42 : decode cX1_moveBox 42 = .ok (.astore_n 3, 1) := by decide +kernel
theorem dX1_moveBox_43 : decode cX1_moveBox 43 = .ok (.aload_n 3, 1) := by decide +kernel
theorem dX1_moveBox_44 : decode cX1_moveBox 44 = .ok (.getfield 168, 3) := by decide +kernel
theorem dX1_moveBox_47 : decode cX1_moveBox 47 = .ok (.istore 4, 2) := by decide +kernel
theorem dX1_moveBox_49 : decode cX1_moveBox 49 = .ok (.iload 4, 2) := by decide +kernel
theorem dX1_moveBox_51 : decode cX1_moveBox 51 = .ok (.iload_n 2, 1) := by decide +kernel
theorem dX1_moveBox_52 : decode cX1_moveBox 52 = .ok (.if_icmp .ne 14, 3) := by decide +kernel
theorem dX1_moveBox_55 : decode cX1_moveBox 55 = .ok (.aload_n 0, 1) := by decide +kernel
theorem dX1_moveBox_56 : decode cX1_moveBox 56 = .ok (.getfield 21, 3) := by decide +kernel
theorem dX1_moveBox_59 : decode cX1_moveBox 59 = .ok (.bipush 12, 2) := by decide +kernel
theorem dX1_moveBox_61 : decode cX1_moveBox 61 = .ok (.iload_n 2, 1) := by decide +kernel
theorem dX1_moveBox_62 : decode cX1_moveBox 62 = .ok (.invokevirtual 29, 3) := by decide +kernel
theorem dX1_moveBox_65 : decode cX1_moveBox 65 = .ok (.ireturn, 1) := by decide +kernel
theorem dX1_moveBox_66 : decode cX1_moveBox 66 = .ok (.aload_n 0, 1) := by decide +kernel
theorem dX1_moveBox_67 : decode cX1_moveBox 67 = .ok (.getfield 12, 3) := by decide +kernel
theorem dX1_moveBox_70 : decode cX1_moveBox 70 = .ok (.iload_n 2, 1) := by decide +kernel
theorem dX1_moveBox_71 : decode cX1_moveBox 71 = .ok (.invokevirtual 40, 3) := by decide +kernel
theorem dX1_moveBox_74 : decode cX1_moveBox 74 = .ok (.ifCond .eq 13, 3) := by decide +kernel
theorem dX1_moveBox_77 : decode cX1_moveBox 77 = .ok (.aload_n 0, 1) := by decide +kernel
theorem dX1_moveBox_78 : decode cX1_moveBox 78 = .ok (.getfield 21, 3) := by decide +kernel
theorem dX1_moveBox_81 : decode cX1_moveBox 81 = .ok (.iconst 5, 1) := by decide +kernel
theorem dX1_moveBox_82 : decode cX1_moveBox 82 = .ok (.iload_n 2, 1) := by decide +kernel
theorem dX1_moveBox_83 : decode cX1_moveBox 83 = .ok (.invokevirtual 29, 3) := by decide +kernel
theorem dX1_moveBox_86 : decode cX1_moveBox 86 = .ok (.ireturn, 1) := by decide +kernel
theorem dX1_moveBox_87 : decode cX1_moveBox 87 = .ok (.aload_n 3, 1) := by decide +kernel
theorem dX1_moveBox_88 : decode cX1_moveBox 88 = .ok (.iload_n 2, 1) := by decide +kernel
theorem dX1_moveBox_89 : decode cX1_moveBox 89 = .ok (.putfield 168, 3) := by decide +kernel
theorem dX1_moveBox_92 : decode cX1_moveBox 92 = .ok (.iload 4, 2) := by decide +kernel
theorem dX1_moveBox_94 : decode cX1_moveBox 94 = .ok (.ireturn, 1) := by decide +kernel
set_option maxRecDepth 20000 in
theorem ggX1_loseParts_X10_isWithin : GoodIn wsX1_loseParts wsX10_isWithin := goodIn_r _ [8] (by decide +kernel) (by decide +kernel)
set_option maxRecDepth 20000 in
theorem gX1_loseParts_X10_isWithin_n60 : GoodIn wsX1_loseParts (wsX10_isWithin) := ggX1_loseParts_X10_isWithin
set_option maxRecDepth 20000 in
theorem ggX1_loseParts_X7_refuse : GoodIn wsX1_loseParts wsX7_refuse := goodIn_r _ [13, 14, 15, 16, 30, 31, 32] (by decide +kernel) (by decide +kernel)
set_option maxRecDepth 20000 in
theorem gX1_loseParts_X7_refuse : GoodIn wsX1_loseParts (wsV RX1 29 RX7 yX7_refuse wsX7_refuse) := goodIn_app (goodIn_of _ (by decide +kernel)) ggX1_loseParts_X7_refuse
theorem dX1_loseParts_0 : decode cX1_loseParts 0 = .ok (.iload_n 1, 1) := by decide +kernel
theorem dX1_loseParts_1 : decode cX1_loseParts 1 = .ok (.iconst 0, 1) := by decide +kernel
theorem dX1_loseParts_2 : decode cX1_loseParts 2 = .ok (.iconst 5, 1) := by decide +kernel
theorem dX1_loseParts_3 : decode cX1_loseParts 3 = .ok (.invokestatic 60, 3) := by decide +kernel
theorem dX1_loseParts_6 : decode cX1_loseParts 6 = .ok (.ifCond .eq 13, 3) := by decide +kernel
theorem dX1_loseParts_9 : decode cX1_loseParts 9 = .ok (.iload_n 2, 1) := by decide +kernel
theorem dX1_loseParts_10 : decode cX1_loseParts 10 = .ok (.iconst 1, 1) := by decide +kernel
theorem dX1_loseParts_11 : decode cX1_loseParts 11 = .ok (.bipush 9, 2) := by decide +kernel
theorem dX1_loseParts_13 : decode cX1_loseParts 13 = .ok (.invokestatic 60, 3) := by decide +kernel
theorem dX1_loseParts_16 : decode cX1_loseParts 16 = .ok (.ifCond .ne 13, 3) := by decide +kernel
theorem dX1_loseParts_19 : decode cX1_loseParts 19 = .ok (.aload_n 0, 1) := by decide +kernel
theorem dX1_loseParts_20 : decode cX1_loseParts 20 = .ok (.getfield 21, 3) := by decide +kernel
theorem dX1_loseParts_23 : decode cX1_loseParts 23 = .ok (.iconst 1, 1) := by decide +kernel
theorem dX1_loseParts_24 : decode cX1_loseParts 24 = .ok (.iconst 0, 1) := by decide +kernel
theorem dX1_loseParts_25 : decode cX1_loseParts 25 = .ok (.invokevirtual 29, 3) := by decide +kernel
theorem dX1_loseParts_28 : decode cX1_loseParts 28 = .ok (.ireturn, 1) := by decide +kernel
theorem dX1_loseParts_29 : decode cX1_loseParts 29 = .ok (.aload_n 0, 1) := by decide +kernel
theorem dX1_loseParts_30 : decode cX1_loseParts 30 = .ok (.getfield 12, 3) := by decide +kernel
theorem dX1_loseParts_33 : decode cX1_loseParts 33 = .ok (.getfield 127, 3) := by decide +kernel
theorem dX1_loseParts_36 : decode cX1_loseParts 36 = .ok (.astore_n 3, 1) := by decide +kernel
theorem dX1_loseParts_37 : decode cX1_loseParts 37 = .ok (.aload_n 3, 1) := by decide +kernel
theorem dX1_loseParts_38 : decode cX1_loseParts 38 = .ok (.getfield 171, 3) := by decide +kernel
theorem dX1_loseParts_41 : decode cX1_loseParts 41 = .ok (.iload_n 1, 1) := by decide +kernel
theorem dX1_loseParts_42 : decode cX1_loseParts 42 = .ok (.iaload, 1) := by decide +kernel
theorem dX1_loseParts_43 : decode cX1_loseParts 43 = .ok (.iload_n 2, 1) := by decide +kernel
theorem dX1_loseParts_44 : decode cX1_loseParts 44 = .ok (.if_icmp .ge 14, 3) := by decide +kernel
theorem dX1_loseParts_47 : decode cX1_loseParts 47 = .ok (.aload_n 0, 1) := by decide +kernel
theorem dX1_loseParts_48 : decode cX1_loseParts 48 = .ok (.getfield 21, 3) := by decide +kernel
theorem dX1_loseParts_51 : decode cX1_loseParts 51 = .ok (.bipush 10, 2) := by decide +kernel
theorem dX1_loseParts_53 : decode cX1_loseParts 53 = .ok (.iload_n 1, 1) := by decide +kernel
theorem dX1_loseParts_54 : decode cX1_loseParts 54 = .ok (.invokevirtual 29, 3) := by decide +kernel
theorem dX1_loseParts_57 : decode cX1_loseParts 57 = .ok (.ireturn, 1) := by decide +kernel
theorem dX1_loseParts_58 : decode cX1_loseParts 58 = .ok (.aload_n 3, 1) := by decide +kernel
theorem dX1_loseParts_59 : decode cX1_loseParts 59 = .ok (.getfield 171, 3) := by decide +kernel
theorem dX1_loseParts_62 : decode cX1_loseParts 62 = .ok (.iload_n 1, 1) := by decide +kernel
theorem dX1_loseParts_63 : decode cX1_loseParts 63 = .ok (.dup2, 1) := by decide +kernel
theorem dX1_loseParts_64 : decode cX1_loseParts 64 = .ok (.iaload, 1) := by decide +kernel
theorem dX1_loseParts_65 : decode cX1_loseParts 65 = .ok (.iload_n 2, 1) := by decide +kernel
theorem dX1_loseParts_66 : decode cX1_loseParts 66 = .ok (.isub, 1) := by decide +kernel
theorem dX1_loseParts_67 : decode cX1_loseParts 67 = .ok (.iastore, 1) := by decide +kernel
theorem dX1_loseParts_68 : decode cX1_loseParts 68 = .ok (.aload_n 3, 1) := by decide +kernel
theorem dX1_loseParts_69 : decode cX1_loseParts 69 = .ok (.getfield 174, 3) := by decide +kernel
theorem dX1_loseParts_72 : decode cX1_loseParts 72 = .ok (.iload_n 1, 1) := by decide +kernel
theorem dX1_loseParts_73 : decode cX1_loseParts 73 = .ok (.dup2, 1) := by decide +kernel
theorem dX1_loseParts_74 : decode cX1_loseParts 74 = .ok (.iaload, 1) := by decide +kernel
theorem dX1_loseParts_75 : decode cX1_loseParts 75 = .ok (.iload_n 2, 1) := by decide +kernel
theorem dX1_loseParts_76 : decode cX1_loseParts 76 = .ok (.iadd, 1) := by decide +kernel
theorem dX1_loseParts_77 : decode cX1_loseParts 77 = .ok (.iastore, 1) := by decide +kernel
theorem dX1_loseParts_78 : decode cX1_loseParts 78 = .ok (.aload_n 3, 1) := by decide +kernel
theorem dX1_loseParts_79 : decode cX1_loseParts 79 = .ok (.getfield 171, 3) := by decide +kernel
theorem dX1_loseParts_82 : decode cX1_loseParts 82 = .ok (.iload_n 1, 1) := by decide +kernel
theorem dX1_loseParts_83 : decode cX1_loseParts 83 = .ok (.iaload, 1) := by decide +kernel
theorem dX1_loseParts_84 : decode cX1_loseParts 84 = .ok (.ireturn, 1) := by decide +kernel
set_option maxRecDepth 20000 in
theorem ggX1_findParts_X10_isWithin : GoodIn wsX1_findParts wsX10_isWithin := goodIn_r _ [8] (by decide +kernel) (by decide +kernel)
set_option maxRecDepth 20000 in
theorem gX1_findParts_X10_isWithin_n60 : GoodIn wsX1_findParts (wsX10_isWithin) := ggX1_findParts_X10_isWithin
set_option maxRecDepth 20000 in
theorem ggX1_findParts_X7_refuse : GoodIn wsX1_findParts wsX7_refuse := goodIn_r _ [13, 14, 15, 16, 30, 31, 32] (by decide +kernel) (by decide +kernel)
set_option maxRecDepth 20000 in
theorem gX1_findParts_X7_refuse : GoodIn wsX1_findParts (wsV RX1 29 RX7 yX7_refuse wsX7_refuse) := goodIn_app (goodIn_of _ (by decide +kernel)) ggX1_findParts_X7_refuse
theorem dX1_findParts_0 : decode cX1_findParts 0 = .ok (.iload_n 1, 1) := by decide +kernel
theorem dX1_findParts_1 : decode cX1_findParts 1 = .ok (.iconst 0, 1) := by decide +kernel
theorem dX1_findParts_2 : decode cX1_findParts 2 = .ok (.iconst 5, 1) := by decide +kernel
theorem dX1_findParts_3 : decode cX1_findParts 3 = .ok (.invokestatic 60, 3) := by decide +kernel
theorem dX1_findParts_6 : decode cX1_findParts 6 = .ok (.ifCond .eq 13, 3) := by decide +kernel
theorem dX1_findParts_9 : decode cX1_findParts 9 = .ok (.iload_n 2, 1) := by decide +kernel
theorem dX1_findParts_10 : decode cX1_findParts 10 = .ok (.iconst 1, 1) := by decide +kernel
theorem dX1_findParts_11 : decode cX1_findParts 11 = .ok (.bipush 9, 2) := by decide +kernel
theorem dX1_findParts_13 : decode cX1_findParts 13 = .ok (.invokestatic 60, 3) := by decide +kernel
theorem dX1_findParts_16 : decode cX1_findParts 16 = .ok (.ifCond .ne 13, 3) := by decide +kernel
theorem dX1_findParts_19 : decode cX1_findParts 19 = .ok (.aload_n 0, 1) := by decide +kernel
theorem dX1_findParts_20 : decode cX1_findParts 20 = .ok (.getfield 21, 3) := by decide +kernel
theorem dX1_findParts_23 : decode cX1_findParts 23 = .ok (.iconst 1, 1) := by decide +kernel
theorem dX1_findParts_24 : decode cX1_findParts 24 = .ok (.iconst 0, 1) := by decide +kernel
theorem dX1_findParts_25 : decode cX1_findParts 25 = .ok (.invokevirtual 29, 3) := by decide +kernel
theorem dX1_findParts_28 : decode cX1_findParts 28 = .ok (.ireturn, 1) := by decide +kernel
theorem dX1_findParts_29 : decode cX1_findParts 29 = .ok (.aload_n 0, 1) := by decide +kernel
theorem dX1_findParts_30 : decode cX1_findParts 30 = .ok (.getfield 12, 3) := by decide +kernel
theorem dX1_findParts_33 : decode cX1_findParts 33 = .ok (.getfield 127, 3) := by decide +kernel
theorem dX1_findParts_36 : decode cX1_findParts 36 = .ok (.astore_n 3, 1) := by decide +kernel
theorem dX1_findParts_37 : decode cX1_findParts 37 = .ok (.aload_n 3, 1) := by decide +kernel
theorem dX1_findParts_38 : decode cX1_findParts 38 = .ok (.getfield 174, 3) := by decide +kernel
theorem dX1_findParts_41 : decode cX1_findParts 41 = .ok (.iload_n 1, 1) := by decide +kernel
theorem dX1_findParts_42 : decode cX1_findParts 42 = .ok (.iaload, 1) := by decide +kernel
theorem dX1_findParts_43 : decode cX1_findParts 43 = .ok (.iload_n 2, 1) := by decide +kernel
theorem dX1_findParts_44 : decode cX1_findParts 44 = .ok (.if_icmp .ge 19, 3) := by decide +kernel
theorem dX1_findParts_47 : decode cX1_findParts 47 = .ok (.aload_n 0, 1) := by decide +kernel
theorem dX1_findParts_48 : decode cX1_findParts 48 = .ok (.getfield 21, 3) := by decide +kernel
theorem dX1_findParts_51 : decode cX1_findParts 51 = .ok (.bipush 13, 2) := by decide +kernel
theorem dX1_findParts_53 : decode cX1_findParts 53 = .ok (.aload_n 3, 1) := by decide +kernel
theorem dX1_findParts_54 : decode cX1_findParts 54 = .ok (.getfield 174, 3) := by decide +kernel
theorem dX1_findParts_57 : decode cX1_findParts 57 = .ok (.iload_n 1, 1) := by decide +kernel
theorem dX1_findParts_58 : decode cX1_findParts 58 = .ok (.iaload, 1) := by decide +kernel
theorem dX1_findParts_59 : decode cX1_findParts 59 = .ok (.invokevirtual 29, 3) := by decide +kernel
theorem dX1_findParts_62 : decode cX1_findParts 62 = .ok (.ireturn, 1) := by decide +kernel
theorem dX1_findParts_63 : decode cX1_findParts 63 = .ok (.aload_n 3, 1) := by decide +kernel
theorem dX1_findParts_64 : decode cX1_findParts 64 = .ok (.getfield 174, 3) := by decide +kernel
theorem dX1_findParts_67 : decode cX1_findParts 67 = .ok (.iload_n 1, 1) := by decide +kernel
theorem dX1_findParts_68 : decode cX1_findParts 68 = .ok (.dup2, 1) := by decide +kernel
theorem dX1_findParts_69 : decode cX1_findParts 69 = .ok (.iaload, 1) := by decide +kernel
theorem dX1_findParts_70 : decode cX1_findParts 70 = .ok (.iload_n 2, 1) := by decide +kernel
theorem dX1_findParts_71 : decode cX1_findParts 71 = .ok (.isub, 1) := by decide +kernel
theorem dX1_findParts_72 : decode cX1_findParts 72 = .ok (.iastore, 1) := by decide +kernel
theorem dX1_findParts_73 : decode cX1_findParts 73 = .ok (.aload_n 3, 1) := by decide +kernel
theorem dX1_findParts_74 : decode cX1_findParts 74 = .ok (.getfield 171, 3) := by decide +kernel
theorem dX1_findParts_77 : decode cX1_findParts 77 = .ok (.iload_n 1, 1) := by decide +kernel
theorem dX1_findParts_78 : decode cX1_findParts 78 = .ok (.dup2, 1) := by decide +kernel
theorem dX1_findParts_79 : decode cX1_findParts 79 = .ok (.iaload, 1) := by decide +kernel
theorem dX1_findParts_80 : decode cX1_findParts 80 = .ok (.iload_n 2, 1) := by decide +kernel
theorem dX1_findParts_81 : decode cX1_findParts 81 = .ok (.iadd, 1) := by decide +kernel
theorem dX1_findParts_82 : decode cX1_findParts 82 = .ok (.iastore, 1) := by decide +kernel
theorem dX1_findParts_83 : decode cX1_findParts 83 = .ok (.aload_n 3, 1) := by decide +kernel
theorem dX1_findParts_84 : decode cX1_findParts 84 = .ok (.getfield 174, 3) := by decide +kernel
theorem dX1_findParts_87 : decode cX1_findParts 87 = .ok (.iload_n 1, 1) := by decide +kernel
theorem dX1_findParts_88 : decode cX1_findParts 88 = .ok (.iaload, 1) := by decide +kernel
theorem dX1_findParts_89 : decode cX1_findParts 89 = .ok (.ireturn, 1) := by decide +kernel
theorem dX2_init_0 : decode cX2_init 0 = .ok (.aload_n 0, 1) := by decide +kernel
theorem dX2_init_1 : decode cX2_init 1 = .ok (.invokespecial 3, 3) := by decide +kernel
theorem dX2_init_4 : decode cX2_init 4 = .ok (.aload_n 0, 1) := by decide +kernel
theorem dX2_init_5 : decode cX2_init 5 = .ok (.iconst 3, 1) := by decide +kernel
theorem dX2_init_6 : decode cX2_init 6 = .ok (.newarray .int, 2) := by decide +kernel
theorem dX2_init_8 : decode cX2_init 8 = .ok (.putfield 9, 3) := by decide +kernel
theorem dX2_init_11 : decode cX2_init 11 = .ok (.return_, 1) := by decide +kernel
theorem dX2_begin_0 : decode cX2_begin 0 = .ok (.aload_n 0, 1) := by decide +kernel
theorem dX2_begin_1 : decode cX2_begin 1 = .ok (.iload_n 1, 1) := by decide +kernel
theorem dX2_begin_2 : decode cX2_begin 2 = .ok (.putfield 15, 3) := by decide +kernel
theorem dX2_begin_5 : decode cX2_begin 5 = .ok (.aload_n 0, 1) := by decide +kernel
theorem dX2_begin_6 : decode cX2_begin 6 = .ok (.iconst 0, 1) := by decide +kernel
theorem dX2_begin_7 : decode cX2_begin 7 = .ok (.putfield 19, 3) := by decide +kernel
theorem dX2_begin_10 : decode cX2_begin 10 = .ok (.aload_n 0, 1) := by decide +kernel
theorem dX2_begin_11 : decode cX2_begin 11 = .ok (.iconst 0, 1) := by decide +kernel
theorem dX2_begin_12 : decode cX2_begin 12 = .ok (.putfield 23, 3) := by decide +kernel
theorem dX2_begin_15 : decode cX2_begin 15 = .ok (.return_, 1) := by decide +kernel
theorem dX2_addNumber_0 : decode cX2_addNumber 0 = .ok (.aload_n 0, 1) := by decide +kernel
theorem dX2_addNumber_1 : decode cX2_addNumber 1 = .ok (.getfield 19, 3) := by decide +kernel
theorem dX2_addNumber_4 : decode cX2_addNumber 4 = .ok (.iconst 3, 1) := by decide +kernel
theorem dX2_addNumber_5 : decode cX2_addNumber 5 = .ok (.if_icmp .ge 23, 3) := by decide +kernel
theorem dX2_addNumber_8 : decode cX2_addNumber 8 = .ok (.aload_n 0, 1) := by decide +kernel
theorem dX2_addNumber_9 : decode cX2_addNumber 9 = .ok (.getfield 9, 3) := by decide +kernel
theorem dX2_addNumber_12 : decode cX2_addNumber 12 = .ok (.aload_n 0, 1) := by decide +kernel
theorem dX2_addNumber_13 : decode cX2_addNumber 13 = .ok (.getfield 19, 3) := by decide +kernel
theorem dX2_addNumber_16 : decode cX2_addNumber 16 = .ok (.iload_n 1, 1) := by decide +kernel
theorem dX2_addNumber_17 : decode cX2_addNumber 17 = .ok (.iastore, 1) := by decide +kernel
theorem dX2_addNumber_18 : decode cX2_addNumber 18 = .ok (.aload_n 0, 1) := by decide +kernel
theorem dX2_addNumber_19 : decode cX2_addNumber 19 = .ok (.dup, 1) := by decide +kernel
theorem dX2_addNumber_20 : decode cX2_addNumber 20 = .ok (.getfield 19, 3) := by decide +kernel
theorem dX2_addNumber_23 : decode cX2_addNumber 23 = .ok (.iconst 1, 1) := by decide +kernel
theorem dX2_addNumber_24 : decode cX2_addNumber 24 = .ok (.iadd, 1) := by decide +kernel
theorem dX2_addNumber_25 : decode cX2_addNumber 25 = .ok (.putfield 19, 3) := by decide +kernel
theorem dX2_addNumber_28 : decode cX2_addNumber 28 = .ok (.return_, 1) := by decide +kernel
theorem dX2_addLanguage_0 : decode cX2_addLanguage 0 = .ok (.aload_n 0, 1) := by decide +kernel
theorem dX2_addLanguage_1 : decode cX2_addLanguage 1 = .ok (.dup, 1) := by decide +kernel
theorem dX2_addLanguage_2 : decode cX2_addLanguage 2 = .ok (.getfield 23, 3) := by decide +kernel
theorem dX2_addLanguage_5 : decode cX2_addLanguage 5 = .ok (.iconst 1, 1) := by decide +kernel
theorem dX2_addLanguage_6 : decode cX2_addLanguage 6 = .ok (.iload_n 1, 1) := by decide +kernel
theorem dX2_addLanguage_7 : decode cX2_addLanguage 7 = .ok (.ishl, 1) := by decide +kernel
theorem dX2_addLanguage_8 : decode cX2_addLanguage 8 = .ok (.ior, 1) := by decide +kernel
theorem dX2_addLanguage_9 : decode cX2_addLanguage 9 = .ok (.putfield 23, 3) := by decide +kernel
theorem dX2_addLanguage_12 : decode cX2_addLanguage 12 = .ok (.return_, 1) := by decide +kernel
theorem dX3_init_0 : decode cX3_init 0 = .ok (.aload_n 0, 1) := by decide +kernel
theorem dX3_init_1 : decode cX3_init 1 = .ok (.invokespecial 1, 3) := by decide +kernel
theorem dX3_init_4 : decode cX3_init 4 = .ok (.return_, 1) := by decide +kernel
theorem dX3_copyFrom_0 : decode cX3_copyFrom 0 = .ok (.aload_n 0, 1) := by decide +kernel
theorem dX3_copyFrom_1 : decode cX3_copyFrom 1 = .ok (.aload_n 1, 1) := by decide +kernel
theorem dX3_copyFrom_2 : decode cX3_copyFrom 2 = .ok (.getfield 7, 3) := by decide +kernel
theorem dX3_copyFrom_5 : decode cX3_copyFrom 5 = .ok (.putfield 7, 3) := by decide +kernel
theorem dX3_copyFrom_8 : decode cX3_copyFrom 8 = .ok (.aload_n 0, 1) := by decide +kernel
theorem dX3_copyFrom_9 : decode cX3_copyFrom 9 = .ok (.aload_n 1, 1) := by decide +kernel
theorem dX3_copyFrom_10 : decode cX3_copyFrom 10 = .ok (.getfield 13, 3) := by decide +kernel
theorem dX3_copyFrom_13 : decode cX3_copyFrom 13 = .ok (.putfield 13, 3) := by decide +kernel
theorem dX3_copyFrom_16 : decode cX3_copyFrom 16 = .ok (.return_, 1) := by decide +kernel
set_option maxRecDepth 20000 in
theorem ggX4_init_X0_init : GoodIn wsX4_init wsX0_init := goodIn_r _ [10, 11, 2, 3, 12, 13, 14, 15, 16, 17, 18, 19, 20, 21, 22, 23, 24, 25, 26, 27, 28, 29, 30, 31, 32, 33, 34, 35, 36, 37, 38, 39, 43, 44, 45, 46, 47, 48, 49, 50, 51, 52, 53, 54, 55, 56, 57, 58, 59, 60, 61, 62, 63, 64] (by decide +kernel) (by decide +kernel)
set_option maxRecDepth 20000 in
theorem gX4_init_X0_init : GoodIn wsX4_init (wsX0_init) := ggX4_init_X0_init
theorem dX4_init_0 : decode cX4_init 0 = .ok (.aload_n 0, 1) := by decide +kernel
theorem dX4_init_1 : decode cX4_init 1 = .ok (.invokespecial 3, 3) := by decide +kernel
theorem dX4_init_4 : decode cX4_init 4 = .ok (.aload_n 0, 1) := by decide +kernel
theorem dX4_init_5 : decode cX4_init 5 = .ok (.bipush 9, 2) := by decide +kernel
theorem dX4_init_7 : decode cX4_init 7 = .ok (.anewarray 11, 3) := by decide +kernel
theorem dX4_init_10 : decode cX4_init 10 = .ok (.putfield 13, 3) := by decide +kernel
theorem dX4_init_13 : decode cX4_init 13 = .ok (.iconst 0, 1) := by decide +kernel
theorem dX4_init_14 : decode cX4_init 14 = .ok (.istore_n 1, 1) := by decide +kernel
theorem dX4_init_15 : decode cX4_init 15 = .ok (.iload_n 1, 1) := by decide +kernel
theorem dX4_init_16 : decode cX4_init 16 = .ok (.bipush 9, 2) := by decide +kernel
theorem dX4_init_18 : decode cX4_init 18 = .ok (.if_icmp .ge 22, 3) := by decide +kernel
theorem dX4_init_21 : decode cX4_init 21 = .ok (.aload_n 0, 1) := by decide +kernel
theorem dX4_init_22 : decode cX4_init 22 = .ok (.getfield 13, 3) := by decide +kernel
theorem dX4_init_25 : decode cX4_init 25 = .ok (.iload_n 1, 1) := by decide +kernel
theorem dX4_init_26 : decode cX4_init 26 = .ok (.new 11, 3) := by decide +kernel
theorem dX4_init_29 : decode cX4_init 29 = .ok (.dup, 1) := by decide +kernel
theorem dX4_init_30 : decode cX4_init 30 = .ok (.invokespecial 17, 3) := by decide +kernel
theorem dX4_init_33 : decode cX4_init 33 = .ok (.aastore, 1) := by decide +kernel
theorem dX4_init_34 : decode cX4_init 34 = .ok (.iinc 1 1, 3) := by decide +kernel
theorem dX4_init_37 : decode cX4_init 37 = .ok (.goto (-22), 3) := by decide +kernel
theorem dX4_init_40 : decode cX4_init 40 = .ok (.return_, 1) := by decide +kernel
set_option maxRecDepth 20000 in
theorem ggX4_note_X0_copyFrom : GoodIn wsX4_note wsX0_copyFrom := goodIn_r _ [7, 8, 9, 10, 11, 12, 13, 14, 15, 16, 17, 18, 19, 20, 21, 22, 23, 24, 25, 26, 27, 28, 29, 30, 31, 32, 33, 34, 35, 36, 37, 38, 39, 40, 41, 42, 43, 44, 45, 46, 47, 48, 49, 53, 54, 55, 56, 57, 58, 59, 60, 61, 62, 63, 64, 65, 66, 67, 68, 69, 70, 71, 72, 73, 74] (by decide +kernel) (by decide +kernel)
set_option maxRecDepth 20000 in
theorem gX4_note_X0_copyFrom : GoodIn wsX4_note (wsV RX4 22 RX0 yX0_copyFrom wsX0_copyFrom) := goodIn_app (goodIn_of _ (by decide +kernel)) ggX4_note_X0_copyFrom
theorem dX4_note_0 : decode cX4_note 0 = .ok (.aload_n 0, 1) := by decide +kernel
theorem dX4_note_1 : decode cX4_note 1 = .ok (.getfield 13, 3) := by decide +kernel
theorem dX4_note_4 : decode cX4_note 4 = .ok (.aload_n 0, 1) := by decide +kernel
theorem dX4_note_5 : decode cX4_note 5 = .ok (.getfield 18, 3) := by decide +kernel
theorem dX4_note_8 : decode cX4_note 8 = .ok (.aaload, 1) := by decide +kernel
theorem dX4_note_9 : decode cX4_note 9 = .ok (.aload_n 1, 1) := by decide +kernel
theorem dX4_note_10 : decode cX4_note 10 = .ok (.invokevirtual 22, 3) := by decide +kernel
theorem dX4_note_13 : decode cX4_note 13 = .ok (.return_, 1) := by decide +kernel
theorem dX4_keep_0 : decode cX4_keep 0 = .ok (.aload_n 0, 1) := by decide +kernel
theorem dX4_keep_1 : decode cX4_keep 1 = .ok (.aload_n 0, 1) := by decide +kernel
theorem dX4_keep_2 : decode cX4_keep 2 = .ok (.getfield 18, 3) := by decide +kernel
theorem dX4_keep_5 : decode cX4_keep 5 = .ok (.iconst 1, 1) := by decide +kernel
theorem dX4_keep_6 : decode cX4_keep 6 = .ok (.iadd, 1) := by decide +kernel
theorem dX4_keep_7 : decode cX4_keep 7 = .ok (.bipush 9, 2) := by decide +kernel
theorem dX4_keep_9 : decode cX4_keep 9 = .ok (.irem, 1) := by decide +kernel
theorem dX4_keep_10 : decode cX4_keep 10 = .ok (.putfield 18, 3) := by decide +kernel
theorem dX4_keep_13 : decode cX4_keep 13 = .ok (.aload_n 0, 1) := by decide +kernel
theorem dX4_keep_14 : decode cX4_keep 14 = .ok (.aload_n 0, 1) := by decide +kernel
theorem dX4_keep_15 : decode cX4_keep 15 = .ok (.getfield 26, 3) := by decide +kernel
theorem dX4_keep_18 : decode cX4_keep 18 = .ok (.iconst 1, 1) := by decide +kernel
theorem dX4_keep_19 : decode cX4_keep 19 = .ok (.iadd, 1) := by decide +kernel
theorem dX4_keep_20 : decode cX4_keep 20 = .ok (.bipush 8, 2) := by decide +kernel
theorem dX4_keep_22 : decode cX4_keep 22 = .ok (.invokestatic 29, 3) := by decide +kernel
theorem dX4_keep_25 : decode cX4_keep 25 = .ok (.putfield 26, 3) := by decide +kernel
theorem dX4_keep_28 : decode cX4_keep 28 = .ok (.return_, 1) := by decide +kernel
set_option maxRecDepth 20000 in
theorem ggX4_takeBack_X0_copyFrom : GoodIn wsX4_takeBack wsX0_copyFrom := goodIn_r _ [7, 8, 9, 10, 11, 12, 13, 14, 15, 16, 17, 18, 19, 20, 21, 22, 23, 24, 25, 26, 27, 28, 29, 30, 31, 32, 33, 34, 35, 36, 37, 38, 39, 40, 41, 42, 43, 44, 45, 46, 47, 48, 49, 53, 54, 55, 56, 57, 58, 59, 60, 61, 62, 63, 64, 65, 66, 67, 68, 69, 70, 71, 72, 73, 74] (by decide +kernel) (by decide +kernel)
set_option maxRecDepth 20000 in
theorem gX4_takeBack_X0_copyFrom : GoodIn wsX4_takeBack (wsV RX4 22 RX0 yX0_copyFrom wsX0_copyFrom) := goodIn_app (goodIn_of _ (by decide +kernel)) ggX4_takeBack_X0_copyFrom
theorem dX4_takeBack_0 : decode cX4_takeBack 0 = .ok (.aload_n 1, 1) := by decide +kernel
theorem dX4_takeBack_1 : decode cX4_takeBack 1 = .ok (.aload_n 0, 1) := by decide +kernel
theorem dX4_takeBack_2 : decode cX4_takeBack 2 = .ok (.getfield 13, 3) := by decide +kernel
theorem dX4_takeBack_5 : decode cX4_takeBack 5 = .ok (.aload_n 0, 1) := by decide +kernel
theorem dX4_takeBack_6 : decode cX4_takeBack 6 = .ok (.getfield 18, 3) := by decide +kernel
theorem dX4_takeBack_9 : decode cX4_takeBack 9 = .ok (.aaload, 1) := by decide +kernel
theorem dX4_takeBack_10 : decode cX4_takeBack 10 = .ok (.invokevirtual 22, 3) := by decide +kernel
theorem dX4_takeBack_13 : decode cX4_takeBack 13 = .ok (.return_, 1) := by decide +kernel
set_option maxRecDepth 20000 in
theorem ggX4_stepBack_X0_copyFrom : GoodIn wsX4_stepBack wsX0_copyFrom := goodIn_r _ [8, 9, 10, 11, 12, 13, 14, 15, 16, 17, 18, 19, 20, 21, 22, 23, 24, 25, 26, 27, 28, 29, 30, 31, 32, 33, 34, 35, 36, 37, 38, 39, 40, 41, 42, 43, 44, 45, 46, 47, 48, 49, 50, 54, 55, 56, 57, 58, 59, 60, 61, 62, 63, 64, 65, 66, 67, 68, 69, 70, 71, 72, 73, 74, 75] (by decide +kernel) (by decide +kernel)
set_option maxRecDepth 20000 in
theorem gX4_stepBack_X0_copyFrom : GoodIn wsX4_stepBack (wsV RX4 22 RX0 yX0_copyFrom wsX0_copyFrom) := goodIn_app (goodIn_of _ (by decide +kernel)) ggX4_stepBack_X0_copyFrom
theorem dX4_stepBack_0 : decode cX4_stepBack 0 = .ok (.aload_n 0, 1) := by decide +kernel
theorem dX4_stepBack_1 : decode cX4_stepBack 1 = .ok (.aload_n 0, 1) := by decide +kernel
theorem dX4_stepBack_2 : decode cX4_stepBack 2 = .ok (.getfield 18, 3) := by decide +kernel
theorem dX4_stepBack_5 : decode cX4_stepBack 5 = .ok (.bipush 9, 2) := by decide +kernel
theorem dX4_stepBack_7 : decode cX4_stepBack 7 = .ok (.iadd, 1) := by decide +kernel
theorem dX4_stepBack_8 : decode cX4_stepBack 8 = .ok (.iconst 1, 1) := by decide +kernel
theorem dX4_stepBack_9 : decode cX4_stepBack 9 = .ok (.isub, 1) := by decide +kernel
theorem dX4_stepBack_10 : decode cX4_stepBack 10 = .ok (.bipush 9, 2) := by decide +kernel
theorem dX4_stepBack_12 : decode cX4_stepBack 12 = .ok (.irem, 1) := by decide +kernel
theorem dX4_stepBack_13 : decode cX4_stepBack 13 = .ok (.putfield 18, 3) := by decide +kernel
theorem dX4_stepBack_16 : decode cX4_stepBack 16 = .ok (.aload_n 0, 1) := by decide +kernel
theorem dX4_stepBack_17 : decode cX4_stepBack 17 = .ok (.dup, 1) := by decide +kernel
theorem dX4_stepBack_18 : decode cX4_stepBack 18 = .ok (.getfield 26, 3) := by decide +kernel
theorem dX4_stepBack_21 : decode cX4_stepBack 21 = .ok (.iconst 1, 1) := by decide +kernel
theorem dX4_stepBack_22 : decode cX4_stepBack 22 = .ok (.isub, 1) := by decide +kernel
theorem dX4_stepBack_23 : decode cX4_stepBack 23 = .ok (.putfield 26, 3) := by decide +kernel
theorem dX4_stepBack_26 : decode cX4_stepBack 26 = .ok (.aload_n 1, 1) := by decide +kernel
theorem dX4_stepBack_27 : decode cX4_stepBack 27 = .ok (.aload_n 0, 1) := by decide +kernel
theorem dX4_stepBack_28 : decode cX4_stepBack 28 = .ok (.getfield 13, 3) := by decide +kernel
theorem dX4_stepBack_31 : decode cX4_stepBack 31 = .ok (.aload_n 0, 1) := by decide +kernel
theorem dX4_stepBack_32 : decode cX4_stepBack 32 = .ok (.getfield 18, 3) := by decide +kernel
theorem dX4_stepBack_35 : decode cX4_stepBack 35 = .ok (.aaload, 1) := by decide +kernel
theorem dX4_stepBack_36 : decode cX4_stepBack 36 = .ok (.invokevirtual 22, 3) := by decide +kernel
theorem dX4_stepBack_39 : decode cX4_stepBack 39 = .ok (.return_, 1) := by decide +kernel
theorem dX4_forget_0 : decode cX4_forget 0 = .ok (.aload_n 0, 1) := by decide +kernel
theorem dX4_forget_1 : decode cX4_forget 1 = .ok (.iconst 0, 1) := by decide +kernel
theorem dX4_forget_2 : decode cX4_forget 2 = .ok (.putfield 26, 3) := by decide +kernel
theorem dX4_forget_5 : decode cX4_forget 5 = .ok (.return_, 1) := by decide +kernel
theorem dX5_init_0 : decode cX5_init 0 = .ok (.aload_n 0, 1) := by decide +kernel
