theorem dX11_needsFor_47 : decode cX11_needsFor 47 = .ok (.if_icmp .ne 94, 3) := by decide +kernel
theorem dX11_needsFor_50 : decode cX11_needsFor 50 = .ok (.aload_n 0, 1) := by decide +kernel
theorem dX11_needsFor_51 : decode cX11_needsFor 51 = .ok (.getfield 7, 3) := by decide +kernel
theorem dX11_needsFor_54 : decode cX11_needsFor 54 = .ok (.bipush 68, 2) := by decide +kernel
theorem dX11_needsFor_56 : decode cX11_needsFor 56 = .ok (.bipush 8, 2) := by decide +kernel
theorem dX11_needsFor_58 : decode cX11_needsFor 58 = .ok (.iload_n 1, 1) := by decide +kernel
theorem dX11_needsFor_59 : decode cX11_needsFor 59 = .ok (.imul, 1) := by decide +kernel
theorem dX11_needsFor_60 : decode cX11_needsFor 60 = .ok (.iadd, 1) := by decide +kernel
theorem dX11_needsFor_61 : decode cX11_needsFor 61 = .ok (.iload 4, 2) := by decide +kernel
theorem dX11_needsFor_63 : decode cX11_needsFor 63 = .ok (.iadd, 1) := by decide +kernel
theorem dX11_needsFor_64 : decode cX11_needsFor 64 = .ok (.iaload, 1) := by decide +kernel
theorem dX11_needsFor_65 : decode cX11_needsFor 65 = .ok (.istore 5, 2) := by decide +kernel
theorem dX11_needsFor_67 : decode cX11_needsFor 67 = .ok (.aload_n 0, 1) := by decide +kernel
theorem dX11_needsFor_68 : decode cX11_needsFor 68 = .ok (.getfield 7, 3) := by decide +kernel
theorem dX11_needsFor_71 : decode cX11_needsFor 71 = .ok (.sipush 132, 3) := by decide +kernel
theorem dX11_needsFor_74 : decode cX11_needsFor 74 = .ok (.bipush 8, 2) := by decide +kernel
theorem dX11_needsFor_76 : decode cX11_needsFor 76 = .ok (.iload_n 1, 1) := by decide +kernel
theorem dX11_needsFor_77 : decode cX11_needsFor 77 = .ok (.imul, 1) := by decide +kernel
theorem dX11_needsFor_78 : decode cX11_needsFor 78 = .ok (.iadd, 1) := by decide +kernel
theorem dX11_needsFor_79 : decode cX11_needsFor 79 = .ok (.iload 4, 2) := by decide +kernel
theorem dX11_needsFor_81 : decode cX11_needsFor 81 = .ok (.iadd, 1) := by decide +kernel
theorem dX11_needsFor_82 : decode cX11_needsFor 82 = .ok (.iaload, 1) := by decide +kernel
theorem dX11_needsFor_83 : decode cX11_needsFor 83 = .ok (.istore 6, 2) := by decide +kernel
theorem dX11_needsFor_85 : decode cX11_needsFor 85 = .ok (.aload_n 0, 1) := by decide +kernel
theorem dX11_needsFor_86 : decode cX11_needsFor 86 = .ok (.getfield 33, 3) := by decide +kernel
theorem dX11_needsFor_89 : decode cX11_needsFor 89 = .ok (.iload 5, 2) := by decide +kernel
theorem dX11_needsFor_91 : decode cX11_needsFor 91 = .ok (.dup2, 1) := by decide +kernel
theorem dX11_needsFor_92 : decode cX11_needsFor 92 = .ok (.iaload, 1) := by decide +kernel
theorem dX11_needsFor_93 : decode cX11_needsFor 93 = .ok (.iload 6, 2) := by decide +kernel
theorem dX11_needsFor_95 : decode cX11_needsFor 95 = .ok (.iadd, 1) := by decide +kernel
theorem dX11_needsFor_96 : decode cX11_needsFor 96 = .ok (.iastore, 1) := by decide +kernel
theorem dX11_needsFor_97 : decode cX11_needsFor 97 = .ok (.aload_n 0, 1) := by decide +kernel
theorem dX11_needsFor_98 : decode cX11_needsFor 98 = .ok (.getfield 33, 3) := by decide +kernel
theorem dX11_needsFor_101 : decode cX11_needsFor 101 = .ok (.iload 5, 2) := by decide +kernel
theorem dX11_needsFor_103 : decode cX11_needsFor 103 = .ok (.iconst 1, 1) := by decide +kernel
theorem dX11_needsFor_104 : decode cX11_needsFor 104 = .ok (.iadd, 1) := by decide +kernel
theorem dX11_needsFor_105 : decode cX11_needsFor 105 = .ok (.bipush 6, 2) := by decide +kernel
theorem dX11_needsFor_107 : decode cX11_needsFor 107 = .ok (.irem, 1) := by decide +kernel
theorem dX11_needsFor_108 : decode cX11_needsFor 108 = .ok (.dup2, 1) := by decide +kernel
theorem dX11_needsFor_109 : decode cX11_needsFor 109 = .ok (.iaload, 1) := by decide +kernel
theorem dX11_needsFor_110 : decode cX11_needsFor 110 = .ok (.iload 6, 2) := by decide +kernel
theorem dX11_needsFor_112 : decode cX11_needsFor 112 = .ok (.aload_n 0, 1) := by decide +kernel
theorem dX11_needsFor_113 : decode cX11_needsFor 113 = .ok (.getfield 7, 3) := by decide +kernel
theorem dX11_needsFor_116 : decode cX11_needsFor 116 = .ok (.sipush 260, 3) := by decide +kernel
theorem dX11_needsFor_119 : decode cX11_needsFor 119 = .ok (.bipush 8, 2) := by decide +kernel
theorem dX11_needsFor_121 : decode cX11_needsFor 121 = .ok (.iload_n 1, 1) := by decide +kernel
theorem dX11_needsFor_122 : decode cX11_needsFor 122 = .ok (.imul, 1) := by decide +kernel
theorem dX11_needsFor_123 : decode cX11_needsFor 123 = .ok (.iadd, 1) := by decide +kernel
theorem dX11_needsFor_124 : decode cX11_needsFor 124 = .ok (.iload 4, 2) := by decide +kernel
theorem dX11_needsFor_126 : decode cX11_needsFor 126 = .ok (.iadd, 1) := by decide +kernel
theorem dX11_needsFor_127 : decode cX11_needsFor 127 = .ok (.iaload, 1) := by decide +kernel
theorem dX11_needsFor_128 : decode cX11_needsFor 128 = .ok (.imul, 1) := by decide +kernel
theorem dX11_needsFor_129 : decode cX11_needsFor 129 = .ok (.iadd, 1) := by decide +kernel
theorem dX11_needsFor_130 : decode cX11_needsFor 130 = .ok (.iastore, 1) := by decide +kernel
theorem dX11_needsFor_131 : decode cX11_needsFor 131 = .ok (.iload_n 3, 1) := by decide +kernel
theorem dX11_needsFor_132 : decode cX11_needsFor 132 = .ok (.aload_n 0, 1) := by decide +kernel
theorem dX11_needsFor_133 : decode cX11_needsFor 133 = .ok (.iload_n 1, 1) := by decide +kernel
theorem dX11_needsFor_134 : decode cX11_needsFor 134 = .ok (.iload 4, 2) := by decide +kernel
theorem dX11_needsFor_136 : decode cX11_needsFor 136 = .ok (.invokevirtual 70, 3) := by decide +kernel
theorem dX11_needsFor_139 : decode cX11_needsFor 139 = .ok (.iadd, 1) := by decide +kernel
theorem dX11_needsFor_140 : decode cX11_needsFor 140 = .ok (.istore_n 3, 1) := by decide +kernel
theorem dX11_needsFor_141 : decode cX11_needsFor 141 = .ok (.iinc 4 1, 3) := by decide +kernel
theorem dX11_needsFor_144 : decode cX11_needsFor 144 = .ok (.goto (-118), 3) := by decide +kernel
theorem dX11_needsFor_147 : decode cX11_needsFor 147 = .ok (.iload_n 3, 1) := by decide +kernel
theorem dX11_needsFor_148 : decode cX11_needsFor 148 = .ok (.ireturn, 1) := by decide +kernel
theorem dX11_lacking_0 : decode cX11_lacking 0 = .ok (.iconst 0, 1) := by decide +kernel
theorem dX11_lacking_1 : decode cX11_lacking 1 = .ok (.istore_n 1, 1) := by decide +kernel
theorem dX11_lacking_2 : decode cX11_lacking 2 = .ok (.iload_n 1, 1) := by decide +kernel
theorem dX11_lacking_3 : decode cX11_lacking 3 = .ok (.bipush 6, 2) := by decide +kernel
theorem dX11_lacking_5 : decode cX11_lacking 5 = .ok (.if_icmp .ge 27, 3) := by decide +kernel
theorem dX11_lacking_8 : decode cX11_lacking 8 = .ok (.aload_n 0, 1) := by decide +kernel
theorem dX11_lacking_9 : decode cX11_lacking 9 = .ok (.getfield 7, 3) := by decide +kernel
theorem dX11_lacking_12 : decode cX11_lacking 12 = .ok (.bipush 6, 2) := by decide +kernel
theorem dX11_lacking_14 : decode cX11_lacking 14 = .ok (.iload_n 1, 1) := by decide +kernel
theorem dX11_lacking_15 : decode cX11_lacking 15 = .ok (.iadd, 1) := by decide +kernel
theorem dX11_lacking_16 : decode cX11_lacking 16 = .ok (.iaload, 1) := by decide +kernel
theorem dX11_lacking_17 : decode cX11_lacking 17 = .ok (.aload_n 0, 1) := by decide +kernel
theorem dX11_lacking_18 : decode cX11_lacking 18 = .ok (.getfield 33, 3) := by decide +kernel
theorem dX11_lacking_21 : decode cX11_lacking 21 = .ok (.iload_n 1, 1) := by decide +kernel
theorem dX11_lacking_22 : decode cX11_lacking 22 = .ok (.iaload, 1) := by decide +kernel
theorem dX11_lacking_23 : decode cX11_lacking 23 = .ok (.if_icmp .lt 9, 3) := by decide +kernel
theorem dX11_lacking_26 : decode cX11_lacking 26 = .ok (.iinc 1 1, 3) := by decide +kernel
theorem dX11_lacking_29 : decode cX11_lacking 29 = .ok (.goto (-27), 3) := by decide +kernel
theorem dX11_lacking_32 : decode cX11_lacking 32 = .ok (.iload_n 1, 1) := by decide +kernel
theorem dX11_lacking_33 : decode cX11_lacking 33 = .ok (.bipush 6, 2) := by decide +kernel
theorem dX11_lacking_35 : decode cX11_lacking 35 = .ok (.if_icmp .ne 7, 3) := by decide +kernel
theorem dX11_lacking_38 : decode cX11_lacking 38 = .ok (.iconst (-1), 1) := by decide +kernel
theorem dX11_lacking_39 : decode cX11_lacking 39 = .ok (.goto 4, 3) := by decide +kernel
theorem dX11_lacking_42 : decode cX11_lacking 42 = .ok (.iload_n 1, 1) := by decide +kernel
theorem dX11_lacking_43 : decode cX11_lacking 43 = .ok (.ireturn, 1) := by decide +kernel
theorem dX11_tinGets_0 : decode cX11_tinGets 0 = .ok (.iconst 0, 1) := by decide +kernel
theorem dX11_tinGets_1 : decode cX11_tinGets 1 = .ok (.istore_n 2, 1) := by decide +kernel
theorem dX11_tinGets_2 : decode cX11_tinGets 2 = .ok (.iload_n 2, 1) := by decide +kernel
theorem dX11_tinGets_3 : decode cX11_tinGets 3 = .ok (.bipush 6, 2) := by decide +kernel
theorem dX11_tinGets_5 : decode cX11_tinGets 5 = .ok (.if_icmp .ge 29, 3) := by decide +kernel
theorem dX11_tinGets_8 : decode cX11_tinGets 8 = .ok (.aload_n 0, 1) := by decide +kernel
theorem dX11_tinGets_9 : decode cX11_tinGets 9 = .ok (.getfield 7, 3) := by decide +kernel
theorem dX11_tinGets_12 : decode cX11_tinGets 12 = .ok (.bipush 6, 2) := by decide +kernel
theorem dX11_tinGets_14 : decode cX11_tinGets 14 = .ok (.iload_n 2, 1) := by decide +kernel
theorem dX11_tinGets_15 : decode cX11_tinGets 15 = .ok (.iadd, 1) := by decide +kernel
theorem dX11_tinGets_16 : decode cX11_tinGets 16 = .ok (.dup2, 1) := by decide +kernel
theorem dX11_tinGets_17 : decode cX11_tinGets 17 = .ok (.iaload, 1) := by decide +kernel
theorem dX11_tinGets_18 : decode cX11_tinGets 18 = .ok (.iload_n 1, 1) := by decide +kernel
theorem dX11_tinGets_19 : decode cX11_tinGets 19 = .ok (.aload_n 0, 1) := by decide +kernel
theorem dX11_tinGets_20 : decode cX11_tinGets 20 = .ok (.getfield 33, 3) := by decide +kernel
theorem dX11_tinGets_23 : decode cX11_tinGets 23 = .ok (.iload_n 2, 1) := by decide +kernel
theorem dX11_tinGets_24 : decode cX11_tinGets 24 = .ok (.iaload, 1) := by decide +kernel
theorem dX11_tinGets_25 : decode cX11_tinGets 25 = .ok (.imul, 1) := by decide +kernel
theorem dX11_tinGets_26 : decode cX11_tinGets 26 = .ok (.iadd, 1) := by decide +kernel
theorem dX11_tinGets_27 : decode cX11_tinGets 27 = .ok (.iastore, 1) := by decide +kernel
theorem dX11_tinGets_28 : decode cX11_tinGets 28 = .ok (.iinc 2 1, 3) := by decide +kernel
theorem dX11_tinGets_31 : decode cX11_tinGets 31 = .ok (.goto (-29), 3) := by decide +kernel
theorem dX11_tinGets_34 : decode cX11_tinGets 34 = .ok (.return_, 1) := by decide +kernel
theorem dX11_boxesOn_0 : decode cX11_boxesOn 0 = .ok (.iconst 0, 1) := by decide +kernel
theorem dX11_boxesOn_1 : decode cX11_boxesOn 1 = .ok (.istore_n 2, 1) := by decide +kernel
theorem dX11_boxesOn_2 : decode cX11_boxesOn 2 = .ok (.iconst 0, 1) := by decide +kernel
theorem dX11_boxesOn_3 : decode cX11_boxesOn 3 = .ok (.istore_n 3, 1) := by decide +kernel
theorem dX11_boxesOn_4 : decode cX11_boxesOn 4 = .ok (.iload_n 3, 1) := by decide +kernel
theorem dX11_boxesOn_5 : decode cX11_boxesOn 5 = .ok (.aload_n 0, 1) := by decide +kernel
theorem dX11_boxesOn_6 : decode cX11_boxesOn 6 = .ok (.getfield 7, 3) := by decide +kernel
theorem dX11_boxesOn_9 : decode cX11_boxesOn 9 = .ok (.iconst 0, 1) := by decide +kernel
theorem dX11_boxesOn_10 : decode cX11_boxesOn 10 = .ok (.iaload, 1) := by decide +kernel
theorem dX11_boxesOn_11 : decode cX11_boxesOn 11 = .ok (.if_icmp .ge 32, 3) := by decide +kernel
theorem dX11_boxesOn_14 : decode cX11_boxesOn 14 = .ok (.iload_n 2, 1) := by decide +kernel
theorem dX11_boxesOn_15 : decode cX11_boxesOn 15 = .ok (.aload_n 0, 1) := by decide +kernel
theorem dX11_boxesOn_16 : decode cX11_boxesOn 16 = .ok (.getfield 7, 3) := by decide +kernel
theorem dX11_boxesOn_19 : decode cX11_boxesOn 19 = .ok (.bipush 34, 2) := by decide +kernel
theorem dX11_boxesOn_21 : decode cX11_boxesOn 21 = .ok (.iload_n 3, 1) := by decide +kernel
theorem dX11_boxesOn_22 : decode cX11_boxesOn 22 = .ok (.iadd, 1) := by decide +kernel
theorem dX11_boxesOn_23 : decode cX11_boxesOn 23 = .ok (.iaload, 1) := by decide +kernel
theorem dX11_boxesOn_24 : decode cX11_boxesOn 24 = .ok (.iload_n 1, 1) := by decide +kernel
theorem dX11_boxesOn_25 : decode cX11_boxesOn 25 = .ok (.if_icmp .ne 9, 3) := by decide +kernel
theorem dX11_boxesOn_28 : decode cX11_boxesOn 28 = .ok (.iconst 1, 1) := by decide +kernel
theorem dX11_boxesOn_29 : decode cX11_boxesOn 29 = .ok (.iload_n 3, 1) := by decide +kernel
theorem dX11_boxesOn_30 : decode cX11_boxesOn 30 = .ok (.ishl, 1) := by decide +kernel
theorem dX11_boxesOn_31 : decode cX11_boxesOn 31 = .ok (.goto 4, 3) := by decide +kernel
theorem dX11_boxesOn_34 : decode cX11_boxesOn 34 = .ok (.iconst 0, 1) := by decide +kernel
theorem dX11_boxesOn_35 : decode cX11_boxesOn 35 = .ok (.ior, 1) := by decide +kernel
theorem dX11_boxesOn_36 : decode cX11_boxesOn 36 = .ok (.istore_n 2, 1) := by decide +kernel
theorem dX11_boxesOn_37 : decode cX11_boxesOn 37 = .ok (.iinc 3 1, 3) := by decide +kernel
theorem dX11_boxesOn_40 : decode cX11_boxesOn 40 = .ok (.goto (-36), 3) := by decide +kernel
theorem dX11_boxesOn_43 : decode cX11_boxesOn 43 = .ok (.iload_n 2, 1) := by decide +kernel
theorem dX11_boxesOn_44 : decode cX11_boxesOn 44 = .ok (.ireturn, 1) := by decide +kernel
set_option maxRecDepth 20000 in
theorem ggX11_lays_X11_isShelf : GoodIn wsX11_lays wsX11_isShelf := goodIn_r _ [5, 6, 7, 4, 8] (by decide +kernel) (by decide +kernel)
set_option maxRecDepth 20000 in
theorem gX11_lays_X11_isShelf : GoodIn wsX11_lays (va_wsS RX11 81 yX11_isShelf wsX11_isShelf) := goodIn_app (goodIn_of _ (by decide +kernel)) ggX11_lays_X11_isShelf
set_option maxRecDepth 20000 in
theorem ggX11_lays_X11_refused : GoodIn wsX11_lays wsX11_refused := goodIn_r _ [12, 13, 14, 15, 16, 17, 18, 4, 19, 20, 32, 33, 34, 35, 36, 37, 38, 39, 40, 41, 42, 43, 44, 45, 46, 47, 48, 49, 50] (by decide +kernel) (by decide +kernel)
set_option maxRecDepth 20000 in
theorem gX11_lays_X11_refused : GoodIn wsX11_lays (wsV RX11 85 RX11 yX11_refused wsX11_refused) := goodIn_app (goodIn_of _ (by decide +kernel)) ggX11_lays_X11_refused
set_option maxRecDepth 20000 in
theorem ggX11_lays_X11_boxesOn : GoodIn wsX11_lays wsX11_boxesOn := goodIn_ca (goodIn_r _ [24, 1, 32, 33, 34, 35, 36, 37, 38, 39, 40, 41, 42, 43, 44, 45, 46, 47, 48, 49, 50] (by decide +kernel) (by decide +kernel)) (goodIn_sub (fun _ h => List.mem_cons_of_mem _ (List.mem_append_right _ h)) (by decide +kernel))
set_option maxRecDepth 20000 in
theorem gX11_lays_X11_boxesOn : GoodIn wsX11_lays (wsV RX11 88 RX11 yX11_boxesOn wsX11_boxesOn) := goodIn_app (goodIn_of _ (by decide +kernel)) ggX11_lays_X11_boxesOn
set_option maxRecDepth 20000 in
theorem ggX11_lays_X11_bits : GoodIn wsX11_lays wsX11_bits := goodIn_r _ [27] (by decide +kernel) (by decide +kernel)
set_option maxRecDepth 20000 in
theorem gX11_lays_X11_bits : GoodIn wsX11_lays (va_wsS RX11 91 yX11_bits wsX11_bits) := goodIn_app (goodIn_of _ (by decide +kernel)) ggX11_lays_X11_bits
set_option maxRecDepth 20000 in
theorem ggX11_lays_X11_done : GoodIn wsX11_lays wsX11_done := goodIn_r _ [31, 20, 32, 33, 34, 35, 36, 37, 38, 39, 40, 41, 42, 43, 44, 45, 46, 47, 48, 49, 50] (by decide +kernel) (by decide +kernel)
set_option maxRecDepth 20000 in
theorem gX11_lays_X11_done : GoodIn wsX11_lays (wsV RX11 94 RX11 yX11_done wsX11_done) := goodIn_app (goodIn_of _ (by decide +kernel)) ggX11_lays_X11_done
theorem dX11_lays_0 : decode cX11_lays 0 = .ok (.iload_n 1, 1) := by decide +kernel
theorem dX11_lays_1 : decode cX11_lays 1 = .ok (.invokestatic 81, 3) := by decide +kernel
theorem dX11_lays_4 : decode cX11_lays 4 = .ok (.ifCond .ne 10, 3) := by decide +kernel
theorem dX11_lays_7 : decode cX11_lays 7 = .ok (.aload_n 0, 1) := by decide +kernel
theorem dX11_lays_8 : decode cX11_lays 8 = .ok (.iconst 1, 1) := by decide +kernel
theorem dX11_lays_9 : decode cX11_lays 9 = .ok (.iconst 0, 1) := by decide +kernel
theorem dX11_lays_10 : decode cX11_lays 10 = .ok (.invokevirtual 85, 3) := by decide +kernel
theorem dX11_lays_13 : decode cX11_lays 13 = .ok (.ireturn, 1) := by decide +kernel
theorem dX11_lays_14 : decode cX11_lays 14 = .ok (.aload_n 0, 1) := by decide +kernel
theorem dX11_lays_15 : decode cX11_lays 15 = .ok (.getfield 7, 3) := by decide +kernel
theorem dX11_lays_18 : decode cX11_lays 18 = .ok (.iconst 0, 1) := by decide +kernel
theorem dX11_lays_19 : decode cX11_lays 19 = .ok (.iaload, 1) := by decide +kernel
theorem dX11_lays_20 : decode cX11_lays 20 = .ok (.istore_n 2, 1) := by decide +kernel
theorem dX11_lays_21 : decode cX11_lays 21 = .ok (.iload_n 2, 1) := by decide +kernel
theorem dX11_lays_22 : decode cX11_lays 22 = .ok (.bipush 8, 2) := by decide +kernel
theorem dX11_lays_24 : decode cX11_lays 24 = .ok (.if_icmp .ne 11, 3) := by decide +kernel
theorem dX11_lays_27 : decode cX11_lays 27 = .ok (.aload_n 0, 1) := by decide +kernel
theorem dX11_lays_28 : decode cX11_lays 28 = .ok (.iconst 2, 1) := by decide +kernel
theorem dX11_lays_29 : decode cX11_lays 29 = .ok (.bipush 8, 2) := by decide +kernel
theorem dX11_lays_31 : decode cX11_lays 31 = .ok (.invokevirtual 85, 3) := by decide +kernel
theorem dX11_lays_34 : decode cX11_lays 34 = .ok (.ireturn, 1) := by decide +kernel
theorem dX11_lays_35 : decode cX11_lays 35 = .ok (.aload_n 0, 1) := by decide +kernel
theorem dX11_lays_36 : decode cX11_lays 36 = .ok (.iload_n 1, 1) := by decide +kernel
theorem dX11_lays_37 : decode cX11_lays 37 = .ok (.invokevirtual 88, 3) := by decide +kernel
theorem dX11_lays_40 : decode cX11_lays 40 = .ok (.invokestatic 91, 3) := by decide +kernel
theorem dX11_lays_43 : decode cX11_lays 43 = .ok (.iconst 3, 1) := by decide +kernel
theorem dX11_lays_44 : decode cX11_lays 44 = .ok (.if_icmp .ne 10, 3) := by decide +kernel
theorem dX11_lays_47 : decode cX11_lays 47 = .ok (.aload_n 0, 1) := by decide +kernel
theorem dX11_lays_48 : decode cX11_lays 48 = .ok (.iconst 5, 1) := by decide +kernel
theorem dX11_lays_49 : decode cX11_lays 49 = .ok (.iload_n 1, 1) := by decide +kernel
theorem dX11_lays_50 : decode cX11_lays 50 = .ok (.invokevirtual 85, 3) := by decide +kernel
theorem dX11_lays_53 : decode cX11_lays 53 = .ok (.ireturn, 1) := by decide +kernel
theorem dX11_lays_54 : decode cX11_lays 54 = .ok (.aload_n 0, 1) := by decide +kernel
theorem dX11_lays_55 : decode cX11_lays 55 = .ok (.getfield 7, 3) := by decide +kernel
theorem dX11_lays_58 : decode cX11_lays 58 = .ok (.bipush 34, 2) := by decide +kernel
theorem dX11_lays_60 : decode cX11_lays 60 = .ok (.iload_n 2, 1) := by decide +kernel
theorem dX11_lays_61 : decode cX11_lays 61 = .ok (.iadd, 1) := by decide +kernel
theorem dX11_lays_62 : decode cX11_lays 62 = .ok (.iload_n 1, 1) := by decide +kernel
theorem dX11_lays_63 : decode cX11_lays 63 = .ok (.iastore, 1) := by decide +kernel
theorem dX11_lays_64 : decode cX11_lays 64 = .ok (.aload_n 0, 1) := by decide +kernel
theorem dX11_lays_65 : decode cX11_lays 65 = .ok (.getfield 7, 3) := by decide +kernel
theorem dX11_lays_68 : decode cX11_lays 68 = .ok (.iconst 0, 1) := by decide +kernel
theorem dX11_lays_69 : decode cX11_lays 69 = .ok (.dup2, 1) := by decide +kernel
theorem dX11_lays_70 : decode cX11_lays 70 = .ok (.iaload, 1) := by decide +kernel
theorem dX11_lays_71 : decode cX11_lays 71 = .ok (.iconst 1, 1) := by decide +kernel
theorem dX11_lays_72 : decode cX11_lays 72 = .ok (.iadd, 1) := by decide +kernel
theorem dX11_lays_73 : decode cX11_lays 73 = .ok (.iastore, 1) := by decide +kernel
theorem dX11_lays_74 : decode cX11_lays 74 = .ok (.aload_n 0, 1) := by decide +kernel
theorem dX11_lays_75 : decode cX11_lays 75 = .ok (.iload_n 2, 1) := by decide +kernel
theorem dX11_lays_76 : decode cX11_lays 76 = .ok (.invokevirtual 94, 3) := by decide +kernel
theorem dX11_lays_79 : decode cX11_lays 79 = .ok (.ireturn, 1) := by decide +kernel
set_option maxRecDepth 20000 in
theorem ggX11_leaflet_X11_looksBack : GoodIn wsX11_leaflet wsX11_looksBack := goodIn_ca (goodIn_r _ [5, 6, 7, 8, 9, 4, 10, 50, 51, 52, 53, 54, 55, 56, 57, 58, 59, 60, 61, 62, 63, 64, 65, 66, 67, 68] (by decide +kernel) (by decide +kernel)) (goodIn_sub (fun _ h => List.mem_cons_of_mem _ (List.mem_append_right _ h)) (by decide +kernel))
set_option maxRecDepth 20000 in
theorem gX11_leaflet_X11_looksBack : GoodIn wsX11_leaflet (wsV RX11 97 RX11 yX11_looksBack wsX11_looksBack) := goodIn_app (goodIn_of _ (by decide +kernel)) ggX11_leaflet_X11_looksBack
set_option maxRecDepth 20000 in
theorem ggX11_leaflet_X11_lays : GoodIn wsX11_leaflet wsX11_lays := goodIn_ca (goodIn_r _ [14, 6, 15, 16, 4, 17, 18, 19, 20, 21, 22, 23, 24, 25, 26, 27, 28, 29, 30, 31, 32, 33, 34, 35, 36, 37, 38, 39, 40, 41, 42, 43, 50, 51, 52, 53, 54, 55, 56, 57, 58, 59, 60, 61, 62, 63, 64, 65, 66, 67, 68] (by decide +kernel) (by decide +kernel)) (goodIn_sub (fun _ h => List.mem_cons_of_mem _ (List.mem_append_right _ h)) (by decide +kernel))
set_option maxRecDepth 20000 in
theorem gX11_leaflet_X11_lays : GoodIn wsX11_leaflet (wsV RX11 100 RX11 yX11_lays wsX11_lays) := goodIn_app (goodIn_of _ (by decide +kernel)) ggX11_leaflet_X11_lays
set_option maxRecDepth 20000 in
theorem ggX11_leaflet_X11_kept : GoodIn wsX11_leaflet wsX11_kept := goodIn_ca (goodIn_r _ [47, 32, 7, 6, 48, 49, 8, 9, 4, 10, 50, 51, 52, 53, 54, 55, 56, 57, 58, 59, 60, 61, 62, 63, 64, 65, 66, 67, 68] (by decide +kernel) (by decide +kernel)) (goodIn_sub (fun _ h => List.mem_cons_of_mem _ (List.mem_append_right _ h)) (by decide +kernel))
set_option maxRecDepth 20000 in
theorem gX11_leaflet_X11_kept : GoodIn wsX11_leaflet (wsV RX11 103 RX11 yX11_kept wsX11_kept) := goodIn_app (goodIn_of _ (by decide +kernel)) ggX11_leaflet_X11_kept
theorem dX11_leaflet_0 : decode cX11_leaflet 0 = .ok (.aload_n 0, 1) := by decide +kernel
theorem dX11_leaflet_1 : decode cX11_leaflet 1 = .ok (.invokevirtual 97, 3) := by decide +kernel
theorem dX11_leaflet_4 : decode cX11_leaflet 4 = .ok (.aload_n 0, 1) := by decide +kernel
theorem dX11_leaflet_5 : decode cX11_leaflet 5 = .ok (.aload_n 0, 1) := by decide +kernel
theorem dX11_leaflet_6 : decode cX11_leaflet 6 = .ok (.iload_n 1, 1) := by decide +kernel
theorem dX11_leaflet_7 : decode cX11_leaflet 7 = .ok (.invokevirtual 100, 3) := by decide +kernel
theorem dX11_leaflet_10 : decode cX11_leaflet 10 = .ok (.invokevirtual 103, 3) := by decide +kernel
theorem dX11_leaflet_13 : decode cX11_leaflet 13 = .ok (.ireturn, 1) := by decide +kernel
set_option maxRecDepth 20000 in
theorem ggX11_adds_X11_isLeaflet : GoodIn wsX11_adds wsX11_isLeaflet := goodIn_ca (goodIn_r _ [6, 1, 7, 8, 5, 9, 29, 30, 31, 32, 33, 34, 35, 36, 37, 38, 39, 40, 41, 42, 43, 44, 45, 46, 47] (by decide +kernel) (by decide +kernel)) (goodIn_sub (fun _ h => List.mem_cons_of_mem _ (List.mem_append_right _ h)) (by decide +kernel))
set_option maxRecDepth 20000 in
theorem gX11_adds_X11_isLeaflet : GoodIn wsX11_adds (wsV RX11 106 RX11 yX11_isLeaflet wsX11_isLeaflet) := goodIn_app (goodIn_of _ (by decide +kernel)) ggX11_adds_X11_isLeaflet
set_option maxRecDepth 20000 in
theorem ggX11_adds_X11_refused : GoodIn wsX11_adds wsX11_refused := goodIn_r _ [13, 14, 15, 16, 17, 18, 19, 5, 20, 21, 29, 30, 31, 32, 33, 34, 35, 36, 37, 38, 39, 40, 41, 42, 43, 44, 45, 46, 47] (by decide +kernel) (by decide +kernel)
set_option maxRecDepth 20000 in
theorem gX11_adds_X11_refused : GoodIn wsX11_adds (wsV RX11 85 RX11 yX11_refused wsX11_refused) := goodIn_app (goodIn_of _ (by decide +kernel)) ggX11_adds_X11_refused
set_option maxRecDepth 20000 in
theorem ggX11_adds_X11_isKind : GoodIn wsX11_adds wsX11_isKind := goodIn_r _ [24, 7, 8, 5, 9] (by decide +kernel) (by decide +kernel)
set_option maxRecDepth 20000 in
theorem gX11_adds_X11_isKind : GoodIn wsX11_adds (va_wsS RX11 109 yX11_isKind wsX11_isKind) := goodIn_app (goodIn_of _ (by decide +kernel)) ggX11_adds_X11_isKind
set_option maxRecDepth 20000 in
theorem ggX11_adds_X11_in : GoodIn wsX11_adds wsX11_in := goodIn_r _ [9] (by decide +kernel) (by decide +kernel)
set_option maxRecDepth 20000 in
theorem gX11_adds_X11_in : GoodIn wsX11_adds (va_wsS RX11 62 yX11_in wsX11_in) := goodIn_app (goodIn_of _ (by decide +kernel)) ggX11_adds_X11_in
set_option maxRecDepth 20000 in
theorem ggX11_adds_X11_done : GoodIn wsX11_adds wsX11_done := goodIn_r _ [28, 21, 29, 30, 31, 32, 33, 34, 35, 36, 37, 38, 39, 40, 41, 42, 43, 44, 45, 46, 47] (by decide +kernel) (by decide +kernel)
set_option maxRecDepth 20000 in
theorem gX11_adds_X11_done : GoodIn wsX11_adds (wsV RX11 94 RX11 yX11_done wsX11_done) := goodIn_app (goodIn_of _ (by decide +kernel)) ggX11_adds_X11_done
theorem dX11_adds_0 : decode cX11_adds 0 = .ok (.aload_n 0, 1) := by decide +kernel
theorem dX11_adds_1 : decode cX11_adds 1 = .ok (.iload_n 1, 1) := by decide +kernel
theorem dX11_adds_2 : decode cX11_adds 2 = .ok (.invokevirtual 106, 3) := by decide +kernel
theorem dX11_adds_5 : decode cX11_adds 5 = .ok (.ifCond .ne 15, 3) := by decide +kernel
theorem dX11_adds_8 : decode cX11_adds 8 = .ok (.aload_n 0, 1) := by decide +kernel
theorem dX11_adds_9 : decode cX11_adds 9 = .ok (.iconst 3, 1) := by decide +kernel
theorem dX11_adds_10 : decode cX11_adds 10 = .ok (.aload_n 0, 1) := by decide +kernel
theorem dX11_adds_11 : decode cX11_adds 11 = .ok (.getfield 7, 3) := by decide +kernel
theorem dX11_adds_14 : decode cX11_adds 14 = .ok (.iconst 0, 1) := by decide +kernel
theorem dX11_adds_15 : decode cX11_adds 15 = .ok (.iaload, 1) := by decide +kernel
theorem dX11_adds_16 : decode cX11_adds 16 = .ok (.invokevirtual 85, 3) := by decide +kernel
theorem dX11_adds_19 : decode cX11_adds 19 = .ok (.ireturn, 1) := by decide +kernel
theorem dX11_adds_20 : decode cX11_adds 20 = .ok (.iload_n 2, 1) := by decide +kernel
theorem dX11_adds_21 : decode cX11_adds 21 = .ok (.invokestatic 109, 3) := by decide +kernel
theorem dX11_adds_24 : decode cX11_adds 24 = .ok (.ifCond .eq 23, 3) := by decide +kernel
theorem dX11_adds_27 : decode cX11_adds 27 = .ok (.iload_n 3, 1) := by decide +kernel
theorem dX11_adds_28 : decode cX11_adds 28 = .ok (.iconst 1, 1) := by decide +kernel
theorem dX11_adds_29 : decode cX11_adds 29 = .ok (.iconst 4, 1) := by decide +kernel
theorem dX11_adds_30 : decode cX11_adds 30 = .ok (.invokestatic 62, 3) := by decide +kernel
theorem dX11_adds_33 : decode cX11_adds 33 = .ok (.ifCond .eq 14, 3) := by decide +kernel
theorem dX11_adds_36 : decode cX11_adds 36 = .ok (.iload 4, 2) := by decide +kernel
theorem dX11_adds_38 : decode cX11_adds 38 = .ok (.iconst 1, 1) := by decide +kernel
theorem dX11_adds_39 : decode cX11_adds 39 = .ok (.bipush 31, 2) := by decide +kernel
theorem dX11_adds_41 : decode cX11_adds 41 = .ok (.invokestatic 62, 3) := by decide +kernel
theorem dX11_adds_44 : decode cX11_adds 44 = .ok (.ifCond .ne 10, 3) := by decide +kernel
theorem dX11_adds_47 : decode cX11_adds 47 = .ok (.aload_n 0, 1) := by decide +kernel
theorem dX11_adds_48 : decode cX11_adds 48 = .ok (.iconst 1, 1) := by decide +kernel
theorem dX11_adds_49 : decode cX11_adds 49 = .ok (.iconst 0, 1) := by decide +kernel
theorem dX11_adds_50 : decode cX11_adds 50 = .ok (.invokevirtual 85, 3) := by decide +kernel
theorem dX11_adds_53 : decode cX11_adds 53 = .ok (.ireturn, 1) := by decide +kernel
theorem dX11_adds_54 : decode cX11_adds 54 = .ok (.aload_n 0, 1) := by decide +kernel
theorem dX11_adds_55 : decode cX11_adds 55 = .ok (.getfield 7, 3) := by decide +kernel
theorem dX11_adds_58 : decode cX11_adds 58 = .ok (.bipush 42, 2) := by decide +kernel
theorem dX11_adds_60 : decode cX11_adds 60 = .ok (.iload_n 1, 1) := by decide +kernel
theorem dX11_adds_61 : decode cX11_adds 61 = .ok (.iadd, 1) := by decide +kernel
theorem dX11_adds_62 : decode cX11_adds 62 = .ok (.iaload, 1) := by decide +kernel
theorem dX11_adds_63 : decode cX11_adds 63 = .ok (.ifCond .eq 21, 3) := by decide +kernel
theorem dX11_adds_66 : decode cX11_adds 66 = .ok (.aload_n 0, 1) := by decide +kernel
theorem dX11_adds_67 : decode cX11_adds 67 = .ok (.bipush 6, 2) := by decide +kernel
theorem dX11_adds_69 : decode cX11_adds 69 = .ok (.aload_n 0, 1) := by decide +kernel
theorem dX11_adds_70 : decode cX11_adds 70 = .ok (.getfield 7, 3) := by decide +kernel
theorem dX11_adds_73 : decode cX11_adds 73 = .ok (.bipush 42, 2) := by decide +kernel
theorem dX11_adds_75 : decode cX11_adds 75 = .ok (.iload_n 1, 1) := by decide +kernel
theorem dX11_adds_76 : decode cX11_adds 76 = .ok (.iadd, 1) := by decide +kernel
theorem dX11_adds_77 : decode cX11_adds 77 = .ok (.iaload, 1) := by decide +kernel
theorem dX11_adds_78 : decode cX11_adds 78 = .ok (.iconst 1, 1) := by decide +kernel
theorem dX11_adds_79 : decode cX11_adds 79 = .ok (.isub, 1) := by decide +kernel
theorem dX11_adds_80 : decode cX11_adds 80 = .ok (.invokevirtual 85, 3) := by decide +kernel
theorem dX11_adds_83 : decode cX11_adds 83 = .ok (.ireturn, 1) := by decide +kernel
theorem dX11_adds_84 : decode cX11_adds 84 = .ok (.aload_n 0, 1) := by decide +kernel
theorem dX11_adds_85 : decode cX11_adds 85 = .ok (.getfield 7, 3) := by decide +kernel
theorem dX11_adds_88 : decode cX11_adds 88 = .ok (.bipush 18, 2) := by decide +kernel
theorem dX11_adds_90 : decode cX11_adds 90 = .ok (.iload_n 1, 1) := by decide +kernel
theorem dX11_adds_91 : decode cX11_adds 91 = .ok (.iadd, 1) := by decide +kernel
theorem dX11_adds_92 : decode cX11_adds 92 = .ok (.iaload, 1) := by decide +kernel
theorem dX11_adds_93 : decode cX11_adds 93 = .ok (.istore 6, 2) := by decide +kernel
theorem dX11_adds_95 : decode cX11_adds 95 = .ok (.iload 6, 2) := by decide +kernel
theorem dX11_adds_97 : decode cX11_adds 97 = .ok (.bipush 8, 2) := by decide +kernel
theorem dX11_adds_99 : decode cX11_adds 99 = .ok (.if_icmp .ne 11, 3) := by decide +kernel
theorem dX11_adds_102 : decode cX11_adds 102 = .ok (.aload_n 0, 1) := by decide +kernel
theorem dX11_adds_103 : decode cX11_adds 103 = .ok (.iconst 2, 1) := by decide +kernel
theorem dX11_adds_104 : decode cX11_adds 104 = .ok (.bipush 8, 2) := by decide +kernel
theorem dX11_adds_106 : decode cX11_adds 106 = .ok (.invokevirtual 85, 3) := by decide +kernel
theorem dX11_adds_109 : decode cX11_adds 109 = .ok (.ireturn, 1) := by decide +kernel
theorem dX11_adds_110 : decode cX11_adds 110 = .ok (.bipush 8, 2) := by decide +kernel
theorem dX11_adds_112 : decode cX11_adds 112 = .ok (.iload_n 1, 1) := by decide +kernel
theorem dX11_adds_113 : decode cX11_adds 113 = .ok (.imul, 1) := by decide +kernel
theorem dX11_adds_114 : decode cX11_adds 114 = .ok (.iload 6, 2) := by decide +kernel
theorem dX11_adds_116 : decode cX11_adds 116 = .ok (.iadd, 1) := by decide +kernel
theorem dX11_adds_117 : decode cX11_adds 117 = .ok (.istore 7, 2) := by decide +kernel
theorem dX11_adds_119 : decode cX11_adds 119 = .ok (.aload_n 0, 1) := by decide +kernel
theorem dX11_adds_120 : decode cX11_adds 120 = .ok (.getfield 7, 3) := by decide +kernel
theorem dX11_adds_123 : decode cX11_adds 123 = .ok (.bipush 68, 2) := by decide +kernel
theorem dX11_adds_125 : decode cX11_adds 125 = .ok (.iload 7, 2) := by decide +kernel
theorem dX11_adds_127 : decode cX11_adds 127 = .ok (.iadd, 1) := by decide +kernel
theorem dX11_adds_128 : decode cX11_adds 128 = .ok (.iload_n 2, 1) := by decide +kernel
theorem dX11_adds_129 : decode cX11_adds 129 = .ok (.iastore, 1) := by decide +kernel
theorem dX11_adds_130 : decode cX11_adds 130 = .ok (.aload_n 0, 1) := by decide +kernel
theorem dX11_adds_131 : decode cX11_adds 131 = .ok (.getfield 7, 3) := by decide +kernel
theorem dX11_adds_134 : decode cX11_adds 134 = .ok (.sipush 132, 3) := by decide +kernel
theorem dX11_adds_137 : decode cX11_adds 137 = .ok (.iload 7, 2) := by decide +kernel
theorem dX11_adds_139 : decode cX11_adds 139 = .ok (.iadd, 1) := by decide +kernel
theorem dX11_adds_140 : decode cX11_adds 140 = .ok (.iload_n 3, 1) := by decide +kernel
theorem dX11_adds_141 : decode cX11_adds 141 = .ok (.iastore, 1) := by decide +kernel
theorem dX11_adds_142 : decode cX11_adds 142 = .ok (.aload_n 0, 1) := by decide +kernel
theorem dX11_adds_143 : decode cX11_adds 143 = .ok (.getfield 7, 3) := by decide +kernel
theorem dX11_adds_146 : decode cX11_adds 146 = .ok (.sipush 196, 3) := by decide +kernel
theorem dX11_adds_149 : decode cX11_adds 149 = .ok (.iload 7, 2) := by decide +kernel
theorem dX11_adds_151 : decode cX11_adds 151 = .ok (.iadd, 1) := by decide +kernel
theorem dX11_adds_152 : decode cX11_adds 152 = .ok (.iload 4, 2) := by decide +kernel
theorem dX11_adds_154 : decode cX11_adds 154 = .ok (.iastore, 1) := by decide +kernel
theorem dX11_adds_155 : decode cX11_adds 155 = .ok (.aload_n 0, 1) := by decide +kernel
theorem dX11_adds_156 : decode cX11_adds 156 = .ok (.getfield 7, 3) := by decide +kernel
theorem dX11_adds_159 : decode cX11_adds 159 = .ok (.sipush 260, 3) := by decide +kernel
theorem dX11_adds_162 : decode cX11_adds 162 = .ok (.iload 7, 2) := by decide +kernel
theorem dX11_adds_164 : decode cX11_adds 164 = .ok (.iadd, 1) := by decide +kernel
theorem dX11_adds_165 : decode cX11_adds 165 = .ok (.iload 5, 2) := by decide +kernel
theorem dX11_adds_167 : decode cX11_adds 167 = .ok (.iastore, 1) := by decide +kernel
theorem dX11_adds_168 : decode cX11_adds 168 = .ok (.aload_n 0, 1) := by decide +kernel
theorem dX11_adds_169 : decode cX11_adds 169 = .ok (.getfield 7, 3) := by decide +kernel
theorem dX11_adds_172 : decode cX11_adds 172 = .ok (.bipush 18, 2) := by decide +kernel
theorem dX11_adds_174 : decode cX11_adds 174 = .ok (.iload_n 1, 1) := by decide +kernel
theorem dX11_adds_175 : decode cX11_adds 175 = .ok (.iadd, 1) := by decide +kernel
theorem dX11_adds_176 : decode cX11_adds 176 = .ok (.dup2, 1) := by decide +kernel
theorem dX11_adds_177 : decode cX11_adds 177 = .ok (.iaload, 1) := by decide +kernel
theorem dX11_adds_178 : decode cX11_adds 178 = .ok (.iconst 1, 1) := by decide +kernel
theorem dX11_adds_179 : decode cX11_adds 179 = .ok (.iadd, 1) := by decide +kernel
theorem dX11_adds_180 : decode cX11_adds 180 = .ok (.iastore, 1) := by decide +kernel
theorem dX11_adds_181 : decode cX11_adds 181 = .ok (.aload_n 0, 1) := by decide +kernel
theorem dX11_adds_182 : decode cX11_adds 182 = .ok (.iload 6, 2) := by decide +kernel
theorem dX11_adds_184 : decode cX11_adds 184 = .ok (.invokevirtual 94, 3) := by decide +kernel
theorem dX11_adds_187 : decode cX11_adds 187 = .ok (.ireturn, 1) := by decide +kernel
set_option maxRecDepth 20000 in
theorem ggX11_step_X11_looksBack : GoodIn wsX11_step wsX11_looksBack := goodIn_ca (goodIn_r _ [5, 6, 7, 8, 9, 4, 10, 47, 48, 49, 50, 51, 52, 53, 54, 55, 56, 57, 58, 59, 60, 61, 62, 63, 64, 65] (by decide +kernel) (by decide +kernel)) (goodIn_sub (fun _ h => List.mem_cons_of_mem _ (List.mem_append_right _ h)) (by decide +kernel))
set_option maxRecDepth 20000 in
theorem gX11_step_X11_looksBack : GoodIn wsX11_step (wsV RX11 97 RX11 yX11_looksBack wsX11_looksBack) := goodIn_app (goodIn_of _ (by decide +kernel)) ggX11_step_X11_looksBack
set_option maxRecDepth 20000 in
theorem ggX11_step_X11_adds : GoodIn wsX11_step wsX11_adds := goodIn_ca (goodIn_r _ [14, 6, 15, 16, 17, 4, 18, 19, 20, 21, 22, 23, 24, 25, 26, 27, 28, 29, 30, 31, 32, 33, 34, 35, 36, 37, 38, 39, 40, 47, 48, 49, 50, 51, 52, 53, 54, 55, 56, 57, 58, 59, 60, 61, 62, 63, 64, 65] (by decide +kernel) (by decide +kernel)) (goodIn_sub (fun _ h => List.mem_cons_of_mem _ (List.mem_append_right _ h)) (by decide +kernel))
set_option maxRecDepth 20000 in
theorem gX11_step_X11_adds : GoodIn wsX11_step (wsV RX11 112 RX11 yX11_adds wsX11_adds) := goodIn_app (goodIn_of _ (by decide +kernel)) ggX11_step_X11_adds
set_option maxRecDepth 20000 in
theorem ggX11_step_X11_kept : GoodIn wsX11_step wsX11_kept := goodIn_ca (goodIn_r _ [44, 33, 7, 6, 45, 46, 8, 9, 4, 10, 47, 48, 49, 50, 51, 52, 53, 54, 55, 56, 57, 58, 59, 60, 61, 62, 63, 64, 65] (by decide +kernel) (by decide +kernel)) (goodIn_sub (fun _ h => List.mem_cons_of_mem _ (List.mem_append_right _ h)) (by decide +kernel))
set_option maxRecDepth 20000 in
theorem gX11_step_X11_kept : GoodIn wsX11_step (wsV RX11 103 RX11 yX11_kept wsX11_kept) := goodIn_app (goodIn_of _ (by decide +kernel)) ggX11_step_X11_kept
theorem dX11_step_0 : decode cX11_step 0 = .ok (.aload_n 0, 1) := by decide +kernel
theorem dX11_step_1 : decode cX11_step 1 = .ok (.invokevirtual 97, 3) := by decide +kernel
theorem dX11_step_4 : decode cX11_step 4 = .ok (.aload_n 0, 1) := by decide +kernel
theorem dX11_step_5 : decode cX11_step 5 = .ok (.aload_n 0, 1) := by decide +kernel
theorem dX11_step_6 : decode cX11_step 6 = .ok (.iload_n 1, 1) := by decide +kernel
theorem dX11_step_7 : decode cX11_step 7 = .ok (.iload_n 2, 1) := by decide +kernel
theorem dX11_step_8 : decode cX11_step 8 = .ok (.iload_n 3, 1) := by decide +kernel
theorem dX11_step_9 : decode cX11_step 9 = .ok (.iload 4, 2) := by decide +kernel
theorem dX11_step_11 : decode cX11_step 11 = .ok (.iload 5, 2) := by decide +kernel
theorem dX11_step_13 : decode cX11_step 13 = .ok (.ifCond .eq 7, 3) := by decide +kernel
theorem dX11_step_16 : decode cX11_step 16 = .ok (.iconst 1, 1) := by decide +kernel
theorem dX11_step_17 : decode cX11_step 17 = .ok (.goto 4, 3) := by decide +kernel
theorem dX11_step_20 : decode cX11_step 20 = .ok (.iconst 0, 1) := by decide +kernel
theorem dX11_step_21 : decode cX11_step 21 = .ok (.invokevirtual 112, 3) := by decide +kernel
theorem dX11_step_24 : decode cX11_step 24 = .ok (.invokevirtual 103, 3) := by decide +kernel
theorem dX11_step_27 : decode cX11_step 27 = .ok (.ireturn, 1) := by decide +kernel
set_option maxRecDepth 20000 in
theorem ggX11_foldsBy_X11_isLeaflet : GoodIn wsX11_foldsBy wsX11_isLeaflet := goodIn_ca (goodIn_r _ [6, 1, 7, 8, 5, 9, 34, 35, 36, 37, 38, 39, 40, 41, 42, 43, 44, 45, 46, 47, 48, 49, 50, 51, 52] (by decide +kernel) (by decide +kernel)) (goodIn_sub (fun _ h => List.mem_cons_of_mem _ (List.mem_append_right _ h)) (by decide +kernel))
set_option maxRecDepth 20000 in
theorem gX11_foldsBy_X11_isLeaflet : GoodIn wsX11_foldsBy (wsV RX11 106 RX11 yX11_isLeaflet wsX11_isLeaflet) := goodIn_app (goodIn_of _ (by decide +kernel)) ggX11_foldsBy_X11_isLeaflet
set_option maxRecDepth 20000 in
theorem ggX11_foldsBy_X11_refused : GoodIn wsX11_foldsBy wsX11_refused := goodIn_r _ [13, 14, 15, 16, 17, 18, 19, 5, 20, 21, 34, 35, 36, 37, 38, 39, 40, 41, 42, 43, 44, 45, 46, 47, 48, 49, 50, 51, 52] (by decide +kernel) (by decide +kernel)
set_option maxRecDepth 20000 in
theorem gX11_foldsBy_X11_refused : GoodIn wsX11_foldsBy (wsV RX11 85 RX11 yX11_refused wsX11_refused) := goodIn_app (goodIn_of _ (by decide +kernel)) ggX11_foldsBy_X11_refused
set_option maxRecDepth 20000 in
theorem ggX11_foldsBy_X11_in : GoodIn wsX11_foldsBy wsX11_in := goodIn_r _ [9] (by decide +kernel) (by decide +kernel)
set_option maxRecDepth 20000 in
theorem gX11_foldsBy_X11_in : GoodIn wsX11_foldsBy (va_wsS RX11 62 yX11_in wsX11_in) := goodIn_app (goodIn_of _ (by decide +kernel)) ggX11_foldsBy_X11_in
set_option maxRecDepth 20000 in
theorem ggX11_foldsBy_X11_open : GoodIn wsX11_foldsBy wsX11_open := goodIn_ca (goodIn_r _ [25, 1, 26, 27, 28, 5, 29, 34, 35, 36, 37, 38, 39, 40, 41, 42, 43, 44, 45, 46, 47, 48, 49, 50, 51, 52] (by decide +kernel) (by decide +kernel)) (goodIn_sub (fun _ h => List.mem_cons_of_mem _ (List.mem_append_right _ h)) (by decide +kernel))
set_option maxRecDepth 20000 in
theorem gX11_foldsBy_X11_open : GoodIn wsX11_foldsBy (wsV RX11 115 RX11 yX11_open wsX11_open) := goodIn_app (goodIn_of _ (by decide +kernel)) ggX11_foldsBy_X11_open
set_option maxRecDepth 20000 in
theorem ggX11_foldsBy_X11_done : GoodIn wsX11_foldsBy wsX11_done := goodIn_r _ [33, 21, 34, 35, 36, 37, 38, 39, 40, 41, 42, 43, 44, 45, 46, 47, 48, 49, 50, 51, 52] (by decide +kernel) (by decide +kernel)
set_option maxRecDepth 20000 in
theorem gX11_foldsBy_X11_done : GoodIn wsX11_foldsBy (wsV RX11 94 RX11 yX11_done wsX11_done) := goodIn_app (goodIn_of _ (by decide +kernel)) ggX11_foldsBy_X11_done
theorem dX11_foldsBy_0 : decode cX11_foldsBy 0 = .ok (.aload_n 0, 1) := by decide +kernel
theorem dX11_foldsBy_1 : decode cX11_foldsBy 1 = .ok (.iload_n 1, 1) := by decide +kernel
theorem dX11_foldsBy_2 : decode cX11_foldsBy 2 = .ok (.invokevirtual 106, 3) := by decide +kernel
theorem dX11_foldsBy_5 : decode cX11_foldsBy 5 = .ok (.ifCond .ne 15, 3) := by decide +kernel
theorem dX11_foldsBy_8 : decode cX11_foldsBy 8 = .ok (.aload_n 0, 1) := by decide +kernel
theorem dX11_foldsBy_9 : decode cX11_foldsBy 9 = .ok (.iconst 3, 1) := by decide +kernel
theorem dX11_foldsBy_10 : decode cX11_foldsBy 10 = .ok (.aload_n 0, 1) := by decide +kernel
theorem dX11_foldsBy_11 : decode cX11_foldsBy 11 = .ok (.getfield 7, 3) := by decide +kernel
theorem dX11_foldsBy_14 : decode cX11_foldsBy 14 = .ok (.iconst 0, 1) := by decide +kernel
theorem dX11_foldsBy_15 : decode cX11_foldsBy 15 = .ok (.iaload, 1) := by decide +kernel
theorem dX11_foldsBy_16 : decode cX11_foldsBy 16 = .ok (.invokevirtual 85, 3) := by decide +kernel
theorem dX11_foldsBy_19 : decode cX11_foldsBy 19 = .ok (.ireturn, 1) := by decide +kernel
theorem dX11_foldsBy_20 : decode cX11_foldsBy 20 = .ok (.aload_n 0, 1) := by decide +kernel
theorem dX11_foldsBy_21 : decode cX11_foldsBy 21 = .ok (.getfield 7, 3) := by decide +kernel
theorem dX11_foldsBy_24 : decode cX11_foldsBy 24 = .ok (.bipush 42, 2) := by decide +kernel
theorem dX11_foldsBy_26 : decode cX11_foldsBy 26 = .ok (.iload_n 1, 1) := by decide +kernel
theorem dX11_foldsBy_27 : decode cX11_foldsBy 27 = .ok (.iadd, 1) := by decide +kernel
theorem dX11_foldsBy_28 : decode cX11_foldsBy 28 = .ok (.iaload, 1) := by decide +kernel
theorem dX11_foldsBy_29 : decode cX11_foldsBy 29 = .ok (.ifCond .eq 21, 3) := by decide +kernel
theorem dX11_foldsBy_32 : decode cX11_foldsBy 32 = .ok (.aload_n 0, 1) := by decide +kernel
theorem dX11_foldsBy_33 : decode cX11_foldsBy 33 = .ok (.bipush 6, 2) := by decide +kernel
theorem dX11_foldsBy_35 : decode cX11_foldsBy 35 = .ok (.aload_n 0, 1) := by decide +kernel
theorem dX11_foldsBy_36 : decode cX11_foldsBy 36 = .ok (.getfield 7, 3) := by decide +kernel
theorem dX11_foldsBy_39 : decode cX11_foldsBy 39 = .ok (.bipush 42, 2) := by decide +kernel
theorem dX11_foldsBy_41 : decode cX11_foldsBy 41 = .ok (.iload_n 1, 1) := by decide +kernel
theorem dX11_foldsBy_42 : decode cX11_foldsBy 42 = .ok (.iadd, 1) := by decide +kernel
theorem dX11_foldsBy_43 : decode cX11_foldsBy 43 = .ok (.iaload, 1) := by decide +kernel
theorem dX11_foldsBy_44 : decode cX11_foldsBy 44 = .ok (.iconst 1, 1) := by decide +kernel
theorem dX11_foldsBy_45 : decode cX11_foldsBy 45 = .ok (.isub, 1) := by decide +kernel
theorem dX11_foldsBy_46 : decode cX11_foldsBy 46 = .ok (.invokevirtual 85, 3) := by decide +kernel
theorem dX11_foldsBy_49 : decode cX11_foldsBy 49 = .ok (.ireturn, 1) := by decide +kernel
theorem dX11_foldsBy_50 : decode cX11_foldsBy 50 = .ok (.aload_n 0, 1) := by decide +kernel
theorem dX11_foldsBy_51 : decode cX11_foldsBy 51 = .ok (.getfield 7, 3) := by decide +kernel
theorem dX11_foldsBy_54 : decode cX11_foldsBy 54 = .ok (.bipush 26, 2) := by decide +kernel
theorem dX11_foldsBy_56 : decode cX11_foldsBy 56 = .ok (.iload_n 1, 1) := by decide +kernel
theorem dX11_foldsBy_57 : decode cX11_foldsBy 57 = .ok (.iadd, 1) := by decide +kernel
theorem dX11_foldsBy_58 : decode cX11_foldsBy 58 = .ok (.iaload, 1) := by decide +kernel
theorem dX11_foldsBy_59 : decode cX11_foldsBy 59 = .ok (.istore_n 3, 1) := by decide +kernel
theorem dX11_foldsBy_60 : decode cX11_foldsBy 60 = .ok (.iload_n 3, 1) := by decide +kernel
theorem dX11_foldsBy_61 : decode cX11_foldsBy 61 = .ok (.iload_n 2, 1) := by decide +kernel
theorem dX11_foldsBy_62 : decode cX11_foldsBy 62 = .ok (.iadd, 1) := by decide +kernel
theorem dX11_foldsBy_63 : decode cX11_foldsBy 63 = .ok (.iconst 0, 1) := by decide +kernel
theorem dX11_foldsBy_64 : decode cX11_foldsBy 64 = .ok (.iconst 3, 1) := by decide +kernel
theorem dX11_foldsBy_65 : decode cX11_foldsBy 65 = .ok (.invokestatic 62, 3) := by decide +kernel
theorem dX11_foldsBy_68 : decode cX11_foldsBy 68 = .ok (.ifCond .ne 11, 3) := by decide +kernel
theorem dX11_foldsBy_71 : decode cX11_foldsBy 71 = .ok (.aload_n 0, 1) := by decide +kernel
theorem dX11_foldsBy_72 : decode cX11_foldsBy 72 = .ok (.bipush 11, 2) := by decide +kernel
theorem dX11_foldsBy_74 : decode cX11_foldsBy 74 = .ok (.iload_n 3, 1) := by decide +kernel
theorem dX11_foldsBy_75 : decode cX11_foldsBy 75 = .ok (.invokevirtual 85, 3) := by decide +kernel
theorem dX11_foldsBy_78 : decode cX11_foldsBy 78 = .ok (.ireturn, 1) := by decide +kernel
theorem dX11_foldsBy_79 : decode cX11_foldsBy 79 = .ok (.aload_n 0, 1) := by decide +kernel
theorem dX11_foldsBy_80 : decode cX11_foldsBy 80 = .ok (.getfield 7, 3) := by decide +kernel
theorem dX11_foldsBy_83 : decode cX11_foldsBy 83 = .ok (.bipush 26, 2) := by decide +kernel
theorem dX11_foldsBy_85 : decode cX11_foldsBy 85 = .ok (.iload_n 1, 1) := by decide +kernel
theorem dX11_foldsBy_86 : decode cX11_foldsBy 86 = .ok (.iadd, 1) := by decide +kernel
theorem dX11_foldsBy_87 : decode cX11_foldsBy 87 = .ok (.dup2, 1) := by decide +kernel
theorem dX11_foldsBy_88 : decode cX11_foldsBy 88 = .ok (.iaload, 1) := by decide +kernel
theorem dX11_foldsBy_89 : decode cX11_foldsBy 89 = .ok (.iload_n 2, 1) := by decide +kernel
theorem dX11_foldsBy_90 : decode cX11_foldsBy 90 = .ok (.iadd, 1) := by decide +kernel
theorem dX11_foldsBy_91 : decode cX11_foldsBy 91 = .ok (.iastore, 1) := by decide +kernel
theorem dX11_foldsBy_92 : decode cX11_foldsBy 92 = .ok (.aload_n 0, 1) := by decide +kernel
theorem dX11_foldsBy_93 : decode cX11_foldsBy 93 = .ok (.aload_n 0, 1) := by decide +kernel
theorem dX11_foldsBy_94 : decode cX11_foldsBy 94 = .ok (.iload_n 1, 1) := by decide +kernel
theorem dX11_foldsBy_95 : decode cX11_foldsBy 95 = .ok (.invokevirtual 115, 3) := by decide +kernel
theorem dX11_foldsBy_98 : decode cX11_foldsBy 98 = .ok (.invokevirtual 94, 3) := by decide +kernel
theorem dX11_foldsBy_101 : decode cX11_foldsBy 101 = .ok (.ireturn, 1) := by decide +kernel
set_option maxRecDepth 20000 in
theorem ggX11_fold_X11_looksBack : GoodIn wsX11_fold wsX11_looksBack := goodIn_ca (goodIn_r _ [5, 6, 7, 8, 9, 4, 10, 52, 53, 54, 55, 56, 57, 58, 59, 60, 61, 62, 63, 64, 65, 66, 67, 68, 69, 70] (by decide +kernel) (by decide +kernel)) (goodIn_sub (fun _ h => List.mem_cons_of_mem _ (List.mem_append_right _ h)) (by decide +kernel))
set_option maxRecDepth 20000 in
theorem gX11_fold_X11_looksBack : GoodIn wsX11_fold (wsV RX11 97 RX11 yX11_looksBack wsX11_looksBack) := goodIn_app (goodIn_of _ (by decide +kernel)) ggX11_fold_X11_looksBack
set_option maxRecDepth 20000 in
theorem ggX11_fold_X11_foldsBy : GoodIn wsX11_fold wsX11_foldsBy := goodIn_ca (goodIn_r _ [14, 6, 15, 16, 17, 4, 18, 19, 20, 21, 22, 23, 24, 25, 26, 27, 28, 29, 30, 31, 32, 33, 34, 35, 36, 37, 38, 39, 40, 41, 42, 43, 44, 45, 52, 53, 54, 55, 56, 57, 58, 59, 60, 61, 62, 63, 64, 65, 66, 67, 68, 69, 70] (by decide +kernel) (by decide +kernel)) (goodIn_sub (fun _ h => List.mem_cons_of_mem _ (List.mem_append_right _ h)) (by decide +kernel))
set_option maxRecDepth 20000 in
theorem gX11_fold_X11_foldsBy : GoodIn wsX11_fold (wsV RX11 118 RX11 yX11_foldsBy wsX11_foldsBy) := goodIn_app (goodIn_of _ (by decide +kernel)) ggX11_fold_X11_foldsBy
set_option maxRecDepth 20000 in
theorem ggX11_fold_X11_kept : GoodIn wsX11_fold wsX11_kept := goodIn_ca (goodIn_r _ [49, 33, 7, 6, 50, 51, 8, 9, 4, 10, 52, 53, 54, 55, 56, 57, 58, 59, 60, 61, 62, 63, 64, 65, 66, 67, 68, 69, 70] (by decide +kernel) (by decide +kernel)) (goodIn_sub (fun _ h => List.mem_cons_of_mem _ (List.mem_append_right _ h)) (by decide +kernel))
set_option maxRecDepth 20000 in
theorem gX11_fold_X11_kept : GoodIn wsX11_fold (wsV RX11 103 RX11 yX11_kept wsX11_kept) := goodIn_app (goodIn_of _ (by decide +kernel)) ggX11_fold_X11_kept
theorem dX11_fold_0 : decode cX11_fold 0 = .ok (.aload_n 0, 1) := by decide +kernel
theorem dX11_fold_1 : decode cX11_fold 1 = .ok (.invokevirtual 97, 3) := by decide +kernel
theorem dX11_fold_4 : decode cX11_fold 4 = .ok (.aload_n 0, 1) := by decide +kernel
theorem dX11_fold_5 : decode cX11_fold 5 = .ok (.aload_n 0, 1) := by decide +kernel
theorem dX11_fold_6 : decode cX11_fold 6 = .ok (.iload_n 1, 1) := by decide +kernel
theorem dX11_fold_7 : decode cX11_fold 7 = .ok (.iconst 1, 1) := by decide +kernel
theorem dX11_fold_8 : decode cX11_fold 8 = .ok (.invokevirtual 118, 3) := by decide +kernel
theorem dX11_fold_11 : decode cX11_fold 11 = .ok (.invokevirtual 103, 3) := by decide +kernel
theorem dX11_fold_14 : decode cX11_fold 14 = .ok (.ireturn, 1) := by decide +kernel
set_option maxRecDepth 20000 in
theorem ggX11_unfold_X11_looksBack : GoodIn wsX11_unfold wsX11_looksBack := goodIn_ca (goodIn_r _ [5, 6, 7, 8, 9, 4, 10, 52, 53, 54, 55, 56, 57, 58, 59, 60, 61, 62, 63, 64, 65, 66, 67, 68, 69, 70] (by decide +kernel) (by decide +kernel)) (goodIn_sub (fun _ h => List.mem_cons_of_mem _ (List.mem_append_right _ h)) (by decide +kernel))
set_option maxRecDepth 20000 in
theorem gX11_unfold_X11_looksBack : GoodIn wsX11_unfold (wsV RX11 97 RX11 yX11_looksBack wsX11_looksBack) := goodIn_app (goodIn_of _ (by decide +kernel)) ggX11_unfold_X11_looksBack
set_option maxRecDepth 20000 in
theorem ggX11_unfold_X11_foldsBy : GoodIn wsX11_unfold wsX11_foldsBy := goodIn_ca (goodIn_r _ [14, 6, 15, 16, 17, 4, 18, 19, 20, 21, 22, 23, 24, 25, 26, 27, 28, 29, 30, 31, 32, 33, 34, 35, 36, 37, 38, 39, 40, 41, 42, 43, 44, 45, 52, 53, 54, 55, 56, 57, 58, 59, 60, 61, 62, 63, 64, 65, 66, 67, 68, 69, 70] (by decide +kernel) (by decide +kernel)) (goodIn_sub (fun _ h => List.mem_cons_of_mem _ (List.mem_append_right _ h)) (by decide +kernel))
set_option maxRecDepth 20000 in
theorem gX11_unfold_X11_foldsBy : GoodIn wsX11_unfold (wsV RX11 118 RX11 yX11_foldsBy wsX11_foldsBy) := goodIn_app (goodIn_of _ (by decide +kernel)) ggX11_unfold_X11_foldsBy
set_option maxRecDepth 20000 in
theorem ggX11_unfold_X11_kept : GoodIn wsX11_unfold wsX11_kept := goodIn_ca (goodIn_r _ [49, 33, 7, 6, 50, 51, 8, 9, 4, 10, 52, 53, 54, 55, 56, 57, 58, 59, 60, 61, 62, 63, 64, 65, 66, 67, 68, 69, 70] (by decide +kernel) (by decide +kernel)) (goodIn_sub (fun _ h => List.mem_cons_of_mem _ (List.mem_append_right _ h)) (by decide +kernel))
set_option maxRecDepth 20000 in
theorem gX11_unfold_X11_kept : GoodIn wsX11_unfold (wsV RX11 103 RX11 yX11_kept wsX11_kept) := goodIn_app (goodIn_of _ (by decide +kernel)) ggX11_unfold_X11_kept
theorem dX11_unfold_0 : decode cX11_unfold 0 = .ok (.aload_n 0, 1) := by decide +kernel
theorem dX11_unfold_1 : decode cX11_unfold 1 = .ok (.invokevirtual 97, 3) := by decide +kernel
theorem dX11_unfold_4 : decode cX11_unfold 4 = .ok (.aload_n 0, 1) := by decide +kernel
theorem dX11_unfold_5 : decode cX11_unfold 5 = .ok (.aload_n 0, 1) := by decide +kernel
theorem dX11_unfold_6 : decode cX11_unfold 6 = .ok (.iload_n 1, 1) := by decide +kernel
theorem dX11_unfold_7 : decode cX11_unfold 7 = .ok (.iconst (-1), 1) := by decide +kernel
theorem dX11_unfold_8 : decode cX11_unfold 8 = .ok (.invokevirtual 118, 3) := by decide +kernel
theorem dX11_unfold_11 : decode cX11_unfold 11 = .ok (.invokevirtual 103, 3) := by decide +kernel
theorem dX11_unfold_14 : decode cX11_unfold 14 = .ok (.ireturn, 1) := by decide +kernel
set_option maxRecDepth 20000 in
theorem ggX11_comes_X11_in : GoodIn wsX11_comes wsX11_in := goodIn_r _ [5] (by decide +kernel) (by decide +kernel)
set_option maxRecDepth 20000 in
theorem gX11_comes_X11_in : GoodIn wsX11_comes (va_wsS RX11 62 yX11_in wsX11_in) := goodIn_app (goodIn_of _ (by decide +kernel)) ggX11_comes_X11_in
set_option maxRecDepth 20000 in
theorem ggX11_comes_X11_refused : GoodIn wsX11_comes wsX11_refused := goodIn_r _ [9, 10, 11, 12, 13, 14, 15, 4, 16, 17, 22, 23, 24, 25, 26, 27, 28, 29, 30, 31, 32, 33, 34, 35, 36, 37, 38, 39, 40] (by decide +kernel) (by decide +kernel)
set_option maxRecDepth 20000 in
theorem gX11_comes_X11_refused : GoodIn wsX11_comes (wsV RX11 85 RX11 yX11_refused wsX11_refused) := goodIn_app (goodIn_of _ (by decide +kernel)) ggX11_comes_X11_refused
set_option maxRecDepth 20000 in
theorem ggX11_comes_X11_done : GoodIn wsX11_comes wsX11_done := goodIn_r _ [21, 17, 22, 23, 24, 25, 26, 27, 28, 29, 30, 31, 32, 33, 34, 35, 36, 37, 38, 39, 40] (by decide +kernel) (by decide +kernel)
set_option maxRecDepth 20000 in
theorem gX11_comes_X11_done : GoodIn wsX11_comes (wsV RX11 94 RX11 yX11_done wsX11_done) := goodIn_app (goodIn_of _ (by decide +kernel)) ggX11_comes_X11_done
theorem dX11_comes_0 : decode cX11_comes 0 = .ok (.iload_n 1, 1) := by decide +kernel
theorem dX11_comes_1 : decode cX11_comes 1 = .ok (.iconst 0, 1) := by decide +kernel
theorem dX11_comes_2 : decode cX11_comes 2 = .ok (.iconst 5, 1) := by decide +kernel
theorem dX11_comes_3 : decode cX11_comes 3 = .ok (.invokestatic 62, 3) := by decide +kernel
theorem dX11_comes_6 : decode cX11_comes 6 = .ok (.ifCond .eq 13, 3) := by decide +kernel
theorem dX11_comes_9 : decode cX11_comes 9 = .ok (.iload_n 2, 1) := by decide +kernel
theorem dX11_comes_10 : decode cX11_comes 10 = .ok (.iconst 0, 1) := by decide +kernel
theorem dX11_comes_11 : decode cX11_comes 11 = .ok (.bipush 31, 2) := by decide +kernel
theorem dX11_comes_13 : decode cX11_comes 13 = .ok (.invokestatic 62, 3) := by decide +kernel
theorem dX11_comes_16 : decode cX11_comes 16 = .ok (.ifCond .ne 10, 3) := by decide +kernel
theorem dX11_comes_19 : decode cX11_comes 19 = .ok (.aload_n 0, 1) := by decide +kernel
theorem dX11_comes_20 : decode cX11_comes 20 = .ok (.iconst 1, 1) := by decide +kernel
theorem dX11_comes_21 : decode cX11_comes 21 = .ok (.iconst 0, 1) := by decide +kernel
theorem dX11_comes_22 : decode cX11_comes 22 = .ok (.invokevirtual 85, 3) := by decide +kernel
theorem dX11_comes_25 : decode cX11_comes 25 = .ok (.ireturn, 1) := by decide +kernel
theorem dX11_comes_26 : decode cX11_comes 26 = .ok (.aload_n 0, 1) := by decide +kernel
theorem dX11_comes_27 : decode cX11_comes 27 = .ok (.getfield 7, 3) := by decide +kernel
theorem dX11_comes_30 : decode cX11_comes 30 = .ok (.iconst 1, 1) := by decide +kernel
theorem dX11_comes_31 : decode cX11_comes 31 = .ok (.iaload, 1) := by decide +kernel
theorem dX11_comes_32 : decode cX11_comes 32 = .ok (.istore_n 3, 1) := by decide +kernel
theorem dX11_comes_33 : decode cX11_comes 33 = .ok (.iload_n 3, 1) := by decide +kernel
theorem dX11_comes_34 : decode cX11_comes 34 = .ok (.iconst 5, 1) := by decide +kernel
theorem dX11_comes_35 : decode cX11_comes 35 = .ok (.if_icmp .ne 10, 3) := by decide +kernel
theorem dX11_comes_38 : decode cX11_comes 38 = .ok (.aload_n 0, 1) := by decide +kernel
theorem dX11_comes_39 : decode cX11_comes 39 = .ok (.iconst 2, 1) := by decide +kernel
theorem dX11_comes_40 : decode cX11_comes 40 = .ok (.iconst 5, 1) := by decide +kernel
theorem dX11_comes_41 : decode cX11_comes 41 = .ok (.invokevirtual 85, 3) := by decide +kernel
theorem dX11_comes_44 : decode cX11_comes 44 = .ok (.ireturn, 1) := by decide +kernel
theorem dX11_comes_45 : decode cX11_comes 45 = .ok (.aload_n 0, 1) := by decide +kernel
theorem dX11_comes_46 : decode cX11_comes 46 = .ok (.getfield 7, 3) := by decide +kernel
theorem dX11_comes_49 : decode cX11_comes 49 = .ok (.bipush 58, 2) := by decide +kernel
theorem dX11_comes_51 : decode cX11_comes 51 = .ok (.iload_n 3, 1) := by decide +kernel
theorem dX11_comes_52 : decode cX11_comes 52 = .ok (.iadd, 1) := by decide +kernel
theorem dX11_comes_53 : decode cX11_comes 53 = .ok (.iload_n 1, 1) := by decide +kernel
theorem dX11_comes_54 : decode cX11_comes 54 = .ok (.iastore, 1) := by decide +kernel
theorem dX11_comes_55 : decode cX11_comes 55 = .ok (.aload_n 0, 1) := by decide +kernel
theorem dX11_comes_56 : decode cX11_comes 56 = .ok (.getfield 7, 3) := by decide +kernel
theorem dX11_comes_59 : decode cX11_comes 59 = .ok (.bipush 63, 2) := by decide +kernel
theorem dX11_comes_61 : decode cX11_comes 61 = .ok (.iload_n 3, 1) := by decide +kernel
theorem dX11_comes_62 : decode cX11_comes 62 = .ok (.iadd, 1) := by decide +kernel
theorem dX11_comes_63 : decode cX11_comes 63 = .ok (.iload_n 2, 1) := by decide +kernel
theorem dX11_comes_64 : decode cX11_comes 64 = .ok (.iastore, 1) := by decide +kernel
theorem dX11_comes_65 : decode cX11_comes 65 = .ok (.aload_n 0, 1) := by decide +kernel
theorem dX11_comes_66 : decode cX11_comes 66 = .ok (.getfield 7, 3) := by decide +kernel
theorem dX11_comes_69 : decode cX11_comes 69 = .ok (.iconst 1, 1) := by decide +kernel
theorem dX11_comes_70 : decode cX11_comes 70 = .ok (.dup2, 1) := by decide +kernel
theorem dX11_comes_71 : decode cX11_comes 71 = .ok (.iaload, 1) := by decide +kernel
theorem dX11_comes_72 : decode cX11_comes 72 = .ok (.iconst 1, 1) := by decide +kernel
theorem dX11_comes_73 : decode cX11_comes 73 = .ok (.iadd, 1) := by decide +kernel
theorem dX11_comes_74 : decode cX11_comes 74 = .ok (.iastore, 1) := by decide +kernel
theorem dX11_comes_75 : decode cX11_comes 75 = .ok (.aload_n 0, 1) := by decide +kernel
theorem dX11_comes_76 : decode cX11_comes 76 = .ok (.iload_n 3, 1) := by decide +kernel
theorem dX11_comes_77 : decode cX11_comes 77 = .ok (.invokevirtual 94, 3) := by decide +kernel
theorem dX11_comes_80 : decode cX11_comes 80 = .ok (.ireturn, 1) := by decide +kernel
set_option maxRecDepth 20000 in
theorem ggX11_cousin_X11_looksBack : GoodIn wsX11_cousin wsX11_looksBack := goodIn_ca (goodIn_r _ [5, 6, 7, 8, 9, 4, 10, 40, 41, 42, 43, 44, 45, 46, 47, 48, 49, 50, 51, 52, 53, 54, 55, 56, 57, 58] (by decide +kernel) (by decide +kernel)) (goodIn_sub (fun _ h => List.mem_cons_of_mem _ (List.mem_append_right _ h)) (by decide +kernel))
set_option maxRecDepth 20000 in
theorem gX11_cousin_X11_looksBack : GoodIn wsX11_cousin (wsV RX11 97 RX11 yX11_looksBack wsX11_looksBack) := goodIn_app (goodIn_of _ (by decide +kernel)) ggX11_cousin_X11_looksBack
set_option maxRecDepth 20000 in
theorem ggX11_cousin_X11_comes : GoodIn wsX11_cousin wsX11_comes := goodIn_ca (goodIn_r _ [14, 6, 15, 16, 4, 17, 18, 19, 20, 21, 22, 23, 24, 25, 26, 27, 28, 29, 30, 31, 32, 33, 40, 41, 42, 43, 44, 45, 46, 47, 48, 49, 50, 51, 52, 53, 54, 55, 56, 57, 58] (by decide +kernel) (by decide +kernel)) (goodIn_sub (fun _ h => List.mem_cons_of_mem _ (List.mem_append_right _ h)) (by decide +kernel))
set_option maxRecDepth 20000 in
theorem gX11_cousin_X11_comes : GoodIn wsX11_cousin (wsV RX11 121 RX11 yX11_comes wsX11_comes) := goodIn_app (goodIn_of _ (by decide +kernel)) ggX11_cousin_X11_comes
set_option maxRecDepth 20000 in
theorem ggX11_cousin_X11_kept : GoodIn wsX11_cousin wsX11_kept := goodIn_ca (goodIn_r _ [37, 29, 7, 6, 38, 39, 8, 9, 4, 10, 40, 41, 42, 43, 44, 45, 46, 47, 48, 49, 50, 51, 52, 53, 54, 55, 56, 57, 58] (by decide +kernel) (by decide +kernel)) (goodIn_sub (fun _ h => List.mem_cons_of_mem _ (List.mem_append_right _ h)) (by decide +kernel))
set_option maxRecDepth 20000 in
theorem gX11_cousin_X11_kept : GoodIn wsX11_cousin (wsV RX11 103 RX11 yX11_kept wsX11_kept) := goodIn_app (goodIn_of _ (by decide +kernel)) ggX11_cousin_X11_kept
theorem dX11_cousin_0 : decode cX11_cousin 0 = .ok (.aload_n 0, 1) := by decide +kernel
theorem dX11_cousin_1 : decode cX11_cousin 1 = .ok (.invokevirtual 97, 3) := by decide +kernel
theorem dX11_cousin_4 : decode cX11_cousin 4 = .ok (.aload_n 0, 1) := by decide +kernel
theorem dX11_cousin_5 : decode cX11_cousin 5 = .ok (.aload_n 0, 1) := by decide +kernel
theorem dX11_cousin_6 : decode cX11_cousin 6 = .ok (.iload_n 1, 1) := by decide +kernel
theorem dX11_cousin_7 : decode cX11_cousin 7 = .ok (.iload_n 2, 1) := by decide +kernel
theorem dX11_cousin_8 : decode cX11_cousin 8 = .ok (.invokevirtual 121, 3) := by decide +kernel
theorem dX11_cousin_11 : decode cX11_cousin 11 = .ok (.invokevirtual 103, 3) := by decide +kernel
theorem dX11_cousin_14 : decode cX11_cousin 14 = .ok (.ireturn, 1) := by decide +kernel
set_option maxRecDepth 20000 in
theorem ggX11_learns_X11_isCousin : GoodIn wsX11_learns wsX11_isCousin := goodIn_ca (goodIn_r _ [6, 1, 7, 8, 5, 9, 29, 30, 31, 32, 33, 34, 35, 36, 37, 38, 39, 40, 41, 42, 43, 44, 45, 46, 47] (by decide +kernel) (by decide +kernel)) (goodIn_sub (fun _ h => List.mem_cons_of_mem _ (List.mem_append_right _ h)) (by decide +kernel))
set_option maxRecDepth 20000 in
theorem gX11_learns_X11_isCousin : GoodIn wsX11_learns (wsV RX11 124 RX11 yX11_isCousin wsX11_isCousin) := goodIn_app (goodIn_of _ (by decide +kernel)) ggX11_learns_X11_isCousin
set_option maxRecDepth 20000 in
theorem ggX11_learns_X11_refused : GoodIn wsX11_learns wsX11_refused := goodIn_r _ [13, 14, 15, 16, 17, 18, 19, 5, 20, 21, 29, 30, 31, 32, 33, 34, 35, 36, 37, 38, 39, 40, 41, 42, 43, 44, 45, 46, 47] (by decide +kernel) (by decide +kernel)
set_option maxRecDepth 20000 in
theorem gX11_learns_X11_refused : GoodIn wsX11_learns (wsV RX11 85 RX11 yX11_refused wsX11_refused) := goodIn_app (goodIn_of _ (by decide +kernel)) ggX11_learns_X11_refused
set_option maxRecDepth 20000 in
theorem ggX11_learns_X11_in : GoodIn wsX11_learns wsX11_in := goodIn_r _ [9] (by decide +kernel) (by decide +kernel)
set_option maxRecDepth 20000 in
theorem gX11_learns_X11_in : GoodIn wsX11_learns (va_wsS RX11 62 yX11_in wsX11_in) := goodIn_app (goodIn_of _ (by decide +kernel)) ggX11_learns_X11_in
set_option maxRecDepth 20000 in
theorem ggX11_learns_X11_bits : GoodIn wsX11_learns wsX11_bits := goodIn_r _ [24] (by decide +kernel) (by decide +kernel)
set_option maxRecDepth 20000 in
theorem gX11_learns_X11_bits : GoodIn wsX11_learns (va_wsS RX11 91 yX11_bits wsX11_bits) := goodIn_app (goodIn_of _ (by decide +kernel)) ggX11_learns_X11_bits
set_option maxRecDepth 20000 in
theorem ggX11_learns_X11_done : GoodIn wsX11_learns wsX11_done := goodIn_r _ [28, 21, 29, 30, 31, 32, 33, 34, 35, 36, 37, 38, 39, 40, 41, 42, 43, 44, 45, 46, 47] (by decide +kernel) (by decide +kernel)
set_option maxRecDepth 20000 in
theorem gX11_learns_X11_done : GoodIn wsX11_learns (wsV RX11 94 RX11 yX11_done wsX11_done) := goodIn_app (goodIn_of _ (by decide +kernel)) ggX11_learns_X11_done
theorem dX11_learns_0 : decode cX11_learns 0 = .ok (.aload_n 0, 1) := by decide +kernel
theorem dX11_learns_1 : decode cX11_learns 1 = .ok (.iload_n 1, 1) := by decide +kernel
theorem dX11_learns_2 : decode cX11_learns 2 = .ok (.invokevirtual 124, 3) := by decide +kernel
theorem dX11_learns_5 : decode cX11_learns 5 = .ok (.ifCond .ne 15, 3) := by decide +kernel
theorem dX11_learns_8 : decode cX11_learns 8 = .ok (.aload_n 0, 1) := by decide +kernel
theorem dX11_learns_9 : decode cX11_learns 9 = .ok (.iconst 4, 1) := by decide +kernel
theorem dX11_learns_10 : decode cX11_learns 10 = .ok (.aload_n 0, 1) := by decide +kernel
theorem dX11_learns_11 : decode cX11_learns 11 = .ok (.getfield 7, 3) := by decide +kernel
theorem dX11_learns_14 : decode cX11_learns 14 = .ok (.iconst 1, 1) := by decide +kernel
theorem dX11_learns_15 : decode cX11_learns 15 = .ok (.iaload, 1) := by decide +kernel
theorem dX11_learns_16 : decode cX11_learns 16 = .ok (.invokevirtual 85, 3) := by decide +kernel
theorem dX11_learns_19 : decode cX11_learns 19 = .ok (.ireturn, 1) := by decide +kernel
theorem dX11_learns_20 : decode cX11_learns 20 = .ok (.iload_n 2, 1) := by decide +kernel
theorem dX11_learns_21 : decode cX11_learns 21 = .ok (.iconst 0, 1) := by decide +kernel
theorem dX11_learns_22 : decode cX11_learns 22 = .ok (.iconst 4, 1) := by decide +kernel
theorem dX11_learns_23 : decode cX11_learns 23 = .ok (.invokestatic 62, 3) := by decide +kernel
theorem dX11_learns_26 : decode cX11_learns 26 = .ok (.ifCond .ne 10, 3) := by decide +kernel
theorem dX11_learns_29 : decode cX11_learns 29 = .ok (.aload_n 0, 1) := by decide +kernel
theorem dX11_learns_30 : decode cX11_learns 30 = .ok (.iconst 1, 1) := by decide +kernel
theorem dX11_learns_31 : decode cX11_learns 31 = .ok (.iconst 0, 1) := by decide +kernel
theorem dX11_learns_32 : decode cX11_learns 32 = .ok (.invokevirtual 85, 3) := by decide +kernel
theorem dX11_learns_35 : decode cX11_learns 35 = .ok (.ireturn, 1) := by decide +kernel
theorem dX11_learns_36 : decode cX11_learns 36 = .ok (.aload_n 0, 1) := by decide +kernel
theorem dX11_learns_37 : decode cX11_learns 37 = .ok (.getfield 7, 3) := by decide +kernel
theorem dX11_learns_40 : decode cX11_learns 40 = .ok (.bipush 63, 2) := by decide +kernel
theorem dX11_learns_42 : decode cX11_learns 42 = .ok (.iload_n 1, 1) := by decide +kernel
theorem dX11_learns_43 : decode cX11_learns 43 = .ok (.iadd, 1) := by decide +kernel
theorem dX11_learns_44 : decode cX11_learns 44 = .ok (.iaload, 1) := by decide +kernel
theorem dX11_learns_45 : decode cX11_learns 45 = .ok (.iload_n 2, 1) := by decide +kernel
theorem dX11_learns_46 : decode cX11_learns 46 = .ok (.ishr, 1) := by decide +kernel
theorem dX11_learns_47 : decode cX11_learns 47 = .ok (.iconst 1, 1) := by decide +kernel
theorem dX11_learns_48 : decode cX11_learns 48 = .ok (.iand, 1) := by decide +kernel
theorem dX11_learns_49 : decode cX11_learns 49 = .ok (.iconst 1, 1) := by decide +kernel
theorem dX11_learns_50 : decode cX11_learns 50 = .ok (.if_icmp .ne 11, 3) := by decide +kernel
theorem dX11_learns_53 : decode cX11_learns 53 = .ok (.aload_n 0, 1) := by decide +kernel
theorem dX11_learns_54 : decode cX11_learns 54 = .ok (.bipush 12, 2) := by decide +kernel
theorem dX11_learns_56 : decode cX11_learns 56 = .ok (.iload_n 2, 1) := by decide +kernel
theorem dX11_learns_57 : decode cX11_learns 57 = .ok (.invokevirtual 85, 3) := by decide +kernel
theorem dX11_learns_60 : decode cX11_learns 60 = .ok (.ireturn, 1) := by decide +kernel
theorem dX11_learns_61 : decode cX11_learns 61 = .ok (.aload_n 0, 1) := by decide +kernel
theorem dX11_learns_62 : decode cX11_learns 62 = .ok (.getfield 7, 3) := by decide +kernel
theorem dX11_learns_65 : decode cX11_learns 65 = .ok (.bipush 63, 2) := by decide +kernel
theorem dX11_learns_67 : decode cX11_learns 67 = .ok (.iload_n 1, 1) := by decide +kernel
theorem dX11_learns_68 : decode cX11_learns 68 = .ok (.iadd, 1) := by decide +kernel
theorem dX11_learns_69 : decode cX11_learns 69 = .ok (.dup2, 1) := by decide +kernel
theorem dX11_learns_70 : decode cX11_learns 70 = .ok (.iaload, 1) := by decide +kernel
theorem dX11_learns_71 : decode cX11_learns 71 = .ok (.iconst 1, 1) := by decide +kernel
theorem dX11_learns_72 : decode cX11_learns 72 = .ok (.iload_n 2, 1) := by decide +kernel
theorem dX11_learns_73 : decode cX11_learns 73 = .ok (.ishl, 1) := by decide +kernel
theorem dX11_learns_74 : decode cX11_learns 74 = .ok (.ior, 1) := by decide +kernel
theorem dX11_learns_75 : decode cX11_learns 75 = .ok (.iastore, 1) := by decide +kernel
theorem dX11_learns_76 : decode cX11_learns 76 = .ok (.aload_n 0, 1) := by decide +kernel
theorem dX11_learns_77 : decode cX11_learns 77 = .ok (.aload_n 0, 1) := by decide +kernel
theorem dX11_learns_78 : decode cX11_learns 78 = .ok (.getfield 7, 3) := by decide +kernel
theorem dX11_learns_81 : decode cX11_learns 81 = .ok (.bipush 63, 2) := by decide +kernel
theorem dX11_learns_83 : decode cX11_learns 83 = .ok (.iload_n 1, 1) := by decide +kernel
theorem dX11_learns_84 : decode cX11_learns 84 = .ok (.iadd, 1) := by decide +kernel
theorem dX11_learns_85 : decode cX11_learns 85 = .ok (.iaload, 1) := by decide +kernel
theorem dX11_learns_86 : decode cX11_learns 86 = .ok (.invokestatic 91, 3) := by decide +kernel
theorem dX11_learns_89 : decode cX11_learns 89 = .ok (.invokevirtual 94, 3) := by decide +kernel
theorem dX11_learns_92 : decode cX11_learns 92 = .ok (.ireturn, 1) := by decide +kernel
set_option maxRecDepth 20000 in
theorem ggX11_learn_X11_looksBack : GoodIn wsX11_learn wsX11_looksBack := goodIn_ca (goodIn_r _ [5, 6, 7, 8, 9, 4, 10, 47, 48, 49, 50, 51, 52, 53, 54, 55, 56, 57, 58, 59, 60, 61, 62, 63, 64, 65] (by decide +kernel) (by decide +kernel)) (goodIn_sub (fun _ h => List.mem_cons_of_mem _ (List.mem_append_right _ h)) (by decide +kernel))
set_option maxRecDepth 20000 in
theorem gX11_learn_X11_looksBack : GoodIn wsX11_learn (wsV RX11 97 RX11 yX11_looksBack wsX11_looksBack) := goodIn_app (goodIn_of _ (by decide +kernel)) ggX11_learn_X11_looksBack
set_option maxRecDepth 20000 in
theorem ggX11_learn_X11_learns : GoodIn wsX11_learn wsX11_learns := goodIn_ca (goodIn_r _ [14, 6, 15, 16, 17, 4, 18, 19, 20, 21, 22, 23, 24, 25, 26, 27, 28, 29, 30, 31, 32, 33, 34, 35, 36, 37, 38, 39, 40, 47, 48, 49, 50, 51, 52, 53, 54, 55, 56, 57, 58, 59, 60, 61, 62, 63, 64, 65] (by decide +kernel) (by decide +kernel)) (goodIn_sub (fun _ h => List.mem_cons_of_mem _ (List.mem_append_right _ h)) (by decide +kernel))
set_option maxRecDepth 20000 in
theorem gX11_learn_X11_learns : GoodIn wsX11_learn (wsV RX11 127 RX11 yX11_learns wsX11_learns) := goodIn_app (goodIn_of _ (by decide +kernel)) ggX11_learn_X11_learns
set_option maxRecDepth 20000 in
theorem ggX11_learn_X11_kept : GoodIn wsX11_learn wsX11_kept := goodIn_ca (goodIn_r _ [44, 33, 7, 6, 45, 46, 8, 9, 4, 10, 47, 48, 49, 50, 51, 52, 53, 54, 55, 56, 57, 58, 59, 60, 61, 62, 63, 64, 65] (by decide +kernel) (by decide +kernel)) (goodIn_sub (fun _ h => List.mem_cons_of_mem _ (List.mem_append_right _ h)) (by decide +kernel))
set_option maxRecDepth 20000 in
theorem gX11_learn_X11_kept : GoodIn wsX11_learn (wsV RX11 103 RX11 yX11_kept wsX11_kept) := goodIn_app (goodIn_of _ (by decide +kernel)) ggX11_learn_X11_kept
theorem dX11_learn_0 : decode cX11_learn 0 = .ok (.aload_n 0, 1) := by decide +kernel
theorem dX11_learn_1 : decode cX11_learn 1 = .ok (.invokevirtual 97, 3) := by decide +kernel
theorem dX11_learn_4 : decode cX11_learn 4 = .ok (.aload_n 0, 1) := by decide +kernel
theorem dX11_learn_5 : decode cX11_learn 5 = .ok (.aload_n 0, 1) := by decide +kernel
theorem dX11_learn_6 : decode cX11_learn 6 = .ok (.iload_n 1, 1) := by decide +kernel
theorem dX11_learn_7 : decode cX11_learn 7 = .ok (.iload_n 2, 1) := by decide +kernel
theorem dX11_learn_8 : decode cX11_learn 8 = .ok (.invokevirtual 127, 3) := by decide +kernel
theorem dX11_learn_11 : decode cX11_learn 11 = .ok (.invokevirtual 103, 3) := by decide +kernel
theorem dX11_learn_14 : decode cX11_learn 14 = .ok (.ireturn, 1) := by decide +kernel
set_option maxRecDepth 20000 in
theorem ggX11_builds_X11_isCousin : GoodIn wsX11_builds wsX11_isCousin := goodIn_ca (goodIn_r _ [6, 1, 7, 8, 5, 9, 62, 63, 64, 65, 66, 67, 68, 69, 70, 71, 72, 73, 74, 75, 76, 77, 78, 79, 80] (by decide +kernel) (by decide +kernel)) (goodIn_sub (fun _ h => List.mem_cons_of_mem _ (List.mem_append_right _ h)) (by decide +kernel))
set_option maxRecDepth 20000 in
theorem gX11_builds_X11_isCousin : GoodIn wsX11_builds (wsV RX11 124 RX11 yX11_isCousin wsX11_isCousin) := goodIn_app (goodIn_of _ (by decide +kernel)) ggX11_builds_X11_isCousin
set_option maxRecDepth 20000 in
theorem ggX11_builds_X11_refused : GoodIn wsX11_builds wsX11_refused := goodIn_r _ [13, 14, 15, 16, 17, 18, 19, 5, 20, 21, 62, 63, 64, 65, 66, 67, 68, 69, 70, 71, 72, 73, 74, 75, 76, 77, 78, 79, 80] (by decide +kernel) (by decide +kernel)
set_option maxRecDepth 20000 in
theorem gX11_builds_X11_refused : GoodIn wsX11_builds (wsV RX11 85 RX11 yX11_refused wsX11_refused) := goodIn_app (goodIn_of _ (by decide +kernel)) ggX11_builds_X11_refused
set_option maxRecDepth 20000 in
theorem ggX11_builds_X11_isLeaflet : GoodIn wsX11_builds wsX11_isLeaflet := goodIn_ca (goodIn_r _ [25, 1, 7, 8, 5, 9, 62, 63, 64, 65, 66, 67, 68, 69, 70, 71, 72, 73, 74, 75, 76, 77, 78, 79, 80] (by decide +kernel) (by decide +kernel)) (goodIn_sub (fun _ h => List.mem_cons_of_mem _ (List.mem_append_right _ h)) (by decide +kernel))
set_option maxRecDepth 20000 in
theorem gX11_builds_X11_isLeaflet : GoodIn wsX11_builds (wsV RX11 106 RX11 yX11_isLeaflet wsX11_isLeaflet) := goodIn_app (goodIn_of _ (by decide +kernel)) ggX11_builds_X11_isLeaflet
set_option maxRecDepth 20000 in
theorem ggX11_builds_X11_skips : GoodIn wsX11_builds wsX11_skips := goodIn_ca (goodIn_r _ [29, 1, 30, 31, 32, 5, 33, 34, 35, 36, 37, 38, 39, 40, 41, 42, 43, 44, 45, 62, 63, 64, 65, 66, 67, 68, 69, 70, 71, 72, 73, 74, 75, 76, 77, 78, 79, 80] (by decide +kernel) (by decide +kernel)) (goodIn_sub (fun _ h => List.mem_cons_of_mem _ (List.mem_append_right _ h)) (by decide +kernel))
set_option maxRecDepth 20000 in
theorem gX11_builds_X11_skips : GoodIn wsX11_builds (wsV RX11 130 RX11 yX11_skips wsX11_skips) := goodIn_app (goodIn_of _ (by decide +kernel)) ggX11_builds_X11_skips
set_option maxRecDepth 20000 in
theorem ggX11_builds_X11_needsFor : GoodIn wsX11_builds wsX11_needsFor := goodIn_ca (goodIn_r _ [49, 50, 1, 42, 43, 44, 5, 45, 62, 63, 64, 65, 66, 67, 68, 69, 70, 71, 72, 73, 74, 75, 76, 77, 78, 79, 80] (by decide +kernel) (by decide +kernel)) (goodIn_sub (fun _ h => List.mem_cons_of_mem _ (List.mem_append_right _ h)) (by decide +kernel))
set_option maxRecDepth 20000 in
theorem gX11_builds_X11_needsFor : GoodIn wsX11_builds (wsV RX11 133 RX11 yX11_needsFor wsX11_needsFor) := goodIn_app (goodIn_of _ (by decide +kernel)) ggX11_builds_X11_needsFor
set_option maxRecDepth 20000 in
theorem ggX11_builds_X11_tinGets : GoodIn wsX11_builds wsX11_tinGets := goodIn_ca (goodIn_r _ [54, 1, 50, 62, 63, 64, 65, 66, 67, 68, 69, 70, 71, 72, 73, 74, 75, 76, 77, 78, 79, 80] (by decide +kernel) (by decide +kernel)) (goodIn_sub (fun _ h => List.mem_cons_of_mem _ (List.mem_append_right _ h)) (by decide +kernel))
set_option maxRecDepth 20000 in
theorem gX11_builds_X11_tinGets : GoodIn wsX11_builds (wsV RX11 136 RX11 yX11_tinGets wsX11_tinGets) := goodIn_app (goodIn_of _ (by decide +kernel)) ggX11_builds_X11_tinGets
set_option maxRecDepth 20000 in
theorem ggX11_builds_X11_bits : GoodIn wsX11_builds wsX11_bits := goodIn_r _ [57] (by decide +kernel) (by decide +kernel)
set_option maxRecDepth 20000 in
theorem gX11_builds_X11_bits : GoodIn wsX11_builds (va_wsS RX11 91 yX11_bits wsX11_bits) := goodIn_app (goodIn_of _ (by decide +kernel)) ggX11_builds_X11_bits
set_option maxRecDepth 20000 in
theorem ggX11_builds_X11_done : GoodIn wsX11_builds wsX11_done := goodIn_r _ [61, 21, 62, 63, 64, 65, 66, 67, 68, 69, 70, 71, 72, 73, 74, 75, 76, 77, 78, 79, 80] (by decide +kernel) (by decide +kernel)
set_option maxRecDepth 20000 in
theorem gX11_builds_X11_done : GoodIn wsX11_builds (wsV RX11 94 RX11 yX11_done wsX11_done) := goodIn_app (goodIn_of _ (by decide +kernel)) ggX11_builds_X11_done
theorem dX11_builds_0 : decode cX11_builds 0 = .ok (.aload_n 0, 1) := by decide +kernel
theorem dX11_builds_1 : decode cX11_builds 1 = .ok (.iload_n 1, 1) := by decide +kernel
theorem dX11_builds_2 : decode cX11_builds 2 = .ok (.invokevirtual 124, 3) := by decide +kernel
theorem dX11_builds_5 : decode cX11_builds 5 = .ok (.ifCond .ne 15, 3) := by decide +kernel
theorem dX11_builds_8 : decode cX11_builds 8 = .ok (.aload_n 0, 1) := by decide +kernel
theorem dX11_builds_9 : decode cX11_builds 9 = .ok (.iconst 4, 1) := by decide +kernel
theorem dX11_builds_10 : decode cX11_builds 10 = .ok (.aload_n 0, 1) := by decide +kernel
theorem dX11_builds_11 : decode cX11_builds 11 = .ok (.getfield 7, 3) := by decide +kernel
theorem dX11_builds_14 : decode cX11_builds 14 = .ok (.iconst 1, 1) := by decide +kernel
theorem dX11_builds_15 : decode cX11_builds 15 = .ok (.iaload, 1) := by decide +kernel
theorem dX11_builds_16 : decode cX11_builds 16 = .ok (.invokevirtual 85, 3) := by decide +kernel
theorem dX11_builds_19 : decode cX11_builds 19 = .ok (.ireturn, 1) := by decide +kernel
theorem dX11_builds_20 : decode cX11_builds 20 = .ok (.aload_n 0, 1) := by decide +kernel
theorem dX11_builds_21 : decode cX11_builds 21 = .ok (.iload_n 2, 1) := by decide +kernel
theorem dX11_builds_22 : decode cX11_builds 22 = .ok (.invokevirtual 106, 3) := by decide +kernel
theorem dX11_builds_25 : decode cX11_builds 25 = .ok (.ifCond .ne 15, 3) := by decide +kernel
theorem dX11_builds_28 : decode cX11_builds 28 = .ok (.aload_n 0, 1) := by decide +kernel
theorem dX11_builds_29 : decode cX11_builds 29 = .ok (.iconst 3, 1) := by decide +kernel
theorem dX11_builds_30 : decode cX11_builds 30 = .ok (.aload_n 0, 1) := by decide +kernel
theorem dX11_builds_31 : decode cX11_builds 31 = .ok (.getfield 7, 3) := by decide +kernel
theorem dX11_builds_34 : decode cX11_builds 34 = .ok (.iconst 0, 1) := by decide +kernel
theorem dX11_builds_35 : decode cX11_builds 35 = .ok (.iaload, 1) := by decide +kernel
theorem dX11_builds_36 : decode cX11_builds 36 = .ok (.invokevirtual 85, 3) := by decide +kernel
theorem dX11_builds_39 : decode cX11_builds 39 = .ok (.ireturn, 1) := by decide +kernel
theorem dX11_builds_40 : decode cX11_builds 40 = .ok (.aload_n 0, 1) := by decide +kernel
theorem dX11_builds_41 : decode cX11_builds 41 = .ok (.getfield 7, 3) := by decide +kernel
theorem dX11_builds_44 : decode cX11_builds 44 = .ok (.bipush 42, 2) := by decide +kernel
theorem dX11_builds_46 : decode cX11_builds 46 = .ok (.iload_n 2, 1) := by decide +kernel
theorem dX11_builds_47 : decode cX11_builds 47 = .ok (.iadd, 1) := by decide +kernel
theorem dX11_builds_48 : decode cX11_builds 48 = .ok (.iaload, 1) := by decide +kernel
theorem dX11_builds_49 : decode cX11_builds 49 = .ok (.ifCond .eq 21, 3) := by decide +kernel
theorem dX11_builds_52 : decode cX11_builds 52 = .ok (.aload_n 0, 1) := by decide +kernel
theorem dX11_builds_53 : decode cX11_builds 53 = .ok (.bipush 6, 2) := by decide +kernel
theorem dX11_builds_55 : decode cX11_builds 55 = .ok (.aload_n 0, 1) := by decide +kernel
theorem dX11_builds_56 : decode cX11_builds 56 = .ok (.getfield 7, 3) := by decide +kernel
theorem dX11_builds_59 : decode cX11_builds 59 = .ok (.bipush 42, 2) := by decide +kernel
theorem dX11_builds_61 : decode cX11_builds 61 = .ok (.iload_n 2, 1) := by decide +kernel
theorem dX11_builds_62 : decode cX11_builds 62 = .ok (.iadd, 1) := by decide +kernel
theorem dX11_builds_63 : decode cX11_builds 63 = .ok (.iaload, 1) := by decide +kernel
theorem dX11_builds_64 : decode cX11_builds 64 = .ok (.iconst 1, 1) := by decide +kernel
theorem dX11_builds_65 : decode cX11_builds 65 = .ok (.isub, 1) := by decide +kernel
theorem dX11_builds_66 : decode cX11_builds 66 = .ok (.invokevirtual 85, 3) := by decide +kernel
theorem dX11_builds_69 : decode cX11_builds 69 = .ok (.ireturn, 1) := by decide +kernel
theorem dX11_builds_70 : decode cX11_builds 70 = .ok (.aload_n 0, 1) := by decide +kernel
theorem dX11_builds_71 : decode cX11_builds 71 = .ok (.iload_n 1, 1) := by decide +kernel
theorem dX11_builds_72 : decode cX11_builds 72 = .ok (.iload_n 2, 1) := by decide +kernel
theorem dX11_builds_73 : decode cX11_builds 73 = .ok (.invokevirtual 130, 3) := by decide +kernel
theorem dX11_builds_76 : decode cX11_builds 76 = .ok (.istore_n 3, 1) := by decide +kernel
theorem dX11_builds_77 : decode cX11_builds 77 = .ok (.aload_n 0, 1) := by decide +kernel
theorem dX11_builds_78 : decode cX11_builds 78 = .ok (.iload_n 2, 1) := by decide +kernel
theorem dX11_builds_79 : decode cX11_builds 79 = .ok (.iload_n 3, 1) := by decide +kernel
theorem dX11_builds_80 : decode cX11_builds 80 = .ok (.invokevirtual 133, 3) := by decide +kernel
theorem dX11_builds_83 : decode cX11_builds 83 = .ok (.istore 4, 2) := by decide +kernel
theorem dX11_builds_85 : decode cX11_builds 85 = .ok (.aload_n 0, 1) := by decide +kernel
theorem dX11_builds_86 : decode cX11_builds 86 = .ok (.iconst 1, 1) := by decide +kernel
theorem dX11_builds_87 : decode cX11_builds 87 = .ok (.invokevirtual 136, 3) := by decide +kernel
theorem dX11_builds_90 : decode cX11_builds 90 = .ok (.aload_n 0, 1) := by decide +kernel
theorem dX11_builds_91 : decode cX11_builds 91 = .ok (.getfield 7, 3) := by decide +kernel
theorem dX11_builds_94 : decode cX11_builds 94 = .ok (.bipush 42, 2) := by decide +kernel
theorem dX11_builds_96 : decode cX11_builds 96 = .ok (.iload_n 2, 1) := by decide +kernel
theorem dX11_builds_97 : decode cX11_builds 97 = .ok (.iadd, 1) := by decide +kernel
theorem dX11_builds_98 : decode cX11_builds 98 = .ok (.iload_n 1, 1) := by decide +kernel
theorem dX11_builds_99 : decode cX11_builds 99 = .ok (.iconst 1, 1) := by decide +kernel
theorem dX11_builds_100 : decode cX11_builds 100 = .ok (.iadd, 1) := by decide +kernel
theorem dX11_builds_101 : decode cX11_builds 101 = .ok (.iastore, 1) := by decide +kernel
theorem dX11_builds_102 : decode cX11_builds 102 = .ok (.aload_n 0, 1) := by decide +kernel
theorem dX11_builds_103 : decode cX11_builds 103 = .ok (.getfield 7, 3) := by decide +kernel
theorem dX11_builds_106 : decode cX11_builds 106 = .ok (.bipush 50, 2) := by decide +kernel
theorem dX11_builds_108 : decode cX11_builds 108 = .ok (.iload_n 2, 1) := by decide +kernel
theorem dX11_builds_109 : decode cX11_builds 109 = .ok (.iadd, 1) := by decide +kernel
theorem dX11_builds_110 : decode cX11_builds 110 = .ok (.iload_n 3, 1) := by decide +kernel
theorem dX11_builds_111 : decode cX11_builds 111 = .ok (.iastore, 1) := by decide +kernel
theorem dX11_builds_112 : decode cX11_builds 112 = .ok (.aload_n 0, 1) := by decide +kernel
theorem dX11_builds_113 : decode cX11_builds 113 = .ok (.getfield 7, 3) := by decide +kernel
theorem dX11_builds_116 : decode cX11_builds 116 = .ok (.iconst 2, 1) := by decide +kernel
theorem dX11_builds_117 : decode cX11_builds 117 = .ok (.dup2, 1) := by decide +kernel
theorem dX11_builds_118 : decode cX11_builds 118 = .ok (.iaload, 1) := by decide +kernel
theorem dX11_builds_119 : decode cX11_builds 119 = .ok (.iconst 1, 1) := by decide +kernel
theorem dX11_builds_120 : decode cX11_builds 120 = .ok (.iadd, 1) := by decide +kernel
theorem dX11_builds_121 : decode cX11_builds 121 = .ok (.iastore, 1) := by decide +kernel
theorem dX11_builds_122 : decode cX11_builds 122 = .ok (.aload_n 0, 1) := by decide +kernel
theorem dX11_builds_123 : decode cX11_builds 123 = .ok (.getfield 7, 3) := by decide +kernel
theorem dX11_builds_126 : decode cX11_builds 126 = .ok (.iconst 3, 1) := by decide +kernel
theorem dX11_builds_127 : decode cX11_builds 127 = .ok (.dup2, 1) := by decide +kernel
theorem dX11_builds_128 : decode cX11_builds 128 = .ok (.iaload, 1) := by decide +kernel
theorem dX11_builds_129 : decode cX11_builds 129 = .ok (.iload_n 3, 1) := by decide +kernel
theorem dX11_builds_130 : decode cX11_builds 130 = .ok (.invokestatic 91, 3) := by decide +kernel
theorem dX11_builds_133 : decode cX11_builds 133 = .ok (.iadd, 1) := by decide +kernel
theorem dX11_builds_134 : decode cX11_builds 134 = .ok (.iastore, 1) := by decide +kernel
theorem dX11_builds_135 : decode cX11_builds 135 = .ok (.aload_n 0, 1) := by decide +kernel
theorem dX11_builds_136 : decode cX11_builds 136 = .ok (.aload_n 0, 1) := by decide +kernel
theorem dX11_builds_137 : decode cX11_builds 137 = .ok (.getfield 7, 3) := by decide +kernel
theorem dX11_builds_140 : decode cX11_builds 140 = .ok (.bipush 18, 2) := by decide +kernel
theorem dX11_builds_142 : decode cX11_builds 142 = .ok (.iload_n 2, 1) := by decide +kernel
theorem dX11_builds_143 : decode cX11_builds 143 = .ok (.iadd, 1) := by decide +kernel
theorem dX11_builds_144 : decode cX11_builds 144 = .ok (.iaload, 1) := by decide +kernel
theorem dX11_builds_145 : decode cX11_builds 145 = .ok (.iload_n 3, 1) := by decide +kernel
theorem dX11_builds_146 : decode cX11_builds 146 = .ok (.invokestatic 91, 3) := by decide +kernel
theorem dX11_builds_149 : decode cX11_builds 149 = .ok (.isub, 1) := by decide +kernel
theorem dX11_builds_150 : decode cX11_builds 150 = .ok (.invokevirtual 94, 3) := by decide +kernel
theorem dX11_builds_153 : decode cX11_builds 153 = .ok (.ireturn, 1) := by decide +kernel
set_option maxRecDepth 20000 in
theorem ggX11_build_X11_looksBack : GoodIn wsX11_build wsX11_looksBack := goodIn_ca (goodIn_r _ [5, 6, 7, 8, 9, 4, 10, 80, 81, 82, 83, 84, 85, 86, 87, 88, 89, 90, 91, 92, 93, 94, 95, 96, 97, 98] (by decide +kernel) (by decide +kernel)) (goodIn_sub (fun _ h => List.mem_cons_of_mem _ (List.mem_append_right _ h)) (by decide +kernel))
set_option maxRecDepth 20000 in
theorem gX11_build_X11_looksBack : GoodIn wsX11_build (wsV RX11 97 RX11 yX11_looksBack wsX11_looksBack) := goodIn_app (goodIn_of _ (by decide +kernel)) ggX11_build_X11_looksBack
set_option maxRecDepth 20000 in
theorem ggX11_build_X11_builds : GoodIn wsX11_build wsX11_builds := goodIn_ca (goodIn_r _ [14, 6, 15, 16, 17, 4, 18, 19, 20, 21, 22, 23, 24, 25, 26, 27, 28, 29, 30, 31, 32, 33, 34, 35, 36, 37, 38, 39, 40, 41, 42, 43, 44, 45, 46, 47, 48, 49, 50, 51, 52, 53, 54, 55, 56, 57, 58, 59, 60, 61, 62, 63, 64, 65, 66, 67, 68, 69, 70, 71, 72, 73, 80, 81, 82, 83, 84, 85, 86, 87, 88, 89, 90, 91, 92, 93, 94, 95, 96, 97, 98] (by decide +kernel) (by decide +kernel)) (goodIn_sub (fun _ h => List.mem_cons_of_mem _ (List.mem_append_right _ h)) (by decide +kernel))
set_option maxRecDepth 20000 in
theorem gX11_build_X11_builds : GoodIn wsX11_build (wsV RX11 140 RX11 yX11_builds wsX11_builds) := goodIn_app (goodIn_of _ (by decide +kernel)) ggX11_build_X11_builds
set_option maxRecDepth 20000 in
theorem ggX11_build_X11_kept : GoodIn wsX11_build wsX11_kept := goodIn_ca (goodIn_r _ [77, 33, 7, 6, 78, 79, 8, 9, 4, 10, 80, 81, 82, 83, 84, 85, 86, 87, 88, 89, 90, 91, 92, 93, 94, 95, 96, 97, 98] (by decide +kernel) (by decide +kernel)) (goodIn_sub (fun _ h => List.mem_cons_of_mem _ (List.mem_append_right _ h)) (by decide +kernel))
set_option maxRecDepth 20000 in
theorem gX11_build_X11_kept : GoodIn wsX11_build (wsV RX11 103 RX11 yX11_kept wsX11_kept) := goodIn_app (goodIn_of _ (by decide +kernel)) ggX11_build_X11_kept
theorem dX11_build_0 : decode cX11_build 0 = .ok (.aload_n 0, 1) := by decide +kernel
theorem dX11_build_1 : decode cX11_build 1 = .ok (.invokevirtual 97, 3) := by decide +kernel
theorem dX11_build_4 : decode cX11_build 4 = .ok (.aload_n 0, 1) := by decide +kernel
theorem dX11_build_5 : decode cX11_build 5 = .ok (.aload_n 0, 1) := by decide +kernel
theorem dX11_build_6 : decode cX11_build 6 = .ok (.iload_n 1, 1) := by decide +kernel
theorem dX11_build_7 : decode cX11_build 7 = .ok (.iload_n 2, 1) := by decide +kernel
theorem dX11_build_8 : decode cX11_build 8 = .ok (.invokevirtual 140, 3) := by decide +kernel
theorem dX11_build_11 : decode cX11_build 11 = .ok (.invokevirtual 103, 3) := by decide +kernel
theorem dX11_build_14 : decode cX11_build 14 = .ok (.ireturn, 1) := by decide +kernel
set_option maxRecDepth 20000 in
theorem ggX11_finishes_X11_isLeaflet : GoodIn wsX11_finishes wsX11_isLeaflet := goodIn_ca (goodIn_r _ [6, 1, 7, 8, 5, 9, 50, 51, 52, 53, 54, 55, 56, 57, 58, 59, 60, 61, 62, 63, 64, 65, 66, 67, 68] (by decide +kernel) (by decide +kernel)) (goodIn_sub (fun _ h => List.mem_cons_of_mem _ (List.mem_append_right _ h)) (by decide +kernel))
set_option maxRecDepth 20000 in
theorem gX11_finishes_X11_isLeaflet : GoodIn wsX11_finishes (wsV RX11 106 RX11 yX11_isLeaflet wsX11_isLeaflet) := goodIn_app (goodIn_of _ (by decide +kernel)) ggX11_finishes_X11_isLeaflet
set_option maxRecDepth 20000 in
theorem ggX11_finishes_X11_refused : GoodIn wsX11_finishes wsX11_refused := goodIn_r _ [13, 14, 15, 16, 17, 18, 19, 5, 20, 21, 50, 51, 52, 53, 54, 55, 56, 57, 58, 59, 60, 61, 62, 63, 64, 65, 66, 67, 68] (by decide +kernel) (by decide +kernel)
set_option maxRecDepth 20000 in
theorem gX11_finishes_X11_refused : GoodIn wsX11_finishes (wsV RX11 85 RX11 yX11_refused wsX11_refused) := goodIn_app (goodIn_of _ (by decide +kernel)) ggX11_finishes_X11_refused
set_option maxRecDepth 20000 in
theorem ggX11_finishes_X11_isStep : GoodIn wsX11_finishes wsX11_isStep := goodIn_ca (goodIn_r _ [25, 1, 7, 8, 5, 9, 50, 51, 52, 53, 54, 55, 56, 57, 58, 59, 60, 61, 62, 63, 64, 65, 66, 67, 68] (by decide +kernel) (by decide +kernel)) (goodIn_sub (fun _ h => List.mem_cons_of_mem _ (List.mem_append_right _ h)) (by decide +kernel))
set_option maxRecDepth 20000 in
theorem gX11_finishes_X11_isStep : GoodIn wsX11_finishes (wsV RX11 143 RX11 yX11_isStep wsX11_isStep) := goodIn_app (goodIn_of _ (by decide +kernel)) ggX11_finishes_X11_isStep
set_option maxRecDepth 20000 in
theorem ggX11_finishes_X11_needsFor : GoodIn wsX11_finishes wsX11_needsFor := goodIn_ca (goodIn_r _ [29, 30, 1, 31, 32, 33, 5, 34, 50, 51, 52, 53, 54, 55, 56, 57, 58, 59, 60, 61, 62, 63, 64, 65, 66, 67, 68] (by decide +kernel) (by decide +kernel)) (goodIn_sub (fun _ h => List.mem_cons_of_mem _ (List.mem_append_right _ h)) (by decide +kernel))
set_option maxRecDepth 20000 in
theorem gX11_finishes_X11_needsFor : GoodIn wsX11_finishes (wsV RX11 133 RX11 yX11_needsFor wsX11_needsFor) := goodIn_app (goodIn_of _ (by decide +kernel)) ggX11_finishes_X11_needsFor
set_option maxRecDepth 20000 in
theorem ggX11_finishes_X11_lacking : GoodIn wsX11_finishes wsX11_lacking := goodIn_ca (goodIn_r _ [38, 1, 30, 50, 51, 52, 53, 54, 55, 56, 57, 58, 59, 60, 61, 62, 63, 64, 65, 66, 67, 68] (by decide +kernel) (by decide +kernel)) (goodIn_sub (fun _ h => List.mem_cons_of_mem _ (List.mem_append_right _ h)) (by decide +kernel))
set_option maxRecDepth 20000 in
theorem gX11_finishes_X11_lacking : GoodIn wsX11_finishes (wsV RX11 147 RX11 yX11_lacking wsX11_lacking) := goodIn_app (goodIn_of _ (by decide +kernel)) ggX11_finishes_X11_lacking
set_option maxRecDepth 20000 in
theorem ggX11_finishes_X11_tinGets : GoodIn wsX11_finishes wsX11_tinGets := goodIn_ca (goodIn_r _ [42, 1, 30, 50, 51, 52, 53, 54, 55, 56, 57, 58, 59, 60, 61, 62, 63, 64, 65, 66, 67, 68] (by decide +kernel) (by decide +kernel)) (goodIn_sub (fun _ h => List.mem_cons_of_mem _ (List.mem_append_right _ h)) (by decide +kernel))
set_option maxRecDepth 20000 in
theorem gX11_finishes_X11_tinGets : GoodIn wsX11_finishes (wsV RX11 136 RX11 yX11_tinGets wsX11_tinGets) := goodIn_app (goodIn_of _ (by decide +kernel)) ggX11_finishes_X11_tinGets
set_option maxRecDepth 20000 in
theorem ggX11_finishes_X11_bits : GoodIn wsX11_finishes wsX11_bits := goodIn_r _ [45] (by decide +kernel) (by decide +kernel)
set_option maxRecDepth 20000 in
theorem gX11_finishes_X11_bits : GoodIn wsX11_finishes (va_wsS RX11 91 yX11_bits wsX11_bits) := goodIn_app (goodIn_of _ (by decide +kernel)) ggX11_finishes_X11_bits
set_option maxRecDepth 20000 in
theorem ggX11_finishes_X11_done : GoodIn wsX11_finishes wsX11_done := goodIn_r _ [49, 21, 50, 51, 52, 53, 54, 55, 56, 57, 58, 59, 60, 61, 62, 63, 64, 65, 66, 67, 68] (by decide +kernel) (by decide +kernel)
set_option maxRecDepth 20000 in
theorem gX11_finishes_X11_done : GoodIn wsX11_finishes (wsV RX11 94 RX11 yX11_done wsX11_done) := goodIn_app (goodIn_of _ (by decide +kernel)) ggX11_finishes_X11_done
theorem dX11_finishes_0 : decode cX11_finishes 0 = .ok (.aload_n 0, 1) := by decide +kernel
theorem dX11_finishes_1 : decode cX11_finishes 1 = .ok (.iload_n 1, 1) := by decide +kernel
theorem dX11_finishes_2 : decode cX11_finishes 2 = .ok (.invokevirtual 106, 3) := by decide +kernel
theorem dX11_finishes_5 : decode cX11_finishes 5 = .ok (.ifCond .ne 15, 3) := by decide +kernel
theorem dX11_finishes_8 : decode cX11_finishes 8 = .ok (.aload_n 0, 1) := by decide +kernel
theorem dX11_finishes_9 : decode cX11_finishes 9 = .ok (.iconst 3, 1) := by decide +kernel
theorem dX11_finishes_10 : decode cX11_finishes 10 = .ok (.aload_n 0, 1) := by decide +kernel
theorem dX11_finishes_11 : decode cX11_finishes 11 = .ok (.getfield 7, 3) := by decide +kernel
theorem dX11_finishes_14 : decode cX11_finishes 14 = .ok (.iconst 0, 1) := by decide +kernel
theorem dX11_finishes_15 : decode cX11_finishes 15 = .ok (.iaload, 1) := by decide +kernel
theorem dX11_finishes_16 : decode cX11_finishes 16 = .ok (.invokevirtual 85, 3) := by decide +kernel
theorem dX11_finishes_19 : decode cX11_finishes 19 = .ok (.ireturn, 1) := by decide +kernel
theorem dX11_finishes_20 : decode cX11_finishes 20 = .ok (.aload_n 0, 1) := by decide +kernel
theorem dX11_finishes_21 : decode cX11_finishes 21 = .ok (.getfield 7, 3) := by decide +kernel
theorem dX11_finishes_24 : decode cX11_finishes 24 = .ok (.bipush 42, 2) := by decide +kernel
theorem dX11_finishes_26 : decode cX11_finishes 26 = .ok (.iload_n 1, 1) := by decide +kernel
theorem dX11_finishes_27 : decode cX11_finishes 27 = .ok (.iadd, 1) := by decide +kernel
theorem dX11_finishes_28 : decode cX11_finishes 28 = .ok (.iaload, 1) := by decide +kernel
theorem dX11_finishes_29 : decode cX11_finishes 29 = .ok (.ifCond .ne 11, 3) := by decide +kernel
theorem dX11_finishes_32 : decode cX11_finishes 32 = .ok (.aload_n 0, 1) := by decide +kernel
theorem dX11_finishes_33 : decode cX11_finishes 33 = .ok (.bipush 7, 2) := by decide +kernel
theorem dX11_finishes_35 : decode cX11_finishes 35 = .ok (.iconst 0, 1) := by decide +kernel
theorem dX11_finishes_36 : decode cX11_finishes 36 = .ok (.invokevirtual 85, 3) := by decide +kernel
theorem dX11_finishes_39 : decode cX11_finishes 39 = .ok (.ireturn, 1) := by decide +kernel
theorem dX11_finishes_40 : decode cX11_finishes 40 = .ok (.aload_n 0, 1) := by decide +kernel
theorem dX11_finishes_41 : decode cX11_finishes 41 = .ok (.iload_n 1, 1) := by decide +kernel
theorem dX11_finishes_42 : decode cX11_finishes 42 = .ok (.iload_n 2, 1) := by decide +kernel
theorem dX11_finishes_43 : decode cX11_finishes 43 = .ok (.invokevirtual 143, 3) := by decide +kernel
theorem dX11_finishes_46 : decode cX11_finishes 46 = .ok (.ifCond .ne 19, 3) := by decide +kernel
theorem dX11_finishes_49 : decode cX11_finishes 49 = .ok (.aload_n 0, 1) := by decide +kernel
theorem dX11_finishes_50 : decode cX11_finishes 50 = .ok (.bipush 8, 2) := by decide +kernel
theorem dX11_finishes_52 : decode cX11_finishes 52 = .ok (.aload_n 0, 1) := by decide +kernel
theorem dX11_finishes_53 : decode cX11_finishes 53 = .ok (.getfield 7, 3) := by decide +kernel
theorem dX11_finishes_56 : decode cX11_finishes 56 = .ok (.bipush 18, 2) := by decide +kernel
theorem dX11_finishes_58 : decode cX11_finishes 58 = .ok (.iload_n 1, 1) := by decide +kernel
theorem dX11_finishes_59 : decode cX11_finishes 59 = .ok (.iadd, 1) := by decide +kernel
theorem dX11_finishes_60 : decode cX11_finishes 60 = .ok (.iaload, 1) := by decide +kernel
theorem dX11_finishes_61 : decode cX11_finishes 61 = .ok (.invokevirtual 85, 3) := by decide +kernel
theorem dX11_finishes_64 : decode cX11_finishes 64 = .ok (.ireturn, 1) := by decide +kernel
theorem dX11_finishes_65 : decode cX11_finishes 65 = .ok (.aload_n 0, 1) := by decide +kernel
theorem dX11_finishes_66 : decode cX11_finishes 66 = .ok (.getfield 7, 3) := by decide +kernel
theorem dX11_finishes_69 : decode cX11_finishes 69 = .ok (.bipush 50, 2) := by decide +kernel
theorem dX11_finishes_71 : decode cX11_finishes 71 = .ok (.iload_n 1, 1) := by decide +kernel
theorem dX11_finishes_72 : decode cX11_finishes 72 = .ok (.iadd, 1) := by decide +kernel
theorem dX11_finishes_73 : decode cX11_finishes 73 = .ok (.iaload, 1) := by decide +kernel
theorem dX11_finishes_74 : decode cX11_finishes 74 = .ok (.iload_n 2, 1) := by decide +kernel
theorem dX11_finishes_75 : decode cX11_finishes 75 = .ok (.ishr, 1) := by decide +kernel
theorem dX11_finishes_76 : decode cX11_finishes 76 = .ok (.iconst 1, 1) := by decide +kernel
theorem dX11_finishes_77 : decode cX11_finishes 77 = .ok (.iand, 1) := by decide +kernel
theorem dX11_finishes_78 : decode cX11_finishes 78 = .ok (.ifCond .ne 11, 3) := by decide +kernel
theorem dX11_finishes_81 : decode cX11_finishes 81 = .ok (.aload_n 0, 1) := by decide +kernel
theorem dX11_finishes_82 : decode cX11_finishes 82 = .ok (.bipush 9, 2) := by decide +kernel
theorem dX11_finishes_84 : decode cX11_finishes 84 = .ok (.iload_n 2, 1) := by decide +kernel
theorem dX11_finishes_85 : decode cX11_finishes 85 = .ok (.invokevirtual 85, 3) := by decide +kernel
theorem dX11_finishes_88 : decode cX11_finishes 88 = .ok (.ireturn, 1) := by decide +kernel
theorem dX11_finishes_89 : decode cX11_finishes 89 = .ok (.aload_n 0, 1) := by decide +kernel
theorem dX11_finishes_90 : decode cX11_finishes 90 = .ok (.iload_n 1, 1) := by decide +kernel
theorem dX11_finishes_91 : decode cX11_finishes 91 = .ok (.iconst 1, 1) := by decide +kernel
theorem dX11_finishes_92 : decode cX11_finishes 92 = .ok (.iload_n 2, 1) := by decide +kernel
theorem dX11_finishes_93 : decode cX11_finishes 93 = .ok (.ishl, 1) := by decide +kernel
theorem dX11_finishes_94 : decode cX11_finishes 94 = .ok (.invokevirtual 133, 3) := by decide +kernel
theorem dX11_finishes_97 : decode cX11_finishes 97 = .ok (.istore_n 3, 1) := by decide +kernel
theorem dX11_finishes_98 : decode cX11_finishes 98 = .ok (.aload_n 0, 1) := by decide +kernel
theorem dX11_finishes_99 : decode cX11_finishes 99 = .ok (.invokevirtual 147, 3) := by decide +kernel
theorem dX11_finishes_102 : decode cX11_finishes 102 = .ok (.iconst (-1), 1) := by decide +kernel
theorem dX11_finishes_103 : decode cX11_finishes 103 = .ok (.if_icmp .eq 14, 3) := by decide +kernel
theorem dX11_finishes_106 : decode cX11_finishes 106 = .ok (.aload_n 0, 1) := by decide +kernel
theorem dX11_finishes_107 : decode cX11_finishes 107 = .ok (.bipush 10, 2) := by decide +kernel
theorem dX11_finishes_109 : decode cX11_finishes 109 = .ok (.aload_n 0, 1) := by decide +kernel
theorem dX11_finishes_110 : decode cX11_finishes 110 = .ok (.invokevirtual 147, 3) := by decide +kernel
theorem dX11_finishes_113 : decode cX11_finishes 113 = .ok (.invokevirtual 85, 3) := by decide +kernel
theorem dX11_finishes_116 : decode cX11_finishes 116 = .ok (.ireturn, 1) := by decide +kernel
theorem dX11_finishes_117 : decode cX11_finishes 117 = .ok (.aload_n 0, 1) := by decide +kernel
theorem dX11_finishes_118 : decode cX11_finishes 118 = .ok (.iconst (-1), 1) := by decide +kernel
theorem dX11_finishes_119 : decode cX11_finishes 119 = .ok (.invokevirtual 136, 3) := by decide +kernel
theorem dX11_finishes_122 : decode cX11_finishes 122 = .ok (.aload_n 0, 1) := by decide +kernel
theorem dX11_finishes_123 : decode cX11_finishes 123 = .ok (.getfield 7, 3) := by decide +kernel
theorem dX11_finishes_126 : decode cX11_finishes 126 = .ok (.bipush 50, 2) := by decide +kernel
theorem dX11_finishes_128 : decode cX11_finishes 128 = .ok (.iload_n 1, 1) := by decide +kernel
theorem dX11_finishes_129 : decode cX11_finishes 129 = .ok (.iadd, 1) := by decide +kernel
theorem dX11_finishes_130 : decode cX11_finishes 130 = .ok (.dup2, 1) := by decide +kernel
theorem dX11_finishes_131 : decode cX11_finishes 131 = .ok (.iaload, 1) := by decide +kernel
theorem dX11_finishes_132 : decode cX11_finishes 132 = .ok (.iconst 1, 1) := by decide +kernel
theorem dX11_finishes_133 : decode cX11_finishes 133 = .ok (.iload_n 2, 1) := by decide +kernel
theorem dX11_finishes_134 : decode cX11_finishes 134 = .ok (.ishl, 1) := by decide +kernel
theorem dX11_finishes_135 : decode cX11_finishes 135 = .ok (.iconst (-1), 1) := by decide +kernel
theorem dX11_finishes_136 : decode cX11_finishes 136 = .ok (.ixor, 1) := by decide +kernel
theorem dX11_finishes_137 : decode cX11_finishes 137 = .ok (.iand, 1) := by decide +kernel
theorem dX11_finishes_138 : decode cX11_finishes 138 = .ok (.iastore, 1) := by decide +kernel
theorem dX11_finishes_139 : decode cX11_finishes 139 = .ok (.aload_n 0, 1) := by decide +kernel
theorem dX11_finishes_140 : decode cX11_finishes 140 = .ok (.getfield 7, 3) := by decide +kernel
theorem dX11_finishes_143 : decode cX11_finishes 143 = .ok (.iconst 4, 1) := by decide +kernel
theorem dX11_finishes_144 : decode cX11_finishes 144 = .ok (.dup2, 1) := by decide +kernel
theorem dX11_finishes_145 : decode cX11_finishes 145 = .ok (.iaload, 1) := by decide +kernel
theorem dX11_finishes_146 : decode cX11_finishes 146 = .ok (.iconst 1, 1) := by decide +kernel
theorem dX11_finishes_147 : decode cX11_finishes 147 = .ok (.iadd, 1) := by decide +kernel
theorem dX11_finishes_148 : decode cX11_finishes 148 = .ok (.iastore, 1) := by decide +kernel
theorem dX11_finishes_149 : decode cX11_finishes 149 = .ok (.aload_n 0, 1) := by decide +kernel
theorem dX11_finishes_150 : decode cX11_finishes 150 = .ok (.aload_n 0, 1) := by decide +kernel
theorem dX11_finishes_151 : decode cX11_finishes 151 = .ok (.getfield 7, 3) := by decide +kernel
theorem dX11_finishes_154 : decode cX11_finishes 154 = .ok (.bipush 50, 2) := by decide +kernel
theorem dX11_finishes_156 : decode cX11_finishes 156 = .ok (.iload_n 1, 1) := by decide +kernel
theorem dX11_finishes_157 : decode cX11_finishes 157 = .ok (.iadd, 1) := by decide +kernel
theorem dX11_finishes_158 : decode cX11_finishes 158 = .ok (.iaload, 1) := by decide +kernel
theorem dX11_finishes_159 : decode cX11_finishes 159 = .ok (.invokestatic 91, 3) := by decide +kernel
theorem dX11_finishes_162 : decode cX11_finishes 162 = .ok (.invokevirtual 94, 3) := by decide +kernel
theorem dX11_finishes_165 : decode cX11_finishes 165 = .ok (.ireturn, 1) := by decide +kernel
set_option maxRecDepth 20000 in
theorem ggX11_finish_X11_looksBack : GoodIn wsX11_finish wsX11_looksBack := goodIn_ca (goodIn_r _ [5, 6, 7, 8, 9, 4, 10, 68, 69, 70, 71, 72, 73, 74, 75, 76, 77, 78, 79, 80, 81, 82, 83, 84, 85, 86] (by decide +kernel) (by decide +kernel)) (goodIn_sub (fun _ h => List.mem_cons_of_mem _ (List.mem_append_right _ h)) (by decide +kernel))
set_option maxRecDepth 20000 in
theorem gX11_finish_X11_looksBack : GoodIn wsX11_finish (wsV RX11 97 RX11 yX11_looksBack wsX11_looksBack) := goodIn_app (goodIn_of _ (by decide +kernel)) ggX11_finish_X11_looksBack
set_option maxRecDepth 20000 in
theorem ggX11_finish_X11_finishes : GoodIn wsX11_finish wsX11_finishes := goodIn_ca (goodIn_r _ [14, 6, 15, 16, 17, 4, 18, 19, 20, 21, 22, 23, 24, 25, 26, 27, 28, 29, 30, 31, 32, 33, 34, 35, 36, 37, 38, 39, 40, 41, 42, 43, 44, 45, 46, 47, 48, 49, 50, 51, 52, 53, 54, 55, 56, 57, 58, 59, 60, 61, 68, 69, 70, 71, 72, 73, 74, 75, 76, 77, 78, 79, 80, 81, 82, 83, 84, 85, 86] (by decide +kernel) (by decide +kernel)) (goodIn_sub (fun _ h => List.mem_cons_of_mem _ (List.mem_append_right _ h)) (by decide +kernel))
set_option maxRecDepth 20000 in
theorem gX11_finish_X11_finishes : GoodIn wsX11_finish (wsV RX11 151 RX11 yX11_finishes wsX11_finishes) := goodIn_app (goodIn_of _ (by decide +kernel)) ggX11_finish_X11_finishes
set_option maxRecDepth 20000 in
theorem ggX11_finish_X11_kept : GoodIn wsX11_finish wsX11_kept := goodIn_ca (goodIn_r _ [65, 33, 7, 6, 66, 67, 8, 9, 4, 10, 68, 69, 70, 71, 72, 73, 74, 75, 76, 77, 78, 79, 80, 81, 82, 83, 84, 85, 86] (by decide +kernel) (by decide +kernel)) (goodIn_sub (fun _ h => List.mem_cons_of_mem _ (List.mem_append_right _ h)) (by decide +kernel))
set_option maxRecDepth 20000 in
theorem gX11_finish_X11_kept : GoodIn wsX11_finish (wsV RX11 103 RX11 yX11_kept wsX11_kept) := goodIn_app (goodIn_of _ (by decide +kernel)) ggX11_finish_X11_kept
theorem dX11_finish_0 : decode cX11_finish 0 = .ok (.aload_n 0, 1) := by decide +kernel
theorem dX11_finish_1 : decode cX11_finish 1 = .ok (.invokevirtual 97, 3) := by decide +kernel
theorem dX11_finish_4 : decode cX11_finish 4 = .ok (.aload_n 0, 1) := by decide +kernel
theorem dX11_finish_5 : decode cX11_finish 5 = .ok (.aload_n 0, 1) := by decide +kernel
theorem dX11_finish_6 : decode cX11_finish 6 = .ok (.iload_n 1, 1) := by decide +kernel
theorem dX11_finish_7 : decode cX11_finish 7 = .ok (.iload_n 2, 1) := by decide +kernel
theorem dX11_finish_8 : decode cX11_finish 8 = .ok (.invokevirtual 151, 3) := by decide +kernel
theorem dX11_finish_11 : decode cX11_finish 11 = .ok (.invokevirtual 103, 3) := by decide +kernel
theorem dX11_finish_14 : decode cX11_finish 14 = .ok (.ireturn, 1) := by decide +kernel
set_option maxRecDepth 20000 in
theorem ggX11_takesApart_X11_isLeaflet : GoodIn wsX11_takesApart wsX11_isLeaflet := goodIn_ca (goodIn_r _ [6, 1, 7, 8, 5, 9, 43, 44, 45, 46, 47, 48, 49, 50, 51, 52, 53, 54, 55, 56, 57, 58, 59, 60, 61] (by decide +kernel) (by decide +kernel)) (goodIn_sub (fun _ h => List.mem_cons_of_mem _ (List.mem_append_right _ h)) (by decide +kernel))
set_option maxRecDepth 20000 in
theorem gX11_takesApart_X11_isLeaflet : GoodIn wsX11_takesApart (wsV RX11 106 RX11 yX11_isLeaflet wsX11_isLeaflet) := goodIn_app (goodIn_of _ (by decide +kernel)) ggX11_takesApart_X11_isLeaflet
set_option maxRecDepth 20000 in
theorem ggX11_takesApart_X11_refused : GoodIn wsX11_takesApart wsX11_refused := goodIn_r _ [13, 14, 15, 16, 17, 18, 19, 5, 20, 21, 43, 44, 45, 46, 47, 48, 49, 50, 51, 52, 53, 54, 55, 56, 57, 58, 59, 60, 61] (by decide +kernel) (by decide +kernel)
set_option maxRecDepth 20000 in
theorem gX11_takesApart_X11_refused : GoodIn wsX11_takesApart (wsV RX11 85 RX11 yX11_refused wsX11_refused) := goodIn_app (goodIn_of _ (by decide +kernel)) ggX11_takesApart_X11_refused
set_option maxRecDepth 20000 in
theorem ggX11_takesApart_X11_needsFor : GoodIn wsX11_takesApart wsX11_needsFor := goodIn_ca (goodIn_r _ [25, 26, 1, 27, 28, 29, 5, 30, 43, 44, 45, 46, 47, 48, 49, 50, 51, 52, 53, 54, 55, 56, 57, 58, 59, 60, 61] (by decide +kernel) (by decide +kernel)) (goodIn_sub (fun _ h => List.mem_cons_of_mem _ (List.mem_append_right _ h)) (by decide +kernel))
set_option maxRecDepth 20000 in
theorem gX11_takesApart_X11_needsFor : GoodIn wsX11_takesApart (wsV RX11 133 RX11 yX11_needsFor wsX11_needsFor) := goodIn_app (goodIn_of _ (by decide +kernel)) ggX11_takesApart_X11_needsFor
set_option maxRecDepth 20000 in
theorem ggX11_takesApart_X11_lacking : GoodIn wsX11_takesApart wsX11_lacking := goodIn_ca (goodIn_r _ [34, 1, 26, 43, 44, 45, 46, 47, 48, 49, 50, 51, 52, 53, 54, 55, 56, 57, 58, 59, 60, 61] (by decide +kernel) (by decide +kernel)) (goodIn_sub (fun _ h => List.mem_cons_of_mem _ (List.mem_append_right _ h)) (by decide +kernel))
set_option maxRecDepth 20000 in
theorem gX11_takesApart_X11_lacking : GoodIn wsX11_takesApart (wsV RX11 147 RX11 yX11_lacking wsX11_lacking) := goodIn_app (goodIn_of _ (by decide +kernel)) ggX11_takesApart_X11_lacking
set_option maxRecDepth 20000 in
theorem ggX11_takesApart_X11_tinGets : GoodIn wsX11_takesApart wsX11_tinGets := goodIn_ca (goodIn_r _ [38, 1, 26, 43, 44, 45, 46, 47, 48, 49, 50, 51, 52, 53, 54, 55, 56, 57, 58, 59, 60, 61] (by decide +kernel) (by decide +kernel)) (goodIn_sub (fun _ h => List.mem_cons_of_mem _ (List.mem_append_right _ h)) (by decide +kernel))
set_option maxRecDepth 20000 in
theorem gX11_takesApart_X11_tinGets : GoodIn wsX11_takesApart (wsV RX11 136 RX11 yX11_tinGets wsX11_tinGets) := goodIn_app (goodIn_of _ (by decide +kernel)) ggX11_takesApart_X11_tinGets
set_option maxRecDepth 20000 in
theorem ggX11_takesApart_X11_done : GoodIn wsX11_takesApart wsX11_done := goodIn_r _ [42, 21, 43, 44, 45, 46, 47, 48, 49, 50, 51, 52, 53, 54, 55, 56, 57, 58, 59, 60, 61] (by decide +kernel) (by decide +kernel)
set_option maxRecDepth 20000 in
theorem gX11_takesApart_X11_done : GoodIn wsX11_takesApart (wsV RX11 94 RX11 yX11_done wsX11_done) := goodIn_app (goodIn_of _ (by decide +kernel)) ggX11_takesApart_X11_done
theorem dX11_takesApart_0 : decode cX11_takesApart 0 = .ok (.aload_n 0, 1) := by decide +kernel
theorem dX11_takesApart_1 : decode cX11_takesApart 1 = .ok (.iload_n 1, 1) := by decide +kernel
theorem dX11_takesApart_2 : decode cX11_takesApart 2 = .ok (.invokevirtual 106, 3) := by decide +kernel
theorem dX11_takesApart_5 : decode cX11_takesApart 5 = .ok (.ifCond .ne 15, 3) := by decide +kernel
theorem dX11_takesApart_8 : decode cX11_takesApart 8 = .ok (.aload_n 0, 1) := by decide +kernel
theorem dX11_takesApart_9 : decode cX11_takesApart 9 = .ok (.iconst 3, 1) := by decide +kernel
theorem dX11_takesApart_10 : decode cX11_takesApart 10 = .ok (.aload_n 0, 1) := by decide +kernel
theorem dX11_takesApart_11 : decode cX11_takesApart 11 = .ok (.getfield 7, 3) := by decide +kernel
theorem dX11_takesApart_14 : decode cX11_takesApart 14 = .ok (.iconst 0, 1) := by decide +kernel
theorem dX11_takesApart_15 : decode cX11_takesApart 15 = .ok (.iaload, 1) := by decide +kernel
theorem dX11_takesApart_16 : decode cX11_takesApart 16 = .ok (.invokevirtual 85, 3) := by decide +kernel
theorem dX11_takesApart_19 : decode cX11_takesApart 19 = .ok (.ireturn, 1) := by decide +kernel
theorem dX11_takesApart_20 : decode cX11_takesApart 20 = .ok (.aload_n 0, 1) := by decide +kernel
theorem dX11_takesApart_21 : decode cX11_takesApart 21 = .ok (.getfield 7, 3) := by decide +kernel
theorem dX11_takesApart_24 : decode cX11_takesApart 24 = .ok (.bipush 42, 2) := by decide +kernel
theorem dX11_takesApart_26 : decode cX11_takesApart 26 = .ok (.iload_n 1, 1) := by decide +kernel
theorem dX11_takesApart_27 : decode cX11_takesApart 27 = .ok (.iadd, 1) := by decide +kernel
theorem dX11_takesApart_28 : decode cX11_takesApart 28 = .ok (.iaload, 1) := by decide +kernel
theorem dX11_takesApart_29 : decode cX11_takesApart 29 = .ok (.ifCond .ne 11, 3) := by decide +kernel
theorem dX11_takesApart_32 : decode cX11_takesApart 32 = .ok (.aload_n 0, 1) := by decide +kernel
theorem dX11_takesApart_33 : decode cX11_takesApart 33 = .ok (.bipush 7, 2) := by decide +kernel
theorem dX11_takesApart_35 : decode cX11_takesApart 35 = .ok (.iconst 0, 1) := by decide +kernel
theorem dX11_takesApart_36 : decode cX11_takesApart 36 = .ok (.invokevirtual 85, 3) := by decide +kernel
theorem dX11_takesApart_39 : decode cX11_takesApart 39 = .ok (.ireturn, 1) := by decide +kernel
theorem dX11_takesApart_40 : decode cX11_takesApart 40 = .ok (.aload_n 0, 1) := by decide +kernel
theorem dX11_takesApart_41 : decode cX11_takesApart 41 = .ok (.iload_n 1, 1) := by decide +kernel
theorem dX11_takesApart_42 : decode cX11_takesApart 42 = .ok (.aload_n 0, 1) := by decide +kernel
theorem dX11_takesApart_43 : decode cX11_takesApart 43 = .ok (.getfield 7, 3) := by decide +kernel
theorem dX11_takesApart_46 : decode cX11_takesApart 46 = .ok (.bipush 50, 2) := by decide +kernel
theorem dX11_takesApart_48 : decode cX11_takesApart 48 = .ok (.iload_n 1, 1) := by decide +kernel
theorem dX11_takesApart_49 : decode cX11_takesApart 49 = .ok (.iadd, 1) := by decide +kernel
theorem dX11_takesApart_50 : decode cX11_takesApart 50 = .ok (.iaload, 1) := by decide +kernel
theorem dX11_takesApart_51 : decode cX11_takesApart 51 = .ok (.invokevirtual 133, 3) := by decide +kernel
theorem dX11_takesApart_54 : decode cX11_takesApart 54 = .ok (.istore_n 2, 1) := by decide +kernel
theorem dX11_takesApart_55 : decode cX11_takesApart 55 = .ok (.aload_n 0, 1) := by decide +kernel
theorem dX11_takesApart_56 : decode cX11_takesApart 56 = .ok (.invokevirtual 147, 3) := by decide +kernel
theorem dX11_takesApart_59 : decode cX11_takesApart 59 = .ok (.iconst (-1), 1) := by decide +kernel
theorem dX11_takesApart_60 : decode cX11_takesApart 60 = .ok (.if_icmp .eq 14, 3) := by decide +kernel
theorem dX11_takesApart_63 : decode cX11_takesApart 63 = .ok (.aload_n 0, 1) := by decide +kernel
theorem dX11_takesApart_64 : decode cX11_takesApart 64 = .ok (.bipush 10, 2) := by decide +kernel
theorem dX11_takesApart_66 : decode cX11_takesApart 66 = .ok (.aload_n 0, 1) := by decide +kernel
theorem dX11_takesApart_67 : decode cX11_takesApart 67 = .ok (.invokevirtual 147, 3) := by decide +kernel
theorem dX11_takesApart_70 : decode cX11_takesApart 70 = .ok (.invokevirtual 85, 3) := by decide +kernel
theorem dX11_takesApart_73 : decode cX11_takesApart 73 = .ok (.ireturn, 1) := by decide +kernel
theorem dX11_takesApart_74 : decode cX11_takesApart 74 = .ok (.aload_n 0, 1) := by decide +kernel
theorem dX11_takesApart_75 : decode cX11_takesApart 75 = .ok (.iconst (-1), 1) := by decide +kernel
theorem dX11_takesApart_76 : decode cX11_takesApart 76 = .ok (.invokevirtual 136, 3) := by decide +kernel
theorem dX11_takesApart_79 : decode cX11_takesApart 79 = .ok (.aload_n 0, 1) := by decide +kernel
theorem dX11_takesApart_80 : decode cX11_takesApart 80 = .ok (.getfield 7, 3) := by decide +kernel
theorem dX11_takesApart_83 : decode cX11_takesApart 83 = .ok (.bipush 42, 2) := by decide +kernel
theorem dX11_takesApart_85 : decode cX11_takesApart 85 = .ok (.iload_n 1, 1) := by decide +kernel
theorem dX11_takesApart_86 : decode cX11_takesApart 86 = .ok (.iadd, 1) := by decide +kernel
theorem dX11_takesApart_87 : decode cX11_takesApart 87 = .ok (.iconst 0, 1) := by decide +kernel
theorem dX11_takesApart_88 : decode cX11_takesApart 88 = .ok (.iastore, 1) := by decide +kernel
theorem dX11_takesApart_89 : decode cX11_takesApart 89 = .ok (.aload_n 0, 1) := by decide +kernel
theorem dX11_takesApart_90 : decode cX11_takesApart 90 = .ok (.getfield 7, 3) := by decide +kernel
theorem dX11_takesApart_93 : decode cX11_takesApart 93 = .ok (.bipush 50, 2) := by decide +kernel
theorem dX11_takesApart_95 : decode cX11_takesApart 95 = .ok (.iload_n 1, 1) := by decide +kernel
theorem dX11_takesApart_96 : decode cX11_takesApart 96 = .ok (.iadd, 1) := by decide +kernel
theorem dX11_takesApart_97 : decode cX11_takesApart 97 = .ok (.iconst 0, 1) := by decide +kernel
theorem dX11_takesApart_98 : decode cX11_takesApart 98 = .ok (.iastore, 1) := by decide +kernel
theorem dX11_takesApart_99 : decode cX11_takesApart 99 = .ok (.aload_n 0, 1) := by decide +kernel
theorem dX11_takesApart_100 : decode cX11_takesApart 100 = .ok (.getfield 7, 3) := by decide +kernel
theorem dX11_takesApart_103 : decode cX11_takesApart 103 = .ok (.iconst 5, 1) := by decide +kernel
theorem dX11_takesApart_104 : decode cX11_takesApart 104 = .ok (.dup2, 1) := by decide +kernel
theorem dX11_takesApart_105 : decode cX11_takesApart 105 = .ok (.iaload, 1) := by decide +kernel
theorem dX11_takesApart_106 : decode cX11_takesApart 106 = .ok (.iconst 1, 1) := by decide +kernel
theorem dX11_takesApart_107 : decode cX11_takesApart 107 = .ok (.iadd, 1) := by decide +kernel
theorem dX11_takesApart_108 : decode cX11_takesApart 108 = .ok (.iastore, 1) := by decide +kernel
theorem dX11_takesApart_109 : decode cX11_takesApart 109 = .ok (.aload_n 0, 1) := by decide +kernel
theorem dX11_takesApart_110 : decode cX11_takesApart 110 = .ok (.iload_n 2, 1) := by decide +kernel
theorem dX11_takesApart_111 : decode cX11_takesApart 111 = .ok (.invokevirtual 94, 3) := by decide +kernel
theorem dX11_takesApart_114 : decode cX11_takesApart 114 = .ok (.ireturn, 1) := by decide +kernel
set_option maxRecDepth 20000 in
theorem ggX11_apart_X11_looksBack : GoodIn wsX11_apart wsX11_looksBack := goodIn_ca (goodIn_r _ [5, 6, 7, 8, 9, 4, 10, 61, 62, 63, 64, 65, 66, 67, 68, 69, 70, 71, 72, 73, 74, 75, 76, 77, 78, 79] (by decide +kernel) (by decide +kernel)) (goodIn_sub (fun _ h => List.mem_cons_of_mem _ (List.mem_append_right _ h)) (by decide +kernel))
set_option maxRecDepth 20000 in
theorem gX11_apart_X11_looksBack : GoodIn wsX11_apart (wsV RX11 97 RX11 yX11_looksBack wsX11_looksBack) := goodIn_app (goodIn_of _ (by decide +kernel)) ggX11_apart_X11_looksBack
set_option maxRecDepth 20000 in
theorem ggX11_apart_X11_takesApart : GoodIn wsX11_apart wsX11_takesApart := goodIn_ca (goodIn_r _ [14, 6, 15, 16, 17, 4, 18, 19, 20, 21, 22, 23, 24, 25, 26, 27, 28, 29, 30, 31, 32, 33, 34, 35, 36, 37, 38, 39, 40, 41, 42, 43, 44, 45, 46, 47, 48, 49, 50, 51, 52, 53, 54, 61, 62, 63, 64, 65, 66, 67, 68, 69, 70, 71, 72, 73, 74, 75, 76, 77, 78, 79] (by decide +kernel) (by decide +kernel)) (goodIn_sub (fun _ h => List.mem_cons_of_mem _ (List.mem_append_right _ h)) (by decide +kernel))
set_option maxRecDepth 20000 in
theorem gX11_apart_X11_takesApart : GoodIn wsX11_apart (wsV RX11 154 RX11 yX11_takesApart wsX11_takesApart) := goodIn_app (goodIn_of _ (by decide +kernel)) ggX11_apart_X11_takesApart
set_option maxRecDepth 20000 in
theorem ggX11_apart_X11_kept : GoodIn wsX11_apart wsX11_kept := goodIn_ca (goodIn_r _ [58, 33, 7, 6, 59, 60, 8, 9, 4, 10, 61, 62, 63, 64, 65, 66, 67, 68, 69, 70, 71, 72, 73, 74, 75, 76, 77, 78, 79] (by decide +kernel) (by decide +kernel)) (goodIn_sub (fun _ h => List.mem_cons_of_mem _ (List.mem_append_right _ h)) (by decide +kernel))
set_option maxRecDepth 20000 in
theorem gX11_apart_X11_kept : GoodIn wsX11_apart (wsV RX11 103 RX11 yX11_kept wsX11_kept) := goodIn_app (goodIn_of _ (by decide +kernel)) ggX11_apart_X11_kept
theorem dX11_apart_0 : decode cX11_apart 0 = .ok (.aload_n 0, 1) := by decide +kernel
theorem dX11_apart_1 : decode cX11_apart 1 = .ok (.invokevirtual 97, 3) := by decide +kernel
theorem dX11_apart_4 : decode cX11_apart 4 = .ok (.aload_n 0, 1) := by decide +kernel
theorem dX11_apart_5 : decode cX11_apart 5 = .ok (.aload_n 0, 1) := by decide +kernel
theorem dX11_apart_6 : decode cX11_apart 6 = .ok (.iload_n 1, 1) := by decide +kernel
theorem dX11_apart_7 : decode cX11_apart 7 = .ok (.invokevirtual 154, 3) := by decide +kernel
theorem dX11_apart_10 : decode cX11_apart 10 = .ok (.invokevirtual 103, 3) := by decide +kernel
theorem dX11_apart_13 : decode cX11_apart 13 = .ok (.ireturn, 1) := by decide +kernel
set_option maxRecDepth 20000 in
theorem ggX11_moves_X11_isLeaflet : GoodIn wsX11_moves wsX11_isLeaflet := goodIn_ca (goodIn_r _ [6, 1, 7, 8, 5, 9, 36, 37, 38, 39, 40, 41, 42, 43, 44, 45, 46, 47, 48, 49, 50, 51, 52, 53, 54] (by decide +kernel) (by decide +kernel)) (goodIn_sub (fun _ h => List.mem_cons_of_mem _ (List.mem_append_right _ h)) (by decide +kernel))
set_option maxRecDepth 20000 in
theorem gX11_moves_X11_isLeaflet : GoodIn wsX11_moves (wsV RX11 106 RX11 yX11_isLeaflet wsX11_isLeaflet) := goodIn_app (goodIn_of _ (by decide +kernel)) ggX11_moves_X11_isLeaflet
set_option maxRecDepth 20000 in
theorem ggX11_moves_X11_refused : GoodIn wsX11_moves wsX11_refused := goodIn_r _ [13, 14, 15, 16, 17, 18, 19, 5, 20, 21, 36, 37, 38, 39, 40, 41, 42, 43, 44, 45, 46, 47, 48, 49, 50, 51, 52, 53, 54] (by decide +kernel) (by decide +kernel)
set_option maxRecDepth 20000 in
theorem gX11_moves_X11_refused : GoodIn wsX11_moves (wsV RX11 85 RX11 yX11_refused wsX11_refused) := goodIn_app (goodIn_of _ (by decide +kernel)) ggX11_moves_X11_refused
set_option maxRecDepth 20000 in
theorem ggX11_moves_X11_isShelf : GoodIn wsX11_moves wsX11_isShelf := goodIn_r _ [24, 7, 8, 5, 9] (by decide +kernel) (by decide +kernel)
set_option maxRecDepth 20000 in
theorem gX11_moves_X11_isShelf : GoodIn wsX11_moves (va_wsS RX11 81 yX11_isShelf wsX11_isShelf) := goodIn_app (goodIn_of _ (by decide +kernel)) ggX11_moves_X11_isShelf
set_option maxRecDepth 20000 in
theorem ggX11_moves_X11_boxesOn : GoodIn wsX11_moves wsX11_boxesOn := goodIn_ca (goodIn_r _ [28, 1, 36, 37, 38, 39, 40, 41, 42, 43, 44, 45, 46, 47, 48, 49, 50, 51, 52, 53, 54] (by decide +kernel) (by decide +kernel)) (goodIn_sub (fun _ h => List.mem_cons_of_mem _ (List.mem_append_right _ h)) (by decide +kernel))
set_option maxRecDepth 20000 in
theorem gX11_moves_X11_boxesOn : GoodIn wsX11_moves (wsV RX11 88 RX11 yX11_boxesOn wsX11_boxesOn) := goodIn_app (goodIn_of _ (by decide +kernel)) ggX11_moves_X11_boxesOn
set_option maxRecDepth 20000 in
theorem ggX11_moves_X11_bits : GoodIn wsX11_moves wsX11_bits := goodIn_r _ [31] (by decide +kernel) (by decide +kernel)
set_option maxRecDepth 20000 in
theorem gX11_moves_X11_bits : GoodIn wsX11_moves (va_wsS RX11 91 yX11_bits wsX11_bits) := goodIn_app (goodIn_of _ (by decide +kernel)) ggX11_moves_X11_bits
set_option maxRecDepth 20000 in
theorem ggX11_moves_X11_done : GoodIn wsX11_moves wsX11_done := goodIn_r _ [35, 21, 36, 37, 38, 39, 40, 41, 42, 43, 44, 45, 46, 47, 48, 49, 50, 51, 52, 53, 54] (by decide +kernel) (by decide +kernel)
set_option maxRecDepth 20000 in
theorem gX11_moves_X11_done : GoodIn wsX11_moves (wsV RX11 94 RX11 yX11_done wsX11_done) := goodIn_app (goodIn_of _ (by decide +kernel)) ggX11_moves_X11_done
theorem dX11_moves_0 : decode cX11_moves 0 = .ok (.aload_n 0, 1) := by decide +kernel
theorem dX11_moves_1 : decode cX11_moves 1 = .ok (.iload_n 1, 1) := by decide +kernel
theorem dX11_moves_2 : decode cX11_moves 2 = .ok (.invokevirtual 106, 3) := by decide +kernel
theorem dX11_moves_5 : decode cX11_moves 5 = .ok (.ifCond .ne 15, 3) := by decide +kernel
theorem dX11_moves_8 : decode cX11_moves 8 = .ok (.aload_n 0, 1) := by decide +kernel
theorem dX11_moves_9 : decode cX11_moves 9 = .ok (.iconst 3, 1) := by decide +kernel
theorem dX11_moves_10 : decode cX11_moves 10 = .ok (.aload_n 0, 1) := by decide +kernel
theorem dX11_moves_11 : decode cX11_moves 11 = .ok (.getfield 7, 3) := by decide +kernel
theorem dX11_moves_14 : decode cX11_moves 14 = .ok (.iconst 0, 1) := by decide +kernel
theorem dX11_moves_15 : decode cX11_moves 15 = .ok (.iaload, 1) := by decide +kernel
theorem dX11_moves_16 : decode cX11_moves 16 = .ok (.invokevirtual 85, 3) := by decide +kernel
theorem dX11_moves_19 : decode cX11_moves 19 = .ok (.ireturn, 1) := by decide +kernel
theorem dX11_moves_20 : decode cX11_moves 20 = .ok (.iload_n 2, 1) := by decide +kernel
theorem dX11_moves_21 : decode cX11_moves 21 = .ok (.invokestatic 81, 3) := by decide +kernel
theorem dX11_moves_24 : decode cX11_moves 24 = .ok (.ifCond .ne 10, 3) := by decide +kernel
theorem dX11_moves_27 : decode cX11_moves 27 = .ok (.aload_n 0, 1) := by decide +kernel
theorem dX11_moves_28 : decode cX11_moves 28 = .ok (.iconst 1, 1) := by decide +kernel
theorem dX11_moves_29 : decode cX11_moves 29 = .ok (.iconst 0, 1) := by decide +kernel
theorem dX11_moves_30 : decode cX11_moves 30 = .ok (.invokevirtual 85, 3) := by decide +kernel
theorem dX11_moves_33 : decode cX11_moves 33 = .ok (.ireturn, 1) := by decide +kernel
theorem dX11_moves_34 : decode cX11_moves 34 = .ok (.aload_n 0, 1) := by decide +kernel
theorem dX11_moves_35 : decode cX11_moves 35 = .ok (.getfield 7, 3) := by decide +kernel
theorem dX11_moves_38 : decode cX11_moves 38 = .ok (.bipush 34, 2) := by decide +kernel
theorem dX11_moves_40 : decode cX11_moves 40 = .ok (.iload_n 1, 1) := by decide +kernel
theorem dX11_moves_41 : decode cX11_moves 41 = .ok (.iadd, 1) := by decide +kernel
theorem dX11_moves_42 : decode cX11_moves 42 = .ok (.iaload, 1) := by decide +kernel
theorem dX11_moves_43 : decode cX11_moves 43 = .ok (.istore_n 3, 1) := by decide +kernel
theorem dX11_moves_44 : decode cX11_moves 44 = .ok (.iload_n 3, 1) := by decide +kernel
theorem dX11_moves_45 : decode cX11_moves 45 = .ok (.iload_n 2, 1) := by decide +kernel
theorem dX11_moves_46 : decode cX11_moves 46 = .ok (.if_icmp .ne 11, 3) := by decide +kernel
theorem dX11_moves_49 : decode cX11_moves 49 = .ok (.aload_n 0, 1) := by decide +kernel
theorem dX11_moves_50 : decode cX11_moves 50 = .ok (.bipush 12, 2) := by decide +kernel
theorem dX11_moves_52 : decode cX11_moves 52 = .ok (.iload_n 2, 1) := by decide +kernel
theorem dX11_moves_53 : decode cX11_moves 53 = .ok (.invokevirtual 85, 3) := by decide +kernel
theorem dX11_moves_56 : decode cX11_moves 56 = .ok (.ireturn, 1) := by decide +kernel
theorem dX11_moves_57 : decode cX11_moves 57 = .ok (.aload_n 0, 1) := by decide +kernel
theorem dX11_moves_58 : decode cX11_moves 58 = .ok (.iload_n 2, 1) := by decide +kernel
theorem dX11_moves_59 : decode cX11_moves 59 = .ok (.invokevirtual 88, 3) := by decide +kernel
theorem dX11_moves_62 : decode cX11_moves 62 = .ok (.invokestatic 91, 3) := by decide +kernel
theorem dX11_moves_65 : decode cX11_moves 65 = .ok (.iconst 3, 1) := by decide +kernel
theorem dX11_moves_66 : decode cX11_moves 66 = .ok (.if_icmp .ne 10, 3) := by decide +kernel
theorem dX11_moves_69 : decode cX11_moves 69 = .ok (.aload_n 0, 1) := by decide +kernel
theorem dX11_moves_70 : decode cX11_moves 70 = .ok (.iconst 5, 1) := by decide +kernel
theorem dX11_moves_71 : decode cX11_moves 71 = .ok (.iload_n 2, 1) := by decide +kernel
theorem dX11_moves_72 : decode cX11_moves 72 = .ok (.invokevirtual 85, 3) := by decide +kernel
theorem dX11_moves_75 : decode cX11_moves 75 = .ok (.ireturn, 1) := by decide +kernel
theorem dX11_moves_76 : decode cX11_moves 76 = .ok (.aload_n 0, 1) := by decide +kernel
theorem dX11_moves_77 : decode cX11_moves 77 = .ok (.getfield 7, 3) := by decide +kernel
theorem dX11_moves_80 : decode cX11_moves 80 = .ok (.bipush 34, 2) := by decide +kernel
theorem dX11_moves_82 : decode cX11_moves 82 = .ok (.iload_n 1, 1) := by decide +kernel
theorem dX11_moves_83 : decode cX11_moves 83 = .ok (.iadd, 1) := by decide +kernel
theorem dX11_moves_84 : decode cX11_moves 84 = .ok (.iload_n 2, 1) := by decide +kernel
theorem dX11_moves_85 : decode cX11_moves 85 = .ok (.iastore, 1) := by decide +kernel
theorem dX11_moves_86 : decode cX11_moves 86 = .ok (.aload_n 0, 1) := by decide +kernel
theorem dX11_moves_87 : decode cX11_moves 87 = .ok (.iload_n 3, 1) := by decide +kernel
theorem dX11_moves_88 : decode cX11_moves 88 = .ok (.invokevirtual 94, 3) := by decide +kernel
theorem dX11_moves_91 : decode cX11_moves 91 = .ok (.ireturn, 1) := by decide +kernel
set_option maxRecDepth 20000 in
theorem ggX11_move_X11_looksBack : GoodIn wsX11_move wsX11_looksBack := goodIn_ca (goodIn_r _ [5, 6, 7, 8, 9, 4, 10, 54, 55, 56, 57, 58, 59, 60, 61, 62, 63, 64, 65, 66, 67, 68, 69, 70, 71, 72] (by decide +kernel) (by decide +kernel)) (goodIn_sub (fun _ h => List.mem_cons_of_mem _ (List.mem_append_right _ h)) (by decide +kernel))
set_option maxRecDepth 20000 in
theorem gX11_move_X11_looksBack : GoodIn wsX11_move (wsV RX11 97 RX11 yX11_looksBack wsX11_looksBack) := goodIn_app (goodIn_of _ (by decide +kernel)) ggX11_move_X11_looksBack
set_option maxRecDepth 20000 in
theorem ggX11_move_X11_moves : GoodIn wsX11_move wsX11_moves := goodIn_ca (goodIn_r _ [14, 6, 15, 16, 17, 4, 18, 19, 20, 21, 22, 23, 24, 25, 26, 27, 28, 29, 30, 31, 32, 33, 34, 35, 36, 37, 38, 39, 40, 41, 42, 43, 44, 45, 46, 47, 54, 55, 56, 57, 58, 59, 60, 61, 62, 63, 64, 65, 66, 67, 68, 69, 70, 71, 72] (by decide +kernel) (by decide +kernel)) (goodIn_sub (fun _ h => List.mem_cons_of_mem _ (List.mem_append_right _ h)) (by decide +kernel))
set_option maxRecDepth 20000 in
theorem gX11_move_X11_moves : GoodIn wsX11_move (wsV RX11 157 RX11 yX11_moves wsX11_moves) := goodIn_app (goodIn_of _ (by decide +kernel)) ggX11_move_X11_moves
set_option maxRecDepth 20000 in
theorem ggX11_move_X11_kept : GoodIn wsX11_move wsX11_kept := goodIn_ca (goodIn_r _ [51, 33, 7, 6, 52, 53, 8, 9, 4, 10, 54, 55, 56, 57, 58, 59, 60, 61, 62, 63, 64, 65, 66, 67, 68, 69, 70, 71, 72] (by decide +kernel) (by decide +kernel)) (goodIn_sub (fun _ h => List.mem_cons_of_mem _ (List.mem_append_right _ h)) (by decide +kernel))
set_option maxRecDepth 20000 in
theorem gX11_move_X11_kept : GoodIn wsX11_move (wsV RX11 103 RX11 yX11_kept wsX11_kept) := goodIn_app (goodIn_of _ (by decide +kernel)) ggX11_move_X11_kept
theorem dX11_move_0 : decode cX11_move 0 = .ok (.aload_n 0, 1) := by decide +kernel
theorem dX11_move_1 : decode cX11_move 1 = .ok (.invokevirtual 97, 3) := by decide +kernel
theorem dX11_move_4 : decode cX11_move 4 = .ok (.aload_n 0, 1) := by decide +kernel
theorem dX11_move_5 : decode cX11_move 5 = .ok (.aload_n 0, 1) := by decide +kernel
theorem dX11_move_6 : decode cX11_move 6 = .ok (.iload_n 1, 1) := by decide +kernel
theorem dX11_move_7 : decode cX11_move 7 = .ok (.iload_n 2, 1) := by decide +kernel
theorem dX11_move_8 : decode cX11_move 8 = .ok (.invokevirtual 157, 3) := by decide +kernel
theorem dX11_move_11 : decode cX11_move 11 = .ok (.invokevirtual 103, 3) := by decide +kernel
theorem dX11_move_14 : decode cX11_move 14 = .ok (.ireturn, 1) := by decide +kernel
set_option maxRecDepth 20000 in
theorem ggX11_loses_X11_isKind : GoodIn wsX11_loses wsX11_isKind := goodIn_r _ [5, 6, 7, 4, 8] (by decide +kernel) (by decide +kernel)
set_option maxRecDepth 20000 in
theorem gX11_loses_X11_isKind : GoodIn wsX11_loses (va_wsS RX11 109 yX11_isKind wsX11_isKind) := goodIn_app (goodIn_of _ (by decide +kernel)) ggX11_loses_X11_isKind
set_option maxRecDepth 20000 in
theorem ggX11_loses_X11_in : GoodIn wsX11_loses wsX11_in := goodIn_r _ [8] (by decide +kernel) (by decide +kernel)
set_option maxRecDepth 20000 in
theorem gX11_loses_X11_in : GoodIn wsX11_loses (va_wsS RX11 62 yX11_in wsX11_in) := goodIn_app (goodIn_of _ (by decide +kernel)) ggX11_loses_X11_in
set_option maxRecDepth 20000 in
theorem ggX11_loses_X11_refused : GoodIn wsX11_loses wsX11_refused := goodIn_r _ [12, 13, 14, 15, 16, 17, 18, 4, 19, 20, 25, 26, 27, 28, 29, 30, 31, 32, 33, 34, 35, 36, 37, 38, 39, 40, 41, 42, 43] (by decide +kernel) (by decide +kernel)
set_option maxRecDepth 20000 in
theorem gX11_loses_X11_refused : GoodIn wsX11_loses (wsV RX11 85 RX11 yX11_refused wsX11_refused) := goodIn_app (goodIn_of _ (by decide +kernel)) ggX11_loses_X11_refused
set_option maxRecDepth 20000 in
theorem ggX11_loses_X11_done : GoodIn wsX11_loses wsX11_done := goodIn_r _ [24, 20, 25, 26, 27, 28, 29, 30, 31, 32, 33, 34, 35, 36, 37, 38, 39, 40, 41, 42, 43] (by decide +kernel) (by decide +kernel)
set_option maxRecDepth 20000 in
theorem gX11_loses_X11_done : GoodIn wsX11_loses (wsV RX11 94 RX11 yX11_done wsX11_done) := goodIn_app (goodIn_of _ (by decide +kernel)) ggX11_loses_X11_done
theorem dX11_loses_0 : decode cX11_loses 0 = .ok (.iload_n 1, 1) := by decide +kernel
theorem dX11_loses_1 : decode cX11_loses 1 = .ok (.invokestatic 109, 3) := by decide +kernel
theorem dX11_loses_4 : decode cX11_loses 4 = .ok (.ifCond .eq 13, 3) := by decide +kernel
theorem dX11_loses_7 : decode cX11_loses 7 = .ok (.iload_n 2, 1) := by decide +kernel
theorem dX11_loses_8 : decode cX11_loses 8 = .ok (.iconst 1, 1) := by decide +kernel
theorem dX11_loses_9 : decode cX11_loses 9 = .ok (.bipush 9, 2) := by decide +kernel
theorem dX11_loses_11 : decode cX11_loses 11 = .ok (.invokestatic 62, 3) := by decide +kernel
theorem dX11_loses_14 : decode cX11_loses 14 = .ok (.ifCond .ne 10, 3) := by decide +kernel
theorem dX11_loses_17 : decode cX11_loses 17 = .ok (.aload_n 0, 1) := by decide +kernel
theorem dX11_loses_18 : decode cX11_loses 18 = .ok (.iconst 1, 1) := by decide +kernel
theorem dX11_loses_19 : decode cX11_loses 19 = .ok (.iconst 0, 1) := by decide +kernel
theorem dX11_loses_20 : decode cX11_loses 20 = .ok (.invokevirtual 85, 3) := by decide +kernel
theorem dX11_loses_23 : decode cX11_loses 23 = .ok (.ireturn, 1) := by decide +kernel
theorem dX11_loses_24 : decode cX11_loses 24 = .ok (.aload_n 0, 1) := by decide +kernel
theorem dX11_loses_25 : decode cX11_loses 25 = .ok (.getfield 7, 3) := by decide +kernel
theorem dX11_loses_28 : decode cX11_loses 28 = .ok (.bipush 6, 2) := by decide +kernel
theorem dX11_loses_30 : decode cX11_loses 30 = .ok (.iload_n 1, 1) := by decide +kernel
theorem dX11_loses_31 : decode cX11_loses 31 = .ok (.iadd, 1) := by decide +kernel
theorem dX11_loses_32 : decode cX11_loses 32 = .ok (.iaload, 1) := by decide +kernel
theorem dX11_loses_33 : decode cX11_loses 33 = .ok (.iload_n 2, 1) := by decide +kernel
theorem dX11_loses_34 : decode cX11_loses 34 = .ok (.if_icmp .ge 11, 3) := by decide +kernel
theorem dX11_loses_37 : decode cX11_loses 37 = .ok (.aload_n 0, 1) := by decide +kernel
theorem dX11_loses_38 : decode cX11_loses 38 = .ok (.bipush 10, 2) := by decide +kernel
theorem dX11_loses_40 : decode cX11_loses 40 = .ok (.iload_n 1, 1) := by decide +kernel
theorem dX11_loses_41 : decode cX11_loses 41 = .ok (.invokevirtual 85, 3) := by decide +kernel
theorem dX11_loses_44 : decode cX11_loses 44 = .ok (.ireturn, 1) := by decide +kernel
theorem dX11_loses_45 : decode cX11_loses 45 = .ok (.aload_n 0, 1) := by decide +kernel
theorem dX11_loses_46 : decode cX11_loses 46 = .ok (.getfield 7, 3) := by decide +kernel
theorem dX11_loses_49 : decode cX11_loses 49 = .ok (.bipush 6, 2) := by decide +kernel
theorem dX11_loses_51 : decode cX11_loses 51 = .ok (.iload_n 1, 1) := by decide +kernel
theorem dX11_loses_52 : decode cX11_loses 52 = .ok (.iadd, 1) := by decide +kernel
theorem dX11_loses_53 : decode cX11_loses 53 = .ok (.dup2, 1) := by decide +kernel
theorem dX11_loses_54 : decode cX11_loses 54 = .ok (.iaload, 1) := by decide +kernel
theorem dX11_loses_55 : decode cX11_loses 55 = .ok (.iload_n 2, 1) := by decide +kernel
theorem dX11_loses_56 : decode cX11_loses 56 = .ok (.isub, 1) := by decide +kernel
theorem dX11_loses_57 : decode cX11_loses 57 = .ok (.iastore, 1) := by decide +kernel
theorem dX11_loses_58 : decode cX11_loses 58 = .ok (.aload_n 0, 1) := by decide +kernel
theorem dX11_loses_59 : decode cX11_loses 59 = .ok (.getfield 7, 3) := by decide +kernel
theorem dX11_loses_62 : decode cX11_loses 62 = .ok (.bipush 12, 2) := by decide +kernel
theorem dX11_loses_64 : decode cX11_loses 64 = .ok (.iload_n 1, 1) := by decide +kernel
theorem dX11_loses_65 : decode cX11_loses 65 = .ok (.iadd, 1) := by decide +kernel
theorem dX11_loses_66 : decode cX11_loses 66 = .ok (.dup2, 1) := by decide +kernel
theorem dX11_loses_67 : decode cX11_loses 67 = .ok (.iaload, 1) := by decide +kernel
theorem dX11_loses_68 : decode cX11_loses 68 = .ok (.iload_n 2, 1) := by decide +kernel
theorem dX11_loses_69 : decode cX11_loses 69 = .ok (.iadd, 1) := by decide +kernel
theorem dX11_loses_70 : decode cX11_loses 70 = .ok (.iastore, 1) := by decide +kernel
theorem dX11_loses_71 : decode cX11_loses 71 = .ok (.aload_n 0, 1) := by decide +kernel
theorem dX11_loses_72 : decode cX11_loses 72 = .ok (.aload_n 0, 1) := by decide +kernel
theorem dX11_loses_73 : decode cX11_loses 73 = .ok (.getfield 7, 3) := by decide +kernel
theorem dX11_loses_76 : decode cX11_loses 76 = .ok (.bipush 6, 2) := by decide +kernel
theorem dX11_loses_78 : decode cX11_loses 78 = .ok (.iload_n 1, 1) := by decide +kernel
theorem dX11_loses_79 : decode cX11_loses 79 = .ok (.iadd, 1) := by decide +kernel
theorem dX11_loses_80 : decode cX11_loses 80 = .ok (.iaload, 1) := by decide +kernel
theorem dX11_loses_81 : decode cX11_loses 81 = .ok (.invokevirtual 94, 3) := by decide +kernel
theorem dX11_loses_84 : decode cX11_loses 84 = .ok (.ireturn, 1) := by decide +kernel
set_option maxRecDepth 20000 in
theorem ggX11_lose_X11_looksBack : GoodIn wsX11_lose wsX11_looksBack := goodIn_ca (goodIn_r _ [5, 6, 7, 8, 9, 4, 10, 43, 44, 45, 46, 47, 48, 49, 50, 51, 52, 53, 54, 55, 56, 57, 58, 59, 60, 61] (by decide +kernel) (by decide +kernel)) (goodIn_sub (fun _ h => List.mem_cons_of_mem _ (List.mem_append_right _ h)) (by decide +kernel))
set_option maxRecDepth 20000 in
theorem gX11_lose_X11_looksBack : GoodIn wsX11_lose (wsV RX11 97 RX11 yX11_looksBack wsX11_looksBack) := goodIn_app (goodIn_of _ (by decide +kernel)) ggX11_lose_X11_looksBack
set_option maxRecDepth 20000 in
theorem ggX11_lose_X11_loses : GoodIn wsX11_lose wsX11_loses := goodIn_ca (goodIn_r _ [14, 6, 15, 16, 4, 17, 18, 19, 20, 21, 22, 23, 24, 25, 26, 27, 28, 29, 30, 31, 32, 33, 34, 35, 36, 43, 44, 45, 46, 47, 48, 49, 50, 51, 52, 53, 54, 55, 56, 57, 58, 59, 60, 61] (by decide +kernel) (by decide +kernel)) (goodIn_sub (fun _ h => List.mem_cons_of_mem _ (List.mem_append_right _ h)) (by decide +kernel))
set_option maxRecDepth 20000 in
theorem gX11_lose_X11_loses : GoodIn wsX11_lose (wsV RX11 160 RX11 yX11_loses wsX11_loses) := goodIn_app (goodIn_of _ (by decide +kernel)) ggX11_lose_X11_loses
set_option maxRecDepth 20000 in
theorem ggX11_lose_X11_kept : GoodIn wsX11_lose wsX11_kept := goodIn_ca (goodIn_r _ [40, 32, 7, 6, 41, 42, 8, 9, 4, 10, 43, 44, 45, 46, 47, 48, 49, 50, 51, 52, 53, 54, 55, 56, 57, 58, 59, 60, 61] (by decide +kernel) (by decide +kernel)) (goodIn_sub (fun _ h => List.mem_cons_of_mem _ (List.mem_append_right _ h)) (by decide +kernel))
set_option maxRecDepth 20000 in
theorem gX11_lose_X11_kept : GoodIn wsX11_lose (wsV RX11 103 RX11 yX11_kept wsX11_kept) := goodIn_app (goodIn_of _ (by decide +kernel)) ggX11_lose_X11_kept
theorem dX11_lose_0 : decode cX11_lose 0 = .ok (.aload_n 0, 1) := by decide +kernel
theorem dX11_lose_1 : decode cX11_lose 1 = .ok (.invokevirtual 97, 3) := by decide +kernel
theorem dX11_lose_4 : decode cX11_lose 4 = .ok (.aload_n 0, 1) := by decide +kernel
theorem dX11_lose_5 : decode cX11_lose 5 = .ok (.aload_n 0, 1) := by decide +kernel
theorem dX11_lose_6 : decode cX11_lose 6 = .ok (.iload_n 1, 1) := by decide +kernel
theorem dX11_lose_7 : decode cX11_lose 7 = .ok (.iload_n 2, 1) := by decide +kernel
theorem dX11_lose_8 : decode cX11_lose 8 = .ok (.invokevirtual 160, 3) := by decide +kernel
theorem dX11_lose_11 : decode cX11_lose 11 = .ok (.invokevirtual 103, 3) := by decide +kernel
theorem dX11_lose_14 : decode cX11_lose 14 = .ok (.ireturn, 1) := by decide +kernel
set_option maxRecDepth 20000 in
theorem ggX11_findsAgain_X11_isKind : GoodIn wsX11_findsAgain wsX11_isKind := goodIn_r _ [5, 6, 7, 4, 8] (by decide +kernel) (by decide +kernel)
set_option maxRecDepth 20000 in
theorem gX11_findsAgain_X11_isKind : GoodIn wsX11_findsAgain (va_wsS RX11 109 yX11_isKind wsX11_isKind) := goodIn_app (goodIn_of _ (by decide +kernel)) ggX11_findsAgain_X11_isKind
set_option maxRecDepth 20000 in
theorem ggX11_findsAgain_X11_in : GoodIn wsX11_findsAgain wsX11_in := goodIn_r _ [8] (by decide +kernel) (by decide +kernel)
set_option maxRecDepth 20000 in
theorem gX11_findsAgain_X11_in : GoodIn wsX11_findsAgain (va_wsS RX11 62 yX11_in wsX11_in) := goodIn_app (goodIn_of _ (by decide +kernel)) ggX11_findsAgain_X11_in
set_option maxRecDepth 20000 in
theorem ggX11_findsAgain_X11_refused : GoodIn wsX11_findsAgain wsX11_refused := goodIn_r _ [12, 13, 14, 15, 16, 17, 18, 4, 19, 20, 25, 26, 27, 28, 29, 30, 31, 32, 33, 34, 35, 36, 37, 38, 39, 40, 41, 42, 43] (by decide +kernel) (by decide +kernel)
set_option maxRecDepth 20000 in
theorem gX11_findsAgain_X11_refused : GoodIn wsX11_findsAgain (wsV RX11 85 RX11 yX11_refused wsX11_refused) := goodIn_app (goodIn_of _ (by decide +kernel)) ggX11_findsAgain_X11_refused
set_option maxRecDepth 20000 in
theorem ggX11_findsAgain_X11_done : GoodIn wsX11_findsAgain wsX11_done := goodIn_r _ [24, 20, 25, 26, 27, 28, 29, 30, 31, 32, 33, 34, 35, 36, 37, 38, 39, 40, 41, 42, 43] (by decide +kernel) (by decide +kernel)
set_option maxRecDepth 20000 in
theorem gX11_findsAgain_X11_done : GoodIn wsX11_findsAgain (wsV RX11 94 RX11 yX11_done wsX11_done) := goodIn_app (goodIn_of _ (by decide +kernel)) ggX11_findsAgain_X11_done
theorem dX11_findsAgain_0 : decode cX11_findsAgain 0 = .ok (.iload_n 1, 1) := by decide +kernel
theorem dX11_findsAgain_1 : decode cX11_findsAgain 1 = .ok (.invokestatic 109, 3) := by decide +kernel
theorem dX11_findsAgain_4 : decode cX11_findsAgain 4 = .ok (.ifCond .eq 13, 3) := by decide +kernel
theorem dX11_findsAgain_7 : decode cX11_findsAgain 7 = .ok (.iload_n 2, 1) := by decide +kernel
theorem dX11_findsAgain_8 : decode cX11_findsAgain 8 = .ok (.iconst 1, 1) := by decide +kernel
theorem dX11_findsAgain_9 : decode cX11_findsAgain 9 = .ok (.bipush 9, 2) := by decide +kernel
theorem dX11_findsAgain_11 : decode cX11_findsAgain 11 = .ok (.invokestatic 62, 3) := by decide +kernel
theorem dX11_findsAgain_14 : decode cX11_findsAgain 14 = .ok (.ifCond .ne 10, 3) := by decide +kernel
theorem dX11_findsAgain_17 : decode cX11_findsAgain 17 = .ok (.aload_n 0, 1) := by decide +kernel
theorem dX11_findsAgain_18 : decode cX11_findsAgain 18 = .ok (.iconst 1, 1) := by decide +kernel
theorem dX11_findsAgain_19 : decode cX11_findsAgain 19 = .ok (.iconst 0, 1) := by decide +kernel
theorem dX11_findsAgain_20 : decode cX11_findsAgain 20 = .ok (.invokevirtual 85, 3) := by decide +kernel
theorem dX11_findsAgain_23 : decode cX11_findsAgain 23 = .ok (.ireturn, 1) := by decide +kernel
theorem dX11_findsAgain_24 : decode cX11_findsAgain 24 = .ok (.aload_n 0, 1) := by decide +kernel
theorem dX11_findsAgain_25 : decode cX11_findsAgain 25 = .ok (.getfield 7, 3) := by decide +kernel
theorem dX11_findsAgain_28 : decode cX11_findsAgain 28 = .ok (.bipush 12, 2) := by decide +kernel
theorem dX11_findsAgain_30 : decode cX11_findsAgain 30 = .ok (.iload_n 1, 1) := by decide +kernel
theorem dX11_findsAgain_31 : decode cX11_findsAgain 31 = .ok (.iadd, 1) := by decide +kernel
theorem dX11_findsAgain_32 : decode cX11_findsAgain 32 = .ok (.iaload, 1) := by decide +kernel
theorem dX11_findsAgain_33 : decode cX11_findsAgain 33 = .ok (.iload_n 2, 1) := by decide +kernel
theorem dX11_findsAgain_34 : decode cX11_findsAgain 34 = .ok (.if_icmp .ge 19, 3) := by decide +kernel
theorem dX11_findsAgain_37 : decode cX11_findsAgain 37 = .ok (.aload_n 0, 1) := by decide +kernel
theorem dX11_findsAgain_38 : decode cX11_findsAgain 38 = .ok (.bipush 13, 2) := by decide +kernel
theorem dX11_findsAgain_40 : decode cX11_findsAgain 40 = .ok (.aload_n 0, 1) := by decide +kernel
theorem dX11_findsAgain_41 : decode cX11_findsAgain 41 = .ok (.getfield 7, 3) := by decide +kernel
theorem dX11_findsAgain_44 : decode cX11_findsAgain 44 = .ok (.bipush 12, 2) := by decide +kernel
theorem dX11_findsAgain_46 : decode cX11_findsAgain 46 = .ok (.iload_n 1, 1) := by decide +kernel
theorem dX11_findsAgain_47 : decode cX11_findsAgain 47 = .ok (.iadd, 1) := by decide +kernel
theorem dX11_findsAgain_48 : decode cX11_findsAgain 48 = .ok (.iaload, 1) := by decide +kernel
theorem dX11_findsAgain_49 : decode cX11_findsAgain 49 = .ok (.invokevirtual 85, 3) := by decide +kernel
theorem dX11_findsAgain_52 : decode cX11_findsAgain 52 = .ok (.ireturn, 1) := by decide +kernel
theorem dX11_findsAgain_53 : decode cX11_findsAgain 53 = .ok (.aload_n 0, 1) := by decide +kernel
theorem dX11_findsAgain_54 : decode cX11_findsAgain 54 = .ok (.getfield 7, 3) := by decide +kernel
theorem dX11_findsAgain_57 : decode cX11_findsAgain 57 = .ok (.bipush 12, 2) := by decide +kernel
theorem dX11_findsAgain_59 : decode cX11_findsAgain 59 = .ok (.iload_n 1, 1) := by decide +kernel
theorem dX11_findsAgain_60 : decode cX11_findsAgain 60 = .ok (.iadd, 1) := by decide +kernel
theorem dX11_findsAgain_61 : decode cX11_findsAgain 61 = .ok (.dup2, 1) := by decide +kernel
theorem dX11_findsAgain_62 : decode cX11_findsAgain 62 = .ok (.iaload, 1) := by decide +kernel
theorem dX11_findsAgain_63 : decode cX11_findsAgain 63 = .ok (.iload_n 2, 1) := by decide +kernel
theorem dX11_findsAgain_64 : decode cX11_findsAgain 64 = .ok (.isub, 1) := by decide +kernel
theorem dX11_findsAgain_65 : decode cX11_findsAgain 65 = .ok (.iastore, 1) := by decide +kernel
theorem dX11_findsAgain_66 : decode cX11_findsAgain 66 = .ok (.aload_n 0, 1) := by decide +kernel
theorem dX11_findsAgain_67 : decode cX11_findsAgain 67 = .ok (.getfield 7, 3) := by decide +kernel
theorem dX11_findsAgain_70 : decode cX11_findsAgain 70 = .ok (.bipush 6, 2) := by decide +kernel
theorem dX11_findsAgain_72 : decode cX11_findsAgain 72 = .ok (.iload_n 1, 1) := by decide +kernel
theorem dX11_findsAgain_73 : decode cX11_findsAgain 73 = .ok (.iadd, 1) := by decide +kernel
theorem dX11_findsAgain_74 : decode cX11_findsAgain 74 = .ok (.dup2, 1) := by decide +kernel
theorem dX11_findsAgain_75 : decode cX11_findsAgain 75 = .ok (.iaload, 1) := by decide +kernel
theorem dX11_findsAgain_76 : decode cX11_findsAgain 76 = .ok (.iload_n 2, 1) := by decide +kernel
theorem dX11_findsAgain_77 : decode cX11_findsAgain 77 = .ok (.iadd, 1) := by decide +kernel
theorem dX11_findsAgain_78 : decode cX11_findsAgain 78 = .ok (.iastore, 1) := by decide +kernel
theorem dX11_findsAgain_79 : decode cX11_findsAgain 79 = .ok (.aload_n 0, 1) := by decide +kernel
theorem dX11_findsAgain_80 : decode cX11_findsAgain 80 = .ok (.aload_n 0, 1) := by decide +kernel
theorem dX11_findsAgain_81 : decode cX11_findsAgain 81 = .ok (.getfield 7, 3) := by decide +kernel
theorem dX11_findsAgain_84 : decode cX11_findsAgain 84 = .ok (.bipush 12, 2) := by decide +kernel
theorem dX11_findsAgain_86 : decode cX11_findsAgain 86 = .ok (.iload_n 1, 1) := by decide +kernel
theorem dX11_findsAgain_87 : decode cX11_findsAgain 87 = .ok (.iadd, 1) := by decide +kernel
theorem dX11_findsAgain_88 : decode cX11_findsAgain 88 = .ok (.iaload, 1) := by decide +kernel
theorem dX11_findsAgain_89 : decode cX11_findsAgain 89 = .ok (.invokevirtual 94, 3) := by decide +kernel
theorem dX11_findsAgain_92 : decode cX11_findsAgain 92 = .ok (.ireturn, 1) := by decide +kernel
set_option maxRecDepth 20000 in
theorem ggX11_find_X11_looksBack : GoodIn wsX11_find wsX11_looksBack := goodIn_ca (goodIn_r _ [5, 6, 7, 8, 9, 4, 10, 43, 44, 45, 46, 47, 48, 49, 50, 51, 52, 53, 54, 55, 56, 57, 58, 59, 60, 61] (by decide +kernel) (by decide +kernel)) (goodIn_sub (fun _ h => List.mem_cons_of_mem _ (List.mem_append_right _ h)) (by decide +kernel))
set_option maxRecDepth 20000 in
theorem gX11_find_X11_looksBack : GoodIn wsX11_find (wsV RX11 97 RX11 yX11_looksBack wsX11_looksBack) := goodIn_app (goodIn_of _ (by decide +kernel)) ggX11_find_X11_looksBack
set_option maxRecDepth 20000 in
theorem ggX11_find_X11_findsAgain : GoodIn wsX11_find wsX11_findsAgain := goodIn_ca (goodIn_r _ [14, 6, 15, 16, 4, 17, 18, 19, 20, 21, 22, 23, 24, 25, 26, 27, 28, 29, 30, 31, 32, 33, 34, 35, 36, 43, 44, 45, 46, 47, 48, 49, 50, 51, 52, 53, 54, 55, 56, 57, 58, 59, 60, 61] (by decide +kernel) (by decide +kernel)) (goodIn_sub (fun _ h => List.mem_cons_of_mem _ (List.mem_append_right _ h)) (by decide +kernel))
set_option maxRecDepth 20000 in
theorem gX11_find_X11_findsAgain : GoodIn wsX11_find (wsV RX11 163 RX11 yX11_findsAgain wsX11_findsAgain) := goodIn_app (goodIn_of _ (by decide +kernel)) ggX11_find_X11_findsAgain
set_option maxRecDepth 20000 in
theorem ggX11_find_X11_kept : GoodIn wsX11_find wsX11_kept := goodIn_ca (goodIn_r _ [40, 32, 7, 6, 41, 42, 8, 9, 4, 10, 43, 44, 45, 46, 47, 48, 49, 50, 51, 52, 53, 54, 55, 56, 57, 58, 59, 60, 61] (by decide +kernel) (by decide +kernel)) (goodIn_sub (fun _ h => List.mem_cons_of_mem _ (List.mem_append_right _ h)) (by decide +kernel))
set_option maxRecDepth 20000 in
theorem gX11_find_X11_kept : GoodIn wsX11_find (wsV RX11 103 RX11 yX11_kept wsX11_kept) := goodIn_app (goodIn_of _ (by decide +kernel)) ggX11_find_X11_kept
theorem dX11_find_0 : decode cX11_find 0 = .ok (.aload_n 0, 1) := by decide +kernel
theorem dX11_find_1 : decode cX11_find 1 = .ok (.invokevirtual 97, 3) := by decide +kernel
theorem dX11_find_4 : decode cX11_find 4 = .ok (.aload_n 0, 1) := by decide +kernel
theorem dX11_find_5 : decode cX11_find 5 = .ok (.aload_n 0, 1) := by decide +kernel
theorem dX11_find_6 : decode cX11_find 6 = .ok (.iload_n 1, 1) := by decide +kernel
theorem dX11_find_7 : decode cX11_find 7 = .ok (.iload_n 2, 1) := by decide +kernel
theorem dX11_find_8 : decode cX11_find 8 = .ok (.invokevirtual 163, 3) := by decide +kernel
theorem dX11_find_11 : decode cX11_find 11 = .ok (.invokevirtual 103, 3) := by decide +kernel
theorem dX11_find_14 : decode cX11_find 14 = .ok (.ireturn, 1) := by decide +kernel
theorem dX11_allSteps_0 : decode cX11_allSteps 0 = .ok (.iconst 1, 1) := by decide +kernel
theorem dX11_allSteps_1 : decode cX11_allSteps 1 = .ok (.aload_n 0, 1) := by decide +kernel
theorem dX11_allSteps_2 : decode cX11_allSteps 2 = .ok (.getfield 7, 3) := by decide +kernel
theorem dX11_allSteps_5 : decode cX11_allSteps 5 = .ok (.bipush 18, 2) := by decide +kernel
theorem dX11_allSteps_7 : decode cX11_allSteps 7 = .ok (.iload_n 1, 1) := by decide +kernel
theorem dX11_allSteps_8 : decode cX11_allSteps 8 = .ok (.iadd, 1) := by decide +kernel
theorem dX11_allSteps_9 : decode cX11_allSteps 9 = .ok (.iaload, 1) := by decide +kernel
theorem dX11_allSteps_10 : decode cX11_allSteps 10 = .ok (.ishl, 1) := by decide +kernel
theorem dX11_allSteps_11 : decode cX11_allSteps 11 = .ok (.iconst 1, 1) := by decide +kernel
theorem dX11_allSteps_12 : decode cX11_allSteps 12 = .ok (.isub, 1) := by decide +kernel
theorem dX11_allSteps_13 : decode cX11_allSteps 13 = .ok (.ireturn, 1) := by decide +kernel
set_option maxRecDepth 20000 in
theorem ggX11_leafletOf_X11_isLeaflet : GoodIn wsX11_leafletOf wsX11_isLeaflet := goodIn_ca (goodIn_r _ [6, 1, 7, 8, 5, 9, 43, 44, 45, 46, 47, 48, 49, 50, 51, 52, 53, 54, 55, 56, 57, 58, 59, 60, 61] (by decide +kernel) (by decide +kernel)) (goodIn_sub (fun _ h => List.mem_cons_of_mem _ (List.mem_append_right _ h)) (by decide +kernel))
set_option maxRecDepth 20000 in
theorem gX11_leafletOf_X11_isLeaflet : GoodIn wsX11_leafletOf (wsV RX11 106 RX11 yX11_isLeaflet wsX11_isLeaflet) := goodIn_app (goodIn_of _ (by decide +kernel)) ggX11_leafletOf_X11_isLeaflet
set_option maxRecDepth 20000 in
theorem ggX11_leafletOf_X11_fails : GoodIn wsX11_leafletOf wsX11_fails := goodIn_r _ [13, 14, 43, 44, 45, 46, 47, 48, 49, 50, 51, 52, 53, 54, 55, 56, 57, 58, 59, 60, 61] (by decide +kernel) (by decide +kernel)
set_option maxRecDepth 20000 in
theorem gX11_leafletOf_X11_fails : GoodIn wsX11_leafletOf (wsV RX11 51 RX11 yX11_fails wsX11_fails) := goodIn_app (goodIn_of _ (by decide +kernel)) ggX11_leafletOf_X11_fails
set_option maxRecDepth 20000 in
theorem ggX11_leafletOf_X11_done : GoodIn wsX11_leafletOf wsX11_done := goodIn_r _ [18, 14, 43, 44, 45, 46, 47, 48, 49, 50, 51, 52, 53, 54, 55, 56, 57, 58, 59, 60, 61] (by decide +kernel) (by decide +kernel)
set_option maxRecDepth 20000 in
theorem gX11_leafletOf_X11_done : GoodIn wsX11_leafletOf (wsV RX11 94 RX11 yX11_done wsX11_done) := goodIn_app (goodIn_of _ (by decide +kernel)) ggX11_leafletOf_X11_done
set_option maxRecDepth 20000 in
theorem ggX11_leafletOf_X11_open : GoodIn wsX11_leafletOf wsX11_open := goodIn_ca (goodIn_r _ [22, 1, 23, 24, 25, 5, 26, 43, 44, 45, 46, 47, 48, 49, 50, 51, 52, 53, 54, 55, 56, 57, 58, 59, 60, 61] (by decide +kernel) (by decide +kernel)) (goodIn_sub (fun _ h => List.mem_cons_of_mem _ (List.mem_append_right _ h)) (by decide +kernel))
set_option maxRecDepth 20000 in
theorem gX11_leafletOf_X11_open : GoodIn wsX11_leafletOf (wsV RX11 115 RX11 yX11_open wsX11_open) := goodIn_app (goodIn_of _ (by decide +kernel)) ggX11_leafletOf_X11_open
set_option maxRecDepth 20000 in
theorem ggX11_leafletOf_X11_bits : GoodIn wsX11_leafletOf wsX11_bits := goodIn_r _ [29] (by decide +kernel) (by decide +kernel)
set_option maxRecDepth 20000 in
theorem gX11_leafletOf_X11_bits : GoodIn wsX11_leafletOf (va_wsS RX11 91 yX11_bits wsX11_bits) := goodIn_app (goodIn_of _ (by decide +kernel)) ggX11_leafletOf_X11_bits
set_option maxRecDepth 20000 in
theorem ggX11_leafletOf_X11_allSteps : GoodIn wsX11_leafletOf wsX11_allSteps := goodIn_ca (goodIn_r _ [33, 1, 43, 44, 45, 46, 47, 48, 49, 50, 51, 52, 53, 54, 55, 56, 57, 58, 59, 60, 61] (by decide +kernel) (by decide +kernel)) (goodIn_sub (fun _ h => List.mem_cons_of_mem _ (List.mem_append_right _ h)) (by decide +kernel))
set_option maxRecDepth 20000 in
theorem gX11_leafletOf_X11_allSteps : GoodIn wsX11_leafletOf (wsV RX11 166 RX11 yX11_allSteps wsX11_allSteps) := goodIn_app (goodIn_of _ (by decide +kernel)) ggX11_leafletOf_X11_allSteps
set_option maxRecDepth 20000 in
theorem ggX11_leafletOf_X11_needsFor : GoodIn wsX11_leafletOf wsX11_needsFor := goodIn_ca (goodIn_r _ [37, 38, 1, 39, 40, 41, 5, 42, 43, 44, 45, 46, 47, 48, 49, 50, 51, 52, 53, 54, 55, 56, 57, 58, 59, 60, 61] (by decide +kernel) (by decide +kernel)) (goodIn_sub (fun _ h => List.mem_cons_of_mem _ (List.mem_append_right _ h)) (by decide +kernel))
set_option maxRecDepth 20000 in
theorem gX11_leafletOf_X11_needsFor : GoodIn wsX11_leafletOf (wsV RX11 133 RX11 yX11_needsFor wsX11_needsFor) := goodIn_app (goodIn_of _ (by decide +kernel)) ggX11_leafletOf_X11_needsFor
theorem dX11_leafletOf_0 : decode cX11_leafletOf 0 = .ok (.aload_n 0, 1) := by decide +kernel
theorem dX11_leafletOf_1 : decode cX11_leafletOf 1 = .ok (.iload_n 1, 1) := by decide +kernel
theorem dX11_leafletOf_2 : decode cX11_leafletOf 2 = .ok (.invokevirtual 106, 3) := by decide +kernel
theorem dX11_leafletOf_5 : decode cX11_leafletOf 5 = .ok (.ifCond .ne 9, 3) := by decide +kernel
theorem dX11_leafletOf_8 : decode cX11_leafletOf 8 = .ok (.aload_n 0, 1) := by decide +kernel
theorem dX11_leafletOf_9 : decode cX11_leafletOf 9 = .ok (.iconst 1, 1) := by decide +kernel
theorem dX11_leafletOf_10 : decode cX11_leafletOf 10 = .ok (.invokevirtual 51, 3) := by decide +kernel
theorem dX11_leafletOf_13 : decode cX11_leafletOf 13 = .ok (.ireturn, 1) := by decide +kernel
theorem dX11_leafletOf_14 : decode cX11_leafletOf 14 = .ok (.iload_n 2, 1) := by decide +kernel
theorem dX11_leafletOf_15 : decode cX11_leafletOf 15 = .ok (.tableswitch 164 0 7 #[45, 59, 73, 83, 97, 113, 130, 145], 45) := by decide +kernel
theorem dX11_leafletOf_60 : decode cX11_leafletOf 60 = .ok (.aload_n 0, 1) := by decide +kernel
theorem dX11_leafletOf_61 : decode cX11_leafletOf 61 = .ok (.aload_n 0, 1) := by decide +kernel
theorem dX11_leafletOf_62 : decode cX11_leafletOf 62 = .ok (.getfield 7, 3) := by decide +kernel
theorem dX11_leafletOf_65 : decode cX11_leafletOf 65 = .ok (.bipush 18, 2) := by decide +kernel
theorem dX11_leafletOf_67 : decode cX11_leafletOf 67 = .ok (.iload_n 1, 1) := by decide +kernel
theorem dX11_leafletOf_68 : decode cX11_leafletOf 68 = .ok (.iadd, 1) := by decide +kernel
theorem dX11_leafletOf_69 : decode cX11_leafletOf 69 = .ok (.iaload, 1) := by decide +kernel
theorem dX11_leafletOf_70 : decode cX11_leafletOf 70 = .ok (.invokevirtual 94, 3) := by decide +kernel
theorem dX11_leafletOf_73 : decode cX11_leafletOf 73 = .ok (.ireturn, 1) := by decide +kernel
theorem dX11_leafletOf_74 : decode cX11_leafletOf 74 = .ok (.aload_n 0, 1) := by decide +kernel
theorem dX11_leafletOf_75 : decode cX11_leafletOf 75 = .ok (.aload_n 0, 1) := by decide +kernel
theorem dX11_leafletOf_76 : decode cX11_leafletOf 76 = .ok (.getfield 7, 3) := by decide +kernel
theorem dX11_leafletOf_79 : decode cX11_leafletOf 79 = .ok (.bipush 26, 2) := by decide +kernel
theorem dX11_leafletOf_81 : decode cX11_leafletOf 81 = .ok (.iload_n 1, 1) := by decide +kernel
theorem dX11_leafletOf_82 : decode cX11_leafletOf 82 = .ok (.iadd, 1) := by decide +kernel
theorem dX11_leafletOf_83 : decode cX11_leafletOf 83 = .ok (.iaload, 1) := by decide +kernel
theorem dX11_leafletOf_84 : decode cX11_leafletOf 84 = .ok (.invokevirtual 94, 3) := by decide +kernel
theorem dX11_leafletOf_87 : decode cX11_leafletOf 87 = .ok (.ireturn, 1) := by decide +kernel
theorem dX11_leafletOf_88 : decode cX11_leafletOf 88 = .ok (.aload_n 0, 1) := by decide +kernel
theorem dX11_leafletOf_89 : decode cX11_leafletOf 89 = .ok (.aload_n 0, 1) := by decide +kernel
theorem dX11_leafletOf_90 : decode cX11_leafletOf 90 = .ok (.iload_n 1, 1) := by decide +kernel
theorem dX11_leafletOf_91 : decode cX11_leafletOf 91 = .ok (.invokevirtual 115, 3) := by decide +kernel
theorem dX11_leafletOf_94 : decode cX11_leafletOf 94 = .ok (.invokevirtual 94, 3) := by decide +kernel
theorem dX11_leafletOf_97 : decode cX11_leafletOf 97 = .ok (.ireturn, 1) := by decide +kernel
theorem dX11_leafletOf_98 : decode cX11_leafletOf 98 = .ok (.aload_n 0, 1) := by decide +kernel
theorem dX11_leafletOf_99 : decode cX11_leafletOf 99 = .ok (.aload_n 0, 1) := by decide +kernel
theorem dX11_leafletOf_100 : decode cX11_leafletOf 100 = .ok (.getfield 7, 3) := by decide +kernel
theorem dX11_leafletOf_103 : decode cX11_leafletOf 103 = .ok (.bipush 34, 2) := by decide +kernel
theorem dX11_leafletOf_105 : decode cX11_leafletOf 105 = .ok (.iload_n 1, 1) := by decide +kernel
theorem dX11_leafletOf_106 : decode cX11_leafletOf 106 = .ok (.iadd, 1) := by decide +kernel
theorem dX11_leafletOf_107 : decode cX11_leafletOf 107 = .ok (.iaload, 1) := by decide +kernel
theorem dX11_leafletOf_108 : decode cX11_leafletOf 108 = .ok (.invokevirtual 94, 3) := by decide +kernel
theorem dX11_leafletOf_111 : decode cX11_leafletOf 111 = .ok (.ireturn, 1) := by decide +kernel
theorem dX11_leafletOf_112 : decode cX11_leafletOf 112 = .ok (.aload_n 0, 1) := by decide +kernel
theorem dX11_leafletOf_113 : decode cX11_leafletOf 113 = .ok (.aload_n 0, 1) := by decide +kernel
theorem dX11_leafletOf_114 : decode cX11_leafletOf 114 = .ok (.getfield 7, 3) := by decide +kernel
theorem dX11_leafletOf_117 : decode cX11_leafletOf 117 = .ok (.bipush 42, 2) := by decide +kernel
theorem dX11_leafletOf_119 : decode cX11_leafletOf 119 = .ok (.iload_n 1, 1) := by decide +kernel
theorem dX11_leafletOf_120 : decode cX11_leafletOf 120 = .ok (.iadd, 1) := by decide +kernel
theorem dX11_leafletOf_121 : decode cX11_leafletOf 121 = .ok (.iaload, 1) := by decide +kernel
theorem dX11_leafletOf_122 : decode cX11_leafletOf 122 = .ok (.iconst 1, 1) := by decide +kernel
theorem dX11_leafletOf_123 : decode cX11_leafletOf 123 = .ok (.isub, 1) := by decide +kernel
theorem dX11_leafletOf_124 : decode cX11_leafletOf 124 = .ok (.invokevirtual 94, 3) := by decide +kernel
theorem dX11_leafletOf_127 : decode cX11_leafletOf 127 = .ok (.ireturn, 1) := by decide +kernel
theorem dX11_leafletOf_128 : decode cX11_leafletOf 128 = .ok (.aload_n 0, 1) := by decide +kernel
theorem dX11_leafletOf_129 : decode cX11_leafletOf 129 = .ok (.aload_n 0, 1) := by decide +kernel
theorem dX11_leafletOf_130 : decode cX11_leafletOf 130 = .ok (.getfield 7, 3) := by decide +kernel
theorem dX11_leafletOf_133 : decode cX11_leafletOf 133 = .ok (.bipush 50, 2) := by decide +kernel
theorem dX11_leafletOf_135 : decode cX11_leafletOf 135 = .ok (.iload_n 1, 1) := by decide +kernel
theorem dX11_leafletOf_136 : decode cX11_leafletOf 136 = .ok (.iadd, 1) := by decide +kernel
theorem dX11_leafletOf_137 : decode cX11_leafletOf 137 = .ok (.iaload, 1) := by decide +kernel
theorem dX11_leafletOf_138 : decode cX11_leafletOf 138 = .ok (.invokestatic 91, 3) := by decide +kernel
theorem dX11_leafletOf_141 : decode cX11_leafletOf 141 = .ok (.invokevirtual 94, 3) := by decide +kernel
theorem dX11_leafletOf_144 : decode cX11_leafletOf 144 = .ok (.ireturn, 1) := by decide +kernel
theorem dX11_leafletOf_145 : decode cX11_leafletOf 145 = .ok (.aload_n 0, 1) := by decide +kernel
theorem dX11_leafletOf_146 : decode cX11_leafletOf 146 = .ok (.aload_n 0, 1) := by decide +kernel
theorem dX11_leafletOf_147 : decode cX11_leafletOf 147 = .ok (.iload_n 1, 1) := by decide +kernel
theorem dX11_leafletOf_148 : decode cX11_leafletOf 148 = .ok (.aload_n 0, 1) := by decide +kernel
theorem dX11_leafletOf_149 : decode cX11_leafletOf 149 = .ok (.iload_n 1, 1) := by decide +kernel
theorem dX11_leafletOf_150 : decode cX11_leafletOf 150 = .ok (.invokevirtual 166, 3) := by decide +kernel
theorem dX11_leafletOf_153 : decode cX11_leafletOf 153 = .ok (.invokevirtual 133, 3) := by decide +kernel
theorem dX11_leafletOf_156 : decode cX11_leafletOf 156 = .ok (.invokevirtual 94, 3) := by decide +kernel
theorem dX11_leafletOf_159 : decode cX11_leafletOf 159 = .ok (.ireturn, 1) := by decide +kernel
theorem dX11_leafletOf_160 : decode cX11_leafletOf 160 = .ok (.aload_n 0, 1) := by decide +kernel
theorem dX11_leafletOf_161 : decode cX11_leafletOf 161 = .ok (.aload_n 0, 1) := by decide +kernel
theorem dX11_leafletOf_162 : decode cX11_leafletOf 162 = .ok (.iload_n 1, 1) := by decide +kernel
theorem dX11_leafletOf_163 : decode cX11_leafletOf 163 = .ok (.aload_n 0, 1) := by decide +kernel
theorem dX11_leafletOf_164 : decode cX11_leafletOf 164 = .ok (.getfield 7, 3) := by decide +kernel
theorem dX11_leafletOf_167 : decode cX11_leafletOf 167 = .ok (.bipush 50, 2) := by decide +kernel
theorem dX11_leafletOf_169 : decode cX11_leafletOf 169 = .ok (.iload_n 1, 1) := by decide +kernel
theorem dX11_leafletOf_170 : decode cX11_leafletOf 170 = .ok (.iadd, 1) := by decide +kernel
theorem dX11_leafletOf_171 : decode cX11_leafletOf 171 = .ok (.iaload, 1) := by decide +kernel
theorem dX11_leafletOf_172 : decode cX11_leafletOf 172 = .ok (.invokevirtual 133, 3) := by decide +kernel
theorem dX11_leafletOf_175 : decode cX11_leafletOf 175 = .ok (.invokevirtual 94, 3) := by decide +kernel
theorem dX11_leafletOf_178 : decode cX11_leafletOf 178 = .ok (.ireturn, 1) := by decide +kernel
theorem dX11_leafletOf_179 : decode cX11_leafletOf 179 = .ok (.aload_n 0, 1) := by decide +kernel
theorem dX11_leafletOf_180 : decode cX11_leafletOf 180 = .ok (.iconst 2, 1) := by decide +kernel
theorem dX11_leafletOf_181 : decode cX11_leafletOf 181 = .ok (.invokevirtual 51, 3) := by decide +kernel
theorem dX11_leafletOf_184 : decode cX11_leafletOf 184 = .ok (.ireturn, 1) := by decide +kernel
set_option maxRecDepth 20000 in
theorem ggX11_stepOf_X11_isLeaflet : GoodIn wsX11_stepOf wsX11_isLeaflet := goodIn_ca (goodIn_r _ [6, 1, 7, 8, 5, 9, 27, 28, 29, 30, 31, 32, 33, 34, 35, 36, 37, 38, 39, 40, 41, 42, 43, 44, 45] (by decide +kernel) (by decide +kernel)) (goodIn_sub (fun _ h => List.mem_cons_of_mem _ (List.mem_append_right _ h)) (by decide +kernel))
set_option maxRecDepth 20000 in
theorem gX11_stepOf_X11_isLeaflet : GoodIn wsX11_stepOf (wsV RX11 106 RX11 yX11_isLeaflet wsX11_isLeaflet) := goodIn_app (goodIn_of _ (by decide +kernel)) ggX11_stepOf_X11_isLeaflet
set_option maxRecDepth 20000 in
theorem ggX11_stepOf_X11_fails : GoodIn wsX11_stepOf wsX11_fails := goodIn_r _ [13, 14, 27, 28, 29, 30, 31, 32, 33, 34, 35, 36, 37, 38, 39, 40, 41, 42, 43, 44, 45] (by decide +kernel) (by decide +kernel)
set_option maxRecDepth 20000 in
theorem gX11_stepOf_X11_fails : GoodIn wsX11_stepOf (wsV RX11 51 RX11 yX11_fails wsX11_fails) := goodIn_app (goodIn_of _ (by decide +kernel)) ggX11_stepOf_X11_fails
set_option maxRecDepth 20000 in
theorem ggX11_stepOf_X11_isStep : GoodIn wsX11_stepOf wsX11_isStep := goodIn_ca (goodIn_r _ [18, 1, 7, 8, 5, 9, 27, 28, 29, 30, 31, 32, 33, 34, 35, 36, 37, 38, 39, 40, 41, 42, 43, 44, 45] (by decide +kernel) (by decide +kernel)) (goodIn_sub (fun _ h => List.mem_cons_of_mem _ (List.mem_append_right _ h)) (by decide +kernel))
set_option maxRecDepth 20000 in
theorem gX11_stepOf_X11_isStep : GoodIn wsX11_stepOf (wsV RX11 143 RX11 yX11_isStep wsX11_isStep) := goodIn_app (goodIn_of _ (by decide +kernel)) ggX11_stepOf_X11_isStep
set_option maxRecDepth 20000 in
theorem ggX11_stepOf_X11_done : GoodIn wsX11_stepOf wsX11_done := goodIn_r _ [22, 14, 27, 28, 29, 30, 31, 32, 33, 34, 35, 36, 37, 38, 39, 40, 41, 42, 43, 44, 45] (by decide +kernel) (by decide +kernel)
set_option maxRecDepth 20000 in
theorem gX11_stepOf_X11_done : GoodIn wsX11_stepOf (wsV RX11 94 RX11 yX11_done wsX11_done) := goodIn_app (goodIn_of _ (by decide +kernel)) ggX11_stepOf_X11_done
set_option maxRecDepth 20000 in
theorem ggX11_stepOf_X11_partsOf : GoodIn wsX11_stepOf wsX11_partsOf := goodIn_ca (goodIn_r _ [26, 1, 27, 28, 29, 30, 31, 32, 33, 34, 35, 36, 37, 38, 39, 40, 41, 42, 43, 44, 45] (by decide +kernel) (by decide +kernel)) (goodIn_sub (fun _ h => List.mem_cons_of_mem _ (List.mem_append_right _ h)) (by decide +kernel))
set_option maxRecDepth 20000 in
theorem gX11_stepOf_X11_partsOf : GoodIn wsX11_stepOf (wsV RX11 70 RX11 yX11_partsOf wsX11_partsOf) := goodIn_app (goodIn_of _ (by decide +kernel)) ggX11_stepOf_X11_partsOf
theorem dX11_stepOf_0 : decode cX11_stepOf 0 = .ok (.aload_n 0, 1) := by decide +kernel
theorem dX11_stepOf_1 : decode cX11_stepOf 1 = .ok (.iload_n 1, 1) := by decide +kernel
theorem dX11_stepOf_2 : decode cX11_stepOf 2 = .ok (.invokevirtual 106, 3) := by decide +kernel
theorem dX11_stepOf_5 : decode cX11_stepOf 5 = .ok (.ifCond .ne 9, 3) := by decide +kernel
theorem dX11_stepOf_8 : decode cX11_stepOf 8 = .ok (.aload_n 0, 1) := by decide +kernel
theorem dX11_stepOf_9 : decode cX11_stepOf 9 = .ok (.iconst 1, 1) := by decide +kernel
theorem dX11_stepOf_10 : decode cX11_stepOf 10 = .ok (.invokevirtual 51, 3) := by decide +kernel
theorem dX11_stepOf_13 : decode cX11_stepOf 13 = .ok (.ireturn, 1) := by decide +kernel
theorem dX11_stepOf_14 : decode cX11_stepOf 14 = .ok (.aload_n 0, 1) := by decide +kernel
theorem dX11_stepOf_15 : decode cX11_stepOf 15 = .ok (.iload_n 1, 1) := by decide +kernel
theorem dX11_stepOf_16 : decode cX11_stepOf 16 = .ok (.iload_n 2, 1) := by decide +kernel
theorem dX11_stepOf_17 : decode cX11_stepOf 17 = .ok (.invokevirtual 143, 3) := by decide +kernel
theorem dX11_stepOf_20 : decode cX11_stepOf 20 = .ok (.ifCond .ne 9, 3) := by decide +kernel
theorem dX11_stepOf_23 : decode cX11_stepOf 23 = .ok (.aload_n 0, 1) := by decide +kernel
theorem dX11_stepOf_24 : decode cX11_stepOf 24 = .ok (.iconst 2, 1) := by decide +kernel
theorem dX11_stepOf_25 : decode cX11_stepOf 25 = .ok (.invokevirtual 51, 3) := by decide +kernel
theorem dX11_stepOf_28 : decode cX11_stepOf 28 = .ok (.ireturn, 1) := by decide +kernel
theorem dX11_stepOf_29 : decode cX11_stepOf 29 = .ok (.bipush 8, 2) := by decide +kernel
theorem dX11_stepOf_31 : decode cX11_stepOf 31 = .ok (.iload_n 1, 1) := by decide +kernel
theorem dX11_stepOf_32 : decode cX11_stepOf 32 = .ok (.imul, 1) := by decide +kernel
theorem dX11_stepOf_33 : decode cX11_stepOf 33 = .ok (.iload_n 2, 1) := by decide +kernel
theorem dX11_stepOf_34 : decode cX11_stepOf 34 = .ok (.iadd, 1) := by decide +kernel
theorem dX11_stepOf_35 : decode cX11_stepOf 35 = .ok (.istore 4, 2) := by decide +kernel
theorem dX11_stepOf_37 : decode cX11_stepOf 37 = .ok (.iload_n 3, 1) := by decide +kernel
theorem dX11_stepOf_38 : decode cX11_stepOf 38 = .ok (.tableswitch 110 0 4 #[34, 49, 60, 76, 92], 34) := by decide +kernel
theorem dX11_stepOf_72 : decode cX11_stepOf 72 = .ok (.aload_n 0, 1) := by decide +kernel
theorem dX11_stepOf_73 : decode cX11_stepOf 73 = .ok (.aload_n 0, 1) := by decide +kernel
theorem dX11_stepOf_74 : decode cX11_stepOf 74 = .ok (.getfield 7, 3) := by decide +kernel
theorem dX11_stepOf_77 : decode cX11_stepOf 77 = .ok (.bipush 68, 2) := by decide +kernel
theorem dX11_stepOf_79 : decode cX11_stepOf 79 = .ok (.iload 4, 2) := by decide +kernel
theorem dX11_stepOf_81 : decode cX11_stepOf 81 = .ok (.iadd, 1) := by decide +kernel
theorem dX11_stepOf_82 : decode cX11_stepOf 82 = .ok (.iaload, 1) := by decide +kernel
theorem dX11_stepOf_83 : decode cX11_stepOf 83 = .ok (.invokevirtual 94, 3) := by decide +kernel
theorem dX11_stepOf_86 : decode cX11_stepOf 86 = .ok (.ireturn, 1) := by decide +kernel
theorem dX11_stepOf_87 : decode cX11_stepOf 87 = .ok (.aload_n 0, 1) := by decide +kernel
theorem dX11_stepOf_88 : decode cX11_stepOf 88 = .ok (.aload_n 0, 1) := by decide +kernel
theorem dX11_stepOf_89 : decode cX11_stepOf 89 = .ok (.iload_n 1, 1) := by decide +kernel
theorem dX11_stepOf_90 : decode cX11_stepOf 90 = .ok (.iload_n 2, 1) := by decide +kernel
theorem dX11_stepOf_91 : decode cX11_stepOf 91 = .ok (.invokevirtual 70, 3) := by decide +kernel
theorem dX11_stepOf_94 : decode cX11_stepOf 94 = .ok (.invokevirtual 94, 3) := by decide +kernel
theorem dX11_stepOf_97 : decode cX11_stepOf 97 = .ok (.ireturn, 1) := by decide +kernel
theorem dX11_stepOf_98 : decode cX11_stepOf 98 = .ok (.aload_n 0, 1) := by decide +kernel
theorem dX11_stepOf_99 : decode cX11_stepOf 99 = .ok (.aload_n 0, 1) := by decide +kernel
theorem dX11_stepOf_100 : decode cX11_stepOf 100 = .ok (.getfield 7, 3) := by decide +kernel
theorem dX11_stepOf_103 : decode cX11_stepOf 103 = .ok (.sipush 196, 3) := by decide +kernel
theorem dX11_stepOf_106 : decode cX11_stepOf 106 = .ok (.iload 4, 2) := by decide +kernel
theorem dX11_stepOf_108 : decode cX11_stepOf 108 = .ok (.iadd, 1) := by decide +kernel
theorem dX11_stepOf_109 : decode cX11_stepOf 109 = .ok (.iaload, 1) := by decide +kernel
theorem dX11_stepOf_110 : decode cX11_stepOf 110 = .ok (.invokevirtual 94, 3) := by decide +kernel
theorem dX11_stepOf_113 : decode cX11_stepOf 113 = .ok (.ireturn, 1) := by decide +kernel
theorem dX11_stepOf_114 : decode cX11_stepOf 114 = .ok (.aload_n 0, 1) := by decide +kernel
theorem dX11_stepOf_115 : decode cX11_stepOf 115 = .ok (.aload_n 0, 1) := by decide +kernel
theorem dX11_stepOf_116 : decode cX11_stepOf 116 = .ok (.getfield 7, 3) := by decide +kernel
theorem dX11_stepOf_119 : decode cX11_stepOf 119 = .ok (.sipush 260, 3) := by decide +kernel
theorem dX11_stepOf_122 : decode cX11_stepOf 122 = .ok (.iload 4, 2) := by decide +kernel
theorem dX11_stepOf_124 : decode cX11_stepOf 124 = .ok (.iadd, 1) := by decide +kernel
theorem dX11_stepOf_125 : decode cX11_stepOf 125 = .ok (.iaload, 1) := by decide +kernel
theorem dX11_stepOf_126 : decode cX11_stepOf 126 = .ok (.invokevirtual 94, 3) := by decide +kernel
theorem dX11_stepOf_129 : decode cX11_stepOf 129 = .ok (.ireturn, 1) := by decide +kernel
theorem dX11_stepOf_130 : decode cX11_stepOf 130 = .ok (.aload_n 0, 1) := by decide +kernel
theorem dX11_stepOf_131 : decode cX11_stepOf 131 = .ok (.aload_n 0, 1) := by decide +kernel
theorem dX11_stepOf_132 : decode cX11_stepOf 132 = .ok (.getfield 7, 3) := by decide +kernel
theorem dX11_stepOf_135 : decode cX11_stepOf 135 = .ok (.bipush 50, 2) := by decide +kernel
theorem dX11_stepOf_137 : decode cX11_stepOf 137 = .ok (.iload_n 1, 1) := by decide +kernel
theorem dX11_stepOf_138 : decode cX11_stepOf 138 = .ok (.iadd, 1) := by decide +kernel
theorem dX11_stepOf_139 : decode cX11_stepOf 139 = .ok (.iaload, 1) := by decide +kernel
theorem dX11_stepOf_140 : decode cX11_stepOf 140 = .ok (.iload_n 2, 1) := by decide +kernel
theorem dX11_stepOf_141 : decode cX11_stepOf 141 = .ok (.ishr, 1) := by decide +kernel
theorem dX11_stepOf_142 : decode cX11_stepOf 142 = .ok (.iconst 1, 1) := by decide +kernel
theorem dX11_stepOf_143 : decode cX11_stepOf 143 = .ok (.iand, 1) := by decide +kernel
theorem dX11_stepOf_144 : decode cX11_stepOf 144 = .ok (.invokevirtual 94, 3) := by decide +kernel
theorem dX11_stepOf_147 : decode cX11_stepOf 147 = .ok (.ireturn, 1) := by decide +kernel
theorem dX11_stepOf_148 : decode cX11_stepOf 148 = .ok (.aload_n 0, 1) := by decide +kernel
theorem dX11_stepOf_149 : decode cX11_stepOf 149 = .ok (.iconst 3, 1) := by decide +kernel
theorem dX11_stepOf_150 : decode cX11_stepOf 150 = .ok (.invokevirtual 51, 3) := by decide +kernel
theorem dX11_stepOf_153 : decode cX11_stepOf 153 = .ok (.ireturn, 1) := by decide +kernel
set_option maxRecDepth 20000 in
theorem ggX11_builtBy_X11_bits : GoodIn wsX11_builtBy wsX11_bits := goodIn_r _ [5] (by decide +kernel) (by decide +kernel)
set_option maxRecDepth 20000 in
theorem gX11_builtBy_X11_bits : GoodIn wsX11_builtBy (va_wsS RX11 91 yX11_bits wsX11_bits) := goodIn_app (goodIn_of _ (by decide +kernel)) ggX11_builtBy_X11_bits
theorem dX11_builtBy_0 : decode cX11_builtBy 0 = .ok (.iconst 0, 1) := by decide +kernel
theorem dX11_builtBy_1 : decode cX11_builtBy 1 = .ok (.istore_n 3, 1) := by decide +kernel
theorem dX11_builtBy_2 : decode cX11_builtBy 2 = .ok (.iconst 0, 1) := by decide +kernel
theorem dX11_builtBy_3 : decode cX11_builtBy 3 = .ok (.istore 4, 2) := by decide +kernel
theorem dX11_builtBy_5 : decode cX11_builtBy 5 = .ok (.iload 4, 2) := by decide +kernel
theorem dX11_builtBy_7 : decode cX11_builtBy 7 = .ok (.aload_n 0, 1) := by decide +kernel
theorem dX11_builtBy_8 : decode cX11_builtBy 8 = .ok (.getfield 7, 3) := by decide +kernel
theorem dX11_builtBy_11 : decode cX11_builtBy 11 = .ok (.iconst 0, 1) := by decide +kernel
theorem dX11_builtBy_12 : decode cX11_builtBy 12 = .ok (.iaload, 1) := by decide +kernel
theorem dX11_builtBy_13 : decode cX11_builtBy 13 = .ok (.if_icmp .ge 53, 3) := by decide +kernel
theorem dX11_builtBy_16 : decode cX11_builtBy 16 = .ok (.iload_n 3, 1) := by decide +kernel
theorem dX11_builtBy_17 : decode cX11_builtBy 17 = .ok (.aload_n 0, 1) := by decide +kernel
theorem dX11_builtBy_18 : decode cX11_builtBy 18 = .ok (.getfield 7, 3) := by decide +kernel
theorem dX11_builtBy_21 : decode cX11_builtBy 21 = .ok (.bipush 42, 2) := by decide +kernel
theorem dX11_builtBy_23 : decode cX11_builtBy 23 = .ok (.iload 4, 2) := by decide +kernel
theorem dX11_builtBy_25 : decode cX11_builtBy 25 = .ok (.iadd, 1) := by decide +kernel
theorem dX11_builtBy_26 : decode cX11_builtBy 26 = .ok (.iaload, 1) := by decide +kernel
theorem dX11_builtBy_27 : decode cX11_builtBy 27 = .ok (.iload_n 1, 1) := by decide +kernel
theorem dX11_builtBy_28 : decode cX11_builtBy 28 = .ok (.iconst 1, 1) := by decide +kernel
theorem dX11_builtBy_29 : decode cX11_builtBy 29 = .ok (.iadd, 1) := by decide +kernel
theorem dX11_builtBy_30 : decode cX11_builtBy 30 = .ok (.if_icmp .eq 7, 3) := by decide +kernel
theorem dX11_builtBy_33 : decode cX11_builtBy 33 = .ok (.iconst 0, 1) := by decide +kernel
theorem dX11_builtBy_34 : decode cX11_builtBy 34 = .ok (.goto 24, 3) := by decide +kernel
theorem dX11_builtBy_37 : decode cX11_builtBy 37 = .ok (.iload_n 2, 1) := by decide +kernel
theorem dX11_builtBy_38 : decode cX11_builtBy 38 = .ok (.ifCond .eq 19, 3) := by decide +kernel
theorem dX11_builtBy_41 : decode cX11_builtBy 41 = .ok (.aload_n 0, 1) := by decide +kernel
theorem dX11_builtBy_42 : decode cX11_builtBy 42 = .ok (.getfield 7, 3) := by decide +kernel
theorem dX11_builtBy_45 : decode cX11_builtBy 45 = .ok (.bipush 50, 2) := by decide +kernel
theorem dX11_builtBy_47 : decode cX11_builtBy 47 = .ok (.iload 4, 2) := by decide +kernel
theorem dX11_builtBy_49 : decode cX11_builtBy 49 = .ok (.iadd, 1) := by decide +kernel
theorem dX11_builtBy_50 : decode cX11_builtBy 50 = .ok (.iaload, 1) := by decide +kernel
theorem dX11_builtBy_51 : decode cX11_builtBy 51 = .ok (.invokestatic 91, 3) := by decide +kernel
theorem dX11_builtBy_54 : decode cX11_builtBy 54 = .ok (.goto 4, 3) := by decide +kernel
theorem dX11_builtBy_57 : decode cX11_builtBy 57 = .ok (.iconst 1, 1) := by decide +kernel
theorem dX11_builtBy_58 : decode cX11_builtBy 58 = .ok (.iadd, 1) := by decide +kernel
theorem dX11_builtBy_59 : decode cX11_builtBy 59 = .ok (.istore_n 3, 1) := by decide +kernel
theorem dX11_builtBy_60 : decode cX11_builtBy 60 = .ok (.iinc 4 1, 3) := by decide +kernel
theorem dX11_builtBy_63 : decode cX11_builtBy 63 = .ok (.goto (-58), 3) := by decide +kernel
theorem dX11_builtBy_66 : decode cX11_builtBy 66 = .ok (.iload_n 3, 1) := by decide +kernel
theorem dX11_builtBy_67 : decode cX11_builtBy 67 = .ok (.ireturn, 1) := by decide +kernel
set_option maxRecDepth 20000 in
theorem ggX11_cousinOf_X11_isCousin : GoodIn wsX11_cousinOf wsX11_isCousin := goodIn_ca (goodIn_r _ [6, 1, 7, 8, 5, 9, 26, 27, 28, 29, 30, 31, 32, 33, 34, 35, 36, 37, 38, 39, 40, 41, 42, 43, 44] (by decide +kernel) (by decide +kernel)) (goodIn_sub (fun _ h => List.mem_cons_of_mem _ (List.mem_append_right _ h)) (by decide +kernel))
set_option maxRecDepth 20000 in
theorem gX11_cousinOf_X11_isCousin : GoodIn wsX11_cousinOf (wsV RX11 124 RX11 yX11_isCousin wsX11_isCousin) := goodIn_app (goodIn_of _ (by decide +kernel)) ggX11_cousinOf_X11_isCousin
set_option maxRecDepth 20000 in
theorem ggX11_cousinOf_X11_fails : GoodIn wsX11_cousinOf wsX11_fails := goodIn_r _ [13, 14, 26, 27, 28, 29, 30, 31, 32, 33, 34, 35, 36, 37, 38, 39, 40, 41, 42, 43, 44] (by decide +kernel) (by decide +kernel)
set_option maxRecDepth 20000 in
theorem gX11_cousinOf_X11_fails : GoodIn wsX11_cousinOf (wsV RX11 51 RX11 yX11_fails wsX11_fails) := goodIn_app (goodIn_of _ (by decide +kernel)) ggX11_cousinOf_X11_fails
set_option maxRecDepth 20000 in
theorem ggX11_cousinOf_X11_done : GoodIn wsX11_cousinOf wsX11_done := goodIn_r _ [18, 14, 26, 27, 28, 29, 30, 31, 32, 33, 34, 35, 36, 37, 38, 39, 40, 41, 42, 43, 44] (by decide +kernel) (by decide +kernel)
set_option maxRecDepth 20000 in
theorem gX11_cousinOf_X11_done : GoodIn wsX11_cousinOf (wsV RX11 94 RX11 yX11_done wsX11_done) := goodIn_app (goodIn_of _ (by decide +kernel)) ggX11_cousinOf_X11_done
set_option maxRecDepth 20000 in
theorem ggX11_cousinOf_X11_bits : GoodIn wsX11_cousinOf wsX11_bits := goodIn_r _ [21] (by decide +kernel) (by decide +kernel)
set_option maxRecDepth 20000 in
theorem gX11_cousinOf_X11_bits : GoodIn wsX11_cousinOf (va_wsS RX11 91 yX11_bits wsX11_bits) := goodIn_app (goodIn_of _ (by decide +kernel)) ggX11_cousinOf_X11_bits
set_option maxRecDepth 20000 in
theorem ggX11_cousinOf_X11_builtBy : GoodIn wsX11_cousinOf wsX11_builtBy := goodIn_ca (goodIn_r _ [25, 1, 19, 20, 5, 21, 26, 27, 28, 29, 30, 31, 32, 33, 34, 35, 36, 37, 38, 39, 40, 41, 42, 43, 44] (by decide +kernel) (by decide +kernel)) (goodIn_sub (fun _ h => List.mem_cons_of_mem _ (List.mem_append_right _ h)) (by decide +kernel))
set_option maxRecDepth 20000 in
theorem gX11_cousinOf_X11_builtBy : GoodIn wsX11_cousinOf (wsV RX11 169 RX11 yX11_builtBy wsX11_builtBy) := goodIn_app (goodIn_of _ (by decide +kernel)) ggX11_cousinOf_X11_builtBy
theorem dX11_cousinOf_0 : decode cX11_cousinOf 0 = .ok (.aload_n 0, 1) := by decide +kernel
theorem dX11_cousinOf_1 : decode cX11_cousinOf 1 = .ok (.iload_n 1, 1) := by decide +kernel
theorem dX11_cousinOf_2 : decode cX11_cousinOf 2 = .ok (.invokevirtual 124, 3) := by decide +kernel
theorem dX11_cousinOf_5 : decode cX11_cousinOf 5 = .ok (.ifCond .ne 9, 3) := by decide +kernel
theorem dX11_cousinOf_8 : decode cX11_cousinOf 8 = .ok (.aload_n 0, 1) := by decide +kernel
theorem dX11_cousinOf_9 : decode cX11_cousinOf 9 = .ok (.iconst 1, 1) := by decide +kernel
theorem dX11_cousinOf_10 : decode cX11_cousinOf 10 = .ok (.invokevirtual 51, 3) := by decide +kernel
theorem dX11_cousinOf_13 : decode cX11_cousinOf 13 = .ok (.ireturn, 1) := by decide +kernel
theorem dX11_cousinOf_14 : decode cX11_cousinOf 14 = .ok (.iload_n 2, 1) := by decide +kernel
theorem dX11_cousinOf_15 : decode cX11_cousinOf 15 = .ok (.tableswitch 100 0 4 #[33, 47, 61, 78, 89], 33) := by decide +kernel
theorem dX11_cousinOf_48 : decode cX11_cousinOf 48 = .ok (.aload_n 0, 1) := by decide +kernel
theorem dX11_cousinOf_49 : decode cX11_cousinOf 49 = .ok (.aload_n 0, 1) := by decide +kernel
theorem dX11_cousinOf_50 : decode cX11_cousinOf 50 = .ok (.getfield 7, 3) := by decide +kernel
theorem dX11_cousinOf_53 : decode cX11_cousinOf 53 = .ok (.bipush 58, 2) := by decide +kernel
theorem dX11_cousinOf_55 : decode cX11_cousinOf 55 = .ok (.iload_n 1, 1) := by decide +kernel
theorem dX11_cousinOf_56 : decode cX11_cousinOf 56 = .ok (.iadd, 1) := by decide +kernel
theorem dX11_cousinOf_57 : decode cX11_cousinOf 57 = .ok (.iaload, 1) := by decide +kernel
theorem dX11_cousinOf_58 : decode cX11_cousinOf 58 = .ok (.invokevirtual 94, 3) := by decide +kernel
theorem dX11_cousinOf_61 : decode cX11_cousinOf 61 = .ok (.ireturn, 1) := by decide +kernel
theorem dX11_cousinOf_62 : decode cX11_cousinOf 62 = .ok (.aload_n 0, 1) := by decide +kernel
theorem dX11_cousinOf_63 : decode cX11_cousinOf 63 = .ok (.aload_n 0, 1) := by decide +kernel
theorem dX11_cousinOf_64 : decode cX11_cousinOf 64 = .ok (.getfield 7, 3) := by decide +kernel
theorem dX11_cousinOf_67 : decode cX11_cousinOf 67 = .ok (.bipush 63, 2) := by decide +kernel
theorem dX11_cousinOf_69 : decode cX11_cousinOf 69 = .ok (.iload_n 1, 1) := by decide +kernel
theorem dX11_cousinOf_70 : decode cX11_cousinOf 70 = .ok (.iadd, 1) := by decide +kernel
theorem dX11_cousinOf_71 : decode cX11_cousinOf 71 = .ok (.iaload, 1) := by decide +kernel
theorem dX11_cousinOf_72 : decode cX11_cousinOf 72 = .ok (.invokevirtual 94, 3) := by decide +kernel
theorem dX11_cousinOf_75 : decode cX11_cousinOf 75 = .ok (.ireturn, 1) := by decide +kernel
theorem dX11_cousinOf_76 : decode cX11_cousinOf 76 = .ok (.aload_n 0, 1) := by decide +kernel
theorem dX11_cousinOf_77 : decode cX11_cousinOf 77 = .ok (.aload_n 0, 1) := by decide +kernel
theorem dX11_cousinOf_78 : decode cX11_cousinOf 78 = .ok (.getfield 7, 3) := by decide +kernel
theorem dX11_cousinOf_81 : decode cX11_cousinOf 81 = .ok (.bipush 63, 2) := by decide +kernel
theorem dX11_cousinOf_83 : decode cX11_cousinOf 83 = .ok (.iload_n 1, 1) := by decide +kernel
theorem dX11_cousinOf_84 : decode cX11_cousinOf 84 = .ok (.iadd, 1) := by decide +kernel
theorem dX11_cousinOf_85 : decode cX11_cousinOf 85 = .ok (.iaload, 1) := by decide +kernel
theorem dX11_cousinOf_86 : decode cX11_cousinOf 86 = .ok (.invokestatic 91, 3) := by decide +kernel
theorem dX11_cousinOf_89 : decode cX11_cousinOf 89 = .ok (.invokevirtual 94, 3) := by decide +kernel
theorem dX11_cousinOf_92 : decode cX11_cousinOf 92 = .ok (.ireturn, 1) := by decide +kernel
theorem dX11_cousinOf_93 : decode cX11_cousinOf 93 = .ok (.aload_n 0, 1) := by decide +kernel
theorem dX11_cousinOf_94 : decode cX11_cousinOf 94 = .ok (.aload_n 0, 1) := by decide +kernel
theorem dX11_cousinOf_95 : decode cX11_cousinOf 95 = .ok (.iload_n 1, 1) := by decide +kernel
theorem dX11_cousinOf_96 : decode cX11_cousinOf 96 = .ok (.iconst 0, 1) := by decide +kernel
theorem dX11_cousinOf_97 : decode cX11_cousinOf 97 = .ok (.invokevirtual 169, 3) := by decide +kernel
theorem dX11_cousinOf_100 : decode cX11_cousinOf 100 = .ok (.invokevirtual 94, 3) := by decide +kernel
theorem dX11_cousinOf_103 : decode cX11_cousinOf 103 = .ok (.ireturn, 1) := by decide +kernel
theorem dX11_cousinOf_104 : decode cX11_cousinOf 104 = .ok (.aload_n 0, 1) := by decide +kernel
theorem dX11_cousinOf_105 : decode cX11_cousinOf 105 = .ok (.aload_n 0, 1) := by decide +kernel
theorem dX11_cousinOf_106 : decode cX11_cousinOf 106 = .ok (.iload_n 1, 1) := by decide +kernel
theorem dX11_cousinOf_107 : decode cX11_cousinOf 107 = .ok (.iconst 1, 1) := by decide +kernel
theorem dX11_cousinOf_108 : decode cX11_cousinOf 108 = .ok (.invokevirtual 169, 3) := by decide +kernel
theorem dX11_cousinOf_111 : decode cX11_cousinOf 111 = .ok (.invokevirtual 94, 3) := by decide +kernel
theorem dX11_cousinOf_114 : decode cX11_cousinOf 114 = .ok (.ireturn, 1) := by decide +kernel
theorem dX11_cousinOf_115 : decode cX11_cousinOf 115 = .ok (.aload_n 0, 1) := by decide +kernel
theorem dX11_cousinOf_116 : decode cX11_cousinOf 116 = .ok (.iconst 2, 1) := by decide +kernel
theorem dX11_cousinOf_117 : decode cX11_cousinOf 117 = .ok (.invokevirtual 51, 3) := by decide +kernel
theorem dX11_cousinOf_120 : decode cX11_cousinOf 120 = .ok (.ireturn, 1) := by decide +kernel
set_option maxRecDepth 20000 in
theorem ggX11_why_X11_isCousin : GoodIn wsX11_why wsX11_isCousin := goodIn_ca (goodIn_r _ [6, 1, 7, 8, 5, 9, 39, 40, 41, 42, 43, 44, 45, 46, 47, 48, 49, 50, 51, 52, 53, 54, 55, 56, 57] (by decide +kernel) (by decide +kernel)) (goodIn_sub (fun _ h => List.mem_cons_of_mem _ (List.mem_append_right _ h)) (by decide +kernel))
set_option maxRecDepth 20000 in
theorem gX11_why_X11_isCousin : GoodIn wsX11_why (wsV RX11 124 RX11 yX11_isCousin wsX11_isCousin) := goodIn_app (goodIn_of _ (by decide +kernel)) ggX11_why_X11_isCousin
set_option maxRecDepth 20000 in
theorem ggX11_why_X11_isLeaflet : GoodIn wsX11_why wsX11_isLeaflet := goodIn_ca (goodIn_r _ [13, 1, 7, 8, 5, 9, 39, 40, 41, 42, 43, 44, 45, 46, 47, 48, 49, 50, 51, 52, 53, 54, 55, 56, 57] (by decide +kernel) (by decide +kernel)) (goodIn_sub (fun _ h => List.mem_cons_of_mem _ (List.mem_append_right _ h)) (by decide +kernel))
set_option maxRecDepth 20000 in
theorem gX11_why_X11_isLeaflet : GoodIn wsX11_why (wsV RX11 106 RX11 yX11_isLeaflet wsX11_isLeaflet) := goodIn_app (goodIn_of _ (by decide +kernel)) ggX11_why_X11_isLeaflet
set_option maxRecDepth 20000 in
theorem ggX11_why_X11_fails : GoodIn wsX11_why wsX11_fails := goodIn_r _ [17, 18, 39, 40, 41, 42, 43, 44, 45, 46, 47, 48, 49, 50, 51, 52, 53, 54, 55, 56, 57] (by decide +kernel) (by decide +kernel)
set_option maxRecDepth 20000 in
theorem gX11_why_X11_fails : GoodIn wsX11_why (wsV RX11 51 RX11 yX11_fails wsX11_fails) := goodIn_app (goodIn_of _ (by decide +kernel)) ggX11_why_X11_fails
set_option maxRecDepth 20000 in
theorem ggX11_why_X11_isStep : GoodIn wsX11_why wsX11_isStep := goodIn_ca (goodIn_r _ [22, 1, 7, 8, 5, 9, 39, 40, 41, 42, 43, 44, 45, 46, 47, 48, 49, 50, 51, 52, 53, 54, 55, 56, 57] (by decide +kernel) (by decide +kernel)) (goodIn_sub (fun _ h => List.mem_cons_of_mem _ (List.mem_append_right _ h)) (by decide +kernel))
set_option maxRecDepth 20000 in
theorem gX11_why_X11_isStep : GoodIn wsX11_why (wsV RX11 143 RX11 yX11_isStep wsX11_isStep) := goodIn_app (goodIn_of _ (by decide +kernel)) ggX11_why_X11_isStep
set_option maxRecDepth 20000 in
theorem ggX11_why_X11_cause : GoodIn wsX11_why wsX11_cause := goodIn_ca (goodIn_r _ [26, 1, 27, 28, 29, 5, 30, 31, 32, 33, 34, 39, 40, 41, 42, 43, 44, 45, 46, 47, 48, 49, 50, 51, 52, 53, 54, 55, 56, 57] (by decide +kernel) (by decide +kernel)) (goodIn_sub (fun _ h => List.mem_cons_of_mem _ (List.mem_append_right _ h)) (by decide +kernel))
set_option maxRecDepth 20000 in
theorem gX11_why_X11_cause : GoodIn wsX11_why (wsV RX11 73 RX11 yX11_cause wsX11_cause) := goodIn_app (goodIn_of _ (by decide +kernel)) ggX11_why_X11_cause
set_option maxRecDepth 20000 in
theorem ggX11_why_X11_done : GoodIn wsX11_why wsX11_done := goodIn_r _ [38, 18, 39, 40, 41, 42, 43, 44, 45, 46, 47, 48, 49, 50, 51, 52, 53, 54, 55, 56, 57] (by decide +kernel) (by decide +kernel)
set_option maxRecDepth 20000 in
theorem gX11_why_X11_done : GoodIn wsX11_why (wsV RX11 94 RX11 yX11_done wsX11_done) := goodIn_app (goodIn_of _ (by decide +kernel)) ggX11_why_X11_done
theorem dX11_why_0 : decode cX11_why 0 = .ok (.aload_n 0, 1) := by decide +kernel
theorem dX11_why_1 : decode cX11_why 1 = .ok (.iload_n 1, 1) := by decide +kernel
theorem dX11_why_2 : decode cX11_why 2 = .ok (.invokevirtual 124, 3) := by decide +kernel
theorem dX11_why_5 : decode cX11_why 5 = .ok (.ifCond .eq 11, 3) := by decide +kernel
theorem dX11_why_8 : decode cX11_why 8 = .ok (.aload_n 0, 1) := by decide +kernel
theorem dX11_why_9 : decode cX11_why 9 = .ok (.iload_n 2, 1) := by decide +kernel
theorem dX11_why_10 : decode cX11_why 10 = .ok (.invokevirtual 106, 3) := by decide +kernel
theorem dX11_why_13 : decode cX11_why 13 = .ok (.ifCond .ne 9, 3) := by decide +kernel
theorem dX11_why_16 : decode cX11_why 16 = .ok (.aload_n 0, 1) := by decide +kernel
theorem dX11_why_17 : decode cX11_why 17 = .ok (.iconst 1, 1) := by decide +kernel
theorem dX11_why_18 : decode cX11_why 18 = .ok (.invokevirtual 51, 3) := by decide +kernel
theorem dX11_why_21 : decode cX11_why 21 = .ok (.ireturn, 1) := by decide +kernel
theorem dX11_why_22 : decode cX11_why 22 = .ok (.aload_n 0, 1) := by decide +kernel
theorem dX11_why_23 : decode cX11_why 23 = .ok (.iload_n 2, 1) := by decide +kernel
theorem dX11_why_24 : decode cX11_why 24 = .ok (.iload_n 3, 1) := by decide +kernel
theorem dX11_why_25 : decode cX11_why 25 = .ok (.invokevirtual 143, 3) := by decide +kernel
theorem dX11_why_28 : decode cX11_why 28 = .ok (.ifCond .ne 9, 3) := by decide +kernel
theorem dX11_why_31 : decode cX11_why 31 = .ok (.aload_n 0, 1) := by decide +kernel
theorem dX11_why_32 : decode cX11_why 32 = .ok (.iconst 2, 1) := by decide +kernel
theorem dX11_why_33 : decode cX11_why 33 = .ok (.invokevirtual 51, 3) := by decide +kernel
theorem dX11_why_36 : decode cX11_why 36 = .ok (.ireturn, 1) := by decide +kernel
theorem dX11_why_37 : decode cX11_why 37 = .ok (.aload_n 0, 1) := by decide +kernel
theorem dX11_why_38 : decode cX11_why 38 = .ok (.aload_n 0, 1) := by decide +kernel
theorem dX11_why_39 : decode cX11_why 39 = .ok (.aload_n 0, 1) := by decide +kernel
theorem dX11_why_40 : decode cX11_why 40 = .ok (.getfield 7, 3) := by decide +kernel
theorem dX11_why_43 : decode cX11_why 43 = .ok (.bipush 63, 2) := by decide +kernel
theorem dX11_why_45 : decode cX11_why 45 = .ok (.iload_n 1, 1) := by decide +kernel
theorem dX11_why_46 : decode cX11_why 46 = .ok (.iadd, 1) := by decide +kernel
theorem dX11_why_47 : decode cX11_why 47 = .ok (.iaload, 1) := by decide +kernel
theorem dX11_why_48 : decode cX11_why 48 = .ok (.aload_n 0, 1) := by decide +kernel
theorem dX11_why_49 : decode cX11_why 49 = .ok (.getfield 7, 3) := by decide +kernel
theorem dX11_why_52 : decode cX11_why 52 = .ok (.bipush 58, 2) := by decide +kernel
theorem dX11_why_54 : decode cX11_why 54 = .ok (.iload_n 1, 1) := by decide +kernel
theorem dX11_why_55 : decode cX11_why 55 = .ok (.iadd, 1) := by decide +kernel
theorem dX11_why_56 : decode cX11_why 56 = .ok (.iaload, 1) := by decide +kernel
theorem dX11_why_57 : decode cX11_why 57 = .ok (.iload_n 2, 1) := by decide +kernel
theorem dX11_why_58 : decode cX11_why 58 = .ok (.iload_n 3, 1) := by decide +kernel
theorem dX11_why_59 : decode cX11_why 59 = .ok (.aload_n 0, 1) := by decide +kernel
theorem dX11_why_60 : decode cX11_why 60 = .ok (.getfield 7, 3) := by decide +kernel
theorem dX11_why_63 : decode cX11_why 63 = .ok (.bipush 26, 2) := by decide +kernel
theorem dX11_why_65 : decode cX11_why 65 = .ok (.iload_n 2, 1) := by decide +kernel
theorem dX11_why_66 : decode cX11_why 66 = .ok (.iadd, 1) := by decide +kernel
theorem dX11_why_67 : decode cX11_why 67 = .ok (.iaload, 1) := by decide +kernel
theorem dX11_why_68 : decode cX11_why 68 = .ok (.invokevirtual 73, 3) := by decide +kernel
theorem dX11_why_71 : decode cX11_why 71 = .ok (.invokevirtual 94, 3) := by decide +kernel
theorem dX11_why_74 : decode cX11_why 74 = .ok (.ireturn, 1) := by decide +kernel
set_option maxRecDepth 20000 in
theorem ggX11_whyAgain_X11_why : GoodIn wsX11_whyAgain wsX11_why := goodIn_ca (goodIn_r _ [5, 6, 7, 8, 9, 4, 10, 11, 12, 13, 14, 15, 16, 17, 18, 19, 20, 21, 22, 23, 24, 25, 26, 27, 28, 29, 30, 31, 32, 33, 34, 35, 36, 37, 38, 39, 40, 41, 42, 43, 44, 45, 46, 47, 48, 49, 50, 51, 52, 53, 54, 55, 56, 57, 58, 59, 60, 61] (by decide +kernel) (by decide +kernel)) (goodIn_sub (fun _ h => List.mem_cons_of_mem _ (List.mem_append_right _ h)) (by decide +kernel))
set_option maxRecDepth 20000 in
theorem gX11_whyAgain_X11_why : GoodIn wsX11_whyAgain (wsV RX11 173 RX11 yX11_why wsX11_why) := goodIn_app (goodIn_of _ (by decide +kernel)) ggX11_whyAgain_X11_why
theorem dX11_whyAgain_0 : decode cX11_whyAgain 0 = .ok (.aload_n 0, 1) := by decide +kernel
theorem dX11_whyAgain_1 : decode cX11_whyAgain 1 = .ok (.iload_n 1, 1) := by decide +kernel
theorem dX11_whyAgain_2 : decode cX11_whyAgain 2 = .ok (.iload_n 2, 1) := by decide +kernel
theorem dX11_whyAgain_3 : decode cX11_whyAgain 3 = .ok (.iload_n 3, 1) := by decide +kernel
theorem dX11_whyAgain_4 : decode cX11_whyAgain 4 = .ok (.invokevirtual 173, 3) := by decide +kernel
theorem dX11_whyAgain_7 : decode cX11_whyAgain 7 = .ok (.ireturn, 1) := by decide +kernel
set_option maxRecDepth 20000 in
theorem ggX11_wouldSkip_X11_isCousin : GoodIn wsX11_wouldSkip wsX11_isCousin := goodIn_ca (goodIn_r _ [5, 6, 7, 8, 4, 9, 43, 44, 45, 46, 47, 48, 49, 50, 51, 52, 53, 54, 55, 56, 57, 58, 59, 60, 61] (by decide +kernel) (by decide +kernel)) (goodIn_sub (fun _ h => List.mem_cons_of_mem _ (List.mem_append_right _ h)) (by decide +kernel))
set_option maxRecDepth 20000 in
theorem gX11_wouldSkip_X11_isCousin : GoodIn wsX11_wouldSkip (wsV RX11 124 RX11 yX11_isCousin wsX11_isCousin) := goodIn_app (goodIn_of _ (by decide +kernel)) ggX11_wouldSkip_X11_isCousin
set_option maxRecDepth 20000 in
theorem ggX11_wouldSkip_X11_isLeaflet : GoodIn wsX11_wouldSkip wsX11_isLeaflet := goodIn_ca (goodIn_r _ [13, 6, 7, 8, 4, 9, 43, 44, 45, 46, 47, 48, 49, 50, 51, 52, 53, 54, 55, 56, 57, 58, 59, 60, 61] (by decide +kernel) (by decide +kernel)) (goodIn_sub (fun _ h => List.mem_cons_of_mem _ (List.mem_append_right _ h)) (by decide +kernel))
set_option maxRecDepth 20000 in
theorem gX11_wouldSkip_X11_isLeaflet : GoodIn wsX11_wouldSkip (wsV RX11 106 RX11 yX11_isLeaflet wsX11_isLeaflet) := goodIn_app (goodIn_of _ (by decide +kernel)) ggX11_wouldSkip_X11_isLeaflet
set_option maxRecDepth 20000 in
theorem ggX11_wouldSkip_X11_skips : GoodIn wsX11_wouldSkip wsX11_skips := goodIn_ca (goodIn_r _ [17, 6, 18, 19, 20, 4, 21, 22, 23, 24, 25, 26, 27, 28, 29, 30, 31, 32, 33, 43, 44, 45, 46, 47, 48, 49, 50, 51, 52, 53, 54, 55, 56, 57, 58, 59, 60, 61] (by decide +kernel) (by decide +kernel)) (goodIn_sub (fun _ h => List.mem_cons_of_mem _ (List.mem_append_right _ h)) (by decide +kernel))
set_option maxRecDepth 20000 in
theorem gX11_wouldSkip_X11_skips : GoodIn wsX11_wouldSkip (wsV RX11 130 RX11 yX11_skips wsX11_skips) := goodIn_app (goodIn_of _ (by decide +kernel)) ggX11_wouldSkip_X11_skips
set_option maxRecDepth 20000 in
theorem ggX11_wouldSkip_X11_done : GoodIn wsX11_wouldSkip wsX11_done := goodIn_r _ [37, 38, 43, 44, 45, 46, 47, 48, 49, 50, 51, 52, 53, 54, 55, 56, 57, 58, 59, 60, 61] (by decide +kernel) (by decide +kernel)
set_option maxRecDepth 20000 in
theorem gX11_wouldSkip_X11_done : GoodIn wsX11_wouldSkip (wsV RX11 94 RX11 yX11_done wsX11_done) := goodIn_app (goodIn_of _ (by decide +kernel)) ggX11_wouldSkip_X11_done
set_option maxRecDepth 20000 in
theorem ggX11_wouldSkip_X11_fails : GoodIn wsX11_wouldSkip wsX11_fails := goodIn_r _ [42, 38, 43, 44, 45, 46, 47, 48, 49, 50, 51, 52, 53, 54, 55, 56, 57, 58, 59, 60, 61] (by decide +kernel) (by decide +kernel)
set_option maxRecDepth 20000 in
theorem gX11_wouldSkip_X11_fails : GoodIn wsX11_wouldSkip (wsV RX11 51 RX11 yX11_fails wsX11_fails) := goodIn_app (goodIn_of _ (by decide +kernel)) ggX11_wouldSkip_X11_fails
theorem dX11_wouldSkip_0 : decode cX11_wouldSkip 0 = .ok (.aload_n 0, 1) := by decide +kernel
theorem dX11_wouldSkip_1 : decode cX11_wouldSkip 1 = .ok (.iload_n 1, 1) := by decide +kernel
theorem dX11_wouldSkip_2 : decode cX11_wouldSkip 2 = .ok (.invokevirtual 124, 3) := by decide +kernel
theorem dX11_wouldSkip_5 : decode cX11_wouldSkip 5 = .ok (.ifCond .eq 24, 3) := by decide +kernel
theorem dX11_wouldSkip_8 : decode cX11_wouldSkip 8 = .ok (.aload_n 0, 1) := by decide +kernel
theorem dX11_wouldSkip_9 : decode cX11_wouldSkip 9 = .ok (.iload_n 2, 1) := by decide +kernel
theorem dX11_wouldSkip_10 : decode cX11_wouldSkip 10 = .ok (.invokevirtual 106, 3) := by decide +kernel
theorem dX11_wouldSkip_13 : decode cX11_wouldSkip 13 = .ok (.ifCond .eq 16, 3) := by decide +kernel
theorem dX11_wouldSkip_16 : decode cX11_wouldSkip 16 = .ok (.aload_n 0, 1) := by decide +kernel
theorem dX11_wouldSkip_17 : decode cX11_wouldSkip 17 = .ok (.aload_n 0, 1) := by decide +kernel
theorem dX11_wouldSkip_18 : decode cX11_wouldSkip 18 = .ok (.iload_n 1, 1) := by decide +kernel
theorem dX11_wouldSkip_19 : decode cX11_wouldSkip 19 = .ok (.iload_n 2, 1) := by decide +kernel
theorem dX11_wouldSkip_20 : decode cX11_wouldSkip 20 = .ok (.invokevirtual 130, 3) := by decide +kernel
theorem dX11_wouldSkip_23 : decode cX11_wouldSkip 23 = .ok (.invokevirtual 94, 3) := by decide +kernel
theorem dX11_wouldSkip_26 : decode cX11_wouldSkip 26 = .ok (.goto 8, 3) := by decide +kernel
theorem dX11_wouldSkip_29 : decode cX11_wouldSkip 29 = .ok (.aload_n 0, 1) := by decide +kernel
theorem dX11_wouldSkip_30 : decode cX11_wouldSkip 30 = .ok (.iconst 1, 1) := by decide +kernel
theorem dX11_wouldSkip_31 : decode cX11_wouldSkip 31 = .ok (.invokevirtual 51, 3) := by decide +kernel
theorem dX11_wouldSkip_34 : decode cX11_wouldSkip 34 = .ok (.ireturn, 1) := by decide +kernel
set_option maxRecDepth 20000 in
theorem ggX11_wouldLeave_X11_isCousin : GoodIn wsX11_wouldLeave wsX11_isCousin := goodIn_ca (goodIn_r _ [6, 7, 8, 9, 5, 10, 51, 52, 53, 54, 55, 56, 57, 58, 59, 60, 61, 62, 63, 64, 65, 66, 67, 68, 69] (by decide +kernel) (by decide +kernel)) (goodIn_sub (fun _ h => List.mem_cons_of_mem _ (List.mem_append_right _ h)) (by decide +kernel))
set_option maxRecDepth 20000 in
theorem gX11_wouldLeave_X11_isCousin : GoodIn wsX11_wouldLeave (wsV RX11 124 RX11 yX11_isCousin wsX11_isCousin) := goodIn_app (goodIn_of _ (by decide +kernel)) ggX11_wouldLeave_X11_isCousin
set_option maxRecDepth 20000 in
theorem ggX11_wouldLeave_X11_isLeaflet : GoodIn wsX11_wouldLeave wsX11_isLeaflet := goodIn_ca (goodIn_r _ [14, 7, 8, 9, 5, 10, 51, 52, 53, 54, 55, 56, 57, 58, 59, 60, 61, 62, 63, 64, 65, 66, 67, 68, 69] (by decide +kernel) (by decide +kernel)) (goodIn_sub (fun _ h => List.mem_cons_of_mem _ (List.mem_append_right _ h)) (by decide +kernel))
set_option maxRecDepth 20000 in
theorem gX11_wouldLeave_X11_isLeaflet : GoodIn wsX11_wouldLeave (wsV RX11 106 RX11 yX11_isLeaflet wsX11_isLeaflet) := goodIn_app (goodIn_of _ (by decide +kernel)) ggX11_wouldLeave_X11_isLeaflet
set_option maxRecDepth 20000 in
theorem ggX11_wouldLeave_X11_fails : GoodIn wsX11_wouldLeave wsX11_fails := goodIn_r _ [18, 19, 51, 52, 53, 54, 55, 56, 57, 58, 59, 60, 61, 62, 63, 64, 65, 66, 67, 68, 69] (by decide +kernel) (by decide +kernel)
set_option maxRecDepth 20000 in
theorem gX11_wouldLeave_X11_fails : GoodIn wsX11_wouldLeave (wsV RX11 51 RX11 yX11_fails wsX11_fails) := goodIn_app (goodIn_of _ (by decide +kernel)) ggX11_wouldLeave_X11_fails
set_option maxRecDepth 20000 in
theorem ggX11_wouldLeave_X11_isKind : GoodIn wsX11_wouldLeave wsX11_isKind := goodIn_r _ [22, 8, 9, 5, 10] (by decide +kernel) (by decide +kernel)
set_option maxRecDepth 20000 in
theorem gX11_wouldLeave_X11_isKind : GoodIn wsX11_wouldLeave (va_wsS RX11 109 yX11_isKind wsX11_isKind) := goodIn_app (goodIn_of _ (by decide +kernel)) ggX11_wouldLeave_X11_isKind
set_option maxRecDepth 20000 in
theorem ggX11_wouldLeave_X11_skips : GoodIn wsX11_wouldLeave wsX11_skips := goodIn_ca (goodIn_r _ [26, 7, 27, 28, 29, 5, 30, 31, 32, 33, 34, 35, 36, 37, 38, 39, 40, 41, 42, 51, 52, 53, 54, 55, 56, 57, 58, 59, 60, 61, 62, 63, 64, 65, 66, 67, 68, 69] (by decide +kernel) (by decide +kernel)) (goodIn_sub (fun _ h => List.mem_cons_of_mem _ (List.mem_append_right _ h)) (by decide +kernel))
set_option maxRecDepth 20000 in
theorem gX11_wouldLeave_X11_skips : GoodIn wsX11_wouldLeave (wsV RX11 130 RX11 yX11_skips wsX11_skips) := goodIn_app (goodIn_of _ (by decide +kernel)) ggX11_wouldLeave_X11_skips
set_option maxRecDepth 20000 in
theorem ggX11_wouldLeave_X11_needsFor : GoodIn wsX11_wouldLeave wsX11_needsFor := goodIn_ca (goodIn_r _ [46, 1, 7, 39, 40, 41, 5, 42, 51, 52, 53, 54, 55, 56, 57, 58, 59, 60, 61, 62, 63, 64, 65, 66, 67, 68, 69] (by decide +kernel) (by decide +kernel)) (goodIn_sub (fun _ h => List.mem_cons_of_mem _ (List.mem_append_right _ h)) (by decide +kernel))
set_option maxRecDepth 20000 in
theorem gX11_wouldLeave_X11_needsFor : GoodIn wsX11_wouldLeave (wsV RX11 133 RX11 yX11_needsFor wsX11_needsFor) := goodIn_app (goodIn_of _ (by decide +kernel)) ggX11_wouldLeave_X11_needsFor
set_option maxRecDepth 20000 in
theorem ggX11_wouldLeave_X11_done : GoodIn wsX11_wouldLeave wsX11_done := goodIn_r _ [50, 19, 51, 52, 53, 54, 55, 56, 57, 58, 59, 60, 61, 62, 63, 64, 65, 66, 67, 68, 69] (by decide +kernel) (by decide +kernel)
set_option maxRecDepth 20000 in
theorem gX11_wouldLeave_X11_done : GoodIn wsX11_wouldLeave (wsV RX11 94 RX11 yX11_done wsX11_done) := goodIn_app (goodIn_of _ (by decide +kernel)) ggX11_wouldLeave_X11_done
theorem dX11_wouldLeave_0 : decode cX11_wouldLeave 0 = .ok (.aload_n 0, 1) := by decide +kernel
theorem dX11_wouldLeave_1 : decode cX11_wouldLeave 1 = .ok (.iload_n 1, 1) := by decide +kernel
theorem dX11_wouldLeave_2 : decode cX11_wouldLeave 2 = .ok (.invokevirtual 124, 3) := by decide +kernel
theorem dX11_wouldLeave_5 : decode cX11_wouldLeave 5 = .ok (.ifCond .eq 11, 3) := by decide +kernel
theorem dX11_wouldLeave_8 : decode cX11_wouldLeave 8 = .ok (.aload_n 0, 1) := by decide +kernel
theorem dX11_wouldLeave_9 : decode cX11_wouldLeave 9 = .ok (.iload_n 2, 1) := by decide +kernel
theorem dX11_wouldLeave_10 : decode cX11_wouldLeave 10 = .ok (.invokevirtual 106, 3) := by decide +kernel
theorem dX11_wouldLeave_13 : decode cX11_wouldLeave 13 = .ok (.ifCond .ne 9, 3) := by decide +kernel
theorem dX11_wouldLeave_16 : decode cX11_wouldLeave 16 = .ok (.aload_n 0, 1) := by decide +kernel
theorem dX11_wouldLeave_17 : decode cX11_wouldLeave 17 = .ok (.iconst 1, 1) := by decide +kernel
theorem dX11_wouldLeave_18 : decode cX11_wouldLeave 18 = .ok (.invokevirtual 51, 3) := by decide +kernel
theorem dX11_wouldLeave_21 : decode cX11_wouldLeave 21 = .ok (.ireturn, 1) := by decide +kernel
theorem dX11_wouldLeave_22 : decode cX11_wouldLeave 22 = .ok (.iload_n 3, 1) := by decide +kernel
theorem dX11_wouldLeave_23 : decode cX11_wouldLeave 23 = .ok (.invokestatic 109, 3) := by decide +kernel
theorem dX11_wouldLeave_26 : decode cX11_wouldLeave 26 = .ok (.ifCond .ne 9, 3) := by decide +kernel
theorem dX11_wouldLeave_29 : decode cX11_wouldLeave 29 = .ok (.aload_n 0, 1) := by decide +kernel
theorem dX11_wouldLeave_30 : decode cX11_wouldLeave 30 = .ok (.iconst 2, 1) := by decide +kernel
theorem dX11_wouldLeave_31 : decode cX11_wouldLeave 31 = .ok (.invokevirtual 51, 3) := by decide +kernel
theorem dX11_wouldLeave_34 : decode cX11_wouldLeave 34 = .ok (.ireturn, 1) := by decide +kernel
theorem dX11_wouldLeave_35 : decode cX11_wouldLeave 35 = .ok (.aload_n 0, 1) := by decide +kernel
theorem dX11_wouldLeave_36 : decode cX11_wouldLeave 36 = .ok (.iload_n 2, 1) := by decide +kernel
theorem dX11_wouldLeave_37 : decode cX11_wouldLeave 37 = .ok (.aload_n 0, 1) := by decide +kernel
theorem dX11_wouldLeave_38 : decode cX11_wouldLeave 38 = .ok (.iload_n 1, 1) := by decide +kernel
theorem dX11_wouldLeave_39 : decode cX11_wouldLeave 39 = .ok (.iload_n 2, 1) := by decide +kernel
theorem dX11_wouldLeave_40 : decode cX11_wouldLeave 40 = .ok (.invokevirtual 130, 3) := by decide +kernel
theorem dX11_wouldLeave_43 : decode cX11_wouldLeave 43 = .ok (.invokevirtual 133, 3) := by decide +kernel
theorem dX11_wouldLeave_46 : decode cX11_wouldLeave 46 = .ok (.istore 4, 2) := by decide +kernel
theorem dX11_wouldLeave_48 : decode cX11_wouldLeave 48 = .ok (.aload_n 0, 1) := by decide +kernel
theorem dX11_wouldLeave_49 : decode cX11_wouldLeave 49 = .ok (.aload_n 0, 1) := by decide +kernel
theorem dX11_wouldLeave_50 : decode cX11_wouldLeave 50 = .ok (.getfield 33, 3) := by decide +kernel
theorem dX11_wouldLeave_53 : decode cX11_wouldLeave 53 = .ok (.iload_n 3, 1) := by decide +kernel
theorem dX11_wouldLeave_54 : decode cX11_wouldLeave 54 = .ok (.iaload, 1) := by decide +kernel
theorem dX11_wouldLeave_55 : decode cX11_wouldLeave 55 = .ok (.invokevirtual 94, 3) := by decide +kernel
theorem dX11_wouldLeave_58 : decode cX11_wouldLeave 58 = .ok (.ireturn, 1) := by decide +kernel
set_option maxRecDepth 20000 in
theorem ggX11_isBetter_X11_skips : GoodIn wsX11_isBetter wsX11_skips := goodIn_ca (goodIn_r _ [6, 1, 7, 8, 9, 5, 10, 11, 12, 13, 14, 15, 16, 17, 18, 19, 20, 21, 22, 26, 27, 28, 29, 30, 31, 32, 33, 34, 35, 36, 37, 38, 39, 40, 41, 42, 43, 44] (by decide +kernel) (by decide +kernel)) (goodIn_sub (fun _ h => List.mem_cons_of_mem _ (List.mem_append_right _ h)) (by decide +kernel))
set_option maxRecDepth 20000 in
theorem gX11_isBetter_X11_skips : GoodIn wsX11_isBetter (wsV RX11 130 RX11 yX11_skips wsX11_skips) := goodIn_app (goodIn_of _ (by decide +kernel)) ggX11_isBetter_X11_skips
set_option maxRecDepth 20000 in
theorem ggX11_isBetter_X11_bits : GoodIn wsX11_isBetter wsX11_bits := goodIn_r _ [25] (by decide +kernel) (by decide +kernel)
set_option maxRecDepth 20000 in
theorem gX11_isBetter_X11_bits : GoodIn wsX11_isBetter (va_wsS RX11 91 yX11_bits wsX11_bits) := goodIn_app (goodIn_of _ (by decide +kernel)) ggX11_isBetter_X11_bits
theorem dX11_isBetter_0 : decode cX11_isBetter 0 = .ok (.aload_n 0, 1) := by decide +kernel
theorem dX11_isBetter_1 : decode cX11_isBetter 1 = .ok (.iload_n 2, 1) := by decide +kernel
theorem dX11_isBetter_2 : decode cX11_isBetter 2 = .ok (.iload_n 3, 1) := by decide +kernel
theorem dX11_isBetter_3 : decode cX11_isBetter 3 = .ok (.invokevirtual 130, 3) := by decide +kernel
theorem dX11_isBetter_6 : decode cX11_isBetter 6 = .ok (.invokestatic 91, 3) := by decide +kernel
theorem dX11_isBetter_9 : decode cX11_isBetter 9 = .ok (.aload_n 0, 1) := by decide +kernel
theorem dX11_isBetter_10 : decode cX11_isBetter 10 = .ok (.iload_n 1, 1) := by decide +kernel
theorem dX11_isBetter_11 : decode cX11_isBetter 11 = .ok (.iload_n 3, 1) := by decide +kernel
theorem dX11_isBetter_12 : decode cX11_isBetter 12 = .ok (.invokevirtual 130, 3) := by decide +kernel
theorem dX11_isBetter_15 : decode cX11_isBetter 15 = .ok (.invokestatic 91, 3) := by decide +kernel
theorem dX11_isBetter_18 : decode cX11_isBetter 18 = .ok (.isub, 1) := by decide +kernel
theorem dX11_isBetter_19 : decode cX11_isBetter 19 = .ok (.istore 4, 2) := by decide +kernel
theorem dX11_isBetter_21 : decode cX11_isBetter 21 = .ok (.iload 4, 2) := by decide +kernel
theorem dX11_isBetter_23 : decode cX11_isBetter 23 = .ok (.ifCond .gt 29, 3) := by decide +kernel
theorem dX11_isBetter_26 : decode cX11_isBetter 26 = .ok (.iload 4, 2) := by decide +kernel
theorem dX11_isBetter_28 : decode cX11_isBetter 28 = .ok (.ifCond .ne 28, 3) := by decide +kernel
theorem dX11_isBetter_31 : decode cX11_isBetter 31 = .ok (.aload_n 0, 1) := by decide +kernel
theorem dX11_isBetter_32 : decode cX11_isBetter 32 = .ok (.getfield 7, 3) := by decide +kernel
theorem dX11_isBetter_35 : decode cX11_isBetter 35 = .ok (.bipush 58, 2) := by decide +kernel
theorem dX11_isBetter_37 : decode cX11_isBetter 37 = .ok (.iload_n 1, 1) := by decide +kernel
theorem dX11_isBetter_38 : decode cX11_isBetter 38 = .ok (.iadd, 1) := by decide +kernel
theorem dX11_isBetter_39 : decode cX11_isBetter 39 = .ok (.iaload, 1) := by decide +kernel
theorem dX11_isBetter_40 : decode cX11_isBetter 40 = .ok (.aload_n 0, 1) := by decide +kernel
theorem dX11_isBetter_41 : decode cX11_isBetter 41 = .ok (.getfield 7, 3) := by decide +kernel
theorem dX11_isBetter_44 : decode cX11_isBetter 44 = .ok (.bipush 58, 2) := by decide +kernel
theorem dX11_isBetter_46 : decode cX11_isBetter 46 = .ok (.iload_n 2, 1) := by decide +kernel
theorem dX11_isBetter_47 : decode cX11_isBetter 47 = .ok (.iadd, 1) := by decide +kernel
theorem dX11_isBetter_48 : decode cX11_isBetter 48 = .ok (.iaload, 1) := by decide +kernel
theorem dX11_isBetter_49 : decode cX11_isBetter 49 = .ok (.if_icmp .ge 7, 3) := by decide +kernel
theorem dX11_isBetter_52 : decode cX11_isBetter 52 = .ok (.iconst 1, 1) := by decide +kernel
theorem dX11_isBetter_53 : decode cX11_isBetter 53 = .ok (.goto 4, 3) := by decide +kernel
theorem dX11_isBetter_56 : decode cX11_isBetter 56 = .ok (.iconst 0, 1) := by decide +kernel
theorem dX11_isBetter_57 : decode cX11_isBetter 57 = .ok (.ireturn, 1) := by decide +kernel
set_option maxRecDepth 20000 in
theorem ggX11_bestCousin_X11_isLeaflet : GoodIn wsX11_bestCousin wsX11_isLeaflet := goodIn_ca (goodIn_r _ [6, 1, 7, 8, 5, 9, 46, 47, 48, 49, 50, 51, 52, 53, 54, 55, 56, 57, 58, 59, 60, 61, 62, 63, 64] (by decide +kernel) (by decide +kernel)) (goodIn_sub (fun _ h => List.mem_cons_of_mem _ (List.mem_append_right _ h)) (by decide +kernel))
set_option maxRecDepth 20000 in
theorem gX11_bestCousin_X11_isLeaflet : GoodIn wsX11_bestCousin (wsV RX11 106 RX11 yX11_isLeaflet wsX11_isLeaflet) := goodIn_app (goodIn_of _ (by decide +kernel)) ggX11_bestCousin_X11_isLeaflet
set_option maxRecDepth 20000 in
theorem ggX11_bestCousin_X11_fails : GoodIn wsX11_bestCousin wsX11_fails := goodIn_r _ [13, 14, 46, 47, 48, 49, 50, 51, 52, 53, 54, 55, 56, 57, 58, 59, 60, 61, 62, 63, 64] (by decide +kernel) (by decide +kernel)
set_option maxRecDepth 20000 in
theorem gX11_bestCousin_X11_fails : GoodIn wsX11_bestCousin (wsV RX11 51 RX11 yX11_fails wsX11_fails) := goodIn_app (goodIn_of _ (by decide +kernel)) ggX11_bestCousin_X11_fails
set_option maxRecDepth 20000 in
theorem ggX11_bestCousin_X11_isBetter : GoodIn wsX11_bestCousin wsX11_isBetter := goodIn_ca (goodIn_r _ [18, 1, 19, 20, 21, 5, 22, 23, 24, 25, 26, 27, 28, 29, 30, 31, 32, 33, 34, 35, 36, 37, 38, 39, 40, 41, 46, 47, 48, 49, 50, 51, 52, 53, 54, 55, 56, 57, 58, 59, 60, 61, 62, 63, 64] (by decide +kernel) (by decide +kernel)) (goodIn_sub (fun _ h => List.mem_cons_of_mem _ (List.mem_append_right _ h)) (by decide +kernel))
set_option maxRecDepth 20000 in
theorem gX11_bestCousin_X11_isBetter : GoodIn wsX11_bestCousin (wsV RX11 177 RX11 yX11_isBetter wsX11_isBetter) := goodIn_app (goodIn_of _ (by decide +kernel)) ggX11_bestCousin_X11_isBetter
set_option maxRecDepth 20000 in
theorem ggX11_bestCousin_X11_done : GoodIn wsX11_bestCousin wsX11_done := goodIn_r _ [45, 14, 46, 47, 48, 49, 50, 51, 52, 53, 54, 55, 56, 57, 58, 59, 60, 61, 62, 63, 64] (by decide +kernel) (by decide +kernel)
set_option maxRecDepth 20000 in
theorem gX11_bestCousin_X11_done : GoodIn wsX11_bestCousin (wsV RX11 94 RX11 yX11_done wsX11_done) := goodIn_app (goodIn_of _ (by decide +kernel)) ggX11_bestCousin_X11_done
theorem dX11_bestCousin_0 : decode cX11_bestCousin 0 = .ok (.aload_n 0, 1) := by decide +kernel
theorem dX11_bestCousin_1 : decode cX11_bestCousin 1 = .ok (.iload_n 1, 1) := by decide +kernel
theorem dX11_bestCousin_2 : decode cX11_bestCousin 2 = .ok (.invokevirtual 106, 3) := by decide +kernel
theorem dX11_bestCousin_5 : decode cX11_bestCousin 5 = .ok (.ifCond .ne 9, 3) := by decide +kernel
theorem dX11_bestCousin_8 : decode cX11_bestCousin 8 = .ok (.aload_n 0, 1) := by decide +kernel
theorem dX11_bestCousin_9 : decode cX11_bestCousin 9 = .ok (.iconst 1, 1) := by decide +kernel
theorem dX11_bestCousin_10 : decode cX11_bestCousin 10 = .ok (.invokevirtual 51, 3) := by decide +kernel
theorem dX11_bestCousin_13 : decode cX11_bestCousin 13 = .ok (.ireturn, 1) := by decide +kernel
theorem dX11_bestCousin_14 : decode cX11_bestCousin 14 = .ok (.iconst 0, 1) := by decide +kernel
theorem dX11_bestCousin_15 : decode cX11_bestCousin 15 = .ok (.istore_n 2, 1) := by decide +kernel
theorem dX11_bestCousin_16 : decode cX11_bestCousin 16 = .ok (.iconst 1, 1) := by decide +kernel
theorem dX11_bestCousin_17 : decode cX11_bestCousin 17 = .ok (.istore_n 3, 1) := by decide +kernel
theorem dX11_bestCousin_18 : decode cX11_bestCousin 18 = .ok (.iload_n 3, 1) := by decide +kernel
theorem dX11_bestCousin_19 : decode cX11_bestCousin 19 = .ok (.aload_n 0, 1) := by decide +kernel
theorem dX11_bestCousin_20 : decode cX11_bestCousin 20 = .ok (.getfield 7, 3) := by decide +kernel
theorem dX11_bestCousin_23 : decode cX11_bestCousin 23 = .ok (.iconst 1, 1) := by decide +kernel
theorem dX11_bestCousin_24 : decode cX11_bestCousin 24 = .ok (.iaload, 1) := by decide +kernel
theorem dX11_bestCousin_25 : decode cX11_bestCousin 25 = .ok (.if_icmp .ge 25, 3) := by decide +kernel
theorem dX11_bestCousin_28 : decode cX11_bestCousin 28 = .ok (.aload_n 0, 1) := by decide +kernel
theorem dX11_bestCousin_29 : decode cX11_bestCousin 29 = .ok (.iload_n 3, 1) := by decide +kernel
theorem dX11_bestCousin_30 : decode cX11_bestCousin 30 = .ok (.iload_n 2, 1) := by decide +kernel
theorem dX11_bestCousin_31 : decode cX11_bestCousin 31 = .ok (.iload_n 1, 1) := by decide +kernel
theorem dX11_bestCousin_32 : decode cX11_bestCousin 32 = .ok (.invokevirtual 177, 3) := by decide +kernel
theorem dX11_bestCousin_35 : decode cX11_bestCousin 35 = .ok (.ifCond .eq 7, 3) := by decide +kernel
theorem dX11_bestCousin_38 : decode cX11_bestCousin 38 = .ok (.iload_n 3, 1) := by decide +kernel
theorem dX11_bestCousin_39 : decode cX11_bestCousin 39 = .ok (.goto 4, 3) := by decide +kernel
theorem dX11_bestCousin_42 : decode cX11_bestCousin 42 = .ok (.iload_n 2, 1) := by decide +kernel
theorem dX11_bestCousin_43 : decode cX11_bestCousin 43 = .ok (.istore_n 2, 1) := by decide +kernel
theorem dX11_bestCousin_44 : decode cX11_bestCousin 44 = .ok (.iinc 3 1, 3) := by decide +kernel
theorem dX11_bestCousin_47 : decode cX11_bestCousin 47 = .ok (.goto (-29), 3) := by decide +kernel
theorem dX11_bestCousin_50 : decode cX11_bestCousin 50 = .ok (.aload_n 0, 1) := by decide +kernel
theorem dX11_bestCousin_51 : decode cX11_bestCousin 51 = .ok (.getfield 7, 3) := by decide +kernel
theorem dX11_bestCousin_54 : decode cX11_bestCousin 54 = .ok (.iconst 1, 1) := by decide +kernel
theorem dX11_bestCousin_55 : decode cX11_bestCousin 55 = .ok (.iaload, 1) := by decide +kernel
theorem dX11_bestCousin_56 : decode cX11_bestCousin 56 = .ok (.ifCond .ne 11, 3) := by decide +kernel
theorem dX11_bestCousin_59 : decode cX11_bestCousin 59 = .ok (.aload_n 0, 1) := by decide +kernel
theorem dX11_bestCousin_60 : decode cX11_bestCousin 60 = .ok (.iconst 2, 1) := by decide +kernel
theorem dX11_bestCousin_61 : decode cX11_bestCousin 61 = .ok (.invokevirtual 51, 3) := by decide +kernel
theorem dX11_bestCousin_64 : decode cX11_bestCousin 64 = .ok (.goto 8, 3) := by decide +kernel
theorem dX11_bestCousin_67 : decode cX11_bestCousin 67 = .ok (.aload_n 0, 1) := by decide +kernel
theorem dX11_bestCousin_68 : decode cX11_bestCousin 68 = .ok (.iload_n 2, 1) := by decide +kernel
theorem dX11_bestCousin_69 : decode cX11_bestCousin 69 = .ok (.invokevirtual 94, 3) := by decide +kernel
theorem dX11_bestCousin_72 : decode cX11_bestCousin 72 = .ok (.ireturn, 1) := by decide +kernel
set_option maxRecDepth 20000 in
theorem ggX11_bestLanguage_X11_isCousin : GoodIn wsX11_bestLanguage wsX11_isCousin := goodIn_ca (goodIn_r _ [6, 1, 7, 8, 5, 9, 46, 47, 48, 49, 50, 51, 52, 53, 54, 55, 56, 57, 58, 59, 60, 61, 62, 63, 64] (by decide +kernel) (by decide +kernel)) (goodIn_sub (fun _ h => List.mem_cons_of_mem _ (List.mem_append_right _ h)) (by decide +kernel))
set_option maxRecDepth 20000 in
theorem gX11_bestLanguage_X11_isCousin : GoodIn wsX11_bestLanguage (wsV RX11 124 RX11 yX11_isCousin wsX11_isCousin) := goodIn_app (goodIn_of _ (by decide +kernel)) ggX11_bestLanguage_X11_isCousin
set_option maxRecDepth 20000 in
theorem ggX11_bestLanguage_X11_isLeaflet : GoodIn wsX11_bestLanguage wsX11_isLeaflet := goodIn_ca (goodIn_r _ [13, 1, 7, 8, 5, 9, 46, 47, 48, 49, 50, 51, 52, 53, 54, 55, 56, 57, 58, 59, 60, 61, 62, 63, 64] (by decide +kernel) (by decide +kernel)) (goodIn_sub (fun _ h => List.mem_cons_of_mem _ (List.mem_append_right _ h)) (by decide +kernel))
set_option maxRecDepth 20000 in
theorem gX11_bestLanguage_X11_isLeaflet : GoodIn wsX11_bestLanguage (wsV RX11 106 RX11 yX11_isLeaflet wsX11_isLeaflet) := goodIn_app (goodIn_of _ (by decide +kernel)) ggX11_bestLanguage_X11_isLeaflet
set_option maxRecDepth 20000 in
theorem ggX11_bestLanguage_X11_fails : GoodIn wsX11_bestLanguage wsX11_fails := goodIn_r _ [17, 18, 46, 47, 48, 49, 50, 51, 52, 53, 54, 55, 56, 57, 58, 59, 60, 61, 62, 63, 64] (by decide +kernel) (by decide +kernel)
set_option maxRecDepth 20000 in
theorem gX11_bestLanguage_X11_fails : GoodIn wsX11_bestLanguage (wsV RX11 51 RX11 yX11_fails wsX11_fails) := goodIn_app (goodIn_of _ (by decide +kernel)) ggX11_bestLanguage_X11_fails
set_option maxRecDepth 20000 in
theorem ggX11_bestLanguage_X11_skips : GoodIn wsX11_bestLanguage wsX11_skips := goodIn_ca (goodIn_r _ [22, 1, 23, 24, 25, 5, 26, 27, 28, 29, 30, 31, 32, 33, 34, 35, 36, 37, 38, 46, 47, 48, 49, 50, 51, 52, 53, 54, 55, 56, 57, 58, 59, 60, 61, 62, 63, 64] (by decide +kernel) (by decide +kernel)) (goodIn_sub (fun _ h => List.mem_cons_of_mem _ (List.mem_append_right _ h)) (by decide +kernel))
set_option maxRecDepth 20000 in
theorem gX11_bestLanguage_X11_skips : GoodIn wsX11_bestLanguage (wsV RX11 130 RX11 yX11_skips wsX11_skips) := goodIn_app (goodIn_of _ (by decide +kernel)) ggX11_bestLanguage_X11_skips
set_option maxRecDepth 20000 in
theorem ggX11_bestLanguage_X11_bits : GoodIn wsX11_bestLanguage wsX11_bits := goodIn_r _ [41] (by decide +kernel) (by decide +kernel)
set_option maxRecDepth 20000 in
theorem gX11_bestLanguage_X11_bits : GoodIn wsX11_bestLanguage (va_wsS RX11 91 yX11_bits wsX11_bits) := goodIn_app (goodIn_of _ (by decide +kernel)) ggX11_bestLanguage_X11_bits
set_option maxRecDepth 20000 in
theorem ggX11_bestLanguage_X11_skipsWith : GoodIn wsX11_bestLanguage wsX11_skipsWith := goodIn_ca (goodIn_r _ [26, 1, 27, 28, 29, 5, 30, 31, 32, 33, 34, 35, 36, 37, 38, 46, 47, 48, 49, 50, 51, 52, 53, 54, 55, 56, 57, 58, 59, 60, 61, 62, 63, 64] (by decide +kernel) (by decide +kernel)) (goodIn_sub (fun _ h => List.mem_cons_of_mem _ (List.mem_append_right _ h)) (by decide +kernel))
set_option maxRecDepth 20000 in
theorem gX11_bestLanguage_X11_skipsWith : GoodIn wsX11_bestLanguage (wsV RX11 77 RX11 yX11_skipsWith wsX11_skipsWith) := goodIn_app (goodIn_of _ (by decide +kernel)) ggX11_bestLanguage_X11_skipsWith
set_option maxRecDepth 20000 in
theorem ggX11_bestLanguage_X11_done : GoodIn wsX11_bestLanguage wsX11_done := goodIn_r _ [45, 18, 46, 47, 48, 49, 50, 51, 52, 53, 54, 55, 56, 57, 58, 59, 60, 61, 62, 63, 64] (by decide +kernel) (by decide +kernel)
set_option maxRecDepth 20000 in
theorem gX11_bestLanguage_X11_done : GoodIn wsX11_bestLanguage (wsV RX11 94 RX11 yX11_done wsX11_done) := goodIn_app (goodIn_of _ (by decide +kernel)) ggX11_bestLanguage_X11_done
theorem dX11_bestLanguage_0 : decode cX11_bestLanguage 0 = .ok (.aload_n 0, 1) := by decide +kernel
theorem dX11_bestLanguage_1 : decode cX11_bestLanguage 1 = .ok (.iload_n 1, 1) := by decide +kernel
theorem dX11_bestLanguage_2 : decode cX11_bestLanguage 2 = .ok (.invokevirtual 124, 3) := by decide +kernel
theorem dX11_bestLanguage_5 : decode cX11_bestLanguage 5 = .ok (.ifCond .eq 11, 3) := by decide +kernel
theorem dX11_bestLanguage_8 : decode cX11_bestLanguage 8 = .ok (.aload_n 0, 1) := by decide +kernel
theorem dX11_bestLanguage_9 : decode cX11_bestLanguage 9 = .ok (.iload_n 2, 1) := by decide +kernel
theorem dX11_bestLanguage_10 : decode cX11_bestLanguage 10 = .ok (.invokevirtual 106, 3) := by decide +kernel
theorem dX11_bestLanguage_13 : decode cX11_bestLanguage 13 = .ok (.ifCond .ne 9, 3) := by decide +kernel
theorem dX11_bestLanguage_16 : decode cX11_bestLanguage 16 = .ok (.aload_n 0, 1) := by decide +kernel
theorem dX11_bestLanguage_17 : decode cX11_bestLanguage 17 = .ok (.iconst 1, 1) := by decide +kernel
theorem dX11_bestLanguage_18 : decode cX11_bestLanguage 18 = .ok (.invokevirtual 51, 3) := by decide +kernel
theorem dX11_bestLanguage_21 : decode cX11_bestLanguage 21 = .ok (.ireturn, 1) := by decide +kernel
theorem dX11_bestLanguage_22 : decode cX11_bestLanguage 22 = .ok (.iconst (-1), 1) := by decide +kernel
theorem dX11_bestLanguage_23 : decode cX11_bestLanguage 23 = .ok (.istore_n 3, 1) := by decide +kernel
theorem dX11_bestLanguage_24 : decode cX11_bestLanguage 24 = .ok (.aload_n 0, 1) := by decide +kernel
theorem dX11_bestLanguage_25 : decode cX11_bestLanguage 25 = .ok (.iload_n 1, 1) := by decide +kernel
theorem dX11_bestLanguage_26 : decode cX11_bestLanguage 26 = .ok (.iload_n 2, 1) := by decide +kernel
theorem dX11_bestLanguage_27 : decode cX11_bestLanguage 27 = .ok (.invokevirtual 130, 3) := by decide +kernel
theorem dX11_bestLanguage_30 : decode cX11_bestLanguage 30 = .ok (.invokestatic 91, 3) := by decide +kernel
theorem dX11_bestLanguage_33 : decode cX11_bestLanguage 33 = .ok (.istore 4, 2) := by decide +kernel
theorem dX11_bestLanguage_35 : decode cX11_bestLanguage 35 = .ok (.iconst 0, 1) := by decide +kernel
theorem dX11_bestLanguage_36 : decode cX11_bestLanguage 36 = .ok (.istore 5, 2) := by decide +kernel
theorem dX11_bestLanguage_38 : decode cX11_bestLanguage 38 = .ok (.iload 5, 2) := by decide +kernel
theorem dX11_bestLanguage_40 : decode cX11_bestLanguage 40 = .ok (.iconst 5, 1) := by decide +kernel
theorem dX11_bestLanguage_41 : decode cX11_bestLanguage 41 = .ok (.if_icmp .ge 81, 3) := by decide +kernel
theorem dX11_bestLanguage_44 : decode cX11_bestLanguage 44 = .ok (.aload_n 0, 1) := by decide +kernel
theorem dX11_bestLanguage_45 : decode cX11_bestLanguage 45 = .ok (.aload_n 0, 1) := by decide +kernel
theorem dX11_bestLanguage_46 : decode cX11_bestLanguage 46 = .ok (.getfield 7, 3) := by decide +kernel
theorem dX11_bestLanguage_49 : decode cX11_bestLanguage 49 = .ok (.bipush 63, 2) := by decide +kernel
theorem dX11_bestLanguage_51 : decode cX11_bestLanguage 51 = .ok (.iload_n 1, 1) := by decide +kernel
theorem dX11_bestLanguage_52 : decode cX11_bestLanguage 52 = .ok (.iadd, 1) := by decide +kernel
theorem dX11_bestLanguage_53 : decode cX11_bestLanguage 53 = .ok (.iaload, 1) := by decide +kernel
theorem dX11_bestLanguage_54 : decode cX11_bestLanguage 54 = .ok (.iconst 1, 1) := by decide +kernel
theorem dX11_bestLanguage_55 : decode cX11_bestLanguage 55 = .ok (.iload 5, 2) := by decide +kernel
theorem dX11_bestLanguage_57 : decode cX11_bestLanguage 57 = .ok (.ishl, 1) := by decide +kernel
theorem dX11_bestLanguage_58 : decode cX11_bestLanguage 58 = .ok (.ior, 1) := by decide +kernel
theorem dX11_bestLanguage_59 : decode cX11_bestLanguage 59 = .ok (.aload_n 0, 1) := by decide +kernel
theorem dX11_bestLanguage_60 : decode cX11_bestLanguage 60 = .ok (.getfield 7, 3) := by decide +kernel
theorem dX11_bestLanguage_63 : decode cX11_bestLanguage 63 = .ok (.bipush 58, 2) := by decide +kernel
theorem dX11_bestLanguage_65 : decode cX11_bestLanguage 65 = .ok (.iload_n 1, 1) := by decide +kernel
theorem dX11_bestLanguage_66 : decode cX11_bestLanguage 66 = .ok (.iadd, 1) := by decide +kernel
theorem dX11_bestLanguage_67 : decode cX11_bestLanguage 67 = .ok (.iaload, 1) := by decide +kernel
theorem dX11_bestLanguage_68 : decode cX11_bestLanguage 68 = .ok (.iload_n 2, 1) := by decide +kernel
theorem dX11_bestLanguage_69 : decode cX11_bestLanguage 69 = .ok (.aload_n 0, 1) := by decide +kernel
theorem dX11_bestLanguage_70 : decode cX11_bestLanguage 70 = .ok (.getfield 7, 3) := by decide +kernel
theorem dX11_bestLanguage_73 : decode cX11_bestLanguage 73 = .ok (.bipush 26, 2) := by decide +kernel
theorem dX11_bestLanguage_75 : decode cX11_bestLanguage 75 = .ok (.iload_n 2, 1) := by decide +kernel
theorem dX11_bestLanguage_76 : decode cX11_bestLanguage 76 = .ok (.iadd, 1) := by decide +kernel
theorem dX11_bestLanguage_77 : decode cX11_bestLanguage 77 = .ok (.iaload, 1) := by decide +kernel
theorem dX11_bestLanguage_78 : decode cX11_bestLanguage 78 = .ok (.invokevirtual 77, 3) := by decide +kernel
theorem dX11_bestLanguage_81 : decode cX11_bestLanguage 81 = .ok (.invokestatic 91, 3) := by decide +kernel
theorem dX11_bestLanguage_84 : decode cX11_bestLanguage 84 = .ok (.istore 6, 2) := by decide +kernel
theorem dX11_bestLanguage_86 : decode cX11_bestLanguage 86 = .ok (.iload 6, 2) := by decide +kernel
theorem dX11_bestLanguage_88 : decode cX11_bestLanguage 88 = .ok (.iload 4, 2) := by decide +kernel
theorem dX11_bestLanguage_90 : decode cX11_bestLanguage 90 = .ok (.if_icmp .ge 8, 3) := by decide +kernel
theorem dX11_bestLanguage_93 : decode cX11_bestLanguage 93 = .ok (.iload 5, 2) := by decide +kernel
theorem dX11_bestLanguage_95 : decode cX11_bestLanguage 95 = .ok (.goto 4, 3) := by decide +kernel
theorem dX11_bestLanguage_98 : decode cX11_bestLanguage 98 = .ok (.iload_n 3, 1) := by decide +kernel
theorem dX11_bestLanguage_99 : decode cX11_bestLanguage 99 = .ok (.istore_n 3, 1) := by decide +kernel
theorem dX11_bestLanguage_100 : decode cX11_bestLanguage 100 = .ok (.iload 6, 2) := by decide +kernel
theorem dX11_bestLanguage_102 : decode cX11_bestLanguage 102 = .ok (.iload 4, 2) := by decide +kernel
theorem dX11_bestLanguage_104 : decode cX11_bestLanguage 104 = .ok (.if_icmp .ge 8, 3) := by decide +kernel
theorem dX11_bestLanguage_107 : decode cX11_bestLanguage 107 = .ok (.iload 6, 2) := by decide +kernel
theorem dX11_bestLanguage_109 : decode cX11_bestLanguage 109 = .ok (.goto 5, 3) := by decide +kernel
theorem dX11_bestLanguage_112 : decode cX11_bestLanguage 112 = .ok (.iload 4, 2) := by decide +kernel
theorem dX11_bestLanguage_114 : decode cX11_bestLanguage 114 = .ok (.istore 4, 2) := by decide +kernel
theorem dX11_bestLanguage_116 : decode cX11_bestLanguage 116 = .ok (.iinc 5 1, 3) := by decide +kernel
theorem dX11_bestLanguage_119 : decode cX11_bestLanguage 119 = .ok (.goto (-81), 3) := by decide +kernel
theorem dX11_bestLanguage_122 : decode cX11_bestLanguage 122 = .ok (.iload_n 3, 1) := by decide +kernel
theorem dX11_bestLanguage_123 : decode cX11_bestLanguage 123 = .ok (.iconst (-1), 1) := by decide +kernel
theorem dX11_bestLanguage_124 : decode cX11_bestLanguage 124 = .ok (.if_icmp .ne 11, 3) := by decide +kernel
theorem dX11_bestLanguage_127 : decode cX11_bestLanguage 127 = .ok (.aload_n 0, 1) := by decide +kernel
theorem dX11_bestLanguage_128 : decode cX11_bestLanguage 128 = .ok (.iconst 2, 1) := by decide +kernel
theorem dX11_bestLanguage_129 : decode cX11_bestLanguage 129 = .ok (.invokevirtual 51, 3) := by decide +kernel
theorem dX11_bestLanguage_132 : decode cX11_bestLanguage 132 = .ok (.goto 8, 3) := by decide +kernel
theorem dX11_bestLanguage_135 : decode cX11_bestLanguage 135 = .ok (.aload_n 0, 1) := by decide +kernel
theorem dX11_bestLanguage_136 : decode cX11_bestLanguage 136 = .ok (.iload_n 3, 1) := by decide +kernel
theorem dX11_bestLanguage_137 : decode cX11_bestLanguage 137 = .ok (.invokevirtual 94, 3) := by decide +kernel
theorem dX11_bestLanguage_140 : decode cX11_bestLanguage 140 = .ok (.ireturn, 1) := by decide +kernel
set_option maxRecDepth 20000 in
theorem ggX11_skippedWith_X11_skipsWith : GoodIn wsX11_skippedWith wsX11_skipsWith := goodIn_ca (goodIn_r _ [6, 1, 7, 8, 9, 5, 10, 11, 12, 13, 14, 15, 16, 17, 18, 22, 23, 24, 25, 26, 27, 28, 29, 30, 31, 32, 33, 34, 35, 36, 37, 38, 39, 40] (by decide +kernel) (by decide +kernel)) (goodIn_sub (fun _ h => List.mem_cons_of_mem _ (List.mem_append_right _ h)) (by decide +kernel))
set_option maxRecDepth 20000 in
theorem gX11_skippedWith_X11_skipsWith : GoodIn wsX11_skippedWith (wsV RX11 77 RX11 yX11_skipsWith wsX11_skipsWith) := goodIn_app (goodIn_of _ (by decide +kernel)) ggX11_skippedWith_X11_skipsWith
set_option maxRecDepth 20000 in
theorem ggX11_skippedWith_X11_bits : GoodIn wsX11_skippedWith wsX11_bits := goodIn_r _ [21] (by decide +kernel) (by decide +kernel)
set_option maxRecDepth 20000 in
theorem gX11_skippedWith_X11_bits : GoodIn wsX11_skippedWith (va_wsS RX11 91 yX11_bits wsX11_bits) := goodIn_app (goodIn_of _ (by decide +kernel)) ggX11_skippedWith_X11_bits
theorem dX11_skippedWith_0 : decode cX11_skippedWith 0 = .ok (.aload_n 0, 1) := by decide +kernel
theorem dX11_skippedWith_1 : decode cX11_skippedWith 1 = .ok (.aload_n 0, 1) := by decide +kernel
theorem dX11_skippedWith_2 : decode cX11_skippedWith 2 = .ok (.getfield 7, 3) := by decide +kernel
theorem dX11_skippedWith_5 : decode cX11_skippedWith 5 = .ok (.bipush 63, 2) := by decide +kernel
theorem dX11_skippedWith_7 : decode cX11_skippedWith 7 = .ok (.iload_n 1, 1) := by decide +kernel
theorem dX11_skippedWith_8 : decode cX11_skippedWith 8 = .ok (.iadd, 1) := by decide +kernel
theorem dX11_skippedWith_9 : decode cX11_skippedWith 9 = .ok (.iaload, 1) := by decide +kernel
theorem dX11_skippedWith_10 : decode cX11_skippedWith 10 = .ok (.aload_n 0, 1) := by decide +kernel
theorem dX11_skippedWith_11 : decode cX11_skippedWith 11 = .ok (.getfield 7, 3) := by decide +kernel
theorem dX11_skippedWith_14 : decode cX11_skippedWith 14 = .ok (.bipush 58, 2) := by decide +kernel
theorem dX11_skippedWith_16 : decode cX11_skippedWith 16 = .ok (.iload_n 1, 1) := by decide +kernel
theorem dX11_skippedWith_17 : decode cX11_skippedWith 17 = .ok (.iadd, 1) := by decide +kernel
theorem dX11_skippedWith_18 : decode cX11_skippedWith 18 = .ok (.iaload, 1) := by decide +kernel
theorem dX11_skippedWith_19 : decode cX11_skippedWith 19 = .ok (.iload_n 2, 1) := by decide +kernel
theorem dX11_skippedWith_20 : decode cX11_skippedWith 20 = .ok (.iload_n 3, 1) := by decide +kernel
theorem dX11_skippedWith_21 : decode cX11_skippedWith 21 = .ok (.invokevirtual 77, 3) := by decide +kernel
theorem dX11_skippedWith_24 : decode cX11_skippedWith 24 = .ok (.invokestatic 91, 3) := by decide +kernel
theorem dX11_skippedWith_27 : decode cX11_skippedWith 27 = .ok (.ireturn, 1) := by decide +kernel
set_option maxRecDepth 20000 in
theorem ggX11_bestFolds_X11_isCousin : GoodIn wsX11_bestFolds wsX11_isCousin := goodIn_ca (goodIn_r _ [5, 6, 7, 8, 4, 9, 46, 47, 48, 49, 50, 51, 52, 53, 54, 55, 56, 57, 58, 59, 60, 61, 62, 63, 64] (by decide +kernel) (by decide +kernel)) (goodIn_sub (fun _ h => List.mem_cons_of_mem _ (List.mem_append_right _ h)) (by decide +kernel))
set_option maxRecDepth 20000 in
theorem gX11_bestFolds_X11_isCousin : GoodIn wsX11_bestFolds (wsV RX11 124 RX11 yX11_isCousin wsX11_isCousin) := goodIn_app (goodIn_of _ (by decide +kernel)) ggX11_bestFolds_X11_isCousin
set_option maxRecDepth 20000 in
theorem ggX11_bestFolds_X11_isLeaflet : GoodIn wsX11_bestFolds wsX11_isLeaflet := goodIn_ca (goodIn_r _ [13, 6, 7, 8, 4, 9, 46, 47, 48, 49, 50, 51, 52, 53, 54, 55, 56, 57, 58, 59, 60, 61, 62, 63, 64] (by decide +kernel) (by decide +kernel)) (goodIn_sub (fun _ h => List.mem_cons_of_mem _ (List.mem_append_right _ h)) (by decide +kernel))
set_option maxRecDepth 20000 in
theorem gX11_bestFolds_X11_isLeaflet : GoodIn wsX11_bestFolds (wsV RX11 106 RX11 yX11_isLeaflet wsX11_isLeaflet) := goodIn_app (goodIn_of _ (by decide +kernel)) ggX11_bestFolds_X11_isLeaflet
set_option maxRecDepth 20000 in
theorem ggX11_bestFolds_X11_fails : GoodIn wsX11_bestFolds wsX11_fails := goodIn_r _ [17, 18, 46, 47, 48, 49, 50, 51, 52, 53, 54, 55, 56, 57, 58, 59, 60, 61, 62, 63, 64] (by decide +kernel) (by decide +kernel)
set_option maxRecDepth 20000 in
theorem gX11_bestFolds_X11_fails : GoodIn wsX11_bestFolds (wsV RX11 51 RX11 yX11_fails wsX11_fails) := goodIn_app (goodIn_of _ (by decide +kernel)) ggX11_bestFolds_X11_fails
set_option maxRecDepth 20000 in
theorem ggX11_bestFolds_X11_skippedWith : GoodIn wsX11_bestFolds wsX11_skippedWith := goodIn_ca (goodIn_r _ [22, 6, 23, 24, 25, 4, 26, 27, 28, 29, 30, 31, 32, 33, 34, 35, 36, 37, 38, 39, 40, 41, 46, 47, 48, 49, 50, 51, 52, 53, 54, 55, 56, 57, 58, 59, 60, 61, 62, 63, 64] (by decide +kernel) (by decide +kernel)) (goodIn_sub (fun _ h => List.mem_cons_of_mem _ (List.mem_append_right _ h)) (by decide +kernel))
set_option maxRecDepth 20000 in
theorem gX11_bestFolds_X11_skippedWith : GoodIn wsX11_bestFolds (wsV RX11 180 RX11 yX11_skippedWith wsX11_skippedWith) := goodIn_app (goodIn_of _ (by decide +kernel)) ggX11_bestFolds_X11_skippedWith
set_option maxRecDepth 20000 in
theorem ggX11_bestFolds_X11_done : GoodIn wsX11_bestFolds wsX11_done := goodIn_r _ [45, 18, 46, 47, 48, 49, 50, 51, 52, 53, 54, 55, 56, 57, 58, 59, 60, 61, 62, 63, 64] (by decide +kernel) (by decide +kernel)
set_option maxRecDepth 20000 in
theorem gX11_bestFolds_X11_done : GoodIn wsX11_bestFolds (wsV RX11 94 RX11 yX11_done wsX11_done) := goodIn_app (goodIn_of _ (by decide +kernel)) ggX11_bestFolds_X11_done
theorem dX11_bestFolds_0 : decode cX11_bestFolds 0 = .ok (.aload_n 0, 1) := by decide +kernel
theorem dX11_bestFolds_1 : decode cX11_bestFolds 1 = .ok (.iload_n 1, 1) := by decide +kernel
theorem dX11_bestFolds_2 : decode cX11_bestFolds 2 = .ok (.invokevirtual 124, 3) := by decide +kernel
theorem dX11_bestFolds_5 : decode cX11_bestFolds 5 = .ok (.ifCond .eq 11, 3) := by decide +kernel
theorem dX11_bestFolds_8 : decode cX11_bestFolds 8 = .ok (.aload_n 0, 1) := by decide +kernel
theorem dX11_bestFolds_9 : decode cX11_bestFolds 9 = .ok (.iload_n 2, 1) := by decide +kernel
theorem dX11_bestFolds_10 : decode cX11_bestFolds 10 = .ok (.invokevirtual 106, 3) := by decide +kernel
theorem dX11_bestFolds_13 : decode cX11_bestFolds 13 = .ok (.ifCond .ne 9, 3) := by decide +kernel
theorem dX11_bestFolds_16 : decode cX11_bestFolds 16 = .ok (.aload_n 0, 1) := by decide +kernel
theorem dX11_bestFolds_17 : decode cX11_bestFolds 17 = .ok (.iconst 1, 1) := by decide +kernel
theorem dX11_bestFolds_18 : decode cX11_bestFolds 18 = .ok (.invokevirtual 51, 3) := by decide +kernel
theorem dX11_bestFolds_21 : decode cX11_bestFolds 21 = .ok (.ireturn, 1) := by decide +kernel
theorem dX11_bestFolds_22 : decode cX11_bestFolds 22 = .ok (.iconst 0, 1) := by decide +kernel
theorem dX11_bestFolds_23 : decode cX11_bestFolds 23 = .ok (.istore_n 3, 1) := by decide +kernel
theorem dX11_bestFolds_24 : decode cX11_bestFolds 24 = .ok (.iconst 1, 1) := by decide +kernel
theorem dX11_bestFolds_25 : decode cX11_bestFolds 25 = .ok (.istore 4, 2) := by decide +kernel
theorem dX11_bestFolds_27 : decode cX11_bestFolds 27 = .ok (.iload 4, 2) := by decide +kernel
theorem dX11_bestFolds_29 : decode cX11_bestFolds 29 = .ok (.iconst 3, 1) := by decide +kernel
theorem dX11_bestFolds_30 : decode cX11_bestFolds 30 = .ok (.if_icmp .gt 34, 3) := by decide +kernel
theorem dX11_bestFolds_33 : decode cX11_bestFolds 33 = .ok (.aload_n 0, 1) := by decide +kernel
theorem dX11_bestFolds_34 : decode cX11_bestFolds 34 = .ok (.iload_n 1, 1) := by decide +kernel
theorem dX11_bestFolds_35 : decode cX11_bestFolds 35 = .ok (.iload_n 2, 1) := by decide +kernel
theorem dX11_bestFolds_36 : decode cX11_bestFolds 36 = .ok (.iload 4, 2) := by decide +kernel
theorem dX11_bestFolds_38 : decode cX11_bestFolds 38 = .ok (.invokevirtual 180, 3) := by decide +kernel
theorem dX11_bestFolds_41 : decode cX11_bestFolds 41 = .ok (.aload_n 0, 1) := by decide +kernel
theorem dX11_bestFolds_42 : decode cX11_bestFolds 42 = .ok (.iload_n 1, 1) := by decide +kernel
theorem dX11_bestFolds_43 : decode cX11_bestFolds 43 = .ok (.iload_n 2, 1) := by decide +kernel
theorem dX11_bestFolds_44 : decode cX11_bestFolds 44 = .ok (.iconst 0, 1) := by decide +kernel
theorem dX11_bestFolds_45 : decode cX11_bestFolds 45 = .ok (.invokevirtual 180, 3) := by decide +kernel
theorem dX11_bestFolds_48 : decode cX11_bestFolds 48 = .ok (.if_icmp .gt 8, 3) := by decide +kernel
theorem dX11_bestFolds_51 : decode cX11_bestFolds 51 = .ok (.iload 4, 2) := by decide +kernel
theorem dX11_bestFolds_53 : decode cX11_bestFolds 53 = .ok (.goto 4, 3) := by decide +kernel
theorem dX11_bestFolds_56 : decode cX11_bestFolds 56 = .ok (.iload_n 3, 1) := by decide +kernel
theorem dX11_bestFolds_57 : decode cX11_bestFolds 57 = .ok (.istore_n 3, 1) := by decide +kernel
theorem dX11_bestFolds_58 : decode cX11_bestFolds 58 = .ok (.iinc 4 1, 3) := by decide +kernel
theorem dX11_bestFolds_61 : decode cX11_bestFolds 61 = .ok (.goto (-34), 3) := by decide +kernel
theorem dX11_bestFolds_64 : decode cX11_bestFolds 64 = .ok (.aload_n 0, 1) := by decide +kernel
theorem dX11_bestFolds_65 : decode cX11_bestFolds 65 = .ok (.iload_n 3, 1) := by decide +kernel
theorem dX11_bestFolds_66 : decode cX11_bestFolds 66 = .ok (.invokevirtual 94, 3) := by decide +kernel
theorem dX11_bestFolds_69 : decode cX11_bestFolds 69 = .ok (.ireturn, 1) := by decide +kernel
set_option maxRecDepth 20000 in
theorem ggX11_canFinish_X11_isLeaflet : GoodIn wsX11_canFinish wsX11_isLeaflet := goodIn_ca (goodIn_r _ [7, 2, 8, 9, 6, 10, 28, 29, 30, 31, 32, 33, 34, 35, 36, 37, 38, 39, 40, 41, 42, 43, 44, 45, 46] (by decide +kernel) (by decide +kernel)) (goodIn_sub (fun _ h => List.mem_cons_of_mem _ (List.mem_append_right _ h)) (by decide +kernel))
set_option maxRecDepth 20000 in
theorem gX11_canFinish_X11_isLeaflet : GoodIn wsX11_canFinish (wsV RX11 106 RX11 yX11_isLeaflet wsX11_isLeaflet) := goodIn_app (goodIn_of _ (by decide +kernel)) ggX11_canFinish_X11_isLeaflet
set_option maxRecDepth 20000 in
theorem ggX11_canFinish_X11_isStep : GoodIn wsX11_canFinish wsX11_isStep := goodIn_ca (goodIn_r _ [14, 2, 8, 9, 6, 10, 28, 29, 30, 31, 32, 33, 34, 35, 36, 37, 38, 39, 40, 41, 42, 43, 44, 45, 46] (by decide +kernel) (by decide +kernel)) (goodIn_sub (fun _ h => List.mem_cons_of_mem _ (List.mem_append_right _ h)) (by decide +kernel))
set_option maxRecDepth 20000 in
theorem gX11_canFinish_X11_isStep : GoodIn wsX11_canFinish (wsV RX11 143 RX11 yX11_isStep wsX11_isStep) := goodIn_app (goodIn_of _ (by decide +kernel)) ggX11_canFinish_X11_isStep
set_option maxRecDepth 20000 in
theorem ggX11_canFinish_X11_needsFor : GoodIn wsX11_canFinish wsX11_needsFor := goodIn_ca (goodIn_r _ [18, 19, 2, 20, 21, 22, 6, 23, 28, 29, 30, 31, 32, 33, 34, 35, 36, 37, 38, 39, 40, 41, 42, 43, 44, 45, 46] (by decide +kernel) (by decide +kernel)) (goodIn_sub (fun _ h => List.mem_cons_of_mem _ (List.mem_append_right _ h)) (by decide +kernel))
set_option maxRecDepth 20000 in
theorem gX11_canFinish_X11_needsFor : GoodIn wsX11_canFinish (wsV RX11 133 RX11 yX11_needsFor wsX11_needsFor) := goodIn_app (goodIn_of _ (by decide +kernel)) ggX11_canFinish_X11_needsFor
set_option maxRecDepth 20000 in
theorem ggX11_canFinish_X11_lacking : GoodIn wsX11_canFinish wsX11_lacking := goodIn_ca (goodIn_r _ [27, 2, 19, 28, 29, 30, 31, 32, 33, 34, 35, 36, 37, 38, 39, 40, 41, 42, 43, 44, 45, 46] (by decide +kernel) (by decide +kernel)) (goodIn_sub (fun _ h => List.mem_cons_of_mem _ (List.mem_append_right _ h)) (by decide +kernel))
set_option maxRecDepth 20000 in
theorem gX11_canFinish_X11_lacking : GoodIn wsX11_canFinish (wsV RX11 147 RX11 yX11_lacking wsX11_lacking) := goodIn_app (goodIn_of _ (by decide +kernel)) ggX11_canFinish_X11_lacking
theorem dX11_canFinish_0 : decode cX11_canFinish 0 = .ok (.aload_n 0, 1) := by decide +kernel
theorem dX11_canFinish_1 : decode cX11_canFinish 1 = .ok (.aload_n 0, 1) := by decide +kernel
theorem dX11_canFinish_2 : decode cX11_canFinish 2 = .ok (.iload_n 1, 1) := by decide +kernel
theorem dX11_canFinish_3 : decode cX11_canFinish 3 = .ok (.invokevirtual 106, 3) := by decide +kernel
theorem dX11_canFinish_6 : decode cX11_canFinish 6 = .ok (.ifCond .ne 7, 3) := by decide +kernel
theorem dX11_canFinish_9 : decode cX11_canFinish 9 = .ok (.iconst 1, 1) := by decide +kernel
theorem dX11_canFinish_10 : decode cX11_canFinish 10 = .ok (.goto 17, 3) := by decide +kernel
theorem dX11_canFinish_13 : decode cX11_canFinish 13 = .ok (.aload_n 0, 1) := by decide +kernel
theorem dX11_canFinish_14 : decode cX11_canFinish 14 = .ok (.iload_n 1, 1) := by decide +kernel
theorem dX11_canFinish_15 : decode cX11_canFinish 15 = .ok (.iload_n 2, 1) := by decide +kernel
theorem dX11_canFinish_16 : decode cX11_canFinish 16 = .ok (.invokevirtual 143, 3) := by decide +kernel
theorem dX11_canFinish_19 : decode cX11_canFinish 19 = .ok (.ifCond .eq 7, 3) := by decide +kernel
theorem dX11_canFinish_22 : decode cX11_canFinish 22 = .ok (.iconst 0, 1) := by decide +kernel
theorem dX11_canFinish_23 : decode cX11_canFinish 23 = .ok (.goto 4, 3) := by decide +kernel
theorem dX11_canFinish_26 : decode cX11_canFinish 26 = .ok (.iconst 2, 1) := by decide +kernel
theorem dX11_canFinish_27 : decode cX11_canFinish 27 = .ok (.putfield 39, 3) := by decide +kernel
theorem dX11_canFinish_30 : decode cX11_canFinish 30 = .ok (.aload_n 0, 1) := by decide +kernel
theorem dX11_canFinish_31 : decode cX11_canFinish 31 = .ok (.getfield 39, 3) := by decide +kernel
theorem dX11_canFinish_34 : decode cX11_canFinish 34 = .ok (.ifCond .eq 5, 3) := by decide +kernel
theorem dX11_canFinish_37 : decode cX11_canFinish 37 = .ok (.iconst 0, 1) := by decide +kernel
theorem dX11_canFinish_38 : decode cX11_canFinish 38 = .ok (.ireturn, 1) := by decide +kernel
theorem dX11_canFinish_39 : decode cX11_canFinish 39 = .ok (.aload_n 0, 1) := by decide +kernel
theorem dX11_canFinish_40 : decode cX11_canFinish 40 = .ok (.iload_n 1, 1) := by decide +kernel
theorem dX11_canFinish_41 : decode cX11_canFinish 41 = .ok (.iconst 1, 1) := by decide +kernel
theorem dX11_canFinish_42 : decode cX11_canFinish 42 = .ok (.iload_n 2, 1) := by decide +kernel
theorem dX11_canFinish_43 : decode cX11_canFinish 43 = .ok (.ishl, 1) := by decide +kernel
theorem dX11_canFinish_44 : decode cX11_canFinish 44 = .ok (.invokevirtual 133, 3) := by decide +kernel
theorem dX11_canFinish_47 : decode cX11_canFinish 47 = .ok (.istore_n 3, 1) := by decide +kernel
theorem dX11_canFinish_48 : decode cX11_canFinish 48 = .ok (.aload_n 0, 1) := by decide +kernel
theorem dX11_canFinish_49 : decode cX11_canFinish 49 = .ok (.getfield 7, 3) := by decide +kernel
theorem dX11_canFinish_52 : decode cX11_canFinish 52 = .ok (.bipush 50, 2) := by decide +kernel
theorem dX11_canFinish_54 : decode cX11_canFinish 54 = .ok (.iload_n 1, 1) := by decide +kernel
theorem dX11_canFinish_55 : decode cX11_canFinish 55 = .ok (.iadd, 1) := by decide +kernel
theorem dX11_canFinish_56 : decode cX11_canFinish 56 = .ok (.iaload, 1) := by decide +kernel
theorem dX11_canFinish_57 : decode cX11_canFinish 57 = .ok (.iload_n 2, 1) := by decide +kernel
theorem dX11_canFinish_58 : decode cX11_canFinish 58 = .ok (.ishr, 1) := by decide +kernel
theorem dX11_canFinish_59 : decode cX11_canFinish 59 = .ok (.iconst 1, 1) := by decide +kernel
theorem dX11_canFinish_60 : decode cX11_canFinish 60 = .ok (.iand, 1) := by decide +kernel
theorem dX11_canFinish_61 : decode cX11_canFinish 61 = .ok (.iconst 1, 1) := by decide +kernel
theorem dX11_canFinish_62 : decode cX11_canFinish 62 = .ok (.if_icmp .ne 15, 3) := by decide +kernel
theorem dX11_canFinish_65 : decode cX11_canFinish 65 = .ok (.aload_n 0, 1) := by decide +kernel
theorem dX11_canFinish_66 : decode cX11_canFinish 66 = .ok (.invokevirtual 147, 3) := by decide +kernel
theorem dX11_canFinish_69 : decode cX11_canFinish 69 = .ok (.iconst (-1), 1) := by decide +kernel
theorem dX11_canFinish_70 : decode cX11_canFinish 70 = .ok (.if_icmp .ne 7, 3) := by decide +kernel
theorem dX11_canFinish_73 : decode cX11_canFinish 73 = .ok (.iconst 1, 1) := by decide +kernel
theorem dX11_canFinish_74 : decode cX11_canFinish 74 = .ok (.goto 4, 3) := by decide +kernel
theorem dX11_canFinish_77 : decode cX11_canFinish 77 = .ok (.iconst 0, 1) := by decide +kernel
theorem dX11_canFinish_78 : decode cX11_canFinish 78 = .ok (.ireturn, 1) := by decide +kernel
set_option maxRecDepth 20000 in
theorem ggX11_finishedAll_X11_looksBack : GoodIn wsX11_finishedAll wsX11_looksBack := goodIn_ca (goodIn_r _ [7, 1, 2, 8, 9, 6, 10, 28, 29, 30, 31, 32, 33, 34, 35, 36, 37, 38, 39, 40, 41, 42, 43, 44, 45, 46] (by decide +kernel) (by decide +kernel)) (goodIn_sub (fun _ h => List.mem_cons_of_mem _ (List.mem_append_right _ h)) (by decide +kernel))
set_option maxRecDepth 20000 in
theorem gX11_finishedAll_X11_looksBack : GoodIn wsX11_finishedAll (wsV RX11 97 RX11 yX11_looksBack wsX11_looksBack) := goodIn_app (goodIn_of _ (by decide +kernel)) ggX11_finishedAll_X11_looksBack
set_option maxRecDepth 20000 in
theorem ggX11_finishedAll_X11_needsFor : GoodIn wsX11_finishedAll wsX11_needsFor := goodIn_ca (goodIn_r _ [14, 15, 1, 16, 17, 18, 6, 19, 28, 29, 30, 31, 32, 33, 34, 35, 36, 37, 38, 39, 40, 41, 42, 43, 44, 45, 46] (by decide +kernel) (by decide +kernel)) (goodIn_sub (fun _ h => List.mem_cons_of_mem _ (List.mem_append_right _ h)) (by decide +kernel))
set_option maxRecDepth 20000 in
theorem gX11_finishedAll_X11_needsFor : GoodIn wsX11_finishedAll (wsV RX11 133 RX11 yX11_needsFor wsX11_needsFor) := goodIn_app (goodIn_of _ (by decide +kernel)) ggX11_finishedAll_X11_needsFor
set_option maxRecDepth 20000 in
theorem ggX11_finishedAll_X11_lacking : GoodIn wsX11_finishedAll wsX11_lacking := goodIn_ca (goodIn_r _ [23, 1, 15, 28, 29, 30, 31, 32, 33, 34, 35, 36, 37, 38, 39, 40, 41, 42, 43, 44, 45, 46] (by decide +kernel) (by decide +kernel)) (goodIn_sub (fun _ h => List.mem_cons_of_mem _ (List.mem_append_right _ h)) (by decide +kernel))
set_option maxRecDepth 20000 in
theorem gX11_finishedAll_X11_lacking : GoodIn wsX11_finishedAll (wsV RX11 147 RX11 yX11_lacking wsX11_lacking) := goodIn_app (goodIn_of _ (by decide +kernel)) ggX11_finishedAll_X11_lacking
set_option maxRecDepth 20000 in
theorem ggX11_finishedAll_X11_tinGets : GoodIn wsX11_finishedAll wsX11_tinGets := goodIn_ca (goodIn_r _ [27, 1, 15, 28, 29, 30, 31, 32, 33, 34, 35, 36, 37, 38, 39, 40, 41, 42, 43, 44, 45, 46] (by decide +kernel) (by decide +kernel)) (goodIn_sub (fun _ h => List.mem_cons_of_mem _ (List.mem_append_right _ h)) (by decide +kernel))
set_option maxRecDepth 20000 in
theorem gX11_finishedAll_X11_tinGets : GoodIn wsX11_finishedAll (wsV RX11 136 RX11 yX11_tinGets wsX11_tinGets) := goodIn_app (goodIn_of _ (by decide +kernel)) ggX11_finishedAll_X11_tinGets
set_option maxRecDepth 20000 in
theorem ggX11_finishedAll_X11_copy : GoodIn wsX11_finishedAll wsX11_copy := goodIn_ca (goodIn_r _ [10] (by decide +kernel) (by decide +kernel)) (goodIn_sub (fun _ h => List.mem_cons_of_mem _ (List.mem_append_right _ h)) (by decide +kernel))
set_option maxRecDepth 20000 in
theorem gX11_finishedAll_X11_copy : GoodIn wsX11_finishedAll (va_wsS RX11 55 yX11_copy wsX11_copy) := goodIn_app (goodIn_of _ (by decide +kernel)) ggX11_finishedAll_X11_copy
theorem dX11_finishedAll_0 : decode cX11_finishedAll 0 = .ok (.aload_n 0, 1) := by decide +kernel
theorem dX11_finishedAll_1 : decode cX11_finishedAll 1 = .ok (.invokevirtual 97, 3) := by decide +kernel
theorem dX11_finishedAll_4 : decode cX11_finishedAll 4 = .ok (.iconst 0, 1) := by decide +kernel
theorem dX11_finishedAll_5 : decode cX11_finishedAll 5 = .ok (.istore_n 2, 1) := by decide +kernel
theorem dX11_finishedAll_6 : decode cX11_finishedAll 6 = .ok (.iconst 0, 1) := by decide +kernel
theorem dX11_finishedAll_7 : decode cX11_finishedAll 7 = .ok (.istore_n 3, 1) := by decide +kernel
theorem dX11_finishedAll_8 : decode cX11_finishedAll 8 = .ok (.iload_n 3, 1) := by decide +kernel
theorem dX11_finishedAll_9 : decode cX11_finishedAll 9 = .ok (.aload_n 0, 1) := by decide +kernel
theorem dX11_finishedAll_10 : decode cX11_finishedAll 10 = .ok (.getfield 7, 3) := by decide +kernel
theorem dX11_finishedAll_13 : decode cX11_finishedAll 13 = .ok (.bipush 18, 2) := by decide +kernel
theorem dX11_finishedAll_15 : decode cX11_finishedAll 15 = .ok (.iload_n 1, 1) := by decide +kernel
theorem dX11_finishedAll_16 : decode cX11_finishedAll 16 = .ok (.iadd, 1) := by decide +kernel
theorem dX11_finishedAll_17 : decode cX11_finishedAll 17 = .ok (.iaload, 1) := by decide +kernel
theorem dX11_finishedAll_18 : decode cX11_finishedAll 18 = .ok (.if_icmp .ge 52, 3) := by decide +kernel
theorem dX11_finishedAll_21 : decode cX11_finishedAll 21 = .ok (.aload_n 0, 1) := by decide +kernel
theorem dX11_finishedAll_22 : decode cX11_finishedAll 22 = .ok (.iload_n 1, 1) := by decide +kernel
theorem dX11_finishedAll_23 : decode cX11_finishedAll 23 = .ok (.iconst 1, 1) := by decide +kernel
theorem dX11_finishedAll_24 : decode cX11_finishedAll 24 = .ok (.iload_n 3, 1) := by decide +kernel
theorem dX11_finishedAll_25 : decode cX11_finishedAll 25 = .ok (.ishl, 1) := by decide +kernel
theorem dX11_finishedAll_26 : decode cX11_finishedAll 26 = .ok (.invokevirtual 133, 3) := by decide +kernel
theorem dX11_finishedAll_29 : decode cX11_finishedAll 29 = .ok (.istore 4, 2) := by decide +kernel
theorem dX11_finishedAll_31 : decode cX11_finishedAll 31 = .ok (.aload_n 0, 1) := by decide +kernel
theorem dX11_finishedAll_32 : decode cX11_finishedAll 32 = .ok (.getfield 7, 3) := by decide +kernel
theorem dX11_finishedAll_35 : decode cX11_finishedAll 35 = .ok (.bipush 50, 2) := by decide +kernel
theorem dX11_finishedAll_37 : decode cX11_finishedAll 37 = .ok (.iload_n 1, 1) := by decide +kernel
theorem dX11_finishedAll_38 : decode cX11_finishedAll 38 = .ok (.iadd, 1) := by decide +kernel
theorem dX11_finishedAll_39 : decode cX11_finishedAll 39 = .ok (.iaload, 1) := by decide +kernel
theorem dX11_finishedAll_40 : decode cX11_finishedAll 40 = .ok (.iload_n 3, 1) := by decide +kernel
theorem dX11_finishedAll_41 : decode cX11_finishedAll 41 = .ok (.ishr, 1) := by decide +kernel
theorem dX11_finishedAll_42 : decode cX11_finishedAll 42 = .ok (.iconst 1, 1) := by decide +kernel
theorem dX11_finishedAll_43 : decode cX11_finishedAll 43 = .ok (.iand, 1) := by decide +kernel
theorem dX11_finishedAll_44 : decode cX11_finishedAll 44 = .ok (.iconst 1, 1) := by decide +kernel
theorem dX11_finishedAll_45 : decode cX11_finishedAll 45 = .ok (.if_icmp .ne 19, 3) := by decide +kernel
theorem dX11_finishedAll_48 : decode cX11_finishedAll 48 = .ok (.aload_n 0, 1) := by decide +kernel
theorem dX11_finishedAll_49 : decode cX11_finishedAll 49 = .ok (.invokevirtual 147, 3) := by decide +kernel
theorem dX11_finishedAll_52 : decode cX11_finishedAll 52 = .ok (.iconst (-1), 1) := by decide +kernel
theorem dX11_finishedAll_53 : decode cX11_finishedAll 53 = .ok (.if_icmp .ne 11, 3) := by decide +kernel
theorem dX11_finishedAll_56 : decode cX11_finishedAll 56 = .ok (.aload_n 0, 1) := by decide +kernel
theorem dX11_finishedAll_57 : decode cX11_finishedAll 57 = .ok (.iconst (-1), 1) := by decide +kernel
theorem dX11_finishedAll_58 : decode cX11_finishedAll 58 = .ok (.invokevirtual 136, 3) := by decide +kernel
theorem dX11_finishedAll_61 : decode cX11_finishedAll 61 = .ok (.iinc 2 1, 3) := by decide +kernel
theorem dX11_finishedAll_64 : decode cX11_finishedAll 64 = .ok (.iinc 3 1, 3) := by decide +kernel
theorem dX11_finishedAll_67 : decode cX11_finishedAll 67 = .ok (.goto (-59), 3) := by decide +kernel
theorem dX11_finishedAll_70 : decode cX11_finishedAll 70 = .ok (.aload_n 0, 1) := by decide +kernel
theorem dX11_finishedAll_71 : decode cX11_finishedAll 71 = .ok (.getfield 13, 3) := by decide +kernel
theorem dX11_finishedAll_74 : decode cX11_finishedAll 74 = .ok (.iconst 0, 1) := by decide +kernel
theorem dX11_finishedAll_75 : decode cX11_finishedAll 75 = .ok (.aload_n 0, 1) := by decide +kernel
theorem dX11_finishedAll_76 : decode cX11_finishedAll 76 = .ok (.getfield 7, 3) := by decide +kernel
theorem dX11_finishedAll_79 : decode cX11_finishedAll 79 = .ok (.iconst 0, 1) := by decide +kernel
theorem dX11_finishedAll_80 : decode cX11_finishedAll 80 = .ok (.invokestatic 55, 3) := by decide +kernel
theorem dX11_finishedAll_83 : decode cX11_finishedAll 83 = .ok (.iload_n 2, 1) := by decide +kernel
theorem dX11_finishedAll_84 : decode cX11_finishedAll 84 = .ok (.ireturn, 1) := by decide +kernel
set_option maxRecDepth 20000 in
theorem ggX11_couldFinish_X11_isLeaflet : GoodIn wsX11_couldFinish wsX11_isLeaflet := goodIn_ca (goodIn_r _ [5, 6, 7, 8, 4, 9, 48, 49, 50, 51, 52, 53, 54, 55, 56, 57, 58, 59, 60, 61, 62, 63, 64, 65, 66] (by decide +kernel) (by decide +kernel)) (goodIn_sub (fun _ h => List.mem_cons_of_mem _ (List.mem_append_right _ h)) (by decide +kernel))
set_option maxRecDepth 20000 in
theorem gX11_couldFinish_X11_isLeaflet : GoodIn wsX11_couldFinish (wsV RX11 106 RX11 yX11_isLeaflet wsX11_isLeaflet) := goodIn_app (goodIn_of _ (by decide +kernel)) ggX11_couldFinish_X11_isLeaflet
set_option maxRecDepth 20000 in
theorem ggX11_couldFinish_X11_finishedAll : GoodIn wsX11_couldFinish wsX11_finishedAll := goodIn_ca (goodIn_r _ [13, 6, 14, 15, 16, 17, 4, 18, 19, 20, 21, 22, 23, 24, 25, 26, 27, 28, 29, 30, 31, 32, 33, 34, 35, 36, 37, 38, 48, 49, 50, 51, 52, 53, 54, 55, 56, 57, 58, 59, 60, 61, 62, 63, 64, 65, 66] (by decide +kernel) (by decide +kernel)) (goodIn_sub (fun _ h => List.mem_cons_of_mem _ (List.mem_append_right _ h)) (by decide +kernel))
set_option maxRecDepth 20000 in
theorem gX11_couldFinish_X11_finishedAll : GoodIn wsX11_couldFinish (wsV RX11 183 RX11 yX11_finishedAll wsX11_finishedAll) := goodIn_app (goodIn_of _ (by decide +kernel)) ggX11_couldFinish_X11_finishedAll
set_option maxRecDepth 20000 in
theorem ggX11_couldFinish_X11_done : GoodIn wsX11_couldFinish wsX11_done := goodIn_r _ [42, 43, 48, 49, 50, 51, 52, 53, 54, 55, 56, 57, 58, 59, 60, 61, 62, 63, 64, 65, 66] (by decide +kernel) (by decide +kernel)
set_option maxRecDepth 20000 in
theorem gX11_couldFinish_X11_done : GoodIn wsX11_couldFinish (wsV RX11 94 RX11 yX11_done wsX11_done) := goodIn_app (goodIn_of _ (by decide +kernel)) ggX11_couldFinish_X11_done
set_option maxRecDepth 20000 in
theorem ggX11_couldFinish_X11_fails : GoodIn wsX11_couldFinish wsX11_fails := goodIn_r _ [47, 43, 48, 49, 50, 51, 52, 53, 54, 55, 56, 57, 58, 59, 60, 61, 62, 63, 64, 65, 66] (by decide +kernel) (by decide +kernel)
