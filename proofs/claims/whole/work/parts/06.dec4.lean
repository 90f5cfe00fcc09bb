set_option maxRecDepth 20000 in
theorem gX11_couldFinish_X11_fails : GoodIn wsX11_couldFinish (wsV RX11 51 RX11 yX11_fails wsX11_fails) := goodIn_app (goodIn_of _ (by decide +kernel)) ggX11_couldFinish_X11_fails
theorem dX11_couldFinish_0 : decode cX11_couldFinish 0 = .ok (.aload_n 0, 1) := by decide +kernel
theorem dX11_couldFinish_1 : decode cX11_couldFinish 1 = .ok (.iload_n 1, 1) := by decide +kernel
theorem dX11_couldFinish_2 : decode cX11_couldFinish 2 = .ok (.invokevirtual 106, 3) := by decide +kernel
theorem dX11_couldFinish_5 : decode cX11_couldFinish 5 = .ok (.ifCond .eq 15, 3) := by decide +kernel
theorem dX11_couldFinish_8 : decode cX11_couldFinish 8 = .ok (.aload_n 0, 1) := by decide +kernel
theorem dX11_couldFinish_9 : decode cX11_couldFinish 9 = .ok (.aload_n 0, 1) := by decide +kernel
theorem dX11_couldFinish_10 : decode cX11_couldFinish 10 = .ok (.iload_n 1, 1) := by decide +kernel
theorem dX11_couldFinish_11 : decode cX11_couldFinish 11 = .ok (.invokevirtual 183, 3) := by decide +kernel
theorem dX11_couldFinish_14 : decode cX11_couldFinish 14 = .ok (.invokevirtual 94, 3) := by decide +kernel
theorem dX11_couldFinish_17 : decode cX11_couldFinish 17 = .ok (.goto 8, 3) := by decide +kernel
theorem dX11_couldFinish_20 : decode cX11_couldFinish 20 = .ok (.aload_n 0, 1) := by decide +kernel
theorem dX11_couldFinish_21 : decode cX11_couldFinish 21 = .ok (.iconst 1, 1) := by decide +kernel
theorem dX11_couldFinish_22 : decode cX11_couldFinish 22 = .ok (.invokevirtual 51, 3) := by decide +kernel
theorem dX11_couldFinish_25 : decode cX11_couldFinish 25 = .ok (.ireturn, 1) := by decide +kernel
set_option maxRecDepth 20000 in
theorem ggX11_tin_X11_isKind : GoodIn wsX11_tin wsX11_isKind := goodIn_r _ [5, 6, 7, 4, 8] (by decide +kernel) (by decide +kernel)
set_option maxRecDepth 20000 in
theorem gX11_tin_X11_isKind : GoodIn wsX11_tin (va_wsS RX11 109 yX11_isKind wsX11_isKind) := goodIn_app (goodIn_of _ (by decide +kernel)) ggX11_tin_X11_isKind
set_option maxRecDepth 20000 in
theorem ggX11_tin_X11_done : GoodIn wsX11_tin wsX11_done := goodIn_r _ [12, 13, 18, 19, 20, 21, 22, 23, 24, 25, 26, 27, 28, 29, 30, 31, 32, 33, 34, 35, 36] (by decide +kernel) (by decide +kernel)
set_option maxRecDepth 20000 in
theorem gX11_tin_X11_done : GoodIn wsX11_tin (wsV RX11 94 RX11 yX11_done wsX11_done) := goodIn_app (goodIn_of _ (by decide +kernel)) ggX11_tin_X11_done
set_option maxRecDepth 20000 in
theorem ggX11_tin_X11_fails : GoodIn wsX11_tin wsX11_fails := goodIn_r _ [17, 13, 18, 19, 20, 21, 22, 23, 24, 25, 26, 27, 28, 29, 30, 31, 32, 33, 34, 35, 36] (by decide +kernel) (by decide +kernel)
set_option maxRecDepth 20000 in
theorem gX11_tin_X11_fails : GoodIn wsX11_tin (wsV RX11 51 RX11 yX11_fails wsX11_fails) := goodIn_app (goodIn_of _ (by decide +kernel)) ggX11_tin_X11_fails
theorem dX11_tin_0 : decode cX11_tin 0 = .ok (.iload_n 1, 1) := by decide +kernel
theorem dX11_tin_1 : decode cX11_tin 1 = .ok (.invokestatic 109, 3) := by decide +kernel
theorem dX11_tin_4 : decode cX11_tin 4 = .ok (.ifCond .eq 19, 3) := by decide +kernel
theorem dX11_tin_7 : decode cX11_tin 7 = .ok (.aload_n 0, 1) := by decide +kernel
theorem dX11_tin_8 : decode cX11_tin 8 = .ok (.aload_n 0, 1) := by decide +kernel
theorem dX11_tin_9 : decode cX11_tin 9 = .ok (.getfield 7, 3) := by decide +kernel
theorem dX11_tin_12 : decode cX11_tin 12 = .ok (.bipush 6, 2) := by decide +kernel
theorem dX11_tin_14 : decode cX11_tin 14 = .ok (.iload_n 1, 1) := by decide +kernel
theorem dX11_tin_15 : decode cX11_tin 15 = .ok (.iadd, 1) := by decide +kernel
theorem dX11_tin_16 : decode cX11_tin 16 = .ok (.iaload, 1) := by decide +kernel
theorem dX11_tin_17 : decode cX11_tin 17 = .ok (.invokevirtual 94, 3) := by decide +kernel
theorem dX11_tin_20 : decode cX11_tin 20 = .ok (.goto 8, 3) := by decide +kernel
theorem dX11_tin_23 : decode cX11_tin 23 = .ok (.aload_n 0, 1) := by decide +kernel
theorem dX11_tin_24 : decode cX11_tin 24 = .ok (.iconst 1, 1) := by decide +kernel
theorem dX11_tin_25 : decode cX11_tin 25 = .ok (.invokevirtual 51, 3) := by decide +kernel
theorem dX11_tin_28 : decode cX11_tin 28 = .ok (.ireturn, 1) := by decide +kernel
set_option maxRecDepth 20000 in
theorem ggX11_lost_X11_isKind : GoodIn wsX11_lost wsX11_isKind := goodIn_r _ [5, 6, 7, 4, 8] (by decide +kernel) (by decide +kernel)
set_option maxRecDepth 20000 in
theorem gX11_lost_X11_isKind : GoodIn wsX11_lost (va_wsS RX11 109 yX11_isKind wsX11_isKind) := goodIn_app (goodIn_of _ (by decide +kernel)) ggX11_lost_X11_isKind
set_option maxRecDepth 20000 in
theorem ggX11_lost_X11_done : GoodIn wsX11_lost wsX11_done := goodIn_r _ [12, 13, 18, 19, 20, 21, 22, 23, 24, 25, 26, 27, 28, 29, 30, 31, 32, 33, 34, 35, 36] (by decide +kernel) (by decide +kernel)
set_option maxRecDepth 20000 in
theorem gX11_lost_X11_done : GoodIn wsX11_lost (wsV RX11 94 RX11 yX11_done wsX11_done) := goodIn_app (goodIn_of _ (by decide +kernel)) ggX11_lost_X11_done
set_option maxRecDepth 20000 in
theorem ggX11_lost_X11_fails : GoodIn wsX11_lost wsX11_fails := goodIn_r _ [17, 13, 18, 19, 20, 21, 22, 23, 24, 25, 26, 27, 28, 29, 30, 31, 32, 33, 34, 35, 36] (by decide +kernel) (by decide +kernel)
set_option maxRecDepth 20000 in
theorem gX11_lost_X11_fails : GoodIn wsX11_lost (wsV RX11 51 RX11 yX11_fails wsX11_fails) := goodIn_app (goodIn_of _ (by decide +kernel)) ggX11_lost_X11_fails
theorem dX11_lost_0 : decode cX11_lost 0 = .ok (.iload_n 1, 1) := by decide +kernel
theorem dX11_lost_1 : decode cX11_lost 1 = .ok (.invokestatic 109, 3) := by decide +kernel
theorem dX11_lost_4 : decode cX11_lost 4 = .ok (.ifCond .eq 19, 3) := by decide +kernel
theorem dX11_lost_7 : decode cX11_lost 7 = .ok (.aload_n 0, 1) := by decide +kernel
theorem dX11_lost_8 : decode cX11_lost 8 = .ok (.aload_n 0, 1) := by decide +kernel
theorem dX11_lost_9 : decode cX11_lost 9 = .ok (.getfield 7, 3) := by decide +kernel
theorem dX11_lost_12 : decode cX11_lost 12 = .ok (.bipush 12, 2) := by decide +kernel
theorem dX11_lost_14 : decode cX11_lost 14 = .ok (.iload_n 1, 1) := by decide +kernel
theorem dX11_lost_15 : decode cX11_lost 15 = .ok (.iadd, 1) := by decide +kernel
theorem dX11_lost_16 : decode cX11_lost 16 = .ok (.iaload, 1) := by decide +kernel
theorem dX11_lost_17 : decode cX11_lost 17 = .ok (.invokevirtual 94, 3) := by decide +kernel
theorem dX11_lost_20 : decode cX11_lost 20 = .ok (.goto 8, 3) := by decide +kernel
theorem dX11_lost_23 : decode cX11_lost 23 = .ok (.aload_n 0, 1) := by decide +kernel
theorem dX11_lost_24 : decode cX11_lost 24 = .ok (.iconst 1, 1) := by decide +kernel
theorem dX11_lost_25 : decode cX11_lost 25 = .ok (.invokevirtual 51, 3) := by decide +kernel
theorem dX11_lost_28 : decode cX11_lost 28 = .ok (.ireturn, 1) := by decide +kernel
set_option maxRecDepth 20000 in
theorem ggX11_shelfOf_X11_isShelf : GoodIn wsX11_shelfOf wsX11_isShelf := goodIn_r _ [4, 5, 6, 3, 7] (by decide +kernel) (by decide +kernel)
set_option maxRecDepth 20000 in
theorem gX11_shelfOf_X11_isShelf : GoodIn wsX11_shelfOf (va_wsS RX11 81 yX11_isShelf wsX11_isShelf) := goodIn_app (goodIn_of _ (by decide +kernel)) ggX11_shelfOf_X11_isShelf
set_option maxRecDepth 20000 in
theorem ggX11_shelfOf_X11_boxesOn : GoodIn wsX11_shelfOf wsX11_boxesOn := goodIn_ca (goodIn_r _ [11, 12, 22, 23, 24, 25, 26, 27, 28, 29, 30, 31, 32, 33, 34, 35, 36, 37, 38, 39, 40] (by decide +kernel) (by decide +kernel)) (goodIn_sub (fun _ h => List.mem_cons_of_mem _ (List.mem_append_right _ h)) (by decide +kernel))
set_option maxRecDepth 20000 in
theorem gX11_shelfOf_X11_boxesOn : GoodIn wsX11_shelfOf (wsV RX11 88 RX11 yX11_boxesOn wsX11_boxesOn) := goodIn_app (goodIn_of _ (by decide +kernel)) ggX11_shelfOf_X11_boxesOn
set_option maxRecDepth 20000 in
theorem ggX11_shelfOf_X11_done : GoodIn wsX11_shelfOf wsX11_done := goodIn_r _ [16, 17, 22, 23, 24, 25, 26, 27, 28, 29, 30, 31, 32, 33, 34, 35, 36, 37, 38, 39, 40] (by decide +kernel) (by decide +kernel)
set_option maxRecDepth 20000 in
theorem gX11_shelfOf_X11_done : GoodIn wsX11_shelfOf (wsV RX11 94 RX11 yX11_done wsX11_done) := goodIn_app (goodIn_of _ (by decide +kernel)) ggX11_shelfOf_X11_done
set_option maxRecDepth 20000 in
theorem ggX11_shelfOf_X11_fails : GoodIn wsX11_shelfOf wsX11_fails := goodIn_r _ [21, 17, 22, 23, 24, 25, 26, 27, 28, 29, 30, 31, 32, 33, 34, 35, 36, 37, 38, 39, 40] (by decide +kernel) (by decide +kernel)
set_option maxRecDepth 20000 in
theorem gX11_shelfOf_X11_fails : GoodIn wsX11_shelfOf (wsV RX11 51 RX11 yX11_fails wsX11_fails) := goodIn_app (goodIn_of _ (by decide +kernel)) ggX11_shelfOf_X11_fails
theorem dX11_shelfOf_0 : decode cX11_shelfOf 0 = .ok (.iload_n 1, 1) := by decide +kernel
theorem dX11_shelfOf_1 : decode cX11_shelfOf 1 = .ok (.invokestatic 81, 3) := by decide +kernel
theorem dX11_shelfOf_4 : decode cX11_shelfOf 4 = .ok (.ifCond .eq 15, 3) := by decide +kernel
theorem dX11_shelfOf_7 : decode cX11_shelfOf 7 = .ok (.aload_n 0, 1) := by decide +kernel
theorem dX11_shelfOf_8 : decode cX11_shelfOf 8 = .ok (.aload_n 0, 1) := by decide +kernel
theorem dX11_shelfOf_9 : decode cX11_shelfOf 9 = .ok (.iload_n 1, 1) := by decide +kernel
theorem dX11_shelfOf_10 : decode cX11_shelfOf 10 = .ok (.invokevirtual 88, 3) := by decide +kernel
theorem dX11_shelfOf_13 : decode cX11_shelfOf 13 = .ok (.invokevirtual 94, 3) := by decide +kernel
theorem dX11_shelfOf_16 : decode cX11_shelfOf 16 = .ok (.goto 8, 3) := by decide +kernel
theorem dX11_shelfOf_19 : decode cX11_shelfOf 19 = .ok (.aload_n 0, 1) := by decide +kernel
theorem dX11_shelfOf_20 : decode cX11_shelfOf 20 = .ok (.iconst 1, 1) := by decide +kernel
theorem dX11_shelfOf_21 : decode cX11_shelfOf 21 = .ok (.invokevirtual 51, 3) := by decide +kernel
theorem dX11_shelfOf_24 : decode cX11_shelfOf 24 = .ok (.ireturn, 1) := by decide +kernel
set_option maxRecDepth 20000 in
theorem ggX11_keyOf_X11_allSteps : GoodIn wsX11_keyOf wsX11_allSteps := goodIn_ca (goodIn_r _ [6, 1, 19, 20, 21, 22, 23, 24, 25, 26, 27, 28, 29, 30, 31, 32, 33, 34, 35, 36, 37] (by decide +kernel) (by decide +kernel)) (goodIn_sub (fun _ h => List.mem_cons_of_mem _ (List.mem_append_right _ h)) (by decide +kernel))
set_option maxRecDepth 20000 in
theorem gX11_keyOf_X11_allSteps : GoodIn wsX11_keyOf (wsV RX11 166 RX11 yX11_allSteps wsX11_allSteps) := goodIn_app (goodIn_of _ (by decide +kernel)) ggX11_keyOf_X11_allSteps
set_option maxRecDepth 20000 in
theorem ggX11_keyOf_X11_needsFor : GoodIn wsX11_keyOf wsX11_needsFor := goodIn_ca (goodIn_r _ [10, 11, 1, 12, 13, 14, 5, 15, 19, 20, 21, 22, 23, 24, 25, 26, 27, 28, 29, 30, 31, 32, 33, 34, 35, 36, 37] (by decide +kernel) (by decide +kernel)) (goodIn_sub (fun _ h => List.mem_cons_of_mem _ (List.mem_append_right _ h)) (by decide +kernel))
set_option maxRecDepth 20000 in
theorem gX11_keyOf_X11_needsFor : GoodIn wsX11_keyOf (wsV RX11 133 RX11 yX11_needsFor wsX11_needsFor) := goodIn_app (goodIn_of _ (by decide +kernel)) ggX11_keyOf_X11_needsFor
set_option maxRecDepth 20000 in
theorem ggX11_keyOf_X11_bits : GoodIn wsX11_keyOf wsX11_bits := goodIn_r _ [18] (by decide +kernel) (by decide +kernel)
set_option maxRecDepth 20000 in
theorem gX11_keyOf_X11_bits : GoodIn wsX11_keyOf (va_wsS RX11 91 yX11_bits wsX11_bits) := goodIn_app (goodIn_of _ (by decide +kernel)) ggX11_keyOf_X11_bits
theorem dX11_keyOf_0 : decode cX11_keyOf 0 = .ok (.iload_n 1, 1) := by decide +kernel
theorem dX11_keyOf_1 : decode cX11_keyOf 1 = .ok (.ifCond .ne 15, 3) := by decide +kernel
theorem dX11_keyOf_4 : decode cX11_keyOf 4 = .ok (.aload_n 0, 1) := by decide +kernel
theorem dX11_keyOf_5 : decode cX11_keyOf 5 = .ok (.getfield 7, 3) := by decide +kernel
theorem dX11_keyOf_8 : decode cX11_keyOf 8 = .ok (.bipush 18, 2) := by decide +kernel
theorem dX11_keyOf_10 : decode cX11_keyOf 10 = .ok (.iload_n 2, 1) := by decide +kernel
theorem dX11_keyOf_11 : decode cX11_keyOf 11 = .ok (.iadd, 1) := by decide +kernel
theorem dX11_keyOf_12 : decode cX11_keyOf 12 = .ok (.iaload, 1) := by decide +kernel
theorem dX11_keyOf_13 : decode cX11_keyOf 13 = .ok (.goto 50, 3) := by decide +kernel
theorem dX11_keyOf_16 : decode cX11_keyOf 16 = .ok (.iload_n 1, 1) := by decide +kernel
theorem dX11_keyOf_17 : decode cX11_keyOf 17 = .ok (.iconst 1, 1) := by decide +kernel
theorem dX11_keyOf_18 : decode cX11_keyOf 18 = .ok (.if_icmp .ne 15, 3) := by decide +kernel
theorem dX11_keyOf_21 : decode cX11_keyOf 21 = .ok (.aload_n 0, 1) := by decide +kernel
theorem dX11_keyOf_22 : decode cX11_keyOf 22 = .ok (.getfield 7, 3) := by decide +kernel
theorem dX11_keyOf_25 : decode cX11_keyOf 25 = .ok (.bipush 26, 2) := by decide +kernel
theorem dX11_keyOf_27 : decode cX11_keyOf 27 = .ok (.iload_n 2, 1) := by decide +kernel
theorem dX11_keyOf_28 : decode cX11_keyOf 28 = .ok (.iadd, 1) := by decide +kernel
theorem dX11_keyOf_29 : decode cX11_keyOf 29 = .ok (.iaload, 1) := by decide +kernel
theorem dX11_keyOf_30 : decode cX11_keyOf 30 = .ok (.goto 33, 3) := by decide +kernel
theorem dX11_keyOf_33 : decode cX11_keyOf 33 = .ok (.iload_n 1, 1) := by decide +kernel
theorem dX11_keyOf_34 : decode cX11_keyOf 34 = .ok (.iconst 2, 1) := by decide +kernel
theorem dX11_keyOf_35 : decode cX11_keyOf 35 = .ok (.if_icmp .ne 16, 3) := by decide +kernel
theorem dX11_keyOf_38 : decode cX11_keyOf 38 = .ok (.aload_n 0, 1) := by decide +kernel
theorem dX11_keyOf_39 : decode cX11_keyOf 39 = .ok (.iload_n 2, 1) := by decide +kernel
theorem dX11_keyOf_40 : decode cX11_keyOf 40 = .ok (.aload_n 0, 1) := by decide +kernel
theorem dX11_keyOf_41 : decode cX11_keyOf 41 = .ok (.iload_n 2, 1) := by decide +kernel
theorem dX11_keyOf_42 : decode cX11_keyOf 42 = .ok (.invokevirtual 166, 3) := by decide +kernel
theorem dX11_keyOf_45 : decode cX11_keyOf 45 = .ok (.invokevirtual 133, 3) := by decide +kernel
theorem dX11_keyOf_48 : decode cX11_keyOf 48 = .ok (.goto 15, 3) := by decide +kernel
theorem dX11_keyOf_51 : decode cX11_keyOf 51 = .ok (.aload_n 0, 1) := by decide +kernel
theorem dX11_keyOf_52 : decode cX11_keyOf 52 = .ok (.getfield 7, 3) := by decide +kernel
theorem dX11_keyOf_55 : decode cX11_keyOf 55 = .ok (.bipush 50, 2) := by decide +kernel
theorem dX11_keyOf_57 : decode cX11_keyOf 57 = .ok (.iload_n 2, 1) := by decide +kernel
theorem dX11_keyOf_58 : decode cX11_keyOf 58 = .ok (.iadd, 1) := by decide +kernel
theorem dX11_keyOf_59 : decode cX11_keyOf 59 = .ok (.iaload, 1) := by decide +kernel
theorem dX11_keyOf_60 : decode cX11_keyOf 60 = .ok (.invokestatic 91, 3) := by decide +kernel
theorem dX11_keyOf_63 : decode cX11_keyOf 63 = .ok (.ireturn, 1) := by decide +kernel
set_option maxRecDepth 20000 in
theorem ggX11_ranked_X11_in : GoodIn wsX11_ranked wsX11_in := goodIn_r _ [5] (by decide +kernel) (by decide +kernel)
set_option maxRecDepth 20000 in
theorem gX11_ranked_X11_in : GoodIn wsX11_ranked (va_wsS RX11 62 yX11_in wsX11_in) := goodIn_app (goodIn_of _ (by decide +kernel)) ggX11_ranked_X11_in
set_option maxRecDepth 20000 in
theorem ggX11_ranked_X11_fails : GoodIn wsX11_ranked wsX11_fails := goodIn_r _ [9, 10, 35, 36, 37, 38, 39, 40, 41, 42, 43, 44, 45, 46, 47, 48, 49, 50, 51, 52, 53] (by decide +kernel) (by decide +kernel)
set_option maxRecDepth 20000 in
theorem gX11_ranked_X11_fails : GoodIn wsX11_ranked (wsV RX11 51 RX11 yX11_fails wsX11_fails) := goodIn_app (goodIn_of _ (by decide +kernel)) ggX11_ranked_X11_fails
set_option maxRecDepth 20000 in
theorem ggX11_ranked_X11_keyOf : GoodIn wsX11_ranked wsX11_keyOf := goodIn_ca (goodIn_r _ [14, 1, 15, 16, 17, 4, 18, 19, 20, 21, 22, 23, 24, 25, 26, 27, 28, 29, 30, 35, 36, 37, 38, 39, 40, 41, 42, 43, 44, 45, 46, 47, 48, 49, 50, 51, 52, 53] (by decide +kernel) (by decide +kernel)) (goodIn_sub (fun _ h => List.mem_cons_of_mem _ (List.mem_append_right _ h)) (by decide +kernel))
set_option maxRecDepth 20000 in
theorem gX11_ranked_X11_keyOf : GoodIn wsX11_ranked (wsV RX11 186 RX11 yX11_keyOf wsX11_keyOf) := goodIn_app (goodIn_of _ (by decide +kernel)) ggX11_ranked_X11_keyOf
set_option maxRecDepth 20000 in
theorem ggX11_ranked_X11_done : GoodIn wsX11_ranked wsX11_done := goodIn_r _ [34, 10, 35, 36, 37, 38, 39, 40, 41, 42, 43, 44, 45, 46, 47, 48, 49, 50, 51, 52, 53] (by decide +kernel) (by decide +kernel)
set_option maxRecDepth 20000 in
theorem gX11_ranked_X11_done : GoodIn wsX11_ranked (wsV RX11 94 RX11 yX11_done wsX11_done) := goodIn_app (goodIn_of _ (by decide +kernel)) ggX11_ranked_X11_done
theorem dX11_ranked_0 : decode cX11_ranked 0 = .ok (.iload_n 1, 1) := by decide +kernel
theorem dX11_ranked_1 : decode cX11_ranked 1 = .ok (.iconst 0, 1) := by decide +kernel
theorem dX11_ranked_2 : decode cX11_ranked 2 = .ok (.iconst 3, 1) := by decide +kernel
theorem dX11_ranked_3 : decode cX11_ranked 3 = .ok (.invokestatic 62, 3) := by decide +kernel
theorem dX11_ranked_6 : decode cX11_ranked 6 = .ok (.ifCond .ne 9, 3) := by decide +kernel
theorem dX11_ranked_9 : decode cX11_ranked 9 = .ok (.aload_n 0, 1) := by decide +kernel
theorem dX11_ranked_10 : decode cX11_ranked 10 = .ok (.iconst 1, 1) := by decide +kernel
theorem dX11_ranked_11 : decode cX11_ranked 11 = .ok (.invokevirtual 51, 3) := by decide +kernel
theorem dX11_ranked_14 : decode cX11_ranked 14 = .ok (.ireturn, 1) := by decide +kernel
theorem dX11_ranked_15 : decode cX11_ranked 15 = .ok (.iconst 0, 1) := by decide +kernel
theorem dX11_ranked_16 : decode cX11_ranked 16 = .ok (.istore_n 3, 1) := by decide +kernel
theorem dX11_ranked_17 : decode cX11_ranked 17 = .ok (.iload_n 3, 1) := by decide +kernel
theorem dX11_ranked_18 : decode cX11_ranked 18 = .ok (.aload_n 0, 1) := by decide +kernel
theorem dX11_ranked_19 : decode cX11_ranked 19 = .ok (.getfield 7, 3) := by decide +kernel
theorem dX11_ranked_22 : decode cX11_ranked 22 = .ok (.iconst 0, 1) := by decide +kernel
theorem dX11_ranked_23 : decode cX11_ranked 23 = .ok (.iaload, 1) := by decide +kernel
theorem dX11_ranked_24 : decode cX11_ranked 24 = .ok (.if_icmp .ge 86, 3) := by decide +kernel
theorem dX11_ranked_27 : decode cX11_ranked 27 = .ok (.iconst 0, 1) := by decide +kernel
theorem dX11_ranked_28 : decode cX11_ranked 28 = .ok (.istore 4, 2) := by decide +kernel
theorem dX11_ranked_30 : decode cX11_ranked 30 = .ok (.iconst 0, 1) := by decide +kernel
theorem dX11_ranked_31 : decode cX11_ranked 31 = .ok (.istore 5, 2) := by decide +kernel
theorem dX11_ranked_33 : decode cX11_ranked 33 = .ok (.iload 5, 2) := by decide +kernel
theorem dX11_ranked_35 : decode cX11_ranked 35 = .ok (.aload_n 0, 1) := by decide +kernel
theorem dX11_ranked_36 : decode cX11_ranked 36 = .ok (.getfield 7, 3) := by decide +kernel
theorem dX11_ranked_39 : decode cX11_ranked 39 = .ok (.iconst 0, 1) := by decide +kernel
theorem dX11_ranked_40 : decode cX11_ranked 40 = .ok (.iaload, 1) := by decide +kernel
theorem dX11_ranked_41 : decode cX11_ranked 41 = .ok (.if_icmp .ge 51, 3) := by decide +kernel
theorem dX11_ranked_44 : decode cX11_ranked 44 = .ok (.aload_n 0, 1) := by decide +kernel
theorem dX11_ranked_45 : decode cX11_ranked 45 = .ok (.iload_n 1, 1) := by decide +kernel
theorem dX11_ranked_46 : decode cX11_ranked 46 = .ok (.iload 5, 2) := by decide +kernel
theorem dX11_ranked_48 : decode cX11_ranked 48 = .ok (.invokevirtual 186, 3) := by decide +kernel
theorem dX11_ranked_51 : decode cX11_ranked 51 = .ok (.aload_n 0, 1) := by decide +kernel
theorem dX11_ranked_52 : decode cX11_ranked 52 = .ok (.iload_n 1, 1) := by decide +kernel
theorem dX11_ranked_53 : decode cX11_ranked 53 = .ok (.iload_n 3, 1) := by decide +kernel
theorem dX11_ranked_54 : decode cX11_ranked 54 = .ok (.invokevirtual 186, 3) := by decide +kernel
theorem dX11_ranked_57 : decode cX11_ranked 57 = .ok (.isub, 1) := by decide +kernel
theorem dX11_ranked_58 : decode cX11_ranked 58 = .ok (.istore 6, 2) := by decide +kernel
theorem dX11_ranked_60 : decode cX11_ranked 60 = .ok (.iload 4, 2) := by decide +kernel
theorem dX11_ranked_62 : decode cX11_ranked 62 = .ok (.iload 6, 2) := by decide +kernel
theorem dX11_ranked_64 : decode cX11_ranked 64 = .ok (.ifCond .gt 14, 3) := by decide +kernel
theorem dX11_ranked_67 : decode cX11_ranked 67 = .ok (.iload 6, 2) := by decide +kernel
theorem dX11_ranked_69 : decode cX11_ranked 69 = .ok (.ifCond .ne 13, 3) := by decide +kernel
theorem dX11_ranked_72 : decode cX11_ranked 72 = .ok (.iload 5, 2) := by decide +kernel
theorem dX11_ranked_74 : decode cX11_ranked 74 = .ok (.iload_n 3, 1) := by decide +kernel
theorem dX11_ranked_75 : decode cX11_ranked 75 = .ok (.if_icmp .ge 7, 3) := by decide +kernel
theorem dX11_ranked_78 : decode cX11_ranked 78 = .ok (.iconst 1, 1) := by decide +kernel
theorem dX11_ranked_79 : decode cX11_ranked 79 = .ok (.goto 4, 3) := by decide +kernel
theorem dX11_ranked_82 : decode cX11_ranked 82 = .ok (.iconst 0, 1) := by decide +kernel
theorem dX11_ranked_83 : decode cX11_ranked 83 = .ok (.iadd, 1) := by decide +kernel
theorem dX11_ranked_84 : decode cX11_ranked 84 = .ok (.istore 4, 2) := by decide +kernel
theorem dX11_ranked_86 : decode cX11_ranked 86 = .ok (.iinc 5 1, 3) := by decide +kernel
theorem dX11_ranked_89 : decode cX11_ranked 89 = .ok (.goto (-56), 3) := by decide +kernel
theorem dX11_ranked_92 : decode cX11_ranked 92 = .ok (.iload 4, 2) := by decide +kernel
theorem dX11_ranked_94 : decode cX11_ranked 94 = .ok (.iload_n 2, 1) := by decide +kernel
theorem dX11_ranked_95 : decode cX11_ranked 95 = .ok (.if_icmp .ne 9, 3) := by decide +kernel
theorem dX11_ranked_98 : decode cX11_ranked 98 = .ok (.aload_n 0, 1) := by decide +kernel
theorem dX11_ranked_99 : decode cX11_ranked 99 = .ok (.iload_n 3, 1) := by decide +kernel
theorem dX11_ranked_100 : decode cX11_ranked 100 = .ok (.invokevirtual 94, 3) := by decide +kernel
theorem dX11_ranked_103 : decode cX11_ranked 103 = .ok (.ireturn, 1) := by decide +kernel
theorem dX11_ranked_104 : decode cX11_ranked 104 = .ok (.iinc 3 1, 3) := by decide +kernel
theorem dX11_ranked_107 : decode cX11_ranked 107 = .ok (.goto (-90), 3) := by decide +kernel
theorem dX11_ranked_110 : decode cX11_ranked 110 = .ok (.aload_n 0, 1) := by decide +kernel
theorem dX11_ranked_111 : decode cX11_ranked 111 = .ok (.iconst 2, 1) := by decide +kernel
theorem dX11_ranked_112 : decode cX11_ranked 112 = .ok (.invokevirtual 51, 3) := by decide +kernel
theorem dX11_ranked_115 : decode cX11_ranked 115 = .ok (.ireturn, 1) := by decide +kernel
theorem dX11_isEven_0 : decode cX11_isEven 0 = .ok (.aload_n 0, 1) := by decide +kernel
theorem dX11_isEven_1 : decode cX11_isEven 1 = .ok (.iconst 0, 1) := by decide +kernel
theorem dX11_isEven_2 : decode cX11_isEven 2 = .ok (.putfield 39, 3) := by decide +kernel
theorem dX11_isEven_5 : decode cX11_isEven 5 = .ok (.iconst 1, 1) := by decide +kernel
theorem dX11_isEven_6 : decode cX11_isEven 6 = .ok (.ireturn, 1) := by decide +kernel
set_option maxRecDepth 20000 in
theorem ggX11_append_X11_fails : GoodIn wsX11_append wsX11_fails := goodIn_r _ [7, 8, 13, 14, 15, 16, 17, 18, 19, 20, 21, 22, 23, 24, 25, 26, 27, 28, 29, 30, 31] (by decide +kernel) (by decide +kernel)
set_option maxRecDepth 20000 in
theorem gX11_append_X11_fails : GoodIn wsX11_append (wsV RX11 51 RX11 yX11_fails wsX11_fails) := goodIn_app (goodIn_of _ (by decide +kernel)) ggX11_append_X11_fails
set_option maxRecDepth 20000 in
theorem ggX11_append_X11_done : GoodIn wsX11_append wsX11_done := goodIn_r _ [12, 8, 13, 14, 15, 16, 17, 18, 19, 20, 21, 22, 23, 24, 25, 26, 27, 28, 29, 30, 31] (by decide +kernel) (by decide +kernel)
set_option maxRecDepth 20000 in
theorem gX11_append_X11_done : GoodIn wsX11_append (wsV RX11 94 RX11 yX11_done wsX11_done) := goodIn_app (goodIn_of _ (by decide +kernel)) ggX11_append_X11_done
theorem dX11_append_0 : decode cX11_append 0 = .ok (.aload_n 0, 1) := by decide +kernel
theorem dX11_append_1 : decode cX11_append 1 = .ok (.getfield 189, 3) := by decide +kernel
theorem dX11_append_4 : decode cX11_append 4 = .ok (.bipush 60, 2) := by decide +kernel
theorem dX11_append_6 : decode cX11_append 6 = .ok (.if_icmp .ne 9, 3) := by decide +kernel
theorem dX11_append_9 : decode cX11_append 9 = .ok (.aload_n 0, 1) := by decide +kernel
theorem dX11_append_10 : decode cX11_append 10 = .ok (.iconst 1, 1) := by decide +kernel
theorem dX11_append_11 : decode cX11_append 11 = .ok (.invokevirtual 51, 3) := by decide +kernel
theorem dX11_append_14 : decode cX11_append 14 = .ok (.ireturn, 1) := by decide +kernel
theorem dX11_append_15 : decode cX11_append 15 = .ok (.aload_n 0, 1) := by decide +kernel
theorem dX11_append_16 : decode cX11_append 16 = .ok (.getfield 22, 3) := by decide +kernel
theorem dX11_append_19 : decode cX11_append 19 = .ok (.aload_n 0, 1) := by decide +kernel
theorem dX11_append_20 : decode cX11_append 20 = .ok (.getfield 189, 3) := by decide +kernel
theorem dX11_append_23 : decode cX11_append 23 = .ok (.iload_n 1, 1) := by decide +kernel
theorem dX11_append_24 : decode cX11_append 24 = .ok (.castore, 1) := by decide +kernel
theorem dX11_append_25 : decode cX11_append 25 = .ok (.aload_n 0, 1) := by decide +kernel
theorem dX11_append_26 : decode cX11_append 26 = .ok (.dup, 1) := by decide +kernel
theorem dX11_append_27 : decode cX11_append 27 = .ok (.getfield 189, 3) := by decide +kernel
theorem dX11_append_30 : decode cX11_append 30 = .ok (.iconst 1, 1) := by decide +kernel
theorem dX11_append_31 : decode cX11_append 31 = .ok (.iadd, 1) := by decide +kernel
theorem dX11_append_32 : decode cX11_append 32 = .ok (.putfield 189, 3) := by decide +kernel
theorem dX11_append_35 : decode cX11_append 35 = .ok (.aload_n 0, 1) := by decide +kernel
theorem dX11_append_36 : decode cX11_append 36 = .ok (.aload_n 0, 1) := by decide +kernel
theorem dX11_append_37 : decode cX11_append 37 = .ok (.getfield 189, 3) := by decide +kernel
theorem dX11_append_40 : decode cX11_append 40 = .ok (.invokevirtual 94, 3) := by decide +kernel
theorem dX11_append_43 : decode cX11_append 43 = .ok (.ireturn, 1) := by decide +kernel
theorem dX11_here_0 : decode cX11_here 0 = .ok (.aload_n 0, 1) := by decide +kernel
theorem dX11_here_1 : decode cX11_here 1 = .ok (.getfield 192, 3) := by decide +kernel
theorem dX11_here_4 : decode cX11_here 4 = .ok (.aload_n 0, 1) := by decide +kernel
theorem dX11_here_5 : decode cX11_here 5 = .ok (.getfield 189, 3) := by decide +kernel
theorem dX11_here_8 : decode cX11_here 8 = .ok (.if_icmp .ge 15, 3) := by decide +kernel
theorem dX11_here_11 : decode cX11_here 11 = .ok (.aload_n 0, 1) := by decide +kernel
theorem dX11_here_12 : decode cX11_here 12 = .ok (.getfield 22, 3) := by decide +kernel
theorem dX11_here_15 : decode cX11_here 15 = .ok (.aload_n 0, 1) := by decide +kernel
theorem dX11_here_16 : decode cX11_here 16 = .ok (.getfield 192, 3) := by decide +kernel
theorem dX11_here_19 : decode cX11_here 19 = .ok (.caload, 1) := by decide +kernel
theorem dX11_here_20 : decode cX11_here 20 = .ok (.goto 4, 3) := by decide +kernel
theorem dX11_here_23 : decode cX11_here 23 = .ok (.iconst (-1), 1) := by decide +kernel
theorem dX11_here_24 : decode cX11_here 24 = .ok (.ireturn, 1) := by decide +kernel
set_option maxRecDepth 20000 in
theorem ggX11_needsSign_X11_here : GoodIn wsX11_needsSign wsX11_here := goodIn_ca (goodIn_r _ [7, 2, 8, 9, 10, 11, 12, 13, 14, 15, 16, 17, 18, 19, 20, 21, 22, 23, 24, 25, 26, 27, 28] (by decide +kernel) (by decide +kernel)) (goodIn_sub (fun _ h => List.mem_cons_of_mem _ (List.mem_append_right _ h)) (by decide +kernel))
set_option maxRecDepth 20000 in
theorem gX11_needsSign_X11_here : GoodIn wsX11_needsSign (wsV RX11 199 RX11 yX11_here wsX11_here) := goodIn_app (goodIn_of _ (by decide +kernel)) ggX11_needsSign_X11_here
theorem dX11_needsSign_0 : decode cX11_needsSign 0 = .ok (.aload_n 0, 1) := by decide +kernel
theorem dX11_needsSign_1 : decode cX11_needsSign 1 = .ok (.aload_n 0, 1) := by decide +kernel
theorem dX11_needsSign_2 : decode cX11_needsSign 2 = .ok (.getfield 195, 3) := by decide +kernel
theorem dX11_needsSign_5 : decode cX11_needsSign 5 = .ok (.ifCond .ne 11, 3) := by decide +kernel
theorem dX11_needsSign_8 : decode cX11_needsSign 8 = .ok (.aload_n 0, 1) := by decide +kernel
theorem dX11_needsSign_9 : decode cX11_needsSign 9 = .ok (.invokevirtual 199, 3) := by decide +kernel
theorem dX11_needsSign_12 : decode cX11_needsSign 12 = .ok (.iload_n 1, 1) := by decide +kernel
theorem dX11_needsSign_13 : decode cX11_needsSign 13 = .ok (.if_icmp .eq 7, 3) := by decide +kernel
theorem dX11_needsSign_16 : decode cX11_needsSign 16 = .ok (.iconst 1, 1) := by decide +kernel
theorem dX11_needsSign_17 : decode cX11_needsSign 17 = .ok (.goto 4, 3) := by decide +kernel
theorem dX11_needsSign_20 : decode cX11_needsSign 20 = .ok (.iconst 0, 1) := by decide +kernel
theorem dX11_needsSign_21 : decode cX11_needsSign 21 = .ok (.putfield 195, 3) := by decide +kernel
theorem dX11_needsSign_24 : decode cX11_needsSign 24 = .ok (.aload_n 0, 1) := by decide +kernel
theorem dX11_needsSign_25 : decode cX11_needsSign 25 = .ok (.dup, 1) := by decide +kernel
theorem dX11_needsSign_26 : decode cX11_needsSign 26 = .ok (.getfield 192, 3) := by decide +kernel
theorem dX11_needsSign_29 : decode cX11_needsSign 29 = .ok (.aload_n 0, 1) := by decide +kernel
theorem dX11_needsSign_30 : decode cX11_needsSign 30 = .ok (.getfield 195, 3) := by decide +kernel
theorem dX11_needsSign_33 : decode cX11_needsSign 33 = .ok (.ifCond .eq 7, 3) := by decide +kernel
theorem dX11_needsSign_36 : decode cX11_needsSign 36 = .ok (.iconst 0, 1) := by decide +kernel
theorem dX11_needsSign_37 : decode cX11_needsSign 37 = .ok (.goto 4, 3) := by decide +kernel
theorem dX11_needsSign_40 : decode cX11_needsSign 40 = .ok (.iconst 1, 1) := by decide +kernel
theorem dX11_needsSign_41 : decode cX11_needsSign 41 = .ok (.iadd, 1) := by decide +kernel
theorem dX11_needsSign_42 : decode cX11_needsSign 42 = .ok (.putfield 192, 3) := by decide +kernel
theorem dX11_needsSign_45 : decode cX11_needsSign 45 = .ok (.return_, 1) := by decide +kernel
set_option maxRecDepth 20000 in
theorem ggX11_figure_X11_here : GoodIn wsX11_figure wsX11_here := goodIn_ca (goodIn_r _ [7, 2, 8, 9, 13, 14, 15, 16, 17, 18, 19, 20, 21, 22, 23, 24, 25, 26, 27, 28, 29, 30, 31] (by decide +kernel) (by decide +kernel)) (goodIn_sub (fun _ h => List.mem_cons_of_mem _ (List.mem_append_right _ h)) (by decide +kernel))
set_option maxRecDepth 20000 in
theorem gX11_figure_X11_here : GoodIn wsX11_figure (wsV RX11 199 RX11 yX11_here wsX11_here) := goodIn_app (goodIn_of _ (by decide +kernel)) ggX11_figure_X11_here
set_option maxRecDepth 20000 in
theorem ggX11_figure_X11_in : GoodIn wsX11_figure wsX11_in := goodIn_r _ [12] (by decide +kernel) (by decide +kernel)
set_option maxRecDepth 20000 in
theorem gX11_figure_X11_in : GoodIn wsX11_figure (va_wsS RX11 62 yX11_in wsX11_in) := goodIn_app (goodIn_of _ (by decide +kernel)) ggX11_figure_X11_in
theorem dX11_figure_0 : decode cX11_figure 0 = .ok (.aload_n 0, 1) := by decide +kernel
theorem dX11_figure_1 : decode cX11_figure 1 = .ok (.invokevirtual 199, 3) := by decide +kernel
theorem dX11_figure_4 : decode cX11_figure 4 = .ok (.istore_n 1, 1) := by decide +kernel
theorem dX11_figure_5 : decode cX11_figure 5 = .ok (.aload_n 0, 1) := by decide +kernel
theorem dX11_figure_6 : decode cX11_figure 6 = .ok (.aload_n 0, 1) := by decide +kernel
theorem dX11_figure_7 : decode cX11_figure 7 = .ok (.getfield 195, 3) := by decide +kernel
theorem dX11_figure_10 : decode cX11_figure 10 = .ok (.ifCond .ne 14, 3) := by decide +kernel
theorem dX11_figure_13 : decode cX11_figure 13 = .ok (.iload_n 1, 1) := by decide +kernel
theorem dX11_figure_14 : decode cX11_figure 14 = .ok (.bipush 48, 2) := by decide +kernel
theorem dX11_figure_16 : decode cX11_figure 16 = .ok (.bipush 57, 2) := by decide +kernel
theorem dX11_figure_18 : decode cX11_figure 18 = .ok (.invokestatic 62, 3) := by decide +kernel
theorem dX11_figure_21 : decode cX11_figure 21 = .ok (.ifCond .ne 7, 3) := by decide +kernel
theorem dX11_figure_24 : decode cX11_figure 24 = .ok (.iconst 1, 1) := by decide +kernel
theorem dX11_figure_25 : decode cX11_figure 25 = .ok (.goto 4, 3) := by decide +kernel
theorem dX11_figure_28 : decode cX11_figure 28 = .ok (.iconst 0, 1) := by decide +kernel
theorem dX11_figure_29 : decode cX11_figure 29 = .ok (.putfield 195, 3) := by decide +kernel
theorem dX11_figure_32 : decode cX11_figure 32 = .ok (.aload_n 0, 1) := by decide +kernel
theorem dX11_figure_33 : decode cX11_figure 33 = .ok (.dup, 1) := by decide +kernel
theorem dX11_figure_34 : decode cX11_figure 34 = .ok (.getfield 192, 3) := by decide +kernel
theorem dX11_figure_37 : decode cX11_figure 37 = .ok (.aload_n 0, 1) := by decide +kernel
theorem dX11_figure_38 : decode cX11_figure 38 = .ok (.getfield 195, 3) := by decide +kernel
theorem dX11_figure_41 : decode cX11_figure 41 = .ok (.ifCond .eq 7, 3) := by decide +kernel
theorem dX11_figure_44 : decode cX11_figure 44 = .ok (.iconst 0, 1) := by decide +kernel
theorem dX11_figure_45 : decode cX11_figure 45 = .ok (.goto 4, 3) := by decide +kernel
theorem dX11_figure_48 : decode cX11_figure 48 = .ok (.iconst 1, 1) := by decide +kernel
theorem dX11_figure_49 : decode cX11_figure 49 = .ok (.iadd, 1) := by decide +kernel
theorem dX11_figure_50 : decode cX11_figure 50 = .ok (.putfield 192, 3) := by decide +kernel
theorem dX11_figure_53 : decode cX11_figure 53 = .ok (.aload_n 0, 1) := by decide +kernel
theorem dX11_figure_54 : decode cX11_figure 54 = .ok (.getfield 195, 3) := by decide +kernel
theorem dX11_figure_57 : decode cX11_figure 57 = .ok (.ifCond .eq 7, 3) := by decide +kernel
theorem dX11_figure_60 : decode cX11_figure 60 = .ok (.iconst 0, 1) := by decide +kernel
theorem dX11_figure_61 : decode cX11_figure 61 = .ok (.goto 7, 3) := by decide +kernel
theorem dX11_figure_64 : decode cX11_figure 64 = .ok (.iload_n 1, 1) := by decide +kernel
theorem dX11_figure_65 : decode cX11_figure 65 = .ok (.bipush 48, 2) := by decide +kernel
theorem dX11_figure_67 : decode cX11_figure 67 = .ok (.isub, 1) := by decide +kernel
theorem dX11_figure_68 : decode cX11_figure 68 = .ok (.ireturn, 1) := by decide +kernel
set_option maxRecDepth 20000 in
theorem ggX11_tongues_X11_here : GoodIn wsX11_tongues wsX11_here := goodIn_ca (goodIn_r _ [6, 7, 8, 9, 17, 18, 19, 20, 21, 22, 23, 24, 25, 26, 27, 28, 29, 30, 31, 32, 33, 34, 35] (by decide +kernel) (by decide +kernel)) (goodIn_sub (fun _ h => List.mem_cons_of_mem _ (List.mem_append_right _ h)) (by decide +kernel))
set_option maxRecDepth 20000 in
theorem gX11_tongues_X11_here : GoodIn wsX11_tongues (wsV RX11 199 RX11 yX11_here wsX11_here) := goodIn_app (goodIn_of _ (by decide +kernel)) ggX11_tongues_X11_here
set_option maxRecDepth 20000 in
theorem ggX11_tongues_X11_in : GoodIn wsX11_tongues wsX11_in := goodIn_r _ [12] (by decide +kernel) (by decide +kernel)
set_option maxRecDepth 20000 in
theorem gX11_tongues_X11_in : GoodIn wsX11_tongues (va_wsS RX11 62 yX11_in wsX11_in) := goodIn_app (goodIn_of _ (by decide +kernel)) ggX11_tongues_X11_in
set_option maxRecDepth 20000 in
theorem ggX11_tongues_X11_figure : GoodIn wsX11_tongues wsX11_figure := goodIn_ca (goodIn_r _ [16, 1, 7, 2, 3, 4, 5, 6, 8, 9, 10, 11, 12, 17, 18, 19, 20, 21, 22, 23, 24, 25, 26, 27, 28, 29, 30, 31, 32, 33, 34, 35] (by decide +kernel) (by decide +kernel)) (goodIn_sub (fun _ h => List.mem_cons_of_mem _ (List.mem_append_right _ h)) (by decide +kernel))
set_option maxRecDepth 20000 in
theorem gX11_tongues_X11_figure : GoodIn wsX11_tongues (wsV RX11 202 RX11 yX11_figure wsX11_figure) := goodIn_app (goodIn_of _ (by decide +kernel)) ggX11_tongues_X11_figure
theorem dX11_tongues_0 : decode cX11_tongues 0 = .ok (.iconst 0, 1) := by decide +kernel
theorem dX11_tongues_1 : decode cX11_tongues 1 = .ok (.istore_n 2, 1) := by decide +kernel
theorem dX11_tongues_2 : decode cX11_tongues 2 = .ok (.iconst 0, 1) := by decide +kernel
theorem dX11_tongues_3 : decode cX11_tongues 3 = .ok (.istore_n 3, 1) := by decide +kernel
theorem dX11_tongues_4 : decode cX11_tongues 4 = .ok (.aload_n 0, 1) := by decide +kernel
theorem dX11_tongues_5 : decode cX11_tongues 5 = .ok (.getfield 195, 3) := by decide +kernel
theorem dX11_tongues_8 : decode cX11_tongues 8 = .ok (.ifCond .ne 42, 3) := by decide +kernel
theorem dX11_tongues_11 : decode cX11_tongues 11 = .ok (.iload_n 3, 1) := by decide +kernel
theorem dX11_tongues_12 : decode cX11_tongues 12 = .ok (.iconst 5, 1) := by decide +kernel
theorem dX11_tongues_13 : decode cX11_tongues 13 = .ok (.if_icmp .ge 37, 3) := by decide +kernel
theorem dX11_tongues_16 : decode cX11_tongues 16 = .ok (.iload_n 3, 1) := by decide +kernel
theorem dX11_tongues_17 : decode cX11_tongues 17 = .ok (.iload_n 1, 1) := by decide +kernel
theorem dX11_tongues_18 : decode cX11_tongues 18 = .ok (.if_icmp .lt 17, 3) := by decide +kernel
theorem dX11_tongues_21 : decode cX11_tongues 21 = .ok (.aload_n 0, 1) := by decide +kernel
theorem dX11_tongues_22 : decode cX11_tongues 22 = .ok (.invokevirtual 199, 3) := by decide +kernel
theorem dX11_tongues_25 : decode cX11_tongues 25 = .ok (.bipush 48, 2) := by decide +kernel
theorem dX11_tongues_27 : decode cX11_tongues 27 = .ok (.bipush 57, 2) := by decide +kernel
theorem dX11_tongues_29 : decode cX11_tongues 29 = .ok (.invokestatic 62, 3) := by decide +kernel
theorem dX11_tongues_32 : decode cX11_tongues 32 = .ok (.ifCond .eq 18, 3) := by decide +kernel
theorem dX11_tongues_35 : decode cX11_tongues 35 = .ok (.iload_n 2, 1) := by decide +kernel
theorem dX11_tongues_36 : decode cX11_tongues 36 = .ok (.iconst 1, 1) := by decide +kernel
theorem dX11_tongues_37 : decode cX11_tongues 37 = .ok (.aload_n 0, 1) := by decide +kernel
theorem dX11_tongues_38 : decode cX11_tongues 38 = .ok (.invokevirtual 202, 3) := by decide +kernel
theorem dX11_tongues_41 : decode cX11_tongues 41 = .ok (.ishl, 1) := by decide +kernel
theorem dX11_tongues_42 : decode cX11_tongues 42 = .ok (.ior, 1) := by decide +kernel
theorem dX11_tongues_43 : decode cX11_tongues 43 = .ok (.istore_n 2, 1) := by decide +kernel
theorem dX11_tongues_44 : decode cX11_tongues 44 = .ok (.iinc 3 1, 3) := by decide +kernel
theorem dX11_tongues_47 : decode cX11_tongues 47 = .ok (.goto (-43), 3) := by decide +kernel
theorem dX11_tongues_50 : decode cX11_tongues 50 = .ok (.iload_n 2, 1) := by decide +kernel
theorem dX11_tongues_51 : decode cX11_tongues 51 = .ok (.ireturn, 1) := by decide +kernel
set_option maxRecDepth 20000 in
theorem ggX11_readsPair_X11_figure : GoodIn wsX11_readsPair wsX11_figure := goodIn_ca (goodIn_r _ [6, 7, 8, 9, 10, 11, 5, 12, 13, 14, 15, 16, 17, 22, 23, 24, 25, 26, 27, 28, 29, 30, 31, 32, 33, 34, 35, 36, 37, 38, 39, 40] (by decide +kernel) (by decide +kernel)) (goodIn_sub (fun _ h => List.mem_cons_of_mem _ (List.mem_append_right _ h)) (by decide +kernel))
set_option maxRecDepth 20000 in
theorem gX11_readsPair_X11_figure : GoodIn wsX11_readsPair (wsV RX11 202 RX11 yX11_figure wsX11_figure) := goodIn_app (goodIn_of _ (by decide +kernel)) ggX11_readsPair_X11_figure
set_option maxRecDepth 20000 in
theorem ggX11_readsPair_X11_needsSign : GoodIn wsX11_readsPair wsX11_needsSign := goodIn_ca (goodIn_r _ [21, 7, 8, 9, 10, 11, 5, 12, 13, 14, 22, 23, 24, 25, 26, 27, 28, 29, 30, 31, 32, 33, 34, 35, 36, 37, 38, 39, 40] (by decide +kernel) (by decide +kernel)) (goodIn_sub (fun _ h => List.mem_cons_of_mem _ (List.mem_append_right _ h)) (by decide +kernel))
set_option maxRecDepth 20000 in
theorem gX11_readsPair_X11_needsSign : GoodIn wsX11_readsPair (wsV RX11 205 RX11 yX11_needsSign wsX11_needsSign) := goodIn_app (goodIn_of _ (by decide +kernel)) ggX11_readsPair_X11_needsSign
theorem dX11_readsPair_0 : decode cX11_readsPair 0 = .ok (.aload_n 0, 1) := by decide +kernel
theorem dX11_readsPair_1 : decode cX11_readsPair 1 = .ok (.getfield 36, 3) := by decide +kernel
theorem dX11_readsPair_4 : decode cX11_readsPair 4 = .ok (.iload_n 1, 1) := by decide +kernel
theorem dX11_readsPair_5 : decode cX11_readsPair 5 = .ok (.iconst 1, 1) := by decide +kernel
theorem dX11_readsPair_6 : decode cX11_readsPair 6 = .ok (.iadd, 1) := by decide +kernel
theorem dX11_readsPair_7 : decode cX11_readsPair 7 = .ok (.aload_n 0, 1) := by decide +kernel
theorem dX11_readsPair_8 : decode cX11_readsPair 8 = .ok (.invokevirtual 202, 3) := by decide +kernel
theorem dX11_readsPair_11 : decode cX11_readsPair 11 = .ok (.iastore, 1) := by decide +kernel
theorem dX11_readsPair_12 : decode cX11_readsPair 12 = .ok (.aload_n 0, 1) := by decide +kernel
theorem dX11_readsPair_13 : decode cX11_readsPair 13 = .ok (.iload_n 2, 1) := by decide +kernel
theorem dX11_readsPair_14 : decode cX11_readsPair 14 = .ok (.invokevirtual 205, 3) := by decide +kernel
theorem dX11_readsPair_17 : decode cX11_readsPair 17 = .ok (.aload_n 0, 1) := by decide +kernel
theorem dX11_readsPair_18 : decode cX11_readsPair 18 = .ok (.getfield 36, 3) := by decide +kernel
theorem dX11_readsPair_21 : decode cX11_readsPair 21 = .ok (.iload_n 1, 1) := by decide +kernel
theorem dX11_readsPair_22 : decode cX11_readsPair 22 = .ok (.iconst 2, 1) := by decide +kernel
theorem dX11_readsPair_23 : decode cX11_readsPair 23 = .ok (.iadd, 1) := by decide +kernel
theorem dX11_readsPair_24 : decode cX11_readsPair 24 = .ok (.aload_n 0, 1) := by decide +kernel
theorem dX11_readsPair_25 : decode cX11_readsPair 25 = .ok (.invokevirtual 202, 3) := by decide +kernel
theorem dX11_readsPair_28 : decode cX11_readsPair 28 = .ok (.iastore, 1) := by decide +kernel
theorem dX11_readsPair_29 : decode cX11_readsPair 29 = .ok (.return_, 1) := by decide +kernel
set_option maxRecDepth 20000 in
theorem ggX11_readsOrder_X11_here : GoodIn wsX11_readsOrder wsX11_here := goodIn_ca (goodIn_r _ [8, 1, 9, 10, 30, 31, 32, 33, 34, 35, 36, 37, 38, 39, 40, 41, 42, 43, 44, 45, 46, 47, 48] (by decide +kernel) (by decide +kernel)) (goodIn_sub (fun _ h => List.mem_cons_of_mem _ (List.mem_append_right _ h)) (by decide +kernel))
set_option maxRecDepth 20000 in
theorem gX11_readsOrder_X11_here : GoodIn wsX11_readsOrder (wsV RX11 199 RX11 yX11_here wsX11_here) := goodIn_app (goodIn_of _ (by decide +kernel)) ggX11_readsOrder_X11_here
set_option maxRecDepth 20000 in
theorem ggX11_readsOrder_X11_figure : GoodIn wsX11_readsOrder wsX11_figure := goodIn_ca (goodIn_r _ [14, 3, 1, 4, 5, 6, 7, 8, 9, 10, 15, 16, 17, 30, 31, 32, 33, 34, 35, 36, 37, 38, 39, 40, 41, 42, 43, 44, 45, 46, 47, 48] (by decide +kernel) (by decide +kernel)) (goodIn_sub (fun _ h => List.mem_cons_of_mem _ (List.mem_append_right _ h)) (by decide +kernel))
set_option maxRecDepth 20000 in
theorem gX11_readsOrder_X11_figure : GoodIn wsX11_readsOrder (wsV RX11 202 RX11 yX11_figure wsX11_figure) := goodIn_app (goodIn_of _ (by decide +kernel)) ggX11_readsOrder_X11_figure
set_option maxRecDepth 20000 in
theorem ggX11_readsOrder_X11_readsPair : GoodIn wsX11_readsOrder wsX11_readsPair := goodIn_ca (goodIn_r _ [21, 2, 11, 12, 13, 7, 14, 3, 1, 4, 5, 6, 8, 9, 10, 15, 16, 17, 22, 23, 24, 25, 30, 31, 32, 33, 34, 35, 36, 37, 38, 39, 40, 41, 42, 43, 44, 45, 46, 47, 48] (by decide +kernel) (by decide +kernel)) (goodIn_sub (fun _ h => List.mem_cons_of_mem _ (List.mem_append_right _ h)) (by decide +kernel))
set_option maxRecDepth 20000 in
theorem gX11_readsOrder_X11_readsPair : GoodIn wsX11_readsOrder (wsV RX11 208 RX11 yX11_readsPair wsX11_readsPair) := goodIn_app (goodIn_of _ (by decide +kernel)) ggX11_readsOrder_X11_readsPair
set_option maxRecDepth 20000 in
theorem ggX11_readsOrder_X11_needsSign : GoodIn wsX11_readsOrder wsX11_needsSign := goodIn_ca (goodIn_r _ [25, 3, 1, 4, 5, 6, 7, 8, 9, 10, 30, 31, 32, 33, 34, 35, 36, 37, 38, 39, 40, 41, 42, 43, 44, 45, 46, 47, 48] (by decide +kernel) (by decide +kernel)) (goodIn_sub (fun _ h => List.mem_cons_of_mem _ (List.mem_append_right _ h)) (by decide +kernel))
set_option maxRecDepth 20000 in
theorem gX11_readsOrder_X11_needsSign : GoodIn wsX11_readsOrder (wsV RX11 205 RX11 yX11_needsSign wsX11_needsSign) := goodIn_app (goodIn_of _ (by decide +kernel)) ggX11_readsOrder_X11_needsSign
set_option maxRecDepth 20000 in
theorem ggX11_readsOrder_X11_tongues : GoodIn wsX11_readsOrder wsX11_tongues := goodIn_ca (goodIn_r _ [29, 3, 4, 5, 6, 7, 8, 1, 9, 10, 15, 16, 17, 11, 12, 13, 14, 30, 31, 32, 33, 34, 35, 36, 37, 38, 39, 40, 41, 42, 43, 44, 45, 46, 47, 48] (by decide +kernel) (by decide +kernel)) (goodIn_sub (fun _ h => List.mem_cons_of_mem _ (List.mem_append_right _ h)) (by decide +kernel))
set_option maxRecDepth 20000 in
theorem gX11_readsOrder_X11_tongues : GoodIn wsX11_readsOrder (wsV RX11 212 RX11 yX11_tongues wsX11_tongues) := goodIn_app (goodIn_of _ (by decide +kernel)) ggX11_readsOrder_X11_tongues
theorem dX11_readsOrder_0 : decode cX11_readsOrder 0 = .ok (.aload_n 0, 1) := by decide +kernel
theorem dX11_readsOrder_1 : decode cX11_readsOrder 1 = .ok (.invokevirtual 199, 3) := by decide +kernel
theorem dX11_readsOrder_4 : decode cX11_readsOrder 4 = .ok (.istore_n 2, 1) := by decide +kernel
theorem dX11_readsOrder_5 : decode cX11_readsOrder 5 = .ok (.aload_n 0, 1) := by decide +kernel
theorem dX11_readsOrder_6 : decode cX11_readsOrder 6 = .ok (.dup, 1) := by decide +kernel
theorem dX11_readsOrder_7 : decode cX11_readsOrder 7 = .ok (.getfield 192, 3) := by decide +kernel
theorem dX11_readsOrder_10 : decode cX11_readsOrder 10 = .ok (.iconst 1, 1) := by decide +kernel
theorem dX11_readsOrder_11 : decode cX11_readsOrder 11 = .ok (.iadd, 1) := by decide +kernel
theorem dX11_readsOrder_12 : decode cX11_readsOrder 12 = .ok (.putfield 192, 3) := by decide +kernel
theorem dX11_readsOrder_15 : decode cX11_readsOrder 15 = .ok (.aload_n 0, 1) := by decide +kernel
theorem dX11_readsOrder_16 : decode cX11_readsOrder 16 = .ok (.getfield 36, 3) := by decide +kernel
theorem dX11_readsOrder_19 : decode cX11_readsOrder 19 = .ok (.iload_n 1, 1) := by decide +kernel
theorem dX11_readsOrder_20 : decode cX11_readsOrder 20 = .ok (.iload_n 2, 1) := by decide +kernel
theorem dX11_readsOrder_21 : decode cX11_readsOrder 21 = .ok (.iastore, 1) := by decide +kernel
theorem dX11_readsOrder_22 : decode cX11_readsOrder 22 = .ok (.iload_n 2, 1) := by decide +kernel
theorem dX11_readsOrder_23 : decode cX11_readsOrder 23 = .ok (.tableswitch 305 83 121 #[184, 305, 305, 305, 305, 305, 305, 305, 305, 305, 305, 305, 305, 305, 305, 265, 231, 275, 305, 169, 305, 305, 305, 305, 305, 169, 285, 305, 305, 305, 305, 305, 184, 169, 169, 305, 305, 295, 295], 169) := by decide +kernel
theorem dX11_readsOrder_192 : decode cX11_readsOrder 192 = .ok (.aload_n 0, 1) := by decide +kernel
theorem dX11_readsOrder_193 : decode cX11_readsOrder 193 = .ok (.getfield 36, 3) := by decide +kernel
theorem dX11_readsOrder_196 : decode cX11_readsOrder 196 = .ok (.iload_n 1, 1) := by decide +kernel
theorem dX11_readsOrder_197 : decode cX11_readsOrder 197 = .ok (.iconst 1, 1) := by decide +kernel
theorem dX11_readsOrder_198 : decode cX11_readsOrder 198 = .ok (.iadd, 1) := by decide +kernel
theorem dX11_readsOrder_199 : decode cX11_readsOrder 199 = .ok (.aload_n 0, 1) := by decide +kernel
theorem dX11_readsOrder_200 : decode cX11_readsOrder 200 = .ok (.invokevirtual 202, 3) := by decide +kernel
theorem dX11_readsOrder_203 : decode cX11_readsOrder 203 = .ok (.iastore, 1) := by decide +kernel
theorem dX11_readsOrder_204 : decode cX11_readsOrder 204 = .ok (.goto 139, 3) := by decide +kernel
theorem dX11_readsOrder_207 : decode cX11_readsOrder 207 = .ok (.aload_n 0, 1) := by decide +kernel
theorem dX11_readsOrder_208 : decode cX11_readsOrder 208 = .ok (.iload_n 1, 1) := by decide +kernel
theorem dX11_readsOrder_209 : decode cX11_readsOrder 209 = .ok (.bipush 58, 2) := by decide +kernel
theorem dX11_readsOrder_211 : decode cX11_readsOrder 211 = .ok (.invokevirtual 208, 3) := by decide +kernel
theorem dX11_readsOrder_214 : decode cX11_readsOrder 214 = .ok (.aload_n 0, 1) := by decide +kernel
theorem dX11_readsOrder_215 : decode cX11_readsOrder 215 = .ok (.bipush 42, 2) := by decide +kernel
theorem dX11_readsOrder_217 : decode cX11_readsOrder 217 = .ok (.invokevirtual 205, 3) := by decide +kernel
theorem dX11_readsOrder_220 : decode cX11_readsOrder 220 = .ok (.aload_n 0, 1) := by decide +kernel
theorem dX11_readsOrder_221 : decode cX11_readsOrder 221 = .ok (.getfield 36, 3) := by decide +kernel
theorem dX11_readsOrder_224 : decode cX11_readsOrder 224 = .ok (.iload_n 1, 1) := by decide +kernel
theorem dX11_readsOrder_225 : decode cX11_readsOrder 225 = .ok (.iconst 3, 1) := by decide +kernel
theorem dX11_readsOrder_226 : decode cX11_readsOrder 226 = .ok (.iadd, 1) := by decide +kernel
theorem dX11_readsOrder_227 : decode cX11_readsOrder 227 = .ok (.aload_n 0, 1) := by decide +kernel
theorem dX11_readsOrder_228 : decode cX11_readsOrder 228 = .ok (.invokevirtual 202, 3) := by decide +kernel
theorem dX11_readsOrder_231 : decode cX11_readsOrder 231 = .ok (.iastore, 1) := by decide +kernel
theorem dX11_readsOrder_232 : decode cX11_readsOrder 232 = .ok (.aload_n 0, 1) := by decide +kernel
theorem dX11_readsOrder_233 : decode cX11_readsOrder 233 = .ok (.bipush 61, 2) := by decide +kernel
theorem dX11_readsOrder_235 : decode cX11_readsOrder 235 = .ok (.invokevirtual 205, 3) := by decide +kernel
theorem dX11_readsOrder_238 : decode cX11_readsOrder 238 = .ok (.aload_n 0, 1) := by decide +kernel
theorem dX11_readsOrder_239 : decode cX11_readsOrder 239 = .ok (.getfield 36, 3) := by decide +kernel
theorem dX11_readsOrder_242 : decode cX11_readsOrder 242 = .ok (.iload_n 1, 1) := by decide +kernel
theorem dX11_readsOrder_243 : decode cX11_readsOrder 243 = .ok (.iconst 4, 1) := by decide +kernel
theorem dX11_readsOrder_244 : decode cX11_readsOrder 244 = .ok (.iadd, 1) := by decide +kernel
theorem dX11_readsOrder_245 : decode cX11_readsOrder 245 = .ok (.aload_n 0, 1) := by decide +kernel
theorem dX11_readsOrder_246 : decode cX11_readsOrder 246 = .ok (.iconst 1, 1) := by decide +kernel
theorem dX11_readsOrder_247 : decode cX11_readsOrder 247 = .ok (.invokevirtual 212, 3) := by decide +kernel
theorem dX11_readsOrder_250 : decode cX11_readsOrder 250 = .ok (.iastore, 1) := by decide +kernel
theorem dX11_readsOrder_251 : decode cX11_readsOrder 251 = .ok (.goto 92, 3) := by decide +kernel
theorem dX11_readsOrder_254 : decode cX11_readsOrder 254 = .ok (.aload_n 0, 1) := by decide +kernel
theorem dX11_readsOrder_255 : decode cX11_readsOrder 255 = .ok (.getfield 36, 3) := by decide +kernel
theorem dX11_readsOrder_258 : decode cX11_readsOrder 258 = .ok (.iload_n 1, 1) := by decide +kernel
theorem dX11_readsOrder_259 : decode cX11_readsOrder 259 = .ok (.iconst 1, 1) := by decide +kernel
theorem dX11_readsOrder_260 : decode cX11_readsOrder 260 = .ok (.iadd, 1) := by decide +kernel
theorem dX11_readsOrder_261 : decode cX11_readsOrder 261 = .ok (.aload_n 0, 1) := by decide +kernel
theorem dX11_readsOrder_262 : decode cX11_readsOrder 262 = .ok (.invokevirtual 202, 3) := by decide +kernel
theorem dX11_readsOrder_265 : decode cX11_readsOrder 265 = .ok (.iastore, 1) := by decide +kernel
theorem dX11_readsOrder_266 : decode cX11_readsOrder 266 = .ok (.aload_n 0, 1) := by decide +kernel
theorem dX11_readsOrder_267 : decode cX11_readsOrder 267 = .ok (.bipush 61, 2) := by decide +kernel
theorem dX11_readsOrder_269 : decode cX11_readsOrder 269 = .ok (.invokevirtual 205, 3) := by decide +kernel
theorem dX11_readsOrder_272 : decode cX11_readsOrder 272 = .ok (.aload_n 0, 1) := by decide +kernel
theorem dX11_readsOrder_273 : decode cX11_readsOrder 273 = .ok (.getfield 36, 3) := by decide +kernel
theorem dX11_readsOrder_276 : decode cX11_readsOrder 276 = .ok (.iload_n 1, 1) := by decide +kernel
theorem dX11_readsOrder_277 : decode cX11_readsOrder 277 = .ok (.iconst 2, 1) := by decide +kernel
theorem dX11_readsOrder_278 : decode cX11_readsOrder 278 = .ok (.iadd, 1) := by decide +kernel
theorem dX11_readsOrder_279 : decode cX11_readsOrder 279 = .ok (.aload_n 0, 1) := by decide +kernel
theorem dX11_readsOrder_280 : decode cX11_readsOrder 280 = .ok (.iconst 0, 1) := by decide +kernel
theorem dX11_readsOrder_281 : decode cX11_readsOrder 281 = .ok (.invokevirtual 212, 3) := by decide +kernel
theorem dX11_readsOrder_284 : decode cX11_readsOrder 284 = .ok (.iastore, 1) := by decide +kernel
theorem dX11_readsOrder_285 : decode cX11_readsOrder 285 = .ok (.goto 58, 3) := by decide +kernel
theorem dX11_readsOrder_288 : decode cX11_readsOrder 288 = .ok (.aload_n 0, 1) := by decide +kernel
theorem dX11_readsOrder_289 : decode cX11_readsOrder 289 = .ok (.iload_n 1, 1) := by decide +kernel
theorem dX11_readsOrder_290 : decode cX11_readsOrder 290 = .ok (.bipush 62, 2) := by decide +kernel
theorem dX11_readsOrder_292 : decode cX11_readsOrder 292 = .ok (.invokevirtual 208, 3) := by decide +kernel
theorem dX11_readsOrder_295 : decode cX11_readsOrder 295 = .ok (.goto 48, 3) := by decide +kernel
theorem dX11_readsOrder_298 : decode cX11_readsOrder 298 = .ok (.aload_n 0, 1) := by decide +kernel
theorem dX11_readsOrder_299 : decode cX11_readsOrder 299 = .ok (.iload_n 1, 1) := by decide +kernel
theorem dX11_readsOrder_300 : decode cX11_readsOrder 300 = .ok (.bipush 46, 2) := by decide +kernel
theorem dX11_readsOrder_302 : decode cX11_readsOrder 302 = .ok (.invokevirtual 208, 3) := by decide +kernel
theorem dX11_readsOrder_305 : decode cX11_readsOrder 305 = .ok (.goto 38, 3) := by decide +kernel
theorem dX11_readsOrder_308 : decode cX11_readsOrder 308 = .ok (.aload_n 0, 1) := by decide +kernel
theorem dX11_readsOrder_309 : decode cX11_readsOrder 309 = .ok (.iload_n 1, 1) := by decide +kernel
theorem dX11_readsOrder_310 : decode cX11_readsOrder 310 = .ok (.bipush 64, 2) := by decide +kernel
theorem dX11_readsOrder_312 : decode cX11_readsOrder 312 = .ok (.invokevirtual 208, 3) := by decide +kernel
theorem dX11_readsOrder_315 : decode cX11_readsOrder 315 = .ok (.goto 28, 3) := by decide +kernel
theorem dX11_readsOrder_318 : decode cX11_readsOrder 318 = .ok (.aload_n 0, 1) := by decide +kernel
theorem dX11_readsOrder_319 : decode cX11_readsOrder 319 = .ok (.iload_n 1, 1) := by decide +kernel
theorem dX11_readsOrder_320 : decode cX11_readsOrder 320 = .ok (.bipush 42, 2) := by decide +kernel
theorem dX11_readsOrder_322 : decode cX11_readsOrder 322 = .ok (.invokevirtual 208, 3) := by decide +kernel
theorem dX11_readsOrder_325 : decode cX11_readsOrder 325 = .ok (.goto 18, 3) := by decide +kernel
theorem dX11_readsOrder_328 : decode cX11_readsOrder 328 = .ok (.aload_n 0, 1) := by decide +kernel
theorem dX11_readsOrder_329 : decode cX11_readsOrder 329 = .ok (.iconst 1, 1) := by decide +kernel
theorem dX11_readsOrder_330 : decode cX11_readsOrder 330 = .ok (.putfield 195, 3) := by decide +kernel
theorem dX11_readsOrder_333 : decode cX11_readsOrder 333 = .ok (.aload_n 0, 1) := by decide +kernel
theorem dX11_readsOrder_334 : decode cX11_readsOrder 334 = .ok (.dup, 1) := by decide +kernel
theorem dX11_readsOrder_335 : decode cX11_readsOrder 335 = .ok (.getfield 192, 3) := by decide +kernel
theorem dX11_readsOrder_338 : decode cX11_readsOrder 338 = .ok (.iconst 1, 1) := by decide +kernel
theorem dX11_readsOrder_339 : decode cX11_readsOrder 339 = .ok (.isub, 1) := by decide +kernel
theorem dX11_readsOrder_340 : decode cX11_readsOrder 340 = .ok (.putfield 192, 3) := by decide +kernel
theorem dX11_readsOrder_343 : decode cX11_readsOrder 343 = .ok (.return_, 1) := by decide +kernel
set_option maxRecDepth 20000 in
theorem ggX11_does_X11_lays : GoodIn wsX11_does wsX11_lays := goodIn_ca (goodIn_r _ [6, 7, 8, 9, 5, 10, 11, 12, 13, 14, 15, 16, 17, 18, 19, 20, 21, 22, 23, 24, 25, 26, 27, 28, 29, 30, 31, 32, 33, 34, 35, 36, 125, 126, 127, 128, 129, 130, 131, 132, 133, 134, 135, 136, 137, 138, 139, 140, 141, 142, 143] (by decide +kernel) (by decide +kernel)) (goodIn_sub (fun _ h => List.mem_cons_of_mem _ (List.mem_append_right _ h)) (by decide +kernel))
set_option maxRecDepth 20000 in
theorem gX11_does_X11_lays : GoodIn wsX11_does (wsV RX11 100 RX11 yX11_lays wsX11_lays) := goodIn_app (goodIn_of _ (by decide +kernel)) ggX11_does_X11_lays
set_option maxRecDepth 20000 in
theorem ggX11_does_X11_adds : GoodIn wsX11_does wsX11_adds := goodIn_ca (goodIn_r _ [40, 7, 41, 42, 43, 5, 44, 11, 12, 13, 14, 15, 16, 17, 18, 19, 20, 21, 22, 23, 24, 25, 45, 46, 47, 33, 34, 35, 36, 125, 126, 127, 128, 129, 130, 131, 132, 133, 134, 135, 136, 137, 138, 139, 140, 141, 142, 143] (by decide +kernel) (by decide +kernel)) (goodIn_sub (fun _ h => List.mem_cons_of_mem _ (List.mem_append_right _ h)) (by decide +kernel))
set_option maxRecDepth 20000 in
theorem gX11_does_X11_adds : GoodIn wsX11_does (wsV RX11 112 RX11 yX11_adds wsX11_adds) := goodIn_app (goodIn_of _ (by decide +kernel)) ggX11_does_X11_adds
set_option maxRecDepth 20000 in
theorem ggX11_does_X11_foldsBy : GoodIn wsX11_does wsX11_foldsBy := goodIn_ca (goodIn_r _ [51, 7, 41, 42, 43, 5, 44, 11, 12, 13, 14, 15, 16, 17, 18, 19, 20, 21, 22, 23, 24, 25, 52, 53, 54, 55, 56, 57, 58, 59, 33, 34, 35, 36, 125, 126, 127, 128, 129, 130, 131, 132, 133, 134, 135, 136, 137, 138, 139, 140, 141, 142, 143] (by decide +kernel) (by decide +kernel)) (goodIn_sub (fun _ h => List.mem_cons_of_mem _ (List.mem_append_right _ h)) (by decide +kernel))
set_option maxRecDepth 20000 in
theorem gX11_does_X11_foldsBy : GoodIn wsX11_does (wsV RX11 118 RX11 yX11_foldsBy wsX11_foldsBy) := goodIn_app (goodIn_of _ (by decide +kernel)) ggX11_does_X11_foldsBy
set_option maxRecDepth 20000 in
theorem ggX11_does_X11_comes : GoodIn wsX11_does wsX11_comes := goodIn_ca (goodIn_r _ [63, 7, 11, 12, 5, 13, 14, 15, 16, 17, 18, 19, 20, 21, 22, 23, 24, 25, 33, 34, 35, 36, 125, 126, 127, 128, 129, 130, 131, 132, 133, 134, 135, 136, 137, 138, 139, 140, 141, 142, 143] (by decide +kernel) (by decide +kernel)) (goodIn_sub (fun _ h => List.mem_cons_of_mem _ (List.mem_append_right _ h)) (by decide +kernel))
set_option maxRecDepth 20000 in
theorem gX11_does_X11_comes : GoodIn wsX11_does (wsV RX11 121 RX11 yX11_comes wsX11_comes) := goodIn_app (goodIn_of _ (by decide +kernel)) ggX11_does_X11_comes
set_option maxRecDepth 20000 in
theorem ggX11_does_X11_builds : GoodIn wsX11_does wsX11_builds := goodIn_ca (goodIn_r _ [67, 7, 68, 69, 70, 5, 71, 11, 12, 13, 14, 15, 16, 17, 18, 19, 20, 21, 22, 23, 24, 25, 41, 42, 43, 44, 72, 73, 74, 75, 76, 77, 78, 79, 80, 81, 82, 83, 56, 57, 58, 59, 84, 85, 86, 87, 88, 89, 90, 91, 92, 93, 94, 95, 96, 30, 31, 32, 33, 34, 35, 36, 125, 126, 127, 128, 129, 130, 131, 132, 133, 134, 135, 136, 137, 138, 139, 140, 141, 142, 143] (by decide +kernel) (by decide +kernel)) (goodIn_sub (fun _ h => List.mem_cons_of_mem _ (List.mem_append_right _ h)) (by decide +kernel))
set_option maxRecDepth 20000 in
theorem gX11_does_X11_builds : GoodIn wsX11_does (wsV RX11 140 RX11 yX11_builds wsX11_builds) := goodIn_app (goodIn_of _ (by decide +kernel)) ggX11_does_X11_builds
set_option maxRecDepth 20000 in
theorem ggX11_does_X11_finishes : GoodIn wsX11_does wsX11_finishes := goodIn_ca (goodIn_r _ [100, 7, 41, 42, 43, 5, 44, 11, 12, 13, 14, 15, 16, 17, 18, 19, 20, 21, 22, 23, 24, 25, 101, 102, 103, 104, 88, 89, 90, 91, 92, 84, 85, 86, 87, 105, 106, 107, 108, 93, 94, 95, 96, 30, 31, 32, 33, 34, 35, 36, 125, 126, 127, 128, 129, 130, 131, 132, 133, 134, 135, 136, 137, 138, 139, 140, 141, 142, 143] (by decide +kernel) (by decide +kernel)) (goodIn_sub (fun _ h => List.mem_cons_of_mem _ (List.mem_append_right _ h)) (by decide +kernel))
set_option maxRecDepth 20000 in
theorem gX11_does_X11_finishes : GoodIn wsX11_does (wsV RX11 151 RX11 yX11_finishes wsX11_finishes) := goodIn_app (goodIn_of _ (by decide +kernel)) ggX11_does_X11_finishes
set_option maxRecDepth 20000 in
theorem ggX11_does_X11_takesApart : GoodIn wsX11_does wsX11_takesApart := goodIn_ca (goodIn_r _ [112, 7, 41, 42, 43, 5, 44, 11, 12, 13, 14, 15, 16, 17, 18, 19, 20, 21, 22, 23, 24, 25, 88, 89, 90, 91, 92, 84, 85, 86, 87, 105, 106, 107, 108, 93, 94, 95, 96, 33, 34, 35, 36, 125, 126, 127, 128, 129, 130, 131, 132, 133, 134, 135, 136, 137, 138, 139, 140, 141, 142, 143] (by decide +kernel) (by decide +kernel)) (goodIn_sub (fun _ h => List.mem_cons_of_mem _ (List.mem_append_right _ h)) (by decide +kernel))
set_option maxRecDepth 20000 in
theorem gX11_does_X11_takesApart : GoodIn wsX11_does (wsV RX11 154 RX11 yX11_takesApart wsX11_takesApart) := goodIn_app (goodIn_of _ (by decide +kernel)) ggX11_does_X11_takesApart
set_option maxRecDepth 20000 in
theorem ggX11_does_X11_moves : GoodIn wsX11_does wsX11_moves := goodIn_ca (goodIn_r _ [116, 7, 41, 42, 43, 5, 44, 11, 12, 13, 14, 15, 16, 17, 18, 19, 20, 21, 22, 23, 24, 25, 8, 9, 10, 26, 27, 28, 29, 30, 31, 32, 33, 34, 35, 36, 125, 126, 127, 128, 129, 130, 131, 132, 133, 134, 135, 136, 137, 138, 139, 140, 141, 142, 143] (by decide +kernel) (by decide +kernel)) (goodIn_sub (fun _ h => List.mem_cons_of_mem _ (List.mem_append_right _ h)) (by decide +kernel))
set_option maxRecDepth 20000 in
theorem gX11_does_X11_moves : GoodIn wsX11_does (wsV RX11 157 RX11 yX11_moves wsX11_moves) := goodIn_app (goodIn_of _ (by decide +kernel)) ggX11_does_X11_moves
set_option maxRecDepth 20000 in
theorem ggX11_does_X11_loses : GoodIn wsX11_does wsX11_loses := goodIn_ca (goodIn_r _ [120, 7, 45, 46, 5, 47, 11, 12, 13, 14, 15, 16, 17, 18, 19, 20, 21, 22, 23, 24, 25, 33, 34, 35, 36, 125, 126, 127, 128, 129, 130, 131, 132, 133, 134, 135, 136, 137, 138, 139, 140, 141, 142, 143] (by decide +kernel) (by decide +kernel)) (goodIn_sub (fun _ h => List.mem_cons_of_mem _ (List.mem_append_right _ h)) (by decide +kernel))
set_option maxRecDepth 20000 in
theorem gX11_does_X11_loses : GoodIn wsX11_does (wsV RX11 160 RX11 yX11_loses wsX11_loses) := goodIn_app (goodIn_of _ (by decide +kernel)) ggX11_does_X11_loses
set_option maxRecDepth 20000 in
theorem ggX11_does_X11_findsAgain : GoodIn wsX11_does wsX11_findsAgain := goodIn_ca (goodIn_r _ [124, 7, 45, 46, 5, 47, 11, 12, 13, 14, 15, 16, 17, 18, 19, 20, 21, 22, 23, 24, 25, 33, 34, 35, 36, 125, 126, 127, 128, 129, 130, 131, 132, 133, 134, 135, 136, 137, 138, 139, 140, 141, 142, 143] (by decide +kernel) (by decide +kernel)) (goodIn_sub (fun _ h => List.mem_cons_of_mem _ (List.mem_append_right _ h)) (by decide +kernel))
set_option maxRecDepth 20000 in
theorem gX11_does_X11_findsAgain : GoodIn wsX11_does (wsV RX11 163 RX11 yX11_findsAgain wsX11_findsAgain) := goodIn_app (goodIn_of _ (by decide +kernel)) ggX11_does_X11_findsAgain
theorem dX11_does_0 : decode cX11_does 0 = .ok (.aload_n 0, 1) := by decide +kernel
theorem dX11_does_1 : decode cX11_does 1 = .ok (.getfield 36, 3) := by decide +kernel
theorem dX11_does_4 : decode cX11_does 4 = .ok (.iload_n 1, 1) := by decide +kernel
theorem dX11_does_5 : decode cX11_does 5 = .ok (.iconst 1, 1) := by decide +kernel
theorem dX11_does_6 : decode cX11_does 6 = .ok (.iadd, 1) := by decide +kernel
theorem dX11_does_7 : decode cX11_does 7 = .ok (.iaload, 1) := by decide +kernel
theorem dX11_does_8 : decode cX11_does 8 = .ok (.istore_n 2, 1) := by decide +kernel
theorem dX11_does_9 : decode cX11_does 9 = .ok (.aload_n 0, 1) := by decide +kernel
theorem dX11_does_10 : decode cX11_does 10 = .ok (.getfield 36, 3) := by decide +kernel
theorem dX11_does_13 : decode cX11_does 13 = .ok (.iload_n 1, 1) := by decide +kernel
theorem dX11_does_14 : decode cX11_does 14 = .ok (.iconst 2, 1) := by decide +kernel
theorem dX11_does_15 : decode cX11_does 15 = .ok (.iadd, 1) := by decide +kernel
theorem dX11_does_16 : decode cX11_does 16 = .ok (.iaload, 1) := by decide +kernel
theorem dX11_does_17 : decode cX11_does 17 = .ok (.istore_n 3, 1) := by decide +kernel
theorem dX11_does_18 : decode cX11_does 18 = .ok (.aload_n 0, 1) := by decide +kernel
theorem dX11_does_19 : decode cX11_does 19 = .ok (.getfield 36, 3) := by decide +kernel
theorem dX11_does_22 : decode cX11_does 22 = .ok (.iload_n 1, 1) := by decide +kernel
theorem dX11_does_23 : decode cX11_does 23 = .ok (.iaload, 1) := by decide +kernel
theorem dX11_does_24 : decode cX11_does 24 = .ok (.tableswitch 277 83 120 #[198, 277, 277, 277, 277, 277, 277, 277, 277, 277, 277, 277, 277, 277, 277, 243, 236, 250, 277, 222, 277, 277, 277, 277, 277, 168, 263, 277, 277, 277, 277, 277, 174, 257, 229, 277, 277, 270], 168) := by decide +kernel
theorem dX11_does_192 : decode cX11_does 192 = .ok (.aload_n 0, 1) := by decide +kernel
theorem dX11_does_193 : decode cX11_does 193 = .ok (.iload_n 2, 1) := by decide +kernel
theorem dX11_does_194 : decode cX11_does 194 = .ok (.invokevirtual 100, 3) := by decide +kernel
theorem dX11_does_197 : decode cX11_does 197 = .ok (.ireturn, 1) := by decide +kernel
theorem dX11_does_198 : decode cX11_does 198 = .ok (.aload_n 0, 1) := by decide +kernel
theorem dX11_does_199 : decode cX11_does 199 = .ok (.iload_n 2, 1) := by decide +kernel
theorem dX11_does_200 : decode cX11_does 200 = .ok (.iload_n 3, 1) := by decide +kernel
theorem dX11_does_201 : decode cX11_does 201 = .ok (.aload_n 0, 1) := by decide +kernel
theorem dX11_does_202 : decode cX11_does 202 = .ok (.getfield 36, 3) := by decide +kernel
theorem dX11_does_205 : decode cX11_does 205 = .ok (.iload_n 1, 1) := by decide +kernel
theorem dX11_does_206 : decode cX11_does 206 = .ok (.iconst 3, 1) := by decide +kernel
theorem dX11_does_207 : decode cX11_does 207 = .ok (.iadd, 1) := by decide +kernel
theorem dX11_does_208 : decode cX11_does 208 = .ok (.iaload, 1) := by decide +kernel
theorem dX11_does_209 : decode cX11_does 209 = .ok (.aload_n 0, 1) := by decide +kernel
theorem dX11_does_210 : decode cX11_does 210 = .ok (.getfield 36, 3) := by decide +kernel
theorem dX11_does_213 : decode cX11_does 213 = .ok (.iload_n 1, 1) := by decide +kernel
theorem dX11_does_214 : decode cX11_does 214 = .ok (.iconst 4, 1) := by decide +kernel
theorem dX11_does_215 : decode cX11_does 215 = .ok (.iadd, 1) := by decide +kernel
theorem dX11_does_216 : decode cX11_does 216 = .ok (.iaload, 1) := by decide +kernel
theorem dX11_does_217 : decode cX11_does 217 = .ok (.iconst 0, 1) := by decide +kernel
theorem dX11_does_218 : decode cX11_does 218 = .ok (.invokevirtual 112, 3) := by decide +kernel
theorem dX11_does_221 : decode cX11_does 221 = .ok (.ireturn, 1) := by decide +kernel
theorem dX11_does_222 : decode cX11_does 222 = .ok (.aload_n 0, 1) := by decide +kernel
theorem dX11_does_223 : decode cX11_does 223 = .ok (.iload_n 2, 1) := by decide +kernel
theorem dX11_does_224 : decode cX11_does 224 = .ok (.iload_n 3, 1) := by decide +kernel
theorem dX11_does_225 : decode cX11_does 225 = .ok (.aload_n 0, 1) := by decide +kernel
theorem dX11_does_226 : decode cX11_does 226 = .ok (.getfield 36, 3) := by decide +kernel
theorem dX11_does_229 : decode cX11_does 229 = .ok (.iload_n 1, 1) := by decide +kernel
theorem dX11_does_230 : decode cX11_does 230 = .ok (.iconst 3, 1) := by decide +kernel
theorem dX11_does_231 : decode cX11_does 231 = .ok (.iadd, 1) := by decide +kernel
theorem dX11_does_232 : decode cX11_does 232 = .ok (.iaload, 1) := by decide +kernel
theorem dX11_does_233 : decode cX11_does 233 = .ok (.aload_n 0, 1) := by decide +kernel
theorem dX11_does_234 : decode cX11_does 234 = .ok (.getfield 36, 3) := by decide +kernel
theorem dX11_does_237 : decode cX11_does 237 = .ok (.iload_n 1, 1) := by decide +kernel
theorem dX11_does_238 : decode cX11_does 238 = .ok (.iconst 4, 1) := by decide +kernel
theorem dX11_does_239 : decode cX11_does 239 = .ok (.iadd, 1) := by decide +kernel
theorem dX11_does_240 : decode cX11_does 240 = .ok (.iaload, 1) := by decide +kernel
theorem dX11_does_241 : decode cX11_does 241 = .ok (.iconst 1, 1) := by decide +kernel
theorem dX11_does_242 : decode cX11_does 242 = .ok (.invokevirtual 112, 3) := by decide +kernel
theorem dX11_does_245 : decode cX11_does 245 = .ok (.ireturn, 1) := by decide +kernel
theorem dX11_does_246 : decode cX11_does 246 = .ok (.aload_n 0, 1) := by decide +kernel
theorem dX11_does_247 : decode cX11_does 247 = .ok (.iload_n 2, 1) := by decide +kernel
theorem dX11_does_248 : decode cX11_does 248 = .ok (.iconst 1, 1) := by decide +kernel
theorem dX11_does_249 : decode cX11_does 249 = .ok (.invokevirtual 118, 3) := by decide +kernel
theorem dX11_does_252 : decode cX11_does 252 = .ok (.ireturn, 1) := by decide +kernel
theorem dX11_does_253 : decode cX11_does 253 = .ok (.aload_n 0, 1) := by decide +kernel
theorem dX11_does_254 : decode cX11_does 254 = .ok (.iload_n 2, 1) := by decide +kernel
theorem dX11_does_255 : decode cX11_does 255 = .ok (.iconst (-1), 1) := by decide +kernel
theorem dX11_does_256 : decode cX11_does 256 = .ok (.invokevirtual 118, 3) := by decide +kernel
theorem dX11_does_259 : decode cX11_does 259 = .ok (.ireturn, 1) := by decide +kernel
theorem dX11_does_260 : decode cX11_does 260 = .ok (.aload_n 0, 1) := by decide +kernel
theorem dX11_does_261 : decode cX11_does 261 = .ok (.iload_n 2, 1) := by decide +kernel
theorem dX11_does_262 : decode cX11_does 262 = .ok (.iload_n 3, 1) := by decide +kernel
theorem dX11_does_263 : decode cX11_does 263 = .ok (.invokevirtual 121, 3) := by decide +kernel
theorem dX11_does_266 : decode cX11_does 266 = .ok (.ireturn, 1) := by decide +kernel
theorem dX11_does_267 : decode cX11_does 267 = .ok (.aload_n 0, 1) := by decide +kernel
theorem dX11_does_268 : decode cX11_does 268 = .ok (.iload_n 2, 1) := by decide +kernel
theorem dX11_does_269 : decode cX11_does 269 = .ok (.iload_n 3, 1) := by decide +kernel
theorem dX11_does_270 : decode cX11_does 270 = .ok (.invokevirtual 140, 3) := by decide +kernel
theorem dX11_does_273 : decode cX11_does 273 = .ok (.ireturn, 1) := by decide +kernel
theorem dX11_does_274 : decode cX11_does 274 = .ok (.aload_n 0, 1) := by decide +kernel
theorem dX11_does_275 : decode cX11_does 275 = .ok (.iload_n 2, 1) := by decide +kernel
theorem dX11_does_276 : decode cX11_does 276 = .ok (.iload_n 3, 1) := by decide +kernel
theorem dX11_does_277 : decode cX11_does 277 = .ok (.invokevirtual 151, 3) := by decide +kernel
theorem dX11_does_280 : decode cX11_does 280 = .ok (.ireturn, 1) := by decide +kernel
theorem dX11_does_281 : decode cX11_does 281 = .ok (.aload_n 0, 1) := by decide +kernel
theorem dX11_does_282 : decode cX11_does 282 = .ok (.iload_n 2, 1) := by decide +kernel
theorem dX11_does_283 : decode cX11_does 283 = .ok (.invokevirtual 154, 3) := by decide +kernel
theorem dX11_does_286 : decode cX11_does 286 = .ok (.ireturn, 1) := by decide +kernel
theorem dX11_does_287 : decode cX11_does 287 = .ok (.aload_n 0, 1) := by decide +kernel
theorem dX11_does_288 : decode cX11_does 288 = .ok (.iload_n 2, 1) := by decide +kernel
theorem dX11_does_289 : decode cX11_does 289 = .ok (.iload_n 3, 1) := by decide +kernel
theorem dX11_does_290 : decode cX11_does 290 = .ok (.invokevirtual 157, 3) := by decide +kernel
theorem dX11_does_293 : decode cX11_does 293 = .ok (.ireturn, 1) := by decide +kernel
theorem dX11_does_294 : decode cX11_does 294 = .ok (.aload_n 0, 1) := by decide +kernel
theorem dX11_does_295 : decode cX11_does 295 = .ok (.iload_n 2, 1) := by decide +kernel
theorem dX11_does_296 : decode cX11_does 296 = .ok (.iload_n 3, 1) := by decide +kernel
theorem dX11_does_297 : decode cX11_does 297 = .ok (.invokevirtual 160, 3) := by decide +kernel
theorem dX11_does_300 : decode cX11_does 300 = .ok (.ireturn, 1) := by decide +kernel
theorem dX11_does_301 : decode cX11_does 301 = .ok (.aload_n 0, 1) := by decide +kernel
theorem dX11_does_302 : decode cX11_does 302 = .ok (.iload_n 2, 1) := by decide +kernel
theorem dX11_does_303 : decode cX11_does 303 = .ok (.iload_n 3, 1) := by decide +kernel
theorem dX11_does_304 : decode cX11_does 304 = .ok (.invokevirtual 163, 3) := by decide +kernel
theorem dX11_does_307 : decode cX11_does 307 = .ok (.ireturn, 1) := by decide +kernel
set_option maxRecDepth 20000 in
theorem ggX11_commands_X11_readsOrder : GoodIn wsX11_commands wsX11_readsOrder := goodIn_ca (goodIn_r _ [11, 1, 12, 2, 13, 14, 15, 10, 16, 3, 17, 18, 19, 20, 21, 22, 23, 24, 25, 26, 27, 28, 29, 30, 31, 32, 33, 34, 35, 36, 172, 173, 174, 175, 176, 177, 178, 179, 180, 181, 182, 183, 184, 185, 186, 187, 188, 189, 190] (by decide +kernel) (by decide +kernel)) (goodIn_sub (fun _ h => List.mem_cons_of_mem _ (List.mem_append_right _ h)) (by decide +kernel))
set_option maxRecDepth 20000 in
theorem gX11_commands_X11_readsOrder : GoodIn wsX11_commands (wsV RX11 215 RX11 yX11_readsOrder wsX11_readsOrder) := goodIn_app (goodIn_of _ (by decide +kernel)) ggX11_commands_X11_readsOrder
set_option maxRecDepth 20000 in
theorem ggX11_commands_X11_here : GoodIn wsX11_commands wsX11_here := goodIn_ca (goodIn_r _ [16, 1, 3, 17, 172, 173, 174, 175, 176, 177, 178, 179, 180, 181, 182, 183, 184, 185, 186, 187, 188, 189, 190] (by decide +kernel) (by decide +kernel)) (goodIn_sub (fun _ h => List.mem_cons_of_mem _ (List.mem_append_right _ h)) (by decide +kernel))
set_option maxRecDepth 20000 in
theorem gX11_commands_X11_here : GoodIn wsX11_commands (wsV RX11 199 RX11 yX11_here wsX11_here) := goodIn_app (goodIn_of _ (by decide +kernel)) ggX11_commands_X11_here
set_option maxRecDepth 20000 in
theorem ggX11_commands_X11_fails : GoodIn wsX11_commands wsX11_fails := goodIn_r _ [40, 5, 172, 173, 174, 175, 176, 177, 178, 179, 180, 181, 182, 183, 184, 185, 186, 187, 188, 189, 190] (by decide +kernel) (by decide +kernel)
set_option maxRecDepth 20000 in
theorem gX11_commands_X11_fails : GoodIn wsX11_commands (wsV RX11 51 RX11 yX11_fails wsX11_fails) := goodIn_app (goodIn_of _ (by decide +kernel)) ggX11_commands_X11_fails
set_option maxRecDepth 20000 in
theorem ggX11_commands_X11_looksBack : GoodIn wsX11_commands wsX11_looksBack := goodIn_ca (goodIn_r _ [44, 45, 46, 47, 48, 10, 49, 172, 173, 174, 175, 176, 177, 178, 179, 180, 181, 182, 183, 184, 185, 186, 187, 188, 189, 190] (by decide +kernel) (by decide +kernel)) (goodIn_sub (fun _ h => List.mem_cons_of_mem _ (List.mem_append_right _ h)) (by decide +kernel))
set_option maxRecDepth 20000 in
theorem gX11_commands_X11_looksBack : GoodIn wsX11_commands (wsV RX11 97 RX11 yX11_looksBack wsX11_looksBack) := goodIn_app (goodIn_of _ (by decide +kernel)) ggX11_commands_X11_looksBack
set_option maxRecDepth 20000 in
theorem ggX11_commands_X11_does : GoodIn wsX11_commands wsX11_does := goodIn_ca (goodIn_r _ [53, 12, 54, 55, 56, 10, 57, 45, 58, 59, 60, 22, 23, 24, 61, 62, 63, 64, 65, 66, 6, 37, 38, 39, 40, 5, 67, 68, 69, 70, 71, 72, 73, 74, 75, 76, 77, 78, 79, 80, 81, 82, 83, 84, 85, 86, 87, 88, 89, 90, 91, 92, 93, 94, 95, 96, 97, 98, 99, 100, 101, 102, 103, 104, 105, 106, 107, 108, 109, 110, 111, 112, 113, 114, 115, 116, 117, 118, 119, 120, 121, 122, 123, 124, 125, 126, 127, 128, 129, 130, 131, 132, 133, 134, 135, 136, 137, 138, 139, 140, 141, 142, 143, 144, 145, 146, 147, 148, 149, 150, 151, 152, 153, 154, 155, 156, 157, 158, 159, 160, 161, 162, 163, 164, 165, 172, 173, 174, 175, 176, 177, 178, 179, 180, 181, 182, 183, 184, 185, 186, 187, 188, 189, 190] (by decide +kernel) (by decide +kernel)) (goodIn_sub (fun _ h => List.mem_cons_of_mem _ (List.mem_append_right _ h)) (by decide +kernel))
set_option maxRecDepth 20000 in
theorem gX11_commands_X11_does : GoodIn wsX11_commands (wsV RX11 218 RX11 yX11_does wsX11_does) := goodIn_app (goodIn_of _ (by decide +kernel)) ggX11_commands_X11_does
set_option maxRecDepth 20000 in
theorem ggX11_commands_X11_kept : GoodIn wsX11_commands wsX11_kept := goodIn_ca (goodIn_r _ [169, 5, 46, 45, 170, 171, 47, 48, 10, 49, 172, 173, 174, 175, 176, 177, 178, 179, 180, 181, 182, 183, 184, 185, 186, 187, 188, 189, 190] (by decide +kernel) (by decide +kernel)) (goodIn_sub (fun _ h => List.mem_cons_of_mem _ (List.mem_append_right _ h)) (by decide +kernel))
set_option maxRecDepth 20000 in
theorem gX11_commands_X11_kept : GoodIn wsX11_commands (wsV RX11 103 RX11 yX11_kept wsX11_kept) := goodIn_app (goodIn_of _ (by decide +kernel)) ggX11_commands_X11_kept
set_option maxRecDepth 20000 in
theorem ggX11_commands_X11_done : GoodIn wsX11_commands wsX11_done := goodIn_r _ [77, 5, 172, 173, 174, 175, 176, 177, 178, 179, 180, 181, 182, 183, 184, 185, 186, 187, 188, 189, 190] (by decide +kernel) (by decide +kernel)
set_option maxRecDepth 20000 in
theorem gX11_commands_X11_done : GoodIn wsX11_commands (wsV RX11 94 RX11 yX11_done wsX11_done) := goodIn_app (goodIn_of _ (by decide +kernel)) ggX11_commands_X11_done
theorem dX11_commands_0 : decode cX11_commands 0 = .ok (.aload_n 0, 1) := by decide +kernel
theorem dX11_commands_1 : decode cX11_commands 1 = .ok (.iconst 0, 1) := by decide +kernel
theorem dX11_commands_2 : decode cX11_commands 2 = .ok (.putfield 192, 3) := by decide +kernel
theorem dX11_commands_5 : decode cX11_commands 5 = .ok (.aload_n 0, 1) := by decide +kernel
theorem dX11_commands_6 : decode cX11_commands 6 = .ok (.iconst 0, 1) := by decide +kernel
theorem dX11_commands_7 : decode cX11_commands 7 = .ok (.putfield 195, 3) := by decide +kernel
theorem dX11_commands_10 : decode cX11_commands 10 = .ok (.iconst 0, 1) := by decide +kernel
theorem dX11_commands_11 : decode cX11_commands 11 = .ok (.istore_n 1, 1) := by decide +kernel
theorem dX11_commands_12 : decode cX11_commands 12 = .ok (.iconst 1, 1) := by decide +kernel
theorem dX11_commands_13 : decode cX11_commands 13 = .ok (.istore_n 2, 1) := by decide +kernel
theorem dX11_commands_14 : decode cX11_commands 14 = .ok (.iload_n 2, 1) := by decide +kernel
theorem dX11_commands_15 : decode cX11_commands 15 = .ok (.ifCond .eq 56, 3) := by decide +kernel
theorem dX11_commands_18 : decode cX11_commands 18 = .ok (.aload_n 0, 1) := by decide +kernel
theorem dX11_commands_19 : decode cX11_commands 19 = .ok (.iconst 5, 1) := by decide +kernel
theorem dX11_commands_20 : decode cX11_commands 20 = .ok (.iload_n 1, 1) := by decide +kernel
theorem dX11_commands_21 : decode cX11_commands 21 = .ok (.imul, 1) := by decide +kernel
theorem dX11_commands_22 : decode cX11_commands 22 = .ok (.invokevirtual 215, 3) := by decide +kernel
theorem dX11_commands_25 : decode cX11_commands 25 = .ok (.iinc 1 1, 3) := by decide +kernel
theorem dX11_commands_28 : decode cX11_commands 28 = .ok (.aload_n 0, 1) := by decide +kernel
theorem dX11_commands_29 : decode cX11_commands 29 = .ok (.getfield 195, 3) := by decide +kernel
theorem dX11_commands_32 : decode cX11_commands 32 = .ok (.ifCond .ne 16, 3) := by decide +kernel
theorem dX11_commands_35 : decode cX11_commands 35 = .ok (.aload_n 0, 1) := by decide +kernel
theorem dX11_commands_36 : decode cX11_commands 36 = .ok (.invokevirtual 199, 3) := by decide +kernel
theorem dX11_commands_39 : decode cX11_commands 39 = .ok (.bipush 59, 2) := by decide +kernel
theorem dX11_commands_41 : decode cX11_commands 41 = .ok (.if_icmp .ne 7, 3) := by decide +kernel
theorem dX11_commands_44 : decode cX11_commands 44 = .ok (.iconst 1, 1) := by decide +kernel
theorem dX11_commands_45 : decode cX11_commands 45 = .ok (.goto 4, 3) := by decide +kernel
theorem dX11_commands_48 : decode cX11_commands 48 = .ok (.iconst 0, 1) := by decide +kernel
theorem dX11_commands_49 : decode cX11_commands 49 = .ok (.istore_n 2, 1) := by decide +kernel
theorem dX11_commands_50 : decode cX11_commands 50 = .ok (.aload_n 0, 1) := by decide +kernel
theorem dX11_commands_51 : decode cX11_commands 51 = .ok (.dup, 1) := by decide +kernel
theorem dX11_commands_52 : decode cX11_commands 52 = .ok (.getfield 192, 3) := by decide +kernel
theorem dX11_commands_55 : decode cX11_commands 55 = .ok (.iload_n 2, 1) := by decide +kernel
theorem dX11_commands_56 : decode cX11_commands 56 = .ok (.ifCond .eq 7, 3) := by decide +kernel
theorem dX11_commands_59 : decode cX11_commands 59 = .ok (.iconst 1, 1) := by decide +kernel
theorem dX11_commands_60 : decode cX11_commands 60 = .ok (.goto 4, 3) := by decide +kernel
theorem dX11_commands_63 : decode cX11_commands 63 = .ok (.iconst 0, 1) := by decide +kernel
theorem dX11_commands_64 : decode cX11_commands 64 = .ok (.iadd, 1) := by decide +kernel
theorem dX11_commands_65 : decode cX11_commands 65 = .ok (.putfield 192, 3) := by decide +kernel
theorem dX11_commands_68 : decode cX11_commands 68 = .ok (.goto (-54), 3) := by decide +kernel
theorem dX11_commands_71 : decode cX11_commands 71 = .ok (.aload_n 0, 1) := by decide +kernel
theorem dX11_commands_72 : decode cX11_commands 72 = .ok (.aload_n 0, 1) := by decide +kernel
theorem dX11_commands_73 : decode cX11_commands 73 = .ok (.getfield 195, 3) := by decide +kernel
theorem dX11_commands_76 : decode cX11_commands 76 = .ok (.ifCond .ne 14, 3) := by decide +kernel
theorem dX11_commands_79 : decode cX11_commands 79 = .ok (.aload_n 0, 1) := by decide +kernel
theorem dX11_commands_80 : decode cX11_commands 80 = .ok (.getfield 192, 3) := by decide +kernel
theorem dX11_commands_83 : decode cX11_commands 83 = .ok (.aload_n 0, 1) := by decide +kernel
theorem dX11_commands_84 : decode cX11_commands 84 = .ok (.getfield 189, 3) := by decide +kernel
theorem dX11_commands_87 : decode cX11_commands 87 = .ok (.if_icmp .ge 7, 3) := by decide +kernel
theorem dX11_commands_90 : decode cX11_commands 90 = .ok (.iconst 1, 1) := by decide +kernel
theorem dX11_commands_91 : decode cX11_commands 91 = .ok (.goto 4, 3) := by decide +kernel
theorem dX11_commands_94 : decode cX11_commands 94 = .ok (.iconst 0, 1) := by decide +kernel
theorem dX11_commands_95 : decode cX11_commands 95 = .ok (.putfield 195, 3) := by decide +kernel
theorem dX11_commands_98 : decode cX11_commands 98 = .ok (.aload_n 0, 1) := by decide +kernel
theorem dX11_commands_99 : decode cX11_commands 99 = .ok (.iconst 0, 1) := by decide +kernel
theorem dX11_commands_100 : decode cX11_commands 100 = .ok (.putfield 189, 3) := by decide +kernel
theorem dX11_commands_103 : decode cX11_commands 103 = .ok (.aload_n 0, 1) := by decide +kernel
theorem dX11_commands_104 : decode cX11_commands 104 = .ok (.aload_n 0, 1) := by decide +kernel
theorem dX11_commands_105 : decode cX11_commands 105 = .ok (.getfield 195, 3) := by decide +kernel
theorem dX11_commands_108 : decode cX11_commands 108 = .ok (.ifCond .eq 10, 3) := by decide +kernel
theorem dX11_commands_111 : decode cX11_commands 111 = .ok (.aload_n 0, 1) := by decide +kernel
theorem dX11_commands_112 : decode cX11_commands 112 = .ok (.getfield 192, 3) := by decide +kernel
theorem dX11_commands_115 : decode cX11_commands 115 = .ok (.goto 4, 3) := by decide +kernel
theorem dX11_commands_118 : decode cX11_commands 118 = .ok (.iconst (-1), 1) := by decide +kernel
theorem dX11_commands_119 : decode cX11_commands 119 = .ok (.putfield 26, 3) := by decide +kernel
theorem dX11_commands_122 : decode cX11_commands 122 = .ok (.aload_n 0, 1) := by decide +kernel
theorem dX11_commands_123 : decode cX11_commands 123 = .ok (.getfield 195, 3) := by decide +kernel
theorem dX11_commands_126 : decode cX11_commands 126 = .ok (.ifCond .eq 9, 3) := by decide +kernel
theorem dX11_commands_129 : decode cX11_commands 129 = .ok (.aload_n 0, 1) := by decide +kernel
theorem dX11_commands_130 : decode cX11_commands 130 = .ok (.iconst 1, 1) := by decide +kernel
theorem dX11_commands_131 : decode cX11_commands 131 = .ok (.invokevirtual 51, 3) := by decide +kernel
theorem dX11_commands_134 : decode cX11_commands 134 = .ok (.ireturn, 1) := by decide +kernel
theorem dX11_commands_135 : decode cX11_commands 135 = .ok (.aload_n 0, 1) := by decide +kernel
theorem dX11_commands_136 : decode cX11_commands 136 = .ok (.invokevirtual 97, 3) := by decide +kernel
theorem dX11_commands_139 : decode cX11_commands 139 = .ok (.iconst 0, 1) := by decide +kernel
theorem dX11_commands_140 : decode cX11_commands 140 = .ok (.istore_n 3, 1) := by decide +kernel
theorem dX11_commands_141 : decode cX11_commands 141 = .ok (.iload_n 3, 1) := by decide +kernel
theorem dX11_commands_142 : decode cX11_commands 142 = .ok (.iload_n 1, 1) := by decide +kernel
theorem dX11_commands_143 : decode cX11_commands 143 = .ok (.if_icmp .ge 42, 3) := by decide +kernel
theorem dX11_commands_146 : decode cX11_commands 146 = .ok (.aload_n 0, 1) := by decide +kernel
theorem dX11_commands_147 : decode cX11_commands 147 = .ok (.iconst 5, 1) := by decide +kernel
theorem dX11_commands_148 : decode cX11_commands 148 = .ok (.iload_n 3, 1) := by decide +kernel
theorem dX11_commands_149 : decode cX11_commands 149 = .ok (.imul, 1) := by decide +kernel
theorem dX11_commands_150 : decode cX11_commands 150 = .ok (.invokevirtual 218, 3) := by decide +kernel
theorem dX11_commands_153 : decode cX11_commands 153 = .ok (.istore 4, 2) := by decide +kernel
theorem dX11_commands_155 : decode cX11_commands 155 = .ok (.aload_n 0, 1) := by decide +kernel
theorem dX11_commands_156 : decode cX11_commands 156 = .ok (.getfield 39, 3) := by decide +kernel
theorem dX11_commands_159 : decode cX11_commands 159 = .ok (.ifCond .eq 20, 3) := by decide +kernel
theorem dX11_commands_162 : decode cX11_commands 162 = .ok (.aload_n 0, 1) := by decide +kernel
theorem dX11_commands_163 : decode cX11_commands 163 = .ok (.iload_n 3, 1) := by decide +kernel
theorem dX11_commands_164 : decode cX11_commands 164 = .ok (.putfield 48, 3) := by decide +kernel
theorem dX11_commands_167 : decode cX11_commands 167 = .ok (.aload_n 0, 1) := by decide +kernel
theorem dX11_commands_168 : decode cX11_commands 168 = .ok (.iconst 2, 1) := by decide +kernel
theorem dX11_commands_169 : decode cX11_commands 169 = .ok (.putfield 39, 3) := by decide +kernel
theorem dX11_commands_172 : decode cX11_commands 172 = .ok (.aload_n 0, 1) := by decide +kernel
theorem dX11_commands_173 : decode cX11_commands 173 = .ok (.iload 4, 2) := by decide +kernel
theorem dX11_commands_175 : decode cX11_commands 175 = .ok (.invokevirtual 103, 3) := by decide +kernel
theorem dX11_commands_178 : decode cX11_commands 178 = .ok (.ireturn, 1) := by decide +kernel
theorem dX11_commands_179 : decode cX11_commands 179 = .ok (.iinc 3 1, 3) := by decide +kernel
theorem dX11_commands_182 : decode cX11_commands 182 = .ok (.goto (-41), 3) := by decide +kernel
theorem dX11_commands_185 : decode cX11_commands 185 = .ok (.aload_n 0, 1) := by decide +kernel
theorem dX11_commands_186 : decode cX11_commands 186 = .ok (.aload_n 0, 1) := by decide +kernel
theorem dX11_commands_187 : decode cX11_commands 187 = .ok (.iload_n 1, 1) := by decide +kernel
theorem dX11_commands_188 : decode cX11_commands 188 = .ok (.invokevirtual 94, 3) := by decide +kernel
theorem dX11_commands_191 : decode cX11_commands 191 = .ok (.invokevirtual 103, 3) := by decide +kernel
theorem dX11_commands_194 : decode cX11_commands 194 = .ok (.ireturn, 1) := by decide +kernel
set_option maxRecDepth 20000 in
theorem ggX11_faultPosition_X11_done : GoodIn wsX11_faultPosition wsX11_done := goodIn_r _ [6, 7, 8, 9, 10, 11, 12, 13, 14, 15, 16, 17, 18, 19, 20, 21, 22, 23, 24, 25, 26] (by decide +kernel) (by decide +kernel)
set_option maxRecDepth 20000 in
theorem gX11_faultPosition_X11_done : GoodIn wsX11_faultPosition (wsV RX11 94 RX11 yX11_done wsX11_done) := goodIn_app (goodIn_of _ (by decide +kernel)) ggX11_faultPosition_X11_done
theorem dX11_faultPosition_0 : decode cX11_faultPosition 0 = .ok (.aload_n 0, 1) := by decide +kernel
theorem dX11_faultPosition_1 : decode cX11_faultPosition 1 = .ok (.aload_n 0, 1) := by decide +kernel
theorem dX11_faultPosition_2 : decode cX11_faultPosition 2 = .ok (.getfield 26, 3) := by decide +kernel
theorem dX11_faultPosition_5 : decode cX11_faultPosition 5 = .ok (.invokevirtual 94, 3) := by decide +kernel
theorem dX11_faultPosition_8 : decode cX11_faultPosition 8 = .ok (.ireturn, 1) := by decide +kernel
set_option maxRecDepth 20000 in
theorem ggX11_reason_X11_in : GoodIn wsX11_reason wsX11_in := goodIn_r _ [7] (by decide +kernel) (by decide +kernel)
set_option maxRecDepth 20000 in
theorem gX11_reason_X11_in : GoodIn wsX11_reason (va_wsS RX11 62 yX11_in wsX11_in) := goodIn_app (goodIn_of _ (by decide +kernel)) ggX11_reason_X11_in
set_option maxRecDepth 20000 in
theorem ggX11_reason_X11_fails : GoodIn wsX11_reason wsX11_fails := goodIn_r _ [11, 12, 17, 18, 19, 20, 21, 22, 23, 24, 25, 26, 27, 28, 29, 30, 31, 32, 33, 34, 35] (by decide +kernel) (by decide +kernel)
set_option maxRecDepth 20000 in
theorem gX11_reason_X11_fails : GoodIn wsX11_reason (wsV RX11 51 RX11 yX11_fails wsX11_fails) := goodIn_app (goodIn_of _ (by decide +kernel)) ggX11_reason_X11_fails
set_option maxRecDepth 20000 in
theorem ggX11_reason_X11_done : GoodIn wsX11_reason wsX11_done := goodIn_r _ [16, 12, 17, 18, 19, 20, 21, 22, 23, 24, 25, 26, 27, 28, 29, 30, 31, 32, 33, 34, 35] (by decide +kernel) (by decide +kernel)
set_option maxRecDepth 20000 in
theorem gX11_reason_X11_done : GoodIn wsX11_reason (wsV RX11 94 RX11 yX11_done wsX11_done) := goodIn_app (goodIn_of _ (by decide +kernel)) ggX11_reason_X11_done
theorem dX11_reason_0 : decode cX11_reason 0 = .ok (.iload_n 1, 1) := by decide +kernel
theorem dX11_reason_1 : decode cX11_reason 1 = .ok (.iconst 0, 1) := by decide +kernel
theorem dX11_reason_2 : decode cX11_reason 2 = .ok (.iconst 2, 1) := by decide +kernel
theorem dX11_reason_3 : decode cX11_reason 3 = .ok (.invokestatic 62, 3) := by decide +kernel
theorem dX11_reason_6 : decode cX11_reason 6 = .ok (.ifCond .ne 9, 3) := by decide +kernel
theorem dX11_reason_9 : decode cX11_reason 9 = .ok (.aload_n 0, 1) := by decide +kernel
theorem dX11_reason_10 : decode cX11_reason 10 = .ok (.iconst 1, 1) := by decide +kernel
theorem dX11_reason_11 : decode cX11_reason 11 = .ok (.invokevirtual 51, 3) := by decide +kernel
theorem dX11_reason_14 : decode cX11_reason 14 = .ok (.ireturn, 1) := by decide +kernel
theorem dX11_reason_15 : decode cX11_reason 15 = .ok (.aload_n 0, 1) := by decide +kernel
theorem dX11_reason_16 : decode cX11_reason 16 = .ok (.getfield 42, 3) := by decide +kernel
theorem dX11_reason_19 : decode cX11_reason 19 = .ok (.ifCond .ne 9, 3) := by decide +kernel
theorem dX11_reason_22 : decode cX11_reason 22 = .ok (.aload_n 0, 1) := by decide +kernel
theorem dX11_reason_23 : decode cX11_reason 23 = .ok (.iconst 2, 1) := by decide +kernel
theorem dX11_reason_24 : decode cX11_reason 24 = .ok (.invokevirtual 51, 3) := by decide +kernel
theorem dX11_reason_27 : decode cX11_reason 27 = .ok (.ireturn, 1) := by decide +kernel
theorem dX11_reason_28 : decode cX11_reason 28 = .ok (.aload_n 0, 1) := by decide +kernel
theorem dX11_reason_29 : decode cX11_reason 29 = .ok (.iload_n 1, 1) := by decide +kernel
theorem dX11_reason_30 : decode cX11_reason 30 = .ok (.ifCond .ne 10, 3) := by decide +kernel
theorem dX11_reason_33 : decode cX11_reason 33 = .ok (.aload_n 0, 1) := by decide +kernel
theorem dX11_reason_34 : decode cX11_reason 34 = .ok (.getfield 42, 3) := by decide +kernel
theorem dX11_reason_37 : decode cX11_reason 37 = .ok (.goto 19, 3) := by decide +kernel
theorem dX11_reason_40 : decode cX11_reason 40 = .ok (.iload_n 1, 1) := by decide +kernel
theorem dX11_reason_41 : decode cX11_reason 41 = .ok (.iconst 1, 1) := by decide +kernel
theorem dX11_reason_42 : decode cX11_reason 42 = .ok (.if_icmp .ne 10, 3) := by decide +kernel
theorem dX11_reason_45 : decode cX11_reason 45 = .ok (.aload_n 0, 1) := by decide +kernel
theorem dX11_reason_46 : decode cX11_reason 46 = .ok (.getfield 45, 3) := by decide +kernel
theorem dX11_reason_49 : decode cX11_reason 49 = .ok (.goto 7, 3) := by decide +kernel
theorem dX11_reason_52 : decode cX11_reason 52 = .ok (.aload_n 0, 1) := by decide +kernel
theorem dX11_reason_53 : decode cX11_reason 53 = .ok (.getfield 48, 3) := by decide +kernel
theorem dX11_reason_56 : decode cX11_reason 56 = .ok (.invokevirtual 94, 3) := by decide +kernel
theorem dX11_reason_59 : decode cX11_reason 59 = .ok (.ireturn, 1) := by decide +kernel
theorem dX11_writes_0 : decode cX11_writes 0 = .ok (.aload_n 0, 1) := by decide +kernel
theorem dX11_writes_1 : decode cX11_writes 1 = .ok (.getfield 30, 3) := by decide +kernel
theorem dX11_writes_4 : decode cX11_writes 4 = .ok (.aload_n 0, 1) := by decide +kernel
theorem dX11_writes_5 : decode cX11_writes 5 = .ok (.getfield 221, 3) := by decide +kernel
theorem dX11_writes_8 : decode cX11_writes 8 = .ok (.iload_n 1, 1) := by decide +kernel
theorem dX11_writes_9 : decode cX11_writes 9 = .ok (.i2c, 1) := by decide +kernel
theorem dX11_writes_10 : decode cX11_writes 10 = .ok (.castore, 1) := by decide +kernel
theorem dX11_writes_11 : decode cX11_writes 11 = .ok (.aload_n 0, 1) := by decide +kernel
theorem dX11_writes_12 : decode cX11_writes 12 = .ok (.dup, 1) := by decide +kernel
theorem dX11_writes_13 : decode cX11_writes 13 = .ok (.getfield 221, 3) := by decide +kernel
theorem dX11_writes_16 : decode cX11_writes 16 = .ok (.iconst 1, 1) := by decide +kernel
theorem dX11_writes_17 : decode cX11_writes 17 = .ok (.iadd, 1) := by decide +kernel
theorem dX11_writes_18 : decode cX11_writes 18 = .ok (.putfield 221, 3) := by decide +kernel
theorem dX11_writes_21 : decode cX11_writes 21 = .ok (.return_, 1) := by decide +kernel
set_option maxRecDepth 20000 in
theorem ggX11_line_X11_isLeaflet : GoodIn wsX11_line wsX11_isLeaflet := goodIn_ca (goodIn_r _ [7, 2, 8, 9, 6, 10, 33, 34, 35, 36, 37, 38, 39, 40, 41, 42, 43, 44, 45, 46, 47, 48, 49, 50, 51] (by decide +kernel) (by decide +kernel)) (goodIn_sub (fun _ h => List.mem_cons_of_mem _ (List.mem_append_right _ h)) (by decide +kernel))
set_option maxRecDepth 20000 in
theorem gX11_line_X11_isLeaflet : GoodIn wsX11_line (wsV RX11 106 RX11 yX11_isLeaflet wsX11_isLeaflet) := goodIn_app (goodIn_of _ (by decide +kernel)) ggX11_line_X11_isLeaflet
set_option maxRecDepth 20000 in
theorem ggX11_line_X11_fails : GoodIn wsX11_line wsX11_fails := goodIn_r _ [14, 15, 33, 34, 35, 36, 37, 38, 39, 40, 41, 42, 43, 44, 45, 46, 47, 48, 49, 50, 51] (by decide +kernel) (by decide +kernel)
set_option maxRecDepth 20000 in
theorem gX11_line_X11_fails : GoodIn wsX11_line (wsV RX11 51 RX11 yX11_fails wsX11_fails) := goodIn_app (goodIn_of _ (by decide +kernel)) ggX11_line_X11_fails
set_option maxRecDepth 20000 in
theorem ggX11_line_X11_writes : GoodIn wsX11_line wsX11_writes := goodIn_ca (goodIn_r _ [19, 20, 1, 33, 34, 35, 36, 37, 38, 39, 40, 41, 42, 43, 44, 45, 46, 47, 48, 49, 50, 51] (by decide +kernel) (by decide +kernel)) (goodIn_sub (fun _ h => List.mem_cons_of_mem _ (List.mem_append_right _ h)) (by decide +kernel))
set_option maxRecDepth 20000 in
theorem gX11_line_X11_writes : GoodIn wsX11_line (wsV RX11 224 RX11 yX11_writes wsX11_writes) := goodIn_app (goodIn_of _ (by decide +kernel)) ggX11_line_X11_writes
set_option maxRecDepth 20000 in
theorem ggX11_line_X11_open : GoodIn wsX11_line wsX11_open := goodIn_ca (goodIn_r _ [24, 2, 25, 26, 27, 6, 28, 33, 34, 35, 36, 37, 38, 39, 40, 41, 42, 43, 44, 45, 46, 47, 48, 49, 50, 51] (by decide +kernel) (by decide +kernel)) (goodIn_sub (fun _ h => List.mem_cons_of_mem _ (List.mem_append_right _ h)) (by decide +kernel))
set_option maxRecDepth 20000 in
theorem gX11_line_X11_open : GoodIn wsX11_line (wsV RX11 115 RX11 yX11_open wsX11_open) := goodIn_app (goodIn_of _ (by decide +kernel)) ggX11_line_X11_open
set_option maxRecDepth 20000 in
theorem ggX11_line_X11_done : GoodIn wsX11_line wsX11_done := goodIn_r _ [32, 15, 33, 34, 35, 36, 37, 38, 39, 40, 41, 42, 43, 44, 45, 46, 47, 48, 49, 50, 51] (by decide +kernel) (by decide +kernel)
set_option maxRecDepth 20000 in
theorem gX11_line_X11_done : GoodIn wsX11_line (wsV RX11 94 RX11 yX11_done wsX11_done) := goodIn_app (goodIn_of _ (by decide +kernel)) ggX11_line_X11_done
theorem dX11_line_0 : decode cX11_line 0 = .ok (.aload_n 0, 1) := by decide +kernel
theorem dX11_line_1 : decode cX11_line 1 = .ok (.iload_n 1, 1) := by decide +kernel
theorem dX11_line_2 : decode cX11_line 2 = .ok (.invokevirtual 106, 3) := by decide +kernel
theorem dX11_line_5 : decode cX11_line 5 = .ok (.ifCond .ne 9, 3) := by decide +kernel
theorem dX11_line_8 : decode cX11_line 8 = .ok (.aload_n 0, 1) := by decide +kernel
theorem dX11_line_9 : decode cX11_line 9 = .ok (.iconst 1, 1) := by decide +kernel
theorem dX11_line_10 : decode cX11_line 10 = .ok (.invokevirtual 51, 3) := by decide +kernel
theorem dX11_line_13 : decode cX11_line 13 = .ok (.ireturn, 1) := by decide +kernel
theorem dX11_line_14 : decode cX11_line 14 = .ok (.aload_n 0, 1) := by decide +kernel
theorem dX11_line_15 : decode cX11_line 15 = .ok (.iconst 0, 1) := by decide +kernel
theorem dX11_line_16 : decode cX11_line 16 = .ok (.putfield 221, 3) := by decide +kernel
theorem dX11_line_19 : decode cX11_line 19 = .ok (.iconst 0, 1) := by decide +kernel
theorem dX11_line_20 : decode cX11_line 20 = .ok (.istore_n 2, 1) := by decide +kernel
theorem dX11_line_21 : decode cX11_line 21 = .ok (.iload_n 2, 1) := by decide +kernel
theorem dX11_line_22 : decode cX11_line 22 = .ok (.aload_n 0, 1) := by decide +kernel
theorem dX11_line_23 : decode cX11_line 23 = .ok (.getfield 7, 3) := by decide +kernel
theorem dX11_line_26 : decode cX11_line 26 = .ok (.bipush 18, 2) := by decide +kernel
theorem dX11_line_28 : decode cX11_line 28 = .ok (.iload_n 1, 1) := by decide +kernel
theorem dX11_line_29 : decode cX11_line 29 = .ok (.iadd, 1) := by decide +kernel
theorem dX11_line_30 : decode cX11_line 30 = .ok (.iaload, 1) := by decide +kernel
theorem dX11_line_31 : decode cX11_line 31 = .ok (.if_icmp .ge 140, 3) := by decide +kernel
theorem dX11_line_34 : decode cX11_line 34 = .ok (.bipush 8, 2) := by decide +kernel
theorem dX11_line_36 : decode cX11_line 36 = .ok (.iload_n 1, 1) := by decide +kernel
theorem dX11_line_37 : decode cX11_line 37 = .ok (.imul, 1) := by decide +kernel
theorem dX11_line_38 : decode cX11_line 38 = .ok (.iload_n 2, 1) := by decide +kernel
theorem dX11_line_39 : decode cX11_line 39 = .ok (.iadd, 1) := by decide +kernel
theorem dX11_line_40 : decode cX11_line 40 = .ok (.istore_n 3, 1) := by decide +kernel
theorem dX11_line_41 : decode cX11_line 41 = .ok (.iload_n 2, 1) := by decide +kernel
theorem dX11_line_42 : decode cX11_line 42 = .ok (.ifCond .le 9, 3) := by decide +kernel
theorem dX11_line_45 : decode cX11_line 45 = .ok (.aload_n 0, 1) := by decide +kernel
theorem dX11_line_46 : decode cX11_line 46 = .ok (.bipush 32, 2) := by decide +kernel
theorem dX11_line_48 : decode cX11_line 48 = .ok (.invokevirtual 224, 3) := by decide +kernel
theorem dX11_line_51 : decode cX11_line 51 = .ok (.aload_n 0, 1) := by decide +kernel
theorem dX11_line_52 : decode cX11_line 52 = .ok (.bipush 48, 2) := by decide +kernel
theorem dX11_line_54 : decode cX11_line 54 = .ok (.aload_n 0, 1) := by decide +kernel
theorem dX11_line_55 : decode cX11_line 55 = .ok (.getfield 7, 3) := by decide +kernel
theorem dX11_line_58 : decode cX11_line 58 = .ok (.bipush 68, 2) := by decide +kernel
theorem dX11_line_60 : decode cX11_line 60 = .ok (.iload_n 3, 1) := by decide +kernel
theorem dX11_line_61 : decode cX11_line 61 = .ok (.iadd, 1) := by decide +kernel
theorem dX11_line_62 : decode cX11_line 62 = .ok (.iaload, 1) := by decide +kernel
theorem dX11_line_63 : decode cX11_line 63 = .ok (.iadd, 1) := by decide +kernel
theorem dX11_line_64 : decode cX11_line 64 = .ok (.invokevirtual 224, 3) := by decide +kernel
theorem dX11_line_67 : decode cX11_line 67 = .ok (.aload_n 0, 1) := by decide +kernel
theorem dX11_line_68 : decode cX11_line 68 = .ok (.bipush 42, 2) := by decide +kernel
theorem dX11_line_70 : decode cX11_line 70 = .ok (.invokevirtual 224, 3) := by decide +kernel
theorem dX11_line_73 : decode cX11_line 73 = .ok (.aload_n 0, 1) := by decide +kernel
theorem dX11_line_74 : decode cX11_line 74 = .ok (.bipush 48, 2) := by decide +kernel
theorem dX11_line_76 : decode cX11_line 76 = .ok (.aload_n 0, 1) := by decide +kernel
theorem dX11_line_77 : decode cX11_line 77 = .ok (.getfield 7, 3) := by decide +kernel
theorem dX11_line_80 : decode cX11_line 80 = .ok (.sipush 132, 3) := by decide +kernel
theorem dX11_line_83 : decode cX11_line 83 = .ok (.iload_n 3, 1) := by decide +kernel
theorem dX11_line_84 : decode cX11_line 84 = .ok (.iadd, 1) := by decide +kernel
theorem dX11_line_85 : decode cX11_line 85 = .ok (.iaload, 1) := by decide +kernel
theorem dX11_line_86 : decode cX11_line 86 = .ok (.iadd, 1) := by decide +kernel
theorem dX11_line_87 : decode cX11_line 87 = .ok (.invokevirtual 224, 3) := by decide +kernel
theorem dX11_line_90 : decode cX11_line 90 = .ok (.aload_n 0, 1) := by decide +kernel
theorem dX11_line_91 : decode cX11_line 91 = .ok (.getfield 7, 3) := by decide +kernel
theorem dX11_line_94 : decode cX11_line 94 = .ok (.sipush 260, 3) := by decide +kernel
theorem dX11_line_97 : decode cX11_line 97 = .ok (.iload_n 3, 1) := by decide +kernel
theorem dX11_line_98 : decode cX11_line 98 = .ok (.iadd, 1) := by decide +kernel
theorem dX11_line_99 : decode cX11_line 99 = .ok (.iaload, 1) := by decide +kernel
theorem dX11_line_100 : decode cX11_line 100 = .ok (.iconst 1, 1) := by decide +kernel
theorem dX11_line_101 : decode cX11_line 101 = .ok (.if_icmp .ne 9, 3) := by decide +kernel
theorem dX11_line_104 : decode cX11_line 104 = .ok (.aload_n 0, 1) := by decide +kernel
theorem dX11_line_105 : decode cX11_line 105 = .ok (.bipush 43, 2) := by decide +kernel
theorem dX11_line_107 : decode cX11_line 107 = .ok (.invokevirtual 224, 3) := by decide +kernel
theorem dX11_line_110 : decode cX11_line 110 = .ok (.aload_n 0, 1) := by decide +kernel
theorem dX11_line_111 : decode cX11_line 111 = .ok (.getfield 7, 3) := by decide +kernel
theorem dX11_line_114 : decode cX11_line 114 = .ok (.bipush 50, 2) := by decide +kernel
theorem dX11_line_116 : decode cX11_line 116 = .ok (.iload_n 1, 1) := by decide +kernel
theorem dX11_line_117 : decode cX11_line 117 = .ok (.iadd, 1) := by decide +kernel
theorem dX11_line_118 : decode cX11_line 118 = .ok (.iaload, 1) := by decide +kernel
theorem dX11_line_119 : decode cX11_line 119 = .ok (.iload_n 2, 1) := by decide +kernel
theorem dX11_line_120 : decode cX11_line 120 = .ok (.ishr, 1) := by decide +kernel
theorem dX11_line_121 : decode cX11_line 121 = .ok (.iconst 1, 1) := by decide +kernel
theorem dX11_line_122 : decode cX11_line 122 = .ok (.iand, 1) := by decide +kernel
theorem dX11_line_123 : decode cX11_line 123 = .ok (.iconst 1, 1) := by decide +kernel
theorem dX11_line_124 : decode cX11_line 124 = .ok (.if_icmp .ne 9, 3) := by decide +kernel
theorem dX11_line_127 : decode cX11_line 127 = .ok (.aload_n 0, 1) := by decide +kernel
theorem dX11_line_128 : decode cX11_line 128 = .ok (.bipush 63, 2) := by decide +kernel
theorem dX11_line_130 : decode cX11_line 130 = .ok (.invokevirtual 224, 3) := by decide +kernel
theorem dX11_line_133 : decode cX11_line 133 = .ok (.iload_n 2, 1) := by decide +kernel
theorem dX11_line_134 : decode cX11_line 134 = .ok (.aload_n 0, 1) := by decide +kernel
theorem dX11_line_135 : decode cX11_line 135 = .ok (.iload_n 1, 1) := by decide +kernel
theorem dX11_line_136 : decode cX11_line 136 = .ok (.invokevirtual 115, 3) := by decide +kernel
theorem dX11_line_139 : decode cX11_line 139 = .ok (.iconst 1, 1) := by decide +kernel
theorem dX11_line_140 : decode cX11_line 140 = .ok (.isub, 1) := by decide +kernel
theorem dX11_line_141 : decode cX11_line 141 = .ok (.if_icmp .ne 24, 3) := by decide +kernel
theorem dX11_line_144 : decode cX11_line 144 = .ok (.iload_n 2, 1) := by decide +kernel
theorem dX11_line_145 : decode cX11_line 145 = .ok (.aload_n 0, 1) := by decide +kernel
theorem dX11_line_146 : decode cX11_line 146 = .ok (.getfield 7, 3) := by decide +kernel
theorem dX11_line_149 : decode cX11_line 149 = .ok (.bipush 18, 2) := by decide +kernel
theorem dX11_line_151 : decode cX11_line 151 = .ok (.iload_n 1, 1) := by decide +kernel
theorem dX11_line_152 : decode cX11_line 152 = .ok (.iadd, 1) := by decide +kernel
theorem dX11_line_153 : decode cX11_line 153 = .ok (.iaload, 1) := by decide +kernel
theorem dX11_line_154 : decode cX11_line 154 = .ok (.iconst 1, 1) := by decide +kernel
theorem dX11_line_155 : decode cX11_line 155 = .ok (.isub, 1) := by decide +kernel
theorem dX11_line_156 : decode cX11_line 156 = .ok (.if_icmp .ge 9, 3) := by decide +kernel
theorem dX11_line_159 : decode cX11_line 159 = .ok (.aload_n 0, 1) := by decide +kernel
theorem dX11_line_160 : decode cX11_line 160 = .ok (.bipush 47, 2) := by decide +kernel
theorem dX11_line_162 : decode cX11_line 162 = .ok (.invokevirtual 224, 3) := by decide +kernel
theorem dX11_line_165 : decode cX11_line 165 = .ok (.iinc 2 1, 3) := by decide +kernel
theorem dX11_line_168 : decode cX11_line 168 = .ok (.goto (-147), 3) := by decide +kernel
theorem dX11_line_171 : decode cX11_line 171 = .ok (.aload_n 0, 1) := by decide +kernel
theorem dX11_line_172 : decode cX11_line 172 = .ok (.aload_n 0, 1) := by decide +kernel
theorem dX11_line_173 : decode cX11_line 173 = .ok (.getfield 221, 3) := by decide +kernel
theorem dX11_line_176 : decode cX11_line 176 = .ok (.invokevirtual 94, 3) := by decide +kernel
theorem dX11_line_179 : decode cX11_line 179 = .ok (.ireturn, 1) := by decide +kernel
set_option maxRecDepth 20000 in
theorem ggX11_character_X11_in : GoodIn wsX11_character wsX11_in := goodIn_r _ [7] (by decide +kernel) (by decide +kernel)
set_option maxRecDepth 20000 in
theorem gX11_character_X11_in : GoodIn wsX11_character (va_wsS RX11 62 yX11_in wsX11_in) := goodIn_app (goodIn_of _ (by decide +kernel)) ggX11_character_X11_in
theorem dX11_character_0 : decode cX11_character 0 = .ok (.aload_n 0, 1) := by decide +kernel
theorem dX11_character_1 : decode cX11_character 1 = .ok (.iload_n 1, 1) := by decide +kernel
theorem dX11_character_2 : decode cX11_character 2 = .ok (.iconst 0, 1) := by decide +kernel
theorem dX11_character_3 : decode cX11_character 3 = .ok (.aload_n 0, 1) := by decide +kernel
theorem dX11_character_4 : decode cX11_character 4 = .ok (.getfield 221, 3) := by decide +kernel
theorem dX11_character_7 : decode cX11_character 7 = .ok (.iconst 1, 1) := by decide +kernel
theorem dX11_character_8 : decode cX11_character 8 = .ok (.isub, 1) := by decide +kernel
theorem dX11_character_9 : decode cX11_character 9 = .ok (.invokestatic 62, 3) := by decide +kernel
theorem dX11_character_12 : decode cX11_character 12 = .ok (.ifCond .eq 7, 3) := by decide +kernel
theorem dX11_character_15 : decode cX11_character 15 = .ok (.iconst 0, 1) := by decide +kernel
theorem dX11_character_16 : decode cX11_character 16 = .ok (.goto 4, 3) := by decide +kernel
theorem dX11_character_19 : decode cX11_character 19 = .ok (.iconst 1, 1) := by decide +kernel
theorem dX11_character_20 : decode cX11_character 20 = .ok (.putfield 39, 3) := by decide +kernel
theorem dX11_character_23 : decode cX11_character 23 = .ok (.aload_n 0, 1) := by decide +kernel
theorem dX11_character_24 : decode cX11_character 24 = .ok (.getfield 39, 3) := by decide +kernel
theorem dX11_character_27 : decode cX11_character 27 = .ok (.ifCond .ne 12, 3) := by decide +kernel
theorem dX11_character_30 : decode cX11_character 30 = .ok (.aload_n 0, 1) := by decide +kernel
theorem dX11_character_31 : decode cX11_character 31 = .ok (.getfield 30, 3) := by decide +kernel
theorem dX11_character_34 : decode cX11_character 34 = .ok (.iload_n 1, 1) := by decide +kernel
theorem dX11_character_35 : decode cX11_character 35 = .ok (.caload, 1) := by decide +kernel
theorem dX11_character_36 : decode cX11_character 36 = .ok (.goto 4, 3) := by decide +kernel
theorem dX11_character_39 : decode cX11_character 39 = .ok (.iconst 0, 1) := by decide +kernel
theorem dX11_character_40 : decode cX11_character 40 = .ok (.ireturn, 1) := by decide +kernel
theorem dX11_sum_0 : decode cX11_sum 0 = .ok (.iconst 0, 1) := by decide +kernel
theorem dX11_sum_1 : decode cX11_sum 1 = .ok (.istore_n 3, 1) := by decide +kernel
theorem dX11_sum_2 : decode cX11_sum 2 = .ok (.iconst 0, 1) := by decide +kernel
theorem dX11_sum_3 : decode cX11_sum 3 = .ok (.istore 4, 2) := by decide +kernel
theorem dX11_sum_5 : decode cX11_sum 5 = .ok (.iload 4, 2) := by decide +kernel
theorem dX11_sum_7 : decode cX11_sum 7 = .ok (.iload_n 2, 1) := by decide +kernel
theorem dX11_sum_8 : decode cX11_sum 8 = .ok (.if_icmp .ge 21, 3) := by decide +kernel
theorem dX11_sum_11 : decode cX11_sum 11 = .ok (.iload_n 3, 1) := by decide +kernel
theorem dX11_sum_12 : decode cX11_sum 12 = .ok (.aload_n 0, 1) := by decide +kernel
theorem dX11_sum_13 : decode cX11_sum 13 = .ok (.getfield 7, 3) := by decide +kernel
theorem dX11_sum_16 : decode cX11_sum 16 = .ok (.iload_n 1, 1) := by decide +kernel
theorem dX11_sum_17 : decode cX11_sum 17 = .ok (.iload 4, 2) := by decide +kernel
theorem dX11_sum_19 : decode cX11_sum 19 = .ok (.iadd, 1) := by decide +kernel
theorem dX11_sum_20 : decode cX11_sum 20 = .ok (.iaload, 1) := by decide +kernel
theorem dX11_sum_21 : decode cX11_sum 21 = .ok (.iadd, 1) := by decide +kernel
theorem dX11_sum_22 : decode cX11_sum 22 = .ok (.istore_n 3, 1) := by decide +kernel
theorem dX11_sum_23 : decode cX11_sum 23 = .ok (.iinc 4 1, 3) := by decide +kernel
theorem dX11_sum_26 : decode cX11_sum 26 = .ok (.goto (-21), 3) := by decide +kernel
theorem dX11_sum_29 : decode cX11_sum 29 = .ok (.iload_n 3, 1) := by decide +kernel
theorem dX11_sum_30 : decode cX11_sum 30 = .ok (.ireturn, 1) := by decide +kernel
set_option maxRecDepth 20000 in
theorem ggX11_meanSteps_X11_sum : GoodIn wsX11_meanSteps wsX11_sum := goodIn_ca (goodIn_r _ [7, 1, 8, 9, 10, 11, 12, 13, 14, 15, 16, 17, 18, 19, 20, 21, 22, 23, 24, 25, 26] (by decide +kernel) (by decide +kernel)) (goodIn_sub (fun _ h => List.mem_cons_of_mem _ (List.mem_append_right _ h)) (by decide +kernel))
set_option maxRecDepth 20000 in
theorem gX11_meanSteps_X11_sum : GoodIn wsX11_meanSteps (wsV RX11 227 RX11 yX11_sum wsX11_sum) := goodIn_app (goodIn_of _ (by decide +kernel)) ggX11_meanSteps_X11_sum
theorem dX11_meanSteps_0 : decode cX11_meanSteps 0 = .ok (.aload_n 0, 1) := by decide +kernel
theorem dX11_meanSteps_1 : decode cX11_meanSteps 1 = .ok (.aload_n 0, 1) := by decide +kernel
theorem dX11_meanSteps_2 : decode cX11_meanSteps 2 = .ok (.getfield 7, 3) := by decide +kernel
theorem dX11_meanSteps_5 : decode cX11_meanSteps 5 = .ok (.iconst 0, 1) := by decide +kernel
theorem dX11_meanSteps_6 : decode cX11_meanSteps 6 = .ok (.iaload, 1) := by decide +kernel
theorem dX11_meanSteps_7 : decode cX11_meanSteps 7 = .ok (.ifCond .ne 7, 3) := by decide +kernel
theorem dX11_meanSteps_10 : decode cX11_meanSteps 10 = .ok (.iconst 1, 1) := by decide +kernel
theorem dX11_meanSteps_11 : decode cX11_meanSteps 11 = .ok (.goto 4, 3) := by decide +kernel
theorem dX11_meanSteps_14 : decode cX11_meanSteps 14 = .ok (.iconst 0, 1) := by decide +kernel
theorem dX11_meanSteps_15 : decode cX11_meanSteps 15 = .ok (.putfield 39, 3) := by decide +kernel
theorem dX11_meanSteps_18 : decode cX11_meanSteps 18 = .ok (.aload_n 0, 1) := by decide +kernel
theorem dX11_meanSteps_19 : decode cX11_meanSteps 19 = .ok (.getfield 39, 3) := by decide +kernel
theorem dX11_meanSteps_22 : decode cX11_meanSteps 22 = .ok (.ifCond .ne 23, 3) := by decide +kernel
theorem dX11_meanSteps_25 : decode cX11_meanSteps 25 = .ok (.aload_n 0, 1) := by decide +kernel
theorem dX11_meanSteps_26 : decode cX11_meanSteps 26 = .ok (.bipush 18, 2) := by decide +kernel
theorem dX11_meanSteps_28 : decode cX11_meanSteps 28 = .ok (.bipush 8, 2) := by decide +kernel
theorem dX11_meanSteps_30 : decode cX11_meanSteps 30 = .ok (.invokevirtual 227, 3) := by decide +kernel
theorem dX11_meanSteps_33 : decode cX11_meanSteps 33 = .ok (.i2d, 1) := by decide +kernel
theorem dX11_meanSteps_34 : decode cX11_meanSteps 34 = .ok (.aload_n 0, 1) := by decide +kernel
theorem dX11_meanSteps_35 : decode cX11_meanSteps 35 = .ok (.getfield 7, 3) := by decide +kernel
theorem dX11_meanSteps_38 : decode cX11_meanSteps 38 = .ok (.iconst 0, 1) := by decide +kernel
theorem dX11_meanSteps_39 : decode cX11_meanSteps 39 = .ok (.iaload, 1) := by decide +kernel
theorem dX11_meanSteps_40 : decode cX11_meanSteps 40 = .ok (.i2d, 1) := by decide +kernel
theorem dX11_meanSteps_41 : decode cX11_meanSteps 41 = .ok (.ddiv, 1) := by decide +kernel
theorem dX11_meanSteps_42 : decode cX11_meanSteps 42 = .ok (.goto 4, 3) := by decide +kernel
theorem dX11_meanSteps_45 : decode cX11_meanSteps 45 = .ok (.dconst 0, 1) := by decide +kernel
theorem dX11_meanSteps_46 : decode cX11_meanSteps 46 = .ok (.dreturn, 1) := by decide +kernel
set_option maxRecDepth 20000 in
theorem ggX11_skippedShare_X11_bits : GoodIn wsX11_skippedShare wsX11_bits := goodIn_r _ [6] (by decide +kernel) (by decide +kernel)
set_option maxRecDepth 20000 in
theorem gX11_skippedShare_X11_bits : GoodIn wsX11_skippedShare (va_wsS RX11 91 yX11_bits wsX11_bits) := goodIn_app (goodIn_of _ (by decide +kernel)) ggX11_skippedShare_X11_bits
theorem dX11_skippedShare_0 : decode cX11_skippedShare 0 = .ok (.iconst 0, 1) := by decide +kernel
theorem dX11_skippedShare_1 : decode cX11_skippedShare 1 = .ok (.istore_n 1, 1) := by decide +kernel
theorem dX11_skippedShare_2 : decode cX11_skippedShare 2 = .ok (.iconst 0, 1) := by decide +kernel
theorem dX11_skippedShare_3 : decode cX11_skippedShare 3 = .ok (.istore_n 2, 1) := by decide +kernel
theorem dX11_skippedShare_4 : decode cX11_skippedShare 4 = .ok (.iconst 0, 1) := by decide +kernel
theorem dX11_skippedShare_5 : decode cX11_skippedShare 5 = .ok (.istore_n 3, 1) := by decide +kernel
theorem dX11_skippedShare_6 : decode cX11_skippedShare 6 = .ok (.iload_n 3, 1) := by decide +kernel
theorem dX11_skippedShare_7 : decode cX11_skippedShare 7 = .ok (.aload_n 0, 1) := by decide +kernel
theorem dX11_skippedShare_8 : decode cX11_skippedShare 8 = .ok (.getfield 7, 3) := by decide +kernel
theorem dX11_skippedShare_11 : decode cX11_skippedShare 11 = .ok (.iconst 0, 1) := by decide +kernel
theorem dX11_skippedShare_12 : decode cX11_skippedShare 12 = .ok (.iaload, 1) := by decide +kernel
theorem dX11_skippedShare_13 : decode cX11_skippedShare 13 = .ok (.if_icmp .ge 52, 3) := by decide +kernel
theorem dX11_skippedShare_16 : decode cX11_skippedShare 16 = .ok (.iload_n 1, 1) := by decide +kernel
theorem dX11_skippedShare_17 : decode cX11_skippedShare 17 = .ok (.aload_n 0, 1) := by decide +kernel
theorem dX11_skippedShare_18 : decode cX11_skippedShare 18 = .ok (.getfield 7, 3) := by decide +kernel
theorem dX11_skippedShare_21 : decode cX11_skippedShare 21 = .ok (.bipush 42, 2) := by decide +kernel
theorem dX11_skippedShare_23 : decode cX11_skippedShare 23 = .ok (.iload_n 3, 1) := by decide +kernel
theorem dX11_skippedShare_24 : decode cX11_skippedShare 24 = .ok (.iadd, 1) := by decide +kernel
theorem dX11_skippedShare_25 : decode cX11_skippedShare 25 = .ok (.iaload, 1) := by decide +kernel
theorem dX11_skippedShare_26 : decode cX11_skippedShare 26 = .ok (.ifCond .ne 7, 3) := by decide +kernel
theorem dX11_skippedShare_29 : decode cX11_skippedShare 29 = .ok (.iconst 0, 1) := by decide +kernel
theorem dX11_skippedShare_30 : decode cX11_skippedShare 30 = .ok (.goto 12, 3) := by decide +kernel
theorem dX11_skippedShare_33 : decode cX11_skippedShare 33 = .ok (.aload_n 0, 1) := by decide +kernel
theorem dX11_skippedShare_34 : decode cX11_skippedShare 34 = .ok (.getfield 7, 3) := by decide +kernel
theorem dX11_skippedShare_37 : decode cX11_skippedShare 37 = .ok (.bipush 18, 2) := by decide +kernel
theorem dX11_skippedShare_39 : decode cX11_skippedShare 39 = .ok (.iload_n 3, 1) := by decide +kernel
theorem dX11_skippedShare_40 : decode cX11_skippedShare 40 = .ok (.iadd, 1) := by decide +kernel
theorem dX11_skippedShare_41 : decode cX11_skippedShare 41 = .ok (.iaload, 1) := by decide +kernel
theorem dX11_skippedShare_42 : decode cX11_skippedShare 42 = .ok (.iadd, 1) := by decide +kernel
theorem dX11_skippedShare_43 : decode cX11_skippedShare 43 = .ok (.istore_n 1, 1) := by decide +kernel
theorem dX11_skippedShare_44 : decode cX11_skippedShare 44 = .ok (.iload_n 2, 1) := by decide +kernel
theorem dX11_skippedShare_45 : decode cX11_skippedShare 45 = .ok (.aload_n 0, 1) := by decide +kernel
theorem dX11_skippedShare_46 : decode cX11_skippedShare 46 = .ok (.getfield 7, 3) := by decide +kernel
theorem dX11_skippedShare_49 : decode cX11_skippedShare 49 = .ok (.bipush 50, 2) := by decide +kernel
theorem dX11_skippedShare_51 : decode cX11_skippedShare 51 = .ok (.iload_n 3, 1) := by decide +kernel
theorem dX11_skippedShare_52 : decode cX11_skippedShare 52 = .ok (.iadd, 1) := by decide +kernel
theorem dX11_skippedShare_53 : decode cX11_skippedShare 53 = .ok (.iaload, 1) := by decide +kernel
theorem dX11_skippedShare_54 : decode cX11_skippedShare 54 = .ok (.invokestatic 91, 3) := by decide +kernel
theorem dX11_skippedShare_57 : decode cX11_skippedShare 57 = .ok (.iadd, 1) := by decide +kernel
theorem dX11_skippedShare_58 : decode cX11_skippedShare 58 = .ok (.istore_n 2, 1) := by decide +kernel
theorem dX11_skippedShare_59 : decode cX11_skippedShare 59 = .ok (.iinc 3 1, 3) := by decide +kernel
theorem dX11_skippedShare_62 : decode cX11_skippedShare 62 = .ok (.goto (-56), 3) := by decide +kernel
theorem dX11_skippedShare_65 : decode cX11_skippedShare 65 = .ok (.aload_n 0, 1) := by decide +kernel
theorem dX11_skippedShare_66 : decode cX11_skippedShare 66 = .ok (.iload_n 1, 1) := by decide +kernel
theorem dX11_skippedShare_67 : decode cX11_skippedShare 67 = .ok (.ifCond .ne 7, 3) := by decide +kernel
theorem dX11_skippedShare_70 : decode cX11_skippedShare 70 = .ok (.iconst 1, 1) := by decide +kernel
theorem dX11_skippedShare_71 : decode cX11_skippedShare 71 = .ok (.goto 4, 3) := by decide +kernel
theorem dX11_skippedShare_74 : decode cX11_skippedShare 74 = .ok (.iconst 0, 1) := by decide +kernel
theorem dX11_skippedShare_75 : decode cX11_skippedShare 75 = .ok (.putfield 39, 3) := by decide +kernel
theorem dX11_skippedShare_78 : decode cX11_skippedShare 78 = .ok (.aload_n 0, 1) := by decide +kernel
theorem dX11_skippedShare_79 : decode cX11_skippedShare 79 = .ok (.getfield 39, 3) := by decide +kernel
theorem dX11_skippedShare_82 : decode cX11_skippedShare 82 = .ok (.ifCond .ne 11, 3) := by decide +kernel
theorem dX11_skippedShare_85 : decode cX11_skippedShare 85 = .ok (.iload_n 2, 1) := by decide +kernel
theorem dX11_skippedShare_86 : decode cX11_skippedShare 86 = .ok (.i2f, 1) := by decide +kernel
theorem dX11_skippedShare_87 : decode cX11_skippedShare 87 = .ok (.iload_n 1, 1) := by decide +kernel
theorem dX11_skippedShare_88 : decode cX11_skippedShare 88 = .ok (.i2f, 1) := by decide +kernel
theorem dX11_skippedShare_89 : decode cX11_skippedShare 89 = .ok (.fdiv, 1) := by decide +kernel
theorem dX11_skippedShare_90 : decode cX11_skippedShare 90 = .ok (.goto 4, 3) := by decide +kernel
theorem dX11_skippedShare_93 : decode cX11_skippedShare 93 = .ok (.fconst 0, 1) := by decide +kernel
theorem dX11_skippedShare_94 : decode cX11_skippedShare 94 = .ok (.freturn, 1) := by decide +kernel
theorem dX11_builtOnes_0 : decode cX11_builtOnes 0 = .ok (.iconst 0, 1) := by decide +kernel
theorem dX11_builtOnes_1 : decode cX11_builtOnes 1 = .ok (.istore_n 1, 1) := by decide +kernel
theorem dX11_builtOnes_2 : decode cX11_builtOnes 2 = .ok (.iconst 0, 1) := by decide +kernel
theorem dX11_builtOnes_3 : decode cX11_builtOnes 3 = .ok (.istore_n 2, 1) := by decide +kernel
theorem dX11_builtOnes_4 : decode cX11_builtOnes 4 = .ok (.iload_n 2, 1) := by decide +kernel
theorem dX11_builtOnes_5 : decode cX11_builtOnes 5 = .ok (.aload_n 0, 1) := by decide +kernel
theorem dX11_builtOnes_6 : decode cX11_builtOnes 6 = .ok (.getfield 7, 3) := by decide +kernel
theorem dX11_builtOnes_9 : decode cX11_builtOnes 9 = .ok (.iconst 0, 1) := by decide +kernel
theorem dX11_builtOnes_10 : decode cX11_builtOnes 10 = .ok (.iaload, 1) := by decide +kernel
theorem dX11_builtOnes_11 : decode cX11_builtOnes 11 = .ok (.if_icmp .ge 29, 3) := by decide +kernel
theorem dX11_builtOnes_14 : decode cX11_builtOnes 14 = .ok (.iload_n 1, 1) := by decide +kernel
theorem dX11_builtOnes_15 : decode cX11_builtOnes 15 = .ok (.aload_n 0, 1) := by decide +kernel
theorem dX11_builtOnes_16 : decode cX11_builtOnes 16 = .ok (.getfield 7, 3) := by decide +kernel
theorem dX11_builtOnes_19 : decode cX11_builtOnes 19 = .ok (.bipush 42, 2) := by decide +kernel
theorem dX11_builtOnes_21 : decode cX11_builtOnes 21 = .ok (.iload_n 2, 1) := by decide +kernel
theorem dX11_builtOnes_22 : decode cX11_builtOnes 22 = .ok (.iadd, 1) := by decide +kernel
theorem dX11_builtOnes_23 : decode cX11_builtOnes 23 = .ok (.iaload, 1) := by decide +kernel
theorem dX11_builtOnes_24 : decode cX11_builtOnes 24 = .ok (.ifCond .ne 7, 3) := by decide +kernel
theorem dX11_builtOnes_27 : decode cX11_builtOnes 27 = .ok (.iconst 0, 1) := by decide +kernel
theorem dX11_builtOnes_28 : decode cX11_builtOnes 28 = .ok (.goto 4, 3) := by decide +kernel
theorem dX11_builtOnes_31 : decode cX11_builtOnes 31 = .ok (.iconst 1, 1) := by decide +kernel
theorem dX11_builtOnes_32 : decode cX11_builtOnes 32 = .ok (.iadd, 1) := by decide +kernel
theorem dX11_builtOnes_33 : decode cX11_builtOnes 33 = .ok (.istore_n 1, 1) := by decide +kernel
theorem dX11_builtOnes_34 : decode cX11_builtOnes 34 = .ok (.iinc 2 1, 3) := by decide +kernel
theorem dX11_builtOnes_37 : decode cX11_builtOnes 37 = .ok (.goto (-33), 3) := by decide +kernel
theorem dX11_builtOnes_40 : decode cX11_builtOnes 40 = .ok (.iload_n 1, 1) := by decide +kernel
theorem dX11_builtOnes_41 : decode cX11_builtOnes 41 = .ok (.ireturn, 1) := by decide +kernel
set_option maxRecDepth 20000 in
theorem ggX11_account_X11_done : GoodIn wsX11_account wsX11_done := goodIn_r _ [8, 9, 22, 23, 24, 25, 26, 27, 28, 29, 30, 31, 32, 33, 34, 35, 36, 37, 38, 39, 40] (by decide +kernel) (by decide +kernel)
set_option maxRecDepth 20000 in
theorem gX11_account_X11_done : GoodIn wsX11_account (wsV RX11 94 RX11 yX11_done wsX11_done) := goodIn_app (goodIn_of _ (by decide +kernel)) ggX11_account_X11_done
set_option maxRecDepth 20000 in
theorem ggX11_account_X11_sum : GoodIn wsX11_account wsX11_sum := goodIn_ca (goodIn_r _ [13, 1, 22, 23, 24, 25, 26, 27, 28, 29, 30, 31, 32, 33, 34, 35, 36, 37, 38, 39, 40] (by decide +kernel) (by decide +kernel)) (goodIn_sub (fun _ h => List.mem_cons_of_mem _ (List.mem_append_right _ h)) (by decide +kernel))
set_option maxRecDepth 20000 in
theorem gX11_account_X11_sum : GoodIn wsX11_account (wsV RX11 227 RX11 yX11_sum wsX11_sum) := goodIn_app (goodIn_of _ (by decide +kernel)) ggX11_account_X11_sum
set_option maxRecDepth 20000 in
theorem ggX11_account_X11_builtOnes : GoodIn wsX11_account wsX11_builtOnes := goodIn_ca (goodIn_r _ [17, 1, 22, 23, 24, 25, 26, 27, 28, 29, 30, 31, 32, 33, 34, 35, 36, 37, 38, 39, 40] (by decide +kernel) (by decide +kernel)) (goodIn_sub (fun _ h => List.mem_cons_of_mem _ (List.mem_append_right _ h)) (by decide +kernel))
set_option maxRecDepth 20000 in
theorem gX11_account_X11_builtOnes : GoodIn wsX11_account (wsV RX11 230 RX11 yX11_builtOnes wsX11_builtOnes) := goodIn_app (goodIn_of _ (by decide +kernel)) ggX11_account_X11_builtOnes
set_option maxRecDepth 20000 in
theorem ggX11_account_X11_fails : GoodIn wsX11_account wsX11_fails := goodIn_r _ [21, 9, 22, 23, 24, 25, 26, 27, 28, 29, 30, 31, 32, 33, 34, 35, 36, 37, 38, 39, 40] (by decide +kernel) (by decide +kernel)
set_option maxRecDepth 20000 in
theorem gX11_account_X11_fails : GoodIn wsX11_account (wsV RX11 51 RX11 yX11_fails wsX11_fails) := goodIn_app (goodIn_of _ (by decide +kernel)) ggX11_account_X11_fails
theorem dX11_account_0 : decode cX11_account 0 = .ok (.iload_n 1, 1) := by decide +kernel
theorem dX11_account_1 : decode cX11_account 1 = .ok (.tableswitch 138 0 10 #[59, 59, 70, 83, 92, 105, 105, 105, 105, 120, 129], 59) := by decide +kernel
theorem dX11_account_60 : decode cX11_account 60 = .ok (.aload_n 0, 1) := by decide +kernel
theorem dX11_account_61 : decode cX11_account 61 = .ok (.aload_n 0, 1) := by decide +kernel
theorem dX11_account_62 : decode cX11_account 62 = .ok (.getfield 7, 3) := by decide +kernel
theorem dX11_account_65 : decode cX11_account 65 = .ok (.iload_n 1, 1) := by decide +kernel
theorem dX11_account_66 : decode cX11_account 66 = .ok (.iaload, 1) := by decide +kernel
theorem dX11_account_67 : decode cX11_account 67 = .ok (.invokevirtual 94, 3) := by decide +kernel
theorem dX11_account_70 : decode cX11_account 70 = .ok (.ireturn, 1) := by decide +kernel
theorem dX11_account_71 : decode cX11_account 71 = .ok (.aload_n 0, 1) := by decide +kernel
theorem dX11_account_72 : decode cX11_account 72 = .ok (.aload_n 0, 1) := by decide +kernel
theorem dX11_account_73 : decode cX11_account 73 = .ok (.bipush 18, 2) := by decide +kernel
theorem dX11_account_75 : decode cX11_account 75 = .ok (.bipush 8, 2) := by decide +kernel
theorem dX11_account_77 : decode cX11_account 77 = .ok (.invokevirtual 227, 3) := by decide +kernel
theorem dX11_account_80 : decode cX11_account 80 = .ok (.invokevirtual 94, 3) := by decide +kernel
theorem dX11_account_83 : decode cX11_account 83 = .ok (.ireturn, 1) := by decide +kernel
theorem dX11_account_84 : decode cX11_account 84 = .ok (.aload_n 0, 1) := by decide +kernel
theorem dX11_account_85 : decode cX11_account 85 = .ok (.aload_n 0, 1) := by decide +kernel
theorem dX11_account_86 : decode cX11_account 86 = .ok (.invokevirtual 230, 3) := by decide +kernel
theorem dX11_account_89 : decode cX11_account 89 = .ok (.invokevirtual 94, 3) := by decide +kernel
theorem dX11_account_92 : decode cX11_account 92 = .ok (.ireturn, 1) := by decide +kernel
theorem dX11_account_93 : decode cX11_account 93 = .ok (.aload_n 0, 1) := by decide +kernel
theorem dX11_account_94 : decode cX11_account 94 = .ok (.aload_n 0, 1) := by decide +kernel
theorem dX11_account_95 : decode cX11_account 95 = .ok (.bipush 6, 2) := by decide +kernel
theorem dX11_account_97 : decode cX11_account 97 = .ok (.bipush 6, 2) := by decide +kernel
theorem dX11_account_99 : decode cX11_account 99 = .ok (.invokevirtual 227, 3) := by decide +kernel
theorem dX11_account_102 : decode cX11_account 102 = .ok (.invokevirtual 94, 3) := by decide +kernel
theorem dX11_account_105 : decode cX11_account 105 = .ok (.ireturn, 1) := by decide +kernel
theorem dX11_account_106 : decode cX11_account 106 = .ok (.aload_n 0, 1) := by decide +kernel
theorem dX11_account_107 : decode cX11_account 107 = .ok (.aload_n 0, 1) := by decide +kernel
theorem dX11_account_108 : decode cX11_account 108 = .ok (.getfield 7, 3) := by decide +kernel
theorem dX11_account_111 : decode cX11_account 111 = .ok (.iconst 2, 1) := by decide +kernel
theorem dX11_account_112 : decode cX11_account 112 = .ok (.iload_n 1, 1) := by decide +kernel
theorem dX11_account_113 : decode cX11_account 113 = .ok (.iadd, 1) := by decide +kernel
theorem dX11_account_114 : decode cX11_account 114 = .ok (.iconst 5, 1) := by decide +kernel
theorem dX11_account_115 : decode cX11_account 115 = .ok (.isub, 1) := by decide +kernel
theorem dX11_account_116 : decode cX11_account 116 = .ok (.iaload, 1) := by decide +kernel
theorem dX11_account_117 : decode cX11_account 117 = .ok (.invokevirtual 94, 3) := by decide +kernel
theorem dX11_account_120 : decode cX11_account 120 = .ok (.ireturn, 1) := by decide +kernel
theorem dX11_account_121 : decode cX11_account 121 = .ok (.aload_n 0, 1) := by decide +kernel
theorem dX11_account_122 : decode cX11_account 122 = .ok (.aload_n 0, 1) := by decide +kernel
theorem dX11_account_123 : decode cX11_account 123 = .ok (.getfield 59, 3) := by decide +kernel
theorem dX11_account_126 : decode cX11_account 126 = .ok (.invokevirtual 94, 3) := by decide +kernel
theorem dX11_account_129 : decode cX11_account 129 = .ok (.ireturn, 1) := by decide +kernel
theorem dX11_account_130 : decode cX11_account 130 = .ok (.aload_n 0, 1) := by decide +kernel
theorem dX11_account_131 : decode cX11_account 131 = .ok (.aload_n 0, 1) := by decide +kernel
theorem dX11_account_132 : decode cX11_account 132 = .ok (.getfield 189, 3) := by decide +kernel
theorem dX11_account_135 : decode cX11_account 135 = .ok (.invokevirtual 94, 3) := by decide +kernel
theorem dX11_account_138 : decode cX11_account 138 = .ok (.ireturn, 1) := by decide +kernel
theorem dX11_account_139 : decode cX11_account 139 = .ok (.aload_n 0, 1) := by decide +kernel
theorem dX11_account_140 : decode cX11_account 140 = .ok (.iconst 1, 1) := by decide +kernel
theorem dX11_account_141 : decode cX11_account 141 = .ok (.invokevirtual 51, 3) := by decide +kernel
theorem dX11_account_144 : decode cX11_account 144 = .ok (.ireturn, 1) := by decide +kernel
set_option maxRecDepth 20000 in
theorem ggX11_undo_X11_fails : GoodIn wsX11_undo wsX11_fails := goodIn_r _ [8, 9, 17, 18, 19, 20, 21, 22, 23, 24, 25, 26, 27, 28, 29, 30, 31, 32, 33, 34, 35] (by decide +kernel) (by decide +kernel)
set_option maxRecDepth 20000 in
theorem gX11_undo_X11_fails : GoodIn wsX11_undo (wsV RX11 51 RX11 yX11_fails wsX11_fails) := goodIn_app (goodIn_of _ (by decide +kernel)) ggX11_undo_X11_fails
set_option maxRecDepth 20000 in
theorem ggX11_undo_X11_copy : GoodIn wsX11_undo wsX11_copy := goodIn_ca (goodIn_r _ [12] (by decide +kernel) (by decide +kernel)) (goodIn_sub (fun _ h => List.mem_cons_of_mem _ (List.mem_append_right _ h)) (by decide +kernel))
set_option maxRecDepth 20000 in
theorem gX11_undo_X11_copy : GoodIn wsX11_undo (va_wsS RX11 55 yX11_copy wsX11_copy) := goodIn_app (goodIn_of _ (by decide +kernel)) ggX11_undo_X11_copy
set_option maxRecDepth 20000 in
theorem ggX11_undo_X11_done : GoodIn wsX11_undo wsX11_done := goodIn_r _ [16, 9, 17, 18, 19, 20, 21, 22, 23, 24, 25, 26, 27, 28, 29, 30, 31, 32, 33, 34, 35] (by decide +kernel) (by decide +kernel)
set_option maxRecDepth 20000 in
theorem gX11_undo_X11_done : GoodIn wsX11_undo (wsV RX11 94 RX11 yX11_done wsX11_done) := goodIn_app (goodIn_of _ (by decide +kernel)) ggX11_undo_X11_done
theorem dX11_undo_0 : decode cX11_undo 0 = .ok (.aload_n 0, 1) := by decide +kernel
theorem dX11_undo_1 : decode cX11_undo 1 = .ok (.getfield 59, 3) := by decide +kernel
theorem dX11_undo_4 : decode cX11_undo 4 = .ok (.ifCond .ne 9, 3) := by decide +kernel
theorem dX11_undo_7 : decode cX11_undo 7 = .ok (.aload_n 0, 1) := by decide +kernel
theorem dX11_undo_8 : decode cX11_undo 8 = .ok (.iconst 1, 1) := by decide +kernel
theorem dX11_undo_9 : decode cX11_undo 9 = .ok (.invokevirtual 51, 3) := by decide +kernel
theorem dX11_undo_12 : decode cX11_undo 12 = .ok (.ireturn, 1) := by decide +kernel
theorem dX11_undo_13 : decode cX11_undo 13 = .ok (.aload_n 0, 1) := by decide +kernel
theorem dX11_undo_14 : decode cX11_undo 14 = .ok (.dup, 1) := by decide +kernel
theorem dX11_undo_15 : decode cX11_undo 15 = .ok (.getfield 59, 3) := by decide +kernel
theorem dX11_undo_18 : decode cX11_undo 18 = .ok (.iconst 1, 1) := by decide +kernel
theorem dX11_undo_19 : decode cX11_undo 19 = .ok (.isub, 1) := by decide +kernel
theorem dX11_undo_20 : decode cX11_undo 20 = .ok (.putfield 59, 3) := by decide +kernel
theorem dX11_undo_23 : decode cX11_undo 23 = .ok (.aload_n 0, 1) := by decide +kernel
theorem dX11_undo_24 : decode cX11_undo 24 = .ok (.getfield 16, 3) := by decide +kernel
theorem dX11_undo_27 : decode cX11_undo 27 = .ok (.aload_n 0, 1) := by decide +kernel
theorem dX11_undo_28 : decode cX11_undo 28 = .ok (.getfield 59, 3) := by decide +kernel
theorem dX11_undo_31 : decode cX11_undo 31 = .ok (.sipush 324, 3) := by decide +kernel
theorem dX11_undo_34 : decode cX11_undo 34 = .ok (.imul, 1) := by decide +kernel
theorem dX11_undo_35 : decode cX11_undo 35 = .ok (.aload_n 0, 1) := by decide +kernel
theorem dX11_undo_36 : decode cX11_undo 36 = .ok (.getfield 7, 3) := by decide +kernel
theorem dX11_undo_39 : decode cX11_undo 39 = .ok (.iconst 0, 1) := by decide +kernel
theorem dX11_undo_40 : decode cX11_undo 40 = .ok (.invokestatic 55, 3) := by decide +kernel
theorem dX11_undo_43 : decode cX11_undo 43 = .ok (.aload_n 0, 1) := by decide +kernel
theorem dX11_undo_44 : decode cX11_undo 44 = .ok (.aload_n 0, 1) := by decide +kernel
theorem dX11_undo_45 : decode cX11_undo 45 = .ok (.getfield 59, 3) := by decide +kernel
theorem dX11_undo_48 : decode cX11_undo 48 = .ok (.invokevirtual 94, 3) := by decide +kernel
theorem dX11_undo_51 : decode cX11_undo 51 = .ok (.ireturn, 1) := by decide +kernel
set_option maxRecDepth 20000 in
theorem ggX11_save_X11_copy : GoodIn wsX11_save wsX11_copy := goodIn_ca (goodIn_r _ [7] (by decide +kernel) (by decide +kernel)) (goodIn_sub (fun _ h => List.mem_cons_of_mem _ (List.mem_append_right _ h)) (by decide +kernel))
set_option maxRecDepth 20000 in
theorem gX11_save_X11_copy : GoodIn wsX11_save (va_wsS RX11 55 yX11_copy wsX11_copy) := goodIn_app (goodIn_of _ (by decide +kernel)) ggX11_save_X11_copy
set_option maxRecDepth 20000 in
theorem ggX11_save_X11_done : GoodIn wsX11_save wsX11_done := goodIn_r _ [11, 12, 13, 14, 15, 16, 17, 18, 19, 20, 21, 22, 23, 24, 25, 26, 27, 28, 29, 30, 31] (by decide +kernel) (by decide +kernel)
set_option maxRecDepth 20000 in
theorem gX11_save_X11_done : GoodIn wsX11_save (wsV RX11 94 RX11 yX11_done wsX11_done) := goodIn_app (goodIn_of _ (by decide +kernel)) ggX11_save_X11_done
theorem dX11_save_0 : decode cX11_save 0 = .ok (.aload_n 0, 1) := by decide +kernel
theorem dX11_save_1 : decode cX11_save 1 = .ok (.getfield 7, 3) := by decide +kernel
theorem dX11_save_4 : decode cX11_save 4 = .ok (.iconst 0, 1) := by decide +kernel
theorem dX11_save_5 : decode cX11_save 5 = .ok (.aload_n 0, 1) := by decide +kernel
theorem dX11_save_6 : decode cX11_save 6 = .ok (.getfield 19, 3) := by decide +kernel
theorem dX11_save_9 : decode cX11_save 9 = .ok (.iconst 0, 1) := by decide +kernel
theorem dX11_save_10 : decode cX11_save 10 = .ok (.invokestatic 55, 3) := by decide +kernel
theorem dX11_save_13 : decode cX11_save 13 = .ok (.aload_n 0, 1) := by decide +kernel
theorem dX11_save_14 : decode cX11_save 14 = .ok (.iconst 1, 1) := by decide +kernel
theorem dX11_save_15 : decode cX11_save 15 = .ok (.putfield 233, 3) := by decide +kernel
theorem dX11_save_18 : decode cX11_save 18 = .ok (.aload_n 0, 1) := by decide +kernel
theorem dX11_save_19 : decode cX11_save 19 = .ok (.aload_n 0, 1) := by decide +kernel
theorem dX11_save_20 : decode cX11_save 20 = .ok (.getfield 7, 3) := by decide +kernel
theorem dX11_save_23 : decode cX11_save 23 = .ok (.iconst 0, 1) := by decide +kernel
theorem dX11_save_24 : decode cX11_save 24 = .ok (.iaload, 1) := by decide +kernel
theorem dX11_save_25 : decode cX11_save 25 = .ok (.invokevirtual 94, 3) := by decide +kernel
theorem dX11_save_28 : decode cX11_save 28 = .ok (.ireturn, 1) := by decide +kernel
set_option maxRecDepth 20000 in
theorem ggX11_restore_X11_fails : GoodIn wsX11_restore wsX11_fails := goodIn_r _ [9, 10, 18, 19, 20, 21, 22, 23, 24, 25, 26, 27, 28, 29, 30, 31, 32, 33, 34, 35, 36] (by decide +kernel) (by decide +kernel)
set_option maxRecDepth 20000 in
theorem gX11_restore_X11_fails : GoodIn wsX11_restore (wsV RX11 51 RX11 yX11_fails wsX11_fails) := goodIn_app (goodIn_of _ (by decide +kernel)) ggX11_restore_X11_fails
set_option maxRecDepth 20000 in
theorem ggX11_restore_X11_copy : GoodIn wsX11_restore wsX11_copy := goodIn_ca (goodIn_r _ [13] (by decide +kernel) (by decide +kernel)) (goodIn_sub (fun _ h => List.mem_cons_of_mem _ (List.mem_append_right _ h)) (by decide +kernel))
set_option maxRecDepth 20000 in
theorem gX11_restore_X11_copy : GoodIn wsX11_restore (va_wsS RX11 55 yX11_copy wsX11_copy) := goodIn_app (goodIn_of _ (by decide +kernel)) ggX11_restore_X11_copy
set_option maxRecDepth 20000 in
theorem ggX11_restore_X11_done : GoodIn wsX11_restore wsX11_done := goodIn_r _ [17, 10, 18, 19, 20, 21, 22, 23, 24, 25, 26, 27, 28, 29, 30, 31, 32, 33, 34, 35, 36] (by decide +kernel) (by decide +kernel)
set_option maxRecDepth 20000 in
theorem gX11_restore_X11_done : GoodIn wsX11_restore (wsV RX11 94 RX11 yX11_done wsX11_done) := goodIn_app (goodIn_of _ (by decide +kernel)) ggX11_restore_X11_done
theorem dX11_restore_0 : decode cX11_restore 0 = .ok (.aload_n 0, 1) := by decide +kernel
theorem dX11_restore_1 : decode cX11_restore 1 = .ok (.getfield 233, 3) := by decide +kernel
theorem dX11_restore_4 : decode cX11_restore 4 = .ok (.ifCond .ne 9, 3) := by decide +kernel
theorem dX11_restore_7 : decode cX11_restore 7 = .ok (.aload_n 0, 1) := by decide +kernel
theorem dX11_restore_8 : decode cX11_restore 8 = .ok (.iconst 1, 1) := by decide +kernel
theorem dX11_restore_9 : decode cX11_restore 9 = .ok (.invokevirtual 51, 3) := by decide +kernel
theorem dX11_restore_12 : decode cX11_restore 12 = .ok (.ireturn, 1) := by decide +kernel
theorem dX11_restore_13 : decode cX11_restore 13 = .ok (.aload_n 0, 1) := by decide +kernel
theorem dX11_restore_14 : decode cX11_restore 14 = .ok (.getfield 19, 3) := by decide +kernel
theorem dX11_restore_17 : decode cX11_restore 17 = .ok (.iconst 0, 1) := by decide +kernel
theorem dX11_restore_18 : decode cX11_restore 18 = .ok (.aload_n 0, 1) := by decide +kernel
theorem dX11_restore_19 : decode cX11_restore 19 = .ok (.getfield 7, 3) := by decide +kernel
theorem dX11_restore_22 : decode cX11_restore 22 = .ok (.iconst 0, 1) := by decide +kernel
theorem dX11_restore_23 : decode cX11_restore 23 = .ok (.invokestatic 55, 3) := by decide +kernel
theorem dX11_restore_26 : decode cX11_restore 26 = .ok (.aload_n 0, 1) := by decide +kernel
theorem dX11_restore_27 : decode cX11_restore 27 = .ok (.iconst 0, 1) := by decide +kernel
theorem dX11_restore_28 : decode cX11_restore 28 = .ok (.putfield 59, 3) := by decide +kernel
theorem dX11_restore_31 : decode cX11_restore 31 = .ok (.aload_n 0, 1) := by decide +kernel
theorem dX11_restore_32 : decode cX11_restore 32 = .ok (.aload_n 0, 1) := by decide +kernel
theorem dX11_restore_33 : decode cX11_restore 33 = .ok (.getfield 7, 3) := by decide +kernel
theorem dX11_restore_36 : decode cX11_restore 36 = .ok (.iconst 0, 1) := by decide +kernel
theorem dX11_restore_37 : decode cX11_restore 37 = .ok (.iaload, 1) := by decide +kernel
theorem dX11_restore_38 : decode cX11_restore 38 = .ok (.invokevirtual 94, 3) := by decide +kernel
theorem dX11_restore_41 : decode cX11_restore 41 = .ok (.ireturn, 1) := by decide +kernel
theorem dJx00060_init_a7421_0 : decode cJx00060_init_a7421 0 = .ok (.aload_n 0, 1) := by decide +kernel
theorem dJx00060_init_a7421_1 : decode cJx00060_init_a7421 1 = .ok (.aload_n 1, 1) := by decide +kernel
theorem dJx00060_init_a7421_2 : decode cJx00060_init_a7421 2 = .ok (.invokespecial 7, 3) := by decide +kernel
theorem dJx00060_init_a7421_5 : decode cJx00060_init_a7421 5 = .ok (.return_, 1) := by decide +kernel
theorem dJ6_bitCount_0f7a4_0 : decode cJ6_bitCount_0f7a4 0 = .ok (.iload_n 0, 1) := by decide +kernel
theorem dJ6_bitCount_0f7a4_1 : decode cJ6_bitCount_0f7a4 1 = .ok (.iload_n 0, 1) := by decide +kernel
theorem dJ6_bitCount_0f7a4_2 : decode cJ6_bitCount_0f7a4 2 = .ok (.iconst 1, 1) := by decide +kernel
theorem dJ6_bitCount_0f7a4_3 : decode cJ6_bitCount_0f7a4 3 = .ok (.iushr, 1) := by decide +kernel
theorem dJ6_bitCount_0f7a4_4 : decode cJ6_bitCount_0f7a4 4 = .ok (.ldc_w 265, 3) := by decide +kernel
theorem dJ6_bitCount_0f7a4_7 : decode cJ6_bitCount_0f7a4 7 = .ok (.iand, 1) := by decide +kernel
theorem dJ6_bitCount_0f7a4_8 : decode cJ6_bitCount_0f7a4 8 = .ok (.isub, 1) := by decide +kernel
theorem dJ6_bitCount_0f7a4_9 : decode cJ6_bitCount_0f7a4 9 = .ok (.istore_n 0, 1) := by decide +kernel
theorem dJ6_bitCount_0f7a4_10 : decode cJ6_bitCount_0f7a4 10 = .ok (.iload_n 0, 1) := by decide +kernel
theorem dJ6_bitCount_0f7a4_11 : decode cJ6_bitCount_0f7a4 11 = .ok (.ldc_w 266, 3) := by decide +kernel
theorem dJ6_bitCount_0f7a4_14 : decode cJ6_bitCount_0f7a4 14 = .ok (.iand, 1) := by decide +kernel
theorem dJ6_bitCount_0f7a4_15 : decode cJ6_bitCount_0f7a4 15 = .ok (.iload_n 0, 1) := by decide +kernel
theorem dJ6_bitCount_0f7a4_16 : decode cJ6_bitCount_0f7a4 16 = .ok (.iconst 2, 1) := by decide +kernel
theorem dJ6_bitCount_0f7a4_17 : decode cJ6_bitCount_0f7a4 17 = .ok (.iushr, 1) := by decide +kernel
theorem dJ6_bitCount_0f7a4_18 : decode cJ6_bitCount_0f7a4 18 = .ok (.ldc_w 266, 3) := by decide +kernel
theorem dJ6_bitCount_0f7a4_21 : decode cJ6_bitCount_0f7a4 21 = .ok (.iand, 1) := by decide +kernel
theorem dJ6_bitCount_0f7a4_22 : decode cJ6_bitCount_0f7a4 22 = .ok (.iadd, 1) := by decide +kernel
theorem dJ6_bitCount_0f7a4_23 : decode cJ6_bitCount_0f7a4 23 = .ok (.istore_n 0, 1) := by decide +kernel
theorem dJ6_bitCount_0f7a4_24 : decode cJ6_bitCount_0f7a4 24 = .ok (.iload_n 0, 1) := by decide +kernel
theorem dJ6_bitCount_0f7a4_25 : decode cJ6_bitCount_0f7a4 25 = .ok (.iload_n 0, 1) := by decide +kernel
theorem dJ6_bitCount_0f7a4_26 : decode cJ6_bitCount_0f7a4 26 = .ok (.iconst 4, 1) := by decide +kernel
theorem dJ6_bitCount_0f7a4_27 : decode cJ6_bitCount_0f7a4 27 = .ok (.iushr, 1) := by decide +kernel
theorem dJ6_bitCount_0f7a4_28 : decode cJ6_bitCount_0f7a4 28 = .ok (.iadd, 1) := by decide +kernel
theorem dJ6_bitCount_0f7a4_29 : decode cJ6_bitCount_0f7a4 29 = .ok (.ldc_w 267, 3) := by decide +kernel
theorem dJ6_bitCount_0f7a4_32 : decode cJ6_bitCount_0f7a4 32 = .ok (.iand, 1) := by decide +kernel
theorem dJ6_bitCount_0f7a4_33 : decode cJ6_bitCount_0f7a4 33 = .ok (.istore_n 0, 1) := by decide +kernel
theorem dJ6_bitCount_0f7a4_34 : decode cJ6_bitCount_0f7a4 34 = .ok (.iload_n 0, 1) := by decide +kernel
theorem dJ6_bitCount_0f7a4_35 : decode cJ6_bitCount_0f7a4 35 = .ok (.iload_n 0, 1) := by decide +kernel
theorem dJ6_bitCount_0f7a4_36 : decode cJ6_bitCount_0f7a4 36 = .ok (.bipush 8, 2) := by decide +kernel
theorem dJ6_bitCount_0f7a4_38 : decode cJ6_bitCount_0f7a4 38 = .ok (.iushr, 1) := by decide +kernel
theorem dJ6_bitCount_0f7a4_39 : decode cJ6_bitCount_0f7a4 39 = .ok (.iadd, 1) := by decide +kernel
theorem dJ6_bitCount_0f7a4_40 : decode cJ6_bitCount_0f7a4 40 = .ok (.istore_n 0, 1) := by decide +kernel
theorem dJ6_bitCount_0f7a4_41 : decode cJ6_bitCount_0f7a4 41 = .ok (.iload_n 0, 1) := by decide +kernel
theorem dJ6_bitCount_0f7a4_42 : decode cJ6_bitCount_0f7a4 42 = .ok (.iload_n 0, 1) := by decide +kernel
theorem dJ6_bitCount_0f7a4_43 : decode cJ6_bitCount_0f7a4 43 = .ok (.bipush 16, 2) := by decide +kernel
theorem dJ6_bitCount_0f7a4_45 : decode cJ6_bitCount_0f7a4 45 = .ok (.iushr, 1) := by decide +kernel
theorem dJ6_bitCount_0f7a4_46 : decode cJ6_bitCount_0f7a4 46 = .ok (.iadd, 1) := by decide +kernel
theorem dJ6_bitCount_0f7a4_47 : decode cJ6_bitCount_0f7a4 47 = .ok (.istore_n 0, 1) := by decide +kernel
theorem dJ6_bitCount_0f7a4_48 : decode cJ6_bitCount_0f7a4 48 = .ok (.iload_n 0, 1) := by decide +kernel
theorem dJ6_bitCount_0f7a4_49 : decode cJ6_bitCount_0f7a4 49 = .ok (.bipush 63, 2) := by decide +kernel
theorem dJ6_bitCount_0f7a4_51 : decode cJ6_bitCount_0f7a4 51 = .ok (.iand, 1) := by decide +kernel
theorem dJ6_bitCount_0f7a4_52 : decode cJ6_bitCount_0f7a4 52 = .ok (.ireturn, 1) := by decide +kernel
theorem dJ9_min_7cf53_0 : decode cJ9_min_7cf53 0 = .ok (.iload_n 0, 1) := by decide +kernel
theorem dJ9_min_7cf53_1 : decode cJ9_min_7cf53 1 = .ok (.iload_n 1, 1) := by decide +kernel
theorem dJ9_min_7cf53_2 : decode cJ9_min_7cf53 2 = .ok (.if_icmp .gt 7, 3) := by decide +kernel
theorem dJ9_min_7cf53_5 : decode cJ9_min_7cf53 5 = .ok (.iload_n 0, 1) := by decide +kernel
theorem dJ9_min_7cf53_6 : decode cJ9_min_7cf53 6 = .ok (.goto 4, 3) := by decide +kernel
theorem dJ9_min_7cf53_9 : decode cJ9_min_7cf53 9 = .ok (.iload_n 1, 1) := by decide +kernel
theorem dJ9_min_7cf53_10 : decode cJ9_min_7cf53 10 = .ok (.ireturn, 1) := by decide +kernel
set_option maxRecDepth 20000 in
theorem ggJ0_length_8abf5_J0_coder_7d493 : GoodIn wsJ0_length_8abf5 wsJ0_coder_7d493 := goodIn_r _ [6, 7, 8, 9, 10] (by decide +kernel) (by decide +kernel)
set_option maxRecDepth 20000 in
theorem gJ0_length_8abf5_J0_coder_7d493 : GoodIn wsJ0_length_8abf5 (wsV RJ0 335 RJ0 yJ0_coder_7d493 wsJ0_coder_7d493) := goodIn_app (goodIn_of _ (by decide +kernel)) ggJ0_length_8abf5_J0_coder_7d493
theorem dJ0_length_8abf5_0 : decode cJ0_length_8abf5 0 = .ok (.aload_n 0, 1) := by decide +kernel
theorem dJ0_length_8abf5_1 : decode cJ0_length_8abf5 1 = .ok (.getfield 9, 3) := by decide +kernel
theorem dJ0_length_8abf5_4 : decode cJ0_length_8abf5 4 = .ok (.arraylength, 1) := by decide +kernel
theorem dJ0_length_8abf5_5 : decode cJ0_length_8abf5 5 = .ok (.aload_n 0, 1) := by decide +kernel
theorem dJ0_length_8abf5_6 : decode cJ0_length_8abf5 6 = .ok (.invokevirtual 335, 3) := by decide +kernel
theorem dJ0_length_8abf5_9 : decode cJ0_length_8abf5 9 = .ok (.ishr, 1) := by decide +kernel
theorem dJ0_length_8abf5_10 : decode cJ0_length_8abf5 10 = .ok (.ireturn, 1) := by decide +kernel
theorem dJ0_isEmpty_aae02_0 : decode cJ0_isEmpty_aae02 0 = .ok (.aload_n 0, 1) := by decide +kernel
theorem dJ0_isEmpty_aae02_1 : decode cJ0_isEmpty_aae02 1 = .ok (.getfield 9, 3) := by decide +kernel
theorem dJ0_isEmpty_aae02_4 : decode cJ0_isEmpty_aae02 4 = .ok (.arraylength, 1) := by decide +kernel
theorem dJ0_isEmpty_aae02_5 : decode cJ0_isEmpty_aae02 5 = .ok (.ifCond .ne 7, 3) := by decide +kernel
theorem dJ0_isEmpty_aae02_8 : decode cJ0_isEmpty_aae02 8 = .ok (.iconst 1, 1) := by decide +kernel
theorem dJ0_isEmpty_aae02_9 : decode cJ0_isEmpty_aae02 9 = .ok (.goto 4, 3) := by decide +kernel
theorem dJ0_isEmpty_aae02_12 : decode cJ0_isEmpty_aae02 12 = .ok (.iconst 0, 1) := by decide +kernel
theorem dJ0_isEmpty_aae02_13 : decode cJ0_isEmpty_aae02 13 = .ok (.ireturn, 1) := by decide +kernel
set_option maxRecDepth 20000 in
theorem ggJ0_charAt_5068e_J0_isLatin1_aae02 : GoodIn wsJ0_charAt_5068e wsJ0_isLatin1_aae02 := goodIn_r _ [6, 7, 8, 38, 39] (by decide +kernel) (by decide +kernel)
set_option maxRecDepth 20000 in
theorem gJ0_charAt_5068e_J0_isLatin1_aae02 : GoodIn wsJ0_charAt_5068e (wsV RJ0 492 RJ0 yJ0_isLatin1_aae02 wsJ0_isLatin1_aae02) := goodIn_app (goodIn_of _ (by decide +kernel)) ggJ0_charAt_5068e_J0_isLatin1_aae02
set_option maxRecDepth 20000 in
theorem ggJ0_charAt_5068e_J1_charAt_3b067 : GoodIn wsJ0_charAt_5068e wsJ1_charAt_3b067 := goodIn_r _ [12, 13, 14, 5, 15, 16, 17, 18, 19, 20] (by decide +kernel) (by decide +kernel)
set_option maxRecDepth 20000 in
theorem gJ0_charAt_5068e_J1_charAt_3b067 : GoodIn wsJ0_charAt_5068e (va_wsS RJ0 495 yJ1_charAt_3b067 wsJ1_charAt_3b067) := goodIn_app (goodIn_of _ (by decide +kernel)) ggJ0_charAt_5068e_J1_charAt_3b067
set_option maxRecDepth 20000 in
theorem ggJ0_charAt_5068e_J2_charAt_3b067 : GoodIn wsJ0_charAt_5068e wsJ2_charAt_3b067 := goodIn_r _ [24, 25, 26, 23, 27, 28, 29, 30, 31, 14, 5, 15, 16, 17, 18, 19, 20, 32, 33, 34, 35, 36, 37] (by decide +kernel) (by decide +kernel)
set_option maxRecDepth 20000 in
theorem gJ0_charAt_5068e_J2_charAt_3b067 : GoodIn wsJ0_charAt_5068e (va_wsS RJ0 498 yJ2_charAt_3b067 wsJ2_charAt_3b067) := goodIn_app (goodIn_of _ (by decide +kernel)) ggJ0_charAt_5068e_J2_charAt_3b067
theorem dJ0_charAt_5068e_0 : decode cJ0_charAt_5068e 0 = .ok (.aload_n 0, 1) := by decide +kernel
theorem dJ0_charAt_5068e_1 : decode cJ0_charAt_5068e 1 = .ok (.invokevirtual 492, 3) := by decide +kernel
theorem dJ0_charAt_5068e_4 : decode cJ0_charAt_5068e 4 = .ok (.ifCond .eq 12, 3) := by decide +kernel
theorem dJ0_charAt_5068e_7 : decode cJ0_charAt_5068e 7 = .ok (.aload_n 0, 1) := by decide +kernel
theorem dJ0_charAt_5068e_8 : decode cJ0_charAt_5068e 8 = .ok (.getfield 9, 3) := by decide +kernel
theorem dJ0_charAt_5068e_11 : decode cJ0_charAt_5068e 11 = .ok (.iload_n 1, 1) := by decide +kernel
theorem dJ0_charAt_5068e_12 : decode cJ0_charAt_5068e 12 = .ok (.invokestatic 495, 3) := by decide +kernel
theorem dJ0_charAt_5068e_15 : decode cJ0_charAt_5068e 15 = .ok (.ireturn, 1) := by decide +kernel
theorem dJ0_charAt_5068e_16 : decode cJ0_charAt_5068e 16 = .ok (.aload_n 0, 1) := by decide +kernel
theorem dJ0_charAt_5068e_17 : decode cJ0_charAt_5068e 17 = .ok (.getfield 9, 3) := by decide +kernel
theorem dJ0_charAt_5068e_20 : decode cJ0_charAt_5068e 20 = .ok (.iload_n 1, 1) := by decide +kernel
theorem dJ0_charAt_5068e_21 : decode cJ0_charAt_5068e 21 = .ok (.invokestatic 498, 3) := by decide +kernel
theorem dJ0_charAt_5068e_24 : decode cJ0_charAt_5068e 24 = .ok (.ireturn, 1) := by decide +kernel
theorem dJ0_coder_7d493_0 : decode cJ0_coder_7d493 0 = .ok (.getstatic 38, 3) := by decide +kernel
theorem dJ0_coder_7d493_3 : decode cJ0_coder_7d493 3 = .ok (.ifCond .eq 10, 3) := by decide +kernel
theorem dJ0_coder_7d493_6 : decode cJ0_coder_7d493 6 = .ok (.aload_n 0, 1) := by decide +kernel
theorem dJ0_coder_7d493_7 : decode cJ0_coder_7d493 7 = .ok (.getfield 15, 3) := by decide +kernel
theorem dJ0_coder_7d493_10 : decode cJ0_coder_7d493 10 = .ok (.goto 4, 3) := by decide +kernel
theorem dJ0_coder_7d493_13 : decode cJ0_coder_7d493 13 = .ok (.iconst 1, 1) := by decide +kernel
theorem dJ0_coder_7d493_14 : decode cJ0_coder_7d493 14 = .ok (.ireturn, 1) := by decide +kernel
theorem dJ0_isLatin1_aae02_0 : decode cJ0_isLatin1_aae02 0 = .ok (.getstatic 38, 3) := by decide +kernel
theorem dJ0_isLatin1_aae02_3 : decode cJ0_isLatin1_aae02 3 = .ok (.ifCond .eq 14, 3) := by decide +kernel
theorem dJ0_isLatin1_aae02_6 : decode cJ0_isLatin1_aae02 6 = .ok (.aload_n 0, 1) := by decide +kernel
theorem dJ0_isLatin1_aae02_7 : decode cJ0_isLatin1_aae02 7 = .ok (.getfield 15, 3) := by decide +kernel
theorem dJ0_isLatin1_aae02_10 : decode cJ0_isLatin1_aae02 10 = .ok (.ifCond .ne 7, 3) := by decide +kernel
theorem dJ0_isLatin1_aae02_13 : decode cJ0_isLatin1_aae02 13 = .ok (.iconst 1, 1) := by decide +kernel
theorem dJ0_isLatin1_aae02_14 : decode cJ0_isLatin1_aae02 14 = .ok (.goto 4, 3) := by decide +kernel
theorem dJ0_isLatin1_aae02_17 : decode cJ0_isLatin1_aae02 17 = .ok (.iconst 0, 1) := by decide +kernel
theorem dJ0_isLatin1_aae02_18 : decode cJ0_isLatin1_aae02 18 = .ok (.ireturn, 1) := by decide +kernel
set_option maxRecDepth 20000 in
theorem ggJ0_checkIndex_df160_J3_checkIndex_8e157 : GoodIn wsJ0_checkIndex_df160 wsJ3_checkIndex_8e157 := goodIn_r _ [5] (by decide +kernel) (by decide +kernel)
set_option maxRecDepth 20000 in
theorem gJ0_checkIndex_df160_J3_checkIndex_8e157 : GoodIn wsJ0_checkIndex_df160 (va_wsS RJ0 1059 yJ3_checkIndex_8e157 wsJ3_checkIndex_8e157) := goodIn_app (goodIn_of _ (by decide +kernel)) ggJ0_checkIndex_df160_J3_checkIndex_8e157
theorem dJ0_checkIndex_df160_0 : decode cJ0_checkIndex_df160 0 = .ok (.iload_n 0, 1) := by decide +kernel
theorem dJ0_checkIndex_df160_1 : decode cJ0_checkIndex_df160 1 = .ok (.iload_n 1, 1) := by decide +kernel
theorem dJ0_checkIndex_df160_2 : decode cJ0_checkIndex_df160 2 = .ok (.getstatic 1053, 3) := by decide +kernel
theorem dJ0_checkIndex_df160_5 : decode cJ0_checkIndex_df160 5 = .ok (.invokestatic 1059, 3) := by decide +kernel
theorem dJ0_checkIndex_df160_8 : decode cJ0_checkIndex_df160 8 = .ok (.pop, 1) := by decide +kernel
theorem dJ0_checkIndex_df160_9 : decode cJ0_checkIndex_df160 9 = .ok (.return_, 1) := by decide +kernel
set_option maxRecDepth 20000 in
theorem ggJ1_charAt_3b067_J0_checkIndex_df160 : GoodIn wsJ1_charAt_3b067 wsJ0_checkIndex_df160 := goodIn_r _ [4, 5, 6, 7, 8, 9] (by decide +kernel) (by decide +kernel)
set_option maxRecDepth 20000 in
theorem gJ1_charAt_3b067_J0_checkIndex_df160 : GoodIn wsJ1_charAt_3b067 (va_wsS RJ1 9 yJ0_checkIndex_df160 wsJ0_checkIndex_df160) := goodIn_app (goodIn_of _ (by decide +kernel)) ggJ1_charAt_3b067_J0_checkIndex_df160
theorem dJ1_charAt_3b067_0 : decode cJ1_charAt_3b067 0 = .ok (.iload_n 1, 1) := by decide +kernel
theorem dJ1_charAt_3b067_1 : decode cJ1_charAt_3b067 1 = .ok (.aload_n 0, 1) := by decide +kernel
theorem dJ1_charAt_3b067_2 : decode cJ1_charAt_3b067 2 = .ok (.arraylength, 1) := by decide +kernel
theorem dJ1_charAt_3b067_3 : decode cJ1_charAt_3b067 3 = .ok (.invokestatic 9, 3) := by decide +kernel
theorem dJ1_charAt_3b067_6 : decode cJ1_charAt_3b067 6 = .ok (.aload_n 0, 1) := by decide +kernel
theorem dJ1_charAt_3b067_7 : decode cJ1_charAt_3b067 7 = .ok (.iload_n 1, 1) := by decide +kernel
theorem dJ1_charAt_3b067_8 : decode cJ1_charAt_3b067 8 = .ok (.baload, 1) := by decide +kernel
theorem dJ1_charAt_3b067_9 : decode cJ1_charAt_3b067 9 = .ok (.sipush 255, 3) := by decide +kernel
theorem dJ1_charAt_3b067_12 : decode cJ1_charAt_3b067 12 = .ok (.iand, 1) := by decide +kernel
theorem dJ1_charAt_3b067_13 : decode cJ1_charAt_3b067 13 = .ok (.i2c, 1) := by decide +kernel
theorem dJ1_charAt_3b067_14 : decode cJ1_charAt_3b067 14 = .ok (.ireturn, 1) := by decide +kernel
set_option maxRecDepth 20000 in
theorem ggJ2_getChar_3b067_J2_length_9d52b : GoodIn wsJ2_getChar_3b067 wsJ2_length_9d52b := goodIn_r _ [7] (by decide +kernel) (by decide +kernel)
set_option maxRecDepth 20000 in
theorem gJ2_getChar_3b067_J2_length_9d52b : GoodIn wsJ2_getChar_3b067 (va_wsS RJ2 48 yJ2_length_9d52b wsJ2_length_9d52b) := goodIn_app (goodIn_of _ (by decide +kernel)) ggJ2_getChar_3b067_J2_length_9d52b
theorem dJ2_getChar_3b067_0 : decode cJ2_getChar_3b067 0 = .ok (.getstatic 44, 3) := by decide +kernel
theorem dJ2_getChar_3b067_3 : decode cJ2_getChar_3b067 3 = .ok (.ifCond .ne 25, 3) := by decide +kernel
theorem dJ2_getChar_3b067_6 : decode cJ2_getChar_3b067 6 = .ok (.iload_n 1, 1) := by decide +kernel
theorem dJ2_getChar_3b067_7 : decode cJ2_getChar_3b067 7 = .ok (.ifCond .lt 11, 3) := by decide +kernel
theorem dJ2_getChar_3b067_10 : decode cJ2_getChar_3b067 10 = .ok (.iload_n 1, 1) := by decide +kernel
theorem dJ2_getChar_3b067_11 : decode cJ2_getChar_3b067 11 = .ok (.aload_n 0, 1) := by decide +kernel
theorem dJ2_getChar_3b067_12 : decode cJ2_getChar_3b067 12 = .ok (.invokestatic 48, 3) := by decide +kernel
theorem dJ2_getChar_3b067_15 : decode cJ2_getChar_3b067 15 = .ok (.if_icmp .lt 13, 3) := by decide +kernel
theorem dJ2_getChar_3b067_18 : decode cJ2_getChar_3b067 18 = .ok (.new 52, 3) := by decide +kernel
theorem dJ2_getChar_3b067_21 : decode cJ2_getChar_3b067 21 = .ok (.dup, 1) := by decide +kernel
theorem dJ2_getChar_3b067_22 : decode cJ2_getChar_3b067 22 = .ok (.ldc 54, 2) := by decide +kernel
theorem dJ2_getChar_3b067_24 : decode cJ2_getChar_3b067 24 = .ok (.invokespecial 56, 3) := by decide +kernel
theorem dJ2_getChar_3b067_27 : decode cJ2_getChar_3b067 27 = .ok (.athrow, 1) := by decide +kernel
theorem dJ2_getChar_3b067_28 : decode cJ2_getChar_3b067 28 = .ok (.iload_n 1, 1) := by decide +kernel
theorem dJ2_getChar_3b067_29 : decode cJ2_getChar_3b067 29 = .ok (.iconst 1, 1) := by decide +kernel
theorem dJ2_getChar_3b067_30 : decode cJ2_getChar_3b067 30 = .ok (.ishl, 1) := by decide +kernel
theorem dJ2_getChar_3b067_31 : decode cJ2_getChar_3b067 31 = .ok (.istore_n 1, 1) := by decide +kernel
theorem dJ2_getChar_3b067_32 : decode cJ2_getChar_3b067 32 = .ok (.aload_n 0, 1) := by decide +kernel
theorem dJ2_getChar_3b067_33 : decode cJ2_getChar_3b067 33 = .ok (.iload_n 1, 1) := by decide +kernel
theorem dJ2_getChar_3b067_34 : decode cJ2_getChar_3b067 34 = .ok (.iinc 1 1, 3) := by decide +kernel
theorem dJ2_getChar_3b067_37 : decode cJ2_getChar_3b067 37 = .ok (.baload, 1) := by decide +kernel
theorem dJ2_getChar_3b067_38 : decode cJ2_getChar_3b067 38 = .ok (.sipush 255, 3) := by decide +kernel
theorem dJ2_getChar_3b067_41 : decode cJ2_getChar_3b067 41 = .ok (.iand, 1) := by decide +kernel
theorem dJ2_getChar_3b067_42 : decode cJ2_getChar_3b067 42 = .ok (.getstatic 59, 3) := by decide +kernel
theorem dJ2_getChar_3b067_45 : decode cJ2_getChar_3b067 45 = .ok (.ishl, 1) := by decide +kernel
theorem dJ2_getChar_3b067_46 : decode cJ2_getChar_3b067 46 = .ok (.aload_n 0, 1) := by decide +kernel
theorem dJ2_getChar_3b067_47 : decode cJ2_getChar_3b067 47 = .ok (.iload_n 1, 1) := by decide +kernel
theorem dJ2_getChar_3b067_48 : decode cJ2_getChar_3b067 48 = .ok (.baload, 1) := by decide +kernel
theorem dJ2_getChar_3b067_49 : decode cJ2_getChar_3b067 49 = .ok (.sipush 255, 3) := by decide +kernel
theorem dJ2_getChar_3b067_52 : decode cJ2_getChar_3b067 52 = .ok (.iand, 1) := by decide +kernel
theorem dJ2_getChar_3b067_53 : decode cJ2_getChar_3b067 53 = .ok (.getstatic 63, 3) := by decide +kernel
theorem dJ2_getChar_3b067_56 : decode cJ2_getChar_3b067 56 = .ok (.ishl, 1) := by decide +kernel
theorem dJ2_getChar_3b067_57 : decode cJ2_getChar_3b067 57 = .ok (.ior, 1) := by decide +kernel
theorem dJ2_getChar_3b067_58 : decode cJ2_getChar_3b067 58 = .ok (.i2c, 1) := by decide +kernel
theorem dJ2_getChar_3b067_59 : decode cJ2_getChar_3b067 59 = .ok (.ireturn, 1) := by decide +kernel
theorem dJ2_length_9d52b_0 : decode cJ2_length_9d52b 0 = .ok (.aload_n 0, 1) := by decide +kernel
theorem dJ2_length_9d52b_1 : decode cJ2_length_9d52b 1 = .ok (.arraylength, 1) := by decide +kernel
theorem dJ2_length_9d52b_2 : decode cJ2_length_9d52b 2 = .ok (.iconst 1, 1) := by decide +kernel
theorem dJ2_length_9d52b_3 : decode cJ2_length_9d52b 3 = .ok (.ishr, 1) := by decide +kernel
theorem dJ2_length_9d52b_4 : decode cJ2_length_9d52b 4 = .ok (.ireturn, 1) := by decide +kernel
set_option maxRecDepth 20000 in
theorem ggJ2_charAt_3b067_J2_checkIndex_2214a : GoodIn wsJ2_charAt_3b067 wsJ2_checkIndex_2214a := goodIn_r _ [4, 5, 6, 3, 7, 8, 9, 10, 11, 12, 13, 14, 15, 16] (by decide +kernel) (by decide +kernel)
set_option maxRecDepth 20000 in
theorem gJ2_charAt_3b067_J2_checkIndex_2214a : GoodIn wsJ2_charAt_3b067 (va_wsS RJ2 67 yJ2_checkIndex_2214a wsJ2_checkIndex_2214a) := goodIn_app (goodIn_of _ (by decide +kernel)) ggJ2_charAt_3b067_J2_checkIndex_2214a
set_option maxRecDepth 20000 in
theorem ggJ2_charAt_3b067_J2_getChar_3b067 : GoodIn wsJ2_charAt_3b067 wsJ2_getChar_3b067 := goodIn_r _ [19, 20, 21, 22, 5, 6, 3, 7] (by decide +kernel) (by decide +kernel)
set_option maxRecDepth 20000 in
theorem gJ2_charAt_3b067_J2_getChar_3b067 : GoodIn wsJ2_charAt_3b067 (va_wsS RJ2 71 yJ2_getChar_3b067 wsJ2_getChar_3b067) := goodIn_app (goodIn_of _ (by decide +kernel)) ggJ2_charAt_3b067_J2_getChar_3b067
theorem dJ2_charAt_3b067_0 : decode cJ2_charAt_3b067 0 = .ok (.iload_n 1, 1) := by decide +kernel
theorem dJ2_charAt_3b067_1 : decode cJ2_charAt_3b067 1 = .ok (.aload_n 0, 1) := by decide +kernel
theorem dJ2_charAt_3b067_2 : decode cJ2_charAt_3b067 2 = .ok (.invokestatic 67, 3) := by decide +kernel
theorem dJ2_charAt_3b067_5 : decode cJ2_charAt_3b067 5 = .ok (.aload_n 0, 1) := by decide +kernel
theorem dJ2_charAt_3b067_6 : decode cJ2_charAt_3b067 6 = .ok (.iload_n 1, 1) := by decide +kernel
theorem dJ2_charAt_3b067_7 : decode cJ2_charAt_3b067 7 = .ok (.invokestatic 71, 3) := by decide +kernel
theorem dJ2_charAt_3b067_10 : decode cJ2_charAt_3b067 10 = .ok (.ireturn, 1) := by decide +kernel
set_option maxRecDepth 20000 in
theorem ggJ2_checkIndex_2214a_J2_length_9d52b : GoodIn wsJ2_checkIndex_2214a wsJ2_length_9d52b := goodIn_r _ [4] (by decide +kernel) (by decide +kernel)
set_option maxRecDepth 20000 in
theorem gJ2_checkIndex_2214a_J2_length_9d52b : GoodIn wsJ2_checkIndex_2214a (va_wsS RJ2 48 yJ2_length_9d52b wsJ2_length_9d52b) := goodIn_app (goodIn_of _ (by decide +kernel)) ggJ2_checkIndex_2214a_J2_length_9d52b
set_option maxRecDepth 20000 in
theorem ggJ2_checkIndex_2214a_J0_checkIndex_df160 : GoodIn wsJ2_checkIndex_2214a wsJ0_checkIndex_df160 := goodIn_r _ [8, 9, 10, 11, 12, 13] (by decide +kernel) (by decide +kernel)
set_option maxRecDepth 20000 in
theorem gJ2_checkIndex_2214a_J0_checkIndex_df160 : GoodIn wsJ2_checkIndex_2214a (va_wsS RJ2 414 yJ0_checkIndex_df160 wsJ0_checkIndex_df160) := goodIn_app (goodIn_of _ (by decide +kernel)) ggJ2_checkIndex_2214a_J0_checkIndex_df160
theorem dJ2_checkIndex_2214a_0 : decode cJ2_checkIndex_2214a 0 = .ok (.iload_n 0, 1) := by decide +kernel
theorem dJ2_checkIndex_2214a_1 : decode cJ2_checkIndex_2214a 1 = .ok (.aload_n 1, 1) := by decide +kernel
theorem dJ2_checkIndex_2214a_2 : decode cJ2_checkIndex_2214a 2 = .ok (.invokestatic 48, 3) := by decide +kernel
theorem dJ2_checkIndex_2214a_5 : decode cJ2_checkIndex_2214a 5 = .ok (.invokestatic 414, 3) := by decide +kernel
theorem dJ2_checkIndex_2214a_8 : decode cJ2_checkIndex_2214a 8 = .ok (.return_, 1) := by decide +kernel
theorem dJ3_checkIndex_8e157_0 : decode cJ3_checkIndex_8e157 0 = .ok (.iload_n 0, 1) := by decide +kernel
theorem dJ3_checkIndex_8e157_1 : decode cJ3_checkIndex_8e157 1 = .ok (.ifCond .lt 8, 3) := by decide +kernel
theorem dJ3_checkIndex_8e157_4 : decode cJ3_checkIndex_8e157 4 = .ok (.iload_n 0, 1) := by decide +kernel
theorem dJ3_checkIndex_8e157_5 : decode cJ3_checkIndex_8e157 5 = .ok (.iload_n 1, 1) := by decide +kernel
theorem dJ3_checkIndex_8e157_6 : decode cJ3_checkIndex_8e157 6 = .ok (.if_icmp .lt 10, 3) := by decide +kernel
theorem dJ3_checkIndex_8e157_9 : decode cJ3_checkIndex_8e157 9 = .ok (.aload_n 2, 1) := by decide +kernel
theorem dJ3_checkIndex_8e157_10 : decode cJ3_checkIndex_8e157 10 = .ok (.iload_n 0, 1) := by decide +kernel
theorem dJ3_checkIndex_8e157_11 : decode cJ3_checkIndex_8e157 11 = .ok (.iload_n 1, 1) := by decide +kernel
theorem dJ3_checkIndex_8e157_12 : decode cJ3_checkIndex_8e157 12 = .ok (.invokestatic 95, 3) := by decide +kernel
theorem dJ3_checkIndex_8e157_15 : decode cJ3_checkIndex_8e157 15 = .ok (.athrow, 1) := by decide +kernel
theorem dJ3_checkIndex_8e157_16 : decode cJ3_checkIndex_8e157 16 = .ok (.iload_n 0, 1) := by decide +kernel
theorem dJ3_checkIndex_8e157_17 : decode cJ3_checkIndex_8e157 17 = .ok (.ireturn, 1) := by decide +kernel
theorem dL_leaflet_0 : decode cL_leaflet 0 = .ok (.aload_n 2, 1) := by decide +kernel
theorem dL_leaflet_1 : decode cL_leaflet 1 = .ok (.iconst 0, 1) := by decide +kernel
theorem dL_leaflet_2 : decode cL_leaflet 2 = .ok (.aload_n 0, 1) := by decide +kernel
theorem dL_leaflet_3 : decode cL_leaflet 3 = .ok (.iload_n 1, 1) := by decide +kernel
theorem dL_leaflet_4 : decode cL_leaflet 4 = .ok (.invokevirtual 7, 3) := by decide +kernel
theorem dL_leaflet_7 : decode cL_leaflet 7 = .ok (.i2l, 1) := by decide +kernel
theorem dL_leaflet_8 : decode cL_leaflet 8 = .ok (.lastore, 1) := by decide +kernel
theorem dL_leaflet_9 : decode cL_leaflet 9 = .ok (.goto 6, 3) := by decide +kernel
theorem dL_leaflet_12 : decode cL_leaflet 12 = .ok (.astore_n 3, 1) := by decide +kernel
theorem dL_leaflet_13 : decode cL_leaflet 13 = .ok (.iconst 1, 1) := by decide +kernel
theorem dL_leaflet_14 : decode cL_leaflet 14 = .ok (.ireturn, 1) := by decide +kernel
theorem dL_leaflet_15 : decode cL_leaflet 15 = .ok (.iconst 0, 1) := by decide +kernel
theorem dL_leaflet_16 : decode cL_leaflet 16 = .ok (.ireturn, 1) := by decide +kernel
theorem dL_step_0 : decode cL_step 0 = .ok (.aload 6, 2) := by decide +kernel
theorem dL_step_2 : decode cL_step 2 = .ok (.iconst 0, 1) := by decide +kernel
theorem dL_step_3 : decode cL_step 3 = .ok (.aload_n 0, 1) := by decide +kernel
theorem dL_step_4 : decode cL_step 4 = .ok (.iload_n 1, 1) := by decide +kernel
theorem dL_step_5 : decode cL_step 5 = .ok (.iload_n 2, 1) := by decide +kernel
theorem dL_step_6 : decode cL_step 6 = .ok (.iload_n 3, 1) := by decide +kernel
theorem dL_step_7 : decode cL_step 7 = .ok (.iload 4, 2) := by decide +kernel
theorem dL_step_9 : decode cL_step 9 = .ok (.iload 5, 2) := by decide +kernel
theorem dL_step_11 : decode cL_step 11 = .ok (.invokevirtual 15, 3) := by decide +kernel
theorem dL_step_14 : decode cL_step 14 = .ok (.i2l, 1) := by decide +kernel
theorem dL_step_15 : decode cL_step 15 = .ok (.lastore, 1) := by decide +kernel
theorem dL_step_16 : decode cL_step 16 = .ok (.goto 7, 3) := by decide +kernel
theorem dL_step_19 : decode cL_step 19 = .ok (.astore 7, 2) := by decide +kernel
theorem dL_step_21 : decode cL_step 21 = .ok (.iconst 1, 1) := by decide +kernel
theorem dL_step_22 : decode cL_step 22 = .ok (.ireturn, 1) := by decide +kernel
theorem dL_step_23 : decode cL_step 23 = .ok (.iconst 0, 1) := by decide +kernel
theorem dL_step_24 : decode cL_step 24 = .ok (.ireturn, 1) := by decide +kernel
theorem dL_fold_0 : decode cL_fold 0 = .ok (.aload_n 2, 1) := by decide +kernel
theorem dL_fold_1 : decode cL_fold 1 = .ok (.iconst 0, 1) := by decide +kernel
theorem dL_fold_2 : decode cL_fold 2 = .ok (.aload_n 0, 1) := by decide +kernel
theorem dL_fold_3 : decode cL_fold 3 = .ok (.iload_n 1, 1) := by decide +kernel
theorem dL_fold_4 : decode cL_fold 4 = .ok (.invokevirtual 19, 3) := by decide +kernel
theorem dL_fold_7 : decode cL_fold 7 = .ok (.i2l, 1) := by decide +kernel
theorem dL_fold_8 : decode cL_fold 8 = .ok (.lastore, 1) := by decide +kernel
theorem dL_fold_9 : decode cL_fold 9 = .ok (.goto 6, 3) := by decide +kernel
theorem dL_fold_12 : decode cL_fold 12 = .ok (.astore_n 3, 1) := by decide +kernel
theorem dL_fold_13 : decode cL_fold 13 = .ok (.iconst 1, 1) := by decide +kernel
theorem dL_fold_14 : decode cL_fold 14 = .ok (.ireturn, 1) := by decide +kernel
theorem dL_fold_15 : decode cL_fold 15 = .ok (.iconst 0, 1) := by decide +kernel
theorem dL_fold_16 : decode cL_fold 16 = .ok (.ireturn, 1) := by decide +kernel
theorem dL_unfold_0 : decode cL_unfold 0 = .ok (.aload_n 2, 1) := by decide +kernel
theorem dL_unfold_1 : decode cL_unfold 1 = .ok (.iconst 0, 1) := by decide +kernel
theorem dL_unfold_2 : decode cL_unfold 2 = .ok (.aload_n 0, 1) := by decide +kernel
theorem dL_unfold_3 : decode cL_unfold 3 = .ok (.iload_n 1, 1) := by decide +kernel
theorem dL_unfold_4 : decode cL_unfold 4 = .ok (.invokevirtual 22, 3) := by decide +kernel
theorem dL_unfold_7 : decode cL_unfold 7 = .ok (.i2l, 1) := by decide +kernel
theorem dL_unfold_8 : decode cL_unfold 8 = .ok (.lastore, 1) := by decide +kernel
theorem dL_unfold_9 : decode cL_unfold 9 = .ok (.goto 6, 3) := by decide +kernel
theorem dL_unfold_12 : decode cL_unfold 12 = .ok (.astore_n 3, 1) := by decide +kernel
theorem dL_unfold_13 : decode cL_unfold 13 = .ok (.iconst 1, 1) := by decide +kernel
theorem dL_unfold_14 : decode cL_unfold 14 = .ok (.ireturn, 1) := by decide +kernel
theorem dL_unfold_15 : decode cL_unfold 15 = .ok (.iconst 0, 1) := by decide +kernel
theorem dL_unfold_16 : decode cL_unfold 16 = .ok (.ireturn, 1) := by decide +kernel
theorem dL_cousin_0 : decode cL_cousin 0 = .ok (.aload_n 3, 1) := by decide +kernel
theorem dL_cousin_1 : decode cL_cousin 1 = .ok (.iconst 0, 1) := by decide +kernel
theorem dL_cousin_2 : decode cL_cousin 2 = .ok (.aload_n 0, 1) := by decide +kernel
theorem dL_cousin_3 : decode cL_cousin 3 = .ok (.iload_n 1, 1) := by decide +kernel
theorem dL_cousin_4 : decode cL_cousin 4 = .ok (.iload_n 2, 1) := by decide +kernel
theorem dL_cousin_5 : decode cL_cousin 5 = .ok (.invokevirtual 25, 3) := by decide +kernel
theorem dL_cousin_8 : decode cL_cousin 8 = .ok (.i2l, 1) := by decide +kernel
theorem dL_cousin_9 : decode cL_cousin 9 = .ok (.lastore, 1) := by decide +kernel
theorem dL_cousin_10 : decode cL_cousin 10 = .ok (.goto 7, 3) := by decide +kernel
theorem dL_cousin_13 : decode cL_cousin 13 = .ok (.astore 4, 2) := by decide +kernel
theorem dL_cousin_15 : decode cL_cousin 15 = .ok (.iconst 1, 1) := by decide +kernel
theorem dL_cousin_16 : decode cL_cousin 16 = .ok (.ireturn, 1) := by decide +kernel
theorem dL_cousin_17 : decode cL_cousin 17 = .ok (.iconst 0, 1) := by decide +kernel
theorem dL_cousin_18 : decode cL_cousin 18 = .ok (.ireturn, 1) := by decide +kernel
theorem dL_learn_0 : decode cL_learn 0 = .ok (.aload_n 3, 1) := by decide +kernel
theorem dL_learn_1 : decode cL_learn 1 = .ok (.iconst 0, 1) := by decide +kernel
theorem dL_learn_2 : decode cL_learn 2 = .ok (.aload_n 0, 1) := by decide +kernel
theorem dL_learn_3 : decode cL_learn 3 = .ok (.iload_n 1, 1) := by decide +kernel
theorem dL_learn_4 : decode cL_learn 4 = .ok (.iload_n 2, 1) := by decide +kernel
theorem dL_learn_5 : decode cL_learn 5 = .ok (.invokevirtual 29, 3) := by decide +kernel
theorem dL_learn_8 : decode cL_learn 8 = .ok (.i2l, 1) := by decide +kernel
theorem dL_learn_9 : decode cL_learn 9 = .ok (.lastore, 1) := by decide +kernel
theorem dL_learn_10 : decode cL_learn 10 = .ok (.goto 7, 3) := by decide +kernel
theorem dL_learn_13 : decode cL_learn 13 = .ok (.astore 4, 2) := by decide +kernel
theorem dL_learn_15 : decode cL_learn 15 = .ok (.iconst 1, 1) := by decide +kernel
theorem dL_learn_16 : decode cL_learn 16 = .ok (.ireturn, 1) := by decide +kernel
theorem dL_learn_17 : decode cL_learn 17 = .ok (.iconst 0, 1) := by decide +kernel
theorem dL_learn_18 : decode cL_learn 18 = .ok (.ireturn, 1) := by decide +kernel
theorem dL_build_0 : decode cL_build 0 = .ok (.aload_n 3, 1) := by decide +kernel
theorem dL_build_1 : decode cL_build 1 = .ok (.iconst 0, 1) := by decide +kernel
theorem dL_build_2 : decode cL_build 2 = .ok (.aload_n 0, 1) := by decide +kernel
theorem dL_build_3 : decode cL_build 3 = .ok (.iload_n 1, 1) := by decide +kernel
theorem dL_build_4 : decode cL_build 4 = .ok (.iload_n 2, 1) := by decide +kernel
theorem dL_build_5 : decode cL_build 5 = .ok (.invokevirtual 32, 3) := by decide +kernel
theorem dL_build_8 : decode cL_build 8 = .ok (.i2l, 1) := by decide +kernel
theorem dL_build_9 : decode cL_build 9 = .ok (.lastore, 1) := by decide +kernel
theorem dL_build_10 : decode cL_build 10 = .ok (.goto 7, 3) := by decide +kernel
theorem dL_build_13 : decode cL_build 13 = .ok (.astore 4, 2) := by decide +kernel
theorem dL_build_15 : decode cL_build 15 = .ok (.iconst 1, 1) := by decide +kernel
theorem dL_build_16 : decode cL_build 16 = .ok (.ireturn, 1) := by decide +kernel
theorem dL_build_17 : decode cL_build 17 = .ok (.iconst 0, 1) := by decide +kernel
theorem dL_build_18 : decode cL_build 18 = .ok (.ireturn, 1) := by decide +kernel
theorem dL_finish_0 : decode cL_finish 0 = .ok (.aload_n 3, 1) := by decide +kernel
theorem dL_finish_1 : decode cL_finish 1 = .ok (.iconst 0, 1) := by decide +kernel
theorem dL_finish_2 : decode cL_finish 2 = .ok (.aload_n 0, 1) := by decide +kernel
theorem dL_finish_3 : decode cL_finish 3 = .ok (.iload_n 1, 1) := by decide +kernel
theorem dL_finish_4 : decode cL_finish 4 = .ok (.iload_n 2, 1) := by decide +kernel
theorem dL_finish_5 : decode cL_finish 5 = .ok (.invokevirtual 35, 3) := by decide +kernel
theorem dL_finish_8 : decode cL_finish 8 = .ok (.i2l, 1) := by decide +kernel
theorem dL_finish_9 : decode cL_finish 9 = .ok (.lastore, 1) := by decide +kernel
theorem dL_finish_10 : decode cL_finish 10 = .ok (.goto 7, 3) := by decide +kernel
theorem dL_finish_13 : decode cL_finish 13 = .ok (.astore 4, 2) := by decide +kernel
theorem dL_finish_15 : decode cL_finish 15 = .ok (.iconst 1, 1) := by decide +kernel
theorem dL_finish_16 : decode cL_finish 16 = .ok (.ireturn, 1) := by decide +kernel
theorem dL_finish_17 : decode cL_finish 17 = .ok (.iconst 0, 1) := by decide +kernel
theorem dL_finish_18 : decode cL_finish 18 = .ok (.ireturn, 1) := by decide +kernel
theorem dL_apart_0 : decode cL_apart 0 = .ok (.aload_n 2, 1) := by decide +kernel
theorem dL_apart_1 : decode cL_apart 1 = .ok (.iconst 0, 1) := by decide +kernel
theorem dL_apart_2 : decode cL_apart 2 = .ok (.aload_n 0, 1) := by decide +kernel
theorem dL_apart_3 : decode cL_apart 3 = .ok (.iload_n 1, 1) := by decide +kernel
theorem dL_apart_4 : decode cL_apart 4 = .ok (.invokevirtual 38, 3) := by decide +kernel
theorem dL_apart_7 : decode cL_apart 7 = .ok (.i2l, 1) := by decide +kernel
theorem dL_apart_8 : decode cL_apart 8 = .ok (.lastore, 1) := by decide +kernel
theorem dL_apart_9 : decode cL_apart 9 = .ok (.goto 6, 3) := by decide +kernel
theorem dL_apart_12 : decode cL_apart 12 = .ok (.astore_n 3, 1) := by decide +kernel
theorem dL_apart_13 : decode cL_apart 13 = .ok (.iconst 1, 1) := by decide +kernel
theorem dL_apart_14 : decode cL_apart 14 = .ok (.ireturn, 1) := by decide +kernel
theorem dL_apart_15 : decode cL_apart 15 = .ok (.iconst 0, 1) := by decide +kernel
theorem dL_apart_16 : decode cL_apart 16 = .ok (.ireturn, 1) := by decide +kernel
theorem dL_move_0 : decode cL_move 0 = .ok (.aload_n 3, 1) := by decide +kernel
theorem dL_move_1 : decode cL_move 1 = .ok (.iconst 0, 1) := by decide +kernel
theorem dL_move_2 : decode cL_move 2 = .ok (.aload_n 0, 1) := by decide +kernel
theorem dL_move_3 : decode cL_move 3 = .ok (.iload_n 1, 1) := by decide +kernel
theorem dL_move_4 : decode cL_move 4 = .ok (.iload_n 2, 1) := by decide +kernel
theorem dL_move_5 : decode cL_move 5 = .ok (.invokevirtual 41, 3) := by decide +kernel
theorem dL_move_8 : decode cL_move 8 = .ok (.i2l, 1) := by decide +kernel
theorem dL_move_9 : decode cL_move 9 = .ok (.lastore, 1) := by decide +kernel
theorem dL_move_10 : decode cL_move 10 = .ok (.goto 7, 3) := by decide +kernel
theorem dL_move_13 : decode cL_move 13 = .ok (.astore 4, 2) := by decide +kernel
theorem dL_move_15 : decode cL_move 15 = .ok (.iconst 1, 1) := by decide +kernel
theorem dL_move_16 : decode cL_move 16 = .ok (.ireturn, 1) := by decide +kernel
theorem dL_move_17 : decode cL_move 17 = .ok (.iconst 0, 1) := by decide +kernel
theorem dL_move_18 : decode cL_move 18 = .ok (.ireturn, 1) := by decide +kernel
theorem dL_lose_0 : decode cL_lose 0 = .ok (.aload_n 3, 1) := by decide +kernel
theorem dL_lose_1 : decode cL_lose 1 = .ok (.iconst 0, 1) := by decide +kernel
theorem dL_lose_2 : decode cL_lose 2 = .ok (.aload_n 0, 1) := by decide +kernel
theorem dL_lose_3 : decode cL_lose 3 = .ok (.iload_n 1, 1) := by decide +kernel
theorem dL_lose_4 : decode cL_lose 4 = .ok (.iload_n 2, 1) := by decide +kernel
theorem dL_lose_5 : decode cL_lose 5 = .ok (.invokevirtual 44, 3) := by decide +kernel
theorem dL_lose_8 : decode cL_lose 8 = .ok (.i2l, 1) := by decide +kernel
theorem dL_lose_9 : decode cL_lose 9 = .ok (.lastore, 1) := by decide +kernel
theorem dL_lose_10 : decode cL_lose 10 = .ok (.goto 7, 3) := by decide +kernel
theorem dL_lose_13 : decode cL_lose 13 = .ok (.astore 4, 2) := by decide +kernel
theorem dL_lose_15 : decode cL_lose 15 = .ok (.iconst 1, 1) := by decide +kernel
theorem dL_lose_16 : decode cL_lose 16 = .ok (.ireturn, 1) := by decide +kernel
theorem dL_lose_17 : decode cL_lose 17 = .ok (.iconst 0, 1) := by decide +kernel
theorem dL_lose_18 : decode cL_lose 18 = .ok (.ireturn, 1) := by decide +kernel
theorem dL_find_0 : decode cL_find 0 = .ok (.aload_n 3, 1) := by decide +kernel
theorem dL_find_1 : decode cL_find 1 = .ok (.iconst 0, 1) := by decide +kernel
theorem dL_find_2 : decode cL_find 2 = .ok (.aload_n 0, 1) := by decide +kernel
theorem dL_find_3 : decode cL_find 3 = .ok (.iload_n 1, 1) := by decide +kernel
theorem dL_find_4 : decode cL_find 4 = .ok (.iload_n 2, 1) := by decide +kernel
theorem dL_find_5 : decode cL_find 5 = .ok (.invokevirtual 47, 3) := by decide +kernel
theorem dL_find_8 : decode cL_find 8 = .ok (.i2l, 1) := by decide +kernel
theorem dL_find_9 : decode cL_find 9 = .ok (.lastore, 1) := by decide +kernel
theorem dL_find_10 : decode cL_find 10 = .ok (.goto 7, 3) := by decide +kernel
theorem dL_find_13 : decode cL_find 13 = .ok (.astore 4, 2) := by decide +kernel
theorem dL_find_15 : decode cL_find 15 = .ok (.iconst 1, 1) := by decide +kernel
theorem dL_find_16 : decode cL_find 16 = .ok (.ireturn, 1) := by decide +kernel
theorem dL_find_17 : decode cL_find 17 = .ok (.iconst 0, 1) := by decide +kernel
theorem dL_find_18 : decode cL_find 18 = .ok (.ireturn, 1) := by decide +kernel
theorem dL_leafletOf_0 : decode cL_leafletOf 0 = .ok (.aload_n 3, 1) := by decide +kernel
theorem dL_leafletOf_1 : decode cL_leafletOf 1 = .ok (.iconst 0, 1) := by decide +kernel
theorem dL_leafletOf_2 : decode cL_leafletOf 2 = .ok (.aload_n 0, 1) := by decide +kernel
theorem dL_leafletOf_3 : decode cL_leafletOf 3 = .ok (.iload_n 1, 1) := by decide +kernel
theorem dL_leafletOf_4 : decode cL_leafletOf 4 = .ok (.iload_n 2, 1) := by decide +kernel
theorem dL_leafletOf_5 : decode cL_leafletOf 5 = .ok (.invokevirtual 50, 3) := by decide +kernel
theorem dL_leafletOf_8 : decode cL_leafletOf 8 = .ok (.i2l, 1) := by decide +kernel
theorem dL_leafletOf_9 : decode cL_leafletOf 9 = .ok (.lastore, 1) := by decide +kernel
theorem dL_leafletOf_10 : decode cL_leafletOf 10 = .ok (.goto 11, 3) := by decide +kernel
theorem dL_leafletOf_13 : decode cL_leafletOf 13 = .ok (.astore 4, 2) := by decide +kernel
theorem dL_leafletOf_15 : decode cL_leafletOf 15 = .ok (.iconst 1, 1) := by decide +kernel
theorem dL_leafletOf_16 : decode cL_leafletOf 16 = .ok (.ireturn, 1) := by decide +kernel
theorem dL_leafletOf_17 : decode cL_leafletOf 17 = .ok (.astore 4, 2) := by decide +kernel
theorem dL_leafletOf_19 : decode cL_leafletOf 19 = .ok (.iconst 2, 1) := by decide +kernel
theorem dL_leafletOf_20 : decode cL_leafletOf 20 = .ok (.ireturn, 1) := by decide +kernel
theorem dL_leafletOf_21 : decode cL_leafletOf 21 = .ok (.iconst 0, 1) := by decide +kernel
theorem dL_leafletOf_22 : decode cL_leafletOf 22 = .ok (.ireturn, 1) := by decide +kernel
theorem dL_stepOf_0 : decode cL_stepOf 0 = .ok (.aload 4, 2) := by decide +kernel
theorem dL_stepOf_2 : decode cL_stepOf 2 = .ok (.iconst 0, 1) := by decide +kernel
theorem dL_stepOf_3 : decode cL_stepOf 3 = .ok (.aload_n 0, 1) := by decide +kernel
theorem dL_stepOf_4 : decode cL_stepOf 4 = .ok (.iload_n 1, 1) := by decide +kernel
theorem dL_stepOf_5 : decode cL_stepOf 5 = .ok (.iload_n 2, 1) := by decide +kernel
theorem dL_stepOf_6 : decode cL_stepOf 6 = .ok (.iload_n 3, 1) := by decide +kernel
theorem dL_stepOf_7 : decode cL_stepOf 7 = .ok (.invokevirtual 57, 3) := by decide +kernel
theorem dL_stepOf_10 : decode cL_stepOf 10 = .ok (.i2l, 1) := by decide +kernel
theorem dL_stepOf_11 : decode cL_stepOf 11 = .ok (.lastore, 1) := by decide +kernel
theorem dL_stepOf_12 : decode cL_stepOf 12 = .ok (.goto 15, 3) := by decide +kernel
theorem dL_stepOf_15 : decode cL_stepOf 15 = .ok (.astore 5, 2) := by decide +kernel
theorem dL_stepOf_17 : decode cL_stepOf 17 = .ok (.iconst 1, 1) := by decide +kernel
theorem dL_stepOf_18 : decode cL_stepOf 18 = .ok (.ireturn, 1) := by decide +kernel
theorem dL_stepOf_19 : decode cL_stepOf 19 = .ok (.astore 5, 2) := by decide +kernel
theorem dL_stepOf_21 : decode cL_stepOf 21 = .ok (.iconst 2, 1) := by decide +kernel
theorem dL_stepOf_22 : decode cL_stepOf 22 = .ok (.ireturn, 1) := by decide +kernel
theorem dL_stepOf_23 : decode cL_stepOf 23 = .ok (.astore 5, 2) := by decide +kernel
theorem dL_stepOf_25 : decode cL_stepOf 25 = .ok (.iconst 3, 1) := by decide +kernel
theorem dL_stepOf_26 : decode cL_stepOf 26 = .ok (.ireturn, 1) := by decide +kernel
theorem dL_stepOf_27 : decode cL_stepOf 27 = .ok (.iconst 0, 1) := by decide +kernel
theorem dL_stepOf_28 : decode cL_stepOf 28 = .ok (.ireturn, 1) := by decide +kernel
theorem dL_cousinOf_0 : decode cL_cousinOf 0 = .ok (.aload_n 3, 1) := by decide +kernel
theorem dL_cousinOf_1 : decode cL_cousinOf 1 = .ok (.iconst 0, 1) := by decide +kernel
theorem dL_cousinOf_2 : decode cL_cousinOf 2 = .ok (.aload_n 0, 1) := by decide +kernel
theorem dL_cousinOf_3 : decode cL_cousinOf 3 = .ok (.iload_n 1, 1) := by decide +kernel
theorem dL_cousinOf_4 : decode cL_cousinOf 4 = .ok (.iload_n 2, 1) := by decide +kernel
theorem dL_cousinOf_5 : decode cL_cousinOf 5 = .ok (.invokevirtual 63, 3) := by decide +kernel
theorem dL_cousinOf_8 : decode cL_cousinOf 8 = .ok (.i2l, 1) := by decide +kernel
theorem dL_cousinOf_9 : decode cL_cousinOf 9 = .ok (.lastore, 1) := by decide +kernel
theorem dL_cousinOf_10 : decode cL_cousinOf 10 = .ok (.goto 11, 3) := by decide +kernel
theorem dL_cousinOf_13 : decode cL_cousinOf 13 = .ok (.astore 4, 2) := by decide +kernel
theorem dL_cousinOf_15 : decode cL_cousinOf 15 = .ok (.iconst 1, 1) := by decide +kernel
theorem dL_cousinOf_16 : decode cL_cousinOf 16 = .ok (.ireturn, 1) := by decide +kernel
theorem dL_cousinOf_17 : decode cL_cousinOf 17 = .ok (.astore 4, 2) := by decide +kernel
theorem dL_cousinOf_19 : decode cL_cousinOf 19 = .ok (.iconst 2, 1) := by decide +kernel
theorem dL_cousinOf_20 : decode cL_cousinOf 20 = .ok (.ireturn, 1) := by decide +kernel
theorem dL_cousinOf_21 : decode cL_cousinOf 21 = .ok (.iconst 0, 1) := by decide +kernel
theorem dL_cousinOf_22 : decode cL_cousinOf 22 = .ok (.ireturn, 1) := by decide +kernel
theorem dL_why_0 : decode cL_why 0 = .ok (.aload 4, 2) := by decide +kernel
theorem dL_why_2 : decode cL_why 2 = .ok (.iconst 0, 1) := by decide +kernel
theorem dL_why_3 : decode cL_why 3 = .ok (.aload_n 0, 1) := by decide +kernel
theorem dL_why_4 : decode cL_why 4 = .ok (.iload_n 1, 1) := by decide +kernel
theorem dL_why_5 : decode cL_why 5 = .ok (.iload_n 2, 1) := by decide +kernel
theorem dL_why_6 : decode cL_why 6 = .ok (.iload_n 3, 1) := by decide +kernel
theorem dL_why_7 : decode cL_why 7 = .ok (.invokevirtual 66, 3) := by decide +kernel
theorem dL_why_10 : decode cL_why 10 = .ok (.i2l, 1) := by decide +kernel
theorem dL_why_11 : decode cL_why 11 = .ok (.lastore, 1) := by decide +kernel
theorem dL_why_12 : decode cL_why 12 = .ok (.goto 11, 3) := by decide +kernel
theorem dL_why_15 : decode cL_why 15 = .ok (.astore 5, 2) := by decide +kernel
theorem dL_why_17 : decode cL_why 17 = .ok (.iconst 1, 1) := by decide +kernel
theorem dL_why_18 : decode cL_why 18 = .ok (.ireturn, 1) := by decide +kernel
theorem dL_why_19 : decode cL_why 19 = .ok (.astore 5, 2) := by decide +kernel
theorem dL_why_21 : decode cL_why 21 = .ok (.iconst 2, 1) := by decide +kernel
theorem dL_why_22 : decode cL_why 22 = .ok (.ireturn, 1) := by decide +kernel
theorem dL_why_23 : decode cL_why 23 = .ok (.iconst 0, 1) := by decide +kernel
theorem dL_why_24 : decode cL_why 24 = .ok (.ireturn, 1) := by decide +kernel
theorem dL_whyAgain_0 : decode cL_whyAgain 0 = .ok (.aload 4, 2) := by decide +kernel
theorem dL_whyAgain_2 : decode cL_whyAgain 2 = .ok (.iconst 0, 1) := by decide +kernel
theorem dL_whyAgain_3 : decode cL_whyAgain 3 = .ok (.aload_n 0, 1) := by decide +kernel
theorem dL_whyAgain_4 : decode cL_whyAgain 4 = .ok (.iload_n 1, 1) := by decide +kernel
theorem dL_whyAgain_5 : decode cL_whyAgain 5 = .ok (.iload_n 2, 1) := by decide +kernel
theorem dL_whyAgain_6 : decode cL_whyAgain 6 = .ok (.iload_n 3, 1) := by decide +kernel
theorem dL_whyAgain_7 : decode cL_whyAgain 7 = .ok (.invokevirtual 69, 3) := by decide +kernel
theorem dL_whyAgain_10 : decode cL_whyAgain 10 = .ok (.i2l, 1) := by decide +kernel
theorem dL_whyAgain_11 : decode cL_whyAgain 11 = .ok (.lastore, 1) := by decide +kernel
theorem dL_whyAgain_12 : decode cL_whyAgain 12 = .ok (.goto 11, 3) := by decide +kernel
theorem dL_whyAgain_15 : decode cL_whyAgain 15 = .ok (.astore 5, 2) := by decide +kernel
theorem dL_whyAgain_17 : decode cL_whyAgain 17 = .ok (.iconst 1, 1) := by decide +kernel
theorem dL_whyAgain_18 : decode cL_whyAgain 18 = .ok (.ireturn, 1) := by decide +kernel
theorem dL_whyAgain_19 : decode cL_whyAgain 19 = .ok (.astore 5, 2) := by decide +kernel
theorem dL_whyAgain_21 : decode cL_whyAgain 21 = .ok (.iconst 2, 1) := by decide +kernel
theorem dL_whyAgain_22 : decode cL_whyAgain 22 = .ok (.ireturn, 1) := by decide +kernel
theorem dL_whyAgain_23 : decode cL_whyAgain 23 = .ok (.iconst 0, 1) := by decide +kernel
theorem dL_whyAgain_24 : decode cL_whyAgain 24 = .ok (.ireturn, 1) := by decide +kernel
theorem dL_wouldSkip_0 : decode cL_wouldSkip 0 = .ok (.aload_n 3, 1) := by decide +kernel
theorem dL_wouldSkip_1 : decode cL_wouldSkip 1 = .ok (.iconst 0, 1) := by decide +kernel
theorem dL_wouldSkip_2 : decode cL_wouldSkip 2 = .ok (.aload_n 0, 1) := by decide +kernel
theorem dL_wouldSkip_3 : decode cL_wouldSkip 3 = .ok (.iload_n 1, 1) := by decide +kernel
theorem dL_wouldSkip_4 : decode cL_wouldSkip 4 = .ok (.iload_n 2, 1) := by decide +kernel
theorem dL_wouldSkip_5 : decode cL_wouldSkip 5 = .ok (.invokevirtual 72, 3) := by decide +kernel
theorem dL_wouldSkip_8 : decode cL_wouldSkip 8 = .ok (.i2l, 1) := by decide +kernel
theorem dL_wouldSkip_9 : decode cL_wouldSkip 9 = .ok (.lastore, 1) := by decide +kernel
theorem dL_wouldSkip_10 : decode cL_wouldSkip 10 = .ok (.goto 7, 3) := by decide +kernel
theorem dL_wouldSkip_13 : decode cL_wouldSkip 13 = .ok (.astore 4, 2) := by decide +kernel
theorem dL_wouldSkip_15 : decode cL_wouldSkip 15 = .ok (.iconst 1, 1) := by decide +kernel
theorem dL_wouldSkip_16 : decode cL_wouldSkip 16 = .ok (.ireturn, 1) := by decide +kernel
theorem dL_wouldSkip_17 : decode cL_wouldSkip 17 = .ok (.iconst 0, 1) := by decide +kernel
theorem dL_wouldSkip_18 : decode cL_wouldSkip 18 = .ok (.ireturn, 1) := by decide +kernel
theorem dL_wouldLeave_0 : decode cL_wouldLeave 0 = .ok (.aload 4, 2) := by decide +kernel
theorem dL_wouldLeave_2 : decode cL_wouldLeave 2 = .ok (.iconst 0, 1) := by decide +kernel
theorem dL_wouldLeave_3 : decode cL_wouldLeave 3 = .ok (.aload_n 0, 1) := by decide +kernel
theorem dL_wouldLeave_4 : decode cL_wouldLeave 4 = .ok (.iload_n 1, 1) := by decide +kernel
theorem dL_wouldLeave_5 : decode cL_wouldLeave 5 = .ok (.iload_n 2, 1) := by decide +kernel
theorem dL_wouldLeave_6 : decode cL_wouldLeave 6 = .ok (.iload_n 3, 1) := by decide +kernel
theorem dL_wouldLeave_7 : decode cL_wouldLeave 7 = .ok (.invokevirtual 75, 3) := by decide +kernel
theorem dL_wouldLeave_10 : decode cL_wouldLeave 10 = .ok (.i2l, 1) := by decide +kernel
theorem dL_wouldLeave_11 : decode cL_wouldLeave 11 = .ok (.lastore, 1) := by decide +kernel
theorem dL_wouldLeave_12 : decode cL_wouldLeave 12 = .ok (.goto 11, 3) := by decide +kernel
theorem dL_wouldLeave_15 : decode cL_wouldLeave 15 = .ok (.astore 5, 2) := by decide +kernel
theorem dL_wouldLeave_17 : decode cL_wouldLeave 17 = .ok (.iconst 1, 1) := by decide +kernel
theorem dL_wouldLeave_18 : decode cL_wouldLeave 18 = .ok (.ireturn, 1) := by decide +kernel
theorem dL_wouldLeave_19 : decode cL_wouldLeave 19 = .ok (.astore 5, 2) := by decide +kernel
theorem dL_wouldLeave_21 : decode cL_wouldLeave 21 = .ok (.iconst 2, 1) := by decide +kernel
theorem dL_wouldLeave_22 : decode cL_wouldLeave 22 = .ok (.ireturn, 1) := by decide +kernel
theorem dL_wouldLeave_23 : decode cL_wouldLeave 23 = .ok (.iconst 0, 1) := by decide +kernel
theorem dL_wouldLeave_24 : decode cL_wouldLeave 24 = .ok (.ireturn, 1) := by decide +kernel
theorem dL_bestCousin_0 : decode cL_bestCousin 0 = .ok (.aload_n 2, 1) := by decide +kernel
theorem dL_bestCousin_1 : decode cL_bestCousin 1 = .ok (.iconst 0, 1) := by decide +kernel
theorem dL_bestCousin_2 : decode cL_bestCousin 2 = .ok (.aload_n 0, 1) := by decide +kernel
theorem dL_bestCousin_3 : decode cL_bestCousin 3 = .ok (.iload_n 1, 1) := by decide +kernel
theorem dL_bestCousin_4 : decode cL_bestCousin 4 = .ok (.invokevirtual 78, 3) := by decide +kernel
theorem dL_bestCousin_7 : decode cL_bestCousin 7 = .ok (.i2l, 1) := by decide +kernel
theorem dL_bestCousin_8 : decode cL_bestCousin 8 = .ok (.lastore, 1) := by decide +kernel
theorem dL_bestCousin_9 : decode cL_bestCousin 9 = .ok (.goto 9, 3) := by decide +kernel
theorem dL_bestCousin_12 : decode cL_bestCousin 12 = .ok (.astore_n 3, 1) := by decide +kernel
theorem dL_bestCousin_13 : decode cL_bestCousin 13 = .ok (.iconst 1, 1) := by decide +kernel
theorem dL_bestCousin_14 : decode cL_bestCousin 14 = .ok (.ireturn, 1) := by decide +kernel
theorem dL_bestCousin_15 : decode cL_bestCousin 15 = .ok (.astore_n 3, 1) := by decide +kernel
theorem dL_bestCousin_16 : decode cL_bestCousin 16 = .ok (.iconst 2, 1) := by decide +kernel
theorem dL_bestCousin_17 : decode cL_bestCousin 17 = .ok (.ireturn, 1) := by decide +kernel
theorem dL_bestCousin_18 : decode cL_bestCousin 18 = .ok (.iconst 0, 1) := by decide +kernel
theorem dL_bestCousin_19 : decode cL_bestCousin 19 = .ok (.ireturn, 1) := by decide +kernel
theorem dL_bestLanguage_0 : decode cL_bestLanguage 0 = .ok (.aload_n 3, 1) := by decide +kernel
theorem dL_bestLanguage_1 : decode cL_bestLanguage 1 = .ok (.iconst 0, 1) := by decide +kernel
theorem dL_bestLanguage_2 : decode cL_bestLanguage 2 = .ok (.aload_n 0, 1) := by decide +kernel
theorem dL_bestLanguage_3 : decode cL_bestLanguage 3 = .ok (.iload_n 1, 1) := by decide +kernel
theorem dL_bestLanguage_4 : decode cL_bestLanguage 4 = .ok (.iload_n 2, 1) := by decide +kernel
theorem dL_bestLanguage_5 : decode cL_bestLanguage 5 = .ok (.invokevirtual 81, 3) := by decide +kernel
theorem dL_bestLanguage_8 : decode cL_bestLanguage 8 = .ok (.i2l, 1) := by decide +kernel
theorem dL_bestLanguage_9 : decode cL_bestLanguage 9 = .ok (.lastore, 1) := by decide +kernel
theorem dL_bestLanguage_10 : decode cL_bestLanguage 10 = .ok (.goto 11, 3) := by decide +kernel
theorem dL_bestLanguage_13 : decode cL_bestLanguage 13 = .ok (.astore 4, 2) := by decide +kernel
theorem dL_bestLanguage_15 : decode cL_bestLanguage 15 = .ok (.iconst 1, 1) := by decide +kernel
theorem dL_bestLanguage_16 : decode cL_bestLanguage 16 = .ok (.ireturn, 1) := by decide +kernel
theorem dL_bestLanguage_17 : decode cL_bestLanguage 17 = .ok (.astore 4, 2) := by decide +kernel
theorem dL_bestLanguage_19 : decode cL_bestLanguage 19 = .ok (.iconst 2, 1) := by decide +kernel
theorem dL_bestLanguage_20 : decode cL_bestLanguage 20 = .ok (.ireturn, 1) := by decide +kernel
theorem dL_bestLanguage_21 : decode cL_bestLanguage 21 = .ok (.iconst 0, 1) := by decide +kernel
theorem dL_bestLanguage_22 : decode cL_bestLanguage 22 = .ok (.ireturn, 1) := by decide +kernel
theorem dL_bestFolds_0 : decode cL_bestFolds 0 = .ok (.aload_n 3, 1) := by decide +kernel
theorem dL_bestFolds_1 : decode cL_bestFolds 1 = .ok (.iconst 0, 1) := by decide +kernel
theorem dL_bestFolds_2 : decode cL_bestFolds 2 = .ok (.aload_n 0, 1) := by decide +kernel
theorem dL_bestFolds_3 : decode cL_bestFolds 3 = .ok (.iload_n 1, 1) := by decide +kernel
theorem dL_bestFolds_4 : decode cL_bestFolds 4 = .ok (.iload_n 2, 1) := by decide +kernel
theorem dL_bestFolds_5 : decode cL_bestFolds 5 = .ok (.invokevirtual 84, 3) := by decide +kernel
theorem dL_bestFolds_8 : decode cL_bestFolds 8 = .ok (.i2l, 1) := by decide +kernel
theorem dL_bestFolds_9 : decode cL_bestFolds 9 = .ok (.lastore, 1) := by decide +kernel
theorem dL_bestFolds_10 : decode cL_bestFolds 10 = .ok (.goto 7, 3) := by decide +kernel
theorem dL_bestFolds_13 : decode cL_bestFolds 13 = .ok (.astore 4, 2) := by decide +kernel
theorem dL_bestFolds_15 : decode cL_bestFolds 15 = .ok (.iconst 1, 1) := by decide +kernel
theorem dL_bestFolds_16 : decode cL_bestFolds 16 = .ok (.ireturn, 1) := by decide +kernel
theorem dL_bestFolds_17 : decode cL_bestFolds 17 = .ok (.iconst 0, 1) := by decide +kernel
theorem dL_bestFolds_18 : decode cL_bestFolds 18 = .ok (.ireturn, 1) := by decide +kernel
theorem dL_canFinish_0 : decode cL_canFinish 0 = .ok (.aload_n 3, 1) := by decide +kernel
theorem dL_canFinish_1 : decode cL_canFinish 1 = .ok (.iconst 0, 1) := by decide +kernel
theorem dL_canFinish_2 : decode cL_canFinish 2 = .ok (.aload_n 0, 1) := by decide +kernel
theorem dL_canFinish_3 : decode cL_canFinish 3 = .ok (.iload_n 1, 1) := by decide +kernel
theorem dL_canFinish_4 : decode cL_canFinish 4 = .ok (.iload_n 2, 1) := by decide +kernel
theorem dL_canFinish_5 : decode cL_canFinish 5 = .ok (.invokevirtual 87, 3) := by decide +kernel
theorem dL_canFinish_8 : decode cL_canFinish 8 = .ok (.ifCond .eq 7, 3) := by decide +kernel
theorem dL_canFinish_11 : decode cL_canFinish 11 = .ok (.lconst 1, 1) := by decide +kernel
theorem dL_canFinish_12 : decode cL_canFinish 12 = .ok (.goto 4, 3) := by decide +kernel
theorem dL_canFinish_15 : decode cL_canFinish 15 = .ok (.lconst 0, 1) := by decide +kernel
theorem dL_canFinish_16 : decode cL_canFinish 16 = .ok (.lastore, 1) := by decide +kernel
theorem dL_canFinish_17 : decode cL_canFinish 17 = .ok (.goto 11, 3) := by decide +kernel
theorem dL_canFinish_20 : decode cL_canFinish 20 = .ok (.astore 4, 2) := by decide +kernel
theorem dL_canFinish_22 : decode cL_canFinish 22 = .ok (.iconst 1, 1) := by decide +kernel
theorem dL_canFinish_23 : decode cL_canFinish 23 = .ok (.ireturn, 1) := by decide +kernel
theorem dL_canFinish_24 : decode cL_canFinish 24 = .ok (.astore 4, 2) := by decide +kernel
theorem dL_canFinish_26 : decode cL_canFinish 26 = .ok (.iconst 2, 1) := by decide +kernel
theorem dL_canFinish_27 : decode cL_canFinish 27 = .ok (.ireturn, 1) := by decide +kernel
theorem dL_canFinish_28 : decode cL_canFinish 28 = .ok (.iconst 0, 1) := by decide +kernel
theorem dL_canFinish_29 : decode cL_canFinish 29 = .ok (.ireturn, 1) := by decide +kernel
theorem dL_couldFinish_0 : decode cL_couldFinish 0 = .ok (.aload_n 2, 1) := by decide +kernel
theorem dL_couldFinish_1 : decode cL_couldFinish 1 = .ok (.iconst 0, 1) := by decide +kernel
theorem dL_couldFinish_2 : decode cL_couldFinish 2 = .ok (.aload_n 0, 1) := by decide +kernel
theorem dL_couldFinish_3 : decode cL_couldFinish 3 = .ok (.iload_n 1, 1) := by decide +kernel
theorem dL_couldFinish_4 : decode cL_couldFinish 4 = .ok (.invokevirtual 91, 3) := by decide +kernel
theorem dL_couldFinish_7 : decode cL_couldFinish 7 = .ok (.i2l, 1) := by decide +kernel
theorem dL_couldFinish_8 : decode cL_couldFinish 8 = .ok (.lastore, 1) := by decide +kernel
theorem dL_couldFinish_9 : decode cL_couldFinish 9 = .ok (.goto 6, 3) := by decide +kernel
theorem dL_couldFinish_12 : decode cL_couldFinish 12 = .ok (.astore_n 3, 1) := by decide +kernel
theorem dL_couldFinish_13 : decode cL_couldFinish 13 = .ok (.iconst 1, 1) := by decide +kernel
theorem dL_couldFinish_14 : decode cL_couldFinish 14 = .ok (.ireturn, 1) := by decide +kernel
theorem dL_couldFinish_15 : decode cL_couldFinish 15 = .ok (.iconst 0, 1) := by decide +kernel
theorem dL_couldFinish_16 : decode cL_couldFinish 16 = .ok (.ireturn, 1) := by decide +kernel
theorem dL_tin_0 : decode cL_tin 0 = .ok (.aload_n 2, 1) := by decide +kernel
theorem dL_tin_1 : decode cL_tin 1 = .ok (.iconst 0, 1) := by decide +kernel
theorem dL_tin_2 : decode cL_tin 2 = .ok (.aload_n 0, 1) := by decide +kernel
theorem dL_tin_3 : decode cL_tin 3 = .ok (.iload_n 1, 1) := by decide +kernel
theorem dL_tin_4 : decode cL_tin 4 = .ok (.invokevirtual 94, 3) := by decide +kernel
theorem dL_tin_7 : decode cL_tin 7 = .ok (.i2l, 1) := by decide +kernel
theorem dL_tin_8 : decode cL_tin 8 = .ok (.lastore, 1) := by decide +kernel
theorem dL_tin_9 : decode cL_tin 9 = .ok (.goto 6, 3) := by decide +kernel
theorem dL_tin_12 : decode cL_tin 12 = .ok (.astore_n 3, 1) := by decide +kernel
theorem dL_tin_13 : decode cL_tin 13 = .ok (.iconst 1, 1) := by decide +kernel
theorem dL_tin_14 : decode cL_tin 14 = .ok (.ireturn, 1) := by decide +kernel
theorem dL_tin_15 : decode cL_tin 15 = .ok (.iconst 0, 1) := by decide +kernel
theorem dL_tin_16 : decode cL_tin 16 = .ok (.ireturn, 1) := by decide +kernel
theorem dL_lost_0 : decode cL_lost 0 = .ok (.aload_n 2, 1) := by decide +kernel
theorem dL_lost_1 : decode cL_lost 1 = .ok (.iconst 0, 1) := by decide +kernel
theorem dL_lost_2 : decode cL_lost 2 = .ok (.aload_n 0, 1) := by decide +kernel
theorem dL_lost_3 : decode cL_lost 3 = .ok (.iload_n 1, 1) := by decide +kernel
theorem dL_lost_4 : decode cL_lost 4 = .ok (.invokevirtual 97, 3) := by decide +kernel
theorem dL_lost_7 : decode cL_lost 7 = .ok (.i2l, 1) := by decide +kernel
theorem dL_lost_8 : decode cL_lost 8 = .ok (.lastore, 1) := by decide +kernel
theorem dL_lost_9 : decode cL_lost 9 = .ok (.goto 6, 3) := by decide +kernel
theorem dL_lost_12 : decode cL_lost 12 = .ok (.astore_n 3, 1) := by decide +kernel
theorem dL_lost_13 : decode cL_lost 13 = .ok (.iconst 1, 1) := by decide +kernel
theorem dL_lost_14 : decode cL_lost 14 = .ok (.ireturn, 1) := by decide +kernel
theorem dL_lost_15 : decode cL_lost 15 = .ok (.iconst 0, 1) := by decide +kernel
theorem dL_lost_16 : decode cL_lost 16 = .ok (.ireturn, 1) := by decide +kernel
theorem dL_shelfOf_0 : decode cL_shelfOf 0 = .ok (.aload_n 2, 1) := by decide +kernel
theorem dL_shelfOf_1 : decode cL_shelfOf 1 = .ok (.iconst 0, 1) := by decide +kernel
theorem dL_shelfOf_2 : decode cL_shelfOf 2 = .ok (.aload_n 0, 1) := by decide +kernel
theorem dL_shelfOf_3 : decode cL_shelfOf 3 = .ok (.iload_n 1, 1) := by decide +kernel
theorem dL_shelfOf_4 : decode cL_shelfOf 4 = .ok (.invokevirtual 100, 3) := by decide +kernel
theorem dL_shelfOf_7 : decode cL_shelfOf 7 = .ok (.i2l, 1) := by decide +kernel
theorem dL_shelfOf_8 : decode cL_shelfOf 8 = .ok (.lastore, 1) := by decide +kernel
theorem dL_shelfOf_9 : decode cL_shelfOf 9 = .ok (.goto 6, 3) := by decide +kernel
theorem dL_shelfOf_12 : decode cL_shelfOf 12 = .ok (.astore_n 3, 1) := by decide +kernel
theorem dL_shelfOf_13 : decode cL_shelfOf 13 = .ok (.iconst 1, 1) := by decide +kernel
theorem dL_shelfOf_14 : decode cL_shelfOf 14 = .ok (.ireturn, 1) := by decide +kernel
theorem dL_shelfOf_15 : decode cL_shelfOf 15 = .ok (.iconst 0, 1) := by decide +kernel
theorem dL_shelfOf_16 : decode cL_shelfOf 16 = .ok (.ireturn, 1) := by decide +kernel
theorem dL_ranked_0 : decode cL_ranked 0 = .ok (.aload_n 3, 1) := by decide +kernel
theorem dL_ranked_1 : decode cL_ranked 1 = .ok (.iconst 0, 1) := by decide +kernel
theorem dL_ranked_2 : decode cL_ranked 2 = .ok (.aload_n 0, 1) := by decide +kernel
theorem dL_ranked_3 : decode cL_ranked 3 = .ok (.iload_n 1, 1) := by decide +kernel
theorem dL_ranked_4 : decode cL_ranked 4 = .ok (.iload_n 2, 1) := by decide +kernel
theorem dL_ranked_5 : decode cL_ranked 5 = .ok (.invokevirtual 103, 3) := by decide +kernel
theorem dL_ranked_8 : decode cL_ranked 8 = .ok (.i2l, 1) := by decide +kernel
theorem dL_ranked_9 : decode cL_ranked 9 = .ok (.lastore, 1) := by decide +kernel
theorem dL_ranked_10 : decode cL_ranked 10 = .ok (.goto 11, 3) := by decide +kernel
theorem dL_ranked_13 : decode cL_ranked 13 = .ok (.astore 4, 2) := by decide +kernel
theorem dL_ranked_15 : decode cL_ranked 15 = .ok (.iconst 1, 1) := by decide +kernel
theorem dL_ranked_16 : decode cL_ranked 16 = .ok (.ireturn, 1) := by decide +kernel
theorem dL_ranked_17 : decode cL_ranked 17 = .ok (.astore 4, 2) := by decide +kernel
theorem dL_ranked_19 : decode cL_ranked 19 = .ok (.iconst 2, 1) := by decide +kernel
theorem dL_ranked_20 : decode cL_ranked 20 = .ok (.ireturn, 1) := by decide +kernel
theorem dL_ranked_21 : decode cL_ranked 21 = .ok (.iconst 0, 1) := by decide +kernel
theorem dL_ranked_22 : decode cL_ranked 22 = .ok (.ireturn, 1) := by decide +kernel
theorem dL_append_0 : decode cL_append 0 = .ok (.aload_n 2, 1) := by decide +kernel
theorem dL_append_1 : decode cL_append 1 = .ok (.iconst 0, 1) := by decide +kernel
theorem dL_append_2 : decode cL_append 2 = .ok (.aload_n 0, 1) := by decide +kernel
theorem dL_append_3 : decode cL_append 3 = .ok (.iload_n 1, 1) := by decide +kernel
theorem dL_append_4 : decode cL_append 4 = .ok (.invokevirtual 106, 3) := by decide +kernel
theorem dL_append_7 : decode cL_append 7 = .ok (.i2l, 1) := by decide +kernel
theorem dL_append_8 : decode cL_append 8 = .ok (.lastore, 1) := by decide +kernel
theorem dL_append_9 : decode cL_append 9 = .ok (.goto 6, 3) := by decide +kernel
theorem dL_append_12 : decode cL_append 12 = .ok (.astore_n 3, 1) := by decide +kernel
theorem dL_append_13 : decode cL_append 13 = .ok (.iconst 1, 1) := by decide +kernel
theorem dL_append_14 : decode cL_append 14 = .ok (.ireturn, 1) := by decide +kernel
theorem dL_append_15 : decode cL_append 15 = .ok (.iconst 0, 1) := by decide +kernel
theorem dL_append_16 : decode cL_append 16 = .ok (.ireturn, 1) := by decide +kernel
theorem dL_commands_0 : decode cL_commands 0 = .ok (.aload_n 1, 1) := by decide +kernel
theorem dL_commands_1 : decode cL_commands 1 = .ok (.iconst 0, 1) := by decide +kernel
theorem dL_commands_2 : decode cL_commands 2 = .ok (.aload_n 0, 1) := by decide +kernel
theorem dL_commands_3 : decode cL_commands 3 = .ok (.invokevirtual 112, 3) := by decide +kernel
theorem dL_commands_6 : decode cL_commands 6 = .ok (.i2l, 1) := by decide +kernel
theorem dL_commands_7 : decode cL_commands 7 = .ok (.lastore, 1) := by decide +kernel
theorem dL_commands_8 : decode cL_commands 8 = .ok (.goto 9, 3) := by decide +kernel
theorem dL_commands_11 : decode cL_commands 11 = .ok (.astore_n 2, 1) := by decide +kernel
theorem dL_commands_12 : decode cL_commands 12 = .ok (.iconst 1, 1) := by decide +kernel
theorem dL_commands_13 : decode cL_commands 13 = .ok (.ireturn, 1) := by decide +kernel
theorem dL_commands_14 : decode cL_commands 14 = .ok (.astore_n 2, 1) := by decide +kernel
theorem dL_commands_15 : decode cL_commands 15 = .ok (.iconst 2, 1) := by decide +kernel
theorem dL_commands_16 : decode cL_commands 16 = .ok (.ireturn, 1) := by decide +kernel
theorem dL_commands_17 : decode cL_commands 17 = .ok (.iconst 0, 1) := by decide +kernel
theorem dL_commands_18 : decode cL_commands 18 = .ok (.ireturn, 1) := by decide +kernel
theorem dL_reason_0 : decode cL_reason 0 = .ok (.aload_n 2, 1) := by decide +kernel
theorem dL_reason_1 : decode cL_reason 1 = .ok (.iconst 0, 1) := by decide +kernel
theorem dL_reason_2 : decode cL_reason 2 = .ok (.aload_n 0, 1) := by decide +kernel
theorem dL_reason_3 : decode cL_reason 3 = .ok (.iload_n 1, 1) := by decide +kernel
theorem dL_reason_4 : decode cL_reason 4 = .ok (.invokevirtual 116, 3) := by decide +kernel
theorem dL_reason_7 : decode cL_reason 7 = .ok (.i2l, 1) := by decide +kernel
theorem dL_reason_8 : decode cL_reason 8 = .ok (.lastore, 1) := by decide +kernel
theorem dL_reason_9 : decode cL_reason 9 = .ok (.goto 9, 3) := by decide +kernel
theorem dL_reason_12 : decode cL_reason 12 = .ok (.astore_n 3, 1) := by decide +kernel
theorem dL_reason_13 : decode cL_reason 13 = .ok (.iconst 1, 1) := by decide +kernel
theorem dL_reason_14 : decode cL_reason 14 = .ok (.ireturn, 1) := by decide +kernel
theorem dL_reason_15 : decode cL_reason 15 = .ok (.astore_n 3, 1) := by decide +kernel
theorem dL_reason_16 : decode cL_reason 16 = .ok (.iconst 2, 1) := by decide +kernel
theorem dL_reason_17 : decode cL_reason 17 = .ok (.ireturn, 1) := by decide +kernel
theorem dL_reason_18 : decode cL_reason 18 = .ok (.iconst 0, 1) := by decide +kernel
theorem dL_reason_19 : decode cL_reason 19 = .ok (.ireturn, 1) := by decide +kernel
theorem dL_line_0 : decode cL_line 0 = .ok (.aload_n 2, 1) := by decide +kernel
theorem dL_line_1 : decode cL_line 1 = .ok (.iconst 0, 1) := by decide +kernel
theorem dL_line_2 : decode cL_line 2 = .ok (.aload_n 0, 1) := by decide +kernel
theorem dL_line_3 : decode cL_line 3 = .ok (.iload_n 1, 1) := by decide +kernel
theorem dL_line_4 : decode cL_line 4 = .ok (.invokevirtual 119, 3) := by decide +kernel
theorem dL_line_7 : decode cL_line 7 = .ok (.i2l, 1) := by decide +kernel
theorem dL_line_8 : decode cL_line 8 = .ok (.lastore, 1) := by decide +kernel
theorem dL_line_9 : decode cL_line 9 = .ok (.goto 6, 3) := by decide +kernel
theorem dL_line_12 : decode cL_line 12 = .ok (.astore_n 3, 1) := by decide +kernel
theorem dL_line_13 : decode cL_line 13 = .ok (.iconst 1, 1) := by decide +kernel
theorem dL_line_14 : decode cL_line 14 = .ok (.ireturn, 1) := by decide +kernel
theorem dL_line_15 : decode cL_line 15 = .ok (.iconst 0, 1) := by decide +kernel
theorem dL_line_16 : decode cL_line 16 = .ok (.ireturn, 1) := by decide +kernel
theorem dL_character_0 : decode cL_character 0 = .ok (.aload_n 2, 1) := by decide +kernel
theorem dL_character_1 : decode cL_character 1 = .ok (.iconst 0, 1) := by decide +kernel
theorem dL_character_2 : decode cL_character 2 = .ok (.aload_n 0, 1) := by decide +kernel
theorem dL_character_3 : decode cL_character 3 = .ok (.iload_n 1, 1) := by decide +kernel
theorem dL_character_4 : decode cL_character 4 = .ok (.invokevirtual 122, 3) := by decide +kernel
theorem dL_character_7 : decode cL_character 7 = .ok (.i2l, 1) := by decide +kernel
theorem dL_character_8 : decode cL_character 8 = .ok (.lastore, 1) := by decide +kernel
theorem dL_character_9 : decode cL_character 9 = .ok (.goto 6, 3) := by decide +kernel
theorem dL_character_12 : decode cL_character 12 = .ok (.astore_n 3, 1) := by decide +kernel
theorem dL_character_13 : decode cL_character 13 = .ok (.iconst 1, 1) := by decide +kernel
theorem dL_character_14 : decode cL_character 14 = .ok (.ireturn, 1) := by decide +kernel
theorem dL_character_15 : decode cL_character 15 = .ok (.iconst 0, 1) := by decide +kernel
theorem dL_character_16 : decode cL_character 16 = .ok (.ireturn, 1) := by decide +kernel
theorem dL_meanSteps_0 : decode cL_meanSteps 0 = .ok (.aload_n 1, 1) := by decide +kernel
theorem dL_meanSteps_1 : decode cL_meanSteps 1 = .ok (.iconst 0, 1) := by decide +kernel
theorem dL_meanSteps_2 : decode cL_meanSteps 2 = .ok (.aload_n 0, 1) := by decide +kernel
theorem dL_meanSteps_3 : decode cL_meanSteps 3 = .ok (.invokevirtual 126, 3) := by decide +kernel
theorem dL_meanSteps_6 : decode cL_meanSteps 6 = .ok (.dastore, 1) := by decide +kernel
theorem dL_meanSteps_7 : decode cL_meanSteps 7 = .ok (.goto 6, 3) := by decide +kernel
theorem dL_meanSteps_10 : decode cL_meanSteps 10 = .ok (.astore_n 2, 1) := by decide +kernel
theorem dL_meanSteps_11 : decode cL_meanSteps 11 = .ok (.iconst 1, 1) := by decide +kernel
theorem dL_meanSteps_12 : decode cL_meanSteps 12 = .ok (.ireturn, 1) := by decide +kernel
theorem dL_meanSteps_13 : decode cL_meanSteps 13 = .ok (.iconst 0, 1) := by decide +kernel
theorem dL_meanSteps_14 : decode cL_meanSteps 14 = .ok (.ireturn, 1) := by decide +kernel
theorem dL_skippedShare_0 : decode cL_skippedShare 0 = .ok (.aload_n 1, 1) := by decide +kernel
theorem dL_skippedShare_1 : decode cL_skippedShare 1 = .ok (.iconst 0, 1) := by decide +kernel
theorem dL_skippedShare_2 : decode cL_skippedShare 2 = .ok (.aload_n 0, 1) := by decide +kernel
theorem dL_skippedShare_3 : decode cL_skippedShare 3 = .ok (.invokevirtual 132, 3) := by decide +kernel
theorem dL_skippedShare_6 : decode cL_skippedShare 6 = .ok (.f2d, 1) := by decide +kernel
theorem dL_skippedShare_7 : decode cL_skippedShare 7 = .ok (.dastore, 1) := by decide +kernel
theorem dL_skippedShare_8 : decode cL_skippedShare 8 = .ok (.goto 6, 3) := by decide +kernel
theorem dL_skippedShare_11 : decode cL_skippedShare 11 = .ok (.astore_n 2, 1) := by decide +kernel
theorem dL_skippedShare_12 : decode cL_skippedShare 12 = .ok (.iconst 1, 1) := by decide +kernel
theorem dL_skippedShare_13 : decode cL_skippedShare 13 = .ok (.ireturn, 1) := by decide +kernel
theorem dL_skippedShare_14 : decode cL_skippedShare 14 = .ok (.iconst 0, 1) := by decide +kernel
theorem dL_skippedShare_15 : decode cL_skippedShare 15 = .ok (.ireturn, 1) := by decide +kernel
theorem dL_account_0 : decode cL_account 0 = .ok (.aload_n 2, 1) := by decide +kernel
theorem dL_account_1 : decode cL_account 1 = .ok (.iconst 0, 1) := by decide +kernel
theorem dL_account_2 : decode cL_account 2 = .ok (.aload_n 0, 1) := by decide +kernel
theorem dL_account_3 : decode cL_account 3 = .ok (.iload_n 1, 1) := by decide +kernel
theorem dL_account_4 : decode cL_account 4 = .ok (.invokevirtual 136, 3) := by decide +kernel
theorem dL_account_7 : decode cL_account 7 = .ok (.i2l, 1) := by decide +kernel
theorem dL_account_8 : decode cL_account 8 = .ok (.lastore, 1) := by decide +kernel
theorem dL_account_9 : decode cL_account 9 = .ok (.goto 6, 3) := by decide +kernel
theorem dL_account_12 : decode cL_account 12 = .ok (.astore_n 3, 1) := by decide +kernel
theorem dL_account_13 : decode cL_account 13 = .ok (.iconst 1, 1) := by decide +kernel
theorem dL_account_14 : decode cL_account 14 = .ok (.ireturn, 1) := by decide +kernel
theorem dL_account_15 : decode cL_account 15 = .ok (.iconst 0, 1) := by decide +kernel
theorem dL_account_16 : decode cL_account 16 = .ok (.ireturn, 1) := by decide +kernel
theorem dL_undo_0 : decode cL_undo 0 = .ok (.aload_n 1, 1) := by decide +kernel
theorem dL_undo_1 : decode cL_undo 1 = .ok (.iconst 0, 1) := by decide +kernel
theorem dL_undo_2 : decode cL_undo 2 = .ok (.aload_n 0, 1) := by decide +kernel
theorem dL_undo_3 : decode cL_undo 3 = .ok (.invokevirtual 139, 3) := by decide +kernel
theorem dL_undo_6 : decode cL_undo 6 = .ok (.i2l, 1) := by decide +kernel
theorem dL_undo_7 : decode cL_undo 7 = .ok (.lastore, 1) := by decide +kernel
theorem dL_undo_8 : decode cL_undo 8 = .ok (.goto 6, 3) := by decide +kernel
theorem dL_undo_11 : decode cL_undo 11 = .ok (.astore_n 2, 1) := by decide +kernel
theorem dL_undo_12 : decode cL_undo 12 = .ok (.iconst 1, 1) := by decide +kernel
theorem dL_undo_13 : decode cL_undo 13 = .ok (.ireturn, 1) := by decide +kernel
theorem dL_undo_14 : decode cL_undo 14 = .ok (.iconst 0, 1) := by decide +kernel
theorem dL_undo_15 : decode cL_undo 15 = .ok (.ireturn, 1) := by decide +kernel
theorem dL_restore_0 : decode cL_restore 0 = .ok (.aload_n 1, 1) := by decide +kernel
theorem dL_restore_1 : decode cL_restore 1 = .ok (.iconst 0, 1) := by decide +kernel
theorem dL_restore_2 : decode cL_restore 2 = .ok (.aload_n 0, 1) := by decide +kernel
theorem dL_restore_3 : decode cL_restore 3 = .ok (.invokevirtual 142, 3) := by decide +kernel
theorem dL_restore_6 : decode cL_restore 6 = .ok (.i2l, 1) := by decide +kernel
theorem dL_restore_7 : decode cL_restore 7 = .ok (.lastore, 1) := by decide +kernel
theorem dL_restore_8 : decode cL_restore 8 = .ok (.goto 6, 3) := by decide +kernel
theorem dL_restore_11 : decode cL_restore 11 = .ok (.astore_n 2, 1) := by decide +kernel
theorem dL_restore_12 : decode cL_restore 12 = .ok (.iconst 1, 1) := by decide +kernel
theorem dL_restore_13 : decode cL_restore 13 = .ok (.ireturn, 1) := by decide +kernel
theorem dL_restore_14 : decode cL_restore 14 = .ok (.iconst 0, 1) := by decide +kernel
theorem dL_restore_15 : decode cL_restore 15 = .ok (.ireturn, 1) := by decide +kernel
