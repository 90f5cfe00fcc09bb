theorem dX10_cousinOf_5 : decode cX10_cousinOf 5 = .ok (.astore_n 3, 1) := by decide +kernel
theorem dX10_cousinOf_6 : decode cX10_cousinOf 6 = .ok (.iload_n 2, 1) := by decide +kernel
theorem dX10_cousinOf_7 : decode cX10_cousinOf 7 = .ok (.tableswitch 69 0 4 #[33, 38, 43, 51, 60], 33) := by decide +kernel
theorem dX10_cousinOf_40 : decode cX10_cousinOf 40 = .ok (.aload_n 3, 1) := by decide +kernel
theorem dX10_cousinOf_41 : decode cX10_cousinOf 41 = .ok (.getfield 180, 3) := by decide +kernel
theorem dX10_cousinOf_44 : decode cX10_cousinOf 44 = .ok (.ireturn, 1) := by decide +kernel
theorem dX10_cousinOf_45 : decode cX10_cousinOf 45 = .ok (.aload_n 3, 1) := by decide +kernel
theorem dX10_cousinOf_46 : decode cX10_cousinOf 46 = .ok (.getfield 185, 3) := by decide +kernel
theorem dX10_cousinOf_49 : decode cX10_cousinOf 49 = .ok (.ireturn, 1) := by decide +kernel
theorem dX10_cousinOf_50 : decode cX10_cousinOf 50 = .ok (.aload_n 3, 1) := by decide +kernel
theorem dX10_cousinOf_51 : decode cX10_cousinOf 51 = .ok (.getfield 185, 3) := by decide +kernel
theorem dX10_cousinOf_54 : decode cX10_cousinOf 54 = .ok (.invokestatic 187, 3) := by decide +kernel
theorem dX10_cousinOf_57 : decode cX10_cousinOf 57 = .ok (.ireturn, 1) := by decide +kernel
theorem dX10_cousinOf_58 : decode cX10_cousinOf 58 = .ok (.aload_n 0, 1) := by decide +kernel
theorem dX10_cousinOf_59 : decode cX10_cousinOf 59 = .ok (.getfield 20, 3) := by decide +kernel
theorem dX10_cousinOf_62 : decode cX10_cousinOf 62 = .ok (.iload_n 1, 1) := by decide +kernel
theorem dX10_cousinOf_63 : decode cX10_cousinOf 63 = .ok (.invokevirtual 192, 3) := by decide +kernel
theorem dX10_cousinOf_66 : decode cX10_cousinOf 66 = .ok (.ireturn, 1) := by decide +kernel
theorem dX10_cousinOf_67 : decode cX10_cousinOf 67 = .ok (.aload_n 0, 1) := by decide +kernel
theorem dX10_cousinOf_68 : decode cX10_cousinOf 68 = .ok (.getfield 20, 3) := by decide +kernel
theorem dX10_cousinOf_71 : decode cX10_cousinOf 71 = .ok (.iload_n 1, 1) := by decide +kernel
theorem dX10_cousinOf_72 : decode cX10_cousinOf 72 = .ok (.invokevirtual 195, 3) := by decide +kernel
theorem dX10_cousinOf_75 : decode cX10_cousinOf 75 = .ok (.ireturn, 1) := by decide +kernel
theorem dX10_cousinOf_76 : decode cX10_cousinOf 76 = .ok (.new 148, 3) := by decide +kernel
theorem dX10_cousinOf_79 : decode cX10_cousinOf 79 = .ok (.dup, 1) := by decide +kernel
theorem dX10_cousinOf_80 : decode cX10_cousinOf 80 = .ok (.ldc 198, 2) := by decide +kernel
theorem dX10_cousinOf_82 : decode cX10_cousinOf 82 = .ok (.invokespecial 152, 3) := by decide +kernel
theorem dX10_cousinOf_85 : decode cX10_cousinOf 85 = .ok (.athrow, 1) := by decide +kernel
set_option maxRecDepth 20000 in
theorem ggX10_leafletAt_X0_hasLeaflet : GoodIn wsX10_leafletAt wsX0_hasLeaflet := goodIn_r _ [9, 10, 11, 12, 13, 23, 24, 25, 26, 27, 28, 29, 30, 31] (by decide +kernel) (by decide +kernel)
set_option maxRecDepth 20000 in
theorem gX10_leafletAt_X0_hasLeaflet : GoodIn wsX10_leafletAt (wsV RX10 200 RX0 yX0_hasLeaflet wsX0_hasLeaflet) := goodIn_app (goodIn_of _ (by decide +kernel)) ggX10_leafletAt_X0_hasLeaflet
theorem dX10_leafletAt_0 : decode cX10_leafletAt 0 = .ok (.aload_n 0, 1) := by decide +kernel
theorem dX10_leafletAt_1 : decode cX10_leafletAt 1 = .ok (.getfield 20, 3) := by decide +kernel
theorem dX10_leafletAt_4 : decode cX10_leafletAt 4 = .ok (.iload_n 1, 1) := by decide +kernel
theorem dX10_leafletAt_5 : decode cX10_leafletAt 5 = .ok (.invokevirtual 200, 3) := by decide +kernel
theorem dX10_leafletAt_8 : decode cX10_leafletAt 8 = .ok (.ifCond .ne 13, 3) := by decide +kernel
theorem dX10_leafletAt_11 : decode cX10_leafletAt 11 = .ok (.new 203, 3) := by decide +kernel
theorem dX10_leafletAt_14 : decode cX10_leafletAt 14 = .ok (.dup, 1) := by decide +kernel
theorem dX10_leafletAt_15 : decode cX10_leafletAt 15 = .ok (.ldc 205, 2) := by decide +kernel
theorem dX10_leafletAt_17 : decode cX10_leafletAt 17 = .ok (.invokespecial 207, 3) := by decide +kernel
theorem dX10_leafletAt_20 : decode cX10_leafletAt 20 = .ok (.athrow, 1) := by decide +kernel
theorem dX10_leafletAt_21 : decode cX10_leafletAt 21 = .ok (.aload_n 0, 1) := by decide +kernel
theorem dX10_leafletAt_22 : decode cX10_leafletAt 22 = .ok (.getfield 20, 3) := by decide +kernel
theorem dX10_leafletAt_25 : decode cX10_leafletAt 25 = .ok (.getfield 208, 3) := by decide +kernel
theorem dX10_leafletAt_28 : decode cX10_leafletAt 28 = .ok (.iload_n 1, 1) := by decide +kernel
theorem dX10_leafletAt_29 : decode cX10_leafletAt 29 = .ok (.aaload, 1) := by decide +kernel
theorem dX10_leafletAt_30 : decode cX10_leafletAt 30 = .ok (.areturn, 1) := by decide +kernel
set_option maxRecDepth 20000 in
theorem ggX10_cousinAt_X0_hasCousin : GoodIn wsX10_cousinAt wsX0_hasCousin := goodIn_r _ [9, 10, 11, 12, 13, 23, 24, 25, 26, 27, 28, 29, 30, 31] (by decide +kernel) (by decide +kernel)
set_option maxRecDepth 20000 in
theorem gX10_cousinAt_X0_hasCousin : GoodIn wsX10_cousinAt (wsV RX10 212 RX0 yX0_hasCousin wsX0_hasCousin) := goodIn_app (goodIn_of _ (by decide +kernel)) ggX10_cousinAt_X0_hasCousin
theorem dX10_cousinAt_0 : decode cX10_cousinAt 0 = .ok (.aload_n 0, 1) := by decide +kernel
theorem dX10_cousinAt_1 : decode cX10_cousinAt 1 = .ok (.getfield 20, 3) := by decide +kernel
theorem dX10_cousinAt_4 : decode cX10_cousinAt 4 = .ok (.iload_n 1, 1) := by decide +kernel
theorem dX10_cousinAt_5 : decode cX10_cousinAt 5 = .ok (.invokevirtual 212, 3) := by decide +kernel
theorem dX10_cousinAt_8 : decode cX10_cousinAt 8 = .ok (.ifCond .ne 13, 3) := by decide +kernel
theorem dX10_cousinAt_11 : decode cX10_cousinAt 11 = .ok (.new 203, 3) := by decide +kernel
theorem dX10_cousinAt_14 : decode cX10_cousinAt 14 = .ok (.dup, 1) := by decide +kernel
theorem dX10_cousinAt_15 : decode cX10_cousinAt 15 = .ok (.ldc 215, 2) := by decide +kernel
theorem dX10_cousinAt_17 : decode cX10_cousinAt 17 = .ok (.invokespecial 207, 3) := by decide +kernel
theorem dX10_cousinAt_20 : decode cX10_cousinAt 20 = .ok (.athrow, 1) := by decide +kernel
theorem dX10_cousinAt_21 : decode cX10_cousinAt 21 = .ok (.aload_n 0, 1) := by decide +kernel
theorem dX10_cousinAt_22 : decode cX10_cousinAt 22 = .ok (.getfield 20, 3) := by decide +kernel
theorem dX10_cousinAt_25 : decode cX10_cousinAt 25 = .ok (.getfield 217, 3) := by decide +kernel
theorem dX10_cousinAt_28 : decode cX10_cousinAt 28 = .ok (.iload_n 1, 1) := by decide +kernel
theorem dX10_cousinAt_29 : decode cX10_cousinAt 29 = .ok (.aaload, 1) := by decide +kernel
theorem dX10_cousinAt_30 : decode cX10_cousinAt 30 = .ok (.areturn, 1) := by decide +kernel
set_option maxRecDepth 20000 in
theorem ggX10_requireStep_X5_hasStep : GoodIn wsX10_requireStep wsX5_hasStep := goodIn_r _ [7, 8, 9, 10, 11, 12, 13, 14, 15, 16, 17, 18, 19, 20] (by decide +kernel) (by decide +kernel)
set_option maxRecDepth 20000 in
theorem gX10_requireStep_X5_hasStep : GoodIn wsX10_requireStep (wsV RX10 221 RX5 yX5_hasStep wsX5_hasStep) := goodIn_app (goodIn_of _ (by decide +kernel)) ggX10_requireStep_X5_hasStep
theorem dX10_requireStep_0 : decode cX10_requireStep 0 = .ok (.aload_n 1, 1) := by decide +kernel
theorem dX10_requireStep_1 : decode cX10_requireStep 1 = .ok (.iload_n 2, 1) := by decide +kernel
theorem dX10_requireStep_2 : decode cX10_requireStep 2 = .ok (.invokevirtual 221, 3) := by decide +kernel
theorem dX10_requireStep_5 : decode cX10_requireStep 5 = .ok (.ifCond .ne 13, 3) := by decide +kernel
theorem dX10_requireStep_8 : decode cX10_requireStep 8 = .ok (.new 224, 3) := by decide +kernel
theorem dX10_requireStep_11 : decode cX10_requireStep 11 = .ok (.dup, 1) := by decide +kernel
theorem dX10_requireStep_12 : decode cX10_requireStep 12 = .ok (.ldc 226, 2) := by decide +kernel
theorem dX10_requireStep_14 : decode cX10_requireStep 14 = .ok (.invokespecial 228, 3) := by decide +kernel
theorem dX10_requireStep_17 : decode cX10_requireStep 17 = .ok (.athrow, 1) := by decide +kernel
theorem dX10_requireStep_18 : decode cX10_requireStep 18 = .ok (.return_, 1) := by decide +kernel
set_option maxRecDepth 20000 in
theorem ggX10_requireKind_X10_isWithin : GoodIn wsX10_requireKind wsX10_isWithin := goodIn_r _ [6] (by decide +kernel) (by decide +kernel)
set_option maxRecDepth 20000 in
theorem gX10_requireKind_X10_isWithin : GoodIn wsX10_requireKind (va_wsS RX10 229 yX10_isWithin wsX10_isWithin) := goodIn_app (goodIn_of _ (by decide +kernel)) ggX10_requireKind_X10_isWithin
theorem dX10_requireKind_0 : decode cX10_requireKind 0 = .ok (.iload_n 1, 1) := by decide +kernel
theorem dX10_requireKind_1 : decode cX10_requireKind 1 = .ok (.iconst 0, 1) := by decide +kernel
theorem dX10_requireKind_2 : decode cX10_requireKind 2 = .ok (.iconst 5, 1) := by decide +kernel
theorem dX10_requireKind_3 : decode cX10_requireKind 3 = .ok (.invokestatic 229, 3) := by decide +kernel
theorem dX10_requireKind_6 : decode cX10_requireKind 6 = .ok (.ifCond .ne 13, 3) := by decide +kernel
theorem dX10_requireKind_9 : decode cX10_requireKind 9 = .ok (.new 148, 3) := by decide +kernel
theorem dX10_requireKind_12 : decode cX10_requireKind 12 = .ok (.dup, 1) := by decide +kernel
theorem dX10_requireKind_13 : decode cX10_requireKind 13 = .ok (.ldc 233, 2) := by decide +kernel
theorem dX10_requireKind_15 : decode cX10_requireKind 15 = .ok (.invokespecial 152, 3) := by decide +kernel
theorem dX10_requireKind_18 : decode cX10_requireKind 18 = .ok (.athrow, 1) := by decide +kernel
theorem dX10_requireKind_19 : decode cX10_requireKind 19 = .ok (.return_, 1) := by decide +kernel
set_option maxRecDepth 20000 in
theorem ggX10_why_X10_cousinAt : GoodIn wsX10_why wsX10_cousinAt := goodIn_ca (goodIn_r _ [8, 9, 10, 11, 12, 13, 14, 15, 16, 17, 18, 19, 7, 20, 69, 70, 71, 72, 73, 74, 75, 76, 77, 78, 79, 80, 81, 82, 83, 84, 85, 86] (by decide +kernel) (by decide +kernel)) (goodIn_sub (fun _ h => List.mem_cons_of_mem _ (List.mem_append_left _ (List.mem_append_right _ h))) (by decide +kernel))
set_option maxRecDepth 20000 in
theorem gX10_why_X10_cousinAt : GoodIn wsX10_why (wsV RX10 176 RX10 yX10_cousinAt wsX10_cousinAt) := goodIn_app (goodIn_of _ (by decide +kernel)) ggX10_why_X10_cousinAt
set_option maxRecDepth 20000 in
theorem ggX10_why_X10_leafletAt : GoodIn wsX10_why wsX10_leafletAt := goodIn_ca (goodIn_r _ [24, 9, 10, 11, 25, 26, 27, 28, 16, 29, 30, 19, 7, 20, 69, 70, 71, 72, 73, 74, 75, 76, 77, 78, 79, 80, 81, 82, 83, 84, 85, 86] (by decide +kernel) (by decide +kernel)) (goodIn_sub (fun _ h => List.mem_cons_of_mem _ (List.mem_append_left _ (List.mem_append_right _ h))) (by decide +kernel))
set_option maxRecDepth 20000 in
theorem gX10_why_X10_leafletAt : GoodIn wsX10_why (wsV RX10 113 RX10 yX10_leafletAt wsX10_leafletAt) := goodIn_app (goodIn_of _ (by decide +kernel)) ggX10_why_X10_leafletAt
set_option maxRecDepth 20000 in
theorem ggX10_why_X10_requireStep : GoodIn wsX10_why wsX10_requireStep := goodIn_ca (goodIn_r _ [34, 35, 36, 37, 38, 39, 40, 41, 42, 19, 7, 20, 58, 59, 60, 61, 62, 63, 64, 65, 66] (by decide +kernel) (by decide +kernel)) (goodIn_sub (fun _ h => List.mem_cons_of_mem _ (List.mem_append_right _ h)) (by decide +kernel))
set_option maxRecDepth 20000 in
theorem gX10_why_X10_requireStep : GoodIn wsX10_why (wsV RX10 153 RX10 yX10_requireStep wsX10_requireStep) := goodIn_app (goodIn_of _ (by decide +kernel)) ggX10_why_X10_requireStep
set_option maxRecDepth 20000 in
theorem ggX10_why_X5_open : GoodIn wsX10_why wsX5_open := goodIn_r _ [46, 47, 48, 49, 50, 40, 51, 42, 58, 59, 60, 61, 62, 63, 64, 65, 66] (by decide +kernel) (by decide +kernel)
set_option maxRecDepth 20000 in
theorem gX10_why_X5_open : GoodIn wsX10_why (wsV RX10 126 RX5 yX5_open wsX5_open) := goodIn_app (goodIn_of _ (by decide +kernel)) ggX10_why_X5_open
set_option maxRecDepth 20000 in
theorem ggX10_why_X5_partsOfStep : GoodIn wsX10_why wsX5_partsOfStep := goodIn_r _ [55, 56, 57, 58, 59, 60, 61, 62, 63, 64, 65, 66] (by decide +kernel) (by decide +kernel)
set_option maxRecDepth 20000 in
theorem gX10_why_X5_partsOfStep : GoodIn wsX10_why (wsV RX10 161 RX5 yX5_partsOfStep wsX5_partsOfStep) := goodIn_app (goodIn_of _ (by decide +kernel)) ggX10_why_X5_partsOfStep
theorem dX10_why_0 : decode cX10_why 0 = .ok (.aload_n 0, 1) := by decide +kernel
theorem dX10_why_1 : decode cX10_why 1 = .ok (.iload_n 1, 1) := by decide +kernel
theorem dX10_why_2 : decode cX10_why 2 = .ok (.invokevirtual 176, 3) := by decide +kernel
theorem dX10_why_5 : decode cX10_why 5 = .ok (.astore 4, 2) := by decide +kernel
theorem dX10_why_7 : decode cX10_why 7 = .ok (.aload_n 0, 1) := by decide +kernel
theorem dX10_why_8 : decode cX10_why 8 = .ok (.iload_n 2, 1) := by decide +kernel
theorem dX10_why_9 : decode cX10_why 9 = .ok (.invokevirtual 113, 3) := by decide +kernel
theorem dX10_why_12 : decode cX10_why 12 = .ok (.astore 5, 2) := by decide +kernel
theorem dX10_why_14 : decode cX10_why 14 = .ok (.aload_n 0, 1) := by decide +kernel
theorem dX10_why_15 : decode cX10_why 15 = .ok (.aload 5, 2) := by decide +kernel
theorem dX10_why_17 : decode cX10_why 17 = .ok (.iload_n 3, 1) := by decide +kernel
theorem dX10_why_18 : decode cX10_why 18 = .ok (.invokevirtual 153, 3) := by decide +kernel
theorem dX10_why_21 : decode cX10_why 21 = .ok (.iload_n 3, 1) := by decide +kernel
theorem dX10_why_22 : decode cX10_why 22 = .ok (.aload 5, 2) := by decide +kernel
theorem dX10_why_24 : decode cX10_why 24 = .ok (.invokevirtual 126, 3) := by decide +kernel
theorem dX10_why_27 : decode cX10_why 27 = .ok (.if_icmp .lt 5, 3) := by decide +kernel
theorem dX10_why_30 : decode cX10_why 30 = .ok (.iconst 1, 1) := by decide +kernel
theorem dX10_why_31 : decode cX10_why 31 = .ok (.ireturn, 1) := by decide +kernel
theorem dX10_why_32 : decode cX10_why 32 = .ok (.aload 5, 2) := by decide +kernel
theorem dX10_why_34 : decode cX10_why 34 = .ok (.getfield 164, 3) := by decide +kernel
theorem dX10_why_37 : decode cX10_why 37 = .ok (.iload_n 3, 1) := by decide +kernel
theorem dX10_why_38 : decode cX10_why 38 = .ok (.iaload, 1) := by decide +kernel
theorem dX10_why_39 : decode cX10_why 39 = .ok (.aload 4, 2) := by decide +kernel
theorem dX10_why_41 : decode cX10_why 41 = .ok (.getfield 185, 3) := by decide +kernel
theorem dX10_why_44 : decode cX10_why 44 = .ok (.iand, 1) := by decide +kernel
theorem dX10_why_45 : decode cX10_why 45 = .ok (.ifCond .ne 5, 3) := by decide +kernel
theorem dX10_why_48 : decode cX10_why 48 = .ok (.iconst 2, 1) := by decide +kernel
theorem dX10_why_49 : decode cX10_why 49 = .ok (.ireturn, 1) := by decide +kernel
theorem dX10_why_50 : decode cX10_why 50 = .ok (.aload 5, 2) := by decide +kernel
theorem dX10_why_52 : decode cX10_why 52 = .ok (.iload_n 3, 1) := by decide +kernel
theorem dX10_why_53 : decode cX10_why 53 = .ok (.invokevirtual 161, 3) := by decide +kernel
theorem dX10_why_56 : decode cX10_why 56 = .ok (.aload 4, 2) := by decide +kernel
theorem dX10_why_58 : decode cX10_why 58 = .ok (.getfield 180, 3) := by decide +kernel
theorem dX10_why_61 : decode cX10_why 61 = .ok (.if_icmp .ge 5, 3) := by decide +kernel
theorem dX10_why_64 : decode cX10_why 64 = .ok (.iconst 3, 1) := by decide +kernel
theorem dX10_why_65 : decode cX10_why 65 = .ok (.ireturn, 1) := by decide +kernel
theorem dX10_why_66 : decode cX10_why 66 = .ok (.iconst 0, 1) := by decide +kernel
theorem dX10_why_67 : decode cX10_why 67 = .ok (.ireturn, 1) := by decide +kernel
set_option maxRecDepth 20000 in
theorem ggX10_whyAgain_X10_cousinAt : GoodIn wsX10_whyAgain wsX10_cousinAt := goodIn_ca (goodIn_r _ [8, 9, 10, 11, 12, 13, 14, 15, 16, 17, 18, 19, 7, 20, 80, 81, 82, 83, 84, 85, 86, 87, 88, 89, 90, 91, 92, 93, 94, 95, 96, 97] (by decide +kernel) (by decide +kernel)) (goodIn_sub (fun _ h => List.mem_cons_of_mem _ (List.mem_append_left _ (List.mem_append_right _ h))) (by decide +kernel))
set_option maxRecDepth 20000 in
theorem gX10_whyAgain_X10_cousinAt : GoodIn wsX10_whyAgain (wsV RX10 176 RX10 yX10_cousinAt wsX10_cousinAt) := goodIn_app (goodIn_of _ (by decide +kernel)) ggX10_whyAgain_X10_cousinAt
set_option maxRecDepth 20000 in
theorem ggX10_whyAgain_X10_leafletAt : GoodIn wsX10_whyAgain wsX10_leafletAt := goodIn_ca (goodIn_r _ [24, 9, 10, 11, 25, 26, 27, 28, 16, 29, 30, 19, 7, 20, 80, 81, 82, 83, 84, 85, 86, 87, 88, 89, 90, 91, 92, 93, 94, 95, 96, 97] (by decide +kernel) (by decide +kernel)) (goodIn_sub (fun _ h => List.mem_cons_of_mem _ (List.mem_append_left _ (List.mem_append_right _ h))) (by decide +kernel))
set_option maxRecDepth 20000 in
theorem gX10_whyAgain_X10_leafletAt : GoodIn wsX10_whyAgain (wsV RX10 113 RX10 yX10_leafletAt wsX10_leafletAt) := goodIn_app (goodIn_of _ (by decide +kernel)) ggX10_whyAgain_X10_leafletAt
set_option maxRecDepth 20000 in
theorem ggX10_whyAgain_X10_requireStep : GoodIn wsX10_whyAgain wsX10_requireStep := goodIn_ca (goodIn_r _ [34, 35, 36, 37, 38, 39, 40, 41, 42, 19, 7, 20, 69, 70, 71, 72, 73, 74, 75, 76, 77] (by decide +kernel) (by decide +kernel)) (goodIn_sub (fun _ h => List.mem_cons_of_mem _ (List.mem_append_right _ h)) (by decide +kernel))
set_option maxRecDepth 20000 in
theorem gX10_whyAgain_X10_requireStep : GoodIn wsX10_whyAgain (wsV RX10 153 RX10 yX10_requireStep wsX10_requireStep) := goodIn_app (goodIn_of _ (by decide +kernel)) ggX10_whyAgain_X10_requireStep
set_option maxRecDepth 20000 in
theorem ggX10_whyAgain_X5_stepsUnder : GoodIn wsX10_whyAgain wsX5_stepsUnder := goodIn_r _ [46, 42, 47, 48, 49, 40, 50, 69, 70, 71, 72, 73, 74, 75, 76, 77] (by decide +kernel) (by decide +kernel)
set_option maxRecDepth 20000 in
theorem gX10_whyAgain_X5_stepsUnder : GoodIn wsX10_whyAgain (wsV RX10 235 RX5 yX5_stepsUnder wsX5_stepsUnder) := goodIn_app (goodIn_of _ (by decide +kernel)) ggX10_whyAgain_X5_stepsUnder
set_option maxRecDepth 20000 in
theorem ggX10_whyAgain_X10_contains : GoodIn wsX10_whyAgain wsX10_contains := goodIn_r _ [53] (by decide +kernel) (by decide +kernel)
set_option maxRecDepth 20000 in
theorem gX10_whyAgain_X10_contains : GoodIn wsX10_whyAgain (va_wsS RX10 238 yX10_contains wsX10_contains) := goodIn_app (goodIn_of _ (by decide +kernel)) ggX10_whyAgain_X10_contains
set_option maxRecDepth 20000 in
theorem ggX10_whyAgain_X5_stepsUnreadBy : GoodIn wsX10_whyAgain wsX5_stepsUnreadBy := goodIn_r _ [57, 42, 58, 69, 70, 71, 72, 73, 74, 75, 76, 77] (by decide +kernel) (by decide +kernel)
set_option maxRecDepth 20000 in
theorem gX10_whyAgain_X5_stepsUnreadBy : GoodIn wsX10_whyAgain (wsV RX10 242 RX5 yX5_stepsUnreadBy wsX5_stepsUnreadBy) := goodIn_app (goodIn_of _ (by decide +kernel)) ggX10_whyAgain_X5_stepsUnreadBy
set_option maxRecDepth 20000 in
theorem ggX10_whyAgain_X5_stepsBelow : GoodIn wsX10_whyAgain wsX5_stepsBelow := goodIn_r _ [62, 42, 63, 64, 65, 40, 66, 67, 68, 69, 70, 71, 72, 73, 74, 75, 76, 77] (by decide +kernel) (by decide +kernel)
set_option maxRecDepth 20000 in
theorem gX10_whyAgain_X5_stepsBelow : GoodIn wsX10_whyAgain (wsV RX10 245 RX5 yX5_stepsBelow wsX5_stepsBelow) := goodIn_app (goodIn_of _ (by decide +kernel)) ggX10_whyAgain_X5_stepsBelow
theorem dX10_whyAgain_0 : decode cX10_whyAgain 0 = .ok (.aload_n 0, 1) := by decide +kernel
theorem dX10_whyAgain_1 : decode cX10_whyAgain 1 = .ok (.iload_n 1, 1) := by decide +kernel
theorem dX10_whyAgain_2 : decode cX10_whyAgain 2 = .ok (.invokevirtual 176, 3) := by decide +kernel
theorem dX10_whyAgain_5 : decode cX10_whyAgain 5 = .ok (.astore 4, 2) := by decide +kernel
theorem dX10_whyAgain_7 : decode cX10_whyAgain 7 = .ok (.aload_n 0, 1) := by decide +kernel
theorem dX10_whyAgain_8 : decode cX10_whyAgain 8 = .ok (.iload_n 2, 1) := by decide +kernel
theorem dX10_whyAgain_9 : decode cX10_whyAgain 9 = .ok (.invokevirtual 113, 3) := by decide +kernel
theorem dX10_whyAgain_12 : decode cX10_whyAgain 12 = .ok (.astore 5, 2) := by decide +kernel
theorem dX10_whyAgain_14 : decode cX10_whyAgain 14 = .ok (.aload_n 0, 1) := by decide +kernel
theorem dX10_whyAgain_15 : decode cX10_whyAgain 15 = .ok (.aload 5, 2) := by decide +kernel
theorem dX10_whyAgain_17 : decode cX10_whyAgain 17 = .ok (.iload_n 3, 1) := by decide +kernel
theorem dX10_whyAgain_18 : decode cX10_whyAgain 18 = .ok (.invokevirtual 153, 3) := by decide +kernel
theorem dX10_whyAgain_21 : decode cX10_whyAgain 21 = .ok (.aload 5, 2) := by decide +kernel
theorem dX10_whyAgain_23 : decode cX10_whyAgain 23 = .ok (.aload 5, 2) := by decide +kernel
theorem dX10_whyAgain_25 : decode cX10_whyAgain 25 = .ok (.getfield 123, 3) := by decide +kernel
theorem dX10_whyAgain_28 : decode cX10_whyAgain 28 = .ok (.invokevirtual 235, 3) := by decide +kernel
theorem dX10_whyAgain_31 : decode cX10_whyAgain 31 = .ok (.iload_n 3, 1) := by decide +kernel
theorem dX10_whyAgain_32 : decode cX10_whyAgain 32 = .ok (.invokestatic 238, 3) := by decide +kernel
theorem dX10_whyAgain_35 : decode cX10_whyAgain 35 = .ok (.ifCond .eq 5, 3) := by decide +kernel
theorem dX10_whyAgain_38 : decode cX10_whyAgain 38 = .ok (.iconst 1, 1) := by decide +kernel
theorem dX10_whyAgain_39 : decode cX10_whyAgain 39 = .ok (.ireturn, 1) := by decide +kernel
theorem dX10_whyAgain_40 : decode cX10_whyAgain 40 = .ok (.aload 5, 2) := by decide +kernel
theorem dX10_whyAgain_42 : decode cX10_whyAgain 42 = .ok (.aload 4, 2) := by decide +kernel
theorem dX10_whyAgain_44 : decode cX10_whyAgain 44 = .ok (.getfield 185, 3) := by decide +kernel
theorem dX10_whyAgain_47 : decode cX10_whyAgain 47 = .ok (.invokevirtual 242, 3) := by decide +kernel
theorem dX10_whyAgain_50 : decode cX10_whyAgain 50 = .ok (.iload_n 3, 1) := by decide +kernel
theorem dX10_whyAgain_51 : decode cX10_whyAgain 51 = .ok (.invokestatic 238, 3) := by decide +kernel
theorem dX10_whyAgain_54 : decode cX10_whyAgain 54 = .ok (.ifCond .eq 5, 3) := by decide +kernel
theorem dX10_whyAgain_57 : decode cX10_whyAgain 57 = .ok (.iconst 2, 1) := by decide +kernel
theorem dX10_whyAgain_58 : decode cX10_whyAgain 58 = .ok (.ireturn, 1) := by decide +kernel
theorem dX10_whyAgain_59 : decode cX10_whyAgain 59 = .ok (.aload 5, 2) := by decide +kernel
theorem dX10_whyAgain_61 : decode cX10_whyAgain 61 = .ok (.aload 4, 2) := by decide +kernel
theorem dX10_whyAgain_63 : decode cX10_whyAgain 63 = .ok (.getfield 180, 3) := by decide +kernel
theorem dX10_whyAgain_66 : decode cX10_whyAgain 66 = .ok (.invokevirtual 245, 3) := by decide +kernel
theorem dX10_whyAgain_69 : decode cX10_whyAgain 69 = .ok (.iload_n 3, 1) := by decide +kernel
theorem dX10_whyAgain_70 : decode cX10_whyAgain 70 = .ok (.invokestatic 238, 3) := by decide +kernel
theorem dX10_whyAgain_73 : decode cX10_whyAgain 73 = .ok (.ifCond .eq 5, 3) := by decide +kernel
theorem dX10_whyAgain_76 : decode cX10_whyAgain 76 = .ok (.iconst 3, 1) := by decide +kernel
theorem dX10_whyAgain_77 : decode cX10_whyAgain 77 = .ok (.ireturn, 1) := by decide +kernel
theorem dX10_whyAgain_78 : decode cX10_whyAgain 78 = .ok (.iconst 0, 1) := by decide +kernel
theorem dX10_whyAgain_79 : decode cX10_whyAgain 79 = .ok (.ireturn, 1) := by decide +kernel
set_option maxRecDepth 20000 in
theorem ggX10_wouldSkip_X10_cousinAt : GoodIn wsX10_wouldSkip wsX10_cousinAt := goodIn_ca (goodIn_r _ [5, 6, 7, 8, 9, 10, 11, 12, 13, 14, 15, 16, 4, 17, 64, 65, 66, 67, 68, 69, 70, 71, 72, 73, 74, 75, 76, 77, 78, 79, 80, 81] (by decide +kernel) (by decide +kernel)) (goodIn_sub (fun _ h => List.mem_cons_of_mem _ (List.mem_append_right _ h)) (by decide +kernel))
set_option maxRecDepth 20000 in
theorem gX10_wouldSkip_X10_cousinAt : GoodIn wsX10_wouldSkip (wsV RX10 176 RX10 yX10_cousinAt wsX10_cousinAt) := goodIn_app (goodIn_of _ (by decide +kernel)) ggX10_wouldSkip_X10_cousinAt
set_option maxRecDepth 20000 in
theorem ggX10_wouldSkip_X10_leafletAt : GoodIn wsX10_wouldSkip wsX10_leafletAt := goodIn_ca (goodIn_r _ [21, 6, 7, 8, 22, 23, 24, 25, 13, 26, 27, 16, 4, 17, 64, 65, 66, 67, 68, 69, 70, 71, 72, 73, 74, 75, 76, 77, 78, 79, 80, 81] (by decide +kernel) (by decide +kernel)) (goodIn_sub (fun _ h => List.mem_cons_of_mem _ (List.mem_append_right _ h)) (by decide +kernel))
set_option maxRecDepth 20000 in
theorem gX10_wouldSkip_X10_leafletAt : GoodIn wsX10_wouldSkip (wsV RX10 113 RX10 yX10_leafletAt wsX10_leafletAt) := goodIn_app (goodIn_of _ (by decide +kernel)) ggX10_wouldSkip_X10_leafletAt
set_option maxRecDepth 20000 in
theorem ggX10_wouldSkip_X5_stepsSkippedBy : GoodIn wsX10_wouldSkip wsX5_stepsSkippedBy := goodIn_r _ [32, 33, 34, 35, 36, 37, 38, 31, 39, 40, 41, 42, 43, 44, 45, 46, 47, 48, 49, 50, 51, 52, 53, 54, 55, 56, 57, 58, 59, 60, 61, 62, 63, 82, 83, 84, 85, 86, 87, 88, 89, 90, 91, 92] (by decide +kernel) (by decide +kernel)
set_option maxRecDepth 20000 in
theorem gX10_wouldSkip_X5_stepsSkippedBy : GoodIn wsX10_wouldSkip (wsV RX10 248 RX5 yX5_stepsSkippedBy wsX5_stepsSkippedBy) := goodIn_app (goodIn_of _ (by decide +kernel)) ggX10_wouldSkip_X5_stepsSkippedBy
theorem dX10_wouldSkip_0 : decode cX10_wouldSkip 0 = .ok (.aload_n 0, 1) := by decide +kernel
theorem dX10_wouldSkip_1 : decode cX10_wouldSkip 1 = .ok (.iload_n 1, 1) := by decide +kernel
theorem dX10_wouldSkip_2 : decode cX10_wouldSkip 2 = .ok (.invokevirtual 176, 3) := by decide +kernel
theorem dX10_wouldSkip_5 : decode cX10_wouldSkip 5 = .ok (.astore_n 3, 1) := by decide +kernel
theorem dX10_wouldSkip_6 : decode cX10_wouldSkip 6 = .ok (.aload_n 0, 1) := by decide +kernel
theorem dX10_wouldSkip_7 : decode cX10_wouldSkip 7 = .ok (.iload_n 2, 1) := by decide +kernel
theorem dX10_wouldSkip_8 : decode cX10_wouldSkip 8 = .ok (.invokevirtual 113, 3) := by decide +kernel
theorem dX10_wouldSkip_11 : decode cX10_wouldSkip 11 = .ok (.astore 4, 2) := by decide +kernel
theorem dX10_wouldSkip_13 : decode cX10_wouldSkip 13 = .ok (.aload 4, 2) := by decide +kernel
theorem dX10_wouldSkip_15 : decode cX10_wouldSkip 15 = .ok (.aload_n 3, 1) := by decide +kernel
theorem dX10_wouldSkip_16 : decode cX10_wouldSkip 16 = .ok (.invokevirtual 248, 3) := by decide +kernel
theorem dX10_wouldSkip_19 : decode cX10_wouldSkip 19 = .ok (.ireturn, 1) := by decide +kernel
set_option maxRecDepth 20000 in
theorem ggX10_wouldLeave_X10_cousinAt : GoodIn wsX10_wouldLeave wsX10_cousinAt := goodIn_ca (goodIn_r _ [5, 6, 7, 8, 9, 10, 11, 12, 13, 14, 15, 16, 4, 17, 82, 83, 84, 85, 86, 87, 88, 89, 90, 91, 92, 93, 94, 95, 96, 97, 98, 99] (by decide +kernel) (by decide +kernel)) (goodIn_sub (fun _ h => List.mem_cons_of_mem _ (List.mem_append_left _ (List.mem_append_right _ h))) (by decide +kernel))
set_option maxRecDepth 20000 in
theorem gX10_wouldLeave_X10_cousinAt : GoodIn wsX10_wouldLeave (wsV RX10 176 RX10 yX10_cousinAt wsX10_cousinAt) := goodIn_app (goodIn_of _ (by decide +kernel)) ggX10_wouldLeave_X10_cousinAt
set_option maxRecDepth 20000 in
theorem ggX10_wouldLeave_X10_leafletAt : GoodIn wsX10_wouldLeave wsX10_leafletAt := goodIn_ca (goodIn_r _ [21, 6, 7, 8, 22, 23, 24, 25, 13, 26, 27, 16, 4, 17, 82, 83, 84, 85, 86, 87, 88, 89, 90, 91, 92, 93, 94, 95, 96, 97, 98, 99] (by decide +kernel) (by decide +kernel)) (goodIn_sub (fun _ h => List.mem_cons_of_mem _ (List.mem_append_left _ (List.mem_append_right _ h))) (by decide +kernel))
set_option maxRecDepth 20000 in
theorem gX10_wouldLeave_X10_leafletAt : GoodIn wsX10_wouldLeave (wsV RX10 113 RX10 yX10_leafletAt wsX10_leafletAt) := goodIn_app (goodIn_of _ (by decide +kernel)) ggX10_wouldLeave_X10_leafletAt
set_option maxRecDepth 20000 in
theorem ggX10_wouldLeave_X10_requireKind : GoodIn wsX10_wouldLeave wsX10_requireKind := goodIn_ca (goodIn_r _ [31, 32, 33, 34, 16, 4, 17] (by decide +kernel) (by decide +kernel)) (goodIn_sub (fun _ h => List.mem_cons_of_mem _ (List.mem_append_right _ h)) (by decide +kernel))
set_option maxRecDepth 20000 in
theorem gX10_wouldLeave_X10_requireKind : GoodIn wsX10_wouldLeave (wsV RX10 251 RX10 yX10_requireKind wsX10_requireKind) := goodIn_app (goodIn_of _ (by decide +kernel)) ggX10_wouldLeave_X10_requireKind
set_option maxRecDepth 20000 in
theorem ggX10_wouldLeave_X5_stepsSkippedBy : GoodIn wsX10_wouldLeave wsX5_stepsSkippedBy := goodIn_r _ [39, 40, 41, 42, 43, 44, 45, 38, 46, 47, 48, 49, 50, 51, 52, 53, 54, 55, 56, 57, 58, 59, 60, 61, 62, 63, 64, 65, 66, 67, 68, 69, 70, 100, 101, 102, 103, 104, 105, 106, 107, 108, 109, 110] (by decide +kernel) (by decide +kernel)
set_option maxRecDepth 20000 in
theorem gX10_wouldLeave_X5_stepsSkippedBy : GoodIn wsX10_wouldLeave (wsV RX10 248 RX5 yX5_stepsSkippedBy wsX5_stepsSkippedBy) := goodIn_app (goodIn_of _ (by decide +kernel)) ggX10_wouldLeave_X5_stepsSkippedBy
set_option maxRecDepth 20000 in
theorem ggX10_wouldLeave_X5_needOf : GoodIn wsX10_wouldLeave wsX5_needOf := goodIn_r _ [74, 51, 69, 75, 4, 76, 77, 78, 79, 38, 80, 81, 70, 102, 103, 104, 105, 106, 107, 108, 109, 110] (by decide +kernel) (by decide +kernel)
set_option maxRecDepth 20000 in
theorem gX10_wouldLeave_X5_needOf : GoodIn wsX10_wouldLeave (wsV RX10 255 RX5 yX5_needOf wsX5_needOf) := goodIn_app (goodIn_of _ (by decide +kernel)) ggX10_wouldLeave_X5_needOf
theorem dX10_wouldLeave_0 : decode cX10_wouldLeave 0 = .ok (.aload_n 0, 1) := by decide +kernel
theorem dX10_wouldLeave_1 : decode cX10_wouldLeave 1 = .ok (.iload_n 1, 1) := by decide +kernel
theorem dX10_wouldLeave_2 : decode cX10_wouldLeave 2 = .ok (.invokevirtual 176, 3) := by decide +kernel
theorem dX10_wouldLeave_5 : decode cX10_wouldLeave 5 = .ok (.astore 4, 2) := by decide +kernel
theorem dX10_wouldLeave_7 : decode cX10_wouldLeave 7 = .ok (.aload_n 0, 1) := by decide +kernel
theorem dX10_wouldLeave_8 : decode cX10_wouldLeave 8 = .ok (.iload_n 2, 1) := by decide +kernel
theorem dX10_wouldLeave_9 : decode cX10_wouldLeave 9 = .ok (.invokevirtual 113, 3) := by decide +kernel
theorem dX10_wouldLeave_12 : decode cX10_wouldLeave 12 = .ok (.astore 5, 2) := by decide +kernel
theorem dX10_wouldLeave_14 : decode cX10_wouldLeave 14 = .ok (.aload_n 0, 1) := by decide +kernel
theorem dX10_wouldLeave_15 : decode cX10_wouldLeave 15 = .ok (.iload_n 3, 1) := by decide +kernel
theorem dX10_wouldLeave_16 : decode cX10_wouldLeave 16 = .ok (.invokevirtual 251, 3) := by decide +kernel
theorem dX10_wouldLeave_19 : decode cX10_wouldLeave 19 = .ok (.aload 5, 2) := by decide +kernel
theorem dX10_wouldLeave_21 : decode cX10_wouldLeave 21 = .ok (.aload 5, 2) := by decide +kernel
theorem dX10_wouldLeave_23 : decode cX10_wouldLeave 23 = .ok (.aload 4, 2) := by decide +kernel
theorem dX10_wouldLeave_25 : decode cX10_wouldLeave 25 = .ok (.invokevirtual 248, 3) := by decide +kernel
theorem dX10_wouldLeave_28 : decode cX10_wouldLeave 28 = .ok (.iload_n 3, 1) := by decide +kernel
theorem dX10_wouldLeave_29 : decode cX10_wouldLeave 29 = .ok (.invokevirtual 255, 3) := by decide +kernel
theorem dX10_wouldLeave_32 : decode cX10_wouldLeave 32 = .ok (.ireturn, 1) := by decide +kernel
set_option maxRecDepth 20000 in
theorem ggX10_bestCousin_X10_leafletAt : GoodIn wsX10_bestCousin wsX10_leafletAt := goodIn_ca (goodIn_r _ [10, 11, 12, 3, 13, 14, 15, 16, 17, 18, 19, 20, 9, 21, 69, 70, 71, 72, 73, 74, 75, 76, 77, 78, 79, 80, 81, 82, 83, 84, 85, 86] (by decide +kernel) (by decide +kernel)) (goodIn_sub (fun _ h => List.mem_cons_of_mem _ (List.mem_append_right _ h)) (by decide +kernel))
set_option maxRecDepth 20000 in
theorem gX10_bestCousin_X10_leafletAt : GoodIn wsX10_bestCousin (wsV RX10 113 RX10 yX10_leafletAt wsX10_leafletAt) := goodIn_app (goodIn_of _ (by decide +kernel)) ggX10_bestCousin_X10_leafletAt
set_option maxRecDepth 20000 in
theorem ggX10_bestCousin_X10_isBetter : GoodIn wsX10_bestCousin wsX10_isBetter := goodIn_r _ [24, 25, 26, 27, 28, 29, 30, 31, 32, 33, 34, 35, 36, 37, 38, 39, 40, 41, 42, 43, 44, 45, 46, 47, 48, 49, 50, 51, 52, 53, 54, 55, 56, 57, 58, 59, 60, 61, 62, 63, 64, 65, 66, 67, 68, 87, 88, 89, 90, 91, 92, 93, 94, 95, 96, 97] (by decide +kernel) (by decide +kernel)
set_option maxRecDepth 20000 in
theorem gX10_bestCousin_X10_isBetter : GoodIn wsX10_bestCousin (va_wsS RX10 263 yX10_isBetter wsX10_isBetter) := goodIn_app (goodIn_of _ (by decide +kernel)) ggX10_bestCousin_X10_isBetter
theorem dX10_bestCousin_0 : decode cX10_bestCousin 0 = .ok (.aload_n 0, 1) := by decide +kernel
theorem dX10_bestCousin_1 : decode cX10_bestCousin 1 = .ok (.iload_n 1, 1) := by decide +kernel
theorem dX10_bestCousin_2 : decode cX10_bestCousin 2 = .ok (.invokevirtual 113, 3) := by decide +kernel
theorem dX10_bestCousin_5 : decode cX10_bestCousin 5 = .ok (.astore_n 2, 1) := by decide +kernel
theorem dX10_bestCousin_6 : decode cX10_bestCousin 6 = .ok (.aload_n 0, 1) := by decide +kernel
theorem dX10_bestCousin_7 : decode cX10_bestCousin 7 = .ok (.getfield 20, 3) := by decide +kernel
theorem dX10_bestCousin_10 : decode cX10_bestCousin 10 = .ok (.getfield 258, 3) := by decide +kernel
theorem dX10_bestCousin_13 : decode cX10_bestCousin 13 = .ok (.ifCond .ne 14, 3) := by decide +kernel
theorem dX10_bestCousin_16 : decode cX10_bestCousin 16 = .ok (.new 224, 3) := by decide +kernel
theorem dX10_bestCousin_19 : decode cX10_bestCousin 19 = .ok (.dup, 1) := by decide +kernel
theorem dX10_bestCousin_20 : decode cX10_bestCousin 20 = .ok (.ldc_w 261, 3) := by decide +kernel
theorem dX10_bestCousin_23 : decode cX10_bestCousin 23 = .ok (.invokespecial 228, 3) := by decide +kernel
theorem dX10_bestCousin_26 : decode cX10_bestCousin 26 = .ok (.athrow, 1) := by decide +kernel
theorem dX10_bestCousin_27 : decode cX10_bestCousin 27 = .ok (.iconst 0, 1) := by decide +kernel
theorem dX10_bestCousin_28 : decode cX10_bestCousin 28 = .ok (.istore_n 3, 1) := by decide +kernel
theorem dX10_bestCousin_29 : decode cX10_bestCousin 29 = .ok (.iconst 1, 1) := by decide +kernel
theorem dX10_bestCousin_30 : decode cX10_bestCousin 30 = .ok (.istore 4, 2) := by decide +kernel
theorem dX10_bestCousin_32 : decode cX10_bestCousin 32 = .ok (.iload 4, 2) := by decide +kernel
theorem dX10_bestCousin_34 : decode cX10_bestCousin 34 = .ok (.aload_n 0, 1) := by decide +kernel
theorem dX10_bestCousin_35 : decode cX10_bestCousin 35 = .ok (.getfield 20, 3) := by decide +kernel
theorem dX10_bestCousin_38 : decode cX10_bestCousin 38 = .ok (.getfield 258, 3) := by decide +kernel
theorem dX10_bestCousin_41 : decode cX10_bestCousin 41 = .ok (.if_icmp .ge 38, 3) := by decide +kernel
theorem dX10_bestCousin_44 : decode cX10_bestCousin 44 = .ok (.aload_n 0, 1) := by decide +kernel
theorem dX10_bestCousin_45 : decode cX10_bestCousin 45 = .ok (.getfield 20, 3) := by decide +kernel
theorem dX10_bestCousin_48 : decode cX10_bestCousin 48 = .ok (.getfield 217, 3) := by decide +kernel
theorem dX10_bestCousin_51 : decode cX10_bestCousin 51 = .ok (.iload 4, 2) := by decide +kernel
theorem dX10_bestCousin_53 : decode cX10_bestCousin 53 = .ok (.aaload, 1) := by decide +kernel
theorem dX10_bestCousin_54 : decode cX10_bestCousin 54 = .ok (.aload_n 0, 1) := by decide +kernel
theorem dX10_bestCousin_55 : decode cX10_bestCousin 55 = .ok (.getfield 20, 3) := by decide +kernel
theorem dX10_bestCousin_58 : decode cX10_bestCousin 58 = .ok (.getfield 217, 3) := by decide +kernel
theorem dX10_bestCousin_61 : decode cX10_bestCousin 61 = .ok (.iload_n 3, 1) := by decide +kernel
theorem dX10_bestCousin_62 : decode cX10_bestCousin 62 = .ok (.aaload, 1) := by decide +kernel
theorem dX10_bestCousin_63 : decode cX10_bestCousin 63 = .ok (.aload_n 2, 1) := by decide +kernel
theorem dX10_bestCousin_64 : decode cX10_bestCousin 64 = .ok (.invokestatic 263, 3) := by decide +kernel
theorem dX10_bestCousin_67 : decode cX10_bestCousin 67 = .ok (.ifCond .eq 6, 3) := by decide +kernel
theorem dX10_bestCousin_70 : decode cX10_bestCousin 70 = .ok (.iload 4, 2) := by decide +kernel
theorem dX10_bestCousin_72 : decode cX10_bestCousin 72 = .ok (.istore_n 3, 1) := by decide +kernel
theorem dX10_bestCousin_73 : decode cX10_bestCousin 73 = .ok (.iinc 4 1, 3) := by decide +kernel
theorem dX10_bestCousin_76 : decode cX10_bestCousin 76 = .ok (.goto (-44), 3) := by decide +kernel
theorem dX10_bestCousin_79 : decode cX10_bestCousin 79 = .ok (.iload_n 3, 1) := by decide +kernel
theorem dX10_bestCousin_80 : decode cX10_bestCousin 80 = .ok (.ireturn, 1) := by decide +kernel
set_option maxRecDepth 20000 in
theorem ggX10_isBetter_X5_stepsSkippedBy : GoodIn wsX10_isBetter wsX5_stepsSkippedBy := goodIn_r _ [6, 7, 8, 9, 10, 11, 12, 5, 13, 14, 15, 16, 17, 18, 19, 20, 21, 22, 23, 24, 25, 26, 27, 28, 29, 30, 31, 32, 33, 34, 35, 36, 37, 45, 46, 47, 48, 49, 50, 51, 52, 53, 54, 55] (by decide +kernel) (by decide +kernel)
set_option maxRecDepth 20000 in
theorem gX10_isBetter_X5_stepsSkippedBy : GoodIn wsX10_isBetter (wsV RX10 248 RX5 yX5_stepsSkippedBy wsX5_stepsSkippedBy) := goodIn_app (goodIn_of _ (by decide +kernel)) ggX10_isBetter_X5_stepsSkippedBy
set_option maxRecDepth 20000 in
theorem ggX10_isBetter_J6_bitCount_0f7a4 : GoodIn wsX10_isBetter wsJ6_bitCount_0f7a4 := goodIn_r _ [41, 42, 43, 44] (by decide +kernel) (by decide +kernel)
set_option maxRecDepth 20000 in
theorem gX10_isBetter_J6_bitCount_0f7a4 : GoodIn wsX10_isBetter (va_wsS RX10 187 yJ6_bitCount_0f7a4 wsJ6_bitCount_0f7a4) := goodIn_app (goodIn_of _ (by decide +kernel)) ggX10_isBetter_J6_bitCount_0f7a4
theorem dX10_isBetter_0 : decode cX10_isBetter 0 = .ok (.aload_n 2, 1) := by decide +kernel
theorem dX10_isBetter_1 : decode cX10_isBetter 1 = .ok (.aload_n 0, 1) := by decide +kernel
theorem dX10_isBetter_2 : decode cX10_isBetter 2 = .ok (.invokevirtual 248, 3) := by decide +kernel
theorem dX10_isBetter_5 : decode cX10_isBetter 5 = .ok (.invokestatic 187, 3) := by decide +kernel
theorem dX10_isBetter_8 : decode cX10_isBetter 8 = .ok (.istore_n 3, 1) := by decide +kernel
theorem dX10_isBetter_9 : decode cX10_isBetter 9 = .ok (.aload_n 2, 1) := by decide +kernel
theorem dX10_isBetter_10 : decode cX10_isBetter 10 = .ok (.aload_n 1, 1) := by decide +kernel
theorem dX10_isBetter_11 : decode cX10_isBetter 11 = .ok (.invokevirtual 248, 3) := by decide +kernel
theorem dX10_isBetter_14 : decode cX10_isBetter 14 = .ok (.invokestatic 187, 3) := by decide +kernel
theorem dX10_isBetter_17 : decode cX10_isBetter 17 = .ok (.istore 4, 2) := by decide +kernel
theorem dX10_isBetter_19 : decode cX10_isBetter 19 = .ok (.iload_n 3, 1) := by decide +kernel
theorem dX10_isBetter_20 : decode cX10_isBetter 20 = .ok (.iload 4, 2) := by decide +kernel
theorem dX10_isBetter_22 : decode cX10_isBetter 22 = .ok (.if_icmp .eq 15, 3) := by decide +kernel
theorem dX10_isBetter_25 : decode cX10_isBetter 25 = .ok (.iload_n 3, 1) := by decide +kernel
theorem dX10_isBetter_26 : decode cX10_isBetter 26 = .ok (.iload 4, 2) := by decide +kernel
theorem dX10_isBetter_28 : decode cX10_isBetter 28 = .ok (.if_icmp .ge 7, 3) := by decide +kernel
theorem dX10_isBetter_31 : decode cX10_isBetter 31 = .ok (.iconst 1, 1) := by decide +kernel
theorem dX10_isBetter_32 : decode cX10_isBetter 32 = .ok (.goto 4, 3) := by decide +kernel
theorem dX10_isBetter_35 : decode cX10_isBetter 35 = .ok (.iconst 0, 1) := by decide +kernel
theorem dX10_isBetter_36 : decode cX10_isBetter 36 = .ok (.ireturn, 1) := by decide +kernel
theorem dX10_isBetter_37 : decode cX10_isBetter 37 = .ok (.aload_n 0, 1) := by decide +kernel
theorem dX10_isBetter_38 : decode cX10_isBetter 38 = .ok (.getfield 180, 3) := by decide +kernel
theorem dX10_isBetter_41 : decode cX10_isBetter 41 = .ok (.aload_n 1, 1) := by decide +kernel
theorem dX10_isBetter_42 : decode cX10_isBetter 42 = .ok (.getfield 180, 3) := by decide +kernel
theorem dX10_isBetter_45 : decode cX10_isBetter 45 = .ok (.if_icmp .ge 7, 3) := by decide +kernel
theorem dX10_isBetter_48 : decode cX10_isBetter 48 = .ok (.iconst 1, 1) := by decide +kernel
theorem dX10_isBetter_49 : decode cX10_isBetter 49 = .ok (.goto 4, 3) := by decide +kernel
theorem dX10_isBetter_52 : decode cX10_isBetter 52 = .ok (.iconst 0, 1) := by decide +kernel
theorem dX10_isBetter_53 : decode cX10_isBetter 53 = .ok (.ireturn, 1) := by decide +kernel
set_option maxRecDepth 20000 in
theorem ggX10_bestLanguage_X10_cousinAt : GoodIn wsX10_bestLanguage wsX10_cousinAt := goodIn_ca (goodIn_r _ [10, 11, 12, 13, 14, 15, 16, 17, 18, 19, 20, 21, 9, 22, 88, 89, 90, 91, 92, 93, 94, 95, 96, 97, 98, 99, 100, 101, 102, 103, 104, 105] (by decide +kernel) (by decide +kernel)) (goodIn_sub (fun _ h => List.mem_cons_of_mem _ (List.mem_append_right _ h)) (by decide +kernel))
set_option maxRecDepth 20000 in
theorem gX10_bestLanguage_X10_cousinAt : GoodIn wsX10_bestLanguage (wsV RX10 176 RX10 yX10_cousinAt wsX10_cousinAt) := goodIn_app (goodIn_of _ (by decide +kernel)) ggX10_bestLanguage_X10_cousinAt
set_option maxRecDepth 20000 in
theorem ggX10_bestLanguage_X10_leafletAt : GoodIn wsX10_bestLanguage wsX10_leafletAt := goodIn_ca (goodIn_r _ [26, 11, 12, 13, 27, 28, 29, 30, 18, 31, 32, 21, 9, 22, 88, 89, 90, 91, 92, 93, 94, 95, 96, 97, 98, 99, 100, 101, 102, 103, 104, 105] (by decide +kernel) (by decide +kernel)) (goodIn_sub (fun _ h => List.mem_cons_of_mem _ (List.mem_append_right _ h)) (by decide +kernel))
set_option maxRecDepth 20000 in
theorem gX10_bestLanguage_X10_leafletAt : GoodIn wsX10_bestLanguage (wsV RX10 113 RX10 yX10_leafletAt wsX10_leafletAt) := goodIn_app (goodIn_of _ (by decide +kernel)) ggX10_bestLanguage_X10_leafletAt
set_option maxRecDepth 20000 in
theorem ggX10_bestLanguage_X5_stepsSkippedBy : GoodIn wsX10_bestLanguage wsX5_stepsSkippedBy := goodIn_r _ [37, 38, 39, 40, 41, 42, 43, 36, 44, 45, 46, 47, 48, 49, 50, 51, 52, 53, 54, 55, 56, 57, 58, 59, 60, 61, 62, 63, 64, 65, 66, 67, 68, 77, 78, 79, 80, 81, 82, 83, 84, 85, 86, 87] (by decide +kernel) (by decide +kernel)
set_option maxRecDepth 20000 in
theorem gX10_bestLanguage_X5_stepsSkippedBy : GoodIn wsX10_bestLanguage (wsV RX10 248 RX5 yX5_stepsSkippedBy wsX5_stepsSkippedBy) := goodIn_app (goodIn_of _ (by decide +kernel)) ggX10_bestLanguage_X5_stepsSkippedBy
set_option maxRecDepth 20000 in
theorem ggX10_bestLanguage_J6_bitCount_0f7a4 : GoodIn wsX10_bestLanguage wsJ6_bitCount_0f7a4 := goodIn_r _ [72, 73, 74, 75] (by decide +kernel) (by decide +kernel)
set_option maxRecDepth 20000 in
theorem gX10_bestLanguage_J6_bitCount_0f7a4 : GoodIn wsX10_bestLanguage (va_wsS RX10 187 yJ6_bitCount_0f7a4 wsJ6_bitCount_0f7a4) := goodIn_app (goodIn_of _ (by decide +kernel)) ggX10_bestLanguage_J6_bitCount_0f7a4
set_option maxRecDepth 20000 in
theorem ggX10_bestLanguage_X5_stepsSkippedWith : GoodIn wsX10_bestLanguage wsX5_stepsSkippedWith := goodIn_r _ [44, 45, 46, 47, 36, 48, 49, 50, 51, 52, 53, 54, 55, 56, 57, 58, 59, 60, 61, 62, 63, 64, 65, 66, 67, 68, 79, 80, 81, 82, 83, 84, 85, 86, 87] (by decide +kernel) (by decide +kernel)
set_option maxRecDepth 20000 in
theorem gX10_bestLanguage_X5_stepsSkippedWith : GoodIn wsX10_bestLanguage (wsV RX10 267 RX5 yX5_stepsSkippedWith wsX5_stepsSkippedWith) := goodIn_app (goodIn_of _ (by decide +kernel)) ggX10_bestLanguage_X5_stepsSkippedWith
theorem dX10_bestLanguage_0 : decode cX10_bestLanguage 0 = .ok (.aload_n 0, 1) := by decide +kernel
theorem dX10_bestLanguage_1 : decode cX10_bestLanguage 1 = .ok (.iload_n 1, 1) := by decide +kernel
theorem dX10_bestLanguage_2 : decode cX10_bestLanguage 2 = .ok (.invokevirtual 176, 3) := by decide +kernel
theorem dX10_bestLanguage_5 : decode cX10_bestLanguage 5 = .ok (.astore_n 3, 1) := by decide +kernel
theorem dX10_bestLanguage_6 : decode cX10_bestLanguage 6 = .ok (.aload_n 0, 1) := by decide +kernel
theorem dX10_bestLanguage_7 : decode cX10_bestLanguage 7 = .ok (.iload_n 2, 1) := by decide +kernel
theorem dX10_bestLanguage_8 : decode cX10_bestLanguage 8 = .ok (.invokevirtual 113, 3) := by decide +kernel
theorem dX10_bestLanguage_11 : decode cX10_bestLanguage 11 = .ok (.astore 4, 2) := by decide +kernel
theorem dX10_bestLanguage_13 : decode cX10_bestLanguage 13 = .ok (.aload 4, 2) := by decide +kernel
theorem dX10_bestLanguage_15 : decode cX10_bestLanguage 15 = .ok (.aload_n 3, 1) := by decide +kernel
theorem dX10_bestLanguage_16 : decode cX10_bestLanguage 16 = .ok (.invokevirtual 248, 3) := by decide +kernel
theorem dX10_bestLanguage_19 : decode cX10_bestLanguage 19 = .ok (.invokestatic 187, 3) := by decide +kernel
theorem dX10_bestLanguage_22 : decode cX10_bestLanguage 22 = .ok (.istore 5, 2) := by decide +kernel
theorem dX10_bestLanguage_24 : decode cX10_bestLanguage 24 = .ok (.iconst (-1), 1) := by decide +kernel
theorem dX10_bestLanguage_25 : decode cX10_bestLanguage 25 = .ok (.istore 6, 2) := by decide +kernel
theorem dX10_bestLanguage_27 : decode cX10_bestLanguage 27 = .ok (.iconst 0, 1) := by decide +kernel
theorem dX10_bestLanguage_28 : decode cX10_bestLanguage 28 = .ok (.istore 7, 2) := by decide +kernel
theorem dX10_bestLanguage_30 : decode cX10_bestLanguage 30 = .ok (.iload 7, 2) := by decide +kernel
theorem dX10_bestLanguage_32 : decode cX10_bestLanguage 32 = .ok (.iconst 5, 1) := by decide +kernel
theorem dX10_bestLanguage_33 : decode cX10_bestLanguage 33 = .ok (.if_icmp .ge 56, 3) := by decide +kernel
theorem dX10_bestLanguage_36 : decode cX10_bestLanguage 36 = .ok (.aload_n 3, 1) := by decide +kernel
theorem dX10_bestLanguage_37 : decode cX10_bestLanguage 37 = .ok (.getfield 185, 3) := by decide +kernel
theorem dX10_bestLanguage_40 : decode cX10_bestLanguage 40 = .ok (.iconst 1, 1) := by decide +kernel
theorem dX10_bestLanguage_41 : decode cX10_bestLanguage 41 = .ok (.iload 7, 2) := by decide +kernel
theorem dX10_bestLanguage_43 : decode cX10_bestLanguage 43 = .ok (.ishl, 1) := by decide +kernel
theorem dX10_bestLanguage_44 : decode cX10_bestLanguage 44 = .ok (.ior, 1) := by decide +kernel
theorem dX10_bestLanguage_45 : decode cX10_bestLanguage 45 = .ok (.istore 8, 2) := by decide +kernel
theorem dX10_bestLanguage_47 : decode cX10_bestLanguage 47 = .ok (.aload 4, 2) := by decide +kernel
theorem dX10_bestLanguage_49 : decode cX10_bestLanguage 49 = .ok (.iload 8, 2) := by decide +kernel
theorem dX10_bestLanguage_51 : decode cX10_bestLanguage 51 = .ok (.aload_n 3, 1) := by decide +kernel
theorem dX10_bestLanguage_52 : decode cX10_bestLanguage 52 = .ok (.getfield 180, 3) := by decide +kernel
theorem dX10_bestLanguage_55 : decode cX10_bestLanguage 55 = .ok (.aload 4, 2) := by decide +kernel
theorem dX10_bestLanguage_57 : decode cX10_bestLanguage 57 = .ok (.getfield 123, 3) := by decide +kernel
theorem dX10_bestLanguage_60 : decode cX10_bestLanguage 60 = .ok (.invokevirtual 267, 3) := by decide +kernel
theorem dX10_bestLanguage_63 : decode cX10_bestLanguage 63 = .ok (.invokestatic 187, 3) := by decide +kernel
theorem dX10_bestLanguage_66 : decode cX10_bestLanguage 66 = .ok (.istore 9, 2) := by decide +kernel
theorem dX10_bestLanguage_68 : decode cX10_bestLanguage 68 = .ok (.iload 9, 2) := by decide +kernel
theorem dX10_bestLanguage_70 : decode cX10_bestLanguage 70 = .ok (.iload 5, 2) := by decide +kernel
theorem dX10_bestLanguage_72 : decode cX10_bestLanguage 72 = .ok (.if_icmp .ge 11, 3) := by decide +kernel
theorem dX10_bestLanguage_75 : decode cX10_bestLanguage 75 = .ok (.iload 9, 2) := by decide +kernel
theorem dX10_bestLanguage_77 : decode cX10_bestLanguage 77 = .ok (.istore 5, 2) := by decide +kernel
theorem dX10_bestLanguage_79 : decode cX10_bestLanguage 79 = .ok (.iload 7, 2) := by decide +kernel
theorem dX10_bestLanguage_81 : decode cX10_bestLanguage 81 = .ok (.istore 6, 2) := by decide +kernel
theorem dX10_bestLanguage_83 : decode cX10_bestLanguage 83 = .ok (.iinc 7 1, 3) := by decide +kernel
theorem dX10_bestLanguage_86 : decode cX10_bestLanguage 86 = .ok (.goto (-56), 3) := by decide +kernel
theorem dX10_bestLanguage_89 : decode cX10_bestLanguage 89 = .ok (.iload 6, 2) := by decide +kernel
theorem dX10_bestLanguage_91 : decode cX10_bestLanguage 91 = .ok (.iconst (-1), 1) := by decide +kernel
theorem dX10_bestLanguage_92 : decode cX10_bestLanguage 92 = .ok (.if_icmp .ne 14, 3) := by decide +kernel
theorem dX10_bestLanguage_95 : decode cX10_bestLanguage 95 = .ok (.new 224, 3) := by decide +kernel
theorem dX10_bestLanguage_98 : decode cX10_bestLanguage 98 = .ok (.dup, 1) := by decide +kernel
theorem dX10_bestLanguage_99 : decode cX10_bestLanguage 99 = .ok (.ldc_w 271, 3) := by decide +kernel
theorem dX10_bestLanguage_102 : decode cX10_bestLanguage 102 = .ok (.invokespecial 228, 3) := by decide +kernel
theorem dX10_bestLanguage_105 : decode cX10_bestLanguage 105 = .ok (.athrow, 1) := by decide +kernel
theorem dX10_bestLanguage_106 : decode cX10_bestLanguage 106 = .ok (.iload 6, 2) := by decide +kernel
theorem dX10_bestLanguage_108 : decode cX10_bestLanguage 108 = .ok (.ireturn, 1) := by decide +kernel
set_option maxRecDepth 20000 in
theorem ggX10_bestFolds_X10_cousinAt : GoodIn wsX10_bestFolds wsX10_cousinAt := goodIn_ca (goodIn_r _ [7, 8, 9, 10, 11, 12, 13, 14, 15, 16, 17, 18, 6, 19, 68, 69, 70, 71, 72, 73, 74, 75, 76, 77, 78, 79, 80, 81, 82, 83, 84, 85] (by decide +kernel) (by decide +kernel)) (goodIn_sub (fun _ h => List.mem_cons_of_mem _ (List.mem_append_right _ h)) (by decide +kernel))
set_option maxRecDepth 20000 in
theorem gX10_bestFolds_X10_cousinAt : GoodIn wsX10_bestFolds (wsV RX10 176 RX10 yX10_cousinAt wsX10_cousinAt) := goodIn_app (goodIn_of _ (by decide +kernel)) ggX10_bestFolds_X10_cousinAt
set_option maxRecDepth 20000 in
theorem ggX10_bestFolds_X10_leafletAt : GoodIn wsX10_bestFolds wsX10_leafletAt := goodIn_ca (goodIn_r _ [23, 8, 9, 10, 24, 25, 26, 27, 15, 28, 29, 18, 6, 19, 68, 69, 70, 71, 72, 73, 74, 75, 76, 77, 78, 79, 80, 81, 82, 83, 84, 85] (by decide +kernel) (by decide +kernel)) (goodIn_sub (fun _ h => List.mem_cons_of_mem _ (List.mem_append_right _ h)) (by decide +kernel))
set_option maxRecDepth 20000 in
theorem gX10_bestFolds_X10_leafletAt : GoodIn wsX10_bestFolds (wsV RX10 113 RX10 yX10_leafletAt wsX10_leafletAt) := goodIn_app (goodIn_of _ (by decide +kernel)) ggX10_bestFolds_X10_leafletAt
set_option maxRecDepth 20000 in
theorem ggX10_bestFolds_X5_stepsSkippedWith : GoodIn wsX10_bestFolds wsX5_stepsSkippedWith := goodIn_r _ [34, 35, 36, 37, 33, 38, 39, 40, 41, 42, 43, 44, 45, 46, 47, 48, 49, 50, 51, 52, 53, 54, 55, 56, 57, 58, 86, 87, 88, 89, 90, 91, 92, 93, 94] (by decide +kernel) (by decide +kernel)
set_option maxRecDepth 20000 in
theorem gX10_bestFolds_X5_stepsSkippedWith : GoodIn wsX10_bestFolds (wsV RX10 267 RX5 yX5_stepsSkippedWith wsX5_stepsSkippedWith) := goodIn_app (goodIn_of _ (by decide +kernel)) ggX10_bestFolds_X5_stepsSkippedWith
set_option maxRecDepth 20000 in
theorem ggX10_bestFolds_J6_bitCount_0f7a4 : GoodIn wsX10_bestFolds wsJ6_bitCount_0f7a4 := goodIn_r _ [62, 63, 64, 65] (by decide +kernel) (by decide +kernel)
set_option maxRecDepth 20000 in
theorem gX10_bestFolds_J6_bitCount_0f7a4 : GoodIn wsX10_bestFolds (va_wsS RX10 187 yJ6_bitCount_0f7a4 wsJ6_bitCount_0f7a4) := goodIn_app (goodIn_of _ (by decide +kernel)) ggX10_bestFolds_J6_bitCount_0f7a4
theorem dX10_bestFolds_0 : decode cX10_bestFolds 0 = .ok (.aload_n 0, 1) := by decide +kernel
theorem dX10_bestFolds_1 : decode cX10_bestFolds 1 = .ok (.iload_n 1, 1) := by decide +kernel
theorem dX10_bestFolds_2 : decode cX10_bestFolds 2 = .ok (.invokevirtual 176, 3) := by decide +kernel
theorem dX10_bestFolds_5 : decode cX10_bestFolds 5 = .ok (.astore_n 3, 1) := by decide +kernel
theorem dX10_bestFolds_6 : decode cX10_bestFolds 6 = .ok (.aload_n 0, 1) := by decide +kernel
theorem dX10_bestFolds_7 : decode cX10_bestFolds 7 = .ok (.iload_n 2, 1) := by decide +kernel
theorem dX10_bestFolds_8 : decode cX10_bestFolds 8 = .ok (.invokevirtual 113, 3) := by decide +kernel
theorem dX10_bestFolds_11 : decode cX10_bestFolds 11 = .ok (.astore 4, 2) := by decide +kernel
theorem dX10_bestFolds_13 : decode cX10_bestFolds 13 = .ok (.aload 4, 2) := by decide +kernel
theorem dX10_bestFolds_15 : decode cX10_bestFolds 15 = .ok (.aload_n 3, 1) := by decide +kernel
theorem dX10_bestFolds_16 : decode cX10_bestFolds 16 = .ok (.getfield 185, 3) := by decide +kernel
theorem dX10_bestFolds_19 : decode cX10_bestFolds 19 = .ok (.aload_n 3, 1) := by decide +kernel
theorem dX10_bestFolds_20 : decode cX10_bestFolds 20 = .ok (.getfield 180, 3) := by decide +kernel
theorem dX10_bestFolds_23 : decode cX10_bestFolds 23 = .ok (.iconst 0, 1) := by decide +kernel
theorem dX10_bestFolds_24 : decode cX10_bestFolds 24 = .ok (.invokevirtual 267, 3) := by decide +kernel
theorem dX10_bestFolds_27 : decode cX10_bestFolds 27 = .ok (.invokestatic 187, 3) := by decide +kernel
theorem dX10_bestFolds_30 : decode cX10_bestFolds 30 = .ok (.istore 5, 2) := by decide +kernel
theorem dX10_bestFolds_32 : decode cX10_bestFolds 32 = .ok (.iconst 0, 1) := by decide +kernel
theorem dX10_bestFolds_33 : decode cX10_bestFolds 33 = .ok (.istore 6, 2) := by decide +kernel
theorem dX10_bestFolds_35 : decode cX10_bestFolds 35 = .ok (.iconst 1, 1) := by decide +kernel
theorem dX10_bestFolds_36 : decode cX10_bestFolds 36 = .ok (.istore 7, 2) := by decide +kernel
theorem dX10_bestFolds_38 : decode cX10_bestFolds 38 = .ok (.iload 7, 2) := by decide +kernel
theorem dX10_bestFolds_40 : decode cX10_bestFolds 40 = .ok (.iconst 3, 1) := by decide +kernel
theorem dX10_bestFolds_41 : decode cX10_bestFolds 41 = .ok (.if_icmp .gt 40, 3) := by decide +kernel
theorem dX10_bestFolds_44 : decode cX10_bestFolds 44 = .ok (.aload 4, 2) := by decide +kernel
theorem dX10_bestFolds_46 : decode cX10_bestFolds 46 = .ok (.aload_n 3, 1) := by decide +kernel
theorem dX10_bestFolds_47 : decode cX10_bestFolds 47 = .ok (.getfield 185, 3) := by decide +kernel
theorem dX10_bestFolds_50 : decode cX10_bestFolds 50 = .ok (.aload_n 3, 1) := by decide +kernel
theorem dX10_bestFolds_51 : decode cX10_bestFolds 51 = .ok (.getfield 180, 3) := by decide +kernel
theorem dX10_bestFolds_54 : decode cX10_bestFolds 54 = .ok (.iload 7, 2) := by decide +kernel
theorem dX10_bestFolds_56 : decode cX10_bestFolds 56 = .ok (.invokevirtual 267, 3) := by decide +kernel
theorem dX10_bestFolds_59 : decode cX10_bestFolds 59 = .ok (.invokestatic 187, 3) := by decide +kernel
theorem dX10_bestFolds_62 : decode cX10_bestFolds 62 = .ok (.istore 8, 2) := by decide +kernel
theorem dX10_bestFolds_64 : decode cX10_bestFolds 64 = .ok (.iload 8, 2) := by decide +kernel
theorem dX10_bestFolds_66 : decode cX10_bestFolds 66 = .ok (.iload 5, 2) := by decide +kernel
theorem dX10_bestFolds_68 : decode cX10_bestFolds 68 = .ok (.if_icmp .gt 7, 3) := by decide +kernel
theorem dX10_bestFolds_71 : decode cX10_bestFolds 71 = .ok (.iload 7, 2) := by decide +kernel
theorem dX10_bestFolds_73 : decode cX10_bestFolds 73 = .ok (.istore 6, 2) := by decide +kernel
theorem dX10_bestFolds_75 : decode cX10_bestFolds 75 = .ok (.iinc 7 1, 3) := by decide +kernel
theorem dX10_bestFolds_78 : decode cX10_bestFolds 78 = .ok (.goto (-40), 3) := by decide +kernel
theorem dX10_bestFolds_81 : decode cX10_bestFolds 81 = .ok (.iload 6, 2) := by decide +kernel
theorem dX10_bestFolds_83 : decode cX10_bestFolds 83 = .ok (.ireturn, 1) := by decide +kernel
set_option maxRecDepth 20000 in
theorem ggX10_canFinish_X10_leafletAt : GoodIn wsX10_canFinish wsX10_leafletAt := goodIn_ca (goodIn_r _ [7, 8, 9, 1, 10, 11, 12, 13, 14, 15, 16, 17, 6, 18, 55, 56, 57, 58, 59, 60, 61, 62, 63, 64, 65, 66, 67, 68, 69, 70, 71, 72] (by decide +kernel) (by decide +kernel)) (goodIn_sub (fun _ h => List.mem_cons_of_mem _ (List.mem_append_left _ (List.mem_append_right _ h))) (by decide +kernel))
set_option maxRecDepth 20000 in
theorem gX10_canFinish_X10_leafletAt : GoodIn wsX10_canFinish (wsV RX10 113 RX10 yX10_leafletAt wsX10_leafletAt) := goodIn_app (goodIn_of _ (by decide +kernel)) ggX10_canFinish_X10_leafletAt
set_option maxRecDepth 20000 in
theorem ggX10_canFinish_X10_requireStep : GoodIn wsX10_canFinish wsX10_requireStep := goodIn_ca (goodIn_r _ [22, 23, 24, 25, 26, 27, 28, 29, 30, 17, 6, 18, 73, 74, 75, 76, 77, 78, 79, 80, 81] (by decide +kernel) (by decide +kernel)) (goodIn_sub (fun _ h => List.mem_cons_of_mem _ (List.mem_append_right _ h)) (by decide +kernel))
set_option maxRecDepth 20000 in
theorem gX10_canFinish_X10_requireStep : GoodIn wsX10_canFinish (wsV RX10 153 RX10 yX10_requireStep wsX10_requireStep) := goodIn_app (goodIn_of _ (by decide +kernel)) ggX10_canFinish_X10_requireStep
set_option maxRecDepth 20000 in
theorem ggX10_canFinish_X5_isSkipped : GoodIn wsX10_canFinish wsX5_isSkipped := goodIn_r _ [34, 35, 36, 6, 37, 73, 74, 75, 76, 77, 78, 79, 80, 81] (by decide +kernel) (by decide +kernel)
set_option maxRecDepth 20000 in
theorem gX10_canFinish_X5_isSkipped : GoodIn wsX10_canFinish (wsV RX10 170 RX5 yX5_isSkipped wsX5_isSkipped) := goodIn_app (goodIn_of _ (by decide +kernel)) ggX10_canFinish_X5_isSkipped
set_option maxRecDepth 20000 in
theorem ggX10_canFinish_X9_kindLacking : GoodIn wsX10_canFinish wsX9_kindLacking := goodIn_r _ [42, 43, 44, 45, 46, 28, 47, 30, 48, 36, 6, 37, 49, 50, 51, 52, 53, 54, 82, 83, 73, 74, 75, 76, 77, 78, 79, 80, 81] (by decide +kernel) (by decide +kernel)
set_option maxRecDepth 20000 in
theorem gX10_canFinish_X9_kindLacking : GoodIn wsX10_canFinish (wsV RX10 276 RX9 yX9_kindLacking wsX9_kindLacking) := goodIn_app (goodIn_of _ (by decide +kernel)) ggX10_canFinish_X9_kindLacking
theorem dX10_canFinish_0 : decode cX10_canFinish 0 = .ok (.aload_n 0, 1) := by decide +kernel
theorem dX10_canFinish_1 : decode cX10_canFinish 1 = .ok (.iload_n 1, 1) := by decide +kernel
theorem dX10_canFinish_2 : decode cX10_canFinish 2 = .ok (.invokevirtual 113, 3) := by decide +kernel
theorem dX10_canFinish_5 : decode cX10_canFinish 5 = .ok (.astore_n 3, 1) := by decide +kernel
theorem dX10_canFinish_6 : decode cX10_canFinish 6 = .ok (.aload_n 0, 1) := by decide +kernel
theorem dX10_canFinish_7 : decode cX10_canFinish 7 = .ok (.aload_n 3, 1) := by decide +kernel
theorem dX10_canFinish_8 : decode cX10_canFinish 8 = .ok (.iload_n 2, 1) := by decide +kernel
theorem dX10_canFinish_9 : decode cX10_canFinish 9 = .ok (.invokevirtual 153, 3) := by decide +kernel
theorem dX10_canFinish_12 : decode cX10_canFinish 12 = .ok (.aload_n 3, 1) := by decide +kernel
theorem dX10_canFinish_13 : decode cX10_canFinish 13 = .ok (.iload_n 2, 1) := by decide +kernel
theorem dX10_canFinish_14 : decode cX10_canFinish 14 = .ok (.invokevirtual 170, 3) := by decide +kernel
theorem dX10_canFinish_17 : decode cX10_canFinish 17 = .ok (.ifCond .eq 25, 3) := by decide +kernel
theorem dX10_canFinish_20 : decode cX10_canFinish 20 = .ok (.aload_n 0, 1) := by decide +kernel
theorem dX10_canFinish_21 : decode cX10_canFinish 21 = .ok (.getfield 20, 3) := by decide +kernel
theorem dX10_canFinish_24 : decode cX10_canFinish 24 = .ok (.getfield 273, 3) := by decide +kernel
theorem dX10_canFinish_27 : decode cX10_canFinish 27 = .ok (.aload_n 3, 1) := by decide +kernel
theorem dX10_canFinish_28 : decode cX10_canFinish 28 = .ok (.iconst 1, 1) := by decide +kernel
theorem dX10_canFinish_29 : decode cX10_canFinish 29 = .ok (.iload_n 2, 1) := by decide +kernel
theorem dX10_canFinish_30 : decode cX10_canFinish 30 = .ok (.ishl, 1) := by decide +kernel
theorem dX10_canFinish_31 : decode cX10_canFinish 31 = .ok (.invokevirtual 276, 3) := by decide +kernel
theorem dX10_canFinish_34 : decode cX10_canFinish 34 = .ok (.iconst (-1), 1) := by decide +kernel
theorem dX10_canFinish_35 : decode cX10_canFinish 35 = .ok (.if_icmp .ne 7, 3) := by decide +kernel
theorem dX10_canFinish_38 : decode cX10_canFinish 38 = .ok (.iconst 1, 1) := by decide +kernel
theorem dX10_canFinish_39 : decode cX10_canFinish 39 = .ok (.goto 4, 3) := by decide +kernel
theorem dX10_canFinish_42 : decode cX10_canFinish 42 = .ok (.iconst 0, 1) := by decide +kernel
theorem dX10_canFinish_43 : decode cX10_canFinish 43 = .ok (.ireturn, 1) := by decide +kernel
set_option maxRecDepth 20000 in
theorem ggX10_couldFinish_X10_leafletAt : GoodIn wsX10_couldFinish wsX10_leafletAt := goodIn_ca (goodIn_r _ [9, 10, 11, 2, 12, 13, 14, 15, 16, 17, 18, 19, 8, 20, 60, 61, 62, 63, 64, 65, 66, 67, 68, 69, 70, 71, 72, 73, 74, 75, 76, 77] (by decide +kernel) (by decide +kernel)) (goodIn_sub (fun _ h => List.mem_cons_of_mem _ (List.mem_append_right _ h)) (by decide +kernel))
set_option maxRecDepth 20000 in
theorem gX10_couldFinish_X10_leafletAt : GoodIn wsX10_couldFinish (wsV RX10 113 RX10 yX10_leafletAt wsX10_leafletAt) := goodIn_app (goodIn_of _ (by decide +kernel)) ggX10_couldFinish_X10_leafletAt
set_option maxRecDepth 20000 in
theorem ggX10_couldFinish_X9_copyFrom : GoodIn wsX10_couldFinish wsX9_copyFrom := goodIn_r _ [25, 26, 27, 28, 29, 30, 31, 87, 88] (by decide +kernel) (by decide +kernel)
set_option maxRecDepth 20000 in
theorem gX10_couldFinish_X9_copyFrom : GoodIn wsX10_couldFinish (wsV RX10 280 RX9 yX9_copyFrom wsX9_copyFrom) := goodIn_app (goodIn_of _ (by decide +kernel)) ggX10_couldFinish_X9_copyFrom
set_option maxRecDepth 20000 in
theorem ggX10_couldFinish_X5_isSkipped : GoodIn wsX10_couldFinish wsX5_isSkipped := goodIn_r _ [36, 37, 38, 8, 39, 78, 79, 80, 81, 82, 83, 84, 85, 86] (by decide +kernel) (by decide +kernel)
set_option maxRecDepth 20000 in
theorem gX10_couldFinish_X5_isSkipped : GoodIn wsX10_couldFinish (wsV RX10 170 RX5 yX5_isSkipped wsX5_isSkipped) := goodIn_app (goodIn_of _ (by decide +kernel)) ggX10_couldFinish_X5_isSkipped
set_option maxRecDepth 20000 in
theorem ggX10_couldFinish_X9_kindLacking : GoodIn wsX10_couldFinish wsX9_kindLacking := goodIn_r _ [43, 26, 44, 45, 46, 35, 47, 48, 49, 38, 8, 39, 50, 51, 52, 53, 54, 55, 87, 88, 78, 79, 80, 81, 82, 83, 84, 85, 86] (by decide +kernel) (by decide +kernel)
set_option maxRecDepth 20000 in
theorem gX10_couldFinish_X9_kindLacking : GoodIn wsX10_couldFinish (wsV RX10 276 RX9 yX9_kindLacking wsX9_kindLacking) := goodIn_app (goodIn_of _ (by decide +kernel)) ggX10_couldFinish_X9_kindLacking
set_option maxRecDepth 20000 in
theorem ggX10_couldFinish_X9_takeOut : GoodIn wsX10_couldFinish wsX9_takeOut := goodIn_r _ [59, 26, 44, 45, 46, 35, 47, 48, 49, 38, 8, 39, 50, 51, 52, 53, 54, 55, 87, 88, 78, 79, 80, 81, 82, 83, 84, 85, 86] (by decide +kernel) (by decide +kernel)
set_option maxRecDepth 20000 in
theorem gX10_couldFinish_X9_takeOut : GoodIn wsX10_couldFinish (wsV RX10 284 RX9 yX9_takeOut wsX9_takeOut) := goodIn_app (goodIn_of _ (by decide +kernel)) ggX10_couldFinish_X9_takeOut
theorem dX10_couldFinish_0 : decode cX10_couldFinish 0 = .ok (.aload_n 0, 1) := by decide +kernel
theorem dX10_couldFinish_1 : decode cX10_couldFinish 1 = .ok (.iload_n 1, 1) := by decide +kernel
theorem dX10_couldFinish_2 : decode cX10_couldFinish 2 = .ok (.invokevirtual 113, 3) := by decide +kernel
theorem dX10_couldFinish_5 : decode cX10_couldFinish 5 = .ok (.astore_n 2, 1) := by decide +kernel
theorem dX10_couldFinish_6 : decode cX10_couldFinish 6 = .ok (.aload_n 0, 1) := by decide +kernel
theorem dX10_couldFinish_7 : decode cX10_couldFinish 7 = .ok (.getfield 56, 3) := by decide +kernel
theorem dX10_couldFinish_10 : decode cX10_couldFinish 10 = .ok (.aload_n 0, 1) := by decide +kernel
theorem dX10_couldFinish_11 : decode cX10_couldFinish 11 = .ok (.getfield 20, 3) := by decide +kernel
theorem dX10_couldFinish_14 : decode cX10_couldFinish 14 = .ok (.getfield 273, 3) := by decide +kernel
theorem dX10_couldFinish_17 : decode cX10_couldFinish 17 = .ok (.invokevirtual 280, 3) := by decide +kernel
theorem dX10_couldFinish_20 : decode cX10_couldFinish 20 = .ok (.iconst 0, 1) := by decide +kernel
theorem dX10_couldFinish_21 : decode cX10_couldFinish 21 = .ok (.istore_n 3, 1) := by decide +kernel
theorem dX10_couldFinish_22 : decode cX10_couldFinish 22 = .ok (.iconst 0, 1) := by decide +kernel
theorem dX10_couldFinish_23 : decode cX10_couldFinish 23 = .ok (.istore 4, 2) := by decide +kernel
theorem dX10_couldFinish_25 : decode cX10_couldFinish 25 = .ok (.iload 4, 2) := by decide +kernel
theorem dX10_couldFinish_27 : decode cX10_couldFinish 27 = .ok (.aload_n 2, 1) := by decide +kernel
theorem dX10_couldFinish_28 : decode cX10_couldFinish 28 = .ok (.getfield 117, 3) := by decide +kernel
theorem dX10_couldFinish_31 : decode cX10_couldFinish 31 = .ok (.if_icmp .ge 49, 3) := by decide +kernel
theorem dX10_couldFinish_34 : decode cX10_couldFinish 34 = .ok (.aload_n 2, 1) := by decide +kernel
theorem dX10_couldFinish_35 : decode cX10_couldFinish 35 = .ok (.iload 4, 2) := by decide +kernel
theorem dX10_couldFinish_37 : decode cX10_couldFinish 37 = .ok (.invokevirtual 170, 3) := by decide +kernel
theorem dX10_couldFinish_40 : decode cX10_couldFinish 40 = .ok (.ifCond .eq 34, 3) := by decide +kernel
theorem dX10_couldFinish_43 : decode cX10_couldFinish 43 = .ok (.aload_n 0, 1) := by decide +kernel
theorem dX10_couldFinish_44 : decode cX10_couldFinish 44 = .ok (.getfield 56, 3) := by decide +kernel
theorem dX10_couldFinish_47 : decode cX10_couldFinish 47 = .ok (.aload_n 2, 1) := by decide +kernel
theorem dX10_couldFinish_48 : decode cX10_couldFinish 48 = .ok (.iconst 1, 1) := by decide +kernel
theorem dX10_couldFinish_49 : decode cX10_couldFinish 49 = .ok (.iload 4, 2) := by decide +kernel
theorem dX10_couldFinish_51 : decode cX10_couldFinish 51 = .ok (.ishl, 1) := by decide +kernel
theorem dX10_couldFinish_52 : decode cX10_couldFinish 52 = .ok (.invokevirtual 276, 3) := by decide +kernel
theorem dX10_couldFinish_55 : decode cX10_couldFinish 55 = .ok (.iconst (-1), 1) := by decide +kernel
theorem dX10_couldFinish_56 : decode cX10_couldFinish 56 = .ok (.if_icmp .ne 18, 3) := by decide +kernel
theorem dX10_couldFinish_59 : decode cX10_couldFinish 59 = .ok (.aload_n 0, 1) := by decide +kernel
theorem dX10_couldFinish_60 : decode cX10_couldFinish 60 = .ok (.getfield 56, 3) := by decide +kernel
theorem dX10_couldFinish_63 : decode cX10_couldFinish 63 = .ok (.aload_n 2, 1) := by decide +kernel
theorem dX10_couldFinish_64 : decode cX10_couldFinish 64 = .ok (.iconst 1, 1) := by decide +kernel
theorem dX10_couldFinish_65 : decode cX10_couldFinish 65 = .ok (.iload 4, 2) := by decide +kernel
theorem dX10_couldFinish_67 : decode cX10_couldFinish 67 = .ok (.ishl, 1) := by decide +kernel
theorem dX10_couldFinish_68 : decode cX10_couldFinish 68 = .ok (.invokevirtual 284, 3) := by decide +kernel
theorem dX10_couldFinish_71 : decode cX10_couldFinish 71 = .ok (.iinc 3 1, 3) := by decide +kernel
theorem dX10_couldFinish_74 : decode cX10_couldFinish 74 = .ok (.iinc 4 1, 3) := by decide +kernel
theorem dX10_couldFinish_77 : decode cX10_couldFinish 77 = .ok (.goto (-52), 3) := by decide +kernel
theorem dX10_couldFinish_80 : decode cX10_couldFinish 80 = .ok (.iload_n 3, 1) := by decide +kernel
theorem dX10_couldFinish_81 : decode cX10_couldFinish 81 = .ok (.ireturn, 1) := by decide +kernel
set_option maxRecDepth 20000 in
theorem ggX10_tin_X10_requireKind : GoodIn wsX10_tin wsX10_requireKind := goodIn_ca (goodIn_r _ [8, 9, 10, 11, 12, 7, 13] (by decide +kernel) (by decide +kernel)) (goodIn_sub (fun _ h => List.mem_cons_of_mem _ (List.mem_append_right _ h)) (by decide +kernel))
set_option maxRecDepth 20000 in
theorem gX10_tin_X10_requireKind : GoodIn wsX10_tin (wsV RX10 251 RX10 yX10_requireKind wsX10_requireKind) := goodIn_app (goodIn_of _ (by decide +kernel)) ggX10_tin_X10_requireKind
theorem dX10_tin_0 : decode cX10_tin 0 = .ok (.aload_n 0, 1) := by decide +kernel
theorem dX10_tin_1 : decode cX10_tin 1 = .ok (.iload_n 1, 1) := by decide +kernel
theorem dX10_tin_2 : decode cX10_tin 2 = .ok (.invokevirtual 251, 3) := by decide +kernel
theorem dX10_tin_5 : decode cX10_tin 5 = .ok (.aload_n 0, 1) := by decide +kernel
theorem dX10_tin_6 : decode cX10_tin 6 = .ok (.getfield 20, 3) := by decide +kernel
theorem dX10_tin_9 : decode cX10_tin 9 = .ok (.getfield 273, 3) := by decide +kernel
theorem dX10_tin_12 : decode cX10_tin 12 = .ok (.getfield 287, 3) := by decide +kernel
theorem dX10_tin_15 : decode cX10_tin 15 = .ok (.iload_n 1, 1) := by decide +kernel
theorem dX10_tin_16 : decode cX10_tin 16 = .ok (.iaload, 1) := by decide +kernel
theorem dX10_tin_17 : decode cX10_tin 17 = .ok (.ireturn, 1) := by decide +kernel
set_option maxRecDepth 20000 in
theorem ggX10_lost_X10_requireKind : GoodIn wsX10_lost wsX10_requireKind := goodIn_ca (goodIn_r _ [8, 9, 10, 11, 12, 7, 13] (by decide +kernel) (by decide +kernel)) (goodIn_sub (fun _ h => List.mem_cons_of_mem _ (List.mem_append_right _ h)) (by decide +kernel))
set_option maxRecDepth 20000 in
theorem gX10_lost_X10_requireKind : GoodIn wsX10_lost (wsV RX10 251 RX10 yX10_requireKind wsX10_requireKind) := goodIn_app (goodIn_of _ (by decide +kernel)) ggX10_lost_X10_requireKind
theorem dX10_lost_0 : decode cX10_lost 0 = .ok (.aload_n 0, 1) := by decide +kernel
theorem dX10_lost_1 : decode cX10_lost 1 = .ok (.iload_n 1, 1) := by decide +kernel
theorem dX10_lost_2 : decode cX10_lost 2 = .ok (.invokevirtual 251, 3) := by decide +kernel
theorem dX10_lost_5 : decode cX10_lost 5 = .ok (.aload_n 0, 1) := by decide +kernel
theorem dX10_lost_6 : decode cX10_lost 6 = .ok (.getfield 20, 3) := by decide +kernel
theorem dX10_lost_9 : decode cX10_lost 9 = .ok (.getfield 273, 3) := by decide +kernel
theorem dX10_lost_12 : decode cX10_lost 12 = .ok (.getfield 290, 3) := by decide +kernel
theorem dX10_lost_15 : decode cX10_lost 15 = .ok (.iload_n 1, 1) := by decide +kernel
theorem dX10_lost_16 : decode cX10_lost 16 = .ok (.iaload, 1) := by decide +kernel
theorem dX10_lost_17 : decode cX10_lost 17 = .ok (.ireturn, 1) := by decide +kernel
set_option maxRecDepth 20000 in
theorem ggX10_shelfOf_X10_isShelf : GoodIn wsX10_shelfOf wsX10_isShelf := goodIn_r _ [7, 8, 9, 6, 10] (by decide +kernel) (by decide +kernel)
set_option maxRecDepth 20000 in
theorem gX10_shelfOf_X10_isShelf : GoodIn wsX10_shelfOf (va_wsS RX10 293 yX10_isShelf wsX10_isShelf) := goodIn_app (goodIn_of _ (by decide +kernel)) ggX10_shelfOf_X10_isShelf
set_option maxRecDepth 20000 in
theorem ggX10_shelfOf_X0_leafletsOn : GoodIn wsX10_shelfOf wsX0_leafletsOn := goodIn_r _ [15, 16, 17, 18, 28, 29, 30, 31, 32, 33, 34, 35, 36, 37, 38, 39, 40, 41, 42, 43, 44, 45] (by decide +kernel) (by decide +kernel)
set_option maxRecDepth 20000 in
theorem gX10_shelfOf_X0_leafletsOn : GoodIn wsX10_shelfOf (wsV RX10 298 RX0 yX0_leafletsOn wsX0_leafletsOn) := goodIn_app (goodIn_of _ (by decide +kernel)) ggX10_shelfOf_X0_leafletsOn
theorem dX10_shelfOf_0 : decode cX10_shelfOf 0 = .ok (.iload_n 1, 1) := by decide +kernel
theorem dX10_shelfOf_1 : decode cX10_shelfOf 1 = .ok (.invokestatic 293, 3) := by decide +kernel
theorem dX10_shelfOf_4 : decode cX10_shelfOf 4 = .ok (.ifCond .ne 14, 3) := by decide +kernel
theorem dX10_shelfOf_7 : decode cX10_shelfOf 7 = .ok (.new 148, 3) := by decide +kernel
theorem dX10_shelfOf_10 : decode cX10_shelfOf 10 = .ok (.dup, 1) := by decide +kernel
theorem dX10_shelfOf_11 : decode cX10_shelfOf 11 = .ok (.ldc_w 296, 3) := by decide +kernel
theorem dX10_shelfOf_14 : decode cX10_shelfOf 14 = .ok (.invokespecial 152, 3) := by decide +kernel
theorem dX10_shelfOf_17 : decode cX10_shelfOf 17 = .ok (.athrow, 1) := by decide +kernel
theorem dX10_shelfOf_18 : decode cX10_shelfOf 18 = .ok (.aload_n 0, 1) := by decide +kernel
theorem dX10_shelfOf_19 : decode cX10_shelfOf 19 = .ok (.getfield 20, 3) := by decide +kernel
theorem dX10_shelfOf_22 : decode cX10_shelfOf 22 = .ok (.iload_n 1, 1) := by decide +kernel
theorem dX10_shelfOf_23 : decode cX10_shelfOf 23 = .ok (.invokevirtual 298, 3) := by decide +kernel
theorem dX10_shelfOf_26 : decode cX10_shelfOf 26 = .ok (.ireturn, 1) := by decide +kernel
set_option maxRecDepth 20000 in
theorem ggX10_ranked_X10_isWithin : GoodIn wsX10_ranked wsX10_isWithin := goodIn_r _ [10] (by decide +kernel) (by decide +kernel)
set_option maxRecDepth 20000 in
theorem gX10_ranked_X10_isWithin : GoodIn wsX10_ranked (va_wsS RX10 229 yX10_isWithin wsX10_isWithin) := goodIn_app (goodIn_of _ (by decide +kernel)) ggX10_ranked_X10_isWithin
set_option maxRecDepth 20000 in
theorem ggX10_ranked_X10_placeOf : GoodIn wsX10_ranked wsX10_placeOf := goodIn_r _ [14, 5, 6, 15, 16, 17, 9, 18, 19, 20, 21, 22, 23, 24, 25, 26, 27, 28, 29, 30, 31, 32, 33, 34, 35, 36, 37, 38, 39, 40, 41, 42, 43, 44, 45, 46, 47, 48, 49, 50, 51, 52, 53, 54, 55, 56, 57, 58, 59, 60, 61, 62, 63, 64, 65, 66, 67, 68, 69, 70, 71, 72, 73, 74, 75, 76, 77, 78] (by decide +kernel) (by decide +kernel)
set_option maxRecDepth 20000 in
theorem gX10_ranked_X10_placeOf : GoodIn wsX10_ranked (wsV RX10 306 RX10 yX10_placeOf wsX10_placeOf) := goodIn_app (goodIn_of _ (by decide +kernel)) ggX10_ranked_X10_placeOf
theorem dX10_ranked_0 : decode cX10_ranked 0 = .ok (.iload_n 1, 1) := by decide +kernel
theorem dX10_ranked_1 : decode cX10_ranked 1 = .ok (.iconst 0, 1) := by decide +kernel
theorem dX10_ranked_2 : decode cX10_ranked 2 = .ok (.iconst 3, 1) := by decide +kernel
theorem dX10_ranked_3 : decode cX10_ranked 3 = .ok (.invokestatic 229, 3) := by decide +kernel
theorem dX10_ranked_6 : decode cX10_ranked 6 = .ok (.ifCond .ne 14, 3) := by decide +kernel
theorem dX10_ranked_9 : decode cX10_ranked 9 = .ok (.new 148, 3) := by decide +kernel
theorem dX10_ranked_12 : decode cX10_ranked 12 = .ok (.dup, 1) := by decide +kernel
theorem dX10_ranked_13 : decode cX10_ranked 13 = .ok (.ldc_w 301, 3) := by decide +kernel
theorem dX10_ranked_16 : decode cX10_ranked 16 = .ok (.invokespecial 152, 3) := by decide +kernel
theorem dX10_ranked_19 : decode cX10_ranked 19 = .ok (.athrow, 1) := by decide +kernel
theorem dX10_ranked_20 : decode cX10_ranked 20 = .ok (.iconst 0, 1) := by decide +kernel
theorem dX10_ranked_21 : decode cX10_ranked 21 = .ok (.istore_n 3, 1) := by decide +kernel
theorem dX10_ranked_22 : decode cX10_ranked 22 = .ok (.iload_n 3, 1) := by decide +kernel
theorem dX10_ranked_23 : decode cX10_ranked 23 = .ok (.aload_n 0, 1) := by decide +kernel
theorem dX10_ranked_24 : decode cX10_ranked 24 = .ok (.getfield 20, 3) := by decide +kernel
theorem dX10_ranked_27 : decode cX10_ranked 27 = .ok (.getfield 303, 3) := by decide +kernel
theorem dX10_ranked_30 : decode cX10_ranked 30 = .ok (.if_icmp .ge 21, 3) := by decide +kernel
theorem dX10_ranked_33 : decode cX10_ranked 33 = .ok (.aload_n 0, 1) := by decide +kernel
theorem dX10_ranked_34 : decode cX10_ranked 34 = .ok (.iload_n 3, 1) := by decide +kernel
theorem dX10_ranked_35 : decode cX10_ranked 35 = .ok (.iload_n 1, 1) := by decide +kernel
theorem dX10_ranked_36 : decode cX10_ranked 36 = .ok (.invokevirtual 306, 3) := by decide +kernel
theorem dX10_ranked_39 : decode cX10_ranked 39 = .ok (.iload_n 2, 1) := by decide +kernel
theorem dX10_ranked_40 : decode cX10_ranked 40 = .ok (.if_icmp .ne 5, 3) := by decide +kernel
theorem dX10_ranked_43 : decode cX10_ranked 43 = .ok (.iload_n 3, 1) := by decide +kernel
theorem dX10_ranked_44 : decode cX10_ranked 44 = .ok (.ireturn, 1) := by decide +kernel
theorem dX10_ranked_45 : decode cX10_ranked 45 = .ok (.iinc 3 1, 3) := by decide +kernel
theorem dX10_ranked_48 : decode cX10_ranked 48 = .ok (.goto (-26), 3) := by decide +kernel
theorem dX10_ranked_51 : decode cX10_ranked 51 = .ok (.new 224, 3) := by decide +kernel
theorem dX10_ranked_54 : decode cX10_ranked 54 = .ok (.dup, 1) := by decide +kernel
theorem dX10_ranked_55 : decode cX10_ranked 55 = .ok (.ldc_w 309, 3) := by decide +kernel
theorem dX10_ranked_58 : decode cX10_ranked 58 = .ok (.invokespecial 228, 3) := by decide +kernel
theorem dX10_ranked_61 : decode cX10_ranked 61 = .ok (.athrow, 1) := by decide +kernel
set_option maxRecDepth 20000 in
theorem ggX10_placeOf_X10_measured : GoodIn wsX10_placeOf wsX10_measured := goodIn_r _ [7, 1, 8, 9, 10, 11, 12, 13, 14, 15, 16, 17, 18, 19, 20, 21, 6, 22, 23, 24, 25, 26, 27, 28, 29, 30, 31, 32, 33, 34, 35, 36, 37, 38, 39, 40, 41, 42, 43, 44, 45, 46, 47, 48, 49, 50, 51, 52, 53, 54, 55, 56, 57, 58, 59, 60, 61, 62, 63, 64, 65, 66, 67] (by decide +kernel) (by decide +kernel)
set_option maxRecDepth 20000 in
theorem gX10_placeOf_X10_measured : GoodIn wsX10_placeOf (wsV RX10 311 RX10 yX10_measured wsX10_measured) := goodIn_app (goodIn_of _ (by decide +kernel)) ggX10_placeOf_X10_measured
theorem dX10_placeOf_0 : decode cX10_placeOf 0 = .ok (.aload_n 0, 1) := by decide +kernel
theorem dX10_placeOf_1 : decode cX10_placeOf 1 = .ok (.iload_n 1, 1) := by decide +kernel
theorem dX10_placeOf_2 : decode cX10_placeOf 2 = .ok (.iload_n 2, 1) := by decide +kernel
theorem dX10_placeOf_3 : decode cX10_placeOf 3 = .ok (.invokevirtual 311, 3) := by decide +kernel
theorem dX10_placeOf_6 : decode cX10_placeOf 6 = .ok (.istore_n 3, 1) := by decide +kernel
theorem dX10_placeOf_7 : decode cX10_placeOf 7 = .ok (.iconst 0, 1) := by decide +kernel
theorem dX10_placeOf_8 : decode cX10_placeOf 8 = .ok (.istore 4, 2) := by decide +kernel
theorem dX10_placeOf_10 : decode cX10_placeOf 10 = .ok (.iconst 0, 1) := by decide +kernel
theorem dX10_placeOf_11 : decode cX10_placeOf 11 = .ok (.istore 5, 2) := by decide +kernel
theorem dX10_placeOf_13 : decode cX10_placeOf 13 = .ok (.iload 5, 2) := by decide +kernel
theorem dX10_placeOf_15 : decode cX10_placeOf 15 = .ok (.aload_n 0, 1) := by decide +kernel
theorem dX10_placeOf_16 : decode cX10_placeOf 16 = .ok (.getfield 20, 3) := by decide +kernel
theorem dX10_placeOf_19 : decode cX10_placeOf 19 = .ok (.getfield 303, 3) := by decide +kernel
theorem dX10_placeOf_22 : decode cX10_placeOf 22 = .ok (.if_icmp .ge 39, 3) := by decide +kernel
theorem dX10_placeOf_25 : decode cX10_placeOf 25 = .ok (.aload_n 0, 1) := by decide +kernel
theorem dX10_placeOf_26 : decode cX10_placeOf 26 = .ok (.iload 5, 2) := by decide +kernel
theorem dX10_placeOf_28 : decode cX10_placeOf 28 = .ok (.iload_n 2, 1) := by decide +kernel
theorem dX10_placeOf_29 : decode cX10_placeOf 29 = .ok (.invokevirtual 311, 3) := by decide +kernel
theorem dX10_placeOf_32 : decode cX10_placeOf 32 = .ok (.istore 6, 2) := by decide +kernel
theorem dX10_placeOf_34 : decode cX10_placeOf 34 = .ok (.iload 6, 2) := by decide +kernel
theorem dX10_placeOf_36 : decode cX10_placeOf 36 = .ok (.iload_n 3, 1) := by decide +kernel
theorem dX10_placeOf_37 : decode cX10_placeOf 37 = .ok (.if_icmp .gt 15, 3) := by decide +kernel
theorem dX10_placeOf_40 : decode cX10_placeOf 40 = .ok (.iload 6, 2) := by decide +kernel
theorem dX10_placeOf_42 : decode cX10_placeOf 42 = .ok (.iload_n 3, 1) := by decide +kernel
theorem dX10_placeOf_43 : decode cX10_placeOf 43 = .ok (.if_icmp .ne 12, 3) := by decide +kernel
theorem dX10_placeOf_46 : decode cX10_placeOf 46 = .ok (.iload 5, 2) := by decide +kernel
theorem dX10_placeOf_48 : decode cX10_placeOf 48 = .ok (.iload_n 1, 1) := by decide +kernel
theorem dX10_placeOf_49 : decode cX10_placeOf 49 = .ok (.if_icmp .ge 6, 3) := by decide +kernel
theorem dX10_placeOf_52 : decode cX10_placeOf 52 = .ok (.iinc 4 1, 3) := by decide +kernel
theorem dX10_placeOf_55 : decode cX10_placeOf 55 = .ok (.iinc 5 1, 3) := by decide +kernel
theorem dX10_placeOf_58 : decode cX10_placeOf 58 = .ok (.goto (-45), 3) := by decide +kernel
theorem dX10_placeOf_61 : decode cX10_placeOf 61 = .ok (.iload 4, 2) := by decide +kernel
theorem dX10_placeOf_63 : decode cX10_placeOf 63 = .ok (.ireturn, 1) := by decide +kernel
set_option maxRecDepth 20000 in
theorem ggX10_measured_X5_allSteps : GoodIn wsX10_measured wsX5_allSteps := goodIn_r _ [9, 10, 54, 55, 56, 57, 58, 59, 60, 61, 62] (by decide +kernel) (by decide +kernel)
set_option maxRecDepth 20000 in
theorem gX10_measured_X5_allSteps : GoodIn wsX10_measured (wsV RX10 139 RX5 yX5_allSteps wsX5_allSteps) := goodIn_app (goodIn_of _ (by decide +kernel)) ggX10_measured_X5_allSteps
set_option maxRecDepth 20000 in
theorem ggX10_measured_X5_partsOf : GoodIn wsX10_measured wsX5_partsOf := goodIn_r _ [14, 10, 15, 16, 17, 18, 19, 20, 8, 21, 22, 23, 54, 55, 56, 57, 58, 59, 60, 61, 62] (by decide +kernel) (by decide +kernel)
set_option maxRecDepth 20000 in
theorem gX10_measured_X5_partsOf : GoodIn wsX10_measured (wsV RX10 142 RX5 yX5_partsOf wsX5_partsOf) := goodIn_app (goodIn_of _ (by decide +kernel)) ggX10_measured_X5_partsOf
set_option maxRecDepth 20000 in
theorem ggX10_measured_X5_skippedSteps : GoodIn wsX10_measured wsX5_skippedSteps := goodIn_r _ [27, 28, 29, 30, 31, 32, 33, 34, 35, 54, 55, 56, 57, 58, 59, 60, 61, 62] (by decide +kernel) (by decide +kernel)
set_option maxRecDepth 20000 in
theorem gX10_measured_X5_skippedSteps : GoodIn wsX10_measured (wsV RX10 136 RX5 yX5_skippedSteps wsX5_skippedSteps) := goodIn_app (goodIn_of _ (by decide +kernel)) ggX10_measured_X5_skippedSteps
theorem dX10_measured_0 : decode cX10_measured 0 = .ok (.aload_n 0, 1) := by decide +kernel
theorem dX10_measured_1 : decode cX10_measured 1 = .ok (.getfield 20, 3) := by decide +kernel
theorem dX10_measured_4 : decode cX10_measured 4 = .ok (.getfield 208, 3) := by decide +kernel
theorem dX10_measured_7 : decode cX10_measured 7 = .ok (.iload_n 1, 1) := by decide +kernel
theorem dX10_measured_8 : decode cX10_measured 8 = .ok (.aaload, 1) := by decide +kernel
theorem dX10_measured_9 : decode cX10_measured 9 = .ok (.astore_n 3, 1) := by decide +kernel
theorem dX10_measured_10 : decode cX10_measured 10 = .ok (.iload_n 2, 1) := by decide +kernel
theorem dX10_measured_11 : decode cX10_measured 11 = .ok (.tableswitch 44 0 2 #[25, 30, 35], 25) := by decide +kernel
theorem dX10_measured_36 : decode cX10_measured 36 = .ok (.aload_n 3, 1) := by decide +kernel
theorem dX10_measured_37 : decode cX10_measured 37 = .ok (.getfield 117, 3) := by decide +kernel
theorem dX10_measured_40 : decode cX10_measured 40 = .ok (.ireturn, 1) := by decide +kernel
theorem dX10_measured_41 : decode cX10_measured 41 = .ok (.aload_n 3, 1) := by decide +kernel
theorem dX10_measured_42 : decode cX10_measured 42 = .ok (.getfield 123, 3) := by decide +kernel
theorem dX10_measured_45 : decode cX10_measured 45 = .ok (.ireturn, 1) := by decide +kernel
theorem dX10_measured_46 : decode cX10_measured 46 = .ok (.aload_n 3, 1) := by decide +kernel
theorem dX10_measured_47 : decode cX10_measured 47 = .ok (.aload_n 3, 1) := by decide +kernel
theorem dX10_measured_48 : decode cX10_measured 48 = .ok (.invokevirtual 139, 3) := by decide +kernel
theorem dX10_measured_51 : decode cX10_measured 51 = .ok (.invokevirtual 142, 3) := by decide +kernel
theorem dX10_measured_54 : decode cX10_measured 54 = .ok (.ireturn, 1) := by decide +kernel
theorem dX10_measured_55 : decode cX10_measured 55 = .ok (.aload_n 3, 1) := by decide +kernel
theorem dX10_measured_56 : decode cX10_measured 56 = .ok (.invokevirtual 136, 3) := by decide +kernel
theorem dX10_measured_59 : decode cX10_measured 59 = .ok (.ireturn, 1) := by decide +kernel
set_option maxRecDepth 20000 in
theorem ggX10_isEven_X0_needOfSkipped : GoodIn wsX10_isEven wsX0_needOfSkipped := goodIn_r _ [9, 10, 11, 12, 13, 14, 15, 16, 17, 18, 19, 20, 21, 22, 23, 24, 25, 26, 27, 28, 38, 39, 40, 41, 42, 43, 44, 45, 46, 49, 50, 51, 52, 53, 54, 55, 56, 57] (by decide +kernel) (by decide +kernel)
set_option maxRecDepth 20000 in
theorem gX10_isEven_X0_needOfSkipped : GoodIn wsX10_isEven (wsV RX10 314 RX0 yX0_needOfSkipped wsX0_needOfSkipped) := goodIn_app (goodIn_of _ (by decide +kernel)) ggX10_isEven_X0_needOfSkipped
theorem dX10_isEven_0 : decode cX10_isEven 0 = .ok (.iconst 0, 1) := by decide +kernel
theorem dX10_isEven_1 : decode cX10_isEven 1 = .ok (.istore_n 1, 1) := by decide +kernel
theorem dX10_isEven_2 : decode cX10_isEven 2 = .ok (.iload_n 1, 1) := by decide +kernel
theorem dX10_isEven_3 : decode cX10_isEven 3 = .ok (.bipush 6, 2) := by decide +kernel
theorem dX10_isEven_5 : decode cX10_isEven 5 = .ok (.if_icmp .ge 47, 3) := by decide +kernel
theorem dX10_isEven_8 : decode cX10_isEven 8 = .ok (.aload_n 0, 1) := by decide +kernel
theorem dX10_isEven_9 : decode cX10_isEven 9 = .ok (.getfield 20, 3) := by decide +kernel
theorem dX10_isEven_12 : decode cX10_isEven 12 = .ok (.getfield 273, 3) := by decide +kernel
theorem dX10_isEven_15 : decode cX10_isEven 15 = .ok (.getfield 287, 3) := by decide +kernel
theorem dX10_isEven_18 : decode cX10_isEven 18 = .ok (.iload_n 1, 1) := by decide +kernel
theorem dX10_isEven_19 : decode cX10_isEven 19 = .ok (.iaload, 1) := by decide +kernel
theorem dX10_isEven_20 : decode cX10_isEven 20 = .ok (.aload_n 0, 1) := by decide +kernel
theorem dX10_isEven_21 : decode cX10_isEven 21 = .ok (.getfield 20, 3) := by decide +kernel
theorem dX10_isEven_24 : decode cX10_isEven 24 = .ok (.getfield 273, 3) := by decide +kernel
theorem dX10_isEven_27 : decode cX10_isEven 27 = .ok (.getfield 290, 3) := by decide +kernel
theorem dX10_isEven_30 : decode cX10_isEven 30 = .ok (.iload_n 1, 1) := by decide +kernel
theorem dX10_isEven_31 : decode cX10_isEven 31 = .ok (.iaload, 1) := by decide +kernel
theorem dX10_isEven_32 : decode cX10_isEven 32 = .ok (.iadd, 1) := by decide +kernel
theorem dX10_isEven_33 : decode cX10_isEven 33 = .ok (.aload_n 0, 1) := by decide +kernel
theorem dX10_isEven_34 : decode cX10_isEven 34 = .ok (.getfield 20, 3) := by decide +kernel
theorem dX10_isEven_37 : decode cX10_isEven 37 = .ok (.iload_n 1, 1) := by decide +kernel
theorem dX10_isEven_38 : decode cX10_isEven 38 = .ok (.invokevirtual 314, 3) := by decide +kernel
theorem dX10_isEven_41 : decode cX10_isEven 41 = .ok (.if_icmp .eq 5, 3) := by decide +kernel
theorem dX10_isEven_44 : decode cX10_isEven 44 = .ok (.iconst 0, 1) := by decide +kernel
theorem dX10_isEven_45 : decode cX10_isEven 45 = .ok (.ireturn, 1) := by decide +kernel
theorem dX10_isEven_46 : decode cX10_isEven 46 = .ok (.iinc 1 1, 3) := by decide +kernel
theorem dX10_isEven_49 : decode cX10_isEven 49 = .ok (.goto (-47), 3) := by decide +kernel
theorem dX10_isEven_52 : decode cX10_isEven 52 = .ok (.iconst 1, 1) := by decide +kernel
theorem dX10_isEven_53 : decode cX10_isEven 53 = .ok (.ireturn, 1) := by decide +kernel
set_option maxRecDepth 20000 in
theorem ggX10_append_X8_isFull : GoodIn wsX10_append wsX8_isFull := goodIn_r _ [8, 9, 25, 26, 27, 28, 29, 30] (by decide +kernel) (by decide +kernel)
set_option maxRecDepth 20000 in
theorem gX10_append_X8_isFull : GoodIn wsX10_append (wsV RX10 317 RX8 yX8_isFull wsX8_isFull) := goodIn_app (goodIn_of _ (by decide +kernel)) ggX10_append_X8_isFull
set_option maxRecDepth 20000 in
theorem ggX10_append_X8_add : GoodIn wsX10_append wsX8_add := goodIn_r _ [13, 14, 9, 15, 5, 6, 7, 8, 25, 26, 27, 28, 29, 30] (by decide +kernel) (by decide +kernel)
set_option maxRecDepth 20000 in
theorem gX10_append_X8_add : GoodIn wsX10_append (wsV RX10 326 RX8 yX8_add wsX8_add) := goodIn_app (goodIn_of _ (by decide +kernel)) ggX10_append_X8_add
theorem dX10_append_0 : decode cX10_append 0 = .ok (.aload_n 0, 1) := by decide +kernel
theorem dX10_append_1 : decode cX10_append 1 = .ok (.getfield 42, 3) := by decide +kernel
theorem dX10_append_4 : decode cX10_append 4 = .ok (.invokevirtual 317, 3) := by decide +kernel
theorem dX10_append_7 : decode cX10_append 7 = .ok (.ifCond .eq 14, 3) := by decide +kernel
theorem dX10_append_10 : decode cX10_append 10 = .ok (.new 321, 3) := by decide +kernel
theorem dX10_append_13 : decode cX10_append 13 = .ok (.dup, 1) := by decide +kernel
theorem dX10_append_14 : decode cX10_append 14 = .ok (.ldc_w 323, 3) := by decide +kernel
theorem dX10_append_17 : decode cX10_append 17 = .ok (.invokespecial 325, 3) := by decide +kernel
theorem dX10_append_20 : decode cX10_append 20 = .ok (.athrow, 1) := by decide +kernel
theorem dX10_append_21 : decode cX10_append 21 = .ok (.aload_n 0, 1) := by decide +kernel
theorem dX10_append_22 : decode cX10_append 22 = .ok (.getfield 42, 3) := by decide +kernel
theorem dX10_append_25 : decode cX10_append 25 = .ok (.iload_n 1, 1) := by decide +kernel
theorem dX10_append_26 : decode cX10_append 26 = .ok (.invokevirtual 326, 3) := by decide +kernel
theorem dX10_append_29 : decode cX10_append 29 = .ok (.ireturn, 1) := by decide +kernel
set_option maxRecDepth 20000 in
theorem ggX10_commands_X8_readAndEmpty : GoodIn wsX10_commands wsX8_readAndEmpty := goodIn_r _ [16, 17, 18, 19, 20, 21, 22, 23, 15, 24, 25, 26, 27, 28, 29, 30, 31, 32, 33, 34, 35, 36, 37, 38, 39, 40, 41, 42, 43, 44, 45, 46, 47, 48, 49, 50, 51, 52, 53, 54, 55, 56, 57, 58, 59, 60, 61, 62, 63, 64, 65, 66, 67, 68, 69, 70, 71, 72, 73, 74, 75, 76, 77, 78, 79, 80, 81, 82, 83, 84, 85, 86, 87, 88, 89, 90, 91, 92, 93, 94, 95, 96, 97, 98, 99, 100, 101, 102, 103, 104, 105, 106, 107, 108, 109, 110, 111, 112, 113, 114, 115, 116, 117, 118, 119, 120, 121, 122, 123, 399, 400, 401, 402, 403, 404, 408, 409, 410, 411, 412, 413, 414, 415] (by decide +kernel) (by decide +kernel)
set_option maxRecDepth 20000 in
theorem gX10_commands_X8_readAndEmpty : GoodIn wsX10_commands (wsV RX10 330 RX8 yX8_readAndEmpty wsX8_readAndEmpty) := goodIn_app (goodIn_of _ (by decide +kernel)) ggX10_commands_X8_readAndEmpty
set_option maxRecDepth 20000 in
theorem ggX10_commands_X4_note : GoodIn wsX10_commands wsX4_note := goodIn_r _ [128, 129, 130, 131, 132, 133, 134, 135, 136, 137, 138, 139, 140, 141, 142, 143, 144, 145, 146, 147, 148, 149, 150, 151, 152, 153, 154, 155, 156, 157, 158, 159, 160, 161, 162, 163, 164, 165, 166, 167, 168, 169, 170, 171, 172, 173, 174, 175, 176, 177, 416, 417, 418, 419, 420, 421, 422, 423, 424, 425, 426, 427, 428, 429, 430, 431, 432, 433, 434, 435, 436, 437, 438, 439, 440] (by decide +kernel) (by decide +kernel)
set_option maxRecDepth 20000 in
theorem gX10_commands_X4_note : GoodIn wsX10_commands (wsV RX10 60 RX4 yX4_note wsX4_note) := goodIn_app (goodIn_of _ (by decide +kernel)) ggX10_commands_X4_note
set_option maxRecDepth 20000 in
theorem ggX10_commands_X10_firstRefused : GoodIn wsX10_commands wsX10_firstRefused := goodIn_r _ [182, 5, 11, 183, 184, 185, 186, 181, 187, 188, 189, 190, 191, 192, 193, 194, 195, 196, 197, 198, 199, 200, 201, 202, 203, 204, 205, 206, 207, 208, 209, 210, 211, 212, 213, 214, 215, 216, 134, 217, 218, 219, 220, 221, 136, 137, 222, 223, 224, 225, 226, 227, 228, 229, 230, 231, 232, 148, 233, 150, 151, 152, 153, 154, 234, 235, 236, 237, 238, 239, 240, 241, 242, 243, 244, 245, 246, 247, 248, 249, 250, 251, 252, 253, 254, 255, 256, 257, 258, 259, 260, 261, 262, 263, 264, 265, 266, 267, 268, 269, 270, 271, 272, 273, 274, 275, 276, 277, 278, 279, 280, 281, 282, 283, 284, 285, 286, 287, 288, 138, 289, 290, 291, 292, 293, 294, 295, 296, 297, 298, 299, 300, 301, 302, 303, 304, 161, 305, 306, 307, 308, 309, 310, 311, 312, 160, 162, 313, 314, 315, 173, 316, 175, 317, 318, 319, 320, 321, 322, 323, 324, 325, 326, 155, 327, 328, 329, 330, 331, 332, 333, 334, 335, 336, 337, 338, 339, 340, 341, 342, 343, 344, 345, 346, 347, 348, 349, 350, 351, 352, 353, 354, 355, 356, 357, 358, 359, 360, 361, 362, 363, 364, 365, 366, 367, 368, 369, 370, 371, 372, 373, 374, 375, 376, 390, 391, 392, 393, 394, 395, 396, 397, 398, 399, 400, 401, 402, 403, 404, 412, 413, 414, 415, 441, 442, 419, 420, 421, 422, 423, 424, 425, 426, 427, 405, 406, 407, 428, 429, 430, 431, 432, 433, 434, 435, 436, 437, 438, 439, 440] (by decide +kernel) (by decide +kernel)
set_option maxRecDepth 20000 in
theorem gX10_commands_X10_firstRefused : GoodIn wsX10_commands (wsV RX10 338 RX10 yX10_firstRefused wsX10_firstRefused) := goodIn_app (goodIn_of _ (by decide +kernel)) ggX10_commands_X10_firstRefused
set_option maxRecDepth 20000 in
theorem ggX10_commands_X4_takeBack : GoodIn wsX10_commands wsX4_takeBack := goodIn_r _ [380, 129, 130, 131, 132, 133, 134, 135, 136, 137, 138, 139, 140, 141, 142, 143, 144, 145, 146, 147, 148, 149, 150, 151, 152, 153, 154, 155, 156, 157, 158, 159, 160, 161, 162, 163, 164, 165, 166, 167, 168, 169, 170, 171, 172, 173, 174, 175, 176, 177, 416, 417, 418, 419, 420, 421, 422, 423, 424, 425, 426, 427, 428, 429, 430, 431, 432, 433, 434, 435, 436, 437, 438, 439, 440] (by decide +kernel) (by decide +kernel)
set_option maxRecDepth 20000 in
theorem gX10_commands_X4_takeBack : GoodIn wsX10_commands (wsV RX10 341 RX4 yX4_takeBack wsX4_takeBack) := goodIn_app (goodIn_of _ (by decide +kernel)) ggX10_commands_X4_takeBack
set_option maxRecDepth 20000 in
theorem ggX10_commands_X4_keep : GoodIn wsX10_commands wsX4_keep := goodIn_r _ [384, 130, 385, 386, 387, 388, 389, 416, 417, 418] (by decide +kernel) (by decide +kernel)
set_option maxRecDepth 20000 in
theorem gX10_commands_X4_keep : GoodIn wsX10_commands (wsV RX10 110 RX4 yX4_keep wsX4_keep) := goodIn_app (goodIn_of _ (by decide +kernel)) ggX10_commands_X4_keep
theorem dX10_commands_0 : decode cX10_commands 0 = .ok (.aload_n 0, 1) := by decide +kernel
theorem dX10_commands_1 : decode cX10_commands 1 = .ok (.getfield 42, 3) := by decide +kernel
theorem dX10_commands_4 : decode cX10_commands 4 = .ok (.invokevirtual 330, 3) := by decide +kernel
theorem dX10_commands_7 : decode cX10_commands 7 = .ok (.aload_n 0, 1) := by decide +kernel
theorem dX10_commands_8 : decode cX10_commands 8 = .ok (.getfield 42, 3) := by decide +kernel
theorem dX10_commands_11 : decode cX10_commands 11 = .ok (.getfield 333, 3) := by decide +kernel
theorem dX10_commands_14 : decode cX10_commands 14 = .ok (.iconst (-1), 1) := by decide +kernel
theorem dX10_commands_15 : decode cX10_commands 15 = .ok (.if_icmp .eq 14, 3) := by decide +kernel
theorem dX10_commands_18 : decode cX10_commands 18 = .ok (.new 148, 3) := by decide +kernel
theorem dX10_commands_21 : decode cX10_commands 21 = .ok (.dup, 1) := by decide +kernel
theorem dX10_commands_22 : decode cX10_commands 22 = .ok (.ldc_w 336, 3) := by decide +kernel
theorem dX10_commands_25 : decode cX10_commands 25 = .ok (.invokespecial 152, 3) := by decide +kernel
theorem dX10_commands_28 : decode cX10_commands 28 = .ok (.athrow, 1) := by decide +kernel
theorem dX10_commands_29 : decode cX10_commands 29 = .ok (.aload_n 0, 1) := by decide +kernel
theorem dX10_commands_30 : decode cX10_commands 30 = .ok (.getfield 29, 3) := by decide +kernel
theorem dX10_commands_33 : decode cX10_commands 33 = .ok (.aload_n 0, 1) := by decide +kernel
theorem dX10_commands_34 : decode cX10_commands 34 = .ok (.getfield 20, 3) := by decide +kernel
theorem dX10_commands_37 : decode cX10_commands 37 = .ok (.invokevirtual 60, 3) := by decide +kernel
theorem dX10_commands_40 : decode cX10_commands 40 = .ok (.aload_n 0, 1) := by decide +kernel
theorem dX10_commands_41 : decode cX10_commands 41 = .ok (.invokevirtual 338, 3) := by decide +kernel
theorem dX10_commands_44 : decode cX10_commands 44 = .ok (.istore_n 1, 1) := by decide +kernel
theorem dX10_commands_45 : decode cX10_commands 45 = .ok (.iload_n 1, 1) := by decide +kernel
theorem dX10_commands_46 : decode cX10_commands 46 = .ok (.iconst (-1), 1) := by decide +kernel
theorem dX10_commands_47 : decode cX10_commands 47 = .ok (.if_icmp .eq 33, 3) := by decide +kernel
theorem dX10_commands_50 : decode cX10_commands 50 = .ok (.aload_n 0, 1) := by decide +kernel
theorem dX10_commands_51 : decode cX10_commands 51 = .ok (.getfield 29, 3) := by decide +kernel
theorem dX10_commands_54 : decode cX10_commands 54 = .ok (.aload_n 0, 1) := by decide +kernel
theorem dX10_commands_55 : decode cX10_commands 55 = .ok (.getfield 20, 3) := by decide +kernel
theorem dX10_commands_58 : decode cX10_commands 58 = .ok (.invokevirtual 341, 3) := by decide +kernel
theorem dX10_commands_61 : decode cX10_commands 61 = .ok (.aload_n 0, 1) := by decide +kernel
theorem dX10_commands_62 : decode cX10_commands 62 = .ok (.getfield 25, 3) := by decide +kernel
theorem dX10_commands_65 : decode cX10_commands 65 = .ok (.iload_n 1, 1) := by decide +kernel
theorem dX10_commands_66 : decode cX10_commands 66 = .ok (.putfield 344, 3) := by decide +kernel
theorem dX10_commands_69 : decode cX10_commands 69 = .ok (.new 103, 3) := by decide +kernel
theorem dX10_commands_72 : decode cX10_commands 72 = .ok (.dup, 1) := by decide +kernel
theorem dX10_commands_73 : decode cX10_commands 73 = .ok (.ldc_w 349, 3) := by decide +kernel
theorem dX10_commands_76 : decode cX10_commands 76 = .ok (.invokespecial 107, 3) := by decide +kernel
theorem dX10_commands_79 : decode cX10_commands 79 = .ok (.athrow, 1) := by decide +kernel
theorem dX10_commands_80 : decode cX10_commands 80 = .ok (.aload_n 0, 1) := by decide +kernel
theorem dX10_commands_81 : decode cX10_commands 81 = .ok (.getfield 29, 3) := by decide +kernel
theorem dX10_commands_84 : decode cX10_commands 84 = .ok (.invokevirtual 110, 3) := by decide +kernel
theorem dX10_commands_87 : decode cX10_commands 87 = .ok (.aload_n 0, 1) := by decide +kernel
theorem dX10_commands_88 : decode cX10_commands 88 = .ok (.getfield 42, 3) := by decide +kernel
theorem dX10_commands_91 : decode cX10_commands 91 = .ok (.getfield 351, 3) := by decide +kernel
theorem dX10_commands_94 : decode cX10_commands 94 = .ok (.ireturn, 1) := by decide +kernel
set_option maxRecDepth 20000 in
theorem ggX10_firstRefused_X10_carriedOut : GoodIn wsX10_firstRefused wsX10_carriedOut := goodIn_r _ [8, 9, 10, 11, 12, 13, 14, 15, 16, 17, 18, 19, 20, 21, 22, 7, 23, 24, 25, 26, 27, 28, 29, 30, 31, 32, 33, 34, 35, 36, 37, 38, 39, 40, 41, 42, 43, 44, 45, 46, 47, 48, 49, 50, 51, 52, 53, 54, 55, 56, 57, 58, 59, 60, 61, 62, 63, 64, 65, 66, 67, 68, 69, 70, 71, 72, 73, 74, 75, 76, 77, 78, 79, 80, 81, 82, 83, 84, 85, 86, 87, 88, 89, 90, 91, 92, 93, 94, 95, 96, 97, 98, 99, 100, 101, 102, 103, 104, 105, 106, 107, 108, 109, 110, 111, 112, 113, 114, 115, 116, 117, 118, 119, 120, 121, 122, 123, 124, 125, 126, 127, 128, 129, 130, 131, 132, 133, 134, 135, 136, 137, 138, 139, 140, 141, 142, 143, 144, 145, 146, 147, 148, 149, 150, 151, 152, 153, 154, 155, 156, 157, 158, 159, 160, 161, 162, 163, 164, 165, 166, 167, 168, 169, 170, 171, 172, 173, 174, 175, 176, 177, 178, 179, 180, 181, 182, 183, 184, 185, 186, 187, 188, 189, 190, 191, 192, 193, 194, 195, 196, 197, 198, 199, 200, 201, 202, 203, 204, 205, 206, 207, 208, 209, 210, 211, 212, 213, 229, 230, 231, 232, 214, 215, 216, 217, 218, 219, 220, 221, 222, 233, 234, 235, 236, 237, 238, 239, 240, 241, 242, 243, 244, 245, 246, 247, 248, 249, 250, 251, 252, 253, 254, 255, 256, 257, 258, 259] (by decide +kernel) (by decide +kernel)
set_option maxRecDepth 20000 in
theorem gX10_firstRefused_X10_carriedOut : GoodIn wsX10_firstRefused (wsV RX10 358 RX10 yX10_carriedOut wsX10_carriedOut) := goodIn_app (goodIn_of _ (by decide +kernel)) ggX10_firstRefused_X10_carriedOut
theorem dX10_firstRefused_0 : decode cX10_firstRefused 0 = .ok (.iconst 0, 1) := by decide +kernel
theorem dX10_firstRefused_1 : decode cX10_firstRefused 1 = .ok (.istore_n 1, 1) := by decide +kernel
theorem dX10_firstRefused_2 : decode cX10_firstRefused 2 = .ok (.iload_n 1, 1) := by decide +kernel
theorem dX10_firstRefused_3 : decode cX10_firstRefused 3 = .ok (.aload_n 0, 1) := by decide +kernel
theorem dX10_firstRefused_4 : decode cX10_firstRefused 4 = .ok (.getfield 42, 3) := by decide +kernel
theorem dX10_firstRefused_7 : decode cX10_firstRefused 7 = .ok (.getfield 351, 3) := by decide +kernel
theorem dX10_firstRefused_10 : decode cX10_firstRefused 10 = .ok (.if_icmp .ge 28, 3) := by decide +kernel
theorem dX10_firstRefused_13 : decode cX10_firstRefused 13 = .ok (.aload_n 0, 1) := by decide +kernel
theorem dX10_firstRefused_14 : decode cX10_firstRefused 14 = .ok (.aload_n 0, 1) := by decide +kernel
theorem dX10_firstRefused_15 : decode cX10_firstRefused 15 = .ok (.getfield 42, 3) := by decide +kernel
theorem dX10_firstRefused_18 : decode cX10_firstRefused 18 = .ok (.getfield 354, 3) := by decide +kernel
theorem dX10_firstRefused_21 : decode cX10_firstRefused 21 = .ok (.iload_n 1, 1) := by decide +kernel
theorem dX10_firstRefused_22 : decode cX10_firstRefused 22 = .ok (.aaload, 1) := by decide +kernel
theorem dX10_firstRefused_23 : decode cX10_firstRefused 23 = .ok (.invokevirtual 358, 3) := by decide +kernel
theorem dX10_firstRefused_26 : decode cX10_firstRefused 26 = .ok (.iconst (-1), 1) := by decide +kernel
theorem dX10_firstRefused_27 : decode cX10_firstRefused 27 = .ok (.if_icmp .ne 5, 3) := by decide +kernel
theorem dX10_firstRefused_30 : decode cX10_firstRefused 30 = .ok (.iload_n 1, 1) := by decide +kernel
theorem dX10_firstRefused_31 : decode cX10_firstRefused 31 = .ok (.ireturn, 1) := by decide +kernel
theorem dX10_firstRefused_32 : decode cX10_firstRefused 32 = .ok (.iinc 1 1, 3) := by decide +kernel
theorem dX10_firstRefused_35 : decode cX10_firstRefused 35 = .ok (.goto (-33), 3) := by decide +kernel
theorem dX10_firstRefused_38 : decode cX10_firstRefused 38 = .ok (.iconst (-1), 1) := by decide +kernel
theorem dX10_firstRefused_39 : decode cX10_firstRefused 39 = .ok (.ireturn, 1) := by decide +kernel
set_option maxRecDepth 20000 in
theorem ggX10_carriedOut_X1_layLeaflet : GoodIn wsX10_carriedOut wsX1_layLeaflet := goodIn_r _ [9, 10, 11, 12, 13, 14, 15, 16, 17, 18, 19, 20, 21, 22, 23, 24, 25, 26, 27, 28, 29, 30, 31, 32, 33, 34, 35, 36, 37, 38, 39, 40, 41, 42, 43, 44, 45, 46, 47, 48, 49, 50, 51, 52, 53, 54, 55, 56, 220, 221, 222, 223, 224, 225, 226, 227, 228, 229, 230, 231, 232, 233, 234, 235, 236, 237, 238, 239, 240, 241, 242] (by decide +kernel) (by decide +kernel)
set_option maxRecDepth 20000 in
theorem gX10_carriedOut_X1_layLeaflet : GoodIn wsX10_carriedOut (wsV RX10 64 RX1 yX1_layLeaflet wsX1_layLeaflet) := goodIn_app (goodIn_of _ (by decide +kernel)) ggX10_carriedOut_X1_layLeaflet
set_option maxRecDepth 20000 in
theorem ggX10_carriedOut_X1_addStep : GoodIn wsX10_carriedOut wsX1_addStep := goodIn_r _ [60, 11, 10, 13, 61, 62, 63, 64, 65, 66, 67, 68, 69, 31, 70, 37, 18, 15, 19, 71, 72, 73, 8, 74, 12, 20, 21, 22, 23, 24, 25, 26, 27, 75, 76, 77, 50, 78, 55, 220, 221, 222, 223, 224, 225, 226, 227, 228, 229, 230, 234, 235, 236, 237, 238, 239, 240, 241, 242, 231, 232, 233] (by decide +kernel) (by decide +kernel)
set_option maxRecDepth 20000 in
theorem gX10_carriedOut_X1_addStep : GoodIn wsX10_carriedOut (wsV RX10 71 RX1 yX1_addStep wsX1_addStep) := goodIn_app (goodIn_of _ (by decide +kernel)) ggX10_carriedOut_X1_addStep
set_option maxRecDepth 20000 in
theorem ggX10_carriedOut_X1_changeFolds : GoodIn wsX10_carriedOut wsX1_changeFolds := goodIn_r _ [82, 11, 13, 10, 61, 83, 67, 68, 69, 31, 70, 37, 18, 15, 19, 71, 72, 73, 8, 74, 12, 20, 21, 22, 23, 24, 25, 26, 27, 75, 76, 77, 50, 78, 55, 84, 85, 86, 87, 53, 88, 89, 90, 91, 52, 220, 221, 222, 223, 224, 225, 226, 227, 228, 229, 230, 234, 235, 236, 237, 238, 239, 240, 241, 242, 231, 232, 233] (by decide +kernel) (by decide +kernel)
set_option maxRecDepth 20000 in
theorem gX10_carriedOut_X1_changeFolds : GoodIn wsX10_carriedOut (wsV RX10 75 RX1 yX1_changeFolds wsX1_changeFolds) := goodIn_app (goodIn_of _ (by decide +kernel)) ggX10_carriedOut_X1_changeFolds
set_option maxRecDepth 20000 in
theorem ggX10_carriedOut_X1_letCome : GoodIn wsX10_carriedOut wsX1_letCome := goodIn_r _ [95, 10, 11, 96, 97, 98, 99, 18, 15, 19, 20, 21, 22, 23, 24, 25, 26, 27, 220, 221, 222, 223, 224, 225, 226, 227, 228, 229, 230, 243, 244, 231, 232, 233] (by decide +kernel) (by decide +kernel)
set_option maxRecDepth 20000 in
theorem gX10_carriedOut_X1_letCome : GoodIn wsX10_carriedOut (wsV RX10 79 RX1 yX1_letCome wsX1_letCome) := goodIn_app (goodIn_of _ (by decide +kernel)) ggX10_carriedOut_X1_letCome
set_option maxRecDepth 20000 in
theorem ggX10_carriedOut_X1_letBuild : GoodIn wsX10_carriedOut wsX1_letBuild := goodIn_r _ [103, 11, 13, 10, 61, 97, 99, 98, 83, 104, 105, 106, 107, 62, 108, 109, 110, 31, 111, 112, 18, 15, 19, 113, 114, 115, 8, 116, 96, 20, 21, 22, 23, 24, 25, 26, 27, 67, 68, 69, 70, 37, 71, 72, 73, 74, 12, 75, 76, 77, 50, 78, 55, 117, 118, 119, 120, 121, 122, 123, 124, 52, 88, 89, 90, 91, 125, 126, 127, 128, 129, 130, 131, 132, 133, 134, 135, 136, 137, 138, 139, 140, 141, 142, 143, 144, 145, 146, 147, 148, 149, 150, 151, 152, 153, 154, 155, 156, 157, 158, 159, 160, 56, 161, 41, 42, 43, 44, 45, 46, 220, 221, 222, 223, 224, 225, 226, 227, 228, 229, 230, 234, 235, 236, 237, 238, 239, 240, 241, 242, 243, 244, 231, 232, 233, 245, 246] (by decide +kernel) (by decide +kernel)
set_option maxRecDepth 20000 in
theorem gX10_carriedOut_X1_letBuild : GoodIn wsX10_carriedOut (wsV RX10 85 RX1 yX1_letBuild wsX1_letBuild) := goodIn_app (goodIn_of _ (by decide +kernel)) ggX10_carriedOut_X1_letBuild
set_option maxRecDepth 20000 in
theorem ggX10_carriedOut_X1_doLater : GoodIn wsX10_carriedOut wsX1_doLater := goodIn_r _ [165, 11, 13, 10, 62, 105, 104, 166, 67, 68, 69, 31, 70, 37, 18, 15, 19, 71, 72, 73, 8, 74, 12, 20, 21, 22, 23, 24, 25, 26, 27, 75, 76, 77, 50, 78, 55, 167, 168, 169, 170, 52, 171, 172, 173, 174, 56, 150, 151, 175, 176, 177, 143, 178, 145, 146, 147, 148, 149, 138, 152, 153, 154, 155, 156, 139, 179, 180, 181, 182, 157, 158, 159, 160, 161, 41, 42, 43, 44, 45, 46, 220, 221, 222, 223, 224, 225, 226, 227, 228, 229, 230, 234, 235, 236, 237, 238, 239, 240, 241, 242, 231, 232, 233, 245, 246] (by decide +kernel) (by decide +kernel)
set_option maxRecDepth 20000 in
theorem gX10_carriedOut_X1_doLater : GoodIn wsX10_carriedOut (wsV RX10 88 RX1 yX1_doLater wsX1_doLater) := goodIn_app (goodIn_of _ (by decide +kernel)) ggX10_carriedOut_X1_doLater
set_option maxRecDepth 20000 in
theorem ggX10_carriedOut_X1_takeApart : GoodIn wsX10_carriedOut wsX1_takeApart := goodIn_r _ [186, 11, 13, 10, 105, 104, 61, 187, 67, 68, 69, 31, 70, 37, 18, 15, 19, 71, 72, 73, 8, 74, 12, 20, 21, 22, 23, 24, 25, 26, 27, 75, 76, 77, 50, 78, 55, 175, 176, 177, 143, 178, 145, 146, 147, 148, 149, 52, 138, 150, 151, 152, 153, 154, 155, 156, 139, 188, 189, 190, 191, 134, 135, 136, 137, 179, 180, 181, 182, 220, 221, 222, 223, 224, 225, 226, 227, 228, 229, 230, 234, 235, 236, 237, 238, 239, 240, 241, 242, 231, 232, 233, 245, 246] (by decide +kernel) (by decide +kernel)
set_option maxRecDepth 20000 in
theorem gX10_carriedOut_X1_takeApart : GoodIn wsX10_carriedOut (wsV RX10 91 RX1 yX1_takeApart wsX1_takeApart) := goodIn_app (goodIn_of _ (by decide +kernel)) ggX10_carriedOut_X1_takeApart
set_option maxRecDepth 20000 in
theorem ggX10_carriedOut_X1_moveBox : GoodIn wsX10_carriedOut wsX1_moveBox := goodIn_r _ [195, 11, 10, 13, 196, 67, 68, 69, 31, 70, 37, 18, 15, 19, 71, 72, 73, 8, 74, 12, 20, 21, 22, 23, 24, 25, 26, 27, 14, 16, 17, 28, 29, 30, 32, 33, 34, 35, 36, 38, 39, 40, 41, 42, 43, 44, 45, 46, 220, 221, 222, 223, 224, 225, 226, 227, 228, 229, 230, 234, 235, 236, 237, 238, 239, 240, 241, 242, 231, 232, 233] (by decide +kernel) (by decide +kernel)
set_option maxRecDepth 20000 in
theorem gX10_carriedOut_X1_moveBox : GoodIn wsX10_carriedOut (wsV RX10 94 RX1 yX1_moveBox wsX1_moveBox) := goodIn_app (goodIn_of _ (by decide +kernel)) ggX10_carriedOut_X1_moveBox
set_option maxRecDepth 20000 in
theorem ggX10_carriedOut_X1_loseParts : GoodIn wsX10_carriedOut wsX1_loseParts := goodIn_r _ [200, 10, 11, 105, 201, 202, 18, 15, 19, 20, 21, 22, 23, 24, 25, 26, 27, 220, 221, 222, 223, 224, 225, 226, 227, 228, 229, 230, 245, 246, 231, 232, 233] (by decide +kernel) (by decide +kernel)
set_option maxRecDepth 20000 in
theorem gX10_carriedOut_X1_loseParts : GoodIn wsX10_carriedOut (wsV RX10 97 RX1 yX1_loseParts wsX1_loseParts) := goodIn_app (goodIn_of _ (by decide +kernel)) ggX10_carriedOut_X1_loseParts
set_option maxRecDepth 20000 in
theorem ggX10_carriedOut_X1_findParts : GoodIn wsX10_carriedOut wsX1_findParts := goodIn_r _ [206, 10, 11, 105, 202, 201, 18, 15, 19, 20, 21, 22, 23, 24, 25, 26, 27, 220, 221, 222, 223, 224, 225, 226, 227, 228, 229, 230, 245, 246, 231, 232, 233] (by decide +kernel) (by decide +kernel)
set_option maxRecDepth 20000 in
theorem gX10_carriedOut_X1_findParts : GoodIn wsX10_carriedOut (wsV RX10 100 RX1 yX1_findParts wsX1_findParts) := goodIn_app (goodIn_of _ (by decide +kernel)) ggX10_carriedOut_X1_findParts
theorem dX10_carriedOut_0 : decode cX10_carriedOut 0 = .ok (.aload_n 1, 1) := by decide +kernel
theorem dX10_carriedOut_1 : decode cX10_carriedOut 1 = .ok (.getfield 362, 3) := by decide +kernel
theorem dX10_carriedOut_4 : decode cX10_carriedOut 4 = .ok (.iconst 0, 1) := by decide +kernel
theorem dX10_carriedOut_5 : decode cX10_carriedOut 5 = .ok (.iaload, 1) := by decide +kernel
theorem dX10_carriedOut_6 : decode cX10_carriedOut 6 = .ok (.istore_n 2, 1) := by decide +kernel
theorem dX10_carriedOut_7 : decode cX10_carriedOut 7 = .ok (.aload_n 1, 1) := by decide +kernel
theorem dX10_carriedOut_8 : decode cX10_carriedOut 8 = .ok (.getfield 362, 3) := by decide +kernel
theorem dX10_carriedOut_11 : decode cX10_carriedOut 11 = .ok (.iconst 1, 1) := by decide +kernel
theorem dX10_carriedOut_12 : decode cX10_carriedOut 12 = .ok (.iaload, 1) := by decide +kernel
theorem dX10_carriedOut_13 : decode cX10_carriedOut 13 = .ok (.istore_n 3, 1) := by decide +kernel
theorem dX10_carriedOut_14 : decode cX10_carriedOut 14 = .ok (.aload_n 1, 1) := by decide +kernel
theorem dX10_carriedOut_15 : decode cX10_carriedOut 15 = .ok (.getfield 362, 3) := by decide +kernel
theorem dX10_carriedOut_18 : decode cX10_carriedOut 18 = .ok (.iconst 2, 1) := by decide +kernel
theorem dX10_carriedOut_19 : decode cX10_carriedOut 19 = .ok (.iaload, 1) := by decide +kernel
theorem dX10_carriedOut_20 : decode cX10_carriedOut 20 = .ok (.istore 4, 2) := by decide +kernel
theorem dX10_carriedOut_22 : decode cX10_carriedOut 22 = .ok (.aload_n 1, 1) := by decide +kernel
theorem dX10_carriedOut_23 : decode cX10_carriedOut 23 = .ok (.getfield 367, 3) := by decide +kernel
theorem dX10_carriedOut_26 : decode cX10_carriedOut 26 = .ok (.tableswitch 291 83 120 #[192, 291, 291, 291, 291, 291, 291, 291, 291, 291, 291, 291, 291, 291, 291, 242, 229, 252, 291, 209, 291, 291, 291, 291, 291, 166, 271, 291, 291, 291, 291, 291, 175, 262, 219, 291, 291, 281], 166) := by decide +kernel
theorem dX10_carriedOut_192 : decode cX10_carriedOut 192 = .ok (.aload_n 0, 1) := by decide +kernel
theorem dX10_carriedOut_193 : decode cX10_carriedOut 193 = .ok (.getfield 10, 3) := by decide +kernel
theorem dX10_carriedOut_196 : decode cX10_carriedOut 196 = .ok (.iload_n 2, 1) := by decide +kernel
theorem dX10_carriedOut_197 : decode cX10_carriedOut 197 = .ok (.invokevirtual 64, 3) := by decide +kernel
theorem dX10_carriedOut_200 : decode cX10_carriedOut 200 = .ok (.ireturn, 1) := by decide +kernel
theorem dX10_carriedOut_201 : decode cX10_carriedOut 201 = .ok (.aload_n 0, 1) := by decide +kernel
theorem dX10_carriedOut_202 : decode cX10_carriedOut 202 = .ok (.getfield 10, 3) := by decide +kernel
theorem dX10_carriedOut_205 : decode cX10_carriedOut 205 = .ok (.iload_n 2, 1) := by decide +kernel
theorem dX10_carriedOut_206 : decode cX10_carriedOut 206 = .ok (.iload_n 3, 1) := by decide +kernel
theorem dX10_carriedOut_207 : decode cX10_carriedOut 207 = .ok (.iload 4, 2) := by decide +kernel
theorem dX10_carriedOut_209 : decode cX10_carriedOut 209 = .ok (.aload_n 1, 1) := by decide +kernel
theorem dX10_carriedOut_210 : decode cX10_carriedOut 210 = .ok (.getfield 371, 3) := by decide +kernel
theorem dX10_carriedOut_213 : decode cX10_carriedOut 213 = .ok (.iconst 0, 1) := by decide +kernel
theorem dX10_carriedOut_214 : decode cX10_carriedOut 214 = .ok (.invokevirtual 71, 3) := by decide +kernel
theorem dX10_carriedOut_217 : decode cX10_carriedOut 217 = .ok (.ireturn, 1) := by decide +kernel
theorem dX10_carriedOut_218 : decode cX10_carriedOut 218 = .ok (.aload_n 0, 1) := by decide +kernel
theorem dX10_carriedOut_219 : decode cX10_carriedOut 219 = .ok (.getfield 10, 3) := by decide +kernel
theorem dX10_carriedOut_222 : decode cX10_carriedOut 222 = .ok (.iload_n 2, 1) := by decide +kernel
theorem dX10_carriedOut_223 : decode cX10_carriedOut 223 = .ok (.iload_n 3, 1) := by decide +kernel
theorem dX10_carriedOut_224 : decode cX10_carriedOut 224 = .ok (.iload 4, 2) := by decide +kernel
theorem dX10_carriedOut_226 : decode cX10_carriedOut 226 = .ok (.aload_n 1, 1) := by decide +kernel
theorem dX10_carriedOut_227 : decode cX10_carriedOut 227 = .ok (.getfield 371, 3) := by decide +kernel
theorem dX10_carriedOut_230 : decode cX10_carriedOut 230 = .ok (.iconst 1, 1) := by decide +kernel
theorem dX10_carriedOut_231 : decode cX10_carriedOut 231 = .ok (.invokevirtual 71, 3) := by decide +kernel
theorem dX10_carriedOut_234 : decode cX10_carriedOut 234 = .ok (.ireturn, 1) := by decide +kernel
theorem dX10_carriedOut_235 : decode cX10_carriedOut 235 = .ok (.aload_n 0, 1) := by decide +kernel
theorem dX10_carriedOut_236 : decode cX10_carriedOut 236 = .ok (.getfield 10, 3) := by decide +kernel
theorem dX10_carriedOut_239 : decode cX10_carriedOut 239 = .ok (.iload_n 2, 1) := by decide +kernel
theorem dX10_carriedOut_240 : decode cX10_carriedOut 240 = .ok (.iconst 1, 1) := by decide +kernel
theorem dX10_carriedOut_241 : decode cX10_carriedOut 241 = .ok (.invokevirtual 75, 3) := by decide +kernel
theorem dX10_carriedOut_244 : decode cX10_carriedOut 244 = .ok (.ireturn, 1) := by decide +kernel
theorem dX10_carriedOut_245 : decode cX10_carriedOut 245 = .ok (.aload_n 0, 1) := by decide +kernel
theorem dX10_carriedOut_246 : decode cX10_carriedOut 246 = .ok (.getfield 10, 3) := by decide +kernel
theorem dX10_carriedOut_249 : decode cX10_carriedOut 249 = .ok (.iload_n 2, 1) := by decide +kernel
theorem dX10_carriedOut_250 : decode cX10_carriedOut 250 = .ok (.iconst (-1), 1) := by decide +kernel
theorem dX10_carriedOut_251 : decode cX10_carriedOut 251 = .ok (.invokevirtual 75, 3) := by decide +kernel
theorem dX10_carriedOut_254 : decode cX10_carriedOut 254 = .ok (.ireturn, 1) := by decide +kernel
theorem dX10_carriedOut_255 : decode cX10_carriedOut 255 = .ok (.aload_n 0, 1) := by decide +kernel
theorem dX10_carriedOut_256 : decode cX10_carriedOut 256 = .ok (.getfield 10, 3) := by decide +kernel
theorem dX10_carriedOut_259 : decode cX10_carriedOut 259 = .ok (.iload_n 2, 1) := by decide +kernel
theorem dX10_carriedOut_260 : decode cX10_carriedOut 260 = .ok (.aload_n 1, 1) := by decide +kernel
theorem dX10_carriedOut_261 : decode cX10_carriedOut 261 = .ok (.getfield 371, 3) := by decide +kernel
theorem dX10_carriedOut_264 : decode cX10_carriedOut 264 = .ok (.invokevirtual 79, 3) := by decide +kernel
theorem dX10_carriedOut_267 : decode cX10_carriedOut 267 = .ok (.ireturn, 1) := by decide +kernel
theorem dX10_carriedOut_268 : decode cX10_carriedOut 268 = .ok (.aload_n 0, 1) := by decide +kernel
theorem dX10_carriedOut_269 : decode cX10_carriedOut 269 = .ok (.getfield 10, 3) := by decide +kernel
theorem dX10_carriedOut_272 : decode cX10_carriedOut 272 = .ok (.iload_n 2, 1) := by decide +kernel
theorem dX10_carriedOut_273 : decode cX10_carriedOut 273 = .ok (.iload_n 3, 1) := by decide +kernel
theorem dX10_carriedOut_274 : decode cX10_carriedOut 274 = .ok (.invokevirtual 85, 3) := by decide +kernel
theorem dX10_carriedOut_277 : decode cX10_carriedOut 277 = .ok (.ireturn, 1) := by decide +kernel
theorem dX10_carriedOut_278 : decode cX10_carriedOut 278 = .ok (.aload_n 0, 1) := by decide +kernel
theorem dX10_carriedOut_279 : decode cX10_carriedOut 279 = .ok (.getfield 10, 3) := by decide +kernel
theorem dX10_carriedOut_282 : decode cX10_carriedOut 282 = .ok (.iload_n 2, 1) := by decide +kernel
theorem dX10_carriedOut_283 : decode cX10_carriedOut 283 = .ok (.iload_n 3, 1) := by decide +kernel
theorem dX10_carriedOut_284 : decode cX10_carriedOut 284 = .ok (.invokevirtual 88, 3) := by decide +kernel
theorem dX10_carriedOut_287 : decode cX10_carriedOut 287 = .ok (.ireturn, 1) := by decide +kernel
theorem dX10_carriedOut_288 : decode cX10_carriedOut 288 = .ok (.aload_n 0, 1) := by decide +kernel
theorem dX10_carriedOut_289 : decode cX10_carriedOut 289 = .ok (.getfield 10, 3) := by decide +kernel
theorem dX10_carriedOut_292 : decode cX10_carriedOut 292 = .ok (.iload_n 2, 1) := by decide +kernel
theorem dX10_carriedOut_293 : decode cX10_carriedOut 293 = .ok (.invokevirtual 91, 3) := by decide +kernel
theorem dX10_carriedOut_296 : decode cX10_carriedOut 296 = .ok (.ireturn, 1) := by decide +kernel
theorem dX10_carriedOut_297 : decode cX10_carriedOut 297 = .ok (.aload_n 0, 1) := by decide +kernel
theorem dX10_carriedOut_298 : decode cX10_carriedOut 298 = .ok (.getfield 10, 3) := by decide +kernel
theorem dX10_carriedOut_301 : decode cX10_carriedOut 301 = .ok (.iload_n 2, 1) := by decide +kernel
theorem dX10_carriedOut_302 : decode cX10_carriedOut 302 = .ok (.iload_n 3, 1) := by decide +kernel
theorem dX10_carriedOut_303 : decode cX10_carriedOut 303 = .ok (.invokevirtual 94, 3) := by decide +kernel
theorem dX10_carriedOut_306 : decode cX10_carriedOut 306 = .ok (.ireturn, 1) := by decide +kernel
theorem dX10_carriedOut_307 : decode cX10_carriedOut 307 = .ok (.aload_n 0, 1) := by decide +kernel
theorem dX10_carriedOut_308 : decode cX10_carriedOut 308 = .ok (.getfield 10, 3) := by decide +kernel
theorem dX10_carriedOut_311 : decode cX10_carriedOut 311 = .ok (.iload_n 2, 1) := by decide +kernel
theorem dX10_carriedOut_312 : decode cX10_carriedOut 312 = .ok (.iload_n 3, 1) := by decide +kernel
theorem dX10_carriedOut_313 : decode cX10_carriedOut 313 = .ok (.invokevirtual 97, 3) := by decide +kernel
theorem dX10_carriedOut_316 : decode cX10_carriedOut 316 = .ok (.ireturn, 1) := by decide +kernel
theorem dX10_carriedOut_317 : decode cX10_carriedOut 317 = .ok (.aload_n 0, 1) := by decide +kernel
theorem dX10_carriedOut_318 : decode cX10_carriedOut 318 = .ok (.getfield 10, 3) := by decide +kernel
theorem dX10_carriedOut_321 : decode cX10_carriedOut 321 = .ok (.iload_n 2, 1) := by decide +kernel
theorem dX10_carriedOut_322 : decode cX10_carriedOut 322 = .ok (.iload_n 3, 1) := by decide +kernel
theorem dX10_carriedOut_323 : decode cX10_carriedOut 323 = .ok (.invokevirtual 100, 3) := by decide +kernel
theorem dX10_carriedOut_326 : decode cX10_carriedOut 326 = .ok (.ireturn, 1) := by decide +kernel
theorem dX10_faultPosition_0 : decode cX10_faultPosition 0 = .ok (.aload_n 0, 1) := by decide +kernel
theorem dX10_faultPosition_1 : decode cX10_faultPosition 1 = .ok (.getfield 42, 3) := by decide +kernel
theorem dX10_faultPosition_4 : decode cX10_faultPosition 4 = .ok (.getfield 333, 3) := by decide +kernel
theorem dX10_faultPosition_7 : decode cX10_faultPosition 7 = .ok (.ireturn, 1) := by decide +kernel
set_option maxRecDepth 20000 in
theorem ggX10_reason_X10_isWithin : GoodIn wsX10_reason wsX10_isWithin := goodIn_r _ [12] (by decide +kernel) (by decide +kernel)
set_option maxRecDepth 20000 in
theorem gX10_reason_X10_isWithin : GoodIn wsX10_reason (va_wsS RX10 229 yX10_isWithin wsX10_isWithin) := goodIn_app (goodIn_of _ (by decide +kernel)) ggX10_reason_X10_isWithin
theorem dX10_reason_0 : decode cX10_reason 0 = .ok (.iload_n 1, 1) := by decide +kernel
theorem dX10_reason_1 : decode cX10_reason 1 = .ok (.iconst 0, 1) := by decide +kernel
theorem dX10_reason_2 : decode cX10_reason 2 = .ok (.iconst 2, 1) := by decide +kernel
theorem dX10_reason_3 : decode cX10_reason 3 = .ok (.invokestatic 229, 3) := by decide +kernel
theorem dX10_reason_6 : decode cX10_reason 6 = .ok (.ifCond .ne 14, 3) := by decide +kernel
theorem dX10_reason_9 : decode cX10_reason 9 = .ok (.new 148, 3) := by decide +kernel
theorem dX10_reason_12 : decode cX10_reason 12 = .ok (.dup, 1) := by decide +kernel
theorem dX10_reason_13 : decode cX10_reason 13 = .ok (.ldc_w 372, 3) := by decide +kernel
theorem dX10_reason_16 : decode cX10_reason 16 = .ok (.invokespecial 152, 3) := by decide +kernel
theorem dX10_reason_19 : decode cX10_reason 19 = .ok (.athrow, 1) := by decide +kernel
theorem dX10_reason_20 : decode cX10_reason 20 = .ok (.aload_n 0, 1) := by decide +kernel
theorem dX10_reason_21 : decode cX10_reason 21 = .ok (.getfield 25, 3) := by decide +kernel
theorem dX10_reason_24 : decode cX10_reason 24 = .ok (.getfield 374, 3) := by decide +kernel
theorem dX10_reason_27 : decode cX10_reason 27 = .ok (.ifCond .ne 14, 3) := by decide +kernel
theorem dX10_reason_30 : decode cX10_reason 30 = .ok (.new 224, 3) := by decide +kernel
theorem dX10_reason_33 : decode cX10_reason 33 = .ok (.dup, 1) := by decide +kernel
theorem dX10_reason_34 : decode cX10_reason 34 = .ok (.ldc_w 377, 3) := by decide +kernel
theorem dX10_reason_37 : decode cX10_reason 37 = .ok (.invokespecial 228, 3) := by decide +kernel
theorem dX10_reason_40 : decode cX10_reason 40 = .ok (.athrow, 1) := by decide +kernel
theorem dX10_reason_41 : decode cX10_reason 41 = .ok (.iload_n 1, 1) := by decide +kernel
theorem dX10_reason_42 : decode cX10_reason 42 = .ok (.lookupswitch 42 #[(0, 26), (1, 34)], 26) := by decide +kernel
theorem dX10_reason_68 : decode cX10_reason 68 = .ok (.aload_n 0, 1) := by decide +kernel
theorem dX10_reason_69 : decode cX10_reason 69 = .ok (.getfield 25, 3) := by decide +kernel
theorem dX10_reason_72 : decode cX10_reason 72 = .ok (.getfield 374, 3) := by decide +kernel
theorem dX10_reason_75 : decode cX10_reason 75 = .ok (.ireturn, 1) := by decide +kernel
theorem dX10_reason_76 : decode cX10_reason 76 = .ok (.aload_n 0, 1) := by decide +kernel
theorem dX10_reason_77 : decode cX10_reason 77 = .ok (.getfield 25, 3) := by decide +kernel
theorem dX10_reason_80 : decode cX10_reason 80 = .ok (.getfield 379, 3) := by decide +kernel
theorem dX10_reason_83 : decode cX10_reason 83 = .ok (.ireturn, 1) := by decide +kernel
theorem dX10_reason_84 : decode cX10_reason 84 = .ok (.aload_n 0, 1) := by decide +kernel
theorem dX10_reason_85 : decode cX10_reason 85 = .ok (.getfield 25, 3) := by decide +kernel
theorem dX10_reason_88 : decode cX10_reason 88 = .ok (.getfield 344, 3) := by decide +kernel
theorem dX10_reason_91 : decode cX10_reason 91 = .ok (.ireturn, 1) := by decide +kernel
set_option maxRecDepth 20000 in
theorem ggX10_line_X10_leafletAt : GoodIn wsX10_line wsX10_leafletAt := goodIn_ca (goodIn_r _ [7, 8, 9, 10, 11, 12, 13, 14, 15, 16, 17, 18, 6, 19, 57, 58, 59, 60, 61, 62, 63, 64, 65, 68, 69, 70, 71, 72, 73, 74, 75, 76] (by decide +kernel) (by decide +kernel)) (goodIn_sub (fun _ h => List.mem_cons_of_mem _ (List.mem_append_right _ h)) (by decide +kernel))
set_option maxRecDepth 20000 in
theorem gX10_line_X10_leafletAt : GoodIn wsX10_line (wsV RX10 113 RX10 yX10_leafletAt wsX10_leafletAt) := goodIn_app (goodIn_of _ (by decide +kernel)) ggX10_line_X10_leafletAt
set_option maxRecDepth 20000 in
theorem ggX10_line_X6_write : GoodIn wsX10_line wsX6_write := goodIn_r _ [24, 25, 26, 27, 28, 29, 30, 31, 32, 33, 34, 35, 36, 37, 38, 39, 40, 23, 41, 42, 43, 44, 45, 46, 47, 48, 49, 50, 51, 52, 53, 54, 55, 6, 56, 66, 67, 77, 78, 79, 80, 81, 82, 83, 84, 85] (by decide +kernel) (by decide +kernel)
set_option maxRecDepth 20000 in
theorem gX10_line_X6_write : GoodIn wsX10_line (wsV RX10 382 RX6 yX6_write wsX6_write) := goodIn_app (goodIn_of _ (by decide +kernel)) ggX10_line_X6_write
theorem dX10_line_0 : decode cX10_line 0 = .ok (.aload_n 0, 1) := by decide +kernel
theorem dX10_line_1 : decode cX10_line 1 = .ok (.getfield 49, 3) := by decide +kernel
theorem dX10_line_4 : decode cX10_line 4 = .ok (.aload_n 0, 1) := by decide +kernel
theorem dX10_line_5 : decode cX10_line 5 = .ok (.iload_n 1, 1) := by decide +kernel
theorem dX10_line_6 : decode cX10_line 6 = .ok (.invokevirtual 113, 3) := by decide +kernel
theorem dX10_line_9 : decode cX10_line 9 = .ok (.invokevirtual 382, 3) := by decide +kernel
theorem dX10_line_12 : decode cX10_line 12 = .ok (.aload_n 0, 1) := by decide +kernel
theorem dX10_line_13 : decode cX10_line 13 = .ok (.getfield 49, 3) := by decide +kernel
theorem dX10_line_16 : decode cX10_line 16 = .ok (.getfield 386, 3) := by decide +kernel
theorem dX10_line_19 : decode cX10_line 19 = .ok (.ireturn, 1) := by decide +kernel
set_option maxRecDepth 20000 in
theorem ggX10_character_X10_isWithin : GoodIn wsX10_character wsX10_isWithin := goodIn_r _ [9] (by decide +kernel) (by decide +kernel)
set_option maxRecDepth 20000 in
theorem gX10_character_X10_isWithin : GoodIn wsX10_character (va_wsS RX10 229 yX10_isWithin wsX10_isWithin) := goodIn_app (goodIn_of _ (by decide +kernel)) ggX10_character_X10_isWithin
theorem dX10_character_0 : decode cX10_character 0 = .ok (.iload_n 1, 1) := by decide +kernel
theorem dX10_character_1 : decode cX10_character 1 = .ok (.iconst 0, 1) := by decide +kernel
theorem dX10_character_2 : decode cX10_character 2 = .ok (.aload_n 0, 1) := by decide +kernel
theorem dX10_character_3 : decode cX10_character 3 = .ok (.getfield 49, 3) := by decide +kernel
theorem dX10_character_6 : decode cX10_character 6 = .ok (.getfield 386, 3) := by decide +kernel
theorem dX10_character_9 : decode cX10_character 9 = .ok (.iconst 1, 1) := by decide +kernel
theorem dX10_character_10 : decode cX10_character 10 = .ok (.isub, 1) := by decide +kernel
theorem dX10_character_11 : decode cX10_character 11 = .ok (.invokestatic 229, 3) := by decide +kernel
theorem dX10_character_14 : decode cX10_character 14 = .ok (.ifCond .ne 14, 3) := by decide +kernel
theorem dX10_character_17 : decode cX10_character 17 = .ok (.new 203, 3) := by decide +kernel
theorem dX10_character_20 : decode cX10_character 20 = .ok (.dup, 1) := by decide +kernel
theorem dX10_character_21 : decode cX10_character 21 = .ok (.ldc_w 389, 3) := by decide +kernel
theorem dX10_character_24 : decode cX10_character 24 = .ok (.invokespecial 207, 3) := by decide +kernel
theorem dX10_character_27 : decode cX10_character 27 = .ok (.athrow, 1) := by decide +kernel
theorem dX10_character_28 : decode cX10_character 28 = .ok (.aload_n 0, 1) := by decide +kernel
theorem dX10_character_29 : decode cX10_character 29 = .ok (.getfield 49, 3) := by decide +kernel
theorem dX10_character_32 : decode cX10_character 32 = .ok (.getfield 391, 3) := by decide +kernel
theorem dX10_character_35 : decode cX10_character 35 = .ok (.iload_n 1, 1) := by decide +kernel
theorem dX10_character_36 : decode cX10_character 36 = .ok (.caload, 1) := by decide +kernel
theorem dX10_character_37 : decode cX10_character 37 = .ok (.ireturn, 1) := by decide +kernel
set_option maxRecDepth 20000 in
theorem ggX10_skippedShare_X0_stepsOfBuilt : GoodIn wsX10_skippedShare wsX0_stepsOfBuilt := goodIn_r _ [8, 9, 10, 11, 12, 13, 14, 15, 16, 17, 43, 44, 45, 46, 47, 48, 49, 50, 51, 52, 53, 54, 55, 56, 57, 58, 59, 60] (by decide +kernel) (by decide +kernel)
set_option maxRecDepth 20000 in
theorem gX10_skippedShare_X0_stepsOfBuilt : GoodIn wsX10_skippedShare (wsV RX10 403 RX0 yX0_stepsOfBuilt wsX0_stepsOfBuilt) := goodIn_app (goodIn_of _ (by decide +kernel)) ggX10_skippedShare_X0_stepsOfBuilt
set_option maxRecDepth 20000 in
theorem ggX10_skippedShare_X0_stepsSkipped : GoodIn wsX10_skippedShare wsX0_stepsSkipped := goodIn_r _ [21, 9, 10, 22, 23, 24, 15, 25, 26, 27, 28, 29, 30, 31, 32, 33, 43, 44, 45, 46, 47, 48, 49, 50, 51, 52, 53, 54, 55, 56, 57, 58, 59, 60] (by decide +kernel) (by decide +kernel)
set_option maxRecDepth 20000 in
theorem gX10_skippedShare_X0_stepsSkipped : GoodIn wsX10_skippedShare (wsV RX10 408 RX0 yX0_stepsSkipped wsX0_stepsSkipped) := goodIn_app (goodIn_of _ (by decide +kernel)) ggX10_skippedShare_X0_stepsSkipped
theorem dX10_skippedShare_0 : decode cX10_skippedShare 0 = .ok (.aload_n 0, 1) := by decide +kernel
theorem dX10_skippedShare_1 : decode cX10_skippedShare 1 = .ok (.getfield 20, 3) := by decide +kernel
theorem dX10_skippedShare_4 : decode cX10_skippedShare 4 = .ok (.invokevirtual 403, 3) := by decide +kernel
theorem dX10_skippedShare_7 : decode cX10_skippedShare 7 = .ok (.istore_n 1, 1) := by decide +kernel
theorem dX10_skippedShare_8 : decode cX10_skippedShare 8 = .ok (.iload_n 1, 1) := by decide +kernel
theorem dX10_skippedShare_9 : decode cX10_skippedShare 9 = .ok (.ifCond .ne 14, 3) := by decide +kernel
theorem dX10_skippedShare_12 : decode cX10_skippedShare 12 = .ok (.new 395, 3) := by decide +kernel
theorem dX10_skippedShare_15 : decode cX10_skippedShare 15 = .ok (.dup, 1) := by decide +kernel
theorem dX10_skippedShare_16 : decode cX10_skippedShare 16 = .ok (.ldc_w 406, 3) := by decide +kernel
theorem dX10_skippedShare_19 : decode cX10_skippedShare 19 = .ok (.invokespecial 399, 3) := by decide +kernel
theorem dX10_skippedShare_22 : decode cX10_skippedShare 22 = .ok (.athrow, 1) := by decide +kernel
theorem dX10_skippedShare_23 : decode cX10_skippedShare 23 = .ok (.aload_n 0, 1) := by decide +kernel
theorem dX10_skippedShare_24 : decode cX10_skippedShare 24 = .ok (.getfield 20, 3) := by decide +kernel
theorem dX10_skippedShare_27 : decode cX10_skippedShare 27 = .ok (.invokevirtual 408, 3) := by decide +kernel
theorem dX10_skippedShare_30 : decode cX10_skippedShare 30 = .ok (.i2f, 1) := by decide +kernel
theorem dX10_skippedShare_31 : decode cX10_skippedShare 31 = .ok (.iload_n 1, 1) := by decide +kernel
theorem dX10_skippedShare_32 : decode cX10_skippedShare 32 = .ok (.i2f, 1) := by decide +kernel
theorem dX10_skippedShare_33 : decode cX10_skippedShare 33 = .ok (.fdiv, 1) := by decide +kernel
theorem dX10_skippedShare_34 : decode cX10_skippedShare 34 = .ok (.freturn, 1) := by decide +kernel
set_option maxRecDepth 20000 in
theorem ggX10_account_X0_stepsOfAll : GoodIn wsX10_account wsX0_stepsOfAll := goodIn_r _ [19, 20, 21, 22, 48, 49, 50, 51, 52, 53, 54, 55, 56, 66, 67, 68, 69, 70, 71, 72, 73, 74] (by decide +kernel) (by decide +kernel)
set_option maxRecDepth 20000 in
theorem gX10_account_X0_stepsOfAll : GoodIn wsX10_account (wsV RX10 400 RX0 yX0_stepsOfAll wsX0_stepsOfAll) := goodIn_app (goodIn_of _ (by decide +kernel)) ggX10_account_X0_stepsOfAll
set_option maxRecDepth 20000 in
theorem ggX10_account_X0_leafletsBuilt : GoodIn wsX10_account wsX0_leafletsBuilt := goodIn_r _ [26, 20, 21, 27, 28, 29, 30, 31, 32, 48, 49, 50, 51, 52, 53, 54, 55, 56, 66, 67, 68, 69, 70, 71, 72, 73, 74] (by decide +kernel) (by decide +kernel)
set_option maxRecDepth 20000 in
theorem gX10_account_X0_leafletsBuilt : GoodIn wsX10_account (wsV RX10 411 RX0 yX0_leafletsBuilt wsX0_leafletsBuilt) := goodIn_app (goodIn_of _ (by decide +kernel)) ggX10_account_X0_leafletsBuilt
set_option maxRecDepth 20000 in
theorem ggX10_account_X9_allInside : GoodIn wsX10_account wsX9_allInside := goodIn_r _ [37, 38, 75, 76] (by decide +kernel) (by decide +kernel)
set_option maxRecDepth 20000 in
theorem gX10_account_X9_allInside : GoodIn wsX10_account (wsV RX10 414 RX9 yX9_allInside wsX9_allInside) := goodIn_app (goodIn_of _ (by decide +kernel)) ggX10_account_X9_allInside
theorem dX10_account_0 : decode cX10_account 0 = .ok (.iload_n 1, 1) := by decide +kernel
theorem dX10_account_1 : decode cX10_account 1 = .ok (.tableswitch 150 0 10 #[59, 67, 75, 83, 91, 102, 110, 118, 126, 134, 142], 59) := by decide +kernel
theorem dX10_account_60 : decode cX10_account 60 = .ok (.aload_n 0, 1) := by decide +kernel
theorem dX10_account_61 : decode cX10_account 61 = .ok (.getfield 20, 3) := by decide +kernel
theorem dX10_account_64 : decode cX10_account 64 = .ok (.getfield 303, 3) := by decide +kernel
theorem dX10_account_67 : decode cX10_account 67 = .ok (.ireturn, 1) := by decide +kernel
theorem dX10_account_68 : decode cX10_account 68 = .ok (.aload_n 0, 1) := by decide +kernel
theorem dX10_account_69 : decode cX10_account 69 = .ok (.getfield 20, 3) := by decide +kernel
theorem dX10_account_72 : decode cX10_account 72 = .ok (.getfield 258, 3) := by decide +kernel
theorem dX10_account_75 : decode cX10_account 75 = .ok (.ireturn, 1) := by decide +kernel
theorem dX10_account_76 : decode cX10_account 76 = .ok (.aload_n 0, 1) := by decide +kernel
theorem dX10_account_77 : decode cX10_account 77 = .ok (.getfield 20, 3) := by decide +kernel
theorem dX10_account_80 : decode cX10_account 80 = .ok (.invokevirtual 400, 3) := by decide +kernel
theorem dX10_account_83 : decode cX10_account 83 = .ok (.ireturn, 1) := by decide +kernel
theorem dX10_account_84 : decode cX10_account 84 = .ok (.aload_n 0, 1) := by decide +kernel
theorem dX10_account_85 : decode cX10_account 85 = .ok (.getfield 20, 3) := by decide +kernel
theorem dX10_account_88 : decode cX10_account 88 = .ok (.invokevirtual 411, 3) := by decide +kernel
theorem dX10_account_91 : decode cX10_account 91 = .ok (.ireturn, 1) := by decide +kernel
theorem dX10_account_92 : decode cX10_account 92 = .ok (.aload_n 0, 1) := by decide +kernel
theorem dX10_account_93 : decode cX10_account 93 = .ok (.getfield 20, 3) := by decide +kernel
theorem dX10_account_96 : decode cX10_account 96 = .ok (.getfield 273, 3) := by decide +kernel
theorem dX10_account_99 : decode cX10_account 99 = .ok (.invokevirtual 414, 3) := by decide +kernel
theorem dX10_account_102 : decode cX10_account 102 = .ok (.ireturn, 1) := by decide +kernel
theorem dX10_account_103 : decode cX10_account 103 = .ok (.aload_n 0, 1) := by decide +kernel
theorem dX10_account_104 : decode cX10_account 104 = .ok (.getfield 20, 3) := by decide +kernel
theorem dX10_account_107 : decode cX10_account 107 = .ok (.getfield 417, 3) := by decide +kernel
theorem dX10_account_110 : decode cX10_account 110 = .ok (.ireturn, 1) := by decide +kernel
theorem dX10_account_111 : decode cX10_account 111 = .ok (.aload_n 0, 1) := by decide +kernel
theorem dX10_account_112 : decode cX10_account 112 = .ok (.getfield 20, 3) := by decide +kernel
theorem dX10_account_115 : decode cX10_account 115 = .ok (.getfield 420, 3) := by decide +kernel
theorem dX10_account_118 : decode cX10_account 118 = .ok (.ireturn, 1) := by decide +kernel
theorem dX10_account_119 : decode cX10_account 119 = .ok (.aload_n 0, 1) := by decide +kernel
theorem dX10_account_120 : decode cX10_account 120 = .ok (.getfield 20, 3) := by decide +kernel
theorem dX10_account_123 : decode cX10_account 123 = .ok (.getfield 423, 3) := by decide +kernel
theorem dX10_account_126 : decode cX10_account 126 = .ok (.ireturn, 1) := by decide +kernel
theorem dX10_account_127 : decode cX10_account 127 = .ok (.aload_n 0, 1) := by decide +kernel
theorem dX10_account_128 : decode cX10_account 128 = .ok (.getfield 20, 3) := by decide +kernel
theorem dX10_account_131 : decode cX10_account 131 = .ok (.getfield 426, 3) := by decide +kernel
theorem dX10_account_134 : decode cX10_account 134 = .ok (.ireturn, 1) := by decide +kernel
theorem dX10_account_135 : decode cX10_account 135 = .ok (.aload_n 0, 1) := by decide +kernel
theorem dX10_account_136 : decode cX10_account 136 = .ok (.getfield 29, 3) := by decide +kernel
theorem dX10_account_139 : decode cX10_account 139 = .ok (.getfield 429, 3) := by decide +kernel
theorem dX10_account_142 : decode cX10_account 142 = .ok (.ireturn, 1) := by decide +kernel
theorem dX10_account_143 : decode cX10_account 143 = .ok (.aload_n 0, 1) := by decide +kernel
theorem dX10_account_144 : decode cX10_account 144 = .ok (.getfield 42, 3) := by decide +kernel
theorem dX10_account_147 : decode cX10_account 147 = .ok (.getfield 432, 3) := by decide +kernel
theorem dX10_account_150 : decode cX10_account 150 = .ok (.ireturn, 1) := by decide +kernel
theorem dX10_account_151 : decode cX10_account 151 = .ok (.new 148, 3) := by decide +kernel
theorem dX10_account_154 : decode cX10_account 154 = .ok (.dup, 1) := by decide +kernel
theorem dX10_account_155 : decode cX10_account 155 = .ok (.ldc_w 433, 3) := by decide +kernel
theorem dX10_account_158 : decode cX10_account 158 = .ok (.invokespecial 152, 3) := by decide +kernel
theorem dX10_account_161 : decode cX10_account 161 = .ok (.athrow, 1) := by decide +kernel
set_option maxRecDepth 20000 in
theorem ggX10_undo_X4_stepBack : GoodIn wsX10_undo wsX4_stepBack := goodIn_r _ [10, 11, 12, 13, 14, 15, 16, 17, 18, 19, 20, 21, 22, 23, 24, 25, 26, 27, 28, 29, 30, 31, 32, 33, 34, 35, 36, 37, 38, 39, 40, 41, 42, 43, 44, 45, 46, 47, 48, 49, 50, 51, 52, 53, 54, 55, 56, 57, 58, 59, 60, 70, 71, 72, 73, 74, 75, 76, 77, 78, 79, 80, 81, 82, 83, 84, 85, 86, 87, 88, 89, 90, 91, 92, 93, 94] (by decide +kernel) (by decide +kernel)
set_option maxRecDepth 20000 in
theorem gX10_undo_X4_stepBack : GoodIn wsX10_undo (wsV RX10 437 RX4 yX4_stepBack wsX4_stepBack) := goodIn_app (goodIn_of _ (by decide +kernel)) ggX10_undo_X4_stepBack
theorem dX10_undo_0 : decode cX10_undo 0 = .ok (.aload_n 0, 1) := by decide +kernel
theorem dX10_undo_1 : decode cX10_undo 1 = .ok (.getfield 29, 3) := by decide +kernel
theorem dX10_undo_4 : decode cX10_undo 4 = .ok (.getfield 429, 3) := by decide +kernel
theorem dX10_undo_7 : decode cX10_undo 7 = .ok (.ifCond .ne 14, 3) := by decide +kernel
theorem dX10_undo_10 : decode cX10_undo 10 = .ok (.new 321, 3) := by decide +kernel
theorem dX10_undo_13 : decode cX10_undo 13 = .ok (.dup, 1) := by decide +kernel
theorem dX10_undo_14 : decode cX10_undo 14 = .ok (.ldc_w 435, 3) := by decide +kernel
theorem dX10_undo_17 : decode cX10_undo 17 = .ok (.invokespecial 325, 3) := by decide +kernel
theorem dX10_undo_20 : decode cX10_undo 20 = .ok (.athrow, 1) := by decide +kernel
theorem dX10_undo_21 : decode cX10_undo 21 = .ok (.aload_n 0, 1) := by decide +kernel
theorem dX10_undo_22 : decode cX10_undo 22 = .ok (.getfield 29, 3) := by decide +kernel
theorem dX10_undo_25 : decode cX10_undo 25 = .ok (.aload_n 0, 1) := by decide +kernel
theorem dX10_undo_26 : decode cX10_undo 26 = .ok (.getfield 20, 3) := by decide +kernel
theorem dX10_undo_29 : decode cX10_undo 29 = .ok (.invokevirtual 437, 3) := by decide +kernel
theorem dX10_undo_32 : decode cX10_undo 32 = .ok (.aload_n 0, 1) := by decide +kernel
theorem dX10_undo_33 : decode cX10_undo 33 = .ok (.getfield 29, 3) := by decide +kernel
theorem dX10_undo_36 : decode cX10_undo 36 = .ok (.getfield 429, 3) := by decide +kernel
theorem dX10_undo_39 : decode cX10_undo 39 = .ok (.ireturn, 1) := by decide +kernel
set_option maxRecDepth 20000 in
theorem ggX10_save_X0_copyFrom : GoodIn wsX10_save wsX0_copyFrom := goodIn_r _ [9, 10, 11, 12, 13, 14, 15, 16, 17, 18, 19, 20, 21, 22, 23, 24, 25, 26, 27, 28, 29, 30, 31, 32, 33, 34, 35, 36, 37, 38, 39, 40, 41, 42, 43, 44, 45, 46, 47, 48, 49, 50, 51, 61, 62, 63, 64, 65, 66, 67, 68, 69, 70, 71, 72, 73, 74, 75, 76, 77, 78, 79, 80, 81, 82] (by decide +kernel) (by decide +kernel)
set_option maxRecDepth 20000 in
theorem gX10_save_X0_copyFrom : GoodIn wsX10_save (wsV RX10 440 RX0 yX0_copyFrom wsX0_copyFrom) := goodIn_app (goodIn_of _ (by decide +kernel)) ggX10_save_X0_copyFrom
theorem dX10_save_0 : decode cX10_save 0 = .ok (.aload_n 0, 1) := by decide +kernel
theorem dX10_save_1 : decode cX10_save 1 = .ok (.getfield 36, 3) := by decide +kernel
theorem dX10_save_4 : decode cX10_save 4 = .ok (.aload_n 0, 1) := by decide +kernel
theorem dX10_save_5 : decode cX10_save 5 = .ok (.getfield 20, 3) := by decide +kernel
theorem dX10_save_8 : decode cX10_save 8 = .ok (.invokevirtual 440, 3) := by decide +kernel
theorem dX10_save_11 : decode cX10_save 11 = .ok (.aload_n 0, 1) := by decide +kernel
theorem dX10_save_12 : decode cX10_save 12 = .ok (.iconst 1, 1) := by decide +kernel
theorem dX10_save_13 : decode cX10_save 13 = .ok (.putfield 442, 3) := by decide +kernel
theorem dX10_save_16 : decode cX10_save 16 = .ok (.aload_n 0, 1) := by decide +kernel
theorem dX10_save_17 : decode cX10_save 17 = .ok (.getfield 20, 3) := by decide +kernel
theorem dX10_save_20 : decode cX10_save 20 = .ok (.getfield 303, 3) := by decide +kernel
theorem dX10_save_23 : decode cX10_save 23 = .ok (.ireturn, 1) := by decide +kernel
set_option maxRecDepth 20000 in
theorem ggX10_restore_X0_copyFrom : GoodIn wsX10_restore wsX0_copyFrom := goodIn_r _ [12, 13, 14, 15, 16, 17, 18, 19, 20, 21, 22, 23, 24, 25, 26, 27, 28, 29, 30, 31, 32, 33, 34, 35, 36, 37, 38, 39, 40, 41, 42, 43, 44, 45, 46, 47, 48, 49, 50, 51, 52, 53, 54, 70, 71, 72, 73, 74, 75, 76, 77, 78, 79, 80, 81, 82, 83, 84, 85, 86, 87, 88, 89, 90, 91] (by decide +kernel) (by decide +kernel)
set_option maxRecDepth 20000 in
theorem gX10_restore_X0_copyFrom : GoodIn wsX10_restore (wsV RX10 440 RX0 yX0_copyFrom wsX0_copyFrom) := goodIn_app (goodIn_of _ (by decide +kernel)) ggX10_restore_X0_copyFrom
set_option maxRecDepth 20000 in
theorem ggX10_restore_X4_forget : GoodIn wsX10_restore wsX4_forget := goodIn_r _ [59, 60, 92, 93, 94] (by decide +kernel) (by decide +kernel)
set_option maxRecDepth 20000 in
theorem gX10_restore_X4_forget : GoodIn wsX10_restore (wsV RX10 448 RX4 yX4_forget wsX4_forget) := goodIn_app (goodIn_of _ (by decide +kernel)) ggX10_restore_X4_forget
theorem dX10_restore_0 : decode cX10_restore 0 = .ok (.aload_n 0, 1) := by decide +kernel
theorem dX10_restore_1 : decode cX10_restore 1 = .ok (.getfield 442, 3) := by decide +kernel
theorem dX10_restore_4 : decode cX10_restore 4 = .ok (.ifCond .ne 14, 3) := by decide +kernel
theorem dX10_restore_7 : decode cX10_restore 7 = .ok (.new 321, 3) := by decide +kernel
theorem dX10_restore_10 : decode cX10_restore 10 = .ok (.dup, 1) := by decide +kernel
theorem dX10_restore_11 : decode cX10_restore 11 = .ok (.ldc_w 446, 3) := by decide +kernel
theorem dX10_restore_14 : decode cX10_restore 14 = .ok (.invokespecial 325, 3) := by decide +kernel
theorem dX10_restore_17 : decode cX10_restore 17 = .ok (.athrow, 1) := by decide +kernel
theorem dX10_restore_18 : decode cX10_restore 18 = .ok (.aload_n 0, 1) := by decide +kernel
theorem dX10_restore_19 : decode cX10_restore 19 = .ok (.getfield 20, 3) := by decide +kernel
theorem dX10_restore_22 : decode cX10_restore 22 = .ok (.aload_n 0, 1) := by decide +kernel
theorem dX10_restore_23 : decode cX10_restore 23 = .ok (.getfield 36, 3) := by decide +kernel
theorem dX10_restore_26 : decode cX10_restore 26 = .ok (.invokevirtual 440, 3) := by decide +kernel
theorem dX10_restore_29 : decode cX10_restore 29 = .ok (.aload_n 0, 1) := by decide +kernel
theorem dX10_restore_30 : decode cX10_restore 30 = .ok (.getfield 29, 3) := by decide +kernel
theorem dX10_restore_33 : decode cX10_restore 33 = .ok (.invokevirtual 448, 3) := by decide +kernel
theorem dX10_restore_36 : decode cX10_restore 36 = .ok (.aload_n 0, 1) := by decide +kernel
theorem dX10_restore_37 : decode cX10_restore 37 = .ok (.getfield 20, 3) := by decide +kernel
theorem dX10_restore_40 : decode cX10_restore 40 = .ok (.getfield 303, 3) := by decide +kernel
theorem dX10_restore_43 : decode cX10_restore 43 = .ok (.ireturn, 1) := by decide +kernel
theorem dX10_isWithin_0 : decode cX10_isWithin 0 = .ok (.iload_n 0, 1) := by decide +kernel
theorem dX10_isWithin_1 : decode cX10_isWithin 1 = .ok (.iload_n 1, 1) := by decide +kernel
theorem dX10_isWithin_2 : decode cX10_isWithin 2 = .ok (.if_icmp .lt 12, 3) := by decide +kernel
theorem dX10_isWithin_5 : decode cX10_isWithin 5 = .ok (.iload_n 0, 1) := by decide +kernel
theorem dX10_isWithin_6 : decode cX10_isWithin 6 = .ok (.iload_n 2, 1) := by decide +kernel
theorem dX10_isWithin_7 : decode cX10_isWithin 7 = .ok (.if_icmp .gt 7, 3) := by decide +kernel
theorem dX10_isWithin_10 : decode cX10_isWithin 10 = .ok (.iconst 1, 1) := by decide +kernel
theorem dX10_isWithin_11 : decode cX10_isWithin 11 = .ok (.goto 4, 3) := by decide +kernel
theorem dX10_isWithin_14 : decode cX10_isWithin 14 = .ok (.iconst 0, 1) := by decide +kernel
theorem dX10_isWithin_15 : decode cX10_isWithin 15 = .ok (.ireturn, 1) := by decide +kernel
set_option maxRecDepth 20000 in
theorem ggX10_isShelf_X10_isWithin : GoodIn wsX10_isShelf wsX10_isWithin := goodIn_r _ [4] (by decide +kernel) (by decide +kernel)
set_option maxRecDepth 20000 in
theorem gX10_isShelf_X10_isWithin : GoodIn wsX10_isShelf (va_wsS RX10 229 yX10_isWithin wsX10_isWithin) := goodIn_app (goodIn_of _ (by decide +kernel)) ggX10_isShelf_X10_isWithin
theorem dX10_isShelf_0 : decode cX10_isShelf 0 = .ok (.iload_n 0, 1) := by decide +kernel
theorem dX10_isShelf_1 : decode cX10_isShelf 1 = .ok (.iconst 0, 1) := by decide +kernel
theorem dX10_isShelf_2 : decode cX10_isShelf 2 = .ok (.iconst 3, 1) := by decide +kernel
theorem dX10_isShelf_3 : decode cX10_isShelf 3 = .ok (.invokestatic 229, 3) := by decide +kernel
theorem dX10_isShelf_6 : decode cX10_isShelf 6 = .ok (.ireturn, 1) := by decide +kernel
theorem dX10_contains_0 : decode cX10_contains 0 = .ok (.iload_n 0, 1) := by decide +kernel
theorem dX10_contains_1 : decode cX10_contains 1 = .ok (.iload_n 1, 1) := by decide +kernel
theorem dX10_contains_2 : decode cX10_contains 2 = .ok (.ishr, 1) := by decide +kernel
theorem dX10_contains_3 : decode cX10_contains 3 = .ok (.iconst 1, 1) := by decide +kernel
theorem dX10_contains_4 : decode cX10_contains 4 = .ok (.iand, 1) := by decide +kernel
theorem dX10_contains_5 : decode cX10_contains 5 = .ok (.ifCond .eq 7, 3) := by decide +kernel
theorem dX10_contains_8 : decode cX10_contains 8 = .ok (.iconst 1, 1) := by decide +kernel
theorem dX10_contains_9 : decode cX10_contains 9 = .ok (.goto 4, 3) := by decide +kernel
theorem dX10_contains_12 : decode cX10_contains 12 = .ok (.iconst 0, 1) := by decide +kernel
theorem dX10_contains_13 : decode cX10_contains 13 = .ok (.ireturn, 1) := by decide +kernel
set_option maxRecDepth 20000 in
theorem ggJ5_init_d00df_J2_newBytesFor_77867 : GoodIn wsJ5_init_d00df wsJ2_newBytesFor_77867 := goodIn_r _ [11, 5, 12, 13, 10, 14, 15] (by decide +kernel) (by decide +kernel)
set_option maxRecDepth 20000 in
theorem gJ5_init_d00df_J2_newBytesFor_77867 : GoodIn wsJ5_init_d00df (va_wsS RJ5 26 yJ2_newBytesFor_77867 wsJ2_newBytesFor_77867) := goodIn_app (goodIn_of _ (by decide +kernel)) ggJ5_init_d00df_J2_newBytesFor_77867
theorem dJ5_init_d00df_0 : decode cJ5_init_d00df 0 = .ok (.aload_n 0, 1) := by decide +kernel
theorem dJ5_init_d00df_1 : decode cJ5_init_d00df 1 = .ok (.invokespecial 3, 3) := by decide +kernel
theorem dJ5_init_d00df_4 : decode cJ5_init_d00df 4 = .ok (.getstatic 18, 3) := by decide +kernel
theorem dJ5_init_d00df_7 : decode cJ5_init_d00df 7 = .ok (.ifCond .eq 18, 3) := by decide +kernel
theorem dJ5_init_d00df_10 : decode cJ5_init_d00df 10 = .ok (.aload_n 0, 1) := by decide +kernel
theorem dJ5_init_d00df_11 : decode cJ5_init_d00df 11 = .ok (.iload_n 1, 1) := by decide +kernel
theorem dJ5_init_d00df_12 : decode cJ5_init_d00df 12 = .ok (.newarray .byte, 2) := by decide +kernel
theorem dJ5_init_d00df_14 : decode cJ5_init_d00df 14 = .ok (.putfield 15, 3) := by decide +kernel
theorem dJ5_init_d00df_17 : decode cJ5_init_d00df 17 = .ok (.aload_n 0, 1) := by decide +kernel
theorem dJ5_init_d00df_18 : decode cJ5_init_d00df 18 = .ok (.iconst 0, 1) := by decide +kernel
theorem dJ5_init_d00df_19 : decode cJ5_init_d00df 19 = .ok (.putfield 22, 3) := by decide +kernel
theorem dJ5_init_d00df_22 : decode cJ5_init_d00df 22 = .ok (.goto 16, 3) := by decide +kernel
theorem dJ5_init_d00df_25 : decode cJ5_init_d00df 25 = .ok (.aload_n 0, 1) := by decide +kernel
theorem dJ5_init_d00df_26 : decode cJ5_init_d00df 26 = .ok (.iload_n 1, 1) := by decide +kernel
theorem dJ5_init_d00df_27 : decode cJ5_init_d00df 27 = .ok (.invokestatic 26, 3) := by decide +kernel
theorem dJ5_init_d00df_30 : decode cJ5_init_d00df 30 = .ok (.putfield 15, 3) := by decide +kernel
theorem dJ5_init_d00df_33 : decode cJ5_init_d00df 33 = .ok (.aload_n 0, 1) := by decide +kernel
theorem dJ5_init_d00df_34 : decode cJ5_init_d00df 34 = .ok (.iconst 1, 1) := by decide +kernel
theorem dJ5_init_d00df_35 : decode cJ5_init_d00df 35 = .ok (.putfield 22, 3) := by decide +kernel
theorem dJ5_init_d00df_38 : decode cJ5_init_d00df 38 = .ok (.return_, 1) := by decide +kernel
theorem dJ5_length_8abf5_0 : decode cJ5_length_8abf5 0 = .ok (.aload_n 0, 1) := by decide +kernel
theorem dJ5_length_8abf5_1 : decode cJ5_length_8abf5 1 = .ok (.getfield 79, 3) := by decide +kernel
theorem dJ5_length_8abf5_4 : decode cJ5_length_8abf5 4 = .ok (.ireturn, 1) := by decide +kernel
set_option maxRecDepth 20000 in
theorem ggJ5_ensureCapacityInternal_d00df_J5_newCapacity_0f7a4 : GoodIn wsJ5_ensureCapacityInternal_d00df wsJ5_newCapacity_0f7a4 := goodIn_r _ [8, 1, 2, 9, 10, 11, 12, 13, 14, 15, 16, 17, 18, 19, 20, 21, 40, 41, 42, 43] (by decide +kernel) (by decide +kernel)
set_option maxRecDepth 20000 in
theorem gJ5_ensureCapacityInternal_d00df_J5_newCapacity_0f7a4_u104J4 : GoodIn wsJ5_ensureCapacityInternal_d00df (va_wsU RJ5 104 RJ4 "java/lang/AbstractStringBuilder" ⟨"java/lang/AbstractStringBuilder", "newCapacity", "(I)I"⟩ yJ5_newCapacity_0f7a4 wsJ5_newCapacity_0f7a4) := goodIn_app (goodIn_of _ (by decide +kernel)) ggJ5_ensureCapacityInternal_d00df_J5_newCapacity_0f7a4
set_option maxRecDepth 20000 in
theorem ggJ5_ensureCapacityInternal_d00df_J7_copyOf_9075b : GoodIn wsJ5_ensureCapacityInternal_d00df wsJ7_copyOf_9075b := goodIn_r _ [25, 26, 27, 28, 29, 30, 31, 32, 33, 34, 16, 35, 36, 37, 38, 39] (by decide +kernel) (by decide +kernel)
set_option maxRecDepth 20000 in
theorem gJ5_ensureCapacityInternal_d00df_J7_copyOf_9075b : GoodIn wsJ5_ensureCapacityInternal_d00df (va_wsS RJ5 108 yJ7_copyOf_9075b wsJ7_copyOf_9075b) := goodIn_app (goodIn_of _ (by decide +kernel)) ggJ5_ensureCapacityInternal_d00df_J7_copyOf_9075b
theorem dJ5_ensureCapacityInternal_d00df_0 : decode cJ5_ensureCapacityInternal_d00df 0 = .ok (.aload_n 0, 1) := by decide +kernel
theorem dJ5_ensureCapacityInternal_d00df_1 : decode cJ5_ensureCapacityInternal_d00df 1 = .ok (.getfield 15, 3) := by decide +kernel
theorem dJ5_ensureCapacityInternal_d00df_4 : decode cJ5_ensureCapacityInternal_d00df 4 = .ok (.arraylength, 1) := by decide +kernel
theorem dJ5_ensureCapacityInternal_d00df_5 : decode cJ5_ensureCapacityInternal_d00df 5 = .ok (.aload_n 0, 1) := by decide +kernel
theorem dJ5_ensureCapacityInternal_d00df_6 : decode cJ5_ensureCapacityInternal_d00df 6 = .ok (.getfield 22, 3) := by decide +kernel
theorem dJ5_ensureCapacityInternal_d00df_9 : decode cJ5_ensureCapacityInternal_d00df 9 = .ok (.ishr, 1) := by decide +kernel
theorem dJ5_ensureCapacityInternal_d00df_10 : decode cJ5_ensureCapacityInternal_d00df 10 = .ok (.istore_n 2, 1) := by decide +kernel
theorem dJ5_ensureCapacityInternal_d00df_11 : decode cJ5_ensureCapacityInternal_d00df 11 = .ok (.iload_n 1, 1) := by decide +kernel
theorem dJ5_ensureCapacityInternal_d00df_12 : decode cJ5_ensureCapacityInternal_d00df 12 = .ok (.iload_n 2, 1) := by decide +kernel
theorem dJ5_ensureCapacityInternal_d00df_13 : decode cJ5_ensureCapacityInternal_d00df 13 = .ok (.isub, 1) := by decide +kernel
theorem dJ5_ensureCapacityInternal_d00df_14 : decode cJ5_ensureCapacityInternal_d00df 14 = .ok (.ifCond .le 24, 3) := by decide +kernel
theorem dJ5_ensureCapacityInternal_d00df_17 : decode cJ5_ensureCapacityInternal_d00df 17 = .ok (.aload_n 0, 1) := by decide +kernel
theorem dJ5_ensureCapacityInternal_d00df_18 : decode cJ5_ensureCapacityInternal_d00df 18 = .ok (.aload_n 0, 1) := by decide +kernel
theorem dJ5_ensureCapacityInternal_d00df_19 : decode cJ5_ensureCapacityInternal_d00df 19 = .ok (.getfield 15, 3) := by decide +kernel
theorem dJ5_ensureCapacityInternal_d00df_22 : decode cJ5_ensureCapacityInternal_d00df 22 = .ok (.aload_n 0, 1) := by decide +kernel
theorem dJ5_ensureCapacityInternal_d00df_23 : decode cJ5_ensureCapacityInternal_d00df 23 = .ok (.iload_n 1, 1) := by decide +kernel
theorem dJ5_ensureCapacityInternal_d00df_24 : decode cJ5_ensureCapacityInternal_d00df 24 = .ok (.invokevirtual 104, 3) := by decide +kernel
theorem dJ5_ensureCapacityInternal_d00df_27 : decode cJ5_ensureCapacityInternal_d00df 27 = .ok (.aload_n 0, 1) := by decide +kernel
theorem dJ5_ensureCapacityInternal_d00df_28 : decode cJ5_ensureCapacityInternal_d00df 28 = .ok (.getfield 22, 3) := by decide +kernel
theorem dJ5_ensureCapacityInternal_d00df_31 : decode cJ5_ensureCapacityInternal_d00df 31 = .ok (.ishl, 1) := by decide +kernel
theorem dJ5_ensureCapacityInternal_d00df_32 : decode cJ5_ensureCapacityInternal_d00df 32 = .ok (.invokestatic 108, 3) := by decide +kernel
theorem dJ5_ensureCapacityInternal_d00df_35 : decode cJ5_ensureCapacityInternal_d00df 35 = .ok (.putfield 15, 3) := by decide +kernel
theorem dJ5_ensureCapacityInternal_d00df_38 : decode cJ5_ensureCapacityInternal_d00df 38 = .ok (.return_, 1) := by decide +kernel
set_option maxRecDepth 20000 in
theorem ggJ5_newCapacity_0f7a4_J8_newLength_cabcc : GoodIn wsJ5_newCapacity_0f7a4 wsJ8_newLength_cabcc := goodIn_r _ [7, 8, 9, 10, 11, 12, 13, 14, 6, 15] (by decide +kernel) (by decide +kernel)
set_option maxRecDepth 20000 in
theorem gJ5_newCapacity_0f7a4_J8_newLength_cabcc : GoodIn wsJ5_newCapacity_0f7a4 (va_wsS RJ5 114 yJ8_newLength_cabcc wsJ8_newLength_cabcc) := goodIn_app (goodIn_of _ (by decide +kernel)) ggJ5_newCapacity_0f7a4_J8_newLength_cabcc
theorem dJ5_newCapacity_0f7a4_0 : decode cJ5_newCapacity_0f7a4 0 = .ok (.aload_n 0, 1) := by decide +kernel
theorem dJ5_newCapacity_0f7a4_1 : decode cJ5_newCapacity_0f7a4 1 = .ok (.getfield 15, 3) := by decide +kernel
theorem dJ5_newCapacity_0f7a4_4 : decode cJ5_newCapacity_0f7a4 4 = .ok (.arraylength, 1) := by decide +kernel
theorem dJ5_newCapacity_0f7a4_5 : decode cJ5_newCapacity_0f7a4 5 = .ok (.istore_n 2, 1) := by decide +kernel
theorem dJ5_newCapacity_0f7a4_6 : decode cJ5_newCapacity_0f7a4 6 = .ok (.iload_n 1, 1) := by decide +kernel
theorem dJ5_newCapacity_0f7a4_7 : decode cJ5_newCapacity_0f7a4 7 = .ok (.aload_n 0, 1) := by decide +kernel
theorem dJ5_newCapacity_0f7a4_8 : decode cJ5_newCapacity_0f7a4 8 = .ok (.getfield 22, 3) := by decide +kernel
theorem dJ5_newCapacity_0f7a4_11 : decode cJ5_newCapacity_0f7a4 11 = .ok (.ishl, 1) := by decide +kernel
theorem dJ5_newCapacity_0f7a4_12 : decode cJ5_newCapacity_0f7a4 12 = .ok (.istore_n 3, 1) := by decide +kernel
theorem dJ5_newCapacity_0f7a4_13 : decode cJ5_newCapacity_0f7a4 13 = .ok (.iload_n 3, 1) := by decide +kernel
theorem dJ5_newCapacity_0f7a4_14 : decode cJ5_newCapacity_0f7a4 14 = .ok (.iload_n 2, 1) := by decide +kernel
theorem dJ5_newCapacity_0f7a4_15 : decode cJ5_newCapacity_0f7a4 15 = .ok (.isub, 1) := by decide +kernel
theorem dJ5_newCapacity_0f7a4_16 : decode cJ5_newCapacity_0f7a4 16 = .ok (.istore 4, 2) := by decide +kernel
theorem dJ5_newCapacity_0f7a4_18 : decode cJ5_newCapacity_0f7a4 18 = .ok (.iload_n 2, 1) := by decide +kernel
theorem dJ5_newCapacity_0f7a4_19 : decode cJ5_newCapacity_0f7a4 19 = .ok (.iload 4, 2) := by decide +kernel
theorem dJ5_newCapacity_0f7a4_21 : decode cJ5_newCapacity_0f7a4 21 = .ok (.iload_n 2, 1) := by decide +kernel
theorem dJ5_newCapacity_0f7a4_22 : decode cJ5_newCapacity_0f7a4 22 = .ok (.iconst 2, 1) := by decide +kernel
theorem dJ5_newCapacity_0f7a4_23 : decode cJ5_newCapacity_0f7a4 23 = .ok (.aload_n 0, 1) := by decide +kernel
theorem dJ5_newCapacity_0f7a4_24 : decode cJ5_newCapacity_0f7a4 24 = .ok (.getfield 22, 3) := by decide +kernel
theorem dJ5_newCapacity_0f7a4_27 : decode cJ5_newCapacity_0f7a4 27 = .ok (.ishl, 1) := by decide +kernel
theorem dJ5_newCapacity_0f7a4_28 : decode cJ5_newCapacity_0f7a4 28 = .ok (.iadd, 1) := by decide +kernel
theorem dJ5_newCapacity_0f7a4_29 : decode cJ5_newCapacity_0f7a4 29 = .ok (.invokestatic 114, 3) := by decide +kernel
theorem dJ5_newCapacity_0f7a4_32 : decode cJ5_newCapacity_0f7a4 32 = .ok (.istore 5, 2) := by decide +kernel
theorem dJ5_newCapacity_0f7a4_34 : decode cJ5_newCapacity_0f7a4 34 = .ok (.iload 5, 2) := by decide +kernel
theorem dJ5_newCapacity_0f7a4_36 : decode cJ5_newCapacity_0f7a4 36 = .ok (.ldc 39, 2) := by decide +kernel
theorem dJ5_newCapacity_0f7a4_38 : decode cJ5_newCapacity_0f7a4 38 = .ok (.if_icmp .ne 13, 3) := by decide +kernel
theorem dJ5_newCapacity_0f7a4_41 : decode cJ5_newCapacity_0f7a4 41 = .ok (.new 120, 3) := by decide +kernel
theorem dJ5_newCapacity_0f7a4_44 : decode cJ5_newCapacity_0f7a4 44 = .ok (.dup, 1) := by decide +kernel
theorem dJ5_newCapacity_0f7a4_45 : decode cJ5_newCapacity_0f7a4 45 = .ok (.ldc 122, 2) := by decide +kernel
theorem dJ5_newCapacity_0f7a4_47 : decode cJ5_newCapacity_0f7a4 47 = .ok (.invokespecial 124, 3) := by decide +kernel
theorem dJ5_newCapacity_0f7a4_50 : decode cJ5_newCapacity_0f7a4 50 = .ok (.athrow, 1) := by decide +kernel
theorem dJ5_newCapacity_0f7a4_51 : decode cJ5_newCapacity_0f7a4 51 = .ok (.iload 5, 2) := by decide +kernel
theorem dJ5_newCapacity_0f7a4_53 : decode cJ5_newCapacity_0f7a4 53 = .ok (.aload_n 0, 1) := by decide +kernel
theorem dJ5_newCapacity_0f7a4_54 : decode cJ5_newCapacity_0f7a4 54 = .ok (.getfield 22, 3) := by decide +kernel
theorem dJ5_newCapacity_0f7a4_57 : decode cJ5_newCapacity_0f7a4 57 = .ok (.ishr, 1) := by decide +kernel
theorem dJ5_newCapacity_0f7a4_58 : decode cJ5_newCapacity_0f7a4 58 = .ok (.ireturn, 1) := by decide +kernel
set_option maxRecDepth 20000 in
theorem ggJ5_inflate_da8c8_J5_isLatin1_aae02 : GoodIn wsJ5_inflate_da8c8 wsJ5_isLatin1_aae02 := goodIn_r _ [9, 10, 3, 48, 49, 50, 51] (by decide +kernel) (by decide +kernel)
set_option maxRecDepth 20000 in
theorem gJ5_inflate_da8c8_J5_isLatin1_aae02_u83J4 : GoodIn wsJ5_inflate_da8c8 (va_wsU RJ5 83 RJ4 "java/lang/AbstractStringBuilder" ⟨"java/lang/AbstractStringBuilder", "isLatin1", "()Z"⟩ yJ5_isLatin1_aae02 wsJ5_isLatin1_aae02) := goodIn_app (goodIn_of _ (by decide +kernel)) ggJ5_inflate_da8c8_J5_isLatin1_aae02
set_option maxRecDepth 20000 in
theorem ggJ5_inflate_da8c8_J2_newBytesFor_77867 : GoodIn wsJ5_inflate_da8c8 wsJ2_newBytesFor_77867 := goodIn_r _ [14, 15, 16, 17, 13, 18, 19] (by decide +kernel) (by decide +kernel)
set_option maxRecDepth 20000 in
theorem gJ5_inflate_da8c8_J2_newBytesFor_77867 : GoodIn wsJ5_inflate_da8c8 (va_wsS RJ5 26 yJ2_newBytesFor_77867 wsJ2_newBytesFor_77867) := goodIn_app (goodIn_of _ (by decide +kernel)) ggJ5_inflate_da8c8_J2_newBytesFor_77867
set_option maxRecDepth 20000 in
theorem ggJ5_inflate_da8c8_J1_inflate_0e8fd : GoodIn wsJ5_inflate_da8c8 wsJ1_inflate_0e8fd := goodIn_r _ [23, 24, 25, 13, 26, 27, 28, 29, 30, 31, 32, 33, 34, 35, 36, 37, 38, 39, 40, 41, 42, 43, 44, 45, 46, 47] (by decide +kernel) (by decide +kernel)
set_option maxRecDepth 20000 in
theorem gJ5_inflate_da8c8_J1_inflate_0e8fd : GoodIn wsJ5_inflate_da8c8 (va_wsS RJ5 125 yJ1_inflate_0e8fd wsJ1_inflate_0e8fd) := goodIn_app (goodIn_of _ (by decide +kernel)) ggJ5_inflate_da8c8_J1_inflate_0e8fd
theorem dJ5_inflate_da8c8_0 : decode cJ5_inflate_da8c8 0 = .ok (.aload_n 0, 1) := by decide +kernel
theorem dJ5_inflate_da8c8_1 : decode cJ5_inflate_da8c8 1 = .ok (.invokevirtual 83, 3) := by decide +kernel
theorem dJ5_inflate_da8c8_4 : decode cJ5_inflate_da8c8 4 = .ok (.ifCond .ne 4, 3) := by decide +kernel
theorem dJ5_inflate_da8c8_7 : decode cJ5_inflate_da8c8 7 = .ok (.return_, 1) := by decide +kernel
theorem dJ5_inflate_da8c8_8 : decode cJ5_inflate_da8c8 8 = .ok (.aload_n 0, 1) := by decide +kernel
theorem dJ5_inflate_da8c8_9 : decode cJ5_inflate_da8c8 9 = .ok (.getfield 15, 3) := by decide +kernel
theorem dJ5_inflate_da8c8_12 : decode cJ5_inflate_da8c8 12 = .ok (.arraylength, 1) := by decide +kernel
theorem dJ5_inflate_da8c8_13 : decode cJ5_inflate_da8c8 13 = .ok (.invokestatic 26, 3) := by decide +kernel
theorem dJ5_inflate_da8c8_16 : decode cJ5_inflate_da8c8 16 = .ok (.astore_n 1, 1) := by decide +kernel
theorem dJ5_inflate_da8c8_17 : decode cJ5_inflate_da8c8 17 = .ok (.aload_n 0, 1) := by decide +kernel
theorem dJ5_inflate_da8c8_18 : decode cJ5_inflate_da8c8 18 = .ok (.getfield 15, 3) := by decide +kernel
theorem dJ5_inflate_da8c8_21 : decode cJ5_inflate_da8c8 21 = .ok (.iconst 0, 1) := by decide +kernel
theorem dJ5_inflate_da8c8_22 : decode cJ5_inflate_da8c8 22 = .ok (.aload_n 1, 1) := by decide +kernel
theorem dJ5_inflate_da8c8_23 : decode cJ5_inflate_da8c8 23 = .ok (.iconst 0, 1) := by decide +kernel
theorem dJ5_inflate_da8c8_24 : decode cJ5_inflate_da8c8 24 = .ok (.aload_n 0, 1) := by decide +kernel
theorem dJ5_inflate_da8c8_25 : decode cJ5_inflate_da8c8 25 = .ok (.getfield 79, 3) := by decide +kernel
theorem dJ5_inflate_da8c8_28 : decode cJ5_inflate_da8c8 28 = .ok (.invokestatic 125, 3) := by decide +kernel
theorem dJ5_inflate_da8c8_31 : decode cJ5_inflate_da8c8 31 = .ok (.aload_n 0, 1) := by decide +kernel
theorem dJ5_inflate_da8c8_32 : decode cJ5_inflate_da8c8 32 = .ok (.aload_n 1, 1) := by decide +kernel
theorem dJ5_inflate_da8c8_33 : decode cJ5_inflate_da8c8 33 = .ok (.putfield 15, 3) := by decide +kernel
theorem dJ5_inflate_da8c8_36 : decode cJ5_inflate_da8c8 36 = .ok (.aload_n 0, 1) := by decide +kernel
theorem dJ5_inflate_da8c8_37 : decode cJ5_inflate_da8c8 37 = .ok (.iconst 1, 1) := by decide +kernel
theorem dJ5_inflate_da8c8_38 : decode cJ5_inflate_da8c8 38 = .ok (.putfield 22, 3) := by decide +kernel
theorem dJ5_inflate_da8c8_41 : decode cJ5_inflate_da8c8 41 = .ok (.return_, 1) := by decide +kernel
set_option maxRecDepth 20000 in
theorem ggJ5_append_cf1ce_J5_appendNull_278bc : GoodIn wsJ5_append_cf1ce wsJ5_appendNull_278bc := goodIn_r _ [7, 1, 8, 9, 10, 11, 12, 6, 13, 14, 15, 16, 17, 18, 19, 20, 21, 22, 23, 24, 25, 26, 27, 28, 29, 30, 31, 32, 33, 34, 35, 36, 37, 38, 39, 40, 41, 42, 43, 44, 45, 46, 47, 48, 49, 50, 51, 52, 53, 54, 55, 56, 57, 58, 59, 60, 61, 62, 63, 64, 65, 66, 67, 68, 69, 70, 71, 72, 73, 74, 75, 76, 77, 78, 79, 80, 81, 138, 139, 140, 141] (by decide +kernel) (by decide +kernel)
set_option maxRecDepth 20000 in
theorem gJ5_append_cf1ce_J5_appendNull_278bc_u204J4 : GoodIn wsJ5_append_cf1ce (va_wsU RJ5 204 RJ4 "java/lang/AbstractStringBuilder" ⟨"java/lang/AbstractStringBuilder", "appendNull", "()Ljava/lang/AbstractStringBuilder;"⟩ yJ5_appendNull_278bc wsJ5_appendNull_278bc) := goodIn_app (goodIn_of _ (by decide +kernel)) ggJ5_append_cf1ce_J5_appendNull_278bc
set_option maxRecDepth 20000 in
theorem ggJ5_append_cf1ce_J0_length_8abf5 : GoodIn wsJ5_append_cf1ce wsJ0_length_8abf5 := goodIn_r _ [85, 86, 87, 88, 89, 70, 90, 91, 92, 142, 143, 144, 145] (by decide +kernel) (by decide +kernel)
set_option maxRecDepth 20000 in
theorem gJ5_append_cf1ce_J0_length_8abf5 : GoodIn wsJ5_append_cf1ce (wsV RJ5 32 RJ0 yJ0_length_8abf5 wsJ0_length_8abf5) := goodIn_app (goodIn_of _ (by decide +kernel)) ggJ5_append_cf1ce_J0_length_8abf5
set_option maxRecDepth 20000 in
theorem ggJ5_append_cf1ce_J5_ensureCapacityInternal_d00df : GoodIn wsJ5_append_cf1ce wsJ5_ensureCapacityInternal_d00df := goodIn_r _ [13, 8, 14, 15, 16, 17, 18, 6, 19, 20, 21, 22, 23, 24, 25, 26, 27, 28, 29, 30, 31, 32, 33, 34, 35, 36, 37, 38, 39, 40, 41, 42, 43, 44, 45, 46, 47, 48, 49, 50, 138, 139, 140, 141] (by decide +kernel) (by decide +kernel)
set_option maxRecDepth 20000 in
theorem gJ5_append_cf1ce_J5_ensureCapacityInternal_d00df_u100J4 : GoodIn wsJ5_append_cf1ce (va_wsU RJ5 100 RJ4 "java/lang/AbstractStringBuilder" ⟨"java/lang/AbstractStringBuilder", "ensureCapacityInternal", "(I)V"⟩ yJ5_ensureCapacityInternal_d00df wsJ5_ensureCapacityInternal_d00df) := goodIn_app (goodIn_of _ (by decide +kernel)) ggJ5_append_cf1ce_J5_ensureCapacityInternal_d00df
set_option maxRecDepth 20000 in
theorem ggJ5_append_cf1ce_J5_putStringAt_47b60 : GoodIn wsJ5_append_cf1ce wsJ5_putStringAt_47b60 := goodIn_r _ [97, 8, 14, 98, 99, 100, 101, 6, 102, 56, 103, 88, 89, 70, 90, 91, 92, 104, 105, 106, 107, 108, 1, 51, 52, 53, 54, 55, 109, 110, 59, 111, 43, 112, 113, 114, 115, 116, 117, 118, 119, 120, 121, 122, 123, 124, 125, 65, 66, 67, 126, 127, 128, 72, 129, 130, 75, 131, 77, 78, 79, 61, 80, 81, 132, 133, 134, 135, 86, 136, 48, 49, 50, 87, 137, 138, 139, 140, 141, 142, 143, 144, 145] (by decide +kernel) (by decide +kernel)
set_option maxRecDepth 20000 in
theorem gJ5_append_cf1ce_J5_putStringAt_47b60_u208J4 : GoodIn wsJ5_append_cf1ce (va_wsU RJ5 208 RJ4 "java/lang/AbstractStringBuilder" ⟨"java/lang/AbstractStringBuilder", "putStringAt", "(ILjava/lang/String;)V"⟩ yJ5_putStringAt_47b60 wsJ5_putStringAt_47b60) := goodIn_app (goodIn_of _ (by decide +kernel)) ggJ5_append_cf1ce_J5_putStringAt_47b60
theorem dJ5_append_cf1ce_0 : decode cJ5_append_cf1ce 0 = .ok (.aload_n 1, 1) := by decide +kernel
theorem dJ5_append_cf1ce_1 : decode cJ5_append_cf1ce 1 = .ok (.ifnonnull 8, 3) := by decide +kernel
theorem dJ5_append_cf1ce_4 : decode cJ5_append_cf1ce 4 = .ok (.aload_n 0, 1) := by decide +kernel
theorem dJ5_append_cf1ce_5 : decode cJ5_append_cf1ce 5 = .ok (.invokevirtual 204, 3) := by decide +kernel
theorem dJ5_append_cf1ce_8 : decode cJ5_append_cf1ce 8 = .ok (.areturn, 1) := by decide +kernel
theorem dJ5_append_cf1ce_9 : decode cJ5_append_cf1ce 9 = .ok (.aload_n 1, 1) := by decide +kernel
theorem dJ5_append_cf1ce_10 : decode cJ5_append_cf1ce 10 = .ok (.invokevirtual 32, 3) := by decide +kernel
theorem dJ5_append_cf1ce_13 : decode cJ5_append_cf1ce 13 = .ok (.istore_n 2, 1) := by decide +kernel
theorem dJ5_append_cf1ce_14 : decode cJ5_append_cf1ce 14 = .ok (.aload_n 0, 1) := by decide +kernel
theorem dJ5_append_cf1ce_15 : decode cJ5_append_cf1ce 15 = .ok (.aload_n 0, 1) := by decide +kernel
theorem dJ5_append_cf1ce_16 : decode cJ5_append_cf1ce 16 = .ok (.getfield 79, 3) := by decide +kernel
theorem dJ5_append_cf1ce_19 : decode cJ5_append_cf1ce 19 = .ok (.iload_n 2, 1) := by decide +kernel
theorem dJ5_append_cf1ce_20 : decode cJ5_append_cf1ce 20 = .ok (.iadd, 1) := by decide +kernel
theorem dJ5_append_cf1ce_21 : decode cJ5_append_cf1ce 21 = .ok (.invokevirtual 100, 3) := by decide +kernel
theorem dJ5_append_cf1ce_24 : decode cJ5_append_cf1ce 24 = .ok (.aload_n 0, 1) := by decide +kernel
theorem dJ5_append_cf1ce_25 : decode cJ5_append_cf1ce 25 = .ok (.aload_n 0, 1) := by decide +kernel
theorem dJ5_append_cf1ce_26 : decode cJ5_append_cf1ce 26 = .ok (.getfield 79, 3) := by decide +kernel
theorem dJ5_append_cf1ce_29 : decode cJ5_append_cf1ce 29 = .ok (.aload_n 1, 1) := by decide +kernel
theorem dJ5_append_cf1ce_30 : decode cJ5_append_cf1ce 30 = .ok (.invokevirtual 208, 3) := by decide +kernel
theorem dJ5_append_cf1ce_33 : decode cJ5_append_cf1ce 33 = .ok (.aload_n 0, 1) := by decide +kernel
theorem dJ5_append_cf1ce_34 : decode cJ5_append_cf1ce 34 = .ok (.dup, 1) := by decide +kernel
theorem dJ5_append_cf1ce_35 : decode cJ5_append_cf1ce 35 = .ok (.getfield 79, 3) := by decide +kernel
theorem dJ5_append_cf1ce_38 : decode cJ5_append_cf1ce 38 = .ok (.iload_n 2, 1) := by decide +kernel
theorem dJ5_append_cf1ce_39 : decode cJ5_append_cf1ce 39 = .ok (.iadd, 1) := by decide +kernel
theorem dJ5_append_cf1ce_40 : decode cJ5_append_cf1ce 40 = .ok (.putfield 79, 3) := by decide +kernel
theorem dJ5_append_cf1ce_43 : decode cJ5_append_cf1ce 43 = .ok (.aload_n 0, 1) := by decide +kernel
theorem dJ5_append_cf1ce_44 : decode cJ5_append_cf1ce 44 = .ok (.areturn, 1) := by decide +kernel
set_option maxRecDepth 20000 in
theorem ggJ5_appendNull_278bc_J5_ensureCapacityInternal_d00df : GoodIn wsJ5_appendNull_278bc wsJ5_ensureCapacityInternal_d00df := goodIn_r _ [8, 2, 9, 10, 11, 12, 13, 7, 14, 15, 16, 17, 18, 19, 20, 21, 22, 23, 24, 25, 26, 27, 28, 29, 30, 31, 32, 33, 34, 35, 36, 37, 38, 39, 40, 41, 42, 43, 44, 45, 77, 78, 79, 80] (by decide +kernel) (by decide +kernel)
set_option maxRecDepth 20000 in
theorem gJ5_appendNull_278bc_J5_ensureCapacityInternal_d00df_u100J4 : GoodIn wsJ5_appendNull_278bc (va_wsU RJ5 100 RJ4 "java/lang/AbstractStringBuilder" ⟨"java/lang/AbstractStringBuilder", "ensureCapacityInternal", "(I)V"⟩ yJ5_ensureCapacityInternal_d00df wsJ5_ensureCapacityInternal_d00df) := goodIn_app (goodIn_of _ (by decide +kernel)) ggJ5_appendNull_278bc_J5_ensureCapacityInternal_d00df
