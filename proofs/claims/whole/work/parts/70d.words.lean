/-! ===== printed by program (wip/whole/gen/lay_law5.py): the law's words, its beginning ===== -/
set_option maxRecDepth 100000 in
theorem lwa_0 : ∀ w ∈ wsL_law0_r1, w ∈ lw_tbl := by decide +kernel
set_option maxRecDepth 100000 in
theorem lwa_1 : ∀ w ∈ wsL_law0_r2, w ∈ lw_tbl := by decide +kernel
set_option maxRecDepth 100000 in
theorem lwa_2 : ∀ w ∈ wsL_law0_r3, w ∈ lw_tbl := by decide +kernel
set_option maxRecDepth 100000 in
theorem lwa_3 : ∀ w ∈ wsL_law0_r4, w ∈ lw_tbl := by decide +kernel
set_option maxRecDepth 100000 in
theorem lwa_4 : ∀ w ∈ wsL_law0_r5, w ∈ lw_tbl := by decide +kernel
set_option maxRecDepth 100000 in
theorem lwa_5 : ∀ w ∈ wsL_law0_r6, w ∈ lw_tbl := by decide +kernel
set_option maxRecDepth 100000 in
theorem lwa_6 : ∀ w ∈ wsL_law0_r7, w ∈ lw_tbl := by decide +kernel
set_option maxRecDepth 100000 in
theorem lwa_7 : ∀ w ∈ wsL_law0_r8, w ∈ lw_tbl := by decide +kernel
set_option maxRecDepth 100000 in
theorem lwa_8 : ∀ w ∈ wsL_law0_r9, w ∈ lw_tbl := by decide +kernel
set_option maxRecDepth 100000 in
theorem lwa_9 : ∀ w ∈ wsL_law0_r10, w ∈ lw_tbl := by decide +kernel
set_option maxRecDepth 100000 in
theorem lwa_10 : ∀ w ∈ wsL_law0_r11, w ∈ lw_tbl := by decide +kernel
set_option maxRecDepth 100000 in
theorem lwa_11 : ∀ w ∈ wsL_law0_r12, w ∈ lw_tbl := by decide +kernel
set_option maxRecDepth 100000 in
theorem lwa_12 : ∀ w ∈ wsL_law0_r13, w ∈ lw_tbl := by decide +kernel
set_option maxRecDepth 100000 in
theorem lwa_13 : ∀ w ∈ wsL_law0_r14, w ∈ lw_tbl := by decide +kernel
set_option maxRecDepth 100000 in
theorem lwa_14 : ∀ w ∈ wsL_law0_r15, w ∈ lw_tbl := by decide +kernel
set_option maxRecDepth 100000 in
theorem lwa_15 : ∀ w ∈ wsL_law0_r16, w ∈ lw_tbl := by decide +kernel
set_option maxRecDepth 100000 in
theorem lwa_16 : ∀ w ∈ wsL_law0_r17, w ∈ lw_tbl := by decide +kernel
set_option maxRecDepth 100000 in
theorem lwa_17 : ∀ w ∈ wsL_law0_r18, w ∈ lw_tbl := by decide +kernel
set_option maxRecDepth 100000 in
theorem lwa_18 : ∀ w ∈ wsL_law0_r19, w ∈ lw_tbl := by decide +kernel
set_option maxRecDepth 100000 in
theorem lwa_19 : ∀ w ∈ wsL_law0_r20, w ∈ lw_tbl := by decide +kernel
set_option maxRecDepth 100000 in
theorem lwa_20 : ∀ w ∈ wsL_law0_r21, w ∈ lw_tbl := by decide +kernel
set_option maxRecDepth 100000 in
theorem lwa_21 : ∀ w ∈ wsL_law0_r22, w ∈ lw_tbl := by decide +kernel
set_option maxRecDepth 100000 in
theorem lwa_22 : ∀ w ∈ wsL_law0_r23, w ∈ lw_tbl := by decide +kernel
set_option maxRecDepth 100000 in
theorem lwa_23 : ∀ w ∈ wsL_law0_r24, w ∈ lw_tbl := by decide +kernel
set_option maxRecDepth 100000 in
theorem lwa_24 : ∀ w ∈ wsL_law0_r25, w ∈ lw_tbl := by decide +kernel
set_option maxRecDepth 100000 in
theorem lwa_25 : ∀ w ∈ wsL_law0_r26, w ∈ lw_tbl := by decide +kernel
set_option maxRecDepth 100000 in
theorem lwa_26 : ∀ w ∈ wsL_law0_r27, w ∈ lw_tbl := by decide +kernel
set_option maxRecDepth 100000 in
theorem lwa_27 : ∀ w ∈ wsL_law0_r28, w ∈ lw_tbl := by decide +kernel
set_option maxRecDepth 100000 in
theorem lwa_28 : ∀ w ∈ wsL_law0_r29, w ∈ lw_tbl := by decide +kernel
set_option maxRecDepth 100000 in
theorem lwa_29 : ∀ w ∈ wsL_law0_r30, w ∈ lw_tbl := by decide +kernel
set_option maxRecDepth 100000 in
theorem lwa_30 : ∀ w ∈ wsL_law0_r31, w ∈ lw_tbl := by decide +kernel
set_option maxRecDepth 100000 in
theorem lwa_31 : ∀ w ∈ wsL_law0_r32, w ∈ lw_tbl := by decide +kernel
set_option maxRecDepth 100000 in
theorem lwa_32 : ∀ w ∈ wsL_law0_r33, w ∈ lw_tbl := by decide +kernel
set_option maxRecDepth 100000 in
theorem lwa_33 : ∀ w ∈ wsL_law0_r34, w ∈ lw_tbl := by decide +kernel
set_option maxRecDepth 100000 in
theorem lwa_34 : ∀ w ∈ wsL_law0_r35, w ∈ lw_tbl := by decide +kernel
set_option maxRecDepth 100000 in
theorem lwa_35 : ∀ w ∈ wsL_law0_r36, w ∈ lw_tbl := by decide +kernel
set_option maxRecDepth 100000 in
theorem lwa_36 : ∀ w ∈ wsL_law0_r37, w ∈ lw_tbl := by decide +kernel
set_option maxRecDepth 100000 in
theorem lwa_37 : ∀ w ∈ wsL_law0_r38, w ∈ lw_tbl := by decide +kernel
set_option maxRecDepth 100000 in
theorem lwa_38 : ∀ w ∈ wsL_law0_r39, w ∈ lw_tbl := by decide +kernel
set_option maxRecDepth 100000 in
theorem lwa_39 : ∀ w ∈ wsL_law0_r40, w ∈ lw_tbl := by decide +kernel
set_option maxRecDepth 100000 in
theorem lwa_40 : ∀ w ∈ wsL_law0_r41, w ∈ lw_tbl := by decide +kernel
set_option maxRecDepth 100000 in
theorem lwa_41 : ∀ w ∈ wsL_law0_r42, w ∈ lw_tbl := by decide +kernel
set_option maxRecDepth 100000 in
theorem lwa_42 : ∀ w ∈ wsL_law0_r43, w ∈ lw_tbl := by decide +kernel
set_option maxRecDepth 100000 in
theorem lwa_43 : ∀ w ∈ wsL_law0_r44, w ∈ lw_tbl := by decide +kernel
set_option maxRecDepth 100000 in
theorem lwa_44 : ∀ w ∈ wsL_law0_r45, w ∈ lw_tbl := by decide +kernel
set_option maxRecDepth 100000 in
theorem lwa_45 : ∀ w ∈ wsL_law0_r46, w ∈ lw_tbl := by decide +kernel
set_option maxRecDepth 100000 in
theorem lwa_46 : ∀ w ∈ wsL_law0_r47, w ∈ lw_tbl := by decide +kernel
set_option maxRecDepth 100000 in
theorem lwa_47 : ∀ w ∈ wsL_law0_r48, w ∈ lw_tbl := by decide +kernel
set_option maxRecDepth 100000 in
theorem lwa_48 : ∀ w ∈ wsL_law0_r49, w ∈ lw_tbl := by decide +kernel
set_option maxRecDepth 100000 in
theorem lwa_49 : ∀ w ∈ wsL_law0_r50, w ∈ lw_tbl := by decide +kernel
set_option maxRecDepth 100000 in
theorem lwa_50 : ∀ w ∈ wsL_law0_r51, w ∈ lw_tbl := by decide +kernel
set_option maxRecDepth 100000 in
theorem lwa_51 : ∀ w ∈ wsL_law0_r52, w ∈ lw_tbl := by decide +kernel
set_option maxRecDepth 100000 in
theorem lwa_52 : ∀ w ∈ wsL_law0_r53, w ∈ lw_tbl := by decide +kernel
set_option maxRecDepth 100000 in
theorem lwa_53 : ∀ w ∈ wsL_law0_r54, w ∈ lw_tbl := by decide +kernel
set_option maxRecDepth 100000 in
theorem lwa_54 : ∀ w ∈ wsL_law0_r55, w ∈ lw_tbl := by decide +kernel
set_option maxRecDepth 100000 in
theorem lwa_55 : ∀ w ∈ wsX100, w ∈ lw_tbl := by decide +kernel
set_option maxRecDepth 100000 in
theorem lwa_56 : ∀ w ∈ wsX110, w ∈ lw_tbl := by decide +kernel
set_option maxRecDepth 100000 in
theorem lwa_57 : ∀ w ∈ wsX10, w ∈ lw_tbl := by decide +kernel
set_option maxRecDepth 100000 in
theorem lwa_58 : ∀ w ∈ wsX40, w ∈ lw_tbl := by decide +kernel
set_option maxRecDepth 100000 in
theorem lwa_59 : ∀ w ∈ wsX00, w ∈ lw_tbl := by decide +kernel
set_option maxRecDepth 100000 in
theorem lwa_60 : ∀ w ∈ wsX80, w ∈ lw_tbl := by decide +kernel
set_option maxRecDepth 100000 in
theorem lwa_61 : ∀ w ∈ wsX60, w ∈ lw_tbl := by decide +kernel
set_option maxRecDepth 100000 in
theorem lwa_62 : ∀ w ∈ wsX90, w ∈ lw_tbl := by decide +kernel
set_option maxRecDepth 100000 in
theorem lwa_63 : ∀ w ∈ wsX70, w ∈ lw_tbl := by decide +kernel
set_option maxRecDepth 100000 in
theorem lwa_64 : ∀ w ∈ wsX50, w ∈ lw_tbl := by decide +kernel
set_option maxRecDepth 100000 in
theorem lwa_65 : ∀ w ∈ wsX30, w ∈ lw_tbl := by decide +kernel
set_option maxRecDepth 100000 in
theorem lwa_66 : ∀ w ∈ wsX20, w ∈ lw_tbl := by decide +kernel
set_option maxRecDepth 100000 in
theorem lwa_67 : ∀ w ∈ wsJ00, w ∈ lw_tbl := by decide +kernel
theorem lwa_all0 : ∀ w ∈ wsL_law0, w ∈ lw_tbl := List.forall_mem_append.mpr ⟨List.forall_mem_append.mpr ⟨List.forall_mem_append.mpr ⟨List.forall_mem_append.mpr ⟨List.forall_mem_append.mpr ⟨List.forall_mem_append.mpr ⟨List.forall_mem_append.mpr ⟨List.forall_mem_append.mpr ⟨List.forall_mem_append.mpr ⟨List.forall_mem_append.mpr ⟨List.forall_mem_append.mpr ⟨List.forall_mem_append.mpr ⟨List.forall_mem_append.mpr ⟨List.forall_mem_append.mpr ⟨List.forall_mem_append.mpr ⟨lwa_0, List.forall_mem_append.mpr ⟨lwa_1, List.forall_mem_append.mpr ⟨lwa_2, List.forall_mem_append.mpr ⟨lwa_3, List.forall_mem_append.mpr ⟨lwa_4, List.forall_mem_append.mpr ⟨lwa_5, List.forall_mem_append.mpr ⟨lwa_6, List.forall_mem_append.mpr ⟨lwa_7, List.forall_mem_append.mpr ⟨lwa_8, List.forall_mem_append.mpr ⟨lwa_9, List.forall_mem_append.mpr ⟨lwa_10, List.forall_mem_append.mpr ⟨lwa_11, List.forall_mem_append.mpr ⟨lwa_12, List.forall_mem_append.mpr ⟨lwa_13, List.forall_mem_append.mpr ⟨lwa_14, List.forall_mem_append.mpr ⟨lwa_15, List.forall_mem_append.mpr ⟨lwa_16, List.forall_mem_append.mpr ⟨lwa_17, List.forall_mem_append.mpr ⟨lwa_18, List.forall_mem_append.mpr ⟨lwa_19, List.forall_mem_append.mpr ⟨lwa_20, List.forall_mem_append.mpr ⟨lwa_21, List.forall_mem_append.mpr ⟨lwa_22, List.forall_mem_append.mpr ⟨lwa_23, List.forall_mem_append.mpr ⟨lwa_24, List.forall_mem_append.mpr ⟨lwa_25, List.forall_mem_append.mpr ⟨lwa_26, List.forall_mem_append.mpr ⟨lwa_27, List.forall_mem_append.mpr ⟨lwa_28, List.forall_mem_append.mpr ⟨lwa_29, List.forall_mem_append.mpr ⟨lwa_30, List.forall_mem_append.mpr ⟨lwa_31, List.forall_mem_append.mpr ⟨lwa_32, List.forall_mem_append.mpr ⟨lwa_33, List.forall_mem_append.mpr ⟨lwa_34, List.forall_mem_append.mpr ⟨lwa_35, List.forall_mem_append.mpr ⟨lwa_36, List.forall_mem_append.mpr ⟨lwa_37, List.forall_mem_append.mpr ⟨lwa_38, List.forall_mem_append.mpr ⟨lwa_39, List.forall_mem_append.mpr ⟨lwa_40, List.forall_mem_append.mpr ⟨lwa_41, List.forall_mem_append.mpr ⟨lwa_42, List.forall_mem_append.mpr ⟨lwa_43, List.forall_mem_append.mpr ⟨lwa_44, List.forall_mem_append.mpr ⟨lwa_45, List.forall_mem_append.mpr ⟨lwa_46, List.forall_mem_append.mpr ⟨lwa_47, List.forall_mem_append.mpr ⟨lwa_48, List.forall_mem_append.mpr ⟨lwa_49, List.forall_mem_append.mpr ⟨lwa_50, List.forall_mem_append.mpr ⟨lwa_51, List.forall_mem_append.mpr ⟨lwa_52, List.forall_mem_append.mpr ⟨lwa_53, lwa_54⟩⟩⟩⟩⟩⟩⟩⟩⟩⟩⟩⟩⟩⟩⟩⟩⟩⟩⟩⟩⟩⟩⟩⟩⟩⟩⟩⟩⟩⟩⟩⟩⟩⟩⟩⟩⟩⟩⟩⟩⟩⟩⟩⟩⟩⟩⟩⟩⟩⟩⟩⟩⟩⟩, lwa_55⟩, lwa_56⟩, lwa_57⟩, lwa_58⟩, lwa_59⟩, lwa_60⟩, lwa_61⟩, lwa_62⟩, lwa_63⟩, lwa_64⟩, lwa_65⟩, lwa_66⟩, lwa_67⟩, (fun _ h => absurd h List.not_mem_nil)⟩
set_option maxRecDepth 100000 in
theorem lwa_68 : ∀ w ∈ (vx_atM "java/lang/ArrayIndexOutOfBoundsException" ["java/lang/IndexOutOfBoundsException", "java/lang/RuntimeException", "java/lang/Exception"]).filter goodWord, w ∈ lw_tbl := by decide +kernel
set_option maxRecDepth 100000 in
theorem lwa_69 : ∀ w ∈ (vx_atS RX10 107 "java/lang/UnsupportedOperationException" ["java/lang/RuntimeException", "java/lang/Exception"]).filter goodWord, w ∈ lw_tbl := by decide +kernel
set_option maxRecDepth 100000 in
theorem lwa_70 : ∀ w ∈ (vx_atS RX10 152 "java/lang/IllegalArgumentException" ["java/lang/RuntimeException", "java/lang/Exception"]).filter goodWord, w ∈ lw_tbl := by decide +kernel
set_option maxRecDepth 100000 in
theorem lwa_71 : ∀ w ∈ (vx_atS RX10 207 "java/lang/IndexOutOfBoundsException" ["java/lang/RuntimeException", "java/lang/Exception"]).filter goodWord, w ∈ lw_tbl := by decide +kernel
set_option maxRecDepth 100000 in
theorem lwa_72 : ∀ w ∈ (vy_atN RX10 228).filter goodWord, w ∈ lw_tbl := by decide +kernel
set_option maxRecDepth 100000 in
theorem lwa_73 : ∀ w ∈ (vx_atS RX10 325 "java/lang/IllegalStateException" ["java/lang/RuntimeException", "java/lang/Exception"]).filter goodWord, w ∈ lw_tbl := by decide +kernel
set_option maxRecDepth 100000 in
theorem lwa_74 : ∀ w ∈ (vx_atS RX10 399 "java/lang/ArithmeticException" ["java/lang/RuntimeException", "java/lang/Exception"]).filter goodWord, w ∈ lw_tbl := by decide +kernel
theorem lwa_all : ∀ w ∈ wsL_law, w ∈ lw_tbl := List.forall_mem_append.mpr ⟨List.forall_mem_append.mpr ⟨List.forall_mem_append.mpr ⟨List.forall_mem_append.mpr ⟨List.forall_mem_append.mpr ⟨List.forall_mem_append.mpr ⟨List.forall_mem_append.mpr ⟨lwa_all0, lwa_68⟩, lwa_69⟩, lwa_70⟩, lwa_71⟩, lwa_72⟩, lwa_73⟩, lwa_74⟩
