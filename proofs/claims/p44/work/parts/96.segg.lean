/-! ===== printed by program (wip/p44/lay_seg.py): the law, segment by segment ===== -/
theorem ez25 (a : Nat) : (2 : Int32) * nI a + 5 = nI (2 * a + 5) := by
  rw [show (2 : Int32) = nI 2 from rfl, pk_mul, show (5 : Int32) = nI 5 from rfl, nI_add]
theorem ascd_z : ∀ a9 : Nat, a9 < 5 → ∀ b9 : Nat, b9 < 6 → ∀ i, i < ([108, 49, 59, 83, 48, 58, nI (48 + b9), 42, nI (48 + a9), 61, 48, 59, 115, 48, 58, nI (48 + (b9 + 2) % 6), 42, 52, 61, 49, 50, 59, 115, 48, 58, nI (48 + b9), 42, 49, 61, 48, 51, 59, 99, 50, 61, 48, 49, 59, 99, 48, 61] : List Int32).length → chC (([108, 49, 59, 83, 48, 58, nI (48 + b9), 42, nI (48 + a9), 61, 48, 59, 115, 48, 58, nI (48 + (b9 + 2) % 6), 42, 52, 61, 49, 50, 59, 115, 48, 58, nI (48 + b9), 42, 49, 61, 48, 51, 59, 99, 50, 61, 48, 49, 59, 99, 48, 61] : List Int32).getD i 0 &&& 255) = ([108, 49, 59, 83, 48, 58, nI (48 + b9), 42, nI (48 + a9), 61, 48, 59, 115, 48, 58, nI (48 + (b9 + 2) % 6), 42, 52, 61, 49, 50, 59, 115, 48, 58, nI (48 + b9), 42, 49, 61, 48, 51, 59, 99, 50, 61, 48, 49, 59, 99, 48, 61] : List Int32).getD i 0 := by decide +kernel
theorem asc_z {a9 b9 : Nat} (_ : 1 ≤ a9) (h4 : a9 ≤ 4) (hb : b9 < 6) : AscT [108, 49, 59, 83, 48, 58, nI (48 + b9), 42, nI (48 + a9), 61, 48, 59, 115, 48, 58, nI (48 + (b9 + 2) % 6), 42, 52, 61, 49, 50, 59, 115, 48, 58, nI (48 + b9), 42, 49, 61, 48, 51, 59, 99, 50, 61, 48, 49, 59, 99, 48, 61] := fun i hi => ascd_z a9 (by omega) b9 hb i hi
theorem ascd_l1 : ∀ a9 : Nat, a9 < 5 → ∀ b9 : Nat, b9 < 6 → ∀ i, i < ([nI (48 + b9), 42, nI (48 + a9), 43, 32, nI (48 + (b9 + 2) % 6), 42, 52, 32, nI (48 + b9), 42, 49] : List Int32).length → chC (([nI (48 + b9), 42, nI (48 + a9), 43, 32, nI (48 + (b9 + 2) % 6), 42, 52, 32, nI (48 + b9), 42, 49] : List Int32).getD i 0 &&& 255) = ([nI (48 + b9), 42, nI (48 + a9), 43, 32, nI (48 + (b9 + 2) % 6), 42, 52, 32, nI (48 + b9), 42, 49] : List Int32).getD i 0 := by decide +kernel
theorem asc_l1 {a9 b9 : Nat} (_ : 1 ≤ a9) (h4 : a9 ≤ 4) (hb : b9 < 6) : AscT [nI (48 + b9), 42, nI (48 + a9), 43, 32, nI (48 + (b9 + 2) % 6), 42, 52, 32, nI (48 + b9), 42, 49] := fun i hi => ascd_l1 a9 (by omega) b9 hb i hi
theorem ascd_l2 : ∀ a9 : Nat, a9 < 5 → ∀ b9 : Nat, b9 < 6 → ∀ i, i < ([nI (48 + b9), 42, nI (48 + a9), 43, 47, 32, nI (48 + (b9 + 2) % 6), 42, 52, 32, nI (48 + b9), 42, 49] : List Int32).length → chC (([nI (48 + b9), 42, nI (48 + a9), 43, 47, 32, nI (48 + (b9 + 2) % 6), 42, 52, 32, nI (48 + b9), 42, 49] : List Int32).getD i 0 &&& 255) = ([nI (48 + b9), 42, nI (48 + a9), 43, 47, 32, nI (48 + (b9 + 2) % 6), 42, 52, 32, nI (48 + b9), 42, 49] : List Int32).getD i 0 := by decide +kernel
theorem asc_l2 {a9 b9 : Nat} (_ : 1 ≤ a9) (h4 : a9 ≤ 4) (hb : b9 < 6) : AscT [nI (48 + b9), 42, nI (48 + a9), 43, 47, 32, nI (48 + (b9 + 2) % 6), 42, 52, 32, nI (48 + b9), 42, 49] := fun i hi => ascd_l2 a9 (by omega) b9 hb i hi
theorem ascd_l3 : ∀ a9 : Nat, a9 < 5 → ∀ b9 : Nat, b9 < 6 → ∀ i, i < ([nI (48 + b9), 42, nI (48 + a9), 43, 32, nI (48 + (b9 + 2) % 6), 42, 52, 47, 32, nI (48 + b9), 42, 49, 63] : List Int32).length → chC (([nI (48 + b9), 42, nI (48 + a9), 43, 32, nI (48 + (b9 + 2) % 6), 42, 52, 47, 32, nI (48 + b9), 42, 49, 63] : List Int32).getD i 0 &&& 255) = ([nI (48 + b9), 42, nI (48 + a9), 43, 32, nI (48 + (b9 + 2) % 6), 42, 52, 47, 32, nI (48 + b9), 42, 49, 63] : List Int32).getD i 0 := by decide +kernel
theorem asc_l3 {a9 b9 : Nat} (_ : 1 ≤ a9) (h4 : a9 ≤ 4) (hb : b9 < 6) : AscT [nI (48 + b9), 42, nI (48 + a9), 43, 32, nI (48 + (b9 + 2) % 6), 42, 52, 47, 32, nI (48 + b9), 42, 49, 63] := fun i hi => ascd_l3 a9 (by omega) b9 hb i hi
theorem zfacts {a9 b9 : Nat} (h : zchk a9 b9 = true) : (ob_isEven (zs_0 a9 b9)  = (1, 0)) ∧ (ob_shelfOf (zs_0 a9 b9) 2 = (0, 0)) ∧ ((ob_act (zs_0 a9 b9) 6 0 0 0 0 0).1 = (-2)) ∧ (ob_reason (zs_1 a9 b9) 0 = (4, 0)) ∧ ((ob_act (zs_1 a9 b9) 2 0 0 0 0 0).1 = (-2)) ∧ (ob_reason (zs_2 a9 b9) 0 = (3, 0)) ∧ (ob_account (zs_2 a9 b9) 4 = (0, 0)) ∧ ((zs_2 a9 b9).1 7 = 0) ∧ ((ob_com (zs_3 a9 b9)).1 = 6 ∧ (ob_com (zs_3 a9 b9)).2.1 14 = 0) ∧ (ob_leafletOf (zs_4 a9 b9) 0 6 = (nI (2 * a9 + 5), 0)) ∧ ((ob_line (zs_4 a9 b9) 0).2.1 14 = 0 ∧ isL (ob_line (zs_4 a9 b9) 0).2 (ob_line (zs_4 a9 b9) 0).1 [nI (48 + b9), 42, nI (48 + a9), 43, 32, nI (48 + (b9 + 2) % 6), 42, 52, 32, nI (48 + b9), 42, 49] = true) ∧ (ob_wouldSkip (zs_5 a9 b9) 0 0 = (4, 0)) ∧ (ob_why (zs_5 a9 b9) 0 0 2 = (3, 0)) ∧ (ob_wouldSkip (zs_5 a9 b9) 1 0 = (7, 0)) ∧ (ob_whyAgain (zs_5 a9 b9) 1 0 0 = (2, 0)) ∧ (ob_bestCousin (zs_5 a9 b9) 0 = (0, 0)) ∧ (ob_wouldLeave (zs_5 a9 b9) 1 0 (nI b9) = (nI (a9 + 1), 0)) ∧ (ob_wouldLeave (zs_5 a9 b9) 1 0 (nI ((b9 + 1) % 6)) = (nI a9, 0)) ∧ (ob_wouldLeave (zs_5 a9 b9) 1 0 (nI ((b9 + 2) % 6)) = (4, 0)) ∧ (ob_bestFolds (zs_5 a9 b9) 0 0 = (1, 0)) ∧ (ob_bestFolds (zs_5 a9 b9) 1 0 = (3, 0)) ∧ ((ob_fold (zs_5 a9 b9) 0).1 = 2 ∧ (ob_fold (zs_5 a9 b9) 0).2.1 14 = 0) ∧ (ob_why (zs_6 a9 b9) 0 0 2 = (1, 0)) ∧ (ob_wouldSkip (zs_6 a9 b9) 0 0 = (4, 0)) ∧ ((ob_fold (zs_6 a9 b9) 0).1 = 1 ∧ (ob_fold (zs_6 a9 b9) 0).2.1 14 = 0) ∧ (ob_wouldSkip (zs_7 a9 b9) 0 0 = (6, 0)) ∧ ((ob_line (zs_7 a9 b9) 0).2.1 14 = 0 ∧ isL (ob_line (zs_7 a9 b9) 0).2 (ob_line (zs_7 a9 b9) 0).1 [nI (48 + b9), 42, nI (48 + a9), 43, 47, 32, nI (48 + (b9 + 2) % 6), 42, 52, 32, nI (48 + b9), 42, 49] = true) ∧ ((ob_unfold (zs_8 a9 b9) 0).1 = 2 ∧ (ob_unfold (zs_8 a9 b9) 0).2.1 14 = 0) ∧ ((ob_build (zs_9 a9 b9) 0 0).1 = 2 ∧ (ob_build (zs_9 a9 b9) 0 0).2.1 14 = 0) ∧ (ob_tin (zs_10 a9 b9) (nI b9) = (1, 0)) ∧ (ob_leafletOf (zs_10 a9 b9) 0 7 = (1, 0)) ∧ (ob_share (zs_10 a9 b9) = (1051372203, 0)) ∧ ((ob_line (zs_10 a9 b9) 0).2.1 14 = 0 ∧ isL (ob_line (zs_10 a9 b9) 0).2 (ob_line (zs_10 a9 b9) 0).1 [nI (48 + b9), 42, nI (48 + a9), 43, 32, nI (48 + (b9 + 2) % 6), 42, 52, 47, 32, nI (48 + b9), 42, 49, 63] = true) ∧ ((ob_act (zs_11 a9 b9) 7 0 0 0 0 0).1 = (-2)) ∧ (ob_reason (zs_12 a9 b9) 0 = (9, 0)) ∧ ((ob_lose (zs_12 a9 b9) (nI b9) 1).1 = 0 ∧ (ob_lose (zs_12 a9 b9) (nI b9) 1).2.1 14 = 0) ∧ ((ob_act (zs_13 a9 b9) 7 0 2 0 0 0).1 = (-2)) ∧ (ob_reason (zs_14 a9 b9) 0 = (10, 0)) ∧ (ob_reason (zs_14 a9 b9) 1 = (nI b9, 0)) ∧ ((ob_act (zs_14 a9 b9) 8 0 0 0 0 0).1 = (-2)) ∧ (ob_reason (zs_15 a9 b9) 0 = (10, 0)) ∧ (ob_canFinish (zs_15 a9 b9) 0 2 = (0, 0)) ∧ (ob_could (zs_15 a9 b9) 0 = (0, 0)) ∧ (ob_lost (zs_15 a9 b9) (nI b9) = (1, 0)) ∧ (ob_isEven (zs_15 a9 b9)  = (1, 0)) ∧ ((ob_find (zs_15 a9 b9) (nI b9) 1).1 = 0 ∧ (ob_find (zs_15 a9 b9) (nI b9) 1).2.1 14 = 0) ∧ (ob_could (zs_16 a9 b9) 0 = (1, 0)) ∧ ((ob_finish (zs_16 a9 b9) 0 2).1 = 0 ∧ (ob_finish (zs_16 a9 b9) 0 2).2.1 14 = 0) ∧ (ob_tin (zs_17 a9 b9) (nI b9) = (0, 0)) ∧ (ob_account (zs_17 a9 b9) 7 = (1, 0)) ∧ (ob_cousinOf (zs_17 a9 b9) 0 3 = (1, 0)) ∧ (ob_cousinOf (zs_17 a9 b9) 0 4 = (0, 0)) ∧ ((ob_act (zs_17 a9 b9) 3 0 0 0 0 0).1 = (-2)) ∧ (ob_reason (zs_18 a9 b9) 0 = (6, 0)) ∧ (ob_reason (zs_18 a9 b9) 1 = (0, 0)) ∧ ((ob_apart (zs_18 a9 b9) 0).1 = 0 ∧ (ob_apart (zs_18 a9 b9) 0).2.1 14 = 0) ∧ (ob_account (zs_19 a9 b9) 3 = (0, 0)) ∧ ((ob_unfold (zs_19 a9 b9) 0).1 = 3 ∧ (ob_unfold (zs_19 a9 b9) 0).2.1 14 = 0) ∧ (ob_bestLanguage (zs_20 a9 b9) 1 0 = (0, 0)) ∧ ((ob_learn (zs_20 a9 b9) 1 0).1 = 1 ∧ (ob_learn (zs_20 a9 b9) 1 0).2.1 14 = 0) ∧ (ob_wouldSkip (zs_21 a9 b9) 1 0 = (2, 0)) ∧ (ob_bestLanguage (zs_21 a9 b9) 1 0 = (1, 0)) ∧ ((ob_build (zs_21 a9 b9) 1 0).1 = 2 ∧ (ob_build (zs_21 a9 b9) 1 0).2.1 14 = 0) ∧ (ob_tin (zs_22 a9 b9) (nI ((b9 + 2) % 6)) = (4, 0)) ∧ (ob_ranked (zs_22 a9 b9) 3 0 = (0, 0)) ∧ ((ob_apart (zs_22 a9 b9) 0).1 = 4 ∧ (ob_apart (zs_22 a9 b9) 0).2.1 14 = 0) ∧ (ob_tin (zs_23 a9 b9) (nI ((b9 + 2) % 6)) = (0, 0)) ∧ (ob_account (zs_23 a9 b9) 5 = (2, 0)) ∧ (ob_account (zs_23 a9 b9) 8 = (2, 0)) := by
  unfold zchk at h
  obtain ⟨h, d_68⟩ := (Bool.and_eq_true _ _).mp h
  obtain ⟨h, d_67⟩ := (Bool.and_eq_true _ _).mp h
  obtain ⟨h, d_66⟩ := (Bool.and_eq_true _ _).mp h
  obtain ⟨h, d_65⟩ := (Bool.and_eq_true _ _).mp h
  obtain ⟨h, d_64⟩ := (Bool.and_eq_true _ _).mp h
  obtain ⟨h, d_63⟩ := (Bool.and_eq_true _ _).mp h
  obtain ⟨h, d_62⟩ := (Bool.and_eq_true _ _).mp h
  obtain ⟨h, d_61⟩ := (Bool.and_eq_true _ _).mp h
  obtain ⟨h, d_60⟩ := (Bool.and_eq_true _ _).mp h
  obtain ⟨h, d_59⟩ := (Bool.and_eq_true _ _).mp h
  obtain ⟨h, d_58⟩ := (Bool.and_eq_true _ _).mp h
  obtain ⟨h, d_57⟩ := (Bool.and_eq_true _ _).mp h
  obtain ⟨h, d_56⟩ := (Bool.and_eq_true _ _).mp h
  obtain ⟨h, d_55⟩ := (Bool.and_eq_true _ _).mp h
  obtain ⟨h, d_54⟩ := (Bool.and_eq_true _ _).mp h
  obtain ⟨h, d_53⟩ := (Bool.and_eq_true _ _).mp h
  obtain ⟨h, d_52⟩ := (Bool.and_eq_true _ _).mp h
  obtain ⟨h, d_51⟩ := (Bool.and_eq_true _ _).mp h
  obtain ⟨h, d_50⟩ := (Bool.and_eq_true _ _).mp h
  obtain ⟨h, d_49⟩ := (Bool.and_eq_true _ _).mp h
  obtain ⟨h, d_48⟩ := (Bool.and_eq_true _ _).mp h
  obtain ⟨h, d_47⟩ := (Bool.and_eq_true _ _).mp h
  obtain ⟨h, d_46⟩ := (Bool.and_eq_true _ _).mp h
  obtain ⟨h, d_45⟩ := (Bool.and_eq_true _ _).mp h
  obtain ⟨h, d_44⟩ := (Bool.and_eq_true _ _).mp h
  obtain ⟨h, d_43⟩ := (Bool.and_eq_true _ _).mp h
  obtain ⟨h, d_42⟩ := (Bool.and_eq_true _ _).mp h
  obtain ⟨h, d_41⟩ := (Bool.and_eq_true _ _).mp h
  obtain ⟨h, d_40⟩ := (Bool.and_eq_true _ _).mp h
  obtain ⟨h, d_39⟩ := (Bool.and_eq_true _ _).mp h
  obtain ⟨h, d_38⟩ := (Bool.and_eq_true _ _).mp h
  obtain ⟨h, d_37⟩ := (Bool.and_eq_true _ _).mp h
  obtain ⟨h, d_36⟩ := (Bool.and_eq_true _ _).mp h
  obtain ⟨h, d_35⟩ := (Bool.and_eq_true _ _).mp h
  obtain ⟨h, d_34⟩ := (Bool.and_eq_true _ _).mp h
  obtain ⟨h, d_33⟩ := (Bool.and_eq_true _ _).mp h
  obtain ⟨h, d_32⟩ := (Bool.and_eq_true _ _).mp h
  obtain ⟨h, d_31⟩ := (Bool.and_eq_true _ _).mp h
  obtain ⟨h, d_30⟩ := (Bool.and_eq_true _ _).mp h
  obtain ⟨h, d_29⟩ := (Bool.and_eq_true _ _).mp h
  obtain ⟨h, d_28⟩ := (Bool.and_eq_true _ _).mp h
  obtain ⟨h, d_27⟩ := (Bool.and_eq_true _ _).mp h
  obtain ⟨h, d_26⟩ := (Bool.and_eq_true _ _).mp h
  obtain ⟨h, d_25⟩ := (Bool.and_eq_true _ _).mp h
  obtain ⟨h, d_24⟩ := (Bool.and_eq_true _ _).mp h
  obtain ⟨h, d_23⟩ := (Bool.and_eq_true _ _).mp h
  obtain ⟨h, d_22⟩ := (Bool.and_eq_true _ _).mp h
  obtain ⟨h, d_21⟩ := (Bool.and_eq_true _ _).mp h
  obtain ⟨h, d_20⟩ := (Bool.and_eq_true _ _).mp h
  obtain ⟨h, d_19⟩ := (Bool.and_eq_true _ _).mp h
  obtain ⟨h, d_18⟩ := (Bool.and_eq_true _ _).mp h
  obtain ⟨h, d_17⟩ := (Bool.and_eq_true _ _).mp h
  obtain ⟨h, d_16⟩ := (Bool.and_eq_true _ _).mp h
  obtain ⟨h, d_15⟩ := (Bool.and_eq_true _ _).mp h
  obtain ⟨h, d_14⟩ := (Bool.and_eq_true _ _).mp h
  obtain ⟨h, d_13⟩ := (Bool.and_eq_true _ _).mp h
  obtain ⟨h, d_12⟩ := (Bool.and_eq_true _ _).mp h
  obtain ⟨h, d_11⟩ := (Bool.and_eq_true _ _).mp h
  obtain ⟨h, d_10⟩ := (Bool.and_eq_true _ _).mp h
  obtain ⟨h, d_9⟩ := (Bool.and_eq_true _ _).mp h
  obtain ⟨h, d_8⟩ := (Bool.and_eq_true _ _).mp h
  obtain ⟨h, d_7⟩ := (Bool.and_eq_true _ _).mp h
  obtain ⟨h, d_6⟩ := (Bool.and_eq_true _ _).mp h
  obtain ⟨h, d_5⟩ := (Bool.and_eq_true _ _).mp h
  obtain ⟨h, d_4⟩ := (Bool.and_eq_true _ _).mp h
  obtain ⟨h, d_3⟩ := (Bool.and_eq_true _ _).mp h
  obtain ⟨h, d_2⟩ := (Bool.and_eq_true _ _).mp h
  obtain ⟨h, d_1⟩ := (Bool.and_eq_true _ _).mp h
  exact ⟨of_decide_eq_true h, of_decide_eq_true d_1, of_decide_eq_true d_2, of_decide_eq_true d_3, of_decide_eq_true d_4, of_decide_eq_true d_5, of_decide_eq_true d_6, of_decide_eq_true d_7, of_decide_eq_true d_8, of_decide_eq_true d_9, of_decide_eq_true d_10, of_decide_eq_true d_11, of_decide_eq_true d_12, of_decide_eq_true d_13, of_decide_eq_true d_14, of_decide_eq_true d_15, of_decide_eq_true d_16, of_decide_eq_true d_17, of_decide_eq_true d_18, of_decide_eq_true d_19, of_decide_eq_true d_20, of_decide_eq_true d_21, of_decide_eq_true d_22, of_decide_eq_true d_23, of_decide_eq_true d_24, of_decide_eq_true d_25, of_decide_eq_true d_26, of_decide_eq_true d_27, of_decide_eq_true d_28, of_decide_eq_true d_29, of_decide_eq_true d_30, of_decide_eq_true d_31, of_decide_eq_true d_32, of_decide_eq_true d_33, of_decide_eq_true d_34, of_decide_eq_true d_35, of_decide_eq_true d_36, of_decide_eq_true d_37, of_decide_eq_true d_38, of_decide_eq_true d_39, of_decide_eq_true d_40, of_decide_eq_true d_41, of_decide_eq_true d_42, of_decide_eq_true d_43, of_decide_eq_true d_44, of_decide_eq_true d_45, of_decide_eq_true d_46, of_decide_eq_true d_47, of_decide_eq_true d_48, of_decide_eq_true d_49, of_decide_eq_true d_50, of_decide_eq_true d_51, of_decide_eq_true d_52, of_decide_eq_true d_53, of_decide_eq_true d_54, of_decide_eq_true d_55, of_decide_eq_true d_56, of_decide_eq_true d_57, of_decide_eq_true d_58, of_decide_eq_true d_59, of_decide_eq_true d_60, of_decide_eq_true d_61, of_decide_eq_true d_62, of_decide_eq_true d_63, of_decide_eq_true d_64, of_decide_eq_true d_65, of_decide_eq_true d_66, of_decide_eq_true d_67, of_decide_eq_true d_68⟩
set_option maxHeartbeats 8000000 in
set_option maxRecDepth 100000 in
theorem sg_G0 {G : FG} {l : Launch} {pP : Program} {eE : Env} {sS : State} {mI : MethodId} {ar9 : Array Value} {bl9 : List Frame} {meth : Method} {cD : Code} {Q : State → Prop} {adr lad : Nat → Nat} {b L dd : Nat} {xs : Nat → Int32} (C : LWx G l pP sS mI ar9 cD adr b L xs dd lad) {x z n a9 b9 : Nat} {S : StZ} {nw : Int32} {τ : FWd} {cells slots : Nat} {H : Heap} {locs : List Loc} {ls : Array Slot} (hc : cells ≤ 500000) (hs : slots ≤ 6000000) (hxz : x + 614 ≤ z) (ha1 : 1 ≤ a9) (ha4 : a9 ≤ 4) (hb6 : b9 < 6) (hz : zchk a9 b9 = true) (hCx : CI G τ.2 x S) (hCz : CI G τ.2 z (zs_0 a9 b9)) (hR : fR G τ H) (hS : va_S (fwA G) sS.heap H locs) (hl : lv_has ls 14 [(13, .ref z), (12, .int (nI ((b9 + 2) % 6))), (11, .int (nI ((b9 + 1) % 6))), (10, .int (nI b9)), (9, .int (nI a9)), (4, .int nw), (3, .int (nI n)), (1, .ref x), (0, .ref b)])
    (kk : ∀ (τ : FWd) (H : Heap) (locs : List Loc) (ls : Array Slot), CI G τ.2 x S → CI G τ.2 z (zs_2 a9 b9) → fR G τ H → va_S (fwA G) sS.heap H locs → lv_has ls 14 [(13, .ref z), (12, .int (nI ((b9 + 2) % 6))), (11, .int (nI ((b9 + 1) % 6))), (10, .int (nI b9)), (9, .int (nI a9)), (4, .int nw), (3, .int (nI n)), (1, .ref x), (0, .ref b)] → W pP l eE room_1 sS mI ar9 bl9 meth cD H locs (cells + 6) (slots + 36) Q (F0 mI 635 ls [])) : W pP l eE room_1 sS mI ar9 bl9 meth cD H locs cells slots Q (F0 mI 554 ls []) := by
  obtain ⟨hx, hb, hml, hown, hts, hW, hL, hX0, hN, hFT, hJ, hD, hLT, hX, hbl, hbA, hL9⟩ := id C
  have hK := hL.K hW
  obtain ⟨z_0, z_1, z_2, z_3, z_4, z_5, z_6, -, -, -, -, -, -, -, -, -, -, -, -, -, -, -, -, -, -, -, -, -, -, -, -, -, -, -, -, -, -, -, -, -, -, -, -, -, -, -, -, -, -, -, -, -, -, -, -, -, -, -, -, -, -, -, -, -, -, -, -, -, -⟩ := zfacts hz
  have hd12 : (b9 + 2) % 6 < 10 := Nat.lt_of_lt_of_le (Nat.mod_lt _ (by decide)) (by decide)
  refine lv_aload hx hb dL_law_554 (lv_at hl 0 rfl) ?_
  refine fw_call (va_runV (As := []) (rest := []) ⟨hx, hb, hml, hown, hts⟩ (k_isEven G hL l hX0 τ z (zs_0 a9 b9) hCz  1 (z_0)) (cwV 0 hts gL_law_X10_isEven rfl rfl rfl (by decide +kernel) ⟨Nat.le_of_ble_eq_true rfl, Nat.le_of_ble_eq_true rfl⟩) (fw_preV hW hK hR hCz.at0 rfl) rfl rfl hl.1 rfl (lv_room (Nat.le_of_ble_eq_true rfl)) dL_law_556 ⟨by show cells + 0 ≤ 677820; omega, by show slots + 0 ≤ 7068237; omega⟩) hS (fun v_1 τ_1 H locs hq_1 hR hS => ?_)
  refine W.widen (k := cells) (n := slots) (by omega) (by omega) ?_
  obtain ⟨rfl, hC9, hF9⟩ := hq_1
  have hCx := hCx.oth hF9 (by omega)
  have hCz : CI G τ_1.2 z (zs_0 a9 b9) := hC9
  refine W.eq (g2 := F0 mI 559 ls [.int 1]) rfl ?_
  refine lv_if_eq (tgt := 633) hx hb dL_law_559 (by decide) (fun c => absurd c (by decide)) (fun c => ?_)
  refine lv_aload hx hb dL_law_562 (lv_at hl 0 rfl) ?_
  refine lv_iconst (v := 2) hx hb dL_law_564 (by decide) ?_
  refine fx_call (vx_runV (As := [.int 2]) (rest := []) ⟨hx, hb, hml, hown, hts⟩ (k_shelfOf G hL l hX0 τ_1 z (zs_0 a9 b9) hCz 2 0 (z_1)) (cwV 1 hts gL_law_X10_shelfOf rfl rfl rfl (by decide +kernel) ⟨Nat.le_of_ble_eq_true rfl, Nat.le_of_ble_eq_true rfl⟩) (fw_preV hW hK hR hCz.at0 rfl) rfl rfl hl.1 rfl (lv_room (Nat.le_of_ble_eq_true rfl)) dL_law_565 ⟨by show cells + 1 ≤ 677820; omega, by show slots + 6 ≤ 7068237; omega⟩) hS (fun E ce q9 τ9 H locs hx_1 hR hS hce hcv hcl => hx_1.elim) (fun v_2 τ_2 H locs hq_2 hR hS => ?_)
  refine W.widen (k := cells + 1) (n := slots + 6) (by omega) (by omega) ?_
  obtain ⟨rfl, hC9, hF9⟩ := hq_2
  have hCx := hCx.oth hF9 (by omega)
  have hCz : CI G τ_2.2 z (zs_0 a9 b9) := hC9
  refine W.eq (g2 := F0 mI 568 ls [.int 0]) rfl ?_
  refine lv_if_ne (tgt := 633) hx hb dL_law_568 (by decide) (fun c => absurd rfl c) (fun c => ?_)
  refine lv_aload hx hb dL_law_571 (lv_at hl 0 rfl) ?_
  refine lv_bipush (v := 6) hx hb dL_law_573 (by decide) ?_
  refine lv_iconst (v := 0) hx hb dL_law_575 (by decide) ?_
  refine lv_iconst (v := 0) hx hb dL_law_576 (by decide) ?_
  refine lv_iconst (v := 0) hx hb dL_law_577 (by decide) ?_
  refine lv_iconst (v := 0) hx hb dL_law_578 (by decide) ?_
  refine lv_iconst (v := 0) hx hb dL_law_579 (by decide) ?_
  refine fx_call (vx_runSX (As := [.ref z, .int 6, .int 0, .int 0, .int 0, .int 0, .int 0]) (rest := []) ⟨hx, hb, hml, hown, hts⟩ (h_act_6 G hL l hX0 τ_2 z (zs_0 a9 b9) hCz 0 0 0 0 0) (vx_cwSW 7 hts gL_law_L_act rfl rfl rfl (by decide +kernel) ⟨Nat.le_of_ble_eq_true rfl, Nat.le_of_ble_eq_true rfl⟩) (fw_preS hW hR) rfl rfl hl.1 rfl (lv_room (Nat.le_of_ble_eq_true rfl)) dL_law_580 ⟨by show cells + 1 + 1 ≤ 677820; omega, by show slots + 6 + 6 ≤ 7068237; omega⟩) hS (fun E ce q9 τ9 H locs hx_1 hR hS hce hcv hcl => hx_1.elim) (fun v_3 τ_3 H locs hq_3 hR hS => ?_)
  refine W.widen (k := cells + 2) (n := slots + 12) (by omega) (by omega) ?_
  obtain ⟨rfl, hC9, hF9⟩ := hq_3
  have hCx := hCx.oth hF9 (by omega)
  have hCz : CI G τ_3.2 z (zs_1 a9 b9) := hC9
  refine W.eq (g2 := F0 mI 583 ls [.int (ob_act (zs_0 a9 b9) 6 0 0 0 0 0).1]) rfl ?_
  refine W.eq (g2 := F0 mI 583 ls [.int (-2)]) (by rw [z_2]) ?_
  refine lv_bipush (v := (-2)) hx hb dL_law_583 (by decide) ?_
  refine lv_icmp_ne (tgt := 633) hx hb dL_law_585 (by decide) (fun c => absurd rfl c) (fun c => ?_)
  refine lv_aload hx hb dL_law_588 (lv_at hl 0 rfl) ?_
  refine lv_iconst (v := 0) hx hb dL_law_590 (by decide) ?_
  refine fx_call (vx_runV (As := [.int 0]) (rest := []) ⟨hx, hb, hml, hown, hts⟩ (k_reason G hL l hX0 τ_3 z (zs_1 a9 b9) hCz 0 4 (z_3)) (cwV 1 hts gL_law_X10_reason rfl rfl rfl (by decide +kernel) ⟨Nat.le_of_ble_eq_true rfl, Nat.le_of_ble_eq_true rfl⟩) (fw_preV hW hK hR hCz.at0 rfl) rfl rfl hl.1 rfl (lv_room (Nat.le_of_ble_eq_true rfl)) dL_law_591 ⟨by show cells + 2 + 1 ≤ 677820; omega, by show slots + 12 + 6 ≤ 7068237; omega⟩) hS (fun E ce q9 τ9 H locs hx_1 hR hS hce hcv hcl => hx_1.elim) (fun v_4 τ_4 H locs hq_4 hR hS => ?_)
  refine W.widen (k := cells + 3) (n := slots + 18) (by omega) (by omega) ?_
  obtain ⟨rfl, hC9, hF9⟩ := hq_4
  have hCx := hCx.oth hF9 (by omega)
  have hCz : CI G τ_4.2 z (zs_1 a9 b9) := hC9
  refine W.eq (g2 := F0 mI 594 ls [.int 4]) rfl ?_
  refine lv_iconst (v := 4) hx hb dL_law_594 (by decide) ?_
  refine lv_icmp_ne (tgt := 633) hx hb dL_law_595 (by decide) (fun c => absurd rfl c) (fun c => ?_)
  refine lv_aload hx hb dL_law_598 (lv_at hl 0 rfl) ?_
  refine lv_iconst (v := 2) hx hb dL_law_600 (by decide) ?_
  refine lv_iconst (v := 0) hx hb dL_law_601 (by decide) ?_
  refine lv_iconst (v := 0) hx hb dL_law_602 (by decide) ?_
  refine lv_iconst (v := 0) hx hb dL_law_603 (by decide) ?_
  refine lv_iconst (v := 0) hx hb dL_law_604 (by decide) ?_
  refine lv_iconst (v := 0) hx hb dL_law_605 (by decide) ?_
  refine fx_call (vx_runSX (As := [.ref z, .int 2, .int 0, .int 0, .int 0, .int 0, .int 0]) (rest := []) ⟨hx, hb, hml, hown, hts⟩ (h_act_2 G hL l hX0 τ_4 z (zs_1 a9 b9) hCz 0 0 0 0 0) (vx_cwSW 7 hts gL_law_L_act rfl rfl rfl (by decide +kernel) ⟨Nat.le_of_ble_eq_true rfl, Nat.le_of_ble_eq_true rfl⟩) (fw_preS hW hR) rfl rfl hl.1 rfl (lv_room (Nat.le_of_ble_eq_true rfl)) dL_law_606 ⟨by show cells + 3 + 1 ≤ 677820; omega, by show slots + 18 + 6 ≤ 7068237; omega⟩) hS (fun E ce q9 τ9 H locs hx_1 hR hS hce hcv hcl => hx_1.elim) (fun v_5 τ_5 H locs hq_5 hR hS => ?_)
  refine W.widen (k := cells + 4) (n := slots + 24) (by omega) (by omega) ?_
  obtain ⟨rfl, hC9, hF9⟩ := hq_5
  have hCx := hCx.oth hF9 (by omega)
  have hCz : CI G τ_5.2 z (zs_2 a9 b9) := hC9
  refine W.eq (g2 := F0 mI 609 ls [.int (ob_act (zs_1 a9 b9) 2 0 0 0 0 0).1]) rfl ?_
  refine W.eq (g2 := F0 mI 609 ls [.int (-2)]) (by rw [z_4]) ?_
  refine lv_bipush (v := (-2)) hx hb dL_law_609 (by decide) ?_
  refine lv_icmp_ne (tgt := 633) hx hb dL_law_611 (by decide) (fun c => absurd rfl c) (fun c => ?_)
  refine lv_aload hx hb dL_law_614 (lv_at hl 0 rfl) ?_
  refine lv_iconst (v := 0) hx hb dL_law_616 (by decide) ?_
  refine fx_call (vx_runV (As := [.int 0]) (rest := []) ⟨hx, hb, hml, hown, hts⟩ (k_reason G hL l hX0 τ_5 z (zs_2 a9 b9) hCz 0 3 (z_5)) (cwV 1 hts gL_law_X10_reason rfl rfl rfl (by decide +kernel) ⟨Nat.le_of_ble_eq_true rfl, Nat.le_of_ble_eq_true rfl⟩) (fw_preV hW hK hR hCz.at0 rfl) rfl rfl hl.1 rfl (lv_room (Nat.le_of_ble_eq_true rfl)) dL_law_617 ⟨by show cells + 4 + 1 ≤ 677820; omega, by show slots + 24 + 6 ≤ 7068237; omega⟩) hS (fun E ce q9 τ9 H locs hx_1 hR hS hce hcv hcl => hx_1.elim) (fun v_6 τ_6 H locs hq_6 hR hS => ?_)
  refine W.widen (k := cells + 5) (n := slots + 30) (by omega) (by omega) ?_
  obtain ⟨rfl, hC9, hF9⟩ := hq_6
  have hCx := hCx.oth hF9 (by omega)
  have hCz : CI G τ_6.2 z (zs_2 a9 b9) := hC9
  refine W.eq (g2 := F0 mI 620 ls [.int 3]) rfl ?_
  refine lv_iconst (v := 3) hx hb dL_law_620 (by decide) ?_
  refine lv_icmp_ne (tgt := 633) hx hb dL_law_621 (by decide) (fun c => absurd rfl c) (fun c => ?_)
  refine lv_aload hx hb dL_law_624 (lv_at hl 0 rfl) ?_
  refine lv_iconst (v := 4) hx hb dL_law_626 (by decide) ?_
  refine fx_call (vx_runV (As := [.int 4]) (rest := []) ⟨hx, hb, hml, hown, hts⟩ (k_account G hL l hX0 τ_6 z (zs_2 a9 b9) hCz 4 0 (z_6)) (cwV 1 hts gL_law_X10_account rfl rfl rfl (by decide +kernel) ⟨Nat.le_of_ble_eq_true rfl, Nat.le_of_ble_eq_true rfl⟩) (fw_preV hW hK hR hCz.at0 rfl) rfl rfl hl.1 rfl (lv_room (Nat.le_of_ble_eq_true rfl)) dL_law_627 ⟨by show cells + 5 + 1 ≤ 677820; omega, by show slots + 30 + 6 ≤ 7068237; omega⟩) hS (fun E ce q9 τ9 H locs hx_1 hR hS hce hcv hcl => hx_1.elim) (fun v_7 τ_7 H locs hq_7 hR hS => ?_)
  refine W.widen (k := cells + 6) (n := slots + 36) (by omega) (by omega) ?_
  obtain ⟨rfl, hC9, hF9⟩ := hq_7
  have hCx := hCx.oth hF9 (by omega)
  have hCz : CI G τ_7.2 z (zs_2 a9 b9) := hC9
  refine W.eq (g2 := F0 mI 630 ls [.int 0]) rfl ?_
  refine lv_if_eq (tgt := 635) hx hb dL_law_630 (by decide) (fun c => ?_) (fun c => absurd rfl c)
  exact kk τ_7 H locs ls hCx hCz hR hS hl
set_option maxHeartbeats 8000000 in
set_option maxRecDepth 100000 in
theorem sg_G1 {G : FG} {l : Launch} {pP : Program} {eE : Env} {sS : State} {mI : MethodId} {ar9 : Array Value} {bl9 : List Frame} {meth : Method} {cD : Code} {Q : State → Prop} {adr lad : Nat → Nat} {b L dd : Nat} {xs : Nat → Int32} (C : LWx G l pP sS mI ar9 cD adr b L xs dd lad) {x z n a9 b9 : Nat} {S : StZ} {nw : Int32} {τ : FWd} {cells slots : Nat} {H : Heap} {locs : List Loc} {ls : Array Slot} (hc : cells ≤ 500000) (hs : slots ≤ 6000000) (hxz : x + 614 ≤ z) (ha1 : 1 ≤ a9) (ha4 : a9 ≤ 4) (hb6 : b9 < 6) (hz : zchk a9 b9 = true) (hCx : CI G τ.2 x S) (hCz : CI G τ.2 z (zs_2 a9 b9)) (hR : fR G τ H) (hS : va_S (fwA G) sS.heap H locs) (hl : lv_has ls 14 [(13, .ref z), (12, .int (nI ((b9 + 2) % 6))), (11, .int (nI ((b9 + 1) % 6))), (10, .int (nI b9)), (9, .int (nI a9)), (4, .int nw), (3, .int (nI n)), (1, .ref x), (0, .ref b)])
    (kk : ∀ (τ : FWd) (H : Heap) (locs : List Loc) (ls : Array Slot), CI G τ.2 x S → CI G τ.2 z (zs_5 a9 b9) → fR G τ H → va_S (fwA G) sS.heap H locs → lv_has ls 14 [(13, .ref z), (12, .int (nI ((b9 + 2) % 6))), (11, .int (nI ((b9 + 1) % 6))), (10, .int (nI b9)), (9, .int (nI a9)), (4, .int nw), (3, .int (nI n)), (1, .ref x), (0, .ref b)] → W pP l eE room_1 sS mI ar9 bl9 meth cD H locs (cells + 155) (slots + 4918) Q (F0 mI 887 ls [])) : W pP l eE room_1 sS mI ar9 bl9 meth cD H locs cells slots Q (F0 mI 635 ls []) := by
  obtain ⟨hx, hb, hml, hown, hts, hW, hL, hX0, hN, hFT, hJ, hD, hLT, hX, hbl, hbA, hL9⟩ := id C
  have hK := hL.K hW
  obtain ⟨-, -, -, -, -, -, -, z_7, z_8, z_9, z_10, z_11, z_12, z_13, z_14, z_15, z_16, z_17, z_18, -, -, -, -, -, -, -, -, -, -, -, -, -, -, -, -, -, -, -, -, -, -, -, -, -, -, -, -, -, -, -, -, -, -, -, -, -, -, -, -, -, -, -, -, -, -, -, -, -, -⟩ := zfacts hz
  have hd12 : (b9 + 2) % 6 < 10 := Nat.lt_of_lt_of_le (Nat.mod_lt _ (by decide)) (by decide)
  refine lv_aload hx hb dL_law_635 (lv_at hl 0 rfl) ?_
  have lt_x := hCx.lt hR
  have lt_z := hCz.lt hR
  refine tb_z C (k9 := 4) rfl (by omega) (k10 := 3) rfl (by omega) (k12 := 1) rfl (hd12) (by omega) (by omega) hR hS hl (fun τ_1 r_1 H locs hr_1 hf_1 hT_1 hR hS => ?_)
  have hCx := hCx.fr (τ := τ_1.2) (fun q9 h1 h2 => hf_1 q9 (by omega))
  have hCz := hCz.fr (τ := τ_1.2) (fun q9 h1 h2 => hf_1 q9 (by omega))
  refine W.widen (k := cells + 6) (n := slots + 3024) (by omega) (by omega) ?_
  have hTx : TxR G τ_1.2 z r_1 [108, 49, 59, 83, 48, 58, nI (48 + b9), 42, nI (48 + a9), 61, 48, 59, 115, 48, 58, nI (48 + (b9 + 2) % 6), 42, 52, 61, 49, 50, 59, 115, 48, 58, nI (48 + b9), 42, 49, 61, 48, 51, 59, 99, 50, 61, 48, 49, 59, 99, 48, 61] := hT_1.tx (by omega) hr_1
  refine fw_call (va_runS (As := [.ref z, .ref r_1]) (rest := []) ⟨hx, hb, hml, hown, hts⟩ (h_put G hL l hX0 hJ τ_1 z r_1 (zs_2 a9 b9) hCz [108, 49, 59, 83, 48, 58, nI (48 + b9), 42, nI (48 + a9), 61, 48, 59, 115, 48, 58, nI (48 + (b9 + 2) % 6), 42, 52, 61, 49, 50, 59, 115, 48, 58, nI (48 + b9), 42, 49, 61, 48, 51, 59, 99, 50, 61, 48, 49, 59, 99, 48, 61] hTx (asc_z ha1 ha4 hb6) (Nat.le_of_ble_eq_true rfl) z_7) (va_cwS 2 hts gL_law_L_put rfl rfl rfl (by decide +kernel) ⟨Nat.le_of_ble_eq_true rfl, Nat.le_of_ble_eq_true rfl⟩) (fw_preS hW hR) rfl rfl hl.1 rfl (lv_room (Nat.le_of_ble_eq_true rfl)) dL_law_692 ⟨by show cells + 6 + 60 ≤ 677820; omega, by show slots + 3024 + 360 ≤ 7068237; omega⟩) hS (fun v_2 τ_2 H locs hq_2 hR hS => ?_)
  refine W.widen (k := cells + 66) (n := slots + 3384) (by omega) (by omega) ?_
  obtain ⟨rfl, hC9, hF9⟩ := hq_2
  have hCx := hCx.oth hF9 (by omega)
  have hCz : CI G τ_2.2 z (putS (zs_2 a9 b9) [108, 49, 59, 83, 48, 58, nI (48 + b9), 42, nI (48 + a9), 61, 48, 59, 115, 48, 58, nI (48 + (b9 + 2) % 6), 42, 52, 61, 49, 50, 59, 115, 48, 58, nI (48 + b9), 42, 49, 61, 48, 51, 59, 99, 50, 61, 48, 49, 59, 99, 48, 61]) := hC9
  refine W.eq (g2 := F0 mI 695 ls []) rfl ?_
  refine lv_aload hx hb dL_law_695 (lv_at hl 0 rfl) ?_
  refine fx_call (vx_runV (As := []) (rest := []) ⟨hx, hb, hml, hown, hts⟩ (k_commands G hL l hX0 τ_2 z (zs_3 a9 b9) hCz adr hFT hJ 6 (z_8.1) (z_8.2)) (cwV 0 hts gL_law_X10_commands rfl rfl rfl (by decide +kernel) ⟨Nat.le_of_ble_eq_true rfl, Nat.le_of_ble_eq_true rfl⟩) (fw_preV hW hK hR hCz.at0 rfl) rfl rfl hl.1 rfl (lv_room (Nat.le_of_ble_eq_true rfl)) dL_law_697 ⟨by show cells + 66 + 1 ≤ 677820; omega, by show slots + 3384 + 6 ≤ 7068237; omega⟩) hS (fun E ce q9 τ9 H locs hx_1 hR hS hce hcv hcl => hx_1.elim) (fun v_3 τ_3 H locs hq_3 hR hS => ?_)
  refine W.widen (k := cells + 67) (n := slots + 3390) (by omega) (by omega) ?_
  obtain ⟨rfl, hC9, hF9⟩ := hq_3
  have hCx := hCx.oth hF9 (by omega)
  have hCz : CI G τ_3.2 z (zs_4 a9 b9) := hC9
  refine W.eq (g2 := F0 mI 700 ls [.int 6]) rfl ?_
  refine lv_bipush (v := 6) hx hb dL_law_700 (by decide) ?_
  refine lv_icmp_ne (tgt := 885) hx hb dL_law_702 (by decide) (fun c => absurd rfl c) (fun c => ?_)
  refine lv_aload hx hb dL_law_705 (lv_at hl 0 rfl) ?_
  refine lv_iconst (v := 0) hx hb dL_law_707 (by decide) ?_
  refine lv_bipush (v := 6) hx hb dL_law_708 (by decide) ?_
  refine fx_call (vx_runV (As := [.int 0, .int 6]) (rest := []) ⟨hx, hb, hml, hown, hts⟩ (k_leafletOf G hL l hX0 τ_3 z (zs_4 a9 b9) hCz 0 6 (nI (2 * a9 + 5)) (z_9)) (cwV 2 hts gL_law_X10_leafletOf rfl rfl rfl (by decide +kernel) ⟨Nat.le_of_ble_eq_true rfl, Nat.le_of_ble_eq_true rfl⟩) (fw_preV hW hK hR hCz.at0 rfl) rfl rfl hl.1 rfl (lv_room (Nat.le_of_ble_eq_true rfl)) dL_law_710 ⟨by show cells + 67 + 2 ≤ 677820; omega, by show slots + 3390 + 12 ≤ 7068237; omega⟩) hS (fun E ce q9 τ9 H locs hx_1 hR hS hce hcv hcl => hx_1.elim) (fun v_4 τ_4 H locs hq_4 hR hS => ?_)
  refine W.widen (k := cells + 69) (n := slots + 3402) (by omega) (by omega) ?_
  obtain ⟨rfl, hC9, hF9⟩ := hq_4
  have hCx := hCx.oth hF9 (by omega)
  have hCz : CI G τ_4.2 z (zs_4 a9 b9) := hC9
  refine W.eq (g2 := F0 mI 713 ls [.int (nI (2 * a9 + 5))]) rfl ?_
  refine lv_iconst (v := 2) hx hb dL_law_713 (by decide) ?_
  refine lv_iload hx hb dL_law_714 (lv_at hl 4 rfl) ?_
  refine lv_imul hx hb dL_law_716 ?_
  refine lv_iconst (v := 5) hx hb dL_law_717 (by decide) ?_
  refine lv_iadd hx hb dL_law_718 ?_
  refine W.eq (g2 := F0 mI 719 ls [.int (nI (2 * a9 + 5)), .int (nI (2 * a9 + 5))]) (by rw [show (2 : Int32) * nI a9 + 5 = nI (2 * a9 + 5) from ez25 a9]) ?_
  refine lv_icmp_ne (tgt := 885) hx hb dL_law_719 (by decide) (fun c => absurd rfl c) (fun c => ?_)
  refine lv_aload hx hb dL_law_722 (lv_at hl 0 rfl) ?_
  refine lv_aload hx hb dL_law_724 (lv_at hl 0 rfl) ?_
  refine lv_iconst (v := 0) hx hb dL_law_726 (by decide) ?_
  refine fx_call (vx_runV (As := [.int 0]) (rest := [.ref z]) ⟨hx, hb, hml, hown, hts⟩ (k_line G hL l hX0 τ_4 z (zs_4 a9 b9) hCz 0 ((ob_line (zs_4 a9 b9) 0).1) (rfl) (z_10.1)) (cwV 1 hts gL_law_X10_line rfl rfl rfl (by decide +kernel) ⟨Nat.le_of_ble_eq_true rfl, Nat.le_of_ble_eq_true rfl⟩) (fw_preV hW hK hR hCz.at0 rfl) rfl rfl hl.1 rfl (lv_room (Nat.le_of_ble_eq_true rfl)) dL_law_727 ⟨by show cells + 69 + 1 ≤ 677820; omega, by show slots + 3402 + 6 ≤ 7068237; omega⟩) hS (fun E ce q9 τ9 H locs hx_1 hR hS hce hcv hcl => hx_1.elim) (fun v_5 τ_5 H locs hq_5 hR hS => ?_)
  refine W.widen (k := cells + 70) (n := slots + 3408) (by omega) (by omega) ?_
  obtain ⟨rfl, hC9, hF9⟩ := hq_5
  have hCx := hCx.oth hF9 (by omega)
  have hCz : CI G τ_5.2 z (zs_5 a9 b9) := hC9
  refine W.eq (g2 := F0 mI 730 ls [.int ((ob_line (zs_4 a9 b9) 0).1), .ref z]) rfl ?_
  obtain ⟨n9, hn9⟩ : ∃ z9 : Int32, z9 = (ob_line (zs_4 a9 b9) 0).1 := ⟨_, rfl⟩
  refine W.eq (g2 := F0 mI 730 ls [.int n9, .ref z]) (by rw [hn9]) ?_
  have lt_x := hCx.lt hR
  have lt_z := hCz.lt hR
  refine tb_l1 C (k9 := 4) rfl (by omega) (k10 := 3) rfl (by omega) (k12 := 1) rfl (hd12) (by omega) (by omega) hR hS hl (fun τ_6 r_6 H locs hr_6 hf_6 hT_6 hR hS => ?_)
  have hCx := hCx.fr (τ := τ_6.2) (fun q9 h1 h2 => hf_6 q9 (by omega))
  have hCz := hCz.fr (τ := τ_6.2) (fun q9 h1 h2 => hf_6 q9 (by omega))
  refine W.widen (k := cells + 74) (n := slots + 4432) (by omega) (by omega) ?_
  have hTx : TxR G τ_6.2 z r_6 [nI (48 + b9), 42, nI (48 + a9), 43, 32, nI (48 + (b9 + 2) % 6), 42, 52, 32, nI (48 + b9), 42, 49] := hT_6.tx (by omega) hr_6
  refine fw_call (va_runS (As := [.ref z, .int n9, .ref r_6]) (rest := []) ⟨hx, hb, hml, hown, hts⟩ (h_isLine G hL l hX0 hJ τ_6 z r_6 (zs_5 a9 b9) hCz [nI (48 + b9), 42, nI (48 + a9), 43, 32, nI (48 + (b9 + 2) % 6), 42, 52, 32, nI (48 + b9), 42, 49] hTx (asc_l1 ha1 ha4 hb6) (Nat.le_of_ble_eq_true rfl) n9 (by rw [hn9]; exact z_10.2)) (va_cwS 3 hts gL_law_L_isLine rfl rfl rfl (by decide +kernel) ⟨Nat.le_of_ble_eq_true rfl, Nat.le_of_ble_eq_true rfl⟩) (fw_preS hW hR) rfl rfl hl.1 rfl (lv_room (Nat.le_of_ble_eq_true rfl)) dL_law_780 ⟨by show cells + 74 + 60 ≤ 677820; omega, by show slots + 4432 + 360 ≤ 7068237; omega⟩) hS (fun v_7 τ_7 H locs hq_7 hR hS => ?_)
  refine W.widen (k := cells + 134) (n := slots + 4792) (by omega) (by omega) ?_
  obtain ⟨rfl, hC9, hF9⟩ := hq_7
  have hCx := hCx.oth hF9 (by omega)
  have hCz : CI G τ_7.2 z (zs_5 a9 b9) := hC9
  refine W.eq (g2 := F0 mI 783 ls [.int 1]) rfl ?_
  refine lv_if_eq (tgt := 885) hx hb dL_law_783 (by decide) (fun c => absurd c (by decide)) (fun c => ?_)
  refine lv_aload hx hb dL_law_786 (lv_at hl 0 rfl) ?_
  refine lv_iconst (v := 0) hx hb dL_law_788 (by decide) ?_
  refine lv_iconst (v := 0) hx hb dL_law_789 (by decide) ?_
  refine fx_call (vx_runV (As := [.int 0, .int 0]) (rest := []) ⟨hx, hb, hml, hown, hts⟩ (k_wouldSkip G hL l hX0 τ_7 z (zs_5 a9 b9) hCz 0 0 4 (z_11)) (cwV 2 hts gL_law_X10_wouldSkip rfl rfl rfl (by decide +kernel) ⟨Nat.le_of_ble_eq_true rfl, Nat.le_of_ble_eq_true rfl⟩) (fw_preV hW hK hR hCz.at0 rfl) rfl rfl hl.1 rfl (lv_room (Nat.le_of_ble_eq_true rfl)) dL_law_790 ⟨by show cells + 134 + 2 ≤ 677820; omega, by show slots + 4792 + 12 ≤ 7068237; omega⟩) hS (fun E ce q9 τ9 H locs hx_1 hR hS hce hcv hcl => hx_1.elim) (fun v_8 τ_8 H locs hq_8 hR hS => ?_)
  refine W.widen (k := cells + 136) (n := slots + 4804) (by omega) (by omega) ?_
  obtain ⟨rfl, hC9, hF9⟩ := hq_8
  have hCx := hCx.oth hF9 (by omega)
  have hCz : CI G τ_8.2 z (zs_5 a9 b9) := hC9
  refine W.eq (g2 := F0 mI 793 ls [.int 4]) rfl ?_
  refine lv_iconst (v := 4) hx hb dL_law_793 (by decide) ?_
  refine lv_icmp_ne (tgt := 885) hx hb dL_law_794 (by decide) (fun c => absurd rfl c) (fun c => ?_)
  refine lv_aload hx hb dL_law_797 (lv_at hl 0 rfl) ?_
  refine lv_iconst (v := 0) hx hb dL_law_799 (by decide) ?_
  refine lv_iconst (v := 0) hx hb dL_law_800 (by decide) ?_
  refine lv_iconst (v := 2) hx hb dL_law_801 (by decide) ?_
  refine fx_call (vx_runV (As := [.int 0, .int 0, .int 2]) (rest := []) ⟨hx, hb, hml, hown, hts⟩ (k_why G hL l hX0 τ_8 z (zs_5 a9 b9) hCz 0 0 2 3 (z_12)) (cwV 3 hts gL_law_X10_why rfl rfl rfl (by decide +kernel) ⟨Nat.le_of_ble_eq_true rfl, Nat.le_of_ble_eq_true rfl⟩) (fw_preV hW hK hR hCz.at0 rfl) rfl rfl hl.1 rfl (lv_room (Nat.le_of_ble_eq_true rfl)) dL_law_802 ⟨by show cells + 136 + 3 ≤ 677820; omega, by show slots + 4804 + 18 ≤ 7068237; omega⟩) hS (fun E ce q9 τ9 H locs hx_1 hR hS hce hcv hcl => hx_1.elim) (fun v_9 τ_9 H locs hq_9 hR hS => ?_)
  refine W.widen (k := cells + 139) (n := slots + 4822) (by omega) (by omega) ?_
  obtain ⟨rfl, hC9, hF9⟩ := hq_9
  have hCx := hCx.oth hF9 (by omega)
  have hCz : CI G τ_9.2 z (zs_5 a9 b9) := hC9
  refine W.eq (g2 := F0 mI 805 ls [.int 3]) rfl ?_
  refine lv_iconst (v := 3) hx hb dL_law_805 (by decide) ?_
  refine lv_icmp_ne (tgt := 885) hx hb dL_law_806 (by decide) (fun c => absurd rfl c) (fun c => ?_)
  refine lv_aload hx hb dL_law_809 (lv_at hl 0 rfl) ?_
  refine lv_iconst (v := 1) hx hb dL_law_811 (by decide) ?_
  refine lv_iconst (v := 0) hx hb dL_law_812 (by decide) ?_
  refine fx_call (vx_runV (As := [.int 1, .int 0]) (rest := []) ⟨hx, hb, hml, hown, hts⟩ (k_wouldSkip G hL l hX0 τ_9 z (zs_5 a9 b9) hCz 1 0 7 (z_13)) (cwV 2 hts gL_law_X10_wouldSkip rfl rfl rfl (by decide +kernel) ⟨Nat.le_of_ble_eq_true rfl, Nat.le_of_ble_eq_true rfl⟩) (fw_preV hW hK hR hCz.at0 rfl) rfl rfl hl.1 rfl (lv_room (Nat.le_of_ble_eq_true rfl)) dL_law_813 ⟨by show cells + 139 + 2 ≤ 677820; omega, by show slots + 4822 + 12 ≤ 7068237; omega⟩) hS (fun E ce q9 τ9 H locs hx_1 hR hS hce hcv hcl => hx_1.elim) (fun v_10 τ_10 H locs hq_10 hR hS => ?_)
  refine W.widen (k := cells + 141) (n := slots + 4834) (by omega) (by omega) ?_
  obtain ⟨rfl, hC9, hF9⟩ := hq_10
  have hCx := hCx.oth hF9 (by omega)
  have hCz : CI G τ_10.2 z (zs_5 a9 b9) := hC9
  refine W.eq (g2 := F0 mI 816 ls [.int 7]) rfl ?_
  refine lv_bipush (v := 7) hx hb dL_law_816 (by decide) ?_
  refine lv_icmp_ne (tgt := 885) hx hb dL_law_818 (by decide) (fun c => absurd rfl c) (fun c => ?_)
  refine lv_aload hx hb dL_law_821 (lv_at hl 0 rfl) ?_
  refine lv_iconst (v := 1) hx hb dL_law_823 (by decide) ?_
  refine lv_iconst (v := 0) hx hb dL_law_824 (by decide) ?_
  refine lv_iconst (v := 0) hx hb dL_law_825 (by decide) ?_
  refine fx_call (vx_runV (As := [.int 1, .int 0, .int 0]) (rest := []) ⟨hx, hb, hml, hown, hts⟩ (k_whyAgain G hL l hX0 τ_10 z (zs_5 a9 b9) hCz 1 0 0 2 (z_14)) (cwV 3 hts gL_law_X10_whyAgain rfl rfl rfl (by decide +kernel) ⟨Nat.le_of_ble_eq_true rfl, Nat.le_of_ble_eq_true rfl⟩) (fw_preV hW hK hR hCz.at0 rfl) rfl rfl hl.1 rfl (lv_room (Nat.le_of_ble_eq_true rfl)) dL_law_826 ⟨by show cells + 141 + 3 ≤ 677820; omega, by show slots + 4834 + 18 ≤ 7068237; omega⟩) hS (fun E ce q9 τ9 H locs hx_1 hR hS hce hcv hcl => hx_1.elim) (fun v_11 τ_11 H locs hq_11 hR hS => ?_)
  refine W.widen (k := cells + 144) (n := slots + 4852) (by omega) (by omega) ?_
  obtain ⟨rfl, hC9, hF9⟩ := hq_11
  have hCx := hCx.oth hF9 (by omega)
  have hCz : CI G τ_11.2 z (zs_5 a9 b9) := hC9
  refine W.eq (g2 := F0 mI 829 ls [.int 2]) rfl ?_
  refine lv_iconst (v := 2) hx hb dL_law_829 (by decide) ?_
  refine lv_icmp_ne (tgt := 885) hx hb dL_law_830 (by decide) (fun c => absurd rfl c) (fun c => ?_)
  refine lv_aload hx hb dL_law_833 (lv_at hl 0 rfl) ?_
  refine lv_iconst (v := 0) hx hb dL_law_835 (by decide) ?_
  refine fx_call (vx_runV (As := [.int 0]) (rest := []) ⟨hx, hb, hml, hown, hts⟩ (k_bestCousin G hL l hX0 τ_11 z (zs_5 a9 b9) hCz 0 0 (z_15)) (cwV 1 hts gL_law_X10_bestCousin rfl rfl rfl (by decide +kernel) ⟨Nat.le_of_ble_eq_true rfl, Nat.le_of_ble_eq_true rfl⟩) (fw_preV hW hK hR hCz.at0 rfl) rfl rfl hl.1 rfl (lv_room (Nat.le_of_ble_eq_true rfl)) dL_law_836 ⟨by show cells + 144 + 2 ≤ 677820; omega, by show slots + 4852 + 12 ≤ 7068237; omega⟩) hS (fun E ce q9 τ9 H locs hx_1 hR hS hce hcv hcl => hx_1.elim) (fun v_12 τ_12 H locs hq_12 hR hS => ?_)
  refine W.widen (k := cells + 146) (n := slots + 4864) (by omega) (by omega) ?_
  obtain ⟨rfl, hC9, hF9⟩ := hq_12
  have hCx := hCx.oth hF9 (by omega)
  have hCz : CI G τ_12.2 z (zs_5 a9 b9) := hC9
  refine W.eq (g2 := F0 mI 839 ls [.int 0]) rfl ?_
  refine lv_if_ne (tgt := 885) hx hb dL_law_839 (by decide) (fun c => absurd rfl c) (fun c => ?_)
  refine lv_aload hx hb dL_law_842 (lv_at hl 0 rfl) ?_
  refine lv_iconst (v := 1) hx hb dL_law_844 (by decide) ?_
  refine lv_iconst (v := 0) hx hb dL_law_845 (by decide) ?_
  refine lv_iload hx hb dL_law_846 (lv_at hl 3 rfl) ?_
  refine fx_call (vx_runV (As := [.int 1, .int 0, .int (nI b9)]) (rest := []) ⟨hx, hb, hml, hown, hts⟩ (k_wouldLeave G hL l hX0 τ_12 z (zs_5 a9 b9) hCz 1 0 (nI b9) (nI (a9 + 1)) (z_16)) (cwV 3 hts gL_law_X10_wouldLeave rfl rfl rfl (by decide +kernel) ⟨Nat.le_of_ble_eq_true rfl, Nat.le_of_ble_eq_true rfl⟩) (fw_preV hW hK hR hCz.at0 rfl) rfl rfl hl.1 rfl (lv_room (Nat.le_of_ble_eq_true rfl)) dL_law_848 ⟨by show cells + 146 + 3 ≤ 677820; omega, by show slots + 4864 + 18 ≤ 7068237; omega⟩) hS (fun E ce q9 τ9 H locs hx_1 hR hS hce hcv hcl => hx_1.elim) (fun v_13 τ_13 H locs hq_13 hR hS => ?_)
  refine W.widen (k := cells + 149) (n := slots + 4882) (by omega) (by omega) ?_
  obtain ⟨rfl, hC9, hF9⟩ := hq_13
  have hCx := hCx.oth hF9 (by omega)
  have hCz : CI G τ_13.2 z (zs_5 a9 b9) := hC9
  refine W.eq (g2 := F0 mI 851 ls [.int (nI (a9 + 1))]) rfl ?_
  refine lv_iload hx hb dL_law_851 (lv_at hl 4 rfl) ?_
  refine lv_iconst (v := 1) hx hb dL_law_853 (by decide) ?_
  refine lv_iadd hx hb dL_law_854 ?_
  refine W.eq (g2 := F0 mI 855 ls [.int (nI (a9 + 1)), .int (nI (a9 + 1))]) (by rw [show nI a9 + 1 = nI (a9 + 1) from nI_1 a9]) ?_
  refine lv_icmp_ne (tgt := 885) hx hb dL_law_855 (by decide) (fun c => absurd rfl c) (fun c => ?_)
  refine lv_aload hx hb dL_law_858 (lv_at hl 0 rfl) ?_
  refine lv_iconst (v := 1) hx hb dL_law_860 (by decide) ?_
  refine lv_iconst (v := 0) hx hb dL_law_861 (by decide) ?_
  refine lv_iload hx hb dL_law_862 (lv_at hl 2 rfl) ?_
  refine fx_call (vx_runV (As := [.int 1, .int 0, .int (nI ((b9 + 1) % 6))]) (rest := []) ⟨hx, hb, hml, hown, hts⟩ (k_wouldLeave G hL l hX0 τ_13 z (zs_5 a9 b9) hCz 1 0 (nI ((b9 + 1) % 6)) (nI a9) (z_17)) (cwV 3 hts gL_law_X10_wouldLeave rfl rfl rfl (by decide +kernel) ⟨Nat.le_of_ble_eq_true rfl, Nat.le_of_ble_eq_true rfl⟩) (fw_preV hW hK hR hCz.at0 rfl) rfl rfl hl.1 rfl (lv_room (Nat.le_of_ble_eq_true rfl)) dL_law_864 ⟨by show cells + 149 + 3 ≤ 677820; omega, by show slots + 4882 + 18 ≤ 7068237; omega⟩) hS (fun E ce q9 τ9 H locs hx_1 hR hS hce hcv hcl => hx_1.elim) (fun v_14 τ_14 H locs hq_14 hR hS => ?_)
  refine W.widen (k := cells + 152) (n := slots + 4900) (by omega) (by omega) ?_
  obtain ⟨rfl, hC9, hF9⟩ := hq_14
  have hCx := hCx.oth hF9 (by omega)
  have hCz : CI G τ_14.2 z (zs_5 a9 b9) := hC9
  refine W.eq (g2 := F0 mI 867 ls [.int (nI a9)]) rfl ?_
  refine lv_iload hx hb dL_law_867 (lv_at hl 4 rfl) ?_
  refine lv_icmp_ne (tgt := 885) hx hb dL_law_869 (by decide) (fun c => absurd rfl c) (fun c => ?_)
  refine lv_aload hx hb dL_law_872 (lv_at hl 0 rfl) ?_
  refine lv_iconst (v := 1) hx hb dL_law_874 (by decide) ?_
  refine lv_iconst (v := 0) hx hb dL_law_875 (by decide) ?_
  refine lv_iload hx hb dL_law_876 (lv_at hl 1 rfl) ?_
  refine fx_call (vx_runV (As := [.int 1, .int 0, .int (nI ((b9 + 2) % 6))]) (rest := []) ⟨hx, hb, hml, hown, hts⟩ (k_wouldLeave G hL l hX0 τ_14 z (zs_5 a9 b9) hCz 1 0 (nI ((b9 + 2) % 6)) 4 (z_18)) (cwV 3 hts gL_law_X10_wouldLeave rfl rfl rfl (by decide +kernel) ⟨Nat.le_of_ble_eq_true rfl, Nat.le_of_ble_eq_true rfl⟩) (fw_preV hW hK hR hCz.at0 rfl) rfl rfl hl.1 rfl (lv_room (Nat.le_of_ble_eq_true rfl)) dL_law_878 ⟨by show cells + 152 + 3 ≤ 677820; omega, by show slots + 4900 + 18 ≤ 7068237; omega⟩) hS (fun E ce q9 τ9 H locs hx_1 hR hS hce hcv hcl => hx_1.elim) (fun v_15 τ_15 H locs hq_15 hR hS => ?_)
  refine W.widen (k := cells + 155) (n := slots + 4918) (by omega) (by omega) ?_
  obtain ⟨rfl, hC9, hF9⟩ := hq_15
  have hCx := hCx.oth hF9 (by omega)
  have hCz : CI G τ_15.2 z (zs_5 a9 b9) := hC9
  refine W.eq (g2 := F0 mI 881 ls [.int 4]) rfl ?_
  refine lv_iconst (v := 4) hx hb dL_law_881 (by decide) ?_
  refine lv_icmp_eq (tgt := 887) hx hb dL_law_882 (by decide) (fun c => ?_) (fun c => absurd rfl c)
  exact kk τ_15 H locs ls hCx hCz hR hS hl
set_option maxHeartbeats 8000000 in
set_option maxRecDepth 100000 in
theorem sg_G2 {G : FG} {l : Launch} {pP : Program} {eE : Env} {sS : State} {mI : MethodId} {ar9 : Array Value} {bl9 : List Frame} {meth : Method} {cD : Code} {Q : State → Prop} {adr lad : Nat → Nat} {b L dd : Nat} {xs : Nat → Int32} (C : LWx G l pP sS mI ar9 cD adr b L xs dd lad) {x z n a9 b9 : Nat} {S : StZ} {nw : Int32} {τ : FWd} {cells slots : Nat} {H : Heap} {locs : List Loc} {ls : Array Slot} (hc : cells ≤ 500000) (hs : slots ≤ 6000000) (hxz : x + 614 ≤ z) (ha1 : 1 ≤ a9) (ha4 : a9 ≤ 4) (hb6 : b9 < 6) (hz : zchk a9 b9 = true) (hCx : CI G τ.2 x S) (hCz : CI G τ.2 z (zs_5 a9 b9)) (hR : fR G τ H) (hS : va_S (fwA G) sS.heap H locs) (hl : lv_has ls 14 [(13, .ref z), (12, .int (nI ((b9 + 2) % 6))), (11, .int (nI ((b9 + 1) % 6))), (10, .int (nI b9)), (9, .int (nI a9)), (4, .int nw), (3, .int (nI n)), (1, .ref x), (0, .ref b)])
    (kk : ∀ (τ : FWd) (H : Heap) (locs : List Loc) (ls : Array Slot), CI G τ.2 x S → CI G τ.2 z (zs_11 a9 b9) → fR G τ H → va_S (fwA G) sS.heap H locs → lv_has ls 14 [(13, .ref z), (12, .int (nI ((b9 + 2) % 6))), (11, .int (nI ((b9 + 1) % 6))), (10, .int (nI b9)), (9, .int (nI a9)), (4, .int nw), (3, .int (nI n)), (1, .ref x), (0, .ref b)] → W pP l eE room_1 sS mI ar9 bl9 meth cD H locs (cells + 149) (slots + 2894) Q (F0 mI 1149 ls [])) : W pP l eE room_1 sS mI ar9 bl9 meth cD H locs cells slots Q (F0 mI 887 ls []) := by
  obtain ⟨hx, hb, hml, hown, hts, hW, hL, hX0, hN, hFT, hJ, hD, hLT, hX, hbl, hbA, hL9⟩ := id C
  have hK := hL.K hW
  obtain ⟨-, -, -, -, -, -, -, -, -, -, -, -, -, -, -, -, -, -, -, z_19, z_20, z_21, z_22, z_23, z_24, z_25, z_26, z_27, z_28, z_29, z_30, z_31, z_32, -, -, -, -, -, -, -, -, -, -, -, -, -, -, -, -, -, -, -, -, -, -, -, -, -, -, -, -, -, -, -, -, -, -, -, -⟩ := zfacts hz
  have hd12 : (b9 + 2) % 6 < 10 := Nat.lt_of_lt_of_le (Nat.mod_lt _ (by decide)) (by decide)
  refine lv_aload hx hb dL_law_887 (lv_at hl 0 rfl) ?_
  refine lv_iconst (v := 0) hx hb dL_law_889 (by decide) ?_
  refine lv_iconst (v := 0) hx hb dL_law_890 (by decide) ?_
  refine fx_call (vx_runV (As := [.int 0, .int 0]) (rest := []) ⟨hx, hb, hml, hown, hts⟩ (k_bestFolds G hL l hX0 τ z (zs_5 a9 b9) hCz 0 0 1 (z_19)) (cwV 2 hts gL_law_X10_bestFolds rfl rfl rfl (by decide +kernel) ⟨Nat.le_of_ble_eq_true rfl, Nat.le_of_ble_eq_true rfl⟩) (fw_preV hW hK hR hCz.at0 rfl) rfl rfl hl.1 rfl (lv_room (Nat.le_of_ble_eq_true rfl)) dL_law_891 ⟨by show cells + 2 ≤ 677820; omega, by show slots + 12 ≤ 7068237; omega⟩) hS (fun E ce q9 τ9 H locs hx_1 hR hS hce hcv hcl => hx_1.elim) (fun v_1 τ_1 H locs hq_1 hR hS => ?_)
  refine W.widen (k := cells + 2) (n := slots + 12) (by omega) (by omega) ?_
  obtain ⟨rfl, hC9, hF9⟩ := hq_1
  have hCx := hCx.oth hF9 (by omega)
  have hCz : CI G τ_1.2 z (zs_5 a9 b9) := hC9
  refine W.eq (g2 := F0 mI 894 ls [.int 1]) rfl ?_
  refine lv_iconst (v := 1) hx hb dL_law_894 (by decide) ?_
  refine lv_icmp_ne (tgt := 1147) hx hb dL_law_895 (by decide) (fun c => absurd rfl c) (fun c => ?_)
  refine lv_aload hx hb dL_law_898 (lv_at hl 0 rfl) ?_
  refine lv_iconst (v := 1) hx hb dL_law_900 (by decide) ?_
  refine lv_iconst (v := 0) hx hb dL_law_901 (by decide) ?_
  refine fx_call (vx_runV (As := [.int 1, .int 0]) (rest := []) ⟨hx, hb, hml, hown, hts⟩ (k_bestFolds G hL l hX0 τ_1 z (zs_5 a9 b9) hCz 1 0 3 (z_20)) (cwV 2 hts gL_law_X10_bestFolds rfl rfl rfl (by decide +kernel) ⟨Nat.le_of_ble_eq_true rfl, Nat.le_of_ble_eq_true rfl⟩) (fw_preV hW hK hR hCz.at0 rfl) rfl rfl hl.1 rfl (lv_room (Nat.le_of_ble_eq_true rfl)) dL_law_902 ⟨by show cells + 2 + 2 ≤ 677820; omega, by show slots + 12 + 12 ≤ 7068237; omega⟩) hS (fun E ce q9 τ9 H locs hx_1 hR hS hce hcv hcl => hx_1.elim) (fun v_2 τ_2 H locs hq_2 hR hS => ?_)
  refine W.widen (k := cells + 4) (n := slots + 24) (by omega) (by omega) ?_
  obtain ⟨rfl, hC9, hF9⟩ := hq_2
  have hCx := hCx.oth hF9 (by omega)
  have hCz : CI G τ_2.2 z (zs_5 a9 b9) := hC9
  refine W.eq (g2 := F0 mI 905 ls [.int 3]) rfl ?_
  refine lv_iconst (v := 3) hx hb dL_law_905 (by decide) ?_
  refine lv_icmp_ne (tgt := 1147) hx hb dL_law_906 (by decide) (fun c => absurd rfl c) (fun c => ?_)
  refine lv_aload hx hb dL_law_909 (lv_at hl 0 rfl) ?_
  refine lv_iconst (v := 0) hx hb dL_law_911 (by decide) ?_
  refine fx_call (vx_runV (As := [.int 0]) (rest := []) ⟨hx, hb, hml, hown, hts⟩ (k_fold G hL l hX0 τ_2 z (zs_5 a9 b9) hCz 0 2 (z_21.1) (z_21.2)) (cwV 1 hts gL_law_X10_fold rfl rfl rfl (by decide +kernel) ⟨Nat.le_of_ble_eq_true rfl, Nat.le_of_ble_eq_true rfl⟩) (fw_preV hW hK hR hCz.at0 rfl) rfl rfl hl.1 rfl (lv_room (Nat.le_of_ble_eq_true rfl)) dL_law_912 ⟨by show cells + 4 + 1 ≤ 677820; omega, by show slots + 24 + 6 ≤ 7068237; omega⟩) hS (fun E ce q9 τ9 H locs hx_1 hR hS hce hcv hcl => hx_1.elim) (fun v_3 τ_3 H locs hq_3 hR hS => ?_)
  refine W.widen (k := cells + 5) (n := slots + 30) (by omega) (by omega) ?_
  obtain ⟨rfl, hC9, hF9⟩ := hq_3
  have hCx := hCx.oth hF9 (by omega)
  have hCz : CI G τ_3.2 z (zs_6 a9 b9) := hC9
  refine W.eq (g2 := F0 mI 915 ls [.int 2]) rfl ?_
  refine lv_iconst (v := 2) hx hb dL_law_915 (by decide) ?_
  refine lv_icmp_ne (tgt := 1147) hx hb dL_law_916 (by decide) (fun c => absurd rfl c) (fun c => ?_)
  refine lv_aload hx hb dL_law_919 (lv_at hl 0 rfl) ?_
  refine lv_iconst (v := 0) hx hb dL_law_921 (by decide) ?_
  refine lv_iconst (v := 0) hx hb dL_law_922 (by decide) ?_
  refine lv_iconst (v := 2) hx hb dL_law_923 (by decide) ?_
  refine fx_call (vx_runV (As := [.int 0, .int 0, .int 2]) (rest := []) ⟨hx, hb, hml, hown, hts⟩ (k_why G hL l hX0 τ_3 z (zs_6 a9 b9) hCz 0 0 2 1 (z_22)) (cwV 3 hts gL_law_X10_why rfl rfl rfl (by decide +kernel) ⟨Nat.le_of_ble_eq_true rfl, Nat.le_of_ble_eq_true rfl⟩) (fw_preV hW hK hR hCz.at0 rfl) rfl rfl hl.1 rfl (lv_room (Nat.le_of_ble_eq_true rfl)) dL_law_924 ⟨by show cells + 5 + 3 ≤ 677820; omega, by show slots + 30 + 18 ≤ 7068237; omega⟩) hS (fun E ce q9 τ9 H locs hx_1 hR hS hce hcv hcl => hx_1.elim) (fun v_4 τ_4 H locs hq_4 hR hS => ?_)
  refine W.widen (k := cells + 8) (n := slots + 48) (by omega) (by omega) ?_
  obtain ⟨rfl, hC9, hF9⟩ := hq_4
  have hCx := hCx.oth hF9 (by omega)
  have hCz : CI G τ_4.2 z (zs_6 a9 b9) := hC9
  refine W.eq (g2 := F0 mI 927 ls [.int 1]) rfl ?_
  refine lv_iconst (v := 1) hx hb dL_law_927 (by decide) ?_
  refine lv_icmp_ne (tgt := 1147) hx hb dL_law_928 (by decide) (fun c => absurd rfl c) (fun c => ?_)
  refine lv_aload hx hb dL_law_931 (lv_at hl 0 rfl) ?_
  refine lv_iconst (v := 0) hx hb dL_law_933 (by decide) ?_
  refine lv_iconst (v := 0) hx hb dL_law_934 (by decide) ?_
  refine fx_call (vx_runV (As := [.int 0, .int 0]) (rest := []) ⟨hx, hb, hml, hown, hts⟩ (k_wouldSkip G hL l hX0 τ_4 z (zs_6 a9 b9) hCz 0 0 4 (z_23)) (cwV 2 hts gL_law_X10_wouldSkip rfl rfl rfl (by decide +kernel) ⟨Nat.le_of_ble_eq_true rfl, Nat.le_of_ble_eq_true rfl⟩) (fw_preV hW hK hR hCz.at0 rfl) rfl rfl hl.1 rfl (lv_room (Nat.le_of_ble_eq_true rfl)) dL_law_935 ⟨by show cells + 8 + 2 ≤ 677820; omega, by show slots + 48 + 12 ≤ 7068237; omega⟩) hS (fun E ce q9 τ9 H locs hx_1 hR hS hce hcv hcl => hx_1.elim) (fun v_5 τ_5 H locs hq_5 hR hS => ?_)
  refine W.widen (k := cells + 10) (n := slots + 60) (by omega) (by omega) ?_
  obtain ⟨rfl, hC9, hF9⟩ := hq_5
  have hCx := hCx.oth hF9 (by omega)
  have hCz : CI G τ_5.2 z (zs_6 a9 b9) := hC9
  refine W.eq (g2 := F0 mI 938 ls [.int 4]) rfl ?_
  refine lv_iconst (v := 4) hx hb dL_law_938 (by decide) ?_
  refine lv_icmp_ne (tgt := 1147) hx hb dL_law_939 (by decide) (fun c => absurd rfl c) (fun c => ?_)
  refine lv_aload hx hb dL_law_942 (lv_at hl 0 rfl) ?_
  refine lv_iconst (v := 0) hx hb dL_law_944 (by decide) ?_
  refine fx_call (vx_runV (As := [.int 0]) (rest := []) ⟨hx, hb, hml, hown, hts⟩ (k_fold G hL l hX0 τ_5 z (zs_6 a9 b9) hCz 0 1 (z_24.1) (z_24.2)) (cwV 1 hts gL_law_X10_fold rfl rfl rfl (by decide +kernel) ⟨Nat.le_of_ble_eq_true rfl, Nat.le_of_ble_eq_true rfl⟩) (fw_preV hW hK hR hCz.at0 rfl) rfl rfl hl.1 rfl (lv_room (Nat.le_of_ble_eq_true rfl)) dL_law_945 ⟨by show cells + 10 + 1 ≤ 677820; omega, by show slots + 60 + 6 ≤ 7068237; omega⟩) hS (fun E ce q9 τ9 H locs hx_1 hR hS hce hcv hcl => hx_1.elim) (fun v_6 τ_6 H locs hq_6 hR hS => ?_)
  refine W.widen (k := cells + 11) (n := slots + 66) (by omega) (by omega) ?_
  obtain ⟨rfl, hC9, hF9⟩ := hq_6
  have hCx := hCx.oth hF9 (by omega)
  have hCz : CI G τ_6.2 z (zs_7 a9 b9) := hC9
  refine W.eq (g2 := F0 mI 948 ls [.int 1]) rfl ?_
  refine lv_iconst (v := 1) hx hb dL_law_948 (by decide) ?_
  refine lv_icmp_ne (tgt := 1147) hx hb dL_law_949 (by decide) (fun c => absurd rfl c) (fun c => ?_)
  refine lv_aload hx hb dL_law_952 (lv_at hl 0 rfl) ?_
  refine lv_iconst (v := 0) hx hb dL_law_954 (by decide) ?_
  refine lv_iconst (v := 0) hx hb dL_law_955 (by decide) ?_
  refine fx_call (vx_runV (As := [.int 0, .int 0]) (rest := []) ⟨hx, hb, hml, hown, hts⟩ (k_wouldSkip G hL l hX0 τ_6 z (zs_7 a9 b9) hCz 0 0 6 (z_25)) (cwV 2 hts gL_law_X10_wouldSkip rfl rfl rfl (by decide +kernel) ⟨Nat.le_of_ble_eq_true rfl, Nat.le_of_ble_eq_true rfl⟩) (fw_preV hW hK hR hCz.at0 rfl) rfl rfl hl.1 rfl (lv_room (Nat.le_of_ble_eq_true rfl)) dL_law_956 ⟨by show cells + 11 + 2 ≤ 677820; omega, by show slots + 66 + 12 ≤ 7068237; omega⟩) hS (fun E ce q9 τ9 H locs hx_1 hR hS hce hcv hcl => hx_1.elim) (fun v_7 τ_7 H locs hq_7 hR hS => ?_)
  refine W.widen (k := cells + 13) (n := slots + 78) (by omega) (by omega) ?_
  obtain ⟨rfl, hC9, hF9⟩ := hq_7
  have hCx := hCx.oth hF9 (by omega)
  have hCz : CI G τ_7.2 z (zs_7 a9 b9) := hC9
  refine W.eq (g2 := F0 mI 959 ls [.int 6]) rfl ?_
  refine lv_bipush (v := 6) hx hb dL_law_959 (by decide) ?_
  refine lv_icmp_ne (tgt := 1147) hx hb dL_law_961 (by decide) (fun c => absurd rfl c) (fun c => ?_)
  refine lv_aload hx hb dL_law_964 (lv_at hl 0 rfl) ?_
  refine lv_aload hx hb dL_law_966 (lv_at hl 0 rfl) ?_
  refine lv_iconst (v := 0) hx hb dL_law_968 (by decide) ?_
  refine fx_call (vx_runV (As := [.int 0]) (rest := [.ref z]) ⟨hx, hb, hml, hown, hts⟩ (k_line G hL l hX0 τ_7 z (zs_7 a9 b9) hCz 0 ((ob_line (zs_7 a9 b9) 0).1) (rfl) (z_26.1)) (cwV 1 hts gL_law_X10_line rfl rfl rfl (by decide +kernel) ⟨Nat.le_of_ble_eq_true rfl, Nat.le_of_ble_eq_true rfl⟩) (fw_preV hW hK hR hCz.at0 rfl) rfl rfl hl.1 rfl (lv_room (Nat.le_of_ble_eq_true rfl)) dL_law_969 ⟨by show cells + 13 + 1 ≤ 677820; omega, by show slots + 78 + 6 ≤ 7068237; omega⟩) hS (fun E ce q9 τ9 H locs hx_1 hR hS hce hcv hcl => hx_1.elim) (fun v_8 τ_8 H locs hq_8 hR hS => ?_)
  refine W.widen (k := cells + 14) (n := slots + 84) (by omega) (by omega) ?_
  obtain ⟨rfl, hC9, hF9⟩ := hq_8
  have hCx := hCx.oth hF9 (by omega)
  have hCz : CI G τ_8.2 z (zs_8 a9 b9) := hC9
  refine W.eq (g2 := F0 mI 972 ls [.int ((ob_line (zs_7 a9 b9) 0).1), .ref z]) rfl ?_
  obtain ⟨n9, hn9⟩ : ∃ z9 : Int32, z9 = (ob_line (zs_7 a9 b9) 0).1 := ⟨_, rfl⟩
  refine W.eq (g2 := F0 mI 972 ls [.int n9, .ref z]) (by rw [hn9]) ?_
  have lt_x := hCx.lt hR
  have lt_z := hCz.lt hR
  refine tb_l2 C (k9 := 4) rfl (by omega) (k10 := 3) rfl (by omega) (k12 := 1) rfl (hd12) (by omega) (by omega) hR hS hl (fun τ_9 r_9 H locs hr_9 hf_9 hT_9 hR hS => ?_)
  have hCx := hCx.fr (τ := τ_9.2) (fun q9 h1 h2 => hf_9 q9 (by omega))
  have hCz := hCz.fr (τ := τ_9.2) (fun q9 h1 h2 => hf_9 q9 (by omega))
  refine W.widen (k := cells + 18) (n := slots + 1108) (by omega) (by omega) ?_
  have hTx : TxR G τ_9.2 z r_9 [nI (48 + b9), 42, nI (48 + a9), 43, 47, 32, nI (48 + (b9 + 2) % 6), 42, 52, 32, nI (48 + b9), 42, 49] := hT_9.tx (by omega) hr_9
  refine fw_call (va_runS (As := [.ref z, .int n9, .ref r_9]) (rest := []) ⟨hx, hb, hml, hown, hts⟩ (h_isLine G hL l hX0 hJ τ_9 z r_9 (zs_8 a9 b9) hCz [nI (48 + b9), 42, nI (48 + a9), 43, 47, 32, nI (48 + (b9 + 2) % 6), 42, 52, 32, nI (48 + b9), 42, 49] hTx (asc_l2 ha1 ha4 hb6) (Nat.le_of_ble_eq_true rfl) n9 (by rw [hn9]; exact z_26.2)) (va_cwS 3 hts gL_law_L_isLine rfl rfl rfl (by decide +kernel) ⟨Nat.le_of_ble_eq_true rfl, Nat.le_of_ble_eq_true rfl⟩) (fw_preS hW hR) rfl rfl hl.1 rfl (lv_room (Nat.le_of_ble_eq_true rfl)) dL_law_1022 ⟨by show cells + 18 + 60 ≤ 677820; omega, by show slots + 1108 + 360 ≤ 7068237; omega⟩) hS (fun v_10 τ_10 H locs hq_10 hR hS => ?_)
  refine W.widen (k := cells + 78) (n := slots + 1468) (by omega) (by omega) ?_
  obtain ⟨rfl, hC9, hF9⟩ := hq_10
  have hCx := hCx.oth hF9 (by omega)
  have hCz : CI G τ_10.2 z (zs_8 a9 b9) := hC9
  refine W.eq (g2 := F0 mI 1025 ls [.int 1]) rfl ?_
  refine lv_if_eq (tgt := 1147) hx hb dL_law_1025 (by decide) (fun c => absurd c (by decide)) (fun c => ?_)
  refine lv_aload hx hb dL_law_1028 (lv_at hl 0 rfl) ?_
  refine lv_iconst (v := 0) hx hb dL_law_1030 (by decide) ?_
  refine fx_call (vx_runV (As := [.int 0]) (rest := []) ⟨hx, hb, hml, hown, hts⟩ (k_unfold G hL l hX0 τ_10 z (zs_8 a9 b9) hCz 0 2 (z_27.1) (z_27.2)) (cwV 1 hts gL_law_X10_unfold rfl rfl rfl (by decide +kernel) ⟨Nat.le_of_ble_eq_true rfl, Nat.le_of_ble_eq_true rfl⟩) (fw_preV hW hK hR hCz.at0 rfl) rfl rfl hl.1 rfl (lv_room (Nat.le_of_ble_eq_true rfl)) dL_law_1031 ⟨by show cells + 78 + 1 ≤ 677820; omega, by show slots + 1468 + 6 ≤ 7068237; omega⟩) hS (fun E ce q9 τ9 H locs hx_1 hR hS hce hcv hcl => hx_1.elim) (fun v_11 τ_11 H locs hq_11 hR hS => ?_)
  refine W.widen (k := cells + 79) (n := slots + 1474) (by omega) (by omega) ?_
  obtain ⟨rfl, hC9, hF9⟩ := hq_11
  have hCx := hCx.oth hF9 (by omega)
  have hCz : CI G τ_11.2 z (zs_9 a9 b9) := hC9
  refine W.eq (g2 := F0 mI 1034 ls [.int 2]) rfl ?_
  refine lv_iconst (v := 2) hx hb dL_law_1034 (by decide) ?_
  refine lv_icmp_ne (tgt := 1147) hx hb dL_law_1035 (by decide) (fun c => absurd rfl c) (fun c => ?_)
  refine lv_aload hx hb dL_law_1038 (lv_at hl 0 rfl) ?_
  refine lv_iconst (v := 0) hx hb dL_law_1040 (by decide) ?_
  refine lv_iconst (v := 0) hx hb dL_law_1041 (by decide) ?_
  refine fx_call (vx_runV (As := [.int 0, .int 0]) (rest := []) ⟨hx, hb, hml, hown, hts⟩ (k_build G hL l hX0 τ_11 z (zs_9 a9 b9) hCz 0 0 2 (z_28.1) (z_28.2)) (cwV 2 hts gL_law_X10_build rfl rfl rfl (by decide +kernel) ⟨Nat.le_of_ble_eq_true rfl, Nat.le_of_ble_eq_true rfl⟩) (fw_preV hW hK hR hCz.at0 rfl) rfl rfl hl.1 rfl (lv_room (Nat.le_of_ble_eq_true rfl)) dL_law_1042 ⟨by show cells + 79 + 1 ≤ 677820; omega, by show slots + 1474 + 6 ≤ 7068237; omega⟩) hS (fun E ce q9 τ9 H locs hx_1 hR hS hce hcv hcl => hx_1.elim) (fun v_12 τ_12 H locs hq_12 hR hS => ?_)
  refine W.widen (k := cells + 80) (n := slots + 1480) (by omega) (by omega) ?_
  obtain ⟨rfl, hC9, hF9⟩ := hq_12
  have hCx := hCx.oth hF9 (by omega)
  have hCz : CI G τ_12.2 z (zs_10 a9 b9) := hC9
  refine W.eq (g2 := F0 mI 1045 ls [.int 2]) rfl ?_
  refine lv_iconst (v := 2) hx hb dL_law_1045 (by decide) ?_
  refine lv_icmp_ne (tgt := 1147) hx hb dL_law_1046 (by decide) (fun c => absurd rfl c) (fun c => ?_)
  refine lv_aload hx hb dL_law_1049 (lv_at hl 0 rfl) ?_
  refine lv_iload hx hb dL_law_1051 (lv_at hl 3 rfl) ?_
  refine fx_call (vx_runV (As := [.int (nI b9)]) (rest := []) ⟨hx, hb, hml, hown, hts⟩ (k_tin G hL l hX0 τ_12 z (zs_10 a9 b9) hCz (nI b9) 1 (z_29)) (cwV 1 hts gL_law_X10_tin rfl rfl rfl (by decide +kernel) ⟨Nat.le_of_ble_eq_true rfl, Nat.le_of_ble_eq_true rfl⟩) (fw_preV hW hK hR hCz.at0 rfl) rfl rfl hl.1 rfl (lv_room (Nat.le_of_ble_eq_true rfl)) dL_law_1053 ⟨by show cells + 80 + 1 ≤ 677820; omega, by show slots + 1480 + 6 ≤ 7068237; omega⟩) hS (fun E ce q9 τ9 H locs hx_1 hR hS hce hcv hcl => hx_1.elim) (fun v_13 τ_13 H locs hq_13 hR hS => ?_)
  refine W.widen (k := cells + 81) (n := slots + 1486) (by omega) (by omega) ?_
  obtain ⟨rfl, hC9, hF9⟩ := hq_13
  have hCx := hCx.oth hF9 (by omega)
  have hCz : CI G τ_13.2 z (zs_10 a9 b9) := hC9
  refine W.eq (g2 := F0 mI 1056 ls [.int 1]) rfl ?_
  refine lv_iconst (v := 1) hx hb dL_law_1056 (by decide) ?_
  refine lv_icmp_ne (tgt := 1147) hx hb dL_law_1057 (by decide) (fun c => absurd rfl c) (fun c => ?_)
  refine lv_aload hx hb dL_law_1060 (lv_at hl 0 rfl) ?_
  refine lv_iconst (v := 0) hx hb dL_law_1062 (by decide) ?_
  refine lv_bipush (v := 7) hx hb dL_law_1063 (by decide) ?_
  refine fx_call (vx_runV (As := [.int 0, .int 7]) (rest := []) ⟨hx, hb, hml, hown, hts⟩ (k_leafletOf G hL l hX0 τ_13 z (zs_10 a9 b9) hCz 0 7 1 (z_30)) (cwV 2 hts gL_law_X10_leafletOf rfl rfl rfl (by decide +kernel) ⟨Nat.le_of_ble_eq_true rfl, Nat.le_of_ble_eq_true rfl⟩) (fw_preV hW hK hR hCz.at0 rfl) rfl rfl hl.1 rfl (lv_room (Nat.le_of_ble_eq_true rfl)) dL_law_1065 ⟨by show cells + 81 + 2 ≤ 677820; omega, by show slots + 1486 + 12 ≤ 7068237; omega⟩) hS (fun E ce q9 τ9 H locs hx_1 hR hS hce hcv hcl => hx_1.elim) (fun v_14 τ_14 H locs hq_14 hR hS => ?_)
  refine W.widen (k := cells + 83) (n := slots + 1498) (by omega) (by omega) ?_
  obtain ⟨rfl, hC9, hF9⟩ := hq_14
  have hCx := hCx.oth hF9 (by omega)
  have hCz : CI G τ_14.2 z (zs_10 a9 b9) := hC9
  refine W.eq (g2 := F0 mI 1068 ls [.int 1]) rfl ?_
  refine lv_iconst (v := 1) hx hb dL_law_1068 (by decide) ?_
  refine lv_icmp_ne (tgt := 1147) hx hb dL_law_1069 (by decide) (fun c => absurd rfl c) (fun c => ?_)
  refine lv_aload hx hb dL_law_1072 (lv_at hl 0 rfl) ?_
  refine fx_call (vx_runV (As := []) (rest := []) ⟨hx, hb, hml, hown, hts⟩ (k_skippedShare G hL l hX0 τ_14 z (zs_10 a9 b9) hCz  1051372203 (z_31)) (cwV 0 hts gL_law_X10_skippedShare rfl rfl rfl (by decide +kernel) ⟨Nat.le_of_ble_eq_true rfl, Nat.le_of_ble_eq_true rfl⟩) (fw_preV hW hK hR hCz.at0 rfl) rfl rfl hl.1 rfl (lv_room (Nat.le_of_ble_eq_true rfl)) dL_law_1074 ⟨by show cells + 83 + 1 ≤ 677820; omega, by show slots + 1498 + 6 ≤ 7068237; omega⟩) hS (fun E ce q9 τ9 H locs hx_1 hR hS hce hcv hcl => hx_1.elim) (fun v_15 τ_15 H locs hq_15 hR hS => ?_)
  refine W.widen (k := cells + 84) (n := slots + 1504) (by omega) (by omega) ?_
  obtain ⟨rfl, hC9, hF9⟩ := hq_15
  have hCx := hCx.oth hF9 (by omega)
  have hCz : CI G τ_15.2 z (zs_10 a9 b9) := hC9
  refine W.eq (g2 := F0 mI 1077 ls [.float 1051372203]) rfl ?_
  refine lv_ldcf hx hb hown (v := 1051372203) (hts (.constantFloat RL 246 1051372203) (by decide +kernel)) dL_law_1077 ?_
  refine lv_fcmp hx hb dL_law_1079 ?_
  refine W.eq (g2 := F0 mI 1080 ls [.int 0]) (by rw [show Op.cmpValue (FP.fcmp 1051372203 1051372203) .l = 0 by decide +kernel]) ?_
  refine lv_if_ne (tgt := 1147) hx hb dL_law_1080 (by decide) (fun c => absurd rfl c) (fun c => ?_)
  refine lv_aload hx hb dL_law_1083 (lv_at hl 0 rfl) ?_
  refine lv_aload hx hb dL_law_1085 (lv_at hl 0 rfl) ?_
  refine lv_iconst (v := 0) hx hb dL_law_1087 (by decide) ?_
  refine fx_call (vx_runV (As := [.int 0]) (rest := [.ref z]) ⟨hx, hb, hml, hown, hts⟩ (k_line G hL l hX0 τ_15 z (zs_10 a9 b9) hCz 0 ((ob_line (zs_10 a9 b9) 0).1) (rfl) (z_32.1)) (cwV 1 hts gL_law_X10_line rfl rfl rfl (by decide +kernel) ⟨Nat.le_of_ble_eq_true rfl, Nat.le_of_ble_eq_true rfl⟩) (fw_preV hW hK hR hCz.at0 rfl) rfl rfl hl.1 rfl (lv_room (Nat.le_of_ble_eq_true rfl)) dL_law_1088 ⟨by show cells + 84 + 1 ≤ 677820; omega, by show slots + 1504 + 6 ≤ 7068237; omega⟩) hS (fun E ce q9 τ9 H locs hx_1 hR hS hce hcv hcl => hx_1.elim) (fun v_16 τ_16 H locs hq_16 hR hS => ?_)
  refine W.widen (k := cells + 85) (n := slots + 1510) (by omega) (by omega) ?_
  obtain ⟨rfl, hC9, hF9⟩ := hq_16
  have hCx := hCx.oth hF9 (by omega)
  have hCz : CI G τ_16.2 z (zs_11 a9 b9) := hC9
  refine W.eq (g2 := F0 mI 1091 ls [.int ((ob_line (zs_10 a9 b9) 0).1), .ref z]) rfl ?_
  obtain ⟨n9, hn9⟩ : ∃ z9 : Int32, z9 = (ob_line (zs_10 a9 b9) 0).1 := ⟨_, rfl⟩
  refine W.eq (g2 := F0 mI 1091 ls [.int n9, .ref z]) (by rw [hn9]) ?_
  have lt_x := hCx.lt hR
  have lt_z := hCz.lt hR
  refine tb_l3 C (k9 := 4) rfl (by omega) (k10 := 3) rfl (by omega) (k12 := 1) rfl (hd12) (by omega) (by omega) hR hS hl (fun τ_17 r_17 H locs hr_17 hf_17 hT_17 hR hS => ?_)
  have hCx := hCx.fr (τ := τ_17.2) (fun q9 h1 h2 => hf_17 q9 (by omega))
  have hCz := hCz.fr (τ := τ_17.2) (fun q9 h1 h2 => hf_17 q9 (by omega))
  refine W.widen (k := cells + 89) (n := slots + 2534) (by omega) (by omega) ?_
  have hTx : TxR G τ_17.2 z r_17 [nI (48 + b9), 42, nI (48 + a9), 43, 32, nI (48 + (b9 + 2) % 6), 42, 52, 47, 32, nI (48 + b9), 42, 49, 63] := hT_17.tx (by omega) hr_17
  refine fw_call (va_runS (As := [.ref z, .int n9, .ref r_17]) (rest := []) ⟨hx, hb, hml, hown, hts⟩ (h_isLine G hL l hX0 hJ τ_17 z r_17 (zs_11 a9 b9) hCz [nI (48 + b9), 42, nI (48 + a9), 43, 32, nI (48 + (b9 + 2) % 6), 42, 52, 47, 32, nI (48 + b9), 42, 49, 63] hTx (asc_l3 ha1 ha4 hb6) (Nat.le_of_ble_eq_true rfl) n9 (by rw [hn9]; exact z_32.2)) (va_cwS 3 hts gL_law_L_isLine rfl rfl rfl (by decide +kernel) ⟨Nat.le_of_ble_eq_true rfl, Nat.le_of_ble_eq_true rfl⟩) (fw_preS hW hR) rfl rfl hl.1 rfl (lv_room (Nat.le_of_ble_eq_true rfl)) dL_law_1141 ⟨by show cells + 89 + 60 ≤ 677820; omega, by show slots + 2534 + 360 ≤ 7068237; omega⟩) hS (fun v_18 τ_18 H locs hq_18 hR hS => ?_)
  refine W.widen (k := cells + 149) (n := slots + 2894) (by omega) (by omega) ?_
  obtain ⟨rfl, hC9, hF9⟩ := hq_18
  have hCx := hCx.oth hF9 (by omega)
  have hCz : CI G τ_18.2 z (zs_11 a9 b9) := hC9
  refine W.eq (g2 := F0 mI 1144 ls [.int 1]) rfl ?_
  refine lv_if_ne (tgt := 1149) hx hb dL_law_1144 (by decide) (fun c => ?_) (fun c => absurd c (by decide))
  exact kk τ_18 H locs ls hCx hCz hR hS hl
set_option maxHeartbeats 8000000 in
set_option maxRecDepth 100000 in
theorem sg_G3 {G : FG} {l : Launch} {pP : Program} {eE : Env} {sS : State} {mI : MethodId} {ar9 : Array Value} {bl9 : List Frame} {meth : Method} {cD : Code} {Q : State → Prop} {adr lad : Nat → Nat} {b L dd : Nat} {xs : Nat → Int32} (C : LWx G l pP sS mI ar9 cD adr b L xs dd lad) {x z n a9 b9 : Nat} {S : StZ} {nw : Int32} {τ : FWd} {cells slots : Nat} {H : Heap} {locs : List Loc} {ls : Array Slot} (hc : cells ≤ 500000) (hs : slots ≤ 6000000) (hxz : x + 614 ≤ z) (ha1 : 1 ≤ a9) (ha4 : a9 ≤ 4) (hb6 : b9 < 6) (hz : zchk a9 b9 = true) (hCx : CI G τ.2 x S) (hCz : CI G τ.2 z (zs_11 a9 b9)) (hR : fR G τ H) (hS : va_S (fwA G) sS.heap H locs) (hl : lv_has ls 14 [(13, .ref z), (12, .int (nI ((b9 + 2) % 6))), (11, .int (nI ((b9 + 1) % 6))), (10, .int (nI b9)), (9, .int (nI a9)), (4, .int nw), (3, .int (nI n)), (1, .ref x), (0, .ref b)])
    (kk : ∀ (τ : FWd) (H : Heap) (locs : List Loc) (ls : Array Slot), CI G τ.2 x S → CI G τ.2 z (zs_17 a9 b9) → fR G τ H → va_S (fwA G) sS.heap H locs → lv_has ls 14 [(13, .ref z), (12, .int (nI ((b9 + 2) % 6))), (11, .int (nI ((b9 + 1) % 6))), (10, .int (nI b9)), (9, .int (nI a9)), (4, .int nw), (3, .int (nI n)), (1, .ref x), (0, .ref b)] → W pP l eE room_1 sS mI ar9 bl9 meth cD H locs (cells + 21) (slots + 126) Q (F0 mI 1368 ls [])) : W pP l eE room_1 sS mI ar9 bl9 meth cD H locs cells slots Q (F0 mI 1149 ls []) := by
  obtain ⟨hx, hb, hml, hown, hts, hW, hL, hX0, hN, hFT, hJ, hD, hLT, hX, hbl, hbA, hL9⟩ := id C
  have hK := hL.K hW
  obtain ⟨-, -, -, -, -, -, -, -, -, -, -, -, -, -, -, -, -, -, -, -, -, -, -, -, -, -, -, -, -, -, -, -, -, z_33, z_34, z_35, z_36, z_37, z_38, z_39, z_40, z_41, z_42, z_43, z_44, z_45, z_46, z_47, z_48, z_49, z_50, z_51, -, -, -, -, -, -, -, -, -, -, -, -, -, -, -, -, -⟩ := zfacts hz
  have hd12 : (b9 + 2) % 6 < 10 := Nat.lt_of_lt_of_le (Nat.mod_lt _ (by decide)) (by decide)
  refine lv_aload hx hb dL_law_1149 (lv_at hl 0 rfl) ?_
  refine lv_bipush (v := 7) hx hb dL_law_1151 (by decide) ?_
  refine lv_iconst (v := 0) hx hb dL_law_1153 (by decide) ?_
  refine lv_iconst (v := 0) hx hb dL_law_1154 (by decide) ?_
  refine lv_iconst (v := 0) hx hb dL_law_1155 (by decide) ?_
  refine lv_iconst (v := 0) hx hb dL_law_1156 (by decide) ?_
  refine lv_iconst (v := 0) hx hb dL_law_1157 (by decide) ?_
  refine fx_call (vx_runSX (As := [.ref z, .int 7, .int 0, .int 0, .int 0, .int 0, .int 0]) (rest := []) ⟨hx, hb, hml, hown, hts⟩ (h_act_7 G hL l hX0 τ z (zs_11 a9 b9) hCz 0 0 0 0 0) (vx_cwSW 7 hts gL_law_L_act rfl rfl rfl (by decide +kernel) ⟨Nat.le_of_ble_eq_true rfl, Nat.le_of_ble_eq_true rfl⟩) (fw_preS hW hR) rfl rfl hl.1 rfl (lv_room (Nat.le_of_ble_eq_true rfl)) dL_law_1158 ⟨by show cells + 1 ≤ 677820; omega, by show slots + 6 ≤ 7068237; omega⟩) hS (fun E ce q9 τ9 H locs hx_1 hR hS hce hcv hcl => hx_1.elim) (fun v_1 τ_1 H locs hq_1 hR hS => ?_)
  refine W.widen (k := cells + 1) (n := slots + 6) (by omega) (by omega) ?_
  obtain ⟨rfl, hC9, hF9⟩ := hq_1
  have hCx := hCx.oth hF9 (by omega)
  have hCz : CI G τ_1.2 z (zs_12 a9 b9) := hC9
  refine W.eq (g2 := F0 mI 1161 ls [.int (ob_act (zs_11 a9 b9) 7 0 0 0 0 0).1]) rfl ?_
  refine W.eq (g2 := F0 mI 1161 ls [.int (-2)]) (by rw [z_33]) ?_
  refine lv_bipush (v := (-2)) hx hb dL_law_1161 (by decide) ?_
  refine lv_icmp_ne (tgt := 1366) hx hb dL_law_1163 (by decide) (fun c => absurd rfl c) (fun c => ?_)
  refine lv_aload hx hb dL_law_1166 (lv_at hl 0 rfl) ?_
  refine lv_iconst (v := 0) hx hb dL_law_1168 (by decide) ?_
  refine fx_call (vx_runV (As := [.int 0]) (rest := []) ⟨hx, hb, hml, hown, hts⟩ (k_reason G hL l hX0 τ_1 z (zs_12 a9 b9) hCz 0 9 (z_34)) (cwV 1 hts gL_law_X10_reason rfl rfl rfl (by decide +kernel) ⟨Nat.le_of_ble_eq_true rfl, Nat.le_of_ble_eq_true rfl⟩) (fw_preV hW hK hR hCz.at0 rfl) rfl rfl hl.1 rfl (lv_room (Nat.le_of_ble_eq_true rfl)) dL_law_1169 ⟨by show cells + 1 + 1 ≤ 677820; omega, by show slots + 6 + 6 ≤ 7068237; omega⟩) hS (fun E ce q9 τ9 H locs hx_1 hR hS hce hcv hcl => hx_1.elim) (fun v_2 τ_2 H locs hq_2 hR hS => ?_)
  refine W.widen (k := cells + 2) (n := slots + 12) (by omega) (by omega) ?_
  obtain ⟨rfl, hC9, hF9⟩ := hq_2
  have hCx := hCx.oth hF9 (by omega)
  have hCz : CI G τ_2.2 z (zs_12 a9 b9) := hC9
  refine W.eq (g2 := F0 mI 1172 ls [.int 9]) rfl ?_
  refine lv_bipush (v := 9) hx hb dL_law_1172 (by decide) ?_
  refine lv_icmp_ne (tgt := 1366) hx hb dL_law_1174 (by decide) (fun c => absurd rfl c) (fun c => ?_)
  refine lv_aload hx hb dL_law_1177 (lv_at hl 0 rfl) ?_
  refine lv_iload hx hb dL_law_1179 (lv_at hl 3 rfl) ?_
  refine lv_iconst (v := 1) hx hb dL_law_1181 (by decide) ?_
  refine fx_call (vx_runV (As := [.int (nI b9), .int 1]) (rest := []) ⟨hx, hb, hml, hown, hts⟩ (k_lose G hL l hX0 τ_2 z (zs_12 a9 b9) hCz (nI b9) 1 0 (z_35.1) (z_35.2)) (cwV 2 hts gL_law_X10_lose rfl rfl rfl (by decide +kernel) ⟨Nat.le_of_ble_eq_true rfl, Nat.le_of_ble_eq_true rfl⟩) (fw_preV hW hK hR hCz.at0 rfl) rfl rfl hl.1 rfl (lv_room (Nat.le_of_ble_eq_true rfl)) dL_law_1182 ⟨by show cells + 2 + 1 ≤ 677820; omega, by show slots + 12 + 6 ≤ 7068237; omega⟩) hS (fun E ce q9 τ9 H locs hx_1 hR hS hce hcv hcl => hx_1.elim) (fun v_3 τ_3 H locs hq_3 hR hS => ?_)
  refine W.widen (k := cells + 3) (n := slots + 18) (by omega) (by omega) ?_
  obtain ⟨rfl, hC9, hF9⟩ := hq_3
  have hCx := hCx.oth hF9 (by omega)
  have hCz : CI G τ_3.2 z (zs_13 a9 b9) := hC9
  refine W.eq (g2 := F0 mI 1185 ls [.int 0]) rfl ?_
  refine lv_if_ne (tgt := 1366) hx hb dL_law_1185 (by decide) (fun c => absurd rfl c) (fun c => ?_)
  refine lv_aload hx hb dL_law_1188 (lv_at hl 0 rfl) ?_
  refine lv_bipush (v := 7) hx hb dL_law_1190 (by decide) ?_
  refine lv_iconst (v := 0) hx hb dL_law_1192 (by decide) ?_
  refine lv_iconst (v := 2) hx hb dL_law_1193 (by decide) ?_
  refine lv_iconst (v := 0) hx hb dL_law_1194 (by decide) ?_
  refine lv_iconst (v := 0) hx hb dL_law_1195 (by decide) ?_
  refine lv_iconst (v := 0) hx hb dL_law_1196 (by decide) ?_
  refine fx_call (vx_runSX (As := [.ref z, .int 7, .int 0, .int 2, .int 0, .int 0, .int 0]) (rest := []) ⟨hx, hb, hml, hown, hts⟩ (h_act_7 G hL l hX0 τ_3 z (zs_13 a9 b9) hCz 0 2 0 0 0) (vx_cwSW 7 hts gL_law_L_act rfl rfl rfl (by decide +kernel) ⟨Nat.le_of_ble_eq_true rfl, Nat.le_of_ble_eq_true rfl⟩) (fw_preS hW hR) rfl rfl hl.1 rfl (lv_room (Nat.le_of_ble_eq_true rfl)) dL_law_1197 ⟨by show cells + 3 + 1 ≤ 677820; omega, by show slots + 18 + 6 ≤ 7068237; omega⟩) hS (fun E ce q9 τ9 H locs hx_1 hR hS hce hcv hcl => hx_1.elim) (fun v_4 τ_4 H locs hq_4 hR hS => ?_)
  refine W.widen (k := cells + 4) (n := slots + 24) (by omega) (by omega) ?_
  obtain ⟨rfl, hC9, hF9⟩ := hq_4
  have hCx := hCx.oth hF9 (by omega)
  have hCz : CI G τ_4.2 z (zs_14 a9 b9) := hC9
  refine W.eq (g2 := F0 mI 1200 ls [.int (ob_act (zs_13 a9 b9) 7 0 2 0 0 0).1]) rfl ?_
  refine W.eq (g2 := F0 mI 1200 ls [.int (-2)]) (by rw [z_36]) ?_
  refine lv_bipush (v := (-2)) hx hb dL_law_1200 (by decide) ?_
  refine lv_icmp_ne (tgt := 1366) hx hb dL_law_1202 (by decide) (fun c => absurd rfl c) (fun c => ?_)
  refine lv_aload hx hb dL_law_1205 (lv_at hl 0 rfl) ?_
  refine lv_iconst (v := 0) hx hb dL_law_1207 (by decide) ?_
  refine fx_call (vx_runV (As := [.int 0]) (rest := []) ⟨hx, hb, hml, hown, hts⟩ (k_reason G hL l hX0 τ_4 z (zs_14 a9 b9) hCz 0 10 (z_37)) (cwV 1 hts gL_law_X10_reason rfl rfl rfl (by decide +kernel) ⟨Nat.le_of_ble_eq_true rfl, Nat.le_of_ble_eq_true rfl⟩) (fw_preV hW hK hR hCz.at0 rfl) rfl rfl hl.1 rfl (lv_room (Nat.le_of_ble_eq_true rfl)) dL_law_1208 ⟨by show cells + 4 + 1 ≤ 677820; omega, by show slots + 24 + 6 ≤ 7068237; omega⟩) hS (fun E ce q9 τ9 H locs hx_1 hR hS hce hcv hcl => hx_1.elim) (fun v_5 τ_5 H locs hq_5 hR hS => ?_)
  refine W.widen (k := cells + 5) (n := slots + 30) (by omega) (by omega) ?_
  obtain ⟨rfl, hC9, hF9⟩ := hq_5
  have hCx := hCx.oth hF9 (by omega)
  have hCz : CI G τ_5.2 z (zs_14 a9 b9) := hC9
  refine W.eq (g2 := F0 mI 1211 ls [.int 10]) rfl ?_
  refine lv_bipush (v := 10) hx hb dL_law_1211 (by decide) ?_
  refine lv_icmp_ne (tgt := 1366) hx hb dL_law_1213 (by decide) (fun c => absurd rfl c) (fun c => ?_)
  refine lv_aload hx hb dL_law_1216 (lv_at hl 0 rfl) ?_
  refine lv_iconst (v := 1) hx hb dL_law_1218 (by decide) ?_
  refine fx_call (vx_runV (As := [.int 1]) (rest := []) ⟨hx, hb, hml, hown, hts⟩ (k_reason G hL l hX0 τ_5 z (zs_14 a9 b9) hCz 1 (nI b9) (z_38)) (cwV 1 hts gL_law_X10_reason rfl rfl rfl (by decide +kernel) ⟨Nat.le_of_ble_eq_true rfl, Nat.le_of_ble_eq_true rfl⟩) (fw_preV hW hK hR hCz.at0 rfl) rfl rfl hl.1 rfl (lv_room (Nat.le_of_ble_eq_true rfl)) dL_law_1219 ⟨by show cells + 5 + 1 ≤ 677820; omega, by show slots + 30 + 6 ≤ 7068237; omega⟩) hS (fun E ce q9 τ9 H locs hx_1 hR hS hce hcv hcl => hx_1.elim) (fun v_6 τ_6 H locs hq_6 hR hS => ?_)
  refine W.widen (k := cells + 6) (n := slots + 36) (by omega) (by omega) ?_
  obtain ⟨rfl, hC9, hF9⟩ := hq_6
  have hCx := hCx.oth hF9 (by omega)
  have hCz : CI G τ_6.2 z (zs_14 a9 b9) := hC9
  refine W.eq (g2 := F0 mI 1222 ls [.int (nI b9)]) rfl ?_
  refine lv_iload hx hb dL_law_1222 (lv_at hl 3 rfl) ?_
  refine lv_icmp_ne (tgt := 1366) hx hb dL_law_1224 (by decide) (fun c => absurd rfl c) (fun c => ?_)
  refine lv_aload hx hb dL_law_1227 (lv_at hl 0 rfl) ?_
  refine lv_bipush (v := 8) hx hb dL_law_1229 (by decide) ?_
  refine lv_iconst (v := 0) hx hb dL_law_1231 (by decide) ?_
  refine lv_iconst (v := 0) hx hb dL_law_1232 (by decide) ?_
  refine lv_iconst (v := 0) hx hb dL_law_1233 (by decide) ?_
  refine lv_iconst (v := 0) hx hb dL_law_1234 (by decide) ?_
  refine lv_iconst (v := 0) hx hb dL_law_1235 (by decide) ?_
  refine fx_call (vx_runSX (As := [.ref z, .int 8, .int 0, .int 0, .int 0, .int 0, .int 0]) (rest := []) ⟨hx, hb, hml, hown, hts⟩ (h_act_8 G hL l hX0 τ_6 z (zs_14 a9 b9) hCz 0 0 0 0 0) (vx_cwSW 7 hts gL_law_L_act rfl rfl rfl (by decide +kernel) ⟨Nat.le_of_ble_eq_true rfl, Nat.le_of_ble_eq_true rfl⟩) (fw_preS hW hR) rfl rfl hl.1 rfl (lv_room (Nat.le_of_ble_eq_true rfl)) dL_law_1236 ⟨by show cells + 6 + 1 ≤ 677820; omega, by show slots + 36 + 6 ≤ 7068237; omega⟩) hS (fun E ce q9 τ9 H locs hx_1 hR hS hce hcv hcl => hx_1.elim) (fun v_7 τ_7 H locs hq_7 hR hS => ?_)
  refine W.widen (k := cells + 7) (n := slots + 42) (by omega) (by omega) ?_
  obtain ⟨rfl, hC9, hF9⟩ := hq_7
  have hCx := hCx.oth hF9 (by omega)
  have hCz : CI G τ_7.2 z (zs_15 a9 b9) := hC9
  refine W.eq (g2 := F0 mI 1239 ls [.int (ob_act (zs_14 a9 b9) 8 0 0 0 0 0).1]) rfl ?_
  refine W.eq (g2 := F0 mI 1239 ls [.int (-2)]) (by rw [z_39]) ?_
  refine lv_bipush (v := (-2)) hx hb dL_law_1239 (by decide) ?_
  refine lv_icmp_ne (tgt := 1366) hx hb dL_law_1241 (by decide) (fun c => absurd rfl c) (fun c => ?_)
  refine lv_aload hx hb dL_law_1244 (lv_at hl 0 rfl) ?_
  refine lv_iconst (v := 0) hx hb dL_law_1246 (by decide) ?_
  refine fx_call (vx_runV (As := [.int 0]) (rest := []) ⟨hx, hb, hml, hown, hts⟩ (k_reason G hL l hX0 τ_7 z (zs_15 a9 b9) hCz 0 10 (z_40)) (cwV 1 hts gL_law_X10_reason rfl rfl rfl (by decide +kernel) ⟨Nat.le_of_ble_eq_true rfl, Nat.le_of_ble_eq_true rfl⟩) (fw_preV hW hK hR hCz.at0 rfl) rfl rfl hl.1 rfl (lv_room (Nat.le_of_ble_eq_true rfl)) dL_law_1247 ⟨by show cells + 7 + 1 ≤ 677820; omega, by show slots + 42 + 6 ≤ 7068237; omega⟩) hS (fun E ce q9 τ9 H locs hx_1 hR hS hce hcv hcl => hx_1.elim) (fun v_8 τ_8 H locs hq_8 hR hS => ?_)
  refine W.widen (k := cells + 8) (n := slots + 48) (by omega) (by omega) ?_
  obtain ⟨rfl, hC9, hF9⟩ := hq_8
  have hCx := hCx.oth hF9 (by omega)
  have hCz : CI G τ_8.2 z (zs_15 a9 b9) := hC9
  refine W.eq (g2 := F0 mI 1250 ls [.int 10]) rfl ?_
  refine lv_bipush (v := 10) hx hb dL_law_1250 (by decide) ?_
  refine lv_icmp_ne (tgt := 1366) hx hb dL_law_1252 (by decide) (fun c => absurd rfl c) (fun c => ?_)
  refine lv_aload hx hb dL_law_1255 (lv_at hl 0 rfl) ?_
  refine lv_iconst (v := 0) hx hb dL_law_1257 (by decide) ?_
  refine lv_iconst (v := 2) hx hb dL_law_1258 (by decide) ?_
  refine fx_call (vx_runV (As := [.int 0, .int 2]) (rest := []) ⟨hx, hb, hml, hown, hts⟩ (k_canFinish G hL l hX0 τ_8 z (zs_15 a9 b9) hCz 0 2 0 (z_41)) (cwV 2 hts gL_law_X10_canFinish rfl rfl rfl (by decide +kernel) ⟨Nat.le_of_ble_eq_true rfl, Nat.le_of_ble_eq_true rfl⟩) (fw_preV hW hK hR hCz.at0 rfl) rfl rfl hl.1 rfl (lv_room (Nat.le_of_ble_eq_true rfl)) dL_law_1259 ⟨by show cells + 8 + 2 ≤ 677820; omega, by show slots + 48 + 12 ≤ 7068237; omega⟩) hS (fun E ce q9 τ9 H locs hx_1 hR hS hce hcv hcl => hx_1.elim) (fun v_9 τ_9 H locs hq_9 hR hS => ?_)
  refine W.widen (k := cells + 10) (n := slots + 60) (by omega) (by omega) ?_
  obtain ⟨rfl, hC9, hF9⟩ := hq_9
  have hCx := hCx.oth hF9 (by omega)
  have hCz : CI G τ_9.2 z (zs_15 a9 b9) := hC9
  refine W.eq (g2 := F0 mI 1262 ls [.int 0]) rfl ?_
  refine lv_if_ne (tgt := 1366) hx hb dL_law_1262 (by decide) (fun c => absurd rfl c) (fun c => ?_)
  refine lv_aload hx hb dL_law_1265 (lv_at hl 0 rfl) ?_
  refine lv_iconst (v := 0) hx hb dL_law_1267 (by decide) ?_
  refine fx_call (vx_runV (As := [.int 0]) (rest := []) ⟨hx, hb, hml, hown, hts⟩ (k_couldFinish G hL l hX0 τ_9 z (zs_15 a9 b9) hCz 0 0 (z_42)) (cwV 1 hts gL_law_X10_couldFinish rfl rfl rfl (by decide +kernel) ⟨Nat.le_of_ble_eq_true rfl, Nat.le_of_ble_eq_true rfl⟩) (fw_preV hW hK hR hCz.at0 rfl) rfl rfl hl.1 rfl (lv_room (Nat.le_of_ble_eq_true rfl)) dL_law_1268 ⟨by show cells + 10 + 1 ≤ 677820; omega, by show slots + 60 + 6 ≤ 7068237; omega⟩) hS (fun E ce q9 τ9 H locs hx_1 hR hS hce hcv hcl => hx_1.elim) (fun v_10 τ_10 H locs hq_10 hR hS => ?_)
  refine W.widen (k := cells + 11) (n := slots + 66) (by omega) (by omega) ?_
  obtain ⟨rfl, hC9, hF9⟩ := hq_10
  have hCx := hCx.oth hF9 (by omega)
  have hCz : CI G τ_10.2 z (zs_15 a9 b9) := hC9
  refine W.eq (g2 := F0 mI 1271 ls [.int 0]) rfl ?_
  refine lv_if_ne (tgt := 1366) hx hb dL_law_1271 (by decide) (fun c => absurd rfl c) (fun c => ?_)
  refine lv_aload hx hb dL_law_1274 (lv_at hl 0 rfl) ?_
  refine lv_iload hx hb dL_law_1276 (lv_at hl 3 rfl) ?_
  refine fx_call (vx_runV (As := [.int (nI b9)]) (rest := []) ⟨hx, hb, hml, hown, hts⟩ (k_lost G hL l hX0 τ_10 z (zs_15 a9 b9) hCz (nI b9) 1 (z_43)) (cwV 1 hts gL_law_X10_lost rfl rfl rfl (by decide +kernel) ⟨Nat.le_of_ble_eq_true rfl, Nat.le_of_ble_eq_true rfl⟩) (fw_preV hW hK hR hCz.at0 rfl) rfl rfl hl.1 rfl (lv_room (Nat.le_of_ble_eq_true rfl)) dL_law_1278 ⟨by show cells + 11 + 1 ≤ 677820; omega, by show slots + 66 + 6 ≤ 7068237; omega⟩) hS (fun E ce q9 τ9 H locs hx_1 hR hS hce hcv hcl => hx_1.elim) (fun v_11 τ_11 H locs hq_11 hR hS => ?_)
  refine W.widen (k := cells + 12) (n := slots + 72) (by omega) (by omega) ?_
  obtain ⟨rfl, hC9, hF9⟩ := hq_11
  have hCx := hCx.oth hF9 (by omega)
  have hCz : CI G τ_11.2 z (zs_15 a9 b9) := hC9
  refine W.eq (g2 := F0 mI 1281 ls [.int 1]) rfl ?_
  refine lv_iconst (v := 1) hx hb dL_law_1281 (by decide) ?_
  refine lv_icmp_ne (tgt := 1366) hx hb dL_law_1282 (by decide) (fun c => absurd rfl c) (fun c => ?_)
  refine lv_aload hx hb dL_law_1285 (lv_at hl 0 rfl) ?_
  refine fw_call (va_runV (As := []) (rest := []) ⟨hx, hb, hml, hown, hts⟩ (k_isEven G hL l hX0 τ_11 z (zs_15 a9 b9) hCz  1 (z_44)) (cwV 0 hts gL_law_X10_isEven rfl rfl rfl (by decide +kernel) ⟨Nat.le_of_ble_eq_true rfl, Nat.le_of_ble_eq_true rfl⟩) (fw_preV hW hK hR hCz.at0 rfl) rfl rfl hl.1 rfl (lv_room (Nat.le_of_ble_eq_true rfl)) dL_law_1287 ⟨by show cells + 12 + 0 ≤ 677820; omega, by show slots + 72 + 0 ≤ 7068237; omega⟩) hS (fun v_12 τ_12 H locs hq_12 hR hS => ?_)
  refine W.widen (k := cells + 12) (n := slots + 72) (by omega) (by omega) ?_
  obtain ⟨rfl, hC9, hF9⟩ := hq_12
  have hCx := hCx.oth hF9 (by omega)
  have hCz : CI G τ_12.2 z (zs_15 a9 b9) := hC9
  refine W.eq (g2 := F0 mI 1290 ls [.int 1]) rfl ?_
  refine lv_if_eq (tgt := 1366) hx hb dL_law_1290 (by decide) (fun c => absurd c (by decide)) (fun c => ?_)
  refine lv_aload hx hb dL_law_1293 (lv_at hl 0 rfl) ?_
  refine lv_iload hx hb dL_law_1295 (lv_at hl 3 rfl) ?_
  refine lv_iconst (v := 1) hx hb dL_law_1297 (by decide) ?_
  refine fx_call (vx_runV (As := [.int (nI b9), .int 1]) (rest := []) ⟨hx, hb, hml, hown, hts⟩ (k_find G hL l hX0 τ_12 z (zs_15 a9 b9) hCz (nI b9) 1 0 (z_45.1) (z_45.2)) (cwV 2 hts gL_law_X10_find rfl rfl rfl (by decide +kernel) ⟨Nat.le_of_ble_eq_true rfl, Nat.le_of_ble_eq_true rfl⟩) (fw_preV hW hK hR hCz.at0 rfl) rfl rfl hl.1 rfl (lv_room (Nat.le_of_ble_eq_true rfl)) dL_law_1298 ⟨by show cells + 12 + 1 ≤ 677820; omega, by show slots + 72 + 6 ≤ 7068237; omega⟩) hS (fun E ce q9 τ9 H locs hx_1 hR hS hce hcv hcl => hx_1.elim) (fun v_13 τ_13 H locs hq_13 hR hS => ?_)
  refine W.widen (k := cells + 13) (n := slots + 78) (by omega) (by omega) ?_
  obtain ⟨rfl, hC9, hF9⟩ := hq_13
  have hCx := hCx.oth hF9 (by omega)
  have hCz : CI G τ_13.2 z (zs_16 a9 b9) := hC9
  refine W.eq (g2 := F0 mI 1301 ls [.int 0]) rfl ?_
  refine lv_if_ne (tgt := 1366) hx hb dL_law_1301 (by decide) (fun c => absurd rfl c) (fun c => ?_)
  refine lv_aload hx hb dL_law_1304 (lv_at hl 0 rfl) ?_
  refine lv_iconst (v := 0) hx hb dL_law_1306 (by decide) ?_
  refine fx_call (vx_runV (As := [.int 0]) (rest := []) ⟨hx, hb, hml, hown, hts⟩ (k_couldFinish G hL l hX0 τ_13 z (zs_16 a9 b9) hCz 0 1 (z_46)) (cwV 1 hts gL_law_X10_couldFinish rfl rfl rfl (by decide +kernel) ⟨Nat.le_of_ble_eq_true rfl, Nat.le_of_ble_eq_true rfl⟩) (fw_preV hW hK hR hCz.at0 rfl) rfl rfl hl.1 rfl (lv_room (Nat.le_of_ble_eq_true rfl)) dL_law_1307 ⟨by show cells + 13 + 1 ≤ 677820; omega, by show slots + 78 + 6 ≤ 7068237; omega⟩) hS (fun E ce q9 τ9 H locs hx_1 hR hS hce hcv hcl => hx_1.elim) (fun v_14 τ_14 H locs hq_14 hR hS => ?_)
  refine W.widen (k := cells + 14) (n := slots + 84) (by omega) (by omega) ?_
  obtain ⟨rfl, hC9, hF9⟩ := hq_14
  have hCx := hCx.oth hF9 (by omega)
  have hCz : CI G τ_14.2 z (zs_16 a9 b9) := hC9
  refine W.eq (g2 := F0 mI 1310 ls [.int 1]) rfl ?_
  refine lv_iconst (v := 1) hx hb dL_law_1310 (by decide) ?_
  refine lv_icmp_ne (tgt := 1366) hx hb dL_law_1311 (by decide) (fun c => absurd rfl c) (fun c => ?_)
  refine lv_aload hx hb dL_law_1314 (lv_at hl 0 rfl) ?_
  refine lv_iconst (v := 0) hx hb dL_law_1316 (by decide) ?_
  refine lv_iconst (v := 2) hx hb dL_law_1317 (by decide) ?_
  refine fx_call (vx_runV (As := [.int 0, .int 2]) (rest := []) ⟨hx, hb, hml, hown, hts⟩ (k_finish G hL l hX0 τ_14 z (zs_16 a9 b9) hCz 0 2 0 (z_47.1) (z_47.2)) (cwV 2 hts gL_law_X10_finish rfl rfl rfl (by decide +kernel) ⟨Nat.le_of_ble_eq_true rfl, Nat.le_of_ble_eq_true rfl⟩) (fw_preV hW hK hR hCz.at0 rfl) rfl rfl hl.1 rfl (lv_room (Nat.le_of_ble_eq_true rfl)) dL_law_1318 ⟨by show cells + 14 + 1 ≤ 677820; omega, by show slots + 84 + 6 ≤ 7068237; omega⟩) hS (fun E ce q9 τ9 H locs hx_1 hR hS hce hcv hcl => hx_1.elim) (fun v_15 τ_15 H locs hq_15 hR hS => ?_)
  refine W.widen (k := cells + 15) (n := slots + 90) (by omega) (by omega) ?_
  obtain ⟨rfl, hC9, hF9⟩ := hq_15
  have hCx := hCx.oth hF9 (by omega)
  have hCz : CI G τ_15.2 z (zs_17 a9 b9) := hC9
  refine W.eq (g2 := F0 mI 1321 ls [.int 0]) rfl ?_
  refine lv_if_ne (tgt := 1366) hx hb dL_law_1321 (by decide) (fun c => absurd rfl c) (fun c => ?_)
  refine lv_aload hx hb dL_law_1324 (lv_at hl 0 rfl) ?_
  refine lv_iload hx hb dL_law_1326 (lv_at hl 3 rfl) ?_
  refine fx_call (vx_runV (As := [.int (nI b9)]) (rest := []) ⟨hx, hb, hml, hown, hts⟩ (k_tin G hL l hX0 τ_15 z (zs_17 a9 b9) hCz (nI b9) 0 (z_48)) (cwV 1 hts gL_law_X10_tin rfl rfl rfl (by decide +kernel) ⟨Nat.le_of_ble_eq_true rfl, Nat.le_of_ble_eq_true rfl⟩) (fw_preV hW hK hR hCz.at0 rfl) rfl rfl hl.1 rfl (lv_room (Nat.le_of_ble_eq_true rfl)) dL_law_1328 ⟨by show cells + 15 + 1 ≤ 677820; omega, by show slots + 90 + 6 ≤ 7068237; omega⟩) hS (fun E ce q9 τ9 H locs hx_1 hR hS hce hcv hcl => hx_1.elim) (fun v_16 τ_16 H locs hq_16 hR hS => ?_)
  refine W.widen (k := cells + 16) (n := slots + 96) (by omega) (by omega) ?_
  obtain ⟨rfl, hC9, hF9⟩ := hq_16
  have hCx := hCx.oth hF9 (by omega)
  have hCz : CI G τ_16.2 z (zs_17 a9 b9) := hC9
  refine W.eq (g2 := F0 mI 1331 ls [.int 0]) rfl ?_
  refine lv_if_ne (tgt := 1366) hx hb dL_law_1331 (by decide) (fun c => absurd rfl c) (fun c => ?_)
  refine lv_aload hx hb dL_law_1334 (lv_at hl 0 rfl) ?_
  refine lv_bipush (v := 7) hx hb dL_law_1336 (by decide) ?_
  refine fx_call (vx_runV (As := [.int 7]) (rest := []) ⟨hx, hb, hml, hown, hts⟩ (k_account G hL l hX0 τ_16 z (zs_17 a9 b9) hCz 7 1 (z_49)) (cwV 1 hts gL_law_X10_account rfl rfl rfl (by decide +kernel) ⟨Nat.le_of_ble_eq_true rfl, Nat.le_of_ble_eq_true rfl⟩) (fw_preV hW hK hR hCz.at0 rfl) rfl rfl hl.1 rfl (lv_room (Nat.le_of_ble_eq_true rfl)) dL_law_1338 ⟨by show cells + 16 + 1 ≤ 677820; omega, by show slots + 96 + 6 ≤ 7068237; omega⟩) hS (fun E ce q9 τ9 H locs hx_1 hR hS hce hcv hcl => hx_1.elim) (fun v_17 τ_17 H locs hq_17 hR hS => ?_)
  refine W.widen (k := cells + 17) (n := slots + 102) (by omega) (by omega) ?_
  obtain ⟨rfl, hC9, hF9⟩ := hq_17
  have hCx := hCx.oth hF9 (by omega)
  have hCz : CI G τ_17.2 z (zs_17 a9 b9) := hC9
  refine W.eq (g2 := F0 mI 1341 ls [.int 1]) rfl ?_
  refine lv_iconst (v := 1) hx hb dL_law_1341 (by decide) ?_
  refine lv_icmp_ne (tgt := 1366) hx hb dL_law_1342 (by decide) (fun c => absurd rfl c) (fun c => ?_)
  refine lv_aload hx hb dL_law_1345 (lv_at hl 0 rfl) ?_
  refine lv_iconst (v := 0) hx hb dL_law_1347 (by decide) ?_
  refine lv_iconst (v := 3) hx hb dL_law_1348 (by decide) ?_
  refine fx_call (vx_runV (As := [.int 0, .int 3]) (rest := []) ⟨hx, hb, hml, hown, hts⟩ (k_cousinOf G hL l hX0 τ_17 z (zs_17 a9 b9) hCz 0 3 1 (z_50)) (cwV 2 hts gL_law_X10_cousinOf rfl rfl rfl (by decide +kernel) ⟨Nat.le_of_ble_eq_true rfl, Nat.le_of_ble_eq_true rfl⟩) (fw_preV hW hK hR hCz.at0 rfl) rfl rfl hl.1 rfl (lv_room (Nat.le_of_ble_eq_true rfl)) dL_law_1349 ⟨by show cells + 17 + 2 ≤ 677820; omega, by show slots + 102 + 12 ≤ 7068237; omega⟩) hS (fun E ce q9 τ9 H locs hx_1 hR hS hce hcv hcl => hx_1.elim) (fun v_18 τ_18 H locs hq_18 hR hS => ?_)
  refine W.widen (k := cells + 19) (n := slots + 114) (by omega) (by omega) ?_
  obtain ⟨rfl, hC9, hF9⟩ := hq_18
  have hCx := hCx.oth hF9 (by omega)
  have hCz : CI G τ_18.2 z (zs_17 a9 b9) := hC9
  refine W.eq (g2 := F0 mI 1352 ls [.int 1]) rfl ?_
  refine lv_iconst (v := 1) hx hb dL_law_1352 (by decide) ?_
  refine lv_icmp_ne (tgt := 1366) hx hb dL_law_1353 (by decide) (fun c => absurd rfl c) (fun c => ?_)
  refine lv_aload hx hb dL_law_1356 (lv_at hl 0 rfl) ?_
  refine lv_iconst (v := 0) hx hb dL_law_1358 (by decide) ?_
  refine lv_iconst (v := 4) hx hb dL_law_1359 (by decide) ?_
  refine fx_call (vx_runV (As := [.int 0, .int 4]) (rest := []) ⟨hx, hb, hml, hown, hts⟩ (k_cousinOf G hL l hX0 τ_18 z (zs_17 a9 b9) hCz 0 4 0 (z_51)) (cwV 2 hts gL_law_X10_cousinOf rfl rfl rfl (by decide +kernel) ⟨Nat.le_of_ble_eq_true rfl, Nat.le_of_ble_eq_true rfl⟩) (fw_preV hW hK hR hCz.at0 rfl) rfl rfl hl.1 rfl (lv_room (Nat.le_of_ble_eq_true rfl)) dL_law_1360 ⟨by show cells + 19 + 2 ≤ 677820; omega, by show slots + 114 + 12 ≤ 7068237; omega⟩) hS (fun E ce q9 τ9 H locs hx_1 hR hS hce hcv hcl => hx_1.elim) (fun v_19 τ_19 H locs hq_19 hR hS => ?_)
  refine W.widen (k := cells + 21) (n := slots + 126) (by omega) (by omega) ?_
  obtain ⟨rfl, hC9, hF9⟩ := hq_19
  have hCx := hCx.oth hF9 (by omega)
  have hCz : CI G τ_19.2 z (zs_17 a9 b9) := hC9
  refine W.eq (g2 := F0 mI 1363 ls [.int 0]) rfl ?_
  refine lv_if_eq (tgt := 1368) hx hb dL_law_1363 (by decide) (fun c => ?_) (fun c => absurd rfl c)
  exact kk τ_19 H locs ls hCx hCz hR hS hl
set_option maxHeartbeats 8000000 in
set_option maxRecDepth 100000 in
theorem sg_G4 {G : FG} {l : Launch} {pP : Program} {eE : Env} {sS : State} {mI : MethodId} {ar9 : Array Value} {bl9 : List Frame} {meth : Method} {cD : Code} {Q : State → Prop} {adr lad : Nat → Nat} {b L dd : Nat} {xs : Nat → Int32} (C : LWx G l pP sS mI ar9 cD adr b L xs dd lad) {x z n a9 b9 : Nat} {S : StZ} {nw : Int32} {τ : FWd} {cells slots : Nat} {H : Heap} {locs : List Loc} {ls : Array Slot} (hc : cells ≤ 500000) (hs : slots ≤ 6000000) (hxz : x + 614 ≤ z) (ha1 : 1 ≤ a9) (ha4 : a9 ≤ 4) (hb6 : b9 < 6) (hz : zchk a9 b9 = true) (hCx : CI G τ.2 x S) (hCz : CI G τ.2 z (zs_17 a9 b9)) (hR : fR G τ H) (hS : va_S (fwA G) sS.heap H locs) (hl : lv_has ls 14 [(13, .ref z), (12, .int (nI ((b9 + 2) % 6))), (11, .int (nI ((b9 + 1) % 6))), (10, .int (nI b9)), (9, .int (nI a9)), (4, .int nw), (3, .int (nI n)), (1, .ref x), (0, .ref b)])
    (kk : ∀ (τ : FWd) (H : Heap) (locs : List Loc) (ls : Array Slot), CI G τ.2 x S → CI G τ.2 z (zs_23 a9 b9) → fR G τ H → va_S (fwA G) sS.heap H locs → lv_has ls 14 [(13, .ref z), (12, .int (nI ((b9 + 2) % 6))), (11, .int (nI ((b9 + 1) % 6))), (10, .int (nI b9)), (9, .int (nI a9)), (4, .int nw), (3, .int (nI n)), (1, .ref x), (0, .ref b)] → W pP l eE room_1 sS mI ar9 bl9 meth cD H locs (cells + 22) (slots + 132) Q (F0 mI 1550 ls [])) : W pP l eE room_1 sS mI ar9 bl9 meth cD H locs cells slots Q (F0 mI 1368 ls []) := by
  obtain ⟨hx, hb, hml, hown, hts, hW, hL, hX0, hN, hFT, hJ, hD, hLT, hX, hbl, hbA, hL9⟩ := id C
  have hK := hL.K hW
  obtain ⟨-, -, -, -, -, -, -, -, -, -, -, -, -, -, -, -, -, -, -, -, -, -, -, -, -, -, -, -, -, -, -, -, -, -, -, -, -, -, -, -, -, -, -, -, -, -, -, -, -, -, -, -, z_52, z_53, z_54, z_55, z_56, z_57, z_58, z_59, z_60, z_61, z_62, z_63, z_64, z_65, z_66, z_67, z_68⟩ := zfacts hz
  have hd12 : (b9 + 2) % 6 < 10 := Nat.lt_of_lt_of_le (Nat.mod_lt _ (by decide)) (by decide)
  refine lv_aload hx hb dL_law_1368 (lv_at hl 0 rfl) ?_
  refine lv_iconst (v := 3) hx hb dL_law_1370 (by decide) ?_
  refine lv_iconst (v := 0) hx hb dL_law_1371 (by decide) ?_
  refine lv_iconst (v := 0) hx hb dL_law_1372 (by decide) ?_
  refine lv_iconst (v := 0) hx hb dL_law_1373 (by decide) ?_
  refine lv_iconst (v := 0) hx hb dL_law_1374 (by decide) ?_
  refine lv_iconst (v := 0) hx hb dL_law_1375 (by decide) ?_
  refine fx_call (vx_runSX (As := [.ref z, .int 3, .int 0, .int 0, .int 0, .int 0, .int 0]) (rest := []) ⟨hx, hb, hml, hown, hts⟩ (h_act_3 G hL l hX0 τ z (zs_17 a9 b9) hCz 0 0 0 0 0) (vx_cwSW 7 hts gL_law_L_act rfl rfl rfl (by decide +kernel) ⟨Nat.le_of_ble_eq_true rfl, Nat.le_of_ble_eq_true rfl⟩) (fw_preS hW hR) rfl rfl hl.1 rfl (lv_room (Nat.le_of_ble_eq_true rfl)) dL_law_1376 ⟨by show cells + 1 ≤ 677820; omega, by show slots + 6 ≤ 7068237; omega⟩) hS (fun E ce q9 τ9 H locs hx_1 hR hS hce hcv hcl => hx_1.elim) (fun v_1 τ_1 H locs hq_1 hR hS => ?_)
  refine W.widen (k := cells + 1) (n := slots + 6) (by omega) (by omega) ?_
  obtain ⟨rfl, hC9, hF9⟩ := hq_1
  have hCx := hCx.oth hF9 (by omega)
  have hCz : CI G τ_1.2 z (zs_18 a9 b9) := hC9
  refine W.eq (g2 := F0 mI 1379 ls [.int (ob_act (zs_17 a9 b9) 3 0 0 0 0 0).1]) rfl ?_
  refine W.eq (g2 := F0 mI 1379 ls [.int (-2)]) (by rw [z_52]) ?_
  refine lv_bipush (v := (-2)) hx hb dL_law_1379 (by decide) ?_
  refine lv_icmp_ne (tgt := 1548) hx hb dL_law_1381 (by decide) (fun c => absurd rfl c) (fun c => ?_)
  refine lv_aload hx hb dL_law_1384 (lv_at hl 0 rfl) ?_
  refine lv_iconst (v := 0) hx hb dL_law_1386 (by decide) ?_
  refine fx_call (vx_runV (As := [.int 0]) (rest := []) ⟨hx, hb, hml, hown, hts⟩ (k_reason G hL l hX0 τ_1 z (zs_18 a9 b9) hCz 0 6 (z_53)) (cwV 1 hts gL_law_X10_reason rfl rfl rfl (by decide +kernel) ⟨Nat.le_of_ble_eq_true rfl, Nat.le_of_ble_eq_true rfl⟩) (fw_preV hW hK hR hCz.at0 rfl) rfl rfl hl.1 rfl (lv_room (Nat.le_of_ble_eq_true rfl)) dL_law_1387 ⟨by show cells + 1 + 1 ≤ 677820; omega, by show slots + 6 + 6 ≤ 7068237; omega⟩) hS (fun E ce q9 τ9 H locs hx_1 hR hS hce hcv hcl => hx_1.elim) (fun v_2 τ_2 H locs hq_2 hR hS => ?_)
  refine W.widen (k := cells + 2) (n := slots + 12) (by omega) (by omega) ?_
  obtain ⟨rfl, hC9, hF9⟩ := hq_2
  have hCx := hCx.oth hF9 (by omega)
  have hCz : CI G τ_2.2 z (zs_18 a9 b9) := hC9
  refine W.eq (g2 := F0 mI 1390 ls [.int 6]) rfl ?_
  refine lv_bipush (v := 6) hx hb dL_law_1390 (by decide) ?_
  refine lv_icmp_ne (tgt := 1548) hx hb dL_law_1392 (by decide) (fun c => absurd rfl c) (fun c => ?_)
  refine lv_aload hx hb dL_law_1395 (lv_at hl 0 rfl) ?_
  refine lv_iconst (v := 1) hx hb dL_law_1397 (by decide) ?_
  refine fx_call (vx_runV (As := [.int 1]) (rest := []) ⟨hx, hb, hml, hown, hts⟩ (k_reason G hL l hX0 τ_2 z (zs_18 a9 b9) hCz 1 0 (z_54)) (cwV 1 hts gL_law_X10_reason rfl rfl rfl (by decide +kernel) ⟨Nat.le_of_ble_eq_true rfl, Nat.le_of_ble_eq_true rfl⟩) (fw_preV hW hK hR hCz.at0 rfl) rfl rfl hl.1 rfl (lv_room (Nat.le_of_ble_eq_true rfl)) dL_law_1398 ⟨by show cells + 2 + 1 ≤ 677820; omega, by show slots + 12 + 6 ≤ 7068237; omega⟩) hS (fun E ce q9 τ9 H locs hx_1 hR hS hce hcv hcl => hx_1.elim) (fun v_3 τ_3 H locs hq_3 hR hS => ?_)
  refine W.widen (k := cells + 3) (n := slots + 18) (by omega) (by omega) ?_
  obtain ⟨rfl, hC9, hF9⟩ := hq_3
  have hCx := hCx.oth hF9 (by omega)
  have hCz : CI G τ_3.2 z (zs_18 a9 b9) := hC9
  refine W.eq (g2 := F0 mI 1401 ls [.int 0]) rfl ?_
  refine lv_if_ne (tgt := 1548) hx hb dL_law_1401 (by decide) (fun c => absurd rfl c) (fun c => ?_)
  refine lv_aload hx hb dL_law_1404 (lv_at hl 0 rfl) ?_
  refine lv_iconst (v := 0) hx hb dL_law_1406 (by decide) ?_
  refine fx_call (vx_runV (As := [.int 0]) (rest := []) ⟨hx, hb, hml, hown, hts⟩ (k_apart G hL l hX0 τ_3 z (zs_18 a9 b9) hCz 0 0 (z_55.1) (z_55.2)) (cwV 1 hts gL_law_X10_apart rfl rfl rfl (by decide +kernel) ⟨Nat.le_of_ble_eq_true rfl, Nat.le_of_ble_eq_true rfl⟩) (fw_preV hW hK hR hCz.at0 rfl) rfl rfl hl.1 rfl (lv_room (Nat.le_of_ble_eq_true rfl)) dL_law_1407 ⟨by show cells + 3 + 1 ≤ 677820; omega, by show slots + 18 + 6 ≤ 7068237; omega⟩) hS (fun E ce q9 τ9 H locs hx_1 hR hS hce hcv hcl => hx_1.elim) (fun v_4 τ_4 H locs hq_4 hR hS => ?_)
  refine W.widen (k := cells + 4) (n := slots + 24) (by omega) (by omega) ?_
  obtain ⟨rfl, hC9, hF9⟩ := hq_4
  have hCx := hCx.oth hF9 (by omega)
  have hCz : CI G τ_4.2 z (zs_19 a9 b9) := hC9
  refine W.eq (g2 := F0 mI 1410 ls [.int 0]) rfl ?_
  refine lv_if_ne (tgt := 1548) hx hb dL_law_1410 (by decide) (fun c => absurd rfl c) (fun c => ?_)
  refine lv_aload hx hb dL_law_1413 (lv_at hl 0 rfl) ?_
  refine lv_iconst (v := 3) hx hb dL_law_1415 (by decide) ?_
  refine fx_call (vx_runV (As := [.int 3]) (rest := []) ⟨hx, hb, hml, hown, hts⟩ (k_account G hL l hX0 τ_4 z (zs_19 a9 b9) hCz 3 0 (z_56)) (cwV 1 hts gL_law_X10_account rfl rfl rfl (by decide +kernel) ⟨Nat.le_of_ble_eq_true rfl, Nat.le_of_ble_eq_true rfl⟩) (fw_preV hW hK hR hCz.at0 rfl) rfl rfl hl.1 rfl (lv_room (Nat.le_of_ble_eq_true rfl)) dL_law_1416 ⟨by show cells + 4 + 1 ≤ 677820; omega, by show slots + 24 + 6 ≤ 7068237; omega⟩) hS (fun E ce q9 τ9 H locs hx_1 hR hS hce hcv hcl => hx_1.elim) (fun v_5 τ_5 H locs hq_5 hR hS => ?_)
  refine W.widen (k := cells + 5) (n := slots + 30) (by omega) (by omega) ?_
  obtain ⟨rfl, hC9, hF9⟩ := hq_5
  have hCx := hCx.oth hF9 (by omega)
  have hCz : CI G τ_5.2 z (zs_19 a9 b9) := hC9
  refine W.eq (g2 := F0 mI 1419 ls [.int 0]) rfl ?_
  refine lv_if_ne (tgt := 1548) hx hb dL_law_1419 (by decide) (fun c => absurd rfl c) (fun c => ?_)
  refine lv_aload hx hb dL_law_1422 (lv_at hl 0 rfl) ?_
  refine lv_iconst (v := 0) hx hb dL_law_1424 (by decide) ?_
  refine fx_call (vx_runV (As := [.int 0]) (rest := []) ⟨hx, hb, hml, hown, hts⟩ (k_unfold G hL l hX0 τ_5 z (zs_19 a9 b9) hCz 0 3 (z_57.1) (z_57.2)) (cwV 1 hts gL_law_X10_unfold rfl rfl rfl (by decide +kernel) ⟨Nat.le_of_ble_eq_true rfl, Nat.le_of_ble_eq_true rfl⟩) (fw_preV hW hK hR hCz.at0 rfl) rfl rfl hl.1 rfl (lv_room (Nat.le_of_ble_eq_true rfl)) dL_law_1425 ⟨by show cells + 5 + 1 ≤ 677820; omega, by show slots + 30 + 6 ≤ 7068237; omega⟩) hS (fun E ce q9 τ9 H locs hx_1 hR hS hce hcv hcl => hx_1.elim) (fun v_6 τ_6 H locs hq_6 hR hS => ?_)
  refine W.widen (k := cells + 6) (n := slots + 36) (by omega) (by omega) ?_
  obtain ⟨rfl, hC9, hF9⟩ := hq_6
  have hCx := hCx.oth hF9 (by omega)
  have hCz : CI G τ_6.2 z (zs_20 a9 b9) := hC9
  refine W.eq (g2 := F0 mI 1428 ls [.int 3]) rfl ?_
  refine lv_iconst (v := 3) hx hb dL_law_1428 (by decide) ?_
  refine lv_icmp_ne (tgt := 1548) hx hb dL_law_1429 (by decide) (fun c => absurd rfl c) (fun c => ?_)
  refine lv_aload hx hb dL_law_1432 (lv_at hl 0 rfl) ?_
  refine lv_iconst (v := 1) hx hb dL_law_1434 (by decide) ?_
  refine lv_iconst (v := 0) hx hb dL_law_1435 (by decide) ?_
  refine fx_call (vx_runV (As := [.int 1, .int 0]) (rest := []) ⟨hx, hb, hml, hown, hts⟩ (k_bestLanguage G hL l hX0 τ_6 z (zs_20 a9 b9) hCz 1 0 0 (z_58)) (cwV 2 hts gL_law_X10_bestLanguage rfl rfl rfl (by decide +kernel) ⟨Nat.le_of_ble_eq_true rfl, Nat.le_of_ble_eq_true rfl⟩) (fw_preV hW hK hR hCz.at0 rfl) rfl rfl hl.1 rfl (lv_room (Nat.le_of_ble_eq_true rfl)) dL_law_1436 ⟨by show cells + 6 + 3 ≤ 677820; omega, by show slots + 36 + 18 ≤ 7068237; omega⟩) hS (fun E ce q9 τ9 H locs hx_1 hR hS hce hcv hcl => hx_1.elim) (fun v_7 τ_7 H locs hq_7 hR hS => ?_)
  refine W.widen (k := cells + 9) (n := slots + 54) (by omega) (by omega) ?_
  obtain ⟨rfl, hC9, hF9⟩ := hq_7
  have hCx := hCx.oth hF9 (by omega)
  have hCz : CI G τ_7.2 z (zs_20 a9 b9) := hC9
  refine W.eq (g2 := F0 mI 1439 ls [.int 0]) rfl ?_
  refine lv_if_ne (tgt := 1548) hx hb dL_law_1439 (by decide) (fun c => absurd rfl c) (fun c => ?_)
  refine lv_aload hx hb dL_law_1442 (lv_at hl 0 rfl) ?_
  refine lv_iconst (v := 1) hx hb dL_law_1444 (by decide) ?_
  refine lv_iconst (v := 0) hx hb dL_law_1445 (by decide) ?_
  refine fx_call (vx_runV (As := [.int 1, .int 0]) (rest := []) ⟨hx, hb, hml, hown, hts⟩ (k_learn G hL l hX0 τ_7 z (zs_20 a9 b9) hCz 1 0 1 (z_59.1) (z_59.2)) (cwV 2 hts gL_law_X10_learn rfl rfl rfl (by decide +kernel) ⟨Nat.le_of_ble_eq_true rfl, Nat.le_of_ble_eq_true rfl⟩) (fw_preV hW hK hR hCz.at0 rfl) rfl rfl hl.1 rfl (lv_room (Nat.le_of_ble_eq_true rfl)) dL_law_1446 ⟨by show cells + 9 + 1 ≤ 677820; omega, by show slots + 54 + 6 ≤ 7068237; omega⟩) hS (fun E ce q9 τ9 H locs hx_1 hR hS hce hcv hcl => hx_1.elim) (fun v_8 τ_8 H locs hq_8 hR hS => ?_)
  refine W.widen (k := cells + 10) (n := slots + 60) (by omega) (by omega) ?_
  obtain ⟨rfl, hC9, hF9⟩ := hq_8
  have hCx := hCx.oth hF9 (by omega)
  have hCz : CI G τ_8.2 z (zs_21 a9 b9) := hC9
  refine W.eq (g2 := F0 mI 1449 ls [.int 1]) rfl ?_
  refine lv_iconst (v := 1) hx hb dL_law_1449 (by decide) ?_
  refine lv_icmp_ne (tgt := 1548) hx hb dL_law_1450 (by decide) (fun c => absurd rfl c) (fun c => ?_)
  refine lv_aload hx hb dL_law_1453 (lv_at hl 0 rfl) ?_
  refine lv_iconst (v := 1) hx hb dL_law_1455 (by decide) ?_
  refine lv_iconst (v := 0) hx hb dL_law_1456 (by decide) ?_
  refine fx_call (vx_runV (As := [.int 1, .int 0]) (rest := []) ⟨hx, hb, hml, hown, hts⟩ (k_wouldSkip G hL l hX0 τ_8 z (zs_21 a9 b9) hCz 1 0 2 (z_60)) (cwV 2 hts gL_law_X10_wouldSkip rfl rfl rfl (by decide +kernel) ⟨Nat.le_of_ble_eq_true rfl, Nat.le_of_ble_eq_true rfl⟩) (fw_preV hW hK hR hCz.at0 rfl) rfl rfl hl.1 rfl (lv_room (Nat.le_of_ble_eq_true rfl)) dL_law_1457 ⟨by show cells + 10 + 2 ≤ 677820; omega, by show slots + 60 + 12 ≤ 7068237; omega⟩) hS (fun E ce q9 τ9 H locs hx_1 hR hS hce hcv hcl => hx_1.elim) (fun v_9 τ_9 H locs hq_9 hR hS => ?_)
  refine W.widen (k := cells + 12) (n := slots + 72) (by omega) (by omega) ?_
  obtain ⟨rfl, hC9, hF9⟩ := hq_9
  have hCx := hCx.oth hF9 (by omega)
  have hCz : CI G τ_9.2 z (zs_21 a9 b9) := hC9
  refine W.eq (g2 := F0 mI 1460 ls [.int 2]) rfl ?_
  refine lv_iconst (v := 2) hx hb dL_law_1460 (by decide) ?_
  refine lv_icmp_ne (tgt := 1548) hx hb dL_law_1461 (by decide) (fun c => absurd rfl c) (fun c => ?_)
  refine lv_aload hx hb dL_law_1464 (lv_at hl 0 rfl) ?_
  refine lv_iconst (v := 1) hx hb dL_law_1466 (by decide) ?_
  refine lv_iconst (v := 0) hx hb dL_law_1467 (by decide) ?_
  refine fx_call (vx_runV (As := [.int 1, .int 0]) (rest := []) ⟨hx, hb, hml, hown, hts⟩ (k_bestLanguage G hL l hX0 τ_9 z (zs_21 a9 b9) hCz 1 0 1 (z_61)) (cwV 2 hts gL_law_X10_bestLanguage rfl rfl rfl (by decide +kernel) ⟨Nat.le_of_ble_eq_true rfl, Nat.le_of_ble_eq_true rfl⟩) (fw_preV hW hK hR hCz.at0 rfl) rfl rfl hl.1 rfl (lv_room (Nat.le_of_ble_eq_true rfl)) dL_law_1468 ⟨by show cells + 12 + 3 ≤ 677820; omega, by show slots + 72 + 18 ≤ 7068237; omega⟩) hS (fun E ce q9 τ9 H locs hx_1 hR hS hce hcv hcl => hx_1.elim) (fun v_10 τ_10 H locs hq_10 hR hS => ?_)
  refine W.widen (k := cells + 15) (n := slots + 90) (by omega) (by omega) ?_
  obtain ⟨rfl, hC9, hF9⟩ := hq_10
  have hCx := hCx.oth hF9 (by omega)
  have hCz : CI G τ_10.2 z (zs_21 a9 b9) := hC9
  refine W.eq (g2 := F0 mI 1471 ls [.int 1]) rfl ?_
  refine lv_iconst (v := 1) hx hb dL_law_1471 (by decide) ?_
  refine lv_icmp_ne (tgt := 1548) hx hb dL_law_1472 (by decide) (fun c => absurd rfl c) (fun c => ?_)
  refine lv_aload hx hb dL_law_1475 (lv_at hl 0 rfl) ?_
  refine lv_iconst (v := 1) hx hb dL_law_1477 (by decide) ?_
  refine lv_iconst (v := 0) hx hb dL_law_1478 (by decide) ?_
  refine fx_call (vx_runV (As := [.int 1, .int 0]) (rest := []) ⟨hx, hb, hml, hown, hts⟩ (k_build G hL l hX0 τ_10 z (zs_21 a9 b9) hCz 1 0 2 (z_62.1) (z_62.2)) (cwV 2 hts gL_law_X10_build rfl rfl rfl (by decide +kernel) ⟨Nat.le_of_ble_eq_true rfl, Nat.le_of_ble_eq_true rfl⟩) (fw_preV hW hK hR hCz.at0 rfl) rfl rfl hl.1 rfl (lv_room (Nat.le_of_ble_eq_true rfl)) dL_law_1479 ⟨by show cells + 15 + 1 ≤ 677820; omega, by show slots + 90 + 6 ≤ 7068237; omega⟩) hS (fun E ce q9 τ9 H locs hx_1 hR hS hce hcv hcl => hx_1.elim) (fun v_11 τ_11 H locs hq_11 hR hS => ?_)
  refine W.widen (k := cells + 16) (n := slots + 96) (by omega) (by omega) ?_
  obtain ⟨rfl, hC9, hF9⟩ := hq_11
  have hCx := hCx.oth hF9 (by omega)
  have hCz : CI G τ_11.2 z (zs_22 a9 b9) := hC9
  refine W.eq (g2 := F0 mI 1482 ls [.int 2]) rfl ?_
  refine lv_iconst (v := 2) hx hb dL_law_1482 (by decide) ?_
  refine lv_icmp_ne (tgt := 1548) hx hb dL_law_1483 (by decide) (fun c => absurd rfl c) (fun c => ?_)
  refine lv_aload hx hb dL_law_1486 (lv_at hl 0 rfl) ?_
  refine lv_iload hx hb dL_law_1488 (lv_at hl 1 rfl) ?_
  refine fx_call (vx_runV (As := [.int (nI ((b9 + 2) % 6))]) (rest := []) ⟨hx, hb, hml, hown, hts⟩ (k_tin G hL l hX0 τ_11 z (zs_22 a9 b9) hCz (nI ((b9 + 2) % 6)) 4 (z_63)) (cwV 1 hts gL_law_X10_tin rfl rfl rfl (by decide +kernel) ⟨Nat.le_of_ble_eq_true rfl, Nat.le_of_ble_eq_true rfl⟩) (fw_preV hW hK hR hCz.at0 rfl) rfl rfl hl.1 rfl (lv_room (Nat.le_of_ble_eq_true rfl)) dL_law_1490 ⟨by show cells + 16 + 1 ≤ 677820; omega, by show slots + 96 + 6 ≤ 7068237; omega⟩) hS (fun E ce q9 τ9 H locs hx_1 hR hS hce hcv hcl => hx_1.elim) (fun v_12 τ_12 H locs hq_12 hR hS => ?_)
  refine W.widen (k := cells + 17) (n := slots + 102) (by omega) (by omega) ?_
  obtain ⟨rfl, hC9, hF9⟩ := hq_12
  have hCx := hCx.oth hF9 (by omega)
  have hCz : CI G τ_12.2 z (zs_22 a9 b9) := hC9
  refine W.eq (g2 := F0 mI 1493 ls [.int 4]) rfl ?_
  refine lv_iconst (v := 4) hx hb dL_law_1493 (by decide) ?_
  refine lv_icmp_ne (tgt := 1548) hx hb dL_law_1494 (by decide) (fun c => absurd rfl c) (fun c => ?_)
  refine lv_aload hx hb dL_law_1497 (lv_at hl 0 rfl) ?_
  refine lv_iconst (v := 3) hx hb dL_law_1499 (by decide) ?_
  refine lv_iconst (v := 0) hx hb dL_law_1500 (by decide) ?_
  refine fx_call (vx_runV (As := [.int 3, .int 0]) (rest := []) ⟨hx, hb, hml, hown, hts⟩ (k_ranked G hL l hX0 τ_12 z (zs_22 a9 b9) hCz 3 0 0 (z_64)) (cwV 2 hts gL_law_X10_ranked rfl rfl rfl (by decide +kernel) ⟨Nat.le_of_ble_eq_true rfl, Nat.le_of_ble_eq_true rfl⟩) (fw_preV hW hK hR hCz.at0 rfl) rfl rfl hl.1 rfl (lv_room (Nat.le_of_ble_eq_true rfl)) dL_law_1501 ⟨by show cells + 17 + 1 ≤ 677820; omega, by show slots + 102 + 6 ≤ 7068237; omega⟩) hS (fun E ce q9 τ9 H locs hx_1 hR hS hce hcv hcl => hx_1.elim) (fun v_13 τ_13 H locs hq_13 hR hS => ?_)
  refine W.widen (k := cells + 18) (n := slots + 108) (by omega) (by omega) ?_
  obtain ⟨rfl, hC9, hF9⟩ := hq_13
  have hCx := hCx.oth hF9 (by omega)
  have hCz : CI G τ_13.2 z (zs_22 a9 b9) := hC9
  refine W.eq (g2 := F0 mI 1504 ls [.int 0]) rfl ?_
  refine lv_if_ne (tgt := 1548) hx hb dL_law_1504 (by decide) (fun c => absurd rfl c) (fun c => ?_)
  refine lv_aload hx hb dL_law_1507 (lv_at hl 0 rfl) ?_
  refine lv_iconst (v := 0) hx hb dL_law_1509 (by decide) ?_
  refine fx_call (vx_runV (As := [.int 0]) (rest := []) ⟨hx, hb, hml, hown, hts⟩ (k_apart G hL l hX0 τ_13 z (zs_22 a9 b9) hCz 0 4 (z_65.1) (z_65.2)) (cwV 1 hts gL_law_X10_apart rfl rfl rfl (by decide +kernel) ⟨Nat.le_of_ble_eq_true rfl, Nat.le_of_ble_eq_true rfl⟩) (fw_preV hW hK hR hCz.at0 rfl) rfl rfl hl.1 rfl (lv_room (Nat.le_of_ble_eq_true rfl)) dL_law_1510 ⟨by show cells + 18 + 1 ≤ 677820; omega, by show slots + 108 + 6 ≤ 7068237; omega⟩) hS (fun E ce q9 τ9 H locs hx_1 hR hS hce hcv hcl => hx_1.elim) (fun v_14 τ_14 H locs hq_14 hR hS => ?_)
  refine W.widen (k := cells + 19) (n := slots + 114) (by omega) (by omega) ?_
  obtain ⟨rfl, hC9, hF9⟩ := hq_14
  have hCx := hCx.oth hF9 (by omega)
  have hCz : CI G τ_14.2 z (zs_23 a9 b9) := hC9
  refine W.eq (g2 := F0 mI 1513 ls [.int 4]) rfl ?_
  refine lv_iconst (v := 4) hx hb dL_law_1513 (by decide) ?_
  refine lv_icmp_ne (tgt := 1548) hx hb dL_law_1514 (by decide) (fun c => absurd rfl c) (fun c => ?_)
  refine lv_aload hx hb dL_law_1517 (lv_at hl 0 rfl) ?_
  refine lv_iload hx hb dL_law_1519 (lv_at hl 1 rfl) ?_
  refine fx_call (vx_runV (As := [.int (nI ((b9 + 2) % 6))]) (rest := []) ⟨hx, hb, hml, hown, hts⟩ (k_tin G hL l hX0 τ_14 z (zs_23 a9 b9) hCz (nI ((b9 + 2) % 6)) 0 (z_66)) (cwV 1 hts gL_law_X10_tin rfl rfl rfl (by decide +kernel) ⟨Nat.le_of_ble_eq_true rfl, Nat.le_of_ble_eq_true rfl⟩) (fw_preV hW hK hR hCz.at0 rfl) rfl rfl hl.1 rfl (lv_room (Nat.le_of_ble_eq_true rfl)) dL_law_1521 ⟨by show cells + 19 + 1 ≤ 677820; omega, by show slots + 114 + 6 ≤ 7068237; omega⟩) hS (fun E ce q9 τ9 H locs hx_1 hR hS hce hcv hcl => hx_1.elim) (fun v_15 τ_15 H locs hq_15 hR hS => ?_)
  refine W.widen (k := cells + 20) (n := slots + 120) (by omega) (by omega) ?_
  obtain ⟨rfl, hC9, hF9⟩ := hq_15
  have hCx := hCx.oth hF9 (by omega)
  have hCz : CI G τ_15.2 z (zs_23 a9 b9) := hC9
  refine W.eq (g2 := F0 mI 1524 ls [.int 0]) rfl ?_
  refine lv_if_ne (tgt := 1548) hx hb dL_law_1524 (by decide) (fun c => absurd rfl c) (fun c => ?_)
  refine lv_aload hx hb dL_law_1527 (lv_at hl 0 rfl) ?_
  refine lv_iconst (v := 5) hx hb dL_law_1529 (by decide) ?_
  refine fx_call (vx_runV (As := [.int 5]) (rest := []) ⟨hx, hb, hml, hown, hts⟩ (k_account G hL l hX0 τ_15 z (zs_23 a9 b9) hCz 5 2 (z_67)) (cwV 1 hts gL_law_X10_account rfl rfl rfl (by decide +kernel) ⟨Nat.le_of_ble_eq_true rfl, Nat.le_of_ble_eq_true rfl⟩) (fw_preV hW hK hR hCz.at0 rfl) rfl rfl hl.1 rfl (lv_room (Nat.le_of_ble_eq_true rfl)) dL_law_1530 ⟨by show cells + 20 + 1 ≤ 677820; omega, by show slots + 120 + 6 ≤ 7068237; omega⟩) hS (fun E ce q9 τ9 H locs hx_1 hR hS hce hcv hcl => hx_1.elim) (fun v_16 τ_16 H locs hq_16 hR hS => ?_)
  refine W.widen (k := cells + 21) (n := slots + 126) (by omega) (by omega) ?_
  obtain ⟨rfl, hC9, hF9⟩ := hq_16
  have hCx := hCx.oth hF9 (by omega)
  have hCz : CI G τ_16.2 z (zs_23 a9 b9) := hC9
  refine W.eq (g2 := F0 mI 1533 ls [.int 2]) rfl ?_
  refine lv_iconst (v := 2) hx hb dL_law_1533 (by decide) ?_
  refine lv_icmp_ne (tgt := 1548) hx hb dL_law_1534 (by decide) (fun c => absurd rfl c) (fun c => ?_)
  refine lv_aload hx hb dL_law_1537 (lv_at hl 0 rfl) ?_
  refine lv_bipush (v := 8) hx hb dL_law_1539 (by decide) ?_
  refine fx_call (vx_runV (As := [.int 8]) (rest := []) ⟨hx, hb, hml, hown, hts⟩ (k_account G hL l hX0 τ_16 z (zs_23 a9 b9) hCz 8 2 (z_68)) (cwV 1 hts gL_law_X10_account rfl rfl rfl (by decide +kernel) ⟨Nat.le_of_ble_eq_true rfl, Nat.le_of_ble_eq_true rfl⟩) (fw_preV hW hK hR hCz.at0 rfl) rfl rfl hl.1 rfl (lv_room (Nat.le_of_ble_eq_true rfl)) dL_law_1541 ⟨by show cells + 21 + 1 ≤ 677820; omega, by show slots + 126 + 6 ≤ 7068237; omega⟩) hS (fun E ce q9 τ9 H locs hx_1 hR hS hce hcv hcl => hx_1.elim) (fun v_17 τ_17 H locs hq_17 hR hS => ?_)
  refine W.widen (k := cells + 22) (n := slots + 132) (by omega) (by omega) ?_
  obtain ⟨rfl, hC9, hF9⟩ := hq_17
  have hCx := hCx.oth hF9 (by omega)
  have hCz : CI G τ_17.2 z (zs_23 a9 b9) := hC9
  refine W.eq (g2 := F0 mI 1544 ls [.int 2]) rfl ?_
  refine lv_iconst (v := 2) hx hb dL_law_1544 (by decide) ?_
  refine lv_icmp_eq (tgt := 1550) hx hb dL_law_1545 (by decide) (fun c => ?_) (fun c => absurd rfl c)
  exact kk τ_17 H locs ls hCx hCz hR hS hl
