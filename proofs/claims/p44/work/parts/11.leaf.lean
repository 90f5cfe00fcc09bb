/-! ===== printed by program (wip/whole/gen): the leaflet's reads ===== -/
set_option maxHeartbeats 4000000 in
set_option maxRecDepth 100000 in
theorem c_X10_isWithin (G : FG) (hL : FL G) (l : Launch) (ω : FWd) (x lo hi : Int32) : FMet G l yX10_isWithin wsX10_isWithin ({ frames := 0, cells := 0, slots := 0, locals := 0 } : Room) [.int x, .int lo, .int hi] ω (rI (bz (inB x lo hi)) ω) 0 0 := by
  refine fw_ofW (cc := cX10_isWithin) (maxL := 3) (ret := (some .boolean)) (by decide) rfl (Nat.le_of_ble_eq_true rfl) ?_
  intro pP eE sS mI ar9 bl9 meth cD ls hx hb hr hlocks hml hts hown hnm hW hR hl
  have hK := hL.K hW
  have hS : va_S (fwA G) sS.heap sS.heap [] := va_S.rf
  have hl : lv_has ls 3 [(0, .int x), (1, .int lo), (2, .int hi)] := hl
  refine lv_iload_n hx hb dX10_isWithin_0 rfl (lv_at hl 0 rfl) ?_
  refine lv_iload_n hx hb dX10_isWithin_1 rfl (lv_at hl 1 rfl) ?_
  refine lv_icmp_lt (tgt := 14) hx hb dX10_isWithin_2 (by decide) (fun c_1 => ?_) (fun c_1 => ?_)
  · skip
    refine lv_iconst (v := 0) hx hb dX10_isWithin_14 (by decide) ?_
    refine fw_zret hx hb hr rfl hlocks hR hS dX10_isWithin_15 (rI_mk ?_)
    exact (bz_0 (by first | rfl | assumption | (simp_all [inB, hasB, usesB]; done) | omega)).symm
  · skip
    refine lv_iload_n hx hb dX10_isWithin_5 rfl (lv_at hl 0 rfl) ?_
    refine lv_iload_n hx hb dX10_isWithin_6 rfl (lv_at hl 2 rfl) ?_
    refine lv_icmp_gt (tgt := 14) hx hb dX10_isWithin_7 (by decide) (fun c_2 => ?_) (fun c_2 => ?_)
    · skip
      refine lv_iconst (v := 0) hx hb dX10_isWithin_14 (by decide) ?_
      refine fw_zret hx hb hr rfl hlocks hR hS dX10_isWithin_15 (rI_mk ?_)
      exact (bz_0 (by first | rfl | assumption | (simp_all [inB, hasB, usesB]; done) | omega)).symm
    · skip
      refine lv_iconst (v := 1) hx hb dX10_isWithin_10 (by decide) ?_
      refine lv_goto (tgt := 15) hx hb dX10_isWithin_11 (by decide) ?_
      refine fw_zret hx hb hr rfl hlocks hR hS dX10_isWithin_15 (rI_mk ?_)
      exact (bz_1 (by first | rfl | assumption | (simp_all [inB, hasB, usesB]; done) | omega)).symm
set_option maxHeartbeats 4000000 in
set_option maxRecDepth 100000 in
theorem c_X10_isShelf (G : FG) (hL : FL G) (l : Launch) (ω : FWd) (x : Int32) : FMet G l yX10_isShelf wsX10_isShelf ({ frames := 1, cells := 0, slots := 0, locals := 22 } : Room) [.int x] ω (rI (bz (inB x 0 3)) ω) 0 0 := by
  refine fw_ofW (cc := cX10_isShelf) (maxL := 1) (ret := (some .boolean)) (by decide) rfl (Nat.le_of_ble_eq_true rfl) ?_
  intro pP eE sS mI ar9 bl9 meth cD ls hx hb hr hlocks hml hts hown hnm hW hR hl
  have hK := hL.K hW
  have hS : va_S (fwA G) sS.heap sS.heap [] := va_S.rf
  have hl : lv_has ls 1 [(0, .int x)] := hl
  refine lv_iload_n hx hb dX10_isShelf_0 rfl (lv_at hl 0 rfl) ?_
  refine lv_iconst (v := 0) hx hb dX10_isShelf_1 (by decide) ?_
  refine lv_iconst (v := 3) hx hb dX10_isShelf_2 (by decide) ?_
  refine fw_call (va_runS (As := [.int x, .int 0, .int 3]) (rest := []) ⟨hx, hb, hml, hown, hts⟩ (c_X10_isWithin G hL l ω x 0 3) (va_cwS 3 hts gX10_isShelf_X10_isWithin rfl rfl rfl (by decide +kernel) ⟨Nat.le_of_ble_eq_true rfl, Nat.le_of_ble_eq_true rfl⟩) (fw_preS hW hR) rfl rfl hl.1 rfl (lv_room (Nat.le_of_ble_eq_true rfl)) dX10_isShelf_3 ⟨Nat.le_of_ble_eq_true rfl, Nat.le_of_ble_eq_true rfl⟩) hS (fun v_1 ω_2 H locs hq_3 hR hS => ?_)
  obtain ⟨rfl, hq_3⟩ := hq_3
  rw [hq_3] at hR
  refine W.eq (g2 := F0 mI 6 ls [.int (bz (inB x 0 3))]) rfl ?_
  refine fw_zret hx hb hr narrow_bz hlocks hR hS dX10_isShelf_6 (rI_mk ?_)
  exact rfl
set_option maxHeartbeats 4000000 in
set_option maxRecDepth 100000 in
theorem c_X10_contains (G : FG) (hL : FL G) (l : Launch) (ω : FWd) (x y : Int32) : FMet G l yX10_contains wsX10_contains ({ frames := 0, cells := 0, slots := 0, locals := 0 } : Room) [.int x, .int y] ω (rI (bz (hasB x y)) ω) 0 0 := by
  refine fw_ofW (cc := cX10_contains) (maxL := 2) (ret := (some .boolean)) (by decide) rfl (Nat.le_of_ble_eq_true rfl) ?_
  intro pP eE sS mI ar9 bl9 meth cD ls hx hb hr hlocks hml hts hown hnm hW hR hl
  have hK := hL.K hW
  have hS : va_S (fwA G) sS.heap sS.heap [] := va_S.rf
  have hl : lv_has ls 2 [(0, .int x), (1, .int y)] := hl
  refine lv_iload_n hx hb dX10_contains_0 rfl (lv_at hl 0 rfl) ?_
  refine lv_iload_n hx hb dX10_contains_1 rfl (lv_at hl 1 rfl) ?_
  refine lv_ishr hx hb dX10_contains_2 ?_
  refine lv_iconst (v := 1) hx hb dX10_contains_3 (by decide) ?_
  refine lv_iand hx hb dX10_contains_4 ?_
  refine lv_if_eq (tgt := 12) hx hb dX10_contains_5 (by decide) (fun c_1 => ?_) (fun c_1 => ?_)
  · skip
    refine lv_iconst (v := 0) hx hb dX10_contains_12 (by decide) ?_
    refine fw_zret hx hb hr rfl hlocks hR hS dX10_contains_13 (rI_mk ?_)
    exact (bz_0 (by first | rfl | assumption | (simp_all [inB, hasB, usesB]; done) | omega)).symm
  · skip
    refine lv_iconst (v := 1) hx hb dX10_contains_8 (by decide) ?_
    refine lv_goto (tgt := 13) hx hb dX10_contains_9 (by decide) ?_
    refine fw_zret hx hb hr rfl hlocks hR hS dX10_contains_13 (rI_mk ?_)
    exact (bz_1 (by first | rfl | assumption | (simp_all [inB, hasB, usesB]; done) | omega)).symm
set_option maxHeartbeats 4000000 in
set_option maxRecDepth 100000 in
theorem c_J6_bitCount_0f7a4 (G : FG) (hL : FL G) (l : Launch) (ω : FWd) (x : Int32) : FMet G l yJ6_bitCount_0f7a4 wsJ6_bitCount_0f7a4 ({ frames := 0, cells := 0, slots := 0, locals := 0 } : Room) [.int x] ω (rI (popF x) ω) 0 0 := by
  refine fw_ofW (cc := cJ6_bitCount_0f7a4) (maxL := 1) (ret := (some .int)) (by decide) rfl (Nat.le_of_ble_eq_true rfl) ?_
  intro pP eE sS mI ar9 bl9 meth cD ls hx hb hr hlocks hml hts hown hnm hW hR hl
  have hK := hL.K hW
  have hS : va_S (fwA G) sS.heap sS.heap [] := va_S.rf
  have hl : lv_has ls 1 [(0, .int x)] := hl
  refine lv_iload_n hx hb dJ6_bitCount_0f7a4_0 rfl (lv_at hl 0 rfl) ?_
  refine lv_iload_n hx hb dJ6_bitCount_0f7a4_1 rfl (lv_at hl 0 rfl) ?_
  refine lv_iconst (v := 1) hx hb dJ6_bitCount_0f7a4_2 (by decide) ?_
  refine lv_iushr hx hb dJ6_bitCount_0f7a4_3 rfl ?_
  refine lv_ldcw hx hb hown (hts (.constant RJ6 265 (1431655765)) (by decide +kernel)) dJ6_bitCount_0f7a4_4 ?_
  refine lv_iand hx hb dJ6_bitCount_0f7a4_7 ?_
  refine lv_isub hx hb dJ6_bitCount_0f7a4_8 ?_
  refine lv_topi (fun x_1 ex_1 => ?_)
  refine lv_istore_n (lv' := [(0, .int x_1)]) hx hb dJ6_bitCount_0f7a4_9 rfl hl (by decide) rfl (fun ls hl => ?_)
  refine lv_iload_n hx hb dJ6_bitCount_0f7a4_10 rfl (lv_at hl 0 rfl) ?_
  refine lv_ldcw hx hb hown (hts (.constant RJ6 266 (858993459)) (by decide +kernel)) dJ6_bitCount_0f7a4_11 ?_
  refine lv_iand hx hb dJ6_bitCount_0f7a4_14 ?_
  refine lv_iload_n hx hb dJ6_bitCount_0f7a4_15 rfl (lv_at hl 0 rfl) ?_
  refine lv_iconst (v := 2) hx hb dJ6_bitCount_0f7a4_16 (by decide) ?_
  refine lv_iushr hx hb dJ6_bitCount_0f7a4_17 rfl ?_
  refine lv_ldcw hx hb hown (hts (.constant RJ6 266 (858993459)) (by decide +kernel)) dJ6_bitCount_0f7a4_18 ?_
  refine lv_iand hx hb dJ6_bitCount_0f7a4_21 ?_
  refine lv_iadd hx hb dJ6_bitCount_0f7a4_22 ?_
  refine lv_topi (fun x_2 ex_2 => ?_)
  refine lv_istore_n (lv' := [(0, .int x_2)]) hx hb dJ6_bitCount_0f7a4_23 rfl hl (by decide) rfl (fun ls hl => ?_)
  refine lv_iload_n hx hb dJ6_bitCount_0f7a4_24 rfl (lv_at hl 0 rfl) ?_
  refine lv_iload_n hx hb dJ6_bitCount_0f7a4_25 rfl (lv_at hl 0 rfl) ?_
  refine lv_iconst (v := 4) hx hb dJ6_bitCount_0f7a4_26 (by decide) ?_
  refine lv_iushr hx hb dJ6_bitCount_0f7a4_27 rfl ?_
  refine lv_iadd hx hb dJ6_bitCount_0f7a4_28 ?_
  refine lv_ldcw hx hb hown (hts (.constant RJ6 267 (252645135)) (by decide +kernel)) dJ6_bitCount_0f7a4_29 ?_
  refine lv_iand hx hb dJ6_bitCount_0f7a4_32 ?_
  refine lv_topi (fun x_3 ex_3 => ?_)
  refine lv_istore_n (lv' := [(0, .int x_3)]) hx hb dJ6_bitCount_0f7a4_33 rfl hl (by decide) rfl (fun ls hl => ?_)
  refine lv_iload_n hx hb dJ6_bitCount_0f7a4_34 rfl (lv_at hl 0 rfl) ?_
  refine lv_iload_n hx hb dJ6_bitCount_0f7a4_35 rfl (lv_at hl 0 rfl) ?_
  refine lv_bipush (v := 8) hx hb dJ6_bitCount_0f7a4_36 (by decide) ?_
  refine lv_iushr hx hb dJ6_bitCount_0f7a4_38 rfl ?_
  refine lv_iadd hx hb dJ6_bitCount_0f7a4_39 ?_
  refine lv_topi (fun x_4 ex_4 => ?_)
  refine lv_istore_n (lv' := [(0, .int x_4)]) hx hb dJ6_bitCount_0f7a4_40 rfl hl (by decide) rfl (fun ls hl => ?_)
  refine lv_iload_n hx hb dJ6_bitCount_0f7a4_41 rfl (lv_at hl 0 rfl) ?_
  refine lv_iload_n hx hb dJ6_bitCount_0f7a4_42 rfl (lv_at hl 0 rfl) ?_
  refine lv_bipush (v := 16) hx hb dJ6_bitCount_0f7a4_43 (by decide) ?_
  refine lv_iushr hx hb dJ6_bitCount_0f7a4_45 rfl ?_
  refine lv_iadd hx hb dJ6_bitCount_0f7a4_46 ?_
  refine lv_topi (fun x_5 ex_5 => ?_)
  refine lv_istore_n (lv' := [(0, .int x_5)]) hx hb dJ6_bitCount_0f7a4_47 rfl hl (by decide) rfl (fun ls hl => ?_)
  refine lv_iload_n hx hb dJ6_bitCount_0f7a4_48 rfl (lv_at hl 0 rfl) ?_
  refine lv_bipush (v := 63) hx hb dJ6_bitCount_0f7a4_49 (by decide) ?_
  refine lv_iand hx hb dJ6_bitCount_0f7a4_51 ?_
  refine fw_iret hx hb hr hlocks hR hS dJ6_bitCount_0f7a4_52 (rI_mk ?_)
  subst_vars
  rfl
set_option maxHeartbeats 4000000 in
set_option maxRecDepth 100000 in
theorem c_X5_isBuilt (G : FG) (hL : FL G) (l : Launch) (ω : FWd) (a k : Nat) (v : Nat → Nat → Int32) (hf : LeafS G ω.2 a v k) : FMet G l yX5_isBuilt wsX5_isBuilt ({ frames := 0, cells := 0, slots := 0, locals := 0 } : Room) [.ref a] ω (rI (bz (¬ v 6 k - 1 = (-1))) ω) 0 0 := by
  refine fw_ofW (cc := cX5_isBuilt) (maxL := 1) (ret := (some .boolean)) (by decide) rfl (Nat.le_of_ble_eq_true rfl) ?_
  intro pP eE sS mI ar9 bl9 meth cD ls hx hb hr hlocks hml hts hown hnm hW hR hl
  have hK := hL.K hW
  have hS : va_S (fwA G) sS.heap sS.heap [] := va_S.rf
  have hin5 : ∀ w ∈ u_ws RX5 TX5 9, w ∈ wsX5_isBuilt := by decide +kernel
  have hl : lv_has ls 1 [(0, .ref a)] := hl
  obtain ⟨h0, h1, h2, h3, h4⟩ := id hf
  refine lv_aload_n hx hb dX5_isBuilt_0 rfl (lv_at hl 0 rfl) ?_
  refine fw_get (v := .int (v 6 k - 1)) (C := RX5) (T := TX5) (N := 9) hx hb hts hin5 hown hK hR h0 rfl 3 (by decide) (hts (.fieldLink RX5 34 "UnreadLeaflets$Leaflet" "builder" "I") (by decide +kernel)) rfl dX5_isBuilt_1 ?_
  refine lv_iconst (v := (-1)) hx hb dX5_isBuilt_4 (by decide) ?_
  refine lv_icmp_eq (tgt := 12) hx hb dX5_isBuilt_5 (by decide) (fun c_1 => ?_) (fun c_1 => ?_)
  · skip
    refine lv_iconst (v := 0) hx hb dX5_isBuilt_12 (by decide) ?_
    refine fw_zret hx hb hr rfl hlocks hR hS dX5_isBuilt_13 (rI_mk ?_)
    exact (bz_0 (by first | rfl | assumption | (simp_all [inB, hasB, usesB]; done) | omega)).symm
  · skip
    refine lv_iconst (v := 1) hx hb dX5_isBuilt_8 (by decide) ?_
    refine lv_goto (tgt := 13) hx hb dX5_isBuilt_9 (by decide) ?_
    refine fw_zret hx hb hr rfl hlocks hR hS dX5_isBuilt_13 (rI_mk ?_)
    exact (bz_1 (by first | rfl | assumption | (simp_all [inB, hasB, usesB]; done) | omega)).symm
set_option maxHeartbeats 4000000 in
set_option maxRecDepth 100000 in
theorem c_X5_isSkipped (G : FG) (hL : FL G) (l : Launch) (ω : FWd) (a k : Nat) (v : Nat → Nat → Int32) (hf : LeafS G ω.2 a v k) (m : Int32) : FMet G l yX5_isSkipped wsX5_isSkipped ({ frames := 1, cells := 0, slots := 0, locals := 21 } : Room) [.ref a, .int m] ω (rI (bz (hasB (v 7 k) m)) ω) 0 0 := by
  refine fw_ofW (cc := cX5_isSkipped) (maxL := 2) (ret := (some .boolean)) (by decide) rfl (Nat.le_of_ble_eq_true rfl) ?_
  intro pP eE sS mI ar9 bl9 meth cD ls hx hb hr hlocks hml hts hown hnm hW hR hl
  have hK := hL.K hW
  have hS : va_S (fwA G) sS.heap sS.heap [] := va_S.rf
  have hin5 : ∀ w ∈ u_ws RX5 TX5 9, w ∈ wsX5_isSkipped := by decide +kernel
  have hl : lv_has ls 2 [(0, .ref a), (1, .int m)] := hl
  obtain ⟨h0, h1, h2, h3, h4⟩ := id hf
  refine lv_aload_n hx hb dX5_isSkipped_0 rfl (lv_at hl 0 rfl) ?_
  refine fw_get (v := .int (v 7 k)) (C := RX5) (T := TX5) (N := 9) hx hb hts hin5 hown hK hR h0 rfl 4 (by decide) (hts (.fieldLink RX5 37 "UnreadLeaflets$Leaflet" "skipped" "I") (by decide +kernel)) rfl dX5_isSkipped_1 ?_
  refine lv_iload_n hx hb dX5_isSkipped_4 rfl (lv_at hl 1 rfl) ?_
  refine fw_call (va_runSN (As := [.int (v 7 k), .int m]) (rest := []) ⟨hx, hb, hml, hown, hts⟩ (c_X10_contains G hL l ω (v 7 k) m) ⟨va_cnB 2 hts gX5_isSkipped_X10_contains_n50 rfl rfl rfl (hL.N hW (hh := RX10) (by decide +kernel)) (hts (.initialized RX10) (by decide +kernel)) (by decide +kernel) ⟨Nat.le_of_ble_eq_true rfl, Nat.le_of_ble_eq_true rfl⟩, hts (.static yX10_contains) (by decide +kernel), trivial⟩ (fw_preS hW hR) rfl rfl hl.1 rfl (lv_room (Nat.le_of_ble_eq_true rfl)) dX5_isSkipped_5 ⟨Nat.le_of_ble_eq_true rfl, Nat.le_of_ble_eq_true rfl⟩) hS (fun v_1 ω_2 H locs hq_3 hR hS => ?_)
  obtain ⟨rfl, hq_3⟩ := hq_3
  rw [hq_3] at hR
  refine W.eq (g2 := F0 mI 8 ls [.int (bz (hasB (v 7 k) m))]) rfl ?_
  refine fw_zret hx hb hr narrow_bz hlocks hR hS dX5_isSkipped_8 (rI_mk ?_)
  exact rfl
set_option maxHeartbeats 4000000 in
set_option maxRecDepth 100000 in
theorem c_X5_skippedSteps (G : FG) (hL : FL G) (l : Launch) (ω : FWd) (a k : Nat) (v : Nat → Nat → Int32) (hf : LeafS G ω.2 a v k) : FMet G l yX5_skippedSteps wsX5_skippedSteps ({ frames := 1, cells := 0, slots := 0, locals := 20 } : Room) [.ref a] ω (rI (popF (v 7 k)) ω) 0 0 := by
  refine fw_ofW (cc := cX5_skippedSteps) (maxL := 1) (ret := (some .int)) (by decide) rfl (Nat.le_of_ble_eq_true rfl) ?_
  intro pP eE sS mI ar9 bl9 meth cD ls hx hb hr hlocks hml hts hown hnm hW hR hl
  have hK := hL.K hW
  have hS : va_S (fwA G) sS.heap sS.heap [] := va_S.rf
  have hin5 : ∀ w ∈ u_ws RX5 TX5 9, w ∈ wsX5_skippedSteps := by decide +kernel
  have hl : lv_has ls 1 [(0, .ref a)] := hl
  obtain ⟨h0, h1, h2, h3, h4⟩ := id hf
  refine lv_aload_n hx hb dX5_skippedSteps_0 rfl (lv_at hl 0 rfl) ?_
  refine fw_get (v := .int (v 7 k)) (C := RX5) (T := TX5) (N := 9) hx hb hts hin5 hown hK hR h0 rfl 4 (by decide) (hts (.fieldLink RX5 37 "UnreadLeaflets$Leaflet" "skipped" "I") (by decide +kernel)) rfl dX5_skippedSteps_1 ?_
  refine fw_call (va_runS (As := [.int (v 7 k)]) (rest := []) ⟨hx, hb, hml, hown, hts⟩ (c_J6_bitCount_0f7a4 G hL l ω (v 7 k)) (va_cwS 1 hts gX5_skippedSteps_J6_bitCount_0f7a4 rfl rfl rfl (by decide +kernel) ⟨Nat.le_of_ble_eq_true rfl, Nat.le_of_ble_eq_true rfl⟩) (fw_preS hW hR) rfl rfl hl.1 rfl (lv_room (Nat.le_of_ble_eq_true rfl)) dX5_skippedSteps_4 ⟨Nat.le_of_ble_eq_true rfl, Nat.le_of_ble_eq_true rfl⟩) hS (fun v_1 ω_2 H locs hq_3 hR hS => ?_)
  obtain ⟨rfl, hq_3⟩ := hq_3
  rw [hq_3] at hR
  refine W.eq (g2 := F0 mI 7 ls [.int (popF (v 7 k))]) rfl ?_
  refine fw_iret hx hb hr hlocks hR hS dX5_skippedSteps_7 (rI_mk ?_)
  exact rfl
set_option maxHeartbeats 4000000 in
set_option maxRecDepth 100000 in
theorem c_X5_hasStep (G : FG) (hL : FL G) (l : Launch) (ω : FWd) (a k : Nat) (v : Nat → Nat → Int32) (hf : LeafS G ω.2 a v k) (m : Int32) : FMet G l yX5_hasStep wsX5_hasStep ({ frames := 1, cells := 0, slots := 0, locals := 22 } : Room) [.ref a, .int m] ω (rI (bz (inB m 0 (v 3 k - 1))) ω) 0 0 := by
  refine fw_ofW (cc := cX5_hasStep) (maxL := 2) (ret := (some .boolean)) (by decide) rfl (Nat.le_of_ble_eq_true rfl) ?_
  intro pP eE sS mI ar9 bl9 meth cD ls hx hb hr hlocks hml hts hown hnm hW hR hl
  have hK := hL.K hW
  have hS : va_S (fwA G) sS.heap sS.heap [] := va_S.rf
  have hin5 : ∀ w ∈ u_ws RX5 TX5 9, w ∈ wsX5_hasStep := by decide +kernel
  have hl : lv_has ls 2 [(0, .ref a), (1, .int m)] := hl
  obtain ⟨h0, h1, h2, h3, h4⟩ := id hf
  refine lv_iload_n hx hb dX5_hasStep_0 rfl (lv_at hl 1 rfl) ?_
  refine lv_iconst (v := 0) hx hb dX5_hasStep_1 (by decide) ?_
  refine lv_aload_n hx hb dX5_hasStep_2 rfl (lv_at hl 0 rfl) ?_
  refine fw_get (v := .int (v 3 k)) (C := RX5) (T := TX5) (N := 9) hx hb hts hin5 hown hK hR h0 rfl 0 (by decide) (hts (.fieldLink RX5 24 "UnreadLeaflets$Leaflet" "steps" "I") (by decide +kernel)) rfl dX5_hasStep_3 ?_
  refine lv_iconst (v := 1) hx hb dX5_hasStep_6 (by decide) ?_
  refine lv_isub hx hb dX5_hasStep_7 ?_
  refine fw_call (va_runSN (As := [.int m, .int 0, .int ((v 3 k) - 1)]) (rest := []) ⟨hx, hb, hml, hown, hts⟩ (c_X10_isWithin G hL l ω m 0 ((v 3 k) - 1)) ⟨va_cnB 3 hts gX5_hasStep_X10_isWithin_n46 rfl rfl rfl (hL.N hW (hh := RX10) (by decide +kernel)) (hts (.initialized RX10) (by decide +kernel)) (by decide +kernel) ⟨Nat.le_of_ble_eq_true rfl, Nat.le_of_ble_eq_true rfl⟩, hts (.static yX10_isWithin) (by decide +kernel), trivial⟩ (fw_preS hW hR) rfl rfl hl.1 rfl (lv_room (Nat.le_of_ble_eq_true rfl)) dX5_hasStep_8 ⟨Nat.le_of_ble_eq_true rfl, Nat.le_of_ble_eq_true rfl⟩) hS (fun v_1 ω_2 H locs hq_3 hR hS => ?_)
  obtain ⟨rfl, hq_3⟩ := hq_3
  rw [hq_3] at hR
  refine W.eq (g2 := F0 mI 11 ls [.int (bz (inB m 0 ((v 3 k) - 1)))]) rfl ?_
  refine fw_zret hx hb hr narrow_bz hlocks hR hS dX5_hasStep_11 (rI_mk ?_)
  exact rfl
set_option maxHeartbeats 4000000 in
set_option maxRecDepth 100000 in
theorem c_X5_allSteps (G : FG) (hL : FL G) (l : Launch) (ω : FWd) (a k : Nat) (v : Nat → Nat → Int32) (hf : LeafS G ω.2 a v k) : FMet G l yX5_allSteps wsX5_allSteps ({ frames := 0, cells := 0, slots := 0, locals := 0 } : Room) [.ref a] ω (rI (1 <<< (v 3 k &&& 31) - 1) ω) 0 0 := by
  refine fw_ofW (cc := cX5_allSteps) (maxL := 1) (ret := (some .int)) (by decide) rfl (Nat.le_of_ble_eq_true rfl) ?_
  intro pP eE sS mI ar9 bl9 meth cD ls hx hb hr hlocks hml hts hown hnm hW hR hl
  have hK := hL.K hW
  have hS : va_S (fwA G) sS.heap sS.heap [] := va_S.rf
  have hin5 : ∀ w ∈ u_ws RX5 TX5 9, w ∈ wsX5_allSteps := by decide +kernel
  have hl : lv_has ls 1 [(0, .ref a)] := hl
  obtain ⟨h0, h1, h2, h3, h4⟩ := id hf
  refine lv_iconst (v := 1) hx hb dX5_allSteps_0 (by decide) ?_
  refine lv_aload_n hx hb dX5_allSteps_1 rfl (lv_at hl 0 rfl) ?_
  refine fw_get (v := .int (v 3 k)) (C := RX5) (T := TX5) (N := 9) hx hb hts hin5 hown hK hR h0 rfl 0 (by decide) (hts (.fieldLink RX5 24 "UnreadLeaflets$Leaflet" "steps" "I") (by decide +kernel)) rfl dX5_allSteps_2 ?_
  refine lv_ishl hx hb dX5_allSteps_5 ?_
  refine lv_iconst (v := 1) hx hb dX5_allSteps_6 (by decide) ?_
  refine lv_isub hx hb dX5_allSteps_7 ?_
  refine fw_iret hx hb hr hlocks hR hS dX5_allSteps_8 (rI_mk ?_)
  exact rfl
set_option maxHeartbeats 4000000 in
set_option maxRecDepth 100000 in
theorem c_X5_openWith (G : FG) (hL : FL G) (l : Launch) (ω : FWd) (a k : Nat) (v : Nat → Nat → Int32) (hf : LeafS G ω.2 a v k) (f : Nat) (hf3 : f ≤ 3) : FMet G l yX5_openWith wsX5_openWith ({ frames := 0, cells := 0, slots := 0, locals := 0 } : Room) [.ref a, .int (nI f)] ω (rI (openJ (v 3 k) f) ω) 0 0 := by
  refine fw_ofW (cc := cX5_openWith) (maxL := 4) (ret := (some .int)) (by decide) rfl (Nat.le_of_ble_eq_true rfl) ?_
  intro pP eE sS mI ar9 bl9 meth cD ls hx hb hr hlocks hml hts hown hnm hW hR hl
  have hK := hL.K hW
  have hS : va_S (fwA G) sS.heap sS.heap [] := va_S.rf
  have hin5 : ∀ w ∈ u_ws RX5 TX5 9, w ∈ wsX5_openWith := by decide +kernel
  have hl : lv_has ls 4 [(0, .ref a), (1, .int (nI f))] := hl
  obtain ⟨h0, h1, h2, h3, h4⟩ := id hf
  refine lv_aload_n hx hb dX5_openWith_0 rfl (lv_at hl 0 rfl) ?_
  refine fw_get (v := .int (v 3 k)) (C := RX5) (T := TX5) (N := 9) hx hb hts hin5 hown hK hR h0 rfl 0 (by decide) (hts (.fieldLink RX5 24 "UnreadLeaflets$Leaflet" "steps" "I") (by decide +kernel)) rfl dX5_openWith_1 ?_
  refine lv_istore_n (lv' := [(2, .int (v 3 k)), (0, .ref a), (1, .int (nI f))]) hx hb dX5_openWith_4 rfl hl (by decide) rfl (fun ls hl => ?_)
  refine lv_iconst (v := 0) hx hb dX5_openWith_5 (by decide) ?_
  refine lv_istore_n (lv' := [(3, .int 0), (2, .int (v 3 k)), (0, .ref a), (1, .int (nI f))]) hx hb dX5_openWith_6 rfl hl (by decide) rfl (fun ls hl => ?_)
  have loop_1 : ∀ (fu : Nat) (j : Nat), (f - j) < fu → (j ≤ f) → ∀ (H : Heap) (locs : List Loc) (ls : Array Slot), fR G ω H → va_S (fwA G) sS.heap H locs → lv_has ls 4 [(3, .int (nI j)), (2, .int (openJ (v 3 k) j)), (0, .ref a), (1, .int (nI f))] → W pP l eE ({ frames := 0, cells := 0, slots := 0, locals := 0 } : Room) sS mI ar9 bl9 meth cD H locs 0 0 (MQ bl9 (fQ G (rI (openJ (v 3 k) f) ω)) ar9 sS 0 0 (fwA G)) (F0 mI 7 ls []) := by
    intro fu
    induction fu with
    | zero => intro j hfu; exact absurd hfu (Nat.not_lt_zero _)
    | succ fu ih =>
      intro j hfu hj H locs ls hR hS hl
      refine lv_iload_n hx hb dX5_openWith_7 rfl (lv_at hl 0 rfl) ?_
      refine lv_iload_n hx hb dX5_openWith_8 rfl (lv_at hl 3 rfl) ?_
      refine lv_icmp_ge (tgt := 24) hx hb dX5_openWith_9 (by decide) (fun c_2 => ?_) (fun c_2 => ?_)
      · skip
        have hj2 := (nI_leI (by omega) (by omega)).mp c_2
        have hjn : j = f := by omega
        refine lv_iload_n hx hb dX5_openWith_24 rfl (lv_at hl 1 rfl) ?_
        refine fw_iret hx hb hr hlocks hR hS dX5_openWith_25 (rI_mk ?_)
        rw [hjn]
      · skip
        have hj2 : j < f := Nat.lt_of_not_le (fun z => c_2 ((nI_leI (by omega) (by omega)).mpr z))
        refine lv_iload_n hx hb dX5_openWith_12 rfl (lv_at hl 1 rfl) ?_
        refine lv_iconst (v := 1) hx hb dX5_openWith_13 (by decide) ?_
        refine lv_iadd hx hb dX5_openWith_14 ?_
        refine lv_iconst (v := 2) hx hb dX5_openWith_15 (by decide) ?_
        refine lv_idiv hx hb dX5_openWith_16 (by decide) ?_
        refine lv_topi (fun x_3 ex_3 => ?_)
        refine lv_istore_n (lv' := [(2, .int x_3), (3, .int (nI j)), (0, .ref a), (1, .int (nI f))]) hx hb dX5_openWith_17 rfl hl (by decide) rfl (fun ls hl => ?_)
        obtain ⟨x_4, ex_4⟩ : ∃ y : Int32, y = (nI j) + 1 := ⟨_, rfl⟩
        refine lv_iinc (v := x_4) (lv' := [(3, .int x_4), (2, .int x_3), (0, .ref a), (1, .int (nI f))]) hx hb dX5_openWith_18 hl (k := 1) rfl (by rw [ex_4]; rfl) (by decide) rfl (fun ls hl => ?_)
        refine lv_goto (tgt := 7) hx hb dX5_openWith_21 (by decide) ?_
        have el_3 : x_4 = nI (j + 1) := by rw [ex_4]; exact nI_1 j
        have el_2 : x_3 = openJ (v 3 k) (j + 1) := by rw [ex_3, openJ]
        have hl := lv_sub (l' := [(3, .int x_4), (2, .int x_3), (0, .ref a), (1, .int (nI f))]) hl [0, 1, 2, 3] rfl
        rw [el_3, el_2] at hl
        exact ih (j + 1) (by omega) (by first | assumption | omega | (simp; done)) _ _ _ hR hS hl
  exact loop_1 _ 0 (Nat.lt_succ_self _) (by first | rfl | assumption | omega | (simp; done)) _ _ _ hR hS (lv_sub hl [0, 1, 2, 3] rfl)
set_option maxHeartbeats 4000000 in
set_option maxRecDepth 100000 in
theorem c_X5_open (G : FG) (hL : FL G) (l : Launch) (ω : FWd) (a k : Nat) (v : Nat → Nat → Int32) (hf : LeafS G ω.2 a v k) (f : Nat) (hf3 : f ≤ 3) (hff : v 4 k = nI f) : FMet G l yX5_open wsX5_open ({ frames := 1, cells := 0, slots := 0, locals := 23 } : Room) [.ref a] ω (rI (openJ (v 3 k) f) ω) 0 0 := by
  refine fw_ofW (cc := cX5_open) (maxL := 1) (ret := (some .int)) (by decide) rfl (Nat.le_of_ble_eq_true rfl) ?_
  intro pP eE sS mI ar9 bl9 meth cD ls hx hb hr hlocks hml hts hown hnm hW hR hl
  have hK := hL.K hW
  have hS : va_S (fwA G) sS.heap sS.heap [] := va_S.rf
  have hin5 : ∀ w ∈ u_ws RX5 TX5 9, w ∈ wsX5_open := by decide +kernel
  have hl : lv_has ls 1 [(0, .ref a)] := hl
  obtain ⟨h0, h1, h2, h3, h4⟩ := id hf
  refine lv_aload_n hx hb dX5_open_0 rfl (lv_at hl 0 rfl) ?_
  refine lv_aload_n hx hb dX5_open_1 rfl (lv_at hl 0 rfl) ?_
  refine fw_get (v := .int (v 4 k)) (C := RX5) (T := TX5) (N := 9) hx hb hts hin5 hown hK hR h0 rfl 1 (by decide) (hts (.fieldLink RX5 28 "UnreadLeaflets$Leaflet" "folds" "I") (by decide +kernel)) rfl dX5_open_2 ?_
  refine W.eq (g2 := F0 mI 5 ls [.int (nI f), .ref a]) (by rw [hff]) ?_
  refine fw_call (va_runV (As := [.int (nI f)]) (rest := []) ⟨hx, hb, hml, hown, hts⟩ (c_X5_openWith G hL l ω a k v hf  f (by omega)) (cwV 1 hts gX5_open_X5_openWith rfl rfl rfl (by decide +kernel) ⟨Nat.le_of_ble_eq_true rfl, Nat.le_of_ble_eq_true rfl⟩) (fw_preV hW hK hR h0 rfl) rfl rfl hl.1 rfl (lv_room (Nat.le_of_ble_eq_true rfl)) dX5_open_5 ⟨Nat.le_of_ble_eq_true rfl, Nat.le_of_ble_eq_true rfl⟩) hS (fun v_1 ω_2 H locs hq_3 hR hS => ?_)
  obtain ⟨rfl, hq_3⟩ := hq_3
  rw [hq_3] at hR
  refine W.eq (g2 := F0 mI 8 ls [.int (openJ (v 3 k) f)]) rfl ?_
  refine fw_iret hx hb hr hlocks hR hS dX5_open_8 (rI_mk ?_)
  exact rfl
set_option maxHeartbeats 4000000 in
set_option maxRecDepth 100000 in
theorem c_X5_partsOfStep (G : FG) (hL : FL G) (l : Launch) (ω : FWd) (a k : Nat) (v : Nat → Nat → Int32) (hf : LeafS G ω.2 a v k) (j : Nat) (hj8 : j < 8) : FMet G l yX5_partsOfStep wsX5_partsOfStep ({ frames := 0, cells := 0, slots := 0, locals := 0 } : Room) [.ref a, .int (nI j)] ω (rI (psJ v k j) ω) 0 0 := by
  refine fw_ofW (cc := cX5_partsOfStep) (maxL := 2) (ret := (some .int)) (by decide) rfl (Nat.le_of_ble_eq_true rfl) ?_
  intro pP eE sS mI ar9 bl9 meth cD ls hx hb hr hlocks hml hts hown hnm hW hR hl
  have hK := hL.K hW
  have hS : va_S (fwA G) sS.heap sS.heap [] := va_S.rf
  have hin5 : ∀ w ∈ u_ws RX5 TX5 9, w ∈ wsX5_partsOfStep := by decide +kernel
  have hl : lv_has ls 2 [(0, .ref a), (1, .int (nI j))] := hl
  obtain ⟨h0, h1, h2, h3, h4⟩ := id hf
  refine lv_aload_n hx hb dX5_partsOfStep_0 rfl (lv_at hl 0 rfl) ?_
  refine fw_get (v := .ref (a + 2)) (C := RX5) (T := TX5) (N := 9) hx hb hts hin5 hown hK hR h0 rfl 6 (by decide) (hts (.fieldLink RX5 15 "UnreadLeaflets$Leaflet" "parts" "[I") (by decide +kernel)) rfl dX5_partsOfStep_1 ?_
  refine lv_iload_n hx hb dX5_partsOfStep_4 rfl (lv_at hl 1 rfl) ?_
  refine fw_iald hx hb hK hR h2 (vp_in_nI (by omega) (by omega)) dX5_partsOfStep_5 ?_
  refine W.eq (g2 := F0 mI 6 ls [.int ((v (20 + k)) j)]) (by rw [nI_clamp (by omega)]) ?_
  refine lv_aload_n hx hb dX5_partsOfStep_6 rfl (lv_at hl 0 rfl) ?_
  refine fw_get (v := .ref (a + 4)) (C := RX5) (T := TX5) (N := 9) hx hb hts hin5 hown hK hR h0 rfl 8 (by decide) (hts (.fieldLink RX5 21 "UnreadLeaflets$Leaflet" "sides" "[I") (by decide +kernel)) rfl dX5_partsOfStep_7 ?_
  refine lv_iload_n hx hb dX5_partsOfStep_10 rfl (lv_at hl 1 rfl) ?_
  refine fw_iald hx hb hK hR h4 (vp_in_nI (by omega) (by omega)) dX5_partsOfStep_11 ?_
  refine W.eq (g2 := F0 mI 12 ls [.int (v (40 + k) j + 1), .int ((v (20 + k)) j)]) (by rw [nI_clamp (by omega)]) ?_
  refine lv_imul hx hb dX5_partsOfStep_12 ?_
  refine fw_iret hx hb hr hlocks hR hS dX5_partsOfStep_13 (rI_mk ?_)
  rfl
set_option maxHeartbeats 4000000 in
set_option maxRecDepth 100000 in
theorem c_X5_partsOf (G : FG) (hL : FL G) (l : Launch) (ω : FWd) (a k : Nat) (v : Nat → Nat → Int32) (hf : LeafS G ω.2 a v k) (n : Nat) (hn : v 3 k = nI n) (hn8 : n ≤ 8) (set : Int32) : FMet G l yX5_partsOf wsX5_partsOf ({ frames := 1, cells := 0, slots := 0, locals := 21 } : Room) [.ref a, .int set] ω (rI (partsJ v k set n) ω) 0 0 := by
  refine fw_ofW (cc := cX5_partsOf) (maxL := 4) (ret := (some .int)) (by decide) rfl (Nat.le_of_ble_eq_true rfl) ?_
  intro pP eE sS mI ar9 bl9 meth cD ls hx hb hr hlocks hml hts hown hnm hW hR hl
  have hK := hL.K hW
  have hS : va_S (fwA G) sS.heap sS.heap [] := va_S.rf
  have hin5 : ∀ w ∈ u_ws RX5 TX5 9, w ∈ wsX5_partsOf := by decide +kernel
  have hl : lv_has ls 4 [(0, .ref a), (1, .int set)] := hl
  obtain ⟨h0, h1, h2, h3, h4⟩ := id hf
  refine lv_iconst (v := 0) hx hb dX5_partsOf_0 (by decide) ?_
  refine lv_istore_n (lv' := [(2, .int 0), (0, .ref a), (1, .int set)]) hx hb dX5_partsOf_1 rfl hl (by decide) rfl (fun ls hl => ?_)
  refine lv_iconst (v := 0) hx hb dX5_partsOf_2 (by decide) ?_
  refine lv_istore_n (lv' := [(3, .int 0), (2, .int 0), (0, .ref a), (1, .int set)]) hx hb dX5_partsOf_3 rfl hl (by decide) rfl (fun ls hl => ?_)
  have loop_1 : ∀ (fu : Nat) (j : Nat), (n - j) < fu → (j ≤ n) → ∀ (H : Heap) (locs : List Loc) (ls : Array Slot), fR G ω H → va_S (fwA G) sS.heap H locs → lv_has ls 4 [(3, .int (nI j)), (2, .int (partsJ v k set j)), (0, .ref a), (1, .int set)] → W pP l eE ({ frames := 1, cells := 0, slots := 0, locals := 21 } : Room) sS mI ar9 bl9 meth cD H locs 0 0 (MQ bl9 (fQ G (rI (partsJ v k set n) ω)) ar9 sS 0 0 (fwA G)) (F0 mI 4 ls []) := by
    intro fu
    induction fu with
    | zero => intro j hfu; exact absurd hfu (Nat.not_lt_zero _)
    | succ fu ih =>
      intro j hfu hj H locs ls hR hS hl
      refine lv_iload_n hx hb dX5_partsOf_4 rfl (lv_at hl 0 rfl) ?_
      refine lv_aload_n hx hb dX5_partsOf_5 rfl (lv_at hl 2 rfl) ?_
      refine fw_get (v := .int (v 3 k)) (C := RX5) (T := TX5) (N := 9) hx hb hts hin5 hown hK hR h0 rfl 0 (by decide) (hts (.fieldLink RX5 24 "UnreadLeaflets$Leaflet" "steps" "I") (by decide +kernel)) rfl dX5_partsOf_6 ?_
      refine lv_icmp_ge (tgt := 34) hx hb dX5_partsOf_9 (by decide) (fun c_2 => ?_) (fun c_2 => ?_)
      · skip
        have hj2 := lp_ge hn c_2 (by omega) (by omega)
        have hjn : j = n := by omega
        refine lv_iload_n hx hb dX5_partsOf_34 rfl (lv_at hl 1 rfl) ?_
        refine fw_iret hx hb hr hlocks hR hS dX5_partsOf_35 (rI_mk ?_)
        rw [hjn]
      · skip
        have hj2 := lp_lt hn c_2 (by omega) (by omega)
        refine lv_iload_n hx hb dX5_partsOf_12 rfl (lv_at hl 3 rfl) ?_
        refine lv_iload_n hx hb dX5_partsOf_13 rfl (lv_at hl 0 rfl) ?_
        refine fw_call (va_runSN (As := [.int set, .int (nI j)]) (rest := []) ⟨hx, hb, hml, hown, hts⟩ (c_X10_contains G hL l ω set (nI j)) ⟨va_cnB 2 hts gX5_partsOf_X10_contains_n50 rfl rfl rfl (hL.N hW (hh := RX10) (by decide +kernel)) (hts (.initialized RX10) (by decide +kernel)) (by decide +kernel) ⟨Nat.le_of_ble_eq_true rfl, Nat.le_of_ble_eq_true rfl⟩, hts (.static yX10_contains) (by decide +kernel), trivial⟩ (fw_preS hW hR) rfl rfl hl.1 rfl (lv_room (Nat.le_of_ble_eq_true rfl)) dX5_partsOf_14 ⟨Nat.le_of_ble_eq_true rfl, Nat.le_of_ble_eq_true rfl⟩) hS (fun v_3 ω_4 H locs hq_5 hR hS => ?_)
        obtain ⟨rfl, hq_5⟩ := hq_5
        rw [hq_5] at hR
        refine W.eq (g2 := F0 mI 17 ls [.int (bz (hasB set (nI j)))]) rfl ?_
        refine lv_if_eq (tgt := 28) hx hb dX5_partsOf_17 (by decide) (fun c_6 => ?_) (fun c_6 => ?_)
        · skip
          have c_6 := bz_eq c_6
          obtain ⟨x_7, ex_7⟩ : ∃ y : Int32, y = (nI j) + 1 := ⟨_, rfl⟩
          refine lv_iinc (v := x_7) (lv' := [(3, .int x_7), (2, .int (partsJ v k set j)), (0, .ref a), (1, .int set)]) hx hb dX5_partsOf_28 hl (k := 0) rfl (by rw [ex_7]; rfl) (by decide) rfl (fun ls hl => ?_)
          refine lv_goto (tgt := 4) hx hb dX5_partsOf_31 (by decide) ?_
          have el_3 : x_7 = nI (j + 1) := by rw [ex_7]; exact nI_1 j
          have el_2 : partsJ v k set j = partsJ v k set (j + 1) := by 
            simp only [partsJ, needJ, unreadJ, belowJ]; repeat' split
            all_goals first | rfl | contradiction | (exfalso; simp_all; done)
          have hl := lv_sub (l' := [(3, .int x_7), (2, .int (partsJ v k set j)), (0, .ref a), (1, .int set)]) hl [0, 1, 2, 3] rfl
          rw [el_3, el_2] at hl
          exact ih (j + 1) (by omega) (by first | assumption | omega | (simp; done)) _ _ _ hR hS hl
        · skip
          have c_6 := bz_ne c_6
          refine lv_iload_n hx hb dX5_partsOf_20 rfl (lv_at hl 1 rfl) ?_
          refine lv_aload_n hx hb dX5_partsOf_21 rfl (lv_at hl 2 rfl) ?_
          refine lv_iload_n hx hb dX5_partsOf_22 rfl (lv_at hl 0 rfl) ?_
          refine fw_call (va_runV (As := [.int (nI j)]) (rest := [.int (partsJ v k set j)]) ⟨hx, hb, hml, hown, hts⟩ (c_X5_partsOfStep G hL l ω a k v hf  j (by omega)) (cwV 1 hts gX5_partsOf_X5_partsOfStep rfl rfl rfl (by decide +kernel) ⟨Nat.le_of_ble_eq_true rfl, Nat.le_of_ble_eq_true rfl⟩) (fw_preV hW hK hR h0 rfl) rfl rfl hl.1 rfl (lv_room (Nat.le_of_ble_eq_true rfl)) dX5_partsOf_23 ⟨Nat.le_of_ble_eq_true rfl, Nat.le_of_ble_eq_true rfl⟩) hS (fun v_8 ω_9 H locs hq_10 hR hS => ?_)
          obtain ⟨rfl, hq_10⟩ := hq_10
          rw [hq_10] at hR
          refine W.eq (g2 := F0 mI 26 ls [.int (psJ v k j), .int (partsJ v k set j)]) rfl ?_
          refine lv_iadd hx hb dX5_partsOf_26 ?_
          refine lv_topi (fun x_11 ex_11 => ?_)
          refine lv_istore_n (lv' := [(2, .int x_11), (3, .int (nI j)), (0, .ref a), (1, .int set)]) hx hb dX5_partsOf_27 rfl hl (by decide) rfl (fun ls hl => ?_)
          obtain ⟨x_12, ex_12⟩ : ∃ y : Int32, y = (nI j) + 1 := ⟨_, rfl⟩
          refine lv_iinc (v := x_12) (lv' := [(3, .int x_12), (2, .int x_11), (0, .ref a), (1, .int set)]) hx hb dX5_partsOf_28 hl (k := 1) rfl (by rw [ex_12]; rfl) (by decide) rfl (fun ls hl => ?_)
          refine lv_goto (tgt := 4) hx hb dX5_partsOf_31 (by decide) ?_
          have el_3 : x_12 = nI (j + 1) := by rw [ex_12]; exact nI_1 j
          have el_2 : x_11 = partsJ v k set (j + 1) := by 
            rw [ex_11]; simp only [partsJ, needJ, unreadJ, belowJ]; repeat' split
            all_goals first | rfl | contradiction | (exfalso; simp_all; done)
          have hl := lv_sub (l' := [(3, .int x_12), (2, .int x_11), (0, .ref a), (1, .int set)]) hl [0, 1, 2, 3] rfl
          rw [el_3, el_2] at hl
          exact ih (j + 1) (by omega) (by first | assumption | omega | (simp; done)) _ _ _ hR hS hl
  exact loop_1 _ 0 (Nat.lt_succ_self _) (by first | rfl | assumption | omega | (simp; done)) _ _ _ hR hS (lv_sub hl [0, 1, 2, 3] rfl)
set_option maxHeartbeats 4000000 in
set_option maxRecDepth 100000 in
theorem c_X5_usesKind (G : FG) (hL : FL G) (l : Launch) (ω : FWd) (a k : Nat) (v : Nat → Nat → Int32) (hf : LeafS G ω.2 a v k) (j : Nat) (hj8 : j < 8) (kind : Int32) : FMet G l yX5_usesKind wsX5_usesKind ({ frames := 0, cells := 0, slots := 0, locals := 0 } : Room) [.ref a, .int (nI j), .int kind] ω (rI (bz (usesB v k j kind)) ω) 0 0 := by
  refine fw_ofW (cc := cX5_usesKind) (maxL := 3) (ret := (some .boolean)) (by decide) rfl (Nat.le_of_ble_eq_true rfl) ?_
  intro pP eE sS mI ar9 bl9 meth cD ls hx hb hr hlocks hml hts hown hnm hW hR hl
  have hK := hL.K hW
  have hS : va_S (fwA G) sS.heap sS.heap [] := va_S.rf
  have hin5 : ∀ w ∈ u_ws RX5 TX5 9, w ∈ wsX5_usesKind := by decide +kernel
  have hl : lv_has ls 3 [(0, .ref a), (1, .int (nI j)), (2, .int kind)] := hl
  obtain ⟨h0, h1, h2, h3, h4⟩ := id hf
  refine lv_aload_n hx hb dX5_usesKind_0 rfl (lv_at hl 0 rfl) ?_
  refine fw_get (v := .ref (a + 1)) (C := RX5) (T := TX5) (N := 9) hx hb hts hin5 hown hK hR h0 rfl 5 (by decide) (hts (.fieldLink RX5 9 "UnreadLeaflets$Leaflet" "kinds" "[I") (by decide +kernel)) rfl dX5_usesKind_1 ?_
  refine lv_iload_n hx hb dX5_usesKind_4 rfl (lv_at hl 1 rfl) ?_
  refine fw_iald hx hb hK hR h1 (vp_in_nI (by omega) (by omega)) dX5_usesKind_5 ?_
  refine W.eq (g2 := F0 mI 6 ls [.int ((v (10 + k)) j)]) (by rw [nI_clamp (by omega)]) ?_
  refine lv_iload_n hx hb dX5_usesKind_6 rfl (lv_at hl 2 rfl) ?_
  refine lv_icmp_eq (tgt := 35) hx hb dX5_usesKind_7 (by decide) (fun c_1 => ?_) (fun c_1 => ?_)
  · skip
    refine lv_iconst (v := 1) hx hb dX5_usesKind_35 (by decide) ?_
    refine lv_goto (tgt := 40) hx hb dX5_usesKind_36 (by decide) ?_
    refine fw_zret hx hb hr rfl hlocks hR hS dX5_usesKind_40 (rI_mk ?_)
    exact (bz_1 (by first | rfl | assumption | (simp_all [inB, hasB, usesB]; done) | omega)).symm
  · skip
    refine lv_aload_n hx hb dX5_usesKind_10 rfl (lv_at hl 0 rfl) ?_
    refine fw_get (v := .ref (a + 4)) (C := RX5) (T := TX5) (N := 9) hx hb hts hin5 hown hK hR h0 rfl 8 (by decide) (hts (.fieldLink RX5 21 "UnreadLeaflets$Leaflet" "sides" "[I") (by decide +kernel)) rfl dX5_usesKind_11 ?_
    refine lv_iload_n hx hb dX5_usesKind_14 rfl (lv_at hl 1 rfl) ?_
    refine fw_iald hx hb hK hR h4 (vp_in_nI (by omega) (by omega)) dX5_usesKind_15 ?_
    refine W.eq (g2 := F0 mI 16 ls [.int (v (40 + k) j + 1)]) (by rw [nI_clamp (by omega)]) ?_
    refine lv_iconst (v := 2) hx hb dX5_usesKind_16 (by decide) ?_
    refine lv_icmp_ne (tgt := 39) hx hb dX5_usesKind_17 (by decide) (fun c_2 => ?_) (fun c_2 => ?_)
    · skip
      refine lv_iconst (v := 0) hx hb dX5_usesKind_39 (by decide) ?_
      refine fw_zret hx hb hr rfl hlocks hR hS dX5_usesKind_40 (rI_mk ?_)
      exact (bz_0 (by first | rfl | assumption | (simp_all [inB, hasB, usesB]; done) | omega)).symm
    · skip
      refine lv_aload_n hx hb dX5_usesKind_20 rfl (lv_at hl 0 rfl) ?_
      refine fw_get (v := .ref (a + 1)) (C := RX5) (T := TX5) (N := 9) hx hb hts hin5 hown hK hR h0 rfl 5 (by decide) (hts (.fieldLink RX5 9 "UnreadLeaflets$Leaflet" "kinds" "[I") (by decide +kernel)) rfl dX5_usesKind_21 ?_
      refine lv_iload_n hx hb dX5_usesKind_24 rfl (lv_at hl 1 rfl) ?_
      refine fw_iald hx hb hK hR h1 (vp_in_nI (by omega) (by omega)) dX5_usesKind_25 ?_
      refine W.eq (g2 := F0 mI 26 ls [.int ((v (10 + k)) j)]) (by rw [nI_clamp (by omega)]) ?_
      refine lv_iconst (v := 1) hx hb dX5_usesKind_26 (by decide) ?_
      refine lv_iadd hx hb dX5_usesKind_27 ?_
      refine lv_bipush (v := 6) hx hb dX5_usesKind_28 (by decide) ?_
      refine lv_irem hx hb dX5_usesKind_30 (by decide) ?_
      refine lv_iload_n hx hb dX5_usesKind_31 rfl (lv_at hl 2 rfl) ?_
      refine lv_icmp_ne (tgt := 39) hx hb dX5_usesKind_32 (by decide) (fun c_3 => ?_) (fun c_3 => ?_)
      · skip
        refine lv_iconst (v := 0) hx hb dX5_usesKind_39 (by decide) ?_
        refine fw_zret hx hb hr rfl hlocks hR hS dX5_usesKind_40 (rI_mk ?_)
        exact (bz_0 (by first | rfl | assumption | (simp_all [inB, hasB, usesB]; done) | omega)).symm
      · skip
        refine lv_iconst (v := 1) hx hb dX5_usesKind_35 (by decide) ?_
        refine lv_goto (tgt := 40) hx hb dX5_usesKind_36 (by decide) ?_
        refine fw_zret hx hb hr rfl hlocks hR hS dX5_usesKind_40 (rI_mk ?_)
        exact (bz_1 (by first | rfl | assumption | (simp_all [inB, hasB, usesB]; done) | omega)).symm
set_option maxHeartbeats 4000000 in
set_option maxRecDepth 100000 in
theorem c_X5_needOf (G : FG) (hL : FL G) (l : Launch) (ω : FWd) (a k : Nat) (v : Nat → Nat → Int32) (hf : LeafS G ω.2 a v k) (n : Nat) (hn : v 3 k = nI n) (hn8 : n ≤ 8) (set kind : Int32) : FMet G l yX5_needOf wsX5_needOf ({ frames := 1, cells := 0, slots := 0, locals := 22 } : Room) [.ref a, .int set, .int kind] ω (rI (needJ v k set kind n) ω) 0 0 := by
  refine fw_ofW (cc := cX5_needOf) (maxL := 5) (ret := (some .int)) (by decide) rfl (Nat.le_of_ble_eq_true rfl) ?_
  intro pP eE sS mI ar9 bl9 meth cD ls hx hb hr hlocks hml hts hown hnm hW hR hl
  have hK := hL.K hW
  have hS : va_S (fwA G) sS.heap sS.heap [] := va_S.rf
  have hin5 : ∀ w ∈ u_ws RX5 TX5 9, w ∈ wsX5_needOf := by decide +kernel
  have hl : lv_has ls 5 [(0, .ref a), (1, .int set), (2, .int kind)] := hl
  obtain ⟨h0, h1, h2, h3, h4⟩ := id hf
  refine lv_iconst (v := 0) hx hb dX5_needOf_0 (by decide) ?_
  refine lv_istore_n (lv' := [(3, .int 0), (0, .ref a), (1, .int set), (2, .int kind)]) hx hb dX5_needOf_1 rfl hl (by decide) rfl (fun ls hl => ?_)
  refine lv_iconst (v := 0) hx hb dX5_needOf_2 (by decide) ?_
  refine lv_istore (lv' := [(4, .int 0), (3, .int 0), (0, .ref a), (1, .int set), (2, .int kind)]) hx hb dX5_needOf_3 hl (by decide) rfl (fun ls hl => ?_)
  have loop_1 : ∀ (fu : Nat) (j : Nat), (n - j) < fu → (j ≤ n) → ∀ (H : Heap) (locs : List Loc) (ls : Array Slot), fR G ω H → va_S (fwA G) sS.heap H locs → lv_has ls 5 [(4, .int (nI j)), (3, .int (needJ v k set kind j)), (0, .ref a), (1, .int set), (2, .int kind)] → W pP l eE ({ frames := 1, cells := 0, slots := 0, locals := 22 } : Room) sS mI ar9 bl9 meth cD H locs 0 0 (MQ bl9 (fQ G (rI (needJ v k set kind n) ω)) ar9 sS 0 0 (fwA G)) (F0 mI 5 ls []) := by
    intro fu
    induction fu with
    | zero => intro j hfu; exact absurd hfu (Nat.not_lt_zero _)
    | succ fu ih =>
      intro j hfu hj H locs ls hR hS hl
      refine lv_iload hx hb dX5_needOf_5 (lv_at hl 0 rfl) ?_
      refine lv_aload_n hx hb dX5_needOf_7 rfl (lv_at hl 2 rfl) ?_
      refine fw_get (v := .int (v 3 k)) (C := RX5) (T := TX5) (N := 9) hx hb hts hin5 hown hK hR h0 rfl 0 (by decide) (hts (.fieldLink RX5 24 "UnreadLeaflets$Leaflet" "steps" "I") (by decide +kernel)) rfl dX5_needOf_8 ?_
      refine lv_icmp_ge (tgt := 49) hx hb dX5_needOf_11 (by decide) (fun c_2 => ?_) (fun c_2 => ?_)
      · skip
        have hj2 := lp_ge hn c_2 (by omega) (by omega)
        have hjn : j = n := by omega
        refine lv_iload_n hx hb dX5_needOf_49 rfl (lv_at hl 1 rfl) ?_
        refine fw_iret hx hb hr hlocks hR hS dX5_needOf_50 (rI_mk ?_)
        rw [hjn]
      · skip
        have hj2 := lp_lt hn c_2 (by omega) (by omega)
        refine lv_iload_n hx hb dX5_needOf_14 rfl (lv_at hl 3 rfl) ?_
        refine lv_iload hx hb dX5_needOf_15 (lv_at hl 0 rfl) ?_
        refine fw_call (va_runSN (As := [.int set, .int (nI j)]) (rest := []) ⟨hx, hb, hml, hown, hts⟩ (c_X10_contains G hL l ω set (nI j)) ⟨va_cnB 2 hts gX5_needOf_X10_contains_n50 rfl rfl rfl (hL.N hW (hh := RX10) (by decide +kernel)) (hts (.initialized RX10) (by decide +kernel)) (by decide +kernel) ⟨Nat.le_of_ble_eq_true rfl, Nat.le_of_ble_eq_true rfl⟩, hts (.static yX10_contains) (by decide +kernel), trivial⟩ (fw_preS hW hR) rfl rfl hl.1 rfl (lv_room (Nat.le_of_ble_eq_true rfl)) dX5_needOf_17 ⟨Nat.le_of_ble_eq_true rfl, Nat.le_of_ble_eq_true rfl⟩) hS (fun v_3 ω_4 H locs hq_5 hR hS => ?_)
        obtain ⟨rfl, hq_5⟩ := hq_5
        rw [hq_5] at hR
        refine W.eq (g2 := F0 mI 20 ls [.int (bz (hasB set (nI j)))]) rfl ?_
        refine lv_if_eq (tgt := 43) hx hb dX5_needOf_20 (by decide) (fun c_6 => ?_) (fun c_6 => ?_)
        · skip
          have c_6 := bz_eq c_6
          obtain ⟨x_7, ex_7⟩ : ∃ y : Int32, y = (nI j) + 1 := ⟨_, rfl⟩
          refine lv_iinc (v := x_7) (lv' := [(4, .int x_7), (3, .int (needJ v k set kind j)), (0, .ref a), (1, .int set), (2, .int kind)]) hx hb dX5_needOf_43 hl (k := 0) rfl (by rw [ex_7]; rfl) (by decide) rfl (fun ls hl => ?_)
          refine lv_goto (tgt := 5) hx hb dX5_needOf_46 (by decide) ?_
          have el_4 : x_7 = nI (j + 1) := by rw [ex_7]; exact nI_1 j
          have el_3 : needJ v k set kind j = needJ v k set kind (j + 1) := by 
            simp only [partsJ, needJ, unreadJ, belowJ]; repeat' split
            all_goals first | rfl | contradiction | (exfalso; simp_all; done)
          have hl := lv_sub (l' := [(4, .int x_7), (3, .int (needJ v k set kind j)), (0, .ref a), (1, .int set), (2, .int kind)]) hl [0, 1, 2, 3, 4] rfl
          rw [el_4, el_3] at hl
          exact ih (j + 1) (by omega) (by first | assumption | omega | (simp; done)) _ _ _ hR hS hl
        · skip
          have c_6 := bz_ne c_6
          refine lv_aload_n hx hb dX5_needOf_23 rfl (lv_at hl 2 rfl) ?_
          refine lv_iload hx hb dX5_needOf_24 (lv_at hl 0 rfl) ?_
          refine lv_iload_n hx hb dX5_needOf_26 rfl (lv_at hl 4 rfl) ?_
          refine fw_call (va_runV (As := [.int (nI j), .int kind]) (rest := []) ⟨hx, hb, hml, hown, hts⟩ (c_X5_usesKind G hL l ω a k v hf  j (by omega) kind) (cwV 2 hts gX5_needOf_X5_usesKind rfl rfl rfl (by decide +kernel) ⟨Nat.le_of_ble_eq_true rfl, Nat.le_of_ble_eq_true rfl⟩) (fw_preV hW hK hR h0 rfl) rfl rfl hl.1 rfl (lv_room (Nat.le_of_ble_eq_true rfl)) dX5_needOf_27 ⟨Nat.le_of_ble_eq_true rfl, Nat.le_of_ble_eq_true rfl⟩) hS (fun v_8 ω_9 H locs hq_10 hR hS => ?_)
          obtain ⟨rfl, hq_10⟩ := hq_10
          rw [hq_10] at hR
          refine W.eq (g2 := F0 mI 30 ls [.int (bz (usesB v k j kind))]) rfl ?_
          refine lv_if_eq (tgt := 43) hx hb dX5_needOf_30 (by decide) (fun c_11 => ?_) (fun c_11 => ?_)
          · skip
            have c_11 := bz_eq c_11
            obtain ⟨x_12, ex_12⟩ : ∃ y : Int32, y = (nI j) + 1 := ⟨_, rfl⟩
            refine lv_iinc (v := x_12) (lv' := [(4, .int x_12), (3, .int (needJ v k set kind j)), (0, .ref a), (1, .int set), (2, .int kind)]) hx hb dX5_needOf_43 hl (k := 0) rfl (by rw [ex_12]; rfl) (by decide) rfl (fun ls hl => ?_)
            refine lv_goto (tgt := 5) hx hb dX5_needOf_46 (by decide) ?_
            have el_4 : x_12 = nI (j + 1) := by rw [ex_12]; exact nI_1 j
            have el_3 : needJ v k set kind j = needJ v k set kind (j + 1) := by 
              simp only [partsJ, needJ, unreadJ, belowJ]; repeat' split
              all_goals first | rfl | contradiction | (exfalso; simp_all; done)
            have hl := lv_sub (l' := [(4, .int x_12), (3, .int (needJ v k set kind j)), (0, .ref a), (1, .int set), (2, .int kind)]) hl [0, 1, 2, 3, 4] rfl
            rw [el_4, el_3] at hl
            exact ih (j + 1) (by omega) (by first | assumption | omega | (simp; done)) _ _ _ hR hS hl
          · skip
            have c_11 := bz_ne c_11
            refine lv_iload_n hx hb dX5_needOf_33 rfl (lv_at hl 1 rfl) ?_
            refine lv_aload_n hx hb dX5_needOf_34 rfl (lv_at hl 2 rfl) ?_
            refine fw_get (v := .ref (a + 2)) (C := RX5) (T := TX5) (N := 9) hx hb hts hin5 hown hK hR h0 rfl 6 (by decide) (hts (.fieldLink RX5 15 "UnreadLeaflets$Leaflet" "parts" "[I") (by decide +kernel)) rfl dX5_needOf_35 ?_
            refine lv_iload hx hb dX5_needOf_38 (lv_at hl 0 rfl) ?_
            refine fw_iald hx hb hK hR h2 (vp_in_nI (by omega) (by omega)) dX5_needOf_40 ?_
            refine W.eq (g2 := F0 mI 41 ls [.int ((v (20 + k)) j), .int (needJ v k set kind j)]) (by rw [nI_clamp (by omega)]) ?_
            refine lv_iadd hx hb dX5_needOf_41 ?_
            refine lv_topi (fun x_13 ex_13 => ?_)
            refine lv_istore_n (lv' := [(3, .int x_13), (4, .int (nI j)), (0, .ref a), (1, .int set), (2, .int kind)]) hx hb dX5_needOf_42 rfl hl (by decide) rfl (fun ls hl => ?_)
            obtain ⟨x_14, ex_14⟩ : ∃ y : Int32, y = (nI j) + 1 := ⟨_, rfl⟩
            refine lv_iinc (v := x_14) (lv' := [(4, .int x_14), (3, .int x_13), (0, .ref a), (1, .int set), (2, .int kind)]) hx hb dX5_needOf_43 hl (k := 1) rfl (by rw [ex_14]; rfl) (by decide) rfl (fun ls hl => ?_)
            refine lv_goto (tgt := 5) hx hb dX5_needOf_46 (by decide) ?_
            have el_4 : x_14 = nI (j + 1) := by rw [ex_14]; exact nI_1 j
            have el_3 : x_13 = needJ v k set kind (j + 1) := by 
              rw [ex_13]; simp only [partsJ, needJ, unreadJ, belowJ]; repeat' split
              all_goals first | rfl | contradiction | (exfalso; simp_all; done)
            have hl := lv_sub (l' := [(4, .int x_14), (3, .int x_13), (0, .ref a), (1, .int set), (2, .int kind)]) hl [0, 1, 2, 3, 4] rfl
            rw [el_4, el_3] at hl
            exact ih (j + 1) (by omega) (by first | assumption | omega | (simp; done)) _ _ _ hR hS hl
  exact loop_1 _ 0 (Nat.lt_succ_self _) (by first | rfl | assumption | omega | (simp; done)) _ _ _ hR hS (lv_sub hl [0, 1, 2, 3, 4] rfl)
set_option maxHeartbeats 4000000 in
set_option maxRecDepth 100000 in
theorem c_X5_stepsUnder (G : FG) (hL : FL G) (l : Launch) (ω : FWd) (a k : Nat) (v : Nat → Nat → Int32) (hf : LeafS G ω.2 a v k) (f : Nat) (hf3 : f ≤ 3) : FMet G l yX5_stepsUnder wsX5_stepsUnder ({ frames := 1, cells := 0, slots := 0, locals := 23 } : Room) [.ref a, .int (nI f)] ω (rI (underF v k f) ω) 0 0 := by
  refine fw_ofW (cc := cX5_stepsUnder) (maxL := 2) (ret := (some .int)) (by decide) rfl (Nat.le_of_ble_eq_true rfl) ?_
  intro pP eE sS mI ar9 bl9 meth cD ls hx hb hr hlocks hml hts hown hnm hW hR hl
  have hK := hL.K hW
  have hS : va_S (fwA G) sS.heap sS.heap [] := va_S.rf
  have hin5 : ∀ w ∈ u_ws RX5 TX5 9, w ∈ wsX5_stepsUnder := by decide +kernel
  have hl : lv_has ls 2 [(0, .ref a), (1, .int (nI f))] := hl
  obtain ⟨h0, h1, h2, h3, h4⟩ := id hf
  refine lv_iconst (v := 1) hx hb dX5_stepsUnder_0 (by decide) ?_
  refine lv_aload_n hx hb dX5_stepsUnder_1 rfl (lv_at hl 0 rfl) ?_
  refine fw_get (v := .int (v 3 k)) (C := RX5) (T := TX5) (N := 9) hx hb hts hin5 hown hK hR h0 rfl 0 (by decide) (hts (.fieldLink RX5 24 "UnreadLeaflets$Leaflet" "steps" "I") (by decide +kernel)) rfl dX5_stepsUnder_2 ?_
  refine lv_ishl hx hb dX5_stepsUnder_5 ?_
  refine lv_iconst (v := 1) hx hb dX5_stepsUnder_6 (by decide) ?_
  refine lv_aload_n hx hb dX5_stepsUnder_7 rfl (lv_at hl 0 rfl) ?_
  refine lv_iload_n hx hb dX5_stepsUnder_8 rfl (lv_at hl 1 rfl) ?_
  refine fw_call (va_runV (As := [.int (nI f)]) (rest := [.int 1, .int (1 <<< ((v 3 k) &&& 31))]) ⟨hx, hb, hml, hown, hts⟩ (c_X5_openWith G hL l ω a k v hf  f (by omega)) (cwV 1 hts gX5_stepsUnder_X5_openWith rfl rfl rfl (by decide +kernel) ⟨Nat.le_of_ble_eq_true rfl, Nat.le_of_ble_eq_true rfl⟩) (fw_preV hW hK hR h0 rfl) rfl rfl hl.1 rfl (lv_room (Nat.le_of_ble_eq_true rfl)) dX5_stepsUnder_9 ⟨Nat.le_of_ble_eq_true rfl, Nat.le_of_ble_eq_true rfl⟩) hS (fun v_1 ω_2 H locs hq_3 hR hS => ?_)
  obtain ⟨rfl, hq_3⟩ := hq_3
  rw [hq_3] at hR
  refine W.eq (g2 := F0 mI 12 ls [.int (openJ (v 3 k) f), .int 1, .int (1 <<< ((v 3 k) &&& 31))]) rfl ?_
  refine lv_ishl hx hb dX5_stepsUnder_12 ?_
  refine lv_isub hx hb dX5_stepsUnder_13 ?_
  refine fw_iret hx hb hr hlocks hR hS dX5_stepsUnder_14 (rI_mk ?_)
  rfl
set_option maxHeartbeats 4000000 in
set_option maxRecDepth 100000 in
theorem c_X5_stepsUnreadBy (G : FG) (hL : FL G) (l : Launch) (ω : FWd) (a k : Nat) (v : Nat → Nat → Int32) (hf : LeafS G ω.2 a v k) (n : Nat) (hn : v 3 k = nI n) (hn8 : n ≤ 8) (known : Int32) : FMet G l yX5_stepsUnreadBy wsX5_stepsUnreadBy ({ frames := 0, cells := 0, slots := 0, locals := 0 } : Room) [.ref a, .int known] ω (rI (unreadJ v k known n) ω) 0 0 := by
  refine fw_ofW (cc := cX5_stepsUnreadBy) (maxL := 4) (ret := (some .int)) (by decide) rfl (Nat.le_of_ble_eq_true rfl) ?_
  intro pP eE sS mI ar9 bl9 meth cD ls hx hb hr hlocks hml hts hown hnm hW hR hl
  have hK := hL.K hW
  have hS : va_S (fwA G) sS.heap sS.heap [] := va_S.rf
  have hin5 : ∀ w ∈ u_ws RX5 TX5 9, w ∈ wsX5_stepsUnreadBy := by decide +kernel
  have hl : lv_has ls 4 [(0, .ref a), (1, .int known)] := hl
  obtain ⟨h0, h1, h2, h3, h4⟩ := id hf
  refine lv_iconst (v := 0) hx hb dX5_stepsUnreadBy_0 (by decide) ?_
  refine lv_istore_n (lv' := [(2, .int 0), (0, .ref a), (1, .int known)]) hx hb dX5_stepsUnreadBy_1 rfl hl (by decide) rfl (fun ls hl => ?_)
  refine lv_iconst (v := 0) hx hb dX5_stepsUnreadBy_2 (by decide) ?_
  refine lv_istore_n (lv' := [(3, .int 0), (2, .int 0), (0, .ref a), (1, .int known)]) hx hb dX5_stepsUnreadBy_3 rfl hl (by decide) rfl (fun ls hl => ?_)
  have loop_1 : ∀ (fu : Nat) (j : Nat), (n - j) < fu → (j ≤ n) → ∀ (H : Heap) (locs : List Loc) (ls : Array Slot), fR G ω H → va_S (fwA G) sS.heap H locs → lv_has ls 4 [(3, .int (nI j)), (2, .int (unreadJ v k known j)), (0, .ref a), (1, .int known)] → W pP l eE ({ frames := 0, cells := 0, slots := 0, locals := 0 } : Room) sS mI ar9 bl9 meth cD H locs 0 0 (MQ bl9 (fQ G (rI (unreadJ v k known n) ω)) ar9 sS 0 0 (fwA G)) (F0 mI 4 ls []) := by
    intro fu
    induction fu with
    | zero => intro j hfu; exact absurd hfu (Nat.not_lt_zero _)
    | succ fu ih =>
      intro j hfu hj H locs ls hR hS hl
      refine lv_iload_n hx hb dX5_stepsUnreadBy_4 rfl (lv_at hl 0 rfl) ?_
      refine lv_aload_n hx hb dX5_stepsUnreadBy_5 rfl (lv_at hl 2 rfl) ?_
      refine fw_get (v := .int (v 3 k)) (C := RX5) (T := TX5) (N := 9) hx hb hts hin5 hown hK hR h0 rfl 0 (by decide) (hts (.fieldLink RX5 24 "UnreadLeaflets$Leaflet" "steps" "I") (by decide +kernel)) rfl dX5_stepsUnreadBy_6 ?_
      refine lv_icmp_ge (tgt := 35) hx hb dX5_stepsUnreadBy_9 (by decide) (fun c_2 => ?_) (fun c_2 => ?_)
      · skip
        have hj2 := lp_ge hn c_2 (by omega) (by omega)
        have hjn : j = n := by omega
        refine lv_iload_n hx hb dX5_stepsUnreadBy_35 rfl (lv_at hl 1 rfl) ?_
        refine fw_iret hx hb hr hlocks hR hS dX5_stepsUnreadBy_36 (rI_mk ?_)
        rw [hjn]
      · skip
        have hj2 := lp_lt hn c_2 (by omega) (by omega)
        refine lv_aload_n hx hb dX5_stepsUnreadBy_12 rfl (lv_at hl 2 rfl) ?_
        refine fw_get (v := .ref (a + 3)) (C := RX5) (T := TX5) (N := 9) hx hb hts hin5 hown hK hR h0 rfl 7 (by decide) (hts (.fieldLink RX5 18 "UnreadLeaflets$Leaflet" "languages" "[I") (by decide +kernel)) rfl dX5_stepsUnreadBy_13 ?_
        refine lv_iload_n hx hb dX5_stepsUnreadBy_16 rfl (lv_at hl 0 rfl) ?_
        refine fw_iald hx hb hK hR h3 (vp_in_nI (by omega) (by omega)) dX5_stepsUnreadBy_17 ?_
        refine W.eq (g2 := F0 mI 18 ls [.int ((v (30 + k)) j)]) (by rw [nI_clamp (by omega)]) ?_
        refine lv_iload_n hx hb dX5_stepsUnreadBy_18 rfl (lv_at hl 3 rfl) ?_
        refine lv_iand hx hb dX5_stepsUnreadBy_19 ?_
        refine lv_if_ne (tgt := 29) hx hb dX5_stepsUnreadBy_20 (by decide) (fun c_3 => ?_) (fun c_3 => ?_)
        · skip
          obtain ⟨x_4, ex_4⟩ : ∃ y : Int32, y = (nI j) + 1 := ⟨_, rfl⟩
          refine lv_iinc (v := x_4) (lv' := [(3, .int x_4), (2, .int (unreadJ v k known j)), (0, .ref a), (1, .int known)]) hx hb dX5_stepsUnreadBy_29 hl (k := 0) rfl (by rw [ex_4]; rfl) (by decide) rfl (fun ls hl => ?_)
          refine lv_goto (tgt := 4) hx hb dX5_stepsUnreadBy_32 (by decide) ?_
          have el_3 : x_4 = nI (j + 1) := by rw [ex_4]; exact nI_1 j
          have el_2 : unreadJ v k known j = unreadJ v k known (j + 1) := by 
            simp only [partsJ, needJ, unreadJ, belowJ]; repeat' split
            all_goals first | rfl | contradiction | (exfalso; simp_all; done)
          have hl := lv_sub (l' := [(3, .int x_4), (2, .int (unreadJ v k known j)), (0, .ref a), (1, .int known)]) hl [0, 1, 2, 3] rfl
          rw [el_3, el_2] at hl
          exact ih (j + 1) (by omega) (by first | assumption | omega | (simp; done)) _ _ _ hR hS hl
        · skip
          refine lv_iload_n hx hb dX5_stepsUnreadBy_23 rfl (lv_at hl 1 rfl) ?_
          refine lv_iconst (v := 1) hx hb dX5_stepsUnreadBy_24 (by decide) ?_
          refine lv_iload_n hx hb dX5_stepsUnreadBy_25 rfl (lv_at hl 0 rfl) ?_
          refine lv_ishl hx hb dX5_stepsUnreadBy_26 ?_
          refine lv_ior hx hb dX5_stepsUnreadBy_27 ?_
          refine lv_topi (fun x_5 ex_5 => ?_)
          refine lv_istore_n (lv' := [(2, .int x_5), (3, .int (nI j)), (0, .ref a), (1, .int known)]) hx hb dX5_stepsUnreadBy_28 rfl hl (by decide) rfl (fun ls hl => ?_)
          obtain ⟨x_6, ex_6⟩ : ∃ y : Int32, y = (nI j) + 1 := ⟨_, rfl⟩
          refine lv_iinc (v := x_6) (lv' := [(3, .int x_6), (2, .int x_5), (0, .ref a), (1, .int known)]) hx hb dX5_stepsUnreadBy_29 hl (k := 1) rfl (by rw [ex_6]; rfl) (by decide) rfl (fun ls hl => ?_)
          refine lv_goto (tgt := 4) hx hb dX5_stepsUnreadBy_32 (by decide) ?_
          have el_3 : x_6 = nI (j + 1) := by rw [ex_6]; exact nI_1 j
          have el_2 : x_5 = unreadJ v k known (j + 1) := by 
            rw [ex_5]; simp only [partsJ, needJ, unreadJ, belowJ]; repeat' split
            all_goals first | rfl | contradiction | (exfalso; simp_all; done)
          have hl := lv_sub (l' := [(3, .int x_6), (2, .int x_5), (0, .ref a), (1, .int known)]) hl [0, 1, 2, 3] rfl
          rw [el_3, el_2] at hl
          exact ih (j + 1) (by omega) (by first | assumption | omega | (simp; done)) _ _ _ hR hS hl
  exact loop_1 _ 0 (Nat.lt_succ_self _) (by first | rfl | assumption | omega | (simp; done)) _ _ _ hR hS (lv_sub hl [0, 1, 2, 3] rfl)
set_option maxHeartbeats 4000000 in
set_option maxRecDepth 100000 in
theorem c_X5_stepsBelow (G : FG) (hL : FL G) (l : Launch) (ω : FWd) (a k : Nat) (v : Nat → Nat → Int32) (hf : LeafS G ω.2 a v k) (n : Nat) (hn : v 3 k = nI n) (hn8 : n ≤ 8) (boast : Int32) : FMet G l yX5_stepsBelow wsX5_stepsBelow ({ frames := 1, cells := 0, slots := 0, locals := 21 } : Room) [.ref a, .int boast] ω (rI (belowJ v k boast n) ω) 0 0 := by
  refine fw_ofW (cc := cX5_stepsBelow) (maxL := 4) (ret := (some .int)) (by decide) rfl (Nat.le_of_ble_eq_true rfl) ?_
  intro pP eE sS mI ar9 bl9 meth cD ls hx hb hr hlocks hml hts hown hnm hW hR hl
  have hK := hL.K hW
  have hS : va_S (fwA G) sS.heap sS.heap [] := va_S.rf
  have hin5 : ∀ w ∈ u_ws RX5 TX5 9, w ∈ wsX5_stepsBelow := by decide +kernel
  have hl : lv_has ls 4 [(0, .ref a), (1, .int boast)] := hl
  obtain ⟨h0, h1, h2, h3, h4⟩ := id hf
  refine lv_iconst (v := 0) hx hb dX5_stepsBelow_0 (by decide) ?_
  refine lv_istore_n (lv' := [(2, .int 0), (0, .ref a), (1, .int boast)]) hx hb dX5_stepsBelow_1 rfl hl (by decide) rfl (fun ls hl => ?_)
  refine lv_iconst (v := 0) hx hb dX5_stepsBelow_2 (by decide) ?_
  refine lv_istore_n (lv' := [(3, .int 0), (2, .int 0), (0, .ref a), (1, .int boast)]) hx hb dX5_stepsBelow_3 rfl hl (by decide) rfl (fun ls hl => ?_)
  have loop_1 : ∀ (fu : Nat) (j : Nat), (n - j) < fu → (j ≤ n) → ∀ (H : Heap) (locs : List Loc) (ls : Array Slot), fR G ω H → va_S (fwA G) sS.heap H locs → lv_has ls 4 [(3, .int (nI j)), (2, .int (belowJ v k boast j)), (0, .ref a), (1, .int boast)] → W pP l eE ({ frames := 1, cells := 0, slots := 0, locals := 21 } : Room) sS mI ar9 bl9 meth cD H locs 0 0 (MQ bl9 (fQ G (rI (belowJ v k boast n) ω)) ar9 sS 0 0 (fwA G)) (F0 mI 4 ls []) := by
    intro fu
    induction fu with
    | zero => intro j hfu; exact absurd hfu (Nat.not_lt_zero _)
    | succ fu ih =>
      intro j hfu hj H locs ls hR hS hl
      refine lv_iload_n hx hb dX5_stepsBelow_4 rfl (lv_at hl 0 rfl) ?_
      refine lv_aload_n hx hb dX5_stepsBelow_5 rfl (lv_at hl 2 rfl) ?_
      refine fw_get (v := .int (v 3 k)) (C := RX5) (T := TX5) (N := 9) hx hb hts hin5 hown hK hR h0 rfl 0 (by decide) (hts (.fieldLink RX5 24 "UnreadLeaflets$Leaflet" "steps" "I") (by decide +kernel)) rfl dX5_stepsBelow_6 ?_
      refine lv_icmp_ge (tgt := 33) hx hb dX5_stepsBelow_9 (by decide) (fun c_2 => ?_) (fun c_2 => ?_)
      · skip
        have hj2 := lp_ge hn c_2 (by omega) (by omega)
        have hjn : j = n := by omega
        refine lv_iload_n hx hb dX5_stepsBelow_33 rfl (lv_at hl 1 rfl) ?_
        refine fw_iret hx hb hr hlocks hR hS dX5_stepsBelow_34 (rI_mk ?_)
        rw [hjn]
      · skip
        have hj2 := lp_lt hn c_2 (by omega) (by omega)
        refine lv_aload_n hx hb dX5_stepsBelow_12 rfl (lv_at hl 2 rfl) ?_
        refine lv_iload_n hx hb dX5_stepsBelow_13 rfl (lv_at hl 0 rfl) ?_
        refine fw_call (va_runV (As := [.int (nI j)]) (rest := []) ⟨hx, hb, hml, hown, hts⟩ (c_X5_partsOfStep G hL l ω a k v hf  j (by omega)) (cwV 1 hts gX5_stepsBelow_X5_partsOfStep rfl rfl rfl (by decide +kernel) ⟨Nat.le_of_ble_eq_true rfl, Nat.le_of_ble_eq_true rfl⟩) (fw_preV hW hK hR h0 rfl) rfl rfl hl.1 rfl (lv_room (Nat.le_of_ble_eq_true rfl)) dX5_stepsBelow_14 ⟨Nat.le_of_ble_eq_true rfl, Nat.le_of_ble_eq_true rfl⟩) hS (fun v_3 ω_4 H locs hq_5 hR hS => ?_)
        obtain ⟨rfl, hq_5⟩ := hq_5
        rw [hq_5] at hR
        refine W.eq (g2 := F0 mI 17 ls [.int (psJ v k j)]) rfl ?_
        refine lv_iload_n hx hb dX5_stepsBelow_17 rfl (lv_at hl 3 rfl) ?_
        refine lv_icmp_ge (tgt := 27) hx hb dX5_stepsBelow_18 (by decide) (fun c_6 => ?_) (fun c_6 => ?_)
        · skip
          obtain ⟨x_7, ex_7⟩ : ∃ y : Int32, y = (nI j) + 1 := ⟨_, rfl⟩
          refine lv_iinc (v := x_7) (lv' := [(3, .int x_7), (2, .int (belowJ v k boast j)), (0, .ref a), (1, .int boast)]) hx hb dX5_stepsBelow_27 hl (k := 0) rfl (by rw [ex_7]; rfl) (by decide) rfl (fun ls hl => ?_)
          refine lv_goto (tgt := 4) hx hb dX5_stepsBelow_30 (by decide) ?_
          have el_3 : x_7 = nI (j + 1) := by rw [ex_7]; exact nI_1 j
          have el_2 : belowJ v k boast j = belowJ v k boast (j + 1) := by 
            simp only [partsJ, needJ, unreadJ, belowJ]; repeat' split
            all_goals first | rfl | contradiction | (exfalso; simp_all; done)
          have hl := lv_sub (l' := [(3, .int x_7), (2, .int (belowJ v k boast j)), (0, .ref a), (1, .int boast)]) hl [0, 1, 2, 3] rfl
          rw [el_3, el_2] at hl
          exact ih (j + 1) (by omega) (by first | assumption | omega | (simp; done)) _ _ _ hR hS hl
        · skip
          refine lv_iload_n hx hb dX5_stepsBelow_21 rfl (lv_at hl 1 rfl) ?_
          refine lv_iconst (v := 1) hx hb dX5_stepsBelow_22 (by decide) ?_
          refine lv_iload_n hx hb dX5_stepsBelow_23 rfl (lv_at hl 0 rfl) ?_
          refine lv_ishl hx hb dX5_stepsBelow_24 ?_
          refine lv_ior hx hb dX5_stepsBelow_25 ?_
          refine lv_topi (fun x_8 ex_8 => ?_)
          refine lv_istore_n (lv' := [(2, .int x_8), (3, .int (nI j)), (0, .ref a), (1, .int boast)]) hx hb dX5_stepsBelow_26 rfl hl (by decide) rfl (fun ls hl => ?_)
          obtain ⟨x_9, ex_9⟩ : ∃ y : Int32, y = (nI j) + 1 := ⟨_, rfl⟩
          refine lv_iinc (v := x_9) (lv' := [(3, .int x_9), (2, .int x_8), (0, .ref a), (1, .int boast)]) hx hb dX5_stepsBelow_27 hl (k := 1) rfl (by rw [ex_9]; rfl) (by decide) rfl (fun ls hl => ?_)
          refine lv_goto (tgt := 4) hx hb dX5_stepsBelow_30 (by decide) ?_
          have el_3 : x_9 = nI (j + 1) := by rw [ex_9]; exact nI_1 j
          have el_2 : x_8 = belowJ v k boast (j + 1) := by 
            rw [ex_8]; simp only [partsJ, needJ, unreadJ, belowJ]; repeat' split
            all_goals first | rfl | contradiction | (exfalso; simp_all; done)
          have hl := lv_sub (l' := [(3, .int x_9), (2, .int x_8), (0, .ref a), (1, .int boast)]) hl [0, 1, 2, 3] rfl
          rw [el_3, el_2] at hl
          exact ih (j + 1) (by omega) (by first | assumption | omega | (simp; done)) _ _ _ hR hS hl
  exact loop_1 _ 0 (Nat.lt_succ_self _) (by first | rfl | assumption | omega | (simp; done)) _ _ _ hR hS (lv_sub hl [0, 1, 2, 3] rfl)
set_option maxHeartbeats 4000000 in
set_option maxRecDepth 100000 in
theorem c_X5_stepsSkippedWith (G : FG) (hL : FL G) (l : Launch) (ω : FWd) (a k : Nat) (v : Nat → Nat → Int32) (hf : LeafS G ω.2 a v k) (n : Nat) (hn : v 3 k = nI n) (hn8 : n ≤ 8) (known boast : Int32) (f : Nat) (hf3 : f ≤ 3) : FMet G l yX5_stepsSkippedWith wsX5_stepsSkippedWith ({ frames := 2, cells := 0, slots := 0, locals := 44 } : Room) [.ref a, .int known, .int boast, .int (nI f)] ω (rI (skipF v k n known boast f) ω) 0 0 := by
  refine fw_ofW (cc := cX5_stepsSkippedWith) (maxL := 4) (ret := (some .int)) (by decide) rfl (Nat.le_of_ble_eq_true rfl) ?_
  intro pP eE sS mI ar9 bl9 meth cD ls hx hb hr hlocks hml hts hown hnm hW hR hl
  have hK := hL.K hW
  have hS : va_S (fwA G) sS.heap sS.heap [] := va_S.rf
  have hl : lv_has ls 4 [(0, .ref a), (1, .int known), (2, .int boast), (3, .int (nI f))] := hl
  obtain ⟨h0, h1, h2, h3, h4⟩ := id hf
  refine lv_aload_n hx hb dX5_stepsSkippedWith_0 rfl (lv_at hl 0 rfl) ?_
  refine lv_iload_n hx hb dX5_stepsSkippedWith_1 rfl (lv_at hl 3 rfl) ?_
  refine fw_call (va_runV (As := [.int (nI f)]) (rest := []) ⟨hx, hb, hml, hown, hts⟩ (c_X5_stepsUnder G hL l ω a k v hf  f (by omega)) (cwV 1 hts gX5_stepsSkippedWith_X5_stepsUnder rfl rfl rfl (by decide +kernel) ⟨Nat.le_of_ble_eq_true rfl, Nat.le_of_ble_eq_true rfl⟩) (fw_preV hW hK hR h0 rfl) rfl rfl hl.1 rfl (lv_room (Nat.le_of_ble_eq_true rfl)) dX5_stepsSkippedWith_2 ⟨Nat.le_of_ble_eq_true rfl, Nat.le_of_ble_eq_true rfl⟩) hS (fun v_1 ω_2 H locs hq_3 hR hS => ?_)
  obtain ⟨rfl, hq_3⟩ := hq_3
  rw [hq_3] at hR
  refine W.eq (g2 := F0 mI 5 ls [.int (underF v k f)]) rfl ?_
  refine lv_aload_n hx hb dX5_stepsSkippedWith_5 rfl (lv_at hl 0 rfl) ?_
  refine lv_iload_n hx hb dX5_stepsSkippedWith_6 rfl (lv_at hl 1 rfl) ?_
  refine fw_call (va_runV (As := [.int known]) (rest := [.int (underF v k f)]) ⟨hx, hb, hml, hown, hts⟩ (c_X5_stepsUnreadBy G hL l ω a k v hf n hn hn8 known) (cwV 1 hts gX5_stepsSkippedWith_X5_stepsUnreadBy rfl rfl rfl (by decide +kernel) ⟨Nat.le_of_ble_eq_true rfl, Nat.le_of_ble_eq_true rfl⟩) (fw_preV hW hK hR h0 rfl) rfl rfl hl.1 rfl (lv_room (Nat.le_of_ble_eq_true rfl)) dX5_stepsSkippedWith_7 ⟨Nat.le_of_ble_eq_true rfl, Nat.le_of_ble_eq_true rfl⟩) hS (fun v_4 ω_5 H locs hq_6 hR hS => ?_)
  obtain ⟨rfl, hq_6⟩ := hq_6
  rw [hq_6] at hR
  refine W.eq (g2 := F0 mI 10 ls [.int (unreadJ v k known n), .int (underF v k f)]) rfl ?_
  refine lv_ior hx hb dX5_stepsSkippedWith_10 ?_
  refine lv_aload_n hx hb dX5_stepsSkippedWith_11 rfl (lv_at hl 0 rfl) ?_
  refine lv_iload_n hx hb dX5_stepsSkippedWith_12 rfl (lv_at hl 2 rfl) ?_
  refine fw_call (va_runV (As := [.int boast]) (rest := [.int ((underF v k f) ||| (unreadJ v k known n))]) ⟨hx, hb, hml, hown, hts⟩ (c_X5_stepsBelow G hL l ω a k v hf n hn hn8 boast) (cwV 1 hts gX5_stepsSkippedWith_X5_stepsBelow rfl rfl rfl (by decide +kernel) ⟨Nat.le_of_ble_eq_true rfl, Nat.le_of_ble_eq_true rfl⟩) (fw_preV hW hK hR h0 rfl) rfl rfl hl.1 rfl (lv_room (Nat.le_of_ble_eq_true rfl)) dX5_stepsSkippedWith_13 ⟨Nat.le_of_ble_eq_true rfl, Nat.le_of_ble_eq_true rfl⟩) hS (fun v_7 ω_8 H locs hq_9 hR hS => ?_)
  obtain ⟨rfl, hq_9⟩ := hq_9
  rw [hq_9] at hR
  refine W.eq (g2 := F0 mI 16 ls [.int (belowJ v k boast n), .int ((underF v k f) ||| (unreadJ v k known n))]) rfl ?_
  refine lv_ior hx hb dX5_stepsSkippedWith_16 ?_
  refine fw_iret hx hb hr hlocks hR hS dX5_stepsSkippedWith_17 (rI_mk ?_)
  rfl
set_option maxHeartbeats 4000000 in
set_option maxRecDepth 100000 in
theorem c_X5_stepsSkippedBy (G : FG) (hL : FL G) (l : Launch) (ω : FWd) (a k : Nat) (v : Nat → Nat → Int32) (hf : LeafS G ω.2 a v k) (n : Nat) (hn : v 3 k = nI n) (hn8 : n ≤ 8) (f : Nat) (hf3 : f ≤ 3) (hff : v 4 k = nI f) (b : Nat) (bo kn : Int32) (hb0 : ω.2 b = some (.inr (5, [.int bo, .int kn]))) : FMet G l yX5_stepsSkippedBy wsX5_stepsSkippedBy ({ frames := 3, cells := 0, slots := 0, locals := 67 } : Room) [.ref a, .ref b] ω (rI (skipF v k n kn bo f) ω) 0 0 := by
  refine fw_ofW (cc := cX5_stepsSkippedBy) (maxL := 2) (ret := (some .int)) (by decide) rfl (Nat.le_of_ble_eq_true rfl) ?_
  intro pP eE sS mI ar9 bl9 meth cD ls hx hb hr hlocks hml hts hown hnm hW hR hl
  have hK := hL.K hW
  have hS : va_S (fwA G) sS.heap sS.heap [] := va_S.rf
  have hin3 : ∀ w ∈ u_ws RX3 TX3 2, w ∈ wsX5_stepsSkippedBy := by decide +kernel
  have hin5 : ∀ w ∈ u_ws RX5 TX5 9, w ∈ wsX5_stepsSkippedBy := by decide +kernel
  have hl : lv_has ls 2 [(0, .ref a), (1, .ref b)] := hl
  obtain ⟨h0, h1, h2, h3, h4⟩ := id hf
  refine lv_aload_n hx hb dX5_stepsSkippedBy_0 rfl (lv_at hl 0 rfl) ?_
  refine lv_aload_n hx hb dX5_stepsSkippedBy_1 rfl (lv_at hl 1 rfl) ?_
  refine fw_get (v := .int kn) (C := RX3) (T := TX3) (N := 2) hx hb hts hin3 hown hK hR hb0 rfl 1 (by decide) (hts (.fieldLink RX5 78 "UnreadLeaflets$Cousin" "languages" "I") (by decide +kernel)) rfl dX5_stepsSkippedBy_2 ?_
  refine lv_aload_n hx hb dX5_stepsSkippedBy_5 rfl (lv_at hl 1 rfl) ?_
  refine fw_get (v := .int bo) (C := RX3) (T := TX3) (N := 2) hx hb hts hin3 hown hK hR hb0 rfl 0 (by decide) (hts (.fieldLink RX5 82 "UnreadLeaflets$Cousin" "boast" "I") (by decide +kernel)) rfl dX5_stepsSkippedBy_6 ?_
  refine lv_aload_n hx hb dX5_stepsSkippedBy_9 rfl (lv_at hl 0 rfl) ?_
  refine fw_get (v := .int (v 4 k)) (C := RX5) (T := TX5) (N := 9) hx hb hts hin5 hown hK hR h0 rfl 1 (by decide) (hts (.fieldLink RX5 28 "UnreadLeaflets$Leaflet" "folds" "I") (by decide +kernel)) rfl dX5_stepsSkippedBy_10 ?_
  refine W.eq (g2 := F0 mI 13 ls [.int (nI f), .int bo, .int kn, .ref a]) (by rw [hff]) ?_
  refine fw_call (va_runV (As := [.int kn, .int bo, .int (nI f)]) (rest := []) ⟨hx, hb, hml, hown, hts⟩ (c_X5_stepsSkippedWith G hL l ω a k v hf n hn hn8 kn bo f (by omega)) (cwV 3 hts gX5_stepsSkippedBy_X5_stepsSkippedWith rfl rfl rfl (by decide +kernel) ⟨Nat.le_of_ble_eq_true rfl, Nat.le_of_ble_eq_true rfl⟩) (fw_preV hW hK hR h0 rfl) rfl rfl hl.1 rfl (lv_room (Nat.le_of_ble_eq_true rfl)) dX5_stepsSkippedBy_13 ⟨Nat.le_of_ble_eq_true rfl, Nat.le_of_ble_eq_true rfl⟩) hS (fun v_1 ω_2 H locs hq_3 hR hS => ?_)
  obtain ⟨rfl, hq_3⟩ := hq_3
  rw [hq_3] at hR
  refine W.eq (g2 := F0 mI 16 ls [.int (skipF v k n kn bo f)]) rfl ?_
  refine fw_iret hx hb hr hlocks hR hS dX5_stepsSkippedBy_16 (rI_mk ?_)
  exact rfl
