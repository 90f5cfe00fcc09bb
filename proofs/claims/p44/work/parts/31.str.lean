/-! ===== the JDK's own methods of texts, over the text's picture at the law's start ===== -/
def StrF (G : FG) (q : Nat) (cs : List Int32) : Prop := va_O "java/lang/String" q (fwA G) G.2.2 G.2.2.heap ∧ va_OF "java/lang/String" "coder" "B" (.int 0) q (fwA G) G.2.2 G.2.2.heap ∧ ∃ b : Nat, va_OF "java/lang/String" "value" "[B" (.ref b) q (fwA G) G.2.2 G.2.2.heap ∧ va_T .byte b cs.length (fun j => .int (cs.getD j 0)) (fwA G) G.2.2 G.2.2.heap
def FJ (G : FG) : Prop := va_Z "java/lang/String" "COMPACT_STRINGS" "Z" (.int 1) (fwA G) G.2.2 G.2.2.heap ∧ va_Zq "jdk/internal/util/Preconditions" "SIOOBE_FORMATTER" "Ljava/util/function/BiFunction;" (fwA G) G.2.2 G.2.2.heap
theorem fw_preStr {G : FG} {ω : FWd} {s : State} {H : Heap} {locs : List Loc} {As : List Value} {q : Nat} (hW : G.2.2.WarmedH s.vm) (hR : fR G ω H) (hO : va_O "java/lang/String" q (fwA G) s s.heap) (hS : va_S (fwA G) s.heap H locs) : PreV s H "java/lang/String" q (va_Pc (.ref q :: As) (fP G ω)) As := by
  obtain ⟨cell, h1, h2, h3, h4⟩ := hO.kept hS.2.1
  exact ⟨fw_blind, ⟨cell, h1, h2, h3⟩, fun _ hU hWs => ⟨rfl, State.WarmedH.trans hW hWs, by rw [hU]; exact hR⟩⟩
set_option maxHeartbeats 4000000 in
set_option maxRecDepth 100000 in
theorem c_J0_coder_7d493 (G : FG) (hL : FL G) (l : Launch) (ω : FWd) (hJ : FJ G) (q : Nat) (cs : List Int32) (hq : StrF G q cs) : FMet G l yJ0_coder_7d493 wsJ0_coder_7d493 ({ frames := 0, cells := 0, slots := 0, locals := 0 } : Room) [.ref q] ω (rI 0 ω) 0 0 := by
  refine fw_ofW (cc := cJ0_coder_7d493) (maxL := 1) (ret := some .byte) (by decide) rfl (Nat.le_of_ble_eq_true rfl) ?_
  intro pP eE sS mI ar9 bl9 meth cD ls hx hb hr hlocks hml hts hown hnm hW hR hl
  have hS : va_S (fwA G) sS.heap sS.heap [] := va_S.rf
  have hl : lv_has ls 1 [(0, .ref q)] := hl
  obtain ⟨q1, q2, b, q3, q4⟩ := hq
  refine va_gets (own := RJ0) (ref := "java/lang/String") hx hb ((va_Z.moved hW.alike hJ.1).kept hR.2.1.2.1) hS hown (hts (.fieldLink RJ0 38 "java/lang/String" "COMPACT_STRINGS" "Z") (by decide +kernel)) (fun _ h => h) dJ0_coder_7d493_0 ?_
  refine lv_if_eq (tgt := 13) hx hb dJ0_coder_7d493_3 (by decide) (fun c => absurd c (by decide)) (fun c => ?_)
  refine lv_aload_n hx hb dJ0_coder_7d493_6 rfl (lv_at hl 0 rfl) ?_
  refine vk_getf (own := RJ0) (ref := "java/lang/String") hx hb ((va_OF.moved hW.alike q2).kept hR.2.1.2.1) hS hown (hts (.fieldLink RJ0 15 "java/lang/String" "coder" "B") (by decide +kernel)) (fun _ h => h) dJ0_coder_7d493_7 ?_
  refine lv_goto (tgt := 14) hx hb dJ0_coder_7d493_10 (by decide) ?_
  exact fw_zret hx hb hr rfl hlocks hR hS dJ0_coder_7d493_14 (rI_mk rfl)
set_option maxHeartbeats 4000000 in
set_option maxRecDepth 100000 in
theorem c_J0_isLatin1_aae02 (G : FG) (hL : FL G) (l : Launch) (ω : FWd) (hJ : FJ G) (q : Nat) (cs : List Int32) (hq : StrF G q cs) : FMet G l yJ0_isLatin1_aae02 wsJ0_isLatin1_aae02 ({ frames := 0, cells := 0, slots := 0, locals := 0 } : Room) [.ref q] ω (rI 1 ω) 0 0 := by
  refine fw_ofW (cc := cJ0_isLatin1_aae02) (maxL := 1) (ret := some .boolean) (by decide) rfl (Nat.le_of_ble_eq_true rfl) ?_
  intro pP eE sS mI ar9 bl9 meth cD ls hx hb hr hlocks hml hts hown hnm hW hR hl
  have hS : va_S (fwA G) sS.heap sS.heap [] := va_S.rf
  have hl : lv_has ls 1 [(0, .ref q)] := hl
  obtain ⟨q1, q2, b, q3, q4⟩ := hq
  refine va_gets (own := RJ0) (ref := "java/lang/String") hx hb ((va_Z.moved hW.alike hJ.1).kept hR.2.1.2.1) hS hown (hts (.fieldLink RJ0 38 "java/lang/String" "COMPACT_STRINGS" "Z") (by decide +kernel)) (fun _ h => h) dJ0_isLatin1_aae02_0 ?_
  refine lv_if_eq (tgt := 17) hx hb dJ0_isLatin1_aae02_3 (by decide) (fun c => absurd c (by decide)) (fun c => ?_)
  refine lv_aload_n hx hb dJ0_isLatin1_aae02_6 rfl (lv_at hl 0 rfl) ?_
  refine vk_getf (own := RJ0) (ref := "java/lang/String") hx hb ((va_OF.moved hW.alike q2).kept hR.2.1.2.1) hS hown (hts (.fieldLink RJ0 15 "java/lang/String" "coder" "B") (by decide +kernel)) (fun _ h => h) dJ0_isLatin1_aae02_7 ?_
  refine lv_if_ne (tgt := 17) hx hb dJ0_isLatin1_aae02_10 (by decide) (fun c => absurd rfl c) (fun c => ?_)
  refine lv_iconst (v := 1) hx hb dJ0_isLatin1_aae02_13 (by decide) ?_
  refine lv_goto (tgt := 18) hx hb dJ0_isLatin1_aae02_14 (by decide) ?_
  exact fw_zret hx hb hr rfl hlocks hR hS dJ0_isLatin1_aae02_18 (rI_mk rfl)
set_option maxHeartbeats 4000000 in
set_option maxRecDepth 100000 in
theorem c_J0_isEmpty_aae02 (G : FG) (hL : FL G) (l : Launch) (ω : FWd) (q : Nat) (cs : List Int32) (hq : StrF G q cs) (hcs : cs.length < 100) : FMet G l yJ0_isEmpty_aae02 wsJ0_isEmpty_aae02 ({ frames := 0, cells := 0, slots := 0, locals := 0 } : Room) [.ref q] ω (rI (bz (cs.length = 0)) ω) 0 0 := by
  refine fw_ofW (cc := cJ0_isEmpty_aae02) (maxL := 1) (ret := some .boolean) (by decide) rfl (Nat.le_of_ble_eq_true rfl) ?_
  intro pP eE sS mI ar9 bl9 meth cD ls hx hb hr hlocks hml hts hown hnm hW hR hl
  have hS : va_S (fwA G) sS.heap sS.heap [] := va_S.rf
  have hl : lv_has ls 1 [(0, .ref q)] := hl
  obtain ⟨q1, q2, b, q3, q4⟩ := hq
  refine lv_aload_n hx hb dJ0_isEmpty_aae02_0 rfl (lv_at hl 0 rfl) ?_
  refine vk_getf (own := RJ0) (ref := "java/lang/String") hx hb ((va_OF.moved hW.alike q3).kept hR.2.1.2.1) hS hown (hts (.fieldLink RJ0 9 "java/lang/String" "value" "[B") (by decide +kernel)) (fun _ h => h) dJ0_isEmpty_aae02_1 ?_
  refine va_tlen hx hb ((va_T.moved hW.alike q4).kept hR.2.1.2.1) hS (v := nI cs.length) rfl dJ0_isEmpty_aae02_4 ?_
  refine lv_if_ne (tgt := 12) hx hb dJ0_isEmpty_aae02_5 (by decide) (fun c => ?_) (fun c => ?_)
  · refine lv_iconst (v := 0) hx hb dJ0_isEmpty_aae02_12 (by decide) ?_
    exact fw_zret hx hb hr rfl hlocks hR hS dJ0_isEmpty_aae02_13 (rI_mk (bz_0 (fun z => c (by rw [z]; rfl))).symm)
  · refine lv_iconst (v := 1) hx hb dJ0_isEmpty_aae02_8 (by decide) ?_
    refine lv_goto (tgt := 13) hx hb dJ0_isEmpty_aae02_9 (by decide) ?_
    exact fw_zret hx hb hr rfl hlocks hR hS dJ0_isEmpty_aae02_13 (rI_mk (bz_1 ((nI_eq (b := 0) (by omega) (by omega)).mp c)).symm)
set_option maxHeartbeats 4000000 in
set_option maxRecDepth 100000 in
theorem c_J0_length_8abf5 (G : FG) (hL : FL G) (l : Launch) (ω : FWd) (hJ : FJ G) (q : Nat) (cs : List Int32) (hq : StrF G q cs) : FMet G l yJ0_length_8abf5 wsJ0_length_8abf5 ({ frames := 1, cells := 0, slots := 0, locals := 20 } : Room) [.ref q] ω (rI (nI cs.length >>> ((0 : Int32) &&& 31)) ω) 0 0 := by
  refine fw_ofW (cc := cJ0_length_8abf5) (maxL := 1) (ret := some .int) (by decide) rfl (Nat.le_of_ble_eq_true rfl) ?_
  intro pP eE sS mI ar9 bl9 meth cD ls hx hb hr hlocks hml hts hown hnm hW hR hl
  have hS : va_S (fwA G) sS.heap sS.heap [] := va_S.rf
  have hl : lv_has ls 1 [(0, .ref q)] := hl
  obtain ⟨q1, q2, b, q3, q4⟩ := id hq
  refine lv_aload_n hx hb dJ0_length_8abf5_0 rfl (lv_at hl 0 rfl) ?_
  refine vk_getf (own := RJ0) (ref := "java/lang/String") hx hb ((va_OF.moved hW.alike q3).kept hR.2.1.2.1) hS hown (hts (.fieldLink RJ0 9 "java/lang/String" "value" "[B") (by decide +kernel)) (fun _ h => h) dJ0_length_8abf5_1 ?_
  refine va_tlen hx hb ((va_T.moved hW.alike q4).kept hR.2.1.2.1) hS (v := nI cs.length) rfl dJ0_length_8abf5_4 ?_
  refine lv_aload_n hx hb dJ0_length_8abf5_5 rfl (lv_at hl 0 rfl) ?_
  refine fw_call (va_runV (As := []) (rest := [.int (nI cs.length)]) ⟨hx, hb, hml, hown, hts⟩ (c_J0_coder_7d493 G hL l ω hJ q cs hq) (cwV 0 hts gJ0_length_8abf5_J0_coder_7d493 rfl rfl rfl (by decide +kernel) ⟨Nat.le_of_ble_eq_true rfl, Nat.le_of_ble_eq_true rfl⟩) (fw_preStr hW hR ((va_O.moved hW.alike q1).kept hR.2.1.2.1) hS) rfl rfl hl.1 rfl (lv_room (Nat.le_of_ble_eq_true rfl)) dJ0_length_8abf5_6 ⟨Nat.le_of_ble_eq_true rfl, Nat.le_of_ble_eq_true rfl⟩) hS (fun v_1 ω_2 H locs hq_3 hR hS => ?_)
  obtain ⟨rfl, hq_3⟩ := hq_3
  rw [hq_3] at hR
  refine W.eq (g2 := F0 mI 9 ls [.int 0, .int (nI cs.length)]) rfl ?_
  refine lv_ishr hx hb dJ0_length_8abf5_9 ?_
  exact fw_iret hx hb hr hlocks hR hS dJ0_length_8abf5_10 (rI_mk rfl)
theorem shr_0 {n : Nat} (h : n < 2 ^ 31) : nI n >>> ((0 : Int32) &&& 31) = nI n := by
  rw [pk_shrN h _ 0 (by decide), Nat.pow_zero, Nat.div_one]
set_option maxHeartbeats 4000000 in
set_option maxRecDepth 100000 in
theorem c_J3_checkIndex_n (G : FG) (hL : FL G) (l : Launch) (ω : FWd) (i n : Nat) (hin : i < n) (hn : n < 100) : FMet G l yJ3_checkIndex_8e157 wsJ3_checkIndex_8e157 ({ frames := 0, cells := 0, slots := 0, locals := 0 } : Room) [.int (nI i), .int (nI n), .null] ω (rI (nI i) ω) 0 0 := by
  refine fw_ofW (cc := cJ3_checkIndex_8e157) (maxL := 3) (ret := some .int) (by decide) rfl (Nat.le_of_ble_eq_true rfl) ?_
  intro pP eE sS mI ar9 bl9 meth cD ls hx hb hr hlocks hml hts hown hnm hW hR hl
  have hS : va_S (fwA G) sS.heap sS.heap [] := va_S.rf
  have hl : lv_has ls 3 [(0, .int (nI i)), (1, .int (nI n)), (2, .null)] := hl
  refine lv_iload_n hx hb dJ3_checkIndex_8e157_0 rfl (lv_at hl 0 rfl) ?_
  refine lv_if_lt (tgt := 9) hx hb dJ3_checkIndex_8e157_1 (by decide) (fun c => absurd c (nI_pos (by omega))) (fun c => ?_)
  refine lv_iload_n hx hb dJ3_checkIndex_8e157_4 rfl (lv_at hl 0 rfl) ?_
  refine lv_iload_n hx hb dJ3_checkIndex_8e157_5 rfl (lv_at hl 1 rfl) ?_
  refine lv_icmp_lt (tgt := 16) hx hb dJ3_checkIndex_8e157_6 (by decide) (fun c => ?_) (fun c => absurd (nI_lt hin (by omega)) c)
  refine lv_iload_n hx hb dJ3_checkIndex_8e157_16 rfl (lv_at hl 0 rfl) ?_
  exact fw_iret hx hb hr hlocks hR hS dJ3_checkIndex_8e157_17 (rI_mk rfl)
set_option maxHeartbeats 4000000 in
set_option maxRecDepth 100000 in
theorem c_J3_checkIndex_r (G : FG) (hL : FL G) (l : Launch) (ω : FWd) (i n t : Nat) (hin : i < n) (hn : n < 100) : FMet G l yJ3_checkIndex_8e157 wsJ3_checkIndex_8e157 ({ frames := 0, cells := 0, slots := 0, locals := 0 } : Room) [.int (nI i), .int (nI n), .ref t] ω (rI (nI i) ω) 0 0 := by
  refine fw_ofW (cc := cJ3_checkIndex_8e157) (maxL := 3) (ret := some .int) (by decide) rfl (Nat.le_of_ble_eq_true rfl) ?_
  intro pP eE sS mI ar9 bl9 meth cD ls hx hb hr hlocks hml hts hown hnm hW hR hl
  have hS : va_S (fwA G) sS.heap sS.heap [] := va_S.rf
  have hl : lv_has ls 3 [(0, .int (nI i)), (1, .int (nI n)), (2, .ref t)] := hl
  refine lv_iload_n hx hb dJ3_checkIndex_8e157_0 rfl (lv_at hl 0 rfl) ?_
  refine lv_if_lt (tgt := 9) hx hb dJ3_checkIndex_8e157_1 (by decide) (fun c => absurd c (nI_pos (by omega))) (fun c => ?_)
  refine lv_iload_n hx hb dJ3_checkIndex_8e157_4 rfl (lv_at hl 0 rfl) ?_
  refine lv_iload_n hx hb dJ3_checkIndex_8e157_5 rfl (lv_at hl 1 rfl) ?_
  refine lv_icmp_lt (tgt := 16) hx hb dJ3_checkIndex_8e157_6 (by decide) (fun c => ?_) (fun c => absurd (nI_lt hin (by omega)) c)
  refine lv_iload_n hx hb dJ3_checkIndex_8e157_16 rfl (lv_at hl 0 rfl) ?_
  exact fw_iret hx hb hr hlocks hR hS dJ3_checkIndex_8e157_17 (rI_mk rfl)
set_option maxHeartbeats 4000000 in
set_option maxRecDepth 100000 in
theorem c_J0_checkIndex_df160 (G : FG) (hL : FL G) (l : Launch) (ω : FWd) (hJ : FJ G) (i n : Nat) (hin : i < n) (hn : n < 100) : FMet G l yJ0_checkIndex_df160 wsJ0_checkIndex_df160 ({ frames := 1, cells := 0, slots := 0, locals := 22 } : Room) [.int (nI i), .int (nI n)] ω (rV ω) 0 0 := by
  refine fw_ofW (cc := cJ0_checkIndex_df160) (maxL := 2) (ret := none) (by decide) rfl (Nat.le_of_ble_eq_true rfl) ?_
  intro pP eE sS mI ar9 bl9 meth cD ls hx hb hr hlocks hml hts hown hnm hW hR hl
  have hS : va_S (fwA G) sS.heap sS.heap [] := va_S.rf
  have hl : lv_has ls 2 [(0, .int (nI i)), (1, .int (nI n))] := hl
  refine lv_iload_n hx hb dJ0_checkIndex_df160_0 rfl (lv_at hl 0 rfl) ?_
  refine lv_iload_n hx hb dJ0_checkIndex_df160_1 rfl (lv_at hl 1 rfl) ?_
  rcases (va_Zq.moved hW.alike hJ.2).kept hR.2.1.2.1 with hZ | ⟨t, hZ⟩
  · refine va_gets (own := RJ0) (ref := "jdk/internal/util/Preconditions") hx hb hZ hS hown (hts (.fieldLink RJ0 1053 "jdk/internal/util/Preconditions" "SIOOBE_FORMATTER" "Ljava/util/function/BiFunction;") (by decide +kernel)) (fun _ h => h) dJ0_checkIndex_df160_2 ?_
    refine fw_call (va_runS (As := [.int (nI i), .int (nI n), .null]) (rest := []) ⟨hx, hb, hml, hown, hts⟩ (c_J3_checkIndex_n G hL l ω i n hin hn) (va_cwS 3 hts gJ0_checkIndex_df160_J3_checkIndex_8e157 rfl rfl rfl (by decide +kernel) ⟨Nat.le_of_ble_eq_true rfl, Nat.le_of_ble_eq_true rfl⟩) (fw_preS hW hR) rfl rfl hl.1 rfl (lv_room (Nat.le_of_ble_eq_true rfl)) dJ0_checkIndex_df160_5 ⟨Nat.le_of_ble_eq_true rfl, Nat.le_of_ble_eq_true rfl⟩) hS (fun v_1 ω_2 H locs hq_3 hR hS => ?_)
    obtain ⟨rfl, hq_3⟩ := hq_3
    rw [hq_3] at hR
    refine W.eq (g2 := F0 mI 8 ls [.int (nI i)]) rfl ?_
    refine lv_pop hx hb dJ0_checkIndex_df160_8 rfl ?_
    exact fw_vret hx hb hr hlocks hR hS dJ0_checkIndex_df160_9 rV_mk
  · refine va_gets (own := RJ0) (ref := "jdk/internal/util/Preconditions") hx hb hZ hS hown (hts (.fieldLink RJ0 1053 "jdk/internal/util/Preconditions" "SIOOBE_FORMATTER" "Ljava/util/function/BiFunction;") (by decide +kernel)) (fun _ h => h) dJ0_checkIndex_df160_2 ?_
    refine fw_call (va_runS (As := [.int (nI i), .int (nI n), .ref t]) (rest := []) ⟨hx, hb, hml, hown, hts⟩ (c_J3_checkIndex_r G hL l ω i n t hin hn) (va_cwS 3 hts gJ0_checkIndex_df160_J3_checkIndex_8e157 rfl rfl rfl (by decide +kernel) ⟨Nat.le_of_ble_eq_true rfl, Nat.le_of_ble_eq_true rfl⟩) (fw_preS hW hR) rfl rfl hl.1 rfl (lv_room (Nat.le_of_ble_eq_true rfl)) dJ0_checkIndex_df160_5 ⟨Nat.le_of_ble_eq_true rfl, Nat.le_of_ble_eq_true rfl⟩) hS (fun v_1 ω_2 H locs hq_3 hR hS => ?_)
    obtain ⟨rfl, hq_3⟩ := hq_3
    rw [hq_3] at hR
    refine W.eq (g2 := F0 mI 8 ls [.int (nI i)]) rfl ?_
    refine lv_pop hx hb dJ0_checkIndex_df160_8 rfl ?_
    exact fw_vret hx hb hr hlocks hR hS dJ0_checkIndex_df160_9 rV_mk
set_option maxHeartbeats 4000000 in
set_option maxRecDepth 100000 in
theorem c_J1_charAt_3b067 (G : FG) (hL : FL G) (l : Launch) (ω : FWd) (hJ : FJ G) (b n : Nat) (f : Nat → Int32) (hT : va_T .byte b n (fun j => .int (f j)) (fwA G) G.2.2 G.2.2.heap) (i : Nat) (hin : i < n) (hn : n < 100) : FMet G l yJ1_charAt_3b067 wsJ1_charAt_3b067 ({ frames := 2, cells := 0, slots := 0, locals := 44 } : Room) [.ref b, .int (nI i)] ω (rI (chC (f i &&& 255)) ω) 0 0 := by
  refine fw_ofW (cc := cJ1_charAt_3b067) (maxL := 2) (ret := some .char) (by decide) rfl (Nat.le_of_ble_eq_true rfl) ?_
  intro pP eE sS mI ar9 bl9 meth cD ls hx hb hr hlocks hml hts hown hnm hW hR hl
  have hS : va_S (fwA G) sS.heap sS.heap [] := va_S.rf
  have hl : lv_has ls 2 [(0, .ref b), (1, .int (nI i))] := hl
  have hT2 := (va_T.moved hW.alike hT).kept hR.2.1.2.1
  refine lv_iload_n hx hb dJ1_charAt_3b067_0 rfl (lv_at hl 1 rfl) ?_
  refine lv_aload_n hx hb dJ1_charAt_3b067_1 rfl (lv_at hl 0 rfl) ?_
  refine va_tlen hx hb hT2 hS (v := nI n) rfl dJ1_charAt_3b067_2 ?_
  refine fw_call (va_runS (As := [.int (nI i), .int (nI n)]) (rest := []) ⟨hx, hb, hml, hown, hts⟩ (c_J0_checkIndex_df160 G hL l ω hJ i n hin hn) (va_cwS 2 hts gJ1_charAt_3b067_J0_checkIndex_df160 rfl rfl rfl (by decide +kernel) ⟨Nat.le_of_ble_eq_true rfl, Nat.le_of_ble_eq_true rfl⟩) (fw_preS hW hR) rfl rfl hl.1 rfl (lv_room (Nat.le_of_ble_eq_true rfl)) dJ1_charAt_3b067_3 ⟨Nat.le_of_ble_eq_true rfl, Nat.le_of_ble_eq_true rfl⟩) hS (fun v_1 ω_2 H locs hq_3 hR hS => ?_)
  obtain ⟨rfl, hq_3⟩ := hq_3
  rw [hq_3] at hR
  refine W.eq (g2 := F0 mI 6 ls []) rfl ?_
  refine lv_aload_n hx hb dJ1_charAt_3b067_6 rfl (lv_at hl 0 rfl) ?_
  refine lv_iload_n hx hb dJ1_charAt_3b067_7 rfl (lv_at hl 1 rfl) ?_
  refine va_tb hx hb hT2 hS (vp_in_nI hin (by omega)) (v := .int (f i)) (by rw [nI_clamp (by omega)]) dJ1_charAt_3b067_8 ?_
  refine lv_sipush (v := 255) hx hb dJ1_charAt_3b067_9 (by decide) ?_
  refine lv_iand hx hb dJ1_charAt_3b067_12 ?_
  refine lv_i2c hx hb dJ1_charAt_3b067_13 rfl ?_
  exact fw_zret hx hb hr (pk_nc _) hlocks hR hS dJ1_charAt_3b067_14 (rI_mk rfl)
set_option maxHeartbeats 4000000 in
set_option maxRecDepth 100000 in
theorem c_J0_charAt_5068e (G : FG) (hL : FL G) (l : Launch) (ω : FWd) (hJ : FJ G) (q : Nat) (cs : List Int32) (hq : StrF G q cs) (i : Nat) (hin : i < cs.length) (hn : cs.length < 100) : FMet G l yJ0_charAt_5068e wsJ0_charAt_5068e ({ frames := 3, cells := 0, slots := 0, locals := 66 } : Room) [.ref q, .int (nI i)] ω (rI (chC (cs.getD i 0 &&& 255)) ω) 0 0 := by
  refine fw_ofW (cc := cJ0_charAt_5068e) (maxL := 2) (ret := some .char) (by decide) rfl (Nat.le_of_ble_eq_true rfl) ?_
  intro pP eE sS mI ar9 bl9 meth cD ls hx hb hr hlocks hml hts hown hnm hW hR hl
  have hS : va_S (fwA G) sS.heap sS.heap [] := va_S.rf
  have hl : lv_has ls 2 [(0, .ref q), (1, .int (nI i))] := hl
  obtain ⟨q1, q2, b, q3, q4⟩ := id hq
  have hR0 := hR
  refine lv_aload_n hx hb dJ0_charAt_5068e_0 rfl (lv_at hl 0 rfl) ?_
  refine fw_call (va_runV (As := []) (rest := []) ⟨hx, hb, hml, hown, hts⟩ (c_J0_isLatin1_aae02 G hL l ω hJ q cs hq) (cwV 0 hts gJ0_charAt_5068e_J0_isLatin1_aae02 rfl rfl rfl (by decide +kernel) ⟨Nat.le_of_ble_eq_true rfl, Nat.le_of_ble_eq_true rfl⟩) (fw_preStr hW hR ((va_O.moved hW.alike q1).kept hR0.2.1.2.1) hS) rfl rfl hl.1 rfl (lv_room (Nat.le_of_ble_eq_true rfl)) dJ0_charAt_5068e_1 ⟨Nat.le_of_ble_eq_true rfl, Nat.le_of_ble_eq_true rfl⟩) hS (fun v_1 ω_2 H locs hq_3 hR hS => ?_)
  obtain ⟨rfl, hq_3⟩ := hq_3
  rw [hq_3] at hR
  refine W.eq (g2 := F0 mI 4 ls [.int 1]) rfl ?_
  refine lv_if_eq (tgt := 16) hx hb dJ0_charAt_5068e_4 (by decide) (fun c => absurd c (by decide)) (fun c => ?_)
  refine lv_aload_n hx hb dJ0_charAt_5068e_7 rfl (lv_at hl 0 rfl) ?_
  refine vk_getf (own := RJ0) (ref := "java/lang/String") hx hb ((va_OF.moved hW.alike q3).kept hR0.2.1.2.1) hS hown (hts (.fieldLink RJ0 9 "java/lang/String" "value" "[B") (by decide +kernel)) (fun _ h => h) dJ0_charAt_5068e_8 ?_
  refine lv_iload_n hx hb dJ0_charAt_5068e_11 rfl (lv_at hl 1 rfl) ?_
  refine fw_call (va_runS (As := [.ref b, .int (nI i)]) (rest := []) ⟨hx, hb, hml, hown, hts⟩ (c_J1_charAt_3b067 G hL l ω hJ b cs.length (fun j => cs.getD j 0) q4 i hin hn) (va_cwS 2 hts gJ0_charAt_5068e_J1_charAt_3b067 rfl rfl rfl (by decide +kernel) ⟨Nat.le_of_ble_eq_true rfl, Nat.le_of_ble_eq_true rfl⟩) (fw_preS hW hR) rfl rfl hl.1 rfl (lv_room (Nat.le_of_ble_eq_true rfl)) dJ0_charAt_5068e_12 ⟨Nat.le_of_ble_eq_true rfl, Nat.le_of_ble_eq_true rfl⟩) hS (fun v_1 ω_2 H locs hq_3 hR hS => ?_)
  obtain ⟨rfl, hq_3⟩ := hq_3
  rw [hq_3] at hR
  refine W.eq (g2 := F0 mI 15 ls [.int (chC (cs.getD i 0 &&& 255))]) rfl ?_
  exact fw_zret hx hb hr (pk_nc _) hlocks hR hS dJ0_charAt_5068e_15 (rI_mk rfl)
