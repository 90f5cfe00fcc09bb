/-! ===== printed by program (wip/p44/lay_str2.py): texts that were built ===== -/
set_option maxHeartbeats 4000000 in
set_option maxRecDepth 100000 in
theorem c_J0_coder_7d493C (G : FG) (hL : FL G) (l : Launch) (ω : FWd) (hJ : FJ G) (q vb : Nat) (cs : List Int32) (hq : ω.2 q = some (.inr (0, [.ref vb, .int 0, .int 0, .int 0]))) (hv : ω.2 vb = some (.inl (G.2.1 2, cs.length, .inl (fun i => cs.getD i 0)))) (hcs : cs.length < 100) : FMet G l yJ0_coder_7d493 wsJ0_coder_7d493 ({ frames := 0, cells := 0, slots := 0, locals := 0 } : Room) [.ref q] ω (rI 0 ω) 0 0 := by
  refine fw_ofW (cc := cJ0_coder_7d493) (maxL := 1) (ret := (some .byte)) (by decide) rfl (Nat.le_of_ble_eq_true rfl) ?_
  intro pP eE sS mI ar9 bl9 meth cD ls hx hb hr hlocks hml hts hown hnm hW hR hl
  have hK := hL.K hW
  have hR0 := hR
  have hS : va_S (fwA G) sS.heap sS.heap [] := va_S.rf
  have hl : lv_has ls 1 [(0, .ref q)] := hl
  have hin0 : ∀ w ∈ u_ws RJ0 TJ0 4, w ∈ wsJ0_coder_7d493 := by decide +kernel
  refine va_gets (own := RJ0) (ref := "java/lang/String") hx hb ((va_Z.moved hW.alike hJ.1).kept hR0.2.1.2.1) hS hown (hts (.fieldLink RJ0 38 "java/lang/String" "COMPACT_STRINGS" "Z") (by decide +kernel)) (fun _ h => h) dJ0_coder_7d493_0 ?_
  refine lv_if_eq (tgt := 13) hx hb dJ0_coder_7d493_3 (by decide) (fun c => absurd c (by decide)) (fun c => ?_)
  refine lv_aload_n hx hb dJ0_coder_7d493_6 rfl (lv_at hl 0 rfl) ?_
  refine fw_get (C := RJ0) (T := TJ0) (N := 4) hx hb hts hin0 hown hK hR hq rfl 1 (by decide) (hts (.fieldLink RJ0 15 "java/lang/String" "coder" "B") (by decide +kernel)) rfl dJ0_coder_7d493_7 ?_
  refine lv_goto (tgt := 14) hx hb dJ0_coder_7d493_10 (by decide) ?_
  exact fw_zret hx hb hr rfl hlocks hR hS dJ0_coder_7d493_14 (rI_mk rfl)

set_option maxHeartbeats 4000000 in
set_option maxRecDepth 100000 in
theorem c_J0_isLatin1_aae02C (G : FG) (hL : FL G) (l : Launch) (ω : FWd) (hJ : FJ G) (q vb : Nat) (cs : List Int32) (hq : ω.2 q = some (.inr (0, [.ref vb, .int 0, .int 0, .int 0]))) (hv : ω.2 vb = some (.inl (G.2.1 2, cs.length, .inl (fun i => cs.getD i 0)))) (hcs : cs.length < 100) : FMet G l yJ0_isLatin1_aae02 wsJ0_isLatin1_aae02 ({ frames := 0, cells := 0, slots := 0, locals := 0 } : Room) [.ref q] ω (rI 1 ω) 0 0 := by
  refine fw_ofW (cc := cJ0_isLatin1_aae02) (maxL := 1) (ret := (some .boolean)) (by decide) rfl (Nat.le_of_ble_eq_true rfl) ?_
  intro pP eE sS mI ar9 bl9 meth cD ls hx hb hr hlocks hml hts hown hnm hW hR hl
  have hK := hL.K hW
  have hR0 := hR
  have hS : va_S (fwA G) sS.heap sS.heap [] := va_S.rf
  have hl : lv_has ls 1 [(0, .ref q)] := hl
  have hin0 : ∀ w ∈ u_ws RJ0 TJ0 4, w ∈ wsJ0_isLatin1_aae02 := by decide +kernel
  refine va_gets (own := RJ0) (ref := "java/lang/String") hx hb ((va_Z.moved hW.alike hJ.1).kept hR0.2.1.2.1) hS hown (hts (.fieldLink RJ0 38 "java/lang/String" "COMPACT_STRINGS" "Z") (by decide +kernel)) (fun _ h => h) dJ0_isLatin1_aae02_0 ?_
  refine lv_if_eq (tgt := 17) hx hb dJ0_isLatin1_aae02_3 (by decide) (fun c => absurd c (by decide)) (fun c => ?_)
  refine lv_aload_n hx hb dJ0_isLatin1_aae02_6 rfl (lv_at hl 0 rfl) ?_
  refine fw_get (C := RJ0) (T := TJ0) (N := 4) hx hb hts hin0 hown hK hR hq rfl 1 (by decide) (hts (.fieldLink RJ0 15 "java/lang/String" "coder" "B") (by decide +kernel)) rfl dJ0_isLatin1_aae02_7 ?_
  refine lv_if_ne (tgt := 17) hx hb dJ0_isLatin1_aae02_10 (by decide) (fun c => absurd rfl c) (fun c => ?_)
  refine lv_iconst (v := 1) hx hb dJ0_isLatin1_aae02_13 (by decide) ?_
  refine lv_goto (tgt := 18) hx hb dJ0_isLatin1_aae02_14 (by decide) ?_
  exact fw_zret hx hb hr rfl hlocks hR hS dJ0_isLatin1_aae02_18 (rI_mk rfl)

set_option maxHeartbeats 4000000 in
set_option maxRecDepth 100000 in
theorem c_J0_length_8abf5C (G : FG) (hL : FL G) (l : Launch) (ω : FWd) (hJ : FJ G) (q vb : Nat) (cs : List Int32) (hq : ω.2 q = some (.inr (0, [.ref vb, .int 0, .int 0, .int 0]))) (hv : ω.2 vb = some (.inl (G.2.1 2, cs.length, .inl (fun i => cs.getD i 0)))) (hcs : cs.length < 100) : FMet G l yJ0_length_8abf5 wsJ0_length_8abf5 ({ frames := 1, cells := 0, slots := 0, locals := 20 } : Room) [.ref q] ω (rI (nI cs.length) ω) 0 0 := by
  refine fw_ofW (cc := cJ0_length_8abf5) (maxL := 1) (ret := (some .int)) (by decide) rfl (Nat.le_of_ble_eq_true rfl) ?_
  intro pP eE sS mI ar9 bl9 meth cD ls hx hb hr hlocks hml hts hown hnm hW hR hl
  have hK := hL.K hW
  have hR0 := hR
  have hS : va_S (fwA G) sS.heap sS.heap [] := va_S.rf
  have hl : lv_has ls 1 [(0, .ref q)] := hl
  have hin0 : ∀ w ∈ u_ws RJ0 TJ0 4, w ∈ wsJ0_length_8abf5 := by decide +kernel
  refine lv_aload_n hx hb dJ0_length_8abf5_0 rfl (lv_at hl 0 rfl) ?_
  refine fw_get (C := RJ0) (T := TJ0) (N := 4) hx hb hts hin0 hown hK hR hq rfl 0 (by decide) (hts (.fieldLink RJ0 9 "java/lang/String" "value" "[B") (by decide +kernel)) rfl dJ0_length_8abf5_1 ?_
  refine va_alen hx hb hK (hR.at1 hv) 0 2 rfl rfl (v := nI cs.length) rfl dJ0_length_8abf5_4 ?_
  refine lv_aload_n hx hb dJ0_length_8abf5_5 rfl (lv_at hl 0 rfl) ?_
  refine fw_call (va_runV (As := []) (rest := [.int (nI cs.length)]) ⟨hx, hb, hml, hown, hts⟩ (c_J0_coder_7d493C G hL l ω hJ q vb cs hq hv hcs) (cwV 0 hts gJ0_length_8abf5_J0_coder_7d493 rfl rfl rfl (by decide +kernel) ⟨Nat.le_of_ble_eq_true rfl, Nat.le_of_ble_eq_true rfl⟩) (fw_preV hW hK hR hq rfl) rfl rfl hl.1 rfl (lv_room (Nat.le_of_ble_eq_true rfl)) dJ0_length_8abf5_6 ⟨by first | exact Nat.le_of_ble_eq_true rfl | omega, by first | exact Nat.le_of_ble_eq_true rfl | omega⟩) hS (fun v_1 τ_1 H locs hq_1 hR hS => ?_)
  obtain ⟨rfl, hq_1⟩ := hq_1
  rw [hq_1] at hR
  refine W.eq (g2 := F0 mI 9 ls [.int 0, .int (nI cs.length)]) rfl ?_
  refine lv_ishr hx hb dJ0_length_8abf5_9 ?_
  refine W.eq (g2 := F0 mI 10 ls [.int (nI cs.length)]) (by rw [shr_0 (by omega)]) ?_
  exact fw_iret hx hb hr hlocks hR hS dJ0_length_8abf5_10 (rI_mk rfl)

set_option maxHeartbeats 4000000 in
set_option maxRecDepth 100000 in
theorem c_J1_charAt_3b067C (G : FG) (hL : FL G) (l : Launch) (ω : FWd) (hJ : FJ G) (vb i : Nat) (cs : List Int32) (hv : ω.2 vb = some (.inl (G.2.1 2, cs.length, .inl (fun i => cs.getD i 0)))) (hi : i < cs.length) (hcs : cs.length < 100) : FMet G l yJ1_charAt_3b067 wsJ1_charAt_3b067 ({ frames := 2, cells := 0, slots := 0, locals := 44 } : Room) [.ref vb, .int (nI i)] ω (rI (chC (cs.getD i 0 &&& 255)) ω) 0 0 := by
  refine fw_ofW (cc := cJ1_charAt_3b067) (maxL := 2) (ret := (some .char)) (by decide) rfl (Nat.le_of_ble_eq_true rfl) ?_
  intro pP eE sS mI ar9 bl9 meth cD ls hx hb hr hlocks hml hts hown hnm hW hR hl
  have hK := hL.K hW
  have hR0 := hR
  have hS : va_S (fwA G) sS.heap sS.heap [] := va_S.rf
  have hl : lv_has ls 2 [(0, .ref vb), (1, .int (nI i))] := hl
  refine lv_iload_n hx hb dJ1_charAt_3b067_0 rfl (lv_at hl 1 rfl) ?_
  refine lv_aload_n hx hb dJ1_charAt_3b067_1 rfl (lv_at hl 0 rfl) ?_
  refine va_alen hx hb hK (hR.at1 hv) 0 2 rfl rfl (v := nI cs.length) rfl dJ1_charAt_3b067_2 ?_
  refine fw_call (va_runS (As := [.int (nI i), .int (nI cs.length)]) (rest := []) ⟨hx, hb, hml, hown, hts⟩ (c_J0_checkIndex_df160 G hL l ω hJ i cs.length hi hcs) (va_cwS 2 hts gJ1_charAt_3b067_J0_checkIndex_df160 rfl rfl rfl (by decide +kernel) ⟨Nat.le_of_ble_eq_true rfl, Nat.le_of_ble_eq_true rfl⟩) (fw_preS hW hR) rfl rfl hl.1 rfl (lv_room (Nat.le_of_ble_eq_true rfl)) dJ1_charAt_3b067_3 ⟨by first | exact Nat.le_of_ble_eq_true rfl | omega, by first | exact Nat.le_of_ble_eq_true rfl | omega⟩) hS (fun v_1 τ_1 H locs hq_1 hR hS => ?_)
  obtain ⟨rfl, hq_1⟩ := hq_1
  rw [hq_1] at hR
  refine W.eq (g2 := F0 mI 6 ls []) rfl ?_
  refine lv_aload_n hx hb dJ1_charAt_3b067_6 rfl (lv_at hl 0 rfl) ?_
  refine lv_iload_n hx hb dJ1_charAt_3b067_7 rfl (lv_at hl 1 rfl) ?_
  refine va_bald hx hb hK (hR.at1 hv) 0 2 rfl rfl (vp_in_nI hi (by omega)) dJ1_charAt_3b067_8 ?_
  refine W.eq (g2 := F0 mI 9 ls [.int (cs.getD i 0)]) (by rw [nI_clamp (by omega)]) ?_
  refine lv_sipush (v := 255) hx hb dJ1_charAt_3b067_9 (by decide) ?_
  refine lv_iand hx hb dJ1_charAt_3b067_12 ?_
  refine lv_i2c (v := chC (cs.getD i 0 &&& 255)) hx hb dJ1_charAt_3b067_13 rfl ?_
  exact fw_zret hx hb hr (pk_nc _) hlocks hR hS dJ1_charAt_3b067_14 (rI_mk rfl)

set_option maxHeartbeats 4000000 in
set_option maxRecDepth 100000 in
theorem c_J0_charAt_5068eC (G : FG) (hL : FL G) (l : Launch) (ω : FWd) (hJ : FJ G) (q vb : Nat) (cs : List Int32) (hq : ω.2 q = some (.inr (0, [.ref vb, .int 0, .int 0, .int 0]))) (hv : ω.2 vb = some (.inl (G.2.1 2, cs.length, .inl (fun i => cs.getD i 0)))) (hcs : cs.length < 100) (i : Nat) (hi : i < cs.length) : FMet G l yJ0_charAt_5068e wsJ0_charAt_5068e ({ frames := 3, cells := 0, slots := 0, locals := 66 } : Room) [.ref q, .int (nI i)] ω (rI (chC (cs.getD i 0 &&& 255)) ω) 0 0 := by
  refine fw_ofW (cc := cJ0_charAt_5068e) (maxL := 2) (ret := (some .char)) (by decide) rfl (Nat.le_of_ble_eq_true rfl) ?_
  intro pP eE sS mI ar9 bl9 meth cD ls hx hb hr hlocks hml hts hown hnm hW hR hl
  have hK := hL.K hW
  have hR0 := hR
  have hS : va_S (fwA G) sS.heap sS.heap [] := va_S.rf
  have hl : lv_has ls 2 [(0, .ref q), (1, .int (nI i))] := hl
  have hin0 : ∀ w ∈ u_ws RJ0 TJ0 4, w ∈ wsJ0_charAt_5068e := by decide +kernel
  refine lv_aload_n hx hb dJ0_charAt_5068e_0 rfl (lv_at hl 0 rfl) ?_
  refine fw_call (va_runV (As := []) (rest := []) ⟨hx, hb, hml, hown, hts⟩ (c_J0_isLatin1_aae02C G hL l ω hJ q vb cs hq hv hcs) (cwV 0 hts gJ0_charAt_5068e_J0_isLatin1_aae02 rfl rfl rfl (by decide +kernel) ⟨Nat.le_of_ble_eq_true rfl, Nat.le_of_ble_eq_true rfl⟩) (fw_preV hW hK hR hq rfl) rfl rfl hl.1 rfl (lv_room (Nat.le_of_ble_eq_true rfl)) dJ0_charAt_5068e_1 ⟨by first | exact Nat.le_of_ble_eq_true rfl | omega, by first | exact Nat.le_of_ble_eq_true rfl | omega⟩) hS (fun v_1 τ_1 H locs hq_1 hR hS => ?_)
  obtain ⟨rfl, hq_1⟩ := hq_1
  rw [hq_1] at hR
  refine W.eq (g2 := F0 mI 4 ls [.int 1]) rfl ?_
  refine lv_if_eq (tgt := 16) hx hb dJ0_charAt_5068e_4 (by decide) (fun c => absurd c (by decide)) (fun c => ?_)
  refine lv_aload_n hx hb dJ0_charAt_5068e_7 rfl (lv_at hl 0 rfl) ?_
  refine fw_get (C := RJ0) (T := TJ0) (N := 4) hx hb hts hin0 hown hK hR hq rfl 0 (by decide) (hts (.fieldLink RJ0 9 "java/lang/String" "value" "[B") (by decide +kernel)) rfl dJ0_charAt_5068e_8 ?_
  refine lv_iload_n hx hb dJ0_charAt_5068e_11 rfl (lv_at hl 1 rfl) ?_
  refine fw_call (va_runS (As := [.ref vb, .int (nI i)]) (rest := []) ⟨hx, hb, hml, hown, hts⟩ (c_J1_charAt_3b067C G hL l ω hJ vb i cs hv hi hcs) (va_cwS 2 hts gJ0_charAt_5068e_J1_charAt_3b067 rfl rfl rfl (by decide +kernel) ⟨Nat.le_of_ble_eq_true rfl, Nat.le_of_ble_eq_true rfl⟩) (fw_preS hW hR) rfl rfl hl.1 rfl (lv_room (Nat.le_of_ble_eq_true rfl)) dJ0_charAt_5068e_12 ⟨by first | exact Nat.le_of_ble_eq_true rfl | omega, by first | exact Nat.le_of_ble_eq_true rfl | omega⟩) hS (fun v_2 τ_2 H locs hq_2 hR hS => ?_)
  obtain ⟨rfl, hq_2⟩ := hq_2
  rw [hq_2] at hR
  refine W.eq (g2 := F0 mI 15 ls [.int (chC (cs.getD i 0 &&& 255))]) rfl ?_
  exact fw_zret hx hb hr (pk_nc _) hlocks hR hS dJ0_charAt_5068e_15 (rI_mk rfl)

theorem tx_len (G : FG) (hL : FL G) (l : Launch) (ω : FWd) (hJ : FJ G) (x q : Nat) (cs : List Int32) (hT : TxR G ω.2 x q cs) (hcs : cs.length < 100) : FMet G l yJ0_length_8abf5 wsJ0_length_8abf5 ({ frames := 1, cells := 0, slots := 0, locals := 20 } : Room) [.ref q] ω (rI (nI cs.length) ω) 0 0 := by
  rcases hT with h | ⟨vb, -, -, h3, h4⟩
  · have := c_J0_length_8abf5 G hL l ω hJ q cs h
    rw [shr_0 (by omega)] at this
    exact this
  · exact c_J0_length_8abf5C G hL l ω hJ q vb cs h3 h4 hcs
theorem tx_char (G : FG) (hL : FL G) (l : Launch) (ω : FWd) (hJ : FJ G) (x q : Nat) (cs : List Int32) (hT : TxR G ω.2 x q cs) (hcs : cs.length < 100) (i : Nat) (hi : i < cs.length) : FMet G l yJ0_charAt_5068e wsJ0_charAt_5068e ({ frames := 3, cells := 0, slots := 0, locals := 66 } : Room) [.ref q, .int (nI i)] ω (rI (chC (cs.getD i 0 &&& 255)) ω) 0 0 := by
  rcases hT with h | ⟨vb, -, -, h3, h4⟩
  · exact c_J0_charAt_5068e G hL l ω hJ q cs h i hi hcs
  · exact c_J0_charAt_5068eC G hL l ω hJ q vb cs h3 h4 hcs i hi
