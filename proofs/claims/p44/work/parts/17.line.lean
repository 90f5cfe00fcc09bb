/-! ===== printed by program (wip/whole/gen): the line, the commands ===== -/
set_option maxHeartbeats 4000000 in
set_option maxRecDepth 100000 in
theorem c_X6_put (G : FG) (hL : FL G) (l : Launch) (ω : FWd) (y : Nat) (L : LN) (hLn : LinS G ω.2 y L) (ch : Int32) (hch : vp_nar .char ch = ch) : FMet G l yX6_put wsX6_put ({ frames := 0, cells := 0, slots := 0, locals := 0 } : Room) [.ref y, .int ch] ω (fun vv9 τ9 => vv9 = none ∧ τ9.1 = ω.1 ∧ τ9.2 y = some (.inr (8, [.ref (y + 1), .int (nI (putP L ch).2)])) ∧ τ9.2 (y + 1) = some (.inl (G.2.1 1, 48, .inl (putP L ch).1)) ∧ ∀ q : Nat, ¬ q = y → ¬ q = (y + 1) → τ9.2 q = ω.2 q) 0 0 := by
  refine fw_ofW (cc := cX6_put) (maxL := 2) (ret := none) (by decide) rfl (Nat.le_of_ble_eq_true rfl) ?_
  intro pP eE sS mI ar9 bl9 meth cD ls hx hb hr hlocks hml hts hown hnm hW hR hl
  have hK := hL.K hW
  have hS : va_S (fwA G) sS.heap sS.heap [] := va_S.rf
  have hin6 : ∀ w ∈ u_ws RX6 TX6 2, w ∈ wsX6_put := by decide +kernel
  have hl : lv_has ls 2 [(0, .ref y), (1, .int ch)] := hl
  obtain ⟨y0, y1, y2⟩ := id hLn
  refine lv_aload_n hx hb dX6_put_0 rfl (lv_at hl 0 rfl) ?_
  refine fw_get (v := .int (nI L.2)) (C := RX6) (T := TX6) (N := 2) hx hb hts hin6 hown hK hR y0 rfl 1 (by decide) (hts (.fieldLink RX6 15 "UnreadLeaflets$Line" "length" "I") (by decide +kernel)) rfl dX6_put_1 ?_
  refine lv_bipush (v := 48) hx hb dX6_put_4 (by decide) ?_
  refine lv_icmp_ge (tgt := 29) hx hb dX6_put_6 (by decide) (fun c_1 => ?_) (fun c_1 => ?_)
  · skip
    have hn : ¬ L.2 < 48 := fun z => absurd ((nI_leI (a := 48) (by omega) (by omega)).mp c_1) (Nat.not_le.mpr z)
    have fr_2 : ∀ q : Nat, ¬ q = y → ¬ q = (y + 1) → ω.2 q = ω.2 q := by
      intro q h0 h1
      rfl
    have z_3 : ω.1 = ω.1 := rfl
    refine fw_vret hx hb hr hlocks hR hS dX6_put_29 ⟨rfl, z_3, ?_, ?_, fr_2⟩
    · refine y0.trans (congrArg some ?_)
      simp only [putP, if_neg hn, nI_1]
    · refine y1.trans (congrArg some ?_)
      simp only [putP, if_neg hn, nI_1]
  · skip
    have hn : L.2 < 48 := Nat.lt_of_not_le (fun z => c_1 ((nI_leI (a := 48) (by omega) (by omega)).mpr z))
    refine lv_aload_n hx hb dX6_put_9 rfl (lv_at hl 0 rfl) ?_
    refine fw_get (v := .ref (y + 1)) (C := RX6) (T := TX6) (N := 2) hx hb hts hin6 hown hK hR y0 rfl 0 (by decide) (hts (.fieldLink RX6 9 "UnreadLeaflets$Line" "characters" "[C") (by decide +kernel)) rfl dX6_put_10 ?_
    refine lv_aload_n hx hb dX6_put_13 rfl (lv_at hl 0 rfl) ?_
    refine fw_get (v := .int (nI L.2)) (C := RX6) (T := TX6) (N := 2) hx hb hts hin6 hown hK hR y0 rfl 1 (by decide) (hts (.fieldLink RX6 15 "UnreadLeaflets$Line" "length" "I") (by decide +kernel)) rfl dX6_put_14 ?_
    refine lv_iload_n hx hb dX6_put_17 rfl (lv_at hl 1 rfl) ?_
    refine fw_cast hx hb hK hR hS y1 (vp_in_nI (by omega) (by omega)) dX6_put_18 (fun H locs hR hS => ?_)
    rw [show (nI L.2).toNatClampNeg = L.2 from nI_clamp (by omega), hch] at hR
    obtain ⟨ω_4, hw_5⟩ : ∃ τ : FWd, τ = (ω.1, va_up ω.2 (y + 1) (some (.inl (G.2.1 1, 48, .inl (upd L.1 L.2 ch))))) := ⟨_, rfl⟩
    have hR : fR G ω_4 H := by rw [hw_5]; exact hR
    have f_6 : ω_4.2 (y + 1) = some (.inl (G.2.1 1, 48, .inl (upd L.1 L.2 ch))) := by rw [hw_5]; exact va_up_at
    have fr_7 : ∀ q : Nat, ¬ q = (y + 1) → ω_4.2 q = ω.2 q := fun q hq => by rw [hw_5]; exact va_up_off hq
    have z_8 : ω_4.1 = ω.1 := by rw [hw_5]
    refine lv_aload_n hx hb dX6_put_19 rfl (lv_at hl 0 rfl) ?_
    refine lv_dup hx hb dX6_put_20 rfl ?_
    have f_9 : ω_4.2 y = some (.inr (8, [.ref (y + 1), .int (nI L.2)])) := (fr_7 y (by omega)).trans y0
    refine fw_get (v := .int (nI L.2)) (C := RX6) (T := TX6) (N := 2) hx hb hts hin6 hown hK hR f_9 rfl 1 (by decide) (hts (.fieldLink RX6 15 "UnreadLeaflets$Line" "length" "I") (by decide +kernel)) rfl dX6_put_21 ?_
    refine lv_iconst (v := 1) hx hb dX6_put_24 (by decide) ?_
    refine lv_iadd hx hb dX6_put_25 ?_
    refine fw_put (v := .int ((nI L.2) + 1)) (C := RX6) (T := TX6) (N := 2) hx hb hts hin6 tyX6 tyX6_ok nmX6 hown hK hR hS f_9 rfl 1 (by decide) (hts (.fieldLink RX6 15 "UnreadLeaflets$Line" "length" "I") (by decide +kernel)) rfl rfl rfl (Nat.le_of_ble_eq_true rfl) dX6_put_26 (fun H locs hR hS => ?_)
    obtain ⟨ω_10, hw_11⟩ : ∃ τ : FWd, τ = (ω_4.1, va_up ω_4.2 y (some (.inr (8, [.ref (y + 1), .int ((nI L.2) + 1)])))) := ⟨_, rfl⟩
    have hR : fR G ω_10 H := by rw [hw_11]; exact hR
    have f_12 : ω_10.2 y = some (.inr (8, [.ref (y + 1), .int ((nI L.2) + 1)])) := by rw [hw_11]; exact va_up_at
    have fr_13 : ∀ q : Nat, ¬ q = y → ω_10.2 q = ω_4.2 q := fun q hq => by rw [hw_11]; exact va_up_off hq
    have z_14 : ω_10.1 = ω_4.1 := by rw [hw_11]
    have f_15 : ω_10.2 (y + 1) = some (.inl (G.2.1 1, 48, .inl (upd L.1 L.2 ch))) := (fr_13 (y + 1) (by omega)).trans f_6
    have fr_16 : ∀ q : Nat, ¬ q = y → ¬ q = (y + 1) → ω_10.2 q = ω.2 q := by
      intro q h0 h1
      rw [fr_13 q (by omega)]
      rw [fr_7 q (by omega)]
    have z_17 : ω_10.1 = ω.1 := by rw [z_14, z_8]
    refine fw_vret hx hb hr hlocks hR hS dX6_put_29 ⟨rfl, z_17, ?_, ?_, fr_16⟩
    · refine f_12.trans (congrArg some ?_)
      simp only [putP, if_pos hn, nI_1]
    · refine f_15.trans (congrArg some ?_)
      simp only [putP, if_pos hn, nI_1]
set_option maxHeartbeats 4000000 in
set_option maxRecDepth 100000 in
theorem c_X6_writeStep (G : FG) (hL : FL G) (l : Launch) (ω : FWd) (y : Nat) (L : LN) (hLn : LinS G ω.2 y L) (a k : Nat) (v : Nat → Nat → Int32) (hf : LeafS G ω.2 a v k) (j : Nat) (hj8 : j < 8) (hd : y + 2 ≤ a ∨ a + 5 ≤ y) : FMet G l yX6_writeStep wsX6_writeStep ({ frames := 2, cells := 0, slots := 0, locals := 42 } : Room) [.ref y, .ref a, .int (nI j)] ω (fun vv9 τ9 => vv9 = none ∧ τ9.1 = ω.1 ∧ τ9.2 y = some (.inr (8, [.ref (y + 1), .int (nI (stepP L v k j).2)])) ∧ τ9.2 (y + 1) = some (.inl (G.2.1 1, 48, .inl (stepP L v k j).1)) ∧ ∀ q : Nat, ¬ q = y → ¬ q = (y + 1) → τ9.2 q = ω.2 q) 0 0 := by
  refine fw_ofW (cc := cX6_writeStep) (maxL := 3) (ret := none) (by decide) rfl (Nat.le_of_ble_eq_true rfl) ?_
  intro pP eE sS mI ar9 bl9 meth cD ls hx hb hr hlocks hml hts hown hnm hW hR hl
  have hK := hL.K hW
  have hS : va_S (fwA G) sS.heap sS.heap [] := va_S.rf
  have hin5 : ∀ w ∈ u_ws RX5 TX5 9, w ∈ wsX6_writeStep := by decide +kernel
  have hl : lv_has ls 3 [(0, .ref y), (1, .ref a), (2, .int (nI j))] := hl
  obtain ⟨y0, y1, y2⟩ := id hLn
  obtain ⟨h0, h1, h2, h3, h4⟩ := id hf
  refine lv_aload_n hx hb dX6_writeStep_0 rfl (lv_at hl 0 rfl) ?_
  refine lv_bipush (v := 48) hx hb dX6_writeStep_1 (by decide) ?_
  refine lv_aload_n hx hb dX6_writeStep_3 rfl (lv_at hl 1 rfl) ?_
  refine fw_get (v := .ref (a + 1)) (C := RX5) (T := TX5) (N := 9) hx hb hts hin5 hown hK hR h0 rfl 5 (by decide) (hts (.fieldLink RX6 36 "UnreadLeaflets$Leaflet" "kinds" "[I") (by decide +kernel)) rfl dX6_writeStep_4 ?_
  refine lv_iload_n hx hb dX6_writeStep_7 rfl (lv_at hl 2 rfl) ?_
  refine fw_iald hx hb hK hR h1 (vp_in_nI (by omega) (by omega)) dX6_writeStep_8 ?_
  refine W.eq (g2 := F0 mI 9 ls [.int ((v (10 + k)) j), .int 48, .ref y]) (by rw [nI_clamp (by omega)]) ?_
  refine lv_iadd hx hb dX6_writeStep_9 ?_
  refine lv_i2c hx hb dX6_writeStep_10 rfl ?_
  refine fw_call (va_runV (As := [.int (((48 + ((v (10 + k)) j)).toUInt32 % 65536).toInt32)]) (rest := []) ⟨hx, hb, hml, hown, hts⟩ (c_X6_put G hL l ω y L ⟨y0, y1, y2⟩ (((48 + ((v (10 + k)) j)).toUInt32 % 65536).toInt32) nar_chC) (cwV 1 hts gX6_writeStep_X6_put rfl rfl rfl (by decide +kernel) ⟨Nat.le_of_ble_eq_true rfl, Nat.le_of_ble_eq_true rfl⟩) (fw_preV hW hK hR y0 rfl) rfl rfl hl.1 rfl (lv_room (Nat.le_of_ble_eq_true rfl)) dX6_writeStep_11 ⟨Nat.le_of_ble_eq_true rfl, Nat.le_of_ble_eq_true rfl⟩) hS (fun v_1 ω_2 H locs hq_3 hR hS => ?_)
  obtain ⟨rfl, z_4, f_6, f_7, fr_5⟩ := hq_3
  refine W.eq (g2 := F0 mI 14 ls []) rfl ?_
  refine lv_aload_n hx hb dX6_writeStep_14 rfl (lv_at hl 0 rfl) ?_
  refine lv_bipush (v := 42) hx hb dX6_writeStep_15 (by decide) ?_
  refine fw_call (va_runV (As := [.int 42]) (rest := []) ⟨hx, hb, hml, hown, hts⟩ (c_X6_put G hL l ω_2 y (putP L (((48 + ((v (10 + k)) j)).toUInt32 % 65536).toInt32)) ⟨f_6, f_7, (putP_le y2)⟩ 42 (by decide)) (cwV 1 hts gX6_writeStep_X6_put rfl rfl rfl (by decide +kernel) ⟨Nat.le_of_ble_eq_true rfl, Nat.le_of_ble_eq_true rfl⟩) (fw_preV hW hK hR f_6 rfl) rfl rfl hl.1 rfl (lv_room (Nat.le_of_ble_eq_true rfl)) dX6_writeStep_17 ⟨Nat.le_of_ble_eq_true rfl, Nat.le_of_ble_eq_true rfl⟩) hS (fun v_8 ω_9 H locs hq_10 hR hS => ?_)
  obtain ⟨rfl, z_11, f_13, f_14, fr_12⟩ := hq_10
  refine W.eq (g2 := F0 mI 20 ls []) rfl ?_
  refine lv_aload_n hx hb dX6_writeStep_20 rfl (lv_at hl 0 rfl) ?_
  refine lv_bipush (v := 48) hx hb dX6_writeStep_21 (by decide) ?_
  refine lv_aload_n hx hb dX6_writeStep_23 rfl (lv_at hl 1 rfl) ?_
  have f_15 : ω_2.2 a = some (.inr (7, [.int (v 3 k), .int (v 4 k), .int (v 5 k), .int (v 6 k - 1), .int (v 7 k), .ref (a + 1), .ref (a + 2), .ref (a + 3), .ref (a + 4)])) := (fr_5 a (by omega) (by omega)).trans h0
  have f_16 : ω_9.2 a = some (.inr (7, [.int (v 3 k), .int (v 4 k), .int (v 5 k), .int (v 6 k - 1), .int (v 7 k), .ref (a + 1), .ref (a + 2), .ref (a + 3), .ref (a + 4)])) := (fr_12 a (by omega) (by omega)).trans f_15
  refine fw_get (v := .ref (a + 2)) (C := RX5) (T := TX5) (N := 9) hx hb hts hin5 hown hK hR f_16 rfl 6 (by decide) (hts (.fieldLink RX6 40 "UnreadLeaflets$Leaflet" "parts" "[I") (by decide +kernel)) rfl dX6_writeStep_24 ?_
  refine lv_iload_n hx hb dX6_writeStep_27 rfl (lv_at hl 2 rfl) ?_
  have f_17 : ω_2.2 (a + 2) = some (.inl (G.2.1 0, 8, .inl (v (20 + k)))) := (fr_5 (a + 2) (by omega) (by omega)).trans h2
  have f_18 : ω_9.2 (a + 2) = some (.inl (G.2.1 0, 8, .inl (v (20 + k)))) := (fr_12 (a + 2) (by omega) (by omega)).trans f_17
  refine fw_iald hx hb hK hR f_18 (vp_in_nI (by omega) (by omega)) dX6_writeStep_28 ?_
  refine W.eq (g2 := F0 mI 29 ls [.int ((v (20 + k)) j), .int 48, .ref y]) (by rw [nI_clamp (by omega)]) ?_
  refine lv_iadd hx hb dX6_writeStep_29 ?_
  refine lv_i2c hx hb dX6_writeStep_30 rfl ?_
  refine fw_call (va_runV (As := [.int (((48 + ((v (20 + k)) j)).toUInt32 % 65536).toInt32)]) (rest := []) ⟨hx, hb, hml, hown, hts⟩ (c_X6_put G hL l ω_9 y (putP (putP L (((48 + ((v (10 + k)) j)).toUInt32 % 65536).toInt32)) 42) ⟨f_13, f_14, (putP_le (putP_le y2))⟩ (((48 + ((v (20 + k)) j)).toUInt32 % 65536).toInt32) nar_chC) (cwV 1 hts gX6_writeStep_X6_put rfl rfl rfl (by decide +kernel) ⟨Nat.le_of_ble_eq_true rfl, Nat.le_of_ble_eq_true rfl⟩) (fw_preV hW hK hR f_13 rfl) rfl rfl hl.1 rfl (lv_room (Nat.le_of_ble_eq_true rfl)) dX6_writeStep_31 ⟨Nat.le_of_ble_eq_true rfl, Nat.le_of_ble_eq_true rfl⟩) hS (fun v_19 ω_20 H locs hq_21 hR hS => ?_)
  obtain ⟨rfl, z_22, f_24, f_25, fr_23⟩ := hq_21
  refine W.eq (g2 := F0 mI 34 ls []) rfl ?_
  refine lv_aload_n hx hb dX6_writeStep_34 rfl (lv_at hl 1 rfl) ?_
  have f_26 : ω_20.2 a = some (.inr (7, [.int (v 3 k), .int (v 4 k), .int (v 5 k), .int (v 6 k - 1), .int (v 7 k), .ref (a + 1), .ref (a + 2), .ref (a + 3), .ref (a + 4)])) := (fr_23 a (by omega) (by omega)).trans f_16
  refine fw_get (v := .ref (a + 4)) (C := RX5) (T := TX5) (N := 9) hx hb hts hin5 hown hK hR f_26 rfl 8 (by decide) (hts (.fieldLink RX6 43 "UnreadLeaflets$Leaflet" "sides" "[I") (by decide +kernel)) rfl dX6_writeStep_35 ?_
  refine lv_iload_n hx hb dX6_writeStep_38 rfl (lv_at hl 2 rfl) ?_
  have f_27 : ω_2.2 (a + 4) = some (.inl (G.2.1 0, 8, .inl (fun i9 => v (40 + k) i9 + 1))) := (fr_5 (a + 4) (by omega) (by omega)).trans h4
  have f_28 : ω_9.2 (a + 4) = some (.inl (G.2.1 0, 8, .inl (fun i9 => v (40 + k) i9 + 1))) := (fr_12 (a + 4) (by omega) (by omega)).trans f_27
  have f_29 : ω_20.2 (a + 4) = some (.inl (G.2.1 0, 8, .inl (fun i9 => v (40 + k) i9 + 1))) := (fr_23 (a + 4) (by omega) (by omega)).trans f_28
  refine fw_iald hx hb hK hR f_29 (vp_in_nI (by omega) (by omega)) dX6_writeStep_39 ?_
  refine W.eq (g2 := F0 mI 40 ls [.int (v (40 + k) j + 1)]) (by rw [nI_clamp (by omega)]) ?_
  refine lv_iconst (v := 2) hx hb dX6_writeStep_40 (by decide) ?_
  refine lv_icmp_ne (tgt := 50) hx hb dX6_writeStep_41 (by decide) (fun c_30 => ?_) (fun c_30 => ?_)
  · skip
    refine lv_aload_n hx hb dX6_writeStep_50 rfl (lv_at hl 1 rfl) ?_
    refine lv_iload_n hx hb dX6_writeStep_51 rfl (lv_at hl 2 rfl) ?_
    have f_31 : ω_2.2 (a + 1) = some (.inl (G.2.1 0, 8, .inl (v (10 + k)))) := (fr_5 (a + 1) (by omega) (by omega)).trans h1
    have f_32 : ω_9.2 (a + 1) = some (.inl (G.2.1 0, 8, .inl (v (10 + k)))) := (fr_12 (a + 1) (by omega) (by omega)).trans f_31
    have f_33 : ω_20.2 (a + 1) = some (.inl (G.2.1 0, 8, .inl (v (10 + k)))) := (fr_23 (a + 1) (by omega) (by omega)).trans f_32
    have f_34 : ω_20.2 (a + 2) = some (.inl (G.2.1 0, 8, .inl (v (20 + k)))) := (fr_23 (a + 2) (by omega) (by omega)).trans f_18
    have f_35 : ω_2.2 (a + 3) = some (.inl (G.2.1 0, 8, .inl (v (30 + k)))) := (fr_5 (a + 3) (by omega) (by omega)).trans h3
    have f_36 : ω_9.2 (a + 3) = some (.inl (G.2.1 0, 8, .inl (v (30 + k)))) := (fr_12 (a + 3) (by omega) (by omega)).trans f_35
    have f_37 : ω_20.2 (a + 3) = some (.inl (G.2.1 0, 8, .inl (v (30 + k)))) := (fr_23 (a + 3) (by omega) (by omega)).trans f_36
    refine fw_call (va_runV (As := [.int (nI j)]) (rest := []) ⟨hx, hb, hml, hown, hts⟩ (c_X5_isSkipped G hL l ω_20 a k v (⟨f_26, f_33, f_34, f_37, f_29⟩)  (nI j)) (cwV 1 hts gX6_writeStep_X5_isSkipped rfl rfl rfl (by decide +kernel) ⟨Nat.le_of_ble_eq_true rfl, Nat.le_of_ble_eq_true rfl⟩) (fw_preV hW hK hR f_26 rfl) rfl rfl hl.1 rfl (lv_room (Nat.le_of_ble_eq_true rfl)) dX6_writeStep_52 ⟨Nat.le_of_ble_eq_true rfl, Nat.le_of_ble_eq_true rfl⟩) hS (fun v_38 ω_39 H locs hq_40 hR hS => ?_)
    obtain ⟨rfl, hq_40⟩ := hq_40
    rw [hq_40] at hR
    refine W.eq (g2 := F0 mI 55 ls [.int (bz (hasB (v 7 k) (nI j)))]) rfl ?_
    refine lv_if_eq (tgt := 64) hx hb dX6_writeStep_55 (by decide) (fun c_41 => ?_) (fun c_41 => ?_)
    · skip
      have c_41 := bz_eq c_41
      have fr_42 : ∀ q : Nat, ¬ q = y → ¬ q = (y + 1) → ω_20.2 q = ω.2 q := by
        intro q h0 h1
        rw [fr_23 q (by omega) (by omega)]
        rw [fr_12 q (by omega) (by omega)]
        rw [fr_5 q (by omega) (by omega)]
      have z_43 : ω_20.1 = ω.1 := by rw [z_22, z_11, z_4]
      refine fw_vret hx hb hr hlocks hR hS dX6_writeStep_64 ⟨rfl, z_43, ?_, ?_, fr_42⟩
      · refine f_24.trans (congrArg some ?_)
        simp only [stepP, if_neg c_30, if_neg c_41]
      · refine f_25.trans (congrArg some ?_)
        simp only [stepP, if_neg c_30, if_neg c_41]
    · skip
      have c_41 := bz_ne c_41
      refine lv_aload_n hx hb dX6_writeStep_58 rfl (lv_at hl 0 rfl) ?_
      refine lv_bipush (v := 63) hx hb dX6_writeStep_59 (by decide) ?_
      refine fw_call (va_runV (As := [.int 63]) (rest := []) ⟨hx, hb, hml, hown, hts⟩ (c_X6_put G hL l ω_20 y (putP (putP (putP L (((48 + ((v (10 + k)) j)).toUInt32 % 65536).toInt32)) 42) (((48 + ((v (20 + k)) j)).toUInt32 % 65536).toInt32)) ⟨f_24, f_25, (putP_le (putP_le (putP_le y2)))⟩ 63 (by decide)) (cwV 1 hts gX6_writeStep_X6_put rfl rfl rfl (by decide +kernel) ⟨Nat.le_of_ble_eq_true rfl, Nat.le_of_ble_eq_true rfl⟩) (fw_preV hW hK hR f_24 rfl) rfl rfl hl.1 rfl (lv_room (Nat.le_of_ble_eq_true rfl)) dX6_writeStep_61 ⟨Nat.le_of_ble_eq_true rfl, Nat.le_of_ble_eq_true rfl⟩) hS (fun v_44 ω_45 H locs hq_46 hR hS => ?_)
      obtain ⟨rfl, z_47, f_49, f_50, fr_48⟩ := hq_46
      refine W.eq (g2 := F0 mI 64 ls []) rfl ?_
      have fr_51 : ∀ q : Nat, ¬ q = y → ¬ q = (y + 1) → ω_45.2 q = ω.2 q := by
        intro q h0 h1
        rw [fr_48 q (by omega) (by omega)]
        rw [fr_23 q (by omega) (by omega)]
        rw [fr_12 q (by omega) (by omega)]
        rw [fr_5 q (by omega) (by omega)]
      have z_52 : ω_45.1 = ω.1 := by rw [z_47, z_22, z_11, z_4]
      refine fw_vret hx hb hr hlocks hR hS dX6_writeStep_64 ⟨rfl, z_52, ?_, ?_, fr_51⟩
      · refine f_49.trans (congrArg some ?_)
        simp only [stepP, if_neg c_30, if_pos c_41]
      · refine f_50.trans (congrArg some ?_)
        simp only [stepP, if_neg c_30, if_pos c_41]
  · skip
    refine lv_aload_n hx hb dX6_writeStep_44 rfl (lv_at hl 0 rfl) ?_
    refine lv_bipush (v := 43) hx hb dX6_writeStep_45 (by decide) ?_
    refine fw_call (va_runV (As := [.int 43]) (rest := []) ⟨hx, hb, hml, hown, hts⟩ (c_X6_put G hL l ω_20 y (putP (putP (putP L (((48 + ((v (10 + k)) j)).toUInt32 % 65536).toInt32)) 42) (((48 + ((v (20 + k)) j)).toUInt32 % 65536).toInt32)) ⟨f_24, f_25, (putP_le (putP_le (putP_le y2)))⟩ 43 (by decide)) (cwV 1 hts gX6_writeStep_X6_put rfl rfl rfl (by decide +kernel) ⟨Nat.le_of_ble_eq_true rfl, Nat.le_of_ble_eq_true rfl⟩) (fw_preV hW hK hR f_24 rfl) rfl rfl hl.1 rfl (lv_room (Nat.le_of_ble_eq_true rfl)) dX6_writeStep_47 ⟨Nat.le_of_ble_eq_true rfl, Nat.le_of_ble_eq_true rfl⟩) hS (fun v_53 ω_54 H locs hq_55 hR hS => ?_)
    obtain ⟨rfl, z_56, f_58, f_59, fr_57⟩ := hq_55
    refine W.eq (g2 := F0 mI 50 ls []) rfl ?_
    refine lv_aload_n hx hb dX6_writeStep_50 rfl (lv_at hl 1 rfl) ?_
    refine lv_iload_n hx hb dX6_writeStep_51 rfl (lv_at hl 2 rfl) ?_
    have f_60 : ω_54.2 a = some (.inr (7, [.int (v 3 k), .int (v 4 k), .int (v 5 k), .int (v 6 k - 1), .int (v 7 k), .ref (a + 1), .ref (a + 2), .ref (a + 3), .ref (a + 4)])) := (fr_57 a (by omega) (by omega)).trans f_26
    have f_61 : ω_2.2 (a + 1) = some (.inl (G.2.1 0, 8, .inl (v (10 + k)))) := (fr_5 (a + 1) (by omega) (by omega)).trans h1
    have f_62 : ω_9.2 (a + 1) = some (.inl (G.2.1 0, 8, .inl (v (10 + k)))) := (fr_12 (a + 1) (by omega) (by omega)).trans f_61
    have f_63 : ω_20.2 (a + 1) = some (.inl (G.2.1 0, 8, .inl (v (10 + k)))) := (fr_23 (a + 1) (by omega) (by omega)).trans f_62
    have f_64 : ω_54.2 (a + 1) = some (.inl (G.2.1 0, 8, .inl (v (10 + k)))) := (fr_57 (a + 1) (by omega) (by omega)).trans f_63
    have f_65 : ω_20.2 (a + 2) = some (.inl (G.2.1 0, 8, .inl (v (20 + k)))) := (fr_23 (a + 2) (by omega) (by omega)).trans f_18
    have f_66 : ω_54.2 (a + 2) = some (.inl (G.2.1 0, 8, .inl (v (20 + k)))) := (fr_57 (a + 2) (by omega) (by omega)).trans f_65
    have f_67 : ω_2.2 (a + 3) = some (.inl (G.2.1 0, 8, .inl (v (30 + k)))) := (fr_5 (a + 3) (by omega) (by omega)).trans h3
    have f_68 : ω_9.2 (a + 3) = some (.inl (G.2.1 0, 8, .inl (v (30 + k)))) := (fr_12 (a + 3) (by omega) (by omega)).trans f_67
    have f_69 : ω_20.2 (a + 3) = some (.inl (G.2.1 0, 8, .inl (v (30 + k)))) := (fr_23 (a + 3) (by omega) (by omega)).trans f_68
    have f_70 : ω_54.2 (a + 3) = some (.inl (G.2.1 0, 8, .inl (v (30 + k)))) := (fr_57 (a + 3) (by omega) (by omega)).trans f_69
    have f_71 : ω_54.2 (a + 4) = some (.inl (G.2.1 0, 8, .inl (fun i9 => v (40 + k) i9 + 1))) := (fr_57 (a + 4) (by omega) (by omega)).trans f_29
    refine fw_call (va_runV (As := [.int (nI j)]) (rest := []) ⟨hx, hb, hml, hown, hts⟩ (c_X5_isSkipped G hL l ω_54 a k v (⟨f_60, f_64, f_66, f_70, f_71⟩)  (nI j)) (cwV 1 hts gX6_writeStep_X5_isSkipped rfl rfl rfl (by decide +kernel) ⟨Nat.le_of_ble_eq_true rfl, Nat.le_of_ble_eq_true rfl⟩) (fw_preV hW hK hR f_60 rfl) rfl rfl hl.1 rfl (lv_room (Nat.le_of_ble_eq_true rfl)) dX6_writeStep_52 ⟨Nat.le_of_ble_eq_true rfl, Nat.le_of_ble_eq_true rfl⟩) hS (fun v_72 ω_73 H locs hq_74 hR hS => ?_)
    obtain ⟨rfl, hq_74⟩ := hq_74
    rw [hq_74] at hR
    refine W.eq (g2 := F0 mI 55 ls [.int (bz (hasB (v 7 k) (nI j)))]) rfl ?_
    refine lv_if_eq (tgt := 64) hx hb dX6_writeStep_55 (by decide) (fun c_75 => ?_) (fun c_75 => ?_)
    · skip
      have c_75 := bz_eq c_75
      have fr_76 : ∀ q : Nat, ¬ q = y → ¬ q = (y + 1) → ω_54.2 q = ω.2 q := by
        intro q h0 h1
        rw [fr_57 q (by omega) (by omega)]
        rw [fr_23 q (by omega) (by omega)]
        rw [fr_12 q (by omega) (by omega)]
        rw [fr_5 q (by omega) (by omega)]
      have z_77 : ω_54.1 = ω.1 := by rw [z_56, z_22, z_11, z_4]
      refine fw_vret hx hb hr hlocks hR hS dX6_writeStep_64 ⟨rfl, z_77, ?_, ?_, fr_76⟩
      · refine f_58.trans (congrArg some ?_)
        simp only [stepP, if_pos c_30, if_neg c_75]
      · refine f_59.trans (congrArg some ?_)
        simp only [stepP, if_pos c_30, if_neg c_75]
    · skip
      have c_75 := bz_ne c_75
      refine lv_aload_n hx hb dX6_writeStep_58 rfl (lv_at hl 0 rfl) ?_
      refine lv_bipush (v := 63) hx hb dX6_writeStep_59 (by decide) ?_
      refine fw_call (va_runV (As := [.int 63]) (rest := []) ⟨hx, hb, hml, hown, hts⟩ (c_X6_put G hL l ω_54 y (putP (putP (putP (putP L (((48 + ((v (10 + k)) j)).toUInt32 % 65536).toInt32)) 42) (((48 + ((v (20 + k)) j)).toUInt32 % 65536).toInt32)) 43) ⟨f_58, f_59, (putP_le (putP_le (putP_le (putP_le y2))))⟩ 63 (by decide)) (cwV 1 hts gX6_writeStep_X6_put rfl rfl rfl (by decide +kernel) ⟨Nat.le_of_ble_eq_true rfl, Nat.le_of_ble_eq_true rfl⟩) (fw_preV hW hK hR f_58 rfl) rfl rfl hl.1 rfl (lv_room (Nat.le_of_ble_eq_true rfl)) dX6_writeStep_61 ⟨Nat.le_of_ble_eq_true rfl, Nat.le_of_ble_eq_true rfl⟩) hS (fun v_78 ω_79 H locs hq_80 hR hS => ?_)
      obtain ⟨rfl, z_81, f_83, f_84, fr_82⟩ := hq_80
      refine W.eq (g2 := F0 mI 64 ls []) rfl ?_
      have fr_85 : ∀ q : Nat, ¬ q = y → ¬ q = (y + 1) → ω_79.2 q = ω.2 q := by
        intro q h0 h1
        rw [fr_82 q (by omega) (by omega)]
        rw [fr_57 q (by omega) (by omega)]
        rw [fr_23 q (by omega) (by omega)]
        rw [fr_12 q (by omega) (by omega)]
        rw [fr_5 q (by omega) (by omega)]
      have z_86 : ω_79.1 = ω.1 := by rw [z_81, z_56, z_22, z_11, z_4]
      refine fw_vret hx hb hr hlocks hR hS dX6_writeStep_64 ⟨rfl, z_86, ?_, ?_, fr_85⟩
      · refine f_83.trans (congrArg some ?_)
        simp only [stepP, if_pos c_30, if_pos c_75]
      · refine f_84.trans (congrArg some ?_)
        simp only [stepP, if_pos c_30, if_pos c_75]
set_option maxHeartbeats 4000000 in
set_option maxRecDepth 100000 in
theorem c_X6_write (G : FG) (hL : FL G) (l : Launch) (ω : FWd) (y : Nat) (L : LN) (hLn : LinS G ω.2 y L) (a k : Nat) (v : Nat → Nat → Int32) (hf : LeafS G ω.2 a v k) (n : Nat) (hn : v 3 k = nI n) (hn8 : n ≤ 8) (f : Nat) (hf3 : f ≤ 3) (hff : v 4 k = nI f) (hd : y + 2 ≤ a ∨ a + 5 ≤ y) : FMet G l yX6_write wsX6_write ({ frames := 3, cells := 0, slots := 0, locals := 64 } : Room) [.ref y, .ref a] ω (fun vv9 τ9 => vv9 = none ∧ τ9.1 = ω.1 ∧ τ9.2 y = some (.inr (8, [.ref (y + 1), .int (nI (lineP v k (openJ (v 3 k) f) (v 3 k) (L.1, 0) n).2)])) ∧ τ9.2 (y + 1) = some (.inl (G.2.1 1, 48, .inl (lineP v k (openJ (v 3 k) f) (v 3 k) (L.1, 0) n).1)) ∧ ∀ q : Nat, ¬ q = y → ¬ q = (y + 1) → τ9.2 q = ω.2 q) 0 0 := by
  refine fw_ofW (cc := cX6_write) (maxL := 4) (ret := none) (by decide) rfl (Nat.le_of_ble_eq_true rfl) ?_
  intro pP eE sS mI ar9 bl9 meth cD ls hx hb hr hlocks hml hts hown hnm hW hR hl
  have hK := hL.K hW
  have hS : va_S (fwA G) sS.heap sS.heap [] := va_S.rf
  have hin5 : ∀ w ∈ u_ws RX5 TX5 9, w ∈ wsX6_write := by decide +kernel
  have hin6 : ∀ w ∈ u_ws RX6 TX6 2, w ∈ wsX6_write := by decide +kernel
  have hl : lv_has ls 4 [(0, .ref y), (1, .ref a)] := hl
  obtain ⟨y0, y1, y2⟩ := id hLn
  obtain ⟨h0, h1, h2, h3, h4⟩ := id hf
  refine lv_aload_n hx hb dX6_write_0 rfl (lv_at hl 0 rfl) ?_
  refine lv_iconst (v := 0) hx hb dX6_write_1 (by decide) ?_
  refine fw_put (v := .int 0) (C := RX6) (T := TX6) (N := 2) hx hb hts hin6 tyX6 tyX6_ok nmX6 hown hK hR hS y0 rfl 1 (by decide) (hts (.fieldLink RX6 15 "UnreadLeaflets$Line" "length" "I") (by decide +kernel)) rfl rfl rfl (Nat.le_of_ble_eq_true rfl) dX6_write_2 (fun H locs hR hS => ?_)
  obtain ⟨ω_1, hw_2⟩ : ∃ τ : FWd, τ = (ω.1, va_up ω.2 y (some (.inr (8, [.ref (y + 1), .int 0])))) := ⟨_, rfl⟩
  have hR : fR G ω_1 H := by rw [hw_2]; exact hR
  have f_3 : ω_1.2 y = some (.inr (8, [.ref (y + 1), .int 0])) := by rw [hw_2]; exact va_up_at
  have fr_4 : ∀ q : Nat, ¬ q = y → ω_1.2 q = ω.2 q := fun q hq => by rw [hw_2]; exact va_up_off hq
  have z_5 : ω_1.1 = ω.1 := by rw [hw_2]
  refine lv_aload_n hx hb dX6_write_5 rfl (lv_at hl 1 rfl) ?_
  have f_6 : ω_1.2 a = some (.inr (7, [.int (v 3 k), .int (v 4 k), .int (v 5 k), .int (v 6 k - 1), .int (v 7 k), .ref (a + 1), .ref (a + 2), .ref (a + 3), .ref (a + 4)])) := (fr_4 a (by omega)).trans h0
  have f_7 : ω_1.2 (a + 1) = some (.inl (G.2.1 0, 8, .inl (v (10 + k)))) := (fr_4 (a + 1) (by omega)).trans h1
  have f_8 : ω_1.2 (a + 2) = some (.inl (G.2.1 0, 8, .inl (v (20 + k)))) := (fr_4 (a + 2) (by omega)).trans h2
  have f_9 : ω_1.2 (a + 3) = some (.inl (G.2.1 0, 8, .inl (v (30 + k)))) := (fr_4 (a + 3) (by omega)).trans h3
  have f_10 : ω_1.2 (a + 4) = some (.inl (G.2.1 0, 8, .inl (fun i9 => v (40 + k) i9 + 1))) := (fr_4 (a + 4) (by omega)).trans h4
  refine fw_call (va_runV (As := []) (rest := []) ⟨hx, hb, hml, hown, hts⟩ (c_X5_open G hL l ω_1 a k v (⟨f_6, f_7, f_8, f_9, f_10⟩)  f hf3 hff) (cwV 0 hts gX6_write_X5_open rfl rfl rfl (by decide +kernel) ⟨Nat.le_of_ble_eq_true rfl, Nat.le_of_ble_eq_true rfl⟩) (fw_preV hW hK hR f_6 rfl) rfl rfl hl.1 rfl (lv_room (Nat.le_of_ble_eq_true rfl)) dX6_write_6 ⟨Nat.le_of_ble_eq_true rfl, Nat.le_of_ble_eq_true rfl⟩) hS (fun v_11 ω_12 H locs hq_13 hR hS => ?_)
  obtain ⟨rfl, hq_13⟩ := hq_13
  rw [hq_13] at hR
  refine W.eq (g2 := F0 mI 9 ls [.int (openJ (v 3 k) f)]) rfl ?_
  refine lv_istore_n (lv' := [(2, .int (openJ (v 3 k) f)), (0, .ref y), (1, .ref a)]) hx hb dX6_write_9 rfl hl (by decide) rfl (fun ls hl => ?_)
  refine lv_iconst (v := 0) hx hb dX6_write_10 (by decide) ?_
  refine lv_istore_n (lv' := [(3, .int 0), (2, .int (openJ (v 3 k) f)), (0, .ref y), (1, .ref a)]) hx hb dX6_write_11 rfl hl (by decide) rfl (fun ls hl => ?_)
  have loop_14 : ∀ (fu : Nat) (j : Nat) (τ1 : FWd), (n - j) < fu → (j ≤ n) → τ1.1 = ω_1.1 → τ1.2 y = some (.inr (8, [.ref (y + 1), .int (nI (lineP v k (openJ (v 3 k) f) (v 3 k) (L.1, 0) j).2)])) → τ1.2 (y + 1) = some (.inl (G.2.1 1, 48, .inl (lineP v k (openJ (v 3 k) f) (v 3 k) (L.1, 0) j).1)) → (∀ q : Nat, ¬ q = y → ¬ q = (y + 1) → τ1.2 q = ω_1.2 q) → ∀ (H : Heap) (locs : List Loc) (ls : Array Slot), fR G τ1 H → va_S (fwA G) sS.heap H locs → lv_has ls 4 [(3, .int (nI j)), (2, .int (openJ (v 3 k) f)), (0, .ref y), (1, .ref a)] → W pP l eE ({ frames := 3, cells := 0, slots := 0, locals := 64 } : Room) sS mI ar9 bl9 meth cD H locs 0 0 (MQ bl9 (fQ G (fun vv9 τ9 => vv9 = none ∧ τ9.1 = ω.1 ∧ τ9.2 y = some (.inr (8, [.ref (y + 1), .int (nI (lineP v k (openJ (v 3 k) f) (v 3 k) (L.1, 0) n).2)])) ∧ τ9.2 (y + 1) = some (.inl (G.2.1 1, 48, .inl (lineP v k (openJ (v 3 k) f) (v 3 k) (L.1, 0) n).1)) ∧ ∀ q : Nat, ¬ q = y → ¬ q = (y + 1) → τ9.2 q = ω.2 q)) ar9 sS 0 0 (fwA G)) (F0 mI 12 ls []) := by
    intro fu
    induction fu with
    | zero => intro j τ1 hfu; exact absurd hfu (Nat.not_lt_zero _)
    | succ fu ih =>
      intro j τ1 hfu hj hzτ1 w0 w1 hfrτ1 H locs ls hR hS hl
      refine lv_iload_n hx hb dX6_write_12 rfl (lv_at hl 0 rfl) ?_
      refine lv_aload_n hx hb dX6_write_13 rfl (lv_at hl 3 rfl) ?_
      have f_15 : τ1.2 a = some (.inr (7, [.int (v 3 k), .int (v 4 k), .int (v 5 k), .int (v 6 k - 1), .int (v 7 k), .ref (a + 1), .ref (a + 2), .ref (a + 3), .ref (a + 4)])) := (hfrτ1 a (by omega) (by omega)).trans f_6
      refine fw_get (v := .int (v 3 k)) (C := RX5) (T := TX5) (N := 9) hx hb hts hin5 hown hK hR f_15 rfl 0 (by decide) (hts (.fieldLink RX6 25 "UnreadLeaflets$Leaflet" "steps" "I") (by decide +kernel)) rfl dX6_write_14 ?_
      refine lv_icmp_ge (tgt := 63) hx hb dX6_write_17 (by decide) (fun c_16 => ?_) (fun c_16 => ?_)
      · skip
        have hj2 := lp_ge hn c_16 (by omega) (by omega)
        have hjn : j = n := by omega
        have fr_17 : ∀ q : Nat, ¬ q = y → ¬ q = (y + 1) → τ1.2 q = ω.2 q := by
          intro q h0 h1
          rw [hfrτ1 q (by omega) (by omega)]
          rw [fr_4 q (by omega)]
        have z_18 : τ1.1 = ω.1 := by rw [hzτ1, z_5]
        refine fw_vret hx hb hr hlocks hR hS dX6_write_63 ⟨rfl, z_18, ?_, ?_, fr_17⟩
        · refine w0.trans (congrArg some ?_)
          rw [hjn]
        · refine w1.trans (congrArg some ?_)
          rw [hjn]
      · skip
        have hj2 := lp_lt hn c_16 (by omega) (by omega)
        refine lv_iload_n hx hb dX6_write_20 rfl (lv_at hl 0 rfl) ?_
        refine lv_if_le (tgt := 30) hx hb dX6_write_21 (by decide) (fun c_19 => ?_) (fun c_19 => ?_)
        · skip
          refine lv_aload_n hx hb dX6_write_30 rfl (lv_at hl 2 rfl) ?_
          refine lv_aload_n hx hb dX6_write_31 rfl (lv_at hl 3 rfl) ?_
          refine lv_iload_n hx hb dX6_write_32 rfl (lv_at hl 0 rfl) ?_
          have f_20 : τ1.2 (a + 1) = some (.inl (G.2.1 0, 8, .inl (v (10 + k)))) := (hfrτ1 (a + 1) (by omega) (by omega)).trans f_7
          have f_21 : τ1.2 (a + 2) = some (.inl (G.2.1 0, 8, .inl (v (20 + k)))) := (hfrτ1 (a + 2) (by omega) (by omega)).trans f_8
          have f_22 : τ1.2 (a + 3) = some (.inl (G.2.1 0, 8, .inl (v (30 + k)))) := (hfrτ1 (a + 3) (by omega) (by omega)).trans f_9
          have f_23 : τ1.2 (a + 4) = some (.inl (G.2.1 0, 8, .inl (fun i9 => v (40 + k) i9 + 1))) := (hfrτ1 (a + 4) (by omega) (by omega)).trans f_10
          refine fw_call (va_runV (As := [.ref a, .int (nI j)]) (rest := []) ⟨hx, hb, hml, hown, hts⟩ (c_X6_writeStep G hL l τ1 y (lineP v k (openJ (v 3 k) f) (v 3 k) (L.1, 0) j) ⟨w0, w1, (lineP_le (Nat.zero_le 48) j)⟩ a k v ⟨f_15, f_20, f_21, f_22, f_23⟩ j (by omega) hd) (cwV 2 hts gX6_write_X6_writeStep rfl rfl rfl (by decide +kernel) ⟨Nat.le_of_ble_eq_true rfl, Nat.le_of_ble_eq_true rfl⟩) (fw_preV hW hK hR w0 rfl) rfl rfl hl.1 rfl (lv_room (Nat.le_of_ble_eq_true rfl)) dX6_write_33 ⟨Nat.le_of_ble_eq_true rfl, Nat.le_of_ble_eq_true rfl⟩) hS (fun v_24 ω_25 H locs hq_26 hR hS => ?_)
          obtain ⟨rfl, z_27, f_29, f_30, fr_28⟩ := hq_26
          refine W.eq (g2 := F0 mI 36 ls []) rfl ?_
          refine lv_iload_n hx hb dX6_write_36 rfl (lv_at hl 0 rfl) ?_
          refine lv_iload_n hx hb dX6_write_37 rfl (lv_at hl 1 rfl) ?_
          refine lv_iconst (v := 1) hx hb dX6_write_38 (by decide) ?_
          refine lv_isub hx hb dX6_write_39 ?_
          refine lv_icmp_ne (tgt := 57) hx hb dX6_write_40 (by decide) (fun c_31 => ?_) (fun c_31 => ?_)
          · skip
            obtain ⟨x_32, ex_32⟩ : ∃ y : Int32, y = (nI j) + 1 := ⟨_, rfl⟩
            refine lv_iinc (v := x_32) (lv' := [(3, .int x_32), (2, .int (openJ (v 3 k) f)), (0, .ref y), (1, .ref a)]) hx hb dX6_write_57 hl (k := 0) rfl (by rw [ex_32]; rfl) (by decide) rfl (fun ls hl => ?_)
            refine lv_goto (tgt := 12) hx hb dX6_write_60 (by decide) ?_
            have el_3 : x_32 = nI (j + 1) := by rw [ex_32]; exact nI_1 j
            have hl := lv_sub (l' := [(3, .int x_32), (2, .int (openJ (v 3 k) f)), (0, .ref y), (1, .ref a)]) hl [0, 1, 2, 3] rfl
            rw [el_3] at hl
            have wf_33 : ω_25.2 y = some (.inr (8, [.ref (y + 1), .int (nI (lineP v k (openJ (v 3 k) f) (v 3 k) (L.1, 0) (j + 1)).2)])) := f_29.trans (congrArg some (by simp only [lineP, if_pos c_19, if_neg c_31]))
            have wf_34 : ω_25.2 (y + 1) = some (.inl (G.2.1 1, 48, .inl (lineP v k (openJ (v 3 k) f) (v 3 k) (L.1, 0) (j + 1)).1)) := f_30.trans (congrArg some (by simp only [lineP, if_pos c_19, if_neg c_31]))
            have fr_35 : ∀ q : Nat, ¬ q = y → ¬ q = (y + 1) → ω_25.2 q = ω_1.2 q := by
              intro q h0 h1
              rw [fr_28 q (by omega) (by omega)]
              rw [hfrτ1 q (by omega) (by omega)]
            have z_36 : ω_25.1 = ω_1.1 := by rw [z_27, hzτ1]
            exact ih (j + 1) ω_25 (by omega) (by first | assumption | omega | (simp; done)) z_36 wf_33 wf_34 fr_35 _ _ _ hR hS hl
          · skip
            refine lv_iload_n hx hb dX6_write_43 rfl (lv_at hl 1 rfl) ?_
            refine lv_aload_n hx hb dX6_write_44 rfl (lv_at hl 3 rfl) ?_
            have f_37 : ω_25.2 a = some (.inr (7, [.int (v 3 k), .int (v 4 k), .int (v 5 k), .int (v 6 k - 1), .int (v 7 k), .ref (a + 1), .ref (a + 2), .ref (a + 3), .ref (a + 4)])) := (fr_28 a (by omega) (by omega)).trans f_15
            refine fw_get (v := .int (v 3 k)) (C := RX5) (T := TX5) (N := 9) hx hb hts hin5 hown hK hR f_37 rfl 0 (by decide) (hts (.fieldLink RX6 25 "UnreadLeaflets$Leaflet" "steps" "I") (by decide +kernel)) rfl dX6_write_45 ?_
            refine lv_icmp_ge (tgt := 57) hx hb dX6_write_48 (by decide) (fun c_38 => ?_) (fun c_38 => ?_)
            · skip
              obtain ⟨x_39, ex_39⟩ : ∃ y : Int32, y = (nI j) + 1 := ⟨_, rfl⟩
              refine lv_iinc (v := x_39) (lv' := [(3, .int x_39), (2, .int (openJ (v 3 k) f)), (0, .ref y), (1, .ref a)]) hx hb dX6_write_57 hl (k := 0) rfl (by rw [ex_39]; rfl) (by decide) rfl (fun ls hl => ?_)
              refine lv_goto (tgt := 12) hx hb dX6_write_60 (by decide) ?_
              have el_3 : x_39 = nI (j + 1) := by rw [ex_39]; exact nI_1 j
              have hl := lv_sub (l' := [(3, .int x_39), (2, .int (openJ (v 3 k) f)), (0, .ref y), (1, .ref a)]) hl [0, 1, 2, 3] rfl
              rw [el_3] at hl
              have wf_40 : ω_25.2 y = some (.inr (8, [.ref (y + 1), .int (nI (lineP v k (openJ (v 3 k) f) (v 3 k) (L.1, 0) (j + 1)).2)])) := f_29.trans (congrArg some (by simp only [lineP, if_pos c_19, if_pos c_31, if_pos c_38]))
              have wf_41 : ω_25.2 (y + 1) = some (.inl (G.2.1 1, 48, .inl (lineP v k (openJ (v 3 k) f) (v 3 k) (L.1, 0) (j + 1)).1)) := f_30.trans (congrArg some (by simp only [lineP, if_pos c_19, if_pos c_31, if_pos c_38]))
              have fr_42 : ∀ q : Nat, ¬ q = y → ¬ q = (y + 1) → ω_25.2 q = ω_1.2 q := by
                intro q h0 h1
                rw [fr_28 q (by omega) (by omega)]
                rw [hfrτ1 q (by omega) (by omega)]
              have z_43 : ω_25.1 = ω_1.1 := by rw [z_27, hzτ1]
              exact ih (j + 1) ω_25 (by omega) (by first | assumption | omega | (simp; done)) z_43 wf_40 wf_41 fr_42 _ _ _ hR hS hl
            · skip
              refine lv_aload_n hx hb dX6_write_51 rfl (lv_at hl 2 rfl) ?_
              refine lv_bipush (v := 47) hx hb dX6_write_52 (by decide) ?_
              refine fw_call (va_runV (As := [.int 47]) (rest := []) ⟨hx, hb, hml, hown, hts⟩ (c_X6_put G hL l ω_25 y (stepP (lineP v k (openJ (v 3 k) f) (v 3 k) (L.1, 0) j) v k j) ⟨f_29, f_30, (stepP_le (lineP_le (Nat.zero_le 48) j))⟩ 47 (by decide)) (cwV 1 hts gX6_write_X6_put rfl rfl rfl (by decide +kernel) ⟨Nat.le_of_ble_eq_true rfl, Nat.le_of_ble_eq_true rfl⟩) (fw_preV hW hK hR f_29 rfl) rfl rfl hl.1 rfl (lv_room (Nat.le_of_ble_eq_true rfl)) dX6_write_54 ⟨Nat.le_of_ble_eq_true rfl, Nat.le_of_ble_eq_true rfl⟩) hS (fun v_44 ω_45 H locs hq_46 hR hS => ?_)
              obtain ⟨rfl, z_47, f_49, f_50, fr_48⟩ := hq_46
              refine W.eq (g2 := F0 mI 57 ls []) rfl ?_
              obtain ⟨x_51, ex_51⟩ : ∃ y : Int32, y = (nI j) + 1 := ⟨_, rfl⟩
              refine lv_iinc (v := x_51) (lv' := [(3, .int x_51), (2, .int (openJ (v 3 k) f)), (0, .ref y), (1, .ref a)]) hx hb dX6_write_57 hl (k := 0) rfl (by rw [ex_51]; rfl) (by decide) rfl (fun ls hl => ?_)
              refine lv_goto (tgt := 12) hx hb dX6_write_60 (by decide) ?_
              have el_3 : x_51 = nI (j + 1) := by rw [ex_51]; exact nI_1 j
              have hl := lv_sub (l' := [(3, .int x_51), (2, .int (openJ (v 3 k) f)), (0, .ref y), (1, .ref a)]) hl [0, 1, 2, 3] rfl
              rw [el_3] at hl
              have wf_52 : ω_45.2 y = some (.inr (8, [.ref (y + 1), .int (nI (lineP v k (openJ (v 3 k) f) (v 3 k) (L.1, 0) (j + 1)).2)])) := f_49.trans (congrArg some (by simp only [lineP, if_pos c_19, if_pos c_31, if_neg c_38]))
              have wf_53 : ω_45.2 (y + 1) = some (.inl (G.2.1 1, 48, .inl (lineP v k (openJ (v 3 k) f) (v 3 k) (L.1, 0) (j + 1)).1)) := f_50.trans (congrArg some (by simp only [lineP, if_pos c_19, if_pos c_31, if_neg c_38]))
              have fr_54 : ∀ q : Nat, ¬ q = y → ¬ q = (y + 1) → ω_45.2 q = ω_1.2 q := by
                intro q h0 h1
                rw [fr_48 q (by omega) (by omega)]
                rw [fr_28 q (by omega) (by omega)]
                rw [hfrτ1 q (by omega) (by omega)]
              have z_55 : ω_45.1 = ω_1.1 := by rw [z_47, z_27, hzτ1]
              exact ih (j + 1) ω_45 (by omega) (by first | assumption | omega | (simp; done)) z_55 wf_52 wf_53 fr_54 _ _ _ hR hS hl
        · skip
          refine lv_aload_n hx hb dX6_write_24 rfl (lv_at hl 2 rfl) ?_
          refine lv_bipush (v := 32) hx hb dX6_write_25 (by decide) ?_
          refine fw_call (va_runV (As := [.int 32]) (rest := []) ⟨hx, hb, hml, hown, hts⟩ (c_X6_put G hL l τ1 y (lineP v k (openJ (v 3 k) f) (v 3 k) (L.1, 0) j) ⟨w0, w1, (lineP_le (Nat.zero_le 48) j)⟩ 32 (by decide)) (cwV 1 hts gX6_write_X6_put rfl rfl rfl (by decide +kernel) ⟨Nat.le_of_ble_eq_true rfl, Nat.le_of_ble_eq_true rfl⟩) (fw_preV hW hK hR w0 rfl) rfl rfl hl.1 rfl (lv_room (Nat.le_of_ble_eq_true rfl)) dX6_write_27 ⟨Nat.le_of_ble_eq_true rfl, Nat.le_of_ble_eq_true rfl⟩) hS (fun v_56 ω_57 H locs hq_58 hR hS => ?_)
          obtain ⟨rfl, z_59, f_61, f_62, fr_60⟩ := hq_58
          refine W.eq (g2 := F0 mI 30 ls []) rfl ?_
          refine lv_aload_n hx hb dX6_write_30 rfl (lv_at hl 2 rfl) ?_
          refine lv_aload_n hx hb dX6_write_31 rfl (lv_at hl 3 rfl) ?_
          refine lv_iload_n hx hb dX6_write_32 rfl (lv_at hl 0 rfl) ?_
          have f_63 : ω_57.2 a = some (.inr (7, [.int (v 3 k), .int (v 4 k), .int (v 5 k), .int (v 6 k - 1), .int (v 7 k), .ref (a + 1), .ref (a + 2), .ref (a + 3), .ref (a + 4)])) := (fr_60 a (by omega) (by omega)).trans f_15
          have f_64 : τ1.2 (a + 1) = some (.inl (G.2.1 0, 8, .inl (v (10 + k)))) := (hfrτ1 (a + 1) (by omega) (by omega)).trans f_7
          have f_65 : ω_57.2 (a + 1) = some (.inl (G.2.1 0, 8, .inl (v (10 + k)))) := (fr_60 (a + 1) (by omega) (by omega)).trans f_64
          have f_66 : τ1.2 (a + 2) = some (.inl (G.2.1 0, 8, .inl (v (20 + k)))) := (hfrτ1 (a + 2) (by omega) (by omega)).trans f_8
          have f_67 : ω_57.2 (a + 2) = some (.inl (G.2.1 0, 8, .inl (v (20 + k)))) := (fr_60 (a + 2) (by omega) (by omega)).trans f_66
          have f_68 : τ1.2 (a + 3) = some (.inl (G.2.1 0, 8, .inl (v (30 + k)))) := (hfrτ1 (a + 3) (by omega) (by omega)).trans f_9
          have f_69 : ω_57.2 (a + 3) = some (.inl (G.2.1 0, 8, .inl (v (30 + k)))) := (fr_60 (a + 3) (by omega) (by omega)).trans f_68
          have f_70 : τ1.2 (a + 4) = some (.inl (G.2.1 0, 8, .inl (fun i9 => v (40 + k) i9 + 1))) := (hfrτ1 (a + 4) (by omega) (by omega)).trans f_10
          have f_71 : ω_57.2 (a + 4) = some (.inl (G.2.1 0, 8, .inl (fun i9 => v (40 + k) i9 + 1))) := (fr_60 (a + 4) (by omega) (by omega)).trans f_70
          refine fw_call (va_runV (As := [.ref a, .int (nI j)]) (rest := []) ⟨hx, hb, hml, hown, hts⟩ (c_X6_writeStep G hL l ω_57 y (putP (lineP v k (openJ (v 3 k) f) (v 3 k) (L.1, 0) j) 32) ⟨f_61, f_62, (putP_le (lineP_le (Nat.zero_le 48) j))⟩ a k v ⟨f_63, f_65, f_67, f_69, f_71⟩ j (by omega) hd) (cwV 2 hts gX6_write_X6_writeStep rfl rfl rfl (by decide +kernel) ⟨Nat.le_of_ble_eq_true rfl, Nat.le_of_ble_eq_true rfl⟩) (fw_preV hW hK hR f_61 rfl) rfl rfl hl.1 rfl (lv_room (Nat.le_of_ble_eq_true rfl)) dX6_write_33 ⟨Nat.le_of_ble_eq_true rfl, Nat.le_of_ble_eq_true rfl⟩) hS (fun v_72 ω_73 H locs hq_74 hR hS => ?_)
          obtain ⟨rfl, z_75, f_77, f_78, fr_76⟩ := hq_74
          refine W.eq (g2 := F0 mI 36 ls []) rfl ?_
          refine lv_iload_n hx hb dX6_write_36 rfl (lv_at hl 0 rfl) ?_
          refine lv_iload_n hx hb dX6_write_37 rfl (lv_at hl 1 rfl) ?_
          refine lv_iconst (v := 1) hx hb dX6_write_38 (by decide) ?_
          refine lv_isub hx hb dX6_write_39 ?_
          refine lv_icmp_ne (tgt := 57) hx hb dX6_write_40 (by decide) (fun c_79 => ?_) (fun c_79 => ?_)
          · skip
            obtain ⟨x_80, ex_80⟩ : ∃ y : Int32, y = (nI j) + 1 := ⟨_, rfl⟩
            refine lv_iinc (v := x_80) (lv' := [(3, .int x_80), (2, .int (openJ (v 3 k) f)), (0, .ref y), (1, .ref a)]) hx hb dX6_write_57 hl (k := 0) rfl (by rw [ex_80]; rfl) (by decide) rfl (fun ls hl => ?_)
            refine lv_goto (tgt := 12) hx hb dX6_write_60 (by decide) ?_
            have el_3 : x_80 = nI (j + 1) := by rw [ex_80]; exact nI_1 j
            have hl := lv_sub (l' := [(3, .int x_80), (2, .int (openJ (v 3 k) f)), (0, .ref y), (1, .ref a)]) hl [0, 1, 2, 3] rfl
            rw [el_3] at hl
            have wf_81 : ω_73.2 y = some (.inr (8, [.ref (y + 1), .int (nI (lineP v k (openJ (v 3 k) f) (v 3 k) (L.1, 0) (j + 1)).2)])) := f_77.trans (congrArg some (by simp only [lineP, if_neg c_19, if_neg c_79]))
            have wf_82 : ω_73.2 (y + 1) = some (.inl (G.2.1 1, 48, .inl (lineP v k (openJ (v 3 k) f) (v 3 k) (L.1, 0) (j + 1)).1)) := f_78.trans (congrArg some (by simp only [lineP, if_neg c_19, if_neg c_79]))
            have fr_83 : ∀ q : Nat, ¬ q = y → ¬ q = (y + 1) → ω_73.2 q = ω_1.2 q := by
              intro q h0 h1
              rw [fr_76 q (by omega) (by omega)]
              rw [fr_60 q (by omega) (by omega)]
              rw [hfrτ1 q (by omega) (by omega)]
            have z_84 : ω_73.1 = ω_1.1 := by rw [z_75, z_59, hzτ1]
            exact ih (j + 1) ω_73 (by omega) (by first | assumption | omega | (simp; done)) z_84 wf_81 wf_82 fr_83 _ _ _ hR hS hl
          · skip
            refine lv_iload_n hx hb dX6_write_43 rfl (lv_at hl 1 rfl) ?_
            refine lv_aload_n hx hb dX6_write_44 rfl (lv_at hl 3 rfl) ?_
            have f_85 : ω_73.2 a = some (.inr (7, [.int (v 3 k), .int (v 4 k), .int (v 5 k), .int (v 6 k - 1), .int (v 7 k), .ref (a + 1), .ref (a + 2), .ref (a + 3), .ref (a + 4)])) := (fr_76 a (by omega) (by omega)).trans f_63
            refine fw_get (v := .int (v 3 k)) (C := RX5) (T := TX5) (N := 9) hx hb hts hin5 hown hK hR f_85 rfl 0 (by decide) (hts (.fieldLink RX6 25 "UnreadLeaflets$Leaflet" "steps" "I") (by decide +kernel)) rfl dX6_write_45 ?_
            refine lv_icmp_ge (tgt := 57) hx hb dX6_write_48 (by decide) (fun c_86 => ?_) (fun c_86 => ?_)
            · skip
              obtain ⟨x_87, ex_87⟩ : ∃ y : Int32, y = (nI j) + 1 := ⟨_, rfl⟩
              refine lv_iinc (v := x_87) (lv' := [(3, .int x_87), (2, .int (openJ (v 3 k) f)), (0, .ref y), (1, .ref a)]) hx hb dX6_write_57 hl (k := 0) rfl (by rw [ex_87]; rfl) (by decide) rfl (fun ls hl => ?_)
              refine lv_goto (tgt := 12) hx hb dX6_write_60 (by decide) ?_
              have el_3 : x_87 = nI (j + 1) := by rw [ex_87]; exact nI_1 j
              have hl := lv_sub (l' := [(3, .int x_87), (2, .int (openJ (v 3 k) f)), (0, .ref y), (1, .ref a)]) hl [0, 1, 2, 3] rfl
              rw [el_3] at hl
              have wf_88 : ω_73.2 y = some (.inr (8, [.ref (y + 1), .int (nI (lineP v k (openJ (v 3 k) f) (v 3 k) (L.1, 0) (j + 1)).2)])) := f_77.trans (congrArg some (by simp only [lineP, if_neg c_19, if_pos c_79, if_pos c_86]))
              have wf_89 : ω_73.2 (y + 1) = some (.inl (G.2.1 1, 48, .inl (lineP v k (openJ (v 3 k) f) (v 3 k) (L.1, 0) (j + 1)).1)) := f_78.trans (congrArg some (by simp only [lineP, if_neg c_19, if_pos c_79, if_pos c_86]))
              have fr_90 : ∀ q : Nat, ¬ q = y → ¬ q = (y + 1) → ω_73.2 q = ω_1.2 q := by
                intro q h0 h1
                rw [fr_76 q (by omega) (by omega)]
                rw [fr_60 q (by omega) (by omega)]
                rw [hfrτ1 q (by omega) (by omega)]
              have z_91 : ω_73.1 = ω_1.1 := by rw [z_75, z_59, hzτ1]
              exact ih (j + 1) ω_73 (by omega) (by first | assumption | omega | (simp; done)) z_91 wf_88 wf_89 fr_90 _ _ _ hR hS hl
            · skip
              refine lv_aload_n hx hb dX6_write_51 rfl (lv_at hl 2 rfl) ?_
              refine lv_bipush (v := 47) hx hb dX6_write_52 (by decide) ?_
              refine fw_call (va_runV (As := [.int 47]) (rest := []) ⟨hx, hb, hml, hown, hts⟩ (c_X6_put G hL l ω_73 y (stepP (putP (lineP v k (openJ (v 3 k) f) (v 3 k) (L.1, 0) j) 32) v k j) ⟨f_77, f_78, (stepP_le (putP_le (lineP_le (Nat.zero_le 48) j)))⟩ 47 (by decide)) (cwV 1 hts gX6_write_X6_put rfl rfl rfl (by decide +kernel) ⟨Nat.le_of_ble_eq_true rfl, Nat.le_of_ble_eq_true rfl⟩) (fw_preV hW hK hR f_77 rfl) rfl rfl hl.1 rfl (lv_room (Nat.le_of_ble_eq_true rfl)) dX6_write_54 ⟨Nat.le_of_ble_eq_true rfl, Nat.le_of_ble_eq_true rfl⟩) hS (fun v_92 ω_93 H locs hq_94 hR hS => ?_)
              obtain ⟨rfl, z_95, f_97, f_98, fr_96⟩ := hq_94
              refine W.eq (g2 := F0 mI 57 ls []) rfl ?_
              obtain ⟨x_99, ex_99⟩ : ∃ y : Int32, y = (nI j) + 1 := ⟨_, rfl⟩
              refine lv_iinc (v := x_99) (lv' := [(3, .int x_99), (2, .int (openJ (v 3 k) f)), (0, .ref y), (1, .ref a)]) hx hb dX6_write_57 hl (k := 0) rfl (by rw [ex_99]; rfl) (by decide) rfl (fun ls hl => ?_)
              refine lv_goto (tgt := 12) hx hb dX6_write_60 (by decide) ?_
              have el_3 : x_99 = nI (j + 1) := by rw [ex_99]; exact nI_1 j
              have hl := lv_sub (l' := [(3, .int x_99), (2, .int (openJ (v 3 k) f)), (0, .ref y), (1, .ref a)]) hl [0, 1, 2, 3] rfl
              rw [el_3] at hl
              have wf_100 : ω_93.2 y = some (.inr (8, [.ref (y + 1), .int (nI (lineP v k (openJ (v 3 k) f) (v 3 k) (L.1, 0) (j + 1)).2)])) := f_97.trans (congrArg some (by simp only [lineP, if_neg c_19, if_pos c_79, if_neg c_86]))
              have wf_101 : ω_93.2 (y + 1) = some (.inl (G.2.1 1, 48, .inl (lineP v k (openJ (v 3 k) f) (v 3 k) (L.1, 0) (j + 1)).1)) := f_98.trans (congrArg some (by simp only [lineP, if_neg c_19, if_pos c_79, if_neg c_86]))
              have fr_102 : ∀ q : Nat, ¬ q = y → ¬ q = (y + 1) → ω_93.2 q = ω_1.2 q := by
                intro q h0 h1
                rw [fr_96 q (by omega) (by omega)]
                rw [fr_76 q (by omega) (by omega)]
                rw [fr_60 q (by omega) (by omega)]
                rw [hfrτ1 q (by omega) (by omega)]
              have z_103 : ω_93.1 = ω_1.1 := by rw [z_95, z_75, z_59, hzτ1]
              exact ih (j + 1) ω_93 (by omega) (by first | assumption | omega | (simp; done)) z_103 wf_100 wf_101 fr_102 _ _ _ hR hS hl
  have f_104 : ω_1.2 (y + 1) = some (.inl (G.2.1 1, 48, .inl L.1)) := (fr_4 (y + 1) (by omega)).trans y1
  exact loop_14 _ 0 ω_1 (Nat.lt_succ_self _) (by first | rfl | assumption | omega | (simp; done)) rfl f_3 f_104 (fun _ _ _ => rfl) _ _ _ hR hS (lv_sub hl [0, 1, 2, 3] rfl)
set_option maxHeartbeats 4000000 in
set_option maxRecDepth 100000 in
theorem c_X2_begin (G : FG) (hL : FL G) (l : Launch) (ω : FWd) (b : Nat) (C : CM) (hC : CmdS G ω.2 b C.1 C.2.1 C.2.2.1 C.2.2.2) (ch z : Int32) (hz : ch = chC z) : FMet G l yX2_begin wsX2_begin ({ frames := 0, cells := 0, slots := 0, locals := 0 } : Room) [.ref b, .int ch] ω (fun vv9 τ9 => vv9 = none ∧ τ9.1 = ω.1 ∧ τ9.2 b = some (.inr (4, [.int (((ch, C.2.1, 0, 0) : CM)).1, .ref (b + 1), .int (nI (((ch, C.2.1, 0, 0) : CM)).2.2.1), .int (((ch, C.2.1, 0, 0) : CM)).2.2.2])) ∧ τ9.2 (b + 1) = some (.inl (G.2.1 0, 3, .inl (((ch, C.2.1, 0, 0) : CM)).2.1)) ∧ ∀ q : Nat, ¬ q = b → ¬ q = (b + 1) → τ9.2 q = ω.2 q) 0 0 := by
  refine fw_ofW (cc := cX2_begin) (maxL := 2) (ret := none) (by decide) rfl (Nat.le_of_ble_eq_true rfl) ?_
  intro pP eE sS mI ar9 bl9 meth cD ls hx hb hr hlocks hml hts hown hnm hW hR hl
  have hK := hL.K hW
  have hS : va_S (fwA G) sS.heap sS.heap [] := va_S.rf
  have hin2 : ∀ w ∈ u_ws RX2 TX2 4, w ∈ wsX2_begin := by decide +kernel
  have hl : lv_has ls 2 [(0, .ref b), (1, .int ch)] := hl
  obtain ⟨b0, b1⟩ := id hC
  have hc9 : narrow .char (.int ch) = .int ch := by rw [hz]; exact pk_nc z
  have hc8 : fits .char (.int ch) = true := by rw [hz]; exact pk_fc z
  refine lv_aload_n hx hb dX2_begin_0 rfl (lv_at hl 0 rfl) ?_
  refine lv_iload_n hx hb dX2_begin_1 rfl (lv_at hl 1 rfl) ?_
  refine fw_put (v := .int ch) (C := RX2) (T := TX2) (N := 4) hx hb hts hin2 tyX2 tyX2_ok nmX2 hown hK hR hS b0 rfl 0 (by decide) (hts (.fieldLink RX2 15 "UnreadLeaflets$Command" "letter" "C") (by decide +kernel)) rfl hc9 hc8 (Nat.le_of_ble_eq_true rfl) dX2_begin_2 (fun H locs hR hS => ?_)
  obtain ⟨ω_1, hw_2⟩ : ∃ τ : FWd, τ = (ω.1, va_up ω.2 b (some (.inr (4, [.int ch, .ref (b + 1), .int (nI C.2.2.1), .int C.2.2.2])))) := ⟨_, rfl⟩
  have hR : fR G ω_1 H := by rw [hw_2]; exact hR
  have f_3 : ω_1.2 b = some (.inr (4, [.int ch, .ref (b + 1), .int (nI C.2.2.1), .int C.2.2.2])) := by rw [hw_2]; exact va_up_at
  have fr_4 : ∀ q : Nat, ¬ q = b → ω_1.2 q = ω.2 q := fun q hq => by rw [hw_2]; exact va_up_off hq
  have z_5 : ω_1.1 = ω.1 := by rw [hw_2]
  refine lv_aload_n hx hb dX2_begin_5 rfl (lv_at hl 0 rfl) ?_
  refine lv_iconst (v := 0) hx hb dX2_begin_6 (by decide) ?_
  refine fw_put (v := .int 0) (C := RX2) (T := TX2) (N := 4) hx hb hts hin2 tyX2 tyX2_ok nmX2 hown hK hR hS f_3 rfl 2 (by decide) (hts (.fieldLink RX2 19 "UnreadLeaflets$Command" "numberCount" "I") (by decide +kernel)) rfl rfl rfl (Nat.le_of_ble_eq_true rfl) dX2_begin_7 (fun H locs hR hS => ?_)
  obtain ⟨ω_6, hw_7⟩ : ∃ τ : FWd, τ = (ω_1.1, va_up ω_1.2 b (some (.inr (4, [.int ch, .ref (b + 1), .int 0, .int C.2.2.2])))) := ⟨_, rfl⟩
  have hR : fR G ω_6 H := by rw [hw_7]; exact hR
  have f_8 : ω_6.2 b = some (.inr (4, [.int ch, .ref (b + 1), .int 0, .int C.2.2.2])) := by rw [hw_7]; exact va_up_at
  have fr_9 : ∀ q : Nat, ¬ q = b → ω_6.2 q = ω_1.2 q := fun q hq => by rw [hw_7]; exact va_up_off hq
  have z_10 : ω_6.1 = ω_1.1 := by rw [hw_7]
  refine lv_aload_n hx hb dX2_begin_10 rfl (lv_at hl 0 rfl) ?_
  refine lv_iconst (v := 0) hx hb dX2_begin_11 (by decide) ?_
  refine fw_put (v := .int 0) (C := RX2) (T := TX2) (N := 4) hx hb hts hin2 tyX2 tyX2_ok nmX2 hown hK hR hS f_8 rfl 3 (by decide) (hts (.fieldLink RX2 23 "UnreadLeaflets$Command" "languages" "I") (by decide +kernel)) rfl rfl rfl (Nat.le_of_ble_eq_true rfl) dX2_begin_12 (fun H locs hR hS => ?_)
  obtain ⟨ω_11, hw_12⟩ : ∃ τ : FWd, τ = (ω_6.1, va_up ω_6.2 b (some (.inr (4, [.int ch, .ref (b + 1), .int 0, .int 0])))) := ⟨_, rfl⟩
  have hR : fR G ω_11 H := by rw [hw_12]; exact hR
  have f_13 : ω_11.2 b = some (.inr (4, [.int ch, .ref (b + 1), .int 0, .int 0])) := by rw [hw_12]; exact va_up_at
  have fr_14 : ∀ q : Nat, ¬ q = b → ω_11.2 q = ω_6.2 q := fun q hq => by rw [hw_12]; exact va_up_off hq
  have z_15 : ω_11.1 = ω_6.1 := by rw [hw_12]
  have f_16 : ω_1.2 (b + 1) = some (.inl (G.2.1 0, 3, .inl C.2.1)) := (fr_4 (b + 1) (by omega)).trans b1
  have f_17 : ω_6.2 (b + 1) = some (.inl (G.2.1 0, 3, .inl C.2.1)) := (fr_9 (b + 1) (by omega)).trans f_16
  have f_18 : ω_11.2 (b + 1) = some (.inl (G.2.1 0, 3, .inl C.2.1)) := (fr_14 (b + 1) (by omega)).trans f_17
  have fr_19 : ∀ q : Nat, ¬ q = b → ¬ q = (b + 1) → ω_11.2 q = ω.2 q := by
    intro q h0 h1
    rw [fr_14 q (by omega)]
    rw [fr_9 q (by omega)]
    rw [fr_4 q (by omega)]
  have z_20 : ω_11.1 = ω.1 := by rw [z_15, z_10, z_5]
  refine fw_vret hx hb hr hlocks hR hS dX2_begin_15 ⟨rfl, z_20, ?_, ?_, fr_19⟩
  · refine f_13.trans (congrArg some ?_)
    rfl
  · refine f_18.trans (congrArg some ?_)
    rfl
set_option maxHeartbeats 4000000 in
set_option maxRecDepth 100000 in
theorem c_X2_addNumber (G : FG) (hL : FL G) (l : Launch) (ω : FWd) (b : Nat) (C : CM) (hC : CmdS G ω.2 b C.1 C.2.1 C.2.2.1 C.2.2.2) (x : Int32) (hn3 : C.2.2.1 ≤ 3) : FMet G l yX2_addNumber wsX2_addNumber ({ frames := 0, cells := 0, slots := 0, locals := 0 } : Room) [.ref b, .int x] ω (fun vv9 τ9 => vv9 = none ∧ τ9.1 = ω.1 ∧ τ9.2 b = some (.inr (4, [.int (numP C x).1, .ref (b + 1), .int (nI (numP C x).2.2.1), .int (numP C x).2.2.2])) ∧ τ9.2 (b + 1) = some (.inl (G.2.1 0, 3, .inl (numP C x).2.1)) ∧ ∀ q : Nat, ¬ q = b → ¬ q = (b + 1) → τ9.2 q = ω.2 q) 0 0 := by
  refine fw_ofW (cc := cX2_addNumber) (maxL := 2) (ret := none) (by decide) rfl (Nat.le_of_ble_eq_true rfl) ?_
  intro pP eE sS mI ar9 bl9 meth cD ls hx hb hr hlocks hml hts hown hnm hW hR hl
  have hK := hL.K hW
  have hS : va_S (fwA G) sS.heap sS.heap [] := va_S.rf
  have hin2 : ∀ w ∈ u_ws RX2 TX2 4, w ∈ wsX2_addNumber := by decide +kernel
  have hl : lv_has ls 2 [(0, .ref b), (1, .int x)] := hl
  obtain ⟨b0, b1⟩ := id hC
  refine lv_aload_n hx hb dX2_addNumber_0 rfl (lv_at hl 0 rfl) ?_
  refine fw_get (v := .int (nI C.2.2.1)) (C := RX2) (T := TX2) (N := 4) hx hb hts hin2 hown hK hR b0 rfl 2 (by decide) (hts (.fieldLink RX2 19 "UnreadLeaflets$Command" "numberCount" "I") (by decide +kernel)) rfl dX2_addNumber_1 ?_
  refine lv_iconst (v := 3) hx hb dX2_addNumber_4 (by decide) ?_
  refine lv_icmp_ge (tgt := 28) hx hb dX2_addNumber_5 (by decide) (fun c_1 => ?_) (fun c_1 => ?_)
  · skip
    have hn : ¬ C.2.2.1 < 3 := fun z => absurd ((nI_leI (a := 3) (by omega) (by omega)).mp c_1) (Nat.not_le.mpr z)
    have fr_2 : ∀ q : Nat, ¬ q = b → ¬ q = (b + 1) → ω.2 q = ω.2 q := by
      intro q h0 h1
      rfl
    have z_3 : ω.1 = ω.1 := rfl
    refine fw_vret hx hb hr hlocks hR hS dX2_addNumber_28 ⟨rfl, z_3, ?_, ?_, fr_2⟩
    · refine b0.trans (congrArg some ?_)
      simp only [numP, if_neg hn, nI_1]
    · refine b1.trans (congrArg some ?_)
      simp only [numP, if_neg hn, nI_1]
  · skip
    have hn : C.2.2.1 < 3 := Nat.lt_of_not_le (fun z => c_1 ((nI_leI (a := 3) (by omega) (by omega)).mpr z))
    refine lv_aload_n hx hb dX2_addNumber_8 rfl (lv_at hl 0 rfl) ?_
    refine fw_get (v := .ref (b + 1)) (C := RX2) (T := TX2) (N := 4) hx hb hts hin2 hown hK hR b0 rfl 1 (by decide) (hts (.fieldLink RX2 9 "UnreadLeaflets$Command" "numbers" "[I") (by decide +kernel)) rfl dX2_addNumber_9 ?_
    refine lv_aload_n hx hb dX2_addNumber_12 rfl (lv_at hl 0 rfl) ?_
    refine fw_get (v := .int (nI C.2.2.1)) (C := RX2) (T := TX2) (N := 4) hx hb hts hin2 hown hK hR b0 rfl 2 (by decide) (hts (.fieldLink RX2 19 "UnreadLeaflets$Command" "numberCount" "I") (by decide +kernel)) rfl dX2_addNumber_13 ?_
    refine lv_iload_n hx hb dX2_addNumber_16 rfl (lv_at hl 1 rfl) ?_
    refine fw_iast hx hb hK hR hS b1 (vp_in_nI (by omega) (by omega)) dX2_addNumber_17 (fun H locs hR hS => ?_)
    rw [show (nI C.2.2.1).toNatClampNeg = C.2.2.1 from nI_clamp (by omega)] at hR
    obtain ⟨ω_4, hw_5⟩ : ∃ τ : FWd, τ = (ω.1, va_up ω.2 (b + 1) (some (.inl (G.2.1 0, 3, .inl (upd C.2.1 C.2.2.1 x))))) := ⟨_, rfl⟩
    have hR : fR G ω_4 H := by rw [hw_5]; exact hR
    have f_6 : ω_4.2 (b + 1) = some (.inl (G.2.1 0, 3, .inl (upd C.2.1 C.2.2.1 x))) := by rw [hw_5]; exact va_up_at
    have fr_7 : ∀ q : Nat, ¬ q = (b + 1) → ω_4.2 q = ω.2 q := fun q hq => by rw [hw_5]; exact va_up_off hq
    have z_8 : ω_4.1 = ω.1 := by rw [hw_5]
    refine lv_aload_n hx hb dX2_addNumber_18 rfl (lv_at hl 0 rfl) ?_
    refine lv_dup hx hb dX2_addNumber_19 rfl ?_
    have f_9 : ω_4.2 b = some (.inr (4, [.int C.1, .ref (b + 1), .int (nI C.2.2.1), .int C.2.2.2])) := (fr_7 b (by omega)).trans b0
    refine fw_get (v := .int (nI C.2.2.1)) (C := RX2) (T := TX2) (N := 4) hx hb hts hin2 hown hK hR f_9 rfl 2 (by decide) (hts (.fieldLink RX2 19 "UnreadLeaflets$Command" "numberCount" "I") (by decide +kernel)) rfl dX2_addNumber_20 ?_
    refine lv_iconst (v := 1) hx hb dX2_addNumber_23 (by decide) ?_
    refine lv_iadd hx hb dX2_addNumber_24 ?_
    refine fw_put (v := .int ((nI C.2.2.1) + 1)) (C := RX2) (T := TX2) (N := 4) hx hb hts hin2 tyX2 tyX2_ok nmX2 hown hK hR hS f_9 rfl 2 (by decide) (hts (.fieldLink RX2 19 "UnreadLeaflets$Command" "numberCount" "I") (by decide +kernel)) rfl rfl rfl (Nat.le_of_ble_eq_true rfl) dX2_addNumber_25 (fun H locs hR hS => ?_)
    obtain ⟨ω_10, hw_11⟩ : ∃ τ : FWd, τ = (ω_4.1, va_up ω_4.2 b (some (.inr (4, [.int C.1, .ref (b + 1), .int ((nI C.2.2.1) + 1), .int C.2.2.2])))) := ⟨_, rfl⟩
    have hR : fR G ω_10 H := by rw [hw_11]; exact hR
    have f_12 : ω_10.2 b = some (.inr (4, [.int C.1, .ref (b + 1), .int ((nI C.2.2.1) + 1), .int C.2.2.2])) := by rw [hw_11]; exact va_up_at
    have fr_13 : ∀ q : Nat, ¬ q = b → ω_10.2 q = ω_4.2 q := fun q hq => by rw [hw_11]; exact va_up_off hq
    have z_14 : ω_10.1 = ω_4.1 := by rw [hw_11]
    have f_15 : ω_10.2 (b + 1) = some (.inl (G.2.1 0, 3, .inl (upd C.2.1 C.2.2.1 x))) := (fr_13 (b + 1) (by omega)).trans f_6
    have fr_16 : ∀ q : Nat, ¬ q = b → ¬ q = (b + 1) → ω_10.2 q = ω.2 q := by
      intro q h0 h1
      rw [fr_13 q (by omega)]
      rw [fr_7 q (by omega)]
    have z_17 : ω_10.1 = ω.1 := by rw [z_14, z_8]
    refine fw_vret hx hb hr hlocks hR hS dX2_addNumber_28 ⟨rfl, z_17, ?_, ?_, fr_16⟩
    · refine f_12.trans (congrArg some ?_)
      simp only [numP, if_pos hn, nI_1]
    · refine f_15.trans (congrArg some ?_)
      simp only [numP, if_pos hn, nI_1]
set_option maxHeartbeats 4000000 in
set_option maxRecDepth 100000 in
theorem c_X2_addLanguage (G : FG) (hL : FL G) (l : Launch) (ω : FWd) (b : Nat) (C : CM) (hC : CmdS G ω.2 b C.1 C.2.1 C.2.2.1 C.2.2.2) (x : Int32) : FMet G l yX2_addLanguage wsX2_addLanguage ({ frames := 0, cells := 0, slots := 0, locals := 0 } : Room) [.ref b, .int x] ω (fun vv9 τ9 => vv9 = none ∧ τ9.1 = ω.1 ∧ τ9.2 b = some (.inr (4, [.int (lanP C x).1, .ref (b + 1), .int (nI (lanP C x).2.2.1), .int (lanP C x).2.2.2])) ∧ τ9.2 (b + 1) = some (.inl (G.2.1 0, 3, .inl (lanP C x).2.1)) ∧ ∀ q : Nat, ¬ q = b → ¬ q = (b + 1) → τ9.2 q = ω.2 q) 0 0 := by
  refine fw_ofW (cc := cX2_addLanguage) (maxL := 2) (ret := none) (by decide) rfl (Nat.le_of_ble_eq_true rfl) ?_
  intro pP eE sS mI ar9 bl9 meth cD ls hx hb hr hlocks hml hts hown hnm hW hR hl
  have hK := hL.K hW
  have hS : va_S (fwA G) sS.heap sS.heap [] := va_S.rf
  have hin2 : ∀ w ∈ u_ws RX2 TX2 4, w ∈ wsX2_addLanguage := by decide +kernel
  have hl : lv_has ls 2 [(0, .ref b), (1, .int x)] := hl
  obtain ⟨b0, b1⟩ := id hC
  refine lv_aload_n hx hb dX2_addLanguage_0 rfl (lv_at hl 0 rfl) ?_
  refine lv_dup hx hb dX2_addLanguage_1 rfl ?_
  refine fw_get (v := .int C.2.2.2) (C := RX2) (T := TX2) (N := 4) hx hb hts hin2 hown hK hR b0 rfl 3 (by decide) (hts (.fieldLink RX2 23 "UnreadLeaflets$Command" "languages" "I") (by decide +kernel)) rfl dX2_addLanguage_2 ?_
  refine lv_iconst (v := 1) hx hb dX2_addLanguage_5 (by decide) ?_
  refine lv_iload_n hx hb dX2_addLanguage_6 rfl (lv_at hl 1 rfl) ?_
  refine lv_ishl hx hb dX2_addLanguage_7 ?_
  refine lv_ior hx hb dX2_addLanguage_8 ?_
  refine fw_put (v := .int (C.2.2.2 ||| (1 <<< (x &&& 31)))) (C := RX2) (T := TX2) (N := 4) hx hb hts hin2 tyX2 tyX2_ok nmX2 hown hK hR hS b0 rfl 3 (by decide) (hts (.fieldLink RX2 23 "UnreadLeaflets$Command" "languages" "I") (by decide +kernel)) rfl rfl rfl (Nat.le_of_ble_eq_true rfl) dX2_addLanguage_9 (fun H locs hR hS => ?_)
  obtain ⟨ω_1, hw_2⟩ : ∃ τ : FWd, τ = (ω.1, va_up ω.2 b (some (.inr (4, [.int C.1, .ref (b + 1), .int (nI C.2.2.1), .int (C.2.2.2 ||| (1 <<< (x &&& 31)))])))) := ⟨_, rfl⟩
  have hR : fR G ω_1 H := by rw [hw_2]; exact hR
  have f_3 : ω_1.2 b = some (.inr (4, [.int C.1, .ref (b + 1), .int (nI C.2.2.1), .int (C.2.2.2 ||| (1 <<< (x &&& 31)))])) := by rw [hw_2]; exact va_up_at
  have fr_4 : ∀ q : Nat, ¬ q = b → ω_1.2 q = ω.2 q := fun q hq => by rw [hw_2]; exact va_up_off hq
  have z_5 : ω_1.1 = ω.1 := by rw [hw_2]
  have f_6 : ω_1.2 (b + 1) = some (.inl (G.2.1 0, 3, .inl C.2.1)) := (fr_4 (b + 1) (by omega)).trans b1
  have fr_7 : ∀ q : Nat, ¬ q = b → ¬ q = (b + 1) → ω_1.2 q = ω.2 q := by
    intro q h0 h1
    rw [fr_4 q (by omega)]
  have z_8 : ω_1.1 = ω.1 := by rw [z_5]
  refine fw_vret hx hb hr hlocks hR hS dX2_addLanguage_12 ⟨rfl, z_8, ?_, ?_, fr_7⟩
  · refine f_3.trans (congrArg some ?_)
    rfl
  · refine f_6.trans (congrArg some ?_)
    rfl
