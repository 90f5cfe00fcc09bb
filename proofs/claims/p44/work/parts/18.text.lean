/-! ===== printed by program (wip/whole/gen): the text's reads ===== -/
set_option maxHeartbeats 4000000 in
set_option maxRecDepth 100000 in
theorem c_X8_isFull (G : FG) (hL : FL G) (l : Launch) (ω : FWd) (t : Nat) (f : Nat → Int32) (len pos cnt : Nat) (ft : Int32) (hT : TxtS G ω.2 t f len pos cnt ft) (hl60 : len ≤ 60) (hpl : pos ≤ len) : FMet G l yX8_isFull wsX8_isFull ({ frames := 0, cells := 0, slots := 0, locals := 0 } : Room) [.ref t] ω (rI (bz (¬ nI len < 60)) ω) 0 0 := by
  refine fw_ofW (cc := cX8_isFull) (maxL := 1) (ret := (some .boolean)) (by decide) rfl (Nat.le_of_ble_eq_true rfl) ?_
  intro pP eE sS mI ar9 bl9 meth cD ls hx hb hr hlocks hml hts hown hnm hW hR hl
  have hK := hL.K hW
  have hS : va_S (fwA G) sS.heap sS.heap [] := va_S.rf
  have hin8 : ∀ w ∈ u_ws RX8 TX8 6, w ∈ wsX8_isFull := by decide +kernel
  have hl : lv_has ls 1 [(0, .ref t)] := hl
  obtain ⟨t0, t1⟩ := id hT
  refine lv_aload_n hx hb dX8_isFull_0 rfl (lv_at hl 0 rfl) ?_
  refine fw_get (v := .int (nI len)) (C := RX8) (T := TX8) (N := 6) hx hb hts hin8 hown hK hR t0 rfl 1 (by decide) (hts (.fieldLink RX8 26 "UnreadLeaflets$Text" "length" "I") (by decide +kernel)) rfl dX8_isFull_1 ?_
  refine lv_bipush (v := 60) hx hb dX8_isFull_4 (by decide) ?_
  refine lv_icmp_lt (tgt := 13) hx hb dX8_isFull_6 (by decide) (fun c_1 => ?_) (fun c_1 => ?_)
  · skip
    refine lv_iconst (v := 0) hx hb dX8_isFull_13 (by decide) ?_
    refine fw_zret hx hb hr rfl hlocks hR hS dX8_isFull_14 (rI_mk ?_)
    exact (bz_0 (by first | rfl | assumption | (simp_all [inB, hasB, usesB]; done) | omega)).symm
  · skip
    refine lv_iconst (v := 1) hx hb dX8_isFull_9 (by decide) ?_
    refine lv_goto (tgt := 14) hx hb dX8_isFull_10 (by decide) ?_
    refine fw_zret hx hb hr rfl hlocks hR hS dX8_isFull_14 (rI_mk ?_)
    exact (bz_1 (by first | rfl | assumption | (simp_all [inB, hasB, usesB]; done) | omega)).symm
set_option maxHeartbeats 4000000 in
set_option maxRecDepth 100000 in
theorem c_X8_add (G : FG) (hL : FL G) (l : Launch) (ω : FWd) (t : Nat) (f : Nat → Int32) (len pos cnt : Nat) (ft : Int32) (hT : TxtS G ω.2 t f len pos cnt ft) (hl60 : len ≤ 60) (hpl : pos ≤ len) (ch : Int32) (hch : vp_nar .char ch = ch) : FMet G l yX8_add wsX8_add ({ frames := 1, cells := 0, slots := 0, locals := 20 } : Room) [.ref t, .int ch] ω (fun vv9 τ9 => vv9 = some (.int (nI (adP (f, len) ch).2)) ∧ τ9.1 = ω.1 ∧ τ9.2 t = some (.inr (10, [.ref (t + 1), .int (nI (adP (f, len) ch).2), .int (nI pos), .ref (t + 2), .int (nI cnt), .int ft])) ∧ τ9.2 (t + 1) = some (.inl (G.2.1 1, 60, .inl (adP (f, len) ch).1)) ∧ ∀ q : Nat, ¬ q = t → ¬ q = (t + 1) → τ9.2 q = ω.2 q) 0 0 := by
  refine fw_ofW (cc := cX8_add) (maxL := 2) (ret := (some .int)) (by decide) rfl (Nat.le_of_ble_eq_true rfl) ?_
  intro pP eE sS mI ar9 bl9 meth cD ls hx hb hr hlocks hml hts hown hnm hW hR hl
  have hK := hL.K hW
  have hS : va_S (fwA G) sS.heap sS.heap [] := va_S.rf
  have hin8 : ∀ w ∈ u_ws RX8 TX8 6, w ∈ wsX8_add := by decide +kernel
  have hl : lv_has ls 2 [(0, .ref t), (1, .int ch)] := hl
  obtain ⟨t0, t1⟩ := id hT
  refine lv_aload_n hx hb dX8_add_0 rfl (lv_at hl 0 rfl) ?_
  refine fw_call (va_runV (As := []) (rest := []) ⟨hx, hb, hml, hown, hts⟩ (c_X8_isFull G hL l ω t f len pos cnt ft ⟨t0, t1⟩ (by omega) (by omega) ) (cwV 0 hts gX8_add_X8_isFull rfl rfl rfl (by decide +kernel) ⟨Nat.le_of_ble_eq_true rfl, Nat.le_of_ble_eq_true rfl⟩) (fw_preV hW hK hR t0 rfl) rfl rfl hl.1 rfl (lv_room (Nat.le_of_ble_eq_true rfl)) dX8_add_1 ⟨Nat.le_of_ble_eq_true rfl, Nat.le_of_ble_eq_true rfl⟩) hS (fun v_1 ω_2 H locs hq_3 hR hS => ?_)
  obtain ⟨rfl, hq_3⟩ := hq_3
  rw [hq_3] at hR
  refine W.eq (g2 := F0 mI 4 ls [.int (bz (¬ nI len < 60))]) rfl ?_
  refine lv_if_ne (tgt := 27) hx hb dX8_add_4 (by decide) (fun c_4 => ?_) (fun c_4 => ?_)
  · skip
    have c_4 := bz_ne c_4
    have hn : ¬ len < 60 := fun z => c_4 ((nI_ltI (b := 60) (by omega) (by omega)).mpr z)
    refine lv_aload_n hx hb dX8_add_27 rfl (lv_at hl 0 rfl) ?_
    refine fw_get (v := .int (nI len)) (C := RX8) (T := TX8) (N := 6) hx hb hts hin8 hown hK hR t0 rfl 1 (by decide) (hts (.fieldLink RX8 26 "UnreadLeaflets$Text" "length" "I") (by decide +kernel)) rfl dX8_add_28 ?_
    have fr_5 : ∀ q : Nat, ¬ q = t → ¬ q = (t + 1) → ω.2 q = ω.2 q := by
      intro q h0 h1
      rfl
    have z_6 : ω.1 = ω.1 := rfl
    refine fw_iret hx hb hr hlocks hR hS dX8_add_31 ⟨?_, z_6, ?_, ?_, fr_5⟩
    · refine congrArg (fun z => some (Value.int z)) ?_
      simp only [adP, if_neg hn, nI_1]
    · refine t0.trans (congrArg some ?_)
      simp only [adP, if_neg hn, nI_1]
    · refine t1.trans (congrArg some ?_)
      simp only [adP, if_neg hn, nI_1]
  · skip
    have c_4 := bz_eq c_4
    have hn : len < 60 := (nI_ltI (b := 60) (by omega) (by omega)).mp (Decidable.of_not_not c_4)
    refine lv_aload_n hx hb dX8_add_7 rfl (lv_at hl 0 rfl) ?_
    refine fw_get (v := .ref (t + 1)) (C := RX8) (T := TX8) (N := 6) hx hb hts hin8 hown hK hR t0 rfl 0 (by decide) (hts (.fieldLink RX8 9 "UnreadLeaflets$Text" "characters" "[C") (by decide +kernel)) rfl dX8_add_8 ?_
    refine lv_aload_n hx hb dX8_add_11 rfl (lv_at hl 0 rfl) ?_
    refine fw_get (v := .int (nI len)) (C := RX8) (T := TX8) (N := 6) hx hb hts hin8 hown hK hR t0 rfl 1 (by decide) (hts (.fieldLink RX8 26 "UnreadLeaflets$Text" "length" "I") (by decide +kernel)) rfl dX8_add_12 ?_
    refine lv_iload_n hx hb dX8_add_15 rfl (lv_at hl 1 rfl) ?_
    refine fw_cast hx hb hK hR hS t1 (vp_in_nI (by omega) (by omega)) dX8_add_16 (fun H locs hR hS => ?_)
    rw [show (nI len).toNatClampNeg = len from nI_clamp (by omega), hch] at hR
    obtain ⟨ω_7, hw_8⟩ : ∃ τ : FWd, τ = (ω.1, va_up ω.2 (t + 1) (some (.inl (G.2.1 1, 60, .inl (upd f len ch))))) := ⟨_, rfl⟩
    have hR : fR G ω_7 H := by rw [hw_8]; exact hR
    have f_9 : ω_7.2 (t + 1) = some (.inl (G.2.1 1, 60, .inl (upd f len ch))) := by rw [hw_8]; exact va_up_at
    have fr_10 : ∀ q : Nat, ¬ q = (t + 1) → ω_7.2 q = ω.2 q := fun q hq => by rw [hw_8]; exact va_up_off hq
    have z_11 : ω_7.1 = ω.1 := by rw [hw_8]
    refine lv_aload_n hx hb dX8_add_17 rfl (lv_at hl 0 rfl) ?_
    refine lv_dup hx hb dX8_add_18 rfl ?_
    have f_12 : ω_7.2 t = some (.inr (10, [.ref (t + 1), .int (nI len), .int (nI pos), .ref (t + 2), .int (nI cnt), .int ft])) := (fr_10 t (by omega)).trans t0
    refine fw_get (v := .int (nI len)) (C := RX8) (T := TX8) (N := 6) hx hb hts hin8 hown hK hR f_12 rfl 1 (by decide) (hts (.fieldLink RX8 26 "UnreadLeaflets$Text" "length" "I") (by decide +kernel)) rfl dX8_add_19 ?_
    refine lv_iconst (v := 1) hx hb dX8_add_22 (by decide) ?_
    refine lv_iadd hx hb dX8_add_23 ?_
    refine fw_put (v := .int ((nI len) + 1)) (C := RX8) (T := TX8) (N := 6) hx hb hts hin8 tyX8 tyX8_ok nmX8 hown hK hR hS f_12 rfl 1 (by decide) (hts (.fieldLink RX8 26 "UnreadLeaflets$Text" "length" "I") (by decide +kernel)) rfl rfl rfl (Nat.le_of_ble_eq_true rfl) dX8_add_24 (fun H locs hR hS => ?_)
    obtain ⟨ω_13, hw_14⟩ : ∃ τ : FWd, τ = (ω_7.1, va_up ω_7.2 t (some (.inr (10, [.ref (t + 1), .int ((nI len) + 1), .int (nI pos), .ref (t + 2), .int (nI cnt), .int ft])))) := ⟨_, rfl⟩
    have hR : fR G ω_13 H := by rw [hw_14]; exact hR
    have f_15 : ω_13.2 t = some (.inr (10, [.ref (t + 1), .int ((nI len) + 1), .int (nI pos), .ref (t + 2), .int (nI cnt), .int ft])) := by rw [hw_14]; exact va_up_at
    have fr_16 : ∀ q : Nat, ¬ q = t → ω_13.2 q = ω_7.2 q := fun q hq => by rw [hw_14]; exact va_up_off hq
    have z_17 : ω_13.1 = ω_7.1 := by rw [hw_14]
    refine lv_aload_n hx hb dX8_add_27 rfl (lv_at hl 0 rfl) ?_
    refine fw_get (v := .int ((nI len) + 1)) (C := RX8) (T := TX8) (N := 6) hx hb hts hin8 hown hK hR f_15 rfl 1 (by decide) (hts (.fieldLink RX8 26 "UnreadLeaflets$Text" "length" "I") (by decide +kernel)) rfl dX8_add_28 ?_
    have f_18 : ω_13.2 (t + 1) = some (.inl (G.2.1 1, 60, .inl (upd f len ch))) := (fr_16 (t + 1) (by omega)).trans f_9
    have fr_19 : ∀ q : Nat, ¬ q = t → ¬ q = (t + 1) → ω_13.2 q = ω.2 q := by
      intro q h0 h1
      rw [fr_16 q (by omega)]
      rw [fr_10 q (by omega)]
    have z_20 : ω_13.1 = ω.1 := by rw [z_17, z_11]
    refine fw_iret hx hb hr hlocks hR hS dX8_add_31 ⟨?_, z_20, ?_, ?_, fr_19⟩
    · refine congrArg (fun z => some (Value.int z)) ?_
      simp only [adP, if_pos hn, nI_1]
    · refine f_15.trans (congrArg some ?_)
      simp only [adP, if_pos hn, nI_1]
    · refine f_18.trans (congrArg some ?_)
      simp only [adP, if_pos hn, nI_1]
set_option maxHeartbeats 4000000 in
set_option maxRecDepth 100000 in
theorem c_X8_isDigitNext (G : FG) (hL : FL G) (l : Launch) (ω : FWd) (t : Nat) (f : Nat → Int32) (len pos cnt : Nat) (ft : Int32) (hT : TxtS G ω.2 t f len pos cnt ft) (hl60 : len ≤ 60) (hpl : pos ≤ len) : FMet G l yX8_isDigitNext wsX8_isDigitNext ({ frames := 0, cells := 0, slots := 0, locals := 0 } : Room) [.ref t] ω (rI (bz (digB f len pos)) ω) 0 0 := by
  refine fw_ofW (cc := cX8_isDigitNext) (maxL := 1) (ret := (some .boolean)) (by decide) rfl (Nat.le_of_ble_eq_true rfl) ?_
  intro pP eE sS mI ar9 bl9 meth cD ls hx hb hr hlocks hml hts hown hnm hW hR hl
  have hK := hL.K hW
  have hS : va_S (fwA G) sS.heap sS.heap [] := va_S.rf
  have hin8 : ∀ w ∈ u_ws RX8 TX8 6, w ∈ wsX8_isDigitNext := by decide +kernel
  have hl : lv_has ls 1 [(0, .ref t)] := hl
  obtain ⟨t0, t1⟩ := id hT
  refine lv_aload_n hx hb dX8_isDigitNext_0 rfl (lv_at hl 0 rfl) ?_
  refine fw_get (v := .int (nI pos)) (C := RX8) (T := TX8) (N := 6) hx hb hts hin8 hown hK hR t0 rfl 2 (by decide) (hts (.fieldLink RX8 33 "UnreadLeaflets$Text" "position" "I") (by decide +kernel)) rfl dX8_isDigitNext_1 ?_
  refine lv_aload_n hx hb dX8_isDigitNext_4 rfl (lv_at hl 0 rfl) ?_
  refine fw_get (v := .int (nI len)) (C := RX8) (T := TX8) (N := 6) hx hb hts hin8 hown hK hR t0 rfl 1 (by decide) (hts (.fieldLink RX8 26 "UnreadLeaflets$Text" "length" "I") (by decide +kernel)) rfl dX8_isDigitNext_5 ?_
  refine lv_icmp_ge (tgt := 43) hx hb dX8_isDigitNext_8 (by decide) (fun c_1 => ?_) (fun c_1 => ?_)
  · skip
    refine lv_iconst (v := 0) hx hb dX8_isDigitNext_43 (by decide) ?_
    refine fw_zret hx hb hr rfl hlocks hR hS dX8_isDigitNext_44 (rI_mk ?_)
    exact (bz_0 (fun z => z.1 c_1)).symm
  · skip
    have hp6 : pos < len := Nat.lt_of_not_le (fun z => c_1 ((nI_leI (by omega) (by omega)).mpr z))
    refine lv_aload_n hx hb dX8_isDigitNext_11 rfl (lv_at hl 0 rfl) ?_
    refine fw_get (v := .ref (t + 1)) (C := RX8) (T := TX8) (N := 6) hx hb hts hin8 hown hK hR t0 rfl 0 (by decide) (hts (.fieldLink RX8 9 "UnreadLeaflets$Text" "characters" "[C") (by decide +kernel)) rfl dX8_isDigitNext_12 ?_
    refine lv_aload_n hx hb dX8_isDigitNext_15 rfl (lv_at hl 0 rfl) ?_
    refine fw_get (v := .int (nI pos)) (C := RX8) (T := TX8) (N := 6) hx hb hts hin8 hown hK hR t0 rfl 2 (by decide) (hts (.fieldLink RX8 33 "UnreadLeaflets$Text" "position" "I") (by decide +kernel)) rfl dX8_isDigitNext_16 ?_
    refine fw_cald hx hb hK hR t1 (vp_in_nI (by omega) (by omega)) dX8_isDigitNext_19 ?_
    refine W.eq (g2 := F0 mI 20 ls [.int (f pos)]) (by rw [nI_clamp (by omega)]) ?_
    refine lv_bipush (v := 48) hx hb dX8_isDigitNext_20 (by decide) ?_
    refine lv_icmp_lt (tgt := 43) hx hb dX8_isDigitNext_22 (by decide) (fun c_2 => ?_) (fun c_2 => ?_)
    · skip
      refine lv_iconst (v := 0) hx hb dX8_isDigitNext_43 (by decide) ?_
      refine fw_zret hx hb hr rfl hlocks hR hS dX8_isDigitNext_44 (rI_mk ?_)
      exact (bz_0 (fun z => z.2.1 c_2)).symm
    · skip
      refine lv_aload_n hx hb dX8_isDigitNext_25 rfl (lv_at hl 0 rfl) ?_
      refine fw_get (v := .ref (t + 1)) (C := RX8) (T := TX8) (N := 6) hx hb hts hin8 hown hK hR t0 rfl 0 (by decide) (hts (.fieldLink RX8 9 "UnreadLeaflets$Text" "characters" "[C") (by decide +kernel)) rfl dX8_isDigitNext_26 ?_
      refine lv_aload_n hx hb dX8_isDigitNext_29 rfl (lv_at hl 0 rfl) ?_
      refine fw_get (v := .int (nI pos)) (C := RX8) (T := TX8) (N := 6) hx hb hts hin8 hown hK hR t0 rfl 2 (by decide) (hts (.fieldLink RX8 33 "UnreadLeaflets$Text" "position" "I") (by decide +kernel)) rfl dX8_isDigitNext_30 ?_
      refine fw_cald hx hb hK hR t1 (vp_in_nI (by omega) (by omega)) dX8_isDigitNext_33 ?_
      refine W.eq (g2 := F0 mI 34 ls [.int (f pos)]) (by rw [nI_clamp (by omega)]) ?_
      refine lv_bipush (v := 57) hx hb dX8_isDigitNext_34 (by decide) ?_
      refine lv_icmp_gt (tgt := 43) hx hb dX8_isDigitNext_36 (by decide) (fun c_3 => ?_) (fun c_3 => ?_)
      · skip
        refine lv_iconst (v := 0) hx hb dX8_isDigitNext_43 (by decide) ?_
        refine fw_zret hx hb hr rfl hlocks hR hS dX8_isDigitNext_44 (rI_mk ?_)
        exact (bz_0 (fun z => z.2.2 c_3)).symm
      · skip
        refine lv_iconst (v := 1) hx hb dX8_isDigitNext_39 (by decide) ?_
        refine lv_goto (tgt := 44) hx hb dX8_isDigitNext_40 (by decide) ?_
        refine fw_zret hx hb hr rfl hlocks hR hS dX8_isDigitNext_44 (rI_mk ?_)
        exact (bz_1 ⟨c_1, c_2, c_3⟩).symm
set_option maxHeartbeats 4000000 in
set_option maxRecDepth 100000 in
theorem c_X8_readSign (G : FG) (hL : FL G) (l : Launch) (ω : FWd) (t : Nat) (f : Nat → Int32) (len pos cnt : Nat) (ft : Int32) (hT : TxtS G ω.2 t f len pos cnt ft) (hl60 : len ≤ 60) (hpl : pos ≤ len) (sg : Int32) : FMet G l yX8_readSign wsX8_readSign ({ frames := 0, cells := 0, slots := 0, locals := 0 } : Room) [.ref t, .int sg] ω (fun vv9 τ9 => vv9 = some (.int (bz (sgB f len pos sg))) ∧ τ9.1 = ω.1 ∧ τ9.2 t = some (.inr (10, [.ref (t + 1), .int (nI len), .int (nI (if sgB f len pos sg then pos + 1 else pos)), .ref (t + 2), .int (nI cnt), .int ft])) ∧ ∀ q : Nat, ¬ q = t → τ9.2 q = ω.2 q) 0 0 := by
  refine fw_ofW (cc := cX8_readSign) (maxL := 2) (ret := (some .boolean)) (by decide) rfl (Nat.le_of_ble_eq_true rfl) ?_
  intro pP eE sS mI ar9 bl9 meth cD ls hx hb hr hlocks hml hts hown hnm hW hR hl
  have hK := hL.K hW
  have hS : va_S (fwA G) sS.heap sS.heap [] := va_S.rf
  have hin8 : ∀ w ∈ u_ws RX8 TX8 6, w ∈ wsX8_readSign := by decide +kernel
  have hl : lv_has ls 2 [(0, .ref t), (1, .int sg)] := hl
  obtain ⟨t0, t1⟩ := id hT
  refine lv_aload_n hx hb dX8_readSign_0 rfl (lv_at hl 0 rfl) ?_
  refine fw_get (v := .int (nI pos)) (C := RX8) (T := TX8) (N := 6) hx hb hts hin8 hown hK hR t0 rfl 2 (by decide) (hts (.fieldLink RX8 33 "UnreadLeaflets$Text" "position" "I") (by decide +kernel)) rfl dX8_readSign_1 ?_
  refine lv_aload_n hx hb dX8_readSign_4 rfl (lv_at hl 0 rfl) ?_
  refine fw_get (v := .int (nI len)) (C := RX8) (T := TX8) (N := 6) hx hb hts hin8 hown hK hR t0 rfl 1 (by decide) (hts (.fieldLink RX8 26 "UnreadLeaflets$Text" "length" "I") (by decide +kernel)) rfl dX8_readSign_5 ?_
  refine lv_icmp_ge (tgt := 24) hx hb dX8_readSign_8 (by decide) (fun c_1 => ?_) (fun c_1 => ?_)
  · skip
    refine lv_iconst (v := 0) hx hb dX8_readSign_24 (by decide) ?_
    have fr_2 : ∀ q : Nat, ¬ q = t → ω.2 q = ω.2 q := by
      intro q h0
      rfl
    have z_3 : ω.1 = ω.1 := rfl
    refine fw_zret hx hb hr rfl hlocks hR hS dX8_readSign_25 ⟨?_, z_3, ?_, fr_2⟩
    · refine congrArg (fun z => some (Value.int z)) ?_
      exact (bz_0 (fun z => z.1 c_1)).symm
    · refine t0.trans (congrArg some ?_)
      rw [if_neg (fun z => z.1 c_1)]
  · skip
    have hp6 : pos < len := Nat.lt_of_not_le (fun z => c_1 ((nI_leI (by omega) (by omega)).mpr z))
    refine lv_aload_n hx hb dX8_readSign_11 rfl (lv_at hl 0 rfl) ?_
    refine fw_get (v := .ref (t + 1)) (C := RX8) (T := TX8) (N := 6) hx hb hts hin8 hown hK hR t0 rfl 0 (by decide) (hts (.fieldLink RX8 9 "UnreadLeaflets$Text" "characters" "[C") (by decide +kernel)) rfl dX8_readSign_12 ?_
    refine lv_aload_n hx hb dX8_readSign_15 rfl (lv_at hl 0 rfl) ?_
    refine fw_get (v := .int (nI pos)) (C := RX8) (T := TX8) (N := 6) hx hb hts hin8 hown hK hR t0 rfl 2 (by decide) (hts (.fieldLink RX8 33 "UnreadLeaflets$Text" "position" "I") (by decide +kernel)) rfl dX8_readSign_16 ?_
    refine fw_cald hx hb hK hR t1 (vp_in_nI (by omega) (by omega)) dX8_readSign_19 ?_
    refine W.eq (g2 := F0 mI 20 ls [.int (f pos)]) (by rw [nI_clamp (by omega)]) ?_
    refine lv_iload_n hx hb dX8_readSign_20 rfl (lv_at hl 1 rfl) ?_
    refine lv_icmp_eq (tgt := 26) hx hb dX8_readSign_21 (by decide) (fun c_4 => ?_) (fun c_4 => ?_)
    · skip
      refine lv_aload_n hx hb dX8_readSign_26 rfl (lv_at hl 0 rfl) ?_
      refine lv_dup hx hb dX8_readSign_27 rfl ?_
      refine fw_get (v := .int (nI pos)) (C := RX8) (T := TX8) (N := 6) hx hb hts hin8 hown hK hR t0 rfl 2 (by decide) (hts (.fieldLink RX8 33 "UnreadLeaflets$Text" "position" "I") (by decide +kernel)) rfl dX8_readSign_28 ?_
      refine lv_iconst (v := 1) hx hb dX8_readSign_31 (by decide) ?_
      refine lv_iadd hx hb dX8_readSign_32 ?_
      refine fw_put (v := .int ((nI pos) + 1)) (C := RX8) (T := TX8) (N := 6) hx hb hts hin8 tyX8 tyX8_ok nmX8 hown hK hR hS t0 rfl 2 (by decide) (hts (.fieldLink RX8 33 "UnreadLeaflets$Text" "position" "I") (by decide +kernel)) rfl rfl rfl (Nat.le_of_ble_eq_true rfl) dX8_readSign_33 (fun H locs hR hS => ?_)
      obtain ⟨ω_5, hw_6⟩ : ∃ τ : FWd, τ = (ω.1, va_up ω.2 t (some (.inr (10, [.ref (t + 1), .int (nI len), .int ((nI pos) + 1), .ref (t + 2), .int (nI cnt), .int ft])))) := ⟨_, rfl⟩
      have hR : fR G ω_5 H := by rw [hw_6]; exact hR
      have f_7 : ω_5.2 t = some (.inr (10, [.ref (t + 1), .int (nI len), .int ((nI pos) + 1), .ref (t + 2), .int (nI cnt), .int ft])) := by rw [hw_6]; exact va_up_at
      have fr_8 : ∀ q : Nat, ¬ q = t → ω_5.2 q = ω.2 q := fun q hq => by rw [hw_6]; exact va_up_off hq
      have z_9 : ω_5.1 = ω.1 := by rw [hw_6]
      refine lv_iconst (v := 1) hx hb dX8_readSign_36 (by decide) ?_
      have fr_10 : ∀ q : Nat, ¬ q = t → ω_5.2 q = ω.2 q := by
        intro q h0
        rw [fr_8 q (by omega)]
      have z_11 : ω_5.1 = ω.1 := by rw [z_9]
      refine fw_zret hx hb hr rfl hlocks hR hS dX8_readSign_37 ⟨?_, z_11, ?_, fr_10⟩
      · refine congrArg (fun z => some (Value.int z)) ?_
        exact (bz_1 ⟨c_1, c_4⟩).symm
      · refine f_7.trans (congrArg some ?_)
        rw [if_pos ⟨c_1, c_4⟩, nI_1]
    · skip
      refine lv_iconst (v := 0) hx hb dX8_readSign_24 (by decide) ?_
      have fr_12 : ∀ q : Nat, ¬ q = t → ω.2 q = ω.2 q := by
        intro q h0
        rfl
      have z_13 : ω.1 = ω.1 := rfl
      refine fw_zret hx hb hr rfl hlocks hR hS dX8_readSign_25 ⟨?_, z_13, ?_, fr_12⟩
      · refine congrArg (fun z => some (Value.int z)) ?_
        exact (bz_0 (fun z => c_4 (z.2))).symm
      · refine t0.trans (congrArg some ?_)
        rw [if_neg (fun z => c_4 z.2)]
set_option maxHeartbeats 4000000 in
set_option maxRecDepth 100000 in
theorem c_X8_readNumber (G : FG) (hL : FL G) (l : Launch) (ω : FWd) (t : Nat) (f : Nat → Int32) (len pos cnt : Nat) (ft : Int32) (hT : TxtS G ω.2 t f len pos cnt ft) (hl60 : len ≤ 60) (hpl : pos ≤ len) (b : Nat) (C : CM) (hC : CmdS G ω.2 b C.1 C.2.1 C.2.2.1 C.2.2.2) (hn3 : C.2.2.1 ≤ 3) (hd : t + 2 ≤ b ∨ b + 2 ≤ t) : FMet G l yX8_readNumber wsX8_readNumber ({ frames := 1, cells := 0, slots := 0, locals := 21 } : Room) [.ref t, .ref b] ω (fun vv9 τ9 => vv9 = some (.int (bz (digB f len pos))) ∧ τ9.1 = ω.1 ∧ τ9.2 t = some (.inr (10, [.ref (t + 1), .int (nI len), .int (nI (if digB f len pos then pos + 1 else pos)), .ref (t + 2), .int (nI cnt), .int ft])) ∧ τ9.2 b = some (.inr (4, [.int ((if digB f len pos then numP C (f pos - 48) else C)).1, .ref (b + 1), .int (nI ((if digB f len pos then numP C (f pos - 48) else C)).2.2.1), .int ((if digB f len pos then numP C (f pos - 48) else C)).2.2.2])) ∧ τ9.2 (b + 1) = some (.inl (G.2.1 0, 3, .inl ((if digB f len pos then numP C (f pos - 48) else C)).2.1)) ∧ ∀ q : Nat, ¬ q = t → ¬ q = b → ¬ q = (b + 1) → τ9.2 q = ω.2 q) 0 0 := by
  refine fw_ofW (cc := cX8_readNumber) (maxL := 2) (ret := (some .boolean)) (by decide) rfl (Nat.le_of_ble_eq_true rfl) ?_
  intro pP eE sS mI ar9 bl9 meth cD ls hx hb hr hlocks hml hts hown hnm hW hR hl
  have hK := hL.K hW
  have hS : va_S (fwA G) sS.heap sS.heap [] := va_S.rf
  have hin8 : ∀ w ∈ u_ws RX8 TX8 6, w ∈ wsX8_readNumber := by decide +kernel
  have hl : lv_has ls 2 [(0, .ref t), (1, .ref b)] := hl
  obtain ⟨t0, t1⟩ := id hT
  obtain ⟨b0, b1⟩ := id hC
  refine lv_aload_n hx hb dX8_readNumber_0 rfl (lv_at hl 0 rfl) ?_
  refine fw_call (va_runV (As := []) (rest := []) ⟨hx, hb, hml, hown, hts⟩ (c_X8_isDigitNext G hL l ω t f len pos cnt ft ⟨t0, t1⟩ (by omega) (by omega) ) (cwV 0 hts gX8_readNumber_X8_isDigitNext rfl rfl rfl (by decide +kernel) ⟨Nat.le_of_ble_eq_true rfl, Nat.le_of_ble_eq_true rfl⟩) (fw_preV hW hK hR t0 rfl) rfl rfl hl.1 rfl (lv_room (Nat.le_of_ble_eq_true rfl)) dX8_readNumber_1 ⟨Nat.le_of_ble_eq_true rfl, Nat.le_of_ble_eq_true rfl⟩) hS (fun v_1 ω_2 H locs hq_3 hR hS => ?_)
  obtain ⟨rfl, hq_3⟩ := hq_3
  rw [hq_3] at hR
  refine W.eq (g2 := F0 mI 4 ls [.int (bz (digB f len pos))]) rfl ?_
  refine lv_if_ne (tgt := 9) hx hb dX8_readNumber_4 (by decide) (fun c_4 => ?_) (fun c_4 => ?_)
  · skip
    have c_4 := bz_ne c_4
    have hp6 : pos < len := Nat.lt_of_not_le (fun z => c_4.1 ((nI_leI (by omega) (by omega)).mpr z))
    have hdg : digB f len pos := c_4
    refine lv_aload_n hx hb dX8_readNumber_9 rfl (lv_at hl 1 rfl) ?_
    refine lv_aload_n hx hb dX8_readNumber_10 rfl (lv_at hl 0 rfl) ?_
    refine fw_get (v := .ref (t + 1)) (C := RX8) (T := TX8) (N := 6) hx hb hts hin8 hown hK hR t0 rfl 0 (by decide) (hts (.fieldLink RX8 9 "UnreadLeaflets$Text" "characters" "[C") (by decide +kernel)) rfl dX8_readNumber_11 ?_
    refine lv_aload_n hx hb dX8_readNumber_14 rfl (lv_at hl 0 rfl) ?_
    refine fw_get (v := .int (nI pos)) (C := RX8) (T := TX8) (N := 6) hx hb hts hin8 hown hK hR t0 rfl 2 (by decide) (hts (.fieldLink RX8 33 "UnreadLeaflets$Text" "position" "I") (by decide +kernel)) rfl dX8_readNumber_15 ?_
    refine fw_cald hx hb hK hR t1 (vp_in_nI (by omega) (by omega)) dX8_readNumber_18 ?_
    refine W.eq (g2 := F0 mI 19 ls [.int (f pos), .ref b]) (by rw [nI_clamp (by omega)]) ?_
    refine lv_bipush (v := 48) hx hb dX8_readNumber_19 (by decide) ?_
    refine lv_isub hx hb dX8_readNumber_21 ?_
    refine fw_call (va_runV (As := [.int ((f pos) - 48)]) (rest := []) ⟨hx, hb, hml, hown, hts⟩ (c_X2_addNumber G hL l ω b C ⟨b0, b1⟩ ((f pos) - 48) hn3) (cwV 1 hts gX8_readNumber_X2_addNumber rfl rfl rfl (by decide +kernel) ⟨Nat.le_of_ble_eq_true rfl, Nat.le_of_ble_eq_true rfl⟩) (fw_preV hW hK hR b0 rfl) rfl rfl hl.1 rfl (lv_room (Nat.le_of_ble_eq_true rfl)) dX8_readNumber_22 ⟨Nat.le_of_ble_eq_true rfl, Nat.le_of_ble_eq_true rfl⟩) hS (fun v_5 ω_6 H locs hq_7 hR hS => ?_)
    obtain ⟨rfl, z_8, f_10, f_11, fr_9⟩ := hq_7
    refine W.eq (g2 := F0 mI 25 ls []) rfl ?_
    refine lv_aload_n hx hb dX8_readNumber_25 rfl (lv_at hl 0 rfl) ?_
    refine lv_dup hx hb dX8_readNumber_26 rfl ?_
    have f_12 : ω_6.2 t = some (.inr (10, [.ref (t + 1), .int (nI len), .int (nI pos), .ref (t + 2), .int (nI cnt), .int ft])) := (fr_9 t (by omega) (by omega)).trans t0
    refine fw_get (v := .int (nI pos)) (C := RX8) (T := TX8) (N := 6) hx hb hts hin8 hown hK hR f_12 rfl 2 (by decide) (hts (.fieldLink RX8 33 "UnreadLeaflets$Text" "position" "I") (by decide +kernel)) rfl dX8_readNumber_27 ?_
    refine lv_iconst (v := 1) hx hb dX8_readNumber_30 (by decide) ?_
    refine lv_iadd hx hb dX8_readNumber_31 ?_
    refine fw_put (v := .int ((nI pos) + 1)) (C := RX8) (T := TX8) (N := 6) hx hb hts hin8 tyX8 tyX8_ok nmX8 hown hK hR hS f_12 rfl 2 (by decide) (hts (.fieldLink RX8 33 "UnreadLeaflets$Text" "position" "I") (by decide +kernel)) rfl rfl rfl (Nat.le_of_ble_eq_true rfl) dX8_readNumber_32 (fun H locs hR hS => ?_)
    obtain ⟨ω_13, hw_14⟩ : ∃ τ : FWd, τ = (ω_6.1, va_up ω_6.2 t (some (.inr (10, [.ref (t + 1), .int (nI len), .int ((nI pos) + 1), .ref (t + 2), .int (nI cnt), .int ft])))) := ⟨_, rfl⟩
    have hR : fR G ω_13 H := by rw [hw_14]; exact hR
    have f_15 : ω_13.2 t = some (.inr (10, [.ref (t + 1), .int (nI len), .int ((nI pos) + 1), .ref (t + 2), .int (nI cnt), .int ft])) := by rw [hw_14]; exact va_up_at
    have fr_16 : ∀ q : Nat, ¬ q = t → ω_13.2 q = ω_6.2 q := fun q hq => by rw [hw_14]; exact va_up_off hq
    have z_17 : ω_13.1 = ω_6.1 := by rw [hw_14]
    refine lv_iconst (v := 1) hx hb dX8_readNumber_35 (by decide) ?_
    have f_18 : ω_13.2 b = some (.inr (4, [.int (numP C ((f pos) - 48)).1, .ref (b + 1), .int (nI (numP C ((f pos) - 48)).2.2.1), .int (numP C ((f pos) - 48)).2.2.2])) := (fr_16 b (by omega)).trans f_10
    have f_19 : ω_13.2 (b + 1) = some (.inl (G.2.1 0, 3, .inl (numP C ((f pos) - 48)).2.1)) := (fr_16 (b + 1) (by omega)).trans f_11
    have fr_20 : ∀ q : Nat, ¬ q = t → ¬ q = b → ¬ q = (b + 1) → ω_13.2 q = ω.2 q := by
      intro q h0 h1 h2
      rw [fr_16 q (by omega)]
      rw [fr_9 q (by omega) (by omega)]
    have z_21 : ω_13.1 = ω.1 := by rw [z_17, z_8]
    refine fw_zret hx hb hr rfl hlocks hR hS dX8_readNumber_36 ⟨?_, z_21, ?_, ?_, ?_, fr_20⟩
    · refine congrArg (fun z => some (Value.int z)) ?_
      exact (bz_1 (by first | rfl | assumption | (simp_all [inB, hasB, usesB]; done) | omega)).symm
    · refine f_15.trans (congrArg some ?_)
      simp only [if_pos hdg, nI_1]
    · refine f_18.trans (congrArg some ?_)
      simp only [if_pos hdg, nI_1]
    · refine f_19.trans (congrArg some ?_)
      simp only [if_pos hdg, nI_1]
  · skip
    have c_4 := bz_eq c_4
    have hdg : ¬ digB f len pos := c_4
    refine lv_iconst (v := 0) hx hb dX8_readNumber_7 (by decide) ?_
    have fr_22 : ∀ q : Nat, ¬ q = t → ¬ q = b → ¬ q = (b + 1) → ω.2 q = ω.2 q := by
      intro q h0 h1 h2
      rfl
    have z_23 : ω.1 = ω.1 := rfl
    refine fw_zret hx hb hr rfl hlocks hR hS dX8_readNumber_8 ⟨?_, z_23, ?_, ?_, ?_, fr_22⟩
    · refine congrArg (fun z => some (Value.int z)) ?_
      exact (bz_0 (by first | rfl | assumption | (simp_all [inB, hasB, usesB]; done) | omega)).symm
    · refine t0.trans (congrArg some ?_)
      simp only [if_neg hdg, nI_1]
    · refine b0.trans (congrArg some ?_)
      simp only [if_neg hdg, nI_1]
    · refine b1.trans (congrArg some ?_)
      simp only [if_neg hdg, nI_1]
set_option maxHeartbeats 4000000 in
set_option maxRecDepth 100000 in
theorem c_X8_readLanguages (G : FG) (hL : FL G) (l : Launch) (ω : FWd) (t : Nat) (f : Nat → Int32) (len pos cnt : Nat) (ft : Int32) (hT : TxtS G ω.2 t f len pos cnt ft) (hl60 : len ≤ 60) (hpl : pos ≤ len) (b : Nat) (C : CM) (hC : CmdS G ω.2 b C.1 C.2.1 C.2.2.1 C.2.2.2) (hn3 : C.2.2.1 ≤ 3) (hd : t + 2 ≤ b ∨ b + 2 ≤ t) : FMet G l yX8_readLanguages wsX8_readLanguages ({ frames := 1, cells := 0, slots := 0, locals := 21 } : Room) [.ref t, .ref b] ω (fun vv9 τ9 => vv9 = some (.int (nI (runD f len pos 5))) ∧ τ9.1 = ω.1 ∧ τ9.2 t = some (.inr (10, [.ref (t + 1), .int (nI len), .int (nI (pos + runD f len pos 5)), .ref (t + 2), .int (nI cnt), .int ft])) ∧ τ9.2 b = some (.inr (4, [.int ((lanR C f pos (runD f len pos 5))).1, .ref (b + 1), .int (nI ((lanR C f pos (runD f len pos 5))).2.2.1), .int ((lanR C f pos (runD f len pos 5))).2.2.2])) ∧ τ9.2 (b + 1) = some (.inl (G.2.1 0, 3, .inl ((lanR C f pos (runD f len pos 5))).2.1)) ∧ ∀ q : Nat, ¬ q = t → ¬ q = b → ¬ q = (b + 1) → τ9.2 q = ω.2 q) 0 0 := by
  refine fw_ofW (cc := cX8_readLanguages) (maxL := 3) (ret := (some .int)) (by decide) rfl (Nat.le_of_ble_eq_true rfl) ?_
  intro pP eE sS mI ar9 bl9 meth cD ls hx hb hr hlocks hml hts hown hnm hW hR hl
  have hK := hL.K hW
  have hS : va_S (fwA G) sS.heap sS.heap [] := va_S.rf
  have hin8 : ∀ w ∈ u_ws RX8 TX8 6, w ∈ wsX8_readLanguages := by decide +kernel
  have hl : lv_has ls 3 [(0, .ref t), (1, .ref b)] := hl
  obtain ⟨t0, t1⟩ := id hT
  obtain ⟨b0, b1⟩ := id hC
  refine lv_iconst (v := 0) hx hb dX8_readLanguages_0 (by decide) ?_
  refine lv_istore_n (lv' := [(2, .int 0), (0, .ref t), (1, .ref b)]) hx hb dX8_readLanguages_1 rfl hl (by decide) rfl (fun ls hl => ?_)
  have loop_1 : ∀ (fu : Nat) (j : Nat) (τ1 : FWd), (5 - j) < fu → (j ≤ 5) → (pos + j ≤ len) → (∀ i, i < j → digB f len (pos + i)) → τ1.1 = ω.1 → τ1.2 t = some (.inr (10, [.ref (t + 1), .int (nI len), .int (nI (pos + j)), .ref (t + 2), .int (nI cnt), .int ft])) → τ1.2 b = some (.inr (4, [.int ((lanR C f pos j)).1, .ref (b + 1), .int (nI ((lanR C f pos j)).2.2.1), .int ((lanR C f pos j)).2.2.2])) → τ1.2 (b + 1) = some (.inl (G.2.1 0, 3, .inl ((lanR C f pos j)).2.1)) → (∀ q : Nat, ¬ q = t → ¬ q = b → ¬ q = (b + 1) → τ1.2 q = ω.2 q) → ∀ (H : Heap) (locs : List Loc) (ls : Array Slot), fR G τ1 H → va_S (fwA G) sS.heap H locs → lv_has ls 3 [(2, .int (nI j)), (0, .ref t), (1, .ref b)] → W pP l eE ({ frames := 1, cells := 0, slots := 0, locals := 21 } : Room) sS mI ar9 bl9 meth cD H locs 0 0 (MQ bl9 (fQ G (fun vv9 τ9 => vv9 = some (.int (nI (runD f len pos 5))) ∧ τ9.1 = ω.1 ∧ τ9.2 t = some (.inr (10, [.ref (t + 1), .int (nI len), .int (nI (pos + runD f len pos 5)), .ref (t + 2), .int (nI cnt), .int ft])) ∧ τ9.2 b = some (.inr (4, [.int ((lanR C f pos (runD f len pos 5))).1, .ref (b + 1), .int (nI ((lanR C f pos (runD f len pos 5))).2.2.1), .int ((lanR C f pos (runD f len pos 5))).2.2.2])) ∧ τ9.2 (b + 1) = some (.inl (G.2.1 0, 3, .inl ((lanR C f pos (runD f len pos 5))).2.1)) ∧ ∀ q : Nat, ¬ q = t → ¬ q = b → ¬ q = (b + 1) → τ9.2 q = ω.2 q)) ar9 sS 0 0 (fwA G)) (F0 mI 2 ls []) := by
    intro fu
    induction fu with
    | zero => intro j τ1 hfu; exact absurd hfu (Nat.not_lt_zero _)
    | succ fu ih =>
      intro j τ1 hfu hj hjl hdj hzτ1 w0 w1 w2 hfrτ1 H locs ls hR hS hl
      refine lv_iload_n hx hb dX8_readLanguages_2 rfl (lv_at hl 0 rfl) ?_
      refine lv_iconst (v := 5) hx hb dX8_readLanguages_3 (by decide) ?_
      refine lv_icmp_ge (tgt := 46) hx hb dX8_readLanguages_4 (by decide) (fun c_2 => ?_) (fun c_2 => ?_)
      · skip
        have hj5 := lp_ge (n := 5) rfl c_2 (by omega) (by omega)
        have hrd : runD f len pos 5 = j := runD_eq 5 j pos hj hdj (Or.inl (by omega))
        refine lv_iload_n hx hb dX8_readLanguages_46 rfl (lv_at hl 0 rfl) ?_
        have fr_3 : ∀ q : Nat, ¬ q = t → ¬ q = b → ¬ q = (b + 1) → τ1.2 q = ω.2 q := by
          intro q h0 h1 h2
          rw [hfrτ1 q (by omega) (by omega) (by omega)]
        have z_4 : τ1.1 = ω.1 := by rw [hzτ1]
        refine fw_iret hx hb hr hlocks hR hS dX8_readLanguages_47 ⟨?_, z_4, ?_, ?_, ?_, fr_3⟩
        · refine congrArg (fun z => some (Value.int z)) ?_
          rw [hrd]
        · refine w0.trans (congrArg some ?_)
          rw [hrd]
        · refine w1.trans (congrArg some ?_)
          rw [hrd]
        · refine w2.trans (congrArg some ?_)
          rw [hrd]
      · skip
        have hj5 := lp_lt (n := 5) rfl c_2 (by omega) (by omega)
        refine lv_aload_n hx hb dX8_readLanguages_7 rfl (lv_at hl 1 rfl) ?_
        have f_5 : τ1.2 (t + 1) = some (.inl (G.2.1 1, 60, .inl f)) := (hfrτ1 (t + 1) (by omega) (by omega) (by omega)).trans t1
        refine fw_call (va_runV (As := []) (rest := []) ⟨hx, hb, hml, hown, hts⟩ (c_X8_isDigitNext G hL l τ1 t f len (pos + j) cnt ft ⟨w0, f_5⟩ (by omega) (by omega) ) (cwV 0 hts gX8_readLanguages_X8_isDigitNext rfl rfl rfl (by decide +kernel) ⟨Nat.le_of_ble_eq_true rfl, Nat.le_of_ble_eq_true rfl⟩) (fw_preV hW hK hR w0 rfl) rfl rfl hl.1 rfl (lv_room (Nat.le_of_ble_eq_true rfl)) dX8_readLanguages_8 ⟨Nat.le_of_ble_eq_true rfl, Nat.le_of_ble_eq_true rfl⟩) hS (fun v_6 ω_7 H locs hq_8 hR hS => ?_)
        obtain ⟨rfl, hq_8⟩ := hq_8
        rw [hq_8] at hR
        refine W.eq (g2 := F0 mI 11 ls [.int (bz (digB f len (pos + j)))]) rfl ?_
        refine lv_if_eq (tgt := 46) hx hb dX8_readLanguages_11 (by decide) (fun c_9 => ?_) (fun c_9 => ?_)
        · skip
          have c_9 := bz_eq c_9
          have hrd : runD f len pos 5 = j := runD_eq 5 j pos hj hdj (Or.inr c_9)
          refine lv_iload_n hx hb dX8_readLanguages_46 rfl (lv_at hl 0 rfl) ?_
          have fr_10 : ∀ q : Nat, ¬ q = t → ¬ q = b → ¬ q = (b + 1) → τ1.2 q = ω.2 q := by
            intro q h0 h1 h2
            rw [hfrτ1 q (by omega) (by omega) (by omega)]
          have z_11 : τ1.1 = ω.1 := by rw [hzτ1]
          refine fw_iret hx hb hr hlocks hR hS dX8_readLanguages_47 ⟨?_, z_11, ?_, ?_, ?_, fr_10⟩
          · refine congrArg (fun z => some (Value.int z)) ?_
            rw [hrd]
          · refine w0.trans (congrArg some ?_)
            rw [hrd]
          · refine w1.trans (congrArg some ?_)
            rw [hrd]
          · refine w2.trans (congrArg some ?_)
            rw [hrd]
        · skip
          have c_9 := bz_ne c_9
          have hdg : digB f len (pos + j) := c_9
          have hp6 : pos + j < len := Nat.lt_of_not_le (fun z => c_9.1 ((nI_leI (by omega) (by omega)).mpr z))
          refine lv_aload_n hx hb dX8_readLanguages_14 rfl (lv_at hl 2 rfl) ?_
          refine lv_aload_n hx hb dX8_readLanguages_15 rfl (lv_at hl 1 rfl) ?_
          refine fw_get (v := .ref (t + 1)) (C := RX8) (T := TX8) (N := 6) hx hb hts hin8 hown hK hR w0 rfl 0 (by decide) (hts (.fieldLink RX8 9 "UnreadLeaflets$Text" "characters" "[C") (by decide +kernel)) rfl dX8_readLanguages_16 ?_
          refine lv_aload_n hx hb dX8_readLanguages_19 rfl (lv_at hl 1 rfl) ?_
          refine fw_get (v := .int (nI (pos + j))) (C := RX8) (T := TX8) (N := 6) hx hb hts hin8 hown hK hR w0 rfl 2 (by decide) (hts (.fieldLink RX8 33 "UnreadLeaflets$Text" "position" "I") (by decide +kernel)) rfl dX8_readLanguages_20 ?_
          refine fw_cald hx hb hK hR f_5 (vp_in_nI (by omega) (by omega)) dX8_readLanguages_23 ?_
          refine W.eq (g2 := F0 mI 24 ls [.int (f (pos + j)), .ref b]) (by rw [nI_clamp (by omega)]) ?_
          refine lv_bipush (v := 48) hx hb dX8_readLanguages_24 (by decide) ?_
          refine lv_isub hx hb dX8_readLanguages_26 ?_
          refine fw_call (va_runV (As := [.int ((f (pos + j)) - 48)]) (rest := []) ⟨hx, hb, hml, hown, hts⟩ (c_X2_addLanguage G hL l τ1 b (lanR C f pos j) ⟨w1, w2⟩ ((f (pos + j)) - 48) ) (cwV 1 hts gX8_readLanguages_X2_addLanguage rfl rfl rfl (by decide +kernel) ⟨Nat.le_of_ble_eq_true rfl, Nat.le_of_ble_eq_true rfl⟩) (fw_preV hW hK hR w1 rfl) rfl rfl hl.1 rfl (lv_room (Nat.le_of_ble_eq_true rfl)) dX8_readLanguages_27 ⟨Nat.le_of_ble_eq_true rfl, Nat.le_of_ble_eq_true rfl⟩) hS (fun v_12 ω_13 H locs hq_14 hR hS => ?_)
          obtain ⟨rfl, z_15, f_17, f_18, fr_16⟩ := hq_14
          refine W.eq (g2 := F0 mI 30 ls []) rfl ?_
          refine lv_aload_n hx hb dX8_readLanguages_30 rfl (lv_at hl 1 rfl) ?_
          refine lv_dup hx hb dX8_readLanguages_31 rfl ?_
          have f_19 : ω_13.2 t = some (.inr (10, [.ref (t + 1), .int (nI len), .int (nI (pos + j)), .ref (t + 2), .int (nI cnt), .int ft])) := (fr_16 t (by omega) (by omega)).trans w0
          refine fw_get (v := .int (nI (pos + j))) (C := RX8) (T := TX8) (N := 6) hx hb hts hin8 hown hK hR f_19 rfl 2 (by decide) (hts (.fieldLink RX8 33 "UnreadLeaflets$Text" "position" "I") (by decide +kernel)) rfl dX8_readLanguages_32 ?_
          refine lv_iconst (v := 1) hx hb dX8_readLanguages_35 (by decide) ?_
          refine lv_iadd hx hb dX8_readLanguages_36 ?_
          refine fw_put (v := .int ((nI (pos + j)) + 1)) (C := RX8) (T := TX8) (N := 6) hx hb hts hin8 tyX8 tyX8_ok nmX8 hown hK hR hS f_19 rfl 2 (by decide) (hts (.fieldLink RX8 33 "UnreadLeaflets$Text" "position" "I") (by decide +kernel)) rfl rfl rfl (Nat.le_of_ble_eq_true rfl) dX8_readLanguages_37 (fun H locs hR hS => ?_)
          obtain ⟨ω_20, hw_21⟩ : ∃ τ : FWd, τ = (ω_13.1, va_up ω_13.2 t (some (.inr (10, [.ref (t + 1), .int (nI len), .int ((nI (pos + j)) + 1), .ref (t + 2), .int (nI cnt), .int ft])))) := ⟨_, rfl⟩
          have hR : fR G ω_20 H := by rw [hw_21]; exact hR
          have f_22 : ω_20.2 t = some (.inr (10, [.ref (t + 1), .int (nI len), .int ((nI (pos + j)) + 1), .ref (t + 2), .int (nI cnt), .int ft])) := by rw [hw_21]; exact va_up_at
          have fr_23 : ∀ q : Nat, ¬ q = t → ω_20.2 q = ω_13.2 q := fun q hq => by rw [hw_21]; exact va_up_off hq
          have z_24 : ω_20.1 = ω_13.1 := by rw [hw_21]
          obtain ⟨x_25, ex_25⟩ : ∃ y : Int32, y = (nI j) + 1 := ⟨_, rfl⟩
          refine lv_iinc (v := x_25) (lv' := [(2, .int x_25), (0, .ref t), (1, .ref b)]) hx hb dX8_readLanguages_40 hl (k := 0) rfl (by rw [ex_25]; rfl) (by decide) rfl (fun ls hl => ?_)
          refine lv_goto (tgt := 2) hx hb dX8_readLanguages_43 (by decide) ?_
          have el_2 : x_25 = nI (j + 1) := by rw [ex_25]; exact nI_1 j
          have hl := lv_sub (l' := [(2, .int x_25), (0, .ref t), (1, .ref b)]) hl [0, 1, 2] rfl
          rw [el_2] at hl
          have wf_26 : ω_20.2 t = some (.inr (10, [.ref (t + 1), .int (nI len), .int (nI (pos + (j + 1))), .ref (t + 2), .int (nI cnt), .int ft])) := f_22.trans (congrArg some (by rw [nI_1]; rfl))
          have f_27 : ω_20.2 b = some (.inr (4, [.int (lanP (lanR C f pos j) ((f (pos + j)) - 48)).1, .ref (b + 1), .int (nI (lanP (lanR C f pos j) ((f (pos + j)) - 48)).2.2.1), .int (lanP (lanR C f pos j) ((f (pos + j)) - 48)).2.2.2])) := (fr_23 b (by omega)).trans f_17
          have wf_28 : ω_20.2 b = some (.inr (4, [.int ((lanR C f pos (j + 1))).1, .ref (b + 1), .int (nI ((lanR C f pos (j + 1))).2.2.1), .int ((lanR C f pos (j + 1))).2.2.2])) := f_27.trans (congrArg some (by rfl))
          have f_29 : ω_20.2 (b + 1) = some (.inl (G.2.1 0, 3, .inl (lanP (lanR C f pos j) ((f (pos + j)) - 48)).2.1)) := (fr_23 (b + 1) (by omega)).trans f_18
          have wf_30 : ω_20.2 (b + 1) = some (.inl (G.2.1 0, 3, .inl ((lanR C f pos (j + 1))).2.1)) := f_29.trans (congrArg some (by rfl))
          have fr_31 : ∀ q : Nat, ¬ q = t → ¬ q = b → ¬ q = (b + 1) → ω_20.2 q = ω.2 q := by
            intro q h0 h1 h2
            rw [fr_23 q (by omega)]
            rw [fr_16 q (by omega) (by omega)]
            rw [hfrτ1 q (by omega) (by omega) (by omega)]
          have z_32 : ω_20.1 = ω.1 := by rw [z_24, z_15, hzτ1]
          exact ih (j + 1) ω_20 (by omega) (by first | assumption | omega | (simp; done)) (by first | assumption | omega | (simp; done)) (by intro i hi; by_cases hij : i = j; (subst hij; exact hdg); exact hdj i (by omega)) z_32 wf_26 wf_28 wf_30 fr_31 _ _ _ hR hS hl
  exact loop_1 _ 0 ω (Nat.lt_succ_self _) (by first | rfl | assumption | omega | (simp; done)) (by omega) (by intro i hi; exact absurd hi (Nat.not_lt_zero _)) rfl t0 b0 b1 (fun _ _ _ _ => rfl) _ _ _ hR hS (lv_sub hl [0, 1, 2] rfl)
