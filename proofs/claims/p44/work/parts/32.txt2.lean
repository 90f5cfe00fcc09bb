/-! ===== printed by program (wip/whole/gen): the text's forms and commands ===== -/
set_option maxHeartbeats 4000000 in
set_option maxRecDepth 100000 in
theorem c_X8_formOf (G : FG) (hL : FL G) (l : Launch) (ω : FWd) (adr : Nat → Nat) (hF : FTx G adr) (ch : Int32) : FMet G l yX8_formOf wsX8_formOf ({ frames := 0, cells := 0, slots := 0, locals := 0 } : Room) [.int ch] ω (rA (adr (frmN ch)) ω) 0 0 := by
  refine fw_ofW (cc := cX8_formOf) (maxL := 1) (ret := (some (.object "java/lang/String"))) (by decide) rfl (Nat.le_of_ble_eq_true rfl) ?_
  intro pP eE sS mI ar9 bl9 meth cD ls hx hb hr hlocks hml hts hown hnm hW hR hl
  have hK := hL.K hW
  have hS : va_S (fwA G) sS.heap sS.heap [] := va_S.rf
  have hl : lv_has ls 1 [(0, .int ch)] := hl
  refine lv_iload_n hx hb dX8_formOf_0 rfl (lv_at hl 0 rfl) ?_
  by_cases c_1 : ch = 83
  · skip
    refine lv_tableIn (off := 174) (tgt := 175) hx hb dX8_formOf_1 (by rw [c_1]; decide) (by rw [c_1]; decide) (by rw [c_1]; rfl) (by decide) ?_
    refine va_ldcS (own := RX8) hx hb hown (vk_R.warm hW (hF 1 (by decide)).1) dX8_formOf_175 ?_
    refine fw_aret hx hb hr (Or.inl ⟨_, rfl⟩) hlocks hR hS dX8_formOf_177 (rA_mk ?_)
    rw [c_1]; rfl
  by_cases c_2 : ch = 98
  · skip
    refine lv_tableIn (off := 180) (tgt := 181) hx hb dX8_formOf_1 (by rw [c_2]; decide) (by rw [c_2]; decide) (by rw [c_2]; rfl) (by decide) ?_
    refine va_ldcS (own := RX8) hx hb hown (vk_R.warm hW (hF 3 (by decide)).1) dX8_formOf_181 ?_
    refine fw_aret hx hb hr (Or.inl ⟨_, rfl⟩) hlocks hR hS dX8_formOf_183 (rA_mk ?_)
    rw [c_2]; rfl
  by_cases c_3 : ch = 99
  · skip
    refine lv_tableIn (off := 177) (tgt := 178) hx hb dX8_formOf_1 (by rw [c_3]; decide) (by rw [c_3]; decide) (by rw [c_3]; rfl) (by decide) ?_
    refine va_ldcS (own := RX8) hx hb hown (vk_R.warm hW (hF 2 (by decide)).1) dX8_formOf_178 ?_
    refine fw_aret hx hb hr (Or.inl ⟨_, rfl⟩) hlocks hR hS dX8_formOf_180 (rA_mk ?_)
    rw [c_3]; rfl
  by_cases c_4 : ch = 100
  · skip
    refine lv_tableIn (off := 183) (tgt := 184) hx hb dX8_formOf_1 (by rw [c_4]; decide) (by rw [c_4]; decide) (by rw [c_4]; rfl) (by decide) ?_
    refine va_ldcS (own := RX8) hx hb hown (vk_R.warm hW (hF 4 (by decide)).1) dX8_formOf_184 ?_
    refine fw_aret hx hb hr (Or.inl ⟨_, rfl⟩) hlocks hR hS dX8_formOf_186 (rA_mk ?_)
    rw [c_4]; rfl
  by_cases c_5 : ch = 102
  · skip
    refine lv_tableIn (off := 171) (tgt := 172) hx hb dX8_formOf_1 (by rw [c_5]; decide) (by rw [c_5]; decide) (by rw [c_5]; rfl) (by decide) ?_
    refine va_ldcS (own := RX8) hx hb hown (vk_R.warm hW (hF 0 (by decide)).1) dX8_formOf_172 ?_
    refine fw_aret hx hb hr (Or.inl ⟨_, rfl⟩) hlocks hR hS dX8_formOf_174 (rA_mk ?_)
    rw [c_5]; rfl
  by_cases c_6 : ch = 108
  · skip
    refine lv_tableIn (off := 171) (tgt := 172) hx hb dX8_formOf_1 (by rw [c_6]; decide) (by rw [c_6]; decide) (by rw [c_6]; rfl) (by decide) ?_
    refine va_ldcS (own := RX8) hx hb hown (vk_R.warm hW (hF 0 (by decide)).1) dX8_formOf_172 ?_
    refine fw_aret hx hb hr (Or.inl ⟨_, rfl⟩) hlocks hR hS dX8_formOf_174 (rA_mk ?_)
    rw [c_6]; rfl
  by_cases c_7 : ch = 109
  · skip
    refine lv_tableIn (off := 186) (tgt := 187) hx hb dX8_formOf_1 (by rw [c_7]; decide) (by rw [c_7]; decide) (by rw [c_7]; rfl) (by decide) ?_
    refine va_ldcS (own := RX8) hx hb hown (vk_R.warm hW (hF 5 (by decide)).1) dX8_formOf_187 ?_
    refine fw_aret hx hb hr (Or.inl ⟨_, rfl⟩) hlocks hR hS dX8_formOf_189 (rA_mk ?_)
    rw [c_7]; rfl
  by_cases c_8 : ch = 115
  · skip
    refine lv_tableIn (off := 174) (tgt := 175) hx hb dX8_formOf_1 (by rw [c_8]; decide) (by rw [c_8]; decide) (by rw [c_8]; rfl) (by decide) ?_
    refine va_ldcS (own := RX8) hx hb hown (vk_R.warm hW (hF 1 (by decide)).1) dX8_formOf_175 ?_
    refine fw_aret hx hb hr (Or.inl ⟨_, rfl⟩) hlocks hR hS dX8_formOf_177 (rA_mk ?_)
    rw [c_8]; rfl
  by_cases c_9 : ch = 116
  · skip
    refine lv_tableIn (off := 171) (tgt := 172) hx hb dX8_formOf_1 (by rw [c_9]; decide) (by rw [c_9]; decide) (by rw [c_9]; rfl) (by decide) ?_
    refine va_ldcS (own := RX8) hx hb hown (vk_R.warm hW (hF 0 (by decide)).1) dX8_formOf_172 ?_
    refine fw_aret hx hb hr (Or.inl ⟨_, rfl⟩) hlocks hR hS dX8_formOf_174 (rA_mk ?_)
    rw [c_9]; rfl
  by_cases c_10 : ch = 117
  · skip
    refine lv_tableIn (off := 171) (tgt := 172) hx hb dX8_formOf_1 (by rw [c_10]; decide) (by rw [c_10]; decide) (by rw [c_10]; rfl) (by decide) ?_
    refine va_ldcS (own := RX8) hx hb hown (vk_R.warm hW (hF 0 (by decide)).1) dX8_formOf_172 ?_
    refine fw_aret hx hb hr (Or.inl ⟨_, rfl⟩) hlocks hR hS dX8_formOf_174 (rA_mk ?_)
    rw [c_10]; rfl
  by_cases c_11 : ch = 120
  · skip
    refine lv_tableIn (off := 189) (tgt := 190) hx hb dX8_formOf_1 (by rw [c_11]; decide) (by rw [c_11]; decide) (by rw [c_11]; rfl) (by decide) ?_
    refine va_ldcS (own := RX8) hx hb hown (vk_R.warm hW (hF 6 (by decide)).1) dX8_formOf_190 ?_
    refine fw_aret hx hb hr (Or.inl ⟨_, rfl⟩) hlocks hR hS dX8_formOf_192 (rA_mk ?_)
    rw [c_11]; rfl
  by_cases c_12 : ch = 121
  · skip
    refine lv_tableIn (off := 189) (tgt := 190) hx hb dX8_formOf_1 (by rw [c_12]; decide) (by rw [c_12]; decide) (by rw [c_12]; rfl) (by decide) ?_
    refine va_ldcS (own := RX8) hx hb hown (vk_R.warm hW (hF 6 (by decide)).1) dX8_formOf_190 ?_
    refine fw_aret hx hb hr (Or.inl ⟨_, rfl⟩) hlocks hR hS dX8_formOf_192 (rA_mk ?_)
    rw [c_12]; rfl
  have tc_1 := lv_neT c_1 (show (83 : Int32).toInt = 83 by decide)
  have tc_2 := lv_neT c_2 (show (98 : Int32).toInt = 98 by decide)
  have tc_3 := lv_neT c_3 (show (99 : Int32).toInt = 99 by decide)
  have tc_4 := lv_neT c_4 (show (100 : Int32).toInt = 100 by decide)
  have tc_5 := lv_neT c_5 (show (102 : Int32).toInt = 102 by decide)
  have tc_6 := lv_neT c_6 (show (108 : Int32).toInt = 108 by decide)
  have tc_7 := lv_neT c_7 (show (109 : Int32).toInt = 109 by decide)
  have tc_8 := lv_neT c_8 (show (115 : Int32).toInt = 115 by decide)
  have tc_9 := lv_neT c_9 (show (116 : Int32).toInt = 116 by decide)
  have tc_10 := lv_neT c_10 (show (117 : Int32).toInt = 117 by decide)
  have tc_11 := lv_neT c_11 (show (120 : Int32).toInt = 120 by decide)
  have tc_12 := lv_neT c_12 (show (121 : Int32).toInt = 121 by decide)
  have hg_13 : ∀ n9 : Nat, n9 < 39 → (decide (n9 ∈ [0, 15, 16, 17, 19, 25, 26, 32, 33, 34, 37, 38]) || (#[174, 192, 192, 192, 192, 192, 192, 192, 192, 192, 192, 192, 192, 192, 192, 180, 177, 183, 192, 171, 192, 192, 192, 192, 192, 171, 186, 192, 192, 192, 192, 192, 174, 171, 171, 192, 192, 189, 189] : Array Int)[n9]? == some (192 : Int)) = true := by decide
  have hgd_14 : (ch).toInt < 83 ∨ 121 < (ch).toInt ∨ (#[174, 192, 192, 192, 192, 192, 192, 192, 192, 192, 192, 192, 192, 192, 192, 180, 177, 183, 192, 171, 192, 192, 192, 192, 192, 171, 186, 192, 192, 192, 192, 192, 174, 171, 171, 192, 192, 189, 189] : Array Int)[((ch).toInt - 83).toNat]? = some (192 : Int) := by
    by_cases h8 : (ch).toInt < 83 ∨ 121 < (ch).toInt
    · exact h8.elim Or.inl (fun z => Or.inr (Or.inl z))
    · rcases (Bool.or_eq_true _ _).mp (hg_13 ((ch).toInt - 83).toNat (by omega)) with h6 | h6
      · exfalso
        have h5 := of_decide_eq_true h6
        simp only [List.mem_cons, List.not_mem_nil, or_false] at h5
        omega
      · exact Or.inr (Or.inr (eq_of_beq h6))
  refine lv_tableD (tgt := 193) hx hb dX8_formOf_1 hgd_14 (by decide) ?_
  refine va_ldcS (own := RX8) hx hb hown (vk_R.warm hW (hF 7 (by decide)).1) dX8_formOf_193 ?_
  refine fw_aret hx hb hr (Or.inl ⟨_, rfl⟩) hlocks hR hS dX8_formOf_195 (rA_mk ?_)
  rw [show frmN ch = 7 by simp [frmN, c_1, c_2, c_3, c_4, c_5, c_6, c_7, c_8, c_9, c_10, c_11, c_12]]
set_option maxHeartbeats 4000000 in
set_option maxRecDepth 100000 in
theorem c_X8_readPiece (G : FG) (hL : FL G) (l : Launch) (ω : FWd) (t : Nat) (f : Nat → Int32) (len pos cnt : Nat) (ft : Int32) (hT : TxtS G ω.2 t f len pos cnt ft) (hl60 : len ≤ 60) (hpl : pos ≤ len) (b : Nat) (C : CM) (hC : CmdS G ω.2 b C.1 C.2.1 C.2.2.1 C.2.2.2) (hn3 : C.2.2.1 ≤ 3) (hd : t + 2 ≤ b ∨ b + 2 ≤ t) (pc9 : Int32) : FMet G l yX8_readPiece wsX8_readPiece ({ frames := 2, cells := 0, slots := 0, locals := 43 } : Room) [.ref t, .int pc9, .ref b] ω (fun vv9 τ9 => vv9 = some (.int (pcR f len pc9 pos C).1) ∧ τ9.1 = ω.1 ∧ τ9.2 t = some (.inr (10, [.ref (t + 1), .int (nI len), .int (nI (pcR f len pc9 pos C).2.1), .ref (t + 2), .int (nI cnt), .int ft])) ∧ τ9.2 b = some (.inr (4, [.int (pcR f len pc9 pos C).2.2.1, .ref (b + 1), .int (nI (pcR f len pc9 pos C).2.2.2.2.1), .int (pcR f len pc9 pos C).2.2.2.2.2])) ∧ τ9.2 (b + 1) = some (.inl (G.2.1 0, 3, .inl (pcR f len pc9 pos C).2.2.2.1)) ∧ ∀ q : Nat, ¬ q = t → ¬ q = b → ¬ q = (b + 1) → τ9.2 q = ω.2 q) 0 0 := by
  refine fw_ofW (cc := cX8_readPiece) (maxL := 3) (ret := (some .boolean)) (by decide) rfl (Nat.le_of_ble_eq_true rfl) ?_
  intro pP eE sS mI ar9 bl9 meth cD ls hx hb hr hlocks hml hts hown hnm hW hR hl
  have hK := hL.K hW
  have hS : va_S (fwA G) sS.heap sS.heap [] := va_S.rf
  have hl : lv_has ls 3 [(0, .ref t), (1, .int pc9), (2, .ref b)] := hl
  obtain ⟨t0, t1⟩ := id hT
  obtain ⟨b0, b1⟩ := id hC
  refine lv_iload_n hx hb dX8_readPiece_0 rfl (lv_at hl 1 rfl) ?_
  by_cases c_1 : pc9 = 35
  · skip
    refine lv_lookup (off := 35) (tgt := 36) hx hb dX8_readPiece_1 (by decide) (by rw [c_1]; decide) (by decide) ?_
    refine lv_aload_n hx hb dX8_readPiece_36 rfl (lv_at hl 0 rfl) ?_
    refine lv_aload_n hx hb dX8_readPiece_37 rfl (lv_at hl 2 rfl) ?_
    refine fw_call (va_runV (As := [.ref b]) (rest := []) ⟨hx, hb, hml, hown, hts⟩ (c_X8_readNumber G hL l ω t f len pos cnt ft ⟨t0, t1⟩ (by omega) (by omega) b C ⟨b0, b1⟩ hn3 (by omega)) (cwV 1 hts gX8_readPiece_X8_readNumber rfl rfl rfl (by decide +kernel) ⟨Nat.le_of_ble_eq_true rfl, Nat.le_of_ble_eq_true rfl⟩) (fw_preV hW hK hR t0 rfl) rfl rfl hl.1 rfl (lv_room (Nat.le_of_ble_eq_true rfl)) dX8_readPiece_38 ⟨Nat.le_of_ble_eq_true rfl, Nat.le_of_ble_eq_true rfl⟩) hS (fun v_2 ω_3 H locs hq_4 hR hS => ?_)
    obtain ⟨rfl, z_5, f_7, f_8, f_9, fr_6⟩ := hq_4
    refine W.eq (g2 := F0 mI 41 ls [.int (bz (digB f len pos))]) rfl ?_
    refine fw_zret hx hb hr narrow_bz hlocks hR hS dX8_readPiece_41 ?_
    have z_10 : ω_3.1 = ω.1 := by rw [z_5]
    have fr_11 : ∀ q : Nat, ¬ q = t → ¬ q = b → ¬ q = (b + 1) → ω_3.2 q = ω.2 q := by
      intro q h0 h1 h2
      rw [fr_6 q (by assumption) (by assumption) (by assumption)]
    have hr_12 : pcR f len pc9 pos C = (bz (digB f len pos), (if digB f len pos then pos + 1 else pos), ((if digB f len pos then numP C (f pos - 48) else C))) := by
      unfold pcR
      rw [if_pos c_1]
    rw [hr_12]
    exact ⟨rfl, z_10, f_7, f_8, f_9, fr_11⟩
  by_cases c_13 : pc9 = 43
  · skip
    refine lv_lookup (off := 41) (tgt := 42) hx hb dX8_readPiece_1 (by decide) (by rw [c_13]; decide) (by decide) ?_
    refine lv_aload_n hx hb dX8_readPiece_42 rfl (lv_at hl 0 rfl) ?_
    refine lv_aload_n hx hb dX8_readPiece_43 rfl (lv_at hl 2 rfl) ?_
    refine fw_call (va_runV (As := [.ref b]) (rest := []) ⟨hx, hb, hml, hown, hts⟩ (c_X8_readLanguages G hL l ω t f len pos cnt ft ⟨t0, t1⟩ (by omega) (by omega) b C ⟨b0, b1⟩ hn3 (by omega)) (cwV 1 hts gX8_readPiece_X8_readLanguages rfl rfl rfl (by decide +kernel) ⟨Nat.le_of_ble_eq_true rfl, Nat.le_of_ble_eq_true rfl⟩) (fw_preV hW hK hR t0 rfl) rfl rfl hl.1 rfl (lv_room (Nat.le_of_ble_eq_true rfl)) dX8_readPiece_44 ⟨Nat.le_of_ble_eq_true rfl, Nat.le_of_ble_eq_true rfl⟩) hS (fun v_14 ω_15 H locs hq_16 hR hS => ?_)
    obtain ⟨rfl, z_17, f_19, f_20, f_21, fr_18⟩ := hq_16
    refine W.eq (g2 := F0 mI 47 ls [.int (nI (runD f len pos 5))]) rfl ?_
    refine lv_if_le (tgt := 54) hx hb dX8_readPiece_47 (by decide) (fun c_22 => ?_) (fun c_22 => ?_)
    · skip
      refine lv_iconst (v := 0) hx hb dX8_readPiece_54 (by decide) ?_
      refine fw_zret hx hb hr rfl hlocks hR hS dX8_readPiece_55 ?_
      have z_23 : ω_15.1 = ω.1 := by rw [z_17]
      have fr_24 : ∀ q : Nat, ¬ q = t → ¬ q = b → ¬ q = (b + 1) → ω_15.2 q = ω.2 q := by
        intro q h0 h1 h2
        rw [fr_18 q (by assumption) (by assumption) (by assumption)]
      have hr_25 : pcR f len pc9 pos C = (0, (pos + runD f len pos 5), ((lanR C f pos (runD f len pos 5)))) := by
        unfold pcR
        rw [if_neg c_1, if_pos c_13]
        rw [bz_0 (show ¬ 0 < runD f len pos 5 from fun z9 => absurd c_22 (nI_nle z9 (by have := runD_le (f := f) (len := len) 5 pos; omega)))]
      rw [hr_25]
      exact ⟨rfl, z_23, f_19, f_20, f_21, fr_24⟩
    · skip
      refine lv_iconst (v := 1) hx hb dX8_readPiece_50 (by decide) ?_
      refine lv_goto (tgt := 55) hx hb dX8_readPiece_51 (by decide) ?_
      refine fw_zret hx hb hr rfl hlocks hR hS dX8_readPiece_55 ?_
      have z_26 : ω_15.1 = ω.1 := by rw [z_17]
      have fr_27 : ∀ q : Nat, ¬ q = t → ¬ q = b → ¬ q = (b + 1) → ω_15.2 q = ω.2 q := by
        intro q h0 h1 h2
        rw [fr_18 q (by assumption) (by assumption) (by assumption)]
      have hr_28 : pcR f len pc9 pos C = (1, (pos + runD f len pos 5), ((lanR C f pos (runD f len pos 5)))) := by
        unfold pcR
        rw [if_neg c_1, if_pos c_13]
        rw [bz_1 (show 0 < runD f len pos 5 by rcases Nat.eq_zero_or_pos (runD f len pos 5) with h9 | h9; exact absurd (by rw [h9]; decide) c_22; exact h9)]
      rw [hr_28]
      exact ⟨rfl, z_26, f_19, f_20, f_21, fr_27⟩
  by_cases c_29 : pc9 = 63
  · skip
    refine lv_lookup (off := 55) (tgt := 56) hx hb dX8_readPiece_1 (by decide) (by rw [c_29]; decide) (by decide) ?_
    refine lv_aload_n hx hb dX8_readPiece_56 rfl (lv_at hl 0 rfl) ?_
    refine lv_aload_n hx hb dX8_readPiece_57 rfl (lv_at hl 2 rfl) ?_
    refine fw_call (va_runV (As := [.ref b]) (rest := []) ⟨hx, hb, hml, hown, hts⟩ (c_X8_readLanguages G hL l ω t f len pos cnt ft ⟨t0, t1⟩ (by omega) (by omega) b C ⟨b0, b1⟩ hn3 (by omega)) (cwV 1 hts gX8_readPiece_X8_readLanguages rfl rfl rfl (by decide +kernel) ⟨Nat.le_of_ble_eq_true rfl, Nat.le_of_ble_eq_true rfl⟩) (fw_preV hW hK hR t0 rfl) rfl rfl hl.1 rfl (lv_room (Nat.le_of_ble_eq_true rfl)) dX8_readPiece_58 ⟨Nat.le_of_ble_eq_true rfl, Nat.le_of_ble_eq_true rfl⟩) hS (fun v_30 ω_31 H locs hq_32 hR hS => ?_)
    obtain ⟨rfl, z_33, f_35, f_36, f_37, fr_34⟩ := hq_32
    refine W.eq (g2 := F0 mI 61 ls [.int (nI (runD f len pos 5))]) rfl ?_
    refine lv_if_lt (tgt := 68) hx hb dX8_readPiece_61 (by decide) (fun c_38 => ?_) (fun c_38 => ?_)
    · skip
      exact absurd c_38 (nI_pos (by have := runD_le (f := f) (len := len) 5 pos; omega))
    · skip
      refine lv_iconst (v := 1) hx hb dX8_readPiece_64 (by decide) ?_
      refine lv_goto (tgt := 69) hx hb dX8_readPiece_65 (by decide) ?_
      refine fw_zret hx hb hr rfl hlocks hR hS dX8_readPiece_69 ?_
      have z_39 : ω_31.1 = ω.1 := by rw [z_33]
      have fr_40 : ∀ q : Nat, ¬ q = t → ¬ q = b → ¬ q = (b + 1) → ω_31.2 q = ω.2 q := by
        intro q h0 h1 h2
        rw [fr_34 q (by assumption) (by assumption) (by assumption)]
      have hr_41 : pcR f len pc9 pos C = (1, (pos + runD f len pos 5), ((lanR C f pos (runD f len pos 5)))) := by
        unfold pcR
        rw [if_neg c_1, if_neg c_13, if_pos c_29]
        done
      rw [hr_41]
      exact ⟨rfl, z_39, f_35, f_36, f_37, fr_40⟩
  refine lv_lookup (off := 69) (tgt := 70) hx hb dX8_readPiece_1 (by decide) (by first | exact (lv_osw c_1 (by decide)).trans ((lv_osw c_13 (by decide)).trans ((lv_osw c_29 (by decide)))) | (rw [lv_osw c_1 (by decide), lv_osw c_13 (by decide), lv_osw c_29 (by decide)]; rfl)) (by decide) ?_
  refine lv_aload_n hx hb dX8_readPiece_70 rfl (lv_at hl 0 rfl) ?_
  refine lv_iload_n hx hb dX8_readPiece_71 rfl (lv_at hl 1 rfl) ?_
  refine fw_call (va_runV (As := [.int pc9]) (rest := []) ⟨hx, hb, hml, hown, hts⟩ (c_X8_readSign G hL l ω t f len pos cnt ft ⟨t0, t1⟩ (by omega) (by omega) pc9) (cwV 1 hts gX8_readPiece_X8_readSign rfl rfl rfl (by decide +kernel) ⟨Nat.le_of_ble_eq_true rfl, Nat.le_of_ble_eq_true rfl⟩) (fw_preV hW hK hR t0 rfl) rfl rfl hl.1 rfl (lv_room (Nat.le_of_ble_eq_true rfl)) dX8_readPiece_72 ⟨Nat.le_of_ble_eq_true rfl, Nat.le_of_ble_eq_true rfl⟩) hS (fun v_42 ω_43 H locs hq_44 hR hS => ?_)
  obtain ⟨rfl, z_45, f_47, fr_46⟩ := hq_44
  refine W.eq (g2 := F0 mI 75 ls [.int (bz (sgB f len pos pc9))]) rfl ?_
  refine fw_zret hx hb hr narrow_bz hlocks hR hS dX8_readPiece_75 ?_
  have z_48 : ω_43.1 = ω.1 := by rw [z_45]
  have f_50 : ω_43.2 b = some (.inr (4, [.int C.1, .ref (b + 1), .int (nI C.2.2.1), .int C.2.2.2])) := (fr_46 b (by omega)).trans b0
  have f_51 : ω_43.2 (b + 1) = some (.inl (G.2.1 0, 3, .inl C.2.1)) := (fr_46 (b + 1) (by omega)).trans b1
  have fr_49 : ∀ q : Nat, ¬ q = t → ¬ q = b → ¬ q = (b + 1) → ω_43.2 q = ω.2 q := by
    intro q h0 h1 h2
    rw [fr_46 q (by assumption)]
  have hr_52 : pcR f len pc9 pos C = (bz (sgB f len pos pc9), (if sgB f len pos pc9 then pos + 1 else pos), C) := by
    unfold pcR
    rw [if_neg c_1, if_neg c_13, if_neg c_29]
  rw [hr_52]
  exact ⟨rfl, z_48, f_47, f_50, f_51, fr_49⟩
set_option maxHeartbeats 4000000 in
set_option maxRecDepth 100000 in
theorem c_X8_readCommand (G : FG) (hL : FL G) (l : Launch) (ω : FWd) (adr : Nat → Nat) (hF : FTx G adr) (hJ : FJ G) (t : Nat) (f : Nat → Int32) (len pos cnt : Nat) (ft : Int32) (hT : TxtS G ω.2 t f len pos cnt ft) (hl60 : len ≤ 60) (hpl : pos ≤ len) (b : Nat) (C : CM) (hC : CmdS G ω.2 b C.1 C.2.1 C.2.2.1 C.2.2.2) (hd : t + 2 ≤ b ∨ b + 2 ≤ t) (hn3 : C.2.2.1 ≤ 3) (hfc : ∀ i, i < len → ∃ z, f i = chC z) : FMet G l yX8_readCommand wsX8_readCommand ({ frames := 4, cells := 0, slots := 0, locals := 87 } : Room) [.ref t, .ref b] ω (fun vv9 τ9 => vv9 = some (.int (cmR f len pos C).1) ∧ τ9.1 = ω.1 ∧ τ9.2 t = some (.inr (10, [.ref (t + 1), .int (nI len), .int (nI (cmR f len pos C).2.1), .ref (t + 2), .int (nI cnt), .int ft])) ∧ τ9.2 b = some (.inr (4, [.int (cmR f len pos C).2.2.1, .ref (b + 1), .int (nI (cmR f len pos C).2.2.2.2.1), .int (cmR f len pos C).2.2.2.2.2])) ∧ τ9.2 (b + 1) = some (.inl (G.2.1 0, 3, .inl (cmR f len pos C).2.2.2.1)) ∧ ∀ q : Nat, ¬ q = t → ¬ q = b → ¬ q = (b + 1) → τ9.2 q = ω.2 q) 0 0 := by
  refine fw_ofW (cc := cX8_readCommand) (maxL := 5) (ret := (some .boolean)) (by decide) rfl (Nat.le_of_ble_eq_true rfl) ?_
  intro pP eE sS mI ar9 bl9 meth cD ls hx hb hr hlocks hml hts hown hnm hW hR hl
  have hK := hL.K hW
  have hS : va_S (fwA G) sS.heap sS.heap [] := va_S.rf
  have hin8 : ∀ w ∈ u_ws RX8 TX8 6, w ∈ wsX8_readCommand := by decide +kernel
  have hl : lv_has ls 5 [(0, .ref t), (1, .ref b)] := hl
  obtain ⟨t0, t1⟩ := id hT
  obtain ⟨b0, b1⟩ := id hC
  have hR0 := hR
  have hf1 := frmL_100 (frmN (f pos))
  refine lv_aload_n hx hb dX8_readCommand_0 rfl (lv_at hl 0 rfl) ?_
  refine fw_get (v := .int (nI pos)) (C := RX8) (T := TX8) (N := 6) hx hb hts hin8 hown hK hR t0 rfl 2 (by decide) (hts (.fieldLink RX8 33 "UnreadLeaflets$Text" "position" "I") (by decide +kernel)) rfl dX8_readCommand_1 ?_
  refine lv_aload_n hx hb dX8_readCommand_4 rfl (lv_at hl 0 rfl) ?_
  refine fw_get (v := .int (nI len)) (C := RX8) (T := TX8) (N := 6) hx hb hts hin8 hown hK hR t0 rfl 1 (by decide) (hts (.fieldLink RX8 26 "UnreadLeaflets$Text" "length" "I") (by decide +kernel)) rfl dX8_readCommand_5 ?_
  refine lv_icmp_lt (tgt := 13) hx hb dX8_readCommand_8 (by decide) (fun c_1 => ?_) (fun c_1 => ?_)
  · skip
    have hp6 : pos < len := (nI_ltI (by omega) (by omega)).mp c_1
    obtain ⟨z9, hz9⟩ := hfc pos hp6
    refine lv_aload_n hx hb dX8_readCommand_13 rfl (lv_at hl 0 rfl) ?_
    refine fw_get (v := .ref (t + 1)) (C := RX8) (T := TX8) (N := 6) hx hb hts hin8 hown hK hR t0 rfl 0 (by decide) (hts (.fieldLink RX8 9 "UnreadLeaflets$Text" "characters" "[C") (by decide +kernel)) rfl dX8_readCommand_14 ?_
    refine lv_aload_n hx hb dX8_readCommand_17 rfl (lv_at hl 0 rfl) ?_
    refine fw_get (v := .int (nI pos)) (C := RX8) (T := TX8) (N := 6) hx hb hts hin8 hown hK hR t0 rfl 2 (by decide) (hts (.fieldLink RX8 33 "UnreadLeaflets$Text" "position" "I") (by decide +kernel)) rfl dX8_readCommand_18 ?_
    refine fw_cald hx hb hK hR t1 (vp_in_nI (by omega) (by omega)) dX8_readCommand_21 ?_
    refine W.eq (g2 := F0 mI 22 ls [.int (f pos)]) (by rw [nI_clamp (by omega)]) ?_
    refine lv_istore_n (lv' := [(2, .int (f pos)), (0, .ref t), (1, .ref b)]) hx hb dX8_readCommand_22 rfl hl (by decide) rfl (fun ls hl => ?_)
    refine lv_iload_n hx hb dX8_readCommand_23 rfl (lv_at hl 0 rfl) ?_
    refine fw_call (va_runS (As := [.int (f pos)]) (rest := []) ⟨hx, hb, hml, hown, hts⟩ (c_X8_formOf G hL l ω adr hF (f pos)) (va_cwS 1 hts gX8_readCommand_X8_formOf rfl rfl rfl (by decide +kernel) ⟨Nat.le_of_ble_eq_true rfl, Nat.le_of_ble_eq_true rfl⟩) (fw_preS hW hR) rfl rfl hl.1 rfl (lv_room (Nat.le_of_ble_eq_true rfl)) dX8_readCommand_24 ⟨Nat.le_of_ble_eq_true rfl, Nat.le_of_ble_eq_true rfl⟩) hS (fun v_2 ω_3 H locs hq_4 hR hS => ?_)
    obtain ⟨rfl, hq_4⟩ := hq_4
    rw [hq_4] at hR
    refine W.eq (g2 := F0 mI 27 ls [.ref (adr (frmN (f pos)))]) rfl ?_
    refine lv_astore_n (lv' := [(3, .ref (adr (frmN (f pos)))), (2, .int (f pos)), (0, .ref t), (1, .ref b)]) hx hb dX8_readCommand_27 rfl hl (by decide) rfl (fun ls hl => ?_)
    refine lv_aload_n hx hb dX8_readCommand_28 rfl (lv_at hl 0 rfl) ?_
    refine fw_call (va_runV (As := []) (rest := []) ⟨hx, hb, hml, hown, hts⟩ (c_J0_isEmpty_aae02 G hL l ω (adr (frmN (f pos))) (frmL (frmN (f pos))) (hF (frmN (f pos)) (frmN_8 _)).2 (frmL_100 _)) (cwV 0 hts gX8_readCommand_J0_isEmpty_aae02 rfl rfl rfl (by decide +kernel) ⟨Nat.le_of_ble_eq_true rfl, Nat.le_of_ble_eq_true rfl⟩) (fw_preStr hW hR ((va_O.moved hW.alike (hF (frmN (f pos)) (frmN_8 _)).2.1).kept hR0.2.1.2.1) hS) rfl rfl hl.1 rfl (lv_room (Nat.le_of_ble_eq_true rfl)) dX8_readCommand_29 ⟨Nat.le_of_ble_eq_true rfl, Nat.le_of_ble_eq_true rfl⟩) hS (fun v_5 ω_5 H locs hq_5 hR hS => ?_)
    obtain ⟨rfl, hq_5⟩ := hq_5
    rw [hq_5] at hR
    refine W.eq (g2 := F0 mI 32 ls [.int (bz ((frmL (frmN (f pos))).length = 0))]) rfl ?_
    refine lv_if_eq (tgt := 37) hx hb dX8_readCommand_32 (by decide) (fun c_6 => ?_) (fun c_6 => ?_)
    · skip
      have c_6 := bz_eq c_6
      have hnf : ¬ frmN (f pos) = 7 := fun z => c_6 (by rw [z]; rfl)
      refine lv_aload_n hx hb dX8_readCommand_37 rfl (lv_at hl 2 rfl) ?_
      refine lv_dup hx hb dX8_readCommand_38 rfl ?_
      refine fw_get (v := .int (nI pos)) (C := RX8) (T := TX8) (N := 6) hx hb hts hin8 hown hK hR t0 rfl 2 (by decide) (hts (.fieldLink RX8 33 "UnreadLeaflets$Text" "position" "I") (by decide +kernel)) rfl dX8_readCommand_39 ?_
      refine lv_iconst (v := 1) hx hb dX8_readCommand_42 (by decide) ?_
      refine lv_iadd hx hb dX8_readCommand_43 ?_
      refine W.eq (g2 := F0 mI 44 ls [.int (nI (pos + 1)), .ref t]) (by rw [nI_1]) ?_
      refine fw_put (v := .int (nI (pos + 1))) (C := RX8) (T := TX8) (N := 6) hx hb hts hin8 tyX8 tyX8_ok nmX8 hown hK hR hS t0 rfl 2 (by decide) (hts (.fieldLink RX8 33 "UnreadLeaflets$Text" "position" "I") (by decide +kernel)) rfl rfl rfl (Nat.le_of_ble_eq_true rfl) dX8_readCommand_44 (fun H locs hR hS => ?_)
      obtain ⟨ω_7, hw_8⟩ : ∃ τ : FWd, τ = (ω.1, va_up ω.2 t (some (.inr (10, [.ref (t + 1), .int (nI len), .int (nI (pos + 1)), .ref (t + 2), .int (nI cnt), .int ft])))) := ⟨_, rfl⟩
      have hR : fR G ω_7 H := by rw [hw_8]; exact hR
      have f_9 : ω_7.2 t = some (.inr (10, [.ref (t + 1), .int (nI len), .int (nI (pos + 1)), .ref (t + 2), .int (nI cnt), .int ft])) := by rw [hw_8]; exact va_up_at
      have fr_10 : ∀ q : Nat, ¬ q = t → ω_7.2 q = ω.2 q := fun q hq => by rw [hw_8]; exact va_up_off hq
      have z_11 : ω_7.1 = ω.1 := by rw [hw_8]
      refine lv_aload_n hx hb dX8_readCommand_47 rfl (lv_at hl 3 rfl) ?_
      refine lv_iload_n hx hb dX8_readCommand_48 rfl (lv_at hl 1 rfl) ?_
      have f_12 : ω_7.2 b = some (.inr (4, [.int C.1, .ref (b + 1), .int (nI C.2.2.1), .int C.2.2.2])) := (fr_10 b (by omega)).trans b0
      have f_13 : ω_7.2 (b + 1) = some (.inl (G.2.1 0, 3, .inl C.2.1)) := (fr_10 (b + 1) (by omega)).trans b1
      refine fw_call (va_runV (As := [.int (f pos)]) (rest := []) ⟨hx, hb, hml, hown, hts⟩ (c_X2_begin G hL l ω_7 b C ⟨f_12, f_13⟩ (f pos) z9 hz9) (cwV 1 hts gX8_readCommand_X2_begin rfl rfl rfl (by decide +kernel) ⟨Nat.le_of_ble_eq_true rfl, Nat.le_of_ble_eq_true rfl⟩) (fw_preV hW hK hR f_12 rfl) rfl rfl hl.1 rfl (lv_room (Nat.le_of_ble_eq_true rfl)) dX8_readCommand_49 ⟨Nat.le_of_ble_eq_true rfl, Nat.le_of_ble_eq_true rfl⟩) hS (fun v_14 ω_15 H locs hq_16 hR hS => ?_)
      obtain ⟨rfl, z_17, f_19, f_20, fr_18⟩ := hq_16
      refine W.eq (g2 := F0 mI 52 ls []) rfl ?_
      refine lv_iconst (v := 0) hx hb dX8_readCommand_52 (by decide) ?_
      refine lv_istore (lv' := [(4, .int 0), (3, .ref (adr (frmN (f pos)))), (2, .int (f pos)), (0, .ref t), (1, .ref b)]) hx hb dX8_readCommand_53 hl (by decide) rfl (fun ls hl => ?_)
      have loop_21 : ∀ (fu : Nat) (k : Nat) (ps : Nat) (Cc : CM) (τ1 : FWd), ((frmL (frmN (f pos))).length - k) < fu → (k ≤ (frmL (frmN (f pos))).length) → (ps ≤ len) → (Cc.2.2.1 ≤ 3) → (cmR f len pos C = frR f len ((frmL (frmN (f pos))).drop k) ps Cc) → τ1.1 = ω_15.1 → τ1.2 t = some (.inr (10, [.ref (t + 1), .int (nI len), .int (nI ps), .ref (t + 2), .int (nI cnt), .int ft])) → τ1.2 b = some (.inr (4, [.int Cc.1, .ref (b + 1), .int (nI Cc.2.2.1), .int Cc.2.2.2])) → τ1.2 (b + 1) = some (.inl (G.2.1 0, 3, .inl Cc.2.1)) → (∀ q : Nat, ¬ q = t → ¬ q = b → ¬ q = (b + 1) → τ1.2 q = ω_15.2 q) → ∀ (H : Heap) (locs : List Loc) (ls : Array Slot), fR G τ1 H → va_S (fwA G) sS.heap H locs → lv_has ls 5 [(4, .int (nI k)), (3, .ref (adr (frmN (f pos)))), (2, .int (f pos)), (0, .ref t), (1, .ref b)] → W pP l eE ({ frames := 4, cells := 0, slots := 0, locals := 87 } : Room) sS mI ar9 bl9 meth cD H locs 0 0 (MQ bl9 (fQ G (fun vv9 τ9 => vv9 = some (.int (cmR f len pos C).1) ∧ τ9.1 = ω.1 ∧ τ9.2 t = some (.inr (10, [.ref (t + 1), .int (nI len), .int (nI (cmR f len pos C).2.1), .ref (t + 2), .int (nI cnt), .int ft])) ∧ τ9.2 b = some (.inr (4, [.int (cmR f len pos C).2.2.1, .ref (b + 1), .int (nI (cmR f len pos C).2.2.2.2.1), .int (cmR f len pos C).2.2.2.2.2])) ∧ τ9.2 (b + 1) = some (.inl (G.2.1 0, 3, .inl (cmR f len pos C).2.2.2.1)) ∧ ∀ q : Nat, ¬ q = t → ¬ q = b → ¬ q = (b + 1) → τ9.2 q = ω.2 q)) ar9 sS 0 0 (fwA G)) (F0 mI 55 ls []) := by
        intro fu
        induction fu with
        | zero => intro k ps Cc τ1 hfu; exact absurd hfu (Nat.not_lt_zero _)
        | succ fu ih =>
          intro k ps Cc τ1 hfu hk hps hc3 hfr hzτ1 w0 w1 w2 hfrτ1 H locs ls hR hS hl
          refine lv_iload hx hb dX8_readCommand_55 (lv_at hl 0 rfl) ?_
          refine lv_aload_n hx hb dX8_readCommand_57 rfl (lv_at hl 1 rfl) ?_
          refine fw_call (va_runV (As := []) (rest := [.int (nI k)]) ⟨hx, hb, hml, hown, hts⟩ (c_J0_length_8abf5 G hL l τ1 hJ (adr (frmN (f pos))) (frmL (frmN (f pos))) (hF (frmN (f pos)) (frmN_8 _)).2) (cwV 0 hts gX8_readCommand_J0_length_8abf5 rfl rfl rfl (by decide +kernel) ⟨Nat.le_of_ble_eq_true rfl, Nat.le_of_ble_eq_true rfl⟩) (fw_preStr hW hR ((va_O.moved hW.alike (hF (frmN (f pos)) (frmN_8 _)).2.1).kept hR0.2.1.2.1) hS) rfl rfl hl.1 rfl (lv_room (Nat.le_of_ble_eq_true rfl)) dX8_readCommand_58 ⟨Nat.le_of_ble_eq_true rfl, Nat.le_of_ble_eq_true rfl⟩) hS (fun v_22 ω_22 H locs hq_22 hR hS => ?_)
          obtain ⟨rfl, hq_22⟩ := hq_22
          rw [hq_22] at hR
          refine W.eq (g2 := F0 mI 61 ls [.int (nI (frmL (frmN (f pos))).length), .int (nI k)]) (by rw [shr_0 (Nat.lt_trans (frmL_100 _) (by decide))]; rfl) ?_
          refine lv_icmp_ge (tgt := 86) hx hb dX8_readCommand_61 (by decide) (fun c_23 => ?_) (fun c_23 => ?_)
          · skip
            have hk9 := (nI_leI (by omega) (by omega)).mp c_23
            refine lv_iconst (v := 1) hx hb dX8_readCommand_86 (by decide) ?_
            refine fw_zret hx hb hr rfl hlocks hR hS dX8_readCommand_87 ?_
            have z_24 : τ1.1 = ω.1 := by rw [hzτ1, z_17, z_11]
            have fr_25 : ∀ q : Nat, ¬ q = t → ¬ q = b → ¬ q = (b + 1) → τ1.2 q = ω.2 q := by
              intro q h0 h1 h2
              rw [hfrτ1 q (by assumption) (by assumption) (by assumption)]
              rw [fr_18 q (by assumption) (by assumption)]
              rw [fr_10 q (by assumption)]
            have hr_26 : cmR f len pos C = (1, ps, Cc) := by rw [hfr, List.drop_eq_nil_iff.mpr (by omega), frR]
            rw [hr_26]
            exact ⟨rfl, z_24, w0, w1, w2, fr_25⟩
          · skip
            have hk2 : k < (frmL (frmN (f pos))).length := Nat.lt_of_not_le (fun z => c_23 ((nI_leI (by omega) (by omega)).mpr z))
            refine lv_aload_n hx hb dX8_readCommand_64 rfl (lv_at hl 3 rfl) ?_
            refine lv_aload_n hx hb dX8_readCommand_65 rfl (lv_at hl 1 rfl) ?_
            refine lv_iload hx hb dX8_readCommand_66 (lv_at hl 0 rfl) ?_
            refine fw_call (va_runV (As := [.int (nI k)]) (rest := [.ref t]) ⟨hx, hb, hml, hown, hts⟩ (c_J0_charAt_5068e G hL l τ1 hJ (adr (frmN (f pos))) (frmL (frmN (f pos))) (hF (frmN (f pos)) (frmN_8 _)).2 k hk2 (frmL_100 _)) (cwV 1 hts gX8_readCommand_J0_charAt_5068e rfl rfl rfl (by decide +kernel) ⟨Nat.le_of_ble_eq_true rfl, Nat.le_of_ble_eq_true rfl⟩) (fw_preStr hW hR ((va_O.moved hW.alike (hF (frmN (f pos)) (frmN_8 _)).2.1).kept hR0.2.1.2.1) hS) rfl rfl hl.1 rfl (lv_room (Nat.le_of_ble_eq_true rfl)) dX8_readCommand_68 ⟨Nat.le_of_ble_eq_true rfl, Nat.le_of_ble_eq_true rfl⟩) hS (fun v_27 ω_27 H locs hq_27 hR hS => ?_)
            obtain ⟨rfl, hq_27⟩ := hq_27
            rw [hq_27] at hR
            refine W.eq (g2 := F0 mI 71 ls [.int ((frmL (frmN (f pos))).getD k 0), .ref t]) (by rw [chr_ok _ (frmN_8 _) _ hk2]; rfl) ?_
            refine lv_aload_n hx hb dX8_readCommand_71 rfl (lv_at hl 4 rfl) ?_
            have f_28 : ω_7.2 (t + 1) = some (.inl (G.2.1 1, 60, .inl f)) := (fr_10 (t + 1) (by omega)).trans t1
            have f_29 : ω_15.2 (t + 1) = some (.inl (G.2.1 1, 60, .inl f)) := (fr_18 (t + 1) (by omega) (by omega)).trans f_28
            have f_30 : τ1.2 (t + 1) = some (.inl (G.2.1 1, 60, .inl f)) := (hfrτ1 (t + 1) (by omega) (by omega) (by omega)).trans f_29
            refine fw_call (va_runV (As := [.int ((frmL (frmN (f pos))).getD k 0), .ref b]) (rest := []) ⟨hx, hb, hml, hown, hts⟩ (c_X8_readPiece G hL l τ1 t f len ps cnt ft ⟨w0, f_30⟩ (by omega) hps b Cc ⟨w1, w2⟩ hc3 (by omega) ((frmL (frmN (f pos))).getD k 0)) (cwV 2 hts gX8_readCommand_X8_readPiece rfl rfl rfl (by decide +kernel) ⟨Nat.le_of_ble_eq_true rfl, Nat.le_of_ble_eq_true rfl⟩) (fw_preV hW hK hR w0 rfl) rfl rfl hl.1 rfl (lv_room (Nat.le_of_ble_eq_true rfl)) dX8_readCommand_72 ⟨Nat.le_of_ble_eq_true rfl, Nat.le_of_ble_eq_true rfl⟩) hS (fun v_31 ω_32 H locs hq_33 hR hS => ?_)
            obtain ⟨rfl, z_34, f_36, f_37, f_38, fr_35⟩ := hq_33
            refine W.eq (g2 := F0 mI 75 ls [.int ((pcR f len ((frmL (frmN (f pos))).getD k 0) ps Cc).1)]) rfl ?_
            refine lv_if_ne (tgt := 80) hx hb dX8_readCommand_75 (by decide) (fun c_39 => ?_) (fun c_39 => ?_)
            · skip
              obtain ⟨x_40, ex_40⟩ : ∃ y : Int32, y = (nI k) + 1 := ⟨_, rfl⟩
              refine lv_iinc (v := x_40) (lv' := [(4, .int x_40), (3, .ref (adr (frmN (f pos)))), (2, .int (f pos)), (0, .ref t), (1, .ref b)]) hx hb dX8_readCommand_80 hl (k := 0) rfl (by rw [ex_40]; rfl) (by decide) rfl (fun ls hl => ?_)
              refine lv_goto (tgt := 55) hx hb dX8_readCommand_83 (by decide) ?_
              have el_4 : x_40 = nI (k + 1) := by rw [ex_40]; exact nI_1 k
              have hl := lv_sub (l' := [(4, .int x_40), (3, .ref (adr (frmN (f pos)))), (2, .int (f pos)), (0, .ref t), (1, .ref b)]) hl [0, 1, 2, 3, 4] rfl
              rw [el_4] at hl
              have fr_41 : ∀ q : Nat, ¬ q = t → ¬ q = b → ¬ q = (b + 1) → ω_32.2 q = ω_15.2 q := by
                intro q h0 h1 h2
                rw [fr_35 q (by omega) (by omega) (by omega)]
                rw [hfrτ1 q (by omega) (by omega) (by omega)]
              have z_42 : ω_32.1 = ω_15.1 := by rw [z_34, hzτ1]
              exact ih (k + 1) ((pcR f len ((frmL (frmN (f pos))).getD k 0) ps Cc).2.1) ((pcR f len ((frmL (frmN (f pos))).getD k 0) ps Cc).2.2) ω_32 (by omega) (by omega) (by exact (pcR_le hl60 hps hc3).1) (by exact (pcR_le hl60 hps hc3).2) (by rw [hfr, drop_c hk2, frR, if_neg c_39]) z_42 f_36 f_37 f_38 fr_41 _ _ _ hR hS hl
            · skip
              refine lv_iconst (v := 0) hx hb dX8_readCommand_78 (by decide) ?_
              refine fw_zret hx hb hr rfl hlocks hR hS dX8_readCommand_79 ?_
              have z_43 : ω_32.1 = ω.1 := by rw [z_34, hzτ1, z_17, z_11]
              have fr_44 : ∀ q : Nat, ¬ q = t → ¬ q = b → ¬ q = (b + 1) → ω_32.2 q = ω.2 q := by
                intro q h0 h1 h2
                rw [fr_35 q (by assumption) (by assumption) (by assumption)]
                rw [hfrτ1 q (by assumption) (by assumption) (by assumption)]
                rw [fr_18 q (by assumption) (by assumption)]
                rw [fr_10 q (by assumption)]
              have hr_45 : cmR f len pos C = (0, (pcR f len ((frmL (frmN (f pos))).getD k 0) ps Cc).2.1, (pcR f len ((frmL (frmN (f pos))).getD k 0) ps Cc).2.2) := by rw [hfr, drop_c hk2, frR, if_pos c_39]
              rw [hr_45]
              exact ⟨rfl, z_43, f_36, f_37, f_38, fr_44⟩
      have f_46 : ω_15.2 t = some (.inr (10, [.ref (t + 1), .int (nI len), .int (nI (pos + 1)), .ref (t + 2), .int (nI cnt), .int ft])) := (fr_18 t (by omega) (by omega)).trans f_9
      exact loop_21 _ 0 (pos + 1) (f pos, C.2.1, 0, 0) ω_15 (Nat.lt_succ_self _) (by exact Nat.zero_le _) (by omega) (by exact Nat.zero_le _) (by rw [cmR, if_neg (by omega), if_neg hnf]; rfl) rfl f_46 f_19 f_20 (fun _ _ _ _ => rfl) _ _ _ hR hS (lv_sub hl [0, 1, 2, 3, 4] rfl)
    · skip
      have c_6 := bz_ne c_6
      have hnf : frmN (f pos) = 7 := (frm_len _ (frmN_8 _)).mp c_6
      refine lv_iconst (v := 0) hx hb dX8_readCommand_35 (by decide) ?_
      refine fw_zret hx hb hr rfl hlocks hR hS dX8_readCommand_36 ?_
      have z_47 : ω.1 = ω.1 := by rfl
      have fr_48 : ∀ q : Nat, ¬ q = t → ¬ q = b → ¬ q = (b + 1) → ω.2 q = ω.2 q := by
        intro q h0 h1 h2
        rfl
      have hr_49 : cmR f len pos C = (0, pos, C) := by rw [cmR, if_neg (by omega), if_pos hnf]
      rw [hr_49]
      exact ⟨rfl, z_47, t0, b0, b1, fr_48⟩
  · skip
    have hp7 : len ≤ pos := Nat.le_of_not_lt (fun z => c_1 ((nI_ltI (by omega) (by omega)).mpr z))
    refine lv_iconst (v := 0) hx hb dX8_readCommand_11 (by decide) ?_
    refine fw_zret hx hb hr rfl hlocks hR hS dX8_readCommand_12 ?_
    have z_50 : ω.1 = ω.1 := by rfl
    have fr_51 : ∀ q : Nat, ¬ q = t → ¬ q = b → ¬ q = (b + 1) → ω.2 q = ω.2 q := by
      intro q h0 h1 h2
      rfl
    have hr_52 : cmR f len pos C = (0, pos, C) := by rw [cmR, if_pos hp7]
    rw [hr_52]
    exact ⟨rfl, z_50, t0, b0, b1, fr_51⟩
set_option maxHeartbeats 4000000 in
set_option maxRecDepth 100000 in
theorem c_X8_readCommands (G : FG) (hL : FL G) (l : Launch) (ω : FWd) (adr : Nat → Nat) (hF : FTx G adr) (hJ : FJ G) (t : Nat) (f : Nat → Int32) (len pos : Nat) (ft : Int32) (hT : TxtS G ω.2 t f len pos 0 ft) (hl60 : len ≤ 60) (hpl : pos ≤ len) (hrow : ω.2 (t + 2) = some (.inl (G.2.1 5, 20, .inr (.inr (.inr (.inr (fun z9 => some (t + 3 + 2 * z9)))))))) (Cs : Nat → CM) (hCs : (∀ i, i < 20 → CmdS G ω.2 (t + 3 + 2 * i) (Cs i).1 (Cs i).2.1 (Cs i).2.2.1 (Cs i).2.2.2 ∧ (Cs i).2.2.1 ≤ 3)) (hfc : ∀ i, i < len → ∃ z, f i = chC z) : FMet G l yX8_readCommands wsX8_readCommands ({ frames := 5, cells := 0, slots := 0, locals := 111 } : Room) [.ref t] ω (fun vv9 τ9 => vv9 = some (.int (csR f len 20 0 pos Cs).1) ∧ τ9.1 = ω.1 ∧ τ9.2 t = some (.inr (10, [.ref (t + 1), .int (nI len), .int (nI (csR f len 20 0 pos Cs).2.1), .ref (t + 2), .int (nI (csR f len 20 0 pos Cs).2.2.1), .int ft])) ∧ (∀ i, i < 20 → CmdS G τ9.2 (t + 3 + 2 * i) ((csR f len 20 0 pos Cs).2.2.2 i).1 ((csR f len 20 0 pos Cs).2.2.2 i).2.1 ((csR f len 20 0 pos Cs).2.2.2 i).2.2.1 ((csR f len 20 0 pos Cs).2.2.2 i).2.2.2 ∧ ((csR f len 20 0 pos Cs).2.2.2 i).2.2.1 ≤ 3) ∧ ∀ q : Nat, (q < t ∨ t + 43 ≤ q ∨ q = t + 1 ∨ q = t + 2) → τ9.2 q = ω.2 q) 0 0 := by
  refine fw_ofW (cc := cX8_readCommands) (maxL := 2) (ret := (some .boolean)) (by decide) rfl (Nat.le_of_ble_eq_true rfl) ?_
  intro pP eE sS mI ar9 bl9 meth cD ls hx hb hr hlocks hml hts hown hnm hW hR hl
  have hK := hL.K hW
  have hS : va_S (fwA G) sS.heap sS.heap [] := va_S.rf
  have hin8 : ∀ w ∈ u_ws RX8 TX8 6, w ∈ wsX8_readCommands := by decide +kernel
  have hl : lv_has ls 2 [(0, .ref t)] := hl
  obtain ⟨t0, t1⟩ := id hT
  refine lv_iconst (v := 0) hx hb dX8_readCommands_0 (by decide) ?_
  refine lv_istore_n (lv' := [(1, .int 0), (0, .ref t)]) hx hb dX8_readCommands_1 rfl hl (by decide) rfl (fun ls hl => ?_)
  have loop_1 : ∀ (fu : Nat) (k : Nat) (ps : Nat) (Cs2 : Nat → CM) (τ1 : FWd), (20 - k) < fu → (k ≤ 20) → (ps ≤ len) → (∀ i, i < 20 → CmdS G τ1.2 (t + 3 + 2 * i) (Cs2 i).1 (Cs2 i).2.1 (Cs2 i).2.2.1 (Cs2 i).2.2.2 ∧ (Cs2 i).2.2.1 ≤ 3) → (csR f len 20 0 pos Cs = csR f len (20 - k) k ps Cs2) → τ1.1 = ω.1 → τ1.2 t = some (.inr (10, [.ref (t + 1), .int (nI len), .int (nI ps), .ref (t + 2), .int (nI k), .int ft])) → τ1.2 (t + 1) = some (.inl (G.2.1 1, 60, .inl f)) → τ1.2 (t + 2) = some (.inl (G.2.1 5, 20, .inr (.inr (.inr (.inr (fun z9 => some (t + 3 + 2 * z9))))))) → (∀ q : Nat, (q < t ∨ t + 43 ≤ q ∨ q = t + 1 ∨ q = t + 2) → τ1.2 q = ω.2 q) → ∀ (H : Heap) (locs : List Loc) (ls : Array Slot), fR G τ1 H → va_S (fwA G) sS.heap H locs → lv_has ls 2 [(1, .int (nI k)), (0, .ref t)] → W pP l eE ({ frames := 5, cells := 0, slots := 0, locals := 111 } : Room) sS mI ar9 bl9 meth cD H locs 0 0 (MQ bl9 (fQ G (fun vv9 τ9 => vv9 = some (.int (csR f len 20 0 pos Cs).1) ∧ τ9.1 = ω.1 ∧ τ9.2 t = some (.inr (10, [.ref (t + 1), .int (nI len), .int (nI (csR f len 20 0 pos Cs).2.1), .ref (t + 2), .int (nI (csR f len 20 0 pos Cs).2.2.1), .int ft])) ∧ (∀ i, i < 20 → CmdS G τ9.2 (t + 3 + 2 * i) ((csR f len 20 0 pos Cs).2.2.2 i).1 ((csR f len 20 0 pos Cs).2.2.2 i).2.1 ((csR f len 20 0 pos Cs).2.2.2 i).2.2.1 ((csR f len 20 0 pos Cs).2.2.2 i).2.2.2 ∧ ((csR f len 20 0 pos Cs).2.2.2 i).2.2.1 ≤ 3) ∧ ∀ q : Nat, (q < t ∨ t + 43 ≤ q ∨ q = t + 1 ∨ q = t + 2) → τ9.2 q = ω.2 q)) ar9 sS 0 0 (fwA G)) (F0 mI 2 ls []) := by
    intro fu
    induction fu with
    | zero => intro k ps Cs2 τ1 hfu; exact absurd hfu (Nat.not_lt_zero _)
    | succ fu ih =>
      intro k ps Cs2 τ1 hfu hk hps hCs2 hcs hzτ1 w0 w1 w2 hfrτ1 H locs ls hR hS hl
      refine lv_iload_n hx hb dX8_readCommands_2 rfl (lv_at hl 0 rfl) ?_
      refine lv_bipush (v := 20) hx hb dX8_readCommands_3 (by decide) ?_
      refine lv_icmp_ge (tgt := 63) hx hb dX8_readCommands_5 (by decide) (fun c_2 => ?_) (fun c_2 => ?_)
      · skip
        have hk9 := lp_ge (n := 20) rfl c_2 (by omega) (by omega)
        have hkn : k = 20 := by omega
        refine lv_iconst (v := 0) hx hb dX8_readCommands_63 (by decide) ?_
        refine fw_zret hx hb hr rfl hlocks hR hS dX8_readCommands_64 ?_
        have z_3 : τ1.1 = ω.1 := by rw [hzτ1]
        have fr_4 : ∀ q : Nat, (q < t ∨ t + 43 ≤ q ∨ q = t + 1 ∨ q = t + 2) → τ1.2 q = ω.2 q := by
          intro q hq0
          rw [hfrτ1 q (by omega)]
        have hr_5 : csR f len 20 0 pos Cs = (0, ps, k, Cs2) := by rw [hcs, hkn]; rfl
        rw [hr_5]
        exact ⟨rfl, z_3, w0, hCs2, fr_4⟩
      · skip
        have hk2 := lp_lt (n := 20) rfl c_2 (by omega) (by omega)
        refine lv_aload_n hx hb dX8_readCommands_8 rfl (lv_at hl 1 rfl) ?_
        refine lv_aload_n hx hb dX8_readCommands_9 rfl (lv_at hl 1 rfl) ?_
        refine fw_get (v := .ref (t + 2)) (C := RX8) (T := TX8) (N := 6) hx hb hts hin8 hown hK hR w0 rfl 3 (by decide) (hts (.fieldLink RX8 17 "UnreadLeaflets$Text" "commands" "[LUnreadLeaflets$Command;") (by decide +kernel)) rfl dX8_readCommands_10 ?_
        refine lv_iload_n hx hb dX8_readCommands_13 rfl (lv_at hl 0 rfl) ?_
        refine fw_aald (b := t + 3 + 2 * k) hx hb hK hR w2 rfl (vp_in_nI (by omega) (by omega)) (by rw [nI_clamp (by omega)]) dX8_readCommands_14 ?_
        have f_6 : τ1.2 (t + 3 + 2 * k) = some (.inr (4, [.int (Cs2 k).1, .ref (t + 3 + 2 * k + 1), .int (nI (Cs2 k).2.2.1), .int (Cs2 k).2.2.2])) := (hCs2 k (by omega)).1.1
        have f_7 : τ1.2 (t + 3 + 2 * k + 1) = some (.inl (G.2.1 0, 3, .inl (Cs2 k).2.1)) := (hCs2 k (by omega)).1.2
        refine fw_call (va_runV (As := [.ref (t + 3 + 2 * k)]) (rest := []) ⟨hx, hb, hml, hown, hts⟩ (c_X8_readCommand G hL l τ1 adr hF hJ t f len ps k ft ⟨w0, w1⟩ hl60 hps (t + 3 + 2 * k) (Cs2 k) ⟨f_6, f_7⟩ (by omega) (hCs2 k (by omega)).2 hfc) (cwV 1 hts gX8_readCommands_X8_readCommand rfl rfl rfl (by decide +kernel) ⟨Nat.le_of_ble_eq_true rfl, Nat.le_of_ble_eq_true rfl⟩) (fw_preV hW hK hR w0 rfl) rfl rfl hl.1 rfl (lv_room (Nat.le_of_ble_eq_true rfl)) dX8_readCommands_15 ⟨Nat.le_of_ble_eq_true rfl, Nat.le_of_ble_eq_true rfl⟩) hS (fun v_8 ω_9 H locs hq_10 hR hS => ?_)
        obtain ⟨rfl, z_11, f_13, f_14, f_15, fr_12⟩ := hq_10
        refine W.eq (g2 := F0 mI 18 ls [.int ((cmR f len ps (Cs2 k)).1)]) rfl ?_
        refine lv_if_ne (tgt := 23) hx hb dX8_readCommands_18 (by decide) (fun c_16 => ?_) (fun c_16 => ?_)
        · skip
          have hpl2 : (cmR f len ps (Cs2 k)).2.1 ≤ len := (cmR_le hl60 hps (hCs2 k (by omega)).2).1
          refine lv_aload_n hx hb dX8_readCommands_23 rfl (lv_at hl 1 rfl) ?_
          refine lv_dup hx hb dX8_readCommands_24 rfl ?_
          refine fw_get (v := .int (nI k)) (C := RX8) (T := TX8) (N := 6) hx hb hts hin8 hown hK hR f_13 rfl 4 (by decide) (hts (.fieldLink RX8 36 "UnreadLeaflets$Text" "commandCount" "I") (by decide +kernel)) rfl dX8_readCommands_25 ?_
          refine lv_iconst (v := 1) hx hb dX8_readCommands_28 (by decide) ?_
          refine lv_iadd hx hb dX8_readCommands_29 ?_
          refine W.eq (g2 := F0 mI 30 ls [.int (nI (k + 1)), .ref t]) (by rw [nI_1]) ?_
          refine fw_put (v := .int (nI (k + 1))) (C := RX8) (T := TX8) (N := 6) hx hb hts hin8 tyX8 tyX8_ok nmX8 hown hK hR hS f_13 rfl 4 (by decide) (hts (.fieldLink RX8 36 "UnreadLeaflets$Text" "commandCount" "I") (by decide +kernel)) rfl rfl rfl (Nat.le_of_ble_eq_true rfl) dX8_readCommands_30 (fun H locs hR hS => ?_)
          obtain ⟨ω_17, hw_18⟩ : ∃ τ : FWd, τ = (ω_9.1, va_up ω_9.2 t (some (.inr (10, [.ref (t + 1), .int (nI len), .int (nI (cmR f len ps (Cs2 k)).2.1), .ref (t + 2), .int (nI (k + 1)), .int ft])))) := ⟨_, rfl⟩
          have hR : fR G ω_17 H := by rw [hw_18]; exact hR
          have f_19 : ω_17.2 t = some (.inr (10, [.ref (t + 1), .int (nI len), .int (nI (cmR f len ps (Cs2 k)).2.1), .ref (t + 2), .int (nI (k + 1)), .int ft])) := by rw [hw_18]; exact va_up_at
          have fr_20 : ∀ q : Nat, ¬ q = t → ω_17.2 q = ω_9.2 q := fun q hq => by rw [hw_18]; exact va_up_off hq
          have z_21 : ω_17.1 = ω_9.1 := by rw [hw_18]
          refine lv_aload_n hx hb dX8_readCommands_33 rfl (lv_at hl 1 rfl) ?_
          refine fw_get (v := .int (nI (cmR f len ps (Cs2 k)).2.1)) (C := RX8) (T := TX8) (N := 6) hx hb hts hin8 hown hK hR f_19 rfl 2 (by decide) (hts (.fieldLink RX8 33 "UnreadLeaflets$Text" "position" "I") (by decide +kernel)) rfl dX8_readCommands_34 ?_
          refine lv_aload_n hx hb dX8_readCommands_37 rfl (lv_at hl 1 rfl) ?_
          refine fw_get (v := .int (nI len)) (C := RX8) (T := TX8) (N := 6) hx hb hts hin8 hown hK hR f_19 rfl 1 (by decide) (hts (.fieldLink RX8 26 "UnreadLeaflets$Text" "length" "I") (by decide +kernel)) rfl dX8_readCommands_38 ?_
          refine lv_icmp_lt (tgt := 46) hx hb dX8_readCommands_41 (by decide) (fun c_22 => ?_) (fun c_22 => ?_)
          · skip
            have hp6 : (cmR f len ps (Cs2 k)).2.1 < len := (nI_ltI (by omega) (by omega)).mp c_22
            refine lv_aload_n hx hb dX8_readCommands_46 rfl (lv_at hl 1 rfl) ?_
            refine lv_bipush (v := 59) hx hb dX8_readCommands_47 (by decide) ?_
            have f_23 : ω_9.2 (t + 1) = some (.inl (G.2.1 1, 60, .inl f)) := (fr_12 (t + 1) (by omega) (by omega) (by omega)).trans w1
            have f_24 : ω_17.2 (t + 1) = some (.inl (G.2.1 1, 60, .inl f)) := (fr_20 (t + 1) (by omega)).trans f_23
            refine fw_call (va_runV (As := [.int 59]) (rest := []) ⟨hx, hb, hml, hown, hts⟩ (c_X8_readSign G hL l ω_17 t f len ((cmR f len ps (Cs2 k)).2.1) (k + 1) ft ⟨f_19, f_24⟩ (by omega) (by omega) 59) (cwV 1 hts gX8_readCommands_X8_readSign rfl rfl rfl (by decide +kernel) ⟨Nat.le_of_ble_eq_true rfl, Nat.le_of_ble_eq_true rfl⟩) (fw_preV hW hK hR f_19 rfl) rfl rfl hl.1 rfl (lv_room (Nat.le_of_ble_eq_true rfl)) dX8_readCommands_49 ⟨Nat.le_of_ble_eq_true rfl, Nat.le_of_ble_eq_true rfl⟩) hS (fun v_25 ω_26 H locs hq_27 hR hS => ?_)
            obtain ⟨rfl, z_28, f_30, fr_29⟩ := hq_27
            refine W.eq (g2 := F0 mI 52 ls [.int (bz (sgB f len ((cmR f len ps (Cs2 k)).2.1) 59))]) rfl ?_
            refine lv_if_ne (tgt := 57) hx hb dX8_readCommands_52 (by decide) (fun c_31 => ?_) (fun c_31 => ?_)
            · skip
              have c_31 := bz_ne c_31
              have hsg : sgB f len (cmR f len ps (Cs2 k)).2.1 59 := c_31
              obtain ⟨x_32, ex_32⟩ : ∃ y : Int32, y = (nI k) + 1 := ⟨_, rfl⟩
              refine lv_iinc (v := x_32) (lv' := [(1, .int x_32), (0, .ref t)]) hx hb dX8_readCommands_57 hl (k := 0) rfl (by rw [ex_32]; rfl) (by decide) rfl (fun ls hl => ?_)
              refine lv_goto (tgt := 2) hx hb dX8_readCommands_60 (by decide) ?_
              have el_1 : x_32 = nI (k + 1) := by rw [ex_32]; exact nI_1 k
              have hl := lv_sub (l' := [(1, .int x_32), (0, .ref t)]) hl [0, 1] rfl
              rw [el_1] at hl
              have f_33 : ω_17.2 (t + 3 + 2 * k) = some (.inr (4, [.int (cmR f len ps (Cs2 k)).2.2.1, .ref (t + 3 + 2 * k + 1), .int (nI (cmR f len ps (Cs2 k)).2.2.2.2.1), .int (cmR f len ps (Cs2 k)).2.2.2.2.2])) := (fr_20 (t + 3 + 2 * k) (by omega)).trans f_14
              have f_34 : ω_26.2 (t + 3 + 2 * k) = some (.inr (4, [.int (cmR f len ps (Cs2 k)).2.2.1, .ref (t + 3 + 2 * k + 1), .int (nI (cmR f len ps (Cs2 k)).2.2.2.2.1), .int (cmR f len ps (Cs2 k)).2.2.2.2.2])) := (fr_29 (t + 3 + 2 * k) (by omega)).trans f_33
              have f_35 : ω_17.2 (t + 3 + 2 * k + 1) = some (.inl (G.2.1 0, 3, .inl (cmR f len ps (Cs2 k)).2.2.2.1)) := (fr_20 (t + 3 + 2 * k + 1) (by omega)).trans f_15
              have f_36 : ω_26.2 (t + 3 + 2 * k + 1) = some (.inl (G.2.1 0, 3, .inl (cmR f len ps (Cs2 k)).2.2.2.1)) := (fr_29 (t + 3 + 2 * k + 1) (by omega)).trans f_35
              have hCs3 : (∀ i, i < 20 → CmdS G ω_26.2 (t + 3 + 2 * i) ((updC Cs2 k (cmR f len ps (Cs2 k)).2.2) i).1 ((updC Cs2 k (cmR f len ps (Cs2 k)).2.2) i).2.1 ((updC Cs2 k (cmR f len ps (Cs2 k)).2.2) i).2.2.1 ((updC Cs2 k (cmR f len ps (Cs2 k)).2.2) i).2.2.2 ∧ ((updC Cs2 k (cmR f len ps (Cs2 k)).2.2) i).2.2.1 ≤ 3) := by
                intro i hi
                by_cases hik : i = k
                · subst hik; simp only [updC, if_pos]; exact ⟨⟨f_34, f_36⟩, (cmR_le hl60 hps (hCs2 i hi).2).2⟩
                · have e9 : updC Cs2 k (cmR f len ps (Cs2 k)).2.2 i = Cs2 i := if_neg hik
                  rw [e9]
                  refine ⟨⟨?_, ?_⟩, (hCs2 i hi).2⟩
                  · rw [fr_29 _ (by omega), fr_20 _ (by omega), fr_12 _ (by omega) (by omega) (by omega)]
                    exact (hCs2 i hi).1.1
                  · rw [fr_29 _ (by omega), fr_20 _ (by omega), fr_12 _ (by omega) (by omega) (by omega)]
                    exact (hCs2 i hi).1.2
              have wf_37 : ω_26.2 t = some (.inr (10, [.ref (t + 1), .int (nI len), .int (nI ((cmR f len ps (Cs2 k)).2.1 + 1)), .ref (t + 2), .int (nI (k + 1)), .int ft])) := f_30.trans (congrArg some (by rw [if_pos hsg]))
              have f_38 : ω_26.2 (t + 1) = some (.inl (G.2.1 1, 60, .inl f)) := (fr_29 (t + 1) (by omega)).trans f_24
              have f_39 : ω_9.2 (t + 2) = some (.inl (G.2.1 5, 20, .inr (.inr (.inr (.inr (fun z9 => some (t + 3 + 2 * z9))))))) := (fr_12 (t + 2) (by omega) (by omega) (by omega)).trans w2
              have f_40 : ω_17.2 (t + 2) = some (.inl (G.2.1 5, 20, .inr (.inr (.inr (.inr (fun z9 => some (t + 3 + 2 * z9))))))) := (fr_20 (t + 2) (by omega)).trans f_39
              have f_41 : ω_26.2 (t + 2) = some (.inl (G.2.1 5, 20, .inr (.inr (.inr (.inr (fun z9 => some (t + 3 + 2 * z9))))))) := (fr_29 (t + 2) (by omega)).trans f_40
              have fr_42 : ∀ q : Nat, (q < t ∨ t + 43 ≤ q ∨ q = t + 1 ∨ q = t + 2) → ω_26.2 q = ω.2 q := by
                intro q hq0
                rw [fr_29 q (by omega)]
                rw [fr_20 q (by omega)]
                rw [fr_12 q (by omega) (by omega) (by omega)]
                rw [hfrτ1 q (by omega)]
              have z_43 : ω_26.1 = ω.1 := by rw [z_28, z_21, z_11, hzτ1]
              exact ih (k + 1) ((cmR f len ps (Cs2 k)).2.1 + 1) (updC Cs2 k (cmR f len ps (Cs2 k)).2.2) ω_26 (by omega) (by omega) (by omega) (by exact hCs3) (by rw [hcs, show 20 - k = (20 - (k + 1)) + 1 by omega, csR, if_neg c_16, if_neg (by omega), if_pos c_31]) z_43 wf_37 f_38 f_41 fr_42 _ _ _ hR hS hl
            · skip
              have c_31 := bz_eq c_31
              refine lv_iconst (v := 0) hx hb dX8_readCommands_55 (by decide) ?_
              refine fw_zret hx hb hr rfl hlocks hR hS dX8_readCommands_56 ?_
              have z_44 : ω_26.1 = ω.1 := by rw [z_28, z_21, z_11, hzτ1]
              have fr_45 : ∀ q : Nat, (q < t ∨ t + 43 ≤ q ∨ q = t + 1 ∨ q = t + 2) → ω_26.2 q = ω.2 q := by
                intro q hq0
                rw [fr_29 q (by omega)]
                rw [fr_20 q (by omega)]
                rw [fr_12 q (by omega) (by omega) (by omega)]
                rw [hfrτ1 q (by omega)]
              have f_47 : ω_17.2 (t + 3 + 2 * k) = some (.inr (4, [.int (cmR f len ps (Cs2 k)).2.2.1, .ref (t + 3 + 2 * k + 1), .int (nI (cmR f len ps (Cs2 k)).2.2.2.2.1), .int (cmR f len ps (Cs2 k)).2.2.2.2.2])) := (fr_20 (t + 3 + 2 * k) (by omega)).trans f_14
              have f_48 : ω_26.2 (t + 3 + 2 * k) = some (.inr (4, [.int (cmR f len ps (Cs2 k)).2.2.1, .ref (t + 3 + 2 * k + 1), .int (nI (cmR f len ps (Cs2 k)).2.2.2.2.1), .int (cmR f len ps (Cs2 k)).2.2.2.2.2])) := (fr_29 (t + 3 + 2 * k) (by omega)).trans f_47
              have f_49 : ω_17.2 (t + 3 + 2 * k + 1) = some (.inl (G.2.1 0, 3, .inl (cmR f len ps (Cs2 k)).2.2.2.1)) := (fr_20 (t + 3 + 2 * k + 1) (by omega)).trans f_15
              have f_50 : ω_26.2 (t + 3 + 2 * k + 1) = some (.inl (G.2.1 0, 3, .inl (cmR f len ps (Cs2 k)).2.2.2.1)) := (fr_29 (t + 3 + 2 * k + 1) (by omega)).trans f_49
              have hCs3 : (∀ i, i < 20 → CmdS G ω_26.2 (t + 3 + 2 * i) ((updC Cs2 k (cmR f len ps (Cs2 k)).2.2) i).1 ((updC Cs2 k (cmR f len ps (Cs2 k)).2.2) i).2.1 ((updC Cs2 k (cmR f len ps (Cs2 k)).2.2) i).2.2.1 ((updC Cs2 k (cmR f len ps (Cs2 k)).2.2) i).2.2.2 ∧ ((updC Cs2 k (cmR f len ps (Cs2 k)).2.2) i).2.2.1 ≤ 3) := by
                intro i hi
                by_cases hik : i = k
                · subst hik; simp only [updC, if_pos]; exact ⟨⟨f_48, f_50⟩, (cmR_le hl60 hps (hCs2 i hi).2).2⟩
                · have e9 : updC Cs2 k (cmR f len ps (Cs2 k)).2.2 i = Cs2 i := if_neg hik
                  rw [e9]
                  refine ⟨⟨?_, ?_⟩, (hCs2 i hi).2⟩
                  · rw [fr_29 _ (by omega), fr_20 _ (by omega), fr_12 _ (by omega) (by omega) (by omega)]
                    exact (hCs2 i hi).1.1
                  · rw [fr_29 _ (by omega), fr_20 _ (by omega), fr_12 _ (by omega) (by omega) (by omega)]
                    exact (hCs2 i hi).1.2
              have f_51 : ω_26.2 t = some (.inr (10, [.ref (t + 1), .int (nI len), .int (nI (cmR f len ps (Cs2 k)).2.1), .ref (t + 2), .int (nI (k + 1)), .int ft])) := f_30.trans (congrArg some (by rw [if_neg c_31]))
              have hr_46 : csR f len 20 0 pos Cs = (0, (cmR f len ps (Cs2 k)).2.1, (k + 1), updC Cs2 k (cmR f len ps (Cs2 k)).2.2) := by rw [hcs, show 20 - k = (20 - (k + 1)) + 1 by omega, csR, if_neg c_16, if_neg (by omega), if_neg c_31]
              rw [hr_46]
              exact ⟨rfl, z_44, f_51, hCs3, fr_45⟩
          · skip
            have hp7 : len ≤ (cmR f len ps (Cs2 k)).2.1 := Nat.le_of_not_lt (fun z => c_22 ((nI_ltI (by omega) (by omega)).mpr z))
            refine lv_iconst (v := 1) hx hb dX8_readCommands_44 (by decide) ?_
            refine fw_zret hx hb hr rfl hlocks hR hS dX8_readCommands_45 ?_
            have z_52 : ω_17.1 = ω.1 := by rw [z_21, z_11, hzτ1]
            have fr_53 : ∀ q : Nat, (q < t ∨ t + 43 ≤ q ∨ q = t + 1 ∨ q = t + 2) → ω_17.2 q = ω.2 q := by
              intro q hq0
              rw [fr_20 q (by omega)]
              rw [fr_12 q (by omega) (by omega) (by omega)]
              rw [hfrτ1 q (by omega)]
            have f_55 : ω_17.2 (t + 3 + 2 * k) = some (.inr (4, [.int (cmR f len ps (Cs2 k)).2.2.1, .ref (t + 3 + 2 * k + 1), .int (nI (cmR f len ps (Cs2 k)).2.2.2.2.1), .int (cmR f len ps (Cs2 k)).2.2.2.2.2])) := (fr_20 (t + 3 + 2 * k) (by omega)).trans f_14
            have f_56 : ω_17.2 (t + 3 + 2 * k + 1) = some (.inl (G.2.1 0, 3, .inl (cmR f len ps (Cs2 k)).2.2.2.1)) := (fr_20 (t + 3 + 2 * k + 1) (by omega)).trans f_15
            have hCs3 : (∀ i, i < 20 → CmdS G ω_17.2 (t + 3 + 2 * i) ((updC Cs2 k (cmR f len ps (Cs2 k)).2.2) i).1 ((updC Cs2 k (cmR f len ps (Cs2 k)).2.2) i).2.1 ((updC Cs2 k (cmR f len ps (Cs2 k)).2.2) i).2.2.1 ((updC Cs2 k (cmR f len ps (Cs2 k)).2.2) i).2.2.2 ∧ ((updC Cs2 k (cmR f len ps (Cs2 k)).2.2) i).2.2.1 ≤ 3) := by
              intro i hi
              by_cases hik : i = k
              · subst hik; simp only [updC, if_pos]; exact ⟨⟨f_55, f_56⟩, (cmR_le hl60 hps (hCs2 i hi).2).2⟩
              · have e9 : updC Cs2 k (cmR f len ps (Cs2 k)).2.2 i = Cs2 i := if_neg hik
                rw [e9]
                refine ⟨⟨?_, ?_⟩, (hCs2 i hi).2⟩
                · rw [fr_20 _ (by omega), fr_12 _ (by omega) (by omega) (by omega)]
                  exact (hCs2 i hi).1.1
                · rw [fr_20 _ (by omega), fr_12 _ (by omega) (by omega) (by omega)]
                  exact (hCs2 i hi).1.2
            have hr_54 : csR f len 20 0 pos Cs = (1, (cmR f len ps (Cs2 k)).2.1, (k + 1), updC Cs2 k (cmR f len ps (Cs2 k)).2.2) := by rw [hcs, show 20 - k = (20 - (k + 1)) + 1 by omega, csR, if_neg c_16, if_pos hp7]
            rw [hr_54]
            exact ⟨rfl, z_52, f_19, hCs3, fr_53⟩
        · skip
          refine lv_iconst (v := 0) hx hb dX8_readCommands_21 (by decide) ?_
          refine fw_zret hx hb hr rfl hlocks hR hS dX8_readCommands_22 ?_
          have z_57 : ω_9.1 = ω.1 := by rw [z_11, hzτ1]
          have fr_58 : ∀ q : Nat, (q < t ∨ t + 43 ≤ q ∨ q = t + 1 ∨ q = t + 2) → ω_9.2 q = ω.2 q := by
            intro q hq0
            rw [fr_12 q (by omega) (by omega) (by omega)]
            rw [hfrτ1 q (by omega)]
          have hCs3 : (∀ i, i < 20 → CmdS G ω_9.2 (t + 3 + 2 * i) ((updC Cs2 k (cmR f len ps (Cs2 k)).2.2) i).1 ((updC Cs2 k (cmR f len ps (Cs2 k)).2.2) i).2.1 ((updC Cs2 k (cmR f len ps (Cs2 k)).2.2) i).2.2.1 ((updC Cs2 k (cmR f len ps (Cs2 k)).2.2) i).2.2.2 ∧ ((updC Cs2 k (cmR f len ps (Cs2 k)).2.2) i).2.2.1 ≤ 3) := by
            intro i hi
            by_cases hik : i = k
            · subst hik; simp only [updC, if_pos]; exact ⟨⟨f_14, f_15⟩, (cmR_le hl60 hps (hCs2 i hi).2).2⟩
            · have e9 : updC Cs2 k (cmR f len ps (Cs2 k)).2.2 i = Cs2 i := if_neg hik
              rw [e9]
              refine ⟨⟨?_, ?_⟩, (hCs2 i hi).2⟩
              · rw [fr_12 _ (by omega) (by omega) (by omega)]
                exact (hCs2 i hi).1.1
              · rw [fr_12 _ (by omega) (by omega) (by omega)]
                exact (hCs2 i hi).1.2
          have hr_59 : csR f len 20 0 pos Cs = (0, (cmR f len ps (Cs2 k)).2.1, k, updC Cs2 k (cmR f len ps (Cs2 k)).2.2) := by rw [hcs, show 20 - k = (20 - (k + 1)) + 1 by omega, csR, if_pos c_16]
          rw [hr_59]
          exact ⟨rfl, z_57, f_13, hCs3, fr_58⟩
  exact loop_1 _ 0 pos Cs ω (Nat.lt_succ_self _) (by first | rfl | assumption | omega | (simp; done)) (by first | rfl | assumption | omega | (simp; done)) (by exact hCs) (by rfl) rfl t0 t1 hrow (fun _ _ => rfl) _ _ _ hR hS (lv_sub hl [0, 1] rfl)
set_option maxHeartbeats 4000000 in
set_option maxRecDepth 100000 in
theorem c_X8_readAndEmpty (G : FG) (hL : FL G) (l : Launch) (ω : FWd) (adr : Nat → Nat) (hF : FTx G adr) (hJ : FJ G) (t : Nat) (f : Nat → Int32) (len pos cnt : Nat) (ft : Int32) (hT : TxtS G ω.2 t f len pos cnt ft) (hl60 : len ≤ 60) (hrow : ω.2 (t + 2) = some (.inl (G.2.1 5, 20, .inr (.inr (.inr (.inr (fun z9 => some (t + 3 + 2 * z9)))))))) (Cs : Nat → CM) (hCs : (∀ i, i < 20 → CmdS G ω.2 (t + 3 + 2 * i) (Cs i).1 (Cs i).2.1 (Cs i).2.2.1 (Cs i).2.2.2 ∧ (Cs i).2.2.1 ≤ 3)) (hfc : ∀ i, i < len → ∃ z, f i = chC z) : FMet G l yX8_readAndEmpty wsX8_readAndEmpty ({ frames := 6, cells := 0, slots := 0, locals := 132 } : Room) [.ref t] ω (fun vv9 τ9 => vv9 = none ∧ τ9.1 = ω.1 ∧ τ9.2 t = some (.inr (10, [.ref (t + 1), .int (nI 0), .int (nI (csR f len 20 0 0 Cs).2.1), .ref (t + 2), .int (nI (csR f len 20 0 0 Cs).2.2.1), .int (if (csR f len 20 0 0 Cs).1 = 0 then nI (csR f len 20 0 0 Cs).2.1 else -1)])) ∧ (∀ i, i < 20 → CmdS G τ9.2 (t + 3 + 2 * i) ((csR f len 20 0 0 Cs).2.2.2 i).1 ((csR f len 20 0 0 Cs).2.2.2 i).2.1 ((csR f len 20 0 0 Cs).2.2.2 i).2.2.1 ((csR f len 20 0 0 Cs).2.2.2 i).2.2.2 ∧ ((csR f len 20 0 0 Cs).2.2.2 i).2.2.1 ≤ 3) ∧ ∀ q : Nat, (q < t ∨ t + 43 ≤ q ∨ q = t + 1 ∨ q = t + 2) → τ9.2 q = ω.2 q) 0 0 := by
  refine fw_ofW (cc := cX8_readAndEmpty) (maxL := 1) (ret := none) (by decide) rfl (Nat.le_of_ble_eq_true rfl) ?_
  intro pP eE sS mI ar9 bl9 meth cD ls hx hb hr hlocks hml hts hown hnm hW hR hl
  have hK := hL.K hW
  have hS : va_S (fwA G) sS.heap sS.heap [] := va_S.rf
  have hin8 : ∀ w ∈ u_ws RX8 TX8 6, w ∈ wsX8_readAndEmpty := by decide +kernel
  have hl : lv_has ls 1 [(0, .ref t)] := hl
  obtain ⟨t0, t1⟩ := id hT
  refine lv_aload_n hx hb dX8_readAndEmpty_0 rfl (lv_at hl 0 rfl) ?_
  refine lv_iconst (v := 0) hx hb dX8_readAndEmpty_1 (by decide) ?_
  refine W.eq (g2 := F0 mI 2 ls [.int (nI 0), .ref t]) rfl ?_
  refine fw_put (v := .int (nI 0)) (C := RX8) (T := TX8) (N := 6) hx hb hts hin8 tyX8 tyX8_ok nmX8 hown hK hR hS t0 rfl 2 (by decide) (hts (.fieldLink RX8 33 "UnreadLeaflets$Text" "position" "I") (by decide +kernel)) rfl rfl rfl (Nat.le_of_ble_eq_true rfl) dX8_readAndEmpty_2 (fun H locs hR hS => ?_)
  obtain ⟨ω_1, hw_2⟩ : ∃ τ : FWd, τ = (ω.1, va_up ω.2 t (some (.inr (10, [.ref (t + 1), .int (nI len), .int (nI 0), .ref (t + 2), .int (nI cnt), .int ft])))) := ⟨_, rfl⟩
  have hR : fR G ω_1 H := by rw [hw_2]; exact hR
  have f_3 : ω_1.2 t = some (.inr (10, [.ref (t + 1), .int (nI len), .int (nI 0), .ref (t + 2), .int (nI cnt), .int ft])) := by rw [hw_2]; exact va_up_at
  have fr_4 : ∀ q : Nat, ¬ q = t → ω_1.2 q = ω.2 q := fun q hq => by rw [hw_2]; exact va_up_off hq
  have z_5 : ω_1.1 = ω.1 := by rw [hw_2]
  refine lv_aload_n hx hb dX8_readAndEmpty_5 rfl (lv_at hl 0 rfl) ?_
  refine lv_iconst (v := 0) hx hb dX8_readAndEmpty_6 (by decide) ?_
  refine W.eq (g2 := F0 mI 7 ls [.int (nI 0), .ref t]) rfl ?_
  refine fw_put (v := .int (nI 0)) (C := RX8) (T := TX8) (N := 6) hx hb hts hin8 tyX8 tyX8_ok nmX8 hown hK hR hS f_3 rfl 4 (by decide) (hts (.fieldLink RX8 36 "UnreadLeaflets$Text" "commandCount" "I") (by decide +kernel)) rfl rfl rfl (Nat.le_of_ble_eq_true rfl) dX8_readAndEmpty_7 (fun H locs hR hS => ?_)
  obtain ⟨ω_6, hw_7⟩ : ∃ τ : FWd, τ = (ω_1.1, va_up ω_1.2 t (some (.inr (10, [.ref (t + 1), .int (nI len), .int (nI 0), .ref (t + 2), .int (nI 0), .int ft])))) := ⟨_, rfl⟩
  have hR : fR G ω_6 H := by rw [hw_7]; exact hR
  have f_8 : ω_6.2 t = some (.inr (10, [.ref (t + 1), .int (nI len), .int (nI 0), .ref (t + 2), .int (nI 0), .int ft])) := by rw [hw_7]; exact va_up_at
  have fr_9 : ∀ q : Nat, ¬ q = t → ω_6.2 q = ω_1.2 q := fun q hq => by rw [hw_7]; exact va_up_off hq
  have z_10 : ω_6.1 = ω_1.1 := by rw [hw_7]
  refine lv_aload_n hx hb dX8_readAndEmpty_10 rfl (lv_at hl 0 rfl) ?_
  refine lv_aload_n hx hb dX8_readAndEmpty_11 rfl (lv_at hl 0 rfl) ?_
  have f_11 : ω_1.2 (t + 1) = some (.inl (G.2.1 1, 60, .inl f)) := (fr_4 (t + 1) (by omega)).trans t1
  have f_12 : ω_6.2 (t + 1) = some (.inl (G.2.1 1, 60, .inl f)) := (fr_9 (t + 1) (by omega)).trans f_11
  have f_13 : ω_1.2 (t + 2) = some (.inl (G.2.1 5, 20, .inr (.inr (.inr (.inr (fun z9 => some (t + 3 + 2 * z9))))))) := (fr_4 (t + 2) (by omega)).trans hrow
  have f_14 : ω_6.2 (t + 2) = some (.inl (G.2.1 5, 20, .inr (.inr (.inr (.inr (fun z9 => some (t + 3 + 2 * z9))))))) := (fr_9 (t + 2) (by omega)).trans f_13
  have hCs1 : (∀ i, i < 20 → CmdS G ω_6.2 (t + 3 + 2 * i) (Cs i).1 (Cs i).2.1 (Cs i).2.2.1 (Cs i).2.2.2 ∧ (Cs i).2.2.1 ≤ 3) := by
    intro i hi
    refine ⟨⟨?_, ?_⟩, (hCs i hi).2⟩
    · rw [fr_9 _ (by omega), fr_4 _ (by omega)]
      exact (hCs i hi).1.1
    · rw [fr_9 _ (by omega), fr_4 _ (by omega)]
      exact (hCs i hi).1.2
  refine fw_call (va_runV (As := []) (rest := [.ref t]) ⟨hx, hb, hml, hown, hts⟩ (c_X8_readCommands G hL l ω_6 adr hF hJ t f len 0 ft ⟨f_8, f_12⟩ hl60 (Nat.zero_le _) f_14 Cs hCs1 hfc) (cwV 0 hts gX8_readAndEmpty_X8_readCommands rfl rfl rfl (by decide +kernel) ⟨Nat.le_of_ble_eq_true rfl, Nat.le_of_ble_eq_true rfl⟩) (fw_preV hW hK hR f_8 rfl) rfl rfl hl.1 rfl (lv_room (Nat.le_of_ble_eq_true rfl)) dX8_readAndEmpty_12 ⟨Nat.le_of_ble_eq_true rfl, Nat.le_of_ble_eq_true rfl⟩) hS (fun v_15 ω_16 H locs hq_17 hR hS => ?_)
  obtain ⟨rfl, z_18, f_20, hCs4, fr_19⟩ := hq_17
  refine W.eq (g2 := F0 mI 15 ls [.int ((csR f len 20 0 0 Cs).1), .ref t]) rfl ?_
  refine lv_if_eq (tgt := 22) hx hb dX8_readAndEmpty_15 (by decide) (fun c_21 => ?_) (fun c_21 => ?_)
  · skip
    refine lv_aload_n hx hb dX8_readAndEmpty_22 rfl (lv_at hl 0 rfl) ?_
    refine fw_get (v := .int (nI (csR f len 20 0 0 Cs).2.1)) (C := RX8) (T := TX8) (N := 6) hx hb hts hin8 hown hK hR f_20 rfl 2 (by decide) (hts (.fieldLink RX8 33 "UnreadLeaflets$Text" "position" "I") (by decide +kernel)) rfl dX8_readAndEmpty_23 ?_
    refine fw_put (v := .int (nI (csR f len 20 0 0 Cs).2.1)) (C := RX8) (T := TX8) (N := 6) hx hb hts hin8 tyX8 tyX8_ok nmX8 hown hK hR hS f_20 rfl 5 (by decide) (hts (.fieldLink RX8 21 "UnreadLeaflets$Text" "fault" "I") (by decide +kernel)) rfl rfl rfl (Nat.le_of_ble_eq_true rfl) dX8_readAndEmpty_26 (fun H locs hR hS => ?_)
    obtain ⟨ω_22, hw_23⟩ : ∃ τ : FWd, τ = (ω_16.1, va_up ω_16.2 t (some (.inr (10, [.ref (t + 1), .int (nI len), .int (nI (csR f len 20 0 0 Cs).2.1), .ref (t + 2), .int (nI (csR f len 20 0 0 Cs).2.2.1), .int (nI (csR f len 20 0 0 Cs).2.1)])))) := ⟨_, rfl⟩
    have hR : fR G ω_22 H := by rw [hw_23]; exact hR
    have f_24 : ω_22.2 t = some (.inr (10, [.ref (t + 1), .int (nI len), .int (nI (csR f len 20 0 0 Cs).2.1), .ref (t + 2), .int (nI (csR f len 20 0 0 Cs).2.2.1), .int (nI (csR f len 20 0 0 Cs).2.1)])) := by rw [hw_23]; exact va_up_at
    have fr_25 : ∀ q : Nat, ¬ q = t → ω_22.2 q = ω_16.2 q := fun q hq => by rw [hw_23]; exact va_up_off hq
    have z_26 : ω_22.1 = ω_16.1 := by rw [hw_23]
    refine lv_aload_n hx hb dX8_readAndEmpty_29 rfl (lv_at hl 0 rfl) ?_
    refine lv_iconst (v := 0) hx hb dX8_readAndEmpty_30 (by decide) ?_
    refine W.eq (g2 := F0 mI 31 ls [.int (nI 0), .ref t]) rfl ?_
    refine fw_put (v := .int (nI 0)) (C := RX8) (T := TX8) (N := 6) hx hb hts hin8 tyX8 tyX8_ok nmX8 hown hK hR hS f_24 rfl 1 (by decide) (hts (.fieldLink RX8 26 "UnreadLeaflets$Text" "length" "I") (by decide +kernel)) rfl rfl rfl (Nat.le_of_ble_eq_true rfl) dX8_readAndEmpty_31 (fun H locs hR hS => ?_)
    obtain ⟨ω_27, hw_28⟩ : ∃ τ : FWd, τ = (ω_22.1, va_up ω_22.2 t (some (.inr (10, [.ref (t + 1), .int (nI 0), .int (nI (csR f len 20 0 0 Cs).2.1), .ref (t + 2), .int (nI (csR f len 20 0 0 Cs).2.2.1), .int (nI (csR f len 20 0 0 Cs).2.1)])))) := ⟨_, rfl⟩
    have hR : fR G ω_27 H := by rw [hw_28]; exact hR
    have f_29 : ω_27.2 t = some (.inr (10, [.ref (t + 1), .int (nI 0), .int (nI (csR f len 20 0 0 Cs).2.1), .ref (t + 2), .int (nI (csR f len 20 0 0 Cs).2.2.1), .int (nI (csR f len 20 0 0 Cs).2.1)])) := by rw [hw_28]; exact va_up_at
    have fr_30 : ∀ q : Nat, ¬ q = t → ω_27.2 q = ω_22.2 q := fun q hq => by rw [hw_28]; exact va_up_off hq
    have z_31 : ω_27.1 = ω_22.1 := by rw [hw_28]
    refine fw_vret hx hb hr hlocks hR hS dX8_readAndEmpty_34 ?_
    have z_32 : ω_27.1 = ω.1 := by rw [z_31, z_26, z_18, z_10, z_5]
    have fr_33 : ∀ q : Nat, (q < t ∨ t + 43 ≤ q ∨ q = t + 1 ∨ q = t + 2) → ω_27.2 q = ω.2 q := by
      intro q hq0
      rw [fr_30 q (by omega)]
      rw [fr_25 q (by omega)]
      rw [fr_19 q (by omega)]
      rw [fr_9 q (by omega)]
      rw [fr_4 q (by omega)]
    have hCs5 : (∀ i, i < 20 → CmdS G ω_27.2 (t + 3 + 2 * i) ((csR f len 20 0 0 Cs).2.2.2 i).1 ((csR f len 20 0 0 Cs).2.2.2 i).2.1 ((csR f len 20 0 0 Cs).2.2.2 i).2.2.1 ((csR f len 20 0 0 Cs).2.2.2 i).2.2.2 ∧ ((csR f len 20 0 0 Cs).2.2.2 i).2.2.1 ≤ 3) := by
      intro i hi
      refine ⟨⟨?_, ?_⟩, (hCs4 i hi).2⟩
      · rw [fr_30 _ (by omega), fr_25 _ (by omega)]
        exact (hCs4 i hi).1.1
      · rw [fr_30 _ (by omega), fr_25 _ (by omega)]
        exact (hCs4 i hi).1.2
    refine ⟨rfl, z_32, ?_, hCs5, fr_33⟩
    rw [if_pos c_21]
    exact f_29
  · skip
    refine lv_iconst (v := (-1)) hx hb dX8_readAndEmpty_18 (by decide) ?_
    refine lv_goto (tgt := 26) hx hb dX8_readAndEmpty_19 (by decide) ?_
    refine fw_put (v := .int (-1)) (C := RX8) (T := TX8) (N := 6) hx hb hts hin8 tyX8 tyX8_ok nmX8 hown hK hR hS f_20 rfl 5 (by decide) (hts (.fieldLink RX8 21 "UnreadLeaflets$Text" "fault" "I") (by decide +kernel)) rfl rfl rfl (Nat.le_of_ble_eq_true rfl) dX8_readAndEmpty_26 (fun H locs hR hS => ?_)
    obtain ⟨ω_34, hw_35⟩ : ∃ τ : FWd, τ = (ω_16.1, va_up ω_16.2 t (some (.inr (10, [.ref (t + 1), .int (nI len), .int (nI (csR f len 20 0 0 Cs).2.1), .ref (t + 2), .int (nI (csR f len 20 0 0 Cs).2.2.1), .int (-1)])))) := ⟨_, rfl⟩
    have hR : fR G ω_34 H := by rw [hw_35]; exact hR
    have f_36 : ω_34.2 t = some (.inr (10, [.ref (t + 1), .int (nI len), .int (nI (csR f len 20 0 0 Cs).2.1), .ref (t + 2), .int (nI (csR f len 20 0 0 Cs).2.2.1), .int (-1)])) := by rw [hw_35]; exact va_up_at
    have fr_37 : ∀ q : Nat, ¬ q = t → ω_34.2 q = ω_16.2 q := fun q hq => by rw [hw_35]; exact va_up_off hq
    have z_38 : ω_34.1 = ω_16.1 := by rw [hw_35]
    refine lv_aload_n hx hb dX8_readAndEmpty_29 rfl (lv_at hl 0 rfl) ?_
    refine lv_iconst (v := 0) hx hb dX8_readAndEmpty_30 (by decide) ?_
    refine W.eq (g2 := F0 mI 31 ls [.int (nI 0), .ref t]) rfl ?_
    refine fw_put (v := .int (nI 0)) (C := RX8) (T := TX8) (N := 6) hx hb hts hin8 tyX8 tyX8_ok nmX8 hown hK hR hS f_36 rfl 1 (by decide) (hts (.fieldLink RX8 26 "UnreadLeaflets$Text" "length" "I") (by decide +kernel)) rfl rfl rfl (Nat.le_of_ble_eq_true rfl) dX8_readAndEmpty_31 (fun H locs hR hS => ?_)
    obtain ⟨ω_39, hw_40⟩ : ∃ τ : FWd, τ = (ω_34.1, va_up ω_34.2 t (some (.inr (10, [.ref (t + 1), .int (nI 0), .int (nI (csR f len 20 0 0 Cs).2.1), .ref (t + 2), .int (nI (csR f len 20 0 0 Cs).2.2.1), .int (-1)])))) := ⟨_, rfl⟩
    have hR : fR G ω_39 H := by rw [hw_40]; exact hR
    have f_41 : ω_39.2 t = some (.inr (10, [.ref (t + 1), .int (nI 0), .int (nI (csR f len 20 0 0 Cs).2.1), .ref (t + 2), .int (nI (csR f len 20 0 0 Cs).2.2.1), .int (-1)])) := by rw [hw_40]; exact va_up_at
    have fr_42 : ∀ q : Nat, ¬ q = t → ω_39.2 q = ω_34.2 q := fun q hq => by rw [hw_40]; exact va_up_off hq
    have z_43 : ω_39.1 = ω_34.1 := by rw [hw_40]
    refine fw_vret hx hb hr hlocks hR hS dX8_readAndEmpty_34 ?_
    have z_44 : ω_39.1 = ω.1 := by rw [z_43, z_38, z_18, z_10, z_5]
    have fr_45 : ∀ q : Nat, (q < t ∨ t + 43 ≤ q ∨ q = t + 1 ∨ q = t + 2) → ω_39.2 q = ω.2 q := by
      intro q hq0
      rw [fr_42 q (by omega)]
      rw [fr_37 q (by omega)]
      rw [fr_19 q (by omega)]
      rw [fr_9 q (by omega)]
      rw [fr_4 q (by omega)]
    have hCs5 : (∀ i, i < 20 → CmdS G ω_39.2 (t + 3 + 2 * i) ((csR f len 20 0 0 Cs).2.2.2 i).1 ((csR f len 20 0 0 Cs).2.2.2 i).2.1 ((csR f len 20 0 0 Cs).2.2.2 i).2.2.1 ((csR f len 20 0 0 Cs).2.2.2 i).2.2.2 ∧ ((csR f len 20 0 0 Cs).2.2.2 i).2.2.1 ≤ 3) := by
      intro i hi
      refine ⟨⟨?_, ?_⟩, (hCs4 i hi).2⟩
      · rw [fr_42 _ (by omega), fr_37 _ (by omega)]
        exact (hCs4 i hi).1.1
      · rw [fr_42 _ (by omega), fr_37 _ (by omega)]
        exact (hCs4 i hi).1.2
    refine ⟨rfl, z_44, ?_, hCs5, fr_45⟩
    rw [if_neg c_21]
    exact f_41
set_option maxHeartbeats 4000000 in
set_option maxRecDepth 100000 in
theorem c_X8_isFull2 (G : FG) (hL : FL G) (l : Launch) (ω : FWd) (t : Nat) (f : Nat → Int32) (len pos cnt : Nat) (ft : Int32) (hT : TxtS G ω.2 t f len pos cnt ft) (hl60 : len ≤ 60) : FMet G l yX8_isFull wsX8_isFull ({ frames := 0, cells := 0, slots := 0, locals := 0 } : Room) [.ref t] ω (rI (bz (¬ nI len < 60)) ω) 0 0 := by
  refine fw_ofW (cc := cX8_isFull) (maxL := 1) (ret := (some .boolean)) (by decide) rfl (Nat.le_of_ble_eq_true rfl) ?_
  intro pP eE sS mI ar9 bl9 meth cD ls hx hb hr hlocks hml hts hown hnm hW hR hl
  have hK := hL.K hW
  have hS : va_S (fwA G) sS.heap sS.heap [] := va_S.rf
  have hin8 : ∀ w ∈ u_ws RX8 TX8 6, w ∈ wsX8_isFull := by decide +kernel
  have hl : lv_has ls 1 [(0, .ref t)] := hl
  obtain ⟨t0, t1⟩ := id hT
  refine lv_aload_n hx hb dX8_isFull_0 rfl (lv_at hl 0 rfl) ?_
  refine fw_get (v := .int (nI len)) (C := RX8) (T := TX8) (N := 6) hx hb hts hin8 hown hK hR t0 rfl 1 (by decide) (hts (.fieldLink RX8 26 "UnreadLeaflets$Text" "length" "I") (by decide +kernel)) rfl dX8_isFull_1 ?_
  refine lv_bipush (v := 60) hx hb dX8_isFull_4 (by decide) ?_
  refine lv_icmp_lt (tgt := 13) hx hb dX8_isFull_6 (by decide) (fun c_1 => ?_) (fun c_1 => ?_)
  · skip
    refine lv_iconst (v := 0) hx hb dX8_isFull_13 (by decide) ?_
    refine fw_zret hx hb hr rfl hlocks hR hS dX8_isFull_14 (rI_mk ?_)
    exact (bz_0 (by first | rfl | assumption | (simp_all [inB, hasB, usesB]; done) | omega)).symm
  · skip
    refine lv_iconst (v := 1) hx hb dX8_isFull_9 (by decide) ?_
    refine lv_goto (tgt := 14) hx hb dX8_isFull_10 (by decide) ?_
    refine fw_zret hx hb hr rfl hlocks hR hS dX8_isFull_14 (rI_mk ?_)
    exact (bz_1 (by first | rfl | assumption | (simp_all [inB, hasB, usesB]; done) | omega)).symm
set_option maxHeartbeats 4000000 in
set_option maxRecDepth 100000 in
theorem c_X8_add2 (G : FG) (hL : FL G) (l : Launch) (ω : FWd) (t : Nat) (f : Nat → Int32) (len pos cnt : Nat) (ft : Int32) (hT : TxtS G ω.2 t f len pos cnt ft) (hl60 : len ≤ 60) (ch : Int32) (hch : vp_nar .char ch = ch) : FMet G l yX8_add wsX8_add ({ frames := 1, cells := 0, slots := 0, locals := 20 } : Room) [.ref t, .int ch] ω (fun vv9 τ9 => vv9 = some (.int (nI (adP (f, len) ch).2)) ∧ τ9.1 = ω.1 ∧ τ9.2 t = some (.inr (10, [.ref (t + 1), .int (nI (adP (f, len) ch).2), .int (nI pos), .ref (t + 2), .int (nI cnt), .int ft])) ∧ τ9.2 (t + 1) = some (.inl (G.2.1 1, 60, .inl (adP (f, len) ch).1)) ∧ ∀ q : Nat, ¬ q = t → ¬ q = (t + 1) → τ9.2 q = ω.2 q) 0 0 := by
  refine fw_ofW (cc := cX8_add) (maxL := 2) (ret := (some .int)) (by decide) rfl (Nat.le_of_ble_eq_true rfl) ?_
  intro pP eE sS mI ar9 bl9 meth cD ls hx hb hr hlocks hml hts hown hnm hW hR hl
  have hK := hL.K hW
  have hS : va_S (fwA G) sS.heap sS.heap [] := va_S.rf
  have hin8 : ∀ w ∈ u_ws RX8 TX8 6, w ∈ wsX8_add := by decide +kernel
  have hl : lv_has ls 2 [(0, .ref t), (1, .int ch)] := hl
  obtain ⟨t0, t1⟩ := id hT
  refine lv_aload_n hx hb dX8_add_0 rfl (lv_at hl 0 rfl) ?_
  refine fw_call (va_runV (As := []) (rest := []) ⟨hx, hb, hml, hown, hts⟩ (c_X8_isFull2 G hL l ω t f len pos cnt ft ⟨t0, t1⟩ (by omega) ) (cwV 0 hts gX8_add_X8_isFull rfl rfl rfl (by decide +kernel) ⟨Nat.le_of_ble_eq_true rfl, Nat.le_of_ble_eq_true rfl⟩) (fw_preV hW hK hR t0 rfl) rfl rfl hl.1 rfl (lv_room (Nat.le_of_ble_eq_true rfl)) dX8_add_1 ⟨Nat.le_of_ble_eq_true rfl, Nat.le_of_ble_eq_true rfl⟩) hS (fun v_1 ω_2 H locs hq_3 hR hS => ?_)
  obtain ⟨rfl, hq_3⟩ := hq_3
  rw [hq_3] at hR
  refine W.eq (g2 := F0 mI 4 ls [.int (bz (¬ nI len < 60))]) rfl ?_
  refine lv_if_ne (tgt := 27) hx hb dX8_add_4 (by decide) (fun c_4 => ?_) (fun c_4 => ?_)
  · skip
    have c_4 := bz_ne c_4
    have hn : ¬ len < 60 := fun z => c_4 ((nI_ltI (b := 60) (by omega) (by omega)).mpr z)
    refine lv_aload_n hx hb dX8_add_27 rfl (lv_at hl 0 rfl) ?_
    refine fw_get (v := .int (nI len)) (C := RX8) (T := TX8) (N := 6) hx hb hts hin8 hown hK hR t0 rfl 1 (by decide) (hts (.fieldLink RX8 26 "UnreadLeaflets$Text" "length" "I") (by decide +kernel)) rfl dX8_add_28 ?_
    have fr_5 : ∀ q : Nat, ¬ q = t → ¬ q = (t + 1) → ω.2 q = ω.2 q := by
      intro q h0 h1
      rfl
    have z_6 : ω.1 = ω.1 := rfl
    refine fw_iret hx hb hr hlocks hR hS dX8_add_31 ⟨?_, z_6, ?_, ?_, fr_5⟩
    · refine congrArg (fun z => some (Value.int z)) ?_
      simp only [adP, if_neg hn, nI_1]
    · refine t0.trans (congrArg some ?_)
      simp only [adP, if_neg hn, nI_1]
    · refine t1.trans (congrArg some ?_)
      simp only [adP, if_neg hn, nI_1]
  · skip
    have c_4 := bz_eq c_4
    have hn : len < 60 := (nI_ltI (b := 60) (by omega) (by omega)).mp (Decidable.of_not_not c_4)
    refine lv_aload_n hx hb dX8_add_7 rfl (lv_at hl 0 rfl) ?_
    refine fw_get (v := .ref (t + 1)) (C := RX8) (T := TX8) (N := 6) hx hb hts hin8 hown hK hR t0 rfl 0 (by decide) (hts (.fieldLink RX8 9 "UnreadLeaflets$Text" "characters" "[C") (by decide +kernel)) rfl dX8_add_8 ?_
    refine lv_aload_n hx hb dX8_add_11 rfl (lv_at hl 0 rfl) ?_
    refine fw_get (v := .int (nI len)) (C := RX8) (T := TX8) (N := 6) hx hb hts hin8 hown hK hR t0 rfl 1 (by decide) (hts (.fieldLink RX8 26 "UnreadLeaflets$Text" "length" "I") (by decide +kernel)) rfl dX8_add_12 ?_
    refine lv_iload_n hx hb dX8_add_15 rfl (lv_at hl 1 rfl) ?_
    refine fw_cast hx hb hK hR hS t1 (vp_in_nI (by omega) (by omega)) dX8_add_16 (fun H locs hR hS => ?_)
    rw [show (nI len).toNatClampNeg = len from nI_clamp (by omega), hch] at hR
    obtain ⟨ω_7, hw_8⟩ : ∃ τ : FWd, τ = (ω.1, va_up ω.2 (t + 1) (some (.inl (G.2.1 1, 60, .inl (upd f len ch))))) := ⟨_, rfl⟩
    have hR : fR G ω_7 H := by rw [hw_8]; exact hR
    have f_9 : ω_7.2 (t + 1) = some (.inl (G.2.1 1, 60, .inl (upd f len ch))) := by rw [hw_8]; exact va_up_at
    have fr_10 : ∀ q : Nat, ¬ q = (t + 1) → ω_7.2 q = ω.2 q := fun q hq => by rw [hw_8]; exact va_up_off hq
    have z_11 : ω_7.1 = ω.1 := by rw [hw_8]
    refine lv_aload_n hx hb dX8_add_17 rfl (lv_at hl 0 rfl) ?_
    refine lv_dup hx hb dX8_add_18 rfl ?_
    have f_12 : ω_7.2 t = some (.inr (10, [.ref (t + 1), .int (nI len), .int (nI pos), .ref (t + 2), .int (nI cnt), .int ft])) := (fr_10 t (by omega)).trans t0
    refine fw_get (v := .int (nI len)) (C := RX8) (T := TX8) (N := 6) hx hb hts hin8 hown hK hR f_12 rfl 1 (by decide) (hts (.fieldLink RX8 26 "UnreadLeaflets$Text" "length" "I") (by decide +kernel)) rfl dX8_add_19 ?_
    refine lv_iconst (v := 1) hx hb dX8_add_22 (by decide) ?_
    refine lv_iadd hx hb dX8_add_23 ?_
    refine fw_put (v := .int ((nI len) + 1)) (C := RX8) (T := TX8) (N := 6) hx hb hts hin8 tyX8 tyX8_ok nmX8 hown hK hR hS f_12 rfl 1 (by decide) (hts (.fieldLink RX8 26 "UnreadLeaflets$Text" "length" "I") (by decide +kernel)) rfl rfl rfl (Nat.le_of_ble_eq_true rfl) dX8_add_24 (fun H locs hR hS => ?_)
    obtain ⟨ω_13, hw_14⟩ : ∃ τ : FWd, τ = (ω_7.1, va_up ω_7.2 t (some (.inr (10, [.ref (t + 1), .int ((nI len) + 1), .int (nI pos), .ref (t + 2), .int (nI cnt), .int ft])))) := ⟨_, rfl⟩
    have hR : fR G ω_13 H := by rw [hw_14]; exact hR
    have f_15 : ω_13.2 t = some (.inr (10, [.ref (t + 1), .int ((nI len) + 1), .int (nI pos), .ref (t + 2), .int (nI cnt), .int ft])) := by rw [hw_14]; exact va_up_at
    have fr_16 : ∀ q : Nat, ¬ q = t → ω_13.2 q = ω_7.2 q := fun q hq => by rw [hw_14]; exact va_up_off hq
    have z_17 : ω_13.1 = ω_7.1 := by rw [hw_14]
    refine lv_aload_n hx hb dX8_add_27 rfl (lv_at hl 0 rfl) ?_
    refine fw_get (v := .int ((nI len) + 1)) (C := RX8) (T := TX8) (N := 6) hx hb hts hin8 hown hK hR f_15 rfl 1 (by decide) (hts (.fieldLink RX8 26 "UnreadLeaflets$Text" "length" "I") (by decide +kernel)) rfl dX8_add_28 ?_
    have f_18 : ω_13.2 (t + 1) = some (.inl (G.2.1 1, 60, .inl (upd f len ch))) := (fr_16 (t + 1) (by omega)).trans f_9
    have fr_19 : ∀ q : Nat, ¬ q = t → ¬ q = (t + 1) → ω_13.2 q = ω.2 q := by
      intro q h0 h1
      rw [fr_16 q (by omega)]
      rw [fr_10 q (by omega)]
    have z_20 : ω_13.1 = ω.1 := by rw [z_17, z_11]
    refine fw_iret hx hb hr hlocks hR hS dX8_add_31 ⟨?_, z_20, ?_, ?_, fr_19⟩
    · refine congrArg (fun z => some (Value.int z)) ?_
      simp only [adP, if_pos hn, nI_1]
    · refine f_15.trans (congrArg some ?_)
      simp only [adP, if_pos hn, nI_1]
    · refine f_18.trans (congrArg some ?_)
      simp only [adP, if_pos hn, nI_1]
