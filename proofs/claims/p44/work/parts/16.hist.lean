/-! ===== printed by program (wip/whole/gen): the history ===== -/
set_option maxHeartbeats 4000000 in
set_option maxRecDepth 100000 in
theorem c_X4_note (G : FG) (hL : FL G) (l : Launch) (ω : FWd) (h : Nat) (R : Nat → Nat → Nat → Int32) (p ct : Nat) (hH : HisS G ω.2 h R p ct) (hp : p < 9) (hct : ct ≤ 8) (a : Nat) (v : Nat → Nat → Int32) (hA : ArcS G ω.2 a v) (hd : a + 51 ≤ h ∨ h + 461 ≤ a) (hW9 : WF v) : FMet G l yX4_note wsX4_note ({ frames := 3, cells := 0, slots := 0, locals := 103 } : Room) [.ref h, .ref a] ω (fun vv9 τ9 => vv9 = none ∧ τ9.1 = ω.1 ∧ (∃ w9, ArcS G τ9.2 (h + 2 + 51 * p) w9 ∧ Live w9 v) ∧ ∀ q : Nat, (q < h + 2 + 51 * p ∨ h + 2 + 51 * p + 51 ≤ q) → τ9.2 q = ω.2 q) 0 0 := by
  refine fw_ofW (cc := cX4_note) (maxL := 2) (ret := none) (by decide) rfl (Nat.le_of_ble_eq_true rfl) ?_
  intro pP eE sS mI ar9 bl9 meth cD ls hx hb hr hlocks hml hts hown hnm hW hR hl
  have hK := hL.K hW
  have hS : va_S (fwA G) sS.heap sS.heap [] := va_S.rf
  have hin4 : ∀ w ∈ u_ws RX4 TX4 3, w ∈ wsX4_note := by decide +kernel
  have hl : lv_has ls 2 [(0, .ref h), (1, .ref a)] := hl
  obtain ⟨g0, g1, g2⟩ := id hH
  refine lv_aload_n hx hb dX4_note_0 rfl (lv_at hl 0 rfl) ?_
  refine fw_get (v := .ref (h + 1)) (C := RX4) (T := TX4) (N := 3) hx hb hts hin4 hown hK hR g0 rfl 0 (by decide) (hts (.fieldLink RX4 13 "UnreadLeaflets$History" "rows" "[LUnreadLeaflets$Archive;") (by decide +kernel)) rfl dX4_note_1 ?_
  refine lv_aload_n hx hb dX4_note_4 rfl (lv_at hl 0 rfl) ?_
  refine fw_get (v := .int (nI p)) (C := RX4) (T := TX4) (N := 3) hx hb hts hin4 hown hK hR g0 rfl 1 (by decide) (hts (.fieldLink RX4 18 "UnreadLeaflets$History" "next" "I") (by decide +kernel)) rfl dX4_note_5 ?_
  refine fw_aald (b := h + 2 + 51 * p) hx hb hK hR g1 rfl (vp_in_nI (by omega) (by omega)) (by rw [nI_clamp (by omega)]) dX4_note_8 ?_
  refine lv_aload_n hx hb dX4_note_9 rfl (lv_at hl 1 rfl) ?_
  have f_1 : ω.2 (h + 2 + 51 * p) = some (.inr (2, [.ref (h + 2 + 51 * p + 1), .int ((R p) 0 0), .ref (h + 2 + 51 * p + 2), .int ((R p) 0 1), .ref (h + 2 + 51 * p + 3), .int ((R p) 0 2), .int ((R p) 0 3), .int ((R p) 0 4), .int ((R p) 0 5)])) := (g2 p hp).1
  refine fw_call (va_runV (As := [.ref a]) (rest := []) ⟨hx, hb, hml, hown, hts⟩ (c_X0_copyFrom G hL l ω (h + 2 + 51 * p) (a) (R p) v (g2 p hp) hA (by omega) hW9) (cwV 1 hts gX4_note_X0_copyFrom rfl rfl rfl (by decide +kernel) ⟨Nat.le_of_ble_eq_true rfl, Nat.le_of_ble_eq_true rfl⟩) (fw_preV hW hK hR f_1 rfl) rfl rfl hl.1 rfl (lv_room (Nat.le_of_ble_eq_true rfl)) dX4_note_10 ⟨Nat.le_of_ble_eq_true rfl, Nat.le_of_ble_eq_true rfl⟩) hS (fun v_2 ω_3 H locs hq_4 hR hS => ?_)
  obtain ⟨rfl, z_5, ⟨t_7, hA_8, hv_9⟩, fr_6⟩ := hq_4
  refine W.eq (g2 := F0 mI 13 ls []) rfl ?_
  refine fw_vret hx hb hr hlocks hR hS dX4_note_13 ?_
  have hz9 : ω_3.1 = ω.1 := by rw [z_5]
  have hf9 : ∀ q : Nat, (q < h + 2 + 51 * p ∨ h + 2 + 51 * p + 51 ≤ q) → ω_3.2 q = ω.2 q := by
    intro q hq0
    rw [fr_6 q (by omega)]
  exact ⟨rfl, hz9, ⟨t_7, hA_8, hv_9⟩, hf9⟩
set_option maxHeartbeats 4000000 in
set_option maxRecDepth 100000 in
theorem c_X4_keep (G : FG) (hL : FL G) (l : Launch) (ω : FWd) (h : Nat) (R : Nat → Nat → Nat → Int32) (p ct : Nat) (hH : HisS G ω.2 h R p ct) (hp : p < 9) (hct : ct ≤ 8) : FMet G l yX4_keep wsX4_keep ({ frames := 1, cells := 0, slots := 0, locals := 40 } : Room) [.ref h] ω (fun vv9 τ9 => vv9 = none ∧ τ9.1 = ω.1 ∧ τ9.2 h = some (.inr (6, [.ref (h + 1), .int (nI ((p + 1) % 9)), .int (nI (min (ct + 1) 8))])) ∧ ∀ q : Nat, ¬ q = h → τ9.2 q = ω.2 q) 0 0 := by
  refine fw_ofW (cc := cX4_keep) (maxL := 1) (ret := none) (by decide) rfl (Nat.le_of_ble_eq_true rfl) ?_
  intro pP eE sS mI ar9 bl9 meth cD ls hx hb hr hlocks hml hts hown hnm hW hR hl
  have hK := hL.K hW
  have hS : va_S (fwA G) sS.heap sS.heap [] := va_S.rf
  have hin4 : ∀ w ∈ u_ws RX4 TX4 3, w ∈ wsX4_keep := by decide +kernel
  have hl : lv_has ls 1 [(0, .ref h)] := hl
  obtain ⟨g0, g1, g2⟩ := id hH
  refine lv_aload_n hx hb dX4_keep_0 rfl (lv_at hl 0 rfl) ?_
  refine lv_aload_n hx hb dX4_keep_1 rfl (lv_at hl 0 rfl) ?_
  refine fw_get (v := .int (nI p)) (C := RX4) (T := TX4) (N := 3) hx hb hts hin4 hown hK hR g0 rfl 1 (by decide) (hts (.fieldLink RX4 18 "UnreadLeaflets$History" "next" "I") (by decide +kernel)) rfl dX4_keep_2 ?_
  refine lv_iconst (v := 1) hx hb dX4_keep_5 (by decide) ?_
  refine lv_iadd hx hb dX4_keep_6 ?_
  refine lv_bipush (v := 9) hx hb dX4_keep_7 (by decide) ?_
  refine lv_irem hx hb dX4_keep_9 (by decide) ?_
  refine W.eq (g2 := F0 mI 10 ls [.int (nI ((p + 1) % 9)), .ref h]) (by rw [rem9 hp]) ?_
  refine fw_put (v := .int (nI ((p + 1) % 9))) (C := RX4) (T := TX4) (N := 3) hx hb hts hin4 tyX4 tyX4_ok nmX4 hown hK hR hS g0 rfl 1 (by decide) (hts (.fieldLink RX4 18 "UnreadLeaflets$History" "next" "I") (by decide +kernel)) rfl rfl rfl (Nat.le_of_ble_eq_true rfl) dX4_keep_10 (fun H locs hR hS => ?_)
  obtain ⟨ω_1, hw_2⟩ : ∃ τ : FWd, τ = (ω.1, va_up ω.2 h (some (.inr (6, [.ref (h + 1), .int (nI ((p + 1) % 9)), .int (nI ct)])))) := ⟨_, rfl⟩
  have hR : fR G ω_1 H := by rw [hw_2]; exact hR
  have f_3 : ω_1.2 h = some (.inr (6, [.ref (h + 1), .int (nI ((p + 1) % 9)), .int (nI ct)])) := by rw [hw_2]; exact va_up_at
  have fr_4 : ∀ q : Nat, ¬ q = h → ω_1.2 q = ω.2 q := fun q hq => by rw [hw_2]; exact va_up_off hq
  have z_5 : ω_1.1 = ω.1 := by rw [hw_2]
  refine lv_aload_n hx hb dX4_keep_13 rfl (lv_at hl 0 rfl) ?_
  refine lv_aload_n hx hb dX4_keep_14 rfl (lv_at hl 0 rfl) ?_
  refine fw_get (v := .int (nI ct)) (C := RX4) (T := TX4) (N := 3) hx hb hts hin4 hown hK hR f_3 rfl 2 (by decide) (hts (.fieldLink RX4 26 "UnreadLeaflets$History" "count" "I") (by decide +kernel)) rfl dX4_keep_15 ?_
  refine lv_iconst (v := 1) hx hb dX4_keep_18 (by decide) ?_
  refine lv_iadd hx hb dX4_keep_19 ?_
  refine lv_bipush (v := 8) hx hb dX4_keep_20 (by decide) ?_
  refine va_mmin hx hb (hml.trans hl.1.symm) hown (index := 29) (hts (.methodLink RX4 29 Lib.Math.min.name) (by decide +kernel)) (hts (.static Lib.Math.min.name) (by decide +kernel)) (hts (.initialized "java/lang/Math") (by decide +kernel)) (hts (.code Lib.Math.min.name Lib.Math.min.code 2 (some .int)) (by decide +kernel)) (Nat.le_of_ble_eq_true rfl) (Nat.le_of_ble_eq_true rfl) (Nat.le_of_ble_eq_true rfl) (Nat.le_of_ble_eq_true rfl) dX4_keep_22 ?_
  refine W.eq (g2 := F0 mI 25 ls [.int (nI (min (ct + 1) 8)), .ref h]) (by rw [min8 hct]) ?_
  refine fw_put (v := .int (nI (min (ct + 1) 8))) (C := RX4) (T := TX4) (N := 3) hx hb hts hin4 tyX4 tyX4_ok nmX4 hown hK hR hS f_3 rfl 2 (by decide) (hts (.fieldLink RX4 26 "UnreadLeaflets$History" "count" "I") (by decide +kernel)) rfl rfl rfl (Nat.le_of_ble_eq_true rfl) dX4_keep_25 (fun H locs hR hS => ?_)
  obtain ⟨ω_6, hw_7⟩ : ∃ τ : FWd, τ = (ω_1.1, va_up ω_1.2 h (some (.inr (6, [.ref (h + 1), .int (nI ((p + 1) % 9)), .int (nI (min (ct + 1) 8))])))) := ⟨_, rfl⟩
  have hR : fR G ω_6 H := by rw [hw_7]; exact hR
  have f_8 : ω_6.2 h = some (.inr (6, [.ref (h + 1), .int (nI ((p + 1) % 9)), .int (nI (min (ct + 1) 8))])) := by rw [hw_7]; exact va_up_at
  have fr_9 : ∀ q : Nat, ¬ q = h → ω_6.2 q = ω_1.2 q := fun q hq => by rw [hw_7]; exact va_up_off hq
  have z_10 : ω_6.1 = ω_1.1 := by rw [hw_7]
  have fr_11 : ∀ q : Nat, ¬ q = h → ω_6.2 q = ω.2 q := by
    intro q h0
    rw [fr_9 q (by omega)]
    rw [fr_4 q (by omega)]
  have z_12 : ω_6.1 = ω.1 := by rw [z_10, z_5]
  refine fw_vret hx hb hr hlocks hR hS dX4_keep_28 ⟨rfl, z_12, f_8, fr_11⟩
set_option maxHeartbeats 4000000 in
set_option maxRecDepth 100000 in
theorem c_X4_forget (G : FG) (hL : FL G) (l : Launch) (ω : FWd) (h : Nat) (R : Nat → Nat → Nat → Int32) (p ct : Nat) (hH : HisS G ω.2 h R p ct) (hp : p < 9) (hct : ct ≤ 8) : FMet G l yX4_forget wsX4_forget ({ frames := 0, cells := 0, slots := 0, locals := 0 } : Room) [.ref h] ω (fun vv9 τ9 => vv9 = none ∧ τ9.1 = ω.1 ∧ τ9.2 h = some (.inr (6, [.ref (h + 1), .int (nI p), .int 0])) ∧ ∀ q : Nat, ¬ q = h → τ9.2 q = ω.2 q) 0 0 := by
  refine fw_ofW (cc := cX4_forget) (maxL := 1) (ret := none) (by decide) rfl (Nat.le_of_ble_eq_true rfl) ?_
  intro pP eE sS mI ar9 bl9 meth cD ls hx hb hr hlocks hml hts hown hnm hW hR hl
  have hK := hL.K hW
  have hS : va_S (fwA G) sS.heap sS.heap [] := va_S.rf
  have hin4 : ∀ w ∈ u_ws RX4 TX4 3, w ∈ wsX4_forget := by decide +kernel
  have hl : lv_has ls 1 [(0, .ref h)] := hl
  obtain ⟨g0, g1, g2⟩ := id hH
  refine lv_aload_n hx hb dX4_forget_0 rfl (lv_at hl 0 rfl) ?_
  refine lv_iconst (v := 0) hx hb dX4_forget_1 (by decide) ?_
  refine fw_put (v := .int 0) (C := RX4) (T := TX4) (N := 3) hx hb hts hin4 tyX4 tyX4_ok nmX4 hown hK hR hS g0 rfl 2 (by decide) (hts (.fieldLink RX4 26 "UnreadLeaflets$History" "count" "I") (by decide +kernel)) rfl rfl rfl (Nat.le_of_ble_eq_true rfl) dX4_forget_2 (fun H locs hR hS => ?_)
  obtain ⟨ω_1, hw_2⟩ : ∃ τ : FWd, τ = (ω.1, va_up ω.2 h (some (.inr (6, [.ref (h + 1), .int (nI p), .int 0])))) := ⟨_, rfl⟩
  have hR : fR G ω_1 H := by rw [hw_2]; exact hR
  have f_3 : ω_1.2 h = some (.inr (6, [.ref (h + 1), .int (nI p), .int 0])) := by rw [hw_2]; exact va_up_at
  have fr_4 : ∀ q : Nat, ¬ q = h → ω_1.2 q = ω.2 q := fun q hq => by rw [hw_2]; exact va_up_off hq
  have z_5 : ω_1.1 = ω.1 := by rw [hw_2]
  have fr_6 : ∀ q : Nat, ¬ q = h → ω_1.2 q = ω.2 q := by
    intro q h0
    rw [fr_4 q (by omega)]
  have z_7 : ω_1.1 = ω.1 := by rw [z_5]
  refine fw_vret hx hb hr hlocks hR hS dX4_forget_5 ⟨rfl, z_7, f_3, fr_6⟩
set_option maxHeartbeats 4000000 in
set_option maxRecDepth 100000 in
theorem c_X4_takeBack (G : FG) (hL : FL G) (l : Launch) (ω : FWd) (h : Nat) (R : Nat → Nat → Nat → Int32) (p ct : Nat) (hH : HisS G ω.2 h R p ct) (hp : p < 9) (hct : ct ≤ 8) (a : Nat) (v : Nat → Nat → Int32) (hA : ArcS G ω.2 a v) (hd : a + 51 ≤ h ∨ h + 461 ≤ a) (hW9 : WF (R p)) : FMet G l yX4_takeBack wsX4_takeBack ({ frames := 3, cells := 0, slots := 0, locals := 103 } : Room) [.ref h, .ref a] ω (fun vv9 τ9 => vv9 = none ∧ τ9.1 = ω.1 ∧ (∃ w9, ArcS G τ9.2 a w9 ∧ Live w9 (R p)) ∧ ∀ q : Nat, (q < a ∨ a + 51 ≤ q) → τ9.2 q = ω.2 q) 0 0 := by
  refine fw_ofW (cc := cX4_takeBack) (maxL := 2) (ret := none) (by decide) rfl (Nat.le_of_ble_eq_true rfl) ?_
  intro pP eE sS mI ar9 bl9 meth cD ls hx hb hr hlocks hml hts hown hnm hW hR hl
  have hK := hL.K hW
  have hS : va_S (fwA G) sS.heap sS.heap [] := va_S.rf
  have hin4 : ∀ w ∈ u_ws RX4 TX4 3, w ∈ wsX4_takeBack := by decide +kernel
  have hl : lv_has ls 2 [(0, .ref h), (1, .ref a)] := hl
  obtain ⟨g0, g1, g2⟩ := id hH
  refine lv_aload_n hx hb dX4_takeBack_0 rfl (lv_at hl 1 rfl) ?_
  refine lv_aload_n hx hb dX4_takeBack_1 rfl (lv_at hl 0 rfl) ?_
  refine fw_get (v := .ref (h + 1)) (C := RX4) (T := TX4) (N := 3) hx hb hts hin4 hown hK hR g0 rfl 0 (by decide) (hts (.fieldLink RX4 13 "UnreadLeaflets$History" "rows" "[LUnreadLeaflets$Archive;") (by decide +kernel)) rfl dX4_takeBack_2 ?_
  refine lv_aload_n hx hb dX4_takeBack_5 rfl (lv_at hl 0 rfl) ?_
  refine fw_get (v := .int (nI p)) (C := RX4) (T := TX4) (N := 3) hx hb hts hin4 hown hK hR g0 rfl 1 (by decide) (hts (.fieldLink RX4 18 "UnreadLeaflets$History" "next" "I") (by decide +kernel)) rfl dX4_takeBack_6 ?_
  refine fw_aald (b := h + 2 + 51 * p) hx hb hK hR g1 rfl (vp_in_nI (by omega) (by omega)) (by rw [nI_clamp (by omega)]) dX4_takeBack_9 ?_
  have f_1 : ω.2 a = some (.inr (2, [.ref (a + 1), .int (v 0 0), .ref (a + 2), .int (v 0 1), .ref (a + 3), .int (v 0 2), .int (v 0 3), .int (v 0 4), .int (v 0 5)])) := hA.1
  refine fw_call (va_runV (As := [.ref (h + 2 + 51 * p)]) (rest := []) ⟨hx, hb, hml, hown, hts⟩ (c_X0_copyFrom G hL l ω (a) (h + 2 + 51 * p) v (R p) hA (g2 p hp) (by omega) hW9) (cwV 1 hts gX4_takeBack_X0_copyFrom rfl rfl rfl (by decide +kernel) ⟨Nat.le_of_ble_eq_true rfl, Nat.le_of_ble_eq_true rfl⟩) (fw_preV hW hK hR f_1 rfl) rfl rfl hl.1 rfl (lv_room (Nat.le_of_ble_eq_true rfl)) dX4_takeBack_10 ⟨Nat.le_of_ble_eq_true rfl, Nat.le_of_ble_eq_true rfl⟩) hS (fun v_2 ω_3 H locs hq_4 hR hS => ?_)
  obtain ⟨rfl, z_5, ⟨t_7, hA_8, hv_9⟩, fr_6⟩ := hq_4
  refine W.eq (g2 := F0 mI 13 ls []) rfl ?_
  refine fw_vret hx hb hr hlocks hR hS dX4_takeBack_13 ?_
  have hz9 : ω_3.1 = ω.1 := by rw [z_5]
  have hf9 : ∀ q : Nat, (q < a ∨ a + 51 ≤ q) → ω_3.2 q = ω.2 q := by
    intro q hq0
    rw [fr_6 q (by omega)]
  exact ⟨rfl, hz9, ⟨t_7, hA_8, hv_9⟩, hf9⟩
set_option maxHeartbeats 4000000 in
set_option maxRecDepth 100000 in
theorem c_X4_stepBack (G : FG) (hL : FL G) (l : Launch) (ω : FWd) (h : Nat) (R : Nat → Nat → Nat → Int32) (p ct : Nat) (hH : HisS G ω.2 h R p ct) (hp : p < 9) (hct : ct ≤ 8) (a : Nat) (v : Nat → Nat → Int32) (hA : ArcS G ω.2 a v) (hd : a + 51 ≤ h ∨ h + 461 ≤ a) (h1ct : 0 < ct) (hW9 : WF (R ((p + 8) % 9))) : FMet G l yX4_stepBack wsX4_stepBack ({ frames := 3, cells := 0, slots := 0, locals := 103 } : Room) [.ref h, .ref a] ω (fun vv9 τ9 => vv9 = none ∧ τ9.1 = ω.1 ∧ τ9.2 h = some (.inr (6, [.ref (h + 1), .int (nI ((p + 8) % 9)), .int (nI (ct - 1))])) ∧ (∃ w9, ArcS G τ9.2 a w9 ∧ Live w9 (R ((p + 8) % 9))) ∧ ∀ q : Nat, (q < a ∨ a + 51 ≤ q) → ¬ q = h → τ9.2 q = ω.2 q) 0 0 := by
  refine fw_ofW (cc := cX4_stepBack) (maxL := 2) (ret := none) (by decide) rfl (Nat.le_of_ble_eq_true rfl) ?_
  intro pP eE sS mI ar9 bl9 meth cD ls hx hb hr hlocks hml hts hown hnm hW hR hl
  have hK := hL.K hW
  have hS : va_S (fwA G) sS.heap sS.heap [] := va_S.rf
  have hin4 : ∀ w ∈ u_ws RX4 TX4 3, w ∈ wsX4_stepBack := by decide +kernel
  have hl : lv_has ls 2 [(0, .ref h), (1, .ref a)] := hl
  obtain ⟨g0, g1, g2⟩ := id hH
  have hp8 : ((p + 8) % 9) < 9 := Nat.mod_lt _ (by decide)
  refine lv_aload_n hx hb dX4_stepBack_0 rfl (lv_at hl 0 rfl) ?_
  refine lv_aload_n hx hb dX4_stepBack_1 rfl (lv_at hl 0 rfl) ?_
  refine fw_get (v := .int (nI p)) (C := RX4) (T := TX4) (N := 3) hx hb hts hin4 hown hK hR g0 rfl 1 (by decide) (hts (.fieldLink RX4 18 "UnreadLeaflets$History" "next" "I") (by decide +kernel)) rfl dX4_stepBack_2 ?_
  refine lv_bipush (v := 9) hx hb dX4_stepBack_5 (by decide) ?_
  refine lv_iadd hx hb dX4_stepBack_7 ?_
  refine lv_iconst (v := 1) hx hb dX4_stepBack_8 (by decide) ?_
  refine lv_isub hx hb dX4_stepBack_9 ?_
  refine lv_bipush (v := 9) hx hb dX4_stepBack_10 (by decide) ?_
  refine lv_irem hx hb dX4_stepBack_12 (by decide) ?_
  refine W.eq (g2 := F0 mI 13 ls [.int (nI ((p + 8) % 9)), .ref h]) (by rw [rem9b hp]) ?_
  refine fw_put (v := .int (nI ((p + 8) % 9))) (C := RX4) (T := TX4) (N := 3) hx hb hts hin4 tyX4 tyX4_ok nmX4 hown hK hR hS g0 rfl 1 (by decide) (hts (.fieldLink RX4 18 "UnreadLeaflets$History" "next" "I") (by decide +kernel)) rfl rfl rfl (Nat.le_of_ble_eq_true rfl) dX4_stepBack_13 (fun H locs hR hS => ?_)
  obtain ⟨ω_1, hw_2⟩ : ∃ τ : FWd, τ = (ω.1, va_up ω.2 h (some (.inr (6, [.ref (h + 1), .int (nI ((p + 8) % 9)), .int (nI ct)])))) := ⟨_, rfl⟩
  have hR : fR G ω_1 H := by rw [hw_2]; exact hR
  have f_3 : ω_1.2 h = some (.inr (6, [.ref (h + 1), .int (nI ((p + 8) % 9)), .int (nI ct)])) := by rw [hw_2]; exact va_up_at
  have fr_4 : ∀ q : Nat, ¬ q = h → ω_1.2 q = ω.2 q := fun q hq => by rw [hw_2]; exact va_up_off hq
  have z_5 : ω_1.1 = ω.1 := by rw [hw_2]
  refine lv_aload_n hx hb dX4_stepBack_16 rfl (lv_at hl 0 rfl) ?_
  refine lv_dup hx hb dX4_stepBack_17 rfl ?_
  refine fw_get (v := .int (nI ct)) (C := RX4) (T := TX4) (N := 3) hx hb hts hin4 hown hK hR f_3 rfl 2 (by decide) (hts (.fieldLink RX4 26 "UnreadLeaflets$History" "count" "I") (by decide +kernel)) rfl dX4_stepBack_18 ?_
  refine lv_iconst (v := 1) hx hb dX4_stepBack_21 (by decide) ?_
  refine lv_isub hx hb dX4_stepBack_22 ?_
  refine W.eq (g2 := F0 mI 23 ls [.int (nI (ct - 1)), .ref h]) (by rw [nI_m1 h1ct]) ?_
  refine fw_put (v := .int (nI (ct - 1))) (C := RX4) (T := TX4) (N := 3) hx hb hts hin4 tyX4 tyX4_ok nmX4 hown hK hR hS f_3 rfl 2 (by decide) (hts (.fieldLink RX4 26 "UnreadLeaflets$History" "count" "I") (by decide +kernel)) rfl rfl rfl (Nat.le_of_ble_eq_true rfl) dX4_stepBack_23 (fun H locs hR hS => ?_)
  obtain ⟨ω_6, hw_7⟩ : ∃ τ : FWd, τ = (ω_1.1, va_up ω_1.2 h (some (.inr (6, [.ref (h + 1), .int (nI ((p + 8) % 9)), .int (nI (ct - 1))])))) := ⟨_, rfl⟩
  have hR : fR G ω_6 H := by rw [hw_7]; exact hR
  have f_8 : ω_6.2 h = some (.inr (6, [.ref (h + 1), .int (nI ((p + 8) % 9)), .int (nI (ct - 1))])) := by rw [hw_7]; exact va_up_at
  have fr_9 : ∀ q : Nat, ¬ q = h → ω_6.2 q = ω_1.2 q := fun q hq => by rw [hw_7]; exact va_up_off hq
  have z_10 : ω_6.1 = ω_1.1 := by rw [hw_7]
  refine lv_aload_n hx hb dX4_stepBack_26 rfl (lv_at hl 1 rfl) ?_
  refine lv_aload_n hx hb dX4_stepBack_27 rfl (lv_at hl 0 rfl) ?_
  refine fw_get (v := .ref (h + 1)) (C := RX4) (T := TX4) (N := 3) hx hb hts hin4 hown hK hR f_8 rfl 0 (by decide) (hts (.fieldLink RX4 13 "UnreadLeaflets$History" "rows" "[LUnreadLeaflets$Archive;") (by decide +kernel)) rfl dX4_stepBack_28 ?_
  refine lv_aload_n hx hb dX4_stepBack_31 rfl (lv_at hl 0 rfl) ?_
  refine fw_get (v := .int (nI ((p + 8) % 9))) (C := RX4) (T := TX4) (N := 3) hx hb hts hin4 hown hK hR f_8 rfl 1 (by decide) (hts (.fieldLink RX4 18 "UnreadLeaflets$History" "next" "I") (by decide +kernel)) rfl dX4_stepBack_32 ?_
  have f_11 : ω_1.2 (h + 1) = some (.inl (G.2.1 4, 9, .inr (.inr (.inr (.inr (fun z9 => some (h + 2 + 51 * z9))))))) := (fr_4 (h + 1) (by omega)).trans g1
  have f_12 : ω_6.2 (h + 1) = some (.inl (G.2.1 4, 9, .inr (.inr (.inr (.inr (fun z9 => some (h + 2 + 51 * z9))))))) := (fr_9 (h + 1) (by omega)).trans f_11
  refine fw_aald (b := h + 2 + 51 * ((p + 8) % 9)) hx hb hK hR f_12 rfl (vp_in_nI (by omega) (by omega)) (by rw [nI_clamp (by omega)]) dX4_stepBack_35 ?_
  have hAk : ArcS G ω_6.2 (a) v := (hA).keep (fun q q1 q2 => by
    rw [fr_9 q (by omega)]
    rw [fr_4 q (by omega)])
  have hRk : ArcS G ω_6.2 (h + 2 + 51 * ((p + 8) % 9)) (R ((p + 8) % 9)) := (g2 _ hp8).keep (fun q q1 q2 => by
    rw [fr_9 q (by omega)]
    rw [fr_4 q (by omega)])
  have f_13 : ω.2 a = some (.inr (2, [.ref (a + 1), .int (v 0 0), .ref (a + 2), .int (v 0 1), .ref (a + 3), .int (v 0 2), .int (v 0 3), .int (v 0 4), .int (v 0 5)])) := hA.1
  have f_14 : ω_1.2 a = some (.inr (2, [.ref (a + 1), .int (v 0 0), .ref (a + 2), .int (v 0 1), .ref (a + 3), .int (v 0 2), .int (v 0 3), .int (v 0 4), .int (v 0 5)])) := (fr_4 a (by omega)).trans f_13
  have f_15 : ω_6.2 a = some (.inr (2, [.ref (a + 1), .int (v 0 0), .ref (a + 2), .int (v 0 1), .ref (a + 3), .int (v 0 2), .int (v 0 3), .int (v 0 4), .int (v 0 5)])) := (fr_9 a (by omega)).trans f_14
  refine fw_call (va_runV (As := [.ref (h + 2 + 51 * ((p + 8) % 9))]) (rest := []) ⟨hx, hb, hml, hown, hts⟩ (c_X0_copyFrom G hL l ω_6 (a) (h + 2 + 51 * ((p + 8) % 9)) v (R ((p + 8) % 9)) hAk hRk (by omega) hW9) (cwV 1 hts gX4_stepBack_X0_copyFrom rfl rfl rfl (by decide +kernel) ⟨Nat.le_of_ble_eq_true rfl, Nat.le_of_ble_eq_true rfl⟩) (fw_preV hW hK hR f_15 rfl) rfl rfl hl.1 rfl (lv_room (Nat.le_of_ble_eq_true rfl)) dX4_stepBack_36 ⟨Nat.le_of_ble_eq_true rfl, Nat.le_of_ble_eq_true rfl⟩) hS (fun v_16 ω_17 H locs hq_18 hR hS => ?_)
  obtain ⟨rfl, z_19, ⟨t_21, hA_22, hv_23⟩, fr_20⟩ := hq_18
  refine W.eq (g2 := F0 mI 39 ls []) rfl ?_
  refine fw_vret hx hb hr hlocks hR hS dX4_stepBack_39 ?_
  have hz9 : ω_17.1 = ω.1 := by rw [z_19, z_10, z_5]
  have hf9 : ∀ q : Nat, (q < a ∨ a + 51 ≤ q) → ¬ q = h → ω_17.2 q = ω.2 q := by
    intro q hq0 hq1
    rw [fr_20 q (by omega)]
    rw [fr_9 q (by omega)]
    rw [fr_4 q (by omega)]
  have f_24 : ω_17.2 h = some (.inr (6, [.ref (h + 1), .int (nI ((p + 8) % 9)), .int (nI (ct - 1))])) := (fr_20 h (by omega)).trans f_8
  exact ⟨rfl, hz9, f_24, ⟨t_21, hA_22, hv_23⟩, hf9⟩
