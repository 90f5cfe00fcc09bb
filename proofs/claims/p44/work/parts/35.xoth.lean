/-! ===== printed by program (wip/whole/gen): undo, the snapshot, one more character, lines, what could be finished ===== -/
set_option maxHeartbeats 4000000 in
set_option maxRecDepth 100000 in
theorem c_X10_save (G : FG) (hL : FL G) (l : Launch) (ω : FWd) (x y a hs0 sn tx ln tt : Nat) (v w : Nat → Nat → Int32) (hsn : Int32) (hXA : XA x y a hs0 sn tx ln tt) (hx0 : ω.2 x = some (.inr (12, [.ref y, .ref a, .ref (a + 51), .ref hs0, .ref sn, .int hsn, .ref tx, .ref ln, .ref tt]))) (hA : ArcS G ω.2 a v) (hB : ArcS G ω.2 sn w) (hW0 : WF v) : FMet G l yX10_save wsX10_save ({ frames := 3, cells := 0, slots := 0, locals := 103 } : Room) [.ref x] ω (fun vv9 τ9 => vv9 = some (.int (v 0 0)) ∧ τ9.1 = ω.1 ∧ (∃ w9, ArcS G τ9.2 sn w9 ∧ Live w9 v) ∧ τ9.2 x = some (.inr (12, [.ref y, .ref a, .ref (a + 51), .ref hs0, .ref sn, .int 1, .ref tx, .ref ln, .ref tt])) ∧ ∀ q : Nat, (q < x ∨ (x < q ∧ q < sn) ∨ sn + 51 ≤ q) → τ9.2 q = ω.2 q) 0 0 := by
  refine fw_ofW (cc := cX10_save) (maxL := 1) (ret := (some .int)) (by decide) rfl (Nat.le_of_ble_eq_true rfl) ?_
  intro pP eE sS mI ar9 bl9 meth cD ls hx hb hr hlocks hml hts hown hnm hW hR hl
  have hK := hL.K hW
  have hS : va_S (fwA G) sS.heap sS.heap [] := va_S.rf
  have hin0 : ∀ w ∈ u_ws RX0 TX0 9, w ∈ wsX10_save := by decide +kernel
  have hin10 : ∀ w ∈ u_ws RX10 TX10 9, w ∈ wsX10_save := by decide +kernel
  have hl : lv_has ls 1 [(0, .ref x)] := hl
  obtain ⟨h0, h1, h2, h3, h4, h5, hLf, hCo⟩ := id hA
  obtain ⟨hxy, hxa, hxh, hxs, hxt, hxl, hxu⟩ := id hXA
  refine lv_aload_n hx hb dX10_save_0 rfl (lv_at hl 0 rfl) ?_
  refine fw_get (v := .ref sn) (C := RX10) (T := TX10) (N := 9) hx hb hts hin10 hown hK hR hx0 rfl 4 (by decide) (hts (.fieldLink RX10 36 "UnreadLeaflets" "snapshot" "LUnreadLeaflets$Archive;") (by decide +kernel)) rfl dX10_save_1 ?_
  refine lv_aload_n hx hb dX10_save_4 rfl (lv_at hl 0 rfl) ?_
  refine fw_get (v := .ref a) (C := RX10) (T := TX10) (N := 9) hx hb hts hin10 hown hK hR hx0 rfl 1 (by decide) (hts (.fieldLink RX10 20 "UnreadLeaflets" "archive" "LUnreadLeaflets$Archive;") (by decide +kernel)) rfl dX10_save_5 ?_
  refine fw_call (va_runV (As := [.ref a]) (rest := []) ⟨hx, hb, hml, hown, hts⟩ (c_X0_copyFrom G hL l ω sn a w v hB hA (by omega) hW0) (cwV 1 hts gX10_save_X0_copyFrom rfl rfl rfl (by decide +kernel) ⟨Nat.le_of_ble_eq_true rfl, Nat.le_of_ble_eq_true rfl⟩) (fw_preV hW hK hR hB.1 rfl) rfl rfl hl.1 rfl (lv_room (Nat.le_of_ble_eq_true rfl)) dX10_save_8 ⟨Nat.le_of_ble_eq_true rfl, Nat.le_of_ble_eq_true rfl⟩) hS (fun v_1 ω_2 H locs hq_3 hR hS => ?_)
  obtain ⟨rfl, z_4, ⟨w9, hA9, hl9⟩, fr_5⟩ := hq_3
  refine W.eq (g2 := F0 mI 11 ls []) rfl ?_
  refine lv_aload_n hx hb dX10_save_11 rfl (lv_at hl 0 rfl) ?_
  refine lv_iconst (v := 1) hx hb dX10_save_12 (by decide) ?_
  have f_6 : ω_2.2 x = some (.inr (12, [.ref y, .ref a, .ref (a + 51), .ref hs0, .ref sn, .int hsn, .ref tx, .ref ln, .ref tt])) := (fr_5 x (by omega)).trans hx0
  refine fw_put (v := .int 1) (C := RX10) (T := TX10) (N := 9) hx hb hts hin10 tyX10 tyX10_ok nmX10 hown hK hR hS f_6 rfl 5 (by decide) (hts (.fieldLink RX10 442 "UnreadLeaflets" "hasSnapshot" "Z") (by decide +kernel)) rfl rfl rfl (Nat.le_of_ble_eq_true rfl) dX10_save_13 (fun H locs hR hS => ?_)
  obtain ⟨ω_7, hw_8⟩ : ∃ τ : FWd, τ = (ω_2.1, va_up ω_2.2 x (some (.inr (12, [.ref y, .ref a, .ref (a + 51), .ref hs0, .ref sn, .int 1, .ref tx, .ref ln, .ref tt])))) := ⟨_, rfl⟩
  have hR : fR G ω_7 H := by rw [hw_8]; exact hR
  have f_9 : ω_7.2 x = some (.inr (12, [.ref y, .ref a, .ref (a + 51), .ref hs0, .ref sn, .int 1, .ref tx, .ref ln, .ref tt])) := by rw [hw_8]; exact va_up_at
  have fr_10 : ∀ q : Nat, ¬ q = x → ω_7.2 q = ω_2.2 q := fun q hq => by rw [hw_8]; exact va_up_off hq
  have z_11 : ω_7.1 = ω_2.1 := by rw [hw_8]
  refine lv_aload_n hx hb dX10_save_16 rfl (lv_at hl 0 rfl) ?_
  refine fw_get (v := .ref a) (C := RX10) (T := TX10) (N := 9) hx hb hts hin10 hown hK hR f_9 rfl 1 (by decide) (hts (.fieldLink RX10 20 "UnreadLeaflets" "archive" "LUnreadLeaflets$Archive;") (by decide +kernel)) rfl dX10_save_17 ?_
  have f_12 : ω_2.2 a = some (.inr (2, [.ref (a + 1), .int (v 0 0), .ref (a + 2), .int (v 0 1), .ref (a + 3), .int (v 0 2), .int (v 0 3), .int (v 0 4), .int (v 0 5)])) := (fr_5 a (by omega)).trans h0
  have f_13 : ω_7.2 a = some (.inr (2, [.ref (a + 1), .int (v 0 0), .ref (a + 2), .int (v 0 1), .ref (a + 3), .int (v 0 2), .int (v 0 3), .int (v 0 4), .int (v 0 5)])) := (fr_10 a (by omega)).trans f_12
  refine fw_get (v := .int (v 0 0)) (C := RX0) (T := TX0) (N := 9) hx hb hts hin0 hown hK hR f_13 rfl 1 (by decide) (hts (.fieldLink RX10 303 "UnreadLeaflets$Archive" "leafletCount" "I") (by decide +kernel)) rfl dX10_save_20 ?_
  refine fw_iret hx hb hr hlocks hR hS dX10_save_23 ?_
  have hz9 : ω_7.1 = ω.1 := by rw [z_11, z_4]
  have hfr9 : ∀ q : Nat, (q < x ∨ (x < q ∧ q < sn) ∨ sn + 51 ≤ q) → ω_7.2 q = ω.2 q := by
    intro q hq0
    rw [fr_10 q (by omega)]
    rw [fr_5 q (by omega)]
  have hB9 : ArcS G ω_7.2 sn w9 := hA9.keep (fun q q1 q2 => by rw [fr_10 q (by omega)])
  exact ⟨rfl, hz9, ⟨w9, hB9, hl9⟩, f_9, hfr9⟩
set_option maxHeartbeats 4000000 in
set_option maxRecDepth 100000 in
theorem c_X10_restore (G : FG) (hL : FL G) (l : Launch) (hX0 : FX0 G l) (ω : FWd) (x y a hs0 sn tx ln tt : Nat) (v w : Nat → Nat → Int32) (hsn : Int32) (hXA : XA x y a hs0 sn tx ln tt) (hx0 : ω.2 x = some (.inr (12, [.ref y, .ref a, .ref (a + 51), .ref hs0, .ref sn, .int hsn, .ref tx, .ref ln, .ref tt]))) (hA : ArcS G ω.2 a v) (hB : ArcS G ω.2 sn w) (R : Nat → Nat → Nat → Int32) (p ct : Nat) (hH : HisS G ω.2 hs0 R p ct) (hp : p < 9) (hct : ct ≤ 8) (hW2 : ¬ hsn = 0 → WF w) : FMetX G l yX10_restore wsX10_restore ({ frames := 6, cells := 1, slots := 6, locals := 103 } : Room) [.ref x] ω (fun vv9 τ9 => vv9 = some (.int (w 0 0)) ∧ ¬ hsn = 0 ∧ (∃ w9, ArcS G τ9.2 a w9 ∧ Live w9 w) ∧ HisS G τ9.2 hs0 R p 0 ∧ ∀ q : Nat, (q < a ∨ q = a + 51 ∨ hs0 + 461 ≤ q) → τ9.2 q = ω.2 q) (fun E9 τ9 => E9 = "java/lang/IllegalStateException" ∧ hsn = 0 ∧ τ9.2 = ω.2) 1 6 := by
  refine fx_ofW (cc := cX10_restore) (maxL := 1) (ret := (some .int)) (by decide) rfl (Nat.le_of_ble_eq_true rfl) ?_
  intro pP eE sS mI ar9 bl9 meth cD ls hx hb hr hlocks hml hts hown hnm hW hR ht9 hl
  have hK := hL.K hW
  have hR0 := hR
  have hS : va_S (fwA G) sS.heap sS.heap [] := va_S.rf
  have hin0 : ∀ w ∈ u_ws RX0 TX0 9, w ∈ wsX10_restore := by decide +kernel
  have hin10 : ∀ w ∈ u_ws RX10 TX10 9, w ∈ wsX10_restore := by decide +kernel
  have hl : lv_has ls 1 [(0, .ref x)] := hl
  obtain ⟨h0, h1, h2, h3, h4, h5, hLf, hCo⟩ := id hA
  obtain ⟨hxy, hxa, hxh, hxs, hxt, hxl, hxu⟩ := id hXA
  obtain ⟨g0, g1, g2⟩ := id hH
  refine lv_aload_n hx hb dX10_restore_0 rfl (lv_at hl 0 rfl) ?_
  refine fw_get (v := .int hsn) (C := RX10) (T := TX10) (N := 9) hx hb hts hin10 hown hK hR hx0 rfl 5 (by decide) (hts (.fieldLink RX10 442 "UnreadLeaflets" "hasSnapshot" "Z") (by decide +kernel)) rfl dX10_restore_1 ?_
  refine lv_if_ne (tgt := 18) hx hb dX10_restore_4 (by decide) (fun c_1 => ?_) (fun c_1 => ?_)
  · skip
    have hW2 := hW2 c_1
    have hn9 := c_1
    refine lv_aload_n hx hb dX10_restore_18 rfl (lv_at hl 0 rfl) ?_
    refine fw_get (v := .ref a) (C := RX10) (T := TX10) (N := 9) hx hb hts hin10 hown hK hR hx0 rfl 1 (by decide) (hts (.fieldLink RX10 20 "UnreadLeaflets" "archive" "LUnreadLeaflets$Archive;") (by decide +kernel)) rfl dX10_restore_19 ?_
    refine lv_aload_n hx hb dX10_restore_22 rfl (lv_at hl 0 rfl) ?_
    refine fw_get (v := .ref sn) (C := RX10) (T := TX10) (N := 9) hx hb hts hin10 hown hK hR hx0 rfl 4 (by decide) (hts (.fieldLink RX10 36 "UnreadLeaflets" "snapshot" "LUnreadLeaflets$Archive;") (by decide +kernel)) rfl dX10_restore_23 ?_
    refine fw_call (va_runV (As := [.ref sn]) (rest := []) ⟨hx, hb, hml, hown, hts⟩ (c_X0_copyFrom G hL l ω a sn v w hA hB (by omega) hW2) (cwV 1 hts gX10_restore_X0_copyFrom rfl rfl rfl (by decide +kernel) ⟨Nat.le_of_ble_eq_true rfl, Nat.le_of_ble_eq_true rfl⟩) (fw_preV hW hK hR h0 rfl) rfl rfl hl.1 rfl (lv_room (Nat.le_of_ble_eq_true rfl)) dX10_restore_26 ⟨Nat.le_of_ble_eq_true rfl, Nat.le_of_ble_eq_true rfl⟩) hS (fun v_2 ω_3 H locs hq_4 hR hS => ?_)
    obtain ⟨rfl, z_5, ⟨w9, hA9, hl9⟩, fr_6⟩ := hq_4
    refine W.eq (g2 := F0 mI 29 ls []) rfl ?_
    refine lv_aload_n hx hb dX10_restore_29 rfl (lv_at hl 0 rfl) ?_
    have f_7 : ω_3.2 x = some (.inr (12, [.ref y, .ref a, .ref (a + 51), .ref hs0, .ref sn, .int hsn, .ref tx, .ref ln, .ref tt])) := (fr_6 x (by omega)).trans hx0
    refine fw_get (v := .ref hs0) (C := RX10) (T := TX10) (N := 9) hx hb hts hin10 hown hK hR f_7 rfl 3 (by decide) (hts (.fieldLink RX10 29 "UnreadLeaflets" "history" "LUnreadLeaflets$History;") (by decide +kernel)) rfl dX10_restore_30 ?_
    have hHk : HisS G ω_3.2 hs0 R p ct := (hH).keep (fun q q1 q2 => by
      rw [fr_6 q (by omega)])
    have f_8 : ω_3.2 hs0 = some (.inr (6, [.ref (hs0 + 1), .int (nI p), .int (nI ct)])) := (fr_6 hs0 (by omega)).trans g0
    refine fw_call (va_runV (As := []) (rest := []) ⟨hx, hb, hml, hown, hts⟩ (c_X4_forget G hL l ω_3 hs0 R p ct hHk hp hct) (cwV 0 hts gX10_restore_X4_forget rfl rfl rfl (by decide +kernel) ⟨Nat.le_of_ble_eq_true rfl, Nat.le_of_ble_eq_true rfl⟩) (fw_preV hW hK hR f_8 rfl) rfl rfl hl.1 rfl (lv_room (Nat.le_of_ble_eq_true rfl)) dX10_restore_33 ⟨Nat.le_of_ble_eq_true rfl, Nat.le_of_ble_eq_true rfl⟩) hS (fun v_9 ω_10 H locs hq_11 hR hS => ?_)
    obtain ⟨rfl, z_12, hh9, fr_13⟩ := hq_11
    refine W.eq (g2 := F0 mI 36 ls []) rfl ?_
    refine lv_aload_n hx hb dX10_restore_36 rfl (lv_at hl 0 rfl) ?_
    have f_14 : ω_10.2 x = some (.inr (12, [.ref y, .ref a, .ref (a + 51), .ref hs0, .ref sn, .int hsn, .ref tx, .ref ln, .ref tt])) := (fr_13 x (by omega)).trans f_7
    refine fw_get (v := .ref a) (C := RX10) (T := TX10) (N := 9) hx hb hts hin10 hown hK hR f_14 rfl 1 (by decide) (hts (.fieldLink RX10 20 "UnreadLeaflets" "archive" "LUnreadLeaflets$Archive;") (by decide +kernel)) rfl dX10_restore_37 ?_
    have f_15 : ω_3.2 a = some (.inr (2, [.ref (a + 1), .int (w9 0 0), .ref (a + 2), .int (w9 0 1), .ref (a + 3), .int (w9 0 2), .int (w9 0 3), .int (w9 0 4), .int (w9 0 5)])) := hA9.1
    have f_16 : ω_10.2 a = some (.inr (2, [.ref (a + 1), .int (w9 0 0), .ref (a + 2), .int (w9 0 1), .ref (a + 3), .int (w9 0 2), .int (w9 0 3), .int (w9 0 4), .int (w9 0 5)])) := (fr_13 a (by omega)).trans f_15
    refine fw_get (v := .int (w9 0 0)) (C := RX0) (T := TX0) (N := 9) hx hb hts hin0 hown hK hR f_16 rfl 1 (by decide) (hts (.fieldLink RX10 303 "UnreadLeaflets$Archive" "leafletCount" "I") (by decide +kernel)) rfl dX10_restore_40 ?_
    refine W.widen (k := 1) (n := 6) (by first | omega | decide) (by first | omega | decide) ?_
    refine vx_ret ?_
    refine fw_iret hx hb hr hlocks hR hS dX10_restore_43 ?_
    have hfr9 : ∀ q : Nat, (q < a ∨ q = a + 51 ∨ hs0 + 461 ≤ q) → ω_10.2 q = ω.2 q := by
      intro q hq0
      rw [fr_13 q (by omega)]
      rw [fr_6 q (by omega)]
    have hB9 : ArcS G ω_10.2 a w9 := hA9.keep (fun q q1 q2 => by rw [fr_13 q (by omega)])
    exact ⟨by rw [hl9.1 0 (by decide)], hn9, ⟨w9, hB9, hl9⟩, hHk.head hh9 fr_13, hfr9⟩
  · skip
    exact fx_throwW (ω := ω) (τ := ω) (cls := "java/lang/IllegalStateException") (text := "there is no snapshot") (ws := wsX10_restore) hx hb hX0 hW hts hown (by decide) (by decide) (by decide +kernel) (by decide +kernel) (by decide) (fun w9 h9 => List.mem_cons_of_mem _ (List.mem_append_right _ h9)) xn_325 xg_325 hR0 hR hS (hl.1.trans hml.symm) dX10_restore_7 dX10_restore_10 dX10_restore_11 dX10_restore_14 dX10_restore_17 ht9 (by decide) (Nat.le_of_ble_eq_true rfl) (Nat.le_of_ble_eq_true rfl) (Nat.le_of_ble_eq_true rfl) hlocks (fun n9 => ⟨rfl, c_1, rfl⟩) (Nat.le_of_ble_eq_true rfl) (Nat.le_of_ble_eq_true rfl)
set_option maxHeartbeats 4000000 in
set_option maxRecDepth 100000 in
theorem c_X10_undo (G : FG) (hL : FL G) (l : Launch) (hX0 : FX0 G l) (ω : FWd) (x y a hs0 sn tx ln tt : Nat) (v : Nat → Nat → Int32) (hsn : Int32) (R : Nat → Nat → Nat → Int32) (p ct : Nat) (hXA : XA x y a hs0 sn tx ln tt) (hx0 : ω.2 x = some (.inr (12, [.ref y, .ref a, .ref (a + 51), .ref hs0, .ref sn, .int hsn, .ref tx, .ref ln, .ref tt]))) (hA : ArcS G ω.2 a v) (hH : HisS G ω.2 hs0 R p ct) (hp : p < 9) (hct : ct ≤ 8) (hWp : 0 < ct → WF (R ((p + 8) % 9))) : FMetX G l yX10_undo wsX10_undo ({ frames := 6, cells := 1, slots := 6, locals := 124 } : Room) [.ref x] ω (fun vv9 τ9 => vv9 = some (.int (nI (ct - 1))) ∧ 0 < ct ∧ (∃ w9, ArcS G τ9.2 a w9 ∧ Live w9 (R ((p + 8) % 9))) ∧ HisS G τ9.2 hs0 R ((p + 8) % 9) (ct - 1) ∧ ∀ q : Nat, (q < a ∨ q = a + 51 ∨ hs0 + 461 ≤ q) → τ9.2 q = ω.2 q) (fun E9 τ9 => E9 = "java/lang/IllegalStateException" ∧ ct = 0 ∧ τ9.2 = ω.2) 1 6 := by
  refine fx_ofW (cc := cX10_undo) (maxL := 1) (ret := (some .int)) (by decide) rfl (Nat.le_of_ble_eq_true rfl) ?_
  intro pP eE sS mI ar9 bl9 meth cD ls hx hb hr hlocks hml hts hown hnm hW hR ht9 hl
  have hK := hL.K hW
  have hR0 := hR
  have hS : va_S (fwA G) sS.heap sS.heap [] := va_S.rf
  have hin4 : ∀ w ∈ u_ws RX4 TX4 3, w ∈ wsX10_undo := by decide +kernel
  have hin10 : ∀ w ∈ u_ws RX10 TX10 9, w ∈ wsX10_undo := by decide +kernel
  have hl : lv_has ls 1 [(0, .ref x)] := hl
  obtain ⟨g0, g1, g2⟩ := id hH
  obtain ⟨hxy, hxa, hxh, hxs, hxt, hxl, hxu⟩ := id hXA
  refine lv_aload_n hx hb dX10_undo_0 rfl (lv_at hl 0 rfl) ?_
  refine fw_get (v := .ref hs0) (C := RX10) (T := TX10) (N := 9) hx hb hts hin10 hown hK hR hx0 rfl 3 (by decide) (hts (.fieldLink RX10 29 "UnreadLeaflets" "history" "LUnreadLeaflets$History;") (by decide +kernel)) rfl dX10_undo_1 ?_
  refine fw_get (v := .int (nI ct)) (C := RX4) (T := TX4) (N := 3) hx hb hts hin4 hown hK hR g0 rfl 2 (by decide) (hts (.fieldLink RX10 429 "UnreadLeaflets$History" "count" "I") (by decide +kernel)) rfl dX10_undo_4 ?_
  refine lv_if_ne (tgt := 21) hx hb dX10_undo_7 (by decide) (fun c_1 => ?_) (fun c_1 => ?_)
  · skip
    have hc0 : 0 < ct := by rcases Nat.eq_zero_or_pos ct with h9 | h9; exact absurd (by rw [h9]; rfl) c_1; exact h9
    refine lv_aload_n hx hb dX10_undo_21 rfl (lv_at hl 0 rfl) ?_
    refine fw_get (v := .ref hs0) (C := RX10) (T := TX10) (N := 9) hx hb hts hin10 hown hK hR hx0 rfl 3 (by decide) (hts (.fieldLink RX10 29 "UnreadLeaflets" "history" "LUnreadLeaflets$History;") (by decide +kernel)) rfl dX10_undo_22 ?_
    refine lv_aload_n hx hb dX10_undo_25 rfl (lv_at hl 0 rfl) ?_
    refine fw_get (v := .ref a) (C := RX10) (T := TX10) (N := 9) hx hb hts hin10 hown hK hR hx0 rfl 1 (by decide) (hts (.fieldLink RX10 20 "UnreadLeaflets" "archive" "LUnreadLeaflets$Archive;") (by decide +kernel)) rfl dX10_undo_26 ?_
    refine fw_call (va_runV (As := [.ref a]) (rest := []) ⟨hx, hb, hml, hown, hts⟩ (c_X4_stepBack G hL l ω hs0 R p ct hH hp hct a v hA (by omega) hc0 (hWp hc0)) (cwV 1 hts gX10_undo_X4_stepBack rfl rfl rfl (by decide +kernel) ⟨Nat.le_of_ble_eq_true rfl, Nat.le_of_ble_eq_true rfl⟩) (fw_preV hW hK hR g0 rfl) rfl rfl hl.1 rfl (lv_room (Nat.le_of_ble_eq_true rfl)) dX10_undo_29 ⟨Nat.le_of_ble_eq_true rfl, Nat.le_of_ble_eq_true rfl⟩) hS (fun v_2 ω_3 H locs hq_4 hR hS => ?_)
    obtain ⟨rfl, z_5, hh9, ⟨w9, hA9, hl9⟩, fr_6⟩ := hq_4
    refine W.eq (g2 := F0 mI 32 ls []) rfl ?_
    refine lv_aload_n hx hb dX10_undo_32 rfl (lv_at hl 0 rfl) ?_
    have f_7 : ω_3.2 x = some (.inr (12, [.ref y, .ref a, .ref (a + 51), .ref hs0, .ref sn, .int hsn, .ref tx, .ref ln, .ref tt])) := (fr_6 x (by omega) (by omega)).trans hx0
    refine fw_get (v := .ref hs0) (C := RX10) (T := TX10) (N := 9) hx hb hts hin10 hown hK hR f_7 rfl 3 (by decide) (hts (.fieldLink RX10 29 "UnreadLeaflets" "history" "LUnreadLeaflets$History;") (by decide +kernel)) rfl dX10_undo_33 ?_
    refine fw_get (v := .int (nI (ct - 1))) (C := RX4) (T := TX4) (N := 3) hx hb hts hin4 hown hK hR hh9 rfl 2 (by decide) (hts (.fieldLink RX10 429 "UnreadLeaflets$History" "count" "I") (by decide +kernel)) rfl dX10_undo_36 ?_
    refine W.widen (k := 1) (n := 6) (by first | omega | decide) (by first | omega | decide) ?_
    refine vx_ret ?_
    refine fw_iret hx hb hr hlocks hR hS dX10_undo_39 ?_
    have hH9 : HisS G ω_3.2 hs0 R ((p + 8) % 9) (ct - 1) := ⟨hh9, by rw [fr_6 _ (by omega) (by omega)]; exact g1, fun i hi => (g2 i hi).keep (fun q q1 q2 => by rw [fr_6 q (by omega) (by omega)])⟩
    have hfr9 : ∀ q : Nat, (q < a ∨ q = a + 51 ∨ hs0 + 461 ≤ q) → ω_3.2 q = ω.2 q := by
      intro q hq0
      rw [fr_6 q (by omega) (by omega)]
    exact ⟨rfl, hc0, ⟨w9, hA9, hl9⟩, hH9, hfr9⟩
  · skip
    have hc9 : ct = 0 := (nI_eq (b := 0) (by omega) (by omega)).mp c_1
    exact fx_throwW (ω := ω) (τ := ω) (cls := "java/lang/IllegalStateException") (text := "there is nothing to undo") (ws := wsX10_undo) hx hb hX0 hW hts hown (by decide) (by decide) (by decide +kernel) (by decide +kernel) (by decide) (fun w9 h9 => List.mem_cons_of_mem _ (List.mem_append_right _ h9)) xn_325 xg_325 hR0 hR hS (hl.1.trans hml.symm) dX10_undo_10 dX10_undo_13 dX10_undo_14 dX10_undo_17 dX10_undo_20 ht9 (by decide) (Nat.le_of_ble_eq_true rfl) (Nat.le_of_ble_eq_true rfl) (Nat.le_of_ble_eq_true rfl) hlocks (fun n9 => ⟨rfl, hc9, rfl⟩) (Nat.le_of_ble_eq_true rfl) (Nat.le_of_ble_eq_true rfl)
set_option maxHeartbeats 4000000 in
set_option maxRecDepth 100000 in
theorem c_X10_append (G : FG) (hL : FL G) (l : Launch) (hX0 : FX0 G l) (ω : FWd) (x y a hs0 sn tx ln tt : Nat) (hsn : Int32) (hx0 : ω.2 x = some (.inr (12, [.ref y, .ref a, .ref (a + 51), .ref hs0, .ref sn, .int hsn, .ref tx, .ref ln, .ref tt]))) (f : Nat → Int32) (tl tp cn : Nat) (tft : Int32) (hT : TxtS G ω.2 tx f tl tp cn tft) (hl60 : tl ≤ 60) (ch : Int32) (hch : vp_nar .char ch = ch) : FMetX G l yX10_append wsX10_append ({ frames := 6, cells := 1, slots := 6, locals := 100 } : Room) [.ref x, .int ch] ω (fun vv9 τ9 => vv9 = some (.int (nI (adP (f, tl) ch).2)) ∧ nI tl < 60 ∧ TxtS G τ9.2 tx (adP (f, tl) ch).1 (adP (f, tl) ch).2 tp cn tft ∧ ∀ q : Nat, (q < tx ∨ tx + 2 ≤ q) → τ9.2 q = ω.2 q) (fun E9 τ9 => E9 = "java/lang/IllegalStateException" ∧ ¬ nI tl < 60 ∧ τ9.2 = ω.2) 1 6 := by
  refine fx_ofW (cc := cX10_append) (maxL := 2) (ret := (some .int)) (by decide) rfl (Nat.le_of_ble_eq_true rfl) ?_
  intro pP eE sS mI ar9 bl9 meth cD ls hx hb hr hlocks hml hts hown hnm hW hR ht9 hl
  have hK := hL.K hW
  have hR0 := hR
  have hS : va_S (fwA G) sS.heap sS.heap [] := va_S.rf
  have hin10 : ∀ w ∈ u_ws RX10 TX10 9, w ∈ wsX10_append := by decide +kernel
  have hl : lv_has ls 2 [(0, .ref x), (1, .int ch)] := hl
  obtain ⟨t0, t1⟩ := id hT
  refine lv_aload_n hx hb dX10_append_0 rfl (lv_at hl 0 rfl) ?_
  refine fw_get (v := .ref tx) (C := RX10) (T := TX10) (N := 9) hx hb hts hin10 hown hK hR hx0 rfl 6 (by decide) (hts (.fieldLink RX10 42 "UnreadLeaflets" "text" "LUnreadLeaflets$Text;") (by decide +kernel)) rfl dX10_append_1 ?_
  refine fw_call (va_runV (As := []) (rest := []) ⟨hx, hb, hml, hown, hts⟩ (c_X8_isFull2 G hL l ω tx f tl tp cn tft hT hl60) (cwV 0 hts gX10_append_X8_isFull rfl rfl rfl (by decide +kernel) ⟨Nat.le_of_ble_eq_true rfl, Nat.le_of_ble_eq_true rfl⟩) (fw_preV hW hK hR t0 rfl) rfl rfl hl.1 rfl (lv_room (Nat.le_of_ble_eq_true rfl)) dX10_append_4 ⟨Nat.le_of_ble_eq_true rfl, Nat.le_of_ble_eq_true rfl⟩) hS (fun v_1 ω_2 H locs hq_3 hR hS => ?_)
  obtain ⟨rfl, hq_3⟩ := hq_3
  rw [hq_3] at hR
  refine W.eq (g2 := F0 mI 7 ls [.int (bz (¬ nI tl < 60))]) rfl ?_
  refine lv_if_eq (tgt := 21) hx hb dX10_append_7 (by decide) (fun c_4 => ?_) (fun c_4 => ?_)
  · skip
    have c_4 := bz_eq c_4
    refine lv_aload_n hx hb dX10_append_21 rfl (lv_at hl 0 rfl) ?_
    refine fw_get (v := .ref tx) (C := RX10) (T := TX10) (N := 9) hx hb hts hin10 hown hK hR hx0 rfl 6 (by decide) (hts (.fieldLink RX10 42 "UnreadLeaflets" "text" "LUnreadLeaflets$Text;") (by decide +kernel)) rfl dX10_append_22 ?_
    refine lv_iload_n hx hb dX10_append_25 rfl (lv_at hl 1 rfl) ?_
    refine fw_call (va_runV (As := [.int ch]) (rest := []) ⟨hx, hb, hml, hown, hts⟩ (c_X8_add2 G hL l ω tx f tl tp cn tft hT hl60 ch hch) (cwV 1 hts gX10_append_X8_add rfl rfl rfl (by decide +kernel) ⟨Nat.le_of_ble_eq_true rfl, Nat.le_of_ble_eq_true rfl⟩) (fw_preV hW hK hR t0 rfl) rfl rfl hl.1 rfl (lv_room (Nat.le_of_ble_eq_true rfl)) dX10_append_26 ⟨Nat.le_of_ble_eq_true rfl, Nat.le_of_ble_eq_true rfl⟩) hS (fun v_5 ω_6 H locs hq_7 hR hS => ?_)
    obtain ⟨rfl, z_8, f_10, f_11, fr_9⟩ := hq_7
    refine W.eq (g2 := F0 mI 29 ls [.int (nI (adP (f, tl) ch).2)]) rfl ?_
    refine W.widen (k := 1) (n := 6) (by first | omega | decide) (by first | omega | decide) ?_
    refine vx_ret ?_
    refine fw_iret hx hb hr hlocks hR hS dX10_append_29 ?_
    have hfr9 : ∀ q : Nat, (q < tx ∨ tx + 2 ≤ q) → ω_6.2 q = ω.2 q := by
      intro q hq0
      rw [fr_9 q (by omega) (by omega)]
    exact ⟨rfl, Decidable.of_not_not c_4, ⟨f_10, f_11⟩, hfr9⟩
  · skip
    have c_4 := bz_ne c_4
    exact fx_throwW (ω := ω) (τ := ω) (cls := "java/lang/IllegalStateException") (text := "the text buffer is full") (ws := wsX10_append) hx hb hX0 hW hts hown (by decide) (by decide) (by decide +kernel) (by decide +kernel) (by decide) (fun w9 h9 => List.mem_cons_of_mem _ (List.mem_append_right _ h9)) xn_325 xg_325 hR0 hR hS (hl.1.trans hml.symm) dX10_append_10 dX10_append_13 dX10_append_14 dX10_append_17 dX10_append_20 ht9 (by decide) (Nat.le_of_ble_eq_true rfl) (Nat.le_of_ble_eq_true rfl) (Nat.le_of_ble_eq_true rfl) hlocks (fun n9 => ⟨rfl, c_4, rfl⟩) (Nat.le_of_ble_eq_true rfl) (Nat.le_of_ble_eq_true rfl)
set_option maxHeartbeats 4000000 in
set_option maxRecDepth 100000 in
theorem c_X10_line (G : FG) (hL : FL G) (l : Launch) (hX0 : FX0 G l) (ω : FWd) (x y a hs0 sn tx ln tt : Nat) (v : Nat → Nat → Int32) (hsn : Int32) (hXA : XA x y a hs0 sn tx ln tt) (hx0 : ω.2 x = some (.inr (12, [.ref y, .ref a, .ref (a + 51), .ref hs0, .ref sn, .int hsn, .ref tx, .ref ln, .ref tt]))) (hA : ArcS G ω.2 a v) (hW0 : WF v) (L : LN) (hLn : LinS G ω.2 ln L) (lf : Int32) : FMetX G l yX10_line wsX10_line ({ frames := 7, cells := 1, slots := 6, locals := 121 } : Room) [.ref x, .int lf] ω (fun vv9 τ9 => inB lf 0 (v 0 0 - 1) ∧ vv9 = some (.int (nI (lineP v (cN lf) (openJ (v 3 (cN lf)) (cN (v 4 (cN lf)))) (v 3 (cN lf)) (L.1, 0) (stN v (cN lf))).2)) ∧ LinS G τ9.2 ln (lineP v (cN lf) (openJ (v 3 (cN lf)) (cN (v 4 (cN lf)))) (v 3 (cN lf)) (L.1, 0) (stN v (cN lf))) ∧ ∀ q : Nat, (q < ln ∨ ln + 2 ≤ q) → τ9.2 q = ω.2 q) (fun E9 τ9 => E9 = "java/lang/IndexOutOfBoundsException" ∧ ¬ inB lf 0 (v 0 0 - 1) ∧ τ9.2 = ω.2) 1 6 := by
  refine fx_ofW (cc := cX10_line) (maxL := 2) (ret := (some .int)) (by decide) rfl (Nat.le_of_ble_eq_true rfl) ?_
  intro pP eE sS mI ar9 bl9 meth cD ls hx hb hr hlocks hml hts hown hnm hW hR ht9 hl
  have hK := hL.K hW
  have hR0 := hR
  have hS : va_S (fwA G) sS.heap sS.heap [] := va_S.rf
  have hin6 : ∀ w ∈ u_ws RX6 TX6 2, w ∈ wsX10_line := by decide +kernel
  have hin10 : ∀ w ∈ u_ws RX10 TX10 9, w ∈ wsX10_line := by decide +kernel
  have hl : lv_has ls 2 [(0, .ref x), (1, .int lf)] := hl
  obtain ⟨h0, h1, h2, h3, h4, h5, hLf, hCo⟩ := id hA
  obtain ⟨hxy, hxa, hxh, hxs, hxt, hxl, hxu⟩ := id hXA
  obtain ⟨c, hc8, hc, hcc⟩ := okN_of hW0.1
  obtain ⟨cc, hd5, hd, hdd⟩ := okN_of hW0.2.1
  have hs : ∀ j, j < c → v 3 j = nI (stN v j) ∧ stN v j ≤ 8 := fun j hj => (hW0.2.2 j (by rw [hcc]; exact hj)).1
  have hfo : ∀ j, j < c → v 4 j = nI (cN (v 4 j)) ∧ cN (v 4 j) ≤ 3 := fun j hj => (hW0.2.2 j (by rw [hcc]; exact hj)).2
  obtain ⟨l0, l1, l2⟩ := id hLn
  refine lv_aload_n hx hb dX10_line_0 rfl (lv_at hl 0 rfl) ?_
  refine fw_get (v := .ref ln) (C := RX10) (T := TX10) (N := 9) hx hb hts hin10 hown hK hR hx0 rfl 7 (by decide) (hts (.fieldLink RX10 49 "UnreadLeaflets" "written" "LUnreadLeaflets$Line;") (by decide +kernel)) rfl dX10_line_1 ?_
  refine lv_aload_n hx hb dX10_line_4 rfl (lv_at hl 0 rfl) ?_
  refine lv_iload_n hx hb dX10_line_5 rfl (lv_at hl 1 rfl) ?_
  refine fx_call (vx_runV (As := [.int lf]) (rest := [.ref ln]) ⟨hx, hb, hml, hown, hts⟩ (c_X10_leafletAt G hL l hX0 ω x y a hs0 sn tx ln tt v hsn hXA hx0 hA hW0 lf) (cwV 1 hts gX10_line_X10_leafletAt rfl rfl rfl (by decide +kernel) ⟨Nat.le_of_ble_eq_true rfl, Nat.le_of_ble_eq_true rfl⟩) (fw_preV hW hK hR hx0 rfl) rfl rfl hl.1 rfl (lv_room (Nat.le_of_ble_eq_true rfl)) dX10_line_6 ⟨Nat.le_of_ble_eq_true rfl, Nat.le_of_ble_eq_true rfl⟩) hS (fun E_1 ce_1 q_1 τ_1 H locs hx_1 hR hS hce_1 hcv_1 hcl_1 => ?_) (fun v_1 ω_1 H locs hq_1 hR hS => ?_)
  · skip
    obtain ⟨rfl, hc_1, hw_1⟩ := hx_1
    exact fx_out ht9 hlocks ⟨rfl, hc_1, hw_1⟩ hR hS hce_1 hcv_1 hcl_1 (by first | omega | decide) (by first | omega | decide)
  · skip
    refine W.widen (k := 1) (n := 6) (by first | omega | decide) (by first | omega | decide) ?_
    obtain ⟨hc_1, rfl, hw_1⟩ := hq_1
    rw [hw_1] at hR
    obtain ⟨j, hj2, rfl⟩ := in_c hc hc8 hc_1
    have hcj : cN (nI j) = j := cN_nI (by omega)
    refine W.eq (g2 := F0 mI 9 ls [.ref (a + 6 + 5 * j), .ref ln]) (by rw [hcj]; rfl) ?_
    refine fw_call (va_runV (As := [.ref (a + 6 + 5 * j)]) (rest := []) ⟨hx, hb, hml, hown, hts⟩ (c_X6_write G hL l ω ln L hLn (a + 6 + 5 * j) j v (hLf j (by omega)) (stN v j) (hs j hj2).1 (hs j hj2).2 (cN (v 4 j)) (hfo j hj2).2 (hfo j hj2).1 (by omega)) (cwV 1 hts gX10_line_X6_write rfl rfl rfl (by decide +kernel) ⟨Nat.le_of_ble_eq_true rfl, Nat.le_of_ble_eq_true rfl⟩) (fw_preV hW hK hR l0 rfl) rfl rfl hl.1 rfl (lv_room (Nat.le_of_ble_eq_true rfl)) dX10_line_9 ⟨Nat.le_of_ble_eq_true rfl, Nat.le_of_ble_eq_true rfl⟩) hS (fun v_2 ω_3 H locs hq_4 hR hS => ?_)
    obtain ⟨rfl, z_5, f_7, f_8, fr_6⟩ := hq_4
    refine W.eq (g2 := F0 mI 12 ls []) rfl ?_
    refine lv_aload_n hx hb dX10_line_12 rfl (lv_at hl 0 rfl) ?_
    have f_9 : ω_3.2 x = some (.inr (12, [.ref y, .ref a, .ref (a + 51), .ref hs0, .ref sn, .int hsn, .ref tx, .ref ln, .ref tt])) := (fr_6 x (by omega) (by omega)).trans hx0
    refine fw_get (v := .ref ln) (C := RX10) (T := TX10) (N := 9) hx hb hts hin10 hown hK hR f_9 rfl 7 (by decide) (hts (.fieldLink RX10 49 "UnreadLeaflets" "written" "LUnreadLeaflets$Line;") (by decide +kernel)) rfl dX10_line_13 ?_
    refine fw_get (v := .int (nI (lineP v j (openJ (v 3 j) (cN (v 4 j))) (v 3 j) (L.1, 0) (stN v j)).2)) (C := RX6) (T := TX6) (N := 2) hx hb hts hin6 hown hK hR f_7 rfl 1 (by decide) (hts (.fieldLink RX10 386 "UnreadLeaflets$Line" "length" "I") (by decide +kernel)) rfl dX10_line_16 ?_
    refine W.widen (k := 1) (n := 6) (by first | omega | decide) (by first | omega | decide) ?_
    refine vx_ret ?_
    refine fw_iret hx hb hr hlocks hR hS dX10_line_19 ?_
    have hfr9 : ∀ q : Nat, (q < ln ∨ ln + 2 ≤ q) → ω_3.2 q = ω.2 q := by
      intro q hq0
      rw [fr_6 q (by omega) (by omega)]
    rw [hcj]
    exact ⟨hc_1, rfl, ⟨f_7, f_8, lineP_le (Nat.zero_le _) _⟩, hfr9⟩
set_option maxHeartbeats 4000000 in
set_option maxRecDepth 100000 in
theorem c_X10_character (G : FG) (hL : FL G) (l : Launch) (hX0 : FX0 G l) (ω : FWd) (x y a hs0 sn tx ln tt : Nat) (hsn : Int32) (hx0 : ω.2 x = some (.inr (12, [.ref y, .ref a, .ref (a + 51), .ref hs0, .ref sn, .int hsn, .ref tx, .ref ln, .ref tt]))) (L : LN) (hLn : LinS G ω.2 ln L) (hnr : ∀ i, i < L.2 → narrow .char (.int (L.1 i)) = .int (L.1 i)) (ix : Int32) : FMetX G l yX10_character wsX10_character ({ frames := 6, cells := 1, slots := 6, locals := 100 } : Room) [.ref x, .int ix] ω (fun vv9 τ9 => inB ix 0 (nI L.2 - 1) ∧ vv9 = some (.int (L.1 (cN ix))) ∧ τ9 = ω) (fun E9 τ9 => E9 = "java/lang/IndexOutOfBoundsException" ∧ ¬ inB ix 0 (nI L.2 - 1) ∧ τ9.2 = ω.2) 1 6 := by
  refine fx_ofW (cc := cX10_character) (maxL := 2) (ret := (some .char)) (by decide) rfl (Nat.le_of_ble_eq_true rfl) ?_
  intro pP eE sS mI ar9 bl9 meth cD ls hx hb hr hlocks hml hts hown hnm hW hR ht9 hl
  have hK := hL.K hW
  have hR0 := hR
  have hS : va_S (fwA G) sS.heap sS.heap [] := va_S.rf
  have hin6 : ∀ w ∈ u_ws RX6 TX6 2, w ∈ wsX10_character := by decide +kernel
  have hin10 : ∀ w ∈ u_ws RX10 TX10 9, w ∈ wsX10_character := by decide +kernel
  have hl : lv_has ls 2 [(0, .ref x), (1, .int ix)] := hl
  obtain ⟨l0, l1, l2⟩ := id hLn
  refine lv_iload_n hx hb dX10_character_0 rfl (lv_at hl 1 rfl) ?_
  refine lv_iconst (v := 0) hx hb dX10_character_1 (by decide) ?_
  refine lv_aload_n hx hb dX10_character_2 rfl (lv_at hl 0 rfl) ?_
  refine fw_get (v := .ref ln) (C := RX10) (T := TX10) (N := 9) hx hb hts hin10 hown hK hR hx0 rfl 7 (by decide) (hts (.fieldLink RX10 49 "UnreadLeaflets" "written" "LUnreadLeaflets$Line;") (by decide +kernel)) rfl dX10_character_3 ?_
  refine fw_get (v := .int (nI L.2)) (C := RX6) (T := TX6) (N := 2) hx hb hts hin6 hown hK hR l0 rfl 1 (by decide) (hts (.fieldLink RX10 386 "UnreadLeaflets$Line" "length" "I") (by decide +kernel)) rfl dX10_character_6 ?_
  refine lv_iconst (v := 1) hx hb dX10_character_9 (by decide) ?_
  refine lv_isub hx hb dX10_character_10 ?_
  refine fw_call (va_runS (As := [.int ix, .int 0, .int ((nI L.2) - 1)]) (rest := []) ⟨hx, hb, hml, hown, hts⟩ (c_X10_isWithin G hL l ω ix 0 ((nI L.2) - 1)) (va_cwS 3 hts gX10_character_X10_isWithin rfl rfl rfl (by decide +kernel) ⟨Nat.le_of_ble_eq_true rfl, Nat.le_of_ble_eq_true rfl⟩) (fw_preS hW hR) rfl rfl hl.1 rfl (lv_room (Nat.le_of_ble_eq_true rfl)) dX10_character_11 ⟨Nat.le_of_ble_eq_true rfl, Nat.le_of_ble_eq_true rfl⟩) hS (fun v_1 ω_2 H locs hq_3 hR hS => ?_)
  obtain ⟨rfl, hq_3⟩ := hq_3
  rw [hq_3] at hR
  refine W.eq (g2 := F0 mI 14 ls [.int (bz (inB ix 0 ((nI L.2) - 1)))]) rfl ?_
  refine lv_if_ne (tgt := 28) hx hb dX10_character_14 (by decide) (fun c_4 => ?_) (fun c_4 => ?_)
  · skip
    have c_4 := bz_ne c_4
    obtain ⟨q9, hq9, rfl⟩ := in_cL (c := L.2) rfl (by omega) c_4
    refine lv_aload_n hx hb dX10_character_28 rfl (lv_at hl 0 rfl) ?_
    refine fw_get (v := .ref ln) (C := RX10) (T := TX10) (N := 9) hx hb hts hin10 hown hK hR hx0 rfl 7 (by decide) (hts (.fieldLink RX10 49 "UnreadLeaflets" "written" "LUnreadLeaflets$Line;") (by decide +kernel)) rfl dX10_character_29 ?_
    refine fw_get (v := .ref (ln + 1)) (C := RX6) (T := TX6) (N := 2) hx hb hts hin6 hown hK hR l0 rfl 0 (by decide) (hts (.fieldLink RX10 391 "UnreadLeaflets$Line" "characters" "[C") (by decide +kernel)) rfl dX10_character_32 ?_
    refine lv_iload_n hx hb dX10_character_35 rfl (lv_at hl 1 rfl) ?_
    refine fw_cald hx hb hK hR l1 (vp_in_nI (by omega) (by omega)) dX10_character_36 ?_
    refine W.eq (g2 := F0 mI 37 ls [.int (L.1 q9)]) (by rw [nI_clamp (by omega)]) ?_
    refine W.widen (k := 1) (n := 6) (by first | omega | decide) (by first | omega | decide) ?_
    refine vx_ret ?_
    refine fw_zret hx hb hr (hnr q9 hq9) hlocks hR hS dX10_character_37 ?_
    exact ⟨c_4, by rw [cN_nI (by omega)], rfl⟩
  · skip
    have c_4 := bz_eq c_4
    exact fx_throwW (ω := ω) (τ := ω) (cls := "java/lang/IndexOutOfBoundsException") (text := "no such character") (ws := wsX10_character) hx hb hX0 hW hts hown (by decide) (by decide) (by decide +kernel) (by decide +kernel) (by decide) (fun w9 h9 => List.mem_cons_of_mem _ (List.mem_append_right _ h9)) xn_207 xg_207 hR0 hR hS (hl.1.trans hml.symm) dX10_character_17 dX10_character_20 dX10_character_21 dX10_character_24 dX10_character_27 ht9 (by decide) (Nat.le_of_ble_eq_true rfl) (Nat.le_of_ble_eq_true rfl) (Nat.le_of_ble_eq_true rfl) hlocks (fun n9 => ⟨rfl, c_4, rfl⟩) (Nat.le_of_ble_eq_true rfl) (Nat.le_of_ble_eq_true rfl)
def cfL (v : Nat → Nat → Int32) (j : Nat) : Nat → Int32 × (Nat → Int32)
  | 0 => (0, v 1)
  | q + 1 => if hasB (v 7 j) (nI q) then (if lackJ (cfL v j q).2 (fun i9 => needJ v j (1 <<< (nI q &&& 31)) (nI i9) (stN v j)) 0 6 = (-1) then ((cfL v j q).1 + 1, takeJ (cfL v j q).2 (fun i9 => needJ v j (1 <<< (nI q &&& 31)) (nI i9) (stN v j)) 6) else cfL v j q) else cfL v j q
set_option maxHeartbeats 4000000 in
set_option maxRecDepth 100000 in
theorem c_X10_couldFinish (G : FG) (hL : FL G) (l : Launch) (hX0 : FX0 G l) (ω : FWd) (x y a hs0 sn tx ln tt : Nat) (v : Nat → Nat → Int32) (hsn : Int32) (hXA : XA x y a hs0 sn tx ln tt) (hx0 : ω.2 x = some (.inr (12, [.ref y, .ref a, .ref (a + 51), .ref hs0, .ref sn, .int hsn, .ref tx, .ref ln, .ref tt]))) (hA : ArcS G ω.2 a v) (hW0 : WF v) (ti tj : Nat → Int32) (hTt : TinS G ω.2 tt ti tj) (lf : Int32) : FMetX G l yX10_couldFinish wsX10_couldFinish ({ frames := 7, cells := 1, slots := 6, locals := 121 } : Room) [.ref x, .int lf] ω (fun vv9 τ9 => inB lf 0 (v 0 0 - 1) ∧ vv9 = some (.int (cfL v (cN lf) (stN v (cN lf))).1) ∧ (∃ f9 h9, TinS G τ9.2 tt f9 h9) ∧ ∀ q : Nat, (q < tt ∨ tt + 3 ≤ q) → τ9.2 q = ω.2 q) (fun E9 τ9 => E9 = "java/lang/IndexOutOfBoundsException" ∧ ¬ inB lf 0 (v 0 0 - 1) ∧ τ9.2 = ω.2) 1 6 := by
  refine fx_ofW (cc := cX10_couldFinish) (maxL := 5) (ret := (some .int)) (by decide) rfl (Nat.le_of_ble_eq_true rfl) ?_
  intro pP eE sS mI ar9 bl9 meth cD ls hx hb hr hlocks hml hts hown hnm hW hR ht9 hl
  have hK := hL.K hW
  have hR0 := hR
  have hS : va_S (fwA G) sS.heap sS.heap [] := va_S.rf
  have hin0 : ∀ w ∈ u_ws RX0 TX0 9, w ∈ wsX10_couldFinish := by decide +kernel
  have hin5 : ∀ w ∈ u_ws RX5 TX5 9, w ∈ wsX10_couldFinish := by decide +kernel
  have hin10 : ∀ w ∈ u_ws RX10 TX10 9, w ∈ wsX10_couldFinish := by decide +kernel
  have hl : lv_has ls 5 [(0, .ref x), (1, .int lf)] := hl
  obtain ⟨h0, h1, h2, h3, h4, h5, hLf, hCo⟩ := id hA
  obtain ⟨hxy, hxa, hxh, hxs, hxt, hxl, hxu⟩ := id hXA
  obtain ⟨c, hc8, hc, hcc⟩ := okN_of hW0.1
  obtain ⟨cc, hd5, hd, hdd⟩ := okN_of hW0.2.1
  have hs : ∀ j, j < c → v 3 j = nI (stN v j) ∧ stN v j ≤ 8 := fun j hj => (hW0.2.2 j (by rw [hcc]; exact hj)).1
  have hfo : ∀ j, j < c → v 4 j = nI (cN (v 4 j)) ∧ cN (v 4 j) ≤ 3 := fun j hj => (hW0.2.2 j (by rw [hcc]; exact hj)).2
  obtain ⟨u0, u1, u2⟩ := id hTt
  refine lv_aload_n hx hb dX10_couldFinish_0 rfl (lv_at hl 0 rfl) ?_
  refine lv_iload_n hx hb dX10_couldFinish_1 rfl (lv_at hl 1 rfl) ?_
  refine fx_call (vx_runV (As := [.int lf]) (rest := []) ⟨hx, hb, hml, hown, hts⟩ (c_X10_leafletAt G hL l hX0 ω x y a hs0 sn tx ln tt v hsn hXA hx0 hA hW0 lf) (cwV 1 hts gX10_couldFinish_X10_leafletAt rfl rfl rfl (by decide +kernel) ⟨Nat.le_of_ble_eq_true rfl, Nat.le_of_ble_eq_true rfl⟩) (fw_preV hW hK hR hx0 rfl) rfl rfl hl.1 rfl (lv_room (Nat.le_of_ble_eq_true rfl)) dX10_couldFinish_2 ⟨Nat.le_of_ble_eq_true rfl, Nat.le_of_ble_eq_true rfl⟩) hS (fun E_1 ce_1 q_1 τ_1 H locs hx_1 hR hS hce_1 hcv_1 hcl_1 => ?_) (fun v_1 ω_1 H locs hq_1 hR hS => ?_)
  · skip
    obtain ⟨rfl, hc_1, hw_1⟩ := hx_1
    exact fx_out ht9 hlocks ⟨rfl, hc_1, hw_1⟩ hR hS hce_1 hcv_1 hcl_1 (by first | omega | decide) (by first | omega | decide)
  · skip
    refine W.widen (k := 1) (n := 6) (by first | omega | decide) (by first | omega | decide) ?_
    obtain ⟨hc_1, rfl, hw_1⟩ := hq_1
    rw [hw_1] at hR
    obtain ⟨j, hj2, rfl⟩ := in_c hc hc8 hc_1
    have hcj : cN (nI j) = j := cN_nI (by omega)
    refine W.eq (g2 := F0 mI 5 ls [.ref (a + 6 + 5 * j)]) (by rw [hcj]; rfl) ?_
    refine lv_astore_n (lv' := [(2, .ref (a + 6 + 5 * j)), (0, .ref x), (1, .int (nI j))]) hx hb dX10_couldFinish_5 rfl hl (by decide) rfl (fun ls hl => ?_)
    refine lv_aload_n hx hb dX10_couldFinish_6 rfl (lv_at hl 1 rfl) ?_
    refine fw_get (v := .ref tt) (C := RX10) (T := TX10) (N := 9) hx hb hts hin10 hown hK hR hx0 rfl 8 (by decide) (hts (.fieldLink RX10 56 "UnreadLeaflets" "trialTin" "LUnreadLeaflets$Tin;") (by decide +kernel)) rfl dX10_couldFinish_7 ?_
    refine lv_aload_n hx hb dX10_couldFinish_10 rfl (lv_at hl 1 rfl) ?_
    refine fw_get (v := .ref a) (C := RX10) (T := TX10) (N := 9) hx hb hts hin10 hown hK hR hx0 rfl 1 (by decide) (hts (.fieldLink RX10 20 "UnreadLeaflets" "archive" "LUnreadLeaflets$Archive;") (by decide +kernel)) rfl dX10_couldFinish_11 ?_
    refine fw_get (v := .ref (a + 3)) (C := RX0) (T := TX0) (N := 9) hx hb hts hin0 hown hK hR h0 rfl 4 (by decide) (hts (.fieldLink RX10 273 "UnreadLeaflets$Archive" "tin" "LUnreadLeaflets$Tin;") (by decide +kernel)) rfl dX10_couldFinish_14 ?_
    refine fw_call (va_runV (As := [.ref (a + 3)]) (rest := []) ⟨hx, hb, hml, hown, hts⟩ (c_X9_copyFrom G hL l ω tt ti tj ⟨u0, u1, u2⟩ (a + 3) (v 1) (v 2) ⟨h3, h4, h5⟩ (by omega)) (cwV 1 hts gX10_couldFinish_X9_copyFrom rfl rfl rfl (by decide +kernel) ⟨Nat.le_of_ble_eq_true rfl, Nat.le_of_ble_eq_true rfl⟩) (fw_preV hW hK hR u0 rfl) rfl rfl hl.1 rfl (lv_room (Nat.le_of_ble_eq_true rfl)) dX10_couldFinish_17 ⟨Nat.le_of_ble_eq_true rfl, Nat.le_of_ble_eq_true rfl⟩) hS (fun v_2 ω_3 H locs hq_4 hR hS => ?_)
    obtain ⟨rfl, z_5, f_7, f_8, fr_6⟩ := hq_4
    refine W.eq (g2 := F0 mI 20 ls []) rfl ?_
    refine lv_iconst (v := 0) hx hb dX10_couldFinish_20 (by decide) ?_
    refine lv_istore_n (lv' := [(3, .int 0), (2, .ref (a + 6 + 5 * j)), (0, .ref x), (1, .int (nI j))]) hx hb dX10_couldFinish_21 rfl hl (by decide) rfl (fun ls hl => ?_)
    refine lv_iconst (v := 0) hx hb dX10_couldFinish_22 (by decide) ?_
    refine lv_istore (lv' := [(4, .int 0), (3, .int 0), (2, .ref (a + 6 + 5 * j)), (0, .ref x), (1, .int (nI j))]) hx hb dX10_couldFinish_23 hl (by decide) rfl (fun ls hl => ?_)
    have loop_9 : ∀ (fu : Nat) (q : Nat) (τ1 : FWd), (stN v j - q) < fu → (q ≤ stN v j) → τ1.1 = ω_3.1 → τ1.2 (tt + 1) = some (.inl (G.2.1 0, 6, .inl (cfL v j q).2)) → (∀ q : Nat, ¬ q = (tt + 1) → τ1.2 q = ω_3.2 q) → ∀ (H : Heap) (locs : List Loc) (ls : Array Slot), fR G τ1 H → va_S (fwA G) sS.heap H locs → lv_has ls 5 [(4, .int (nI q)), (3, .int ((cfL v j q).1)), (2, .ref (a + 6 + 5 * j)), (0, .ref x), (1, .int (nI j))] → W pP l eE ({ frames := 7, cells := 1, slots := 6, locals := 121 } : Room) sS mI ar9 bl9 meth cD H locs 1 6 (vx_MQ bl9 (fQ G (fun vv9 τ9 => inB (nI j) 0 (v 0 0 - 1) ∧ vv9 = some (.int (cfL v (cN (nI j)) (stN v (cN (nI j)))).1) ∧ (∃ f9 h9, TinS G τ9.2 tt f9 h9) ∧ ∀ q : Nat, (q < tt ∨ tt + 3 ≤ q) → τ9.2 q = ω.2 q)) (fXX G (fun E9 τ9 => E9 = "java/lang/IndexOutOfBoundsException" ∧ ¬ inB (nI j) 0 (v 0 0 - 1) ∧ τ9.2 = ω.2)) ar9 sS 1 6 (fwA G)) (F0 mI 25 ls []) := by
      intro fu
      induction fu with
      | zero => intro q τ1 hfu; exact absurd hfu (Nat.not_lt_zero _)
      | succ fu ih =>
        intro q τ1 hfu hq hzτ1 w1 hfrτ1 H locs ls hR hS hl
        refine lv_iload hx hb dX10_couldFinish_25 (lv_at hl 0 rfl) ?_
        refine lv_aload_n hx hb dX10_couldFinish_27 rfl (lv_at hl 2 rfl) ?_
        have f_10 : ω.2 (a + 6 + 5 * j) = some (.inr (7, [.int (v 3 j), .int (v 4 j), .int (v 5 j), .int (v 6 j - 1), .int (v 7 j), .ref (a + 6 + 5 * j + 1), .ref (a + 6 + 5 * j + 2), .ref (a + 6 + 5 * j + 3), .ref (a + 6 + 5 * j + 4)])) := (hLf j (by omega)).1
        have f_11 : ω_3.2 (a + 6 + 5 * j) = some (.inr (7, [.int (v 3 j), .int (v 4 j), .int (v 5 j), .int (v 6 j - 1), .int (v 7 j), .ref (a + 6 + 5 * j + 1), .ref (a + 6 + 5 * j + 2), .ref (a + 6 + 5 * j + 3), .ref (a + 6 + 5 * j + 4)])) := (fr_6 (a + 6 + 5 * j) (by omega) (by omega)).trans f_10
        have f_12 : τ1.2 (a + 6 + 5 * j) = some (.inr (7, [.int (v 3 j), .int (v 4 j), .int (v 5 j), .int (v 6 j - 1), .int (v 7 j), .ref (a + 6 + 5 * j + 1), .ref (a + 6 + 5 * j + 2), .ref (a + 6 + 5 * j + 3), .ref (a + 6 + 5 * j + 4)])) := (hfrτ1 (a + 6 + 5 * j) (by omega)).trans f_11
        refine fw_get (v := .int (v 3 j)) (C := RX5) (T := TX5) (N := 9) hx hb hts hin5 hown hK hR f_12 rfl 0 (by decide) (hts (.fieldLink RX10 117 "UnreadLeaflets$Leaflet" "steps" "I") (by decide +kernel)) rfl dX10_couldFinish_28 ?_
        refine lv_icmp_ge (tgt := 80) hx hb dX10_couldFinish_31 (by decide) (fun c_13 => ?_) (fun c_13 => ?_)
        · skip
          have hst8 := (hs j hj2).2
          have hq9 := lp_ge (hs j hj2).1 c_13 (by omega) (by omega)
          have hqn : q = stN v j := by omega
          refine lv_iload_n hx hb dX10_couldFinish_80 rfl (lv_at hl 1 rfl) ?_
          refine W.widen (k := 1) (n := 6) (by first | omega | decide) (by first | omega | decide) ?_
          refine vx_ret ?_
          refine fw_iret hx hb hr hlocks hR hS dX10_couldFinish_81 ?_
          have hfr9 : ∀ q : Nat, (q < tt ∨ tt + 3 ≤ q) → τ1.2 q = ω.2 q := by
            intro q hq0
            rw [hfrτ1 q (by omega)]
            rw [fr_6 q (by omega) (by omega)]
          have f_14 : ω_3.2 tt = some (.inr (11, [.ref (tt + 1), .ref (tt + 2)])) := (fr_6 tt (by omega) (by omega)).trans u0
          have f_15 : τ1.2 tt = some (.inr (11, [.ref (tt + 1), .ref (tt + 2)])) := (hfrτ1 tt (by omega)).trans f_14
          have f_16 : τ1.2 (tt + 2) = some (.inl (G.2.1 0, 6, .inl (v 2))) := (hfrτ1 (tt + 2) (by omega)).trans f_8
          rw [hcj, ← hqn]
          exact ⟨hc_1, rfl, ⟨_, _, ⟨f_15, w1, f_16⟩⟩, hfr9⟩
        · skip
          have hst8 := (hs j hj2).2
          have hq2 : q < stN v j := lp_lt (hs j hj2).1 c_13 (by omega) (by omega)
          refine lv_aload_n hx hb dX10_couldFinish_34 rfl (lv_at hl 2 rfl) ?_
          refine lv_iload hx hb dX10_couldFinish_35 (lv_at hl 0 rfl) ?_
          have hlf_17 : LeafS G τ1.2 (a + 6 + 5 * j) v j := (hLf j (by omega)).keep (fun q9 q1 q2 => by rw [hfrτ1 q9 (by omega), fr_6 q9 (by omega) (by omega)])
          refine fw_call (va_runV (As := [.int (nI q)]) (rest := []) ⟨hx, hb, hml, hown, hts⟩ (c_X5_isSkipped G hL l τ1 (a + 6 + 5 * j) j v hlf_17 (nI q)) (cwV 1 hts gX10_couldFinish_X5_isSkipped rfl rfl rfl (by decide +kernel) ⟨Nat.le_of_ble_eq_true rfl, Nat.le_of_ble_eq_true rfl⟩) (fw_preV hW hK hR f_12 rfl) rfl rfl hl.1 rfl (lv_room (Nat.le_of_ble_eq_true rfl)) dX10_couldFinish_37 ⟨Nat.le_of_ble_eq_true rfl, Nat.le_of_ble_eq_true rfl⟩) hS (fun v_18 ω_19 H locs hq_20 hR hS => ?_)
          obtain ⟨rfl, hq_20⟩ := hq_20
          rw [hq_20] at hR
          refine W.eq (g2 := F0 mI 40 ls [.int (bz (hasB (v 7 j) (nI q)))]) rfl ?_
          refine lv_if_eq (tgt := 74) hx hb dX10_couldFinish_40 (by decide) (fun c_21 => ?_) (fun c_21 => ?_)
          · skip
            have c_21 := bz_eq c_21
            obtain ⟨x_22, ex_22⟩ : ∃ y : Int32, y = (nI q) + 1 := ⟨_, rfl⟩
            refine lv_iinc (v := x_22) (lv' := [(4, .int x_22), (3, .int ((cfL v j q).1)), (2, .ref (a + 6 + 5 * j)), (0, .ref x), (1, .int (nI j))]) hx hb dX10_couldFinish_74 hl (k := 0) rfl (by rw [ex_22]; rfl) (by decide) rfl (fun ls hl => ?_)
            refine lv_goto (tgt := 25) hx hb dX10_couldFinish_77 (by decide) ?_
            have el_4 : x_22 = nI (q + 1) := by rw [ex_22]; exact nI_1 q
            have el_3 : (cfL v j q).1 = (cfL v j (q + 1)).1 := by rw [cfL, if_neg c_21]
            have hl := lv_sub (l' := [(4, .int x_22), (3, .int ((cfL v j q).1)), (2, .ref (a + 6 + 5 * j)), (0, .ref x), (1, .int (nI j))]) hl [0, 1, 2, 3, 4] rfl
            rw [el_4, el_3] at hl
            have wf_23 : τ1.2 (tt + 1) = some (.inl (G.2.1 0, 6, .inl (cfL v j (q + 1)).2)) := w1.trans (congrArg some (by rw [cfL, if_neg c_21]))
            have fr_24 : ∀ q : Nat, ¬ q = (tt + 1) → τ1.2 q = ω_3.2 q := by
              intro q h0
              rw [hfrτ1 q (by omega)]
            have z_25 : τ1.1 = ω_3.1 := by rw [hzτ1]
            exact ih (q + 1) τ1 (by omega) (by first | assumption | omega | (simp; done)) z_25 wf_23 fr_24 _ _ _ hR hS hl
          · skip
            have c_21 := bz_ne c_21
            refine lv_aload_n hx hb dX10_couldFinish_43 rfl (lv_at hl 3 rfl) ?_
            have f_26 : ω_3.2 x = some (.inr (12, [.ref y, .ref a, .ref (a + 51), .ref hs0, .ref sn, .int hsn, .ref tx, .ref ln, .ref tt])) := (fr_6 x (by omega) (by omega)).trans hx0
            have f_27 : τ1.2 x = some (.inr (12, [.ref y, .ref a, .ref (a + 51), .ref hs0, .ref sn, .int hsn, .ref tx, .ref ln, .ref tt])) := (hfrτ1 x (by omega)).trans f_26
            refine fw_get (v := .ref tt) (C := RX10) (T := TX10) (N := 9) hx hb hts hin10 hown hK hR f_27 rfl 8 (by decide) (hts (.fieldLink RX10 56 "UnreadLeaflets" "trialTin" "LUnreadLeaflets$Tin;") (by decide +kernel)) rfl dX10_couldFinish_44 ?_
            refine lv_aload_n hx hb dX10_couldFinish_47 rfl (lv_at hl 2 rfl) ?_
            refine lv_iconst (v := 1) hx hb dX10_couldFinish_48 (by decide) ?_
            refine lv_iload hx hb dX10_couldFinish_49 (lv_at hl 0 rfl) ?_
            refine lv_ishl hx hb dX10_couldFinish_51 ?_
            have f_28 : ω_3.2 tt = some (.inr (11, [.ref (tt + 1), .ref (tt + 2)])) := (fr_6 tt (by omega) (by omega)).trans u0
            have f_29 : τ1.2 tt = some (.inr (11, [.ref (tt + 1), .ref (tt + 2)])) := (hfrτ1 tt (by omega)).trans f_28
            have f_30 : τ1.2 (tt + 2) = some (.inl (G.2.1 0, 6, .inl (v 2))) := (hfrτ1 (tt + 2) (by omega)).trans f_8
            have hlf_31 : LeafS G τ1.2 (a + 6 + 5 * j) v j := (hLf j (by omega)).keep (fun q9 q1 q2 => by rw [hfrτ1 q9 (by omega), fr_6 q9 (by omega) (by omega)])
            refine fw_call (va_runV (As := [.ref (a + 6 + 5 * j), .int (1 <<< ((nI q) &&& 31))]) (rest := []) ⟨hx, hb, hml, hown, hts⟩ (c_X9_kindLacking G hL l τ1 tt ((cfL v j q).2) (v 2) ⟨f_29, w1, f_30⟩ (a + 6 + 5 * j) j v hlf_31 (stN v j) (hs j hj2).1 (hs j hj2).2 (1 <<< (nI q &&& 31))) (cwV 2 hts gX10_couldFinish_X9_kindLacking rfl rfl rfl (by decide +kernel) ⟨Nat.le_of_ble_eq_true rfl, Nat.le_of_ble_eq_true rfl⟩) (fw_preV hW hK hR f_29 rfl) rfl rfl hl.1 rfl (lv_room (Nat.le_of_ble_eq_true rfl)) dX10_couldFinish_52 ⟨Nat.le_of_ble_eq_true rfl, Nat.le_of_ble_eq_true rfl⟩) hS (fun v_32 ω_33 H locs hq_34 hR hS => ?_)
            obtain ⟨rfl, hq_34⟩ := hq_34
            rw [hq_34] at hR
            refine W.eq (g2 := F0 mI 55 ls [.int (lackJ ((cfL v j q).2) (fun i9 => needJ v j (1 <<< (nI q &&& 31)) (nI i9) (stN v j)) 0 6)]) rfl ?_
            refine lv_iconst (v := (-1)) hx hb dX10_couldFinish_55 (by decide) ?_
            refine lv_icmp_ne (tgt := 74) hx hb dX10_couldFinish_56 (by decide) (fun c_35 => ?_) (fun c_35 => ?_)
            · skip
              obtain ⟨x_36, ex_36⟩ : ∃ y : Int32, y = (nI q) + 1 := ⟨_, rfl⟩
              refine lv_iinc (v := x_36) (lv' := [(4, .int x_36), (3, .int ((cfL v j q).1)), (2, .ref (a + 6 + 5 * j)), (0, .ref x), (1, .int (nI j))]) hx hb dX10_couldFinish_74 hl (k := 0) rfl (by rw [ex_36]; rfl) (by decide) rfl (fun ls hl => ?_)
              refine lv_goto (tgt := 25) hx hb dX10_couldFinish_77 (by decide) ?_
              have el_4 : x_36 = nI (q + 1) := by rw [ex_36]; exact nI_1 q
              have el_3 : (cfL v j q).1 = (cfL v j (q + 1)).1 := by rw [cfL, if_pos c_21, if_neg c_35]
              have hl := lv_sub (l' := [(4, .int x_36), (3, .int ((cfL v j q).1)), (2, .ref (a + 6 + 5 * j)), (0, .ref x), (1, .int (nI j))]) hl [0, 1, 2, 3, 4] rfl
              rw [el_4, el_3] at hl
              have wf_37 : τ1.2 (tt + 1) = some (.inl (G.2.1 0, 6, .inl (cfL v j (q + 1)).2)) := w1.trans (congrArg some (by rw [cfL, if_pos c_21, if_neg c_35]))
              have fr_38 : ∀ q : Nat, ¬ q = (tt + 1) → τ1.2 q = ω_3.2 q := by
                intro q h0
                rw [hfrτ1 q (by omega)]
              have z_39 : τ1.1 = ω_3.1 := by rw [hzτ1]
              exact ih (q + 1) τ1 (by omega) (by first | assumption | omega | (simp; done)) z_39 wf_37 fr_38 _ _ _ hR hS hl
            · skip
              refine lv_aload_n hx hb dX10_couldFinish_59 rfl (lv_at hl 3 rfl) ?_
              refine fw_get (v := .ref tt) (C := RX10) (T := TX10) (N := 9) hx hb hts hin10 hown hK hR f_27 rfl 8 (by decide) (hts (.fieldLink RX10 56 "UnreadLeaflets" "trialTin" "LUnreadLeaflets$Tin;") (by decide +kernel)) rfl dX10_couldFinish_60 ?_
              refine lv_aload_n hx hb dX10_couldFinish_63 rfl (lv_at hl 2 rfl) ?_
              refine lv_iconst (v := 1) hx hb dX10_couldFinish_64 (by decide) ?_
              refine lv_iload hx hb dX10_couldFinish_65 (lv_at hl 0 rfl) ?_
              refine lv_ishl hx hb dX10_couldFinish_67 ?_
              have hlf_40 : LeafS G τ1.2 (a + 6 + 5 * j) v j := (hLf j (by omega)).keep (fun q9 q1 q2 => by rw [hfrτ1 q9 (by omega), fr_6 q9 (by omega) (by omega)])
              refine fw_call (va_runV (As := [.ref (a + 6 + 5 * j), .int (1 <<< ((nI q) &&& 31))]) (rest := []) ⟨hx, hb, hml, hown, hts⟩ (c_X9_takeOut G hL l τ1 tt ((cfL v j q).2) (v 2) ⟨f_29, w1, f_30⟩ (a + 6 + 5 * j) j v hlf_40 (stN v j) (hs j hj2).1 (hs j hj2).2 (1 <<< (nI q &&& 31)) (by omega)) (cwV 2 hts gX10_couldFinish_X9_takeOut rfl rfl rfl (by decide +kernel) ⟨Nat.le_of_ble_eq_true rfl, Nat.le_of_ble_eq_true rfl⟩) (fw_preV hW hK hR f_29 rfl) rfl rfl hl.1 rfl (lv_room (Nat.le_of_ble_eq_true rfl)) dX10_couldFinish_68 ⟨Nat.le_of_ble_eq_true rfl, Nat.le_of_ble_eq_true rfl⟩) hS (fun v_41 ω_42 H locs hq_43 hR hS => ?_)
              obtain ⟨rfl, z_44, f_46, fr_45⟩ := hq_43
              refine W.eq (g2 := F0 mI 71 ls []) rfl ?_
              obtain ⟨x_47, ex_47⟩ : ∃ y : Int32, y = ((cfL v j q).1) + 1 := ⟨_, rfl⟩
              refine lv_iinc (v := x_47) (lv' := [(3, .int x_47), (4, .int (nI q)), (2, .ref (a + 6 + 5 * j)), (0, .ref x), (1, .int (nI j))]) hx hb dX10_couldFinish_71 hl (k := 1) rfl (by rw [ex_47]; rfl) (by decide) rfl (fun ls hl => ?_)
              obtain ⟨x_48, ex_48⟩ : ∃ y : Int32, y = (nI q) + 1 := ⟨_, rfl⟩
              refine lv_iinc (v := x_48) (lv' := [(4, .int x_48), (3, .int x_47), (2, .ref (a + 6 + 5 * j)), (0, .ref x), (1, .int (nI j))]) hx hb dX10_couldFinish_74 hl (k := 1) rfl (by rw [ex_48]; rfl) (by decide) rfl (fun ls hl => ?_)
              refine lv_goto (tgt := 25) hx hb dX10_couldFinish_77 (by decide) ?_
              have el_4 : x_48 = nI (q + 1) := by rw [ex_48]; exact nI_1 q
              have el_3 : x_47 = (cfL v j (q + 1)).1 := by rw [ex_47, cfL, if_pos c_21, if_pos c_35]
              have hl := lv_sub (l' := [(4, .int x_48), (3, .int x_47), (2, .ref (a + 6 + 5 * j)), (0, .ref x), (1, .int (nI j))]) hl [0, 1, 2, 3, 4] rfl
              rw [el_4, el_3] at hl
              have wf_49 : ω_42.2 (tt + 1) = some (.inl (G.2.1 0, 6, .inl (cfL v j (q + 1)).2)) := f_46.trans (congrArg some (by rw [cfL, if_pos c_21, if_pos c_35]))
              have fr_50 : ∀ q : Nat, ¬ q = (tt + 1) → ω_42.2 q = ω_3.2 q := by
                intro q h0
                rw [fr_45 q (by omega)]
                rw [hfrτ1 q (by omega)]
              have z_51 : ω_42.1 = ω_3.1 := by rw [z_44, hzτ1]
              exact ih (q + 1) ω_42 (by omega) (by first | assumption | omega | (simp; done)) z_51 wf_49 fr_50 _ _ _ hR hS hl
    exact loop_9 _ 0 ω_3 (Nat.lt_succ_self _) (by first | rfl | assumption | omega | (simp; done)) rfl f_7 (fun _ _ => rfl) _ _ _ hR hS (lv_sub hl [0, 1, 2, 3, 4] rfl)
