/-! ===== printed by program (wip/p44/lay_seg.py): the law, segment by segment ===== -/
set_option maxHeartbeats 8000000 in
set_option maxRecDepth 100000 in
theorem sg_H {G : FG} {l : Launch} {pP : Program} {eE : Env} {sS : State} {mI : MethodId} {ar9 : Array Value} {bl9 : List Frame} {meth : Method} {cD : Code} {Q : State → Prop} {adr lad : Nat → Nat} {b L dd : Nat} {xs : Nat → Int32} (C : LWx G l pP sS mI ar9 cD adr b L xs dd lad) {x z n a9 b9 : Nat} {S : StZ} {g0 : PR} {nw : Int32} {τ : FWd} {cells slots : Nat} {H : Heap} {locs : List Loc} {ls : Array Slot} (hc : cells ≤ 500000) (hs : slots ≤ 6000000) (h5 : S.1 5 = 1) (hsv : S.2.2.2.1 = g0) (h0 : g0 0 = nI n) (hnw : stM g0 = nw) (hCx : CI G τ.2 x S) (hR : fR G τ H) (hS : va_S (fwA G) sS.heap H locs) (hl : lv_has ls 14 [(13, .ref z), (12, .int (nI ((b9 + 2) % 6))), (11, .int (nI ((b9 + 1) % 6))), (10, .int (nI b9)), (9, .int (nI a9)), (4, .int nw), (3, .int (nI n)), (1, .ref x), (0, .ref b)])
    (kk : ∀ (τ : FWd) (H : Heap) (locs : List Loc) (ls : Array Slot), fR G τ H → va_S (fwA G) sS.heap H locs → W pP l eE room_1 sS mI ar9 bl9 meth cD H locs (cells + 2002) (slots + 12012) Q (F0 mI 1581 ls [.int 1])) : W pP l eE room_1 sS mI ar9 bl9 meth cD H locs cells slots Q (F0 mI 1550 ls []) := by
  obtain ⟨hx, hb, hml, hown, hts, hW, hL, hX0, hN, hFT, hJ, hD, hLT, hX, hbl, hbA, hL9⟩ := id C
  have hK := hL.K hW
  have r0 := rest_ok h5
  have ra : (ob_restore S).1 = nI n := by rw [r0, hsv]; exact h0
  have rb : (ob_restore S).2.1 14 = 0 := by rw [r0]; simp only [upd_at]
  have rc : (ob_restore S).2.1 3 = 0 := by rw [r0]; dsimp only; rw [upd_off (by decide), upd_at]
  have rg : (ob_restore S).2.2.1 = g0 := by rw [r0]; exact hsv
  refine lv_aload_n hx hb dL_law_1550 rfl (lv_at hl 7 rfl) ?_
  refine fx_call (vx_runV (As := []) (rest := []) ⟨hx, hb, hml, hown, hts⟩ (k_restore G hL l hX0 τ x S hCx  (nI n) (ra) (rb)) (cwV 0 hts gL_law_X10_restore rfl rfl rfl (by decide +kernel) ⟨Nat.le_of_ble_eq_true rfl, Nat.le_of_ble_eq_true rfl⟩) (fw_preV hW hK hR hCx.at0 rfl) rfl rfl hl.1 rfl (lv_room (Nat.le_of_ble_eq_true rfl)) dL_law_1551 ⟨by show cells + 1 ≤ 677820; omega, by show slots + 6 ≤ 7068237; omega⟩) hS (fun E ce q9 τ9 H locs hx_1 hR hS hce hcv hcl => hx_1.elim) (fun v_1 τ_1 H locs hq_1 hR hS => ?_)
  refine W.widen (k := cells + 1) (n := slots + 6) (by omega) (by omega) ?_
  obtain ⟨rfl, hC9, hF9⟩ := hq_1
  have hCx : CI G τ_1.2 x ((ob_restore S).2) := hC9
  refine W.eq (g2 := F0 mI 1554 ls [.int (nI n)]) rfl ?_
  refine lv_iload_n hx hb dL_law_1554 rfl (lv_at hl 6 rfl) ?_
  refine lv_icmp_ne (tgt := 1580) hx hb dL_law_1555 (by decide) (fun c => absurd rfl c) (fun c => ?_)
  refine lv_aload_n hx hb dL_law_1558 rfl (lv_at hl 7 rfl) ?_
  refine lv_bipush (v := 9) hx hb dL_law_1559 (by decide) ?_
  refine fx_call (vx_runV (As := [.int 9]) (rest := []) ⟨hx, hb, hml, hown, hts⟩ (k_account G hL l hX0 τ_1 x ((ob_restore S).2) hCx 9 0 (by rw [ac_9, rc])) (cwV 1 hts gL_law_X10_account rfl rfl rfl (by decide +kernel) ⟨Nat.le_of_ble_eq_true rfl, Nat.le_of_ble_eq_true rfl⟩) (fw_preV hW hK hR hCx.at0 rfl) rfl rfl hl.1 rfl (lv_room (Nat.le_of_ble_eq_true rfl)) dL_law_1561 ⟨by show cells + 1 + 1 ≤ 677820; omega, by show slots + 6 + 6 ≤ 7068237; omega⟩) hS (fun E ce q9 τ9 H locs hx_1 hR hS hce hcv hcl => hx_1.elim) (fun v_2 τ_2 H locs hq_2 hR hS => ?_)
  refine W.widen (k := cells + 2) (n := slots + 12) (by omega) (by omega) ?_
  obtain ⟨rfl, hC9, hF9⟩ := hq_2
  have hCx : CI G τ_2.2 x ((ob_restore S).2) := hC9
  refine W.eq (g2 := F0 mI 1564 ls [.int 0]) rfl ?_
  refine lv_if_ne (tgt := 1580) hx hb dL_law_1564 (by decide) (fun c => absurd rfl c) (fun c => ?_)
  refine lv_aload_n hx hb dL_law_1567 rfl (lv_at hl 7 rfl) ?_
  refine fw_call (va_runS (As := [.ref x]) (rest := []) ⟨hx, hb, hml, hown, hts⟩ (h_state G hL l hX0 τ_2 x ((ob_restore S).2) hCx) (va_cwS 1 hts gL_law_L_state rfl rfl rfl (by decide +kernel) ⟨Nat.le_of_ble_eq_true rfl, Nat.le_of_ble_eq_true rfl⟩) (fw_preS hW hR) rfl rfl hl.1 rfl (lv_room (Nat.le_of_ble_eq_true rfl)) dL_law_1568 ⟨by show cells + 2 + 2000 ≤ 677820; omega, by show slots + 12 + 12000 ≤ 7068237; omega⟩) hS (fun v_3 τ_3 H locs hq_3 hR hS => ?_)
  refine W.widen (k := cells + 2002) (n := slots + 12012) (by omega) (by omega) ?_
  obtain ⟨rfl, hC9, hF9⟩ := hq_3
  have hCx : CI G τ_3.2 x ((ob_restore S).2) := hC9
  refine W.eq (g2 := F0 mI 1571 ls [.int (stM ((ob_restore S).2).2.1)]) rfl ?_
  refine W.eq (g2 := F0 mI 1571 ls [.int nw]) (by rw [rg, hnw]) ?_
  refine lv_iload hx hb dL_law_1571 (lv_at hl 5 rfl) ?_
  refine lv_icmp_ne (tgt := 1580) hx hb dL_law_1573 (by decide) (fun c => absurd rfl c) (fun c => ?_)
  refine lv_iconst (v := 1) hx hb dL_law_1576 (by decide) ?_
  refine lv_goto (tgt := 1581) hx hb dL_law_1577 (by decide) ?_
  exact kk τ_3 H locs ls hR hS
