/-! ===== printed by program (wip/p44/lay_seg.py): the law, segment by segment ===== -/
set_option maxHeartbeats 8000000 in
set_option maxRecDepth 100000 in
theorem sg_C1 {G : FG} {l : Launch} {pP : Program} {eE : Env} {sS : State} {mI : MethodId} {ar9 : Array Value} {bl9 : List Frame} {meth : Method} {cD : Code} {Q : State → Prop} {adr lad : Nat → Nat} {b L dd : Nat} {xs : Nat → Int32} (C : LWx G l pP sS mI ar9 cD adr b L xs dd lad) {x n s o : Nat} {S : StZ} {nw : Int32} {τ : FWd} {cells slots : Nat} {H : Heap} {locs : List Loc} {ls : Array Slot} (hc : cells ≤ 500000) (hs : slots ≤ 6000000) (hA : Arch S.2.1 n s o) (h7 : S.1 7 = 0) (hnw : stM S.2.1 = nw) (hCx : CI G τ.2 x S) (hR : fR G τ H) (hS : va_S (fwA G) sS.heap H locs) (hl : lv_has ls 14 [(6, .int (nI o)), (5, .int (nI s)), (4, .int nw), (3, .int (nI n)), (1, .ref x), (0, .ref b)])
    (kk : ∀ (T : StZ) (τ : FWd) (H : Heap) (locs : List Loc) (ls : Array Slot), KeepX S T → CI G τ.2 x T → fR G τ H → va_S (fwA G) sS.heap H locs → lv_has ls 14 [(6, .int (nI o)), (5, .int (nI s)), (4, .int nw), (3, .int (nI n)), (1, .ref x), (0, .ref b)] → W pP l eE room_1 sS mI ar9 bl9 meth cD H locs (cells + 2068) (slots + 13408) Q (F0 mI 299 ls [])) : W pP l eE room_1 sS mI ar9 bl9 meth cD H locs cells slots Q (F0 mI 216 ls []) := by
  obtain ⟨hx, hb, hml, hown, hts, hW, hL, hX0, hN, hFT, hJ, hD, hLT, hX, hbl, hbA, hL9⟩ := id C
  have hK := hL.K hW
  obtain ⟨A1, A2, A3, A4, A5, A6, A7, A8, A9⟩ := id hA
  have hAs := asc_tmm A6 A6
  refine lv_aload_n hx hb dL_law_216 rfl (lv_at hl 4 rfl) ?_
  have lt_x := hCx.lt hR
  refine tb_mm2 C (k6 := 0) rfl (by omega) (by omega) (by omega) hR hS hl (fun τ_1 r_1 H locs hr_1 hf_1 hT_1 hR hS => ?_)
  have hCx := hCx.fr (τ := τ_1.2) (fun q9 h1 h2 => hf_1 q9 (by omega))
  refine W.widen (k := cells + 4) (n := slots + 1024) (by omega) (by omega) ?_
  have hTx : TxR G τ_1.2 x r_1 (tx_mm o o) := hT_1.tx (by omega) hr_1
  refine fw_call (va_runS (As := [.ref x, .ref r_1]) (rest := []) ⟨hx, hb, hml, hown, hts⟩ (h_put G hL l hX0 hJ τ_1 x r_1 S hCx (tx_mm o o) hTx hAs (by show 9 ≤ 60; decide) h7) (va_cwS 2 hts gL_law_L_put rfl rfl rfl (by decide +kernel) ⟨Nat.le_of_ble_eq_true rfl, Nat.le_of_ble_eq_true rfl⟩) (fw_preS hW hR) rfl rfl hl.1 rfl (lv_room (Nat.le_of_ble_eq_true rfl)) dL_law_247 ⟨by show cells + 4 + 60 ≤ 677820; omega, by show slots + 1024 + 360 ≤ 7068237; omega⟩) hS (fun v_2 τ_2 H locs hq_2 hR hS => ?_)
  refine W.widen (k := cells + 64) (n := slots + 1384) (by omega) (by omega) ?_
  obtain ⟨rfl, hC9, hF9⟩ := hq_2
  have hCx : CI G τ_2.2 x (putS S (tx_mm o o)) := hC9
  refine W.eq (g2 := F0 mI 250 ls []) rfl ?_
  refine lv_aload_n hx hb dL_law_250 rfl (lv_at hl 4 rfl) ?_
  obtain ⟨m1, m9, m10, m11, mK⟩ := com_m2 (S := S) hA hAs
  refine fx_call (vx_runSX (As := [.ref x]) (rest := []) ⟨hx, hb, hml, hown, hts⟩ (h_runs G hL l hX0 hN adr hFT hJ τ_2 x (putS S (tx_mm o o)) hCx) (vx_cwSW 1 hts gL_law_L_runsB rfl rfl rfl (by decide +kernel) ⟨Nat.le_of_ble_eq_true rfl, Nat.le_of_ble_eq_true rfl⟩) (fw_preS hW hR) rfl rfl hl.1 rfl (lv_room (Nat.le_of_ble_eq_true rfl)) dL_law_251 ⟨by show cells + 64 + 1 ≤ 677820; omega, by show slots + 1384 + 6 ≤ 7068237; omega⟩) hS (fun E ce q9 τ9 H locs hx_1 hR hS hce hcv hcl => hx_1.elim) (fun v_3 τ_3 H locs hq_3 hR hS => ?_)
  refine W.widen (k := cells + 65) (n := slots + 1390) (by omega) (by omega) ?_
  obtain ⟨rfl, hC9, hF9⟩ := hq_3
  have hCx : CI G τ_3.2 x ((ob_runs (putS S (tx_mm o o))).2) := hC9
  refine W.eq (g2 := F0 mI 254 ls [.int (ob_runs (putS S (tx_mm o o))).1]) rfl ?_
  refine W.eq (g2 := F0 mI 254 ls [.int (-2)]) (by rw [m1]) ?_
  obtain ⟨T, hT⟩ : ∃ z9 : StZ, z9 = (ob_runs (putS S (tx_mm o o))).2 := ⟨_, rfl⟩
  rw [← hT] at hCx m9 m10 m11 mK
  refine lv_bipush (v := (-2)) hx hb dL_law_254 (by decide) ?_
  refine lv_icmp_ne (tgt := 297) hx hb dL_law_256 (by decide) (fun c => absurd rfl c) (fun c => ?_)
  refine lv_aload_n hx hb dL_law_259 rfl (lv_at hl 4 rfl) ?_
  refine lv_iconst (v := 0) hx hb dL_law_260 (by decide) ?_
  refine fx_call (vx_runV (As := [.int 0]) (rest := []) ⟨hx, hb, hml, hown, hts⟩ (k_reason G hL l hX0 τ_3 x T hCx 0 12 (re_0 m9 (by decide))) (cwV 1 hts gL_law_X10_reason rfl rfl rfl (by decide +kernel) ⟨Nat.le_of_ble_eq_true rfl, Nat.le_of_ble_eq_true rfl⟩) (fw_preV hW hK hR hCx.at0 rfl) rfl rfl hl.1 rfl (lv_room (Nat.le_of_ble_eq_true rfl)) dL_law_261 ⟨by show cells + 65 + 1 ≤ 677820; omega, by show slots + 1390 + 6 ≤ 7068237; omega⟩) hS (fun E ce q9 τ9 H locs hx_1 hR hS hce hcv hcl => hx_1.elim) (fun v_4 τ_4 H locs hq_4 hR hS => ?_)
  refine W.widen (k := cells + 66) (n := slots + 1396) (by omega) (by omega) ?_
  obtain ⟨rfl, hC9, hF9⟩ := hq_4
  have hCx : CI G τ_4.2 x T := hC9
  refine W.eq (g2 := F0 mI 264 ls [.int 12]) rfl ?_
  refine lv_bipush (v := 12) hx hb dL_law_264 (by decide) ?_
  refine lv_icmp_ne (tgt := 297) hx hb dL_law_266 (by decide) (fun c => absurd rfl c) (fun c => ?_)
  refine lv_aload_n hx hb dL_law_269 rfl (lv_at hl 4 rfl) ?_
  refine lv_iconst (v := 1) hx hb dL_law_270 (by decide) ?_
  refine fx_call (vx_runV (As := [.int 1]) (rest := []) ⟨hx, hb, hml, hown, hts⟩ (k_reason G hL l hX0 τ_4 x T hCx 1 (nI o) (re_1 m9 (by decide) m10)) (cwV 1 hts gL_law_X10_reason rfl rfl rfl (by decide +kernel) ⟨Nat.le_of_ble_eq_true rfl, Nat.le_of_ble_eq_true rfl⟩) (fw_preV hW hK hR hCx.at0 rfl) rfl rfl hl.1 rfl (lv_room (Nat.le_of_ble_eq_true rfl)) dL_law_271 ⟨by show cells + 66 + 1 ≤ 677820; omega, by show slots + 1396 + 6 ≤ 7068237; omega⟩) hS (fun E ce q9 τ9 H locs hx_1 hR hS hce hcv hcl => hx_1.elim) (fun v_5 τ_5 H locs hq_5 hR hS => ?_)
  refine W.widen (k := cells + 67) (n := slots + 1402) (by omega) (by omega) ?_
  obtain ⟨rfl, hC9, hF9⟩ := hq_5
  have hCx : CI G τ_5.2 x T := hC9
  refine W.eq (g2 := F0 mI 274 ls [.int (nI o)]) rfl ?_
  refine lv_iload hx hb dL_law_274 (lv_at hl 0 rfl) ?_
  refine lv_icmp_ne (tgt := 297) hx hb dL_law_276 (by decide) (fun c => absurd rfl c) (fun c => ?_)
  refine lv_aload_n hx hb dL_law_279 rfl (lv_at hl 4 rfl) ?_
  refine lv_iconst (v := 2) hx hb dL_law_280 (by decide) ?_
  refine fx_call (vx_runV (As := [.int 2]) (rest := []) ⟨hx, hb, hml, hown, hts⟩ (k_reason G hL l hX0 τ_5 x T hCx 2 1 (re_2 m9 (by decide) m11)) (cwV 1 hts gL_law_X10_reason rfl rfl rfl (by decide +kernel) ⟨Nat.le_of_ble_eq_true rfl, Nat.le_of_ble_eq_true rfl⟩) (fw_preV hW hK hR hCx.at0 rfl) rfl rfl hl.1 rfl (lv_room (Nat.le_of_ble_eq_true rfl)) dL_law_281 ⟨by show cells + 67 + 1 ≤ 677820; omega, by show slots + 1402 + 6 ≤ 7068237; omega⟩) hS (fun E ce q9 τ9 H locs hx_1 hR hS hce hcv hcl => hx_1.elim) (fun v_6 τ_6 H locs hq_6 hR hS => ?_)
  refine W.widen (k := cells + 68) (n := slots + 1408) (by omega) (by omega) ?_
  obtain ⟨rfl, hC9, hF9⟩ := hq_6
  have hCx : CI G τ_6.2 x T := hC9
  refine W.eq (g2 := F0 mI 284 ls [.int 1]) rfl ?_
  refine lv_iconst (v := 1) hx hb dL_law_284 (by decide) ?_
  refine lv_icmp_ne (tgt := 297) hx hb dL_law_285 (by decide) (fun c => absurd rfl c) (fun c => ?_)
  refine lv_aload_n hx hb dL_law_288 rfl (lv_at hl 4 rfl) ?_
  refine fw_call (va_runS (As := [.ref x]) (rest := []) ⟨hx, hb, hml, hown, hts⟩ (h_state G hL l hX0 τ_6 x T hCx) (va_cwS 1 hts gL_law_L_state rfl rfl rfl (by decide +kernel) ⟨Nat.le_of_ble_eq_true rfl, Nat.le_of_ble_eq_true rfl⟩) (fw_preS hW hR) rfl rfl hl.1 rfl (lv_room (Nat.le_of_ble_eq_true rfl)) dL_law_289 ⟨by show cells + 68 + 2000 ≤ 677820; omega, by show slots + 1408 + 12000 ≤ 7068237; omega⟩) hS (fun v_7 τ_7 H locs hq_7 hR hS => ?_)
  refine W.widen (k := cells + 2068) (n := slots + 13408) (by omega) (by omega) ?_
  obtain ⟨rfl, hC9, hF9⟩ := hq_7
  have hCx : CI G τ_7.2 x T := hC9
  refine W.eq (g2 := F0 mI 292 ls [.int (stM (T).2.1)]) rfl ?_
  refine W.eq (g2 := F0 mI 292 ls [.int nw]) (by rw [mK.1, hnw]) ?_
  refine lv_iload hx hb dL_law_292 (lv_at hl 2 rfl) ?_
  refine lv_icmp_eq (tgt := 299) hx hb dL_law_294 (by decide) (fun c => ?_) (fun c => absurd rfl c)
  exact kk T τ_7 H locs ls mK hCx hR hS hl
set_option maxHeartbeats 8000000 in
set_option maxRecDepth 100000 in
theorem sg_C2 {G : FG} {l : Launch} {pP : Program} {eE : Env} {sS : State} {mI : MethodId} {ar9 : Array Value} {bl9 : List Frame} {meth : Method} {cD : Code} {Q : State → Prop} {adr lad : Nat → Nat} {b L dd : Nat} {xs : Nat → Int32} (C : LWx G l pP sS mI ar9 cD adr b L xs dd lad) {x n s o : Nat} {S : StZ} {nw : Int32} {τ : FWd} {cells slots : Nat} {H : Heap} {locs : List Loc} {ls : Array Slot} (hc : cells ≤ 500000) (hs : slots ≤ 6000000) (h0 : S.2.1 0 = nI n) (hn : n ≤ 8) (h7 : S.1 7 = 0) (hnw : stM S.2.1 = nw) (hCx : CI G τ.2 x S) (hR : fR G τ H) (hS : va_S (fwA G) sS.heap H locs) (hl : lv_has ls 14 [(6, .int (nI o)), (5, .int (nI s)), (4, .int nw), (3, .int (nI n)), (1, .ref x), (0, .ref b)])
    (kk : ∀ (T : StZ) (τ : FWd) (H : Heap) (locs : List Loc) (ls : Array Slot), KeepX S T → CI G τ.2 x T → fR G τ H → va_S (fwA G) sS.heap H locs → lv_has ls 14 [(6, .int (nI o)), (5, .int (nI s)), (4, .int nw), (3, .int (nI n)), (1, .ref x), (0, .ref b)] → W pP l eE room_1 sS mI ar9 bl9 meth cD H locs (cells + 2064) (slots + 12384) Q (F0 mI 351 ls [])) : W pP l eE room_1 sS mI ar9 bl9 meth cD H locs cells slots Q (F0 mI 299 ls []) := by
  obtain ⟨hx, hb, hml, hown, hts, hW, hL, hX0, hN, hFT, hJ, hD, hLT, hX, hbl, hbA, hL9⟩ := id C
  have hK := hL.K hW
  have hAs : AscT tx_f9 := by unfold AscT; decide
  refine lv_aload_n hx hb dL_law_299 rfl (lv_at hl 4 rfl) ?_
  refine va_ldcS (own := RL) hx hb hown (vk_R.warm hW (hLT (167, "f9", [102, 57]) (by decide)).1) dL_law_300 ?_
  refine fw_call (va_runS (As := [.ref x, .ref (lad 167)]) (rest := []) ⟨hx, hb, hml, hown, hts⟩ (h_put G hL l hX0 hJ τ x (lad 167) S hCx tx_f9 (Or.inl (hLT (167, "f9", [102, 57]) (by decide)).2) hAs (by decide) h7) (va_cwS 2 hts gL_law_L_put rfl rfl rfl (by decide +kernel) ⟨Nat.le_of_ble_eq_true rfl, Nat.le_of_ble_eq_true rfl⟩) (fw_preS hW hR) rfl rfl hl.1 rfl (lv_room (Nat.le_of_ble_eq_true rfl)) dL_law_302 ⟨by show cells + 60 ≤ 677820; omega, by show slots + 360 ≤ 7068237; omega⟩) hS (fun v_1 τ_1 H locs hq_1 hR hS => ?_)
  refine W.widen (k := cells + 60) (n := slots + 360) (by omega) (by omega) ?_
  obtain ⟨rfl, hC9, hF9⟩ := hq_1
  have hCx : CI G τ_1.2 x (putS S tx_f9) := hC9
  refine W.eq (g2 := F0 mI 305 ls []) rfl ?_
  refine lv_aload_n hx hb dL_law_305 rfl (lv_at hl 4 rfl) ?_
  obtain ⟨m1, m9, m10, m11, mK⟩ := com_f9 (S := S) h0 hn hAs
  refine fx_call (vx_runSX (As := [.ref x]) (rest := []) ⟨hx, hb, hml, hown, hts⟩ (h_runs G hL l hX0 hN adr hFT hJ τ_1 x (putS S tx_f9) hCx) (vx_cwSW 1 hts gL_law_L_runsB rfl rfl rfl (by decide +kernel) ⟨Nat.le_of_ble_eq_true rfl, Nat.le_of_ble_eq_true rfl⟩) (fw_preS hW hR) rfl rfl hl.1 rfl (lv_room (Nat.le_of_ble_eq_true rfl)) dL_law_306 ⟨by show cells + 60 + 1 ≤ 677820; omega, by show slots + 360 + 6 ≤ 7068237; omega⟩) hS (fun E ce q9 τ9 H locs hx_1 hR hS hce hcv hcl => hx_1.elim) (fun v_2 τ_2 H locs hq_2 hR hS => ?_)
  refine W.widen (k := cells + 61) (n := slots + 366) (by omega) (by omega) ?_
  obtain ⟨rfl, hC9, hF9⟩ := hq_2
  have hCx : CI G τ_2.2 x ((ob_runs (putS S tx_f9)).2) := hC9
  refine W.eq (g2 := F0 mI 309 ls [.int (ob_runs (putS S tx_f9)).1]) rfl ?_
  refine W.eq (g2 := F0 mI 309 ls [.int (-2)]) (by rw [m1]) ?_
  obtain ⟨T, hT⟩ : ∃ z9 : StZ, z9 = (ob_runs (putS S tx_f9)).2 := ⟨_, rfl⟩
  rw [← hT] at hCx m9 m10 m11 mK
  refine lv_bipush (v := (-2)) hx hb dL_law_309 (by decide) ?_
  refine lv_icmp_ne (tgt := 349) hx hb dL_law_311 (by decide) (fun c => absurd rfl c) (fun c => ?_)
  refine lv_aload_n hx hb dL_law_314 rfl (lv_at hl 4 rfl) ?_
  refine lv_iconst (v := 0) hx hb dL_law_315 (by decide) ?_
  refine fx_call (vx_runV (As := [.int 0]) (rest := []) ⟨hx, hb, hml, hown, hts⟩ (k_reason G hL l hX0 τ_2 x T hCx 0 3 (re_0 m9 (by decide))) (cwV 1 hts gL_law_X10_reason rfl rfl rfl (by decide +kernel) ⟨Nat.le_of_ble_eq_true rfl, Nat.le_of_ble_eq_true rfl⟩) (fw_preV hW hK hR hCx.at0 rfl) rfl rfl hl.1 rfl (lv_room (Nat.le_of_ble_eq_true rfl)) dL_law_316 ⟨by show cells + 61 + 1 ≤ 677820; omega, by show slots + 366 + 6 ≤ 7068237; omega⟩) hS (fun E ce q9 τ9 H locs hx_1 hR hS hce hcv hcl => hx_1.elim) (fun v_3 τ_3 H locs hq_3 hR hS => ?_)
  refine W.widen (k := cells + 62) (n := slots + 372) (by omega) (by omega) ?_
  obtain ⟨rfl, hC9, hF9⟩ := hq_3
  have hCx : CI G τ_3.2 x T := hC9
  refine W.eq (g2 := F0 mI 319 ls [.int 3]) rfl ?_
  refine lv_iconst (v := 3) hx hb dL_law_319 (by decide) ?_
  refine lv_icmp_ne (tgt := 349) hx hb dL_law_320 (by decide) (fun c => absurd rfl c) (fun c => ?_)
  refine lv_aload_n hx hb dL_law_323 rfl (lv_at hl 4 rfl) ?_
  refine lv_iconst (v := 1) hx hb dL_law_324 (by decide) ?_
  refine fx_call (vx_runV (As := [.int 1]) (rest := []) ⟨hx, hb, hml, hown, hts⟩ (k_reason G hL l hX0 τ_3 x T hCx 1 (nI n) (re_1 m9 (by decide) m10)) (cwV 1 hts gL_law_X10_reason rfl rfl rfl (by decide +kernel) ⟨Nat.le_of_ble_eq_true rfl, Nat.le_of_ble_eq_true rfl⟩) (fw_preV hW hK hR hCx.at0 rfl) rfl rfl hl.1 rfl (lv_room (Nat.le_of_ble_eq_true rfl)) dL_law_325 ⟨by show cells + 62 + 1 ≤ 677820; omega, by show slots + 372 + 6 ≤ 7068237; omega⟩) hS (fun E ce q9 τ9 H locs hx_1 hR hS hce hcv hcl => hx_1.elim) (fun v_4 τ_4 H locs hq_4 hR hS => ?_)
  refine W.widen (k := cells + 63) (n := slots + 378) (by omega) (by omega) ?_
  obtain ⟨rfl, hC9, hF9⟩ := hq_4
  have hCx : CI G τ_4.2 x T := hC9
  refine W.eq (g2 := F0 mI 328 ls [.int (nI n)]) rfl ?_
  refine lv_iload_n hx hb dL_law_328 rfl (lv_at hl 3 rfl) ?_
  refine lv_icmp_ne (tgt := 349) hx hb dL_law_329 (by decide) (fun c => absurd rfl c) (fun c => ?_)
  refine lv_aload_n hx hb dL_law_332 rfl (lv_at hl 4 rfl) ?_
  refine lv_iconst (v := 2) hx hb dL_law_333 (by decide) ?_
  refine fx_call (vx_runV (As := [.int 2]) (rest := []) ⟨hx, hb, hml, hown, hts⟩ (k_reason G hL l hX0 τ_4 x T hCx 2 0 (re_2 m9 (by decide) m11)) (cwV 1 hts gL_law_X10_reason rfl rfl rfl (by decide +kernel) ⟨Nat.le_of_ble_eq_true rfl, Nat.le_of_ble_eq_true rfl⟩) (fw_preV hW hK hR hCx.at0 rfl) rfl rfl hl.1 rfl (lv_room (Nat.le_of_ble_eq_true rfl)) dL_law_334 ⟨by show cells + 63 + 1 ≤ 677820; omega, by show slots + 378 + 6 ≤ 7068237; omega⟩) hS (fun E ce q9 τ9 H locs hx_1 hR hS hce hcv hcl => hx_1.elim) (fun v_5 τ_5 H locs hq_5 hR hS => ?_)
  refine W.widen (k := cells + 64) (n := slots + 384) (by omega) (by omega) ?_
  obtain ⟨rfl, hC9, hF9⟩ := hq_5
  have hCx : CI G τ_5.2 x T := hC9
  refine W.eq (g2 := F0 mI 337 ls [.int 0]) rfl ?_
  refine lv_if_ne (tgt := 349) hx hb dL_law_337 (by decide) (fun c => absurd rfl c) (fun c => ?_)
  refine lv_aload_n hx hb dL_law_340 rfl (lv_at hl 4 rfl) ?_
  refine fw_call (va_runS (As := [.ref x]) (rest := []) ⟨hx, hb, hml, hown, hts⟩ (h_state G hL l hX0 τ_5 x T hCx) (va_cwS 1 hts gL_law_L_state rfl rfl rfl (by decide +kernel) ⟨Nat.le_of_ble_eq_true rfl, Nat.le_of_ble_eq_true rfl⟩) (fw_preS hW hR) rfl rfl hl.1 rfl (lv_room (Nat.le_of_ble_eq_true rfl)) dL_law_341 ⟨by show cells + 64 + 2000 ≤ 677820; omega, by show slots + 384 + 12000 ≤ 7068237; omega⟩) hS (fun v_6 τ_6 H locs hq_6 hR hS => ?_)
  refine W.widen (k := cells + 2064) (n := slots + 12384) (by omega) (by omega) ?_
  obtain ⟨rfl, hC9, hF9⟩ := hq_6
  have hCx : CI G τ_6.2 x T := hC9
  refine W.eq (g2 := F0 mI 344 ls [.int (stM (T).2.1)]) rfl ?_
  refine W.eq (g2 := F0 mI 344 ls [.int nw]) (by rw [mK.1, hnw]) ?_
  refine lv_iload hx hb dL_law_344 (lv_at hl 2 rfl) ?_
  refine lv_icmp_eq (tgt := 351) hx hb dL_law_346 (by decide) (fun c => ?_) (fun c => absurd rfl c)
  exact kk T τ_6 H locs ls mK hCx hR hS hl
set_option maxHeartbeats 8000000 in
set_option maxRecDepth 100000 in
theorem sg_C3 {G : FG} {l : Launch} {pP : Program} {eE : Env} {sS : State} {mI : MethodId} {ar9 : Array Value} {bl9 : List Frame} {meth : Method} {cD : Code} {Q : State → Prop} {adr lad : Nat → Nat} {b L dd : Nat} {xs : Nat → Int32} (C : LWx G l pP sS mI ar9 cD adr b L xs dd lad) {x n s o : Nat} {S : StZ} {nw : Int32} {τ : FWd} {cells slots : Nat} {H : Heap} {locs : List Loc} {ls : Array Slot} (hc : cells ≤ 500000) (hs : slots ≤ 6000000) (h0 : S.2.1 0 = nI n) (h1 : 1 ≤ n) (hn : n ≤ 8) (h7 : S.1 7 = 0) (hCx : CI G τ.2 x S) (hR : fR G τ H) (hS : va_S (fwA G) sS.heap H locs) (hl : lv_has ls 14 [(6, .int (nI o)), (5, .int (nI s)), (4, .int nw), (3, .int (nI n)), (1, .ref x), (0, .ref b)])
    (kk : ∀ (T : StZ) (τ : FWd) (H : Heap) (locs : List Loc) (ls : Array Slot), KeepX S T → CI G τ.2 x T → fR G τ H → va_S (fwA G) sS.heap H locs → lv_has ls 14 [(6, .int (nI o)), (5, .int (nI s)), (4, .int nw), (3, .int (nI n)), (1, .ref x), (0, .ref b)] → W pP l eE room_1 sS mI ar9 bl9 meth cD H locs (cells + 63) (slots + 378) Q (F0 mI 385 ls [])) : W pP l eE room_1 sS mI ar9 bl9 meth cD H locs cells slots Q (F0 mI 351 ls []) := by
  obtain ⟨hx, hb, hml, hown, hts, hW, hL, hX0, hN, hFT, hJ, hD, hLT, hX, hbl, hbA, hL9⟩ := id C
  have hK := hL.K hW
  have hAs : AscT tx_s7 := by unfold AscT; decide
  refine lv_aload_n hx hb dL_law_351 rfl (lv_at hl 4 rfl) ?_
  refine va_ldcS (own := RL) hx hb hown (vk_R.warm hW (hLT (169, "s0:3*2=7", [115, 48, 58, 51, 42, 50, 61, 55]) (by decide)).1) dL_law_352 ?_
  refine fw_call (va_runS (As := [.ref x, .ref (lad 169)]) (rest := []) ⟨hx, hb, hml, hown, hts⟩ (h_put G hL l hX0 hJ τ x (lad 169) S hCx tx_s7 (Or.inl (hLT (169, "s0:3*2=7", [115, 48, 58, 51, 42, 50, 61, 55]) (by decide)).2) hAs (by decide) h7) (va_cwS 2 hts gL_law_L_put rfl rfl rfl (by decide +kernel) ⟨Nat.le_of_ble_eq_true rfl, Nat.le_of_ble_eq_true rfl⟩) (fw_preS hW hR) rfl rfl hl.1 rfl (lv_room (Nat.le_of_ble_eq_true rfl)) dL_law_354 ⟨by show cells + 60 ≤ 677820; omega, by show slots + 360 ≤ 7068237; omega⟩) hS (fun v_1 τ_1 H locs hq_1 hR hS => ?_)
  refine W.widen (k := cells + 60) (n := slots + 360) (by omega) (by omega) ?_
  obtain ⟨rfl, hC9, hF9⟩ := hq_1
  have hCx : CI G τ_1.2 x (putS S tx_s7) := hC9
  refine W.eq (g2 := F0 mI 357 ls []) rfl ?_
  refine lv_aload_n hx hb dL_law_357 rfl (lv_at hl 4 rfl) ?_
  obtain ⟨m1, m9, m10, mK⟩ := com_s7 (S := S) h0 h1 hn hAs
  refine fx_call (vx_runSX (As := [.ref x]) (rest := []) ⟨hx, hb, hml, hown, hts⟩ (h_runs G hL l hX0 hN adr hFT hJ τ_1 x (putS S tx_s7) hCx) (vx_cwSW 1 hts gL_law_L_runsB rfl rfl rfl (by decide +kernel) ⟨Nat.le_of_ble_eq_true rfl, Nat.le_of_ble_eq_true rfl⟩) (fw_preS hW hR) rfl rfl hl.1 rfl (lv_room (Nat.le_of_ble_eq_true rfl)) dL_law_358 ⟨by show cells + 60 + 1 ≤ 677820; omega, by show slots + 360 + 6 ≤ 7068237; omega⟩) hS (fun E ce q9 τ9 H locs hx_1 hR hS hce hcv hcl => hx_1.elim) (fun v_2 τ_2 H locs hq_2 hR hS => ?_)
  refine W.widen (k := cells + 61) (n := slots + 366) (by omega) (by omega) ?_
  obtain ⟨rfl, hC9, hF9⟩ := hq_2
  have hCx : CI G τ_2.2 x ((ob_runs (putS S tx_s7)).2) := hC9
  refine W.eq (g2 := F0 mI 361 ls [.int (ob_runs (putS S tx_s7)).1]) rfl ?_
  refine W.eq (g2 := F0 mI 361 ls [.int (-2)]) (by rw [m1]) ?_
  obtain ⟨T, hT⟩ : ∃ z9 : StZ, z9 = (ob_runs (putS S tx_s7)).2 := ⟨_, rfl⟩
  rw [← hT] at hCx m9 m10 mK
  refine lv_bipush (v := (-2)) hx hb dL_law_361 (by decide) ?_
  refine lv_icmp_ne (tgt := 383) hx hb dL_law_363 (by decide) (fun c => absurd rfl c) (fun c => ?_)
  refine lv_aload_n hx hb dL_law_366 rfl (lv_at hl 4 rfl) ?_
  refine lv_iconst (v := 0) hx hb dL_law_367 (by decide) ?_
  refine fx_call (vx_runV (As := [.int 0]) (rest := []) ⟨hx, hb, hml, hown, hts⟩ (k_reason G hL l hX0 τ_2 x T hCx 0 1 (re_0 m9 (by decide))) (cwV 1 hts gL_law_X10_reason rfl rfl rfl (by decide +kernel) ⟨Nat.le_of_ble_eq_true rfl, Nat.le_of_ble_eq_true rfl⟩) (fw_preV hW hK hR hCx.at0 rfl) rfl rfl hl.1 rfl (lv_room (Nat.le_of_ble_eq_true rfl)) dL_law_368 ⟨by show cells + 61 + 1 ≤ 677820; omega, by show slots + 366 + 6 ≤ 7068237; omega⟩) hS (fun E ce q9 τ9 H locs hx_1 hR hS hce hcv hcl => hx_1.elim) (fun v_3 τ_3 H locs hq_3 hR hS => ?_)
  refine W.widen (k := cells + 62) (n := slots + 372) (by omega) (by omega) ?_
  obtain ⟨rfl, hC9, hF9⟩ := hq_3
  have hCx : CI G τ_3.2 x T := hC9
  refine W.eq (g2 := F0 mI 371 ls [.int 1]) rfl ?_
  refine lv_iconst (v := 1) hx hb dL_law_371 (by decide) ?_
  refine lv_icmp_ne (tgt := 383) hx hb dL_law_372 (by decide) (fun c => absurd rfl c) (fun c => ?_)
  refine lv_aload_n hx hb dL_law_375 rfl (lv_at hl 4 rfl) ?_
  refine lv_iconst (v := 1) hx hb dL_law_376 (by decide) ?_
  refine fx_call (vx_runV (As := [.int 1]) (rest := []) ⟨hx, hb, hml, hown, hts⟩ (k_reason G hL l hX0 τ_3 x T hCx 1 0 (re_1 m9 (by decide) m10)) (cwV 1 hts gL_law_X10_reason rfl rfl rfl (by decide +kernel) ⟨Nat.le_of_ble_eq_true rfl, Nat.le_of_ble_eq_true rfl⟩) (fw_preV hW hK hR hCx.at0 rfl) rfl rfl hl.1 rfl (lv_room (Nat.le_of_ble_eq_true rfl)) dL_law_377 ⟨by show cells + 62 + 1 ≤ 677820; omega, by show slots + 372 + 6 ≤ 7068237; omega⟩) hS (fun E ce q9 τ9 H locs hx_1 hR hS hce hcv hcl => hx_1.elim) (fun v_4 τ_4 H locs hq_4 hR hS => ?_)
  refine W.widen (k := cells + 63) (n := slots + 378) (by omega) (by omega) ?_
  obtain ⟨rfl, hC9, hF9⟩ := hq_4
  have hCx : CI G τ_4.2 x T := hC9
  refine W.eq (g2 := F0 mI 380 ls [.int 0]) rfl ?_
  refine lv_if_eq (tgt := 385) hx hb dL_law_380 (by decide) (fun c => ?_) (fun c => absurd rfl c)
  exact kk T τ_4 H locs ls mK hCx hR hS hl
set_option maxHeartbeats 8000000 in
set_option maxRecDepth 100000 in
theorem sg_E {G : FG} {l : Launch} {pP : Program} {eE : Env} {sS : State} {mI : MethodId} {ar9 : Array Value} {bl9 : List Frame} {meth : Method} {cD : Code} {Q : State → Prop} {adr lad : Nat → Nat} {b L dd : Nat} {xs : Nat → Int32} (C : LWx G l pP sS mI ar9 cD adr b L xs dd lad) {x n s o : Nat} {S : StZ} {nw : Int32} {τ : FWd} {cells slots : Nat} {H : Heap} {locs : List Loc} {ls : Array Slot} (hc : cells ≤ 500000) (hs : slots ≤ 6000000) (h7 : S.1 7 = 0) (hnw : stM S.2.1 = nw) (hCx : CI G τ.2 x S) (hR : fR G τ H) (hS : va_S (fwA G) sS.heap H locs) (hl : lv_has ls 14 [(6, .int (nI o)), (5, .int (nI s)), (4, .int nw), (3, .int (nI n)), (1, .ref x), (0, .ref b)])
    (kk : ∀ (T : StZ) (τ : FWd) (H : Heap) (locs : List Loc) (ls : Array Slot), KeepX S T → CI G τ.2 x T → fR G τ H → va_S (fwA G) sS.heap H locs → lv_has ls 14 [(6, .int (nI o)), (5, .int (nI s)), (4, .int nw), (3, .int (nI n)), (1, .ref x), (0, .ref b)] → W pP l eE room_1 sS mI ar9 bl9 meth cD H locs (cells + 2610) (slots + 15660) Q (F0 mI 499 ls [])) : W pP l eE room_1 sS mI ar9 bl9 meth cD H locs cells slots Q (F0 mI 385 ls []) := by
  obtain ⟨hx, hb, hml, hown, hts, hW, hL, hX0, hN, hFT, hJ, hD, hLT, hX, hbl, hbA, hL9⟩ := id C
  have hK := hL.K hW
  refine lv_aload_n hx hb dL_law_385 rfl (lv_at hl 4 rfl) ?_
  refine va_ldcS (own := RL) hx hb hown (vk_R.warm hW (hLT (171, "s0:3*2=", [115, 48, 58, 51, 42, 50, 61]) (by decide)).1) dL_law_386 ?_
  refine lv_bipush (v := 7) hx hb dL_law_388 (by decide) ?_
  have hAs0 : AscT [115, 48, 58, 51, 42, 50, 61] := by unfold AscT; decide
  obtain ⟨m14_0, m1_0, m8_0, mK_0⟩ := com_bad (S := S) (cs := [115, 48, 58, 51, 42, 50, 61]) (pl := 7) hAs0 (by decide) (by decide +kernel) (by decide +kernel)
  refine fw_call (va_runS (As := [.ref x, .ref (lad 171), .int 7]) (rest := []) ⟨hx, hb, hml, hown, hts⟩ (h_faults G hL l hX0 hN adr hFT hJ τ x (lad 171) S hCx [115, 48, 58, 51, 42, 50, 61] (Or.inl (hLT (171, "s0:3*2=", [115, 48, 58, 51, 42, 50, 61]) (by decide)).2) hAs0 (by decide) h7 7 m1_0 m8_0 m14_0) (va_cwS 3 hts gL_law_L_faults rfl rfl rfl (by decide +kernel) ⟨Nat.le_of_ble_eq_true rfl, Nat.le_of_ble_eq_true rfl⟩) (fw_preS hW hR) rfl rfl hl.1 rfl (lv_room (Nat.le_of_ble_eq_true rfl)) dL_law_390 ⟨by show cells + 61 ≤ 677820; omega, by show slots + 366 ≤ 7068237; omega⟩) hS (fun v_1 τ_1 H locs hq_1 hR hS => ?_)
  refine W.widen (k := cells + 61) (n := slots + 366) (by omega) (by omega) ?_
  obtain ⟨rfl, hC9, hF9⟩ := hq_1
  have hCx : CI G τ_1.2 x ((ob_runs (putS S [115, 48, 58, 51, 42, 50, 61])).2) := hC9
  refine W.eq (g2 := F0 mI 393 ls [.int 1]) rfl ?_
  obtain ⟨T0, hT0⟩ : ∃ z9 : StZ, z9 = (ob_runs (putS S [115, 48, 58, 51, 42, 50, 61])).2 := ⟨_, rfl⟩
  rw [← hT0] at hCx mK_0
  refine lv_if_eq (tgt := 497) hx hb dL_law_393 (by decide) (fun c => absurd c (by decide)) (fun c => ?_)
  refine lv_aload_n hx hb dL_law_396 rfl (lv_at hl 4 rfl) ?_
  refine va_ldcS (own := RL) hx hb hown (vk_R.warm hW (hLT (177, "s0:3*2=012340", [115, 48, 58, 51, 42, 50, 61, 48, 49, 50, 51, 52, 48]) (by decide)).1) dL_law_397 ?_
  refine lv_bipush (v := 12) hx hb dL_law_399 (by decide) ?_
  have hAs1 : AscT [115, 48, 58, 51, 42, 50, 61, 48, 49, 50, 51, 52, 48] := by unfold AscT; decide
  obtain ⟨m14_1, m1_1, m8_1, mK_1⟩ := com_bad (S := T0) (cs := [115, 48, 58, 51, 42, 50, 61, 48, 49, 50, 51, 52, 48]) (pl := 12) hAs1 (by decide) (by decide +kernel) (by decide +kernel)
  refine fw_call (va_runS (As := [.ref x, .ref (lad 177), .int 12]) (rest := []) ⟨hx, hb, hml, hown, hts⟩ (h_faults G hL l hX0 hN adr hFT hJ τ_1 x (lad 177) T0 hCx [115, 48, 58, 51, 42, 50, 61, 48, 49, 50, 51, 52, 48] (Or.inl (hLT (177, "s0:3*2=012340", [115, 48, 58, 51, 42, 50, 61, 48, 49, 50, 51, 52, 48]) (by decide)).2) hAs1 (by decide) mK_0.2.2.2.1 12 m1_1 m8_1 m14_1) (va_cwS 3 hts gL_law_L_faults rfl rfl rfl (by decide +kernel) ⟨Nat.le_of_ble_eq_true rfl, Nat.le_of_ble_eq_true rfl⟩) (fw_preS hW hR) rfl rfl hl.1 rfl (lv_room (Nat.le_of_ble_eq_true rfl)) dL_law_401 ⟨by show cells + 61 + 61 ≤ 677820; omega, by show slots + 366 + 366 ≤ 7068237; omega⟩) hS (fun v_2 τ_2 H locs hq_2 hR hS => ?_)
  refine W.widen (k := cells + 122) (n := slots + 732) (by omega) (by omega) ?_
  obtain ⟨rfl, hC9, hF9⟩ := hq_2
  have hCx : CI G τ_2.2 x ((ob_runs (putS T0 [115, 48, 58, 51, 42, 50, 61, 48, 49, 50, 51, 52, 48])).2) := hC9
  refine W.eq (g2 := F0 mI 404 ls [.int 1]) rfl ?_
  obtain ⟨T1, hT1⟩ : ∃ z9 : StZ, z9 = (ob_runs (putS T0 [115, 48, 58, 51, 42, 50, 61, 48, 49, 50, 51, 52, 48])).2 := ⟨_, rfl⟩
  rw [← hT1] at hCx mK_1
  refine lv_if_eq (tgt := 497) hx hb dL_law_404 (by decide) (fun c => absurd c (by decide)) (fun c => ?_)
  refine lv_aload_n hx hb dL_law_407 rfl (lv_at hl 4 rfl) ?_
  refine va_ldcS (own := RL) hx hb hown (vk_R.warm hW (hLT (179, "c3=012345", [99, 51, 61, 48, 49, 50, 51, 52, 53]) (by decide)).1) dL_law_408 ?_
  refine lv_bipush (v := 8) hx hb dL_law_410 (by decide) ?_
  have hAs2 : AscT [99, 51, 61, 48, 49, 50, 51, 52, 53] := by unfold AscT; decide
  obtain ⟨m14_2, m1_2, m8_2, mK_2⟩ := com_bad (S := T1) (cs := [99, 51, 61, 48, 49, 50, 51, 52, 53]) (pl := 8) hAs2 (by decide) (by decide +kernel) (by decide +kernel)
  refine fw_call (va_runS (As := [.ref x, .ref (lad 179), .int 8]) (rest := []) ⟨hx, hb, hml, hown, hts⟩ (h_faults G hL l hX0 hN adr hFT hJ τ_2 x (lad 179) T1 hCx [99, 51, 61, 48, 49, 50, 51, 52, 53] (Or.inl (hLT (179, "c3=012345", [99, 51, 61, 48, 49, 50, 51, 52, 53]) (by decide)).2) hAs2 (by decide) mK_1.2.2.2.1 8 m1_2 m8_2 m14_2) (va_cwS 3 hts gL_law_L_faults rfl rfl rfl (by decide +kernel) ⟨Nat.le_of_ble_eq_true rfl, Nat.le_of_ble_eq_true rfl⟩) (fw_preS hW hR) rfl rfl hl.1 rfl (lv_room (Nat.le_of_ble_eq_true rfl)) dL_law_412 ⟨by show cells + 122 + 61 ≤ 677820; omega, by show slots + 732 + 366 ≤ 7068237; omega⟩) hS (fun v_3 τ_3 H locs hq_3 hR hS => ?_)
  refine W.widen (k := cells + 183) (n := slots + 1098) (by omega) (by omega) ?_
  obtain ⟨rfl, hC9, hF9⟩ := hq_3
  have hCx : CI G τ_3.2 x ((ob_runs (putS T1 [99, 51, 61, 48, 49, 50, 51, 52, 53])).2) := hC9
  refine W.eq (g2 := F0 mI 415 ls [.int 1]) rfl ?_
  obtain ⟨T2, hT2⟩ : ∃ z9 : StZ, z9 = (ob_runs (putS T1 [99, 51, 61, 48, 49, 50, 51, 52, 53])).2 := ⟨_, rfl⟩
  rw [← hT2] at hCx mK_2
  refine lv_if_eq (tgt := 497) hx hb dL_law_415 (by decide) (fun c => absurd c (by decide)) (fun c => ?_)
  refine lv_aload_n hx hb dL_law_418 rfl (lv_at hl 4 rfl) ?_
  refine va_ldcS (own := RL) hx hb hown (vk_R.warm hW (hLT (181, "l01", [108, 48, 49]) (by decide)).1) dL_law_419 ?_
  refine lv_iconst (v := 2) hx hb dL_law_421 (by decide) ?_
  have hAs3 : AscT [108, 48, 49] := by unfold AscT; decide
  obtain ⟨m14_3, m1_3, m8_3, mK_3⟩ := com_bad (S := T2) (cs := [108, 48, 49]) (pl := 2) hAs3 (by decide) (by decide +kernel) (by decide +kernel)
  refine fw_call (va_runS (As := [.ref x, .ref (lad 181), .int 2]) (rest := []) ⟨hx, hb, hml, hown, hts⟩ (h_faults G hL l hX0 hN adr hFT hJ τ_3 x (lad 181) T2 hCx [108, 48, 49] (Or.inl (hLT (181, "l01", [108, 48, 49]) (by decide)).2) hAs3 (by decide) mK_2.2.2.2.1 2 m1_3 m8_3 m14_3) (va_cwS 3 hts gL_law_L_faults rfl rfl rfl (by decide +kernel) ⟨Nat.le_of_ble_eq_true rfl, Nat.le_of_ble_eq_true rfl⟩) (fw_preS hW hR) rfl rfl hl.1 rfl (lv_room (Nat.le_of_ble_eq_true rfl)) dL_law_422 ⟨by show cells + 183 + 61 ≤ 677820; omega, by show slots + 1098 + 366 ≤ 7068237; omega⟩) hS (fun v_4 τ_4 H locs hq_4 hR hS => ?_)
  refine W.widen (k := cells + 244) (n := slots + 1464) (by omega) (by omega) ?_
  obtain ⟨rfl, hC9, hF9⟩ := hq_4
  have hCx : CI G τ_4.2 x ((ob_runs (putS T2 [108, 48, 49])).2) := hC9
  refine W.eq (g2 := F0 mI 425 ls [.int 1]) rfl ?_
  obtain ⟨T3, hT3⟩ : ∃ z9 : StZ, z9 = (ob_runs (putS T2 [108, 48, 49])).2 := ⟨_, rfl⟩
  rw [← hT3] at hCx mK_3
  refine lv_if_eq (tgt := 497) hx hb dL_law_425 (by decide) (fun c => absurd c (by decide)) (fun c => ?_)
  refine lv_aload_n hx hb dL_law_428 rfl (lv_at hl 4 rfl) ?_
  refine va_ldcS (own := RL) hx hb hown (vk_R.warm hW (hLT (183, "", []) (by decide)).1) dL_law_429 ?_
  refine lv_iconst (v := 0) hx hb dL_law_431 (by decide) ?_
  have hAs4 : AscT ([] : List Int32) := by unfold AscT; decide
  obtain ⟨m14_4, m1_4, m8_4, mK_4⟩ := com_bad (S := T3) (cs := ([] : List Int32)) (pl := 0) hAs4 (by decide) (by decide +kernel) (by decide +kernel)
  refine fw_call (va_runS (As := [.ref x, .ref (lad 183), .int 0]) (rest := []) ⟨hx, hb, hml, hown, hts⟩ (h_faults G hL l hX0 hN adr hFT hJ τ_4 x (lad 183) T3 hCx ([] : List Int32) (Or.inl (hLT (183, "", []) (by decide)).2) hAs4 (by decide) mK_3.2.2.2.1 0 m1_4 m8_4 m14_4) (va_cwS 3 hts gL_law_L_faults rfl rfl rfl (by decide +kernel) ⟨Nat.le_of_ble_eq_true rfl, Nat.le_of_ble_eq_true rfl⟩) (fw_preS hW hR) rfl rfl hl.1 rfl (lv_room (Nat.le_of_ble_eq_true rfl)) dL_law_432 ⟨by show cells + 244 + 61 ≤ 677820; omega, by show slots + 1464 + 366 ≤ 7068237; omega⟩) hS (fun v_5 τ_5 H locs hq_5 hR hS => ?_)
  refine W.widen (k := cells + 305) (n := slots + 1830) (by omega) (by omega) ?_
  obtain ⟨rfl, hC9, hF9⟩ := hq_5
  have hCx : CI G τ_5.2 x ((ob_runs (putS T3 ([] : List Int32))).2) := hC9
  refine W.eq (g2 := F0 mI 435 ls [.int 1]) rfl ?_
  obtain ⟨T4, hT4⟩ : ∃ z9 : StZ, z9 = (ob_runs (putS T3 ([] : List Int32))).2 := ⟨_, rfl⟩
  rw [← hT4] at hCx mK_4
  refine lv_if_eq (tgt := 497) hx hb dL_law_435 (by decide) (fun c => absurd c (by decide)) (fun c => ?_)
  refine lv_aload_n hx hb dL_law_438 rfl (lv_at hl 4 rfl) ?_
  refine va_ldcS (own := RL) hx hb hown (vk_R.warm hW (hLT (185, "f0;", [102, 48, 59]) (by decide)).1) dL_law_439 ?_
  refine lv_iconst (v := 3) hx hb dL_law_441 (by decide) ?_
  have hAs5 : AscT [102, 48, 59] := by unfold AscT; decide
  obtain ⟨m14_5, m1_5, m8_5, mK_5⟩ := com_bad (S := T4) (cs := [102, 48, 59]) (pl := 3) hAs5 (by decide) (by decide +kernel) (by decide +kernel)
  refine fw_call (va_runS (As := [.ref x, .ref (lad 185), .int 3]) (rest := []) ⟨hx, hb, hml, hown, hts⟩ (h_faults G hL l hX0 hN adr hFT hJ τ_5 x (lad 185) T4 hCx [102, 48, 59] (Or.inl (hLT (185, "f0;", [102, 48, 59]) (by decide)).2) hAs5 (by decide) mK_4.2.2.2.1 3 m1_5 m8_5 m14_5) (va_cwS 3 hts gL_law_L_faults rfl rfl rfl (by decide +kernel) ⟨Nat.le_of_ble_eq_true rfl, Nat.le_of_ble_eq_true rfl⟩) (fw_preS hW hR) rfl rfl hl.1 rfl (lv_room (Nat.le_of_ble_eq_true rfl)) dL_law_442 ⟨by show cells + 305 + 61 ≤ 677820; omega, by show slots + 1830 + 366 ≤ 7068237; omega⟩) hS (fun v_6 τ_6 H locs hq_6 hR hS => ?_)
  refine W.widen (k := cells + 366) (n := slots + 2196) (by omega) (by omega) ?_
  obtain ⟨rfl, hC9, hF9⟩ := hq_6
  have hCx : CI G τ_6.2 x ((ob_runs (putS T4 [102, 48, 59])).2) := hC9
  refine W.eq (g2 := F0 mI 445 ls [.int 1]) rfl ?_
  obtain ⟨T5, hT5⟩ : ∃ z9 : StZ, z9 = (ob_runs (putS T4 [102, 48, 59])).2 := ⟨_, rfl⟩
  rw [← hT5] at hCx mK_5
  refine lv_if_eq (tgt := 497) hx hb dL_law_445 (by decide) (fun c => absurd c (by decide)) (fun c => ?_)
  refine lv_aload_n hx hb dL_law_448 rfl (lv_at hl 4 rfl) ?_
  refine va_ldcS (own := RL) hx hb hown (vk_R.warm hW (hLT (187, "b0", [98, 48]) (by decide)).1) dL_law_449 ?_
  refine lv_iconst (v := 2) hx hb dL_law_451 (by decide) ?_
  have hAs6 : AscT [98, 48] := by unfold AscT; decide
  obtain ⟨m14_6, m1_6, m8_6, mK_6⟩ := com_bad (S := T5) (cs := [98, 48]) (pl := 2) hAs6 (by decide) (by decide +kernel) (by decide +kernel)
  refine fw_call (va_runS (As := [.ref x, .ref (lad 187), .int 2]) (rest := []) ⟨hx, hb, hml, hown, hts⟩ (h_faults G hL l hX0 hN adr hFT hJ τ_6 x (lad 187) T5 hCx [98, 48] (Or.inl (hLT (187, "b0", [98, 48]) (by decide)).2) hAs6 (by decide) mK_5.2.2.2.1 2 m1_6 m8_6 m14_6) (va_cwS 3 hts gL_law_L_faults rfl rfl rfl (by decide +kernel) ⟨Nat.le_of_ble_eq_true rfl, Nat.le_of_ble_eq_true rfl⟩) (fw_preS hW hR) rfl rfl hl.1 rfl (lv_room (Nat.le_of_ble_eq_true rfl)) dL_law_452 ⟨by show cells + 366 + 61 ≤ 677820; omega, by show slots + 2196 + 366 ≤ 7068237; omega⟩) hS (fun v_7 τ_7 H locs hq_7 hR hS => ?_)
  refine W.widen (k := cells + 427) (n := slots + 2562) (by omega) (by omega) ?_
  obtain ⟨rfl, hC9, hF9⟩ := hq_7
  have hCx : CI G τ_7.2 x ((ob_runs (putS T5 [98, 48])).2) := hC9
  refine W.eq (g2 := F0 mI 455 ls [.int 1]) rfl ?_
  obtain ⟨T6, hT6⟩ : ∃ z9 : StZ, z9 = (ob_runs (putS T5 [98, 48])).2 := ⟨_, rfl⟩
  rw [← hT6] at hCx mK_6
  refine lv_if_eq (tgt := 497) hx hb dL_law_455 (by decide) (fun c => absurd c (by decide)) (fun c => ?_)
  refine lv_aload_n hx hb dL_law_458 rfl (lv_at hl 4 rfl) ?_
  refine va_ldcS (own := RL) hx hb hown (vk_R.warm hW (hLT (189, "d0>1", [100, 48, 62, 49]) (by decide)).1) dL_law_459 ?_
  refine lv_iconst (v := 2) hx hb dL_law_461 (by decide) ?_
  have hAs7 : AscT [100, 48, 62, 49] := by unfold AscT; decide
  obtain ⟨m14_7, m1_7, m8_7, mK_7⟩ := com_bad (S := T6) (cs := [100, 48, 62, 49]) (pl := 2) hAs7 (by decide) (by decide +kernel) (by decide +kernel)
  refine fw_call (va_runS (As := [.ref x, .ref (lad 189), .int 2]) (rest := []) ⟨hx, hb, hml, hown, hts⟩ (h_faults G hL l hX0 hN adr hFT hJ τ_7 x (lad 189) T6 hCx [100, 48, 62, 49] (Or.inl (hLT (189, "d0>1", [100, 48, 62, 49]) (by decide)).2) hAs7 (by decide) mK_6.2.2.2.1 2 m1_7 m8_7 m14_7) (va_cwS 3 hts gL_law_L_faults rfl rfl rfl (by decide +kernel) ⟨Nat.le_of_ble_eq_true rfl, Nat.le_of_ble_eq_true rfl⟩) (fw_preS hW hR) rfl rfl hl.1 rfl (lv_room (Nat.le_of_ble_eq_true rfl)) dL_law_462 ⟨by show cells + 427 + 61 ≤ 677820; omega, by show slots + 2562 + 366 ≤ 7068237; omega⟩) hS (fun v_8 τ_8 H locs hq_8 hR hS => ?_)
  refine W.widen (k := cells + 488) (n := slots + 2928) (by omega) (by omega) ?_
  obtain ⟨rfl, hC9, hF9⟩ := hq_8
  have hCx : CI G τ_8.2 x ((ob_runs (putS T6 [100, 48, 62, 49])).2) := hC9
  refine W.eq (g2 := F0 mI 465 ls [.int 1]) rfl ?_
  obtain ⟨T7, hT7⟩ : ∃ z9 : StZ, z9 = (ob_runs (putS T6 [100, 48, 62, 49])).2 := ⟨_, rfl⟩
  rw [← hT7] at hCx mK_7
  refine lv_if_eq (tgt := 497) hx hb dL_law_465 (by decide) (fun c => absurd c (by decide)) (fun c => ?_)
  refine lv_aload_n hx hb dL_law_468 rfl (lv_at hl 4 rfl) ?_
  refine va_ldcS (own := RL) hx hb hown (vk_R.warm hW (hLT (191, "z", [122]) (by decide)).1) dL_law_469 ?_
  refine lv_iconst (v := 0) hx hb dL_law_471 (by decide) ?_
  have hAs8 : AscT [122] := by unfold AscT; decide
  obtain ⟨m14_8, m1_8, m8_8, mK_8⟩ := com_bad (S := T7) (cs := [122]) (pl := 0) hAs8 (by decide) (by decide +kernel) (by decide +kernel)
  refine fw_call (va_runS (As := [.ref x, .ref (lad 191), .int 0]) (rest := []) ⟨hx, hb, hml, hown, hts⟩ (h_faults G hL l hX0 hN adr hFT hJ τ_8 x (lad 191) T7 hCx [122] (Or.inl (hLT (191, "z", [122]) (by decide)).2) hAs8 (by decide) mK_7.2.2.2.1 0 m1_8 m8_8 m14_8) (va_cwS 3 hts gL_law_L_faults rfl rfl rfl (by decide +kernel) ⟨Nat.le_of_ble_eq_true rfl, Nat.le_of_ble_eq_true rfl⟩) (fw_preS hW hR) rfl rfl hl.1 rfl (lv_room (Nat.le_of_ble_eq_true rfl)) dL_law_472 ⟨by show cells + 488 + 61 ≤ 677820; omega, by show slots + 2928 + 366 ≤ 7068237; omega⟩) hS (fun v_9 τ_9 H locs hq_9 hR hS => ?_)
  refine W.widen (k := cells + 549) (n := slots + 3294) (by omega) (by omega) ?_
  obtain ⟨rfl, hC9, hF9⟩ := hq_9
  have hCx : CI G τ_9.2 x ((ob_runs (putS T7 [122])).2) := hC9
  refine W.eq (g2 := F0 mI 475 ls [.int 1]) rfl ?_
  obtain ⟨T8, hT8⟩ : ∃ z9 : StZ, z9 = (ob_runs (putS T7 [122])).2 := ⟨_, rfl⟩
  rw [← hT8] at hCx mK_8
  refine lv_if_eq (tgt := 497) hx hb dL_law_475 (by decide) (fun c => absurd c (by decide)) (fun c => ?_)
  refine lv_aload_n hx hb dL_law_478 rfl (lv_at hl 4 rfl) ?_
  refine va_ldcS (own := RL) hx hb hown (vk_R.warm hW (hLT (193, "x1*", [120, 49, 42]) (by decide)).1) dL_law_479 ?_
  refine lv_iconst (v := 3) hx hb dL_law_481 (by decide) ?_
  have hAs9 : AscT [120, 49, 42] := by unfold AscT; decide
  obtain ⟨m14_9, m1_9, m8_9, mK_9⟩ := com_bad (S := T8) (cs := [120, 49, 42]) (pl := 3) hAs9 (by decide) (by decide +kernel) (by decide +kernel)
  refine fw_call (va_runS (As := [.ref x, .ref (lad 193), .int 3]) (rest := []) ⟨hx, hb, hml, hown, hts⟩ (h_faults G hL l hX0 hN adr hFT hJ τ_9 x (lad 193) T8 hCx [120, 49, 42] (Or.inl (hLT (193, "x1*", [120, 49, 42]) (by decide)).2) hAs9 (by decide) mK_8.2.2.2.1 3 m1_9 m8_9 m14_9) (va_cwS 3 hts gL_law_L_faults rfl rfl rfl (by decide +kernel) ⟨Nat.le_of_ble_eq_true rfl, Nat.le_of_ble_eq_true rfl⟩) (fw_preS hW hR) rfl rfl hl.1 rfl (lv_room (Nat.le_of_ble_eq_true rfl)) dL_law_482 ⟨by show cells + 549 + 61 ≤ 677820; omega, by show slots + 3294 + 366 ≤ 7068237; omega⟩) hS (fun v_10 τ_10 H locs hq_10 hR hS => ?_)
  refine W.widen (k := cells + 610) (n := slots + 3660) (by omega) (by omega) ?_
  obtain ⟨rfl, hC9, hF9⟩ := hq_10
  have hCx : CI G τ_10.2 x ((ob_runs (putS T8 [120, 49, 42])).2) := hC9
  refine W.eq (g2 := F0 mI 485 ls [.int 1]) rfl ?_
  obtain ⟨T9, hT9⟩ : ∃ z9 : StZ, z9 = (ob_runs (putS T8 [120, 49, 42])).2 := ⟨_, rfl⟩
  rw [← hT9] at hCx mK_9
  refine lv_if_eq (tgt := 497) hx hb dL_law_485 (by decide) (fun c => absurd c (by decide)) (fun c => ?_)
  refine lv_aload_n hx hb dL_law_488 rfl (lv_at hl 4 rfl) ?_
  refine fw_call (va_runS (As := [.ref x]) (rest := []) ⟨hx, hb, hml, hown, hts⟩ (h_state G hL l hX0 τ_10 x T9 hCx) (va_cwS 1 hts gL_law_L_state rfl rfl rfl (by decide +kernel) ⟨Nat.le_of_ble_eq_true rfl, Nat.le_of_ble_eq_true rfl⟩) (fw_preS hW hR) rfl rfl hl.1 rfl (lv_room (Nat.le_of_ble_eq_true rfl)) dL_law_489 ⟨by show cells + 610 + 2000 ≤ 677820; omega, by show slots + 3660 + 12000 ≤ 7068237; omega⟩) hS (fun v_11 τ_11 H locs hq_11 hR hS => ?_)
  refine W.widen (k := cells + 2610) (n := slots + 15660) (by omega) (by omega) ?_
  obtain ⟨rfl, hC9, hF9⟩ := hq_11
  have hCx : CI G τ_11.2 x T9 := hC9
  refine W.eq (g2 := F0 mI 492 ls [.int (stM (T9).2.1)]) rfl ?_
  refine W.eq (g2 := F0 mI 492 ls [.int nw]) (by rw [(((((((((mK_0.tr mK_1).tr mK_2).tr mK_3).tr mK_4).tr mK_5).tr mK_6).tr mK_7).tr mK_8).tr mK_9).1, hnw]) ?_
  refine lv_iload hx hb dL_law_492 (lv_at hl 2 rfl) ?_
  refine lv_icmp_eq (tgt := 499) hx hb dL_law_494 (by decide) (fun c => ?_) (fun c => absurd rfl c)
  exact kk T9 τ_11 H locs ls (((((((((mK_0.tr mK_1).tr mK_2).tr mK_3).tr mK_4).tr mK_5).tr mK_6).tr mK_7).tr mK_8).tr mK_9) hCx hR hS hl
set_option maxHeartbeats 8000000 in
set_option maxRecDepth 100000 in
theorem sg_F {G : FG} {l : Launch} {pP : Program} {eE : Env} {sS : State} {mI : MethodId} {ar9 : Array Value} {bl9 : List Frame} {meth : Method} {cD : Code} {Q : State → Prop} {adr lad : Nat → Nat} {b L dd : Nat} {xs : Nat → Int32} (C : LWx G l pP sS mI ar9 cD adr b L xs dd lad) {x n s o : Nat} {S : StZ} {nw : Int32} {τ : FWd} {cells slots : Nat} {H : Heap} {locs : List Loc} {ls : Array Slot} (hc : cells ≤ 500000) (hs : slots ≤ 6000000) (hCx : CI G τ.2 x S) (hR : fR G τ H) (hS : va_S (fwA G) sS.heap H locs) (hl : lv_has ls 14 [(6, .int (nI o)), (5, .int (nI s)), (4, .int nw), (3, .int (nI n)), (1, .ref x), (0, .ref b)])
    (kk : ∀ (z a9 b9 : Nat) (τ : FWd) (H : Heap) (locs : List Loc) (ls : Array Slot), x + 614 ≤ z → 1 ≤ a9 → a9 ≤ 4 → b9 < 6 → CI G τ.2 x S → CI G τ.2 z (zs_0 a9 b9) → fR G τ H → va_S (fwA G) sS.heap H locs → lv_has ls 14 [(13, .ref z), (12, .int (nI ((b9 + 2) % 6))), (11, .int (nI ((b9 + 1) % 6))), (10, .int (nI b9)), (9, .int (nI a9)), (4, .int nw), (3, .int (nI n)), (1, .ref x), (0, .ref b)] → W pP l eE room_1 sS mI ar9 bl9 meth cD H locs (cells + 614) (slots + 4430) Q (F0 mI 554 ls [])) : W pP l eE room_1 sS mI ar9 bl9 meth cD H locs cells slots Q (F0 mI 499 ls []) := by
  obtain ⟨hx, hb, hml, hown, hts, hW, hL, hX0, hN, hFT, hJ, hD, hLT, hX, hbl, hbA, hL9⟩ := id C
  have hK := hL.K hW
  refine lv_aload_n hx hb dL_law_499 rfl (lv_at hl 5 rfl) ?_
  refine lv_bipush (v := 13) hx hb dL_law_500 (by decide) ?_
  refine fw_call (va_runS (As := [.ref b, .int 13]) (rest := []) ⟨hx, hb, hml, hown, hts⟩ (h_at G hL l hX0 τ b L xs hX hbl hbA hL9 13 (by decide)) (va_cwS 2 hts gL_law_L_at rfl rfl rfl (by decide +kernel) ⟨Nat.le_of_ble_eq_true rfl, Nat.le_of_ble_eq_true rfl⟩) (fw_preS hW hR) rfl rfl hl.1 rfl (lv_room (Nat.le_of_ble_eq_true rfl)) dL_law_502 ⟨by show cells + 0 ≤ 677820; omega, by show slots + 0 ≤ 7068237; omega⟩) hS (fun v_1 τ_1 H locs hq_1 hR hS => ?_)
  refine W.widen (k := cells) (n := slots) (by omega) (by omega) ?_
  obtain ⟨rfl, hq_1⟩ := hq_1
  rw [hq_1] at hR
  obtain ⟨c9, hc9⟩ : ∃ z9 : Int32, z9 = atV L xs 13 := ⟨_, rfl⟩
  refine W.eq (g2 := F0 mI 505 ls [.int c9]) (by rw [hc9]; rfl) ?_
  obtain ⟨a8, ha8, ea8⟩ := and_nI c9 3 (by decide)
  obtain ⟨b8, hb8, eb8⟩ := and_nI (c9 >>> ((2 : Int32) &&& 31)) 7 (by decide)
  have ea : 1 + (c9 &&& 3) = nI (a8 + 1) := by rw [show (c9 &&& 3) = nI a8 from ea8, Int32.add_comm]; exact nI_1 a8
  have hb6 : b8 % 6 < 6 := Nat.mod_lt _ (by decide)
  obtain ⟨b9, hb9⟩ : ∃ z9 : Nat, z9 = b8 % 6 := ⟨_, rfl⟩
  have eb : (c9 >>> ((2 : Int32) &&& 31) &&& 7) - (c9 >>> ((2 : Int32) &&& 31) &&& 7) / 6 * 6 = nI b9 := by rw [show (c9 >>> ((2 : Int32) &&& 31) &&& 7) = nI b8 from eb8, hb9]; exact pk_rem (a := b8) (d := 6) (by omega) (by omega) (by omega)
  have e11 : (nI b9 + 1) - (nI b9 + 1) / 6 * 6 = nI ((b9 + 1) % 6) := by rw [nI_1]; exact pk_rem (a := b9 + 1) (d := 6) (by omega) (by omega) (by omega)
  have e12 : (nI b9 + 2) - (nI b9 + 2) / 6 * 6 = nI ((b9 + 2) % 6) := by rw [show nI b9 + 2 = nI (b9 + 2) from nI_add b9 2]; exact pk_rem (a := b9 + 2) (d := 6) (by omega) (by omega) (by omega)
  refine lv_istore (lv' := [(8, .int c9), (6, .int (nI o)), (5, .int (nI s)), (4, .int nw), (3, .int (nI n)), (1, .ref x), (0, .ref b)]) hx hb dL_law_505 hl (by decide) rfl (fun ls hl => ?_)
  refine lv_iconst (v := 1) hx hb dL_law_507 (by decide) ?_
  refine lv_iload hx hb dL_law_508 (lv_at hl 0 rfl) ?_
  refine lv_iconst (v := 3) hx hb dL_law_510 (by decide) ?_
  refine lv_iand hx hb dL_law_511 ?_
  refine lv_iadd hx hb dL_law_512 ?_
  refine W.eq (g2 := F0 mI 513 ls [.int (nI (a8 + 1))]) (by rw [ea]) ?_
  refine lv_istore (lv' := [(9, .int (nI (a8 + 1))), (8, .int c9), (6, .int (nI o)), (5, .int (nI s)), (4, .int nw), (3, .int (nI n)), (1, .ref x), (0, .ref b)]) hx hb dL_law_513 hl (by decide) rfl (fun ls hl => ?_)
  refine lv_iload hx hb dL_law_515 (lv_at hl 1 rfl) ?_
  refine lv_iconst (v := 2) hx hb dL_law_517 (by decide) ?_
  refine lv_ishr hx hb dL_law_518 ?_
  refine lv_bipush (v := 7) hx hb dL_law_519 (by decide) ?_
  refine lv_iand hx hb dL_law_521 ?_
  refine lv_bipush (v := 6) hx hb dL_law_522 (by decide) ?_
  refine lv_irem hx hb dL_law_524 (by decide) ?_
  refine W.eq (g2 := F0 mI 525 ls [.int (nI b9)]) (by rw [← eb]) ?_
  refine lv_istore (lv' := [(10, .int (nI b9)), (9, .int (nI (a8 + 1))), (8, .int c9), (6, .int (nI o)), (5, .int (nI s)), (4, .int nw), (3, .int (nI n)), (1, .ref x), (0, .ref b)]) hx hb dL_law_525 hl (by decide) rfl (fun ls hl => ?_)
  refine lv_iload hx hb dL_law_527 (lv_at hl 0 rfl) ?_
  refine lv_iconst (v := 1) hx hb dL_law_529 (by decide) ?_
  refine lv_iadd hx hb dL_law_530 ?_
  refine lv_bipush (v := 6) hx hb dL_law_531 (by decide) ?_
  refine lv_irem hx hb dL_law_533 (by decide) ?_
  refine W.eq (g2 := F0 mI 534 ls [.int (nI ((b9 + 1) % 6))]) (by rw [e11]) ?_
  refine lv_istore (lv' := [(11, .int (nI ((b9 + 1) % 6))), (10, .int (nI b9)), (9, .int (nI (a8 + 1))), (8, .int c9), (6, .int (nI o)), (5, .int (nI s)), (4, .int nw), (3, .int (nI n)), (1, .ref x), (0, .ref b)]) hx hb dL_law_534 hl (by decide) rfl (fun ls hl => ?_)
  refine lv_iload hx hb dL_law_536 (lv_at hl 1 rfl) ?_
  refine lv_iconst (v := 2) hx hb dL_law_538 (by decide) ?_
  refine lv_iadd hx hb dL_law_539 ?_
  refine lv_bipush (v := 6) hx hb dL_law_540 (by decide) ?_
  refine lv_irem hx hb dL_law_542 (by decide) ?_
  refine W.eq (g2 := F0 mI 543 ls [.int (nI ((b9 + 2) % 6))]) (by rw [e12]) ?_
  refine lv_istore (lv' := [(12, .int (nI ((b9 + 2) % 6))), (11, .int (nI ((b9 + 1) % 6))), (10, .int (nI b9)), (9, .int (nI (a8 + 1))), (8, .int c9), (6, .int (nI o)), (5, .int (nI s)), (4, .int nw), (3, .int (nI n)), (1, .ref x), (0, .ref b)]) hx hb dL_law_543 hl (by decide) rfl (fun ls hl => ?_)
  obtain ⟨z, hz0⟩ : ∃ z9 : Nat, z9 = τ.1 := ⟨_, rfl⟩
  have hxz : x + 614 ≤ z := by rw [hz0]; exact hCx.lt hR
  have hR : fR G (z, τ.2) H := by rw [hz0]; exact hR
  refine fw_new (C := RX10) (T := TX10) (N := 9) (ci := 12) hx hb hts in10 tyX10 tyX10_ok hown (hts (.classLink RL 18 RX10) (by decide +kernel)) (hts (.instantiable RX10 9) (by decide +kernel)) (hts (.initialized RX10) (by decide +kernel)) hK hR hS rfl (n := z) rfl (fs := [.null, .null, .null, .null, .null, .int 0, .null, .null, .null]) (fun j hj => by rcases (show j = 0 ∨ j = 1 ∨ j = 2 ∨ j = 3 ∨ j = 4 ∨ j = 5 ∨ j = 6 ∨ j = 7 ∨ j = 8 by omega) with rfl | rfl | rfl | rfl | rfl | rfl | rfl | rfl | rfl <;> rfl) (by show cells + 1 ≤ 677820; omega) (by show slots + 9 ≤ 7068237; omega) dL_law_545 (fun H hR hS => ?_)
  refine W.widen (k := cells + 1) (n := slots + 9) (by omega) (by omega) ?_
  obtain ⟨σ1, hs1⟩ : ∃ z9 : Nat → Option va_E, z9 = va_up τ.2 z (some (.inr (12, [.null, .null, .null, .null, .null, .int 0, .null, .null, .null]))) := ⟨_, rfl⟩
  have hR : fR G (z + 1, σ1) H := by rw [hs1]; exact hR
  have e1 : σ1 z = some (.inr (12, [.null, .null, .null, .null, .null, .int 0, .null, .null, .null])) := by rw [hs1]; exact va_up_at
  have f1 : ∀ q, q < z → σ1 q = τ.2 q := fun q hq => by rw [hs1]; exact va_up_off (by omega)
  refine lv_dup hx hb dL_law_548 rfl ?_
  refine fw_call (va_runI (As := []) (b := z) (rest := [.ref z]) ⟨hx, hb, hml, hown, hts⟩ (c_X10_init G hL l (z + 1, σ1) z rfl e1) (cwI 0 hts gL_law_X10_init rfl rfl rfl (hts (.initialized RX10) (by decide +kernel)) (hts (.methodLink RL 23 yX10_init) (by decide +kernel)) (hts (.instanceMethod yX10_init) (by decide +kernel)) rfl (by decide +kernel) ⟨Nat.le_of_ble_eq_true rfl, Nat.le_of_ble_eq_true rfl⟩) (fw_preI hW hR) rfl rfl hl.1 rfl (lv_room (Nat.le_of_ble_eq_true rfl)) dL_law_549 ⟨by show cells + 1 + 613 ≤ 677820; omega, by show slots + 9 + 4421 ≤ 7068237; omega⟩) hS (fun v_2 τ_2 H locs hq_2 hR hS => ?_)
  refine W.widen (k := cells + 614) (n := slots + 4430) (by omega) (by omega) ?_
  obtain ⟨rfl, -, hP1, hF1⟩ := hq_2
  have hCz : CI G τ_2.2 z (zs_0 (a8 + 1) b9) := cinv0 hP1
  have hCx := hCx.fr (τ := τ_2.2) (fun q h1 h2 => (hF1 q (by omega)).trans (f1 q (by omega)))
  refine W.eq (g2 := F0 mI 552 ls [.ref z]) rfl ?_
  refine lv_astore (lv' := [(13, .ref z), (12, .int (nI ((b9 + 2) % 6))), (11, .int (nI ((b9 + 1) % 6))), (10, .int (nI b9)), (9, .int (nI (a8 + 1))), (8, .int c9), (6, .int (nI o)), (5, .int (nI s)), (4, .int nw), (3, .int (nI n)), (1, .ref x), (0, .ref b)]) hx hb dL_law_552 hl (by decide) rfl (fun ls hl => ?_)
  have hl := lv_sub (l' := [(13, .ref z), (12, .int (nI ((b9 + 2) % 6))), (11, .int (nI ((b9 + 1) % 6))), (10, .int (nI b9)), (9, .int (nI (a8 + 1))), (4, .int nw), (3, .int (nI n)), (1, .ref x), (0, .ref b)]) hl [0, 1, 2, 3, 4, 8, 9, 10, 11] rfl
  exact kk z (a8 + 1) b9 τ_2 H locs ls hxz (by omega) (by omega) (by omega) hCx hCz hR hS hl
