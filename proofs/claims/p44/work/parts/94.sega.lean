/-! ===== printed by program (wip/p44/lay_seg.py): the law, segment by segment ===== -/
set_option maxHeartbeats 8000000 in
set_option maxRecDepth 100000 in
theorem sg_A {G : FG} {l : Launch} {pP : Program} {eE : Env} {sS : State} {mI : MethodId} {ar9 : Array Value} {bl9 : List Frame} {meth : Method} {cD : Code} {Q : State → Prop} {adr lad : Nat → Nat} {b L dd : Nat} {xs : Nat → Int32} (C : LWx G l pP sS mI ar9 cD adr b L xs dd lad)  {τ : FWd} {cells slots : Nat} {H : Heap} {locs : List Loc} {ls : Array Slot} (hc : cells ≤ 500000) (hs : slots ≤ 6000000)  (hR : fR G τ H) (hS : va_S (fwA G) sS.heap H locs) (hl : lv_has ls 14 [(0, .ref b)])
    (kk : ∀ (x y n s : Nat) (τ : FWd) (H : Heap) (locs : List Loc) (ls : Array Slot), x + 614 ≤ y → 1 ≤ n → n ≤ 8 → (bdS L xs).2.1 0 = nI n → (bdS L xs).2.1 34 = nI s → s ≤ 3 → cntM (bdS L xs).2.1 (nI s) n ≤ 3 → CI G τ.2 x (ob_save (bdS L xs)).2 → CI G τ.2 y (bdS L xs) → fR G τ H → va_S (fwA G) sS.heap H locs → lv_has ls 14 [(6, .int (nI 0)), (5, .int (nI s)), (4, .int (stM (bdS L xs).2.1)), (3, .int (nI n)), (2, .ref y), (1, .ref x), (0, .ref b)] → W pP l eE room_1 sS mI ar9 bl9 meth cD H locs (cells + 4002) (slots + 24012) Q (F0 mI 32 ls [])) : W pP l eE room_1 sS mI ar9 bl9 meth cD H locs cells slots Q (F0 mI 0 ls []) := by
  obtain ⟨hx, hb, hml, hown, hts, hW, hL, hX0, hN, hFT, hJ, hD, hLT, hX, hbl, hbA, hL9⟩ := id C
  have hK := hL.K hW
  obtain ⟨x, hx0⟩ : ∃ z9 : Nat, z9 = τ.1 := ⟨_, rfl⟩
  refine lv_aload_n hx hb dL_law_0 rfl (lv_at hl 0 rfl) ?_
  refine fw_call (va_runS (As := [.ref b]) (rest := []) ⟨hx, hb, hml, hown, hts⟩ (h_build G hL l hX0 τ b L xs hX hbl hbA hL9 x hx0.symm) (va_cwS 1 hts gL_law_L_build rfl rfl rfl (by decide +kernel) ⟨Nat.le_of_ble_eq_true rfl, Nat.le_of_ble_eq_true rfl⟩) (fw_preS hW hR) rfl rfl hl.1 rfl (lv_room (Nat.le_of_ble_eq_true rfl)) dL_law_1 ⟨by show cells + 1000 ≤ 677820; omega, by show slots + 6000 ≤ 7068237; omega⟩) hS (fun v_1 τ_1 H locs hq_1 hR hS => ?_)
  refine W.widen (k := cells + 1000) (n := slots + 6000) (by omega) (by omega) ?_
  obtain ⟨rfl, hCx, hfx⟩ := hq_1
  refine W.eq (g2 := F0 mI 4 ls [.ref x]) rfl ?_
  refine lv_astore_n (lv' := [(1, .ref x), (0, .ref b)]) hx hb dL_law_4 rfl hl (by decide) rfl (fun ls hl => ?_)
  refine lv_aload_n hx hb dL_law_5 rfl (lv_at hl 1 rfl) ?_
  obtain ⟨y, hy0⟩ : ∃ z9 : Nat, z9 = τ_1.1 := ⟨_, rfl⟩
  have hxy : x + 614 ≤ y := by rw [hy0]; exact hCx.lt hR
  refine fw_call (va_runS (As := [.ref b]) (rest := []) ⟨hx, hb, hml, hown, hts⟩ (h_build G hL l hX0 τ_1 b L xs hX hbl hbA hL9 y hy0.symm) (va_cwS 1 hts gL_law_L_build rfl rfl rfl (by decide +kernel) ⟨Nat.le_of_ble_eq_true rfl, Nat.le_of_ble_eq_true rfl⟩) (fw_preS hW hR) rfl rfl hl.1 rfl (lv_room (Nat.le_of_ble_eq_true rfl)) dL_law_6 ⟨by show cells + 1000 + 1000 ≤ 677820; omega, by show slots + 6000 + 6000 ≤ 7068237; omega⟩) hS (fun v_2 τ_2 H locs hq_2 hR hS => ?_)
  refine W.widen (k := cells + 2000) (n := slots + 12000) (by omega) (by omega) ?_
  obtain ⟨rfl, hCy, hfy⟩ := hq_2
  have hCx := hCx.fr (τ := τ_2.2) (fun q9 h1 h2 => hfy q9 (by omega))
  refine W.eq (g2 := F0 mI 9 ls [.ref y]) rfl ?_
  obtain ⟨n, s, a1, a2, a3, a4, a5, a6⟩ := bdS_arch hCx
  refine lv_astore_n (lv' := [(2, .ref y), (1, .ref x), (0, .ref b)]) hx hb dL_law_9 rfl hl (by decide) rfl (fun ls hl => ?_)
  refine lv_aload_n hx hb dL_law_10 rfl (lv_at hl 1 rfl) ?_
  refine fw_call (va_runV (As := []) (rest := []) ⟨hx, hb, hml, hown, hts⟩ (k_save G hL l hX0 τ_2 x (bdS L xs) hCx) (cwV 0 hts gL_law_X10_save rfl rfl rfl (by decide +kernel) ⟨Nat.le_of_ble_eq_true rfl, Nat.le_of_ble_eq_true rfl⟩) (fw_preV hW hK hR hCx.at0 rfl) rfl rfl hl.1 rfl (lv_room (Nat.le_of_ble_eq_true rfl)) dL_law_11 ⟨by show cells + 2000 + 0 ≤ 677820; omega, by show slots + 12000 + 0 ≤ 7068237; omega⟩) hS (fun v_3 τ_3 H locs hq_3 hR hS => ?_)
  refine W.widen (k := cells + 2000) (n := slots + 12000) (by omega) (by omega) ?_
  obtain ⟨rfl, hC9, hF9⟩ := hq_3
  have hCy := hCy.oth hF9 (by omega)
  have hCx : CI G τ_3.2 x ((ob_save (bdS L xs)).2) := hC9
  refine W.eq (g2 := F0 mI 14 ls [.int (ob_save (bdS L xs)).1]) rfl ?_
  refine W.eq (g2 := F0 mI 14 ls [.int (nI n)]) (by rw [show (ob_save (bdS L xs)).1 = nI n from a3]) ?_
  refine lv_istore_n (lv' := [(3, .int (nI n)), (2, .ref y), (1, .ref x), (0, .ref b)]) hx hb dL_law_14 rfl hl (by decide) rfl (fun ls hl => ?_)
  refine lv_aload_n hx hb dL_law_15 rfl (lv_at hl 2 rfl) ?_
  refine fw_call (va_runS (As := [.ref x]) (rest := []) ⟨hx, hb, hml, hown, hts⟩ (h_state G hL l hX0 τ_3 x ((ob_save (bdS L xs)).2) hCx) (va_cwS 1 hts gL_law_L_state rfl rfl rfl (by decide +kernel) ⟨Nat.le_of_ble_eq_true rfl, Nat.le_of_ble_eq_true rfl⟩) (fw_preS hW hR) rfl rfl hl.1 rfl (lv_room (Nat.le_of_ble_eq_true rfl)) dL_law_16 ⟨by show cells + 2000 + 2000 ≤ 677820; omega, by show slots + 12000 + 12000 ≤ 7068237; omega⟩) hS (fun v_4 τ_4 H locs hq_4 hR hS => ?_)
  refine W.widen (k := cells + 4000) (n := slots + 24000) (by omega) (by omega) ?_
  obtain ⟨rfl, hC9, hF9⟩ := hq_4
  have hCy := hCy.oth hF9 (by omega)
  have hCx : CI G τ_4.2 x ((ob_save (bdS L xs)).2) := hC9
  refine W.eq (g2 := F0 mI 19 ls [.int (stM ((ob_save (bdS L xs)).2).2.1)]) rfl ?_
  refine W.eq (g2 := F0 mI 19 ls [.int (stM (bdS L xs).2.1)]) (by rfl) ?_
  refine lv_istore (lv' := [(4, .int (stM (bdS L xs).2.1)), (3, .int (nI n)), (2, .ref y), (1, .ref x), (0, .ref b)]) hx hb dL_law_19 hl (by decide) rfl (fun ls hl => ?_)
  refine lv_aload_n hx hb dL_law_21 rfl (lv_at hl 3 rfl) ?_
  refine lv_iconst (v := 0) hx hb dL_law_22 (by decide) ?_
  refine lv_iconst (v := 3) hx hb dL_law_23 (by decide) ?_
  refine fx_call (vx_runV (As := [.int 0, .int 3]) (rest := []) ⟨hx, hb, hml, hown, hts⟩ (k_leafletOf G hL l hX0 τ_4 x ((ob_save (bdS L xs)).2) hCx 0 3 (nI s) ((lf_rd (ob_save (bdS L xs)).2 0 n a3 a1 a2 3 (by decide)).trans (Prod.ext a4 rfl))) (cwV 2 hts gL_law_X10_leafletOf rfl rfl rfl (by decide +kernel) ⟨Nat.le_of_ble_eq_true rfl, Nat.le_of_ble_eq_true rfl⟩) (fw_preV hW hK hR hCx.at0 rfl) rfl rfl hl.1 rfl (lv_room (Nat.le_of_ble_eq_true rfl)) dL_law_24 ⟨by show cells + 4000 + 2 ≤ 677820; omega, by show slots + 24000 + 12 ≤ 7068237; omega⟩) hS (fun E ce q9 τ9 H locs hx_1 hR hS hce hcv hcl => hx_1.elim) (fun v_5 τ_5 H locs hq_5 hR hS => ?_)
  refine W.widen (k := cells + 4002) (n := slots + 24012) (by omega) (by omega) ?_
  obtain ⟨rfl, hC9, hF9⟩ := hq_5
  have hCy := hCy.oth hF9 (by omega)
  have hCx : CI G τ_5.2 x ((ob_save (bdS L xs)).2) := hC9
  refine W.eq (g2 := F0 mI 27 ls [.int (nI s)]) rfl ?_
  refine lv_istore (lv' := [(5, .int (nI s)), (4, .int (stM (bdS L xs).2.1)), (3, .int (nI n)), (2, .ref y), (1, .ref x), (0, .ref b)]) hx hb dL_law_27 hl (by decide) rfl (fun ls hl => ?_)
  refine lv_iconst (v := 0) hx hb dL_law_29 (by decide) ?_
  refine W.eq (g2 := F0 mI 30 ls [.int (nI 0)]) (by rfl) ?_
  refine lv_istore (lv' := [(6, .int (nI 0)), (5, .int (nI s)), (4, .int (stM (bdS L xs).2.1)), (3, .int (nI n)), (2, .ref y), (1, .ref x), (0, .ref b)]) hx hb dL_law_30 hl (by decide) rfl (fun ls hl => ?_)
  exact kk x y n s τ_5 H locs ls hxy a1 a2 a3 a4 a5 a6 hCx hCy hR hS hl
set_option maxHeartbeats 8000000 in
set_option maxRecDepth 100000 in
theorem sg_O {G : FG} {l : Launch} {pP : Program} {eE : Env} {sS : State} {mI : MethodId} {ar9 : Array Value} {bl9 : List Frame} {meth : Method} {cD : Code} {Q : State → Prop} {adr lad : Nat → Nat} {b L dd : Nat} {xs : Nat → Int32} (C : LWx G l pP sS mI ar9 cD adr b L xs dd lad) {x y n s w9 c0 s0 : Nat} {S T : StZ} {nw : Int32} (hxy : x + 614 ≤ y) (h0 : S.2.1 0 = nI n) (hn : n ≤ 8) (hs3 : s ≤ 3) (hw0 : w9 ≤ 3) (hw1 : ¬ w9 = s) (hw2 : ¬ cntM S.2.1 (nI w9) n = 3) (hc0 : c0 ≤ 10000) (hs0 : s0 ≤ 100000)
    (kk : ∀ (o : Nat) (τ : FWd) (cells slots : Nat) (H : Heap) (locs : List Loc) (ls : Array Slot), o ≤ 3 → ¬ o = s → ¬ cntM S.2.1 (nI o) n = 3 → cells ≤ c0 + 4 → slots ≤ s0 + 24 → CI G τ.2 x S → CI G τ.2 y T → fR G τ H → va_S (fwA G) sS.heap H locs → lv_has ls 14 [(6, .int (nI o)), (5, .int (nI s)), (4, .int nw), (3, .int (nI n)), (2, .ref y), (1, .ref x), (0, .ref b)] → W pP l eE room_1 sS mI ar9 bl9 meth cD H locs cells slots Q (F0 mI 58 ls [])) : ∀ (fu o : Nat) (τ : FWd) (cells slots : Nat), 4 - o < fu → o ≤ w9 → cells ≤ c0 + o → slots ≤ s0 + 6 * o → CI G τ.2 x S → CI G τ.2 y T → ∀ (H : Heap) (locs : List Loc) (ls : Array Slot), fR G τ H → va_S (fwA G) sS.heap H locs → lv_has ls 14 [(6, .int (nI o)), (5, .int (nI s)), (4, .int nw), (3, .int (nI n)), (2, .ref y), (1, .ref x), (0, .ref b)] → W pP l eE room_1 sS mI ar9 bl9 meth cD H locs cells slots Q (F0 mI 32 ls []) := by
  obtain ⟨hx, hb, hml, hown, hts, hW, hL, hX0, hN, hFT, hJ, hD, hLT, hX, hbl, hbA, hL9⟩ := id C
  have hK := hL.K hW
  intro fu
  induction fu with
  | zero => intro o τ cells slots hfu; exact absurd hfu (Nat.not_lt_zero _)
  | succ fu ih =>
    intro o τ cells slots hfu ho hc hs hCx hCy H locs ls hR hS hl
    have again : ∀ (τ : FWd) (cells slots : Nat) (H : Heap) (locs : List Loc) (ls : Array Slot), ¬ o = w9 → cells ≤ c0 + (o + 1) → slots ≤ s0 + 6 * (o + 1) → CI G τ.2 x S → CI G τ.2 y T → fR G τ H → va_S (fwA G) sS.heap H locs → lv_has ls 14 [(6, .int (nI o)), (5, .int (nI s)), (4, .int nw), (3, .int (nI n)), (2, .ref y), (1, .ref x), (0, .ref b)] → W pP l eE room_1 sS mI ar9 bl9 meth cD H locs cells slots Q (F0 mI 52 ls []) := by
      intro τ cells slots H locs ls how hc hs hCx hCy hR hS hl
      refine lv_iinc (v := nI (o + 1)) (lv' := [(6, .int (nI (o + 1))), (5, .int (nI s)), (4, .int nw), (3, .int (nI n)), (2, .ref y), (1, .ref x), (0, .ref b)]) hx hb dL_law_52 hl (k := 0) rfl (by rw [← nI_1]; rfl) (by decide) rfl (fun ls hl => ?_)
      refine lv_goto (tgt := 32) hx hb dL_law_55 (by decide) ?_
      exact ih (o + 1) τ cells slots (by omega) (by omega) (by omega) (by omega) hCx hCy H locs ls hR hS hl
    refine lv_iload hx hb dL_law_32 (lv_at hl 0 rfl) ?_
    refine lv_iload hx hb dL_law_34 (lv_at hl 1 rfl) ?_
    refine lv_icmp_eq (tgt := 52) hx hb dL_law_36 (by decide) (fun c => ?_) (fun c => ?_)
    · have hos : o = s := (nI_eq (by omega) (by omega)).mp c
      exact again τ cells slots H locs ls (fun z => hw1 (z.symm.trans hos)) (by omega) (by omega) hCx hCy hR hS hl
    · have hos : ¬ o = s := fun z => c (by rw [z])
      refine lv_aload_n hx hb dL_law_39 rfl (lv_at hl 5 rfl) ?_
      refine lv_iload hx hb dL_law_40 (lv_at hl 0 rfl) ?_
      refine fx_call (vx_runV (As := [.int (nI o)]) (rest := []) ⟨hx, hb, hml, hown, hts⟩ (k_shelfOf G hL l hX0 τ x S hCx (nI o) (onM S.2.1 (nI o) n) (shf_ok h0 hn (by omega))) (cwV 1 hts gL_law_X10_shelfOf rfl rfl rfl (by decide +kernel) ⟨Nat.le_of_ble_eq_true rfl, Nat.le_of_ble_eq_true rfl⟩) (fw_preV hW hK hR hCx.at0 rfl) rfl rfl hl.1 rfl (lv_room (Nat.le_of_ble_eq_true rfl)) dL_law_42 ⟨by show cells + 1 ≤ 677820; omega, by show slots + 6 ≤ 7068237; omega⟩) hS (fun E ce q9 τ9 H locs hx_1 hR hS hce hcv hcl => hx_1.elim) (fun v_1 τ_1 H locs hq_1 hR hS => ?_)
      refine W.widen (k := cells + 1) (n := slots + 6) (by omega) (by omega) ?_
      obtain ⟨rfl, hC9, hF9⟩ := hq_1
      have hCy := hCy.oth hF9 (by omega)
      have hCx : CI G τ_1.2 x S := hC9
      refine W.eq (g2 := F0 mI 45 ls [.int (onM S.2.1 (nI o) n)]) rfl ?_
      refine fw_call (va_runS (As := [.int (onM S.2.1 (nI o) n)]) (rest := []) ⟨hx, hb, hml, hown, hts⟩ (c_J6_bitCount_0f7a4 G hL l τ_1 (onM S.2.1 (nI o) n)) (va_cwS 1 hts gL_law_J6_bitCount_0f7a4 rfl rfl rfl (by decide +kernel) ⟨Nat.le_of_ble_eq_true rfl, Nat.le_of_ble_eq_true rfl⟩) (fw_preS hW hR) rfl rfl hl.1 rfl (lv_room (Nat.le_of_ble_eq_true rfl)) dL_law_45 ⟨by show cells + 1 + 0 ≤ 677820; omega, by show slots + 6 + 0 ≤ 7068237; omega⟩) hS (fun v_2 τ_2 H locs hq_2 hR hS => ?_)
      obtain ⟨rfl, hq_2⟩ := hq_2
      rw [hq_2] at hR
      refine W.eq (g2 := F0 mI 48 ls [.int (popF (onM S.2.1 (nI o) n))]) rfl ?_
      refine W.eq (g2 := F0 mI 48 ls [.int (nI (cntM S.2.1 (nI o) n))]) (by rw [on_pop hn]) ?_
      refine W.widen (k := cells + 1) (n := slots + 6) (by omega) (by omega) ?_
      refine lv_iconst (v := 3) hx hb dL_law_48 (by decide) ?_
      have hcl := cntM_le (g := S.2.1) (sh := nI o) n
      refine lv_icmp_ne (tgt := 58) hx hb dL_law_49 (by decide) (fun c => ?_) (fun c => ?_)
      · exact kk o τ_1 _ _ H locs ls (by omega) hos (fun z => c (by rw [z]; rfl)) (by omega) (by omega) hCx hCy hR hS hl
      · have h39 : cntM S.2.1 (nI o) n = 3 := (nI_eq (b := 3) (by omega) (by decide)).mp c
        exact again τ_1 _ _ H locs ls (fun z => hw2 (by rw [← z]; exact h39)) (by omega) (by omega) hCx hCy hR hS hl
set_option maxHeartbeats 8000000 in
set_option maxRecDepth 100000 in
theorem sg_B {G : FG} {l : Launch} {pP : Program} {eE : Env} {sS : State} {mI : MethodId} {ar9 : Array Value} {bl9 : List Frame} {meth : Method} {cD : Code} {Q : State → Prop} {adr lad : Nat → Nat} {b L dd : Nat} {xs : Nat → Int32} (C : LWx G l pP sS mI ar9 cD adr b L xs dd lad) {x y n s o : Nat} {S0 : StZ} {nw : Int32} {τ : FWd} {cells slots : Nat} {H : Heap} {locs : List Loc} {ls : Array Slot} (hc : cells ≤ 500000) (hs : slots ≤ 6000000) (hxy : x + 614 ≤ y) (hA : Arch S0.2.1 n s o) (h7 : S0.1 7 = 0) (hnw : stM S0.2.1 = nw) (hCx : CI G τ.2 x (ob_save S0).2) (hCy : CI G τ.2 y S0) (hR : fR G τ H) (hS : va_S (fwA G) sS.heap H locs) (hl : lv_has ls 14 [(6, .int (nI o)), (5, .int (nI s)), (4, .int nw), (3, .int (nI n)), (2, .ref y), (1, .ref x), (0, .ref b)])
    (kk : ∀ (X4 : StZ) (τ : FWd) (H : Heap) (locs : List Loc) (ls : Array Slot), X4.2.1 = S0.2.1 → X4.1 7 = 0 → X4.1 5 = 1 → X4.2.2.2.1 = S0.2.1 → CI G τ.2 x X4 → fR G τ H → va_S (fwA G) sS.heap H locs → lv_has ls 14 [(6, .int (nI o)), (5, .int (nI s)), (4, .int nw), (3, .int (nI n)), (1, .ref x), (0, .ref b)] → W pP l eE room_1 sS mI ar9 bl9 meth cD H locs (cells + 10072) (slots + 61432) Q (F0 mI 216 ls [])) : W pP l eE room_1 sS mI ar9 bl9 meth cD H locs cells slots Q (F0 mI 58 ls []) := by
  obtain ⟨hx, hb, hml, hown, hts, hW, hL, hX0, hN, hFT, hJ, hD, hLT, hX, hbl, hbA, hL9⟩ := id C
  have hK := hL.K hW
  obtain ⟨A1, A2, A3, A4, A5, A6, A7, A8, A9⟩ := id hA
  obtain ⟨-, hk3, -, -⟩ := hCy.wf
  obtain ⟨ct, hct, h3, -⟩ := okN_of hk3
  have x3 : (ob_save S0).2.1 3 = nI ct := by show upd (upd S0.1 5 1) 14 0 3 = _; rw [upd_off (by decide), upd_off (by decide)]; exact h3
  have x7 : (ob_save S0).2.1 7 = 0 := by show upd (upd S0.1 5 1) 14 0 7 = _; rw [upd_off (by decide), upd_off (by decide)]; exact h7
  have x5 : (ob_save S0).2.1 5 = 1 := by show upd (upd S0.1 5 1) 14 0 5 = _; rw [upd_off (by decide), upd_at]
  have hAs := asc_tmm A6 A5
  refine lv_aload_n hx hb dL_law_58 rfl (lv_at hl 5 rfl) ?_
  have lt_x := hCx.lt hR
  have lt_y := hCy.lt hR
  refine tb_mm1 C (k5 := 1) rfl (by omega) (k6 := 0) rfl (by omega) (by omega) (by omega) hR hS hl (fun τ_1 r_1 H locs hr_1 hf_1 hT_1 hR hS => ?_)
  have hCx := hCx.fr (τ := τ_1.2) (fun q9 h1 h2 => hf_1 q9 (by omega))
  have hCy := hCy.fr (τ := τ_1.2) (fun q9 h1 h2 => hf_1 q9 (by omega))
  refine W.widen (k := cells + 4) (n := slots + 1024) (by omega) (by omega) ?_
  have hTx : TxR G τ_1.2 x r_1 (tx_mm o s) := hT_1.tx (by omega) hr_1
  refine fw_call (va_runS (As := [.ref x, .ref r_1]) (rest := []) ⟨hx, hb, hml, hown, hts⟩ (h_put G hL l hX0 hJ τ_1 x r_1 ((ob_save S0).2) hCx (tx_mm o s) hTx hAs (by show 9 ≤ 60; decide) x7) (va_cwS 2 hts gL_law_L_put rfl rfl rfl (by decide +kernel) ⟨Nat.le_of_ble_eq_true rfl, Nat.le_of_ble_eq_true rfl⟩) (fw_preS hW hR) rfl rfl hl.1 rfl (lv_room (Nat.le_of_ble_eq_true rfl)) dL_law_89 ⟨by show cells + 4 + 60 ≤ 677820; omega, by show slots + 1024 + 360 ≤ 7068237; omega⟩) hS (fun v_2 τ_2 H locs hq_2 hR hS => ?_)
  refine W.widen (k := cells + 64) (n := slots + 1384) (by omega) (by omega) ?_
  obtain ⟨rfl, hC9, hF9⟩ := hq_2
  have hCy := hCy.oth hF9 (by omega)
  have hCx : CI G τ_2.2 x (putS ((ob_save S0).2) (tx_mm o s)) := hC9
  refine W.eq (g2 := F0 mI 92 ls []) rfl ?_
  refine lv_aload_n hx hb dL_law_92 rfl (lv_at hl 5 rfl) ?_
  obtain ⟨m1, m14, mS, m3, m7, m8, m5⟩ := com_mm (S := (ob_save S0).2) hA x3 hct hAs
  refine fx_call (vx_runV (As := []) (rest := []) ⟨hx, hb, hml, hown, hts⟩ (k_commands G hL l hX0 τ_2 x (putS ((ob_save S0).2) (tx_mm o s)) hCx adr hFT hJ 2 (m1) (m14)) (cwV 0 hts gL_law_X10_commands rfl rfl rfl (by decide +kernel) ⟨Nat.le_of_ble_eq_true rfl, Nat.le_of_ble_eq_true rfl⟩) (fw_preV hW hK hR hCx.at0 rfl) rfl rfl hl.1 rfl (lv_room (Nat.le_of_ble_eq_true rfl)) dL_law_93 ⟨by show cells + 64 + 1 ≤ 677820; omega, by show slots + 1384 + 6 ≤ 7068237; omega⟩) hS (fun E ce q9 τ9 H locs hx_1 hR hS hce hcv hcl => hx_1.elim) (fun v_3 τ_3 H locs hq_3 hR hS => ?_)
  refine W.widen (k := cells + 65) (n := slots + 1390) (by omega) (by omega) ?_
  obtain ⟨rfl, hC9, hF9⟩ := hq_3
  have hCy := hCy.oth hF9 (by omega)
  have hCx : CI G τ_3.2 x ((ob_com (putS (ob_save S0).2 (tx_mm o s))).2) := hC9
  refine W.eq (g2 := F0 mI 96 ls [.int 2]) rfl ?_
  obtain ⟨X3, hX3⟩ : ∃ z9 : StZ, z9 = (ob_com (putS (ob_save S0).2 (tx_mm o s))).2 := ⟨_, rfl⟩
  rw [← hX3] at hCx mS m3 m7 m8 m5
  have g3 : X3.2.1 = S0.2.1 := congrArg (fun z9 => z9.1) mS
  have hs3 : X3.2.2.1 = hisM S0.2.2.1 S0.2.1 ct := congrArg (fun z9 => z9.2.1) mS
  have sv3 : X3.2.2.2.1 = S0.2.1 := congrArg (fun z9 => z9.2.2.1) mS
  refine lv_iconst (v := 2) hx hb dL_law_96 (by decide) ?_
  refine lv_icmp_ne (tgt := 161) hx hb dL_law_97 (by decide) (fun c => absurd rfl c) (fun c => ?_)
  refine lv_aload_n hx hb dL_law_100 rfl (lv_at hl 4 rfl) ?_
  refine lv_iconst (v := 0) hx hb dL_law_101 (by decide) ?_
  refine lv_iload hx hb dL_law_102 (lv_at hl 0 rfl) ?_
  have y1 := mk_move (S := S0) (mv_1 (s := S0.1) hA) h3 hct
  have y1a : (ob_move S0 0 (nI o)).1 = nI s := by rw [y1]
  have y1b : (ob_move S0 0 (nI o)).2.1 14 = 0 := by rw [y1]; dsimp only; rw [upd_off (by decide), upd_at]
  have y1c : (ob_move S0 0 (nI o)).2.1 3 = nI (min (ct + 1) 8) := by rw [y1]; simp only [upd_at]
  have y1g : (ob_move S0 0 (nI o)).2.2.1 = upd S0.2.1 34 (nI o) := by rw [y1]
  have y1h : (ob_move S0 0 (nI o)).2.2.2.1 = hisM S0.2.2.1 S0.2.1 ct := by rw [y1]
  refine fx_call (vx_runV (As := [.int 0, .int (nI o)]) (rest := []) ⟨hx, hb, hml, hown, hts⟩ (k_move G hL l hX0 τ_3 y S0 hCy 0 (nI o) (nI s) (y1a) (y1b)) (cwV 2 hts gL_law_X10_move rfl rfl rfl (by decide +kernel) ⟨Nat.le_of_ble_eq_true rfl, Nat.le_of_ble_eq_true rfl⟩) (fw_preV hW hK hR hCy.at0 rfl) rfl rfl hl.1 rfl (lv_room (Nat.le_of_ble_eq_true rfl)) dL_law_104 ⟨by show cells + 65 + 1 ≤ 677820; omega, by show slots + 1390 + 6 ≤ 7068237; omega⟩) hS (fun E ce q9 τ9 H locs hx_1 hR hS hce hcv hcl => hx_1.elim) (fun v_4 τ_4 H locs hq_4 hR hS => ?_)
  refine W.widen (k := cells + 66) (n := slots + 1396) (by omega) (by omega) ?_
  obtain ⟨rfl, hC9, hF9⟩ := hq_4
  have hCx := hCx.oth hF9 (by omega)
  have hCy : CI G τ_4.2 y ((ob_move S0 0 (nI o)).2) := hC9
  refine W.eq (g2 := F0 mI 107 ls [.int (nI s)]) rfl ?_
  obtain ⟨Y1, hY1⟩ : ∃ z9 : StZ, z9 = (ob_move S0 0 (nI o)).2 := ⟨_, rfl⟩
  rw [← hY1] at hCy y1b y1c y1g y1h
  refine lv_iload hx hb dL_law_107 (lv_at hl 1 rfl) ?_
  refine lv_icmp_ne (tgt := 161) hx hb dL_law_109 (by decide) (fun c => absurd rfl c) (fun c => ?_)
  refine lv_aload_n hx hb dL_law_112 rfl (lv_at hl 4 rfl) ?_
  refine lv_iconst (v := 0) hx hb dL_law_113 (by decide) ?_
  refine lv_iload hx hb dL_law_114 (lv_at hl 1 rfl) ?_
  have c18 : min (ct + 1) 8 ≤ 8 := Nat.min_le_right _ _
  have c11 : 1 ≤ min (ct + 1) 8 := by omega
  obtain ⟨c1, hc1⟩ : ∃ z9 : Nat, z9 = min (ct + 1) 8 := ⟨_, rfl⟩
  rw [← hc1] at y1c c18 c11
  have y2 := mk_move (S := Y1) (sh := nI s) (v := nI o) (g2 := S0.2.1) (by rw [y1g]; exact mv_2 hA) y1c c18
  have y2a : (ob_move Y1 0 (nI s)).1 = nI o := by rw [y2]
  have y2b : (ob_move Y1 0 (nI s)).2.1 14 = 0 := by rw [y2]; dsimp only; rw [upd_off (by decide), upd_at]
  have y2c : (ob_move Y1 0 (nI s)).2.1 3 = nI (min (c1 + 1) 8) := by rw [y2]; simp only [upd_at]
  have y2g : (ob_move Y1 0 (nI s)).2.2.1 = S0.2.1 := by rw [y2]
  have y2h : (ob_move Y1 0 (nI s)).2.2.2.1 = hisM Y1.2.2.1 Y1.2.1 c1 := by rw [y2]
  refine fx_call (vx_runV (As := [.int 0, .int (nI s)]) (rest := []) ⟨hx, hb, hml, hown, hts⟩ (k_move G hL l hX0 τ_4 y Y1 hCy 0 (nI s) (nI o) (y2a) (y2b)) (cwV 2 hts gL_law_X10_move rfl rfl rfl (by decide +kernel) ⟨Nat.le_of_ble_eq_true rfl, Nat.le_of_ble_eq_true rfl⟩) (fw_preV hW hK hR hCy.at0 rfl) rfl rfl hl.1 rfl (lv_room (Nat.le_of_ble_eq_true rfl)) dL_law_116 ⟨by show cells + 66 + 1 ≤ 677820; omega, by show slots + 1396 + 6 ≤ 7068237; omega⟩) hS (fun E ce q9 τ9 H locs hx_1 hR hS hce hcv hcl => hx_1.elim) (fun v_5 τ_5 H locs hq_5 hR hS => ?_)
  refine W.widen (k := cells + 67) (n := slots + 1402) (by omega) (by omega) ?_
  obtain ⟨rfl, hC9, hF9⟩ := hq_5
  have hCx := hCx.oth hF9 (by omega)
  have hCy : CI G τ_5.2 y ((ob_move Y1 0 (nI s)).2) := hC9
  refine W.eq (g2 := F0 mI 119 ls [.int (nI o)]) rfl ?_
  obtain ⟨Y2, hY2⟩ : ∃ z9 : StZ, z9 = (ob_move Y1 0 (nI s)).2 := ⟨_, rfl⟩
  rw [← hY2] at hCy y2b y2c y2g y2h
  refine lv_iload hx hb dL_law_119 (lv_at hl 0 rfl) ?_
  refine lv_icmp_ne (tgt := 161) hx hb dL_law_121 (by decide) (fun c => absurd rfl c) (fun c => ?_)
  refine lv_aload_n hx hb dL_law_124 rfl (lv_at hl 5 rfl) ?_
  refine fw_call (va_runS (As := [.ref x]) (rest := []) ⟨hx, hb, hml, hown, hts⟩ (h_state G hL l hX0 τ_5 x X3 hCx) (va_cwS 1 hts gL_law_L_state rfl rfl rfl (by decide +kernel) ⟨Nat.le_of_ble_eq_true rfl, Nat.le_of_ble_eq_true rfl⟩) (fw_preS hW hR) rfl rfl hl.1 rfl (lv_room (Nat.le_of_ble_eq_true rfl)) dL_law_125 ⟨by show cells + 67 + 2000 ≤ 677820; omega, by show slots + 1402 + 12000 ≤ 7068237; omega⟩) hS (fun v_6 τ_6 H locs hq_6 hR hS => ?_)
  refine W.widen (k := cells + 2067) (n := slots + 13402) (by omega) (by omega) ?_
  obtain ⟨rfl, hC9, hF9⟩ := hq_6
  have hCy := hCy.oth hF9 (by omega)
  have hCx : CI G τ_6.2 x X3 := hC9
  refine W.eq (g2 := F0 mI 128 ls [.int (stM (X3).2.1)]) rfl ?_
  refine W.eq (g2 := F0 mI 128 ls [.int nw]) (by rw [g3, hnw]) ?_
  refine lv_aload_n hx hb dL_law_128 rfl (lv_at hl 4 rfl) ?_
  refine fw_call (va_runS (As := [.ref y]) (rest := [.int nw]) ⟨hx, hb, hml, hown, hts⟩ (h_state G hL l hX0 τ_6 y Y2 hCy) (va_cwS 1 hts gL_law_L_state rfl rfl rfl (by decide +kernel) ⟨Nat.le_of_ble_eq_true rfl, Nat.le_of_ble_eq_true rfl⟩) (fw_preS hW hR) rfl rfl hl.1 rfl (lv_room (Nat.le_of_ble_eq_true rfl)) dL_law_129 ⟨by show cells + 2067 + 2000 ≤ 677820; omega, by show slots + 13402 + 12000 ≤ 7068237; omega⟩) hS (fun v_7 τ_7 H locs hq_7 hR hS => ?_)
  refine W.widen (k := cells + 4067) (n := slots + 25402) (by omega) (by omega) ?_
  obtain ⟨rfl, hC9, hF9⟩ := hq_7
  have hCx := hCx.oth hF9 (by omega)
  have hCy : CI G τ_7.2 y Y2 := hC9
  refine W.eq (g2 := F0 mI 132 ls [.int (stM (Y2).2.1), .int nw]) rfl ?_
  refine W.eq (g2 := F0 mI 132 ls [.int nw, .int nw]) (by rw [y2g, hnw]) ?_
  refine lv_icmp_ne (tgt := 161) hx hb dL_law_132 (by decide) (fun c => absurd rfl c) (fun c => ?_)
  refine lv_aload_n hx hb dL_law_135 rfl (lv_at hl 5 rfl) ?_
  refine fw_call (va_runS (As := [.ref x]) (rest := []) ⟨hx, hb, hml, hown, hts⟩ (h_state G hL l hX0 τ_7 x X3 hCx) (va_cwS 1 hts gL_law_L_state rfl rfl rfl (by decide +kernel) ⟨Nat.le_of_ble_eq_true rfl, Nat.le_of_ble_eq_true rfl⟩) (fw_preS hW hR) rfl rfl hl.1 rfl (lv_room (Nat.le_of_ble_eq_true rfl)) dL_law_136 ⟨by show cells + 4067 + 2000 ≤ 677820; omega, by show slots + 25402 + 12000 ≤ 7068237; omega⟩) hS (fun v_8 τ_8 H locs hq_8 hR hS => ?_)
  refine W.widen (k := cells + 6067) (n := slots + 37402) (by omega) (by omega) ?_
  obtain ⟨rfl, hC9, hF9⟩ := hq_8
  have hCy := hCy.oth hF9 (by omega)
  have hCx : CI G τ_8.2 x X3 := hC9
  refine W.eq (g2 := F0 mI 139 ls [.int (stM (X3).2.1)]) rfl ?_
  refine W.eq (g2 := F0 mI 139 ls [.int nw]) (by rw [g3, hnw]) ?_
  refine lv_iload hx hb dL_law_139 (lv_at hl 2 rfl) ?_
  refine lv_icmp_ne (tgt := 161) hx hb dL_law_141 (by decide) (fun c => absurd rfl c) (fun c => ?_)
  refine lv_aload_n hx hb dL_law_144 rfl (lv_at hl 5 rfl) ?_
  refine lv_bipush (v := 10) hx hb dL_law_145 (by decide) ?_
  refine fx_call (vx_runV (As := [.int 10]) (rest := []) ⟨hx, hb, hml, hown, hts⟩ (k_account G hL l hX0 τ_8 x X3 hCx 10 0 (by rw [ac_10, m7])) (cwV 1 hts gL_law_X10_account rfl rfl rfl (by decide +kernel) ⟨Nat.le_of_ble_eq_true rfl, Nat.le_of_ble_eq_true rfl⟩) (fw_preV hW hK hR hCx.at0 rfl) rfl rfl hl.1 rfl (lv_room (Nat.le_of_ble_eq_true rfl)) dL_law_147 ⟨by show cells + 6067 + 1 ≤ 677820; omega, by show slots + 37402 + 6 ≤ 7068237; omega⟩) hS (fun E ce q9 τ9 H locs hx_1 hR hS hce hcv hcl => hx_1.elim) (fun v_9 τ_9 H locs hq_9 hR hS => ?_)
  refine W.widen (k := cells + 6068) (n := slots + 37408) (by omega) (by omega) ?_
  obtain ⟨rfl, hC9, hF9⟩ := hq_9
  have hCy := hCy.oth hF9 (by omega)
  have hCx : CI G τ_9.2 x X3 := hC9
  refine W.eq (g2 := F0 mI 150 ls [.int 0]) rfl ?_
  refine lv_if_ne (tgt := 161) hx hb dL_law_150 (by decide) (fun c => absurd rfl c) (fun c => ?_)
  refine lv_aload_n hx hb dL_law_153 rfl (lv_at hl 5 rfl) ?_
  refine fw_call (va_runV (As := []) (rest := []) ⟨hx, hb, hml, hown, hts⟩ (k_faultPosition G hL l hX0 τ_9 x X3 hCx  (-1) (by rw [fp_8, m8])) (cwV 0 hts gL_law_X10_faultPosition rfl rfl rfl (by decide +kernel) ⟨Nat.le_of_ble_eq_true rfl, Nat.le_of_ble_eq_true rfl⟩) (fw_preV hW hK hR hCx.at0 rfl) rfl rfl hl.1 rfl (lv_room (Nat.le_of_ble_eq_true rfl)) dL_law_154 ⟨by show cells + 6068 + 0 ≤ 677820; omega, by show slots + 37408 + 0 ≤ 7068237; omega⟩) hS (fun v_10 τ_10 H locs hq_10 hR hS => ?_)
  refine W.widen (k := cells + 6068) (n := slots + 37408) (by omega) (by omega) ?_
  obtain ⟨rfl, hC9, hF9⟩ := hq_10
  have hCy := hCy.oth hF9 (by omega)
  have hCx : CI G τ_10.2 x X3 := hC9
  refine W.eq (g2 := F0 mI 157 ls [.int (-1)]) rfl ?_
  refine lv_iconst (v := (-1)) hx hb dL_law_157 (by decide) ?_
  refine lv_icmp_eq (tgt := 163) hx hb dL_law_158 (by decide) (fun c => ?_) (fun c => absurd rfl c)
  refine lv_aload_n hx hb dL_law_163 rfl (lv_at hl 5 rfl) ?_
  refine lv_bipush (v := 9) hx hb dL_law_164 (by decide) ?_
  obtain ⟨k3, hk9⟩ : ∃ z9 : Nat, z9 = min (ct + 1) 8 := ⟨_, rfl⟩
  have k31 : 1 ≤ k3 := by omega
  have k38 : k3 ≤ 8 := by omega
  rw [← hk9] at m3
  refine fx_call (vx_runV (As := [.int 9]) (rest := []) ⟨hx, hb, hml, hown, hts⟩ (k_account G hL l hX0 τ_10 x X3 hCx 9 (nI k3) (by rw [ac_9, m3])) (cwV 1 hts gL_law_X10_account rfl rfl rfl (by decide +kernel) ⟨Nat.le_of_ble_eq_true rfl, Nat.le_of_ble_eq_true rfl⟩) (fw_preV hW hK hR hCx.at0 rfl) rfl rfl hl.1 rfl (lv_room (Nat.le_of_ble_eq_true rfl)) dL_law_166 ⟨by show cells + 6068 + 1 ≤ 677820; omega, by show slots + 37408 + 6 ≤ 7068237; omega⟩) hS (fun E ce q9 τ9 H locs hx_1 hR hS hce hcv hcl => hx_1.elim) (fun v_11 τ_11 H locs hq_11 hR hS => ?_)
  refine W.widen (k := cells + 6069) (n := slots + 37414) (by omega) (by omega) ?_
  obtain ⟨rfl, hC9, hF9⟩ := hq_11
  have hCy := hCy.oth hF9 (by omega)
  have hCx : CI G τ_11.2 x X3 := hC9
  refine W.eq (g2 := F0 mI 169 ls [.int (nI k3)]) rfl ?_
  refine lv_istore (lv' := [(7, .int (nI k3)), (6, .int (nI o)), (5, .int (nI s)), (4, .int nw), (3, .int (nI n)), (2, .ref y), (1, .ref x), (0, .ref b)]) hx hb dL_law_169 hl (by decide) rfl (fun ls hl => ?_)
  refine lv_aload_n hx hb dL_law_171 rfl (lv_at hl 6 rfl) ?_
  have u1 := undo_ok m3 k31 k38
  have u1a : (ob_undo X3).1 = nI (k3 - 1) := by rw [u1]
  have u1b : (ob_undo X3).2.1 14 = 0 := by rw [u1]; simp only [upd_at]
  refine fx_call (vx_runV (As := []) (rest := []) ⟨hx, hb, hml, hown, hts⟩ (k_undo G hL l hX0 τ_11 x X3 hCx  (nI (k3 - 1)) (u1a) (u1b)) (cwV 0 hts gL_law_X10_undo rfl rfl rfl (by decide +kernel) ⟨Nat.le_of_ble_eq_true rfl, Nat.le_of_ble_eq_true rfl⟩) (fw_preV hW hK hR hCx.at0 rfl) rfl rfl hl.1 rfl (lv_room (Nat.le_of_ble_eq_true rfl)) dL_law_172 ⟨by show cells + 6069 + 1 ≤ 677820; omega, by show slots + 37414 + 6 ≤ 7068237; omega⟩) hS (fun E ce q9 τ9 H locs hx_1 hR hS hce hcv hcl => hx_1.elim) (fun v_12 τ_12 H locs hq_12 hR hS => ?_)
  refine W.widen (k := cells + 6070) (n := slots + 37420) (by omega) (by omega) ?_
  obtain ⟨rfl, hC9, hF9⟩ := hq_12
  have hCy := hCy.oth hF9 (by omega)
  have hCx : CI G τ_12.2 x ((ob_undo X3).2) := hC9
  refine W.eq (g2 := F0 mI 175 ls [.int (nI (k3 - 1))]) rfl ?_
  have row1 : Row9 S0.2.1 (ob_undo X3).2.2.1 := fun q hq => by
    rw [u1]
    show S0.2.1 q = X3.2.2.1 ((k3 - 1) * 324 + q)
    rw [hs3, hk9]
    exact (his_top hct hq).symm
  have hCx := hCx.g row1
  have u17 : (ob_undo X3).2.1 7 = 0 := by rw [u1]; dsimp only; rw [upd_off (by decide), upd_off (by decide)]; exact m7
  have u15 : (ob_undo X3).2.1 5 = 1 := by rw [u1]; dsimp only; rw [upd_off (by decide), upd_off (by decide), m5]; exact x5
  have u1s : (ob_undo X3).2.2.2.2.1 = S0.2.1 := by rw [u1]; exact sv3
  obtain ⟨X4, hX4⟩ : ∃ z9 : StZ, z9 = ((ob_undo X3).2.1, S0.2.1, (ob_undo X3).2.2.2) := ⟨_, rfl⟩
  rw [← hX4] at hCx
  have f4 : X4.2.1 = S0.2.1 := by rw [hX4]
  have f7 : X4.1 7 = 0 := by rw [hX4]; exact u17
  have f5 : X4.1 5 = 1 := by rw [hX4]; exact u15
  have fs : X4.2.2.2.1 = S0.2.1 := by rw [hX4]; exact u1s
  refine lv_iload hx hb dL_law_175 (lv_at hl 0 rfl) ?_
  refine lv_iconst (v := 1) hx hb dL_law_177 (by decide) ?_
  refine lv_isub hx hb dL_law_178 ?_
  refine W.eq (g2 := F0 mI 179 ls [.int (nI (k3 - 1)), .int (nI (k3 - 1))]) (by rw [nI_m1 (by omega)]) ?_
  refine lv_icmp_ne (tgt := 214) hx hb dL_law_179 (by decide) (fun c => absurd rfl c) (fun c => ?_)
  refine lv_aload_n hx hb dL_law_182 rfl (lv_at hl 6 rfl) ?_
  refine fw_call (va_runS (As := [.ref x]) (rest := []) ⟨hx, hb, hml, hown, hts⟩ (h_state G hL l hX0 τ_12 x X4 hCx) (va_cwS 1 hts gL_law_L_state rfl rfl rfl (by decide +kernel) ⟨Nat.le_of_ble_eq_true rfl, Nat.le_of_ble_eq_true rfl⟩) (fw_preS hW hR) rfl rfl hl.1 rfl (lv_room (Nat.le_of_ble_eq_true rfl)) dL_law_183 ⟨by show cells + 6070 + 2000 ≤ 677820; omega, by show slots + 37420 + 12000 ≤ 7068237; omega⟩) hS (fun v_13 τ_13 H locs hq_13 hR hS => ?_)
  refine W.widen (k := cells + 8070) (n := slots + 49420) (by omega) (by omega) ?_
  obtain ⟨rfl, hC9, hF9⟩ := hq_13
  have hCy := hCy.oth hF9 (by omega)
  have hCx : CI G τ_13.2 x X4 := hC9
  refine W.eq (g2 := F0 mI 186 ls [.int (stM (X4).2.1)]) rfl ?_
  refine W.eq (g2 := F0 mI 186 ls [.int nw]) (by rw [f4, hnw]) ?_
  refine lv_iload hx hb dL_law_186 (lv_at hl 3 rfl) ?_
  refine lv_icmp_ne (tgt := 214) hx hb dL_law_188 (by decide) (fun c => absurd rfl c) (fun c => ?_)
  refine lv_aload_n hx hb dL_law_191 rfl (lv_at hl 5 rfl) ?_
  obtain ⟨c2, hc2⟩ : ∃ z9 : Nat, z9 = min (c1 + 1) 8 := ⟨_, rfl⟩
  have c22 : 2 ≤ c2 := by omega
  have c28 : c2 ≤ 8 := by omega
  rw [← hc2] at y2c
  have u2 := undo_ok y2c (by omega) c28
  have u2a : (ob_undo Y2).1 = nI (c2 - 1) := by rw [u2]
  have u2b : (ob_undo Y2).2.1 14 = 0 := by rw [u2]; simp only [upd_at]
  have u2c : (ob_undo Y2).2.1 3 = nI (c2 - 1) := by rw [u2]; dsimp only; rw [upd_off (by decide), upd_at]
  have u2h : (ob_undo Y2).2.2.2.1 = Y2.2.2.1 := by rw [u2]
  refine fx_call (vx_runV (As := []) (rest := []) ⟨hx, hb, hml, hown, hts⟩ (k_undo G hL l hX0 τ_13 y Y2 hCy  (nI (c2 - 1)) (u2a) (u2b)) (cwV 0 hts gL_law_X10_undo rfl rfl rfl (by decide +kernel) ⟨Nat.le_of_ble_eq_true rfl, Nat.le_of_ble_eq_true rfl⟩) (fw_preV hW hK hR hCy.at0 rfl) rfl rfl hl.1 rfl (lv_room (Nat.le_of_ble_eq_true rfl)) dL_law_192 ⟨by show cells + 8070 + 1 ≤ 677820; omega, by show slots + 49420 + 6 ≤ 7068237; omega⟩) hS (fun E ce q9 τ9 H locs hx_1 hR hS hce hcv hcl => hx_1.elim) (fun v_14 τ_14 H locs hq_14 hR hS => ?_)
  refine W.widen (k := cells + 8071) (n := slots + 49426) (by omega) (by omega) ?_
  obtain ⟨rfl, hC9, hF9⟩ := hq_14
  have hCx := hCx.oth hF9 (by omega)
  have hCy : CI G τ_14.2 y ((ob_undo Y2).2) := hC9
  refine W.eq (g2 := F0 mI 195 ls [.int (nI (c2 - 1))]) rfl ?_
  obtain ⟨Y3, hY3⟩ : ∃ z9 : StZ, z9 = (ob_undo Y2).2 := ⟨_, rfl⟩
  rw [← hY3] at hCy u2c u2h
  refine lv_if_lt (tgt := 214) hx hb dL_law_195 (by decide) (fun c => absurd c (nI_pos (by omega))) (fun c => ?_)
  refine lv_aload_n hx hb dL_law_198 rfl (lv_at hl 5 rfl) ?_
  have u3 := undo_ok u2c (by omega) (by omega)
  have u3a : (ob_undo Y3).1 = nI (c2 - 1 - 1) := by rw [u3]
  have u3b : (ob_undo Y3).2.1 14 = 0 := by rw [u3]; simp only [upd_at]
  refine fx_call (vx_runV (As := []) (rest := []) ⟨hx, hb, hml, hown, hts⟩ (k_undo G hL l hX0 τ_14 y Y3 hCy  (nI (c2 - 1 - 1)) (u3a) (u3b)) (cwV 0 hts gL_law_X10_undo rfl rfl rfl (by decide +kernel) ⟨Nat.le_of_ble_eq_true rfl, Nat.le_of_ble_eq_true rfl⟩) (fw_preV hW hK hR hCy.at0 rfl) rfl rfl hl.1 rfl (lv_room (Nat.le_of_ble_eq_true rfl)) dL_law_199 ⟨by show cells + 8071 + 1 ≤ 677820; omega, by show slots + 49426 + 6 ≤ 7068237; omega⟩) hS (fun E ce q9 τ9 H locs hx_1 hR hS hce hcv hcl => hx_1.elim) (fun v_15 τ_15 H locs hq_15 hR hS => ?_)
  refine W.widen (k := cells + 8072) (n := slots + 49432) (by omega) (by omega) ?_
  obtain ⟨rfl, hC9, hF9⟩ := hq_15
  have hCx := hCx.oth hF9 (by omega)
  have hCy : CI G τ_15.2 y ((ob_undo Y3).2) := hC9
  refine W.eq (g2 := F0 mI 202 ls [.int (nI (c2 - 1 - 1))]) rfl ?_
  have row2 : Row9 S0.2.1 (ob_undo Y3).2.2.1 := fun q hq => by
    rw [u3]
    show S0.2.1 q = Y3.2.2.1 ((c2 - 1 - 1) * 324 + q)
    rw [u2h, y2h, show c2 - 1 - 1 = min (c1 + 1) 8 - 2 by omega, his_below c11 c18 hq, y1h, hc1]
    exact (his_top hct hq).symm
  have hCy := hCy.g row2
  refine lv_if_lt (tgt := 214) hx hb dL_law_202 (by decide) (fun c => absurd c (nI_pos (by omega))) (fun c => ?_)
  refine lv_aload_n hx hb dL_law_205 rfl (lv_at hl 5 rfl) ?_
  refine fw_call (va_runS (As := [.ref y]) (rest := []) ⟨hx, hb, hml, hown, hts⟩ (h_state G hL l hX0 τ_15 y ((ob_undo Y3).2.1, S0.2.1, (ob_undo Y3).2.2.2) hCy) (va_cwS 1 hts gL_law_L_state rfl rfl rfl (by decide +kernel) ⟨Nat.le_of_ble_eq_true rfl, Nat.le_of_ble_eq_true rfl⟩) (fw_preS hW hR) rfl rfl hl.1 rfl (lv_room (Nat.le_of_ble_eq_true rfl)) dL_law_206 ⟨by show cells + 8072 + 2000 ≤ 677820; omega, by show slots + 49432 + 12000 ≤ 7068237; omega⟩) hS (fun v_16 τ_16 H locs hq_16 hR hS => ?_)
  refine W.widen (k := cells + 10072) (n := slots + 61432) (by omega) (by omega) ?_
  obtain ⟨rfl, hC9, hF9⟩ := hq_16
  have hCx := hCx.oth hF9 (by omega)
  have hCy : CI G τ_16.2 y ((ob_undo Y3).2.1, S0.2.1, (ob_undo Y3).2.2.2) := hC9
  refine W.eq (g2 := F0 mI 209 ls [.int (stM (((ob_undo Y3).2.1, S0.2.1, (ob_undo Y3).2.2.2)).2.1)]) rfl ?_
  refine W.eq (g2 := F0 mI 209 ls [.int nw]) (by rw [← hnw]) ?_
  refine lv_iload hx hb dL_law_209 (lv_at hl 3 rfl) ?_
  refine lv_icmp_eq (tgt := 216) hx hb dL_law_211 (by decide) (fun c => ?_) (fun c => absurd rfl c)
  have hl := lv_sub (l' := [(6, .int (nI o)), (5, .int (nI s)), (4, .int nw), (3, .int (nI n)), (1, .ref x), (0, .ref b)]) hl [1, 2, 3, 4, 6, 7] rfl
  exact kk X4 τ_16 H locs ls f4 f7 f5 fs hCx hR hS hl
