/-! ===== the beginning ===== -/
theorem zR_c {i : Nat} : cN (zR i) = 0 := by
  show cN (0 : Int32) = 0
  decide
theorem tellZ : Tell vZ (gV zR) := by
  have h0 : ∀ r i, gV zR r i = 0 := fun r i => by
    unfold gV zR
    (repeat' split) <;> rfl
  refine ⟨fun i _ => by rw [h0]; rfl, fun i _ => by rw [h0]; rfl, fun i _ => by rw [h0]; rfl, fun j hj => ?_, fun i hi => ?_⟩
  · rw [h0] at hj; exact absurd hj (by show ¬ j < cN (0 : Int32); rw [show cN (0 : Int32) = 0 by decide]; exact Nat.not_lt_zero j)
  · rw [h0] at hi; exact absurd hi (by show ¬ i < cN (0 : Int32); rw [show cN (0 : Int32) = 0 by decide]; exact Nat.not_lt_zero i)
theorem wfgZ : WFG zR := by
  have hk : ∀ b : Nat, b < 100 → okN (zR 0) b := fun b hb => okN_mk (n := 0) rfl (Nat.zero_le _) (by omega)
  refine ⟨⟨⟨hk 8 (by decide), hk 5 (by decide), fun j hj => ?_⟩, fun j _ _ => ⟨rfl, rfl, rfl, rfl⟩⟩, fun j hj => ?_, fun i hi => ?_, fun sh => ?_, fun k hk => ?_⟩
  · rw [zR_c] at hj; exact absurd hj (Nat.not_lt_zero j)
  · rw [zR_c] at hj; exact absurd hj (Nat.not_lt_zero j)
  · rw [zR_c] at hi; exact absurd hi (Nat.not_lt_zero i)
  · rw [zR_c]; exact Nat.zero_le _
  · rw [zR_c]; rfl
theorem cinv0 {G : FG} {σ : Nat → Option va_E} {x : Nat} (h : σ x = some (.inr (12, [.ref (x + 1), .ref (x + 2), .ref (x + 53), .ref (x + 54), .ref (x + 515), .int 0, .ref (x + 566), .ref (x + 609), .ref (x + 611)])) ∧ σ (x + 1) = some (.inr (3, [.ref (x + 2), .ref (x + 53)])) ∧ ArcS G σ (x + 2) vZ ∧ σ (x + 53) = some (.inr (9, [.int 0, .int 0, .int 0])) ∧ HisS G σ (x + 54) (fun _ => vZ) 0 0 ∧ ArcS G σ (x + 515) vZ ∧ (TxtS G σ (x + 566) zR 0 0 0 (-1) ∧ σ (x + 566 + 2) = some (.inl (G.2.1 5, 20, .inr (.inr (.inr (.inr (fun z9 => some (x + 566 + 3 + 2 * z9))))))) ∧ ∀ i, i < 20 → CmdS G σ (x + 566 + 3 + 2 * i) 0 zR 0 0) ∧ LinS G σ (x + 609) (zR, 0) ∧ TinS G σ (x + 611) zR zR) : CInv G σ x sZ zR zR zR zR zR := by
  obtain ⟨h1, h2, h3, h4, h5, h6, ⟨h7, h8, h9⟩, h10, h11⟩ := h
  exact ⟨⟨h1, h2⟩, ⟨vZ, h3, tellZ, wfgZ⟩, h4, ⟨fun _ => vZ, 0, 0, h5, by decide, by decide, rfl, fun i hi => absurd hi (Nat.not_lt_zero i)⟩, ⟨vZ, h6, fun z => absurd rfl z⟩, ⟨zR, 0, 0, 0, h7, rfl, fun i hi => absurd hi (Nat.not_lt_zero i), fun i hi => absurd hi (Nat.not_lt_zero i), Nat.zero_le _⟩, ⟨h8, fun _ => (0, zR, 0, 0), fun i hi => ⟨h9 i hi, Nat.zero_le _⟩⟩, ⟨⟨(zR, 0), h10, rfl, fun i hi => absurd hi (Nat.not_lt_zero i)⟩, fun i hi => rfl⟩, ⟨zR, zR, h11⟩⟩
set_option maxRecDepth 100000 in
theorem inW10 : ∀ w ∈ u_ws RX10 TX10 9, w ∈ wsL_law := by decide +kernel
set_option maxRecDepth 100000 in
theorem inW11 : ∀ w ∈ u_ws RX11 TX11 19, w ∈ wsL_law := by decide +kernel
set_option maxHeartbeats 4000000 in
set_option maxRecDepth 100000 in
theorem lw_begin {G : FG} {l : Launch} {pP : Program} {eE : Env} {sS : State} {mI : MethodId} {ar9 : Array Value} {bl9 : List Frame} {meth : Method} {cD : Code} {adr : Nat → Nat} {b L : Nat} {xs : Nat → Int32} {Q : State → Prop} (C : LCx G l pP sS mI ar9 cD adr b L xs) (hL3 : L ≤ 3072) (hG : G.2.2 = sS) {ls : Array Slot} (hl : lv_has ls 9 [(0, .ref b)])
    (kk : ∀ (τ : FWd) (H : Heap) (locs : List Loc) (ls : Array Slot), fR G τ H → va_S (fwA G) sS.heap H locs → W pP l eE room_1 sS mI ar9 bl9 meth cD H locs 603072 7198826 Q (F0 mI 2717 ls [])) : W pP l eE room_1 sS mI ar9 bl9 meth cD sS.heap [] 0 0 Q (F0 mI 0 ls []) := by
  obtain ⟨hx, hb, hml, hown, hts, hW, hL, hX0, hN, hFT, hJ, hX, hbl, hbA⟩ := id C
  have hK := hL.K hW
  have hS : va_S (fwA G) sS.heap sS.heap [] := va_S.rf
  obtain ⟨x, hxz⟩ : ∃ x : Nat, x = sS.heap.size := ⟨_, rfl⟩
  have hR : fR G (x, fun _ => none) sS.heap := ⟨hxz.symm, by rw [hG]; exact va_S.rf, fun a e h => by cases h⟩
  refine fw_new (C := RX10) (T := TX10) (N := 9) (ci := 12) hx hb hts inW10 tyX10 tyX10_ok hown (hts (.classLink RL 8 RX10) (by decide +kernel)) (hts (.instantiable RX10 9) (by decide +kernel)) (hts (.initialized RX10) (by decide +kernel)) hK hR hS rfl (n := x) rfl (fs := [.null, .null, .null, .null, .null, .int 0, .null, .null, .null]) (fun j hj => by rcases (show j = 0 ∨ j = 1 ∨ j = 2 ∨ j = 3 ∨ j = 4 ∨ j = 5 ∨ j = 6 ∨ j = 7 ∨ j = 8 by omega) with rfl | rfl | rfl | rfl | rfl | rfl | rfl | rfl | rfl <;> rfl) (Nat.le_of_ble_eq_true rfl) (Nat.le_of_ble_eq_true rfl) dL_law_0 (fun H hR hS => ?_)
  obtain ⟨σ1, hs1⟩ : ∃ z9 : Nat → Option va_E, z9 = va_up (fun _ => none) x (some (.inr (12, [.null, .null, .null, .null, .null, .int 0, .null, .null, .null]))) := ⟨_, rfl⟩
  have hR : fR G (x + 1, σ1) H := by rw [hs1]; exact hR
  have e1 : σ1 x = some (.inr (12, [.null, .null, .null, .null, .null, .int 0, .null, .null, .null])) := by rw [hs1]; exact va_up_at
  refine lv_dup hx hb dL_law_3 rfl ?_
  refine fw_call (va_runI (As := []) (b := x) (rest := [.ref (x)]) ⟨hx, hb, hml, hown, hts⟩ (c_X10_init G hL l (x + 1, σ1) (x) rfl e1) (cwI 0 hts gL_law_X10_init rfl rfl rfl (hts (.initialized RX10) (by decide +kernel)) (hts (.methodLink RL 145 yX10_init) (by decide +kernel)) (hts (.instanceMethod yX10_init) (by decide +kernel)) rfl (by decide +kernel) ⟨Nat.le_of_ble_eq_true rfl, Nat.le_of_ble_eq_true rfl⟩) (fw_preI hW hR) rfl rfl hl.1 rfl (lv_room (Nat.le_of_ble_eq_true rfl)) dL_law_4 ⟨Nat.le_of_ble_eq_true rfl, Nat.le_of_ble_eq_true rfl⟩) hS (fun v9 τ9 H locs hq hR hS => ?_)
  obtain ⟨n2, σ2⟩ := τ9
  obtain ⟨rfl, z2, hP, f2⟩ := hq
  have z2 : n2 = x + 614 := z2
  subst z2
  have hC : CInv G σ2 x sZ zR zR zR zR zR := cinv0 hP
  refine W.eq (g2 := F0 mI 7 ls [.ref x]) rfl ?_
  refine lv_astore_n (lv' := [(1, .ref x), (0, .ref b)]) hx hb dL_law_7 rfl hl (by decide) rfl (fun ls hl => ?_)
  refine fw_new (C := RX11) (T := TX11) (N := 19) (ci := 13) hx hb hts inW11 tyX11 tyX11_ok hown (hts (.classLink RL 146 RX11) (by decide +kernel)) (hts (.instantiable RX11 19) (by decide +kernel)) (hts (.initialized RX11) (by decide +kernel)) hK hR hS rfl (n := x + 614) rfl (fs := [.null, .null, .null, .int 0, .null, .int 0, .null, .int 0, .int 0, .int 0, .int 0, .int 0, .null, .int 0, .int 0, .null, .int 0, .int 0, .null]) (fun j hj => by rcases (show j = 0 ∨ j = 1 ∨ j = 2 ∨ j = 3 ∨ j = 4 ∨ j = 5 ∨ j = 6 ∨ j = 7 ∨ j = 8 ∨ j = 9 ∨ j = 10 ∨ j = 11 ∨ j = 12 ∨ j = 13 ∨ j = 14 ∨ j = 15 ∨ j = 16 ∨ j = 17 ∨ j = 18 by omega) with rfl | rfl | rfl | rfl | rfl | rfl | rfl | rfl | rfl | rfl | rfl | rfl | rfl | rfl | rfl | rfl | rfl | rfl | rfl <;> rfl) (Nat.le_of_ble_eq_true rfl) (Nat.le_of_ble_eq_true rfl) dL_law_8 (fun H hR hS => ?_)
  obtain ⟨σ3, hs3⟩ : ∃ z9 : Nat → Option va_E, z9 = va_up σ2 (x + 614) (some (.inr (13, [.null, .null, .null, .int 0, .null, .int 0, .null, .int 0, .int 0, .int 0, .int 0, .int 0, .null, .int 0, .int 0, .null, .int 0, .int 0, .null]))) := ⟨_, rfl⟩
  have hR : fR G (x + 615, σ3) H := by rw [hs3]; exact hR
  have e3 : σ3 (x + 614) = some (.inr (13, [.null, .null, .null, .int 0, .null, .int 0, .null, .int 0, .int 0, .int 0, .int 0, .int 0, .null, .int 0, .int 0, .null, .int 0, .int 0, .null])) := by rw [hs3]; exact va_up_at
  have f3 : ∀ q : Nat, ¬ q = x + 614 → σ3 q = σ2 q := fun q hq => by rw [hs3]; exact va_up_off hq
  refine lv_dup hx hb dL_law_11 rfl ?_
  refine fw_call (va_runI (As := []) (b := x + 614) (rest := [.ref (x + 614)]) ⟨hx, hb, hml, hown, hts⟩ (c_X11_init G hL l (x + 615, σ3) (x + 614) rfl e3) (cwI 0 hts gL_law_X11_init rfl rfl rfl (hts (.initialized RX11) (by decide +kernel)) (hts (.methodLink RL 148 yX11_init) (by decide +kernel)) (hts (.instanceMethod yX11_init) (by decide +kernel)) rfl (by decide +kernel) ⟨Nat.le_of_ble_eq_true rfl, Nat.le_of_ble_eq_true rfl⟩) (fw_preI hW hR) rfl rfl hl.1 rfl (lv_room (Nat.le_of_ble_eq_true rfl)) dL_law_12 ⟨Nat.le_of_ble_eq_true rfl, Nat.le_of_ble_eq_true rfl⟩) hS (fun v9 τ9 H locs hq hR hS => ?_)
  obtain ⟨n4, σ4⟩ := τ9
  obtain ⟨rfl, z4, hM, f4⟩ := hq
  have z4 : n4 = x + 623 := z4
  subst z4
  have hM : MAt G σ4 (x + 614) sZ zR zR zR zR zR zR zR zR := hM
  have f4 : ∀ q : Nat, q < x + 614 → σ4 q = σ3 q := f4
  refine W.eq (g2 := F0 mI 15 ls [.ref (x + 614)]) rfl ?_
  refine lv_astore_n (lv' := [(2, .ref (x + 614)), (1, .ref x), (0, .ref b)]) hx hb dL_law_15 rfl hl (by decide) rfl (fun ls hl => ?_)
  refine lv_iconst (v := 1) hx hb dL_law_16 (by decide) ?_
  refine fw_newl hx hb (hts (.arrayClass .long) (by decide +kernel)) hK hR hS (n := x + 623) rfl (N := 1) (by decide) (by decide) (Nat.le_of_ble_eq_true rfl) (Nat.le_of_ble_eq_true rfl) (Nat.le_of_ble_eq_true rfl) dL_law_17 (fun H hR hS => ?_)
  refine lv_astore_n (lv' := [(3, .ref (x + 623)), (2, .ref (x + 614)), (1, .ref x), (0, .ref b)]) hx hb dL_law_19 rfl hl (by decide) rfl (fun ls hl => ?_)
  refine lv_iconst (v := 1) hx hb dL_law_20 (by decide) ?_
  refine fw_newd hx hb (hts (.arrayClass .double) (by decide +kernel)) hK hR hS (n := x + 624) rfl (N := 1) (by decide) (by decide) (Nat.le_of_ble_eq_true rfl) (Nat.le_of_ble_eq_true rfl) (Nat.le_of_ble_eq_true rfl) dL_law_21 (fun H fd hR hS => ?_)
  refine lv_astore (lv' := [(4, .ref (x + 624)), (3, .ref (x + 623)), (2, .ref (x + 614)), (1, .ref x), (0, .ref b)]) hx hb dL_law_23 hl (by decide) rfl (fun ls hl => ?_)
  refine lv_iconst (v := 0) hx hb dL_law_25 (by decide) ?_
  refine lv_istore (lv' := [(5, .int 0), (4, .ref (x + 624)), (3, .ref (x + 623)), (2, .ref (x + 614)), (1, .ref x), (0, .ref b)]) hx hb dL_law_26 hl (by decide) rfl (fun ls hl => ?_)
  refine W.widen (k := 625) (n := 20000) (Nat.le_of_ble_eq_true rfl) (Nat.le_of_ble_eq_true rfl) ?_
  exact lw_loop C hL3 kk (L + 1) 0 625 20000 (by omega) (Nat.zero_le _) (by omega) (by omega) _ H locs ls ⟨sZ, zR, zR, zR, zR, zR, fun _ => 0, fd, hC.fr (fun q q1 q2 => (va_up_off (by omega)).trans ((va_up_off (by omega)).trans ((f4 q (by omega)).trans (f3 q (by omega))))), ⟨zR, zR, zR, hM.fr (fun q q1 q2 => (va_up_off (by omega)).trans (va_up_off (by omega)))⟩, (va_up_off (by omega)).trans va_up_at, va_up_at⟩ hR hS (lv_sub hl [5, 4, 3, 2, 1, 0] rfl)

