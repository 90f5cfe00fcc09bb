/-! ===== the constructors of the class and of the reference ===== -/
set_option maxHeartbeats 4000000 in
set_option maxRecDepth 100000 in
theorem c_X10_init (G : FG) (hL : FL G) (l : Launch) (ω : FWd) (a : Nat) (hn : ω.1 = a + 1) (h0 : ω.2 a = some (.inr (12, [.null, .null, .null, .null, .null, .int 0, .null, .null, .null]))) : FMet G l yX10_init wsX10_init ({ frames := 4, cells := 613, slots := 4421, locals := 74 } : Room) [.ref a] ω (QN a 614 (fun σ => σ a = some (.inr (12, [.ref (a + 1), .ref (a + 2), .ref (a + 53), .ref (a + 54), .ref (a + 515), .int 0, .ref (a + 566), .ref (a + 609), .ref (a + 611)])) ∧ σ (a + 1) = some (.inr (3, [.ref (a + 2), .ref (a + 53)])) ∧ ArcS G σ (a + 2) vZ ∧ σ (a + 53) = some (.inr (9, [.int 0, .int 0, .int 0])) ∧ HisS G σ (a + 54) (fun _ => vZ) 0 0 ∧ ArcS G σ (a + 515) vZ ∧ (TxtS G σ (a + 566) zR 0 0 0 (-1) ∧ σ (a + 566 + 2) = some (.inl (G.2.1 5, 20, .inr (.inr (.inr (.inr (fun z9 => some (a + 566 + 3 + 2 * z9))))))) ∧ ∀ i, i < 20 → CmdS G σ (a + 566 + 3 + 2 * i) 0 zR 0 0) ∧ LinS G σ (a + 609) (zR, 0) ∧ TinS G σ (a + 611) zR zR) ω) 613 4421 := by
  refine fw_ofW (cc := cX10_init) (maxL := 1) (ret := none) (by decide) rfl (Nat.le_of_ble_eq_true rfl) ?_
  intro pP eE sS mI ar9 bl9 meth cD ls hx hb hr hlocks hml hts hown hnm hW hR hl
  have hK := hL.K hW
  have hS : va_S (fwA G) sS.heap sS.heap [] := va_S.rf
  have hin10 : ∀ w ∈ u_ws RX10 TX10 9, w ∈ wsX10_init := by decide +kernel
  have hin1 : ∀ w ∈ u_ws RX1 TX1 2, w ∈ wsX10_init := by decide +kernel
  have hl : lv_has ls 1 [(0, .ref a)] := hl
  obtain ⟨σ0, hs0⟩ : ∃ z9 : Nat → Option va_E, z9 = ω.2 := ⟨_, rfl⟩
  have hR : fR G (a + 1, σ0) sS.heap := by rw [hs0, ← hn]; exact hR
  have e0 : σ0 a = some (.inr (12, [.null, .null, .null, .null, .null, .int 0, .null, .null, .null])) := by rw [hs0]; exact h0
  have f0 : ∀ q : Nat, σ0 q = ω.2 q := fun q => by rw [hs0]
  clear hs0
  refine lv_aload_n hx hb dX10_init_0 rfl (lv_at hl 0 rfl) ?_
  refine W.objInit hx hb hown (hts (.methodLink RX10 1 objectInit) (by decide +kernel)) (hts (.instanceMethod objectInit) (by decide +kernel)) (hts (.code objectInit ⟨#[0xb1]⟩ 1 none) (by decide +kernel)) rfl (by rw [hml]; exact hl.1) rfl dX10_init_1 (Nat.le_of_ble_eq_true rfl) (Nat.le_of_ble_eq_true rfl) ?_
  refine W.eq (g2 := F0 mI 4 ls []) rfl ?_
  refine lv_aload_n hx hb dX10_init_4 rfl (lv_at hl 0 rfl) ?_
  refine fw_new (C := RX1) (T := TX1) (N := 2) (ci := 3) hx hb hts (by decide +kernel) tyX1 tyX1_ok hown (hts (.classLink RX10 7 RX1) (by decide +kernel)) (hts (.instantiable RX1 2) (by decide +kernel)) (hts (.initialized RX1) (by decide +kernel)) hK hR hS rfl (n := a + 1) rfl (fs := [.null, .null]) (fun j hj => by rcases (show j = 0 ∨ j = 1 by omega) with rfl | rfl <;> rfl) (Nat.le_of_ble_eq_true rfl) (Nat.le_of_ble_eq_true rfl) dX10_init_5 (fun H hR hS => ?_)
  obtain ⟨σ1, hs1⟩ : ∃ z9 : Nat → Option va_E, z9 = va_up σ0 (a + 1) (some (.inr (3, [.null, .null]))) := ⟨_, rfl⟩
  have hR : fR G (a + 2, σ1) H := by rw [hs1]; exact hR
  have e1 : σ1 (a + 1) = some (.inr (3, [.null, .null])) := by rw [hs1]; exact va_up_at
  have f1 : ∀ q : Nat, ¬ q = a + 1 → σ1 q = σ0 q := fun q hq => by rw [hs1]; exact va_up_off hq
  clear hs1
  refine lv_dup hx hb dX10_init_8 rfl ?_
  refine fw_call (va_runIN (As := []) (b := a + 1) (rest := [.ref (a + 1), .ref (a)]) ⟨hx, hb, hml, hown, hts⟩ (c_X1_init G hL l (a + 2, σ1) (a + 1) rfl (e1)) ⟨va_cnB 0 hts gX10_init_X1_init_n9 rfl rfl rfl (hL.N hW (hh := RX10) (by decide +kernel)) (hts (.initialized RX1) (by decide +kernel)) (by decide +kernel) ⟨Nat.le_of_ble_eq_true rfl, Nat.le_of_ble_eq_true rfl⟩, rfl, hts (.instanceMethod yX1_init) (by decide +kernel)⟩ (fw_preI hW hR) rfl rfl hl.1 rfl (lv_room (Nat.le_of_ble_eq_true rfl)) dX10_init_9 ⟨Nat.le_of_ble_eq_true rfl, Nat.le_of_ble_eq_true rfl⟩) hS (fun v9 τ9 H locs hq hR hS => ?_)
  obtain ⟨n2, σ2⟩ := τ9
  obtain ⟨rfl, z2, ⟨hc1, hc2, hc3⟩, f2⟩ := hq
  have z2 : n2 = a + 54 := z2
  subst z2
  have f2 : ∀ q : Nat, q < a + 1 → σ2 q = σ1 q := f2
  refine W.eq (g2 := F0 mI 12 ls [.ref (a + 1), .ref (a)]) rfl ?_
  refine fw_putF (v := .ref (a + 1)) (C := RX10) (T := TX10) (N := 9) hx hb hts hin10 tyX10 tyX10_ok nmX10 hown hK hR hS ((f2 _ (by omega)).trans ((f1 _ (by omega)).trans (e0))) rfl 0 (by decide) (hts (.fieldLink RX10 10 "UnreadLeaflets" "changes" "LUnreadLeaflets$Changes;") (by decide +kernel)) rfl hnm rfl rfl rfl (Nat.le_of_ble_eq_true rfl) dX10_init_12 (fun H locs hR hS => ?_)
  obtain ⟨σ3, hs3⟩ : ∃ z9 : Nat → Option va_E, z9 = va_up σ2 (a) (some (.inr (12, [.ref (a + 1), .null, .null, .null, .null, .int 0, .null, .null, .null]))) := ⟨_, rfl⟩
  have hR : fR G (a + 54, σ3) H := by rw [hs3]; exact hR
  have e3 : σ3 (a) = some (.inr (12, [.ref (a + 1), .null, .null, .null, .null, .int 0, .null, .null, .null])) := by rw [hs3]; exact va_up_at
  have f3 : ∀ q : Nat, ¬ q = a → σ3 q = σ2 q := fun q hq => by rw [hs3]; exact va_up_off hq
  clear hs3
  refine lv_aload_n hx hb dX10_init_15 rfl (lv_at hl 0 rfl) ?_
  refine lv_aload_n hx hb dX10_init_16 rfl (lv_at hl 0 rfl) ?_
  refine fw_get (v := .ref (a + 1)) (C := RX10) (T := TX10) (N := 9) hx hb hts hin10 hown hK hR (e3) rfl 0 (by decide) (hts (.fieldLink RX10 10 "UnreadLeaflets" "changes" "LUnreadLeaflets$Changes;") (by decide +kernel)) rfl dX10_init_17 ?_
  refine fw_get (v := .ref (a + 2)) (C := RX1) (T := TX1) (N := 2) hx hb hts hin1 hown hK hR ((f3 _ (by omega)).trans (hc1)) rfl 0 (by decide) (hts (.fieldLink RX10 16 "UnreadLeaflets$Changes" "archive" "LUnreadLeaflets$Archive;") (by decide +kernel)) rfl dX10_init_20 ?_
  refine fw_putF (v := .ref (a + 2)) (C := RX10) (T := TX10) (N := 9) hx hb hts hin10 tyX10 tyX10_ok nmX10 hown hK hR hS (e3) rfl 1 (by decide) (hts (.fieldLink RX10 20 "UnreadLeaflets" "archive" "LUnreadLeaflets$Archive;") (by decide +kernel)) rfl hnm rfl rfl rfl (Nat.le_of_ble_eq_true rfl) dX10_init_23 (fun H locs hR hS => ?_)
  obtain ⟨σ4, hs4⟩ : ∃ z9 : Nat → Option va_E, z9 = va_up σ3 (a) (some (.inr (12, [.ref (a + 1), .ref (a + 2), .null, .null, .null, .int 0, .null, .null, .null]))) := ⟨_, rfl⟩
  have hR : fR G (a + 54, σ4) H := by rw [hs4]; exact hR
  have e4 : σ4 (a) = some (.inr (12, [.ref (a + 1), .ref (a + 2), .null, .null, .null, .int 0, .null, .null, .null])) := by rw [hs4]; exact va_up_at
  have f4 : ∀ q : Nat, ¬ q = a → σ4 q = σ3 q := fun q hq => by rw [hs4]; exact va_up_off hq
  clear hs4
  refine lv_aload_n hx hb dX10_init_26 rfl (lv_at hl 0 rfl) ?_
  refine lv_aload_n hx hb dX10_init_27 rfl (lv_at hl 0 rfl) ?_
  refine fw_get (v := .ref (a + 1)) (C := RX10) (T := TX10) (N := 9) hx hb hts hin10 hown hK hR (e4) rfl 0 (by decide) (hts (.fieldLink RX10 10 "UnreadLeaflets" "changes" "LUnreadLeaflets$Changes;") (by decide +kernel)) rfl dX10_init_28 ?_
  refine fw_get (v := .ref (a + 53)) (C := RX1) (T := TX1) (N := 2) hx hb hts hin1 hown hK hR ((f4 _ (by omega)).trans ((f3 _ (by omega)).trans (hc1))) rfl 1 (by decide) (hts (.fieldLink RX10 21 "UnreadLeaflets$Changes" "kept" "LUnreadLeaflets$Reason;") (by decide +kernel)) rfl dX10_init_31 ?_
  refine fw_putF (v := .ref (a + 53)) (C := RX10) (T := TX10) (N := 9) hx hb hts hin10 tyX10 tyX10_ok nmX10 hown hK hR hS (e4) rfl 2 (by decide) (hts (.fieldLink RX10 25 "UnreadLeaflets" "kept" "LUnreadLeaflets$Reason;") (by decide +kernel)) rfl hnm rfl rfl rfl (Nat.le_of_ble_eq_true rfl) dX10_init_34 (fun H locs hR hS => ?_)
  obtain ⟨σ5, hs5⟩ : ∃ z9 : Nat → Option va_E, z9 = va_up σ4 (a) (some (.inr (12, [.ref (a + 1), .ref (a + 2), .ref (a + 53), .null, .null, .int 0, .null, .null, .null]))) := ⟨_, rfl⟩
  have hR : fR G (a + 54, σ5) H := by rw [hs5]; exact hR
  have e5 : σ5 (a) = some (.inr (12, [.ref (a + 1), .ref (a + 2), .ref (a + 53), .null, .null, .int 0, .null, .null, .null])) := by rw [hs5]; exact va_up_at
  have f5 : ∀ q : Nat, ¬ q = a → σ5 q = σ4 q := fun q hq => by rw [hs5]; exact va_up_off hq
  clear hs5
  refine lv_aload_n hx hb dX10_init_37 rfl (lv_at hl 0 rfl) ?_
  refine fw_new (C := RX4) (T := TX4) (N := 3) (ci := 6) hx hb hts (by decide +kernel) tyX4 tyX4_ok hown (hts (.classLink RX10 26 RX4) (by decide +kernel)) (hts (.instantiable RX4 3) (by decide +kernel)) (hts (.initialized RX4) (by decide +kernel)) hK hR hS rfl (n := a + 54) rfl (fs := [.null, .int 0, .int 0]) (fun j hj => by rcases (show j = 0 ∨ j = 1 ∨ j = 2 by omega) with rfl | rfl | rfl <;> rfl) (Nat.le_of_ble_eq_true rfl) (Nat.le_of_ble_eq_true rfl) dX10_init_38 (fun H hR hS => ?_)
  obtain ⟨σ6, hs6⟩ : ∃ z9 : Nat → Option va_E, z9 = va_up σ5 (a + 54) (some (.inr (6, [.null, .int 0, .int 0]))) := ⟨_, rfl⟩
  have hR : fR G (a + 55, σ6) H := by rw [hs6]; exact hR
  have e6 : σ6 (a + 54) = some (.inr (6, [.null, .int 0, .int 0])) := by rw [hs6]; exact va_up_at
  have f6 : ∀ q : Nat, ¬ q = a + 54 → σ6 q = σ5 q := fun q hq => by rw [hs6]; exact va_up_off hq
  clear hs6
  refine lv_dup hx hb dX10_init_41 rfl ?_
  refine fw_call (va_runI (As := []) (b := a + 54) (rest := [.ref (a + 54), .ref (a)]) ⟨hx, hb, hml, hown, hts⟩ (c_X4_init G hL l (a + 55, σ6) (a + 54) rfl (e6)) (cwI 0 hts gX10_init_X4_init rfl rfl rfl (hts (.initialized RX4) (by decide +kernel)) (hts (.methodLink RX10 28 yX4_init) (by decide +kernel)) (hts (.instanceMethod yX4_init) (by decide +kernel)) rfl (by decide +kernel) ⟨Nat.le_of_ble_eq_true rfl, Nat.le_of_ble_eq_true rfl⟩) (fw_preI hW hR) rfl rfl hl.1 rfl (lv_room (Nat.le_of_ble_eq_true rfl)) dX10_init_42 ⟨Nat.le_of_ble_eq_true rfl, Nat.le_of_ble_eq_true rfl⟩) hS (fun v9 τ9 H locs hq hR hS => ?_)
  obtain ⟨n7, σ7⟩ := τ9
  obtain ⟨rfl, z7, hh, f7⟩ := hq
  have z7 : n7 = a + 515 := z7
  subst z7
  have f7 : ∀ q : Nat, q < a + 54 → σ7 q = σ6 q := f7
  refine W.eq (g2 := F0 mI 45 ls [.ref (a + 54), .ref (a)]) rfl ?_
  refine fw_putF (v := .ref (a + 54)) (C := RX10) (T := TX10) (N := 9) hx hb hts hin10 tyX10 tyX10_ok nmX10 hown hK hR hS ((f7 _ (by omega)).trans ((f6 _ (by omega)).trans (e5))) rfl 3 (by decide) (hts (.fieldLink RX10 29 "UnreadLeaflets" "history" "LUnreadLeaflets$History;") (by decide +kernel)) rfl hnm rfl rfl rfl (Nat.le_of_ble_eq_true rfl) dX10_init_45 (fun H locs hR hS => ?_)
  obtain ⟨σ8, hs8⟩ : ∃ z9 : Nat → Option va_E, z9 = va_up σ7 (a) (some (.inr (12, [.ref (a + 1), .ref (a + 2), .ref (a + 53), .ref (a + 54), .null, .int 0, .null, .null, .null]))) := ⟨_, rfl⟩
  have hR : fR G (a + 515, σ8) H := by rw [hs8]; exact hR
  have e8 : σ8 (a) = some (.inr (12, [.ref (a + 1), .ref (a + 2), .ref (a + 53), .ref (a + 54), .null, .int 0, .null, .null, .null])) := by rw [hs8]; exact va_up_at
  have f8 : ∀ q : Nat, ¬ q = a → σ8 q = σ7 q := fun q hq => by rw [hs8]; exact va_up_off hq
  clear hs8
  refine lv_aload_n hx hb dX10_init_48 rfl (lv_at hl 0 rfl) ?_
  refine fw_new (C := RX0) (T := TX0) (N := 9) (ci := 2) hx hb hts (by decide +kernel) tyX0 tyX0_ok hown (hts (.classLink RX10 33 RX0) (by decide +kernel)) (hts (.instantiable RX0 9) (by decide +kernel)) (hts (.initialized RX0) (by decide +kernel)) hK hR hS rfl (n := a + 515) rfl (fs := [.null, .int 0, .null, .int 0, .null, .int 0, .int 0, .int 0, .int 0]) (fun j hj => by rcases (show j = 0 ∨ j = 1 ∨ j = 2 ∨ j = 3 ∨ j = 4 ∨ j = 5 ∨ j = 6 ∨ j = 7 ∨ j = 8 by omega) with rfl | rfl | rfl | rfl | rfl | rfl | rfl | rfl | rfl <;> rfl) (Nat.le_of_ble_eq_true rfl) (Nat.le_of_ble_eq_true rfl) dX10_init_49 (fun H hR hS => ?_)
  obtain ⟨σ9, hs9⟩ : ∃ z9 : Nat → Option va_E, z9 = va_up σ8 (a + 515) (some (.inr (2, [.null, .int 0, .null, .int 0, .null, .int 0, .int 0, .int 0, .int 0]))) := ⟨_, rfl⟩
  have hR : fR G (a + 516, σ9) H := by rw [hs9]; exact hR
  have e9 : σ9 (a + 515) = some (.inr (2, [.null, .int 0, .null, .int 0, .null, .int 0, .int 0, .int 0, .int 0])) := by rw [hs9]; exact va_up_at
  have f9 : ∀ q : Nat, ¬ q = a + 515 → σ9 q = σ8 q := fun q hq => by rw [hs9]; exact va_up_off hq
  clear hs9
  refine lv_dup hx hb dX10_init_52 rfl ?_
  refine fw_call (va_runI (As := []) (b := a + 515) (rest := [.ref (a + 515), .ref (a)]) ⟨hx, hb, hml, hown, hts⟩ (c_X0_init G hL l (a + 516, σ9) (a + 515) rfl (e9)) (cwI 0 hts gX10_init_X0_init rfl rfl rfl (hts (.initialized RX0) (by decide +kernel)) (hts (.methodLink RX10 35 yX0_init) (by decide +kernel)) (hts (.instanceMethod yX0_init) (by decide +kernel)) rfl (by decide +kernel) ⟨Nat.le_of_ble_eq_true rfl, Nat.le_of_ble_eq_true rfl⟩) (fw_preI hW hR) rfl rfl hl.1 rfl (lv_room (Nat.le_of_ble_eq_true rfl)) dX10_init_53 ⟨Nat.le_of_ble_eq_true rfl, Nat.le_of_ble_eq_true rfl⟩) hS (fun v9 τ9 H locs hq hR hS => ?_)
  obtain ⟨n10, σ10⟩ := τ9
  obtain ⟨rfl, z10, hsn, f10⟩ := hq
  have z10 : n10 = a + 566 := z10
  subst z10
  have f10 : ∀ q : Nat, q < a + 515 → σ10 q = σ9 q := f10
  refine W.eq (g2 := F0 mI 56 ls [.ref (a + 515), .ref (a)]) rfl ?_
  refine fw_putF (v := .ref (a + 515)) (C := RX10) (T := TX10) (N := 9) hx hb hts hin10 tyX10 tyX10_ok nmX10 hown hK hR hS ((f10 _ (by omega)).trans ((f9 _ (by omega)).trans (e8))) rfl 4 (by decide) (hts (.fieldLink RX10 36 "UnreadLeaflets" "snapshot" "LUnreadLeaflets$Archive;") (by decide +kernel)) rfl hnm rfl rfl rfl (Nat.le_of_ble_eq_true rfl) dX10_init_56 (fun H locs hR hS => ?_)
  obtain ⟨σ11, hs11⟩ : ∃ z9 : Nat → Option va_E, z9 = va_up σ10 (a) (some (.inr (12, [.ref (a + 1), .ref (a + 2), .ref (a + 53), .ref (a + 54), .ref (a + 515), .int 0, .null, .null, .null]))) := ⟨_, rfl⟩
  have hR : fR G (a + 566, σ11) H := by rw [hs11]; exact hR
  have e11 : σ11 (a) = some (.inr (12, [.ref (a + 1), .ref (a + 2), .ref (a + 53), .ref (a + 54), .ref (a + 515), .int 0, .null, .null, .null])) := by rw [hs11]; exact va_up_at
  have f11 : ∀ q : Nat, ¬ q = a → σ11 q = σ10 q := fun q hq => by rw [hs11]; exact va_up_off hq
  clear hs11
  refine lv_aload_n hx hb dX10_init_59 rfl (lv_at hl 0 rfl) ?_
  refine fw_new (C := RX8) (T := TX8) (N := 6) (ci := 10) hx hb hts (by decide +kernel) tyX8 tyX8_ok hown (hts (.classLink RX10 39 RX8) (by decide +kernel)) (hts (.instantiable RX8 6) (by decide +kernel)) (hts (.initialized RX8) (by decide +kernel)) hK hR hS rfl (n := a + 566) rfl (fs := [.null, .int 0, .int 0, .null, .int 0, .int 0]) (fun j hj => by rcases (show j = 0 ∨ j = 1 ∨ j = 2 ∨ j = 3 ∨ j = 4 ∨ j = 5 by omega) with rfl | rfl | rfl | rfl | rfl | rfl <;> rfl) (Nat.le_of_ble_eq_true rfl) (Nat.le_of_ble_eq_true rfl) dX10_init_60 (fun H hR hS => ?_)
  obtain ⟨σ12, hs12⟩ : ∃ z9 : Nat → Option va_E, z9 = va_up σ11 (a + 566) (some (.inr (10, [.null, .int 0, .int 0, .null, .int 0, .int 0]))) := ⟨_, rfl⟩
  have hR : fR G (a + 567, σ12) H := by rw [hs12]; exact hR
  have e12 : σ12 (a + 566) = some (.inr (10, [.null, .int 0, .int 0, .null, .int 0, .int 0])) := by rw [hs12]; exact va_up_at
  have f12 : ∀ q : Nat, ¬ q = a + 566 → σ12 q = σ11 q := fun q hq => by rw [hs12]; exact va_up_off hq
  clear hs12
  refine lv_dup hx hb dX10_init_63 rfl ?_
  refine fw_call (va_runI (As := []) (b := a + 566) (rest := [.ref (a + 566), .ref (a)]) ⟨hx, hb, hml, hown, hts⟩ (c_X8_init G hL l (a + 567, σ12) (a + 566) rfl (e12)) (cwI 0 hts gX10_init_X8_init rfl rfl rfl (hts (.initialized RX8) (by decide +kernel)) (hts (.methodLink RX10 41 yX8_init) (by decide +kernel)) (hts (.instanceMethod yX8_init) (by decide +kernel)) rfl (by decide +kernel) ⟨Nat.le_of_ble_eq_true rfl, Nat.le_of_ble_eq_true rfl⟩) (fw_preI hW hR) rfl rfl hl.1 rfl (lv_room (Nat.le_of_ble_eq_true rfl)) dX10_init_64 ⟨Nat.le_of_ble_eq_true rfl, Nat.le_of_ble_eq_true rfl⟩) hS (fun v9 τ9 H locs hq hR hS => ?_)
  obtain ⟨n13, σ13⟩ := τ9
  obtain ⟨rfl, z13, ⟨⟨ht1, ht2⟩, ht3, ht4⟩, f13⟩ := hq
  have z13 : n13 = a + 609 := z13
  subst z13
  have f13 : ∀ q : Nat, q < a + 566 → σ13 q = σ12 q := f13
  refine W.eq (g2 := F0 mI 67 ls [.ref (a + 566), .ref (a)]) rfl ?_
  refine fw_putF (v := .ref (a + 566)) (C := RX10) (T := TX10) (N := 9) hx hb hts hin10 tyX10 tyX10_ok nmX10 hown hK hR hS ((f13 _ (by omega)).trans ((f12 _ (by omega)).trans (e11))) rfl 6 (by decide) (hts (.fieldLink RX10 42 "UnreadLeaflets" "text" "LUnreadLeaflets$Text;") (by decide +kernel)) rfl hnm rfl rfl rfl (Nat.le_of_ble_eq_true rfl) dX10_init_67 (fun H locs hR hS => ?_)
  obtain ⟨σ14, hs14⟩ : ∃ z9 : Nat → Option va_E, z9 = va_up σ13 (a) (some (.inr (12, [.ref (a + 1), .ref (a + 2), .ref (a + 53), .ref (a + 54), .ref (a + 515), .int 0, .ref (a + 566), .null, .null]))) := ⟨_, rfl⟩
  have hR : fR G (a + 609, σ14) H := by rw [hs14]; exact hR
  have e14 : σ14 (a) = some (.inr (12, [.ref (a + 1), .ref (a + 2), .ref (a + 53), .ref (a + 54), .ref (a + 515), .int 0, .ref (a + 566), .null, .null])) := by rw [hs14]; exact va_up_at
  have f14 : ∀ q : Nat, ¬ q = a → σ14 q = σ13 q := fun q hq => by rw [hs14]; exact va_up_off hq
  clear hs14
  refine lv_aload_n hx hb dX10_init_70 rfl (lv_at hl 0 rfl) ?_
  refine fw_new (C := RX6) (T := TX6) (N := 2) (ci := 8) hx hb hts (by decide +kernel) tyX6 tyX6_ok hown (hts (.classLink RX10 46 RX6) (by decide +kernel)) (hts (.instantiable RX6 2) (by decide +kernel)) (hts (.initialized RX6) (by decide +kernel)) hK hR hS rfl (n := a + 609) rfl (fs := [.null, .int 0]) (fun j hj => by rcases (show j = 0 ∨ j = 1 by omega) with rfl | rfl <;> rfl) (Nat.le_of_ble_eq_true rfl) (Nat.le_of_ble_eq_true rfl) dX10_init_71 (fun H hR hS => ?_)
  obtain ⟨σ15, hs15⟩ : ∃ z9 : Nat → Option va_E, z9 = va_up σ14 (a + 609) (some (.inr (8, [.null, .int 0]))) := ⟨_, rfl⟩
  have hR : fR G (a + 610, σ15) H := by rw [hs15]; exact hR
  have e15 : σ15 (a + 609) = some (.inr (8, [.null, .int 0])) := by rw [hs15]; exact va_up_at
  have f15 : ∀ q : Nat, ¬ q = a + 609 → σ15 q = σ14 q := fun q hq => by rw [hs15]; exact va_up_off hq
  clear hs15
  refine lv_dup hx hb dX10_init_74 rfl ?_
  refine fw_call (va_runIN (As := []) (b := a + 609) (rest := [.ref (a + 609), .ref (a)]) ⟨hx, hb, hml, hown, hts⟩ (c_X6_init G hL l (a + 610, σ15) (a + 609) rfl (e15)) ⟨va_cnB 0 hts gX10_init_X6_init_n48 rfl rfl rfl (hL.N hW (hh := RX10) (by decide +kernel)) (hts (.initialized RX6) (by decide +kernel)) (by decide +kernel) ⟨Nat.le_of_ble_eq_true rfl, Nat.le_of_ble_eq_true rfl⟩, rfl, hts (.instanceMethod yX6_init) (by decide +kernel)⟩ (fw_preI hW hR) rfl rfl hl.1 rfl (lv_room (Nat.le_of_ble_eq_true rfl)) dX10_init_75 ⟨Nat.le_of_ble_eq_true rfl, Nat.le_of_ble_eq_true rfl⟩) hS (fun v9 τ9 H locs hq hR hS => ?_)
  obtain ⟨n16, σ16⟩ := τ9
  obtain ⟨rfl, z16, ⟨hl1, hl2, hl3⟩, f16⟩ := hq
  have z16 : n16 = a + 611 := z16
  subst z16
  have f16 : ∀ q : Nat, q < a + 609 → σ16 q = σ15 q := f16
  refine W.eq (g2 := F0 mI 78 ls [.ref (a + 609), .ref (a)]) rfl ?_
  refine fw_putF (v := .ref (a + 609)) (C := RX10) (T := TX10) (N := 9) hx hb hts hin10 tyX10 tyX10_ok nmX10 hown hK hR hS ((f16 _ (by omega)).trans ((f15 _ (by omega)).trans (e14))) rfl 7 (by decide) (hts (.fieldLink RX10 49 "UnreadLeaflets" "written" "LUnreadLeaflets$Line;") (by decide +kernel)) rfl hnm rfl rfl rfl (Nat.le_of_ble_eq_true rfl) dX10_init_78 (fun H locs hR hS => ?_)
  obtain ⟨σ17, hs17⟩ : ∃ z9 : Nat → Option va_E, z9 = va_up σ16 (a) (some (.inr (12, [.ref (a + 1), .ref (a + 2), .ref (a + 53), .ref (a + 54), .ref (a + 515), .int 0, .ref (a + 566), .ref (a + 609), .null]))) := ⟨_, rfl⟩
  have hR : fR G (a + 611, σ17) H := by rw [hs17]; exact hR
  have e17 : σ17 (a) = some (.inr (12, [.ref (a + 1), .ref (a + 2), .ref (a + 53), .ref (a + 54), .ref (a + 515), .int 0, .ref (a + 566), .ref (a + 609), .null])) := by rw [hs17]; exact va_up_at
  have f17 : ∀ q : Nat, ¬ q = a → σ17 q = σ16 q := fun q hq => by rw [hs17]; exact va_up_off hq
  clear hs17
  refine lv_aload_n hx hb dX10_init_81 rfl (lv_at hl 0 rfl) ?_
  refine fw_new (C := RX9) (T := TX9) (N := 2) (ci := 11) hx hb hts (by decide +kernel) tyX9 tyX9_ok hown (hts (.classLink RX10 53 RX9) (by decide +kernel)) (hts (.instantiable RX9 2) (by decide +kernel)) (hts (.initialized RX9) (by decide +kernel)) hK hR hS rfl (n := a + 611) rfl (fs := [.null, .null]) (fun j hj => by rcases (show j = 0 ∨ j = 1 by omega) with rfl | rfl <;> rfl) (Nat.le_of_ble_eq_true rfl) (Nat.le_of_ble_eq_true rfl) dX10_init_82 (fun H hR hS => ?_)
  obtain ⟨σ18, hs18⟩ : ∃ z9 : Nat → Option va_E, z9 = va_up σ17 (a + 611) (some (.inr (11, [.null, .null]))) := ⟨_, rfl⟩
  have hR : fR G (a + 612, σ18) H := by rw [hs18]; exact hR
  have e18 : σ18 (a + 611) = some (.inr (11, [.null, .null])) := by rw [hs18]; exact va_up_at
  have f18 : ∀ q : Nat, ¬ q = a + 611 → σ18 q = σ17 q := fun q hq => by rw [hs18]; exact va_up_off hq
  clear hs18
  refine lv_dup hx hb dX10_init_85 rfl ?_
  refine fw_call (va_runIN (As := []) (b := a + 611) (rest := [.ref (a + 611), .ref (a)]) ⟨hx, hb, hml, hown, hts⟩ (c_X9_init G hL l (a + 612, σ18) (a + 611) rfl (e18)) ⟨va_cnB 0 hts gX10_init_X9_init_n55 rfl rfl rfl (hL.N hW (hh := RX10) (by decide +kernel)) (hts (.initialized RX9) (by decide +kernel)) (by decide +kernel) ⟨Nat.le_of_ble_eq_true rfl, Nat.le_of_ble_eq_true rfl⟩, rfl, hts (.instanceMethod yX9_init) (by decide +kernel)⟩ (fw_preI hW hR) rfl rfl hl.1 rfl (lv_room (Nat.le_of_ble_eq_true rfl)) dX10_init_86 ⟨Nat.le_of_ble_eq_true rfl, Nat.le_of_ble_eq_true rfl⟩) hS (fun v9 τ9 H locs hq hR hS => ?_)
  obtain ⟨n19, σ19⟩ := τ9
  obtain ⟨rfl, z19, htn, f19⟩ := hq
  have z19 : n19 = a + 614 := z19
  subst z19
  have f19 : ∀ q : Nat, q < a + 611 → σ19 q = σ18 q := f19
  refine W.eq (g2 := F0 mI 89 ls [.ref (a + 611), .ref (a)]) rfl ?_
  refine fw_putF (v := .ref (a + 611)) (C := RX10) (T := TX10) (N := 9) hx hb hts hin10 tyX10 tyX10_ok nmX10 hown hK hR hS ((f19 _ (by omega)).trans ((f18 _ (by omega)).trans (e17))) rfl 8 (by decide) (hts (.fieldLink RX10 56 "UnreadLeaflets" "trialTin" "LUnreadLeaflets$Tin;") (by decide +kernel)) rfl hnm rfl rfl rfl (Nat.le_of_ble_eq_true rfl) dX10_init_89 (fun H locs hR hS => ?_)
  obtain ⟨σ20, hs20⟩ : ∃ z9 : Nat → Option va_E, z9 = va_up σ19 (a) (some (.inr (12, [.ref (a + 1), .ref (a + 2), .ref (a + 53), .ref (a + 54), .ref (a + 515), .int 0, .ref (a + 566), .ref (a + 609), .ref (a + 611)]))) := ⟨_, rfl⟩
  have hR : fR G (a + 614, σ20) H := by rw [hs20]; exact hR
  have e20 : σ20 (a) = some (.inr (12, [.ref (a + 1), .ref (a + 2), .ref (a + 53), .ref (a + 54), .ref (a + 515), .int 0, .ref (a + 566), .ref (a + 609), .ref (a + 611)])) := by rw [hs20]; exact va_up_at
  have f20 : ∀ q : Nat, ¬ q = a → σ20 q = σ19 q := fun q hq => by rw [hs20]; exact va_up_off hq
  clear hs20
  refine fw_vret hx hb hr hlocks hR hS dX10_init_92 ?_
  exact ⟨rfl, rfl, ⟨(e20), ((f20 _ (by omega)).trans ((f19 _ (by omega)).trans ((f18 _ (by omega)).trans ((f17 _ (by omega)).trans ((f16 _ (by omega)).trans ((f15 _ (by omega)).trans ((f14 _ (by omega)).trans ((f13 _ (by omega)).trans ((f12 _ (by omega)).trans ((f11 _ (by omega)).trans ((f10 _ (by omega)).trans ((f9 _ (by omega)).trans ((f8 _ (by omega)).trans ((f7 _ (by omega)).trans ((f6 _ (by omega)).trans ((f5 _ (by omega)).trans ((f4 _ (by omega)).trans ((f3 _ (by omega)).trans (hc1))))))))))))))))))), hc2.keep (fun q q1 q2 => ((f20 q (by omega)).trans ((f19 q (by omega)).trans ((f18 q (by omega)).trans ((f17 q (by omega)).trans ((f16 q (by omega)).trans ((f15 q (by omega)).trans ((f14 q (by omega)).trans ((f13 q (by omega)).trans ((f12 q (by omega)).trans ((f11 q (by omega)).trans ((f10 q (by omega)).trans ((f9 q (by omega)).trans ((f8 q (by omega)).trans ((f7 q (by omega)).trans ((f6 q (by omega)).trans ((f5 q (by omega)).trans ((f4 q (by omega)).trans (f3 q (by omega)))))))))))))))))))), ((f20 _ (by omega)).trans ((f19 _ (by omega)).trans ((f18 _ (by omega)).trans ((f17 _ (by omega)).trans ((f16 _ (by omega)).trans ((f15 _ (by omega)).trans ((f14 _ (by omega)).trans ((f13 _ (by omega)).trans ((f12 _ (by omega)).trans ((f11 _ (by omega)).trans ((f10 _ (by omega)).trans ((f9 _ (by omega)).trans ((f8 _ (by omega)).trans ((f7 _ (by omega)).trans ((f6 _ (by omega)).trans ((f5 _ (by omega)).trans ((f4 _ (by omega)).trans (f3 _ (by omega))))))))))))))))))).trans hc3, HisS.keep hh (fun q q1 q2 => ((f20 q (by omega)).trans ((f19 q (by omega)).trans ((f18 q (by omega)).trans ((f17 q (by omega)).trans ((f16 q (by omega)).trans ((f15 q (by omega)).trans ((f14 q (by omega)).trans ((f13 q (by omega)).trans ((f12 q (by omega)).trans ((f11 q (by omega)).trans ((f10 q (by omega)).trans ((f9 q (by omega)).trans (f8 q (by omega))))))))))))))), hsn.keep (fun q q1 q2 => ((f20 q (by omega)).trans ((f19 q (by omega)).trans ((f18 q (by omega)).trans ((f17 q (by omega)).trans ((f16 q (by omega)).trans ((f15 q (by omega)).trans ((f14 q (by omega)).trans ((f13 q (by omega)).trans ((f12 q (by omega)).trans (f11 q (by omega)))))))))))), ⟨⟨((f20 _ (by omega)).trans ((f19 _ (by omega)).trans ((f18 _ (by omega)).trans ((f17 _ (by omega)).trans ((f16 _ (by omega)).trans ((f15 _ (by omega)).trans (f14 _ (by omega)))))))).trans ht1, ((f20 _ (by omega)).trans ((f19 _ (by omega)).trans ((f18 _ (by omega)).trans ((f17 _ (by omega)).trans ((f16 _ (by omega)).trans ((f15 _ (by omega)).trans (f14 _ (by omega)))))))).trans ht2⟩, ((f20 _ (by omega)).trans ((f19 _ (by omega)).trans ((f18 _ (by omega)).trans ((f17 _ (by omega)).trans ((f16 _ (by omega)).trans ((f15 _ (by omega)).trans (f14 _ (by omega)))))))).trans ht3, fun i hi => cmd_fr (ht4 i hi) (fun q q1 q2 => ((f20 q (by omega)).trans ((f19 q (by omega)).trans ((f18 q (by omega)).trans ((f17 q (by omega)).trans ((f16 q (by omega)).trans ((f15 q (by omega)).trans (f14 q (by omega)))))))))⟩, ⟨((f20 _ (by omega)).trans ((f19 _ (by omega)).trans ((f18 _ (by omega)).trans (f17 _ (by omega))))).trans hl1, ((f20 _ (by omega)).trans ((f19 _ (by omega)).trans ((f18 _ (by omega)).trans (f17 _ (by omega))))).trans hl2, hl3⟩, tin_fr htn (fun q q1 q2 => (f20 q (by omega)))⟩, (fun q hq => ((f20 q (by omega)).trans ((f19 q (by omega)).trans ((f18 q (by omega)).trans ((f17 q (by omega)).trans ((f16 q (by omega)).trans ((f15 q (by omega)).trans ((f14 q (by omega)).trans ((f13 q (by omega)).trans ((f12 q (by omega)).trans ((f11 q (by omega)).trans ((f10 q (by omega)).trans ((f9 q (by omega)).trans ((f8 q (by omega)).trans ((f7 q (by omega)).trans ((f6 q (by omega)).trans ((f5 q (by omega)).trans ((f4 q (by omega)).trans ((f3 q (by omega)).trans ((f2 q (by omega)).trans (f1 q (by omega))))))))))))))))))))).trans (f0 q))⟩
