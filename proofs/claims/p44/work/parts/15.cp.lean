/-! ===== printed by program (wip/whole/gen): copies ===== -/
set_option maxHeartbeats 4000000 in
set_option maxRecDepth 100000 in
theorem c_X9_copyFrom (G : FG) (hL : FL G) (l : Launch) (ω : FWd) (t : Nat) (f h : Nat → Int32) (hT : TinS G ω.2 t f h) (u : Nat) (f2 h2 : Nat → Int32) (hU : TinS G ω.2 u f2 h2) (hd : t + 3 ≤ u ∨ u + 3 ≤ t) : FMet G l yX9_copyFrom wsX9_copyFrom ({ frames := 1, cells := 0, slots := 0, locals := 60 } : Room) [.ref t, .ref u] ω (fun vv9 τ9 => vv9 = none ∧ τ9.1 = ω.1 ∧ τ9.2 (t + 1) = some (.inl (G.2.1 0, 6, .inl f2)) ∧ τ9.2 (t + 2) = some (.inl (G.2.1 0, 6, .inl h2)) ∧ ∀ q : Nat, ¬ q = (t + 1) → ¬ q = (t + 2) → τ9.2 q = ω.2 q) 0 0 := by
  refine fw_ofW (cc := cX9_copyFrom) (maxL := 2) (ret := none) (by decide) rfl (Nat.le_of_ble_eq_true rfl) ?_
  intro pP eE sS mI ar9 bl9 meth cD ls hx hb hr hlocks hml hts hown hnm hW hR hl
  have hK := hL.K hW
  have hS : va_S (fwA G) sS.heap sS.heap [] := va_S.rf
  have hin9 : ∀ w ∈ u_ws RX9 TX9 2, w ∈ wsX9_copyFrom := by decide +kernel
  have hl : lv_has ls 2 [(0, .ref t), (1, .ref u)] := hl
  obtain ⟨g0, g1, g2⟩ := id hT
  obtain ⟨e0, e1, e2⟩ := id hU
  refine lv_aload_n hx hb dX9_copyFrom_0 rfl (lv_at hl 1 rfl) ?_
  refine fw_get (v := .ref (u + 1)) (C := RX9) (T := TX9) (N := 2) hx hb hts hin9 hown hK hR e0 rfl 0 (by decide) (hts (.fieldLink RX9 9 "UnreadLeaflets$Tin" "inside" "[I") (by decide +kernel)) rfl dX9_copyFrom_1 ?_
  refine lv_iconst (v := 0) hx hb dX9_copyFrom_4 (by decide) ?_
  refine lv_aload_n hx hb dX9_copyFrom_5 rfl (lv_at hl 0 rfl) ?_
  refine fw_get (v := .ref (t + 1)) (C := RX9) (T := TX9) (N := 2) hx hb hts hin9 hown hK hR g0 rfl 0 (by decide) (hts (.fieldLink RX9 9 "UnreadLeaflets$Tin" "inside" "[I") (by decide +kernel)) rfl dX9_copyFrom_6 ?_
  refine lv_iconst (v := 0) hx hb dX9_copyFrom_9 (by decide) ?_
  refine lv_bipush (v := 6) hx hb dX9_copyFrom_10 (by decide) ?_
  refine fw_copyi hx hb (hml.trans hl.1.symm) hown (index := 18) (hts (.methodLink RX9 18 arraycopyName) (by decide +kernel)) (hts (.native arraycopyName) (by decide +kernel)) (hts (.static arraycopyName) (by decide +kernel)) (hts (.initialized "java/lang/System") (by decide +kernel)) hK hR hS e1 g1 (by decide) (by decide) (by decide) (by decide) (by decide) (Nat.le_of_ble_eq_true rfl) (by decide) dX9_copyFrom_12 (fun H locs hR hS => ?_)
  have hR := hR.row (g := f2) (cpy_row rfl)
  obtain ⟨ω_1, hw_2⟩ : ∃ τ : FWd, τ = (ω.1, va_up ω.2 (t + 1) (some (.inl (G.2.1 0, 6, .inl f2)))) := ⟨_, rfl⟩
  have hR : fR G ω_1 H := by rw [hw_2]; exact hR
  have f_3 : ω_1.2 (t + 1) = some (.inl (G.2.1 0, 6, .inl f2)) := by rw [hw_2]; exact va_up_at
  have fr_4 : ∀ q : Nat, ¬ q = (t + 1) → ω_1.2 q = ω.2 q := fun q hq => by rw [hw_2]; exact va_up_off hq
  have z_5 : ω_1.1 = ω.1 := by rw [hw_2]
  refine lv_aload_n hx hb dX9_copyFrom_15 rfl (lv_at hl 1 rfl) ?_
  have f_6 : ω_1.2 u = some (.inr (11, [.ref (u + 1), .ref (u + 2)])) := (fr_4 u (by omega)).trans e0
  refine fw_get (v := .ref (u + 2)) (C := RX9) (T := TX9) (N := 2) hx hb hts hin9 hown hK hR f_6 rfl 1 (by decide) (hts (.fieldLink RX9 15 "UnreadLeaflets$Tin" "lost" "[I") (by decide +kernel)) rfl dX9_copyFrom_16 ?_
  refine lv_iconst (v := 0) hx hb dX9_copyFrom_19 (by decide) ?_
  refine lv_aload_n hx hb dX9_copyFrom_20 rfl (lv_at hl 0 rfl) ?_
  have f_7 : ω_1.2 t = some (.inr (11, [.ref (t + 1), .ref (t + 2)])) := (fr_4 t (by omega)).trans g0
  refine fw_get (v := .ref (t + 2)) (C := RX9) (T := TX9) (N := 2) hx hb hts hin9 hown hK hR f_7 rfl 1 (by decide) (hts (.fieldLink RX9 15 "UnreadLeaflets$Tin" "lost" "[I") (by decide +kernel)) rfl dX9_copyFrom_21 ?_
  refine lv_iconst (v := 0) hx hb dX9_copyFrom_24 (by decide) ?_
  refine lv_bipush (v := 6) hx hb dX9_copyFrom_25 (by decide) ?_
  have f_8 : ω_1.2 (u + 2) = some (.inl (G.2.1 0, 6, .inl h2)) := (fr_4 (u + 2) (by omega)).trans e2
  have f_9 : ω_1.2 (t + 2) = some (.inl (G.2.1 0, 6, .inl h)) := (fr_4 (t + 2) (by omega)).trans g2
  refine fw_copyi hx hb (hml.trans hl.1.symm) hown (index := 18) (hts (.methodLink RX9 18 arraycopyName) (by decide +kernel)) (hts (.native arraycopyName) (by decide +kernel)) (hts (.static arraycopyName) (by decide +kernel)) (hts (.initialized "java/lang/System") (by decide +kernel)) hK hR hS f_8 f_9 (by decide) (by decide) (by decide) (by decide) (by decide) (Nat.le_of_ble_eq_true rfl) (by decide) dX9_copyFrom_27 (fun H locs hR hS => ?_)
  have hR := hR.row (g := h2) (cpy_row rfl)
  obtain ⟨ω_10, hw_11⟩ : ∃ τ : FWd, τ = (ω_1.1, va_up ω_1.2 (t + 2) (some (.inl (G.2.1 0, 6, .inl h2)))) := ⟨_, rfl⟩
  have hR : fR G ω_10 H := by rw [hw_11]; exact hR
  have f_12 : ω_10.2 (t + 2) = some (.inl (G.2.1 0, 6, .inl h2)) := by rw [hw_11]; exact va_up_at
  have fr_13 : ∀ q : Nat, ¬ q = (t + 2) → ω_10.2 q = ω_1.2 q := fun q hq => by rw [hw_11]; exact va_up_off hq
  have z_14 : ω_10.1 = ω_1.1 := by rw [hw_11]
  have f_15 : ω_10.2 (t + 1) = some (.inl (G.2.1 0, 6, .inl f2)) := (fr_13 (t + 1) (by omega)).trans f_3
  have fr_16 : ∀ q : Nat, ¬ q = (t + 1) → ¬ q = (t + 2) → ω_10.2 q = ω.2 q := by
    intro q h0 h1
    rw [fr_13 q (by omega)]
    rw [fr_4 q (by omega)]
  have z_17 : ω_10.1 = ω.1 := by rw [z_14, z_5]
  refine fw_vret hx hb hr hlocks hR hS dX9_copyFrom_30 ⟨rfl, z_17, f_15, f_12, fr_16⟩
set_option maxHeartbeats 4000000 in
set_option maxRecDepth 100000 in
theorem c_X3_copyFrom (G : FG) (hL : FL G) (l : Launch) (ω : FWd) (a b : Nat) (x1 x2 y1 y2 : Int32) (h0 : ω.2 a = some (.inr (5, [.int x1, .int x2]))) (h1 : ω.2 b = some (.inr (5, [.int y1, .int y2]))) (hd : ¬ a = b) : FMet G l yX3_copyFrom wsX3_copyFrom ({ frames := 0, cells := 0, slots := 0, locals := 0 } : Room) [.ref a, .ref b] ω (fun vv9 τ9 => vv9 = none ∧ τ9.1 = ω.1 ∧ τ9.2 a = some (.inr (5, [.int y1, .int y2])) ∧ ∀ q : Nat, ¬ q = a → τ9.2 q = ω.2 q) 0 0 := by
  refine fw_ofW (cc := cX3_copyFrom) (maxL := 2) (ret := none) (by decide) rfl (Nat.le_of_ble_eq_true rfl) ?_
  intro pP eE sS mI ar9 bl9 meth cD ls hx hb hr hlocks hml hts hown hnm hW hR hl
  have hK := hL.K hW
  have hS : va_S (fwA G) sS.heap sS.heap [] := va_S.rf
  have hin3 : ∀ w ∈ u_ws RX3 TX3 2, w ∈ wsX3_copyFrom := by decide +kernel
  have hl : lv_has ls 2 [(0, .ref a), (1, .ref b)] := hl
  refine lv_aload_n hx hb dX3_copyFrom_0 rfl (lv_at hl 0 rfl) ?_
  refine lv_aload_n hx hb dX3_copyFrom_1 rfl (lv_at hl 1 rfl) ?_
  refine fw_get (v := .int y1) (C := RX3) (T := TX3) (N := 2) hx hb hts hin3 hown hK hR h1 rfl 0 (by decide) (hts (.fieldLink RX3 7 "UnreadLeaflets$Cousin" "boast" "I") (by decide +kernel)) rfl dX3_copyFrom_2 ?_
  refine fw_put (v := .int y1) (C := RX3) (T := TX3) (N := 2) hx hb hts hin3 tyX3 tyX3_ok nmX3 hown hK hR hS h0 rfl 0 (by decide) (hts (.fieldLink RX3 7 "UnreadLeaflets$Cousin" "boast" "I") (by decide +kernel)) rfl rfl rfl (Nat.le_of_ble_eq_true rfl) dX3_copyFrom_5 (fun H locs hR hS => ?_)
  obtain ⟨ω_1, hw_2⟩ : ∃ τ : FWd, τ = (ω.1, va_up ω.2 a (some (.inr (5, [.int y1, .int x2])))) := ⟨_, rfl⟩
  have hR : fR G ω_1 H := by rw [hw_2]; exact hR
  have f_3 : ω_1.2 a = some (.inr (5, [.int y1, .int x2])) := by rw [hw_2]; exact va_up_at
  have fr_4 : ∀ q : Nat, ¬ q = a → ω_1.2 q = ω.2 q := fun q hq => by rw [hw_2]; exact va_up_off hq
  have z_5 : ω_1.1 = ω.1 := by rw [hw_2]
  refine lv_aload_n hx hb dX3_copyFrom_8 rfl (lv_at hl 0 rfl) ?_
  refine lv_aload_n hx hb dX3_copyFrom_9 rfl (lv_at hl 1 rfl) ?_
  have f_6 : ω_1.2 b = some (.inr (5, [.int y1, .int y2])) := (fr_4 b (by omega)).trans h1
  refine fw_get (v := .int y2) (C := RX3) (T := TX3) (N := 2) hx hb hts hin3 hown hK hR f_6 rfl 1 (by decide) (hts (.fieldLink RX3 13 "UnreadLeaflets$Cousin" "languages" "I") (by decide +kernel)) rfl dX3_copyFrom_10 ?_
  refine fw_put (v := .int y2) (C := RX3) (T := TX3) (N := 2) hx hb hts hin3 tyX3 tyX3_ok nmX3 hown hK hR hS f_3 rfl 1 (by decide) (hts (.fieldLink RX3 13 "UnreadLeaflets$Cousin" "languages" "I") (by decide +kernel)) rfl rfl rfl (Nat.le_of_ble_eq_true rfl) dX3_copyFrom_13 (fun H locs hR hS => ?_)
  obtain ⟨ω_7, hw_8⟩ : ∃ τ : FWd, τ = (ω_1.1, va_up ω_1.2 a (some (.inr (5, [.int y1, .int y2])))) := ⟨_, rfl⟩
  have hR : fR G ω_7 H := by rw [hw_8]; exact hR
  have f_9 : ω_7.2 a = some (.inr (5, [.int y1, .int y2])) := by rw [hw_8]; exact va_up_at
  have fr_10 : ∀ q : Nat, ¬ q = a → ω_7.2 q = ω_1.2 q := fun q hq => by rw [hw_8]; exact va_up_off hq
  have z_11 : ω_7.1 = ω_1.1 := by rw [hw_8]
  have fr_12 : ∀ q : Nat, ¬ q = a → ω_7.2 q = ω.2 q := by
    intro q h0
    rw [fr_10 q (by omega)]
    rw [fr_4 q (by omega)]
  have z_13 : ω_7.1 = ω.1 := by rw [z_11, z_5]
  refine fw_vret hx hb hr hlocks hR hS dX3_copyFrom_16 ⟨rfl, z_13, f_9, fr_12⟩
set_option maxHeartbeats 4000000 in
set_option maxRecDepth 100000 in
theorem c_X5_copyFrom (G : FG) (hL : FL G) (l : Launch) (ω : FWd) (a k : Nat) (v : Nat → Nat → Int32) (hf : LeafS G ω.2 a v k) (b k2 : Nat) (v2 : Nat → Nat → Int32) (hg : LeafS G ω.2 b v2 k2) (hd : a + 5 ≤ b ∨ b + 5 ≤ a) : FMet G l yX5_copyFrom wsX5_copyFrom ({ frames := 1, cells := 0, slots := 0, locals := 60 } : Room) [.ref a, .ref b] ω (fun vv9 τ9 => vv9 = none ∧ τ9.1 = ω.1 ∧ τ9.2 a = some (.inr (7, [.int (v2 3 k2), .int (v2 4 k2), .int (v2 5 k2), .int (v2 6 k2 - 1), .int (v2 7 k2), .ref (a + 1), .ref (a + 2), .ref (a + 3), .ref (a + 4)])) ∧ τ9.2 (a + 1) = some (.inl (G.2.1 0, 8, .inl (v2 (10 + k2)))) ∧ τ9.2 (a + 2) = some (.inl (G.2.1 0, 8, .inl (v2 (20 + k2)))) ∧ τ9.2 (a + 3) = some (.inl (G.2.1 0, 8, .inl (v2 (30 + k2)))) ∧ τ9.2 (a + 4) = some (.inl (G.2.1 0, 8, .inl (fun i9 => v2 (40 + k2) i9 + 1))) ∧ ∀ q : Nat, ¬ q = a → ¬ q = (a + 1) → ¬ q = (a + 2) → ¬ q = (a + 3) → ¬ q = (a + 4) → τ9.2 q = ω.2 q) 0 0 := by
  refine fw_ofW (cc := cX5_copyFrom) (maxL := 2) (ret := none) (by decide) rfl (Nat.le_of_ble_eq_true rfl) ?_
  intro pP eE sS mI ar9 bl9 meth cD ls hx hb hr hlocks hml hts hown hnm hW hR hl
  have hK := hL.K hW
  have hS : va_S (fwA G) sS.heap sS.heap [] := va_S.rf
  have hin5 : ∀ w ∈ u_ws RX5 TX5 9, w ∈ wsX5_copyFrom := by decide +kernel
  have hl : lv_has ls 2 [(0, .ref a), (1, .ref b)] := hl
  obtain ⟨h0, h1, h2, h3, h4⟩ := id hf
  obtain ⟨e0, e1, e2, e3, e4⟩ := id hg
  refine lv_aload_n hx hb dX5_copyFrom_0 rfl (lv_at hl 0 rfl) ?_
  refine lv_aload_n hx hb dX5_copyFrom_1 rfl (lv_at hl 1 rfl) ?_
  refine fw_get (v := .int (v2 3 k2)) (C := RX5) (T := TX5) (N := 9) hx hb hts hin5 hown hK hR e0 rfl 0 (by decide) (hts (.fieldLink RX5 24 "UnreadLeaflets$Leaflet" "steps" "I") (by decide +kernel)) rfl dX5_copyFrom_2 ?_
  refine fw_put (v := .int (v2 3 k2)) (C := RX5) (T := TX5) (N := 9) hx hb hts hin5 tyX5 tyX5_ok nmX5 hown hK hR hS h0 rfl 0 (by decide) (hts (.fieldLink RX5 24 "UnreadLeaflets$Leaflet" "steps" "I") (by decide +kernel)) rfl rfl rfl (Nat.le_of_ble_eq_true rfl) dX5_copyFrom_5 (fun H locs hR hS => ?_)
  obtain ⟨ω_1, hw_2⟩ : ∃ τ : FWd, τ = (ω.1, va_up ω.2 a (some (.inr (7, [.int (v2 3 k2), .int (v 4 k), .int (v 5 k), .int (v 6 k - 1), .int (v 7 k), .ref (a + 1), .ref (a + 2), .ref (a + 3), .ref (a + 4)])))) := ⟨_, rfl⟩
  have hR : fR G ω_1 H := by rw [hw_2]; exact hR
  have f_3 : ω_1.2 a = some (.inr (7, [.int (v2 3 k2), .int (v 4 k), .int (v 5 k), .int (v 6 k - 1), .int (v 7 k), .ref (a + 1), .ref (a + 2), .ref (a + 3), .ref (a + 4)])) := by rw [hw_2]; exact va_up_at
  have fr_4 : ∀ q : Nat, ¬ q = a → ω_1.2 q = ω.2 q := fun q hq => by rw [hw_2]; exact va_up_off hq
  have z_5 : ω_1.1 = ω.1 := by rw [hw_2]
  refine lv_aload_n hx hb dX5_copyFrom_8 rfl (lv_at hl 0 rfl) ?_
  refine lv_aload_n hx hb dX5_copyFrom_9 rfl (lv_at hl 1 rfl) ?_
  have f_6 : ω_1.2 b = some (.inr (7, [.int (v2 3 k2), .int (v2 4 k2), .int (v2 5 k2), .int (v2 6 k2 - 1), .int (v2 7 k2), .ref (b + 1), .ref (b + 2), .ref (b + 3), .ref (b + 4)])) := (fr_4 b (by omega)).trans e0
  refine fw_get (v := .int (v2 4 k2)) (C := RX5) (T := TX5) (N := 9) hx hb hts hin5 hown hK hR f_6 rfl 1 (by decide) (hts (.fieldLink RX5 28 "UnreadLeaflets$Leaflet" "folds" "I") (by decide +kernel)) rfl dX5_copyFrom_10 ?_
  refine fw_put (v := .int (v2 4 k2)) (C := RX5) (T := TX5) (N := 9) hx hb hts hin5 tyX5 tyX5_ok nmX5 hown hK hR hS f_3 rfl 1 (by decide) (hts (.fieldLink RX5 28 "UnreadLeaflets$Leaflet" "folds" "I") (by decide +kernel)) rfl rfl rfl (Nat.le_of_ble_eq_true rfl) dX5_copyFrom_13 (fun H locs hR hS => ?_)
  obtain ⟨ω_7, hw_8⟩ : ∃ τ : FWd, τ = (ω_1.1, va_up ω_1.2 a (some (.inr (7, [.int (v2 3 k2), .int (v2 4 k2), .int (v 5 k), .int (v 6 k - 1), .int (v 7 k), .ref (a + 1), .ref (a + 2), .ref (a + 3), .ref (a + 4)])))) := ⟨_, rfl⟩
  have hR : fR G ω_7 H := by rw [hw_8]; exact hR
  have f_9 : ω_7.2 a = some (.inr (7, [.int (v2 3 k2), .int (v2 4 k2), .int (v 5 k), .int (v 6 k - 1), .int (v 7 k), .ref (a + 1), .ref (a + 2), .ref (a + 3), .ref (a + 4)])) := by rw [hw_8]; exact va_up_at
  have fr_10 : ∀ q : Nat, ¬ q = a → ω_7.2 q = ω_1.2 q := fun q hq => by rw [hw_8]; exact va_up_off hq
  have z_11 : ω_7.1 = ω_1.1 := by rw [hw_8]
  refine lv_aload_n hx hb dX5_copyFrom_16 rfl (lv_at hl 0 rfl) ?_
  refine lv_aload_n hx hb dX5_copyFrom_17 rfl (lv_at hl 1 rfl) ?_
  have f_12 : ω_7.2 b = some (.inr (7, [.int (v2 3 k2), .int (v2 4 k2), .int (v2 5 k2), .int (v2 6 k2 - 1), .int (v2 7 k2), .ref (b + 1), .ref (b + 2), .ref (b + 3), .ref (b + 4)])) := (fr_10 b (by omega)).trans f_6
  refine fw_get (v := .int (v2 5 k2)) (C := RX5) (T := TX5) (N := 9) hx hb hts hin5 hown hK hR f_12 rfl 2 (by decide) (hts (.fieldLink RX5 31 "UnreadLeaflets$Leaflet" "shelf" "I") (by decide +kernel)) rfl dX5_copyFrom_18 ?_
  refine fw_put (v := .int (v2 5 k2)) (C := RX5) (T := TX5) (N := 9) hx hb hts hin5 tyX5 tyX5_ok nmX5 hown hK hR hS f_9 rfl 2 (by decide) (hts (.fieldLink RX5 31 "UnreadLeaflets$Leaflet" "shelf" "I") (by decide +kernel)) rfl rfl rfl (Nat.le_of_ble_eq_true rfl) dX5_copyFrom_21 (fun H locs hR hS => ?_)
  obtain ⟨ω_13, hw_14⟩ : ∃ τ : FWd, τ = (ω_7.1, va_up ω_7.2 a (some (.inr (7, [.int (v2 3 k2), .int (v2 4 k2), .int (v2 5 k2), .int (v 6 k - 1), .int (v 7 k), .ref (a + 1), .ref (a + 2), .ref (a + 3), .ref (a + 4)])))) := ⟨_, rfl⟩
  have hR : fR G ω_13 H := by rw [hw_14]; exact hR
  have f_15 : ω_13.2 a = some (.inr (7, [.int (v2 3 k2), .int (v2 4 k2), .int (v2 5 k2), .int (v 6 k - 1), .int (v 7 k), .ref (a + 1), .ref (a + 2), .ref (a + 3), .ref (a + 4)])) := by rw [hw_14]; exact va_up_at
  have fr_16 : ∀ q : Nat, ¬ q = a → ω_13.2 q = ω_7.2 q := fun q hq => by rw [hw_14]; exact va_up_off hq
  have z_17 : ω_13.1 = ω_7.1 := by rw [hw_14]
  refine lv_aload_n hx hb dX5_copyFrom_24 rfl (lv_at hl 0 rfl) ?_
  refine lv_aload_n hx hb dX5_copyFrom_25 rfl (lv_at hl 1 rfl) ?_
  have f_18 : ω_13.2 b = some (.inr (7, [.int (v2 3 k2), .int (v2 4 k2), .int (v2 5 k2), .int (v2 6 k2 - 1), .int (v2 7 k2), .ref (b + 1), .ref (b + 2), .ref (b + 3), .ref (b + 4)])) := (fr_16 b (by omega)).trans f_12
  refine fw_get (v := .int (v2 6 k2 - 1)) (C := RX5) (T := TX5) (N := 9) hx hb hts hin5 hown hK hR f_18 rfl 3 (by decide) (hts (.fieldLink RX5 34 "UnreadLeaflets$Leaflet" "builder" "I") (by decide +kernel)) rfl dX5_copyFrom_26 ?_
  refine fw_put (v := .int (v2 6 k2 - 1)) (C := RX5) (T := TX5) (N := 9) hx hb hts hin5 tyX5 tyX5_ok nmX5 hown hK hR hS f_15 rfl 3 (by decide) (hts (.fieldLink RX5 34 "UnreadLeaflets$Leaflet" "builder" "I") (by decide +kernel)) rfl rfl rfl (Nat.le_of_ble_eq_true rfl) dX5_copyFrom_29 (fun H locs hR hS => ?_)
  obtain ⟨ω_19, hw_20⟩ : ∃ τ : FWd, τ = (ω_13.1, va_up ω_13.2 a (some (.inr (7, [.int (v2 3 k2), .int (v2 4 k2), .int (v2 5 k2), .int (v2 6 k2 - 1), .int (v 7 k), .ref (a + 1), .ref (a + 2), .ref (a + 3), .ref (a + 4)])))) := ⟨_, rfl⟩
  have hR : fR G ω_19 H := by rw [hw_20]; exact hR
  have f_21 : ω_19.2 a = some (.inr (7, [.int (v2 3 k2), .int (v2 4 k2), .int (v2 5 k2), .int (v2 6 k2 - 1), .int (v 7 k), .ref (a + 1), .ref (a + 2), .ref (a + 3), .ref (a + 4)])) := by rw [hw_20]; exact va_up_at
  have fr_22 : ∀ q : Nat, ¬ q = a → ω_19.2 q = ω_13.2 q := fun q hq => by rw [hw_20]; exact va_up_off hq
  have z_23 : ω_19.1 = ω_13.1 := by rw [hw_20]
  refine lv_aload_n hx hb dX5_copyFrom_32 rfl (lv_at hl 0 rfl) ?_
  refine lv_aload_n hx hb dX5_copyFrom_33 rfl (lv_at hl 1 rfl) ?_
  have f_24 : ω_19.2 b = some (.inr (7, [.int (v2 3 k2), .int (v2 4 k2), .int (v2 5 k2), .int (v2 6 k2 - 1), .int (v2 7 k2), .ref (b + 1), .ref (b + 2), .ref (b + 3), .ref (b + 4)])) := (fr_22 b (by omega)).trans f_18
  refine fw_get (v := .int (v2 7 k2)) (C := RX5) (T := TX5) (N := 9) hx hb hts hin5 hown hK hR f_24 rfl 4 (by decide) (hts (.fieldLink RX5 37 "UnreadLeaflets$Leaflet" "skipped" "I") (by decide +kernel)) rfl dX5_copyFrom_34 ?_
  refine fw_put (v := .int (v2 7 k2)) (C := RX5) (T := TX5) (N := 9) hx hb hts hin5 tyX5 tyX5_ok nmX5 hown hK hR hS f_21 rfl 4 (by decide) (hts (.fieldLink RX5 37 "UnreadLeaflets$Leaflet" "skipped" "I") (by decide +kernel)) rfl rfl rfl (Nat.le_of_ble_eq_true rfl) dX5_copyFrom_37 (fun H locs hR hS => ?_)
  obtain ⟨ω_25, hw_26⟩ : ∃ τ : FWd, τ = (ω_19.1, va_up ω_19.2 a (some (.inr (7, [.int (v2 3 k2), .int (v2 4 k2), .int (v2 5 k2), .int (v2 6 k2 - 1), .int (v2 7 k2), .ref (a + 1), .ref (a + 2), .ref (a + 3), .ref (a + 4)])))) := ⟨_, rfl⟩
  have hR : fR G ω_25 H := by rw [hw_26]; exact hR
  have f_27 : ω_25.2 a = some (.inr (7, [.int (v2 3 k2), .int (v2 4 k2), .int (v2 5 k2), .int (v2 6 k2 - 1), .int (v2 7 k2), .ref (a + 1), .ref (a + 2), .ref (a + 3), .ref (a + 4)])) := by rw [hw_26]; exact va_up_at
  have fr_28 : ∀ q : Nat, ¬ q = a → ω_25.2 q = ω_19.2 q := fun q hq => by rw [hw_26]; exact va_up_off hq
  have z_29 : ω_25.1 = ω_19.1 := by rw [hw_26]
  refine lv_aload_n hx hb dX5_copyFrom_40 rfl (lv_at hl 1 rfl) ?_
  have f_30 : ω_25.2 b = some (.inr (7, [.int (v2 3 k2), .int (v2 4 k2), .int (v2 5 k2), .int (v2 6 k2 - 1), .int (v2 7 k2), .ref (b + 1), .ref (b + 2), .ref (b + 3), .ref (b + 4)])) := (fr_28 b (by omega)).trans f_24
  refine fw_get (v := .ref (b + 1)) (C := RX5) (T := TX5) (N := 9) hx hb hts hin5 hown hK hR f_30 rfl 5 (by decide) (hts (.fieldLink RX5 9 "UnreadLeaflets$Leaflet" "kinds" "[I") (by decide +kernel)) rfl dX5_copyFrom_41 ?_
  refine lv_iconst (v := 0) hx hb dX5_copyFrom_44 (by decide) ?_
  refine lv_aload_n hx hb dX5_copyFrom_45 rfl (lv_at hl 0 rfl) ?_
  refine fw_get (v := .ref (a + 1)) (C := RX5) (T := TX5) (N := 9) hx hb hts hin5 hown hK hR f_27 rfl 5 (by decide) (hts (.fieldLink RX5 9 "UnreadLeaflets$Leaflet" "kinds" "[I") (by decide +kernel)) rfl dX5_copyFrom_46 ?_
  refine lv_iconst (v := 0) hx hb dX5_copyFrom_49 (by decide) ?_
  refine lv_bipush (v := 8) hx hb dX5_copyFrom_50 (by decide) ?_
  have f_31 : ω_1.2 (b + 1) = some (.inl (G.2.1 0, 8, .inl (v2 (10 + k2)))) := (fr_4 (b + 1) (by omega)).trans e1
  have f_32 : ω_7.2 (b + 1) = some (.inl (G.2.1 0, 8, .inl (v2 (10 + k2)))) := (fr_10 (b + 1) (by omega)).trans f_31
  have f_33 : ω_13.2 (b + 1) = some (.inl (G.2.1 0, 8, .inl (v2 (10 + k2)))) := (fr_16 (b + 1) (by omega)).trans f_32
  have f_34 : ω_19.2 (b + 1) = some (.inl (G.2.1 0, 8, .inl (v2 (10 + k2)))) := (fr_22 (b + 1) (by omega)).trans f_33
  have f_35 : ω_25.2 (b + 1) = some (.inl (G.2.1 0, 8, .inl (v2 (10 + k2)))) := (fr_28 (b + 1) (by omega)).trans f_34
  have f_36 : ω_1.2 (a + 1) = some (.inl (G.2.1 0, 8, .inl (v (10 + k)))) := (fr_4 (a + 1) (by omega)).trans h1
  have f_37 : ω_7.2 (a + 1) = some (.inl (G.2.1 0, 8, .inl (v (10 + k)))) := (fr_10 (a + 1) (by omega)).trans f_36
  have f_38 : ω_13.2 (a + 1) = some (.inl (G.2.1 0, 8, .inl (v (10 + k)))) := (fr_16 (a + 1) (by omega)).trans f_37
  have f_39 : ω_19.2 (a + 1) = some (.inl (G.2.1 0, 8, .inl (v (10 + k)))) := (fr_22 (a + 1) (by omega)).trans f_38
  have f_40 : ω_25.2 (a + 1) = some (.inl (G.2.1 0, 8, .inl (v (10 + k)))) := (fr_28 (a + 1) (by omega)).trans f_39
  refine fw_copyi hx hb (hml.trans hl.1.symm) hown (index := 40) (hts (.methodLink RX5 40 arraycopyName) (by decide +kernel)) (hts (.native arraycopyName) (by decide +kernel)) (hts (.static arraycopyName) (by decide +kernel)) (hts (.initialized "java/lang/System") (by decide +kernel)) hK hR hS f_35 f_40 (by decide) (by decide) (by decide) (by decide) (by decide) (Nat.le_of_ble_eq_true rfl) (by decide) dX5_copyFrom_52 (fun H locs hR hS => ?_)
  have hR := hR.row (g := (v2 (10 + k2))) (cpy_row rfl)
  obtain ⟨ω_41, hw_42⟩ : ∃ τ : FWd, τ = (ω_25.1, va_up ω_25.2 (a + 1) (some (.inl (G.2.1 0, 8, .inl (v2 (10 + k2)))))) := ⟨_, rfl⟩
  have hR : fR G ω_41 H := by rw [hw_42]; exact hR
  have f_43 : ω_41.2 (a + 1) = some (.inl (G.2.1 0, 8, .inl (v2 (10 + k2)))) := by rw [hw_42]; exact va_up_at
  have fr_44 : ∀ q : Nat, ¬ q = (a + 1) → ω_41.2 q = ω_25.2 q := fun q hq => by rw [hw_42]; exact va_up_off hq
  have z_45 : ω_41.1 = ω_25.1 := by rw [hw_42]
  refine lv_aload_n hx hb dX5_copyFrom_55 rfl (lv_at hl 1 rfl) ?_
  have f_46 : ω_41.2 b = some (.inr (7, [.int (v2 3 k2), .int (v2 4 k2), .int (v2 5 k2), .int (v2 6 k2 - 1), .int (v2 7 k2), .ref (b + 1), .ref (b + 2), .ref (b + 3), .ref (b + 4)])) := (fr_44 b (by omega)).trans f_30
  refine fw_get (v := .ref (b + 2)) (C := RX5) (T := TX5) (N := 9) hx hb hts hin5 hown hK hR f_46 rfl 6 (by decide) (hts (.fieldLink RX5 15 "UnreadLeaflets$Leaflet" "parts" "[I") (by decide +kernel)) rfl dX5_copyFrom_56 ?_
  refine lv_iconst (v := 0) hx hb dX5_copyFrom_59 (by decide) ?_
  refine lv_aload_n hx hb dX5_copyFrom_60 rfl (lv_at hl 0 rfl) ?_
  have f_47 : ω_41.2 a = some (.inr (7, [.int (v2 3 k2), .int (v2 4 k2), .int (v2 5 k2), .int (v2 6 k2 - 1), .int (v2 7 k2), .ref (a + 1), .ref (a + 2), .ref (a + 3), .ref (a + 4)])) := (fr_44 a (by omega)).trans f_27
  refine fw_get (v := .ref (a + 2)) (C := RX5) (T := TX5) (N := 9) hx hb hts hin5 hown hK hR f_47 rfl 6 (by decide) (hts (.fieldLink RX5 15 "UnreadLeaflets$Leaflet" "parts" "[I") (by decide +kernel)) rfl dX5_copyFrom_61 ?_
  refine lv_iconst (v := 0) hx hb dX5_copyFrom_64 (by decide) ?_
  refine lv_bipush (v := 8) hx hb dX5_copyFrom_65 (by decide) ?_
  have f_48 : ω_1.2 (b + 2) = some (.inl (G.2.1 0, 8, .inl (v2 (20 + k2)))) := (fr_4 (b + 2) (by omega)).trans e2
  have f_49 : ω_7.2 (b + 2) = some (.inl (G.2.1 0, 8, .inl (v2 (20 + k2)))) := (fr_10 (b + 2) (by omega)).trans f_48
  have f_50 : ω_13.2 (b + 2) = some (.inl (G.2.1 0, 8, .inl (v2 (20 + k2)))) := (fr_16 (b + 2) (by omega)).trans f_49
  have f_51 : ω_19.2 (b + 2) = some (.inl (G.2.1 0, 8, .inl (v2 (20 + k2)))) := (fr_22 (b + 2) (by omega)).trans f_50
  have f_52 : ω_25.2 (b + 2) = some (.inl (G.2.1 0, 8, .inl (v2 (20 + k2)))) := (fr_28 (b + 2) (by omega)).trans f_51
  have f_53 : ω_41.2 (b + 2) = some (.inl (G.2.1 0, 8, .inl (v2 (20 + k2)))) := (fr_44 (b + 2) (by omega)).trans f_52
  have f_54 : ω_1.2 (a + 2) = some (.inl (G.2.1 0, 8, .inl (v (20 + k)))) := (fr_4 (a + 2) (by omega)).trans h2
  have f_55 : ω_7.2 (a + 2) = some (.inl (G.2.1 0, 8, .inl (v (20 + k)))) := (fr_10 (a + 2) (by omega)).trans f_54
  have f_56 : ω_13.2 (a + 2) = some (.inl (G.2.1 0, 8, .inl (v (20 + k)))) := (fr_16 (a + 2) (by omega)).trans f_55
  have f_57 : ω_19.2 (a + 2) = some (.inl (G.2.1 0, 8, .inl (v (20 + k)))) := (fr_22 (a + 2) (by omega)).trans f_56
  have f_58 : ω_25.2 (a + 2) = some (.inl (G.2.1 0, 8, .inl (v (20 + k)))) := (fr_28 (a + 2) (by omega)).trans f_57
  have f_59 : ω_41.2 (a + 2) = some (.inl (G.2.1 0, 8, .inl (v (20 + k)))) := (fr_44 (a + 2) (by omega)).trans f_58
  refine fw_copyi hx hb (hml.trans hl.1.symm) hown (index := 40) (hts (.methodLink RX5 40 arraycopyName) (by decide +kernel)) (hts (.native arraycopyName) (by decide +kernel)) (hts (.static arraycopyName) (by decide +kernel)) (hts (.initialized "java/lang/System") (by decide +kernel)) hK hR hS f_53 f_59 (by decide) (by decide) (by decide) (by decide) (by decide) (Nat.le_of_ble_eq_true rfl) (by decide) dX5_copyFrom_67 (fun H locs hR hS => ?_)
  have hR := hR.row (g := (v2 (20 + k2))) (cpy_row rfl)
  obtain ⟨ω_60, hw_61⟩ : ∃ τ : FWd, τ = (ω_41.1, va_up ω_41.2 (a + 2) (some (.inl (G.2.1 0, 8, .inl (v2 (20 + k2)))))) := ⟨_, rfl⟩
  have hR : fR G ω_60 H := by rw [hw_61]; exact hR
  have f_62 : ω_60.2 (a + 2) = some (.inl (G.2.1 0, 8, .inl (v2 (20 + k2)))) := by rw [hw_61]; exact va_up_at
  have fr_63 : ∀ q : Nat, ¬ q = (a + 2) → ω_60.2 q = ω_41.2 q := fun q hq => by rw [hw_61]; exact va_up_off hq
  have z_64 : ω_60.1 = ω_41.1 := by rw [hw_61]
  refine lv_aload_n hx hb dX5_copyFrom_70 rfl (lv_at hl 1 rfl) ?_
  have f_65 : ω_60.2 b = some (.inr (7, [.int (v2 3 k2), .int (v2 4 k2), .int (v2 5 k2), .int (v2 6 k2 - 1), .int (v2 7 k2), .ref (b + 1), .ref (b + 2), .ref (b + 3), .ref (b + 4)])) := (fr_63 b (by omega)).trans f_46
  refine fw_get (v := .ref (b + 3)) (C := RX5) (T := TX5) (N := 9) hx hb hts hin5 hown hK hR f_65 rfl 7 (by decide) (hts (.fieldLink RX5 18 "UnreadLeaflets$Leaflet" "languages" "[I") (by decide +kernel)) rfl dX5_copyFrom_71 ?_
  refine lv_iconst (v := 0) hx hb dX5_copyFrom_74 (by decide) ?_
  refine lv_aload_n hx hb dX5_copyFrom_75 rfl (lv_at hl 0 rfl) ?_
  have f_66 : ω_60.2 a = some (.inr (7, [.int (v2 3 k2), .int (v2 4 k2), .int (v2 5 k2), .int (v2 6 k2 - 1), .int (v2 7 k2), .ref (a + 1), .ref (a + 2), .ref (a + 3), .ref (a + 4)])) := (fr_63 a (by omega)).trans f_47
  refine fw_get (v := .ref (a + 3)) (C := RX5) (T := TX5) (N := 9) hx hb hts hin5 hown hK hR f_66 rfl 7 (by decide) (hts (.fieldLink RX5 18 "UnreadLeaflets$Leaflet" "languages" "[I") (by decide +kernel)) rfl dX5_copyFrom_76 ?_
  refine lv_iconst (v := 0) hx hb dX5_copyFrom_79 (by decide) ?_
  refine lv_bipush (v := 8) hx hb dX5_copyFrom_80 (by decide) ?_
  have f_67 : ω_1.2 (b + 3) = some (.inl (G.2.1 0, 8, .inl (v2 (30 + k2)))) := (fr_4 (b + 3) (by omega)).trans e3
  have f_68 : ω_7.2 (b + 3) = some (.inl (G.2.1 0, 8, .inl (v2 (30 + k2)))) := (fr_10 (b + 3) (by omega)).trans f_67
  have f_69 : ω_13.2 (b + 3) = some (.inl (G.2.1 0, 8, .inl (v2 (30 + k2)))) := (fr_16 (b + 3) (by omega)).trans f_68
  have f_70 : ω_19.2 (b + 3) = some (.inl (G.2.1 0, 8, .inl (v2 (30 + k2)))) := (fr_22 (b + 3) (by omega)).trans f_69
  have f_71 : ω_25.2 (b + 3) = some (.inl (G.2.1 0, 8, .inl (v2 (30 + k2)))) := (fr_28 (b + 3) (by omega)).trans f_70
  have f_72 : ω_41.2 (b + 3) = some (.inl (G.2.1 0, 8, .inl (v2 (30 + k2)))) := (fr_44 (b + 3) (by omega)).trans f_71
  have f_73 : ω_60.2 (b + 3) = some (.inl (G.2.1 0, 8, .inl (v2 (30 + k2)))) := (fr_63 (b + 3) (by omega)).trans f_72
  have f_74 : ω_1.2 (a + 3) = some (.inl (G.2.1 0, 8, .inl (v (30 + k)))) := (fr_4 (a + 3) (by omega)).trans h3
  have f_75 : ω_7.2 (a + 3) = some (.inl (G.2.1 0, 8, .inl (v (30 + k)))) := (fr_10 (a + 3) (by omega)).trans f_74
  have f_76 : ω_13.2 (a + 3) = some (.inl (G.2.1 0, 8, .inl (v (30 + k)))) := (fr_16 (a + 3) (by omega)).trans f_75
  have f_77 : ω_19.2 (a + 3) = some (.inl (G.2.1 0, 8, .inl (v (30 + k)))) := (fr_22 (a + 3) (by omega)).trans f_76
  have f_78 : ω_25.2 (a + 3) = some (.inl (G.2.1 0, 8, .inl (v (30 + k)))) := (fr_28 (a + 3) (by omega)).trans f_77
  have f_79 : ω_41.2 (a + 3) = some (.inl (G.2.1 0, 8, .inl (v (30 + k)))) := (fr_44 (a + 3) (by omega)).trans f_78
  have f_80 : ω_60.2 (a + 3) = some (.inl (G.2.1 0, 8, .inl (v (30 + k)))) := (fr_63 (a + 3) (by omega)).trans f_79
  refine fw_copyi hx hb (hml.trans hl.1.symm) hown (index := 40) (hts (.methodLink RX5 40 arraycopyName) (by decide +kernel)) (hts (.native arraycopyName) (by decide +kernel)) (hts (.static arraycopyName) (by decide +kernel)) (hts (.initialized "java/lang/System") (by decide +kernel)) hK hR hS f_73 f_80 (by decide) (by decide) (by decide) (by decide) (by decide) (Nat.le_of_ble_eq_true rfl) (by decide) dX5_copyFrom_82 (fun H locs hR hS => ?_)
  have hR := hR.row (g := (v2 (30 + k2))) (cpy_row rfl)
  obtain ⟨ω_81, hw_82⟩ : ∃ τ : FWd, τ = (ω_60.1, va_up ω_60.2 (a + 3) (some (.inl (G.2.1 0, 8, .inl (v2 (30 + k2)))))) := ⟨_, rfl⟩
  have hR : fR G ω_81 H := by rw [hw_82]; exact hR
  have f_83 : ω_81.2 (a + 3) = some (.inl (G.2.1 0, 8, .inl (v2 (30 + k2)))) := by rw [hw_82]; exact va_up_at
  have fr_84 : ∀ q : Nat, ¬ q = (a + 3) → ω_81.2 q = ω_60.2 q := fun q hq => by rw [hw_82]; exact va_up_off hq
  have z_85 : ω_81.1 = ω_60.1 := by rw [hw_82]
  refine lv_aload_n hx hb dX5_copyFrom_85 rfl (lv_at hl 1 rfl) ?_
  have f_86 : ω_81.2 b = some (.inr (7, [.int (v2 3 k2), .int (v2 4 k2), .int (v2 5 k2), .int (v2 6 k2 - 1), .int (v2 7 k2), .ref (b + 1), .ref (b + 2), .ref (b + 3), .ref (b + 4)])) := (fr_84 b (by omega)).trans f_65
  refine fw_get (v := .ref (b + 4)) (C := RX5) (T := TX5) (N := 9) hx hb hts hin5 hown hK hR f_86 rfl 8 (by decide) (hts (.fieldLink RX5 21 "UnreadLeaflets$Leaflet" "sides" "[I") (by decide +kernel)) rfl dX5_copyFrom_86 ?_
  refine lv_iconst (v := 0) hx hb dX5_copyFrom_89 (by decide) ?_
  refine lv_aload_n hx hb dX5_copyFrom_90 rfl (lv_at hl 0 rfl) ?_
  have f_87 : ω_81.2 a = some (.inr (7, [.int (v2 3 k2), .int (v2 4 k2), .int (v2 5 k2), .int (v2 6 k2 - 1), .int (v2 7 k2), .ref (a + 1), .ref (a + 2), .ref (a + 3), .ref (a + 4)])) := (fr_84 a (by omega)).trans f_66
  refine fw_get (v := .ref (a + 4)) (C := RX5) (T := TX5) (N := 9) hx hb hts hin5 hown hK hR f_87 rfl 8 (by decide) (hts (.fieldLink RX5 21 "UnreadLeaflets$Leaflet" "sides" "[I") (by decide +kernel)) rfl dX5_copyFrom_91 ?_
  refine lv_iconst (v := 0) hx hb dX5_copyFrom_94 (by decide) ?_
  refine lv_bipush (v := 8) hx hb dX5_copyFrom_95 (by decide) ?_
  have f_88 : ω_1.2 (b + 4) = some (.inl (G.2.1 0, 8, .inl (fun i9 => v2 (40 + k2) i9 + 1))) := (fr_4 (b + 4) (by omega)).trans e4
  have f_89 : ω_7.2 (b + 4) = some (.inl (G.2.1 0, 8, .inl (fun i9 => v2 (40 + k2) i9 + 1))) := (fr_10 (b + 4) (by omega)).trans f_88
  have f_90 : ω_13.2 (b + 4) = some (.inl (G.2.1 0, 8, .inl (fun i9 => v2 (40 + k2) i9 + 1))) := (fr_16 (b + 4) (by omega)).trans f_89
  have f_91 : ω_19.2 (b + 4) = some (.inl (G.2.1 0, 8, .inl (fun i9 => v2 (40 + k2) i9 + 1))) := (fr_22 (b + 4) (by omega)).trans f_90
  have f_92 : ω_25.2 (b + 4) = some (.inl (G.2.1 0, 8, .inl (fun i9 => v2 (40 + k2) i9 + 1))) := (fr_28 (b + 4) (by omega)).trans f_91
  have f_93 : ω_41.2 (b + 4) = some (.inl (G.2.1 0, 8, .inl (fun i9 => v2 (40 + k2) i9 + 1))) := (fr_44 (b + 4) (by omega)).trans f_92
  have f_94 : ω_60.2 (b + 4) = some (.inl (G.2.1 0, 8, .inl (fun i9 => v2 (40 + k2) i9 + 1))) := (fr_63 (b + 4) (by omega)).trans f_93
  have f_95 : ω_81.2 (b + 4) = some (.inl (G.2.1 0, 8, .inl (fun i9 => v2 (40 + k2) i9 + 1))) := (fr_84 (b + 4) (by omega)).trans f_94
  have f_96 : ω_1.2 (a + 4) = some (.inl (G.2.1 0, 8, .inl (fun i9 => v (40 + k) i9 + 1))) := (fr_4 (a + 4) (by omega)).trans h4
  have f_97 : ω_7.2 (a + 4) = some (.inl (G.2.1 0, 8, .inl (fun i9 => v (40 + k) i9 + 1))) := (fr_10 (a + 4) (by omega)).trans f_96
  have f_98 : ω_13.2 (a + 4) = some (.inl (G.2.1 0, 8, .inl (fun i9 => v (40 + k) i9 + 1))) := (fr_16 (a + 4) (by omega)).trans f_97
  have f_99 : ω_19.2 (a + 4) = some (.inl (G.2.1 0, 8, .inl (fun i9 => v (40 + k) i9 + 1))) := (fr_22 (a + 4) (by omega)).trans f_98
  have f_100 : ω_25.2 (a + 4) = some (.inl (G.2.1 0, 8, .inl (fun i9 => v (40 + k) i9 + 1))) := (fr_28 (a + 4) (by omega)).trans f_99
  have f_101 : ω_41.2 (a + 4) = some (.inl (G.2.1 0, 8, .inl (fun i9 => v (40 + k) i9 + 1))) := (fr_44 (a + 4) (by omega)).trans f_100
  have f_102 : ω_60.2 (a + 4) = some (.inl (G.2.1 0, 8, .inl (fun i9 => v (40 + k) i9 + 1))) := (fr_63 (a + 4) (by omega)).trans f_101
  have f_103 : ω_81.2 (a + 4) = some (.inl (G.2.1 0, 8, .inl (fun i9 => v (40 + k) i9 + 1))) := (fr_84 (a + 4) (by omega)).trans f_102
  refine fw_copyi hx hb (hml.trans hl.1.symm) hown (index := 40) (hts (.methodLink RX5 40 arraycopyName) (by decide +kernel)) (hts (.native arraycopyName) (by decide +kernel)) (hts (.static arraycopyName) (by decide +kernel)) (hts (.initialized "java/lang/System") (by decide +kernel)) hK hR hS f_95 f_103 (by decide) (by decide) (by decide) (by decide) (by decide) (Nat.le_of_ble_eq_true rfl) (by decide) dX5_copyFrom_97 (fun H locs hR hS => ?_)
  have hR := hR.row (g := (fun i9 => v2 (40 + k2) i9 + 1)) (cpy_row rfl)
  obtain ⟨ω_104, hw_105⟩ : ∃ τ : FWd, τ = (ω_81.1, va_up ω_81.2 (a + 4) (some (.inl (G.2.1 0, 8, .inl (fun i9 => v2 (40 + k2) i9 + 1))))) := ⟨_, rfl⟩
  have hR : fR G ω_104 H := by rw [hw_105]; exact hR
  have f_106 : ω_104.2 (a + 4) = some (.inl (G.2.1 0, 8, .inl (fun i9 => v2 (40 + k2) i9 + 1))) := by rw [hw_105]; exact va_up_at
  have fr_107 : ∀ q : Nat, ¬ q = (a + 4) → ω_104.2 q = ω_81.2 q := fun q hq => by rw [hw_105]; exact va_up_off hq
  have z_108 : ω_104.1 = ω_81.1 := by rw [hw_105]
  have f_109 : ω_104.2 a = some (.inr (7, [.int (v2 3 k2), .int (v2 4 k2), .int (v2 5 k2), .int (v2 6 k2 - 1), .int (v2 7 k2), .ref (a + 1), .ref (a + 2), .ref (a + 3), .ref (a + 4)])) := (fr_107 a (by omega)).trans f_87
  have f_110 : ω_60.2 (a + 1) = some (.inl (G.2.1 0, 8, .inl (v2 (10 + k2)))) := (fr_63 (a + 1) (by omega)).trans f_43
  have f_111 : ω_81.2 (a + 1) = some (.inl (G.2.1 0, 8, .inl (v2 (10 + k2)))) := (fr_84 (a + 1) (by omega)).trans f_110
  have f_112 : ω_104.2 (a + 1) = some (.inl (G.2.1 0, 8, .inl (v2 (10 + k2)))) := (fr_107 (a + 1) (by omega)).trans f_111
  have f_113 : ω_81.2 (a + 2) = some (.inl (G.2.1 0, 8, .inl (v2 (20 + k2)))) := (fr_84 (a + 2) (by omega)).trans f_62
  have f_114 : ω_104.2 (a + 2) = some (.inl (G.2.1 0, 8, .inl (v2 (20 + k2)))) := (fr_107 (a + 2) (by omega)).trans f_113
  have f_115 : ω_104.2 (a + 3) = some (.inl (G.2.1 0, 8, .inl (v2 (30 + k2)))) := (fr_107 (a + 3) (by omega)).trans f_83
  have fr_116 : ∀ q : Nat, ¬ q = a → ¬ q = (a + 1) → ¬ q = (a + 2) → ¬ q = (a + 3) → ¬ q = (a + 4) → ω_104.2 q = ω.2 q := by
    intro q h0 h1 h2 h3 h4
    rw [fr_107 q (by omega)]
    rw [fr_84 q (by omega)]
    rw [fr_63 q (by omega)]
    rw [fr_44 q (by omega)]
    rw [fr_28 q (by omega)]
    rw [fr_22 q (by omega)]
    rw [fr_16 q (by omega)]
    rw [fr_10 q (by omega)]
    rw [fr_4 q (by omega)]
  have z_117 : ω_104.1 = ω.1 := by rw [z_108, z_85, z_64, z_45, z_29, z_23, z_17, z_11, z_5]
  refine fw_vret hx hb hr hlocks hR hS dX5_copyFrom_100 ⟨rfl, z_117, f_109, f_112, f_114, f_115, f_106, fr_116⟩
set_option maxHeartbeats 4000000 in
set_option maxRecDepth 100000 in
theorem c_X0_copyFrom (G : FG) (hL : FL G) (l : Launch) (ω : FWd) (a b : Nat) (v v2 : Nat → Nat → Int32) (hA : ArcS G ω.2 a v) (hB : ArcS G ω.2 b v2) (hab : a + 51 ≤ b ∨ b + 51 ≤ a) (hW2 : WF v2) : FMet G l yX0_copyFrom wsX0_copyFrom ({ frames := 2, cells := 0, slots := 0, locals := 81 } : Room) [.ref a, .ref b] ω (fun vv9 τ9 => vv9 = none ∧ τ9.1 = ω.1 ∧ (∃ w9, ArcS G τ9.2 a w9 ∧ Live w9 v2) ∧ ∀ q : Nat, (q < a ∨ a + 51 ≤ q) → τ9.2 q = ω.2 q) 0 0 := by
  refine fw_ofW (cc := cX0_copyFrom) (maxL := 3) (ret := none) (by decide) rfl (Nat.le_of_ble_eq_true rfl) ?_
  intro pP eE sS mI ar9 bl9 meth cD ls hx hb hr hlocks hml hts hown hnm hW hR hl
  have hK := hL.K hW
  have hS : va_S (fwA G) sS.heap sS.heap [] := va_S.rf
  have hin0 : ∀ w ∈ u_ws RX0 TX0 9, w ∈ wsX0_copyFrom := by decide +kernel
  have hl : lv_has ls 3 [(0, .ref a), (1, .ref b)] := hl
  obtain ⟨c, hc8, hc, hcc⟩ := okN_of hW2.1
  obtain ⟨cc, hd5, hd, hdd⟩ := okN_of hW2.2.1
  refine lv_aload_n hx hb dX0_copyFrom_0 rfl (lv_at hl 0 rfl) ?_
  refine lv_aload_n hx hb dX0_copyFrom_1 rfl (lv_at hl 1 rfl) ?_
  have f_1 : ω.2 b = some (.inr (2, [.ref (b + 1), .int (v2 0 0), .ref (b + 2), .int (v2 0 1), .ref (b + 3), .int (v2 0 2), .int (v2 0 3), .int (v2 0 4), .int (v2 0 5)])) := hB.1
  refine fw_get (v := .int (v2 0 0)) (C := RX0) (T := TX0) (N := 9) hx hb hts hin0 hown hK hR f_1 rfl 1 (by decide) (hts (.fieldLink RX0 32 "UnreadLeaflets$Archive" "leafletCount" "I") (by decide +kernel)) rfl dX0_copyFrom_2 ?_
  have f_2 : ω.2 a = some (.inr (2, [.ref (a + 1), .int (v 0 0), .ref (a + 2), .int (v 0 1), .ref (a + 3), .int (v 0 2), .int (v 0 3), .int (v 0 4), .int (v 0 5)])) := hA.1
  refine fw_put (v := .int (v2 0 0)) (C := RX0) (T := TX0) (N := 9) hx hb hts hin0 tyX0 tyX0_ok nmX0 hown hK hR hS f_2 rfl 1 (by decide) (hts (.fieldLink RX0 32 "UnreadLeaflets$Archive" "leafletCount" "I") (by decide +kernel)) rfl rfl rfl (Nat.le_of_ble_eq_true rfl) dX0_copyFrom_5 (fun H locs hR hS => ?_)
  obtain ⟨ω_3, hw_4⟩ : ∃ τ : FWd, τ = (ω.1, va_up ω.2 a (some (.inr (2, [.ref (a + 1), .int (v2 0 0), .ref (a + 2), .int (v 0 1), .ref (a + 3), .int (v 0 2), .int (v 0 3), .int (v 0 4), .int (v 0 5)])))) := ⟨_, rfl⟩
  have hR : fR G ω_3 H := by rw [hw_4]; exact hR
  have f_5 : ω_3.2 a = some (.inr (2, [.ref (a + 1), .int (v2 0 0), .ref (a + 2), .int (v 0 1), .ref (a + 3), .int (v 0 2), .int (v 0 3), .int (v 0 4), .int (v 0 5)])) := by rw [hw_4]; exact va_up_at
  have fr_6 : ∀ q : Nat, ¬ q = a → ω_3.2 q = ω.2 q := fun q hq => by rw [hw_4]; exact va_up_off hq
  have z_7 : ω_3.1 = ω.1 := by rw [hw_4]
  refine lv_iconst (v := 0) hx hb dX0_copyFrom_8 (by decide) ?_
  refine lv_istore_n (lv' := [(2, .int 0), (0, .ref a), (1, .ref b)]) hx hb dX0_copyFrom_9 rfl hl (by decide) rfl (fun ls hl => ?_)
  have loop_8 : ∀ (fu : Nat) (j : Nat) (w1 : Nat → Nat → Int32) (τ1 : FWd), (c - j) < fu → (j ≤ c) → (ArcS G τ1.2 a w1) → (w1 0 0 = v2 0 0) → (∀ i, i < j → LeafEq w1 v2 i) → τ1.1 = ω_3.1 → (∀ q : Nat, (q < a ∨ a + 51 ≤ q) → τ1.2 q = ω_3.2 q) → ∀ (H : Heap) (locs : List Loc) (ls : Array Slot), fR G τ1 H → va_S (fwA G) sS.heap H locs → lv_has ls 3 [(2, .int (nI j)), (0, .ref a), (1, .ref b)] → W pP l eE ({ frames := 2, cells := 0, slots := 0, locals := 81 } : Room) sS mI ar9 bl9 meth cD H locs 0 0 (MQ bl9 (fQ G (fun vv9 τ9 => vv9 = none ∧ τ9.1 = ω.1 ∧ (∃ w9, ArcS G τ9.2 a w9 ∧ Live w9 v2) ∧ ∀ q : Nat, (q < a ∨ a + 51 ≤ q) → τ9.2 q = ω.2 q)) ar9 sS 0 0 (fwA G)) (F0 mI 10 ls []) := by
    intro fu
    induction fu with
    | zero => intro j w1 τ1 hfu; exact absurd hfu (Nat.not_lt_zero _)
    | succ fu ih =>
      intro j w1 τ1 hfu hj hAw hw0 hwl hzτ1  hfrτ1 H locs ls hR hS hl
      refine lv_iload_n hx hb dX0_copyFrom_10 rfl (lv_at hl 0 rfl) ?_
      refine lv_aload_n hx hb dX0_copyFrom_11 rfl (lv_at hl 1 rfl) ?_
      have f_9 : τ1.2 a = some (.inr (2, [.ref (a + 1), .int (w1 0 0), .ref (a + 2), .int (w1 0 1), .ref (a + 3), .int (w1 0 2), .int (w1 0 3), .int (w1 0 4), .int (w1 0 5)])) := hAw.1
      refine fw_get (v := .int (w1 0 0)) (C := RX0) (T := TX0) (N := 9) hx hb hts hin0 hown hK hR f_9 rfl 1 (by decide) (hts (.fieldLink RX0 32 "UnreadLeaflets$Archive" "leafletCount" "I") (by decide +kernel)) rfl dX0_copyFrom_12 ?_
      refine lv_icmp_ge (tgt := 39) hx hb dX0_copyFrom_15 (by decide) (fun c_10 => ?_) (fun c_10 => ?_)
      · skip
        have hj2 := lp_ge (hw0.trans hc) c_10 (by omega) (by omega)
        have hjn : j = c := by omega
        refine lv_aload_n hx hb dX0_copyFrom_39 rfl (lv_at hl 1 rfl) ?_
        refine lv_aload_n hx hb dX0_copyFrom_40 rfl (lv_at hl 2 rfl) ?_
        have f_11 : ω_3.2 b = some (.inr (2, [.ref (b + 1), .int (v2 0 0), .ref (b + 2), .int (v2 0 1), .ref (b + 3), .int (v2 0 2), .int (v2 0 3), .int (v2 0 4), .int (v2 0 5)])) := (fr_6 b (by omega)).trans f_1
        have f_12 : τ1.2 b = some (.inr (2, [.ref (b + 1), .int (v2 0 0), .ref (b + 2), .int (v2 0 1), .ref (b + 3), .int (v2 0 2), .int (v2 0 3), .int (v2 0 4), .int (v2 0 5)])) := (hfrτ1 b (by omega)).trans f_11
        refine fw_get (v := .int (v2 0 1)) (C := RX0) (T := TX0) (N := 9) hx hb hts hin0 hown hK hR f_12 rfl 3 (by decide) (hts (.fieldLink RX0 40 "UnreadLeaflets$Archive" "cousinCount" "I") (by decide +kernel)) rfl dX0_copyFrom_41 ?_
        refine fw_put (v := .int (v2 0 1)) (C := RX0) (T := TX0) (N := 9) hx hb hts hin0 tyX0 tyX0_ok nmX0 hown hK hR hS f_9 rfl 3 (by decide) (hts (.fieldLink RX0 40 "UnreadLeaflets$Archive" "cousinCount" "I") (by decide +kernel)) rfl rfl rfl (Nat.le_of_ble_eq_true rfl) dX0_copyFrom_44 (fun H locs hR hS => ?_)
        obtain ⟨ω_13, hw_14⟩ : ∃ τ : FWd, τ = (τ1.1, va_up τ1.2 a (some (.inr (2, [.ref (a + 1), .int (w1 0 0), .ref (a + 2), .int (v2 0 1), .ref (a + 3), .int (w1 0 2), .int (w1 0 3), .int (w1 0 4), .int (w1 0 5)])))) := ⟨_, rfl⟩
        have hR : fR G ω_13 H := by rw [hw_14]; exact hR
        have f_15 : ω_13.2 a = some (.inr (2, [.ref (a + 1), .int (w1 0 0), .ref (a + 2), .int (v2 0 1), .ref (a + 3), .int (w1 0 2), .int (w1 0 3), .int (w1 0 4), .int (w1 0 5)])) := by rw [hw_14]; exact va_up_at
        have fr_16 : ∀ q : Nat, ¬ q = a → ω_13.2 q = τ1.2 q := fun q hq => by rw [hw_14]; exact va_up_off hq
        have z_17 : ω_13.1 = τ1.1 := by rw [hw_14]
        refine lv_iconst (v := 0) hx hb dX0_copyFrom_47 (by decide) ?_
        refine lv_istore_n (lv' := [(2, .int 0), (0, .ref a), (1, .ref b)]) hx hb dX0_copyFrom_48 rfl hl (by decide) rfl (fun ls hl => ?_)
        have loop_18 : ∀ (fu : Nat) (i : Nat) (w2 : Nat → Nat → Int32) (τ2 : FWd), (cc - i) < fu → (i ≤ cc) → (ArcS G τ2.2 a w2) → (w2 0 0 = v2 0 0 ∧ w2 0 1 = v2 0 1) → (∀ i, i < c → LeafEq w2 v2 i) → (∀ k, k < i → w2 8 k = v2 8 k ∧ w2 9 k = v2 9 k) → τ2.1 = ω_13.1 → (∀ q : Nat, (q < a ∨ a + 51 ≤ q) → τ2.2 q = ω_13.2 q) → ∀ (H : Heap) (locs : List Loc) (ls : Array Slot), fR G τ2 H → va_S (fwA G) sS.heap H locs → lv_has ls 3 [(2, .int (nI i)), (0, .ref a), (1, .ref b)] → W pP l eE ({ frames := 2, cells := 0, slots := 0, locals := 81 } : Room) sS mI ar9 bl9 meth cD H locs 0 0 (MQ bl9 (fQ G (fun vv9 τ9 => vv9 = none ∧ τ9.1 = ω.1 ∧ (∃ w9, ArcS G τ9.2 a w9 ∧ Live w9 v2) ∧ ∀ q : Nat, (q < a ∨ a + 51 ≤ q) → τ9.2 q = ω.2 q)) ar9 sS 0 0 (fwA G)) (F0 mI 49 ls []) := by
          intro fu
          induction fu with
          | zero => intro i w2 τ2 hfu; exact absurd hfu (Nat.not_lt_zero _)
          | succ fu ih =>
            intro i w2 τ2 hfu hi hAz hz0 hzl hzc hzτ2  hfrτ2 H locs ls hR hS hl
            refine lv_iload_n hx hb dX0_copyFrom_49 rfl (lv_at hl 0 rfl) ?_
            refine lv_aload_n hx hb dX0_copyFrom_50 rfl (lv_at hl 1 rfl) ?_
            have f_19 : τ2.2 a = some (.inr (2, [.ref (a + 1), .int (w2 0 0), .ref (a + 2), .int (w2 0 1), .ref (a + 3), .int (w2 0 2), .int (w2 0 3), .int (w2 0 4), .int (w2 0 5)])) := hAz.1
            refine fw_get (v := .int (w2 0 1)) (C := RX0) (T := TX0) (N := 9) hx hb hts hin0 hown hK hR f_19 rfl 3 (by decide) (hts (.fieldLink RX0 40 "UnreadLeaflets$Archive" "cousinCount" "I") (by decide +kernel)) rfl dX0_copyFrom_51 ?_
            refine lv_icmp_ge (tgt := 78) hx hb dX0_copyFrom_54 (by decide) (fun c_20 => ?_) (fun c_20 => ?_)
            · skip
              have hi2 := lp_ge (hz0.2.trans hd) c_20 (by omega) (by omega)
              have hin : i = cc := by omega
              refine lv_aload_n hx hb dX0_copyFrom_78 rfl (lv_at hl 1 rfl) ?_
              refine fw_get (v := .ref (a + 3)) (C := RX0) (T := TX0) (N := 9) hx hb hts hin0 hown hK hR f_19 rfl 4 (by decide) (hts (.fieldLink RX0 26 "UnreadLeaflets$Archive" "tin" "LUnreadLeaflets$Tin;") (by decide +kernel)) rfl dX0_copyFrom_79 ?_
              refine lv_aload_n hx hb dX0_copyFrom_82 rfl (lv_at hl 2 rfl) ?_
              have f_21 : ω_13.2 b = some (.inr (2, [.ref (b + 1), .int (v2 0 0), .ref (b + 2), .int (v2 0 1), .ref (b + 3), .int (v2 0 2), .int (v2 0 3), .int (v2 0 4), .int (v2 0 5)])) := (fr_16 b (by omega)).trans f_12
              have f_22 : τ2.2 b = some (.inr (2, [.ref (b + 1), .int (v2 0 0), .ref (b + 2), .int (v2 0 1), .ref (b + 3), .int (v2 0 2), .int (v2 0 3), .int (v2 0 4), .int (v2 0 5)])) := (hfrτ2 b (by omega)).trans f_21
              refine fw_get (v := .ref (b + 3)) (C := RX0) (T := TX0) (N := 9) hx hb hts hin0 hown hK hR f_22 rfl 4 (by decide) (hts (.fieldLink RX0 26 "UnreadLeaflets$Archive" "tin" "LUnreadLeaflets$Tin;") (by decide +kernel)) rfl dX0_copyFrom_83 ?_
              have f_23 : τ2.2 (a + 3) = some (.inr (11, [.ref (a + 4), .ref (a + 5)])) := hAz.2.2.2.1
              have f_24 : τ2.2 (a + 4) = some (.inl (G.2.1 0, 6, .inl (w2 1))) := hAz.2.2.2.2.1
              have f_25 : τ2.2 (a + 5) = some (.inl (G.2.1 0, 6, .inl (w2 2))) := hAz.2.2.2.2.2.1
              have f_26 : ω.2 (b + 3) = some (.inr (11, [.ref (b + 4), .ref (b + 5)])) := hB.2.2.2.1
              have f_27 : ω_3.2 (b + 3) = some (.inr (11, [.ref (b + 4), .ref (b + 5)])) := (fr_6 (b + 3) (by omega)).trans f_26
              have f_28 : τ1.2 (b + 3) = some (.inr (11, [.ref (b + 4), .ref (b + 5)])) := (hfrτ1 (b + 3) (by omega)).trans f_27
              have f_29 : ω_13.2 (b + 3) = some (.inr (11, [.ref (b + 4), .ref (b + 5)])) := (fr_16 (b + 3) (by omega)).trans f_28
              have f_30 : τ2.2 (b + 3) = some (.inr (11, [.ref (b + 4), .ref (b + 5)])) := (hfrτ2 (b + 3) (by omega)).trans f_29
              have f_31 : ω.2 (b + 4) = some (.inl (G.2.1 0, 6, .inl (v2 1))) := hB.2.2.2.2.1
              have f_32 : ω_3.2 (b + 4) = some (.inl (G.2.1 0, 6, .inl (v2 1))) := (fr_6 (b + 4) (by omega)).trans f_31
              have f_33 : τ1.2 (b + 4) = some (.inl (G.2.1 0, 6, .inl (v2 1))) := (hfrτ1 (b + 4) (by omega)).trans f_32
              have f_34 : ω_13.2 (b + 4) = some (.inl (G.2.1 0, 6, .inl (v2 1))) := (fr_16 (b + 4) (by omega)).trans f_33
              have f_35 : τ2.2 (b + 4) = some (.inl (G.2.1 0, 6, .inl (v2 1))) := (hfrτ2 (b + 4) (by omega)).trans f_34
              have f_36 : ω.2 (b + 5) = some (.inl (G.2.1 0, 6, .inl (v2 2))) := hB.2.2.2.2.2.1
              have f_37 : ω_3.2 (b + 5) = some (.inl (G.2.1 0, 6, .inl (v2 2))) := (fr_6 (b + 5) (by omega)).trans f_36
              have f_38 : τ1.2 (b + 5) = some (.inl (G.2.1 0, 6, .inl (v2 2))) := (hfrτ1 (b + 5) (by omega)).trans f_37
              have f_39 : ω_13.2 (b + 5) = some (.inl (G.2.1 0, 6, .inl (v2 2))) := (fr_16 (b + 5) (by omega)).trans f_38
              have f_40 : τ2.2 (b + 5) = some (.inl (G.2.1 0, 6, .inl (v2 2))) := (hfrτ2 (b + 5) (by omega)).trans f_39
              refine fw_call (va_runV (As := [.ref (b + 3)]) (rest := []) ⟨hx, hb, hml, hown, hts⟩ (c_X9_copyFrom G hL l τ2 (a + 3) (w2 1) (w2 2) ⟨f_23, f_24, f_25⟩ (b + 3) (v2 1) (v2 2) ⟨f_30, f_35, f_40⟩ (by omega)) (cwV 1 hts gX0_copyFrom_X9_copyFrom rfl rfl rfl (by decide +kernel) ⟨Nat.le_of_ble_eq_true rfl, Nat.le_of_ble_eq_true rfl⟩) (fw_preV hW hK hR f_23 rfl) rfl rfl hl.1 rfl (lv_room (Nat.le_of_ble_eq_true rfl)) dX0_copyFrom_86 ⟨Nat.le_of_ble_eq_true rfl, Nat.le_of_ble_eq_true rfl⟩) hS (fun v_41 ω_42 H locs hq_43 hR hS => ?_)
              obtain ⟨rfl, z_44, f_46, f_47, fr_45⟩ := hq_43
              refine W.eq (g2 := F0 mI 89 ls []) rfl ?_
              refine lv_aload_n hx hb dX0_copyFrom_89 rfl (lv_at hl 1 rfl) ?_
              refine lv_aload_n hx hb dX0_copyFrom_90 rfl (lv_at hl 2 rfl) ?_
              have f_48 : ω_42.2 b = some (.inr (2, [.ref (b + 1), .int (v2 0 0), .ref (b + 2), .int (v2 0 1), .ref (b + 3), .int (v2 0 2), .int (v2 0 3), .int (v2 0 4), .int (v2 0 5)])) := (fr_45 b (by omega) (by omega)).trans f_22
              refine fw_get (v := .int (v2 0 2)) (C := RX0) (T := TX0) (N := 9) hx hb hts hin0 hown hK hR f_48 rfl 5 (by decide) (hts (.fieldLink RX0 49 "UnreadLeaflets$Archive" "buildingsSoFar" "I") (by decide +kernel)) rfl dX0_copyFrom_91 ?_
              have f_49 : ω_42.2 a = some (.inr (2, [.ref (a + 1), .int (w2 0 0), .ref (a + 2), .int (w2 0 1), .ref (a + 3), .int (w2 0 2), .int (w2 0 3), .int (w2 0 4), .int (w2 0 5)])) := (fr_45 a (by omega) (by omega)).trans f_19
              refine fw_put (v := .int (v2 0 2)) (C := RX0) (T := TX0) (N := 9) hx hb hts hin0 tyX0 tyX0_ok nmX0 hown hK hR hS f_49 rfl 5 (by decide) (hts (.fieldLink RX0 49 "UnreadLeaflets$Archive" "buildingsSoFar" "I") (by decide +kernel)) rfl rfl rfl (Nat.le_of_ble_eq_true rfl) dX0_copyFrom_94 (fun H locs hR hS => ?_)
              obtain ⟨ω_50, hw_51⟩ : ∃ τ : FWd, τ = (ω_42.1, va_up ω_42.2 a (some (.inr (2, [.ref (a + 1), .int (w2 0 0), .ref (a + 2), .int (w2 0 1), .ref (a + 3), .int (v2 0 2), .int (w2 0 3), .int (w2 0 4), .int (w2 0 5)])))) := ⟨_, rfl⟩
              have hR : fR G ω_50 H := by rw [hw_51]; exact hR
              have f_52 : ω_50.2 a = some (.inr (2, [.ref (a + 1), .int (w2 0 0), .ref (a + 2), .int (w2 0 1), .ref (a + 3), .int (v2 0 2), .int (w2 0 3), .int (w2 0 4), .int (w2 0 5)])) := by rw [hw_51]; exact va_up_at
              have fr_53 : ∀ q : Nat, ¬ q = a → ω_50.2 q = ω_42.2 q := fun q hq => by rw [hw_51]; exact va_up_off hq
              have z_54 : ω_50.1 = ω_42.1 := by rw [hw_51]
              refine lv_aload_n hx hb dX0_copyFrom_97 rfl (lv_at hl 1 rfl) ?_
              refine lv_aload_n hx hb dX0_copyFrom_98 rfl (lv_at hl 2 rfl) ?_
              have f_55 : ω_50.2 b = some (.inr (2, [.ref (b + 1), .int (v2 0 0), .ref (b + 2), .int (v2 0 1), .ref (b + 3), .int (v2 0 2), .int (v2 0 3), .int (v2 0 4), .int (v2 0 5)])) := (fr_53 b (by omega)).trans f_48
              refine fw_get (v := .int (v2 0 3)) (C := RX0) (T := TX0) (N := 9) hx hb hts hin0 hown hK hR f_55 rfl 6 (by decide) (hts (.fieldLink RX0 52 "UnreadLeaflets$Archive" "skippedSoFar" "I") (by decide +kernel)) rfl dX0_copyFrom_99 ?_
              refine fw_put (v := .int (v2 0 3)) (C := RX0) (T := TX0) (N := 9) hx hb hts hin0 tyX0 tyX0_ok nmX0 hown hK hR hS f_52 rfl 6 (by decide) (hts (.fieldLink RX0 52 "UnreadLeaflets$Archive" "skippedSoFar" "I") (by decide +kernel)) rfl rfl rfl (Nat.le_of_ble_eq_true rfl) dX0_copyFrom_102 (fun H locs hR hS => ?_)
              obtain ⟨ω_56, hw_57⟩ : ∃ τ : FWd, τ = (ω_50.1, va_up ω_50.2 a (some (.inr (2, [.ref (a + 1), .int (w2 0 0), .ref (a + 2), .int (w2 0 1), .ref (a + 3), .int (v2 0 2), .int (v2 0 3), .int (w2 0 4), .int (w2 0 5)])))) := ⟨_, rfl⟩
              have hR : fR G ω_56 H := by rw [hw_57]; exact hR
              have f_58 : ω_56.2 a = some (.inr (2, [.ref (a + 1), .int (w2 0 0), .ref (a + 2), .int (w2 0 1), .ref (a + 3), .int (v2 0 2), .int (v2 0 3), .int (w2 0 4), .int (w2 0 5)])) := by rw [hw_57]; exact va_up_at
              have fr_59 : ∀ q : Nat, ¬ q = a → ω_56.2 q = ω_50.2 q := fun q hq => by rw [hw_57]; exact va_up_off hq
              have z_60 : ω_56.1 = ω_50.1 := by rw [hw_57]
              refine lv_aload_n hx hb dX0_copyFrom_105 rfl (lv_at hl 1 rfl) ?_
              refine lv_aload_n hx hb dX0_copyFrom_106 rfl (lv_at hl 2 rfl) ?_
              have f_61 : ω_56.2 b = some (.inr (2, [.ref (b + 1), .int (v2 0 0), .ref (b + 2), .int (v2 0 1), .ref (b + 3), .int (v2 0 2), .int (v2 0 3), .int (v2 0 4), .int (v2 0 5)])) := (fr_59 b (by omega)).trans f_55
              refine fw_get (v := .int (v2 0 4)) (C := RX0) (T := TX0) (N := 9) hx hb hts hin0 hown hK hR f_61 rfl 7 (by decide) (hts (.fieldLink RX0 55 "UnreadLeaflets$Archive" "doneLaterSoFar" "I") (by decide +kernel)) rfl dX0_copyFrom_107 ?_
              refine fw_put (v := .int (v2 0 4)) (C := RX0) (T := TX0) (N := 9) hx hb hts hin0 tyX0 tyX0_ok nmX0 hown hK hR hS f_58 rfl 7 (by decide) (hts (.fieldLink RX0 55 "UnreadLeaflets$Archive" "doneLaterSoFar" "I") (by decide +kernel)) rfl rfl rfl (Nat.le_of_ble_eq_true rfl) dX0_copyFrom_110 (fun H locs hR hS => ?_)
              obtain ⟨ω_62, hw_63⟩ : ∃ τ : FWd, τ = (ω_56.1, va_up ω_56.2 a (some (.inr (2, [.ref (a + 1), .int (w2 0 0), .ref (a + 2), .int (w2 0 1), .ref (a + 3), .int (v2 0 2), .int (v2 0 3), .int (v2 0 4), .int (w2 0 5)])))) := ⟨_, rfl⟩
              have hR : fR G ω_62 H := by rw [hw_63]; exact hR
              have f_64 : ω_62.2 a = some (.inr (2, [.ref (a + 1), .int (w2 0 0), .ref (a + 2), .int (w2 0 1), .ref (a + 3), .int (v2 0 2), .int (v2 0 3), .int (v2 0 4), .int (w2 0 5)])) := by rw [hw_63]; exact va_up_at
              have fr_65 : ∀ q : Nat, ¬ q = a → ω_62.2 q = ω_56.2 q := fun q hq => by rw [hw_63]; exact va_up_off hq
              have z_66 : ω_62.1 = ω_56.1 := by rw [hw_63]
              refine lv_aload_n hx hb dX0_copyFrom_113 rfl (lv_at hl 1 rfl) ?_
              refine lv_aload_n hx hb dX0_copyFrom_114 rfl (lv_at hl 2 rfl) ?_
              have f_67 : ω_62.2 b = some (.inr (2, [.ref (b + 1), .int (v2 0 0), .ref (b + 2), .int (v2 0 1), .ref (b + 3), .int (v2 0 2), .int (v2 0 3), .int (v2 0 4), .int (v2 0 5)])) := (fr_65 b (by omega)).trans f_61
              refine fw_get (v := .int (v2 0 5)) (C := RX0) (T := TX0) (N := 9) hx hb hts hin0 hown hK hR f_67 rfl 8 (by decide) (hts (.fieldLink RX0 58 "UnreadLeaflets$Archive" "takenApartSoFar" "I") (by decide +kernel)) rfl dX0_copyFrom_115 ?_
              refine fw_put (v := .int (v2 0 5)) (C := RX0) (T := TX0) (N := 9) hx hb hts hin0 tyX0 tyX0_ok nmX0 hown hK hR hS f_64 rfl 8 (by decide) (hts (.fieldLink RX0 58 "UnreadLeaflets$Archive" "takenApartSoFar" "I") (by decide +kernel)) rfl rfl rfl (Nat.le_of_ble_eq_true rfl) dX0_copyFrom_118 (fun H locs hR hS => ?_)
              obtain ⟨ω_68, hw_69⟩ : ∃ τ : FWd, τ = (ω_62.1, va_up ω_62.2 a (some (.inr (2, [.ref (a + 1), .int (w2 0 0), .ref (a + 2), .int (w2 0 1), .ref (a + 3), .int (v2 0 2), .int (v2 0 3), .int (v2 0 4), .int (v2 0 5)])))) := ⟨_, rfl⟩
              have hR : fR G ω_68 H := by rw [hw_69]; exact hR
              have f_70 : ω_68.2 a = some (.inr (2, [.ref (a + 1), .int (w2 0 0), .ref (a + 2), .int (w2 0 1), .ref (a + 3), .int (v2 0 2), .int (v2 0 3), .int (v2 0 4), .int (v2 0 5)])) := by rw [hw_69]; exact va_up_at
              have fr_71 : ∀ q : Nat, ¬ q = a → ω_68.2 q = ω_62.2 q := fun q hq => by rw [hw_69]; exact va_up_off hq
              have z_72 : ω_68.1 = ω_62.1 := by rw [hw_69]
              refine fw_vret hx hb hr hlocks hR hS dX0_copyFrom_121 ?_
              have f_73 : ω_50.2 (a + 4) = some (.inl (G.2.1 0, 6, .inl (v2 1))) := (fr_53 (a + 4) (by omega)).trans f_46
              have f_74 : ω_56.2 (a + 4) = some (.inl (G.2.1 0, 6, .inl (v2 1))) := (fr_59 (a + 4) (by omega)).trans f_73
              have f_75 : ω_62.2 (a + 4) = some (.inl (G.2.1 0, 6, .inl (v2 1))) := (fr_65 (a + 4) (by omega)).trans f_74
              have f_76 : ω_68.2 (a + 4) = some (.inl (G.2.1 0, 6, .inl (v2 1))) := (fr_71 (a + 4) (by omega)).trans f_75
              have f_77 : ω_50.2 (a + 5) = some (.inl (G.2.1 0, 6, .inl (v2 2))) := (fr_53 (a + 5) (by omega)).trans f_47
              have f_78 : ω_56.2 (a + 5) = some (.inl (G.2.1 0, 6, .inl (v2 2))) := (fr_59 (a + 5) (by omega)).trans f_77
              have f_79 : ω_62.2 (a + 5) = some (.inl (G.2.1 0, 6, .inl (v2 2))) := (fr_65 (a + 5) (by omega)).trans f_78
              have f_80 : ω_68.2 (a + 5) = some (.inl (G.2.1 0, 6, .inl (v2 2))) := (fr_71 (a + 5) (by omega)).trans f_79
              have hAf : ArcS G ω_68.2 (a) (cpT w2 v2) := by
                refine (hAz).gen _ (8) (5) (f_70.trans (congrArg some ?_)) (f_76.trans (congrArg some ?_)) (f_80.trans (congrArg some ?_)) (fun hk9 => ?_) (fun hc9 => ?_) (fun q q1 q2 q3 q4 q5 q6 => ?_) (fun j9 h9 n9 => ?_) (fun j9 h9 n9 => ?_) (by omega) (by omega)
                · first | rfl | (simp [cpT, hz0.1, hz0.2, ne_big, ne_big']; done)
                · first | rfl | (simp [cpT, hz0.1, hz0.2, ne_big, ne_big']; done)
                · first | rfl | (simp [cpT, hz0.1, hz0.2, ne_big, ne_big']; done)
                · exact absurd hk9 (by decide)
                · exact absurd hc9 (by decide)
                · skip
                  rw [fr_71 q (by omega)]
                  rw [fr_65 q (by omega)]
                  rw [fr_59 q (by omega)]
                  rw [fr_53 q (by omega)]
                  rw [fr_45 q (by omega) (by omega)]
                · exact cpT_le
                · exact ⟨rfl, rfl⟩
              have hz9 : ω_68.1 = ω.1 := by rw [z_72, z_66, z_60, z_54, z_44, hzτ2, z_17, hzτ1, z_7]
              have hf9 : ∀ q : Nat, (q < a ∨ a + 51 ≤ q) → ω_68.2 q = ω.2 q := by
                intro q hq0
                rw [fr_71 q (by omega)]
                rw [fr_65 q (by omega)]
                rw [fr_59 q (by omega)]
                rw [fr_53 q (by omega)]
                rw [fr_45 q (by omega) (by omega)]
                rw [hfrτ2 q (by omega)]
                rw [fr_16 q (by omega)]
                rw [hfrτ1 q (by omega)]
                rw [fr_6 q (by omega)]
              exact ⟨rfl, hz9, ⟨_, hAf, cpT_live (fun k hk => hzl k (by omega)) (fun k hk => hzc k (by omega))⟩, hf9⟩
            · skip
              have hi2 := lp_lt (hz0.2.trans hd) c_20 (by omega) (by omega)
              refine lv_aload_n hx hb dX0_copyFrom_57 rfl (lv_at hl 1 rfl) ?_
              refine fw_get (v := .ref (a + 2)) (C := RX0) (T := TX0) (N := 9) hx hb hts hin0 hown hK hR f_19 rfl 2 (by decide) (hts (.fieldLink RX0 19 "UnreadLeaflets$Archive" "cousins" "[LUnreadLeaflets$Cousin;") (by decide +kernel)) rfl dX0_copyFrom_58 ?_
              refine lv_iload_n hx hb dX0_copyFrom_61 rfl (lv_at hl 0 rfl) ?_
              have f_81 : τ2.2 (a + 2) = some (.inl (G.2.1 6, 5, .inr (.inr (.inr (.inr (fun z9 => some (a + 46 + z9))))))) := hAz.2.2.1
              refine fw_aald (b := a + 46 + i) hx hb hK hR f_81 rfl (vp_in_nI (by omega) (by omega)) (by rw [nI_clamp (by omega)]) dX0_copyFrom_62 ?_
              refine lv_aload_n hx hb dX0_copyFrom_63 rfl (lv_at hl 2 rfl) ?_
              have f_82 : ω_13.2 b = some (.inr (2, [.ref (b + 1), .int (v2 0 0), .ref (b + 2), .int (v2 0 1), .ref (b + 3), .int (v2 0 2), .int (v2 0 3), .int (v2 0 4), .int (v2 0 5)])) := (fr_16 b (by omega)).trans f_12
              have f_83 : τ2.2 b = some (.inr (2, [.ref (b + 1), .int (v2 0 0), .ref (b + 2), .int (v2 0 1), .ref (b + 3), .int (v2 0 2), .int (v2 0 3), .int (v2 0 4), .int (v2 0 5)])) := (hfrτ2 b (by omega)).trans f_82
              refine fw_get (v := .ref (b + 2)) (C := RX0) (T := TX0) (N := 9) hx hb hts hin0 hown hK hR f_83 rfl 2 (by decide) (hts (.fieldLink RX0 19 "UnreadLeaflets$Archive" "cousins" "[LUnreadLeaflets$Cousin;") (by decide +kernel)) rfl dX0_copyFrom_64 ?_
              refine lv_iload_n hx hb dX0_copyFrom_67 rfl (lv_at hl 0 rfl) ?_
              have f_84 : ω.2 (b + 2) = some (.inl (G.2.1 6, 5, .inr (.inr (.inr (.inr (fun z9 => some (b + 46 + z9))))))) := hB.2.2.1
              have f_85 : ω_3.2 (b + 2) = some (.inl (G.2.1 6, 5, .inr (.inr (.inr (.inr (fun z9 => some (b + 46 + z9))))))) := (fr_6 (b + 2) (by omega)).trans f_84
              have f_86 : τ1.2 (b + 2) = some (.inl (G.2.1 6, 5, .inr (.inr (.inr (.inr (fun z9 => some (b + 46 + z9))))))) := (hfrτ1 (b + 2) (by omega)).trans f_85
              have f_87 : ω_13.2 (b + 2) = some (.inl (G.2.1 6, 5, .inr (.inr (.inr (.inr (fun z9 => some (b + 46 + z9))))))) := (fr_16 (b + 2) (by omega)).trans f_86
              have f_88 : τ2.2 (b + 2) = some (.inl (G.2.1 6, 5, .inr (.inr (.inr (.inr (fun z9 => some (b + 46 + z9))))))) := (hfrτ2 (b + 2) (by omega)).trans f_87
              refine fw_aald (b := b + 46 + i) hx hb hK hR f_88 rfl (vp_in_nI (by omega) (by omega)) (by rw [nI_clamp (by omega)]) dX0_copyFrom_68 ?_
              have f_89 : τ2.2 (a + 46 + i) = some (.inr (5, [.int (w2 8 i), .int (w2 9 i)])) := hAz.2.2.2.2.2.2.2 i (by omega)
              have f_90 : ω.2 (b + 46 + i) = some (.inr (5, [.int (v2 8 i), .int (v2 9 i)])) := hB.2.2.2.2.2.2.2 i (by omega)
              have f_91 : ω_3.2 (b + 46 + i) = some (.inr (5, [.int (v2 8 i), .int (v2 9 i)])) := (fr_6 (b + 46 + i) (by omega)).trans f_90
              have f_92 : τ1.2 (b + 46 + i) = some (.inr (5, [.int (v2 8 i), .int (v2 9 i)])) := (hfrτ1 (b + 46 + i) (by omega)).trans f_91
              have f_93 : ω_13.2 (b + 46 + i) = some (.inr (5, [.int (v2 8 i), .int (v2 9 i)])) := (fr_16 (b + 46 + i) (by omega)).trans f_92
              have f_94 : τ2.2 (b + 46 + i) = some (.inr (5, [.int (v2 8 i), .int (v2 9 i)])) := (hfrτ2 (b + 46 + i) (by omega)).trans f_93
              refine fw_call (va_runV (As := [.ref (b + 46 + i)]) (rest := []) ⟨hx, hb, hml, hown, hts⟩ (c_X3_copyFrom G hL l τ2 (a + 46 + i) (b + 46 + i) (w2 8 i) (w2 9 i) (v2 8 i) (v2 9 i) f_89 f_94 (by omega)) (cwV 1 hts gX0_copyFrom_X3_copyFrom rfl rfl rfl (by decide +kernel) ⟨Nat.le_of_ble_eq_true rfl, Nat.le_of_ble_eq_true rfl⟩) (fw_preV hW hK hR f_89 rfl) rfl rfl hl.1 rfl (lv_room (Nat.le_of_ble_eq_true rfl)) dX0_copyFrom_69 ⟨Nat.le_of_ble_eq_true rfl, Nat.le_of_ble_eq_true rfl⟩) hS (fun v_95 ω_96 H locs hq_97 hR hS => ?_)
              obtain ⟨rfl, z_98, f_100, fr_99⟩ := hq_97
              refine W.eq (g2 := F0 mI 72 ls []) rfl ?_
              obtain ⟨x_101, ex_101⟩ : ∃ y : Int32, y = (nI i) + 1 := ⟨_, rfl⟩
              refine lv_iinc (v := x_101) (lv' := [(2, .int x_101), (0, .ref a), (1, .ref b)]) hx hb dX0_copyFrom_72 hl (k := 0) rfl (by rw [ex_101]; rfl) (by decide) rfl (fun ls hl => ?_)
              refine lv_goto (tgt := 49) hx hb dX0_copyFrom_75 (by decide) ?_
              have el_2 : x_101 = nI (i + 1) := by rw [ex_101]; exact nI_1 i
              have hl := lv_sub (l' := [(2, .int x_101), (0, .ref a), (1, .ref b)]) hl [0, 1, 2] rfl
              rw [el_2] at hl
              have f_102 : ω_96.2 a = some (.inr (2, [.ref (a + 1), .int (w2 0 0), .ref (a + 2), .int (w2 0 1), .ref (a + 3), .int (w2 0 2), .int (w2 0 3), .int (w2 0 4), .int (w2 0 5)])) := (fr_99 a (by omega)).trans f_19
              have f_103 : τ2.2 (a + 4) = some (.inl (G.2.1 0, 6, .inl (w2 1))) := hAz.2.2.2.2.1
              have f_104 : ω_96.2 (a + 4) = some (.inl (G.2.1 0, 6, .inl (w2 1))) := (fr_99 (a + 4) (by omega)).trans f_103
              have f_105 : τ2.2 (a + 5) = some (.inl (G.2.1 0, 6, .inl (w2 2))) := hAz.2.2.2.2.2.1
              have f_106 : ω_96.2 (a + 5) = some (.inl (G.2.1 0, 6, .inl (w2 2))) := (fr_99 (a + 5) (by omega)).trans f_105
              have hAb2 : ArcS G ω_96.2 (a) (set1 (set1 w2 8 i (v2 8 i)) 9 i (v2 9 i)) := by
                refine (hAz).gen _ (8) (i) (f_102.trans (congrArg some ?_)) (f_104.trans (congrArg some ?_)) (f_106.trans (congrArg some ?_)) (fun hk9 => ?_) (fun hc9 => ?_) (fun q q1 q2 q3 q4 q5 q6 => ?_) (fun j9 h9 n9 => ?_) (fun j9 h9 n9 => ?_) (by omega) (by omega)
                · first | rfl | (simp [set1, setR, upd, ne_big, ne_big']; done)
                · first | rfl | (simp [set1, setR, upd, ne_big, ne_big']; done)
                · first | rfl | (simp [set1, setR, upd, ne_big, ne_big']; done)
                · exact absurd hk9 (by decide)
                · exact f_100.trans (congrArg some (by first | rfl | (simp [set1, setR, upd, ne_big, ne_big']; done)))
                · skip
                  rw [fr_99 q (by omega)]
                · exact (LeafEq.rf.s0 (by decide)).s0 (by decide)
                · constructor <;> first | rfl | (simp [set1, setR, upd, n9, ne_big, ne_big']; done)
              have fr_107 : ∀ q : Nat, (q < a ∨ a + 51 ≤ q) → ω_96.2 q = ω_13.2 q := by
                intro q hq0
                rw [fr_99 q (by omega)]
                rw [hfrτ2 q (by omega)]
              have z_108 : ω_96.1 = ω_13.1 := by rw [z_98, hzτ2]
              exact ih (i + 1) (set1 (set1 w2 8 i (v2 8 i)) 9 i (v2 9 i)) ω_96 (by omega) (by first | assumption | omega | (simp; done)) (by exact hAb2) (by rw [set1_row (by decide), set1_row (by decide)]; exact hz0) (by intro k hk; exact ((LeafEq.rf.s0 (by decide)).s0 (by decide)).tr (hzl k hk)) (by intro k hk; by_cases hki : k = i; (subst hki; exact ⟨by rw [set1_row (by decide), set1_at], set1_at⟩); exact ⟨by rw [set1_oth hki, set1_oth hki]; exact (hzc k (by omega)).1, by rw [set1_oth hki, set1_oth hki]; exact (hzc k (by omega)).2⟩) z_108  fr_107 _ _ _ hR hS hl
        have f_109 : τ1.2 (a + 4) = some (.inl (G.2.1 0, 6, .inl (w1 1))) := hAw.2.2.2.2.1
        have f_110 : ω_13.2 (a + 4) = some (.inl (G.2.1 0, 6, .inl (w1 1))) := (fr_16 (a + 4) (by omega)).trans f_109
        have f_111 : τ1.2 (a + 5) = some (.inl (G.2.1 0, 6, .inl (w1 2))) := hAw.2.2.2.2.2.1
        have f_112 : ω_13.2 (a + 5) = some (.inl (G.2.1 0, 6, .inl (w1 2))) := (fr_16 (a + 5) (by omega)).trans f_111
        have hAe2 : ArcS G ω_13.2 (a) (set1 w1 0 1 (v2 0 1)) := by
          refine (hAw).gen _ (8) (5) (f_15.trans (congrArg some ?_)) (f_110.trans (congrArg some ?_)) (f_112.trans (congrArg some ?_)) (fun hk9 => ?_) (fun hc9 => ?_) (fun q q1 q2 q3 q4 q5 q6 => ?_) (fun j9 h9 n9 => ?_) (fun j9 h9 n9 => ?_) (by omega) (by omega)
          · first | rfl | (simp [set1, setR, upd, ne_big, ne_big']; done)
          · first | rfl | (simp [set1, setR, upd, ne_big, ne_big']; done)
          · first | rfl | (simp [set1, setR, upd, ne_big, ne_big']; done)
          · exact absurd hk9 (by decide)
          · exact absurd hc9 (by decide)
          · skip
            rw [fr_16 q (by omega)]
          · exact LeafEq.rf.s0 (by decide)
          · constructor <;> first | rfl | (simp [set1, setR, upd, n9, ne_big, ne_big']; done)
        exact loop_18 _ 0 (set1 w1 0 1 (v2 0 1)) ω_13 (Nat.lt_succ_self _) (by first | rfl | assumption | omega | (simp; done)) (by exact hAe2) (by exact ⟨by rw [set1_off (by decide)]; exact hw0, set1_at⟩) (by intro k hk; exact (LeafEq.rf.s0 (by decide)).tr (hwl k (by omega))) (by intro k hk; exact absurd hk (Nat.not_lt_zero _)) rfl  (fun _ _ => rfl) _ _ _ hR hS (lv_sub hl [0, 1, 2] rfl)
      · skip
        have hj2 := lp_lt (hw0.trans hc) c_10 (by omega) (by omega)
        refine lv_aload_n hx hb dX0_copyFrom_18 rfl (lv_at hl 1 rfl) ?_
        refine fw_get (v := .ref (a + 1)) (C := RX0) (T := TX0) (N := 9) hx hb hts hin0 hown hK hR f_9 rfl 0 (by decide) (hts (.fieldLink RX0 11 "UnreadLeaflets$Archive" "leaflets" "[LUnreadLeaflets$Leaflet;") (by decide +kernel)) rfl dX0_copyFrom_19 ?_
        refine lv_iload_n hx hb dX0_copyFrom_22 rfl (lv_at hl 0 rfl) ?_
        have f_113 : τ1.2 (a + 1) = some (.inl (G.2.1 7, 8, .inr (.inr (.inr (.inr (fun z9 => some (a + 6 + 5 * z9))))))) := hAw.2.1
        refine fw_aald (b := a + 6 + 5 * j) hx hb hK hR f_113 rfl (vp_in_nI (by omega) (by omega)) (by rw [nI_clamp (by omega)]) dX0_copyFrom_23 ?_
        refine lv_aload_n hx hb dX0_copyFrom_24 rfl (lv_at hl 2 rfl) ?_
        have f_114 : ω_3.2 b = some (.inr (2, [.ref (b + 1), .int (v2 0 0), .ref (b + 2), .int (v2 0 1), .ref (b + 3), .int (v2 0 2), .int (v2 0 3), .int (v2 0 4), .int (v2 0 5)])) := (fr_6 b (by omega)).trans f_1
        have f_115 : τ1.2 b = some (.inr (2, [.ref (b + 1), .int (v2 0 0), .ref (b + 2), .int (v2 0 1), .ref (b + 3), .int (v2 0 2), .int (v2 0 3), .int (v2 0 4), .int (v2 0 5)])) := (hfrτ1 b (by omega)).trans f_114
        refine fw_get (v := .ref (b + 1)) (C := RX0) (T := TX0) (N := 9) hx hb hts hin0 hown hK hR f_115 rfl 0 (by decide) (hts (.fieldLink RX0 11 "UnreadLeaflets$Archive" "leaflets" "[LUnreadLeaflets$Leaflet;") (by decide +kernel)) rfl dX0_copyFrom_25 ?_
        refine lv_iload_n hx hb dX0_copyFrom_28 rfl (lv_at hl 0 rfl) ?_
        have f_116 : ω.2 (b + 1) = some (.inl (G.2.1 7, 8, .inr (.inr (.inr (.inr (fun z9 => some (b + 6 + 5 * z9))))))) := hB.2.1
        have f_117 : ω_3.2 (b + 1) = some (.inl (G.2.1 7, 8, .inr (.inr (.inr (.inr (fun z9 => some (b + 6 + 5 * z9))))))) := (fr_6 (b + 1) (by omega)).trans f_116
        have f_118 : τ1.2 (b + 1) = some (.inl (G.2.1 7, 8, .inr (.inr (.inr (.inr (fun z9 => some (b + 6 + 5 * z9))))))) := (hfrτ1 (b + 1) (by omega)).trans f_117
        refine fw_aald (b := b + 6 + 5 * j) hx hb hK hR f_118 rfl (vp_in_nI (by omega) (by omega)) (by rw [nI_clamp (by omega)]) dX0_copyFrom_29 ?_
        have f_119 : τ1.2 (a + 6 + 5 * j) = some (.inr (7, [.int (w1 3 j), .int (w1 4 j), .int (w1 5 j), .int (w1 6 j - 1), .int (w1 7 j), .ref (a + 6 + 5 * j + 1), .ref (a + 6 + 5 * j + 2), .ref (a + 6 + 5 * j + 3), .ref (a + 6 + 5 * j + 4)])) := (hAw.2.2.2.2.2.2.1 j (by omega)).1
        have f_120 : τ1.2 (a + 6 + 5 * j + 1) = some (.inl (G.2.1 0, 8, .inl (w1 (10 + j)))) := (hAw.2.2.2.2.2.2.1 j (by omega)).2.1
        have f_121 : τ1.2 (a + 6 + 5 * j + 2) = some (.inl (G.2.1 0, 8, .inl (w1 (20 + j)))) := (hAw.2.2.2.2.2.2.1 j (by omega)).2.2.1
        have f_122 : τ1.2 (a + 6 + 5 * j + 3) = some (.inl (G.2.1 0, 8, .inl (w1 (30 + j)))) := (hAw.2.2.2.2.2.2.1 j (by omega)).2.2.2.1
        have f_123 : τ1.2 (a + 6 + 5 * j + 4) = some (.inl (G.2.1 0, 8, .inl (fun i9 => w1 (40 + j) i9 + 1))) := (hAw.2.2.2.2.2.2.1 j (by omega)).2.2.2.2
        have f_124 : ω.2 (b + 6 + 5 * j) = some (.inr (7, [.int (v2 3 j), .int (v2 4 j), .int (v2 5 j), .int (v2 6 j - 1), .int (v2 7 j), .ref (b + 6 + 5 * j + 1), .ref (b + 6 + 5 * j + 2), .ref (b + 6 + 5 * j + 3), .ref (b + 6 + 5 * j + 4)])) := (hB.2.2.2.2.2.2.1 j (by omega)).1
        have f_125 : ω_3.2 (b + 6 + 5 * j) = some (.inr (7, [.int (v2 3 j), .int (v2 4 j), .int (v2 5 j), .int (v2 6 j - 1), .int (v2 7 j), .ref (b + 6 + 5 * j + 1), .ref (b + 6 + 5 * j + 2), .ref (b + 6 + 5 * j + 3), .ref (b + 6 + 5 * j + 4)])) := (fr_6 (b + 6 + 5 * j) (by omega)).trans f_124
        have f_126 : τ1.2 (b + 6 + 5 * j) = some (.inr (7, [.int (v2 3 j), .int (v2 4 j), .int (v2 5 j), .int (v2 6 j - 1), .int (v2 7 j), .ref (b + 6 + 5 * j + 1), .ref (b + 6 + 5 * j + 2), .ref (b + 6 + 5 * j + 3), .ref (b + 6 + 5 * j + 4)])) := (hfrτ1 (b + 6 + 5 * j) (by omega)).trans f_125
        have f_127 : ω.2 (b + 6 + 5 * j + 1) = some (.inl (G.2.1 0, 8, .inl (v2 (10 + j)))) := (hB.2.2.2.2.2.2.1 j (by omega)).2.1
        have f_128 : ω_3.2 (b + 6 + 5 * j + 1) = some (.inl (G.2.1 0, 8, .inl (v2 (10 + j)))) := (fr_6 (b + 6 + 5 * j + 1) (by omega)).trans f_127
        have f_129 : τ1.2 (b + 6 + 5 * j + 1) = some (.inl (G.2.1 0, 8, .inl (v2 (10 + j)))) := (hfrτ1 (b + 6 + 5 * j + 1) (by omega)).trans f_128
        have f_130 : ω.2 (b + 6 + 5 * j + 2) = some (.inl (G.2.1 0, 8, .inl (v2 (20 + j)))) := (hB.2.2.2.2.2.2.1 j (by omega)).2.2.1
        have f_131 : ω_3.2 (b + 6 + 5 * j + 2) = some (.inl (G.2.1 0, 8, .inl (v2 (20 + j)))) := (fr_6 (b + 6 + 5 * j + 2) (by omega)).trans f_130
        have f_132 : τ1.2 (b + 6 + 5 * j + 2) = some (.inl (G.2.1 0, 8, .inl (v2 (20 + j)))) := (hfrτ1 (b + 6 + 5 * j + 2) (by omega)).trans f_131
        have f_133 : ω.2 (b + 6 + 5 * j + 3) = some (.inl (G.2.1 0, 8, .inl (v2 (30 + j)))) := (hB.2.2.2.2.2.2.1 j (by omega)).2.2.2.1
        have f_134 : ω_3.2 (b + 6 + 5 * j + 3) = some (.inl (G.2.1 0, 8, .inl (v2 (30 + j)))) := (fr_6 (b + 6 + 5 * j + 3) (by omega)).trans f_133
        have f_135 : τ1.2 (b + 6 + 5 * j + 3) = some (.inl (G.2.1 0, 8, .inl (v2 (30 + j)))) := (hfrτ1 (b + 6 + 5 * j + 3) (by omega)).trans f_134
        have f_136 : ω.2 (b + 6 + 5 * j + 4) = some (.inl (G.2.1 0, 8, .inl (fun i9 => v2 (40 + j) i9 + 1))) := (hB.2.2.2.2.2.2.1 j (by omega)).2.2.2.2
        have f_137 : ω_3.2 (b + 6 + 5 * j + 4) = some (.inl (G.2.1 0, 8, .inl (fun i9 => v2 (40 + j) i9 + 1))) := (fr_6 (b + 6 + 5 * j + 4) (by omega)).trans f_136
        have f_138 : τ1.2 (b + 6 + 5 * j + 4) = some (.inl (G.2.1 0, 8, .inl (fun i9 => v2 (40 + j) i9 + 1))) := (hfrτ1 (b + 6 + 5 * j + 4) (by omega)).trans f_137
        refine fw_call (va_runV (As := [.ref (b + 6 + 5 * j)]) (rest := []) ⟨hx, hb, hml, hown, hts⟩ (c_X5_copyFrom G hL l τ1 (a + 6 + 5 * j) j w1 ⟨f_119, f_120, f_121, f_122, f_123⟩ (b + 6 + 5 * j) j v2 ⟨f_126, f_129, f_132, f_135, f_138⟩ (by omega)) (cwV 1 hts gX0_copyFrom_X5_copyFrom rfl rfl rfl (by decide +kernel) ⟨Nat.le_of_ble_eq_true rfl, Nat.le_of_ble_eq_true rfl⟩) (fw_preV hW hK hR f_119 rfl) rfl rfl hl.1 rfl (lv_room (Nat.le_of_ble_eq_true rfl)) dX0_copyFrom_30 ⟨Nat.le_of_ble_eq_true rfl, Nat.le_of_ble_eq_true rfl⟩) hS (fun v_139 ω_140 H locs hq_141 hR hS => ?_)
        obtain ⟨rfl, z_142, f_144, f_145, f_146, f_147, f_148, fr_143⟩ := hq_141
        refine W.eq (g2 := F0 mI 33 ls []) rfl ?_
        obtain ⟨x_149, ex_149⟩ : ∃ y : Int32, y = (nI j) + 1 := ⟨_, rfl⟩
        refine lv_iinc (v := x_149) (lv' := [(2, .int x_149), (0, .ref a), (1, .ref b)]) hx hb dX0_copyFrom_33 hl (k := 0) rfl (by rw [ex_149]; rfl) (by decide) rfl (fun ls hl => ?_)
        refine lv_goto (tgt := 10) hx hb dX0_copyFrom_36 (by decide) ?_
        have el_2 : x_149 = nI (j + 1) := by rw [ex_149]; exact nI_1 j
        have hl := lv_sub (l' := [(2, .int x_149), (0, .ref a), (1, .ref b)]) hl [0, 1, 2] rfl
        rw [el_2] at hl
        have f_150 : ω_140.2 a = some (.inr (2, [.ref (a + 1), .int (w1 0 0), .ref (a + 2), .int (w1 0 1), .ref (a + 3), .int (w1 0 2), .int (w1 0 3), .int (w1 0 4), .int (w1 0 5)])) := (fr_143 a (by omega) (by omega) (by omega) (by omega) (by omega)).trans f_9
        have f_151 : τ1.2 (a + 4) = some (.inl (G.2.1 0, 6, .inl (w1 1))) := hAw.2.2.2.2.1
        have f_152 : ω_140.2 (a + 4) = some (.inl (G.2.1 0, 6, .inl (w1 1))) := (fr_143 (a + 4) (by omega) (by omega) (by omega) (by omega) (by omega)).trans f_151
        have f_153 : τ1.2 (a + 5) = some (.inl (G.2.1 0, 6, .inl (w1 2))) := hAw.2.2.2.2.2.1
        have f_154 : ω_140.2 (a + 5) = some (.inl (G.2.1 0, 6, .inl (w1 2))) := (fr_143 (a + 5) (by omega) (by omega) (by omega) (by omega) (by omega)).trans f_153
        have hAb : ArcS G ω_140.2 (a) (cpL w1 v2 j) := by
          refine (hAw).gen _ (j) (5) (f_150.trans (congrArg some ?_)) (f_152.trans (congrArg some ?_)) (f_154.trans (congrArg some ?_)) (fun hk9 => ?_) (fun hc9 => ?_) (fun q q1 q2 q3 q4 q5 q6 => ?_) (fun j9 h9 n9 => ?_) (fun j9 h9 n9 => ?_) (by omega) (by omega)
          · first | rfl | (simp [cpL, upd, ne_big, ne_big']; done)
          · first | rfl | (simp [cpL, upd, ne_big, ne_big']; done)
          · first | rfl | (simp [cpL, upd, ne_big, ne_big']; done)
          · refine ⟨f_144.trans (congrArg some ?_), f_145.trans (congrArg some ?_), f_146.trans (congrArg some ?_), f_147.trans (congrArg some ?_), f_148.trans (congrArg some ?_)⟩ <;> first | rfl | (simp [cpL, upd, ne_big, ne_big']; done)
          · exact absurd hc9 (by decide)
          · skip
            rw [fr_143 q (by omega) (by omega) (by omega) (by omega) (by omega)]
          · exact cpL_oth h9 (by omega) n9
          · exact ⟨by rw [cpL_row (by decide)], by rw [cpL_row (by decide)]⟩
        have fr_155 : ∀ q : Nat, (q < a ∨ a + 51 ≤ q) → ω_140.2 q = ω_3.2 q := by
          intro q hq0
          rw [fr_143 q (by omega) (by omega) (by omega) (by omega) (by omega)]
          rw [hfrτ1 q (by omega)]
        have z_156 : ω_140.1 = ω_3.1 := by rw [z_142, hzτ1]
        exact ih (j + 1) (cpL w1 v2 j) ω_140 (by omega) (by first | assumption | omega | (simp; done)) (by exact hAb) (by rw [cpL_row (by decide)]; exact hw0) (by intro i hi; by_cases hij : i = j; (subst hij; exact cpL_eq); exact (cpL_oth (by omega) (by omega) hij).tr (hwl i (by omega))) z_156  fr_155 _ _ _ hR hS hl
  have f_157 : ω.2 (a + 4) = some (.inl (G.2.1 0, 6, .inl (v 1))) := hA.2.2.2.2.1
  have f_158 : ω_3.2 (a + 4) = some (.inl (G.2.1 0, 6, .inl (v 1))) := (fr_6 (a + 4) (by omega)).trans f_157
  have f_159 : ω.2 (a + 5) = some (.inl (G.2.1 0, 6, .inl (v 2))) := hA.2.2.2.2.2.1
  have f_160 : ω_3.2 (a + 5) = some (.inl (G.2.1 0, 6, .inl (v 2))) := (fr_6 (a + 5) (by omega)).trans f_159
  have hAe : ArcS G ω_3.2 (a) (set1 v 0 0 (v2 0 0)) := by
    refine (hA).gen _ (8) (5) (f_5.trans (congrArg some ?_)) (f_158.trans (congrArg some ?_)) (f_160.trans (congrArg some ?_)) (fun hk9 => ?_) (fun hc9 => ?_) (fun q q1 q2 q3 q4 q5 q6 => ?_) (fun j9 h9 n9 => ?_) (fun j9 h9 n9 => ?_) (by omega) (by omega)
    · first | rfl | (simp [set1, setR, upd, ne_big, ne_big']; done)
    · first | rfl | (simp [set1, setR, upd, ne_big, ne_big']; done)
    · first | rfl | (simp [set1, setR, upd, ne_big, ne_big']; done)
    · exact absurd hk9 (by decide)
    · exact absurd hc9 (by decide)
    · skip
      rw [fr_6 q (by omega)]
    · exact LeafEq.rf.s0 (by decide)
    · constructor <;> first | rfl | (simp [set1, setR, upd, n9, ne_big, ne_big']; done)
  exact loop_8 _ 0 (set1 v 0 0 (v2 0 0)) ω_3 (Nat.lt_succ_self _) (by first | rfl | assumption | omega | (simp; done)) (by exact hAe) (by exact set1_at) (by intro i hi; exact absurd hi (Nat.not_lt_zero _)) rfl  (fun _ _ => rfl) _ _ _ hR hS (lv_sub hl [0, 1, 2] rfl)
