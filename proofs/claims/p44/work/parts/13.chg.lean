/-! ===== printed by program (wip/whole/gen): the changes ===== -/
set_option maxHeartbeats 4000000 in
set_option maxRecDepth 100000 in
theorem c_X7_refuse (G : FG) (hL : FL G) (l : Launch) (ω : FWd) (y : Nat) (k1 k2 k3 n d : Int32) (hk : ω.2 y = some (.inr (9, [.int k1, .int k2, .int k3]))) : FMet G l yX7_refuse wsX7_refuse ({ frames := 0, cells := 0, slots := 0, locals := 0 } : Room) [.ref y, .int n, .int d] ω (fun vv9 τ9 => vv9 = some (.int (-1)) ∧ τ9.1 = ω.1 ∧ τ9.2 y = some (.inr (9, [.int n, .int d, .int 0])) ∧ ∀ q : Nat, ¬ q = y → τ9.2 q = ω.2 q) 0 0 := by
  refine fw_ofW (cc := cX7_refuse) (maxL := 3) (ret := (some .int)) (by decide) rfl (Nat.le_of_ble_eq_true rfl) ?_
  intro pP eE sS mI ar9 bl9 meth cD ls hx hb hr hlocks hml hts hown hnm hW hR hl
  have hK := hL.K hW
  have hS : va_S (fwA G) sS.heap sS.heap [] := va_S.rf
  have hin7 : ∀ w ∈ u_ws RX7 TX7 3, w ∈ wsX7_refuse := by decide +kernel
  have hl : lv_has ls 3 [(0, .ref y), (1, .int n), (2, .int d)] := hl
  refine lv_aload_n hx hb dX7_refuse_0 rfl (lv_at hl 0 rfl) ?_
  refine lv_iload_n hx hb dX7_refuse_1 rfl (lv_at hl 1 rfl) ?_
  refine fw_put (v := .int n) (C := RX7) (T := TX7) (N := 3) hx hb hts hin7 tyX7 tyX7_ok nmX7 hown hK hR hS hk rfl 0 (by decide) (hts (.fieldLink RX7 9 "UnreadLeaflets$Reason" "number" "I") (by decide +kernel)) rfl rfl rfl (Nat.le_of_ble_eq_true rfl) dX7_refuse_2 (fun H locs hR hS => ?_)
  obtain ⟨ω_1, hw_2⟩ : ∃ τ : FWd, τ = (ω.1, va_up ω.2 y (some (.inr (9, [.int n, .int k2, .int k3])))) := ⟨_, rfl⟩
  have hR : fR G ω_1 H := by rw [hw_2]; exact hR
  have f_3 : ω_1.2 y = some (.inr (9, [.int n, .int k2, .int k3])) := by rw [hw_2]; exact va_up_at
  have fr_4 : ∀ q : Nat, ¬ q = y → ω_1.2 q = ω.2 q := fun q hq => by rw [hw_2]; exact va_up_off hq
  have z_5 : ω_1.1 = ω.1 := by rw [hw_2]
  refine lv_aload_n hx hb dX7_refuse_5 rfl (lv_at hl 0 rfl) ?_
  refine lv_iload_n hx hb dX7_refuse_6 rfl (lv_at hl 2 rfl) ?_
  refine fw_put (v := .int d) (C := RX7) (T := TX7) (N := 3) hx hb hts hin7 tyX7 tyX7_ok nmX7 hown hK hR hS f_3 rfl 1 (by decide) (hts (.fieldLink RX7 15 "UnreadLeaflets$Reason" "detail" "I") (by decide +kernel)) rfl rfl rfl (Nat.le_of_ble_eq_true rfl) dX7_refuse_7 (fun H locs hR hS => ?_)
  obtain ⟨ω_6, hw_7⟩ : ∃ τ : FWd, τ = (ω_1.1, va_up ω_1.2 y (some (.inr (9, [.int n, .int d, .int k3])))) := ⟨_, rfl⟩
  have hR : fR G ω_6 H := by rw [hw_7]; exact hR
  have f_8 : ω_6.2 y = some (.inr (9, [.int n, .int d, .int k3])) := by rw [hw_7]; exact va_up_at
  have fr_9 : ∀ q : Nat, ¬ q = y → ω_6.2 q = ω_1.2 q := fun q hq => by rw [hw_7]; exact va_up_off hq
  have z_10 : ω_6.1 = ω_1.1 := by rw [hw_7]
  refine lv_aload_n hx hb dX7_refuse_10 rfl (lv_at hl 0 rfl) ?_
  refine lv_iconst (v := 0) hx hb dX7_refuse_11 (by decide) ?_
  refine fw_put (v := .int 0) (C := RX7) (T := TX7) (N := 3) hx hb hts hin7 tyX7 tyX7_ok nmX7 hown hK hR hS f_8 rfl 2 (by decide) (hts (.fieldLink RX7 18 "UnreadLeaflets$Reason" "command" "I") (by decide +kernel)) rfl rfl rfl (Nat.le_of_ble_eq_true rfl) dX7_refuse_12 (fun H locs hR hS => ?_)
  obtain ⟨ω_11, hw_12⟩ : ∃ τ : FWd, τ = (ω_6.1, va_up ω_6.2 y (some (.inr (9, [.int n, .int d, .int 0])))) := ⟨_, rfl⟩
  have hR : fR G ω_11 H := by rw [hw_12]; exact hR
  have f_13 : ω_11.2 y = some (.inr (9, [.int n, .int d, .int 0])) := by rw [hw_12]; exact va_up_at
  have fr_14 : ∀ q : Nat, ¬ q = y → ω_11.2 q = ω_6.2 q := fun q hq => by rw [hw_12]; exact va_up_off hq
  have z_15 : ω_11.1 = ω_6.1 := by rw [hw_12]
  refine lv_iconst (v := (-1)) hx hb dX7_refuse_15 (by decide) ?_
  have fr_16 : ∀ q : Nat, ¬ q = y → ω_11.2 q = ω.2 q := by
    intro q h0
    rw [fr_14 q (by omega)]
    rw [fr_9 q (by omega)]
    rw [fr_4 q (by omega)]
  have z_17 : ω_11.1 = ω.1 := by rw [z_15, z_10, z_5]
  refine fw_iret hx hb hr hlocks hR hS dX7_refuse_16 ⟨?_, z_17, f_13, fr_16⟩
  · refine congrArg (fun z => some (Value.int z)) ?_
    exact rfl
set_option maxHeartbeats 4000000 in
set_option maxRecDepth 100000 in
theorem c_X5_layOn (G : FG) (hL : FL G) (l : Launch) (ω : FWd) (b : Nat) (s1 f1 h1 u1 x1 sh : Int32) (h0 : ω.2 b = some (.inr (7, [.int s1, .int f1, .int h1, .int u1, .int x1, .ref (b + 1), .ref (b + 2), .ref (b + 3), .ref (b + 4)]))) : FMet G l yX5_layOn wsX5_layOn ({ frames := 0, cells := 0, slots := 0, locals := 0 } : Room) [.ref b, .int sh] ω (fun vv9 τ9 => vv9 = none ∧ τ9.1 = ω.1 ∧ τ9.2 b = some (.inr (7, [.int 0, .int 0, .int sh, .int (-1), .int 0, .ref (b + 1), .ref (b + 2), .ref (b + 3), .ref (b + 4)])) ∧ ∀ q : Nat, ¬ q = b → τ9.2 q = ω.2 q) 0 0 := by
  refine fw_ofW (cc := cX5_layOn) (maxL := 2) (ret := none) (by decide) rfl (Nat.le_of_ble_eq_true rfl) ?_
  intro pP eE sS mI ar9 bl9 meth cD ls hx hb hr hlocks hml hts hown hnm hW hR hl
  have hK := hL.K hW
  have hS : va_S (fwA G) sS.heap sS.heap [] := va_S.rf
  have hin5 : ∀ w ∈ u_ws RX5 TX5 9, w ∈ wsX5_layOn := by decide +kernel
  have hl : lv_has ls 2 [(0, .ref b), (1, .int sh)] := hl
  refine lv_aload_n hx hb dX5_layOn_0 rfl (lv_at hl 0 rfl) ?_
  refine lv_iconst (v := 0) hx hb dX5_layOn_1 (by decide) ?_
  refine fw_put (v := .int 0) (C := RX5) (T := TX5) (N := 9) hx hb hts hin5 tyX5 tyX5_ok nmX5 hown hK hR hS h0 rfl 0 (by decide) (hts (.fieldLink RX5 24 "UnreadLeaflets$Leaflet" "steps" "I") (by decide +kernel)) rfl rfl rfl (Nat.le_of_ble_eq_true rfl) dX5_layOn_2 (fun H locs hR hS => ?_)
  obtain ⟨ω_1, hw_2⟩ : ∃ τ : FWd, τ = (ω.1, va_up ω.2 b (some (.inr (7, [.int 0, .int f1, .int h1, .int u1, .int x1, .ref (b + 1), .ref (b + 2), .ref (b + 3), .ref (b + 4)])))) := ⟨_, rfl⟩
  have hR : fR G ω_1 H := by rw [hw_2]; exact hR
  have f_3 : ω_1.2 b = some (.inr (7, [.int 0, .int f1, .int h1, .int u1, .int x1, .ref (b + 1), .ref (b + 2), .ref (b + 3), .ref (b + 4)])) := by rw [hw_2]; exact va_up_at
  have fr_4 : ∀ q : Nat, ¬ q = b → ω_1.2 q = ω.2 q := fun q hq => by rw [hw_2]; exact va_up_off hq
  have z_5 : ω_1.1 = ω.1 := by rw [hw_2]
  refine lv_aload_n hx hb dX5_layOn_5 rfl (lv_at hl 0 rfl) ?_
  refine lv_iconst (v := 0) hx hb dX5_layOn_6 (by decide) ?_
  refine fw_put (v := .int 0) (C := RX5) (T := TX5) (N := 9) hx hb hts hin5 tyX5 tyX5_ok nmX5 hown hK hR hS f_3 rfl 1 (by decide) (hts (.fieldLink RX5 28 "UnreadLeaflets$Leaflet" "folds" "I") (by decide +kernel)) rfl rfl rfl (Nat.le_of_ble_eq_true rfl) dX5_layOn_7 (fun H locs hR hS => ?_)
  obtain ⟨ω_6, hw_7⟩ : ∃ τ : FWd, τ = (ω_1.1, va_up ω_1.2 b (some (.inr (7, [.int 0, .int 0, .int h1, .int u1, .int x1, .ref (b + 1), .ref (b + 2), .ref (b + 3), .ref (b + 4)])))) := ⟨_, rfl⟩
  have hR : fR G ω_6 H := by rw [hw_7]; exact hR
  have f_8 : ω_6.2 b = some (.inr (7, [.int 0, .int 0, .int h1, .int u1, .int x1, .ref (b + 1), .ref (b + 2), .ref (b + 3), .ref (b + 4)])) := by rw [hw_7]; exact va_up_at
  have fr_9 : ∀ q : Nat, ¬ q = b → ω_6.2 q = ω_1.2 q := fun q hq => by rw [hw_7]; exact va_up_off hq
  have z_10 : ω_6.1 = ω_1.1 := by rw [hw_7]
  refine lv_aload_n hx hb dX5_layOn_10 rfl (lv_at hl 0 rfl) ?_
  refine lv_iload_n hx hb dX5_layOn_11 rfl (lv_at hl 1 rfl) ?_
  refine fw_put (v := .int sh) (C := RX5) (T := TX5) (N := 9) hx hb hts hin5 tyX5 tyX5_ok nmX5 hown hK hR hS f_8 rfl 2 (by decide) (hts (.fieldLink RX5 31 "UnreadLeaflets$Leaflet" "shelf" "I") (by decide +kernel)) rfl rfl rfl (Nat.le_of_ble_eq_true rfl) dX5_layOn_12 (fun H locs hR hS => ?_)
  obtain ⟨ω_11, hw_12⟩ : ∃ τ : FWd, τ = (ω_6.1, va_up ω_6.2 b (some (.inr (7, [.int 0, .int 0, .int sh, .int u1, .int x1, .ref (b + 1), .ref (b + 2), .ref (b + 3), .ref (b + 4)])))) := ⟨_, rfl⟩
  have hR : fR G ω_11 H := by rw [hw_12]; exact hR
  have f_13 : ω_11.2 b = some (.inr (7, [.int 0, .int 0, .int sh, .int u1, .int x1, .ref (b + 1), .ref (b + 2), .ref (b + 3), .ref (b + 4)])) := by rw [hw_12]; exact va_up_at
  have fr_14 : ∀ q : Nat, ¬ q = b → ω_11.2 q = ω_6.2 q := fun q hq => by rw [hw_12]; exact va_up_off hq
  have z_15 : ω_11.1 = ω_6.1 := by rw [hw_12]
  refine lv_aload_n hx hb dX5_layOn_15 rfl (lv_at hl 0 rfl) ?_
  refine lv_iconst (v := (-1)) hx hb dX5_layOn_16 (by decide) ?_
  refine fw_put (v := .int (-1)) (C := RX5) (T := TX5) (N := 9) hx hb hts hin5 tyX5 tyX5_ok nmX5 hown hK hR hS f_13 rfl 3 (by decide) (hts (.fieldLink RX5 34 "UnreadLeaflets$Leaflet" "builder" "I") (by decide +kernel)) rfl rfl rfl (Nat.le_of_ble_eq_true rfl) dX5_layOn_17 (fun H locs hR hS => ?_)
  obtain ⟨ω_16, hw_17⟩ : ∃ τ : FWd, τ = (ω_11.1, va_up ω_11.2 b (some (.inr (7, [.int 0, .int 0, .int sh, .int (-1), .int x1, .ref (b + 1), .ref (b + 2), .ref (b + 3), .ref (b + 4)])))) := ⟨_, rfl⟩
  have hR : fR G ω_16 H := by rw [hw_17]; exact hR
  have f_18 : ω_16.2 b = some (.inr (7, [.int 0, .int 0, .int sh, .int (-1), .int x1, .ref (b + 1), .ref (b + 2), .ref (b + 3), .ref (b + 4)])) := by rw [hw_17]; exact va_up_at
  have fr_19 : ∀ q : Nat, ¬ q = b → ω_16.2 q = ω_11.2 q := fun q hq => by rw [hw_17]; exact va_up_off hq
  have z_20 : ω_16.1 = ω_11.1 := by rw [hw_17]
  refine lv_aload_n hx hb dX5_layOn_20 rfl (lv_at hl 0 rfl) ?_
  refine lv_iconst (v := 0) hx hb dX5_layOn_21 (by decide) ?_
  refine fw_put (v := .int 0) (C := RX5) (T := TX5) (N := 9) hx hb hts hin5 tyX5 tyX5_ok nmX5 hown hK hR hS f_18 rfl 4 (by decide) (hts (.fieldLink RX5 37 "UnreadLeaflets$Leaflet" "skipped" "I") (by decide +kernel)) rfl rfl rfl (Nat.le_of_ble_eq_true rfl) dX5_layOn_22 (fun H locs hR hS => ?_)
  obtain ⟨ω_21, hw_22⟩ : ∃ τ : FWd, τ = (ω_16.1, va_up ω_16.2 b (some (.inr (7, [.int 0, .int 0, .int sh, .int (-1), .int 0, .ref (b + 1), .ref (b + 2), .ref (b + 3), .ref (b + 4)])))) := ⟨_, rfl⟩
  have hR : fR G ω_21 H := by rw [hw_22]; exact hR
  have f_23 : ω_21.2 b = some (.inr (7, [.int 0, .int 0, .int sh, .int (-1), .int 0, .ref (b + 1), .ref (b + 2), .ref (b + 3), .ref (b + 4)])) := by rw [hw_22]; exact va_up_at
  have fr_24 : ∀ q : Nat, ¬ q = b → ω_21.2 q = ω_16.2 q := fun q hq => by rw [hw_22]; exact va_up_off hq
  have z_25 : ω_21.1 = ω_16.1 := by rw [hw_22]
  have fr_26 : ∀ q : Nat, ¬ q = b → ω_21.2 q = ω.2 q := by
    intro q h0
    rw [fr_24 q (by omega)]
    rw [fr_19 q (by omega)]
    rw [fr_14 q (by omega)]
    rw [fr_9 q (by omega)]
    rw [fr_4 q (by omega)]
  have z_27 : ω_21.1 = ω.1 := by rw [z_25, z_20, z_15, z_10, z_5]
  refine fw_vret hx hb hr hlocks hR hS dX5_layOn_25 ⟨rfl, z_27, f_23, fr_26⟩
set_option maxHeartbeats 4000000 in
set_option maxRecDepth 100000 in
theorem c_X1_refuseNoLeaflet (G : FG) (hL : FL G) (l : Launch) (ω : FWd) (y a : Nat) (v : Nat → Nat → Int32) (k1 k2 k3 : Int32) (hy : ω.2 y = some (.inr (3, [.ref a, .ref (a + 51)]))) (hay : a = y + 1) (hA : ArcS G ω.2 a v) (hk : ω.2 (a + 51) = some (.inr (9, [.int k1, .int k2, .int k3]))) (hW0 : WF v) : FMet G l yX1_refuseNoLeaflet wsX1_refuseNoLeaflet ({ frames := 1, cells := 0, slots := 0, locals := 22 } : Room) [.ref y] ω (fun vv9 τ9 => vv9 = some (.int (-1)) ∧ τ9.1 = ω.1 ∧ τ9.2 (a + 51) = some (.inr (9, [.int 3, .int (v 0 0), .int 0])) ∧ ∀ q : Nat, ¬ q = (a + 51) → τ9.2 q = ω.2 q) 0 0 := by
  refine fw_ofW (cc := cX1_refuseNoLeaflet) (maxL := 1) (ret := (some .int)) (by decide) rfl (Nat.le_of_ble_eq_true rfl) ?_
  intro pP eE sS mI ar9 bl9 meth cD ls hx hb hr hlocks hml hts hown hnm hW hR hl
  have hK := hL.K hW
  have hS : va_S (fwA G) sS.heap sS.heap [] := va_S.rf
  have hin0 : ∀ w ∈ u_ws RX0 TX0 9, w ∈ wsX1_refuseNoLeaflet := by decide +kernel
  have hin1 : ∀ w ∈ u_ws RX1 TX1 2, w ∈ wsX1_refuseNoLeaflet := by decide +kernel
  have hl : lv_has ls 1 [(0, .ref y)] := hl
  obtain ⟨h0, h1, h2, h3, h4, h5, hLf, hCo⟩ := id hA
  obtain ⟨c, hc8, hc, hcc⟩ := okN_of hW0.1
  obtain ⟨cc, hd5, hd, hdd⟩ := okN_of hW0.2.1
  have hs : ∀ j, j < c → v 3 j = nI (stN v j) ∧ stN v j ≤ 8 := fun j hj => (hW0.2.2 j (by rw [hcc]; exact hj)).1
  have hfo : ∀ j, j < c → v 4 j = nI (cN (v 4 j)) ∧ cN (v 4 j) ≤ 3 := fun j hj => (hW0.2.2 j (by rw [hcc]; exact hj)).2
  refine lv_aload_n hx hb dX1_refuseNoLeaflet_0 rfl (lv_at hl 0 rfl) ?_
  refine fw_get (v := .ref (a + 51)) (C := RX1) (T := TX1) (N := 2) hx hb hts hin1 hown hK hR hy rfl 1 (by decide) (hts (.fieldLink RX1 21 "UnreadLeaflets$Changes" "kept" "LUnreadLeaflets$Reason;") (by decide +kernel)) rfl dX1_refuseNoLeaflet_1 ?_
  refine lv_iconst (v := 3) hx hb dX1_refuseNoLeaflet_4 (by decide) ?_
  refine lv_aload_n hx hb dX1_refuseNoLeaflet_5 rfl (lv_at hl 0 rfl) ?_
  refine fw_get (v := .ref a) (C := RX1) (T := TX1) (N := 2) hx hb hts hin1 hown hK hR hy rfl 0 (by decide) (hts (.fieldLink RX1 12 "UnreadLeaflets$Changes" "archive" "LUnreadLeaflets$Archive;") (by decide +kernel)) rfl dX1_refuseNoLeaflet_6 ?_
  refine fw_get (v := .int (v 0 0)) (C := RX0) (T := TX0) (N := 9) hx hb hts hin0 hown hK hR h0 rfl 1 (by decide) (hts (.fieldLink RX1 25 "UnreadLeaflets$Archive" "leafletCount" "I") (by decide +kernel)) rfl dX1_refuseNoLeaflet_9 ?_
  refine fw_call (va_runV (As := [.int 3, .int (v 0 0)]) (rest := []) ⟨hx, hb, hml, hown, hts⟩ (c_X7_refuse G hL l ω (a + 51) k1 k2 k3 3 (v 0 0) hk) (cwV 2 hts gX1_refuseNoLeaflet_X7_refuse rfl rfl rfl (by decide +kernel) ⟨Nat.le_of_ble_eq_true rfl, Nat.le_of_ble_eq_true rfl⟩) (fw_preV hW hK hR hk rfl) rfl rfl hl.1 rfl (lv_room (Nat.le_of_ble_eq_true rfl)) dX1_refuseNoLeaflet_12 ⟨Nat.le_of_ble_eq_true rfl, Nat.le_of_ble_eq_true rfl⟩) hS (fun v_1 ω_2 H locs hq_3 hR hS => ?_)
  obtain ⟨rfl, z_4, f_6, fr_5⟩ := hq_3
  refine W.eq (g2 := F0 mI 15 ls [.int (-1)]) rfl ?_
  have fr_7 : ∀ q : Nat, ¬ q = (a + 51) → ω_2.2 q = ω.2 q := by
    intro q h0
    rw [fr_5 q (by omega)]
  have z_8 : ω_2.1 = ω.1 := by rw [z_4]
  refine fw_iret hx hb hr hlocks hR hS dX1_refuseNoLeaflet_15 ⟨?_, z_8, f_6, fr_7⟩
  · refine congrArg (fun z => some (Value.int z)) ?_
    exact rfl
set_option maxHeartbeats 4000000 in
set_option maxRecDepth 100000 in
theorem c_X1_refuseNoCousin (G : FG) (hL : FL G) (l : Launch) (ω : FWd) (y a : Nat) (v : Nat → Nat → Int32) (k1 k2 k3 : Int32) (hy : ω.2 y = some (.inr (3, [.ref a, .ref (a + 51)]))) (hay : a = y + 1) (hA : ArcS G ω.2 a v) (hk : ω.2 (a + 51) = some (.inr (9, [.int k1, .int k2, .int k3]))) (hW0 : WF v) : FMet G l yX1_refuseNoCousin wsX1_refuseNoCousin ({ frames := 1, cells := 0, slots := 0, locals := 22 } : Room) [.ref y] ω (fun vv9 τ9 => vv9 = some (.int (-1)) ∧ τ9.1 = ω.1 ∧ τ9.2 (a + 51) = some (.inr (9, [.int 4, .int (v 0 1), .int 0])) ∧ ∀ q : Nat, ¬ q = (a + 51) → τ9.2 q = ω.2 q) 0 0 := by
  refine fw_ofW (cc := cX1_refuseNoCousin) (maxL := 1) (ret := (some .int)) (by decide) rfl (Nat.le_of_ble_eq_true rfl) ?_
  intro pP eE sS mI ar9 bl9 meth cD ls hx hb hr hlocks hml hts hown hnm hW hR hl
  have hK := hL.K hW
  have hS : va_S (fwA G) sS.heap sS.heap [] := va_S.rf
  have hin0 : ∀ w ∈ u_ws RX0 TX0 9, w ∈ wsX1_refuseNoCousin := by decide +kernel
  have hin1 : ∀ w ∈ u_ws RX1 TX1 2, w ∈ wsX1_refuseNoCousin := by decide +kernel
  have hl : lv_has ls 1 [(0, .ref y)] := hl
  obtain ⟨h0, h1, h2, h3, h4, h5, hLf, hCo⟩ := id hA
  obtain ⟨c, hc8, hc, hcc⟩ := okN_of hW0.1
  obtain ⟨cc, hd5, hd, hdd⟩ := okN_of hW0.2.1
  have hs : ∀ j, j < c → v 3 j = nI (stN v j) ∧ stN v j ≤ 8 := fun j hj => (hW0.2.2 j (by rw [hcc]; exact hj)).1
  have hfo : ∀ j, j < c → v 4 j = nI (cN (v 4 j)) ∧ cN (v 4 j) ≤ 3 := fun j hj => (hW0.2.2 j (by rw [hcc]; exact hj)).2
  refine lv_aload_n hx hb dX1_refuseNoCousin_0 rfl (lv_at hl 0 rfl) ?_
  refine fw_get (v := .ref (a + 51)) (C := RX1) (T := TX1) (N := 2) hx hb hts hin1 hown hK hR hy rfl 1 (by decide) (hts (.fieldLink RX1 21 "UnreadLeaflets$Changes" "kept" "LUnreadLeaflets$Reason;") (by decide +kernel)) rfl dX1_refuseNoCousin_1 ?_
  refine lv_iconst (v := 4) hx hb dX1_refuseNoCousin_4 (by decide) ?_
  refine lv_aload_n hx hb dX1_refuseNoCousin_5 rfl (lv_at hl 0 rfl) ?_
  refine fw_get (v := .ref a) (C := RX1) (T := TX1) (N := 2) hx hb hts hin1 hown hK hR hy rfl 0 (by decide) (hts (.fieldLink RX1 12 "UnreadLeaflets$Changes" "archive" "LUnreadLeaflets$Archive;") (by decide +kernel)) rfl dX1_refuseNoCousin_6 ?_
  refine fw_get (v := .int (v 0 1)) (C := RX0) (T := TX0) (N := 9) hx hb hts hin0 hown hK hR h0 rfl 3 (by decide) (hts (.fieldLink RX1 33 "UnreadLeaflets$Archive" "cousinCount" "I") (by decide +kernel)) rfl dX1_refuseNoCousin_9 ?_
  refine fw_call (va_runV (As := [.int 4, .int (v 0 1)]) (rest := []) ⟨hx, hb, hml, hown, hts⟩ (c_X7_refuse G hL l ω (a + 51) k1 k2 k3 4 (v 0 1) hk) (cwV 2 hts gX1_refuseNoCousin_X7_refuse rfl rfl rfl (by decide +kernel) ⟨Nat.le_of_ble_eq_true rfl, Nat.le_of_ble_eq_true rfl⟩) (fw_preV hW hK hR hk rfl) rfl rfl hl.1 rfl (lv_room (Nat.le_of_ble_eq_true rfl)) dX1_refuseNoCousin_12 ⟨Nat.le_of_ble_eq_true rfl, Nat.le_of_ble_eq_true rfl⟩) hS (fun v_1 ω_2 H locs hq_3 hR hS => ?_)
  obtain ⟨rfl, z_4, f_6, fr_5⟩ := hq_3
  refine W.eq (g2 := F0 mI 15 ls [.int (-1)]) rfl ?_
  have fr_7 : ∀ q : Nat, ¬ q = (a + 51) → ω_2.2 q = ω.2 q := by
    intro q h0
    rw [fr_5 q (by omega)]
  have z_8 : ω_2.1 = ω.1 := by rw [z_4]
  refine fw_iret hx hb hr hlocks hR hS dX1_refuseNoCousin_15 ⟨?_, z_8, f_6, fr_7⟩
  · refine congrArg (fun z => some (Value.int z)) ?_
    exact rfl
set_option maxHeartbeats 4000000 in
set_option maxRecDepth 100000 in
theorem c_X1_moveBox (G : FG) (hL : FL G) (l : Launch) (ω : FWd) (y a : Nat) (v : Nat → Nat → Int32) (k1 k2 k3 : Int32) (hy : ω.2 y = some (.inr (3, [.ref a, .ref (a + 51)]))) (hay : a = y + 1) (hA : ArcS G ω.2 a v) (hk : ω.2 (a + 51) = some (.inr (9, [.int k1, .int k2, .int k3]))) (hW0 : WF v) (m sh : Int32) : FMet G l yX1_moveBox wsX1_moveBox ({ frames := 2, cells := 0, slots := 0, locals := 44 } : Room) [.ref y, .int m, .int sh] ω (CQ G a ω (moveC v k1 k2 k3 m sh)) 0 0 := by
  refine fw_ofW (cc := cX1_moveBox) (maxL := 5) (ret := (some .int)) (by decide) rfl (Nat.le_of_ble_eq_true rfl) ?_
  intro pP eE sS mI ar9 bl9 meth cD ls hx hb hr hlocks hml hts hown hnm hW hR hl
  have hK := hL.K hW
  have hS : va_S (fwA G) sS.heap sS.heap [] := va_S.rf
  have hin0 : ∀ w ∈ u_ws RX0 TX0 9, w ∈ wsX1_moveBox := by decide +kernel
  have hin1 : ∀ w ∈ u_ws RX1 TX1 2, w ∈ wsX1_moveBox := by decide +kernel
  have hin5 : ∀ w ∈ u_ws RX5 TX5 9, w ∈ wsX1_moveBox := by decide +kernel
  have hl : lv_has ls 5 [(0, .ref y), (1, .int m), (2, .int sh)] := hl
  obtain ⟨h0, h1, h2, h3, h4, h5, hLf, hCo⟩ := id hA
  obtain ⟨c, hc8, hc, hcc⟩ := okN_of hW0.1
  obtain ⟨cc, hd5, hd, hdd⟩ := okN_of hW0.2.1
  have hs : ∀ j, j < c → v 3 j = nI (stN v j) ∧ stN v j ≤ 8 := fun j hj => (hW0.2.2 j (by rw [hcc]; exact hj)).1
  have hfo : ∀ j, j < c → v 4 j = nI (cN (v 4 j)) ∧ cN (v 4 j) ≤ 3 := fun j hj => (hW0.2.2 j (by rw [hcc]; exact hj)).2
  refine lv_aload_n hx hb dX1_moveBox_0 rfl (lv_at hl 0 rfl) ?_
  refine fw_get (v := .ref a) (C := RX1) (T := TX1) (N := 2) hx hb hts hin1 hown hK hR hy rfl 0 (by decide) (hts (.fieldLink RX1 12 "UnreadLeaflets$Changes" "archive" "LUnreadLeaflets$Archive;") (by decide +kernel)) rfl dX1_moveBox_1 ?_
  refine lv_iload_n hx hb dX1_moveBox_4 rfl (lv_at hl 1 rfl) ?_
  refine fw_call (va_runV (As := [.int m]) (rest := []) ⟨hx, hb, hml, hown, hts⟩ (c_X0_hasLeaflet G hL l ω a v hA  m ) (cwV 1 hts gX1_moveBox_X0_hasLeaflet rfl rfl rfl (by decide +kernel) ⟨Nat.le_of_ble_eq_true rfl, Nat.le_of_ble_eq_true rfl⟩) (fw_preV hW hK hR h0 rfl) rfl rfl hl.1 rfl (lv_room (Nat.le_of_ble_eq_true rfl)) dX1_moveBox_5 ⟨Nat.le_of_ble_eq_true rfl, Nat.le_of_ble_eq_true rfl⟩) hS (fun v_1 ω_2 H locs hq_3 hR hS => ?_)
  obtain ⟨rfl, hq_3⟩ := hq_3
  rw [hq_3] at hR
  refine W.eq (g2 := F0 mI 8 ls [.int (bz (inB m 0 (v 0 0 - 1)))]) rfl ?_
  refine lv_if_ne (tgt := 16) hx hb dX1_moveBox_8 (by decide) (fun c_4 => ?_) (fun c_4 => ?_)
  · skip
    have c_4 := bz_ne c_4
    obtain ⟨j, hj2, rfl⟩ := in_c hc hc8 c_4
    have hcj : cN (nI j) = j := cN_nI (by omega)
    refine lv_iload_n hx hb dX1_moveBox_16 rfl (lv_at hl 2 rfl) ?_
    refine fw_call (va_runSN (As := [.int sh]) (rest := []) ⟨hx, hb, hml, hown, hts⟩ (c_X10_isShelf G hL l ω sh) ⟨va_cnB 1 hts gX1_moveBox_X10_isShelf_n36 rfl rfl rfl (hL.N hW (hh := RX10) (by decide +kernel)) (hts (.initialized RX10) (by decide +kernel)) (by decide +kernel) ⟨Nat.le_of_ble_eq_true rfl, Nat.le_of_ble_eq_true rfl⟩, hts (.static yX10_isShelf) (by decide +kernel), trivial⟩ (fw_preS hW hR) rfl rfl hl.1 rfl (lv_room (Nat.le_of_ble_eq_true rfl)) dX1_moveBox_17 ⟨Nat.le_of_ble_eq_true rfl, Nat.le_of_ble_eq_true rfl⟩) hS (fun v_5 ω_6 H locs hq_7 hR hS => ?_)
    obtain ⟨rfl, hq_7⟩ := hq_7
    rw [hq_7] at hR
    refine W.eq (g2 := F0 mI 20 ls [.int (bz (inB sh 0 3))]) rfl ?_
    refine lv_if_ne (tgt := 33) hx hb dX1_moveBox_20 (by decide) (fun c_8 => ?_) (fun c_8 => ?_)
    · skip
      have c_8 := bz_ne c_8
      refine lv_aload_n hx hb dX1_moveBox_33 rfl (lv_at hl 0 rfl) ?_
      refine fw_get (v := .ref a) (C := RX1) (T := TX1) (N := 2) hx hb hts hin1 hown hK hR hy rfl 0 (by decide) (hts (.fieldLink RX1 12 "UnreadLeaflets$Changes" "archive" "LUnreadLeaflets$Archive;") (by decide +kernel)) rfl dX1_moveBox_34 ?_
      refine fw_get (v := .ref (a + 1)) (C := RX0) (T := TX0) (N := 9) hx hb hts hin0 hown hK hR h0 rfl 0 (by decide) (hts (.fieldLink RX1 43 "UnreadLeaflets$Archive" "leaflets" "[LUnreadLeaflets$Leaflet;") (by decide +kernel)) rfl dX1_moveBox_37 ?_
      refine lv_iload_n hx hb dX1_moveBox_40 rfl (lv_at hl 1 rfl) ?_
      refine fw_aald (b := a + 6 + 5 * j) hx hb hK hR h1 rfl (vp_in_nI (by omega) (by omega)) (by rw [nI_clamp (by omega)]) dX1_moveBox_41 ?_
      refine lv_astore_n (lv' := [(3, .ref (a + 6 + 5 * j)), (0, .ref y), (1, .int (nI j)), (2, .int sh)]) hx hb dX1_moveBox_42 rfl hl (by decide) rfl (fun ls hl => ?_)
      refine lv_aload_n hx hb dX1_moveBox_43 rfl (lv_at hl 0 rfl) ?_
      have f_9 : ω.2 (a + 6 + 5 * j) = some (.inr (7, [.int (v 3 j), .int (v 4 j), .int (v 5 j), .int (v 6 j - 1), .int (v 7 j), .ref (a + 6 + 5 * j + 1), .ref (a + 6 + 5 * j + 2), .ref (a + 6 + 5 * j + 3), .ref (a + 6 + 5 * j + 4)])) := (hLf j (by omega)).1
      refine fw_get (v := .int (v 5 j)) (C := RX5) (T := TX5) (N := 9) hx hb hts hin5 hown hK hR f_9 rfl 2 (by decide) (hts (.fieldLink RX1 168 "UnreadLeaflets$Leaflet" "shelf" "I") (by decide +kernel)) rfl dX1_moveBox_44 ?_
      refine lv_istore (lv' := [(4, .int (v 5 j)), (3, .ref (a + 6 + 5 * j)), (0, .ref y), (1, .int (nI j)), (2, .int sh)]) hx hb dX1_moveBox_47 hl (by decide) rfl (fun ls hl => ?_)
      refine lv_iload hx hb dX1_moveBox_49 (lv_at hl 0 rfl) ?_
      refine lv_iload_n hx hb dX1_moveBox_51 rfl (lv_at hl 4 rfl) ?_
      refine lv_icmp_ne (tgt := 66) hx hb dX1_moveBox_52 (by decide) (fun c_10 => ?_) (fun c_10 => ?_)
      · skip
        refine lv_aload_n hx hb dX1_moveBox_66 rfl (lv_at hl 2 rfl) ?_
        refine fw_get (v := .ref a) (C := RX1) (T := TX1) (N := 2) hx hb hts hin1 hown hK hR hy rfl 0 (by decide) (hts (.fieldLink RX1 12 "UnreadLeaflets$Changes" "archive" "LUnreadLeaflets$Archive;") (by decide +kernel)) rfl dX1_moveBox_67 ?_
        refine lv_iload_n hx hb dX1_moveBox_70 rfl (lv_at hl 4 rfl) ?_
        refine fw_call (va_runV (As := [.int sh]) (rest := []) ⟨hx, hb, hml, hown, hts⟩ (c_X0_isFull G hL l ω a v hA c hc hc8 sh ) (cwV 1 hts gX1_moveBox_X0_isFull rfl rfl rfl (by decide +kernel) ⟨Nat.le_of_ble_eq_true rfl, Nat.le_of_ble_eq_true rfl⟩) (fw_preV hW hK hR h0 rfl) rfl rfl hl.1 rfl (lv_room (Nat.le_of_ble_eq_true rfl)) dX1_moveBox_71 ⟨Nat.le_of_ble_eq_true rfl, Nat.le_of_ble_eq_true rfl⟩) hS (fun v_11 ω_12 H locs hq_13 hR hS => ?_)
        obtain ⟨rfl, hq_13⟩ := hq_13
        rw [hq_13] at hR
        refine W.eq (g2 := F0 mI 74 ls [.int (bz (¬ popF (onJ v sh c) < 3))]) rfl ?_
        refine lv_if_eq (tgt := 87) hx hb dX1_moveBox_74 (by decide) (fun c_14 => ?_) (fun c_14 => ?_)
        · skip
          have c_14 := bz_eq c_14
          refine lv_aload_n hx hb dX1_moveBox_87 rfl (lv_at hl 1 rfl) ?_
          refine lv_iload_n hx hb dX1_moveBox_88 rfl (lv_at hl 4 rfl) ?_
          refine fw_put (v := .int sh) (C := RX5) (T := TX5) (N := 9) hx hb hts hin5 tyX5 tyX5_ok nmX5 hown hK hR hS f_9 rfl 2 (by decide) (hts (.fieldLink RX1 168 "UnreadLeaflets$Leaflet" "shelf" "I") (by decide +kernel)) rfl rfl rfl (Nat.le_of_ble_eq_true rfl) dX1_moveBox_89 (fun H locs hR hS => ?_)
          obtain ⟨ω_15, hw_16⟩ : ∃ τ : FWd, τ = (ω.1, va_up ω.2 (a + 6 + 5 * j) (some (.inr (7, [.int (v 3 j), .int (v 4 j), .int sh, .int (v 6 j - 1), .int (v 7 j), .ref (a + 6 + 5 * j + 1), .ref (a + 6 + 5 * j + 2), .ref (a + 6 + 5 * j + 3), .ref (a + 6 + 5 * j + 4)])))) := ⟨_, rfl⟩
          have hR : fR G ω_15 H := by rw [hw_16]; exact hR
          have f_17 : ω_15.2 (a + 6 + 5 * j) = some (.inr (7, [.int (v 3 j), .int (v 4 j), .int sh, .int (v 6 j - 1), .int (v 7 j), .ref (a + 6 + 5 * j + 1), .ref (a + 6 + 5 * j + 2), .ref (a + 6 + 5 * j + 3), .ref (a + 6 + 5 * j + 4)])) := by rw [hw_16]; exact va_up_at
          have fr_18 : ∀ q : Nat, ¬ q = (a + 6 + 5 * j) → ω_15.2 q = ω.2 q := fun q hq => by rw [hw_16]; exact va_up_off hq
          have z_19 : ω_15.1 = ω.1 := by rw [hw_16]
          refine lv_iload hx hb dX1_moveBox_92 (lv_at hl 0 rfl) ?_
          refine fw_iret hx hb hr hlocks hR hS dX1_moveBox_94 ?_
          have z_20 : ω_15.1 = ω.1 := by rw [z_19]
          have fr_21 : ∀ q : Nat, ¬ (a ≤ q ∧ q < a + 52) → ω_15.2 q = ω.2 q := by
            intro q hq0
            rw [fr_18 q (by omega)]
          have f_23 : ω_15.2 (a + 51) = some (.inr (9, [.int k1, .int k2, .int k3])) := (fr_18 (a + 51) (by omega)).trans hk
          have f_24 : ω_15.2 a = some (.inr (2, [.ref (a + 1), .int (v 0 0), .ref (a + 2), .int (v 0 1), .ref (a + 3), .int (v 0 2), .int (v 0 3), .int (v 0 4), .int (v 0 5)])) := (fr_18 a (by omega)).trans h0
          have f_25 : ω_15.2 (a + 4) = some (.inl (G.2.1 0, 6, .inl (v 1))) := (fr_18 (a + 4) (by omega)).trans h4
          have f_26 : ω_15.2 (a + 5) = some (.inl (G.2.1 0, 6, .inl (v 2))) := (fr_18 (a + 5) (by omega)).trans h5
          have f_28 : ω.2 (a + 6 + 5 * j + 1) = some (.inl (G.2.1 0, 8, .inl (v (10 + j)))) := (hLf j (by omega)).2.1
          have f_29 : ω_15.2 (a + 6 + 5 * j + 1) = some (.inl (G.2.1 0, 8, .inl (v (10 + j)))) := (fr_18 (a + 6 + 5 * j + 1) (by omega)).trans f_28
          have f_30 : ω.2 (a + 6 + 5 * j + 2) = some (.inl (G.2.1 0, 8, .inl (v (20 + j)))) := (hLf j (by omega)).2.2.1
          have f_31 : ω_15.2 (a + 6 + 5 * j + 2) = some (.inl (G.2.1 0, 8, .inl (v (20 + j)))) := (fr_18 (a + 6 + 5 * j + 2) (by omega)).trans f_30
          have f_32 : ω.2 (a + 6 + 5 * j + 3) = some (.inl (G.2.1 0, 8, .inl (v (30 + j)))) := (hLf j (by omega)).2.2.2.1
          have f_33 : ω_15.2 (a + 6 + 5 * j + 3) = some (.inl (G.2.1 0, 8, .inl (v (30 + j)))) := (fr_18 (a + 6 + 5 * j + 3) (by omega)).trans f_32
          have f_34 : ω.2 (a + 6 + 5 * j + 4) = some (.inl (G.2.1 0, 8, .inl (fun i9 => v (40 + j) i9 + 1))) := (hLf j (by omega)).2.2.2.2
          have f_35 : ω_15.2 (a + 6 + 5 * j + 4) = some (.inl (G.2.1 0, 8, .inl (fun i9 => v (40 + j) i9 + 1))) := (fr_18 (a + 6 + 5 * j + 4) (by omega)).trans f_34
          have hlf_27 : LeafS G ω_15.2 (a + 6 + 5 * j) (set1 v 5 j sh) j := by
            refine ⟨f_17.trans (congrArg some ?_), f_29.trans (congrArg some ?_), f_31.trans (congrArg some ?_), f_33.trans (congrArg some ?_), f_35.trans (congrArg some ?_)⟩
            all_goals first | rfl | (simp [set1, setR, upd, ne_big, ne_big']; done)
          have hA_22 : ArcS G ω_15.2 a (set1 v 5 j sh) := by
            refine hA.gen _ (j) (5) (f_24.trans (congrArg some ?_)) (f_25.trans (congrArg some ?_)) (f_26.trans (congrArg some ?_)) (fun hk9 => ?_) (fun hc9 => ?_) (fun q q1 q2 q3 q4 q5 q6 => ?_) (fun j9 h9 n9 => ?_) (fun j9 h9 n9 => ?_) (by omega) (by omega)
            · first | rfl | (simp [set1, setR, upd, ne_big, ne_big']; done)
            · first | rfl | (simp [set1, setR, upd, ne_big, ne_big']; done)
            · first | rfl | (simp [set1, setR, upd, ne_big, ne_big']; done)
            · exact hlf_27
            · exact absurd hc9 (by decide)
            · skip
              rw [fr_18 q (by omega)]
            · exact LeafEq.rf.s1 (by decide) n9
            · constructor <;> first | rfl | (simp [set1, setR, upd, n9, ne_big, ne_big']; done)
          have hr_36 : moveC v k1 k2 k3 (nI j) sh = ((v 5 j, (set1 v 5 j sh), k1, k2, k3) : CR) := by
            simp only [moveC, hcc, hdd, hcj]
            rw [if_pos c_4, if_pos c_8, if_neg c_10, if_pos (Decidable.of_not_not c_14)]
          rw [hr_36]
          exact ⟨rfl, z_20, hA_22, f_23, fr_21⟩
        · skip
          have c_14 := bz_ne c_14
          refine lv_aload_n hx hb dX1_moveBox_77 rfl (lv_at hl 2 rfl) ?_
          refine fw_get (v := .ref (a + 51)) (C := RX1) (T := TX1) (N := 2) hx hb hts hin1 hown hK hR hy rfl 1 (by decide) (hts (.fieldLink RX1 21 "UnreadLeaflets$Changes" "kept" "LUnreadLeaflets$Reason;") (by decide +kernel)) rfl dX1_moveBox_78 ?_
          refine lv_iconst (v := 5) hx hb dX1_moveBox_81 (by decide) ?_
          refine lv_iload_n hx hb dX1_moveBox_82 rfl (lv_at hl 4 rfl) ?_
          refine fw_call (va_runV (As := [.int 5, .int sh]) (rest := []) ⟨hx, hb, hml, hown, hts⟩ (c_X7_refuse G hL l ω (a + 51) k1 k2 k3 5 sh hk) (cwV 2 hts gX1_moveBox_X7_refuse rfl rfl rfl (by decide +kernel) ⟨Nat.le_of_ble_eq_true rfl, Nat.le_of_ble_eq_true rfl⟩) (fw_preV hW hK hR hk rfl) rfl rfl hl.1 rfl (lv_room (Nat.le_of_ble_eq_true rfl)) dX1_moveBox_83 ⟨Nat.le_of_ble_eq_true rfl, Nat.le_of_ble_eq_true rfl⟩) hS (fun v_37 ω_38 H locs hq_39 hR hS => ?_)
          obtain ⟨rfl, z_40, f_42, fr_41⟩ := hq_39
          refine W.eq (g2 := F0 mI 86 ls [.int (-1)]) rfl ?_
          refine fw_iret hx hb hr hlocks hR hS dX1_moveBox_86 ?_
          have z_43 : ω_38.1 = ω.1 := by rw [z_40]
          have fr_44 : ∀ q : Nat, ¬ (a ≤ q ∧ q < a + 52) → ω_38.2 q = ω.2 q := by
            intro q hq0
            rw [fr_41 q (by omega)]
          have hA_45 : ArcS G ω_38.2 a v := hA.keep (fun q q1 q2 => by
            rw [fr_41 q (by omega)])
          have hr_46 : moveC v k1 k2 k3 (nI j) sh = (((-1), v, 5, sh, 0) : CR) := by
            simp only [moveC, hcc, hdd, hcj]
            rw [if_pos c_4, if_pos c_8, if_neg c_10, if_neg c_14]
          rw [hr_46]
          exact ⟨rfl, z_43, hA_45, f_42, fr_44⟩
      · skip
        refine lv_aload_n hx hb dX1_moveBox_55 rfl (lv_at hl 2 rfl) ?_
        refine fw_get (v := .ref (a + 51)) (C := RX1) (T := TX1) (N := 2) hx hb hts hin1 hown hK hR hy rfl 1 (by decide) (hts (.fieldLink RX1 21 "UnreadLeaflets$Changes" "kept" "LUnreadLeaflets$Reason;") (by decide +kernel)) rfl dX1_moveBox_56 ?_
        refine lv_bipush (v := 12) hx hb dX1_moveBox_59 (by decide) ?_
        refine lv_iload_n hx hb dX1_moveBox_61 rfl (lv_at hl 4 rfl) ?_
        refine fw_call (va_runV (As := [.int 12, .int sh]) (rest := []) ⟨hx, hb, hml, hown, hts⟩ (c_X7_refuse G hL l ω (a + 51) k1 k2 k3 12 sh hk) (cwV 2 hts gX1_moveBox_X7_refuse rfl rfl rfl (by decide +kernel) ⟨Nat.le_of_ble_eq_true rfl, Nat.le_of_ble_eq_true rfl⟩) (fw_preV hW hK hR hk rfl) rfl rfl hl.1 rfl (lv_room (Nat.le_of_ble_eq_true rfl)) dX1_moveBox_62 ⟨Nat.le_of_ble_eq_true rfl, Nat.le_of_ble_eq_true rfl⟩) hS (fun v_47 ω_48 H locs hq_49 hR hS => ?_)
        obtain ⟨rfl, z_50, f_52, fr_51⟩ := hq_49
        refine W.eq (g2 := F0 mI 65 ls [.int (-1)]) rfl ?_
        refine fw_iret hx hb hr hlocks hR hS dX1_moveBox_65 ?_
        have z_53 : ω_48.1 = ω.1 := by rw [z_50]
        have fr_54 : ∀ q : Nat, ¬ (a ≤ q ∧ q < a + 52) → ω_48.2 q = ω.2 q := by
          intro q hq0
          rw [fr_51 q (by omega)]
        have hA_55 : ArcS G ω_48.2 a v := hA.keep (fun q q1 q2 => by
          rw [fr_51 q (by omega)])
        have hr_56 : moveC v k1 k2 k3 (nI j) sh = (((-1), v, 12, sh, 0) : CR) := by
          simp only [moveC, hcc, hdd, hcj]
          rw [if_pos c_4, if_pos c_8, if_pos c_10]
        rw [hr_56]
        exact ⟨rfl, z_53, hA_55, f_52, fr_54⟩
    · skip
      have c_8 := bz_eq c_8
      refine lv_aload_n hx hb dX1_moveBox_23 rfl (lv_at hl 0 rfl) ?_
      refine fw_get (v := .ref (a + 51)) (C := RX1) (T := TX1) (N := 2) hx hb hts hin1 hown hK hR hy rfl 1 (by decide) (hts (.fieldLink RX1 21 "UnreadLeaflets$Changes" "kept" "LUnreadLeaflets$Reason;") (by decide +kernel)) rfl dX1_moveBox_24 ?_
      refine lv_iconst (v := 1) hx hb dX1_moveBox_27 (by decide) ?_
      refine lv_iconst (v := 0) hx hb dX1_moveBox_28 (by decide) ?_
      refine fw_call (va_runV (As := [.int 1, .int 0]) (rest := []) ⟨hx, hb, hml, hown, hts⟩ (c_X7_refuse G hL l ω (a + 51) k1 k2 k3 1 0 hk) (cwV 2 hts gX1_moveBox_X7_refuse rfl rfl rfl (by decide +kernel) ⟨Nat.le_of_ble_eq_true rfl, Nat.le_of_ble_eq_true rfl⟩) (fw_preV hW hK hR hk rfl) rfl rfl hl.1 rfl (lv_room (Nat.le_of_ble_eq_true rfl)) dX1_moveBox_29 ⟨Nat.le_of_ble_eq_true rfl, Nat.le_of_ble_eq_true rfl⟩) hS (fun v_57 ω_58 H locs hq_59 hR hS => ?_)
      obtain ⟨rfl, z_60, f_62, fr_61⟩ := hq_59
      refine W.eq (g2 := F0 mI 32 ls [.int (-1)]) rfl ?_
      refine fw_iret hx hb hr hlocks hR hS dX1_moveBox_32 ?_
      have z_63 : ω_58.1 = ω.1 := by rw [z_60]
      have fr_64 : ∀ q : Nat, ¬ (a ≤ q ∧ q < a + 52) → ω_58.2 q = ω.2 q := by
        intro q hq0
        rw [fr_61 q (by omega)]
      have hA_65 : ArcS G ω_58.2 a v := hA.keep (fun q q1 q2 => by
        rw [fr_61 q (by omega)])
      have hr_66 : moveC v k1 k2 k3 (nI j) sh = (((-1), v, 1, 0, 0) : CR) := by
        simp only [moveC, hcc, hdd, hcj]
        rw [if_pos c_4, if_neg c_8]
      rw [hr_66]
      exact ⟨rfl, z_63, hA_65, f_62, fr_64⟩
  · skip
    have c_4 := bz_eq c_4
    refine lv_aload_n hx hb dX1_moveBox_11 rfl (lv_at hl 0 rfl) ?_
    refine fw_call (va_runV (As := []) (rest := []) ⟨hx, hb, hml, hown, hts⟩ (c_X1_refuseNoLeaflet G hL l ω y a v k1 k2 k3 hy hay hA hk hW0) (cwV 0 hts gX1_moveBox_X1_refuseNoLeaflet rfl rfl rfl (by decide +kernel) ⟨Nat.le_of_ble_eq_true rfl, Nat.le_of_ble_eq_true rfl⟩) (fw_preV hW hK hR hy rfl) rfl rfl hl.1 rfl (lv_room (Nat.le_of_ble_eq_true rfl)) dX1_moveBox_12 ⟨Nat.le_of_ble_eq_true rfl, Nat.le_of_ble_eq_true rfl⟩) hS (fun v_67 ω_68 H locs hq_69 hR hS => ?_)
    obtain ⟨rfl, z_70, f_72, fr_71⟩ := hq_69
    refine W.eq (g2 := F0 mI 15 ls [.int (-1)]) rfl ?_
    refine fw_iret hx hb hr hlocks hR hS dX1_moveBox_15 ?_
    have z_73 : ω_68.1 = ω.1 := by rw [z_70]
    have fr_74 : ∀ q : Nat, ¬ (a ≤ q ∧ q < a + 52) → ω_68.2 q = ω.2 q := by
      intro q hq0
      rw [fr_71 q (by omega)]
    have hA_75 : ArcS G ω_68.2 a v := hA.keep (fun q q1 q2 => by
      rw [fr_71 q (by omega)])
    have hr_76 : moveC v k1 k2 k3 m sh = (((-1), v, 3, (v 0 0), 0) : CR) := by
      simp only [moveC, hcc, hdd]
      rw [if_neg c_4]
    rw [hr_76]
    exact ⟨rfl, z_73, hA_75, f_72, fr_74⟩
set_option maxHeartbeats 4000000 in
set_option maxRecDepth 100000 in
theorem c_X1_layLeaflet (G : FG) (hL : FL G) (l : Launch) (ω : FWd) (y a : Nat) (v : Nat → Nat → Int32) (k1 k2 k3 : Int32) (hy : ω.2 y = some (.inr (3, [.ref a, .ref (a + 51)]))) (hay : a = y + 1) (hA : ArcS G ω.2 a v) (hk : ω.2 (a + 51) = some (.inr (9, [.int k1, .int k2, .int k3]))) (hW0 : WF v) (sh : Int32) : FMet G l yX1_layLeaflet wsX1_layLeaflet ({ frames := 2, cells := 0, slots := 0, locals := 44 } : Room) [.ref y, .int sh] ω (CQ G a ω (layC v k1 k2 k3 sh)) 0 0 := by
  refine fw_ofW (cc := cX1_layLeaflet) (maxL := 3) (ret := (some .int)) (by decide) rfl (Nat.le_of_ble_eq_true rfl) ?_
  intro pP eE sS mI ar9 bl9 meth cD ls hx hb hr hlocks hml hts hown hnm hW hR hl
  have hK := hL.K hW
  have hS : va_S (fwA G) sS.heap sS.heap [] := va_S.rf
  have hin0 : ∀ w ∈ u_ws RX0 TX0 9, w ∈ wsX1_layLeaflet := by decide +kernel
  have hin1 : ∀ w ∈ u_ws RX1 TX1 2, w ∈ wsX1_layLeaflet := by decide +kernel
  have hl : lv_has ls 3 [(0, .ref y), (1, .int sh)] := hl
  obtain ⟨h0, h1, h2, h3, h4, h5, hLf, hCo⟩ := id hA
  obtain ⟨c, hc8, hc, hcc⟩ := okN_of hW0.1
  obtain ⟨cc, hd5, hd, hdd⟩ := okN_of hW0.2.1
  have hs : ∀ j, j < c → v 3 j = nI (stN v j) ∧ stN v j ≤ 8 := fun j hj => (hW0.2.2 j (by rw [hcc]; exact hj)).1
  have hfo : ∀ j, j < c → v 4 j = nI (cN (v 4 j)) ∧ cN (v 4 j) ≤ 3 := fun j hj => (hW0.2.2 j (by rw [hcc]; exact hj)).2
  refine lv_iload_n hx hb dX1_layLeaflet_0 rfl (lv_at hl 1 rfl) ?_
  refine fw_call (va_runSN (As := [.int sh]) (rest := []) ⟨hx, hb, hml, hown, hts⟩ (c_X10_isShelf G hL l ω sh) ⟨va_cnB 1 hts gX1_layLeaflet_X10_isShelf_n36 rfl rfl rfl (hL.N hW (hh := RX10) (by decide +kernel)) (hts (.initialized RX10) (by decide +kernel)) (by decide +kernel) ⟨Nat.le_of_ble_eq_true rfl, Nat.le_of_ble_eq_true rfl⟩, hts (.static yX10_isShelf) (by decide +kernel), trivial⟩ (fw_preS hW hR) rfl rfl hl.1 rfl (lv_room (Nat.le_of_ble_eq_true rfl)) dX1_layLeaflet_1 ⟨Nat.le_of_ble_eq_true rfl, Nat.le_of_ble_eq_true rfl⟩) hS (fun v_1 ω_2 H locs hq_3 hR hS => ?_)
  obtain ⟨rfl, hq_3⟩ := hq_3
  rw [hq_3] at hR
  refine W.eq (g2 := F0 mI 4 ls [.int (bz (inB sh 0 3))]) rfl ?_
  refine lv_if_ne (tgt := 17) hx hb dX1_layLeaflet_4 (by decide) (fun c_4 => ?_) (fun c_4 => ?_)
  · skip
    have c_4 := bz_ne c_4
    refine lv_aload_n hx hb dX1_layLeaflet_17 rfl (lv_at hl 0 rfl) ?_
    refine fw_get (v := .ref a) (C := RX1) (T := TX1) (N := 2) hx hb hts hin1 hown hK hR hy rfl 0 (by decide) (hts (.fieldLink RX1 12 "UnreadLeaflets$Changes" "archive" "LUnreadLeaflets$Archive;") (by decide +kernel)) rfl dX1_layLeaflet_18 ?_
    refine fw_get (v := .int (v 0 0)) (C := RX0) (T := TX0) (N := 9) hx hb hts hin0 hown hK hR h0 rfl 1 (by decide) (hts (.fieldLink RX1 25 "UnreadLeaflets$Archive" "leafletCount" "I") (by decide +kernel)) rfl dX1_layLeaflet_21 ?_
    refine lv_bipush (v := 8) hx hb dX1_layLeaflet_24 (by decide) ?_
    refine lv_icmp_lt (tgt := 40) hx hb dX1_layLeaflet_26 (by decide) (fun c_5 => ?_) (fun c_5 => ?_)
    · skip
      have hc7 : c < 8 := by have h9 := c_5; rw [hc] at h9; exact (nI_ltI (by omega) (by omega)).mp h9
      refine lv_aload_n hx hb dX1_layLeaflet_40 rfl (lv_at hl 0 rfl) ?_
      refine fw_get (v := .ref a) (C := RX1) (T := TX1) (N := 2) hx hb hts hin1 hown hK hR hy rfl 0 (by decide) (hts (.fieldLink RX1 12 "UnreadLeaflets$Changes" "archive" "LUnreadLeaflets$Archive;") (by decide +kernel)) rfl dX1_layLeaflet_41 ?_
      refine lv_iload_n hx hb dX1_layLeaflet_44 rfl (lv_at hl 1 rfl) ?_
      refine fw_call (va_runV (As := [.int sh]) (rest := []) ⟨hx, hb, hml, hown, hts⟩ (c_X0_isFull G hL l ω a v hA c hc hc8 sh ) (cwV 1 hts gX1_layLeaflet_X0_isFull rfl rfl rfl (by decide +kernel) ⟨Nat.le_of_ble_eq_true rfl, Nat.le_of_ble_eq_true rfl⟩) (fw_preV hW hK hR h0 rfl) rfl rfl hl.1 rfl (lv_room (Nat.le_of_ble_eq_true rfl)) dX1_layLeaflet_45 ⟨Nat.le_of_ble_eq_true rfl, Nat.le_of_ble_eq_true rfl⟩) hS (fun v_6 ω_7 H locs hq_8 hR hS => ?_)
      obtain ⟨rfl, hq_8⟩ := hq_8
      rw [hq_8] at hR
      refine W.eq (g2 := F0 mI 48 ls [.int (bz (¬ popF (onJ v sh c) < 3))]) rfl ?_
      refine lv_if_eq (tgt := 61) hx hb dX1_layLeaflet_48 (by decide) (fun c_9 => ?_) (fun c_9 => ?_)
      · skip
        have c_9 := bz_eq c_9
        refine lv_aload_n hx hb dX1_layLeaflet_61 rfl (lv_at hl 0 rfl) ?_
        refine fw_get (v := .ref a) (C := RX1) (T := TX1) (N := 2) hx hb hts hin1 hown hK hR hy rfl 0 (by decide) (hts (.fieldLink RX1 12 "UnreadLeaflets$Changes" "archive" "LUnreadLeaflets$Archive;") (by decide +kernel)) rfl dX1_layLeaflet_62 ?_
        refine fw_get (v := .int (v 0 0)) (C := RX0) (T := TX0) (N := 9) hx hb hts hin0 hown hK hR h0 rfl 1 (by decide) (hts (.fieldLink RX1 25 "UnreadLeaflets$Archive" "leafletCount" "I") (by decide +kernel)) rfl dX1_layLeaflet_65 ?_
        refine W.eq (g2 := F0 mI 68 ls [.int (nI c)]) (by rw [hc]) ?_
        refine lv_istore_n (lv' := [(2, .int (nI c)), (0, .ref y), (1, .int sh)]) hx hb dX1_layLeaflet_68 rfl hl (by decide) rfl (fun ls hl => ?_)
        refine lv_aload_n hx hb dX1_layLeaflet_69 rfl (lv_at hl 1 rfl) ?_
        refine fw_get (v := .ref a) (C := RX1) (T := TX1) (N := 2) hx hb hts hin1 hown hK hR hy rfl 0 (by decide) (hts (.fieldLink RX1 12 "UnreadLeaflets$Changes" "archive" "LUnreadLeaflets$Archive;") (by decide +kernel)) rfl dX1_layLeaflet_70 ?_
        refine fw_get (v := .ref (a + 1)) (C := RX0) (T := TX0) (N := 9) hx hb hts hin0 hown hK hR h0 rfl 0 (by decide) (hts (.fieldLink RX1 43 "UnreadLeaflets$Archive" "leaflets" "[LUnreadLeaflets$Leaflet;") (by decide +kernel)) rfl dX1_layLeaflet_73 ?_
        refine lv_iload_n hx hb dX1_layLeaflet_76 rfl (lv_at hl 0 rfl) ?_
        refine fw_aald (b := a + 6 + 5 * c) hx hb hK hR h1 rfl (vp_in_nI (by omega) (by omega)) (by rw [nI_clamp (by omega)]) dX1_layLeaflet_77 ?_
        refine lv_iload_n hx hb dX1_layLeaflet_78 rfl (lv_at hl 2 rfl) ?_
        have f_10 : ω.2 (a + 6 + 5 * c) = some (.inr (7, [.int (v 3 c), .int (v 4 c), .int (v 5 c), .int (v 6 c - 1), .int (v 7 c), .ref (a + 6 + 5 * c + 1), .ref (a + 6 + 5 * c + 2), .ref (a + 6 + 5 * c + 3), .ref (a + 6 + 5 * c + 4)])) := (hLf c (by omega)).1
        refine fw_call (va_runV (As := [.int sh]) (rest := []) ⟨hx, hb, hml, hown, hts⟩ (c_X5_layOn G hL l ω (a + 6 + 5 * c) (v 3 c) (v 4 c) (v 5 c) (v 6 c - 1) (v 7 c) sh f_10) (cwV 1 hts gX1_layLeaflet_X5_layOn rfl rfl rfl (by decide +kernel) ⟨Nat.le_of_ble_eq_true rfl, Nat.le_of_ble_eq_true rfl⟩) (fw_preV hW hK hR f_10 rfl) rfl rfl hl.1 rfl (lv_room (Nat.le_of_ble_eq_true rfl)) dX1_layLeaflet_79 ⟨Nat.le_of_ble_eq_true rfl, Nat.le_of_ble_eq_true rfl⟩) hS (fun v_11 ω_12 H locs hq_13 hR hS => ?_)
        obtain ⟨rfl, z_14, f_16, fr_15⟩ := hq_13
        refine W.eq (g2 := F0 mI 82 ls []) rfl ?_
        refine lv_aload_n hx hb dX1_layLeaflet_82 rfl (lv_at hl 1 rfl) ?_
        have f_17 : ω_12.2 y = some (.inr (3, [.ref a, .ref (a + 51)])) := (fr_15 y (by omega)).trans hy
        refine fw_get (v := .ref a) (C := RX1) (T := TX1) (N := 2) hx hb hts hin1 hown hK hR f_17 rfl 0 (by decide) (hts (.fieldLink RX1 12 "UnreadLeaflets$Changes" "archive" "LUnreadLeaflets$Archive;") (by decide +kernel)) rfl dX1_layLeaflet_83 ?_
        refine lv_dup hx hb dX1_layLeaflet_86 rfl ?_
        have f_18 : ω_12.2 a = some (.inr (2, [.ref (a + 1), .int (v 0 0), .ref (a + 2), .int (v 0 1), .ref (a + 3), .int (v 0 2), .int (v 0 3), .int (v 0 4), .int (v 0 5)])) := (fr_15 a (by omega)).trans h0
        refine fw_get (v := .int (v 0 0)) (C := RX0) (T := TX0) (N := 9) hx hb hts hin0 hown hK hR f_18 rfl 1 (by decide) (hts (.fieldLink RX1 25 "UnreadLeaflets$Archive" "leafletCount" "I") (by decide +kernel)) rfl dX1_layLeaflet_87 ?_
        refine lv_iconst (v := 1) hx hb dX1_layLeaflet_90 (by decide) ?_
        refine lv_iadd hx hb dX1_layLeaflet_91 ?_
        refine fw_put (v := .int ((v 0 0) + 1)) (C := RX0) (T := TX0) (N := 9) hx hb hts hin0 tyX0 tyX0_ok nmX0 hown hK hR hS f_18 rfl 1 (by decide) (hts (.fieldLink RX1 25 "UnreadLeaflets$Archive" "leafletCount" "I") (by decide +kernel)) rfl rfl rfl (Nat.le_of_ble_eq_true rfl) dX1_layLeaflet_92 (fun H locs hR hS => ?_)
        obtain ⟨ω_19, hw_20⟩ : ∃ τ : FWd, τ = (ω_12.1, va_up ω_12.2 a (some (.inr (2, [.ref (a + 1), .int ((v 0 0) + 1), .ref (a + 2), .int (v 0 1), .ref (a + 3), .int (v 0 2), .int (v 0 3), .int (v 0 4), .int (v 0 5)])))) := ⟨_, rfl⟩
        have hR : fR G ω_19 H := by rw [hw_20]; exact hR
        have f_21 : ω_19.2 a = some (.inr (2, [.ref (a + 1), .int ((v 0 0) + 1), .ref (a + 2), .int (v 0 1), .ref (a + 3), .int (v 0 2), .int (v 0 3), .int (v 0 4), .int (v 0 5)])) := by rw [hw_20]; exact va_up_at
        have fr_22 : ∀ q : Nat, ¬ q = a → ω_19.2 q = ω_12.2 q := fun q hq => by rw [hw_20]; exact va_up_off hq
        have z_23 : ω_19.1 = ω_12.1 := by rw [hw_20]
        refine lv_iload_n hx hb dX1_layLeaflet_95 rfl (lv_at hl 0 rfl) ?_
        refine fw_iret hx hb hr hlocks hR hS dX1_layLeaflet_96 ?_
        have z_24 : ω_19.1 = ω.1 := by rw [z_23, z_14]
        have fr_25 : ∀ q : Nat, ¬ (a ≤ q ∧ q < a + 52) → ω_19.2 q = ω.2 q := by
          intro q hq0
          rw [fr_22 q (by omega)]
          rw [fr_15 q (by omega)]
        have f_27 : ω_12.2 (a + 51) = some (.inr (9, [.int k1, .int k2, .int k3])) := (fr_15 (a + 51) (by omega)).trans hk
        have f_28 : ω_19.2 (a + 51) = some (.inr (9, [.int k1, .int k2, .int k3])) := (fr_22 (a + 51) (by omega)).trans f_27
        have f_29 : ω_12.2 (a + 4) = some (.inl (G.2.1 0, 6, .inl (v 1))) := (fr_15 (a + 4) (by omega)).trans h4
        have f_30 : ω_19.2 (a + 4) = some (.inl (G.2.1 0, 6, .inl (v 1))) := (fr_22 (a + 4) (by omega)).trans f_29
        have f_31 : ω_12.2 (a + 5) = some (.inl (G.2.1 0, 6, .inl (v 2))) := (fr_15 (a + 5) (by omega)).trans h5
        have f_32 : ω_19.2 (a + 5) = some (.inl (G.2.1 0, 6, .inl (v 2))) := (fr_22 (a + 5) (by omega)).trans f_31
        have f_34 : ω_19.2 (a + 6 + 5 * c) = some (.inr (7, [.int 0, .int 0, .int sh, .int (-1), .int 0, .ref (a + 6 + 5 * c + 1), .ref (a + 6 + 5 * c + 2), .ref (a + 6 + 5 * c + 3), .ref (a + 6 + 5 * c + 4)])) := (fr_22 (a + 6 + 5 * c) (by omega)).trans f_16
        have f_35 : ω.2 (a + 6 + 5 * c + 1) = some (.inl (G.2.1 0, 8, .inl (v (10 + c)))) := (hLf c (by omega)).2.1
        have f_36 : ω_12.2 (a + 6 + 5 * c + 1) = some (.inl (G.2.1 0, 8, .inl (v (10 + c)))) := (fr_15 (a + 6 + 5 * c + 1) (by omega)).trans f_35
        have f_37 : ω_19.2 (a + 6 + 5 * c + 1) = some (.inl (G.2.1 0, 8, .inl (v (10 + c)))) := (fr_22 (a + 6 + 5 * c + 1) (by omega)).trans f_36
        have f_38 : ω.2 (a + 6 + 5 * c + 2) = some (.inl (G.2.1 0, 8, .inl (v (20 + c)))) := (hLf c (by omega)).2.2.1
        have f_39 : ω_12.2 (a + 6 + 5 * c + 2) = some (.inl (G.2.1 0, 8, .inl (v (20 + c)))) := (fr_15 (a + 6 + 5 * c + 2) (by omega)).trans f_38
        have f_40 : ω_19.2 (a + 6 + 5 * c + 2) = some (.inl (G.2.1 0, 8, .inl (v (20 + c)))) := (fr_22 (a + 6 + 5 * c + 2) (by omega)).trans f_39
        have f_41 : ω.2 (a + 6 + 5 * c + 3) = some (.inl (G.2.1 0, 8, .inl (v (30 + c)))) := (hLf c (by omega)).2.2.2.1
        have f_42 : ω_12.2 (a + 6 + 5 * c + 3) = some (.inl (G.2.1 0, 8, .inl (v (30 + c)))) := (fr_15 (a + 6 + 5 * c + 3) (by omega)).trans f_41
        have f_43 : ω_19.2 (a + 6 + 5 * c + 3) = some (.inl (G.2.1 0, 8, .inl (v (30 + c)))) := (fr_22 (a + 6 + 5 * c + 3) (by omega)).trans f_42
        have f_44 : ω.2 (a + 6 + 5 * c + 4) = some (.inl (G.2.1 0, 8, .inl (fun i9 => v (40 + c) i9 + 1))) := (hLf c (by omega)).2.2.2.2
        have f_45 : ω_12.2 (a + 6 + 5 * c + 4) = some (.inl (G.2.1 0, 8, .inl (fun i9 => v (40 + c) i9 + 1))) := (fr_15 (a + 6 + 5 * c + 4) (by omega)).trans f_44
        have f_46 : ω_19.2 (a + 6 + 5 * c + 4) = some (.inl (G.2.1 0, 8, .inl (fun i9 => v (40 + c) i9 + 1))) := (fr_22 (a + 6 + 5 * c + 4) (by omega)).trans f_45
        have hlf_33 : LeafS G ω_19.2 (a + 6 + 5 * c) (layV v c sh) c := by
          refine ⟨f_34.trans (congrArg some ?_), f_37.trans (congrArg some ?_), f_40.trans (congrArg some ?_), f_43.trans (congrArg some ?_), f_46.trans (congrArg some ?_)⟩
          all_goals first | rfl | (simp [set1, setR, upd, layV, ne_big, ne_big']; done)
        have hA_26 : ArcS G ω_19.2 a (layV v c sh) := by
          refine hA.gen _ (c) (5) (f_21.trans (congrArg some ?_)) (f_30.trans (congrArg some ?_)) (f_32.trans (congrArg some ?_)) (fun hk9 => ?_) (fun hc9 => ?_) (fun q q1 q2 q3 q4 q5 q6 => ?_) (fun j9 h9 n9 => ?_) (fun j9 h9 n9 => ?_) (by omega) (by omega)
          · first | rfl | (simp [set1, setR, upd, layV, ne_big, ne_big']; done)
          · first | rfl | (simp [set1, setR, upd, layV, ne_big, ne_big']; done)
          · first | rfl | (simp [set1, setR, upd, layV, ne_big, ne_big']; done)
          · exact hlf_33
          · exact absurd hc9 (by decide)
          · skip
            rw [fr_22 q (by omega)]
            rw [fr_15 q (by omega)]
          · exact layV_le n9
          · constructor <;> first | rfl | (simp [set1, setR, upd, layV, n9, ne_big, ne_big']; done)
        have hr_47 : layC v k1 k2 k3 sh = ((nI c, (layV v c sh), k1, k2, k3) : CR) := by
          simp only [layC, hcc, hdd]
          rw [if_pos c_4, if_pos c_5, if_pos (Decidable.of_not_not c_9)]
          rw [hc]
        rw [hr_47]
        exact ⟨rfl, z_24, hA_26, f_28, fr_25⟩
      · skip
        have c_9 := bz_ne c_9
        refine lv_aload_n hx hb dX1_layLeaflet_51 rfl (lv_at hl 0 rfl) ?_
        refine fw_get (v := .ref (a + 51)) (C := RX1) (T := TX1) (N := 2) hx hb hts hin1 hown hK hR hy rfl 1 (by decide) (hts (.fieldLink RX1 21 "UnreadLeaflets$Changes" "kept" "LUnreadLeaflets$Reason;") (by decide +kernel)) rfl dX1_layLeaflet_52 ?_
        refine lv_iconst (v := 5) hx hb dX1_layLeaflet_55 (by decide) ?_
        refine lv_iload_n hx hb dX1_layLeaflet_56 rfl (lv_at hl 1 rfl) ?_
        refine fw_call (va_runV (As := [.int 5, .int sh]) (rest := []) ⟨hx, hb, hml, hown, hts⟩ (c_X7_refuse G hL l ω (a + 51) k1 k2 k3 5 sh hk) (cwV 2 hts gX1_layLeaflet_X7_refuse rfl rfl rfl (by decide +kernel) ⟨Nat.le_of_ble_eq_true rfl, Nat.le_of_ble_eq_true rfl⟩) (fw_preV hW hK hR hk rfl) rfl rfl hl.1 rfl (lv_room (Nat.le_of_ble_eq_true rfl)) dX1_layLeaflet_57 ⟨Nat.le_of_ble_eq_true rfl, Nat.le_of_ble_eq_true rfl⟩) hS (fun v_48 ω_49 H locs hq_50 hR hS => ?_)
        obtain ⟨rfl, z_51, f_53, fr_52⟩ := hq_50
        refine W.eq (g2 := F0 mI 60 ls [.int (-1)]) rfl ?_
        refine fw_iret hx hb hr hlocks hR hS dX1_layLeaflet_60 ?_
        have z_54 : ω_49.1 = ω.1 := by rw [z_51]
        have fr_55 : ∀ q : Nat, ¬ (a ≤ q ∧ q < a + 52) → ω_49.2 q = ω.2 q := by
          intro q hq0
          rw [fr_52 q (by omega)]
        have hA_56 : ArcS G ω_49.2 a v := hA.keep (fun q q1 q2 => by
          rw [fr_52 q (by omega)])
        have hr_57 : layC v k1 k2 k3 sh = (((-1), v, 5, sh, 0) : CR) := by
          simp only [layC, hcc, hdd]
          rw [if_pos c_4, if_pos c_5, if_neg c_9]
        rw [hr_57]
        exact ⟨rfl, z_54, hA_56, f_53, fr_55⟩
    · skip
      refine lv_aload_n hx hb dX1_layLeaflet_29 rfl (lv_at hl 0 rfl) ?_
      refine fw_get (v := .ref (a + 51)) (C := RX1) (T := TX1) (N := 2) hx hb hts hin1 hown hK hR hy rfl 1 (by decide) (hts (.fieldLink RX1 21 "UnreadLeaflets$Changes" "kept" "LUnreadLeaflets$Reason;") (by decide +kernel)) rfl dX1_layLeaflet_30 ?_
      refine lv_iconst (v := 2) hx hb dX1_layLeaflet_33 (by decide) ?_
      refine lv_bipush (v := 8) hx hb dX1_layLeaflet_34 (by decide) ?_
      refine fw_call (va_runV (As := [.int 2, .int 8]) (rest := []) ⟨hx, hb, hml, hown, hts⟩ (c_X7_refuse G hL l ω (a + 51) k1 k2 k3 2 8 hk) (cwV 2 hts gX1_layLeaflet_X7_refuse rfl rfl rfl (by decide +kernel) ⟨Nat.le_of_ble_eq_true rfl, Nat.le_of_ble_eq_true rfl⟩) (fw_preV hW hK hR hk rfl) rfl rfl hl.1 rfl (lv_room (Nat.le_of_ble_eq_true rfl)) dX1_layLeaflet_36 ⟨Nat.le_of_ble_eq_true rfl, Nat.le_of_ble_eq_true rfl⟩) hS (fun v_58 ω_59 H locs hq_60 hR hS => ?_)
      obtain ⟨rfl, z_61, f_63, fr_62⟩ := hq_60
      refine W.eq (g2 := F0 mI 39 ls [.int (-1)]) rfl ?_
      refine fw_iret hx hb hr hlocks hR hS dX1_layLeaflet_39 ?_
      have z_64 : ω_59.1 = ω.1 := by rw [z_61]
      have fr_65 : ∀ q : Nat, ¬ (a ≤ q ∧ q < a + 52) → ω_59.2 q = ω.2 q := by
        intro q hq0
        rw [fr_62 q (by omega)]
      have hA_66 : ArcS G ω_59.2 a v := hA.keep (fun q q1 q2 => by
        rw [fr_62 q (by omega)])
      have hr_67 : layC v k1 k2 k3 sh = (((-1), v, 2, 8, 0) : CR) := by
        simp only [layC, hcc, hdd]
        rw [if_pos c_4, if_neg c_5]
      rw [hr_67]
      exact ⟨rfl, z_64, hA_66, f_63, fr_65⟩
  · skip
    have c_4 := bz_eq c_4
    refine lv_aload_n hx hb dX1_layLeaflet_7 rfl (lv_at hl 0 rfl) ?_
    refine fw_get (v := .ref (a + 51)) (C := RX1) (T := TX1) (N := 2) hx hb hts hin1 hown hK hR hy rfl 1 (by decide) (hts (.fieldLink RX1 21 "UnreadLeaflets$Changes" "kept" "LUnreadLeaflets$Reason;") (by decide +kernel)) rfl dX1_layLeaflet_8 ?_
    refine lv_iconst (v := 1) hx hb dX1_layLeaflet_11 (by decide) ?_
    refine lv_iconst (v := 0) hx hb dX1_layLeaflet_12 (by decide) ?_
    refine fw_call (va_runV (As := [.int 1, .int 0]) (rest := []) ⟨hx, hb, hml, hown, hts⟩ (c_X7_refuse G hL l ω (a + 51) k1 k2 k3 1 0 hk) (cwV 2 hts gX1_layLeaflet_X7_refuse rfl rfl rfl (by decide +kernel) ⟨Nat.le_of_ble_eq_true rfl, Nat.le_of_ble_eq_true rfl⟩) (fw_preV hW hK hR hk rfl) rfl rfl hl.1 rfl (lv_room (Nat.le_of_ble_eq_true rfl)) dX1_layLeaflet_13 ⟨Nat.le_of_ble_eq_true rfl, Nat.le_of_ble_eq_true rfl⟩) hS (fun v_68 ω_69 H locs hq_70 hR hS => ?_)
    obtain ⟨rfl, z_71, f_73, fr_72⟩ := hq_70
    refine W.eq (g2 := F0 mI 16 ls [.int (-1)]) rfl ?_
    refine fw_iret hx hb hr hlocks hR hS dX1_layLeaflet_16 ?_
    have z_74 : ω_69.1 = ω.1 := by rw [z_71]
    have fr_75 : ∀ q : Nat, ¬ (a ≤ q ∧ q < a + 52) → ω_69.2 q = ω.2 q := by
      intro q hq0
      rw [fr_72 q (by omega)]
    have hA_76 : ArcS G ω_69.2 a v := hA.keep (fun q q1 q2 => by
      rw [fr_72 q (by omega)])
    have hr_77 : layC v k1 k2 k3 sh = (((-1), v, 1, 0, 0) : CR) := by
      simp only [layC, hcc, hdd]
      rw [if_neg c_4]
    rw [hr_77]
    exact ⟨rfl, z_74, hA_76, f_73, fr_75⟩
set_option maxHeartbeats 4000000 in
set_option maxRecDepth 100000 in
theorem c_X1_addStep (G : FG) (hL : FL G) (l : Launch) (ω : FWd) (y a : Nat) (v : Nat → Nat → Int32) (k1 k2 k3 : Int32) (hy : ω.2 y = some (.inr (3, [.ref a, .ref (a + 51)]))) (hay : a = y + 1) (hA : ArcS G ω.2 a v) (hk : ω.2 (a + 51) = some (.inr (9, [.int k1, .int k2, .int k3]))) (hW0 : WF v) (m kind parts lang two : Int32) : FMet G l yX1_addStep wsX1_addStep ({ frames := 2, cells := 0, slots := 0, locals := 43 } : Room) [.ref y, .int m, .int kind, .int parts, .int lang, .int two] ω (CQ G a ω (addC v k1 k2 k3 m kind parts lang two)) 0 0 := by
  refine fw_ofW (cc := cX1_addStep) (maxL := 8) (ret := (some .int)) (by decide) rfl (Nat.le_of_ble_eq_true rfl) ?_
  intro pP eE sS mI ar9 bl9 meth cD ls hx hb hr hlocks hml hts hown hnm hW hR hl
  have hK := hL.K hW
  have hS : va_S (fwA G) sS.heap sS.heap [] := va_S.rf
  have hin0 : ∀ w ∈ u_ws RX0 TX0 9, w ∈ wsX1_addStep := by decide +kernel
  have hin1 : ∀ w ∈ u_ws RX1 TX1 2, w ∈ wsX1_addStep := by decide +kernel
  have hin5 : ∀ w ∈ u_ws RX5 TX5 9, w ∈ wsX1_addStep := by decide +kernel
  have hl : lv_has ls 8 [(0, .ref y), (1, .int m), (2, .int kind), (3, .int parts), (4, .int lang), (5, .int two)] := hl
  obtain ⟨h0, h1, h2, h3, h4, h5, hLf, hCo⟩ := id hA
  obtain ⟨c, hc8, hc, hcc⟩ := okN_of hW0.1
  obtain ⟨cc, hd5, hd, hdd⟩ := okN_of hW0.2.1
  have hs : ∀ j, j < c → v 3 j = nI (stN v j) ∧ stN v j ≤ 8 := fun j hj => (hW0.2.2 j (by rw [hcc]; exact hj)).1
  have hfo : ∀ j, j < c → v 4 j = nI (cN (v 4 j)) ∧ cN (v 4 j) ≤ 3 := fun j hj => (hW0.2.2 j (by rw [hcc]; exact hj)).2
  refine lv_aload_n hx hb dX1_addStep_0 rfl (lv_at hl 0 rfl) ?_
  refine fw_get (v := .ref a) (C := RX1) (T := TX1) (N := 2) hx hb hts hin1 hown hK hR hy rfl 0 (by decide) (hts (.fieldLink RX1 12 "UnreadLeaflets$Changes" "archive" "LUnreadLeaflets$Archive;") (by decide +kernel)) rfl dX1_addStep_1 ?_
  refine lv_iload_n hx hb dX1_addStep_4 rfl (lv_at hl 1 rfl) ?_
  refine fw_call (va_runV (As := [.int m]) (rest := []) ⟨hx, hb, hml, hown, hts⟩ (c_X0_hasLeaflet G hL l ω a v hA  m ) (cwV 1 hts gX1_addStep_X0_hasLeaflet rfl rfl rfl (by decide +kernel) ⟨Nat.le_of_ble_eq_true rfl, Nat.le_of_ble_eq_true rfl⟩) (fw_preV hW hK hR h0 rfl) rfl rfl hl.1 rfl (lv_room (Nat.le_of_ble_eq_true rfl)) dX1_addStep_5 ⟨Nat.le_of_ble_eq_true rfl, Nat.le_of_ble_eq_true rfl⟩) hS (fun v_1 ω_2 H locs hq_3 hR hS => ?_)
  obtain ⟨rfl, hq_3⟩ := hq_3
  rw [hq_3] at hR
  refine W.eq (g2 := F0 mI 8 ls [.int (bz (inB m 0 (v 0 0 - 1)))]) rfl ?_
  refine lv_if_ne (tgt := 16) hx hb dX1_addStep_8 (by decide) (fun c_4 => ?_) (fun c_4 => ?_)
  · skip
    have c_4 := bz_ne c_4
    obtain ⟨j, hj2, rfl⟩ := in_c hc hc8 c_4
    have hcj : cN (nI j) = j := cN_nI (by omega)
    refine lv_iload_n hx hb dX1_addStep_16 rfl (lv_at hl 2 rfl) ?_
    refine lv_iconst (v := 0) hx hb dX1_addStep_17 (by decide) ?_
    refine lv_iconst (v := 5) hx hb dX1_addStep_18 (by decide) ?_
    refine fw_call (va_runSN (As := [.int kind, .int 0, .int 5]) (rest := []) ⟨hx, hb, hml, hown, hts⟩ (c_X10_isWithin G hL l ω kind 0 5) ⟨va_cnB 3 hts gX1_addStep_X10_isWithin_n60 rfl rfl rfl (hL.N hW (hh := RX10) (by decide +kernel)) (hts (.initialized RX10) (by decide +kernel)) (by decide +kernel) ⟨Nat.le_of_ble_eq_true rfl, Nat.le_of_ble_eq_true rfl⟩, hts (.static yX10_isWithin) (by decide +kernel), trivial⟩ (fw_preS hW hR) rfl rfl hl.1 rfl (lv_room (Nat.le_of_ble_eq_true rfl)) dX1_addStep_19 ⟨Nat.le_of_ble_eq_true rfl, Nat.le_of_ble_eq_true rfl⟩) hS (fun v_5 ω_6 H locs hq_7 hR hS => ?_)
    obtain ⟨rfl, hq_7⟩ := hq_7
    rw [hq_7] at hR
    refine W.eq (g2 := F0 mI 22 ls [.int (bz (inB kind 0 5))]) rfl ?_
    refine lv_if_eq (tgt := 45) hx hb dX1_addStep_22 (by decide) (fun c_8 => ?_) (fun c_8 => ?_)
    · skip
      have c_8 := bz_eq c_8
      refine lv_aload_n hx hb dX1_addStep_45 rfl (lv_at hl 0 rfl) ?_
      refine fw_get (v := .ref (a + 51)) (C := RX1) (T := TX1) (N := 2) hx hb hts hin1 hown hK hR hy rfl 1 (by decide) (hts (.fieldLink RX1 21 "UnreadLeaflets$Changes" "kept" "LUnreadLeaflets$Reason;") (by decide +kernel)) rfl dX1_addStep_46 ?_
      refine lv_iconst (v := 1) hx hb dX1_addStep_49 (by decide) ?_
      refine lv_iconst (v := 0) hx hb dX1_addStep_50 (by decide) ?_
      refine fw_call (va_runV (As := [.int 1, .int 0]) (rest := []) ⟨hx, hb, hml, hown, hts⟩ (c_X7_refuse G hL l ω (a + 51) k1 k2 k3 1 0 hk) (cwV 2 hts gX1_addStep_X7_refuse rfl rfl rfl (by decide +kernel) ⟨Nat.le_of_ble_eq_true rfl, Nat.le_of_ble_eq_true rfl⟩) (fw_preV hW hK hR hk rfl) rfl rfl hl.1 rfl (lv_room (Nat.le_of_ble_eq_true rfl)) dX1_addStep_51 ⟨Nat.le_of_ble_eq_true rfl, Nat.le_of_ble_eq_true rfl⟩) hS (fun v_9 ω_10 H locs hq_11 hR hS => ?_)
      obtain ⟨rfl, z_12, f_14, fr_13⟩ := hq_11
      refine W.eq (g2 := F0 mI 54 ls [.int (-1)]) rfl ?_
      refine fw_iret hx hb hr hlocks hR hS dX1_addStep_54 ?_
      have z_15 : ω_10.1 = ω.1 := by rw [z_12]
      have fr_16 : ∀ q : Nat, ¬ (a ≤ q ∧ q < a + 52) → ω_10.2 q = ω.2 q := by
        intro q hq0
        rw [fr_13 q (by omega)]
      have hA_17 : ArcS G ω_10.2 a v := hA.keep (fun q q1 q2 => by
        rw [fr_13 q (by omega)])
      have hr_18 : addC v k1 k2 k3 (nI j) kind parts lang two = (((-1), v, 1, 0, 0) : CR) := by
        simp only [addC, hcc, hdd, hcj]
        rw [if_pos c_4, if_neg (fun z => c_8 z.1)]
      rw [hr_18]
      exact ⟨rfl, z_15, hA_17, f_14, fr_16⟩
    · skip
      have c_8 := bz_ne c_8
      refine lv_iload_n hx hb dX1_addStep_25 rfl (lv_at hl 3 rfl) ?_
      refine lv_iconst (v := 1) hx hb dX1_addStep_26 (by decide) ?_
      refine lv_iconst (v := 4) hx hb dX1_addStep_27 (by decide) ?_
      refine fw_call (va_runSN (As := [.int parts, .int 1, .int 4]) (rest := []) ⟨hx, hb, hml, hown, hts⟩ (c_X10_isWithin G hL l ω parts 1 4) ⟨va_cnB 3 hts gX1_addStep_X10_isWithin_n60 rfl rfl rfl (hL.N hW (hh := RX10) (by decide +kernel)) (hts (.initialized RX10) (by decide +kernel)) (by decide +kernel) ⟨Nat.le_of_ble_eq_true rfl, Nat.le_of_ble_eq_true rfl⟩, hts (.static yX10_isWithin) (by decide +kernel), trivial⟩ (fw_preS hW hR) rfl rfl hl.1 rfl (lv_room (Nat.le_of_ble_eq_true rfl)) dX1_addStep_28 ⟨Nat.le_of_ble_eq_true rfl, Nat.le_of_ble_eq_true rfl⟩) hS (fun v_19 ω_20 H locs hq_21 hR hS => ?_)
      obtain ⟨rfl, hq_21⟩ := hq_21
      rw [hq_21] at hR
      refine W.eq (g2 := F0 mI 31 ls [.int (bz (inB parts 1 4))]) rfl ?_
      refine lv_if_eq (tgt := 45) hx hb dX1_addStep_31 (by decide) (fun c_22 => ?_) (fun c_22 => ?_)
      · skip
        have c_22 := bz_eq c_22
        refine lv_aload_n hx hb dX1_addStep_45 rfl (lv_at hl 0 rfl) ?_
        refine fw_get (v := .ref (a + 51)) (C := RX1) (T := TX1) (N := 2) hx hb hts hin1 hown hK hR hy rfl 1 (by decide) (hts (.fieldLink RX1 21 "UnreadLeaflets$Changes" "kept" "LUnreadLeaflets$Reason;") (by decide +kernel)) rfl dX1_addStep_46 ?_
        refine lv_iconst (v := 1) hx hb dX1_addStep_49 (by decide) ?_
        refine lv_iconst (v := 0) hx hb dX1_addStep_50 (by decide) ?_
        refine fw_call (va_runV (As := [.int 1, .int 0]) (rest := []) ⟨hx, hb, hml, hown, hts⟩ (c_X7_refuse G hL l ω (a + 51) k1 k2 k3 1 0 hk) (cwV 2 hts gX1_addStep_X7_refuse rfl rfl rfl (by decide +kernel) ⟨Nat.le_of_ble_eq_true rfl, Nat.le_of_ble_eq_true rfl⟩) (fw_preV hW hK hR hk rfl) rfl rfl hl.1 rfl (lv_room (Nat.le_of_ble_eq_true rfl)) dX1_addStep_51 ⟨Nat.le_of_ble_eq_true rfl, Nat.le_of_ble_eq_true rfl⟩) hS (fun v_23 ω_24 H locs hq_25 hR hS => ?_)
        obtain ⟨rfl, z_26, f_28, fr_27⟩ := hq_25
        refine W.eq (g2 := F0 mI 54 ls [.int (-1)]) rfl ?_
        refine fw_iret hx hb hr hlocks hR hS dX1_addStep_54 ?_
        have z_29 : ω_24.1 = ω.1 := by rw [z_26]
        have fr_30 : ∀ q : Nat, ¬ (a ≤ q ∧ q < a + 52) → ω_24.2 q = ω.2 q := by
          intro q hq0
          rw [fr_27 q (by omega)]
        have hA_31 : ArcS G ω_24.2 a v := hA.keep (fun q q1 q2 => by
          rw [fr_27 q (by omega)])
        have hr_32 : addC v k1 k2 k3 (nI j) kind parts lang two = (((-1), v, 1, 0, 0) : CR) := by
          simp only [addC, hcc, hdd, hcj]
          rw [if_pos c_4, if_neg (fun z => c_22 z.2.1)]
        rw [hr_32]
        exact ⟨rfl, z_29, hA_31, f_28, fr_30⟩
      · skip
        have c_22 := bz_ne c_22
        refine lv_iload hx hb dX1_addStep_34 (lv_at hl 4 rfl) ?_
        refine lv_iconst (v := 1) hx hb dX1_addStep_36 (by decide) ?_
        refine lv_bipush (v := 31) hx hb dX1_addStep_37 (by decide) ?_
        refine fw_call (va_runSN (As := [.int lang, .int 1, .int 31]) (rest := []) ⟨hx, hb, hml, hown, hts⟩ (c_X10_isWithin G hL l ω lang 1 31) ⟨va_cnB 3 hts gX1_addStep_X10_isWithin_n60 rfl rfl rfl (hL.N hW (hh := RX10) (by decide +kernel)) (hts (.initialized RX10) (by decide +kernel)) (by decide +kernel) ⟨Nat.le_of_ble_eq_true rfl, Nat.le_of_ble_eq_true rfl⟩, hts (.static yX10_isWithin) (by decide +kernel), trivial⟩ (fw_preS hW hR) rfl rfl hl.1 rfl (lv_room (Nat.le_of_ble_eq_true rfl)) dX1_addStep_39 ⟨Nat.le_of_ble_eq_true rfl, Nat.le_of_ble_eq_true rfl⟩) hS (fun v_33 ω_34 H locs hq_35 hR hS => ?_)
        obtain ⟨rfl, hq_35⟩ := hq_35
        rw [hq_35] at hR
        refine W.eq (g2 := F0 mI 42 ls [.int (bz (inB lang 1 31))]) rfl ?_
        refine lv_if_ne (tgt := 55) hx hb dX1_addStep_42 (by decide) (fun c_36 => ?_) (fun c_36 => ?_)
        · skip
          have c_36 := bz_ne c_36
          refine lv_aload_n hx hb dX1_addStep_55 rfl (lv_at hl 0 rfl) ?_
          refine fw_get (v := .ref a) (C := RX1) (T := TX1) (N := 2) hx hb hts hin1 hown hK hR hy rfl 0 (by decide) (hts (.fieldLink RX1 12 "UnreadLeaflets$Changes" "archive" "LUnreadLeaflets$Archive;") (by decide +kernel)) rfl dX1_addStep_56 ?_
          refine fw_get (v := .ref (a + 1)) (C := RX0) (T := TX0) (N := 9) hx hb hts hin0 hown hK hR h0 rfl 0 (by decide) (hts (.fieldLink RX1 43 "UnreadLeaflets$Archive" "leaflets" "[LUnreadLeaflets$Leaflet;") (by decide +kernel)) rfl dX1_addStep_59 ?_
          refine lv_iload_n hx hb dX1_addStep_62 rfl (lv_at hl 1 rfl) ?_
          refine fw_aald (b := a + 6 + 5 * j) hx hb hK hR h1 rfl (vp_in_nI (by omega) (by omega)) (by rw [nI_clamp (by omega)]) dX1_addStep_63 ?_
          refine lv_astore (lv' := [(6, .ref (a + 6 + 5 * j)), (0, .ref y), (1, .int (nI j)), (2, .int kind), (3, .int parts), (4, .int lang), (5, .int two)]) hx hb dX1_addStep_64 hl (by decide) rfl (fun ls hl => ?_)
          refine lv_aload hx hb dX1_addStep_66 (lv_at hl 0 rfl) ?_
          have f_37 : ω.2 (a + 6 + 5 * j) = some (.inr (7, [.int (v 3 j), .int (v 4 j), .int (v 5 j), .int (v 6 j - 1), .int (v 7 j), .ref (a + 6 + 5 * j + 1), .ref (a + 6 + 5 * j + 2), .ref (a + 6 + 5 * j + 3), .ref (a + 6 + 5 * j + 4)])) := (hLf j (by omega)).1
          refine fw_call (va_runV (As := []) (rest := []) ⟨hx, hb, hml, hown, hts⟩ (c_X5_isBuilt G hL l ω (a + 6 + 5 * j) j v (hLf j (by omega))  ) (cwV 0 hts gX1_addStep_X5_isBuilt rfl rfl rfl (by decide +kernel) ⟨Nat.le_of_ble_eq_true rfl, Nat.le_of_ble_eq_true rfl⟩) (fw_preV hW hK hR f_37 rfl) rfl rfl hl.1 rfl (lv_room (Nat.le_of_ble_eq_true rfl)) dX1_addStep_68 ⟨Nat.le_of_ble_eq_true rfl, Nat.le_of_ble_eq_true rfl⟩) hS (fun v_38 ω_39 H locs hq_40 hR hS => ?_)
          obtain ⟨rfl, hq_40⟩ := hq_40
          rw [hq_40] at hR
          refine W.eq (g2 := F0 mI 71 ls [.int (bz (¬ v 6 j - 1 = (-1)))]) rfl ?_
          refine lv_if_eq (tgt := 89) hx hb dX1_addStep_71 (by decide) (fun c_41 => ?_) (fun c_41 => ?_)
          · skip
            have c_41 := bz_eq c_41
            refine lv_aload hx hb dX1_addStep_89 (lv_at hl 0 rfl) ?_
            refine fw_get (v := .int (v 3 j)) (C := RX5) (T := TX5) (N := 9) hx hb hts hin5 hown hK hR f_37 rfl 0 (by decide) (hts (.fieldLink RX1 71 "UnreadLeaflets$Leaflet" "steps" "I") (by decide +kernel)) rfl dX1_addStep_91 ?_
            refine lv_bipush (v := 8) hx hb dX1_addStep_94 (by decide) ?_
            refine lv_icmp_lt (tgt := 110) hx hb dX1_addStep_96 (by decide) (fun c_42 => ?_) (fun c_42 => ?_)
            · skip
              obtain ⟨q, hq8, hq, hcq⟩ := okN_of (hW0.2.2 j (by rw [hcc]; exact hj2)).1
              have hq7 : q < 8 := by have h9 := c_42; rw [hq] at h9; exact (nI_ltI (by omega) (by omega)).mp h9
              refine lv_aload hx hb dX1_addStep_110 (lv_at hl 0 rfl) ?_
              refine fw_get (v := .int (v 3 j)) (C := RX5) (T := TX5) (N := 9) hx hb hts hin5 hown hK hR f_37 rfl 0 (by decide) (hts (.fieldLink RX1 71 "UnreadLeaflets$Leaflet" "steps" "I") (by decide +kernel)) rfl dX1_addStep_112 ?_
              refine W.eq (g2 := F0 mI 115 ls [.int (nI q)]) (by rw [hq]) ?_
              refine lv_istore (lv' := [(7, .int (nI q)), (6, .ref (a + 6 + 5 * j)), (0, .ref y), (1, .int (nI j)), (2, .int kind), (3, .int parts), (4, .int lang), (5, .int two)]) hx hb dX1_addStep_115 hl (by decide) rfl (fun ls hl => ?_)
              refine lv_aload hx hb dX1_addStep_117 (lv_at hl 1 rfl) ?_
              refine fw_get (v := .ref (a + 6 + 5 * j + 1)) (C := RX5) (T := TX5) (N := 9) hx hb hts hin5 hown hK hR f_37 rfl 5 (by decide) (hts (.fieldLink RX1 74 "UnreadLeaflets$Leaflet" "kinds" "[I") (by decide +kernel)) rfl dX1_addStep_119 ?_
              refine lv_iload hx hb dX1_addStep_122 (lv_at hl 0 rfl) ?_
              refine lv_iload_n hx hb dX1_addStep_124 rfl (lv_at hl 4 rfl) ?_
              have f_43 : ω.2 (a + 6 + 5 * j + 1) = some (.inl (G.2.1 0, 8, .inl (v (10 + j)))) := (hLf j (by omega)).2.1
              refine fw_iast hx hb hK hR hS f_43 (vp_in_nI (by omega) (by omega)) dX1_addStep_125 (fun H locs hR hS => ?_)
              rw [show (nI q).toNatClampNeg = q from nI_clamp (by omega)] at hR
              obtain ⟨ω_44, hw_45⟩ : ∃ τ : FWd, τ = (ω.1, va_up ω.2 (a + 6 + 5 * j + 1) (some (.inl (G.2.1 0, 8, .inl (upd (v (10 + j)) q kind))))) := ⟨_, rfl⟩
              have hR : fR G ω_44 H := by rw [hw_45]; exact hR
              have f_46 : ω_44.2 (a + 6 + 5 * j + 1) = some (.inl (G.2.1 0, 8, .inl (upd (v (10 + j)) q kind))) := by rw [hw_45]; exact va_up_at
              have fr_47 : ∀ q : Nat, ¬ q = (a + 6 + 5 * j + 1) → ω_44.2 q = ω.2 q := fun q hq => by rw [hw_45]; exact va_up_off hq
              have z_48 : ω_44.1 = ω.1 := by rw [hw_45]
              refine lv_aload hx hb dX1_addStep_126 (lv_at hl 1 rfl) ?_
              have f_49 : ω_44.2 (a + 6 + 5 * j) = some (.inr (7, [.int (v 3 j), .int (v 4 j), .int (v 5 j), .int (v 6 j - 1), .int (v 7 j), .ref (a + 6 + 5 * j + 1), .ref (a + 6 + 5 * j + 2), .ref (a + 6 + 5 * j + 3), .ref (a + 6 + 5 * j + 4)])) := (fr_47 (a + 6 + 5 * j) (by omega)).trans f_37
              refine fw_get (v := .ref (a + 6 + 5 * j + 2)) (C := RX5) (T := TX5) (N := 9) hx hb hts hin5 hown hK hR f_49 rfl 6 (by decide) (hts (.fieldLink RX1 78 "UnreadLeaflets$Leaflet" "parts" "[I") (by decide +kernel)) rfl dX1_addStep_128 ?_
              refine lv_iload hx hb dX1_addStep_131 (lv_at hl 0 rfl) ?_
              refine lv_iload_n hx hb dX1_addStep_133 rfl (lv_at hl 5 rfl) ?_
              have f_50 : ω.2 (a + 6 + 5 * j + 2) = some (.inl (G.2.1 0, 8, .inl (v (20 + j)))) := (hLf j (by omega)).2.2.1
              have f_51 : ω_44.2 (a + 6 + 5 * j + 2) = some (.inl (G.2.1 0, 8, .inl (v (20 + j)))) := (fr_47 (a + 6 + 5 * j + 2) (by omega)).trans f_50
              refine fw_iast hx hb hK hR hS f_51 (vp_in_nI (by omega) (by omega)) dX1_addStep_134 (fun H locs hR hS => ?_)
              rw [show (nI q).toNatClampNeg = q from nI_clamp (by omega)] at hR
              obtain ⟨ω_52, hw_53⟩ : ∃ τ : FWd, τ = (ω_44.1, va_up ω_44.2 (a + 6 + 5 * j + 2) (some (.inl (G.2.1 0, 8, .inl (upd (v (20 + j)) q parts))))) := ⟨_, rfl⟩
              have hR : fR G ω_52 H := by rw [hw_53]; exact hR
              have f_54 : ω_52.2 (a + 6 + 5 * j + 2) = some (.inl (G.2.1 0, 8, .inl (upd (v (20 + j)) q parts))) := by rw [hw_53]; exact va_up_at
              have fr_55 : ∀ q : Nat, ¬ q = (a + 6 + 5 * j + 2) → ω_52.2 q = ω_44.2 q := fun q hq => by rw [hw_53]; exact va_up_off hq
              have z_56 : ω_52.1 = ω_44.1 := by rw [hw_53]
              refine lv_aload hx hb dX1_addStep_135 (lv_at hl 1 rfl) ?_
              have f_57 : ω_52.2 (a + 6 + 5 * j) = some (.inr (7, [.int (v 3 j), .int (v 4 j), .int (v 5 j), .int (v 6 j - 1), .int (v 7 j), .ref (a + 6 + 5 * j + 1), .ref (a + 6 + 5 * j + 2), .ref (a + 6 + 5 * j + 3), .ref (a + 6 + 5 * j + 4)])) := (fr_55 (a + 6 + 5 * j) (by omega)).trans f_49
              refine fw_get (v := .ref (a + 6 + 5 * j + 3)) (C := RX5) (T := TX5) (N := 9) hx hb hts hin5 hown hK hR f_57 rfl 7 (by decide) (hts (.fieldLink RX1 81 "UnreadLeaflets$Leaflet" "languages" "[I") (by decide +kernel)) rfl dX1_addStep_137 ?_
              refine lv_iload hx hb dX1_addStep_140 (lv_at hl 0 rfl) ?_
              refine lv_iload hx hb dX1_addStep_142 (lv_at hl 6 rfl) ?_
              have f_58 : ω.2 (a + 6 + 5 * j + 3) = some (.inl (G.2.1 0, 8, .inl (v (30 + j)))) := (hLf j (by omega)).2.2.2.1
              have f_59 : ω_44.2 (a + 6 + 5 * j + 3) = some (.inl (G.2.1 0, 8, .inl (v (30 + j)))) := (fr_47 (a + 6 + 5 * j + 3) (by omega)).trans f_58
              have f_60 : ω_52.2 (a + 6 + 5 * j + 3) = some (.inl (G.2.1 0, 8, .inl (v (30 + j)))) := (fr_55 (a + 6 + 5 * j + 3) (by omega)).trans f_59
              refine fw_iast hx hb hK hR hS f_60 (vp_in_nI (by omega) (by omega)) dX1_addStep_144 (fun H locs hR hS => ?_)
              rw [show (nI q).toNatClampNeg = q from nI_clamp (by omega)] at hR
              obtain ⟨ω_61, hw_62⟩ : ∃ τ : FWd, τ = (ω_52.1, va_up ω_52.2 (a + 6 + 5 * j + 3) (some (.inl (G.2.1 0, 8, .inl (upd (v (30 + j)) q lang))))) := ⟨_, rfl⟩
              have hR : fR G ω_61 H := by rw [hw_62]; exact hR
              have f_63 : ω_61.2 (a + 6 + 5 * j + 3) = some (.inl (G.2.1 0, 8, .inl (upd (v (30 + j)) q lang))) := by rw [hw_62]; exact va_up_at
              have fr_64 : ∀ q : Nat, ¬ q = (a + 6 + 5 * j + 3) → ω_61.2 q = ω_52.2 q := fun q hq => by rw [hw_62]; exact va_up_off hq
              have z_65 : ω_61.1 = ω_52.1 := by rw [hw_62]
              refine lv_aload hx hb dX1_addStep_145 (lv_at hl 1 rfl) ?_
              have f_66 : ω_61.2 (a + 6 + 5 * j) = some (.inr (7, [.int (v 3 j), .int (v 4 j), .int (v 5 j), .int (v 6 j - 1), .int (v 7 j), .ref (a + 6 + 5 * j + 1), .ref (a + 6 + 5 * j + 2), .ref (a + 6 + 5 * j + 3), .ref (a + 6 + 5 * j + 4)])) := (fr_64 (a + 6 + 5 * j) (by omega)).trans f_57
              refine fw_get (v := .ref (a + 6 + 5 * j + 4)) (C := RX5) (T := TX5) (N := 9) hx hb hts hin5 hown hK hR f_66 rfl 8 (by decide) (hts (.fieldLink RX1 84 "UnreadLeaflets$Leaflet" "sides" "[I") (by decide +kernel)) rfl dX1_addStep_147 ?_
              refine lv_iload hx hb dX1_addStep_150 (lv_at hl 0 rfl) ?_
              refine lv_iload hx hb dX1_addStep_152 (lv_at hl 7 rfl) ?_
              refine lv_if_eq (tgt := 161) hx hb dX1_addStep_154 (by decide) (fun c_67 => ?_) (fun c_67 => ?_)
              · skip
                refine lv_iconst (v := 1) hx hb dX1_addStep_161 (by decide) ?_
                have f_68 : ω.2 (a + 6 + 5 * j + 4) = some (.inl (G.2.1 0, 8, .inl (fun i9 => v (40 + j) i9 + 1))) := (hLf j (by omega)).2.2.2.2
                have f_69 : ω_44.2 (a + 6 + 5 * j + 4) = some (.inl (G.2.1 0, 8, .inl (fun i9 => v (40 + j) i9 + 1))) := (fr_47 (a + 6 + 5 * j + 4) (by omega)).trans f_68
                have f_70 : ω_52.2 (a + 6 + 5 * j + 4) = some (.inl (G.2.1 0, 8, .inl (fun i9 => v (40 + j) i9 + 1))) := (fr_55 (a + 6 + 5 * j + 4) (by omega)).trans f_69
                have f_71 : ω_61.2 (a + 6 + 5 * j + 4) = some (.inl (G.2.1 0, 8, .inl (fun i9 => v (40 + j) i9 + 1))) := (fr_64 (a + 6 + 5 * j + 4) (by omega)).trans f_70
                refine fw_iast hx hb hK hR hS f_71 (vp_in_nI (by omega) (by omega)) dX1_addStep_162 (fun H locs hR hS => ?_)
                rw [show (nI q).toNatClampNeg = q from nI_clamp (by omega)] at hR
                obtain ⟨ω_72, hw_73⟩ : ∃ τ : FWd, τ = (ω_61.1, va_up ω_61.2 (a + 6 + 5 * j + 4) (some (.inl (G.2.1 0, 8, .inl (upd (fun i9 => v (40 + j) i9 + 1) q 1))))) := ⟨_, rfl⟩
                have hR : fR G ω_72 H := by rw [hw_73]; exact hR
                have f_74 : ω_72.2 (a + 6 + 5 * j + 4) = some (.inl (G.2.1 0, 8, .inl (upd (fun i9 => v (40 + j) i9 + 1) q 1))) := by rw [hw_73]; exact va_up_at
                have fr_75 : ∀ q : Nat, ¬ q = (a + 6 + 5 * j + 4) → ω_72.2 q = ω_61.2 q := fun q hq => by rw [hw_73]; exact va_up_off hq
                have z_76 : ω_72.1 = ω_61.1 := by rw [hw_73]
                refine lv_aload hx hb dX1_addStep_163 (lv_at hl 1 rfl) ?_
                refine lv_dup hx hb dX1_addStep_165 rfl ?_
                have f_77 : ω_72.2 (a + 6 + 5 * j) = some (.inr (7, [.int (v 3 j), .int (v 4 j), .int (v 5 j), .int (v 6 j - 1), .int (v 7 j), .ref (a + 6 + 5 * j + 1), .ref (a + 6 + 5 * j + 2), .ref (a + 6 + 5 * j + 3), .ref (a + 6 + 5 * j + 4)])) := (fr_75 (a + 6 + 5 * j) (by omega)).trans f_66
                refine fw_get (v := .int (v 3 j)) (C := RX5) (T := TX5) (N := 9) hx hb hts hin5 hown hK hR f_77 rfl 0 (by decide) (hts (.fieldLink RX1 71 "UnreadLeaflets$Leaflet" "steps" "I") (by decide +kernel)) rfl dX1_addStep_166 ?_
                refine lv_iconst (v := 1) hx hb dX1_addStep_169 (by decide) ?_
                refine lv_iadd hx hb dX1_addStep_170 ?_
                refine fw_put (v := .int ((v 3 j) + 1)) (C := RX5) (T := TX5) (N := 9) hx hb hts hin5 tyX5 tyX5_ok nmX5 hown hK hR hS f_77 rfl 0 (by decide) (hts (.fieldLink RX1 71 "UnreadLeaflets$Leaflet" "steps" "I") (by decide +kernel)) rfl rfl rfl (Nat.le_of_ble_eq_true rfl) dX1_addStep_171 (fun H locs hR hS => ?_)
                obtain ⟨ω_78, hw_79⟩ : ∃ τ : FWd, τ = (ω_72.1, va_up ω_72.2 (a + 6 + 5 * j) (some (.inr (7, [.int ((v 3 j) + 1), .int (v 4 j), .int (v 5 j), .int (v 6 j - 1), .int (v 7 j), .ref (a + 6 + 5 * j + 1), .ref (a + 6 + 5 * j + 2), .ref (a + 6 + 5 * j + 3), .ref (a + 6 + 5 * j + 4)])))) := ⟨_, rfl⟩
                have hR : fR G ω_78 H := by rw [hw_79]; exact hR
                have f_80 : ω_78.2 (a + 6 + 5 * j) = some (.inr (7, [.int ((v 3 j) + 1), .int (v 4 j), .int (v 5 j), .int (v 6 j - 1), .int (v 7 j), .ref (a + 6 + 5 * j + 1), .ref (a + 6 + 5 * j + 2), .ref (a + 6 + 5 * j + 3), .ref (a + 6 + 5 * j + 4)])) := by rw [hw_79]; exact va_up_at
                have fr_81 : ∀ q : Nat, ¬ q = (a + 6 + 5 * j) → ω_78.2 q = ω_72.2 q := fun q hq => by rw [hw_79]; exact va_up_off hq
                have z_82 : ω_78.1 = ω_72.1 := by rw [hw_79]
                refine lv_iload hx hb dX1_addStep_174 (lv_at hl 0 rfl) ?_
                refine fw_iret hx hb hr hlocks hR hS dX1_addStep_176 ?_
                have z_83 : ω_78.1 = ω.1 := by rw [z_82, z_76, z_65, z_56, z_48]
                have fr_84 : ∀ q : Nat, ¬ (a ≤ q ∧ q < a + 52) → ω_78.2 q = ω.2 q := by
                  intro q hq0
                  rw [fr_81 q (by omega)]
                  rw [fr_75 q (by omega)]
                  rw [fr_64 q (by omega)]
                  rw [fr_55 q (by omega)]
                  rw [fr_47 q (by omega)]
                have f_86 : ω_44.2 (a + 51) = some (.inr (9, [.int k1, .int k2, .int k3])) := (fr_47 (a + 51) (by omega)).trans hk
                have f_87 : ω_52.2 (a + 51) = some (.inr (9, [.int k1, .int k2, .int k3])) := (fr_55 (a + 51) (by omega)).trans f_86
                have f_88 : ω_61.2 (a + 51) = some (.inr (9, [.int k1, .int k2, .int k3])) := (fr_64 (a + 51) (by omega)).trans f_87
                have f_89 : ω_72.2 (a + 51) = some (.inr (9, [.int k1, .int k2, .int k3])) := (fr_75 (a + 51) (by omega)).trans f_88
                have f_90 : ω_78.2 (a + 51) = some (.inr (9, [.int k1, .int k2, .int k3])) := (fr_81 (a + 51) (by omega)).trans f_89
                have f_91 : ω_44.2 a = some (.inr (2, [.ref (a + 1), .int (v 0 0), .ref (a + 2), .int (v 0 1), .ref (a + 3), .int (v 0 2), .int (v 0 3), .int (v 0 4), .int (v 0 5)])) := (fr_47 a (by omega)).trans h0
                have f_92 : ω_52.2 a = some (.inr (2, [.ref (a + 1), .int (v 0 0), .ref (a + 2), .int (v 0 1), .ref (a + 3), .int (v 0 2), .int (v 0 3), .int (v 0 4), .int (v 0 5)])) := (fr_55 a (by omega)).trans f_91
                have f_93 : ω_61.2 a = some (.inr (2, [.ref (a + 1), .int (v 0 0), .ref (a + 2), .int (v 0 1), .ref (a + 3), .int (v 0 2), .int (v 0 3), .int (v 0 4), .int (v 0 5)])) := (fr_64 a (by omega)).trans f_92
                have f_94 : ω_72.2 a = some (.inr (2, [.ref (a + 1), .int (v 0 0), .ref (a + 2), .int (v 0 1), .ref (a + 3), .int (v 0 2), .int (v 0 3), .int (v 0 4), .int (v 0 5)])) := (fr_75 a (by omega)).trans f_93
                have f_95 : ω_78.2 a = some (.inr (2, [.ref (a + 1), .int (v 0 0), .ref (a + 2), .int (v 0 1), .ref (a + 3), .int (v 0 2), .int (v 0 3), .int (v 0 4), .int (v 0 5)])) := (fr_81 a (by omega)).trans f_94
                have f_96 : ω_44.2 (a + 4) = some (.inl (G.2.1 0, 6, .inl (v 1))) := (fr_47 (a + 4) (by omega)).trans h4
                have f_97 : ω_52.2 (a + 4) = some (.inl (G.2.1 0, 6, .inl (v 1))) := (fr_55 (a + 4) (by omega)).trans f_96
                have f_98 : ω_61.2 (a + 4) = some (.inl (G.2.1 0, 6, .inl (v 1))) := (fr_64 (a + 4) (by omega)).trans f_97
                have f_99 : ω_72.2 (a + 4) = some (.inl (G.2.1 0, 6, .inl (v 1))) := (fr_75 (a + 4) (by omega)).trans f_98
                have f_100 : ω_78.2 (a + 4) = some (.inl (G.2.1 0, 6, .inl (v 1))) := (fr_81 (a + 4) (by omega)).trans f_99
                have f_101 : ω_44.2 (a + 5) = some (.inl (G.2.1 0, 6, .inl (v 2))) := (fr_47 (a + 5) (by omega)).trans h5
                have f_102 : ω_52.2 (a + 5) = some (.inl (G.2.1 0, 6, .inl (v 2))) := (fr_55 (a + 5) (by omega)).trans f_101
                have f_103 : ω_61.2 (a + 5) = some (.inl (G.2.1 0, 6, .inl (v 2))) := (fr_64 (a + 5) (by omega)).trans f_102
                have f_104 : ω_72.2 (a + 5) = some (.inl (G.2.1 0, 6, .inl (v 2))) := (fr_75 (a + 5) (by omega)).trans f_103
                have f_105 : ω_78.2 (a + 5) = some (.inl (G.2.1 0, 6, .inl (v 2))) := (fr_81 (a + 5) (by omega)).trans f_104
                have f_107 : ω_52.2 (a + 6 + 5 * j + 1) = some (.inl (G.2.1 0, 8, .inl (upd (v (10 + j)) q kind))) := (fr_55 (a + 6 + 5 * j + 1) (by omega)).trans f_46
                have f_108 : ω_61.2 (a + 6 + 5 * j + 1) = some (.inl (G.2.1 0, 8, .inl (upd (v (10 + j)) q kind))) := (fr_64 (a + 6 + 5 * j + 1) (by omega)).trans f_107
                have f_109 : ω_72.2 (a + 6 + 5 * j + 1) = some (.inl (G.2.1 0, 8, .inl (upd (v (10 + j)) q kind))) := (fr_75 (a + 6 + 5 * j + 1) (by omega)).trans f_108
                have f_110 : ω_78.2 (a + 6 + 5 * j + 1) = some (.inl (G.2.1 0, 8, .inl (upd (v (10 + j)) q kind))) := (fr_81 (a + 6 + 5 * j + 1) (by omega)).trans f_109
                have f_111 : ω_61.2 (a + 6 + 5 * j + 2) = some (.inl (G.2.1 0, 8, .inl (upd (v (20 + j)) q parts))) := (fr_64 (a + 6 + 5 * j + 2) (by omega)).trans f_54
                have f_112 : ω_72.2 (a + 6 + 5 * j + 2) = some (.inl (G.2.1 0, 8, .inl (upd (v (20 + j)) q parts))) := (fr_75 (a + 6 + 5 * j + 2) (by omega)).trans f_111
                have f_113 : ω_78.2 (a + 6 + 5 * j + 2) = some (.inl (G.2.1 0, 8, .inl (upd (v (20 + j)) q parts))) := (fr_81 (a + 6 + 5 * j + 2) (by omega)).trans f_112
                have f_114 : ω_72.2 (a + 6 + 5 * j + 3) = some (.inl (G.2.1 0, 8, .inl (upd (v (30 + j)) q lang))) := (fr_75 (a + 6 + 5 * j + 3) (by omega)).trans f_63
                have f_115 : ω_78.2 (a + 6 + 5 * j + 3) = some (.inl (G.2.1 0, 8, .inl (upd (v (30 + j)) q lang))) := (fr_81 (a + 6 + 5 * j + 3) (by omega)).trans f_114
                have f_116 : ω_78.2 (a + 6 + 5 * j + 4) = some (.inl (G.2.1 0, 8, .inl (upd (fun i9 => v (40 + j) i9 + 1) q 1))) := (fr_81 (a + 6 + 5 * j + 4) (by omega)).trans f_74
                have hlf_106 : LeafS G ω_78.2 (a + 6 + 5 * j) (addV v j q kind parts lang 0) j := by
                  refine ⟨f_80.trans (congrArg some ?_), f_110.trans (congrArg some ?_), f_113.trans (congrArg some ?_), f_115.trans (congrArg some ?_), f_116.trans (congrArg some ?_)⟩
                  all_goals first | rfl | (simp [set1, setR, pk_us, side_1, side_2, addV, ne_big, ne_big']; done)
                have hA_85 : ArcS G ω_78.2 a (addV v j q kind parts lang 0) := by
                  refine hA.gen _ (j) (5) (f_95.trans (congrArg some ?_)) (f_100.trans (congrArg some ?_)) (f_105.trans (congrArg some ?_)) (fun hk9 => ?_) (fun hc9 => ?_) (fun q q1 q2 q3 q4 q5 q6 => ?_) (fun j9 h9 n9 => ?_) (fun j9 h9 n9 => ?_) (by omega) (by omega)
                  · first | rfl | (simp [set1, setR, pk_us, side_1, side_2, addV, ne_big, ne_big']; done)
                  · first | rfl | (simp [set1, setR, pk_us, side_1, side_2, addV, ne_big, ne_big']; done)
                  · first | rfl | (simp [set1, setR, pk_us, side_1, side_2, addV, ne_big, ne_big']; done)
                  · exact hlf_106
                  · exact absurd hc9 (by decide)
                  · skip
                    rw [fr_81 q (by omega)]
                    rw [fr_75 q (by omega)]
                    rw [fr_64 q (by omega)]
                    rw [fr_55 q (by omega)]
                    rw [fr_47 q (by omega)]
                  · exact addV_le h9 (by omega) n9
                  · constructor <;> first | rfl | (simp [set1, setR, pk_us, side_1, side_2, addV, n9, ne_big, ne_big']; done)
                have hr_117 : addC v k1 k2 k3 (nI j) kind parts lang two = ((nI q, (addV v j q kind parts lang 0), k1, k2, k3) : CR) := by
                  simp only [addC, hcc, hdd, hcj, hcq]
                  rw [if_pos c_4, if_pos ⟨c_8, c_22, c_36⟩, if_neg c_41, if_pos c_42, if_pos c_67]
                  rw [hq]
                rw [hr_117]
                exact ⟨rfl, z_83, hA_85, f_90, fr_84⟩
              · skip
                refine lv_iconst (v := 2) hx hb dX1_addStep_157 (by decide) ?_
                refine lv_goto (tgt := 162) hx hb dX1_addStep_158 (by decide) ?_
                have f_118 : ω.2 (a + 6 + 5 * j + 4) = some (.inl (G.2.1 0, 8, .inl (fun i9 => v (40 + j) i9 + 1))) := (hLf j (by omega)).2.2.2.2
                have f_119 : ω_44.2 (a + 6 + 5 * j + 4) = some (.inl (G.2.1 0, 8, .inl (fun i9 => v (40 + j) i9 + 1))) := (fr_47 (a + 6 + 5 * j + 4) (by omega)).trans f_118
                have f_120 : ω_52.2 (a + 6 + 5 * j + 4) = some (.inl (G.2.1 0, 8, .inl (fun i9 => v (40 + j) i9 + 1))) := (fr_55 (a + 6 + 5 * j + 4) (by omega)).trans f_119
                have f_121 : ω_61.2 (a + 6 + 5 * j + 4) = some (.inl (G.2.1 0, 8, .inl (fun i9 => v (40 + j) i9 + 1))) := (fr_64 (a + 6 + 5 * j + 4) (by omega)).trans f_120
                refine fw_iast hx hb hK hR hS f_121 (vp_in_nI (by omega) (by omega)) dX1_addStep_162 (fun H locs hR hS => ?_)
                rw [show (nI q).toNatClampNeg = q from nI_clamp (by omega)] at hR
                obtain ⟨ω_122, hw_123⟩ : ∃ τ : FWd, τ = (ω_61.1, va_up ω_61.2 (a + 6 + 5 * j + 4) (some (.inl (G.2.1 0, 8, .inl (upd (fun i9 => v (40 + j) i9 + 1) q 2))))) := ⟨_, rfl⟩
                have hR : fR G ω_122 H := by rw [hw_123]; exact hR
                have f_124 : ω_122.2 (a + 6 + 5 * j + 4) = some (.inl (G.2.1 0, 8, .inl (upd (fun i9 => v (40 + j) i9 + 1) q 2))) := by rw [hw_123]; exact va_up_at
                have fr_125 : ∀ q : Nat, ¬ q = (a + 6 + 5 * j + 4) → ω_122.2 q = ω_61.2 q := fun q hq => by rw [hw_123]; exact va_up_off hq
                have z_126 : ω_122.1 = ω_61.1 := by rw [hw_123]
                refine lv_aload hx hb dX1_addStep_163 (lv_at hl 1 rfl) ?_
                refine lv_dup hx hb dX1_addStep_165 rfl ?_
                have f_127 : ω_122.2 (a + 6 + 5 * j) = some (.inr (7, [.int (v 3 j), .int (v 4 j), .int (v 5 j), .int (v 6 j - 1), .int (v 7 j), .ref (a + 6 + 5 * j + 1), .ref (a + 6 + 5 * j + 2), .ref (a + 6 + 5 * j + 3), .ref (a + 6 + 5 * j + 4)])) := (fr_125 (a + 6 + 5 * j) (by omega)).trans f_66
                refine fw_get (v := .int (v 3 j)) (C := RX5) (T := TX5) (N := 9) hx hb hts hin5 hown hK hR f_127 rfl 0 (by decide) (hts (.fieldLink RX1 71 "UnreadLeaflets$Leaflet" "steps" "I") (by decide +kernel)) rfl dX1_addStep_166 ?_
                refine lv_iconst (v := 1) hx hb dX1_addStep_169 (by decide) ?_
                refine lv_iadd hx hb dX1_addStep_170 ?_
                refine fw_put (v := .int ((v 3 j) + 1)) (C := RX5) (T := TX5) (N := 9) hx hb hts hin5 tyX5 tyX5_ok nmX5 hown hK hR hS f_127 rfl 0 (by decide) (hts (.fieldLink RX1 71 "UnreadLeaflets$Leaflet" "steps" "I") (by decide +kernel)) rfl rfl rfl (Nat.le_of_ble_eq_true rfl) dX1_addStep_171 (fun H locs hR hS => ?_)
                obtain ⟨ω_128, hw_129⟩ : ∃ τ : FWd, τ = (ω_122.1, va_up ω_122.2 (a + 6 + 5 * j) (some (.inr (7, [.int ((v 3 j) + 1), .int (v 4 j), .int (v 5 j), .int (v 6 j - 1), .int (v 7 j), .ref (a + 6 + 5 * j + 1), .ref (a + 6 + 5 * j + 2), .ref (a + 6 + 5 * j + 3), .ref (a + 6 + 5 * j + 4)])))) := ⟨_, rfl⟩
                have hR : fR G ω_128 H := by rw [hw_129]; exact hR
                have f_130 : ω_128.2 (a + 6 + 5 * j) = some (.inr (7, [.int ((v 3 j) + 1), .int (v 4 j), .int (v 5 j), .int (v 6 j - 1), .int (v 7 j), .ref (a + 6 + 5 * j + 1), .ref (a + 6 + 5 * j + 2), .ref (a + 6 + 5 * j + 3), .ref (a + 6 + 5 * j + 4)])) := by rw [hw_129]; exact va_up_at
                have fr_131 : ∀ q : Nat, ¬ q = (a + 6 + 5 * j) → ω_128.2 q = ω_122.2 q := fun q hq => by rw [hw_129]; exact va_up_off hq
                have z_132 : ω_128.1 = ω_122.1 := by rw [hw_129]
                refine lv_iload hx hb dX1_addStep_174 (lv_at hl 0 rfl) ?_
                refine fw_iret hx hb hr hlocks hR hS dX1_addStep_176 ?_
                have z_133 : ω_128.1 = ω.1 := by rw [z_132, z_126, z_65, z_56, z_48]
                have fr_134 : ∀ q : Nat, ¬ (a ≤ q ∧ q < a + 52) → ω_128.2 q = ω.2 q := by
                  intro q hq0
                  rw [fr_131 q (by omega)]
                  rw [fr_125 q (by omega)]
                  rw [fr_64 q (by omega)]
                  rw [fr_55 q (by omega)]
                  rw [fr_47 q (by omega)]
                have f_136 : ω_44.2 (a + 51) = some (.inr (9, [.int k1, .int k2, .int k3])) := (fr_47 (a + 51) (by omega)).trans hk
                have f_137 : ω_52.2 (a + 51) = some (.inr (9, [.int k1, .int k2, .int k3])) := (fr_55 (a + 51) (by omega)).trans f_136
                have f_138 : ω_61.2 (a + 51) = some (.inr (9, [.int k1, .int k2, .int k3])) := (fr_64 (a + 51) (by omega)).trans f_137
                have f_139 : ω_122.2 (a + 51) = some (.inr (9, [.int k1, .int k2, .int k3])) := (fr_125 (a + 51) (by omega)).trans f_138
                have f_140 : ω_128.2 (a + 51) = some (.inr (9, [.int k1, .int k2, .int k3])) := (fr_131 (a + 51) (by omega)).trans f_139
                have f_141 : ω_44.2 a = some (.inr (2, [.ref (a + 1), .int (v 0 0), .ref (a + 2), .int (v 0 1), .ref (a + 3), .int (v 0 2), .int (v 0 3), .int (v 0 4), .int (v 0 5)])) := (fr_47 a (by omega)).trans h0
                have f_142 : ω_52.2 a = some (.inr (2, [.ref (a + 1), .int (v 0 0), .ref (a + 2), .int (v 0 1), .ref (a + 3), .int (v 0 2), .int (v 0 3), .int (v 0 4), .int (v 0 5)])) := (fr_55 a (by omega)).trans f_141
                have f_143 : ω_61.2 a = some (.inr (2, [.ref (a + 1), .int (v 0 0), .ref (a + 2), .int (v 0 1), .ref (a + 3), .int (v 0 2), .int (v 0 3), .int (v 0 4), .int (v 0 5)])) := (fr_64 a (by omega)).trans f_142
                have f_144 : ω_122.2 a = some (.inr (2, [.ref (a + 1), .int (v 0 0), .ref (a + 2), .int (v 0 1), .ref (a + 3), .int (v 0 2), .int (v 0 3), .int (v 0 4), .int (v 0 5)])) := (fr_125 a (by omega)).trans f_143
                have f_145 : ω_128.2 a = some (.inr (2, [.ref (a + 1), .int (v 0 0), .ref (a + 2), .int (v 0 1), .ref (a + 3), .int (v 0 2), .int (v 0 3), .int (v 0 4), .int (v 0 5)])) := (fr_131 a (by omega)).trans f_144
                have f_146 : ω_44.2 (a + 4) = some (.inl (G.2.1 0, 6, .inl (v 1))) := (fr_47 (a + 4) (by omega)).trans h4
                have f_147 : ω_52.2 (a + 4) = some (.inl (G.2.1 0, 6, .inl (v 1))) := (fr_55 (a + 4) (by omega)).trans f_146
                have f_148 : ω_61.2 (a + 4) = some (.inl (G.2.1 0, 6, .inl (v 1))) := (fr_64 (a + 4) (by omega)).trans f_147
                have f_149 : ω_122.2 (a + 4) = some (.inl (G.2.1 0, 6, .inl (v 1))) := (fr_125 (a + 4) (by omega)).trans f_148
                have f_150 : ω_128.2 (a + 4) = some (.inl (G.2.1 0, 6, .inl (v 1))) := (fr_131 (a + 4) (by omega)).trans f_149
                have f_151 : ω_44.2 (a + 5) = some (.inl (G.2.1 0, 6, .inl (v 2))) := (fr_47 (a + 5) (by omega)).trans h5
                have f_152 : ω_52.2 (a + 5) = some (.inl (G.2.1 0, 6, .inl (v 2))) := (fr_55 (a + 5) (by omega)).trans f_151
                have f_153 : ω_61.2 (a + 5) = some (.inl (G.2.1 0, 6, .inl (v 2))) := (fr_64 (a + 5) (by omega)).trans f_152
                have f_154 : ω_122.2 (a + 5) = some (.inl (G.2.1 0, 6, .inl (v 2))) := (fr_125 (a + 5) (by omega)).trans f_153
                have f_155 : ω_128.2 (a + 5) = some (.inl (G.2.1 0, 6, .inl (v 2))) := (fr_131 (a + 5) (by omega)).trans f_154
                have f_157 : ω_52.2 (a + 6 + 5 * j + 1) = some (.inl (G.2.1 0, 8, .inl (upd (v (10 + j)) q kind))) := (fr_55 (a + 6 + 5 * j + 1) (by omega)).trans f_46
                have f_158 : ω_61.2 (a + 6 + 5 * j + 1) = some (.inl (G.2.1 0, 8, .inl (upd (v (10 + j)) q kind))) := (fr_64 (a + 6 + 5 * j + 1) (by omega)).trans f_157
                have f_159 : ω_122.2 (a + 6 + 5 * j + 1) = some (.inl (G.2.1 0, 8, .inl (upd (v (10 + j)) q kind))) := (fr_125 (a + 6 + 5 * j + 1) (by omega)).trans f_158
                have f_160 : ω_128.2 (a + 6 + 5 * j + 1) = some (.inl (G.2.1 0, 8, .inl (upd (v (10 + j)) q kind))) := (fr_131 (a + 6 + 5 * j + 1) (by omega)).trans f_159
                have f_161 : ω_61.2 (a + 6 + 5 * j + 2) = some (.inl (G.2.1 0, 8, .inl (upd (v (20 + j)) q parts))) := (fr_64 (a + 6 + 5 * j + 2) (by omega)).trans f_54
                have f_162 : ω_122.2 (a + 6 + 5 * j + 2) = some (.inl (G.2.1 0, 8, .inl (upd (v (20 + j)) q parts))) := (fr_125 (a + 6 + 5 * j + 2) (by omega)).trans f_161
                have f_163 : ω_128.2 (a + 6 + 5 * j + 2) = some (.inl (G.2.1 0, 8, .inl (upd (v (20 + j)) q parts))) := (fr_131 (a + 6 + 5 * j + 2) (by omega)).trans f_162
                have f_164 : ω_122.2 (a + 6 + 5 * j + 3) = some (.inl (G.2.1 0, 8, .inl (upd (v (30 + j)) q lang))) := (fr_125 (a + 6 + 5 * j + 3) (by omega)).trans f_63
                have f_165 : ω_128.2 (a + 6 + 5 * j + 3) = some (.inl (G.2.1 0, 8, .inl (upd (v (30 + j)) q lang))) := (fr_131 (a + 6 + 5 * j + 3) (by omega)).trans f_164
                have f_166 : ω_128.2 (a + 6 + 5 * j + 4) = some (.inl (G.2.1 0, 8, .inl (upd (fun i9 => v (40 + j) i9 + 1) q 2))) := (fr_131 (a + 6 + 5 * j + 4) (by omega)).trans f_124
                have hlf_156 : LeafS G ω_128.2 (a + 6 + 5 * j) (addV v j q kind parts lang 1) j := by
                  refine ⟨f_130.trans (congrArg some ?_), f_160.trans (congrArg some ?_), f_163.trans (congrArg some ?_), f_165.trans (congrArg some ?_), f_166.trans (congrArg some ?_)⟩
                  all_goals first | rfl | (simp [set1, setR, pk_us, side_1, side_2, addV, ne_big, ne_big']; done)
                have hA_135 : ArcS G ω_128.2 a (addV v j q kind parts lang 1) := by
                  refine hA.gen _ (j) (5) (f_145.trans (congrArg some ?_)) (f_150.trans (congrArg some ?_)) (f_155.trans (congrArg some ?_)) (fun hk9 => ?_) (fun hc9 => ?_) (fun q q1 q2 q3 q4 q5 q6 => ?_) (fun j9 h9 n9 => ?_) (fun j9 h9 n9 => ?_) (by omega) (by omega)
                  · first | rfl | (simp [set1, setR, pk_us, side_1, side_2, addV, ne_big, ne_big']; done)
                  · first | rfl | (simp [set1, setR, pk_us, side_1, side_2, addV, ne_big, ne_big']; done)
                  · first | rfl | (simp [set1, setR, pk_us, side_1, side_2, addV, ne_big, ne_big']; done)
                  · exact hlf_156
                  · exact absurd hc9 (by decide)
                  · skip
                    rw [fr_131 q (by omega)]
                    rw [fr_125 q (by omega)]
                    rw [fr_64 q (by omega)]
                    rw [fr_55 q (by omega)]
                    rw [fr_47 q (by omega)]
                  · exact addV_le h9 (by omega) n9
                  · constructor <;> first | rfl | (simp [set1, setR, pk_us, side_1, side_2, addV, n9, ne_big, ne_big']; done)
                have hr_167 : addC v k1 k2 k3 (nI j) kind parts lang two = ((nI q, (addV v j q kind parts lang 1), k1, k2, k3) : CR) := by
                  simp only [addC, hcc, hdd, hcj, hcq]
                  rw [if_pos c_4, if_pos ⟨c_8, c_22, c_36⟩, if_neg c_41, if_pos c_42, if_neg c_67]
                  rw [hq]
                rw [hr_167]
                exact ⟨rfl, z_133, hA_135, f_140, fr_134⟩
            · skip
              refine lv_aload_n hx hb dX1_addStep_99 rfl (lv_at hl 1 rfl) ?_
              refine fw_get (v := .ref (a + 51)) (C := RX1) (T := TX1) (N := 2) hx hb hts hin1 hown hK hR hy rfl 1 (by decide) (hts (.fieldLink RX1 21 "UnreadLeaflets$Changes" "kept" "LUnreadLeaflets$Reason;") (by decide +kernel)) rfl dX1_addStep_100 ?_
              refine lv_iconst (v := 2) hx hb dX1_addStep_103 (by decide) ?_
              refine lv_bipush (v := 8) hx hb dX1_addStep_104 (by decide) ?_
              refine fw_call (va_runV (As := [.int 2, .int 8]) (rest := []) ⟨hx, hb, hml, hown, hts⟩ (c_X7_refuse G hL l ω (a + 51) k1 k2 k3 2 8 hk) (cwV 2 hts gX1_addStep_X7_refuse rfl rfl rfl (by decide +kernel) ⟨Nat.le_of_ble_eq_true rfl, Nat.le_of_ble_eq_true rfl⟩) (fw_preV hW hK hR hk rfl) rfl rfl hl.1 rfl (lv_room (Nat.le_of_ble_eq_true rfl)) dX1_addStep_106 ⟨Nat.le_of_ble_eq_true rfl, Nat.le_of_ble_eq_true rfl⟩) hS (fun v_168 ω_169 H locs hq_170 hR hS => ?_)
              obtain ⟨rfl, z_171, f_173, fr_172⟩ := hq_170
              refine W.eq (g2 := F0 mI 109 ls [.int (-1)]) rfl ?_
              refine fw_iret hx hb hr hlocks hR hS dX1_addStep_109 ?_
              have z_174 : ω_169.1 = ω.1 := by rw [z_171]
              have fr_175 : ∀ q : Nat, ¬ (a ≤ q ∧ q < a + 52) → ω_169.2 q = ω.2 q := by
                intro q hq0
                rw [fr_172 q (by omega)]
              have hA_176 : ArcS G ω_169.2 a v := hA.keep (fun q q1 q2 => by
                rw [fr_172 q (by omega)])
              have hr_177 : addC v k1 k2 k3 (nI j) kind parts lang two = (((-1), v, 2, 8, 0) : CR) := by
                simp only [addC, hcc, hdd, hcj]
                rw [if_pos c_4, if_pos ⟨c_8, c_22, c_36⟩, if_neg c_41, if_neg c_42]
              rw [hr_177]
              exact ⟨rfl, z_174, hA_176, f_173, fr_175⟩
          · skip
            have c_41 := bz_ne c_41
            refine lv_aload_n hx hb dX1_addStep_74 rfl (lv_at hl 1 rfl) ?_
            refine fw_get (v := .ref (a + 51)) (C := RX1) (T := TX1) (N := 2) hx hb hts hin1 hown hK hR hy rfl 1 (by decide) (hts (.fieldLink RX1 21 "UnreadLeaflets$Changes" "kept" "LUnreadLeaflets$Reason;") (by decide +kernel)) rfl dX1_addStep_75 ?_
            refine lv_bipush (v := 6) hx hb dX1_addStep_78 (by decide) ?_
            refine lv_aload hx hb dX1_addStep_80 (lv_at hl 0 rfl) ?_
            refine fw_get (v := .int (v 6 j - 1)) (C := RX5) (T := TX5) (N := 9) hx hb hts hin5 hown hK hR f_37 rfl 3 (by decide) (hts (.fieldLink RX1 68 "UnreadLeaflets$Leaflet" "builder" "I") (by decide +kernel)) rfl dX1_addStep_82 ?_
            refine fw_call (va_runV (As := [.int 6, .int (v 6 j - 1)]) (rest := []) ⟨hx, hb, hml, hown, hts⟩ (c_X7_refuse G hL l ω (a + 51) k1 k2 k3 6 (v 6 j - 1) hk) (cwV 2 hts gX1_addStep_X7_refuse rfl rfl rfl (by decide +kernel) ⟨Nat.le_of_ble_eq_true rfl, Nat.le_of_ble_eq_true rfl⟩) (fw_preV hW hK hR hk rfl) rfl rfl hl.1 rfl (lv_room (Nat.le_of_ble_eq_true rfl)) dX1_addStep_85 ⟨Nat.le_of_ble_eq_true rfl, Nat.le_of_ble_eq_true rfl⟩) hS (fun v_178 ω_179 H locs hq_180 hR hS => ?_)
            obtain ⟨rfl, z_181, f_183, fr_182⟩ := hq_180
            refine W.eq (g2 := F0 mI 88 ls [.int (-1)]) rfl ?_
            refine fw_iret hx hb hr hlocks hR hS dX1_addStep_88 ?_
            have z_184 : ω_179.1 = ω.1 := by rw [z_181]
            have fr_185 : ∀ q : Nat, ¬ (a ≤ q ∧ q < a + 52) → ω_179.2 q = ω.2 q := by
              intro q hq0
              rw [fr_182 q (by omega)]
            have hA_186 : ArcS G ω_179.2 a v := hA.keep (fun q q1 q2 => by
              rw [fr_182 q (by omega)])
            have hr_187 : addC v k1 k2 k3 (nI j) kind parts lang two = (((-1), v, 6, (v 6 j - 1), 0) : CR) := by
              simp only [addC, hcc, hdd, hcj]
              rw [if_pos c_4, if_pos ⟨c_8, c_22, c_36⟩, if_pos c_41]
            rw [hr_187]
            exact ⟨rfl, z_184, hA_186, f_183, fr_185⟩
        · skip
          have c_36 := bz_eq c_36
          refine lv_aload_n hx hb dX1_addStep_45 rfl (lv_at hl 0 rfl) ?_
          refine fw_get (v := .ref (a + 51)) (C := RX1) (T := TX1) (N := 2) hx hb hts hin1 hown hK hR hy rfl 1 (by decide) (hts (.fieldLink RX1 21 "UnreadLeaflets$Changes" "kept" "LUnreadLeaflets$Reason;") (by decide +kernel)) rfl dX1_addStep_46 ?_
          refine lv_iconst (v := 1) hx hb dX1_addStep_49 (by decide) ?_
          refine lv_iconst (v := 0) hx hb dX1_addStep_50 (by decide) ?_
          refine fw_call (va_runV (As := [.int 1, .int 0]) (rest := []) ⟨hx, hb, hml, hown, hts⟩ (c_X7_refuse G hL l ω (a + 51) k1 k2 k3 1 0 hk) (cwV 2 hts gX1_addStep_X7_refuse rfl rfl rfl (by decide +kernel) ⟨Nat.le_of_ble_eq_true rfl, Nat.le_of_ble_eq_true rfl⟩) (fw_preV hW hK hR hk rfl) rfl rfl hl.1 rfl (lv_room (Nat.le_of_ble_eq_true rfl)) dX1_addStep_51 ⟨Nat.le_of_ble_eq_true rfl, Nat.le_of_ble_eq_true rfl⟩) hS (fun v_188 ω_189 H locs hq_190 hR hS => ?_)
          obtain ⟨rfl, z_191, f_193, fr_192⟩ := hq_190
          refine W.eq (g2 := F0 mI 54 ls [.int (-1)]) rfl ?_
          refine fw_iret hx hb hr hlocks hR hS dX1_addStep_54 ?_
          have z_194 : ω_189.1 = ω.1 := by rw [z_191]
          have fr_195 : ∀ q : Nat, ¬ (a ≤ q ∧ q < a + 52) → ω_189.2 q = ω.2 q := by
            intro q hq0
            rw [fr_192 q (by omega)]
          have hA_196 : ArcS G ω_189.2 a v := hA.keep (fun q q1 q2 => by
            rw [fr_192 q (by omega)])
          have hr_197 : addC v k1 k2 k3 (nI j) kind parts lang two = (((-1), v, 1, 0, 0) : CR) := by
            simp only [addC, hcc, hdd, hcj]
            rw [if_pos c_4, if_neg (fun z => c_36 z.2.2)]
          rw [hr_197]
          exact ⟨rfl, z_194, hA_196, f_193, fr_195⟩
  · skip
    have c_4 := bz_eq c_4
    refine lv_aload_n hx hb dX1_addStep_11 rfl (lv_at hl 0 rfl) ?_
    refine fw_call (va_runV (As := []) (rest := []) ⟨hx, hb, hml, hown, hts⟩ (c_X1_refuseNoLeaflet G hL l ω y a v k1 k2 k3 hy hay hA hk hW0) (cwV 0 hts gX1_addStep_X1_refuseNoLeaflet rfl rfl rfl (by decide +kernel) ⟨Nat.le_of_ble_eq_true rfl, Nat.le_of_ble_eq_true rfl⟩) (fw_preV hW hK hR hy rfl) rfl rfl hl.1 rfl (lv_room (Nat.le_of_ble_eq_true rfl)) dX1_addStep_12 ⟨Nat.le_of_ble_eq_true rfl, Nat.le_of_ble_eq_true rfl⟩) hS (fun v_198 ω_199 H locs hq_200 hR hS => ?_)
    obtain ⟨rfl, z_201, f_203, fr_202⟩ := hq_200
    refine W.eq (g2 := F0 mI 15 ls [.int (-1)]) rfl ?_
    refine fw_iret hx hb hr hlocks hR hS dX1_addStep_15 ?_
    have z_204 : ω_199.1 = ω.1 := by rw [z_201]
    have fr_205 : ∀ q : Nat, ¬ (a ≤ q ∧ q < a + 52) → ω_199.2 q = ω.2 q := by
      intro q hq0
      rw [fr_202 q (by omega)]
    have hA_206 : ArcS G ω_199.2 a v := hA.keep (fun q q1 q2 => by
      rw [fr_202 q (by omega)])
    have hr_207 : addC v k1 k2 k3 m kind parts lang two = (((-1), v, 3, (v 0 0), 0) : CR) := by
      simp only [addC, hcc, hdd]
      rw [if_neg c_4]
    rw [hr_207]
    exact ⟨rfl, z_204, hA_206, f_203, fr_205⟩
set_option maxHeartbeats 4000000 in
set_option maxRecDepth 100000 in
theorem c_X1_letCome (G : FG) (hL : FL G) (l : Launch) (ω : FWd) (y a : Nat) (v : Nat → Nat → Int32) (k1 k2 k3 : Int32) (hy : ω.2 y = some (.inr (3, [.ref a, .ref (a + 51)]))) (hay : a = y + 1) (hA : ArcS G ω.2 a v) (hk : ω.2 (a + 51) = some (.inr (9, [.int k1, .int k2, .int k3]))) (hW0 : WF v) (bo lang : Int32) : FMet G l yX1_letCome wsX1_letCome ({ frames := 1, cells := 0, slots := 0, locals := 22 } : Room) [.ref y, .int bo, .int lang] ω (CQ G a ω (comeC v k1 k2 k3 bo lang)) 0 0 := by
  refine fw_ofW (cc := cX1_letCome) (maxL := 4) (ret := (some .int)) (by decide) rfl (Nat.le_of_ble_eq_true rfl) ?_
  intro pP eE sS mI ar9 bl9 meth cD ls hx hb hr hlocks hml hts hown hnm hW hR hl
  have hK := hL.K hW
  have hS : va_S (fwA G) sS.heap sS.heap [] := va_S.rf
  have hin0 : ∀ w ∈ u_ws RX0 TX0 9, w ∈ wsX1_letCome := by decide +kernel
  have hin1 : ∀ w ∈ u_ws RX1 TX1 2, w ∈ wsX1_letCome := by decide +kernel
  have hin3 : ∀ w ∈ u_ws RX3 TX3 2, w ∈ wsX1_letCome := by decide +kernel
  have hl : lv_has ls 4 [(0, .ref y), (1, .int bo), (2, .int lang)] := hl
  obtain ⟨h0, h1, h2, h3, h4, h5, hLf, hCo⟩ := id hA
  obtain ⟨c, hc8, hc, hcc⟩ := okN_of hW0.1
  obtain ⟨cc, hd5, hd, hdd⟩ := okN_of hW0.2.1
  have hs : ∀ j, j < c → v 3 j = nI (stN v j) ∧ stN v j ≤ 8 := fun j hj => (hW0.2.2 j (by rw [hcc]; exact hj)).1
  have hfo : ∀ j, j < c → v 4 j = nI (cN (v 4 j)) ∧ cN (v 4 j) ≤ 3 := fun j hj => (hW0.2.2 j (by rw [hcc]; exact hj)).2
  refine lv_iload_n hx hb dX1_letCome_0 rfl (lv_at hl 1 rfl) ?_
  refine lv_iconst (v := 0) hx hb dX1_letCome_1 (by decide) ?_
  refine lv_iconst (v := 5) hx hb dX1_letCome_2 (by decide) ?_
  refine fw_call (va_runSN (As := [.int bo, .int 0, .int 5]) (rest := []) ⟨hx, hb, hml, hown, hts⟩ (c_X10_isWithin G hL l ω bo 0 5) ⟨va_cnB 3 hts gX1_letCome_X10_isWithin_n60 rfl rfl rfl (hL.N hW (hh := RX10) (by decide +kernel)) (hts (.initialized RX10) (by decide +kernel)) (by decide +kernel) ⟨Nat.le_of_ble_eq_true rfl, Nat.le_of_ble_eq_true rfl⟩, hts (.static yX10_isWithin) (by decide +kernel), trivial⟩ (fw_preS hW hR) rfl rfl hl.1 rfl (lv_room (Nat.le_of_ble_eq_true rfl)) dX1_letCome_3 ⟨Nat.le_of_ble_eq_true rfl, Nat.le_of_ble_eq_true rfl⟩) hS (fun v_1 ω_2 H locs hq_3 hR hS => ?_)
  obtain ⟨rfl, hq_3⟩ := hq_3
  rw [hq_3] at hR
  refine W.eq (g2 := F0 mI 6 ls [.int (bz (inB bo 0 5))]) rfl ?_
  refine lv_if_eq (tgt := 19) hx hb dX1_letCome_6 (by decide) (fun c_4 => ?_) (fun c_4 => ?_)
  · skip
    have c_4 := bz_eq c_4
    refine lv_aload_n hx hb dX1_letCome_19 rfl (lv_at hl 0 rfl) ?_
    refine fw_get (v := .ref (a + 51)) (C := RX1) (T := TX1) (N := 2) hx hb hts hin1 hown hK hR hy rfl 1 (by decide) (hts (.fieldLink RX1 21 "UnreadLeaflets$Changes" "kept" "LUnreadLeaflets$Reason;") (by decide +kernel)) rfl dX1_letCome_20 ?_
    refine lv_iconst (v := 1) hx hb dX1_letCome_23 (by decide) ?_
    refine lv_iconst (v := 0) hx hb dX1_letCome_24 (by decide) ?_
    refine fw_call (va_runV (As := [.int 1, .int 0]) (rest := []) ⟨hx, hb, hml, hown, hts⟩ (c_X7_refuse G hL l ω (a + 51) k1 k2 k3 1 0 hk) (cwV 2 hts gX1_letCome_X7_refuse rfl rfl rfl (by decide +kernel) ⟨Nat.le_of_ble_eq_true rfl, Nat.le_of_ble_eq_true rfl⟩) (fw_preV hW hK hR hk rfl) rfl rfl hl.1 rfl (lv_room (Nat.le_of_ble_eq_true rfl)) dX1_letCome_25 ⟨Nat.le_of_ble_eq_true rfl, Nat.le_of_ble_eq_true rfl⟩) hS (fun v_5 ω_6 H locs hq_7 hR hS => ?_)
    obtain ⟨rfl, z_8, f_10, fr_9⟩ := hq_7
    refine W.eq (g2 := F0 mI 28 ls [.int (-1)]) rfl ?_
    refine fw_iret hx hb hr hlocks hR hS dX1_letCome_28 ?_
    have z_11 : ω_6.1 = ω.1 := by rw [z_8]
    have fr_12 : ∀ q : Nat, ¬ (a ≤ q ∧ q < a + 52) → ω_6.2 q = ω.2 q := by
      intro q hq0
      rw [fr_9 q (by omega)]
    have hA_13 : ArcS G ω_6.2 a v := hA.keep (fun q q1 q2 => by
      rw [fr_9 q (by omega)])
    have hr_14 : comeC v k1 k2 k3 bo lang = (((-1), v, 1, 0, 0) : CR) := by
      simp only [comeC, hcc, hdd]
      rw [if_neg (fun z => c_4 z.1)]
    rw [hr_14]
    exact ⟨rfl, z_11, hA_13, f_10, fr_12⟩
  · skip
    have c_4 := bz_ne c_4
    refine lv_iload_n hx hb dX1_letCome_9 rfl (lv_at hl 2 rfl) ?_
    refine lv_iconst (v := 0) hx hb dX1_letCome_10 (by decide) ?_
    refine lv_bipush (v := 31) hx hb dX1_letCome_11 (by decide) ?_
    refine fw_call (va_runSN (As := [.int lang, .int 0, .int 31]) (rest := []) ⟨hx, hb, hml, hown, hts⟩ (c_X10_isWithin G hL l ω lang 0 31) ⟨va_cnB 3 hts gX1_letCome_X10_isWithin_n60 rfl rfl rfl (hL.N hW (hh := RX10) (by decide +kernel)) (hts (.initialized RX10) (by decide +kernel)) (by decide +kernel) ⟨Nat.le_of_ble_eq_true rfl, Nat.le_of_ble_eq_true rfl⟩, hts (.static yX10_isWithin) (by decide +kernel), trivial⟩ (fw_preS hW hR) rfl rfl hl.1 rfl (lv_room (Nat.le_of_ble_eq_true rfl)) dX1_letCome_13 ⟨Nat.le_of_ble_eq_true rfl, Nat.le_of_ble_eq_true rfl⟩) hS (fun v_15 ω_16 H locs hq_17 hR hS => ?_)
    obtain ⟨rfl, hq_17⟩ := hq_17
    rw [hq_17] at hR
    refine W.eq (g2 := F0 mI 16 ls [.int (bz (inB lang 0 31))]) rfl ?_
    refine lv_if_ne (tgt := 29) hx hb dX1_letCome_16 (by decide) (fun c_18 => ?_) (fun c_18 => ?_)
    · skip
      have c_18 := bz_ne c_18
      refine lv_aload_n hx hb dX1_letCome_29 rfl (lv_at hl 0 rfl) ?_
      refine fw_get (v := .ref a) (C := RX1) (T := TX1) (N := 2) hx hb hts hin1 hown hK hR hy rfl 0 (by decide) (hts (.fieldLink RX1 12 "UnreadLeaflets$Changes" "archive" "LUnreadLeaflets$Archive;") (by decide +kernel)) rfl dX1_letCome_30 ?_
      refine fw_get (v := .int (v 0 1)) (C := RX0) (T := TX0) (N := 9) hx hb hts hin0 hown hK hR h0 rfl 3 (by decide) (hts (.fieldLink RX1 33 "UnreadLeaflets$Archive" "cousinCount" "I") (by decide +kernel)) rfl dX1_letCome_33 ?_
      refine lv_iconst (v := 5) hx hb dX1_letCome_36 (by decide) ?_
      refine lv_icmp_lt (tgt := 50) hx hb dX1_letCome_37 (by decide) (fun c_19 => ?_) (fun c_19 => ?_)
      · skip
        have hd4 : cc < 5 := by have h9 := c_19; rw [hd] at h9; exact (nI_ltI (by omega) (by omega)).mp h9
        refine lv_aload_n hx hb dX1_letCome_50 rfl (lv_at hl 0 rfl) ?_
        refine fw_get (v := .ref a) (C := RX1) (T := TX1) (N := 2) hx hb hts hin1 hown hK hR hy rfl 0 (by decide) (hts (.fieldLink RX1 12 "UnreadLeaflets$Changes" "archive" "LUnreadLeaflets$Archive;") (by decide +kernel)) rfl dX1_letCome_51 ?_
        refine fw_get (v := .int (v 0 1)) (C := RX0) (T := TX0) (N := 9) hx hb hts hin0 hown hK hR h0 rfl 3 (by decide) (hts (.fieldLink RX1 33 "UnreadLeaflets$Archive" "cousinCount" "I") (by decide +kernel)) rfl dX1_letCome_54 ?_
        refine W.eq (g2 := F0 mI 57 ls [.int (nI cc)]) (by rw [hd]) ?_
        refine lv_istore_n (lv' := [(3, .int (nI cc)), (0, .ref y), (1, .int bo), (2, .int lang)]) hx hb dX1_letCome_57 rfl hl (by decide) rfl (fun ls hl => ?_)
        refine lv_aload_n hx hb dX1_letCome_58 rfl (lv_at hl 1 rfl) ?_
        refine fw_get (v := .ref a) (C := RX1) (T := TX1) (N := 2) hx hb hts hin1 hown hK hR hy rfl 0 (by decide) (hts (.fieldLink RX1 12 "UnreadLeaflets$Changes" "archive" "LUnreadLeaflets$Archive;") (by decide +kernel)) rfl dX1_letCome_59 ?_
        refine fw_get (v := .ref (a + 2)) (C := RX0) (T := TX0) (N := 9) hx hb hts hin0 hown hK hR h0 rfl 2 (by decide) (hts (.fieldLink RX1 93 "UnreadLeaflets$Archive" "cousins" "[LUnreadLeaflets$Cousin;") (by decide +kernel)) rfl dX1_letCome_62 ?_
        refine lv_iload_n hx hb dX1_letCome_65 rfl (lv_at hl 0 rfl) ?_
        refine fw_aald (b := a + 46 + cc) hx hb hK hR h2 rfl (vp_in_nI (by omega) (by omega)) (by rw [nI_clamp (by omega)]) dX1_letCome_66 ?_
        refine lv_iload_n hx hb dX1_letCome_67 rfl (lv_at hl 2 rfl) ?_
        have f_20 : ω.2 (a + 46 + cc) = some (.inr (5, [.int (v 8 cc), .int (v 9 cc)])) := hCo cc (by omega)
        refine fw_put (v := .int bo) (C := RX3) (T := TX3) (N := 2) hx hb hts hin3 tyX3 tyX3_ok nmX3 hown hK hR hS f_20 rfl 0 (by decide) (hts (.fieldLink RX1 97 "UnreadLeaflets$Cousin" "boast" "I") (by decide +kernel)) rfl rfl rfl (Nat.le_of_ble_eq_true rfl) dX1_letCome_68 (fun H locs hR hS => ?_)
        obtain ⟨ω_21, hw_22⟩ : ∃ τ : FWd, τ = (ω.1, va_up ω.2 (a + 46 + cc) (some (.inr (5, [.int bo, .int (v 9 cc)])))) := ⟨_, rfl⟩
        have hR : fR G ω_21 H := by rw [hw_22]; exact hR
        have f_23 : ω_21.2 (a + 46 + cc) = some (.inr (5, [.int bo, .int (v 9 cc)])) := by rw [hw_22]; exact va_up_at
        have fr_24 : ∀ q : Nat, ¬ q = (a + 46 + cc) → ω_21.2 q = ω.2 q := fun q hq => by rw [hw_22]; exact va_up_off hq
        have z_25 : ω_21.1 = ω.1 := by rw [hw_22]
        refine lv_aload_n hx hb dX1_letCome_71 rfl (lv_at hl 1 rfl) ?_
        have f_26 : ω_21.2 y = some (.inr (3, [.ref a, .ref (a + 51)])) := (fr_24 y (by omega)).trans hy
        refine fw_get (v := .ref a) (C := RX1) (T := TX1) (N := 2) hx hb hts hin1 hown hK hR f_26 rfl 0 (by decide) (hts (.fieldLink RX1 12 "UnreadLeaflets$Changes" "archive" "LUnreadLeaflets$Archive;") (by decide +kernel)) rfl dX1_letCome_72 ?_
        have f_27 : ω_21.2 a = some (.inr (2, [.ref (a + 1), .int (v 0 0), .ref (a + 2), .int (v 0 1), .ref (a + 3), .int (v 0 2), .int (v 0 3), .int (v 0 4), .int (v 0 5)])) := (fr_24 a (by omega)).trans h0
        refine fw_get (v := .ref (a + 2)) (C := RX0) (T := TX0) (N := 9) hx hb hts hin0 hown hK hR f_27 rfl 2 (by decide) (hts (.fieldLink RX1 93 "UnreadLeaflets$Archive" "cousins" "[LUnreadLeaflets$Cousin;") (by decide +kernel)) rfl dX1_letCome_75 ?_
        refine lv_iload_n hx hb dX1_letCome_78 rfl (lv_at hl 0 rfl) ?_
        have f_28 : ω_21.2 (a + 2) = some (.inl (G.2.1 6, 5, .inr (.inr (.inr (.inr (fun j => some (a + 46 + j))))))) := (fr_24 (a + 2) (by omega)).trans h2
        refine fw_aald (b := a + 46 + cc) hx hb hK hR f_28 rfl (vp_in_nI (by omega) (by omega)) (by rw [nI_clamp (by omega)]) dX1_letCome_79 ?_
        refine lv_iload_n hx hb dX1_letCome_80 rfl (lv_at hl 3 rfl) ?_
        refine fw_put (v := .int lang) (C := RX3) (T := TX3) (N := 2) hx hb hts hin3 tyX3 tyX3_ok nmX3 hown hK hR hS f_23 rfl 1 (by decide) (hts (.fieldLink RX1 102 "UnreadLeaflets$Cousin" "languages" "I") (by decide +kernel)) rfl rfl rfl (Nat.le_of_ble_eq_true rfl) dX1_letCome_81 (fun H locs hR hS => ?_)
        obtain ⟨ω_29, hw_30⟩ : ∃ τ : FWd, τ = (ω_21.1, va_up ω_21.2 (a + 46 + cc) (some (.inr (5, [.int bo, .int lang])))) := ⟨_, rfl⟩
        have hR : fR G ω_29 H := by rw [hw_30]; exact hR
        have f_31 : ω_29.2 (a + 46 + cc) = some (.inr (5, [.int bo, .int lang])) := by rw [hw_30]; exact va_up_at
        have fr_32 : ∀ q : Nat, ¬ q = (a + 46 + cc) → ω_29.2 q = ω_21.2 q := fun q hq => by rw [hw_30]; exact va_up_off hq
        have z_33 : ω_29.1 = ω_21.1 := by rw [hw_30]
        refine lv_aload_n hx hb dX1_letCome_84 rfl (lv_at hl 1 rfl) ?_
        have f_34 : ω_29.2 y = some (.inr (3, [.ref a, .ref (a + 51)])) := (fr_32 y (by omega)).trans f_26
        refine fw_get (v := .ref a) (C := RX1) (T := TX1) (N := 2) hx hb hts hin1 hown hK hR f_34 rfl 0 (by decide) (hts (.fieldLink RX1 12 "UnreadLeaflets$Changes" "archive" "LUnreadLeaflets$Archive;") (by decide +kernel)) rfl dX1_letCome_85 ?_
        refine lv_dup hx hb dX1_letCome_88 rfl ?_
        have f_35 : ω_29.2 a = some (.inr (2, [.ref (a + 1), .int (v 0 0), .ref (a + 2), .int (v 0 1), .ref (a + 3), .int (v 0 2), .int (v 0 3), .int (v 0 4), .int (v 0 5)])) := (fr_32 a (by omega)).trans f_27
        refine fw_get (v := .int (v 0 1)) (C := RX0) (T := TX0) (N := 9) hx hb hts hin0 hown hK hR f_35 rfl 3 (by decide) (hts (.fieldLink RX1 33 "UnreadLeaflets$Archive" "cousinCount" "I") (by decide +kernel)) rfl dX1_letCome_89 ?_
        refine lv_iconst (v := 1) hx hb dX1_letCome_92 (by decide) ?_
        refine lv_iadd hx hb dX1_letCome_93 ?_
        refine fw_put (v := .int ((v 0 1) + 1)) (C := RX0) (T := TX0) (N := 9) hx hb hts hin0 tyX0 tyX0_ok nmX0 hown hK hR hS f_35 rfl 3 (by decide) (hts (.fieldLink RX1 33 "UnreadLeaflets$Archive" "cousinCount" "I") (by decide +kernel)) rfl rfl rfl (Nat.le_of_ble_eq_true rfl) dX1_letCome_94 (fun H locs hR hS => ?_)
        obtain ⟨ω_36, hw_37⟩ : ∃ τ : FWd, τ = (ω_29.1, va_up ω_29.2 a (some (.inr (2, [.ref (a + 1), .int (v 0 0), .ref (a + 2), .int ((v 0 1) + 1), .ref (a + 3), .int (v 0 2), .int (v 0 3), .int (v 0 4), .int (v 0 5)])))) := ⟨_, rfl⟩
        have hR : fR G ω_36 H := by rw [hw_37]; exact hR
        have f_38 : ω_36.2 a = some (.inr (2, [.ref (a + 1), .int (v 0 0), .ref (a + 2), .int ((v 0 1) + 1), .ref (a + 3), .int (v 0 2), .int (v 0 3), .int (v 0 4), .int (v 0 5)])) := by rw [hw_37]; exact va_up_at
        have fr_39 : ∀ q : Nat, ¬ q = a → ω_36.2 q = ω_29.2 q := fun q hq => by rw [hw_37]; exact va_up_off hq
        have z_40 : ω_36.1 = ω_29.1 := by rw [hw_37]
        refine lv_iload_n hx hb dX1_letCome_97 rfl (lv_at hl 0 rfl) ?_
        refine fw_iret hx hb hr hlocks hR hS dX1_letCome_98 ?_
        have z_41 : ω_36.1 = ω.1 := by rw [z_40, z_33, z_25]
        have fr_42 : ∀ q : Nat, ¬ (a ≤ q ∧ q < a + 52) → ω_36.2 q = ω.2 q := by
          intro q hq0
          rw [fr_39 q (by omega)]
          rw [fr_32 q (by omega)]
          rw [fr_24 q (by omega)]
        have f_44 : ω_21.2 (a + 51) = some (.inr (9, [.int k1, .int k2, .int k3])) := (fr_24 (a + 51) (by omega)).trans hk
        have f_45 : ω_29.2 (a + 51) = some (.inr (9, [.int k1, .int k2, .int k3])) := (fr_32 (a + 51) (by omega)).trans f_44
        have f_46 : ω_36.2 (a + 51) = some (.inr (9, [.int k1, .int k2, .int k3])) := (fr_39 (a + 51) (by omega)).trans f_45
        have f_47 : ω_21.2 (a + 4) = some (.inl (G.2.1 0, 6, .inl (v 1))) := (fr_24 (a + 4) (by omega)).trans h4
        have f_48 : ω_29.2 (a + 4) = some (.inl (G.2.1 0, 6, .inl (v 1))) := (fr_32 (a + 4) (by omega)).trans f_47
        have f_49 : ω_36.2 (a + 4) = some (.inl (G.2.1 0, 6, .inl (v 1))) := (fr_39 (a + 4) (by omega)).trans f_48
        have f_50 : ω_21.2 (a + 5) = some (.inl (G.2.1 0, 6, .inl (v 2))) := (fr_24 (a + 5) (by omega)).trans h5
        have f_51 : ω_29.2 (a + 5) = some (.inl (G.2.1 0, 6, .inl (v 2))) := (fr_32 (a + 5) (by omega)).trans f_50
        have f_52 : ω_36.2 (a + 5) = some (.inl (G.2.1 0, 6, .inl (v 2))) := (fr_39 (a + 5) (by omega)).trans f_51
        have f_53 : ω_36.2 (a + 46 + cc) = some (.inr (5, [.int bo, .int lang])) := (fr_39 (a + 46 + cc) (by omega)).trans f_31
        have hA_43 : ArcS G ω_36.2 a (comeV v cc bo lang) := by
          refine hA.gen _ (8) (cc) (f_38.trans (congrArg some ?_)) (f_49.trans (congrArg some ?_)) (f_52.trans (congrArg some ?_)) (fun hk9 => ?_) (fun hc9 => ?_) (fun q q1 q2 q3 q4 q5 q6 => ?_) (fun j9 h9 n9 => ?_) (fun j9 h9 n9 => ?_) (by omega) (by omega)
          · first | rfl | (simp [set1, setR, upd, comeV, ne_big, ne_big']; done)
          · first | rfl | (simp [set1, setR, upd, comeV, ne_big, ne_big']; done)
          · first | rfl | (simp [set1, setR, upd, comeV, ne_big, ne_big']; done)
          · exact absurd hk9 (by decide)
          · exact f_53.trans (congrArg some (by first | rfl | (simp [set1, setR, upd, comeV, ne_big, ne_big']; done)))
          · skip
            rw [fr_39 q (by omega)]
            rw [fr_32 q (by omega)]
            rw [fr_24 q (by omega)]
          · exact comeV_le
          · constructor <;> first | rfl | (simp [set1, setR, upd, comeV, n9, ne_big, ne_big']; done)
        have hr_54 : comeC v k1 k2 k3 bo lang = ((nI cc, (comeV v cc bo lang), k1, k2, k3) : CR) := by
          simp only [comeC, hcc, hdd]
          rw [if_pos ⟨c_4, c_18⟩, if_pos c_19]
          rw [hd]
        rw [hr_54]
        exact ⟨rfl, z_41, hA_43, f_46, fr_42⟩
      · skip
        refine lv_aload_n hx hb dX1_letCome_40 rfl (lv_at hl 0 rfl) ?_
        refine fw_get (v := .ref (a + 51)) (C := RX1) (T := TX1) (N := 2) hx hb hts hin1 hown hK hR hy rfl 1 (by decide) (hts (.fieldLink RX1 21 "UnreadLeaflets$Changes" "kept" "LUnreadLeaflets$Reason;") (by decide +kernel)) rfl dX1_letCome_41 ?_
        refine lv_iconst (v := 2) hx hb dX1_letCome_44 (by decide) ?_
        refine lv_iconst (v := 5) hx hb dX1_letCome_45 (by decide) ?_
        refine fw_call (va_runV (As := [.int 2, .int 5]) (rest := []) ⟨hx, hb, hml, hown, hts⟩ (c_X7_refuse G hL l ω (a + 51) k1 k2 k3 2 5 hk) (cwV 2 hts gX1_letCome_X7_refuse rfl rfl rfl (by decide +kernel) ⟨Nat.le_of_ble_eq_true rfl, Nat.le_of_ble_eq_true rfl⟩) (fw_preV hW hK hR hk rfl) rfl rfl hl.1 rfl (lv_room (Nat.le_of_ble_eq_true rfl)) dX1_letCome_46 ⟨Nat.le_of_ble_eq_true rfl, Nat.le_of_ble_eq_true rfl⟩) hS (fun v_55 ω_56 H locs hq_57 hR hS => ?_)
        obtain ⟨rfl, z_58, f_60, fr_59⟩ := hq_57
        refine W.eq (g2 := F0 mI 49 ls [.int (-1)]) rfl ?_
        refine fw_iret hx hb hr hlocks hR hS dX1_letCome_49 ?_
        have z_61 : ω_56.1 = ω.1 := by rw [z_58]
        have fr_62 : ∀ q : Nat, ¬ (a ≤ q ∧ q < a + 52) → ω_56.2 q = ω.2 q := by
          intro q hq0
          rw [fr_59 q (by omega)]
        have hA_63 : ArcS G ω_56.2 a v := hA.keep (fun q q1 q2 => by
          rw [fr_59 q (by omega)])
        have hr_64 : comeC v k1 k2 k3 bo lang = (((-1), v, 2, 5, 0) : CR) := by
          simp only [comeC, hcc, hdd]
          rw [if_pos ⟨c_4, c_18⟩, if_neg c_19]
        rw [hr_64]
        exact ⟨rfl, z_61, hA_63, f_60, fr_62⟩
    · skip
      have c_18 := bz_eq c_18
      refine lv_aload_n hx hb dX1_letCome_19 rfl (lv_at hl 0 rfl) ?_
      refine fw_get (v := .ref (a + 51)) (C := RX1) (T := TX1) (N := 2) hx hb hts hin1 hown hK hR hy rfl 1 (by decide) (hts (.fieldLink RX1 21 "UnreadLeaflets$Changes" "kept" "LUnreadLeaflets$Reason;") (by decide +kernel)) rfl dX1_letCome_20 ?_
      refine lv_iconst (v := 1) hx hb dX1_letCome_23 (by decide) ?_
      refine lv_iconst (v := 0) hx hb dX1_letCome_24 (by decide) ?_
      refine fw_call (va_runV (As := [.int 1, .int 0]) (rest := []) ⟨hx, hb, hml, hown, hts⟩ (c_X7_refuse G hL l ω (a + 51) k1 k2 k3 1 0 hk) (cwV 2 hts gX1_letCome_X7_refuse rfl rfl rfl (by decide +kernel) ⟨Nat.le_of_ble_eq_true rfl, Nat.le_of_ble_eq_true rfl⟩) (fw_preV hW hK hR hk rfl) rfl rfl hl.1 rfl (lv_room (Nat.le_of_ble_eq_true rfl)) dX1_letCome_25 ⟨Nat.le_of_ble_eq_true rfl, Nat.le_of_ble_eq_true rfl⟩) hS (fun v_65 ω_66 H locs hq_67 hR hS => ?_)
      obtain ⟨rfl, z_68, f_70, fr_69⟩ := hq_67
      refine W.eq (g2 := F0 mI 28 ls [.int (-1)]) rfl ?_
      refine fw_iret hx hb hr hlocks hR hS dX1_letCome_28 ?_
      have z_71 : ω_66.1 = ω.1 := by rw [z_68]
      have fr_72 : ∀ q : Nat, ¬ (a ≤ q ∧ q < a + 52) → ω_66.2 q = ω.2 q := by
        intro q hq0
        rw [fr_69 q (by omega)]
      have hA_73 : ArcS G ω_66.2 a v := hA.keep (fun q q1 q2 => by
        rw [fr_69 q (by omega)])
      have hr_74 : comeC v k1 k2 k3 bo lang = (((-1), v, 1, 0, 0) : CR) := by
        simp only [comeC, hcc, hdd]
        rw [if_neg (fun z => c_18 z.2)]
      rw [hr_74]
      exact ⟨rfl, z_71, hA_73, f_70, fr_72⟩
set_option maxHeartbeats 4000000 in
set_option maxRecDepth 100000 in
theorem c_X1_letLearn (G : FG) (hL : FL G) (l : Launch) (ω : FWd) (y a : Nat) (v : Nat → Nat → Int32) (k1 k2 k3 : Int32) (hy : ω.2 y = some (.inr (3, [.ref a, .ref (a + 51)]))) (hay : a = y + 1) (hA : ArcS G ω.2 a v) (hk : ω.2 (a + 51) = some (.inr (9, [.int k1, .int k2, .int k3]))) (hW0 : WF v) (m1 lang : Int32) : FMet G l yX1_letLearn wsX1_letLearn ({ frames := 2, cells := 0, slots := 0, locals := 43 } : Room) [.ref y, .int m1, .int lang] ω (CQ G a ω (learnC v k1 k2 k3 m1 lang)) 0 0 := by
  refine fw_ofW (cc := cX1_letLearn) (maxL := 4) (ret := (some .int)) (by decide) rfl (Nat.le_of_ble_eq_true rfl) ?_
  intro pP eE sS mI ar9 bl9 meth cD ls hx hb hr hlocks hml hts hown hnm hW hR hl
  have hK := hL.K hW
  have hS : va_S (fwA G) sS.heap sS.heap [] := va_S.rf
  have hin0 : ∀ w ∈ u_ws RX0 TX0 9, w ∈ wsX1_letLearn := by decide +kernel
  have hin1 : ∀ w ∈ u_ws RX1 TX1 2, w ∈ wsX1_letLearn := by decide +kernel
  have hin3 : ∀ w ∈ u_ws RX3 TX3 2, w ∈ wsX1_letLearn := by decide +kernel
  have hl : lv_has ls 4 [(0, .ref y), (1, .int m1), (2, .int lang)] := hl
  obtain ⟨h0, h1, h2, h3, h4, h5, hLf, hCo⟩ := id hA
  obtain ⟨c, hc8, hc, hcc⟩ := okN_of hW0.1
  obtain ⟨cc, hd5, hd, hdd⟩ := okN_of hW0.2.1
  have hs : ∀ j, j < c → v 3 j = nI (stN v j) ∧ stN v j ≤ 8 := fun j hj => (hW0.2.2 j (by rw [hcc]; exact hj)).1
  have hfo : ∀ j, j < c → v 4 j = nI (cN (v 4 j)) ∧ cN (v 4 j) ≤ 3 := fun j hj => (hW0.2.2 j (by rw [hcc]; exact hj)).2
  refine lv_aload_n hx hb dX1_letLearn_0 rfl (lv_at hl 0 rfl) ?_
  refine fw_get (v := .ref a) (C := RX1) (T := TX1) (N := 2) hx hb hts hin1 hown hK hR hy rfl 0 (by decide) (hts (.fieldLink RX1 12 "UnreadLeaflets$Changes" "archive" "LUnreadLeaflets$Archive;") (by decide +kernel)) rfl dX1_letLearn_1 ?_
  refine lv_iload_n hx hb dX1_letLearn_4 rfl (lv_at hl 1 rfl) ?_
  refine fw_call (va_runV (As := [.int m1]) (rest := []) ⟨hx, hb, hml, hown, hts⟩ (c_X0_hasCousin G hL l ω a v hA  m1 ) (cwV 1 hts gX1_letLearn_X0_hasCousin rfl rfl rfl (by decide +kernel) ⟨Nat.le_of_ble_eq_true rfl, Nat.le_of_ble_eq_true rfl⟩) (fw_preV hW hK hR h0 rfl) rfl rfl hl.1 rfl (lv_room (Nat.le_of_ble_eq_true rfl)) dX1_letLearn_5 ⟨Nat.le_of_ble_eq_true rfl, Nat.le_of_ble_eq_true rfl⟩) hS (fun v_1 ω_2 H locs hq_3 hR hS => ?_)
  obtain ⟨rfl, hq_3⟩ := hq_3
  rw [hq_3] at hR
  refine W.eq (g2 := F0 mI 8 ls [.int (bz (inB m1 0 (v 0 1 - 1)))]) rfl ?_
  refine lv_if_ne (tgt := 16) hx hb dX1_letLearn_8 (by decide) (fun c_4 => ?_) (fun c_4 => ?_)
  · skip
    have c_4 := bz_ne c_4
    obtain ⟨i, hi2, rfl⟩ := in_c hd (by omega) c_4
    have hci : cN (nI i) = i := cN_nI (by omega)
    refine lv_iload_n hx hb dX1_letLearn_16 rfl (lv_at hl 2 rfl) ?_
    refine lv_iconst (v := 0) hx hb dX1_letLearn_17 (by decide) ?_
    refine lv_iconst (v := 4) hx hb dX1_letLearn_18 (by decide) ?_
    refine fw_call (va_runSN (As := [.int lang, .int 0, .int 4]) (rest := []) ⟨hx, hb, hml, hown, hts⟩ (c_X10_isWithin G hL l ω lang 0 4) ⟨va_cnB 3 hts gX1_letLearn_X10_isWithin_n60 rfl rfl rfl (hL.N hW (hh := RX10) (by decide +kernel)) (hts (.initialized RX10) (by decide +kernel)) (by decide +kernel) ⟨Nat.le_of_ble_eq_true rfl, Nat.le_of_ble_eq_true rfl⟩, hts (.static yX10_isWithin) (by decide +kernel), trivial⟩ (fw_preS hW hR) rfl rfl hl.1 rfl (lv_room (Nat.le_of_ble_eq_true rfl)) dX1_letLearn_19 ⟨Nat.le_of_ble_eq_true rfl, Nat.le_of_ble_eq_true rfl⟩) hS (fun v_5 ω_6 H locs hq_7 hR hS => ?_)
    obtain ⟨rfl, hq_7⟩ := hq_7
    rw [hq_7] at hR
    refine W.eq (g2 := F0 mI 22 ls [.int (bz (inB lang 0 4))]) rfl ?_
    refine lv_if_ne (tgt := 35) hx hb dX1_letLearn_22 (by decide) (fun c_8 => ?_) (fun c_8 => ?_)
    · skip
      have c_8 := bz_ne c_8
      refine lv_aload_n hx hb dX1_letLearn_35 rfl (lv_at hl 0 rfl) ?_
      refine fw_get (v := .ref a) (C := RX1) (T := TX1) (N := 2) hx hb hts hin1 hown hK hR hy rfl 0 (by decide) (hts (.fieldLink RX1 12 "UnreadLeaflets$Changes" "archive" "LUnreadLeaflets$Archive;") (by decide +kernel)) rfl dX1_letLearn_36 ?_
      refine fw_get (v := .ref (a + 2)) (C := RX0) (T := TX0) (N := 9) hx hb hts hin0 hown hK hR h0 rfl 2 (by decide) (hts (.fieldLink RX1 93 "UnreadLeaflets$Archive" "cousins" "[LUnreadLeaflets$Cousin;") (by decide +kernel)) rfl dX1_letLearn_39 ?_
      refine lv_iload_n hx hb dX1_letLearn_42 rfl (lv_at hl 1 rfl) ?_
      refine fw_aald (b := a + 46 + i) hx hb hK hR h2 rfl (vp_in_nI (by omega) (by omega)) (by rw [nI_clamp (by omega)]) dX1_letLearn_43 ?_
      refine lv_astore_n (lv' := [(3, .ref (a + 46 + i)), (0, .ref y), (1, .int (nI i)), (2, .int lang)]) hx hb dX1_letLearn_44 rfl hl (by decide) rfl (fun ls hl => ?_)
      refine lv_aload_n hx hb dX1_letLearn_45 rfl (lv_at hl 0 rfl) ?_
      have f_9 : ω.2 (a + 46 + i) = some (.inr (5, [.int (v 8 i), .int (v 9 i)])) := hCo i (by omega)
      refine fw_get (v := .int (v 9 i)) (C := RX3) (T := TX3) (N := 2) hx hb hts hin3 hown hK hR f_9 rfl 1 (by decide) (hts (.fieldLink RX1 102 "UnreadLeaflets$Cousin" "languages" "I") (by decide +kernel)) rfl dX1_letLearn_46 ?_
      refine lv_iload_n hx hb dX1_letLearn_49 rfl (lv_at hl 3 rfl) ?_
      refine fw_call (va_runSN (As := [.int (v 9 i), .int lang]) (rest := []) ⟨hx, hb, hml, hown, hts⟩ (c_X10_contains G hL l ω (v 9 i) lang) ⟨va_cnB 2 hts gX1_letLearn_X10_contains_n110 rfl rfl rfl (hL.N hW (hh := RX10) (by decide +kernel)) (hts (.initialized RX10) (by decide +kernel)) (by decide +kernel) ⟨Nat.le_of_ble_eq_true rfl, Nat.le_of_ble_eq_true rfl⟩, hts (.static yX10_contains) (by decide +kernel), trivial⟩ (fw_preS hW hR) rfl rfl hl.1 rfl (lv_room (Nat.le_of_ble_eq_true rfl)) dX1_letLearn_50 ⟨Nat.le_of_ble_eq_true rfl, Nat.le_of_ble_eq_true rfl⟩) hS (fun v_10 ω_11 H locs hq_12 hR hS => ?_)
      obtain ⟨rfl, hq_12⟩ := hq_12
      rw [hq_12] at hR
      refine W.eq (g2 := F0 mI 53 ls [.int (bz (hasB (v 9 i) lang))]) rfl ?_
      refine lv_if_eq (tgt := 67) hx hb dX1_letLearn_53 (by decide) (fun c_13 => ?_) (fun c_13 => ?_)
      · skip
        have c_13 := bz_eq c_13
        refine lv_aload_n hx hb dX1_letLearn_67 rfl (lv_at hl 0 rfl) ?_
        refine lv_dup hx hb dX1_letLearn_68 rfl ?_
        refine fw_get (v := .int (v 9 i)) (C := RX3) (T := TX3) (N := 2) hx hb hts hin3 hown hK hR f_9 rfl 1 (by decide) (hts (.fieldLink RX1 102 "UnreadLeaflets$Cousin" "languages" "I") (by decide +kernel)) rfl dX1_letLearn_69 ?_
        refine lv_iconst (v := 1) hx hb dX1_letLearn_72 (by decide) ?_
        refine lv_iload_n hx hb dX1_letLearn_73 rfl (lv_at hl 3 rfl) ?_
        refine lv_ishl hx hb dX1_letLearn_74 ?_
        refine lv_ior hx hb dX1_letLearn_75 ?_
        refine fw_put (v := .int ((v 9 i) ||| (1 <<< (lang &&& 31)))) (C := RX3) (T := TX3) (N := 2) hx hb hts hin3 tyX3 tyX3_ok nmX3 hown hK hR hS f_9 rfl 1 (by decide) (hts (.fieldLink RX1 102 "UnreadLeaflets$Cousin" "languages" "I") (by decide +kernel)) rfl rfl rfl (Nat.le_of_ble_eq_true rfl) dX1_letLearn_76 (fun H locs hR hS => ?_)
        obtain ⟨ω_14, hw_15⟩ : ∃ τ : FWd, τ = (ω.1, va_up ω.2 (a + 46 + i) (some (.inr (5, [.int (v 8 i), .int ((v 9 i) ||| (1 <<< (lang &&& 31)))])))) := ⟨_, rfl⟩
        have hR : fR G ω_14 H := by rw [hw_15]; exact hR
        have f_16 : ω_14.2 (a + 46 + i) = some (.inr (5, [.int (v 8 i), .int ((v 9 i) ||| (1 <<< (lang &&& 31)))])) := by rw [hw_15]; exact va_up_at
        have fr_17 : ∀ q : Nat, ¬ q = (a + 46 + i) → ω_14.2 q = ω.2 q := fun q hq => by rw [hw_15]; exact va_up_off hq
        have z_18 : ω_14.1 = ω.1 := by rw [hw_15]
        refine lv_aload_n hx hb dX1_letLearn_79 rfl (lv_at hl 0 rfl) ?_
        refine fw_get (v := .int ((v 9 i) ||| (1 <<< (lang &&& 31)))) (C := RX3) (T := TX3) (N := 2) hx hb hts hin3 hown hK hR f_16 rfl 1 (by decide) (hts (.fieldLink RX1 102 "UnreadLeaflets$Cousin" "languages" "I") (by decide +kernel)) rfl dX1_letLearn_80 ?_
        refine fw_call (va_runS (As := [.int ((v 9 i) ||| (1 <<< (lang &&& 31)))]) (rest := []) ⟨hx, hb, hml, hown, hts⟩ (c_J6_bitCount_0f7a4 G hL l ω_14 ((v 9 i) ||| (1 <<< (lang &&& 31)))) (va_cwS 1 hts gX1_letLearn_J6_bitCount_0f7a4 rfl rfl rfl (by decide +kernel) ⟨Nat.le_of_ble_eq_true rfl, Nat.le_of_ble_eq_true rfl⟩) (fw_preS hW hR) rfl rfl hl.1 rfl (lv_room (Nat.le_of_ble_eq_true rfl)) dX1_letLearn_83 ⟨Nat.le_of_ble_eq_true rfl, Nat.le_of_ble_eq_true rfl⟩) hS (fun v_19 ω_20 H locs hq_21 hR hS => ?_)
        obtain ⟨rfl, hq_21⟩ := hq_21
        rw [hq_21] at hR
        refine W.eq (g2 := F0 mI 86 ls [.int (popF ((v 9 i) ||| (1 <<< (lang &&& 31))))]) rfl ?_
        refine fw_iret hx hb hr hlocks hR hS dX1_letLearn_86 ?_
        have z_22 : ω_14.1 = ω.1 := by rw [z_18]
        have fr_23 : ∀ q : Nat, ¬ (a ≤ q ∧ q < a + 52) → ω_14.2 q = ω.2 q := by
          intro q hq0
          rw [fr_17 q (by omega)]
        have f_25 : ω_14.2 (a + 51) = some (.inr (9, [.int k1, .int k2, .int k3])) := (fr_17 (a + 51) (by omega)).trans hk
        have f_26 : ω_14.2 a = some (.inr (2, [.ref (a + 1), .int (v 0 0), .ref (a + 2), .int (v 0 1), .ref (a + 3), .int (v 0 2), .int (v 0 3), .int (v 0 4), .int (v 0 5)])) := (fr_17 a (by omega)).trans h0
        have f_27 : ω_14.2 (a + 4) = some (.inl (G.2.1 0, 6, .inl (v 1))) := (fr_17 (a + 4) (by omega)).trans h4
        have f_28 : ω_14.2 (a + 5) = some (.inl (G.2.1 0, 6, .inl (v 2))) := (fr_17 (a + 5) (by omega)).trans h5
        have hA_24 : ArcS G ω_14.2 a (set1 v 9 i (v 9 i ||| 1 <<< (lang &&& 31))) := by
          refine hA.gen _ (8) (i) (f_26.trans (congrArg some ?_)) (f_27.trans (congrArg some ?_)) (f_28.trans (congrArg some ?_)) (fun hk9 => ?_) (fun hc9 => ?_) (fun q q1 q2 q3 q4 q5 q6 => ?_) (fun j9 h9 n9 => ?_) (fun j9 h9 n9 => ?_) (by omega) (by omega)
          · first | rfl | (simp [set1, setR, upd, ne_big, ne_big']; done)
          · first | rfl | (simp [set1, setR, upd, ne_big, ne_big']; done)
          · first | rfl | (simp [set1, setR, upd, ne_big, ne_big']; done)
          · exact absurd hk9 (by decide)
          · exact f_16.trans (congrArg some (by first | rfl | (simp [set1, setR, upd, ne_big, ne_big']; done)))
          · skip
            rw [fr_17 q (by omega)]
          · exact LeafEq.rf.s0 (by decide)
          · constructor <;> first | rfl | (simp [set1, setR, upd, n9, ne_big, ne_big']; done)
        have hr_29 : learnC v k1 k2 k3 (nI i) lang = ((popF ((v 9 i) ||| (1 <<< (lang &&& 31))), (set1 v 9 i (v 9 i ||| 1 <<< (lang &&& 31))), k1, k2, k3) : CR) := by
          simp only [learnC, hcc, hdd, hci]
          rw [if_pos c_4, if_pos c_8, if_neg c_13]
        rw [hr_29]
        exact ⟨rfl, z_22, hA_24, f_25, fr_23⟩
      · skip
        have c_13 := bz_ne c_13
        refine lv_aload_n hx hb dX1_letLearn_56 rfl (lv_at hl 1 rfl) ?_
        refine fw_get (v := .ref (a + 51)) (C := RX1) (T := TX1) (N := 2) hx hb hts hin1 hown hK hR hy rfl 1 (by decide) (hts (.fieldLink RX1 21 "UnreadLeaflets$Changes" "kept" "LUnreadLeaflets$Reason;") (by decide +kernel)) rfl dX1_letLearn_57 ?_
        refine lv_bipush (v := 12) hx hb dX1_letLearn_60 (by decide) ?_
        refine lv_iload_n hx hb dX1_letLearn_62 rfl (lv_at hl 3 rfl) ?_
        refine fw_call (va_runV (As := [.int 12, .int lang]) (rest := []) ⟨hx, hb, hml, hown, hts⟩ (c_X7_refuse G hL l ω (a + 51) k1 k2 k3 12 lang hk) (cwV 2 hts gX1_letLearn_X7_refuse rfl rfl rfl (by decide +kernel) ⟨Nat.le_of_ble_eq_true rfl, Nat.le_of_ble_eq_true rfl⟩) (fw_preV hW hK hR hk rfl) rfl rfl hl.1 rfl (lv_room (Nat.le_of_ble_eq_true rfl)) dX1_letLearn_63 ⟨Nat.le_of_ble_eq_true rfl, Nat.le_of_ble_eq_true rfl⟩) hS (fun v_30 ω_31 H locs hq_32 hR hS => ?_)
        obtain ⟨rfl, z_33, f_35, fr_34⟩ := hq_32
        refine W.eq (g2 := F0 mI 66 ls [.int (-1)]) rfl ?_
        refine fw_iret hx hb hr hlocks hR hS dX1_letLearn_66 ?_
        have z_36 : ω_31.1 = ω.1 := by rw [z_33]
        have fr_37 : ∀ q : Nat, ¬ (a ≤ q ∧ q < a + 52) → ω_31.2 q = ω.2 q := by
          intro q hq0
          rw [fr_34 q (by omega)]
        have hA_38 : ArcS G ω_31.2 a v := hA.keep (fun q q1 q2 => by
          rw [fr_34 q (by omega)])
        have hr_39 : learnC v k1 k2 k3 (nI i) lang = (((-1), v, 12, lang, 0) : CR) := by
          simp only [learnC, hcc, hdd, hci]
          rw [if_pos c_4, if_pos c_8, if_pos c_13]
        rw [hr_39]
        exact ⟨rfl, z_36, hA_38, f_35, fr_37⟩
    · skip
      have c_8 := bz_eq c_8
      refine lv_aload_n hx hb dX1_letLearn_25 rfl (lv_at hl 0 rfl) ?_
      refine fw_get (v := .ref (a + 51)) (C := RX1) (T := TX1) (N := 2) hx hb hts hin1 hown hK hR hy rfl 1 (by decide) (hts (.fieldLink RX1 21 "UnreadLeaflets$Changes" "kept" "LUnreadLeaflets$Reason;") (by decide +kernel)) rfl dX1_letLearn_26 ?_
      refine lv_iconst (v := 1) hx hb dX1_letLearn_29 (by decide) ?_
      refine lv_iconst (v := 0) hx hb dX1_letLearn_30 (by decide) ?_
      refine fw_call (va_runV (As := [.int 1, .int 0]) (rest := []) ⟨hx, hb, hml, hown, hts⟩ (c_X7_refuse G hL l ω (a + 51) k1 k2 k3 1 0 hk) (cwV 2 hts gX1_letLearn_X7_refuse rfl rfl rfl (by decide +kernel) ⟨Nat.le_of_ble_eq_true rfl, Nat.le_of_ble_eq_true rfl⟩) (fw_preV hW hK hR hk rfl) rfl rfl hl.1 rfl (lv_room (Nat.le_of_ble_eq_true rfl)) dX1_letLearn_31 ⟨Nat.le_of_ble_eq_true rfl, Nat.le_of_ble_eq_true rfl⟩) hS (fun v_40 ω_41 H locs hq_42 hR hS => ?_)
      obtain ⟨rfl, z_43, f_45, fr_44⟩ := hq_42
      refine W.eq (g2 := F0 mI 34 ls [.int (-1)]) rfl ?_
      refine fw_iret hx hb hr hlocks hR hS dX1_letLearn_34 ?_
      have z_46 : ω_41.1 = ω.1 := by rw [z_43]
      have fr_47 : ∀ q : Nat, ¬ (a ≤ q ∧ q < a + 52) → ω_41.2 q = ω.2 q := by
        intro q hq0
        rw [fr_44 q (by omega)]
      have hA_48 : ArcS G ω_41.2 a v := hA.keep (fun q q1 q2 => by
        rw [fr_44 q (by omega)])
      have hr_49 : learnC v k1 k2 k3 (nI i) lang = (((-1), v, 1, 0, 0) : CR) := by
        simp only [learnC, hcc, hdd, hci]
        rw [if_pos c_4, if_neg c_8]
      rw [hr_49]
      exact ⟨rfl, z_46, hA_48, f_45, fr_47⟩
  · skip
    have c_4 := bz_eq c_4
    refine lv_aload_n hx hb dX1_letLearn_11 rfl (lv_at hl 0 rfl) ?_
    refine fw_call (va_runV (As := []) (rest := []) ⟨hx, hb, hml, hown, hts⟩ (c_X1_refuseNoCousin G hL l ω y a v k1 k2 k3 hy hay hA hk hW0) (cwV 0 hts gX1_letLearn_X1_refuseNoCousin rfl rfl rfl (by decide +kernel) ⟨Nat.le_of_ble_eq_true rfl, Nat.le_of_ble_eq_true rfl⟩) (fw_preV hW hK hR hy rfl) rfl rfl hl.1 rfl (lv_room (Nat.le_of_ble_eq_true rfl)) dX1_letLearn_12 ⟨Nat.le_of_ble_eq_true rfl, Nat.le_of_ble_eq_true rfl⟩) hS (fun v_50 ω_51 H locs hq_52 hR hS => ?_)
    obtain ⟨rfl, z_53, f_55, fr_54⟩ := hq_52
    refine W.eq (g2 := F0 mI 15 ls [.int (-1)]) rfl ?_
    refine fw_iret hx hb hr hlocks hR hS dX1_letLearn_15 ?_
    have z_56 : ω_51.1 = ω.1 := by rw [z_53]
    have fr_57 : ∀ q : Nat, ¬ (a ≤ q ∧ q < a + 52) → ω_51.2 q = ω.2 q := by
      intro q hq0
      rw [fr_54 q (by omega)]
    have hA_58 : ArcS G ω_51.2 a v := hA.keep (fun q q1 q2 => by
      rw [fr_54 q (by omega)])
    have hr_59 : learnC v k1 k2 k3 m1 lang = (((-1), v, 4, (v 0 1), 0) : CR) := by
      simp only [learnC, hcc, hdd]
      rw [if_neg c_4]
    rw [hr_59]
    exact ⟨rfl, z_56, hA_58, f_55, fr_57⟩
set_option maxHeartbeats 4000000 in
set_option maxRecDepth 100000 in
theorem c_X1_loseParts (G : FG) (hL : FL G) (l : Launch) (ω : FWd) (y a : Nat) (v : Nat → Nat → Int32) (k1 k2 k3 : Int32) (hy : ω.2 y = some (.inr (3, [.ref a, .ref (a + 51)]))) (hay : a = y + 1) (hA : ArcS G ω.2 a v) (hk : ω.2 (a + 51) = some (.inr (9, [.int k1, .int k2, .int k3]))) (hW0 : WF v) (kind pn : Int32) : FMet G l yX1_loseParts wsX1_loseParts ({ frames := 1, cells := 0, slots := 0, locals := 22 } : Room) [.ref y, .int kind, .int pn] ω (CQ G a ω (loseC v k1 k2 k3 kind pn)) 0 0 := by
  refine fw_ofW (cc := cX1_loseParts) (maxL := 4) (ret := (some .int)) (by decide) rfl (Nat.le_of_ble_eq_true rfl) ?_
  intro pP eE sS mI ar9 bl9 meth cD ls hx hb hr hlocks hml hts hown hnm hW hR hl
  have hK := hL.K hW
  have hS : va_S (fwA G) sS.heap sS.heap [] := va_S.rf
  have hin0 : ∀ w ∈ u_ws RX0 TX0 9, w ∈ wsX1_loseParts := by decide +kernel
  have hin1 : ∀ w ∈ u_ws RX1 TX1 2, w ∈ wsX1_loseParts := by decide +kernel
  have hin9 : ∀ w ∈ u_ws RX9 TX9 2, w ∈ wsX1_loseParts := by decide +kernel
  have hl : lv_has ls 4 [(0, .ref y), (1, .int kind), (2, .int pn)] := hl
  obtain ⟨h0, h1, h2, h3, h4, h5, hLf, hCo⟩ := id hA
  obtain ⟨c, hc8, hc, hcc⟩ := okN_of hW0.1
  obtain ⟨cc, hd5, hd, hdd⟩ := okN_of hW0.2.1
  have hs : ∀ j, j < c → v 3 j = nI (stN v j) ∧ stN v j ≤ 8 := fun j hj => (hW0.2.2 j (by rw [hcc]; exact hj)).1
  have hfo : ∀ j, j < c → v 4 j = nI (cN (v 4 j)) ∧ cN (v 4 j) ≤ 3 := fun j hj => (hW0.2.2 j (by rw [hcc]; exact hj)).2
  refine lv_iload_n hx hb dX1_loseParts_0 rfl (lv_at hl 1 rfl) ?_
  refine lv_iconst (v := 0) hx hb dX1_loseParts_1 (by decide) ?_
  refine lv_iconst (v := 5) hx hb dX1_loseParts_2 (by decide) ?_
  refine fw_call (va_runSN (As := [.int kind, .int 0, .int 5]) (rest := []) ⟨hx, hb, hml, hown, hts⟩ (c_X10_isWithin G hL l ω kind 0 5) ⟨va_cnB 3 hts gX1_loseParts_X10_isWithin_n60 rfl rfl rfl (hL.N hW (hh := RX10) (by decide +kernel)) (hts (.initialized RX10) (by decide +kernel)) (by decide +kernel) ⟨Nat.le_of_ble_eq_true rfl, Nat.le_of_ble_eq_true rfl⟩, hts (.static yX10_isWithin) (by decide +kernel), trivial⟩ (fw_preS hW hR) rfl rfl hl.1 rfl (lv_room (Nat.le_of_ble_eq_true rfl)) dX1_loseParts_3 ⟨Nat.le_of_ble_eq_true rfl, Nat.le_of_ble_eq_true rfl⟩) hS (fun v_1 ω_2 H locs hq_3 hR hS => ?_)
  obtain ⟨rfl, hq_3⟩ := hq_3
  rw [hq_3] at hR
  refine W.eq (g2 := F0 mI 6 ls [.int (bz (inB kind 0 5))]) rfl ?_
  refine lv_if_eq (tgt := 19) hx hb dX1_loseParts_6 (by decide) (fun c_4 => ?_) (fun c_4 => ?_)
  · skip
    have c_4 := bz_eq c_4
    refine lv_aload_n hx hb dX1_loseParts_19 rfl (lv_at hl 0 rfl) ?_
    refine fw_get (v := .ref (a + 51)) (C := RX1) (T := TX1) (N := 2) hx hb hts hin1 hown hK hR hy rfl 1 (by decide) (hts (.fieldLink RX1 21 "UnreadLeaflets$Changes" "kept" "LUnreadLeaflets$Reason;") (by decide +kernel)) rfl dX1_loseParts_20 ?_
    refine lv_iconst (v := 1) hx hb dX1_loseParts_23 (by decide) ?_
    refine lv_iconst (v := 0) hx hb dX1_loseParts_24 (by decide) ?_
    refine fw_call (va_runV (As := [.int 1, .int 0]) (rest := []) ⟨hx, hb, hml, hown, hts⟩ (c_X7_refuse G hL l ω (a + 51) k1 k2 k3 1 0 hk) (cwV 2 hts gX1_loseParts_X7_refuse rfl rfl rfl (by decide +kernel) ⟨Nat.le_of_ble_eq_true rfl, Nat.le_of_ble_eq_true rfl⟩) (fw_preV hW hK hR hk rfl) rfl rfl hl.1 rfl (lv_room (Nat.le_of_ble_eq_true rfl)) dX1_loseParts_25 ⟨Nat.le_of_ble_eq_true rfl, Nat.le_of_ble_eq_true rfl⟩) hS (fun v_5 ω_6 H locs hq_7 hR hS => ?_)
    obtain ⟨rfl, z_8, f_10, fr_9⟩ := hq_7
    refine W.eq (g2 := F0 mI 28 ls [.int (-1)]) rfl ?_
    refine fw_iret hx hb hr hlocks hR hS dX1_loseParts_28 ?_
    have z_11 : ω_6.1 = ω.1 := by rw [z_8]
    have fr_12 : ∀ q : Nat, ¬ (a ≤ q ∧ q < a + 52) → ω_6.2 q = ω.2 q := by
      intro q hq0
      rw [fr_9 q (by omega)]
    have hA_13 : ArcS G ω_6.2 a v := hA.keep (fun q q1 q2 => by
      rw [fr_9 q (by omega)])
    have hr_14 : loseC v k1 k2 k3 kind pn = (((-1), v, 1, 0, 0) : CR) := by
      simp only [loseC, hcc, hdd]
      rw [if_neg (fun z => c_4 z.1)]
    rw [hr_14]
    exact ⟨rfl, z_11, hA_13, f_10, fr_12⟩
  · skip
    have c_4 := bz_ne c_4
    refine lv_iload_n hx hb dX1_loseParts_9 rfl (lv_at hl 2 rfl) ?_
    refine lv_iconst (v := 1) hx hb dX1_loseParts_10 (by decide) ?_
    refine lv_bipush (v := 9) hx hb dX1_loseParts_11 (by decide) ?_
    refine fw_call (va_runSN (As := [.int pn, .int 1, .int 9]) (rest := []) ⟨hx, hb, hml, hown, hts⟩ (c_X10_isWithin G hL l ω pn 1 9) ⟨va_cnB 3 hts gX1_loseParts_X10_isWithin_n60 rfl rfl rfl (hL.N hW (hh := RX10) (by decide +kernel)) (hts (.initialized RX10) (by decide +kernel)) (by decide +kernel) ⟨Nat.le_of_ble_eq_true rfl, Nat.le_of_ble_eq_true rfl⟩, hts (.static yX10_isWithin) (by decide +kernel), trivial⟩ (fw_preS hW hR) rfl rfl hl.1 rfl (lv_room (Nat.le_of_ble_eq_true rfl)) dX1_loseParts_13 ⟨Nat.le_of_ble_eq_true rfl, Nat.le_of_ble_eq_true rfl⟩) hS (fun v_15 ω_16 H locs hq_17 hR hS => ?_)
    obtain ⟨rfl, hq_17⟩ := hq_17
    rw [hq_17] at hR
    refine W.eq (g2 := F0 mI 16 ls [.int (bz (inB pn 1 9))]) rfl ?_
    refine lv_if_ne (tgt := 29) hx hb dX1_loseParts_16 (by decide) (fun c_18 => ?_) (fun c_18 => ?_)
    · skip
      have c_18 := bz_ne c_18
      obtain ⟨i, hi5, rfl⟩ := in_n (n := 5) (by decide) c_4
      have hci : cN (nI i) = i := cN_nI (by omega)
      refine lv_aload_n hx hb dX1_loseParts_29 rfl (lv_at hl 0 rfl) ?_
      refine fw_get (v := .ref a) (C := RX1) (T := TX1) (N := 2) hx hb hts hin1 hown hK hR hy rfl 0 (by decide) (hts (.fieldLink RX1 12 "UnreadLeaflets$Changes" "archive" "LUnreadLeaflets$Archive;") (by decide +kernel)) rfl dX1_loseParts_30 ?_
      refine fw_get (v := .ref (a + 3)) (C := RX0) (T := TX0) (N := 9) hx hb hts hin0 hown hK hR h0 rfl 4 (by decide) (hts (.fieldLink RX1 127 "UnreadLeaflets$Archive" "tin" "LUnreadLeaflets$Tin;") (by decide +kernel)) rfl dX1_loseParts_33 ?_
      refine lv_astore_n (lv' := [(3, .ref (a + 3)), (0, .ref y), (1, .int (nI i)), (2, .int pn)]) hx hb dX1_loseParts_36 rfl hl (by decide) rfl (fun ls hl => ?_)
      refine lv_aload_n hx hb dX1_loseParts_37 rfl (lv_at hl 0 rfl) ?_
      refine fw_get (v := .ref (a + 4)) (C := RX9) (T := TX9) (N := 2) hx hb hts hin9 hown hK hR h3 rfl 0 (by decide) (hts (.fieldLink RX1 171 "UnreadLeaflets$Tin" "inside" "[I") (by decide +kernel)) rfl dX1_loseParts_38 ?_
      refine lv_iload_n hx hb dX1_loseParts_41 rfl (lv_at hl 2 rfl) ?_
      refine fw_iald hx hb hK hR h4 (vp_in_nI (by omega) (by omega)) dX1_loseParts_42 ?_
      refine W.eq (g2 := F0 mI 43 ls [.int ((v 1) i)]) (by rw [nI_clamp (by omega)]) ?_
      refine lv_iload_n hx hb dX1_loseParts_43 rfl (lv_at hl 3 rfl) ?_
      refine lv_icmp_ge (tgt := 58) hx hb dX1_loseParts_44 (by decide) (fun c_19 => ?_) (fun c_19 => ?_)
      · skip
        refine lv_aload_n hx hb dX1_loseParts_58 rfl (lv_at hl 0 rfl) ?_
        refine fw_get (v := .ref (a + 4)) (C := RX9) (T := TX9) (N := 2) hx hb hts hin9 hown hK hR h3 rfl 0 (by decide) (hts (.fieldLink RX1 171 "UnreadLeaflets$Tin" "inside" "[I") (by decide +kernel)) rfl dX1_loseParts_59 ?_
        refine lv_iload_n hx hb dX1_loseParts_62 rfl (lv_at hl 2 rfl) ?_
        refine lv_dup2_11 hx hb dX1_loseParts_63 rfl rfl ?_
        refine fw_iald hx hb hK hR h4 (vp_in_nI (by omega) (by omega)) dX1_loseParts_64 ?_
        refine W.eq (g2 := F0 mI 65 ls [.int ((v 1) i), .int (nI i), .ref (a + 4)]) (by rw [nI_clamp (by omega)]) ?_
        refine lv_iload_n hx hb dX1_loseParts_65 rfl (lv_at hl 3 rfl) ?_
        refine lv_isub hx hb dX1_loseParts_66 ?_
        refine fw_iast hx hb hK hR hS h4 (vp_in_nI (by omega) (by omega)) dX1_loseParts_67 (fun H locs hR hS => ?_)
        rw [show (nI i).toNatClampNeg = i from nI_clamp (by omega)] at hR
        obtain ⟨ω_20, hw_21⟩ : ∃ τ : FWd, τ = (ω.1, va_up ω.2 (a + 4) (some (.inl (G.2.1 0, 6, .inl (upd (v 1) i (((v 1) i) - pn)))))) := ⟨_, rfl⟩
        have hR : fR G ω_20 H := by rw [hw_21]; exact hR
        have f_22 : ω_20.2 (a + 4) = some (.inl (G.2.1 0, 6, .inl (upd (v 1) i (((v 1) i) - pn)))) := by rw [hw_21]; exact va_up_at
        have fr_23 : ∀ q : Nat, ¬ q = (a + 4) → ω_20.2 q = ω.2 q := fun q hq => by rw [hw_21]; exact va_up_off hq
        have z_24 : ω_20.1 = ω.1 := by rw [hw_21]
        refine lv_aload_n hx hb dX1_loseParts_68 rfl (lv_at hl 0 rfl) ?_
        have f_25 : ω_20.2 (a + 3) = some (.inr (11, [.ref (a + 4), .ref (a + 5)])) := (fr_23 (a + 3) (by omega)).trans h3
        refine fw_get (v := .ref (a + 5)) (C := RX9) (T := TX9) (N := 2) hx hb hts hin9 hown hK hR f_25 rfl 1 (by decide) (hts (.fieldLink RX1 174 "UnreadLeaflets$Tin" "lost" "[I") (by decide +kernel)) rfl dX1_loseParts_69 ?_
        refine lv_iload_n hx hb dX1_loseParts_72 rfl (lv_at hl 2 rfl) ?_
        refine lv_dup2_11 hx hb dX1_loseParts_73 rfl rfl ?_
        have f_26 : ω_20.2 (a + 5) = some (.inl (G.2.1 0, 6, .inl (v 2))) := (fr_23 (a + 5) (by omega)).trans h5
        refine fw_iald hx hb hK hR f_26 (vp_in_nI (by omega) (by omega)) dX1_loseParts_74 ?_
        refine W.eq (g2 := F0 mI 75 ls [.int ((v 2) i), .int (nI i), .ref (a + 5)]) (by rw [nI_clamp (by omega)]) ?_
        refine lv_iload_n hx hb dX1_loseParts_75 rfl (lv_at hl 3 rfl) ?_
        refine lv_iadd hx hb dX1_loseParts_76 ?_
        refine fw_iast hx hb hK hR hS f_26 (vp_in_nI (by omega) (by omega)) dX1_loseParts_77 (fun H locs hR hS => ?_)
        rw [show (nI i).toNatClampNeg = i from nI_clamp (by omega)] at hR
        obtain ⟨ω_27, hw_28⟩ : ∃ τ : FWd, τ = (ω_20.1, va_up ω_20.2 (a + 5) (some (.inl (G.2.1 0, 6, .inl (upd (v 2) i (((v 2) i) + pn)))))) := ⟨_, rfl⟩
        have hR : fR G ω_27 H := by rw [hw_28]; exact hR
        have f_29 : ω_27.2 (a + 5) = some (.inl (G.2.1 0, 6, .inl (upd (v 2) i (((v 2) i) + pn)))) := by rw [hw_28]; exact va_up_at
        have fr_30 : ∀ q : Nat, ¬ q = (a + 5) → ω_27.2 q = ω_20.2 q := fun q hq => by rw [hw_28]; exact va_up_off hq
        have z_31 : ω_27.1 = ω_20.1 := by rw [hw_28]
        refine lv_aload_n hx hb dX1_loseParts_78 rfl (lv_at hl 0 rfl) ?_
        have f_32 : ω_27.2 (a + 3) = some (.inr (11, [.ref (a + 4), .ref (a + 5)])) := (fr_30 (a + 3) (by omega)).trans f_25
        refine fw_get (v := .ref (a + 4)) (C := RX9) (T := TX9) (N := 2) hx hb hts hin9 hown hK hR f_32 rfl 0 (by decide) (hts (.fieldLink RX1 171 "UnreadLeaflets$Tin" "inside" "[I") (by decide +kernel)) rfl dX1_loseParts_79 ?_
        refine lv_iload_n hx hb dX1_loseParts_82 rfl (lv_at hl 2 rfl) ?_
        have f_33 : ω_27.2 (a + 4) = some (.inl (G.2.1 0, 6, .inl (upd (v 1) i (((v 1) i) - pn)))) := (fr_30 (a + 4) (by omega)).trans f_22
        refine fw_iald hx hb hK hR f_33 (vp_in_nI (by omega) (by omega)) dX1_loseParts_83 ?_
        refine W.eq (g2 := F0 mI 84 ls [.int ((upd (v 1) i (((v 1) i) - pn)) i)]) (by rw [nI_clamp (by omega)]) ?_
        refine fw_iret hx hb hr hlocks hR hS dX1_loseParts_84 ?_
        have z_34 : ω_27.1 = ω.1 := by rw [z_31, z_24]
        have fr_35 : ∀ q : Nat, ¬ (a ≤ q ∧ q < a + 52) → ω_27.2 q = ω.2 q := by
          intro q hq0
          rw [fr_30 q (by omega)]
          rw [fr_23 q (by omega)]
        have f_37 : ω_20.2 (a + 51) = some (.inr (9, [.int k1, .int k2, .int k3])) := (fr_23 (a + 51) (by omega)).trans hk
        have f_38 : ω_27.2 (a + 51) = some (.inr (9, [.int k1, .int k2, .int k3])) := (fr_30 (a + 51) (by omega)).trans f_37
        have f_39 : ω_20.2 a = some (.inr (2, [.ref (a + 1), .int (v 0 0), .ref (a + 2), .int (v 0 1), .ref (a + 3), .int (v 0 2), .int (v 0 3), .int (v 0 4), .int (v 0 5)])) := (fr_23 a (by omega)).trans h0
        have f_40 : ω_27.2 a = some (.inr (2, [.ref (a + 1), .int (v 0 0), .ref (a + 2), .int (v 0 1), .ref (a + 3), .int (v 0 2), .int (v 0 3), .int (v 0 4), .int (v 0 5)])) := (fr_30 a (by omega)).trans f_39
        have hA_36 : ArcS G ω_27.2 a (loseV v i pn) := by
          refine hA.gen _ (8) (5) (f_40.trans (congrArg some ?_)) (f_33.trans (congrArg some ?_)) (f_29.trans (congrArg some ?_)) (fun hk9 => ?_) (fun hc9 => ?_) (fun q q1 q2 q3 q4 q5 q6 => ?_) (fun j9 h9 n9 => ?_) (fun j9 h9 n9 => ?_) (by omega) (by omega)
          · first | rfl | (simp [set1, setR, upd, loseV, ne_big, ne_big']; done)
          · first | rfl | (simp [set1, setR, upd, loseV, ne_big, ne_big']; done)
          · first | rfl | (simp [set1, setR, upd, loseV, ne_big, ne_big']; done)
          · exact absurd hk9 (by decide)
          · exact absurd hc9 (by decide)
          · skip
            rw [fr_30 q (by omega)]
            rw [fr_23 q (by omega)]
          · exact loseV_le
          · constructor <;> first | rfl | (simp [set1, setR, upd, loseV, n9, ne_big, ne_big']; done)
        have hr_41 : loseC v k1 k2 k3 (nI i) pn = (((upd (v 1) i (((v 1) i) - pn)) i, (loseV v i pn), k1, k2, k3) : CR) := by
          simp only [loseC, hcc, hdd, hci]
          rw [if_pos ⟨c_4, c_18⟩, if_pos c_19]
          rw [upd_at]
        rw [hr_41]
        exact ⟨rfl, z_34, hA_36, f_38, fr_35⟩
      · skip
        refine lv_aload_n hx hb dX1_loseParts_47 rfl (lv_at hl 1 rfl) ?_
        refine fw_get (v := .ref (a + 51)) (C := RX1) (T := TX1) (N := 2) hx hb hts hin1 hown hK hR hy rfl 1 (by decide) (hts (.fieldLink RX1 21 "UnreadLeaflets$Changes" "kept" "LUnreadLeaflets$Reason;") (by decide +kernel)) rfl dX1_loseParts_48 ?_
        refine lv_bipush (v := 10) hx hb dX1_loseParts_51 (by decide) ?_
        refine lv_iload_n hx hb dX1_loseParts_53 rfl (lv_at hl 2 rfl) ?_
        refine fw_call (va_runV (As := [.int 10, .int (nI i)]) (rest := []) ⟨hx, hb, hml, hown, hts⟩ (c_X7_refuse G hL l ω (a + 51) k1 k2 k3 10 (nI i) hk) (cwV 2 hts gX1_loseParts_X7_refuse rfl rfl rfl (by decide +kernel) ⟨Nat.le_of_ble_eq_true rfl, Nat.le_of_ble_eq_true rfl⟩) (fw_preV hW hK hR hk rfl) rfl rfl hl.1 rfl (lv_room (Nat.le_of_ble_eq_true rfl)) dX1_loseParts_54 ⟨Nat.le_of_ble_eq_true rfl, Nat.le_of_ble_eq_true rfl⟩) hS (fun v_42 ω_43 H locs hq_44 hR hS => ?_)
        obtain ⟨rfl, z_45, f_47, fr_46⟩ := hq_44
        refine W.eq (g2 := F0 mI 57 ls [.int (-1)]) rfl ?_
        refine fw_iret hx hb hr hlocks hR hS dX1_loseParts_57 ?_
        have z_48 : ω_43.1 = ω.1 := by rw [z_45]
        have fr_49 : ∀ q : Nat, ¬ (a ≤ q ∧ q < a + 52) → ω_43.2 q = ω.2 q := by
          intro q hq0
          rw [fr_46 q (by omega)]
        have hA_50 : ArcS G ω_43.2 a v := hA.keep (fun q q1 q2 => by
          rw [fr_46 q (by omega)])
        have hr_51 : loseC v k1 k2 k3 (nI i) pn = (((-1), v, 10, (nI i), 0) : CR) := by
          simp only [loseC, hcc, hdd, hci]
          rw [if_pos ⟨c_4, c_18⟩, if_neg c_19]
        rw [hr_51]
        exact ⟨rfl, z_48, hA_50, f_47, fr_49⟩
    · skip
      have c_18 := bz_eq c_18
      refine lv_aload_n hx hb dX1_loseParts_19 rfl (lv_at hl 0 rfl) ?_
      refine fw_get (v := .ref (a + 51)) (C := RX1) (T := TX1) (N := 2) hx hb hts hin1 hown hK hR hy rfl 1 (by decide) (hts (.fieldLink RX1 21 "UnreadLeaflets$Changes" "kept" "LUnreadLeaflets$Reason;") (by decide +kernel)) rfl dX1_loseParts_20 ?_
      refine lv_iconst (v := 1) hx hb dX1_loseParts_23 (by decide) ?_
      refine lv_iconst (v := 0) hx hb dX1_loseParts_24 (by decide) ?_
      refine fw_call (va_runV (As := [.int 1, .int 0]) (rest := []) ⟨hx, hb, hml, hown, hts⟩ (c_X7_refuse G hL l ω (a + 51) k1 k2 k3 1 0 hk) (cwV 2 hts gX1_loseParts_X7_refuse rfl rfl rfl (by decide +kernel) ⟨Nat.le_of_ble_eq_true rfl, Nat.le_of_ble_eq_true rfl⟩) (fw_preV hW hK hR hk rfl) rfl rfl hl.1 rfl (lv_room (Nat.le_of_ble_eq_true rfl)) dX1_loseParts_25 ⟨Nat.le_of_ble_eq_true rfl, Nat.le_of_ble_eq_true rfl⟩) hS (fun v_52 ω_53 H locs hq_54 hR hS => ?_)
      obtain ⟨rfl, z_55, f_57, fr_56⟩ := hq_54
      refine W.eq (g2 := F0 mI 28 ls [.int (-1)]) rfl ?_
      refine fw_iret hx hb hr hlocks hR hS dX1_loseParts_28 ?_
      have z_58 : ω_53.1 = ω.1 := by rw [z_55]
      have fr_59 : ∀ q : Nat, ¬ (a ≤ q ∧ q < a + 52) → ω_53.2 q = ω.2 q := by
        intro q hq0
        rw [fr_56 q (by omega)]
      have hA_60 : ArcS G ω_53.2 a v := hA.keep (fun q q1 q2 => by
        rw [fr_56 q (by omega)])
      have hr_61 : loseC v k1 k2 k3 kind pn = (((-1), v, 1, 0, 0) : CR) := by
        simp only [loseC, hcc, hdd]
        rw [if_neg (fun z => c_18 z.2)]
      rw [hr_61]
      exact ⟨rfl, z_58, hA_60, f_57, fr_59⟩
set_option maxHeartbeats 4000000 in
set_option maxRecDepth 100000 in
theorem c_X1_findParts (G : FG) (hL : FL G) (l : Launch) (ω : FWd) (y a : Nat) (v : Nat → Nat → Int32) (k1 k2 k3 : Int32) (hy : ω.2 y = some (.inr (3, [.ref a, .ref (a + 51)]))) (hay : a = y + 1) (hA : ArcS G ω.2 a v) (hk : ω.2 (a + 51) = some (.inr (9, [.int k1, .int k2, .int k3]))) (hW0 : WF v) (kind pn : Int32) : FMet G l yX1_findParts wsX1_findParts ({ frames := 1, cells := 0, slots := 0, locals := 22 } : Room) [.ref y, .int kind, .int pn] ω (CQ G a ω (findC v k1 k2 k3 kind pn)) 0 0 := by
  refine fw_ofW (cc := cX1_findParts) (maxL := 4) (ret := (some .int)) (by decide) rfl (Nat.le_of_ble_eq_true rfl) ?_
  intro pP eE sS mI ar9 bl9 meth cD ls hx hb hr hlocks hml hts hown hnm hW hR hl
  have hK := hL.K hW
  have hS : va_S (fwA G) sS.heap sS.heap [] := va_S.rf
  have hin0 : ∀ w ∈ u_ws RX0 TX0 9, w ∈ wsX1_findParts := by decide +kernel
  have hin1 : ∀ w ∈ u_ws RX1 TX1 2, w ∈ wsX1_findParts := by decide +kernel
  have hin9 : ∀ w ∈ u_ws RX9 TX9 2, w ∈ wsX1_findParts := by decide +kernel
  have hl : lv_has ls 4 [(0, .ref y), (1, .int kind), (2, .int pn)] := hl
  obtain ⟨h0, h1, h2, h3, h4, h5, hLf, hCo⟩ := id hA
  obtain ⟨c, hc8, hc, hcc⟩ := okN_of hW0.1
  obtain ⟨cc, hd5, hd, hdd⟩ := okN_of hW0.2.1
  have hs : ∀ j, j < c → v 3 j = nI (stN v j) ∧ stN v j ≤ 8 := fun j hj => (hW0.2.2 j (by rw [hcc]; exact hj)).1
  have hfo : ∀ j, j < c → v 4 j = nI (cN (v 4 j)) ∧ cN (v 4 j) ≤ 3 := fun j hj => (hW0.2.2 j (by rw [hcc]; exact hj)).2
  refine lv_iload_n hx hb dX1_findParts_0 rfl (lv_at hl 1 rfl) ?_
  refine lv_iconst (v := 0) hx hb dX1_findParts_1 (by decide) ?_
  refine lv_iconst (v := 5) hx hb dX1_findParts_2 (by decide) ?_
  refine fw_call (va_runSN (As := [.int kind, .int 0, .int 5]) (rest := []) ⟨hx, hb, hml, hown, hts⟩ (c_X10_isWithin G hL l ω kind 0 5) ⟨va_cnB 3 hts gX1_findParts_X10_isWithin_n60 rfl rfl rfl (hL.N hW (hh := RX10) (by decide +kernel)) (hts (.initialized RX10) (by decide +kernel)) (by decide +kernel) ⟨Nat.le_of_ble_eq_true rfl, Nat.le_of_ble_eq_true rfl⟩, hts (.static yX10_isWithin) (by decide +kernel), trivial⟩ (fw_preS hW hR) rfl rfl hl.1 rfl (lv_room (Nat.le_of_ble_eq_true rfl)) dX1_findParts_3 ⟨Nat.le_of_ble_eq_true rfl, Nat.le_of_ble_eq_true rfl⟩) hS (fun v_1 ω_2 H locs hq_3 hR hS => ?_)
  obtain ⟨rfl, hq_3⟩ := hq_3
  rw [hq_3] at hR
  refine W.eq (g2 := F0 mI 6 ls [.int (bz (inB kind 0 5))]) rfl ?_
  refine lv_if_eq (tgt := 19) hx hb dX1_findParts_6 (by decide) (fun c_4 => ?_) (fun c_4 => ?_)
  · skip
    have c_4 := bz_eq c_4
    refine lv_aload_n hx hb dX1_findParts_19 rfl (lv_at hl 0 rfl) ?_
    refine fw_get (v := .ref (a + 51)) (C := RX1) (T := TX1) (N := 2) hx hb hts hin1 hown hK hR hy rfl 1 (by decide) (hts (.fieldLink RX1 21 "UnreadLeaflets$Changes" "kept" "LUnreadLeaflets$Reason;") (by decide +kernel)) rfl dX1_findParts_20 ?_
    refine lv_iconst (v := 1) hx hb dX1_findParts_23 (by decide) ?_
    refine lv_iconst (v := 0) hx hb dX1_findParts_24 (by decide) ?_
    refine fw_call (va_runV (As := [.int 1, .int 0]) (rest := []) ⟨hx, hb, hml, hown, hts⟩ (c_X7_refuse G hL l ω (a + 51) k1 k2 k3 1 0 hk) (cwV 2 hts gX1_findParts_X7_refuse rfl rfl rfl (by decide +kernel) ⟨Nat.le_of_ble_eq_true rfl, Nat.le_of_ble_eq_true rfl⟩) (fw_preV hW hK hR hk rfl) rfl rfl hl.1 rfl (lv_room (Nat.le_of_ble_eq_true rfl)) dX1_findParts_25 ⟨Nat.le_of_ble_eq_true rfl, Nat.le_of_ble_eq_true rfl⟩) hS (fun v_5 ω_6 H locs hq_7 hR hS => ?_)
    obtain ⟨rfl, z_8, f_10, fr_9⟩ := hq_7
    refine W.eq (g2 := F0 mI 28 ls [.int (-1)]) rfl ?_
    refine fw_iret hx hb hr hlocks hR hS dX1_findParts_28 ?_
    have z_11 : ω_6.1 = ω.1 := by rw [z_8]
    have fr_12 : ∀ q : Nat, ¬ (a ≤ q ∧ q < a + 52) → ω_6.2 q = ω.2 q := by
      intro q hq0
      rw [fr_9 q (by omega)]
    have hA_13 : ArcS G ω_6.2 a v := hA.keep (fun q q1 q2 => by
      rw [fr_9 q (by omega)])
    have hr_14 : findC v k1 k2 k3 kind pn = (((-1), v, 1, 0, 0) : CR) := by
      simp only [findC, hcc, hdd]
      rw [if_neg (fun z => c_4 z.1)]
    rw [hr_14]
    exact ⟨rfl, z_11, hA_13, f_10, fr_12⟩
  · skip
    have c_4 := bz_ne c_4
    refine lv_iload_n hx hb dX1_findParts_9 rfl (lv_at hl 2 rfl) ?_
    refine lv_iconst (v := 1) hx hb dX1_findParts_10 (by decide) ?_
    refine lv_bipush (v := 9) hx hb dX1_findParts_11 (by decide) ?_
    refine fw_call (va_runSN (As := [.int pn, .int 1, .int 9]) (rest := []) ⟨hx, hb, hml, hown, hts⟩ (c_X10_isWithin G hL l ω pn 1 9) ⟨va_cnB 3 hts gX1_findParts_X10_isWithin_n60 rfl rfl rfl (hL.N hW (hh := RX10) (by decide +kernel)) (hts (.initialized RX10) (by decide +kernel)) (by decide +kernel) ⟨Nat.le_of_ble_eq_true rfl, Nat.le_of_ble_eq_true rfl⟩, hts (.static yX10_isWithin) (by decide +kernel), trivial⟩ (fw_preS hW hR) rfl rfl hl.1 rfl (lv_room (Nat.le_of_ble_eq_true rfl)) dX1_findParts_13 ⟨Nat.le_of_ble_eq_true rfl, Nat.le_of_ble_eq_true rfl⟩) hS (fun v_15 ω_16 H locs hq_17 hR hS => ?_)
    obtain ⟨rfl, hq_17⟩ := hq_17
    rw [hq_17] at hR
    refine W.eq (g2 := F0 mI 16 ls [.int (bz (inB pn 1 9))]) rfl ?_
    refine lv_if_ne (tgt := 29) hx hb dX1_findParts_16 (by decide) (fun c_18 => ?_) (fun c_18 => ?_)
    · skip
      have c_18 := bz_ne c_18
      obtain ⟨i, hi5, rfl⟩ := in_n (n := 5) (by decide) c_4
      have hci : cN (nI i) = i := cN_nI (by omega)
      refine lv_aload_n hx hb dX1_findParts_29 rfl (lv_at hl 0 rfl) ?_
      refine fw_get (v := .ref a) (C := RX1) (T := TX1) (N := 2) hx hb hts hin1 hown hK hR hy rfl 0 (by decide) (hts (.fieldLink RX1 12 "UnreadLeaflets$Changes" "archive" "LUnreadLeaflets$Archive;") (by decide +kernel)) rfl dX1_findParts_30 ?_
      refine fw_get (v := .ref (a + 3)) (C := RX0) (T := TX0) (N := 9) hx hb hts hin0 hown hK hR h0 rfl 4 (by decide) (hts (.fieldLink RX1 127 "UnreadLeaflets$Archive" "tin" "LUnreadLeaflets$Tin;") (by decide +kernel)) rfl dX1_findParts_33 ?_
      refine lv_astore_n (lv' := [(3, .ref (a + 3)), (0, .ref y), (1, .int (nI i)), (2, .int pn)]) hx hb dX1_findParts_36 rfl hl (by decide) rfl (fun ls hl => ?_)
      refine lv_aload_n hx hb dX1_findParts_37 rfl (lv_at hl 0 rfl) ?_
      refine fw_get (v := .ref (a + 5)) (C := RX9) (T := TX9) (N := 2) hx hb hts hin9 hown hK hR h3 rfl 1 (by decide) (hts (.fieldLink RX1 174 "UnreadLeaflets$Tin" "lost" "[I") (by decide +kernel)) rfl dX1_findParts_38 ?_
      refine lv_iload_n hx hb dX1_findParts_41 rfl (lv_at hl 2 rfl) ?_
      refine fw_iald hx hb hK hR h5 (vp_in_nI (by omega) (by omega)) dX1_findParts_42 ?_
      refine W.eq (g2 := F0 mI 43 ls [.int ((v 2) i)]) (by rw [nI_clamp (by omega)]) ?_
      refine lv_iload_n hx hb dX1_findParts_43 rfl (lv_at hl 3 rfl) ?_
      refine lv_icmp_ge (tgt := 63) hx hb dX1_findParts_44 (by decide) (fun c_19 => ?_) (fun c_19 => ?_)
      · skip
        refine lv_aload_n hx hb dX1_findParts_63 rfl (lv_at hl 0 rfl) ?_
        refine fw_get (v := .ref (a + 5)) (C := RX9) (T := TX9) (N := 2) hx hb hts hin9 hown hK hR h3 rfl 1 (by decide) (hts (.fieldLink RX1 174 "UnreadLeaflets$Tin" "lost" "[I") (by decide +kernel)) rfl dX1_findParts_64 ?_
        refine lv_iload_n hx hb dX1_findParts_67 rfl (lv_at hl 2 rfl) ?_
        refine lv_dup2_11 hx hb dX1_findParts_68 rfl rfl ?_
        refine fw_iald hx hb hK hR h5 (vp_in_nI (by omega) (by omega)) dX1_findParts_69 ?_
        refine W.eq (g2 := F0 mI 70 ls [.int ((v 2) i), .int (nI i), .ref (a + 5)]) (by rw [nI_clamp (by omega)]) ?_
        refine lv_iload_n hx hb dX1_findParts_70 rfl (lv_at hl 3 rfl) ?_
        refine lv_isub hx hb dX1_findParts_71 ?_
        refine fw_iast hx hb hK hR hS h5 (vp_in_nI (by omega) (by omega)) dX1_findParts_72 (fun H locs hR hS => ?_)
        rw [show (nI i).toNatClampNeg = i from nI_clamp (by omega)] at hR
        obtain ⟨ω_20, hw_21⟩ : ∃ τ : FWd, τ = (ω.1, va_up ω.2 (a + 5) (some (.inl (G.2.1 0, 6, .inl (upd (v 2) i (((v 2) i) - pn)))))) := ⟨_, rfl⟩
        have hR : fR G ω_20 H := by rw [hw_21]; exact hR
        have f_22 : ω_20.2 (a + 5) = some (.inl (G.2.1 0, 6, .inl (upd (v 2) i (((v 2) i) - pn)))) := by rw [hw_21]; exact va_up_at
        have fr_23 : ∀ q : Nat, ¬ q = (a + 5) → ω_20.2 q = ω.2 q := fun q hq => by rw [hw_21]; exact va_up_off hq
        have z_24 : ω_20.1 = ω.1 := by rw [hw_21]
        refine lv_aload_n hx hb dX1_findParts_73 rfl (lv_at hl 0 rfl) ?_
        have f_25 : ω_20.2 (a + 3) = some (.inr (11, [.ref (a + 4), .ref (a + 5)])) := (fr_23 (a + 3) (by omega)).trans h3
        refine fw_get (v := .ref (a + 4)) (C := RX9) (T := TX9) (N := 2) hx hb hts hin9 hown hK hR f_25 rfl 0 (by decide) (hts (.fieldLink RX1 171 "UnreadLeaflets$Tin" "inside" "[I") (by decide +kernel)) rfl dX1_findParts_74 ?_
        refine lv_iload_n hx hb dX1_findParts_77 rfl (lv_at hl 2 rfl) ?_
        refine lv_dup2_11 hx hb dX1_findParts_78 rfl rfl ?_
        have f_26 : ω_20.2 (a + 4) = some (.inl (G.2.1 0, 6, .inl (v 1))) := (fr_23 (a + 4) (by omega)).trans h4
        refine fw_iald hx hb hK hR f_26 (vp_in_nI (by omega) (by omega)) dX1_findParts_79 ?_
        refine W.eq (g2 := F0 mI 80 ls [.int ((v 1) i), .int (nI i), .ref (a + 4)]) (by rw [nI_clamp (by omega)]) ?_
        refine lv_iload_n hx hb dX1_findParts_80 rfl (lv_at hl 3 rfl) ?_
        refine lv_iadd hx hb dX1_findParts_81 ?_
        refine fw_iast hx hb hK hR hS f_26 (vp_in_nI (by omega) (by omega)) dX1_findParts_82 (fun H locs hR hS => ?_)
        rw [show (nI i).toNatClampNeg = i from nI_clamp (by omega)] at hR
        obtain ⟨ω_27, hw_28⟩ : ∃ τ : FWd, τ = (ω_20.1, va_up ω_20.2 (a + 4) (some (.inl (G.2.1 0, 6, .inl (upd (v 1) i (((v 1) i) + pn)))))) := ⟨_, rfl⟩
        have hR : fR G ω_27 H := by rw [hw_28]; exact hR
        have f_29 : ω_27.2 (a + 4) = some (.inl (G.2.1 0, 6, .inl (upd (v 1) i (((v 1) i) + pn)))) := by rw [hw_28]; exact va_up_at
        have fr_30 : ∀ q : Nat, ¬ q = (a + 4) → ω_27.2 q = ω_20.2 q := fun q hq => by rw [hw_28]; exact va_up_off hq
        have z_31 : ω_27.1 = ω_20.1 := by rw [hw_28]
        refine lv_aload_n hx hb dX1_findParts_83 rfl (lv_at hl 0 rfl) ?_
        have f_32 : ω_27.2 (a + 3) = some (.inr (11, [.ref (a + 4), .ref (a + 5)])) := (fr_30 (a + 3) (by omega)).trans f_25
        refine fw_get (v := .ref (a + 5)) (C := RX9) (T := TX9) (N := 2) hx hb hts hin9 hown hK hR f_32 rfl 1 (by decide) (hts (.fieldLink RX1 174 "UnreadLeaflets$Tin" "lost" "[I") (by decide +kernel)) rfl dX1_findParts_84 ?_
        refine lv_iload_n hx hb dX1_findParts_87 rfl (lv_at hl 2 rfl) ?_
        have f_33 : ω_27.2 (a + 5) = some (.inl (G.2.1 0, 6, .inl (upd (v 2) i (((v 2) i) - pn)))) := (fr_30 (a + 5) (by omega)).trans f_22
        refine fw_iald hx hb hK hR f_33 (vp_in_nI (by omega) (by omega)) dX1_findParts_88 ?_
        refine W.eq (g2 := F0 mI 89 ls [.int ((upd (v 2) i (((v 2) i) - pn)) i)]) (by rw [nI_clamp (by omega)]) ?_
        refine fw_iret hx hb hr hlocks hR hS dX1_findParts_89 ?_
        have z_34 : ω_27.1 = ω.1 := by rw [z_31, z_24]
        have fr_35 : ∀ q : Nat, ¬ (a ≤ q ∧ q < a + 52) → ω_27.2 q = ω.2 q := by
          intro q hq0
          rw [fr_30 q (by omega)]
          rw [fr_23 q (by omega)]
        have f_37 : ω_20.2 (a + 51) = some (.inr (9, [.int k1, .int k2, .int k3])) := (fr_23 (a + 51) (by omega)).trans hk
        have f_38 : ω_27.2 (a + 51) = some (.inr (9, [.int k1, .int k2, .int k3])) := (fr_30 (a + 51) (by omega)).trans f_37
        have f_39 : ω_20.2 a = some (.inr (2, [.ref (a + 1), .int (v 0 0), .ref (a + 2), .int (v 0 1), .ref (a + 3), .int (v 0 2), .int (v 0 3), .int (v 0 4), .int (v 0 5)])) := (fr_23 a (by omega)).trans h0
        have f_40 : ω_27.2 a = some (.inr (2, [.ref (a + 1), .int (v 0 0), .ref (a + 2), .int (v 0 1), .ref (a + 3), .int (v 0 2), .int (v 0 3), .int (v 0 4), .int (v 0 5)])) := (fr_30 a (by omega)).trans f_39
        have hA_36 : ArcS G ω_27.2 a (findV v i pn) := by
          refine hA.gen _ (8) (5) (f_40.trans (congrArg some ?_)) (f_29.trans (congrArg some ?_)) (f_33.trans (congrArg some ?_)) (fun hk9 => ?_) (fun hc9 => ?_) (fun q q1 q2 q3 q4 q5 q6 => ?_) (fun j9 h9 n9 => ?_) (fun j9 h9 n9 => ?_) (by omega) (by omega)
          · first | rfl | (simp [set1, setR, upd, findV, ne_big, ne_big']; done)
          · first | rfl | (simp [set1, setR, upd, findV, ne_big, ne_big']; done)
          · first | rfl | (simp [set1, setR, upd, findV, ne_big, ne_big']; done)
          · exact absurd hk9 (by decide)
          · exact absurd hc9 (by decide)
          · skip
            rw [fr_30 q (by omega)]
            rw [fr_23 q (by omega)]
          · exact findV_le
          · constructor <;> first | rfl | (simp [set1, setR, upd, findV, n9, ne_big, ne_big']; done)
        have hr_41 : findC v k1 k2 k3 (nI i) pn = (((upd (v 2) i (((v 2) i) - pn)) i, (findV v i pn), k1, k2, k3) : CR) := by
          simp only [findC, hcc, hdd, hci]
          rw [if_pos ⟨c_4, c_18⟩, if_pos c_19]
          rw [upd_at]
        rw [hr_41]
        exact ⟨rfl, z_34, hA_36, f_38, fr_35⟩
      · skip
        refine lv_aload_n hx hb dX1_findParts_47 rfl (lv_at hl 1 rfl) ?_
        refine fw_get (v := .ref (a + 51)) (C := RX1) (T := TX1) (N := 2) hx hb hts hin1 hown hK hR hy rfl 1 (by decide) (hts (.fieldLink RX1 21 "UnreadLeaflets$Changes" "kept" "LUnreadLeaflets$Reason;") (by decide +kernel)) rfl dX1_findParts_48 ?_
        refine lv_bipush (v := 13) hx hb dX1_findParts_51 (by decide) ?_
        refine lv_aload_n hx hb dX1_findParts_53 rfl (lv_at hl 0 rfl) ?_
        refine fw_get (v := .ref (a + 5)) (C := RX9) (T := TX9) (N := 2) hx hb hts hin9 hown hK hR h3 rfl 1 (by decide) (hts (.fieldLink RX1 174 "UnreadLeaflets$Tin" "lost" "[I") (by decide +kernel)) rfl dX1_findParts_54 ?_
        refine lv_iload_n hx hb dX1_findParts_57 rfl (lv_at hl 2 rfl) ?_
        refine fw_iald hx hb hK hR h5 (vp_in_nI (by omega) (by omega)) dX1_findParts_58 ?_
        refine W.eq (g2 := F0 mI 59 ls [.int ((v 2) i), .int 13, .ref (a + 51)]) (by rw [nI_clamp (by omega)]) ?_
        refine fw_call (va_runV (As := [.int 13, .int ((v 2) i)]) (rest := []) ⟨hx, hb, hml, hown, hts⟩ (c_X7_refuse G hL l ω (a + 51) k1 k2 k3 13 ((v 2) i) hk) (cwV 2 hts gX1_findParts_X7_refuse rfl rfl rfl (by decide +kernel) ⟨Nat.le_of_ble_eq_true rfl, Nat.le_of_ble_eq_true rfl⟩) (fw_preV hW hK hR hk rfl) rfl rfl hl.1 rfl (lv_room (Nat.le_of_ble_eq_true rfl)) dX1_findParts_59 ⟨Nat.le_of_ble_eq_true rfl, Nat.le_of_ble_eq_true rfl⟩) hS (fun v_42 ω_43 H locs hq_44 hR hS => ?_)
        obtain ⟨rfl, z_45, f_47, fr_46⟩ := hq_44
        refine W.eq (g2 := F0 mI 62 ls [.int (-1)]) rfl ?_
        refine fw_iret hx hb hr hlocks hR hS dX1_findParts_62 ?_
        have z_48 : ω_43.1 = ω.1 := by rw [z_45]
        have fr_49 : ∀ q : Nat, ¬ (a ≤ q ∧ q < a + 52) → ω_43.2 q = ω.2 q := by
          intro q hq0
          rw [fr_46 q (by omega)]
        have hA_50 : ArcS G ω_43.2 a v := hA.keep (fun q q1 q2 => by
          rw [fr_46 q (by omega)])
        have hr_51 : findC v k1 k2 k3 (nI i) pn = (((-1), v, 13, ((v 2) i), 0) : CR) := by
          simp only [findC, hcc, hdd, hci]
          rw [if_pos ⟨c_4, c_18⟩, if_neg c_19]
        rw [hr_51]
        exact ⟨rfl, z_48, hA_50, f_47, fr_49⟩
    · skip
      have c_18 := bz_eq c_18
      refine lv_aload_n hx hb dX1_findParts_19 rfl (lv_at hl 0 rfl) ?_
      refine fw_get (v := .ref (a + 51)) (C := RX1) (T := TX1) (N := 2) hx hb hts hin1 hown hK hR hy rfl 1 (by decide) (hts (.fieldLink RX1 21 "UnreadLeaflets$Changes" "kept" "LUnreadLeaflets$Reason;") (by decide +kernel)) rfl dX1_findParts_20 ?_
      refine lv_iconst (v := 1) hx hb dX1_findParts_23 (by decide) ?_
      refine lv_iconst (v := 0) hx hb dX1_findParts_24 (by decide) ?_
      refine fw_call (va_runV (As := [.int 1, .int 0]) (rest := []) ⟨hx, hb, hml, hown, hts⟩ (c_X7_refuse G hL l ω (a + 51) k1 k2 k3 1 0 hk) (cwV 2 hts gX1_findParts_X7_refuse rfl rfl rfl (by decide +kernel) ⟨Nat.le_of_ble_eq_true rfl, Nat.le_of_ble_eq_true rfl⟩) (fw_preV hW hK hR hk rfl) rfl rfl hl.1 rfl (lv_room (Nat.le_of_ble_eq_true rfl)) dX1_findParts_25 ⟨Nat.le_of_ble_eq_true rfl, Nat.le_of_ble_eq_true rfl⟩) hS (fun v_52 ω_53 H locs hq_54 hR hS => ?_)
      obtain ⟨rfl, z_55, f_57, fr_56⟩ := hq_54
      refine W.eq (g2 := F0 mI 28 ls [.int (-1)]) rfl ?_
      refine fw_iret hx hb hr hlocks hR hS dX1_findParts_28 ?_
      have z_58 : ω_53.1 = ω.1 := by rw [z_55]
      have fr_59 : ∀ q : Nat, ¬ (a ≤ q ∧ q < a + 52) → ω_53.2 q = ω.2 q := by
        intro q hq0
        rw [fr_56 q (by omega)]
      have hA_60 : ArcS G ω_53.2 a v := hA.keep (fun q q1 q2 => by
        rw [fr_56 q (by omega)])
      have hr_61 : findC v k1 k2 k3 kind pn = (((-1), v, 1, 0, 0) : CR) := by
        simp only [findC, hcc, hdd]
        rw [if_neg (fun z => c_18 z.2)]
      rw [hr_61]
      exact ⟨rfl, z_58, hA_60, f_57, fr_59⟩
