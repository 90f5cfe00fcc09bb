/-! ===== printed by program (wip/whole/gen/lay_ctor.py): the constructors ===== -/
set_option maxHeartbeats 4000000 in
set_option maxRecDepth 100000 in
theorem c_X3_init (G : FG) (hL : FL G) (l : Launch) (ω : FWd) (a : Nat) (hn : ω.1 = a + 1) (h0 : ω.2 a = some (.inr (5, [.int 0, .int 0]))) : FMet G l yX3_init wsX3_init ({ frames := 1, cells := 0, slots := 0, locals := 12 } : Room) [.ref a] ω (QN a 1 (fun σ => σ a = some (.inr (5, [.int 0, .int 0]))) ω) 0 0 := by
  refine fw_ofW (cc := cX3_init) (maxL := 1) (ret := none) (by decide) rfl (Nat.le_of_ble_eq_true rfl) ?_
  intro pP eE sS mI ar9 bl9 meth cD ls hx hb hr hlocks hml hts hown hnm hW hR hl
  have hK := hL.K hW
  have hS : va_S (fwA G) sS.heap sS.heap [] := va_S.rf
  have hl : lv_has ls 1 [(0, .ref a)] := hl
  obtain ⟨σ0, hs0⟩ : ∃ z9 : Nat → Option va_E, z9 = ω.2 := ⟨_, rfl⟩
  have hR : fR G (a + 1, σ0) sS.heap := by rw [hs0, ← hn]; exact hR
  have e0 : σ0 a = some (.inr (5, [.int 0, .int 0])) := by rw [hs0]; exact h0
  have f0 : ∀ q : Nat, σ0 q = ω.2 q := fun q => by rw [hs0]
  clear hs0
  refine lv_aload_n hx hb dX3_init_0 rfl (lv_at hl 0 rfl) ?_
  refine W.objInit hx hb hown (hts (.methodLink RX3 1 objectInit) (by decide +kernel)) (hts (.instanceMethod objectInit) (by decide +kernel)) (hts (.code objectInit ⟨#[0xb1]⟩ 1 none) (by decide +kernel)) rfl (by rw [hml]; exact hl.1) rfl dX3_init_1 (Nat.le_of_ble_eq_true rfl) (Nat.le_of_ble_eq_true rfl) ?_
  refine W.eq (g2 := F0 mI 4 ls []) rfl ?_
  refine fw_vret hx hb hr hlocks hR hS dX3_init_4 ?_
  exact ⟨rfl, rfl, e0, fun q hq => f0 q⟩
set_option maxHeartbeats 4000000 in
set_option maxRecDepth 100000 in
theorem c_X7_init (G : FG) (hL : FL G) (l : Launch) (ω : FWd) (a : Nat) (hn : ω.1 = a + 1) (h0 : ω.2 a = some (.inr (9, [.int 0, .int 0, .int 0]))) : FMet G l yX7_init wsX7_init ({ frames := 1, cells := 0, slots := 0, locals := 12 } : Room) [.ref a] ω (QN a 1 (fun σ => σ a = some (.inr (9, [.int 0, .int 0, .int 0]))) ω) 0 0 := by
  refine fw_ofW (cc := cX7_init) (maxL := 1) (ret := none) (by decide) rfl (Nat.le_of_ble_eq_true rfl) ?_
  intro pP eE sS mI ar9 bl9 meth cD ls hx hb hr hlocks hml hts hown hnm hW hR hl
  have hK := hL.K hW
  have hS : va_S (fwA G) sS.heap sS.heap [] := va_S.rf
  have hl : lv_has ls 1 [(0, .ref a)] := hl
  obtain ⟨σ0, hs0⟩ : ∃ z9 : Nat → Option va_E, z9 = ω.2 := ⟨_, rfl⟩
  have hR : fR G (a + 1, σ0) sS.heap := by rw [hs0, ← hn]; exact hR
  have e0 : σ0 a = some (.inr (9, [.int 0, .int 0, .int 0])) := by rw [hs0]; exact h0
  have f0 : ∀ q : Nat, σ0 q = ω.2 q := fun q => by rw [hs0]
  clear hs0
  refine lv_aload_n hx hb dX7_init_0 rfl (lv_at hl 0 rfl) ?_
  refine W.objInit hx hb hown (hts (.methodLink RX7 3 objectInit) (by decide +kernel)) (hts (.instanceMethod objectInit) (by decide +kernel)) (hts (.code objectInit ⟨#[0xb1]⟩ 1 none) (by decide +kernel)) rfl (by rw [hml]; exact hl.1) rfl dX7_init_1 (Nat.le_of_ble_eq_true rfl) (Nat.le_of_ble_eq_true rfl) ?_
  refine W.eq (g2 := F0 mI 4 ls []) rfl ?_
  refine fw_vret hx hb hr hlocks hR hS dX7_init_4 ?_
  exact ⟨rfl, rfl, e0, fun q hq => f0 q⟩
set_option maxHeartbeats 4000000 in
set_option maxRecDepth 100000 in
theorem c_X9_init (G : FG) (hL : FL G) (l : Launch) (ω : FWd) (a : Nat) (hn : ω.1 = a + 1) (h0 : ω.2 a = some (.inr (11, [.null, .null]))) : FMet G l yX9_init wsX9_init ({ frames := 1, cells := 2, slots := 12, locals := 12 } : Room) [.ref a] ω (QN a 3 (fun σ => TinS G σ a zR zR) ω) 2 12 := by
  refine fw_ofW (cc := cX9_init) (maxL := 1) (ret := none) (by decide) rfl (Nat.le_of_ble_eq_true rfl) ?_
  intro pP eE sS mI ar9 bl9 meth cD ls hx hb hr hlocks hml hts hown hnm hW hR hl
  have hK := hL.K hW
  have hS : va_S (fwA G) sS.heap sS.heap [] := va_S.rf
  have hin9 : ∀ w ∈ u_ws RX9 TX9 2, w ∈ wsX9_init := by decide +kernel
  have hl : lv_has ls 1 [(0, .ref a)] := hl
  obtain ⟨σ0, hs0⟩ : ∃ z9 : Nat → Option va_E, z9 = ω.2 := ⟨_, rfl⟩
  have hR : fR G (a + 1, σ0) sS.heap := by rw [hs0, ← hn]; exact hR
  have e0 : σ0 a = some (.inr (11, [.null, .null])) := by rw [hs0]; exact h0
  have f0 : ∀ q : Nat, σ0 q = ω.2 q := fun q => by rw [hs0]
  clear hs0
  refine lv_aload_n hx hb dX9_init_0 rfl (lv_at hl 0 rfl) ?_
  refine W.objInit hx hb hown (hts (.methodLink RX9 3 objectInit) (by decide +kernel)) (hts (.instanceMethod objectInit) (by decide +kernel)) (hts (.code objectInit ⟨#[0xb1]⟩ 1 none) (by decide +kernel)) rfl (by rw [hml]; exact hl.1) rfl dX9_init_1 (Nat.le_of_ble_eq_true rfl) (Nat.le_of_ble_eq_true rfl) ?_
  refine W.eq (g2 := F0 mI 4 ls []) rfl ?_
  refine lv_aload_n hx hb dX9_init_4 rfl (lv_at hl 0 rfl) ?_
  refine lv_bipush (v := 6) hx hb dX9_init_5 (by decide) ?_
  refine fw_newi hx hb (hts (.arrayClass .int) (by decide +kernel)) hK hR hS (n := a + 1) rfl (N := 6) (by decide) (by decide) (by decide) (Nat.le_of_ble_eq_true rfl) (Nat.le_of_ble_eq_true rfl) dX9_init_7 (fun H hR hS => ?_)
  obtain ⟨σ1, hs1⟩ : ∃ z9 : Nat → Option va_E, z9 = va_up σ0 (a + 1) (some (.inl (G.2.1 0, 6, .inl zR))) := ⟨_, rfl⟩
  have hR : fR G (a + 2, σ1) H := by rw [hs1]; exact hR
  have e1 : σ1 (a + 1) = some (.inl (G.2.1 0, 6, .inl zR)) := by rw [hs1]; exact va_up_at
  have f1 : ∀ q : Nat, ¬ q = a + 1 → σ1 q = σ0 q := fun q hq => by rw [hs1]; exact va_up_off hq
  clear hs1
  refine fw_putF (v := .ref (a + 1)) (C := RX9) (T := TX9) (N := 2) hx hb hts hin9 tyX9 tyX9_ok nmX9 hown hK hR hS ((f1 _ (by omega)).trans (e0)) rfl 0 (by decide) (hts (.fieldLink RX9 9 "UnreadLeaflets$Tin" "inside" "[I") (by decide +kernel)) rfl hnm rfl rfl rfl (Nat.le_of_ble_eq_true rfl) dX9_init_9 (fun H locs hR hS => ?_)
  obtain ⟨σ2, hs2⟩ : ∃ z9 : Nat → Option va_E, z9 = va_up σ1 (a) (some (.inr (11, [.ref (a + 1), .null]))) := ⟨_, rfl⟩
  have hR : fR G (a + 2, σ2) H := by rw [hs2]; exact hR
  have e2 : σ2 (a) = some (.inr (11, [.ref (a + 1), .null])) := by rw [hs2]; exact va_up_at
  have f2 : ∀ q : Nat, ¬ q = a → σ2 q = σ1 q := fun q hq => by rw [hs2]; exact va_up_off hq
  clear hs2
  refine lv_aload_n hx hb dX9_init_12 rfl (lv_at hl 0 rfl) ?_
  refine lv_bipush (v := 6) hx hb dX9_init_13 (by decide) ?_
  refine fw_newi hx hb (hts (.arrayClass .int) (by decide +kernel)) hK hR hS (n := a + 2) rfl (N := 6) (by decide) (by decide) (by decide) (Nat.le_of_ble_eq_true rfl) (Nat.le_of_ble_eq_true rfl) dX9_init_15 (fun H hR hS => ?_)
  obtain ⟨σ3, hs3⟩ : ∃ z9 : Nat → Option va_E, z9 = va_up σ2 (a + 2) (some (.inl (G.2.1 0, 6, .inl zR))) := ⟨_, rfl⟩
  have hR : fR G (a + 3, σ3) H := by rw [hs3]; exact hR
  have e3 : σ3 (a + 2) = some (.inl (G.2.1 0, 6, .inl zR)) := by rw [hs3]; exact va_up_at
  have f3 : ∀ q : Nat, ¬ q = a + 2 → σ3 q = σ2 q := fun q hq => by rw [hs3]; exact va_up_off hq
  clear hs3
  refine fw_putF (v := .ref (a + 2)) (C := RX9) (T := TX9) (N := 2) hx hb hts hin9 tyX9 tyX9_ok nmX9 hown hK hR hS ((f3 _ (by omega)).trans (e2)) rfl 1 (by decide) (hts (.fieldLink RX9 15 "UnreadLeaflets$Tin" "lost" "[I") (by decide +kernel)) rfl hnm rfl rfl rfl (Nat.le_of_ble_eq_true rfl) dX9_init_17 (fun H locs hR hS => ?_)
  obtain ⟨σ4, hs4⟩ : ∃ z9 : Nat → Option va_E, z9 = va_up σ3 (a) (some (.inr (11, [.ref (a + 1), .ref (a + 2)]))) := ⟨_, rfl⟩
  have hR : fR G (a + 3, σ4) H := by rw [hs4]; exact hR
  have e4 : σ4 (a) = some (.inr (11, [.ref (a + 1), .ref (a + 2)])) := by rw [hs4]; exact va_up_at
  have f4 : ∀ q : Nat, ¬ q = a → σ4 q = σ3 q := fun q hq => by rw [hs4]; exact va_up_off hq
  clear hs4
  refine fw_vret hx hb hr hlocks hR hS dX9_init_20 ?_
  exact ⟨rfl, rfl, ⟨(e4), ((f4 _ (by omega)).trans ((f3 _ (by omega)).trans ((f2 _ (by omega)).trans (e1)))), ((f4 _ (by omega)).trans (e3))⟩, (fun q hq => ((f4 q (by omega)).trans ((f3 q (by omega)).trans ((f2 q (by omega)).trans (f1 q (by omega))))).trans (f0 q))⟩
set_option maxHeartbeats 4000000 in
set_option maxRecDepth 100000 in
theorem c_X2_init (G : FG) (hL : FL G) (l : Launch) (ω : FWd) (a : Nat) (hn : ω.1 = a + 1) (h0 : ω.2 a = some (.inr (4, [.int 0, .null, .int 0, .int 0]))) : FMet G l yX2_init wsX2_init ({ frames := 1, cells := 1, slots := 3, locals := 12 } : Room) [.ref a] ω (QN a 2 (fun σ => CmdS G σ a 0 zR 0 0) ω) 1 3 := by
  refine fw_ofW (cc := cX2_init) (maxL := 1) (ret := none) (by decide) rfl (Nat.le_of_ble_eq_true rfl) ?_
  intro pP eE sS mI ar9 bl9 meth cD ls hx hb hr hlocks hml hts hown hnm hW hR hl
  have hK := hL.K hW
  have hS : va_S (fwA G) sS.heap sS.heap [] := va_S.rf
  have hin2 : ∀ w ∈ u_ws RX2 TX2 4, w ∈ wsX2_init := by decide +kernel
  have hl : lv_has ls 1 [(0, .ref a)] := hl
  obtain ⟨σ0, hs0⟩ : ∃ z9 : Nat → Option va_E, z9 = ω.2 := ⟨_, rfl⟩
  have hR : fR G (a + 1, σ0) sS.heap := by rw [hs0, ← hn]; exact hR
  have e0 : σ0 a = some (.inr (4, [.int 0, .null, .int 0, .int 0])) := by rw [hs0]; exact h0
  have f0 : ∀ q : Nat, σ0 q = ω.2 q := fun q => by rw [hs0]
  clear hs0
  refine lv_aload_n hx hb dX2_init_0 rfl (lv_at hl 0 rfl) ?_
  refine W.objInit hx hb hown (hts (.methodLink RX2 3 objectInit) (by decide +kernel)) (hts (.instanceMethod objectInit) (by decide +kernel)) (hts (.code objectInit ⟨#[0xb1]⟩ 1 none) (by decide +kernel)) rfl (by rw [hml]; exact hl.1) rfl dX2_init_1 (Nat.le_of_ble_eq_true rfl) (Nat.le_of_ble_eq_true rfl) ?_
  refine W.eq (g2 := F0 mI 4 ls []) rfl ?_
  refine lv_aload_n hx hb dX2_init_4 rfl (lv_at hl 0 rfl) ?_
  refine lv_iconst (v := 3) hx hb dX2_init_5 (by decide) ?_
  refine fw_newi hx hb (hts (.arrayClass .int) (by decide +kernel)) hK hR hS (n := a + 1) rfl (N := 3) (by decide) (by decide) (by decide) (Nat.le_of_ble_eq_true rfl) (Nat.le_of_ble_eq_true rfl) dX2_init_6 (fun H hR hS => ?_)
  obtain ⟨σ1, hs1⟩ : ∃ z9 : Nat → Option va_E, z9 = va_up σ0 (a + 1) (some (.inl (G.2.1 0, 3, .inl zR))) := ⟨_, rfl⟩
  have hR : fR G (a + 2, σ1) H := by rw [hs1]; exact hR
  have e1 : σ1 (a + 1) = some (.inl (G.2.1 0, 3, .inl zR)) := by rw [hs1]; exact va_up_at
  have f1 : ∀ q : Nat, ¬ q = a + 1 → σ1 q = σ0 q := fun q hq => by rw [hs1]; exact va_up_off hq
  clear hs1
  refine fw_putF (v := .ref (a + 1)) (C := RX2) (T := TX2) (N := 4) hx hb hts hin2 tyX2 tyX2_ok nmX2 hown hK hR hS ((f1 _ (by omega)).trans (e0)) rfl 1 (by decide) (hts (.fieldLink RX2 9 "UnreadLeaflets$Command" "numbers" "[I") (by decide +kernel)) rfl hnm rfl rfl rfl (Nat.le_of_ble_eq_true rfl) dX2_init_8 (fun H locs hR hS => ?_)
  obtain ⟨σ2, hs2⟩ : ∃ z9 : Nat → Option va_E, z9 = va_up σ1 (a) (some (.inr (4, [.int 0, .ref (a + 1), .int 0, .int 0]))) := ⟨_, rfl⟩
  have hR : fR G (a + 2, σ2) H := by rw [hs2]; exact hR
  have e2 : σ2 (a) = some (.inr (4, [.int 0, .ref (a + 1), .int 0, .int 0])) := by rw [hs2]; exact va_up_at
  have f2 : ∀ q : Nat, ¬ q = a → σ2 q = σ1 q := fun q hq => by rw [hs2]; exact va_up_off hq
  clear hs2
  refine fw_vret hx hb hr hlocks hR hS dX2_init_11 ?_
  exact ⟨rfl, rfl, ⟨(e2), ((f2 _ (by omega)).trans (e1))⟩, (fun q hq => ((f2 q (by omega)).trans (f1 q (by omega))).trans (f0 q))⟩
set_option maxHeartbeats 4000000 in
set_option maxRecDepth 100000 in
theorem c_X6_init (G : FG) (hL : FL G) (l : Launch) (ω : FWd) (a : Nat) (hn : ω.1 = a + 1) (h0 : ω.2 a = some (.inr (8, [.null, .int 0]))) : FMet G l yX6_init wsX6_init ({ frames := 1, cells := 1, slots := 48, locals := 12 } : Room) [.ref a] ω (QN a 2 (fun σ => LinS G σ a (zR, 0)) ω) 1 48 := by
  refine fw_ofW (cc := cX6_init) (maxL := 1) (ret := none) (by decide) rfl (Nat.le_of_ble_eq_true rfl) ?_
  intro pP eE sS mI ar9 bl9 meth cD ls hx hb hr hlocks hml hts hown hnm hW hR hl
  have hK := hL.K hW
  have hS : va_S (fwA G) sS.heap sS.heap [] := va_S.rf
  have hin6 : ∀ w ∈ u_ws RX6 TX6 2, w ∈ wsX6_init := by decide +kernel
  have hl : lv_has ls 1 [(0, .ref a)] := hl
  obtain ⟨σ0, hs0⟩ : ∃ z9 : Nat → Option va_E, z9 = ω.2 := ⟨_, rfl⟩
  have hR : fR G (a + 1, σ0) sS.heap := by rw [hs0, ← hn]; exact hR
  have e0 : σ0 a = some (.inr (8, [.null, .int 0])) := by rw [hs0]; exact h0
  have f0 : ∀ q : Nat, σ0 q = ω.2 q := fun q => by rw [hs0]
  clear hs0
  refine lv_aload_n hx hb dX6_init_0 rfl (lv_at hl 0 rfl) ?_
  refine W.objInit hx hb hown (hts (.methodLink RX6 3 objectInit) (by decide +kernel)) (hts (.instanceMethod objectInit) (by decide +kernel)) (hts (.code objectInit ⟨#[0xb1]⟩ 1 none) (by decide +kernel)) rfl (by rw [hml]; exact hl.1) rfl dX6_init_1 (Nat.le_of_ble_eq_true rfl) (Nat.le_of_ble_eq_true rfl) ?_
  refine W.eq (g2 := F0 mI 4 ls []) rfl ?_
  refine lv_aload_n hx hb dX6_init_4 rfl (lv_at hl 0 rfl) ?_
  refine lv_bipush (v := 48) hx hb dX6_init_5 (by decide) ?_
  refine fw_newch hx hb (hts (.arrayClass .char) (by decide +kernel)) hK hR hS (n := a + 1) rfl (N := 48) (by decide) (by decide) (by decide) (Nat.le_of_ble_eq_true rfl) (Nat.le_of_ble_eq_true rfl) dX6_init_7 (fun H hR hS => ?_)
  obtain ⟨σ1, hs1⟩ : ∃ z9 : Nat → Option va_E, z9 = va_up σ0 (a + 1) (some (.inl (G.2.1 1, 48, .inl zR))) := ⟨_, rfl⟩
  have hR : fR G (a + 2, σ1) H := by rw [hs1]; exact hR
  have e1 : σ1 (a + 1) = some (.inl (G.2.1 1, 48, .inl zR)) := by rw [hs1]; exact va_up_at
  have f1 : ∀ q : Nat, ¬ q = a + 1 → σ1 q = σ0 q := fun q hq => by rw [hs1]; exact va_up_off hq
  clear hs1
  refine fw_putF (v := .ref (a + 1)) (C := RX6) (T := TX6) (N := 2) hx hb hts hin6 tyX6 tyX6_ok nmX6 hown hK hR hS ((f1 _ (by omega)).trans (e0)) rfl 0 (by decide) (hts (.fieldLink RX6 9 "UnreadLeaflets$Line" "characters" "[C") (by decide +kernel)) rfl hnm rfl rfl rfl (Nat.le_of_ble_eq_true rfl) dX6_init_9 (fun H locs hR hS => ?_)
  obtain ⟨σ2, hs2⟩ : ∃ z9 : Nat → Option va_E, z9 = va_up σ1 (a) (some (.inr (8, [.ref (a + 1), .int 0]))) := ⟨_, rfl⟩
  have hR : fR G (a + 2, σ2) H := by rw [hs2]; exact hR
  have e2 : σ2 (a) = some (.inr (8, [.ref (a + 1), .int 0])) := by rw [hs2]; exact va_up_at
  have f2 : ∀ q : Nat, ¬ q = a → σ2 q = σ1 q := fun q hq => by rw [hs2]; exact va_up_off hq
  clear hs2
  refine fw_vret hx hb hr hlocks hR hS dX6_init_12 ?_
  exact ⟨rfl, rfl, ⟨(e2), ((f2 _ (by omega)).trans (e1)), Nat.zero_le _⟩, (fun q hq => ((f2 q (by omega)).trans (f1 q (by omega))).trans (f0 q))⟩
set_option maxHeartbeats 4000000 in
set_option maxRecDepth 100000 in
theorem c_X5_init (G : FG) (hL : FL G) (l : Launch) (ω : FWd) (a : Nat) (hn : ω.1 = a + 1) (h0 : ω.2 a = some (.inr (7, [.int 0, .int 0, .int 0, .int 0, .int 0, .null, .null, .null, .null]))) : FMet G l yX5_init wsX5_init ({ frames := 1, cells := 4, slots := 32, locals := 12 } : Room) [.ref a] ω (QN a 5 (fun σ => ∀ k, k < 8 → LeafS G σ a vZ k) ω) 4 32 := by
  refine fw_ofW (cc := cX5_init) (maxL := 1) (ret := none) (by decide) rfl (Nat.le_of_ble_eq_true rfl) ?_
  intro pP eE sS mI ar9 bl9 meth cD ls hx hb hr hlocks hml hts hown hnm hW hR hl
  have hK := hL.K hW
  have hS : va_S (fwA G) sS.heap sS.heap [] := va_S.rf
  have hin5 : ∀ w ∈ u_ws RX5 TX5 9, w ∈ wsX5_init := by decide +kernel
  have hl : lv_has ls 1 [(0, .ref a)] := hl
  obtain ⟨σ0, hs0⟩ : ∃ z9 : Nat → Option va_E, z9 = ω.2 := ⟨_, rfl⟩
  have hR : fR G (a + 1, σ0) sS.heap := by rw [hs0, ← hn]; exact hR
  have e0 : σ0 a = some (.inr (7, [.int 0, .int 0, .int 0, .int 0, .int 0, .null, .null, .null, .null])) := by rw [hs0]; exact h0
  have f0 : ∀ q : Nat, σ0 q = ω.2 q := fun q => by rw [hs0]
  clear hs0
  refine lv_aload_n hx hb dX5_init_0 rfl (lv_at hl 0 rfl) ?_
  refine W.objInit hx hb hown (hts (.methodLink RX5 3 objectInit) (by decide +kernel)) (hts (.instanceMethod objectInit) (by decide +kernel)) (hts (.code objectInit ⟨#[0xb1]⟩ 1 none) (by decide +kernel)) rfl (by rw [hml]; exact hl.1) rfl dX5_init_1 (Nat.le_of_ble_eq_true rfl) (Nat.le_of_ble_eq_true rfl) ?_
  refine W.eq (g2 := F0 mI 4 ls []) rfl ?_
  refine lv_aload_n hx hb dX5_init_4 rfl (lv_at hl 0 rfl) ?_
  refine lv_bipush (v := 8) hx hb dX5_init_5 (by decide) ?_
  refine fw_newi hx hb (hts (.arrayClass .int) (by decide +kernel)) hK hR hS (n := a + 1) rfl (N := 8) (by decide) (by decide) (by decide) (Nat.le_of_ble_eq_true rfl) (Nat.le_of_ble_eq_true rfl) dX5_init_7 (fun H hR hS => ?_)
  obtain ⟨σ1, hs1⟩ : ∃ z9 : Nat → Option va_E, z9 = va_up σ0 (a + 1) (some (.inl (G.2.1 0, 8, .inl zR))) := ⟨_, rfl⟩
  have hR : fR G (a + 2, σ1) H := by rw [hs1]; exact hR
  have e1 : σ1 (a + 1) = some (.inl (G.2.1 0, 8, .inl zR)) := by rw [hs1]; exact va_up_at
  have f1 : ∀ q : Nat, ¬ q = a + 1 → σ1 q = σ0 q := fun q hq => by rw [hs1]; exact va_up_off hq
  clear hs1
  refine fw_putF (v := .ref (a + 1)) (C := RX5) (T := TX5) (N := 9) hx hb hts hin5 tyX5 tyX5_ok nmX5 hown hK hR hS ((f1 _ (by omega)).trans (e0)) rfl 5 (by decide) (hts (.fieldLink RX5 9 "UnreadLeaflets$Leaflet" "kinds" "[I") (by decide +kernel)) rfl hnm rfl rfl rfl (Nat.le_of_ble_eq_true rfl) dX5_init_9 (fun H locs hR hS => ?_)
  obtain ⟨σ2, hs2⟩ : ∃ z9 : Nat → Option va_E, z9 = va_up σ1 (a) (some (.inr (7, [.int 0, .int 0, .int 0, .int 0, .int 0, .ref (a + 1), .null, .null, .null]))) := ⟨_, rfl⟩
  have hR : fR G (a + 2, σ2) H := by rw [hs2]; exact hR
  have e2 : σ2 (a) = some (.inr (7, [.int 0, .int 0, .int 0, .int 0, .int 0, .ref (a + 1), .null, .null, .null])) := by rw [hs2]; exact va_up_at
  have f2 : ∀ q : Nat, ¬ q = a → σ2 q = σ1 q := fun q hq => by rw [hs2]; exact va_up_off hq
  clear hs2
  refine lv_aload_n hx hb dX5_init_12 rfl (lv_at hl 0 rfl) ?_
  refine lv_bipush (v := 8) hx hb dX5_init_13 (by decide) ?_
  refine fw_newi hx hb (hts (.arrayClass .int) (by decide +kernel)) hK hR hS (n := a + 2) rfl (N := 8) (by decide) (by decide) (by decide) (Nat.le_of_ble_eq_true rfl) (Nat.le_of_ble_eq_true rfl) dX5_init_15 (fun H hR hS => ?_)
  obtain ⟨σ3, hs3⟩ : ∃ z9 : Nat → Option va_E, z9 = va_up σ2 (a + 2) (some (.inl (G.2.1 0, 8, .inl zR))) := ⟨_, rfl⟩
  have hR : fR G (a + 3, σ3) H := by rw [hs3]; exact hR
  have e3 : σ3 (a + 2) = some (.inl (G.2.1 0, 8, .inl zR)) := by rw [hs3]; exact va_up_at
  have f3 : ∀ q : Nat, ¬ q = a + 2 → σ3 q = σ2 q := fun q hq => by rw [hs3]; exact va_up_off hq
  clear hs3
  refine fw_putF (v := .ref (a + 2)) (C := RX5) (T := TX5) (N := 9) hx hb hts hin5 tyX5 tyX5_ok nmX5 hown hK hR hS ((f3 _ (by omega)).trans (e2)) rfl 6 (by decide) (hts (.fieldLink RX5 15 "UnreadLeaflets$Leaflet" "parts" "[I") (by decide +kernel)) rfl hnm rfl rfl rfl (Nat.le_of_ble_eq_true rfl) dX5_init_17 (fun H locs hR hS => ?_)
  obtain ⟨σ4, hs4⟩ : ∃ z9 : Nat → Option va_E, z9 = va_up σ3 (a) (some (.inr (7, [.int 0, .int 0, .int 0, .int 0, .int 0, .ref (a + 1), .ref (a + 2), .null, .null]))) := ⟨_, rfl⟩
  have hR : fR G (a + 3, σ4) H := by rw [hs4]; exact hR
  have e4 : σ4 (a) = some (.inr (7, [.int 0, .int 0, .int 0, .int 0, .int 0, .ref (a + 1), .ref (a + 2), .null, .null])) := by rw [hs4]; exact va_up_at
  have f4 : ∀ q : Nat, ¬ q = a → σ4 q = σ3 q := fun q hq => by rw [hs4]; exact va_up_off hq
  clear hs4
  refine lv_aload_n hx hb dX5_init_20 rfl (lv_at hl 0 rfl) ?_
  refine lv_bipush (v := 8) hx hb dX5_init_21 (by decide) ?_
  refine fw_newi hx hb (hts (.arrayClass .int) (by decide +kernel)) hK hR hS (n := a + 3) rfl (N := 8) (by decide) (by decide) (by decide) (Nat.le_of_ble_eq_true rfl) (Nat.le_of_ble_eq_true rfl) dX5_init_23 (fun H hR hS => ?_)
  obtain ⟨σ5, hs5⟩ : ∃ z9 : Nat → Option va_E, z9 = va_up σ4 (a + 3) (some (.inl (G.2.1 0, 8, .inl zR))) := ⟨_, rfl⟩
  have hR : fR G (a + 4, σ5) H := by rw [hs5]; exact hR
  have e5 : σ5 (a + 3) = some (.inl (G.2.1 0, 8, .inl zR)) := by rw [hs5]; exact va_up_at
  have f5 : ∀ q : Nat, ¬ q = a + 3 → σ5 q = σ4 q := fun q hq => by rw [hs5]; exact va_up_off hq
  clear hs5
  refine fw_putF (v := .ref (a + 3)) (C := RX5) (T := TX5) (N := 9) hx hb hts hin5 tyX5 tyX5_ok nmX5 hown hK hR hS ((f5 _ (by omega)).trans (e4)) rfl 7 (by decide) (hts (.fieldLink RX5 18 "UnreadLeaflets$Leaflet" "languages" "[I") (by decide +kernel)) rfl hnm rfl rfl rfl (Nat.le_of_ble_eq_true rfl) dX5_init_25 (fun H locs hR hS => ?_)
  obtain ⟨σ6, hs6⟩ : ∃ z9 : Nat → Option va_E, z9 = va_up σ5 (a) (some (.inr (7, [.int 0, .int 0, .int 0, .int 0, .int 0, .ref (a + 1), .ref (a + 2), .ref (a + 3), .null]))) := ⟨_, rfl⟩
  have hR : fR G (a + 4, σ6) H := by rw [hs6]; exact hR
  have e6 : σ6 (a) = some (.inr (7, [.int 0, .int 0, .int 0, .int 0, .int 0, .ref (a + 1), .ref (a + 2), .ref (a + 3), .null])) := by rw [hs6]; exact va_up_at
  have f6 : ∀ q : Nat, ¬ q = a → σ6 q = σ5 q := fun q hq => by rw [hs6]; exact va_up_off hq
  clear hs6
  refine lv_aload_n hx hb dX5_init_28 rfl (lv_at hl 0 rfl) ?_
  refine lv_bipush (v := 8) hx hb dX5_init_29 (by decide) ?_
  refine fw_newi hx hb (hts (.arrayClass .int) (by decide +kernel)) hK hR hS (n := a + 4) rfl (N := 8) (by decide) (by decide) (by decide) (Nat.le_of_ble_eq_true rfl) (Nat.le_of_ble_eq_true rfl) dX5_init_31 (fun H hR hS => ?_)
  obtain ⟨σ7, hs7⟩ : ∃ z9 : Nat → Option va_E, z9 = va_up σ6 (a + 4) (some (.inl (G.2.1 0, 8, .inl zR))) := ⟨_, rfl⟩
  have hR : fR G (a + 5, σ7) H := by rw [hs7]; exact hR
  have e7 : σ7 (a + 4) = some (.inl (G.2.1 0, 8, .inl zR)) := by rw [hs7]; exact va_up_at
  have f7 : ∀ q : Nat, ¬ q = a + 4 → σ7 q = σ6 q := fun q hq => by rw [hs7]; exact va_up_off hq
  clear hs7
  refine fw_putF (v := .ref (a + 4)) (C := RX5) (T := TX5) (N := 9) hx hb hts hin5 tyX5 tyX5_ok nmX5 hown hK hR hS ((f7 _ (by omega)).trans (e6)) rfl 8 (by decide) (hts (.fieldLink RX5 21 "UnreadLeaflets$Leaflet" "sides" "[I") (by decide +kernel)) rfl hnm rfl rfl rfl (Nat.le_of_ble_eq_true rfl) dX5_init_33 (fun H locs hR hS => ?_)
  obtain ⟨σ8, hs8⟩ : ∃ z9 : Nat → Option va_E, z9 = va_up σ7 (a) (some (.inr (7, [.int 0, .int 0, .int 0, .int 0, .int 0, .ref (a + 1), .ref (a + 2), .ref (a + 3), .ref (a + 4)]))) := ⟨_, rfl⟩
  have hR : fR G (a + 5, σ8) H := by rw [hs8]; exact hR
  have e8 : σ8 (a) = some (.inr (7, [.int 0, .int 0, .int 0, .int 0, .int 0, .ref (a + 1), .ref (a + 2), .ref (a + 3), .ref (a + 4)])) := by rw [hs8]; exact va_up_at
  have f8 : ∀ q : Nat, ¬ q = a → σ8 q = σ7 q := fun q hq => by rw [hs8]; exact va_up_off hq
  clear hs8
  refine fw_vret hx hb hr hlocks hR hS dX5_init_36 ?_
  exact ⟨rfl, rfl, fun k hk => leafZ hk (e8) ((f8 _ (by omega)).trans ((f7 _ (by omega)).trans ((f6 _ (by omega)).trans ((f5 _ (by omega)).trans ((f4 _ (by omega)).trans ((f3 _ (by omega)).trans ((f2 _ (by omega)).trans (e1)))))))) ((f8 _ (by omega)).trans ((f7 _ (by omega)).trans ((f6 _ (by omega)).trans ((f5 _ (by omega)).trans ((f4 _ (by omega)).trans (e3)))))) ((f8 _ (by omega)).trans ((f7 _ (by omega)).trans ((f6 _ (by omega)).trans (e5)))) ((f8 _ (by omega)).trans (e7)), (fun q hq => ((f8 q (by omega)).trans ((f7 q (by omega)).trans ((f6 q (by omega)).trans ((f5 q (by omega)).trans ((f4 q (by omega)).trans ((f3 q (by omega)).trans ((f2 q (by omega)).trans (f1 q (by omega))))))))).trans (f0 q))⟩
set_option maxHeartbeats 4000000 in
set_option maxRecDepth 100000 in
theorem c_X0_init (G : FG) (hL : FL G) (l : Launch) (ω : FWd) (a : Nat) (hn : ω.1 = a + 1) (h0 : ω.2 a = some (.inr (2, [.null, .int 0, .null, .int 0, .null, .int 0, .int 0, .int 0, .int 0]))) : FMet G l yX0_init wsX0_init ({ frames := 2, cells := 50, slots := 365, locals := 32 } : Room) [.ref a] ω (QN a 51 (fun σ => ArcS G σ a vZ) ω) 50 365 := by
  refine fw_ofW (cc := cX0_init) (maxL := 2) (ret := none) (by decide) rfl (Nat.le_of_ble_eq_true rfl) ?_
  intro pP eE sS mI ar9 bl9 meth cD ls hx hb hr hlocks hml hts hown hnm hW hR hl
  have hK := hL.K hW
  have hS : va_S (fwA G) sS.heap sS.heap [] := va_S.rf
  have hin0 : ∀ w ∈ u_ws RX0 TX0 9, w ∈ wsX0_init := by decide +kernel
  have hl : lv_has ls 2 [(0, .ref a)] := hl
  obtain ⟨σ0, hs0⟩ : ∃ z9 : Nat → Option va_E, z9 = ω.2 := ⟨_, rfl⟩
  have hR : fR G (a + 1, σ0) sS.heap := by rw [hs0, ← hn]; exact hR
  have e0 : σ0 a = some (.inr (2, [.null, .int 0, .null, .int 0, .null, .int 0, .int 0, .int 0, .int 0])) := by rw [hs0]; exact h0
  have f0 : ∀ q : Nat, σ0 q = ω.2 q := fun q => by rw [hs0]
  clear hs0
  have loop_2 : ∀ (fu j : Nat), 5 - j < fu → j ≤ 5 → ∀ (σ0 : Nat → Option va_E) (H : Heap) (locs : List Loc) (ls : Array Slot), (σ0 a = some (.inr (2, [.ref (a + 1), .int 0, .ref (a + 2), .int 0, .ref (a + 3), .int 0, .int 0, .int 0, .int 0]))) → (σ0 (a + 2) = some (.inl (G.2.1 6, 5, .inr (.inr (.inr (.inr (rowN (fun z9 => a + 46 + z9) j))))))) → (σ0 (a + 1) = some (.inl (G.2.1 7, 8, .inr (.inr (.inr (.inr (rowN (fun z9 => a + 6 + 5 * z9) 8))))))) → (TinS G σ0 (a + 3) zR zR) → (∀ k, k < 8 → LeafS G σ0 (a + 6 + 5 * k) vZ k) → (∀ k, k < j → σ0 (a + 46 + k) = some (.inr (5, [.int 0, .int 0]))) → (∀ q, q < a → σ0 q = ω.2 q) → fR G (a + 46 + j, σ0) H → va_S (fwA G) sS.heap H locs → lv_has ls 2 [(1, .int (nI j)), (0, .ref a)] → W pP l eE ({ frames := 2, cells := 50, slots := 365, locals := 32 } : Room) sS mI ar9 bl9 meth cD H locs (45 + 1 * j) (355 + 2 * j) (MQ bl9 (fQ G (QN a 51 (fun σ => ArcS G σ a vZ) ω)) ar9 sS 50 365 (fwA G)) (F0 mI 61 ls []) := by
    intro fu
    induction fu with
    | zero => intro j hfu; exact absurd hfu (Nat.not_lt_zero _)
    | succ fu ih =>
      intro j hfu hj σ0 H locs ls g0 g1 g2 gt gl gi gf hR hS hl
      refine lv_iload_n hx hb dX0_init_61 rfl (lv_at hl 0 rfl) ?_
      refine lv_iconst (v := 5) hx hb dX0_init_62 (by decide) ?_
      refine lv_icmp_ge (tgt := 85) hx hb dX0_init_63 (by decide) (fun c_2 => ?_) (fun c_2 => ?_)
      · have hj2 := lp_ge (x := 5) (n := 5) rfl c_2 (by omega) (by omega)
        have hjn : j = 5 := by omega
        subst hjn
        have hR := hR.rowq g2 (f2 := fun z9 => some (a + 6 + 5 * z9)) (fun j hj => if_pos hj)
        have hR := hR.rowq (a := a + 2) ((va_up_off (by omega)).trans g1) (f2 := fun z9 => some (a + 46 + z9)) (fun j hj => if_pos hj)
        refine fw_vret hx hb hr hlocks hR hS dX0_init_85 ?_
        have f9 : ∀ q : Nat, ¬ q = a + 1 → ¬ q = a + 2 → va_up (va_up σ0 (a + 1) (some (.inl (G.2.1 7, 8, .inr (.inr (.inr (.inr (fun z9 => some (a + 6 + 5 * z9))))))))) (a + 2) (some (.inl (G.2.1 6, 5, .inr (.inr (.inr (.inr (fun z9 => some (a + 46 + z9)))))))) q = σ0 q := fun q q1 q2 => (va_up_off q2).trans (va_up_off q1)
        exact ⟨rfl, rfl, arcZ ((f9 _ (by omega) (by omega)).trans g0) ((va_up_off (by omega)).trans va_up_at) va_up_at (tin_fr gt (fun q q1 q2 => f9 q (by omega) (by omega))) (fun k hk => (gl k hk).keep (fun q q1 q2 => f9 q (by omega) (by omega))) (fun k hk => (f9 _ (by omega) (by omega)).trans (gi k hk)), fun q hq => (f9 q (by omega) (by omega)).trans (gf q hq)⟩
      · have hj2 := lp_lt (x := 5) (n := 5) rfl c_2 (by omega) (by omega)
        refine lv_aload_n hx hb dX0_init_66 rfl (lv_at hl 1 rfl) ?_
        refine fw_get (v := .ref (a + 2)) (C := RX0) (T := TX0) (N := 9) hx hb hts hin0 hown hK hR (g0) rfl 2 (by decide) (hts (.fieldLink RX0 19 "UnreadLeaflets$Archive" "cousins" "[LUnreadLeaflets$Cousin;") (by decide +kernel)) rfl dX0_init_67 ?_
        refine lv_iload_n hx hb dX0_init_70 rfl (lv_at hl 0 rfl) ?_
        refine fw_new (C := RX3) (T := TX3) (N := 2) (ci := 5) hx hb hts (by decide +kernel) tyX3 tyX3_ok hown (hts (.classLink RX0 17 RX3) (by decide +kernel)) (hts (.instantiable RX3 2) (by decide +kernel)) (hts (.initialized RX3) (by decide +kernel)) hK hR hS rfl (n := a + 46 + j) rfl (fs := [.int 0, .int 0]) (fun j hj => by rcases (show j = 0 ∨ j = 1 by omega) with rfl | rfl <;> rfl) (show 45 + 1 * j + 1 ≤ 50 by omega) (show 355 + 2 * j + 2 ≤ 365 by omega) dX0_init_71 (fun H hR hS => ?_)
        obtain ⟨σ1, hs1⟩ : ∃ z9 : Nat → Option va_E, z9 = va_up σ0 (a + 46 + j) (some (.inr (5, [.int 0, .int 0]))) := ⟨_, rfl⟩
        have hR : fR G (a + 46 + j + 1, σ1) H := by rw [hs1]; exact hR
        have e1 : σ1 (a + 46 + j) = some (.inr (5, [.int 0, .int 0])) := by rw [hs1]; exact va_up_at
        have f1 : ∀ q : Nat, ¬ q = a + 46 + j → σ1 q = σ0 q := fun q hq => by rw [hs1]; exact va_up_off hq
        clear hs1
        refine lv_dup hx hb dX0_init_74 rfl ?_
        refine fw_call (va_runIN (As := []) (b := a + 46 + j) (rest := [.ref (a + 46 + j), .int (nI j), .ref (a + 2)]) ⟨hx, hb, hml, hown, hts⟩ (c_X3_init G hL l (a + 46 + j + 1, σ1) (a + 46 + j) rfl (e1)) ⟨va_cnB 0 hts gX0_init_X3_init_n31 rfl rfl rfl (hL.N hW (hh := RX10) (by decide +kernel)) (hts (.initialized RX3) (by decide +kernel)) (by decide +kernel) ⟨Nat.le_of_ble_eq_true rfl, Nat.le_of_ble_eq_true rfl⟩, rfl, hts (.instanceMethod yX3_init) (by decide +kernel)⟩ (fw_preI hW hR) rfl rfl hl.1 rfl (lv_room (Nat.le_of_ble_eq_true rfl)) dX0_init_75 ⟨show 45 + 1 * j + 1 + 0 ≤ 50 by omega, show 355 + 2 * j + 2 + 0 ≤ 365 by omega⟩) hS (fun v9 τ9 H locs hq hR hS => ?_)
        obtain ⟨n2, σ2⟩ := τ9
        obtain ⟨rfl, z2, hq5, f2⟩ := hq
        have z2 : n2 = a + 46 + j + 1 := z2
        subst z2
        have f2 : ∀ q : Nat, q < a + 46 + j → σ2 q = σ1 q := f2
        refine W.eq (g2 := F0 mI 78 ls [.ref (a + 46 + j), .int (nI j), .ref (a + 2)]) rfl ?_
        refine fw_aast (j := 6) (ci := 5) (r := (RX3, TX3, 2)) hx hb hK hR hS ((f2 _ (by omega)).trans ((f1 _ (by omega)).trans (g1))) rfl hq5 rfl (vp_in_nI (by omega) (by omega)) dX0_init_78 (fun H locs hR hS => ?_)
        rw [nI_clamp (by omega), rowN_S (b := a + 46 + j) (h := fun z9 => a + 46 + z9) rfl] at hR
        obtain ⟨σ3, hs3⟩ : ∃ z9 : Nat → Option va_E, z9 = va_up σ2 (a + 2) (some (.inl (G.2.1 6, 5, .inr (.inr (.inr (.inr (rowN (fun z9 => a + 46 + z9) (j + 1)))))))) := ⟨_, rfl⟩
        have hR : fR G (a + 46 + j + 1, σ3) H := by rw [hs3]; exact hR
        have e3 : σ3 (a + 2) = some (.inl (G.2.1 6, 5, .inr (.inr (.inr (.inr (rowN (fun z9 => a + 46 + z9) (j + 1))))))) := by rw [hs3]; exact va_up_at
        have f3 : ∀ q : Nat, ¬ q = a + 2 → σ3 q = σ2 q := fun q hq => by rw [hs3]; exact va_up_off hq
        clear hs3
        refine lv_iinc (v := nI (j + 1)) (lv' := [(1, .int (nI (j + 1))), (0, .ref a)]) hx hb dX0_init_79 hl (k := 0) rfl (by rw [show Int32.ofInt 1 = (1 : Int32) from rfl]; exact nI_1 j) (by decide) rfl (fun ls hl => ?_)
        refine lv_goto (tgt := 61) hx hb dX0_init_82 (by decide) ?_
        have hR : fR G (a + 46 + (j + 1), σ3) H := by rw [show a + 46 + (j + 1) = a + 46 + j + 1 by omega]; exact hR
        have ih9 := ih (j + 1) (by omega) (by omega) σ3 H locs ls ((f3 _ (by omega)).trans ((f2 _ (by omega)).trans ((f1 _ (by omega)).trans (g0)))) (e3) ((f3 _ (by omega)).trans ((f2 _ (by omega)).trans ((f1 _ (by omega)).trans (g2)))) (tin_fr gt (fun q q1 q2 => ((f3 q (by omega)).trans ((f2 q (by omega)).trans (f1 q (by omega)))))) (fun k hk => (gl k hk).keep (fun q q1 q2 => ((f3 q (by omega)).trans ((f2 q (by omega)).trans (f1 q (by omega)))))) (fun k hk => (Nat.lt_succ_iff_lt_or_eq.mp hk).elim (fun h9 => ((f3 _ (by omega)).trans ((f2 _ (by omega)).trans (f1 _ (by omega)))).trans (gi k h9)) (fun h9 => by rw [h9]; exact (f3 _ (by omega)).trans (hq5))) (fun q hq => ((f3 q (by omega)).trans ((f2 q (by omega)).trans (f1 q (by omega)))).trans (gf q hq)) hR hS hl
        rw [show 45 + 1 * (j + 1) = 45 + 1 * j + 1 + 0 by omega, show 355 + 2 * (j + 1) = 355 + 2 * j + 2 + 0 by omega] at ih9
        exact ih9
  have loop_1 : ∀ (fu j : Nat), 8 - j < fu → j ≤ 8 → ∀ (σ0 : Nat → Option va_E) (H : Heap) (locs : List Loc) (ls : Array Slot), (σ0 a = some (.inr (2, [.ref (a + 1), .int 0, .ref (a + 2), .int 0, .ref (a + 3), .int 0, .int 0, .int 0, .int 0]))) → (σ0 (a + 1) = some (.inl (G.2.1 7, 8, .inr (.inr (.inr (.inr (rowN (fun z9 => a + 6 + 5 * z9) j))))))) → (σ0 (a + 2) = some (.inl (G.2.1 6, 5, .inr (.inr (.inr (.inr (rowN (fun z9 => a + 46 + z9) 0))))))) → (TinS G σ0 (a + 3) zR zR) → (∀ k, k < j → LeafS G σ0 (a + 6 + 5 * k) vZ k) → (∀ q, q < a → σ0 q = ω.2 q) → fR G (a + 6 + 5 * j, σ0) H → va_S (fwA G) sS.heap H locs → lv_has ls 2 [(1, .int (nI j)), (0, .ref a)] → W pP l eE ({ frames := 2, cells := 50, slots := 365, locals := 32 } : Room) sS mI ar9 bl9 meth cD H locs (5 + 5 * j) (27 + 41 * j) (MQ bl9 (fQ G (QN a 51 (fun σ => ArcS G σ a vZ) ω)) ar9 sS 50 365 (fwA G)) (F0 mI 34 ls []) := by
    intro fu
    induction fu with
    | zero => intro j hfu; exact absurd hfu (Nat.not_lt_zero _)
    | succ fu ih =>
      intro j hfu hj σ0 H locs ls g0 g1 g2 gt gi gf hR hS hl
      refine lv_iload_n hx hb dX0_init_34 rfl (lv_at hl 0 rfl) ?_
      refine lv_bipush (v := 8) hx hb dX0_init_35 (by decide) ?_
      refine lv_icmp_ge (tgt := 59) hx hb dX0_init_37 (by decide) (fun c_2 => ?_) (fun c_2 => ?_)
      · have hj2 := lp_ge (x := 8) (n := 8) rfl c_2 (by omega) (by omega)
        have hjn : j = 8 := by omega
        subst hjn
        refine lv_iconst (v := 0) hx hb dX0_init_59 (by decide) ?_
        refine lv_istore_n (lv' := [(1, .int 0), (0, .ref a)]) hx hb dX0_init_60 rfl hl (by decide) rfl (fun ls hl => ?_)
        exact loop_2 6 0 (by omega) (by omega) σ0 H locs ls g0 g2 g1 gt gi (fun k hk => absurd hk (Nat.not_lt_zero k)) gf hR hS (lv_sub hl [0, 1] rfl)
      · have hj2 := lp_lt (x := 8) (n := 8) rfl c_2 (by omega) (by omega)
        refine lv_aload_n hx hb dX0_init_40 rfl (lv_at hl 1 rfl) ?_
        refine fw_get (v := .ref (a + 1)) (C := RX0) (T := TX0) (N := 9) hx hb hts hin0 hown hK hR (g0) rfl 0 (by decide) (hts (.fieldLink RX0 11 "UnreadLeaflets$Archive" "leaflets" "[LUnreadLeaflets$Leaflet;") (by decide +kernel)) rfl dX0_init_41 ?_
        refine lv_iload_n hx hb dX0_init_44 rfl (lv_at hl 0 rfl) ?_
        refine fw_new (C := RX5) (T := TX5) (N := 9) (ci := 7) hx hb hts (by decide +kernel) tyX5 tyX5_ok hown (hts (.classLink RX0 9 RX5) (by decide +kernel)) (hts (.instantiable RX5 9) (by decide +kernel)) (hts (.initialized RX5) (by decide +kernel)) hK hR hS rfl (n := a + 6 + 5 * j) rfl (fs := [.int 0, .int 0, .int 0, .int 0, .int 0, .null, .null, .null, .null]) (fun j hj => by rcases (show j = 0 ∨ j = 1 ∨ j = 2 ∨ j = 3 ∨ j = 4 ∨ j = 5 ∨ j = 6 ∨ j = 7 ∨ j = 8 by omega) with rfl | rfl | rfl | rfl | rfl | rfl | rfl | rfl | rfl <;> rfl) (show 5 + 5 * j + 1 ≤ 50 by omega) (show 27 + 41 * j + 9 ≤ 365 by omega) dX0_init_45 (fun H hR hS => ?_)
        obtain ⟨σ1, hs1⟩ : ∃ z9 : Nat → Option va_E, z9 = va_up σ0 (a + 6 + 5 * j) (some (.inr (7, [.int 0, .int 0, .int 0, .int 0, .int 0, .null, .null, .null, .null]))) := ⟨_, rfl⟩
        have hR : fR G (a + 6 + 5 * j + 1, σ1) H := by rw [hs1]; exact hR
        have e1 : σ1 (a + 6 + 5 * j) = some (.inr (7, [.int 0, .int 0, .int 0, .int 0, .int 0, .null, .null, .null, .null])) := by rw [hs1]; exact va_up_at
        have f1 : ∀ q : Nat, ¬ q = a + 6 + 5 * j → σ1 q = σ0 q := fun q hq => by rw [hs1]; exact va_up_off hq
        clear hs1
        refine lv_dup hx hb dX0_init_48 rfl ?_
        refine fw_call (va_runIN (As := []) (b := a + 6 + 5 * j) (rest := [.ref (a + 6 + 5 * j), .int (nI j), .ref (a + 1)]) ⟨hx, hb, hml, hown, hts⟩ (c_X5_init G hL l (a + 6 + 5 * j + 1, σ1) (a + 6 + 5 * j) rfl (e1)) ⟨va_cnB 0 hts gX0_init_X5_init_n30 rfl rfl rfl (hL.N hW (hh := RX10) (by decide +kernel)) (hts (.initialized RX5) (by decide +kernel)) (by decide +kernel) ⟨Nat.le_of_ble_eq_true rfl, Nat.le_of_ble_eq_true rfl⟩, rfl, hts (.instanceMethod yX5_init) (by decide +kernel)⟩ (fw_preI hW hR) rfl rfl hl.1 rfl (lv_room (Nat.le_of_ble_eq_true rfl)) dX0_init_49 ⟨show 5 + 5 * j + 1 + 4 ≤ 50 by omega, show 27 + 41 * j + 9 + 32 ≤ 365 by omega⟩) hS (fun v9 τ9 H locs hq hR hS => ?_)
        obtain ⟨n2, σ2⟩ := τ9
        obtain ⟨rfl, z2, hq5, f2⟩ := hq
        have z2 : n2 = a + 6 + 5 * j + 5 := z2
        subst z2
        have f2 : ∀ q : Nat, q < a + 6 + 5 * j → σ2 q = σ1 q := f2
        refine W.eq (g2 := F0 mI 52 ls [.ref (a + 6 + 5 * j), .int (nI j), .ref (a + 1)]) rfl ?_
        refine fw_aast (j := 7) (ci := 7) (r := (RX5, TX5, 9)) hx hb hK hR hS ((f2 _ (by omega)).trans ((f1 _ (by omega)).trans (g1))) rfl (hq5 j hj2).1 rfl (vp_in_nI (by omega) (by omega)) dX0_init_52 (fun H locs hR hS => ?_)
        rw [nI_clamp (by omega), rowN_S (b := a + 6 + 5 * j) (h := fun z9 => a + 6 + 5 * z9) rfl] at hR
        obtain ⟨σ3, hs3⟩ : ∃ z9 : Nat → Option va_E, z9 = va_up σ2 (a + 1) (some (.inl (G.2.1 7, 8, .inr (.inr (.inr (.inr (rowN (fun z9 => a + 6 + 5 * z9) (j + 1)))))))) := ⟨_, rfl⟩
        have hR : fR G (a + 6 + 5 * j + 5, σ3) H := by rw [hs3]; exact hR
        have e3 : σ3 (a + 1) = some (.inl (G.2.1 7, 8, .inr (.inr (.inr (.inr (rowN (fun z9 => a + 6 + 5 * z9) (j + 1))))))) := by rw [hs3]; exact va_up_at
        have f3 : ∀ q : Nat, ¬ q = a + 1 → σ3 q = σ2 q := fun q hq => by rw [hs3]; exact va_up_off hq
        clear hs3
        refine lv_iinc (v := nI (j + 1)) (lv' := [(1, .int (nI (j + 1))), (0, .ref a)]) hx hb dX0_init_53 hl (k := 0) rfl (by rw [show Int32.ofInt 1 = (1 : Int32) from rfl]; exact nI_1 j) (by decide) rfl (fun ls hl => ?_)
        refine lv_goto (tgt := 34) hx hb dX0_init_56 (by decide) ?_
        have hR : fR G (a + 6 + 5 * (j + 1), σ3) H := by rw [show a + 6 + 5 * (j + 1) = a + 6 + 5 * j + 5 by omega]; exact hR
        have ih9 := ih (j + 1) (by omega) (by omega) σ3 H locs ls ((f3 _ (by omega)).trans ((f2 _ (by omega)).trans ((f1 _ (by omega)).trans (g0)))) (e3) ((f3 _ (by omega)).trans ((f2 _ (by omega)).trans ((f1 _ (by omega)).trans (g2)))) (tin_fr gt (fun q q1 q2 => ((f3 q (by omega)).trans ((f2 q (by omega)).trans (f1 q (by omega)))))) (fun k hk => (Nat.lt_succ_iff_lt_or_eq.mp hk).elim (fun h9 => (gi k h9).keep (fun q q1 q2 => ((f3 q (by omega)).trans ((f2 q (by omega)).trans (f1 q (by omega)))))) (fun h9 => by rw [h9]; exact ((hq5 j hj2)).keep (fun q q1 q2 => (f3 q (by omega))))) (fun q hq => ((f3 q (by omega)).trans ((f2 q (by omega)).trans (f1 q (by omega)))).trans (gf q hq)) hR hS hl
        rw [show 5 + 5 * (j + 1) = 5 + 5 * j + 1 + 4 by omega, show 27 + 41 * (j + 1) = 27 + 41 * j + 9 + 32 by omega] at ih9
        exact ih9
  refine lv_aload_n hx hb dX0_init_0 rfl (lv_at hl 0 rfl) ?_
  refine W.objInit hx hb hown (hts (.methodLink RX0 3 objectInit) (by decide +kernel)) (hts (.instanceMethod objectInit) (by decide +kernel)) (hts (.code objectInit ⟨#[0xb1]⟩ 1 none) (by decide +kernel)) rfl (by rw [hml]; exact hl.1) rfl dX0_init_1 (Nat.le_of_ble_eq_true rfl) (Nat.le_of_ble_eq_true rfl) ?_
  refine W.eq (g2 := F0 mI 4 ls []) rfl ?_
  refine lv_aload_n hx hb dX0_init_4 rfl (lv_at hl 0 rfl) ?_
  refine lv_bipush (v := 8) hx hb dX0_init_5 (by decide) ?_
  refine fw_newq (C := RX5) (j := 7) hx hb hown (hts (.classLink RX0 9 RX5) (by decide +kernel)) (hL.AO hW (by decide +kernel)) hK hR hS rfl (n := a + 1) rfl (N := 8) (by decide) (by decide) (Nat.le_of_ble_eq_true rfl) (Nat.le_of_ble_eq_true rfl) (Nat.le_of_ble_eq_true rfl) dX0_init_7 (fun H hR hS => ?_)
  rw [← rowN_0 (h := fun z9 => a + 6 + 5 * z9)] at hR
  obtain ⟨σ1, hs1⟩ : ∃ z9 : Nat → Option va_E, z9 = va_up σ0 (a + 1) (some (.inl (G.2.1 7, 8, .inr (.inr (.inr (.inr (rowN (fun z9 => a + 6 + 5 * z9) 0))))))) := ⟨_, rfl⟩
  have hR : fR G (a + 2, σ1) H := by rw [hs1]; exact hR
  have e1 : σ1 (a + 1) = some (.inl (G.2.1 7, 8, .inr (.inr (.inr (.inr (rowN (fun z9 => a + 6 + 5 * z9) 0)))))) := by rw [hs1]; exact va_up_at
  have f1 : ∀ q : Nat, ¬ q = a + 1 → σ1 q = σ0 q := fun q hq => by rw [hs1]; exact va_up_off hq
  clear hs1
  refine fw_putF (v := .ref (a + 1)) (C := RX0) (T := TX0) (N := 9) hx hb hts hin0 tyX0 tyX0_ok nmX0 hown hK hR hS ((f1 _ (by omega)).trans (e0)) rfl 0 (by decide) (hts (.fieldLink RX0 11 "UnreadLeaflets$Archive" "leaflets" "[LUnreadLeaflets$Leaflet;") (by decide +kernel)) rfl hnm rfl rfl rfl (Nat.le_of_ble_eq_true rfl) dX0_init_10 (fun H locs hR hS => ?_)
  obtain ⟨σ2, hs2⟩ : ∃ z9 : Nat → Option va_E, z9 = va_up σ1 (a) (some (.inr (2, [.ref (a + 1), .int 0, .null, .int 0, .null, .int 0, .int 0, .int 0, .int 0]))) := ⟨_, rfl⟩
  have hR : fR G (a + 2, σ2) H := by rw [hs2]; exact hR
  have e2 : σ2 (a) = some (.inr (2, [.ref (a + 1), .int 0, .null, .int 0, .null, .int 0, .int 0, .int 0, .int 0])) := by rw [hs2]; exact va_up_at
  have f2 : ∀ q : Nat, ¬ q = a → σ2 q = σ1 q := fun q hq => by rw [hs2]; exact va_up_off hq
  clear hs2
  refine lv_aload_n hx hb dX0_init_13 rfl (lv_at hl 0 rfl) ?_
  refine lv_iconst (v := 5) hx hb dX0_init_14 (by decide) ?_
  refine fw_newq (C := RX3) (j := 6) hx hb hown (hts (.classLink RX0 17 RX3) (by decide +kernel)) (hL.AO hW (by decide +kernel)) hK hR hS rfl (n := a + 2) rfl (N := 5) (by decide) (by decide) (Nat.le_of_ble_eq_true rfl) (Nat.le_of_ble_eq_true rfl) (Nat.le_of_ble_eq_true rfl) dX0_init_15 (fun H hR hS => ?_)
  rw [← rowN_0 (h := fun z9 => a + 46 + z9)] at hR
  obtain ⟨σ3, hs3⟩ : ∃ z9 : Nat → Option va_E, z9 = va_up σ2 (a + 2) (some (.inl (G.2.1 6, 5, .inr (.inr (.inr (.inr (rowN (fun z9 => a + 46 + z9) 0))))))) := ⟨_, rfl⟩
  have hR : fR G (a + 3, σ3) H := by rw [hs3]; exact hR
  have e3 : σ3 (a + 2) = some (.inl (G.2.1 6, 5, .inr (.inr (.inr (.inr (rowN (fun z9 => a + 46 + z9) 0)))))) := by rw [hs3]; exact va_up_at
  have f3 : ∀ q : Nat, ¬ q = a + 2 → σ3 q = σ2 q := fun q hq => by rw [hs3]; exact va_up_off hq
  clear hs3
  refine fw_putF (v := .ref (a + 2)) (C := RX0) (T := TX0) (N := 9) hx hb hts hin0 tyX0 tyX0_ok nmX0 hown hK hR hS ((f3 _ (by omega)).trans (e2)) rfl 2 (by decide) (hts (.fieldLink RX0 19 "UnreadLeaflets$Archive" "cousins" "[LUnreadLeaflets$Cousin;") (by decide +kernel)) rfl hnm rfl rfl rfl (Nat.le_of_ble_eq_true rfl) dX0_init_18 (fun H locs hR hS => ?_)
  obtain ⟨σ4, hs4⟩ : ∃ z9 : Nat → Option va_E, z9 = va_up σ3 (a) (some (.inr (2, [.ref (a + 1), .int 0, .ref (a + 2), .int 0, .null, .int 0, .int 0, .int 0, .int 0]))) := ⟨_, rfl⟩
  have hR : fR G (a + 3, σ4) H := by rw [hs4]; exact hR
  have e4 : σ4 (a) = some (.inr (2, [.ref (a + 1), .int 0, .ref (a + 2), .int 0, .null, .int 0, .int 0, .int 0, .int 0])) := by rw [hs4]; exact va_up_at
  have f4 : ∀ q : Nat, ¬ q = a → σ4 q = σ3 q := fun q hq => by rw [hs4]; exact va_up_off hq
  clear hs4
  refine lv_aload_n hx hb dX0_init_21 rfl (lv_at hl 0 rfl) ?_
  refine fw_new (C := RX9) (T := TX9) (N := 2) (ci := 11) hx hb hts (by decide +kernel) tyX9 tyX9_ok hown (hts (.classLink RX0 23 RX9) (by decide +kernel)) (hts (.instantiable RX9 2) (by decide +kernel)) (hts (.initialized RX9) (by decide +kernel)) hK hR hS rfl (n := a + 3) rfl (fs := [.null, .null]) (fun j hj => by rcases (show j = 0 ∨ j = 1 by omega) with rfl | rfl <;> rfl) (Nat.le_of_ble_eq_true rfl) (Nat.le_of_ble_eq_true rfl) dX0_init_22 (fun H hR hS => ?_)
  obtain ⟨σ5, hs5⟩ : ∃ z9 : Nat → Option va_E, z9 = va_up σ4 (a + 3) (some (.inr (11, [.null, .null]))) := ⟨_, rfl⟩
  have hR : fR G (a + 4, σ5) H := by rw [hs5]; exact hR
  have e5 : σ5 (a + 3) = some (.inr (11, [.null, .null])) := by rw [hs5]; exact va_up_at
  have f5 : ∀ q : Nat, ¬ q = a + 3 → σ5 q = σ4 q := fun q hq => by rw [hs5]; exact va_up_off hq
  clear hs5
  refine lv_dup hx hb dX0_init_25 rfl ?_
  refine fw_call (va_runIN (As := []) (b := a + 3) (rest := [.ref (a + 3), .ref (a)]) ⟨hx, hb, hml, hown, hts⟩ (c_X9_init G hL l (a + 4, σ5) (a + 3) rfl (e5)) ⟨va_cnB 0 hts gX0_init_X9_init_n25 rfl rfl rfl (hL.N hW (hh := RX10) (by decide +kernel)) (hts (.initialized RX9) (by decide +kernel)) (by decide +kernel) ⟨Nat.le_of_ble_eq_true rfl, Nat.le_of_ble_eq_true rfl⟩, rfl, hts (.instanceMethod yX9_init) (by decide +kernel)⟩ (fw_preI hW hR) rfl rfl hl.1 rfl (lv_room (Nat.le_of_ble_eq_true rfl)) dX0_init_26 ⟨Nat.le_of_ble_eq_true rfl, Nat.le_of_ble_eq_true rfl⟩) hS (fun v9 τ9 H locs hq hR hS => ?_)
  obtain ⟨n6, σ6⟩ := τ9
  obtain ⟨rfl, z6, ht9, f6⟩ := hq
  have z6 : n6 = a + 6 := z6
  subst z6
  have f6 : ∀ q : Nat, q < a + 3 → σ6 q = σ5 q := f6
  refine W.eq (g2 := F0 mI 29 ls [.ref (a + 3), .ref (a)]) rfl ?_
  refine fw_putF (v := .ref (a + 3)) (C := RX0) (T := TX0) (N := 9) hx hb hts hin0 tyX0 tyX0_ok nmX0 hown hK hR hS ((f6 _ (by omega)).trans ((f5 _ (by omega)).trans (e4))) rfl 4 (by decide) (hts (.fieldLink RX0 26 "UnreadLeaflets$Archive" "tin" "LUnreadLeaflets$Tin;") (by decide +kernel)) rfl hnm rfl rfl rfl (Nat.le_of_ble_eq_true rfl) dX0_init_29 (fun H locs hR hS => ?_)
  obtain ⟨σ7, hs7⟩ : ∃ z9 : Nat → Option va_E, z9 = va_up σ6 (a) (some (.inr (2, [.ref (a + 1), .int 0, .ref (a + 2), .int 0, .ref (a + 3), .int 0, .int 0, .int 0, .int 0]))) := ⟨_, rfl⟩
  have hR : fR G (a + 6, σ7) H := by rw [hs7]; exact hR
  have e7 : σ7 (a) = some (.inr (2, [.ref (a + 1), .int 0, .ref (a + 2), .int 0, .ref (a + 3), .int 0, .int 0, .int 0, .int 0])) := by rw [hs7]; exact va_up_at
  have f7 : ∀ q : Nat, ¬ q = a → σ7 q = σ6 q := fun q hq => by rw [hs7]; exact va_up_off hq
  clear hs7
  refine lv_iconst (v := 0) hx hb dX0_init_32 (by decide) ?_
  refine lv_istore_n (lv' := [(1, .int 0), (0, .ref a)]) hx hb dX0_init_33 rfl hl (by decide) rfl (fun ls hl => ?_)
  exact loop_1 9 0 (by omega) (by omega) σ7 H locs ls (e7) ((f7 _ (by omega)).trans ((f6 _ (by omega)).trans ((f5 _ (by omega)).trans ((f4 _ (by omega)).trans ((f3 _ (by omega)).trans ((f2 _ (by omega)).trans (e1))))))) ((f7 _ (by omega)).trans ((f6 _ (by omega)).trans ((f5 _ (by omega)).trans ((f4 _ (by omega)).trans (e3))))) (tin_fr ht9 (fun q q1 q2 => (f7 q (by omega)))) (fun k hk => absurd hk (Nat.not_lt_zero k)) (fun q hq => ((f7 q (by omega)).trans ((f6 q (by omega)).trans ((f5 q (by omega)).trans ((f4 q (by omega)).trans ((f3 q (by omega)).trans ((f2 q (by omega)).trans (f1 q (by omega)))))))).trans (f0 q)) hR hS (lv_sub hl [0, 1] rfl)
set_option maxHeartbeats 4000000 in
set_option maxRecDepth 100000 in
theorem c_X1_init (G : FG) (hL : FL G) (l : Launch) (ω : FWd) (a : Nat) (hn : ω.1 = a + 1) (h0 : ω.2 a = some (.inr (3, [.null, .null]))) : FMet G l yX1_init wsX1_init ({ frames := 3, cells := 52, slots := 377, locals := 53 } : Room) [.ref a] ω (QN a 53 (fun σ => σ a = some (.inr (3, [.ref (a + 1), .ref (a + 52)])) ∧ ArcS G σ (a + 1) vZ ∧ σ (a + 52) = some (.inr (9, [.int 0, .int 0, .int 0]))) ω) 52 377 := by
  refine fw_ofW (cc := cX1_init) (maxL := 1) (ret := none) (by decide) rfl (Nat.le_of_ble_eq_true rfl) ?_
  intro pP eE sS mI ar9 bl9 meth cD ls hx hb hr hlocks hml hts hown hnm hW hR hl
  have hK := hL.K hW
  have hS : va_S (fwA G) sS.heap sS.heap [] := va_S.rf
  have hin1 : ∀ w ∈ u_ws RX1 TX1 2, w ∈ wsX1_init := by decide +kernel
  have hl : lv_has ls 1 [(0, .ref a)] := hl
  obtain ⟨σ0, hs0⟩ : ∃ z9 : Nat → Option va_E, z9 = ω.2 := ⟨_, rfl⟩
  have hR : fR G (a + 1, σ0) sS.heap := by rw [hs0, ← hn]; exact hR
  have e0 : σ0 a = some (.inr (3, [.null, .null])) := by rw [hs0]; exact h0
  have f0 : ∀ q : Nat, σ0 q = ω.2 q := fun q => by rw [hs0]
  clear hs0
  refine lv_aload_n hx hb dX1_init_0 rfl (lv_at hl 0 rfl) ?_
  refine W.objInit hx hb hown (hts (.methodLink RX1 3 objectInit) (by decide +kernel)) (hts (.instanceMethod objectInit) (by decide +kernel)) (hts (.code objectInit ⟨#[0xb1]⟩ 1 none) (by decide +kernel)) rfl (by rw [hml]; exact hl.1) rfl dX1_init_1 (Nat.le_of_ble_eq_true rfl) (Nat.le_of_ble_eq_true rfl) ?_
  refine W.eq (g2 := F0 mI 4 ls []) rfl ?_
  refine lv_aload_n hx hb dX1_init_4 rfl (lv_at hl 0 rfl) ?_
  refine fw_new (C := RX0) (T := TX0) (N := 9) (ci := 2) hx hb hts (by decide +kernel) tyX0 tyX0_ok hown (hts (.classLink RX1 9 RX0) (by decide +kernel)) (hts (.instantiable RX0 9) (by decide +kernel)) (hts (.initialized RX0) (by decide +kernel)) hK hR hS rfl (n := a + 1) rfl (fs := [.null, .int 0, .null, .int 0, .null, .int 0, .int 0, .int 0, .int 0]) (fun j hj => by rcases (show j = 0 ∨ j = 1 ∨ j = 2 ∨ j = 3 ∨ j = 4 ∨ j = 5 ∨ j = 6 ∨ j = 7 ∨ j = 8 by omega) with rfl | rfl | rfl | rfl | rfl | rfl | rfl | rfl | rfl <;> rfl) (Nat.le_of_ble_eq_true rfl) (Nat.le_of_ble_eq_true rfl) dX1_init_5 (fun H hR hS => ?_)
  obtain ⟨σ1, hs1⟩ : ∃ z9 : Nat → Option va_E, z9 = va_up σ0 (a + 1) (some (.inr (2, [.null, .int 0, .null, .int 0, .null, .int 0, .int 0, .int 0, .int 0]))) := ⟨_, rfl⟩
  have hR : fR G (a + 2, σ1) H := by rw [hs1]; exact hR
  have e1 : σ1 (a + 1) = some (.inr (2, [.null, .int 0, .null, .int 0, .null, .int 0, .int 0, .int 0, .int 0])) := by rw [hs1]; exact va_up_at
  have f1 : ∀ q : Nat, ¬ q = a + 1 → σ1 q = σ0 q := fun q hq => by rw [hs1]; exact va_up_off hq
  clear hs1
  refine lv_dup hx hb dX1_init_8 rfl ?_
  refine fw_call (va_runI (As := []) (b := a + 1) (rest := [.ref (a + 1), .ref (a)]) ⟨hx, hb, hml, hown, hts⟩ (c_X0_init G hL l (a + 2, σ1) (a + 1) rfl (e1)) (cwI 0 hts gX1_init_X0_init rfl rfl rfl (hts (.initialized RX0) (by decide +kernel)) (hts (.methodLink RX1 11 yX0_init) (by decide +kernel)) (hts (.instanceMethod yX0_init) (by decide +kernel)) rfl (by decide +kernel) ⟨Nat.le_of_ble_eq_true rfl, Nat.le_of_ble_eq_true rfl⟩) (fw_preI hW hR) rfl rfl hl.1 rfl (lv_room (Nat.le_of_ble_eq_true rfl)) dX1_init_9 ⟨Nat.le_of_ble_eq_true rfl, Nat.le_of_ble_eq_true rfl⟩) hS (fun v9 τ9 H locs hq hR hS => ?_)
  obtain ⟨n2, σ2⟩ := τ9
  obtain ⟨rfl, z2, hA, f2⟩ := hq
  have z2 : n2 = a + 52 := z2
  subst z2
  have f2 : ∀ q : Nat, q < a + 1 → σ2 q = σ1 q := f2
  refine W.eq (g2 := F0 mI 12 ls [.ref (a + 1), .ref (a)]) rfl ?_
  refine fw_putF (v := .ref (a + 1)) (C := RX1) (T := TX1) (N := 2) hx hb hts hin1 tyX1 tyX1_ok nmX1 hown hK hR hS ((f2 _ (by omega)).trans ((f1 _ (by omega)).trans (e0))) rfl 0 (by decide) (hts (.fieldLink RX1 12 "UnreadLeaflets$Changes" "archive" "LUnreadLeaflets$Archive;") (by decide +kernel)) rfl hnm rfl rfl rfl (Nat.le_of_ble_eq_true rfl) dX1_init_12 (fun H locs hR hS => ?_)
  obtain ⟨σ3, hs3⟩ : ∃ z9 : Nat → Option va_E, z9 = va_up σ2 (a) (some (.inr (3, [.ref (a + 1), .null]))) := ⟨_, rfl⟩
  have hR : fR G (a + 52, σ3) H := by rw [hs3]; exact hR
  have e3 : σ3 (a) = some (.inr (3, [.ref (a + 1), .null])) := by rw [hs3]; exact va_up_at
  have f3 : ∀ q : Nat, ¬ q = a → σ3 q = σ2 q := fun q hq => by rw [hs3]; exact va_up_off hq
  clear hs3
  refine lv_aload_n hx hb dX1_init_15 rfl (lv_at hl 0 rfl) ?_
  refine fw_new (C := RX7) (T := TX7) (N := 3) (ci := 9) hx hb hts (by decide +kernel) tyX7 tyX7_ok hown (hts (.classLink RX1 18 RX7) (by decide +kernel)) (hts (.instantiable RX7 3) (by decide +kernel)) (hts (.initialized RX7) (by decide +kernel)) hK hR hS rfl (n := a + 52) rfl (fs := [.int 0, .int 0, .int 0]) (fun j hj => by rcases (show j = 0 ∨ j = 1 ∨ j = 2 by omega) with rfl | rfl | rfl <;> rfl) (Nat.le_of_ble_eq_true rfl) (Nat.le_of_ble_eq_true rfl) dX1_init_16 (fun H hR hS => ?_)
  obtain ⟨σ4, hs4⟩ : ∃ z9 : Nat → Option va_E, z9 = va_up σ3 (a + 52) (some (.inr (9, [.int 0, .int 0, .int 0]))) := ⟨_, rfl⟩
  have hR : fR G (a + 53, σ4) H := by rw [hs4]; exact hR
  have e4 : σ4 (a + 52) = some (.inr (9, [.int 0, .int 0, .int 0])) := by rw [hs4]; exact va_up_at
  have f4 : ∀ q : Nat, ¬ q = a + 52 → σ4 q = σ3 q := fun q hq => by rw [hs4]; exact va_up_off hq
  clear hs4
  refine lv_dup hx hb dX1_init_19 rfl ?_
  refine fw_call (va_runIN (As := []) (b := a + 52) (rest := [.ref (a + 52), .ref (a)]) ⟨hx, hb, hml, hown, hts⟩ (c_X7_init G hL l (a + 53, σ4) (a + 52) rfl (e4)) ⟨va_cnB 0 hts gX1_init_X7_init_n20 rfl rfl rfl (hL.N hW (hh := RX10) (by decide +kernel)) (hts (.initialized RX7) (by decide +kernel)) (by decide +kernel) ⟨Nat.le_of_ble_eq_true rfl, Nat.le_of_ble_eq_true rfl⟩, rfl, hts (.instanceMethod yX7_init) (by decide +kernel)⟩ (fw_preI hW hR) rfl rfl hl.1 rfl (lv_room (Nat.le_of_ble_eq_true rfl)) dX1_init_20 ⟨Nat.le_of_ble_eq_true rfl, Nat.le_of_ble_eq_true rfl⟩) hS (fun v9 τ9 H locs hq hR hS => ?_)
  obtain ⟨n5, σ5⟩ := τ9
  obtain ⟨rfl, z5, hk, f5⟩ := hq
  have z5 : n5 = a + 53 := z5
  subst z5
  have f5 : ∀ q : Nat, q < a + 52 → σ5 q = σ4 q := f5
  refine W.eq (g2 := F0 mI 23 ls [.ref (a + 52), .ref (a)]) rfl ?_
  refine fw_putF (v := .ref (a + 52)) (C := RX1) (T := TX1) (N := 2) hx hb hts hin1 tyX1 tyX1_ok nmX1 hown hK hR hS ((f5 _ (by omega)).trans ((f4 _ (by omega)).trans (e3))) rfl 1 (by decide) (hts (.fieldLink RX1 21 "UnreadLeaflets$Changes" "kept" "LUnreadLeaflets$Reason;") (by decide +kernel)) rfl hnm rfl rfl rfl (Nat.le_of_ble_eq_true rfl) dX1_init_23 (fun H locs hR hS => ?_)
  obtain ⟨σ6, hs6⟩ : ∃ z9 : Nat → Option va_E, z9 = va_up σ5 (a) (some (.inr (3, [.ref (a + 1), .ref (a + 52)]))) := ⟨_, rfl⟩
  have hR : fR G (a + 53, σ6) H := by rw [hs6]; exact hR
  have e6 : σ6 (a) = some (.inr (3, [.ref (a + 1), .ref (a + 52)])) := by rw [hs6]; exact va_up_at
  have f6 : ∀ q : Nat, ¬ q = a → σ6 q = σ5 q := fun q hq => by rw [hs6]; exact va_up_off hq
  clear hs6
  refine fw_vret hx hb hr hlocks hR hS dX1_init_26 ?_
  exact ⟨rfl, rfl, ⟨(e6), hA.keep (fun q q1 q2 => ((f6 q (by omega)).trans ((f5 q (by omega)).trans ((f4 q (by omega)).trans (f3 q (by omega)))))), ((f6 _ (by omega)).trans (hk))⟩, (fun q hq => ((f6 q (by omega)).trans ((f5 q (by omega)).trans ((f4 q (by omega)).trans ((f3 q (by omega)).trans ((f2 q (by omega)).trans (f1 q (by omega))))))).trans (f0 q))⟩
set_option maxHeartbeats 4000000 in
set_option maxRecDepth 100000 in
theorem c_X4_init (G : FG) (hL : FL G) (l : Launch) (ω : FWd) (a : Nat) (hn : ω.1 = a + 1) (h0 : ω.2 a = some (.inr (6, [.null, .int 0, .int 0]))) : FMet G l yX4_init wsX4_init ({ frames := 3, cells := 460, slots := 3375, locals := 53 } : Room) [.ref a] ω (QN a 461 (fun σ => HisS G σ a (fun _ => vZ) 0 0) ω) 460 3375 := by
  refine fw_ofW (cc := cX4_init) (maxL := 2) (ret := none) (by decide) rfl (Nat.le_of_ble_eq_true rfl) ?_
  intro pP eE sS mI ar9 bl9 meth cD ls hx hb hr hlocks hml hts hown hnm hW hR hl
  have hK := hL.K hW
  have hS : va_S (fwA G) sS.heap sS.heap [] := va_S.rf
  have hin4 : ∀ w ∈ u_ws RX4 TX4 3, w ∈ wsX4_init := by decide +kernel
  have hl : lv_has ls 2 [(0, .ref a)] := hl
  obtain ⟨σ0, hs0⟩ : ∃ z9 : Nat → Option va_E, z9 = ω.2 := ⟨_, rfl⟩
  have hR : fR G (a + 1, σ0) sS.heap := by rw [hs0, ← hn]; exact hR
  have e0 : σ0 a = some (.inr (6, [.null, .int 0, .int 0])) := by rw [hs0]; exact h0
  have f0 : ∀ q : Nat, σ0 q = ω.2 q := fun q => by rw [hs0]
  clear hs0
  have loop_1 : ∀ (fu j : Nat), 9 - j < fu → j ≤ 9 → ∀ (σ0 : Nat → Option va_E) (H : Heap) (locs : List Loc) (ls : Array Slot), (σ0 a = some (.inr (6, [.ref (a + 1), .int 0, .int 0]))) → (σ0 (a + 1) = some (.inl (G.2.1 4, 9, .inr (.inr (.inr (.inr (rowN (fun z9 => a + 2 + 51 * z9) j))))))) → (∀ k, k < j → ArcS G σ0 (a + 2 + 51 * k) vZ) → (∀ q, q < a → σ0 q = ω.2 q) → fR G (a + 2 + 51 * j, σ0) H → va_S (fwA G) sS.heap H locs → lv_has ls 2 [(1, .int (nI j)), (0, .ref a)] → W pP l eE ({ frames := 3, cells := 460, slots := 3375, locals := 53 } : Room) sS mI ar9 bl9 meth cD H locs (1 + 51 * j) (9 + 374 * j) (MQ bl9 (fQ G (QN a 461 (fun σ => HisS G σ a (fun _ => vZ) 0 0) ω)) ar9 sS 460 3375 (fwA G)) (F0 mI 15 ls []) := by
    intro fu
    induction fu with
    | zero => intro j hfu; exact absurd hfu (Nat.not_lt_zero _)
    | succ fu ih =>
      intro j hfu hj σ0 H locs ls g0 g1 gi gf hR hS hl
      refine lv_iload_n hx hb dX4_init_15 rfl (lv_at hl 0 rfl) ?_
      refine lv_bipush (v := 9) hx hb dX4_init_16 (by decide) ?_
      refine lv_icmp_ge (tgt := 40) hx hb dX4_init_18 (by decide) (fun c_2 => ?_) (fun c_2 => ?_)
      · have hj2 := lp_ge (x := 9) (n := 9) rfl c_2 (by omega) (by omega)
        have hjn : j = 9 := by omega
        subst hjn
        have hR := hR.rowq g1 (f2 := fun z9 => some (a + 2 + 51 * z9)) (fun j hj => if_pos hj)
        refine fw_vret hx hb hr hlocks hR hS dX4_init_40 ?_
        exact ⟨rfl, rfl, ⟨(va_up_off (by omega)).trans g0, va_up_at, fun k hk => (gi k hk).keep (fun q q1 q2 => va_up_off (by omega))⟩, fun q hq => (va_up_off (by omega)).trans (gf q hq)⟩
      · have hj2 := lp_lt (x := 9) (n := 9) rfl c_2 (by omega) (by omega)
        refine lv_aload_n hx hb dX4_init_21 rfl (lv_at hl 1 rfl) ?_
        refine fw_get (v := .ref (a + 1)) (C := RX4) (T := TX4) (N := 3) hx hb hts hin4 hown hK hR (g0) rfl 0 (by decide) (hts (.fieldLink RX4 13 "UnreadLeaflets$History" "rows" "[LUnreadLeaflets$Archive;") (by decide +kernel)) rfl dX4_init_22 ?_
        refine lv_iload_n hx hb dX4_init_25 rfl (lv_at hl 0 rfl) ?_
        refine fw_new (C := RX0) (T := TX0) (N := 9) (ci := 2) hx hb hts (by decide +kernel) tyX0 tyX0_ok hown (hts (.classLink RX4 11 RX0) (by decide +kernel)) (hts (.instantiable RX0 9) (by decide +kernel)) (hts (.initialized RX0) (by decide +kernel)) hK hR hS rfl (n := a + 2 + 51 * j) rfl (fs := [.null, .int 0, .null, .int 0, .null, .int 0, .int 0, .int 0, .int 0]) (fun j hj => by rcases (show j = 0 ∨ j = 1 ∨ j = 2 ∨ j = 3 ∨ j = 4 ∨ j = 5 ∨ j = 6 ∨ j = 7 ∨ j = 8 by omega) with rfl | rfl | rfl | rfl | rfl | rfl | rfl | rfl | rfl <;> rfl) (show 1 + 51 * j + 1 ≤ 460 by omega) (show 9 + 374 * j + 9 ≤ 3375 by omega) dX4_init_26 (fun H hR hS => ?_)
        obtain ⟨σ1, hs1⟩ : ∃ z9 : Nat → Option va_E, z9 = va_up σ0 (a + 2 + 51 * j) (some (.inr (2, [.null, .int 0, .null, .int 0, .null, .int 0, .int 0, .int 0, .int 0]))) := ⟨_, rfl⟩
        have hR : fR G (a + 2 + 51 * j + 1, σ1) H := by rw [hs1]; exact hR
        have e1 : σ1 (a + 2 + 51 * j) = some (.inr (2, [.null, .int 0, .null, .int 0, .null, .int 0, .int 0, .int 0, .int 0])) := by rw [hs1]; exact va_up_at
        have f1 : ∀ q : Nat, ¬ q = a + 2 + 51 * j → σ1 q = σ0 q := fun q hq => by rw [hs1]; exact va_up_off hq
        clear hs1
        refine lv_dup hx hb dX4_init_29 rfl ?_
        refine fw_call (va_runI (As := []) (b := a + 2 + 51 * j) (rest := [.ref (a + 2 + 51 * j), .int (nI j), .ref (a + 1)]) ⟨hx, hb, hml, hown, hts⟩ (c_X0_init G hL l (a + 2 + 51 * j + 1, σ1) (a + 2 + 51 * j) rfl (e1)) (cwI 0 hts gX4_init_X0_init rfl rfl rfl (hts (.initialized RX0) (by decide +kernel)) (hts (.methodLink RX4 17 yX0_init) (by decide +kernel)) (hts (.instanceMethod yX0_init) (by decide +kernel)) rfl (by decide +kernel) ⟨Nat.le_of_ble_eq_true rfl, Nat.le_of_ble_eq_true rfl⟩) (fw_preI hW hR) rfl rfl hl.1 rfl (lv_room (Nat.le_of_ble_eq_true rfl)) dX4_init_30 ⟨show 1 + 51 * j + 1 + 50 ≤ 460 by omega, show 9 + 374 * j + 9 + 365 ≤ 3375 by omega⟩) hS (fun v9 τ9 H locs hq hR hS => ?_)
        obtain ⟨n2, σ2⟩ := τ9
        obtain ⟨rfl, z2, hq5, f2⟩ := hq
        have z2 : n2 = a + 2 + 51 * j + 51 := z2
        subst z2
        have f2 : ∀ q : Nat, q < a + 2 + 51 * j → σ2 q = σ1 q := f2
        refine W.eq (g2 := F0 mI 33 ls [.ref (a + 2 + 51 * j), .int (nI j), .ref (a + 1)]) rfl ?_
        refine fw_aast (j := 4) (ci := 2) (r := (RX0, TX0, 9)) hx hb hK hR hS ((f2 _ (by omega)).trans ((f1 _ (by omega)).trans (g1))) rfl hq5.1 rfl (vp_in_nI (by omega) (by omega)) dX4_init_33 (fun H locs hR hS => ?_)
        rw [nI_clamp (by omega), rowN_S (b := a + 2 + 51 * j) (h := fun z9 => a + 2 + 51 * z9) rfl] at hR
        obtain ⟨σ3, hs3⟩ : ∃ z9 : Nat → Option va_E, z9 = va_up σ2 (a + 1) (some (.inl (G.2.1 4, 9, .inr (.inr (.inr (.inr (rowN (fun z9 => a + 2 + 51 * z9) (j + 1)))))))) := ⟨_, rfl⟩
        have hR : fR G (a + 2 + 51 * j + 51, σ3) H := by rw [hs3]; exact hR
        have e3 : σ3 (a + 1) = some (.inl (G.2.1 4, 9, .inr (.inr (.inr (.inr (rowN (fun z9 => a + 2 + 51 * z9) (j + 1))))))) := by rw [hs3]; exact va_up_at
        have f3 : ∀ q : Nat, ¬ q = a + 1 → σ3 q = σ2 q := fun q hq => by rw [hs3]; exact va_up_off hq
        clear hs3
        refine lv_iinc (v := nI (j + 1)) (lv' := [(1, .int (nI (j + 1))), (0, .ref a)]) hx hb dX4_init_34 hl (k := 0) rfl (by rw [show Int32.ofInt 1 = (1 : Int32) from rfl]; exact nI_1 j) (by decide) rfl (fun ls hl => ?_)
        refine lv_goto (tgt := 15) hx hb dX4_init_37 (by decide) ?_
        have hR : fR G (a + 2 + 51 * (j + 1), σ3) H := by rw [show a + 2 + 51 * (j + 1) = a + 2 + 51 * j + 51 by omega]; exact hR
        have ih9 := ih (j + 1) (by omega) (by omega) σ3 H locs ls ((f3 _ (by omega)).trans ((f2 _ (by omega)).trans ((f1 _ (by omega)).trans (g0)))) (e3) (fun k hk => (Nat.lt_succ_iff_lt_or_eq.mp hk).elim (fun h9 => ArcS.keep (gi k h9) (fun q q1 q2 => ((f3 q (by omega)).trans ((f2 q (by omega)).trans (f1 q (by omega)))))) (fun h9 => by rw [h9]; exact ArcS.keep (hq5) (fun q q1 q2 => (f3 q (by omega))))) (fun q hq => ((f3 q (by omega)).trans ((f2 q (by omega)).trans (f1 q (by omega)))).trans (gf q hq)) hR hS hl
        rw [show 1 + 51 * (j + 1) = 1 + 51 * j + 1 + 50 by omega, show 9 + 374 * (j + 1) = 9 + 374 * j + 9 + 365 by omega] at ih9
        exact ih9
  refine lv_aload_n hx hb dX4_init_0 rfl (lv_at hl 0 rfl) ?_
  refine W.objInit hx hb hown (hts (.methodLink RX4 3 objectInit) (by decide +kernel)) (hts (.instanceMethod objectInit) (by decide +kernel)) (hts (.code objectInit ⟨#[0xb1]⟩ 1 none) (by decide +kernel)) rfl (by rw [hml]; exact hl.1) rfl dX4_init_1 (Nat.le_of_ble_eq_true rfl) (Nat.le_of_ble_eq_true rfl) ?_
  refine W.eq (g2 := F0 mI 4 ls []) rfl ?_
  refine lv_aload_n hx hb dX4_init_4 rfl (lv_at hl 0 rfl) ?_
  refine lv_bipush (v := 9) hx hb dX4_init_5 (by decide) ?_
  refine fw_newq (C := RX0) (j := 4) hx hb hown (hts (.classLink RX4 11 RX0) (by decide +kernel)) (hL.AO hW (by decide +kernel)) hK hR hS rfl (n := a + 1) rfl (N := 9) (by decide) (by decide) (Nat.le_of_ble_eq_true rfl) (Nat.le_of_ble_eq_true rfl) (Nat.le_of_ble_eq_true rfl) dX4_init_7 (fun H hR hS => ?_)
  rw [← rowN_0 (h := fun z9 => a + 2 + 51 * z9)] at hR
  obtain ⟨σ1, hs1⟩ : ∃ z9 : Nat → Option va_E, z9 = va_up σ0 (a + 1) (some (.inl (G.2.1 4, 9, .inr (.inr (.inr (.inr (rowN (fun z9 => a + 2 + 51 * z9) 0))))))) := ⟨_, rfl⟩
  have hR : fR G (a + 2, σ1) H := by rw [hs1]; exact hR
  have e1 : σ1 (a + 1) = some (.inl (G.2.1 4, 9, .inr (.inr (.inr (.inr (rowN (fun z9 => a + 2 + 51 * z9) 0)))))) := by rw [hs1]; exact va_up_at
  have f1 : ∀ q : Nat, ¬ q = a + 1 → σ1 q = σ0 q := fun q hq => by rw [hs1]; exact va_up_off hq
  clear hs1
  refine fw_putF (v := .ref (a + 1)) (C := RX4) (T := TX4) (N := 3) hx hb hts hin4 tyX4 tyX4_ok nmX4 hown hK hR hS ((f1 _ (by omega)).trans (e0)) rfl 0 (by decide) (hts (.fieldLink RX4 13 "UnreadLeaflets$History" "rows" "[LUnreadLeaflets$Archive;") (by decide +kernel)) rfl hnm rfl rfl rfl (Nat.le_of_ble_eq_true rfl) dX4_init_10 (fun H locs hR hS => ?_)
  obtain ⟨σ2, hs2⟩ : ∃ z9 : Nat → Option va_E, z9 = va_up σ1 (a) (some (.inr (6, [.ref (a + 1), .int 0, .int 0]))) := ⟨_, rfl⟩
  have hR : fR G (a + 2, σ2) H := by rw [hs2]; exact hR
  have e2 : σ2 (a) = some (.inr (6, [.ref (a + 1), .int 0, .int 0])) := by rw [hs2]; exact va_up_at
  have f2 : ∀ q : Nat, ¬ q = a → σ2 q = σ1 q := fun q hq => by rw [hs2]; exact va_up_off hq
  clear hs2
  refine lv_iconst (v := 0) hx hb dX4_init_13 (by decide) ?_
  refine lv_istore_n (lv' := [(1, .int 0), (0, .ref a)]) hx hb dX4_init_14 rfl hl (by decide) rfl (fun ls hl => ?_)
  exact loop_1 10 0 (by omega) (by omega) σ2 H locs ls (e2) ((f2 _ (by omega)).trans (e1)) (fun k hk => absurd hk (Nat.not_lt_zero k)) (fun q hq => ((f2 q (by omega)).trans (f1 q (by omega))).trans (f0 q)) hR hS (lv_sub hl [0, 1] rfl)
set_option maxHeartbeats 4000000 in
set_option maxRecDepth 100000 in
theorem c_X8_init (G : FG) (hL : FL G) (l : Launch) (ω : FWd) (a : Nat) (hn : ω.1 = a + 1) (h0 : ω.2 a = some (.inr (10, [.null, .int 0, .int 0, .null, .int 0, .int 0]))) : FMet G l yX8_init wsX8_init ({ frames := 2, cells := 42, slots := 220, locals := 32 } : Room) [.ref a] ω (QN a 43 (fun σ => TxtS G σ a zR 0 0 0 (-1) ∧ σ (a + 2) = some (.inl (G.2.1 5, 20, .inr (.inr (.inr (.inr (fun z9 => some (a + 3 + 2 * z9))))))) ∧ ∀ i, i < 20 → CmdS G σ (a + 3 + 2 * i) 0 zR 0 0) ω) 42 220 := by
  refine fw_ofW (cc := cX8_init) (maxL := 2) (ret := none) (by decide) rfl (Nat.le_of_ble_eq_true rfl) ?_
  intro pP eE sS mI ar9 bl9 meth cD ls hx hb hr hlocks hml hts hown hnm hW hR hl
  have hK := hL.K hW
  have hS : va_S (fwA G) sS.heap sS.heap [] := va_S.rf
  have hin8 : ∀ w ∈ u_ws RX8 TX8 6, w ∈ wsX8_init := by decide +kernel
  have hl : lv_has ls 2 [(0, .ref a)] := hl
  obtain ⟨σ0, hs0⟩ : ∃ z9 : Nat → Option va_E, z9 = ω.2 := ⟨_, rfl⟩
  have hR : fR G (a + 1, σ0) sS.heap := by rw [hs0, ← hn]; exact hR
  have e0 : σ0 a = some (.inr (10, [.null, .int 0, .int 0, .null, .int 0, .int 0])) := by rw [hs0]; exact h0
  have f0 : ∀ q : Nat, σ0 q = ω.2 q := fun q => by rw [hs0]
  clear hs0
  have loop_1 : ∀ (fu j : Nat), 20 - j < fu → j ≤ 20 → ∀ (σ0 : Nat → Option va_E) (H : Heap) (locs : List Loc) (ls : Array Slot), (σ0 a = some (.inr (10, [.ref (a + 1), .int 0, .int 0, .ref (a + 2), .int 0, .int (-1)]))) → (σ0 (a + 2) = some (.inl (G.2.1 5, 20, .inr (.inr (.inr (.inr (rowN (fun z9 => a + 3 + 2 * z9) j))))))) → (σ0 (a + 1) = some (.inl (G.2.1 1, 60, .inl zR))) → (∀ k, k < j → CmdS G σ0 (a + 3 + 2 * k) 0 zR 0 0) → (∀ q, q < a → σ0 q = ω.2 q) → fR G (a + 3 + 2 * j, σ0) H → va_S (fwA G) sS.heap H locs → lv_has ls 2 [(1, .int (nI j)), (0, .ref a)] → W pP l eE ({ frames := 2, cells := 42, slots := 220, locals := 32 } : Room) sS mI ar9 bl9 meth cD H locs (2 + 2 * j) (80 + 7 * j) (MQ bl9 (fQ G (QN a 43 (fun σ => TxtS G σ a zR 0 0 0 (-1) ∧ σ (a + 2) = some (.inl (G.2.1 5, 20, .inr (.inr (.inr (.inr (fun z9 => some (a + 3 + 2 * z9))))))) ∧ ∀ i, i < 20 → CmdS G σ (a + 3 + 2 * i) 0 zR 0 0) ω)) ar9 sS 42 220 (fwA G)) (F0 mI 28 ls []) := by
    intro fu
    induction fu with
    | zero => intro j hfu; exact absurd hfu (Nat.not_lt_zero _)
    | succ fu ih =>
      intro j hfu hj σ0 H locs ls g0 g1 g2 gi gf hR hS hl
      refine lv_iload_n hx hb dX8_init_28 rfl (lv_at hl 0 rfl) ?_
      refine lv_bipush (v := 20) hx hb dX8_init_29 (by decide) ?_
      refine lv_icmp_ge (tgt := 53) hx hb dX8_init_31 (by decide) (fun c_2 => ?_) (fun c_2 => ?_)
      · have hj2 := lp_ge (x := 20) (n := 20) rfl c_2 (by omega) (by omega)
        have hjn : j = 20 := by omega
        subst hjn
        have hR := hR.rowq g1 (f2 := fun z9 => some (a + 3 + 2 * z9)) (fun j hj => if_pos hj)
        refine fw_vret hx hb hr hlocks hR hS dX8_init_53 ?_
        exact ⟨rfl, rfl, ⟨⟨(va_up_off (by omega)).trans g0, (va_up_off (by omega)).trans g2⟩, va_up_at, fun k hk => cmd_fr (gi k hk) (fun q q1 q2 => va_up_off (by omega))⟩, fun q hq => (va_up_off (by omega)).trans (gf q hq)⟩
      · have hj2 := lp_lt (x := 20) (n := 20) rfl c_2 (by omega) (by omega)
        refine lv_aload_n hx hb dX8_init_34 rfl (lv_at hl 1 rfl) ?_
        refine fw_get (v := .ref (a + 2)) (C := RX8) (T := TX8) (N := 6) hx hb hts hin8 hown hK hR (g0) rfl 3 (by decide) (hts (.fieldLink RX8 17 "UnreadLeaflets$Text" "commands" "[LUnreadLeaflets$Command;") (by decide +kernel)) rfl dX8_init_35 ?_
        refine lv_iload_n hx hb dX8_init_38 rfl (lv_at hl 0 rfl) ?_
        refine fw_new (C := RX2) (T := TX2) (N := 4) (ci := 4) hx hb hts (by decide +kernel) tyX2 tyX2_ok hown (hts (.classLink RX8 15 RX2) (by decide +kernel)) (hts (.instantiable RX2 4) (by decide +kernel)) (hts (.initialized RX2) (by decide +kernel)) hK hR hS rfl (n := a + 3 + 2 * j) rfl (fs := [.int 0, .null, .int 0, .int 0]) (fun j hj => by rcases (show j = 0 ∨ j = 1 ∨ j = 2 ∨ j = 3 by omega) with rfl | rfl | rfl | rfl <;> rfl) (show 2 + 2 * j + 1 ≤ 42 by omega) (show 80 + 7 * j + 4 ≤ 220 by omega) dX8_init_39 (fun H hR hS => ?_)
        obtain ⟨σ1, hs1⟩ : ∃ z9 : Nat → Option va_E, z9 = va_up σ0 (a + 3 + 2 * j) (some (.inr (4, [.int 0, .null, .int 0, .int 0]))) := ⟨_, rfl⟩
        have hR : fR G (a + 3 + 2 * j + 1, σ1) H := by rw [hs1]; exact hR
        have e1 : σ1 (a + 3 + 2 * j) = some (.inr (4, [.int 0, .null, .int 0, .int 0])) := by rw [hs1]; exact va_up_at
        have f1 : ∀ q : Nat, ¬ q = a + 3 + 2 * j → σ1 q = σ0 q := fun q hq => by rw [hs1]; exact va_up_off hq
        clear hs1
        refine lv_dup hx hb dX8_init_42 rfl ?_
        refine fw_call (va_runIN (As := []) (b := a + 3 + 2 * j) (rest := [.ref (a + 3 + 2 * j), .int (nI j), .ref (a + 2)]) ⟨hx, hb, hml, hown, hts⟩ (c_X2_init G hL l (a + 3 + 2 * j + 1, σ1) (a + 3 + 2 * j) rfl (e1)) ⟨va_cnB 0 hts gX8_init_X2_init_n25 rfl rfl rfl (hL.N hW (hh := RX10) (by decide +kernel)) (hts (.initialized RX2) (by decide +kernel)) (by decide +kernel) ⟨Nat.le_of_ble_eq_true rfl, Nat.le_of_ble_eq_true rfl⟩, rfl, hts (.instanceMethod yX2_init) (by decide +kernel)⟩ (fw_preI hW hR) rfl rfl hl.1 rfl (lv_room (Nat.le_of_ble_eq_true rfl)) dX8_init_43 ⟨show 2 + 2 * j + 1 + 1 ≤ 42 by omega, show 80 + 7 * j + 4 + 3 ≤ 220 by omega⟩) hS (fun v9 τ9 H locs hq hR hS => ?_)
        obtain ⟨n2, σ2⟩ := τ9
        obtain ⟨rfl, z2, hq5, f2⟩ := hq
        have z2 : n2 = a + 3 + 2 * j + 2 := z2
        subst z2
        have f2 : ∀ q : Nat, q < a + 3 + 2 * j → σ2 q = σ1 q := f2
        refine W.eq (g2 := F0 mI 46 ls [.ref (a + 3 + 2 * j), .int (nI j), .ref (a + 2)]) rfl ?_
        refine fw_aast (j := 5) (ci := 4) (r := (RX2, TX2, 4)) hx hb hK hR hS ((f2 _ (by omega)).trans ((f1 _ (by omega)).trans (g1))) rfl hq5.1 rfl (vp_in_nI (by omega) (by omega)) dX8_init_46 (fun H locs hR hS => ?_)
        rw [nI_clamp (by omega), rowN_S (b := a + 3 + 2 * j) (h := fun z9 => a + 3 + 2 * z9) rfl] at hR
        obtain ⟨σ3, hs3⟩ : ∃ z9 : Nat → Option va_E, z9 = va_up σ2 (a + 2) (some (.inl (G.2.1 5, 20, .inr (.inr (.inr (.inr (rowN (fun z9 => a + 3 + 2 * z9) (j + 1)))))))) := ⟨_, rfl⟩
        have hR : fR G (a + 3 + 2 * j + 2, σ3) H := by rw [hs3]; exact hR
        have e3 : σ3 (a + 2) = some (.inl (G.2.1 5, 20, .inr (.inr (.inr (.inr (rowN (fun z9 => a + 3 + 2 * z9) (j + 1))))))) := by rw [hs3]; exact va_up_at
        have f3 : ∀ q : Nat, ¬ q = a + 2 → σ3 q = σ2 q := fun q hq => by rw [hs3]; exact va_up_off hq
        clear hs3
        refine lv_iinc (v := nI (j + 1)) (lv' := [(1, .int (nI (j + 1))), (0, .ref a)]) hx hb dX8_init_47 hl (k := 0) rfl (by rw [show Int32.ofInt 1 = (1 : Int32) from rfl]; exact nI_1 j) (by decide) rfl (fun ls hl => ?_)
        refine lv_goto (tgt := 28) hx hb dX8_init_50 (by decide) ?_
        have hR : fR G (a + 3 + 2 * (j + 1), σ3) H := by rw [show a + 3 + 2 * (j + 1) = a + 3 + 2 * j + 2 by omega]; exact hR
        have ih9 := ih (j + 1) (by omega) (by omega) σ3 H locs ls ((f3 _ (by omega)).trans ((f2 _ (by omega)).trans ((f1 _ (by omega)).trans (g0)))) (e3) ((f3 _ (by omega)).trans ((f2 _ (by omega)).trans ((f1 _ (by omega)).trans (g2)))) (fun k hk => (Nat.lt_succ_iff_lt_or_eq.mp hk).elim (fun h9 => cmd_fr (gi k h9) (fun q q1 q2 => ((f3 q (by omega)).trans ((f2 q (by omega)).trans (f1 q (by omega)))))) (fun h9 => by rw [h9]; exact cmd_fr (hq5) (fun q q1 q2 => (f3 q (by omega))))) (fun q hq => ((f3 q (by omega)).trans ((f2 q (by omega)).trans (f1 q (by omega)))).trans (gf q hq)) hR hS hl
        rw [show 2 + 2 * (j + 1) = 2 + 2 * j + 1 + 1 by omega, show 80 + 7 * (j + 1) = 80 + 7 * j + 4 + 3 by omega] at ih9
        exact ih9
  refine lv_aload_n hx hb dX8_init_0 rfl (lv_at hl 0 rfl) ?_
  refine W.objInit hx hb hown (hts (.methodLink RX8 3 objectInit) (by decide +kernel)) (hts (.instanceMethod objectInit) (by decide +kernel)) (hts (.code objectInit ⟨#[0xb1]⟩ 1 none) (by decide +kernel)) rfl (by rw [hml]; exact hl.1) rfl dX8_init_1 (Nat.le_of_ble_eq_true rfl) (Nat.le_of_ble_eq_true rfl) ?_
  refine W.eq (g2 := F0 mI 4 ls []) rfl ?_
  refine lv_aload_n hx hb dX8_init_4 rfl (lv_at hl 0 rfl) ?_
  refine lv_bipush (v := 60) hx hb dX8_init_5 (by decide) ?_
  refine fw_newch hx hb (hts (.arrayClass .char) (by decide +kernel)) hK hR hS (n := a + 1) rfl (N := 60) (by decide) (by decide) (by decide) (Nat.le_of_ble_eq_true rfl) (Nat.le_of_ble_eq_true rfl) dX8_init_7 (fun H hR hS => ?_)
  obtain ⟨σ1, hs1⟩ : ∃ z9 : Nat → Option va_E, z9 = va_up σ0 (a + 1) (some (.inl (G.2.1 1, 60, .inl zR))) := ⟨_, rfl⟩
  have hR : fR G (a + 2, σ1) H := by rw [hs1]; exact hR
  have e1 : σ1 (a + 1) = some (.inl (G.2.1 1, 60, .inl zR)) := by rw [hs1]; exact va_up_at
  have f1 : ∀ q : Nat, ¬ q = a + 1 → σ1 q = σ0 q := fun q hq => by rw [hs1]; exact va_up_off hq
  clear hs1
  refine fw_putF (v := .ref (a + 1)) (C := RX8) (T := TX8) (N := 6) hx hb hts hin8 tyX8 tyX8_ok nmX8 hown hK hR hS ((f1 _ (by omega)).trans (e0)) rfl 0 (by decide) (hts (.fieldLink RX8 9 "UnreadLeaflets$Text" "characters" "[C") (by decide +kernel)) rfl hnm rfl rfl rfl (Nat.le_of_ble_eq_true rfl) dX8_init_9 (fun H locs hR hS => ?_)
  obtain ⟨σ2, hs2⟩ : ∃ z9 : Nat → Option va_E, z9 = va_up σ1 (a) (some (.inr (10, [.ref (a + 1), .int 0, .int 0, .null, .int 0, .int 0]))) := ⟨_, rfl⟩
  have hR : fR G (a + 2, σ2) H := by rw [hs2]; exact hR
  have e2 : σ2 (a) = some (.inr (10, [.ref (a + 1), .int 0, .int 0, .null, .int 0, .int 0])) := by rw [hs2]; exact va_up_at
  have f2 : ∀ q : Nat, ¬ q = a → σ2 q = σ1 q := fun q hq => by rw [hs2]; exact va_up_off hq
  clear hs2
  refine lv_aload_n hx hb dX8_init_12 rfl (lv_at hl 0 rfl) ?_
  refine lv_bipush (v := 20) hx hb dX8_init_13 (by decide) ?_
  refine fw_newq (C := RX2) (j := 5) hx hb hown (hts (.classLink RX8 15 RX2) (by decide +kernel)) (hL.AO hW (by decide +kernel)) hK hR hS rfl (n := a + 2) rfl (N := 20) (by decide) (by decide) (Nat.le_of_ble_eq_true rfl) (Nat.le_of_ble_eq_true rfl) (Nat.le_of_ble_eq_true rfl) dX8_init_15 (fun H hR hS => ?_)
  rw [← rowN_0 (h := fun z9 => a + 3 + 2 * z9)] at hR
  obtain ⟨σ3, hs3⟩ : ∃ z9 : Nat → Option va_E, z9 = va_up σ2 (a + 2) (some (.inl (G.2.1 5, 20, .inr (.inr (.inr (.inr (rowN (fun z9 => a + 3 + 2 * z9) 0))))))) := ⟨_, rfl⟩
  have hR : fR G (a + 3, σ3) H := by rw [hs3]; exact hR
  have e3 : σ3 (a + 2) = some (.inl (G.2.1 5, 20, .inr (.inr (.inr (.inr (rowN (fun z9 => a + 3 + 2 * z9) 0)))))) := by rw [hs3]; exact va_up_at
  have f3 : ∀ q : Nat, ¬ q = a + 2 → σ3 q = σ2 q := fun q hq => by rw [hs3]; exact va_up_off hq
  clear hs3
  refine fw_putF (v := .ref (a + 2)) (C := RX8) (T := TX8) (N := 6) hx hb hts hin8 tyX8 tyX8_ok nmX8 hown hK hR hS ((f3 _ (by omega)).trans (e2)) rfl 3 (by decide) (hts (.fieldLink RX8 17 "UnreadLeaflets$Text" "commands" "[LUnreadLeaflets$Command;") (by decide +kernel)) rfl hnm rfl rfl rfl (Nat.le_of_ble_eq_true rfl) dX8_init_18 (fun H locs hR hS => ?_)
  obtain ⟨σ4, hs4⟩ : ∃ z9 : Nat → Option va_E, z9 = va_up σ3 (a) (some (.inr (10, [.ref (a + 1), .int 0, .int 0, .ref (a + 2), .int 0, .int 0]))) := ⟨_, rfl⟩
  have hR : fR G (a + 3, σ4) H := by rw [hs4]; exact hR
  have e4 : σ4 (a) = some (.inr (10, [.ref (a + 1), .int 0, .int 0, .ref (a + 2), .int 0, .int 0])) := by rw [hs4]; exact va_up_at
  have f4 : ∀ q : Nat, ¬ q = a → σ4 q = σ3 q := fun q hq => by rw [hs4]; exact va_up_off hq
  clear hs4
  refine lv_aload_n hx hb dX8_init_21 rfl (lv_at hl 0 rfl) ?_
  refine lv_iconst (v := -1) hx hb dX8_init_22 (by decide) ?_
  refine fw_put (v := .int (-1)) (C := RX8) (T := TX8) (N := 6) hx hb hts hin8 tyX8 tyX8_ok nmX8 hown hK hR hS (e4) rfl 5 (by decide) (hts (.fieldLink RX8 21 "UnreadLeaflets$Text" "fault" "I") (by decide +kernel)) rfl rfl rfl (Nat.le_of_ble_eq_true rfl) dX8_init_23 (fun H locs hR hS => ?_)
  obtain ⟨σ5, hs5⟩ : ∃ z9 : Nat → Option va_E, z9 = va_up σ4 (a) (some (.inr (10, [.ref (a + 1), .int 0, .int 0, .ref (a + 2), .int 0, .int (-1)]))) := ⟨_, rfl⟩
  have hR : fR G (a + 3, σ5) H := by rw [hs5]; exact hR
  have e5 : σ5 (a) = some (.inr (10, [.ref (a + 1), .int 0, .int 0, .ref (a + 2), .int 0, .int (-1)])) := by rw [hs5]; exact va_up_at
  have f5 : ∀ q : Nat, ¬ q = a → σ5 q = σ4 q := fun q hq => by rw [hs5]; exact va_up_off hq
  clear hs5
  refine lv_iconst (v := 0) hx hb dX8_init_26 (by decide) ?_
  refine lv_istore_n (lv' := [(1, .int 0), (0, .ref a)]) hx hb dX8_init_27 rfl hl (by decide) rfl (fun ls hl => ?_)
  exact loop_1 21 0 (by omega) (by omega) σ5 H locs ls (e5) ((f5 _ (by omega)).trans ((f4 _ (by omega)).trans (e3))) ((f5 _ (by omega)).trans ((f4 _ (by omega)).trans ((f3 _ (by omega)).trans ((f2 _ (by omega)).trans (e1))))) (fun k hk => absurd hk (Nat.not_lt_zero k)) (fun q hq => ((f5 q (by omega)).trans ((f4 q (by omega)).trans ((f3 q (by omega)).trans ((f2 q (by omega)).trans (f1 q (by omega)))))).trans (f0 q)) hR hS (lv_sub hl [0, 1] rfl)
