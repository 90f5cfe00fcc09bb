/-! ===== printed by program (wip/whole/gen): the reference's helpers ===== -/
set_option maxHeartbeats 4000000 in
set_option maxRecDepth 100000 in
theorem c_X11_thrown (G : FG) (hL : FL G) (l : Launch) (ω : FWd) (m : Nat) (s g : Nat → Int32) (m0 : ω.2 m = some (.inr (13, [.ref (m + 1), .ref (m + 2), .ref (m + 3), .int (s 3), .ref (m + 4), .int (s 5), .ref (m + 5), .int (s 7), .int (s 8), .int (s 9), .int (s 10), .int (s 11), .ref (m + 6), .int (s 13), .int (s 14), .ref (m + 7), .int (s 16), .int (s 17), .ref (m + 8)]))) (m1 : ω.2 (m + 1) = some (.inl (G.2.1 0, 324, .inl g))) : FMet G l yX11_thrown wsX11_thrown ({ frames := 0, cells := 0, slots := 0, locals := 0 } : Room) [.ref m] ω (rI (s 14) ω) 0 0 := by
  refine fw_ofW (cc := cX11_thrown) (maxL := 1) (ret := (some .int)) (by decide) rfl (Nat.le_of_ble_eq_true rfl) ?_
  intro pP eE sS mI ar9 bl9 meth cD ls hx hb hr hlocks hml hts hown hnm hW hR hl
  have hK := hL.K hW
  have hS : va_S (fwA G) sS.heap sS.heap [] := va_S.rf
  have hin11 : ∀ w ∈ u_ws RX11 TX11 19, w ∈ wsX11_thrown := by decide +kernel
  have hl : lv_has ls 1 [(0, .ref m)] := hl
  refine lv_aload_n hx hb dX11_thrown_0 rfl (lv_at hl 0 rfl) ?_
  refine fw_get (v := .int (s 14)) (C := RX11) (T := TX11) (N := 19) hx hb hts hin11 hown hK hR m0 rfl 14 (by decide) (hts (.fieldLink RX11 39 "UnreadLeafletsModel" "thrown" "I") (by decide +kernel)) rfl dX11_thrown_1 ?_
  refine fw_iret hx hb hr hlocks hR hS dX11_thrown_4 (rI_mk ?_)
  exact rfl
set_option maxHeartbeats 4000000 in
set_option maxRecDepth 100000 in
theorem c_X11_in (G : FG) (hL : FL G) (l : Launch) (ω : FWd) (x lo hi : Int32) : FMet G l yX11_in wsX11_in ({ frames := 0, cells := 0, slots := 0, locals := 0 } : Room) [.int x, .int lo, .int hi] ω (rI (bz (inB x lo hi)) ω) 0 0 := by
  refine fw_ofW (cc := cX11_in) (maxL := 3) (ret := (some .boolean)) (by decide) rfl (Nat.le_of_ble_eq_true rfl) ?_
  intro pP eE sS mI ar9 bl9 meth cD ls hx hb hr hlocks hml hts hown hnm hW hR hl
  have hK := hL.K hW
  have hS : va_S (fwA G) sS.heap sS.heap [] := va_S.rf
  have hl : lv_has ls 3 [(0, .int x), (1, .int lo), (2, .int hi)] := hl
  refine lv_iload_n hx hb dX11_in_0 rfl (lv_at hl 0 rfl) ?_
  refine lv_iload_n hx hb dX11_in_1 rfl (lv_at hl 1 rfl) ?_
  refine lv_icmp_lt (tgt := 14) hx hb dX11_in_2 (by decide) (fun c_1 => ?_) (fun c_1 => ?_)
  · skip
    refine lv_iconst (v := 0) hx hb dX11_in_14 (by decide) ?_
    refine fw_zret hx hb hr rfl hlocks hR hS dX11_in_15 (rI_mk ?_)
    exact (bz_0 (by first | rfl | assumption | (simp_all [inB, hasB, usesB]; done) | omega)).symm
  · skip
    refine lv_iload_n hx hb dX11_in_5 rfl (lv_at hl 0 rfl) ?_
    refine lv_iload_n hx hb dX11_in_6 rfl (lv_at hl 2 rfl) ?_
    refine lv_icmp_gt (tgt := 14) hx hb dX11_in_7 (by decide) (fun c_2 => ?_) (fun c_2 => ?_)
    · skip
      refine lv_iconst (v := 0) hx hb dX11_in_14 (by decide) ?_
      refine fw_zret hx hb hr rfl hlocks hR hS dX11_in_15 (rI_mk ?_)
      exact (bz_0 (by first | rfl | assumption | (simp_all [inB, hasB, usesB]; done) | omega)).symm
    · skip
      refine lv_iconst (v := 1) hx hb dX11_in_10 (by decide) ?_
      refine lv_goto (tgt := 15) hx hb dX11_in_11 (by decide) ?_
      refine fw_zret hx hb hr rfl hlocks hR hS dX11_in_15 (rI_mk ?_)
      exact (bz_1 (by first | rfl | assumption | (simp_all [inB, hasB, usesB]; done) | omega)).symm
set_option maxHeartbeats 4000000 in
set_option maxRecDepth 100000 in
theorem c_X11_done (G : FG) (hL : FL G) (l : Launch) (ω : FWd) (m : Nat) (s g : Nat → Int32) (m0 : ω.2 m = some (.inr (13, [.ref (m + 1), .ref (m + 2), .ref (m + 3), .int (s 3), .ref (m + 4), .int (s 5), .ref (m + 5), .int (s 7), .int (s 8), .int (s 9), .int (s 10), .int (s 11), .ref (m + 6), .int (s 13), .int (s 14), .ref (m + 7), .int (s 16), .int (s 17), .ref (m + 8)]))) (m1 : ω.2 (m + 1) = some (.inl (G.2.1 0, 324, .inl g))) (x : Int32) : FMet G l yX11_done wsX11_done ({ frames := 0, cells := 0, slots := 0, locals := 0 } : Room) [.ref m, .int x] ω (fun vv9 τ9 => vv9 = some (.int x) ∧ τ9.1 = ω.1 ∧ τ9.2 m = some (.inr (13, [.ref (m + 1), .ref (m + 2), .ref (m + 3), .int ((upd s 14 0) 3), .ref (m + 4), .int ((upd s 14 0) 5), .ref (m + 5), .int ((upd s 14 0) 7), .int ((upd s 14 0) 8), .int ((upd s 14 0) 9), .int ((upd s 14 0) 10), .int ((upd s 14 0) 11), .ref (m + 6), .int ((upd s 14 0) 13), .int ((upd s 14 0) 14), .ref (m + 7), .int ((upd s 14 0) 16), .int ((upd s 14 0) 17), .ref (m + 8)])) ∧ ∀ q : Nat, ¬ q = m → τ9.2 q = ω.2 q) 0 0 := by
  refine fw_ofW (cc := cX11_done) (maxL := 2) (ret := (some .int)) (by decide) rfl (Nat.le_of_ble_eq_true rfl) ?_
  intro pP eE sS mI ar9 bl9 meth cD ls hx hb hr hlocks hml hts hown hnm hW hR hl
  have hK := hL.K hW
  have hS : va_S (fwA G) sS.heap sS.heap [] := va_S.rf
  have hin11 : ∀ w ∈ u_ws RX11 TX11 19, w ∈ wsX11_done := by decide +kernel
  have hl : lv_has ls 2 [(0, .ref m), (1, .int x)] := hl
  refine lv_aload_n hx hb dX11_done_0 rfl (lv_at hl 0 rfl) ?_
  refine lv_iconst (v := 0) hx hb dX11_done_1 (by decide) ?_
  refine fw_put (v := .int 0) (C := RX11) (T := TX11) (N := 19) hx hb hts hin11 tyX11 tyX11_ok nmX11 hown hK hR hS m0 rfl 14 (by decide) (hts (.fieldLink RX11 39 "UnreadLeafletsModel" "thrown" "I") (by decide +kernel)) rfl rfl rfl (Nat.le_of_ble_eq_true rfl) dX11_done_2 (fun H locs hR hS => ?_)
  obtain ⟨ω_1, hw_2⟩ : ∃ τ : FWd, τ = (ω.1, va_up ω.2 m (some (.inr (13, [.ref (m + 1), .ref (m + 2), .ref (m + 3), .int ((upd s 14 0) 3), .ref (m + 4), .int ((upd s 14 0) 5), .ref (m + 5), .int ((upd s 14 0) 7), .int ((upd s 14 0) 8), .int ((upd s 14 0) 9), .int ((upd s 14 0) 10), .int ((upd s 14 0) 11), .ref (m + 6), .int ((upd s 14 0) 13), .int ((upd s 14 0) 14), .ref (m + 7), .int ((upd s 14 0) 16), .int ((upd s 14 0) 17), .ref (m + 8)])))) := ⟨_, rfl⟩
  have hR : fR G ω_1 H := by rw [hw_2]; exact hR
  have f_3 : ω_1.2 m = some (.inr (13, [.ref (m + 1), .ref (m + 2), .ref (m + 3), .int ((upd s 14 0) 3), .ref (m + 4), .int ((upd s 14 0) 5), .ref (m + 5), .int ((upd s 14 0) 7), .int ((upd s 14 0) 8), .int ((upd s 14 0) 9), .int ((upd s 14 0) 10), .int ((upd s 14 0) 11), .ref (m + 6), .int ((upd s 14 0) 13), .int ((upd s 14 0) 14), .ref (m + 7), .int ((upd s 14 0) 16), .int ((upd s 14 0) 17), .ref (m + 8)])) := by rw [hw_2]; exact va_up_at
  have fr_4 : ∀ q : Nat, ¬ q = m → ω_1.2 q = ω.2 q := fun q hq => by rw [hw_2]; exact va_up_off hq
  have z_5 : ω_1.1 = ω.1 := by rw [hw_2]
  refine lv_iload_n hx hb dX11_done_5 rfl (lv_at hl 1 rfl) ?_
  have fr_6 : ∀ q : Nat, ¬ q = m → ω_1.2 q = ω.2 q := by
    intro q h0
    rw [fr_4 q (by omega)]
  have z_7 : ω_1.1 = ω.1 := by rw [z_5]
  refine fw_iret hx hb hr hlocks hR hS dX11_done_6 ⟨?_, z_7, f_3, fr_6⟩
  · refine congrArg (fun z => some (Value.int z)) ?_
    exact rfl
set_option maxHeartbeats 4000000 in
set_option maxRecDepth 100000 in
theorem c_X11_fails (G : FG) (hL : FL G) (l : Launch) (ω : FWd) (m : Nat) (s g : Nat → Int32) (m0 : ω.2 m = some (.inr (13, [.ref (m + 1), .ref (m + 2), .ref (m + 3), .int (s 3), .ref (m + 4), .int (s 5), .ref (m + 5), .int (s 7), .int (s 8), .int (s 9), .int (s 10), .int (s 11), .ref (m + 6), .int (s 13), .int (s 14), .ref (m + 7), .int (s 16), .int (s 17), .ref (m + 8)]))) (m1 : ω.2 (m + 1) = some (.inl (G.2.1 0, 324, .inl g))) (x : Int32) : FMet G l yX11_fails wsX11_fails ({ frames := 0, cells := 0, slots := 0, locals := 0 } : Room) [.ref m, .int x] ω (fun vv9 τ9 => vv9 = some (.int 0) ∧ τ9.1 = ω.1 ∧ τ9.2 m = some (.inr (13, [.ref (m + 1), .ref (m + 2), .ref (m + 3), .int ((upd s 14 x) 3), .ref (m + 4), .int ((upd s 14 x) 5), .ref (m + 5), .int ((upd s 14 x) 7), .int ((upd s 14 x) 8), .int ((upd s 14 x) 9), .int ((upd s 14 x) 10), .int ((upd s 14 x) 11), .ref (m + 6), .int ((upd s 14 x) 13), .int ((upd s 14 x) 14), .ref (m + 7), .int ((upd s 14 x) 16), .int ((upd s 14 x) 17), .ref (m + 8)])) ∧ ∀ q : Nat, ¬ q = m → τ9.2 q = ω.2 q) 0 0 := by
  refine fw_ofW (cc := cX11_fails) (maxL := 2) (ret := (some .int)) (by decide) rfl (Nat.le_of_ble_eq_true rfl) ?_
  intro pP eE sS mI ar9 bl9 meth cD ls hx hb hr hlocks hml hts hown hnm hW hR hl
  have hK := hL.K hW
  have hS : va_S (fwA G) sS.heap sS.heap [] := va_S.rf
  have hin11 : ∀ w ∈ u_ws RX11 TX11 19, w ∈ wsX11_fails := by decide +kernel
  have hl : lv_has ls 2 [(0, .ref m), (1, .int x)] := hl
  refine lv_aload_n hx hb dX11_fails_0 rfl (lv_at hl 0 rfl) ?_
  refine lv_iload_n hx hb dX11_fails_1 rfl (lv_at hl 1 rfl) ?_
  refine fw_put (v := .int x) (C := RX11) (T := TX11) (N := 19) hx hb hts hin11 tyX11 tyX11_ok nmX11 hown hK hR hS m0 rfl 14 (by decide) (hts (.fieldLink RX11 39 "UnreadLeafletsModel" "thrown" "I") (by decide +kernel)) rfl rfl rfl (Nat.le_of_ble_eq_true rfl) dX11_fails_2 (fun H locs hR hS => ?_)
  obtain ⟨ω_1, hw_2⟩ : ∃ τ : FWd, τ = (ω.1, va_up ω.2 m (some (.inr (13, [.ref (m + 1), .ref (m + 2), .ref (m + 3), .int ((upd s 14 x) 3), .ref (m + 4), .int ((upd s 14 x) 5), .ref (m + 5), .int ((upd s 14 x) 7), .int ((upd s 14 x) 8), .int ((upd s 14 x) 9), .int ((upd s 14 x) 10), .int ((upd s 14 x) 11), .ref (m + 6), .int ((upd s 14 x) 13), .int ((upd s 14 x) 14), .ref (m + 7), .int ((upd s 14 x) 16), .int ((upd s 14 x) 17), .ref (m + 8)])))) := ⟨_, rfl⟩
  have hR : fR G ω_1 H := by rw [hw_2]; exact hR
  have f_3 : ω_1.2 m = some (.inr (13, [.ref (m + 1), .ref (m + 2), .ref (m + 3), .int ((upd s 14 x) 3), .ref (m + 4), .int ((upd s 14 x) 5), .ref (m + 5), .int ((upd s 14 x) 7), .int ((upd s 14 x) 8), .int ((upd s 14 x) 9), .int ((upd s 14 x) 10), .int ((upd s 14 x) 11), .ref (m + 6), .int ((upd s 14 x) 13), .int ((upd s 14 x) 14), .ref (m + 7), .int ((upd s 14 x) 16), .int ((upd s 14 x) 17), .ref (m + 8)])) := by rw [hw_2]; exact va_up_at
  have fr_4 : ∀ q : Nat, ¬ q = m → ω_1.2 q = ω.2 q := fun q hq => by rw [hw_2]; exact va_up_off hq
  have z_5 : ω_1.1 = ω.1 := by rw [hw_2]
  refine lv_iconst (v := 0) hx hb dX11_fails_5 (by decide) ?_
  have fr_6 : ∀ q : Nat, ¬ q = m → ω_1.2 q = ω.2 q := by
    intro q h0
    rw [fr_4 q (by omega)]
  have z_7 : ω_1.1 = ω.1 := by rw [z_5]
  refine fw_iret hx hb hr hlocks hR hS dX11_fails_6 ⟨?_, z_7, f_3, fr_6⟩
  · refine congrArg (fun z => some (Value.int z)) ?_
    exact rfl
set_option maxHeartbeats 4000000 in
set_option maxRecDepth 100000 in
theorem c_X11_refused (G : FG) (hL : FL G) (l : Launch) (ω : FWd) (m : Nat) (s g : Nat → Int32) (m0 : ω.2 m = some (.inr (13, [.ref (m + 1), .ref (m + 2), .ref (m + 3), .int (s 3), .ref (m + 4), .int (s 5), .ref (m + 5), .int (s 7), .int (s 8), .int (s 9), .int (s 10), .int (s 11), .ref (m + 6), .int (s 13), .int (s 14), .ref (m + 7), .int (s 16), .int (s 17), .ref (m + 8)]))) (m1 : ω.2 (m + 1) = some (.inl (G.2.1 0, 324, .inl g))) (r dt : Int32) : FMet G l yX11_refused wsX11_refused ({ frames := 1, cells := 0, slots := 0, locals := 21 } : Room) [.ref m, .int r, .int dt] ω (fun vv9 τ9 => vv9 = some (.int 0) ∧ τ9.1 = ω.1 ∧ τ9.2 m = some (.inr (13, [.ref (m + 1), .ref (m + 2), .ref (m + 3), .int ((upd (upd (upd (upd s 9 r) 10 dt) 11 0) 14 1) 3), .ref (m + 4), .int ((upd (upd (upd (upd s 9 r) 10 dt) 11 0) 14 1) 5), .ref (m + 5), .int ((upd (upd (upd (upd s 9 r) 10 dt) 11 0) 14 1) 7), .int ((upd (upd (upd (upd s 9 r) 10 dt) 11 0) 14 1) 8), .int ((upd (upd (upd (upd s 9 r) 10 dt) 11 0) 14 1) 9), .int ((upd (upd (upd (upd s 9 r) 10 dt) 11 0) 14 1) 10), .int ((upd (upd (upd (upd s 9 r) 10 dt) 11 0) 14 1) 11), .ref (m + 6), .int ((upd (upd (upd (upd s 9 r) 10 dt) 11 0) 14 1) 13), .int ((upd (upd (upd (upd s 9 r) 10 dt) 11 0) 14 1) 14), .ref (m + 7), .int ((upd (upd (upd (upd s 9 r) 10 dt) 11 0) 14 1) 16), .int ((upd (upd (upd (upd s 9 r) 10 dt) 11 0) 14 1) 17), .ref (m + 8)])) ∧ ∀ q : Nat, ¬ q = m → τ9.2 q = ω.2 q) 0 0 := by
  refine fw_ofW (cc := cX11_refused) (maxL := 3) (ret := (some .int)) (by decide) rfl (Nat.le_of_ble_eq_true rfl) ?_
  intro pP eE sS mI ar9 bl9 meth cD ls hx hb hr hlocks hml hts hown hnm hW hR hl
  have hK := hL.K hW
  have hS : va_S (fwA G) sS.heap sS.heap [] := va_S.rf
  have hin11 : ∀ w ∈ u_ws RX11 TX11 19, w ∈ wsX11_refused := by decide +kernel
  have hl : lv_has ls 3 [(0, .ref m), (1, .int r), (2, .int dt)] := hl
  refine lv_aload_n hx hb dX11_refused_0 rfl (lv_at hl 0 rfl) ?_
  refine lv_iload_n hx hb dX11_refused_1 rfl (lv_at hl 1 rfl) ?_
  refine fw_put (v := .int r) (C := RX11) (T := TX11) (N := 19) hx hb hts hin11 tyX11 tyX11_ok nmX11 hown hK hR hS m0 rfl 9 (by decide) (hts (.fieldLink RX11 42 "UnreadLeafletsModel" "why0" "I") (by decide +kernel)) rfl rfl rfl (Nat.le_of_ble_eq_true rfl) dX11_refused_2 (fun H locs hR hS => ?_)
  obtain ⟨ω_1, hw_2⟩ : ∃ τ : FWd, τ = (ω.1, va_up ω.2 m (some (.inr (13, [.ref (m + 1), .ref (m + 2), .ref (m + 3), .int ((upd s 9 r) 3), .ref (m + 4), .int ((upd s 9 r) 5), .ref (m + 5), .int ((upd s 9 r) 7), .int ((upd s 9 r) 8), .int ((upd s 9 r) 9), .int ((upd s 9 r) 10), .int ((upd s 9 r) 11), .ref (m + 6), .int ((upd s 9 r) 13), .int ((upd s 9 r) 14), .ref (m + 7), .int ((upd s 9 r) 16), .int ((upd s 9 r) 17), .ref (m + 8)])))) := ⟨_, rfl⟩
  have hR : fR G ω_1 H := by rw [hw_2]; exact hR
  have f_3 : ω_1.2 m = some (.inr (13, [.ref (m + 1), .ref (m + 2), .ref (m + 3), .int ((upd s 9 r) 3), .ref (m + 4), .int ((upd s 9 r) 5), .ref (m + 5), .int ((upd s 9 r) 7), .int ((upd s 9 r) 8), .int ((upd s 9 r) 9), .int ((upd s 9 r) 10), .int ((upd s 9 r) 11), .ref (m + 6), .int ((upd s 9 r) 13), .int ((upd s 9 r) 14), .ref (m + 7), .int ((upd s 9 r) 16), .int ((upd s 9 r) 17), .ref (m + 8)])) := by rw [hw_2]; exact va_up_at
  have fr_4 : ∀ q : Nat, ¬ q = m → ω_1.2 q = ω.2 q := fun q hq => by rw [hw_2]; exact va_up_off hq
  have z_5 : ω_1.1 = ω.1 := by rw [hw_2]
  refine lv_aload_n hx hb dX11_refused_5 rfl (lv_at hl 0 rfl) ?_
  refine lv_iload_n hx hb dX11_refused_6 rfl (lv_at hl 2 rfl) ?_
  refine fw_put (v := .int dt) (C := RX11) (T := TX11) (N := 19) hx hb hts hin11 tyX11 tyX11_ok nmX11 hown hK hR hS f_3 rfl 10 (by decide) (hts (.fieldLink RX11 45 "UnreadLeafletsModel" "whyDetail" "I") (by decide +kernel)) rfl rfl rfl (Nat.le_of_ble_eq_true rfl) dX11_refused_7 (fun H locs hR hS => ?_)
  obtain ⟨ω_6, hw_7⟩ : ∃ τ : FWd, τ = (ω_1.1, va_up ω_1.2 m (some (.inr (13, [.ref (m + 1), .ref (m + 2), .ref (m + 3), .int ((upd (upd s 9 r) 10 dt) 3), .ref (m + 4), .int ((upd (upd s 9 r) 10 dt) 5), .ref (m + 5), .int ((upd (upd s 9 r) 10 dt) 7), .int ((upd (upd s 9 r) 10 dt) 8), .int ((upd (upd s 9 r) 10 dt) 9), .int ((upd (upd s 9 r) 10 dt) 10), .int ((upd (upd s 9 r) 10 dt) 11), .ref (m + 6), .int ((upd (upd s 9 r) 10 dt) 13), .int ((upd (upd s 9 r) 10 dt) 14), .ref (m + 7), .int ((upd (upd s 9 r) 10 dt) 16), .int ((upd (upd s 9 r) 10 dt) 17), .ref (m + 8)])))) := ⟨_, rfl⟩
  have hR : fR G ω_6 H := by rw [hw_7]; exact hR
  have f_8 : ω_6.2 m = some (.inr (13, [.ref (m + 1), .ref (m + 2), .ref (m + 3), .int ((upd (upd s 9 r) 10 dt) 3), .ref (m + 4), .int ((upd (upd s 9 r) 10 dt) 5), .ref (m + 5), .int ((upd (upd s 9 r) 10 dt) 7), .int ((upd (upd s 9 r) 10 dt) 8), .int ((upd (upd s 9 r) 10 dt) 9), .int ((upd (upd s 9 r) 10 dt) 10), .int ((upd (upd s 9 r) 10 dt) 11), .ref (m + 6), .int ((upd (upd s 9 r) 10 dt) 13), .int ((upd (upd s 9 r) 10 dt) 14), .ref (m + 7), .int ((upd (upd s 9 r) 10 dt) 16), .int ((upd (upd s 9 r) 10 dt) 17), .ref (m + 8)])) := by rw [hw_7]; exact va_up_at
  have fr_9 : ∀ q : Nat, ¬ q = m → ω_6.2 q = ω_1.2 q := fun q hq => by rw [hw_7]; exact va_up_off hq
  have z_10 : ω_6.1 = ω_1.1 := by rw [hw_7]
  refine lv_aload_n hx hb dX11_refused_10 rfl (lv_at hl 0 rfl) ?_
  refine lv_iconst (v := 0) hx hb dX11_refused_11 (by decide) ?_
  refine fw_put (v := .int 0) (C := RX11) (T := TX11) (N := 19) hx hb hts hin11 tyX11 tyX11_ok nmX11 hown hK hR hS f_8 rfl 11 (by decide) (hts (.fieldLink RX11 48 "UnreadLeafletsModel" "whyOrder" "I") (by decide +kernel)) rfl rfl rfl (Nat.le_of_ble_eq_true rfl) dX11_refused_12 (fun H locs hR hS => ?_)
  obtain ⟨ω_11, hw_12⟩ : ∃ τ : FWd, τ = (ω_6.1, va_up ω_6.2 m (some (.inr (13, [.ref (m + 1), .ref (m + 2), .ref (m + 3), .int ((upd (upd (upd s 9 r) 10 dt) 11 0) 3), .ref (m + 4), .int ((upd (upd (upd s 9 r) 10 dt) 11 0) 5), .ref (m + 5), .int ((upd (upd (upd s 9 r) 10 dt) 11 0) 7), .int ((upd (upd (upd s 9 r) 10 dt) 11 0) 8), .int ((upd (upd (upd s 9 r) 10 dt) 11 0) 9), .int ((upd (upd (upd s 9 r) 10 dt) 11 0) 10), .int ((upd (upd (upd s 9 r) 10 dt) 11 0) 11), .ref (m + 6), .int ((upd (upd (upd s 9 r) 10 dt) 11 0) 13), .int ((upd (upd (upd s 9 r) 10 dt) 11 0) 14), .ref (m + 7), .int ((upd (upd (upd s 9 r) 10 dt) 11 0) 16), .int ((upd (upd (upd s 9 r) 10 dt) 11 0) 17), .ref (m + 8)])))) := ⟨_, rfl⟩
  have hR : fR G ω_11 H := by rw [hw_12]; exact hR
  have f_13 : ω_11.2 m = some (.inr (13, [.ref (m + 1), .ref (m + 2), .ref (m + 3), .int ((upd (upd (upd s 9 r) 10 dt) 11 0) 3), .ref (m + 4), .int ((upd (upd (upd s 9 r) 10 dt) 11 0) 5), .ref (m + 5), .int ((upd (upd (upd s 9 r) 10 dt) 11 0) 7), .int ((upd (upd (upd s 9 r) 10 dt) 11 0) 8), .int ((upd (upd (upd s 9 r) 10 dt) 11 0) 9), .int ((upd (upd (upd s 9 r) 10 dt) 11 0) 10), .int ((upd (upd (upd s 9 r) 10 dt) 11 0) 11), .ref (m + 6), .int ((upd (upd (upd s 9 r) 10 dt) 11 0) 13), .int ((upd (upd (upd s 9 r) 10 dt) 11 0) 14), .ref (m + 7), .int ((upd (upd (upd s 9 r) 10 dt) 11 0) 16), .int ((upd (upd (upd s 9 r) 10 dt) 11 0) 17), .ref (m + 8)])) := by rw [hw_12]; exact va_up_at
  have fr_14 : ∀ q : Nat, ¬ q = m → ω_11.2 q = ω_6.2 q := fun q hq => by rw [hw_12]; exact va_up_off hq
  have z_15 : ω_11.1 = ω_6.1 := by rw [hw_12]
  refine lv_aload_n hx hb dX11_refused_15 rfl (lv_at hl 0 rfl) ?_
  refine lv_iconst (v := 1) hx hb dX11_refused_16 (by decide) ?_
  have f_16 : ω_1.2 (m + 1) = some (.inl (G.2.1 0, 324, .inl g)) := (fr_4 (m + 1) (by omega)).trans m1
  have f_17 : ω_6.2 (m + 1) = some (.inl (G.2.1 0, 324, .inl g)) := (fr_9 (m + 1) (by omega)).trans f_16
  have f_18 : ω_11.2 (m + 1) = some (.inl (G.2.1 0, 324, .inl g)) := (fr_14 (m + 1) (by omega)).trans f_17
  refine fw_call (va_runV (As := [.int 1]) (rest := []) ⟨hx, hb, hml, hown, hts⟩ (c_X11_fails G hL l ω_11 m (upd (upd (upd s 9 r) 10 dt) 11 0) g f_13 f_18 1) (cwV 1 hts gX11_refused_X11_fails rfl rfl rfl (by decide +kernel) ⟨Nat.le_of_ble_eq_true rfl, Nat.le_of_ble_eq_true rfl⟩) (fw_preV hW hK hR f_13 rfl) rfl rfl hl.1 rfl (lv_room (Nat.le_of_ble_eq_true rfl)) dX11_refused_17 ⟨Nat.le_of_ble_eq_true rfl, Nat.le_of_ble_eq_true rfl⟩) hS (fun v_19 ω_20 H locs hq_21 hR hS => ?_)
  obtain ⟨rfl, z_22, f_24, fr_23⟩ := hq_21
  refine W.eq (g2 := F0 mI 20 ls [.int 0]) rfl ?_
  have fr_25 : ∀ q : Nat, ¬ q = m → ω_20.2 q = ω.2 q := by
    intro q h0
    rw [fr_23 q (by omega)]
    rw [fr_14 q (by omega)]
    rw [fr_9 q (by omega)]
    rw [fr_4 q (by omega)]
  have z_26 : ω_20.1 = ω.1 := by rw [z_22, z_15, z_10, z_5]
  refine fw_iret hx hb hr hlocks hR hS dX11_refused_20 ⟨?_, z_26, f_24, fr_25⟩
  · refine congrArg (fun z => some (Value.int z)) ?_
    exact rfl
set_option maxHeartbeats 4000000 in
set_option maxRecDepth 100000 in
theorem c_X11_isLeaflet (G : FG) (hL : FL G) (l : Launch) (ω : FWd) (m : Nat) (s g : Nat → Int32) (m0 : ω.2 m = some (.inr (13, [.ref (m + 1), .ref (m + 2), .ref (m + 3), .int (s 3), .ref (m + 4), .int (s 5), .ref (m + 5), .int (s 7), .int (s 8), .int (s 9), .int (s 10), .int (s 11), .ref (m + 6), .int (s 13), .int (s 14), .ref (m + 7), .int (s 16), .int (s 17), .ref (m + 8)]))) (m1 : ω.2 (m + 1) = some (.inl (G.2.1 0, 324, .inl g))) (x : Int32) : FMet G l yX11_isLeaflet wsX11_isLeaflet ({ frames := 1, cells := 0, slots := 0, locals := 22 } : Room) [.ref m, .int x] ω (rI (bz (inB x 0 (g 0 - 1))) ω) 0 0 := by
  refine fw_ofW (cc := cX11_isLeaflet) (maxL := 2) (ret := (some .boolean)) (by decide) rfl (Nat.le_of_ble_eq_true rfl) ?_
  intro pP eE sS mI ar9 bl9 meth cD ls hx hb hr hlocks hml hts hown hnm hW hR hl
  have hK := hL.K hW
  have hS : va_S (fwA G) sS.heap sS.heap [] := va_S.rf
  have hin11 : ∀ w ∈ u_ws RX11 TX11 19, w ∈ wsX11_isLeaflet := by decide +kernel
  have hl : lv_has ls 2 [(0, .ref m), (1, .int x)] := hl
  refine lv_iload_n hx hb dX11_isLeaflet_0 rfl (lv_at hl 1 rfl) ?_
  refine lv_iconst (v := 0) hx hb dX11_isLeaflet_1 (by decide) ?_
  refine lv_aload_n hx hb dX11_isLeaflet_2 rfl (lv_at hl 0 rfl) ?_
  refine fw_get (v := .ref (m + 1)) (C := RX11) (T := TX11) (N := 19) hx hb hts hin11 hown hK hR m0 rfl 0 (by decide) (hts (.fieldLink RX11 7 "UnreadLeafletsModel" "g" "[I") (by decide +kernel)) rfl dX11_isLeaflet_3 ?_
  refine lv_iconst (v := 0) hx hb dX11_isLeaflet_6 (by decide) ?_
  refine fw_iald hx hb hK hR m1 (vp_in_nI (n := 0) (by omega) (by omega)) dX11_isLeaflet_7 ?_
  refine W.eq (g2 := F0 mI 8 ls [.int (g 0), .int 0, .int x]) (by rw [show (0 : Int32).toNatClampNeg = 0 from rfl]) ?_
  refine lv_iconst (v := 1) hx hb dX11_isLeaflet_8 (by decide) ?_
  refine lv_isub hx hb dX11_isLeaflet_9 ?_
  refine fw_call (va_runS (As := [.int x, .int 0, .int ((g 0) - 1)]) (rest := []) ⟨hx, hb, hml, hown, hts⟩ (c_X11_in G hL l ω x 0 ((g 0) - 1)) (va_cwS 3 hts gX11_isLeaflet_X11_in rfl rfl rfl (by decide +kernel) ⟨Nat.le_of_ble_eq_true rfl, Nat.le_of_ble_eq_true rfl⟩) (fw_preS hW hR) rfl rfl hl.1 rfl (lv_room (Nat.le_of_ble_eq_true rfl)) dX11_isLeaflet_10 ⟨Nat.le_of_ble_eq_true rfl, Nat.le_of_ble_eq_true rfl⟩) hS (fun v_1 ω_2 H locs hq_3 hR hS => ?_)
  obtain ⟨rfl, hq_3⟩ := hq_3
  rw [hq_3] at hR
  refine W.eq (g2 := F0 mI 13 ls [.int (bz (inB x 0 ((g 0) - 1)))]) rfl ?_
  refine fw_zret hx hb hr narrow_bz hlocks hR hS dX11_isLeaflet_13 (rI_mk ?_)
  first | rfl | assumption | (simp_all [inB, hasB, usesB]; done) | omega
set_option maxHeartbeats 4000000 in
set_option maxRecDepth 100000 in
theorem c_X11_isCousin (G : FG) (hL : FL G) (l : Launch) (ω : FWd) (m : Nat) (s g : Nat → Int32) (m0 : ω.2 m = some (.inr (13, [.ref (m + 1), .ref (m + 2), .ref (m + 3), .int (s 3), .ref (m + 4), .int (s 5), .ref (m + 5), .int (s 7), .int (s 8), .int (s 9), .int (s 10), .int (s 11), .ref (m + 6), .int (s 13), .int (s 14), .ref (m + 7), .int (s 16), .int (s 17), .ref (m + 8)]))) (m1 : ω.2 (m + 1) = some (.inl (G.2.1 0, 324, .inl g))) (x : Int32) : FMet G l yX11_isCousin wsX11_isCousin ({ frames := 1, cells := 0, slots := 0, locals := 22 } : Room) [.ref m, .int x] ω (rI (bz (inB x 0 (g 1 - 1))) ω) 0 0 := by
  refine fw_ofW (cc := cX11_isCousin) (maxL := 2) (ret := (some .boolean)) (by decide) rfl (Nat.le_of_ble_eq_true rfl) ?_
  intro pP eE sS mI ar9 bl9 meth cD ls hx hb hr hlocks hml hts hown hnm hW hR hl
  have hK := hL.K hW
  have hS : va_S (fwA G) sS.heap sS.heap [] := va_S.rf
  have hin11 : ∀ w ∈ u_ws RX11 TX11 19, w ∈ wsX11_isCousin := by decide +kernel
  have hl : lv_has ls 2 [(0, .ref m), (1, .int x)] := hl
  refine lv_iload_n hx hb dX11_isCousin_0 rfl (lv_at hl 1 rfl) ?_
  refine lv_iconst (v := 0) hx hb dX11_isCousin_1 (by decide) ?_
  refine lv_aload_n hx hb dX11_isCousin_2 rfl (lv_at hl 0 rfl) ?_
  refine fw_get (v := .ref (m + 1)) (C := RX11) (T := TX11) (N := 19) hx hb hts hin11 hown hK hR m0 rfl 0 (by decide) (hts (.fieldLink RX11 7 "UnreadLeafletsModel" "g" "[I") (by decide +kernel)) rfl dX11_isCousin_3 ?_
  refine lv_iconst (v := 1) hx hb dX11_isCousin_6 (by decide) ?_
  refine fw_iald hx hb hK hR m1 (vp_in_nI (n := 1) (by omega) (by omega)) dX11_isCousin_7 ?_
  refine W.eq (g2 := F0 mI 8 ls [.int (g 1), .int 0, .int x]) (by rw [show (1 : Int32).toNatClampNeg = 1 from rfl]) ?_
  refine lv_iconst (v := 1) hx hb dX11_isCousin_8 (by decide) ?_
  refine lv_isub hx hb dX11_isCousin_9 ?_
  refine fw_call (va_runS (As := [.int x, .int 0, .int ((g 1) - 1)]) (rest := []) ⟨hx, hb, hml, hown, hts⟩ (c_X11_in G hL l ω x 0 ((g 1) - 1)) (va_cwS 3 hts gX11_isCousin_X11_in rfl rfl rfl (by decide +kernel) ⟨Nat.le_of_ble_eq_true rfl, Nat.le_of_ble_eq_true rfl⟩) (fw_preS hW hR) rfl rfl hl.1 rfl (lv_room (Nat.le_of_ble_eq_true rfl)) dX11_isCousin_10 ⟨Nat.le_of_ble_eq_true rfl, Nat.le_of_ble_eq_true rfl⟩) hS (fun v_1 ω_2 H locs hq_3 hR hS => ?_)
  obtain ⟨rfl, hq_3⟩ := hq_3
  rw [hq_3] at hR
  refine W.eq (g2 := F0 mI 13 ls [.int (bz (inB x 0 ((g 1) - 1)))]) rfl ?_
  refine fw_zret hx hb hr narrow_bz hlocks hR hS dX11_isCousin_13 (rI_mk ?_)
  first | rfl | assumption | (simp_all [inB, hasB, usesB]; done) | omega
set_option maxHeartbeats 4000000 in
set_option maxRecDepth 100000 in
theorem c_X11_isStep (G : FG) (hL : FL G) (l : Launch) (ω : FWd) (m : Nat) (s g : Nat → Int32) (m0 : ω.2 m = some (.inr (13, [.ref (m + 1), .ref (m + 2), .ref (m + 3), .int (s 3), .ref (m + 4), .int (s 5), .ref (m + 5), .int (s 7), .int (s 8), .int (s 9), .int (s 10), .int (s 11), .ref (m + 6), .int (s 13), .int (s 14), .ref (m + 7), .int (s 16), .int (s 17), .ref (m + 8)]))) (m1 : ω.2 (m + 1) = some (.inl (G.2.1 0, 324, .inl g))) (k : Nat) (hl8 : k < 8) (x : Int32) : FMet G l yX11_isStep wsX11_isStep ({ frames := 1, cells := 0, slots := 0, locals := 22 } : Room) [.ref m, .int (nI k), .int x] ω (rI (bz (inB x 0 (g (18 + k) - 1))) ω) 0 0 := by
  refine fw_ofW (cc := cX11_isStep) (maxL := 3) (ret := (some .boolean)) (by decide) rfl (Nat.le_of_ble_eq_true rfl) ?_
  intro pP eE sS mI ar9 bl9 meth cD ls hx hb hr hlocks hml hts hown hnm hW hR hl
  have hK := hL.K hW
  have hS : va_S (fwA G) sS.heap sS.heap [] := va_S.rf
  have hin11 : ∀ w ∈ u_ws RX11 TX11 19, w ∈ wsX11_isStep := by decide +kernel
  have hl : lv_has ls 3 [(0, .ref m), (1, .int (nI k)), (2, .int x)] := hl
  refine lv_iload_n hx hb dX11_isStep_0 rfl (lv_at hl 2 rfl) ?_
  refine lv_iconst (v := 0) hx hb dX11_isStep_1 (by decide) ?_
  refine lv_aload_n hx hb dX11_isStep_2 rfl (lv_at hl 0 rfl) ?_
  refine fw_get (v := .ref (m + 1)) (C := RX11) (T := TX11) (N := 19) hx hb hts hin11 hown hK hR m0 rfl 0 (by decide) (hts (.fieldLink RX11 7 "UnreadLeafletsModel" "g" "[I") (by decide +kernel)) rfl dX11_isStep_3 ?_
  refine lv_bipush (v := 18) hx hb dX11_isStep_6 (by decide) ?_
  refine lv_iload_n hx hb dX11_isStep_8 rfl (lv_at hl 1 rfl) ?_
  refine lv_iadd hx hb dX11_isStep_9 ?_
  have hi_1 : 18 + (nI k) = nI (18 + k) := by
    show (nI 18) + (nI k) = _
    simp only [pk_mul, nI_add]
  refine W.eq (g2 := F0 mI 10 ls [.int (nI (18 + k)), .ref (m + 1), .int 0, .int x]) (by rw [hi_1]) ?_
  refine fw_iald hx hb hK hR m1 (vp_in_nI (by omega) (by omega)) dX11_isStep_10 ?_
  refine W.eq (g2 := F0 mI 11 ls [.int (g (18 + k)), .int 0, .int x]) (by rw [nI_clamp (by omega)]) ?_
  refine lv_iconst (v := 1) hx hb dX11_isStep_11 (by decide) ?_
  refine lv_isub hx hb dX11_isStep_12 ?_
  refine fw_call (va_runS (As := [.int x, .int 0, .int ((g (18 + k)) - 1)]) (rest := []) ⟨hx, hb, hml, hown, hts⟩ (c_X11_in G hL l ω x 0 ((g (18 + k)) - 1)) (va_cwS 3 hts gX11_isStep_X11_in rfl rfl rfl (by decide +kernel) ⟨Nat.le_of_ble_eq_true rfl, Nat.le_of_ble_eq_true rfl⟩) (fw_preS hW hR) rfl rfl hl.1 rfl (lv_room (Nat.le_of_ble_eq_true rfl)) dX11_isStep_13 ⟨Nat.le_of_ble_eq_true rfl, Nat.le_of_ble_eq_true rfl⟩) hS (fun v_2 ω_3 H locs hq_4 hR hS => ?_)
  obtain ⟨rfl, hq_4⟩ := hq_4
  rw [hq_4] at hR
  refine W.eq (g2 := F0 mI 16 ls [.int (bz (inB x 0 ((g (18 + k)) - 1)))]) rfl ?_
  refine fw_zret hx hb hr narrow_bz hlocks hR hS dX11_isStep_16 (rI_mk ?_)
  first | rfl | assumption | (simp_all [inB, hasB, usesB]; done) | omega
set_option maxHeartbeats 4000000 in
set_option maxRecDepth 100000 in
theorem c_X11_isKind (G : FG) (hL : FL G) (l : Launch) (ω : FWd) (x : Int32) : FMet G l yX11_isKind wsX11_isKind ({ frames := 1, cells := 0, slots := 0, locals := 22 } : Room) [.int x] ω (rI (bz (inB x 0 5)) ω) 0 0 := by
  refine fw_ofW (cc := cX11_isKind) (maxL := 1) (ret := (some .boolean)) (by decide) rfl (Nat.le_of_ble_eq_true rfl) ?_
  intro pP eE sS mI ar9 bl9 meth cD ls hx hb hr hlocks hml hts hown hnm hW hR hl
  have hK := hL.K hW
  have hS : va_S (fwA G) sS.heap sS.heap [] := va_S.rf
  have hl : lv_has ls 1 [(0, .int x)] := hl
  refine lv_iload_n hx hb dX11_isKind_0 rfl (lv_at hl 0 rfl) ?_
  refine lv_iconst (v := 0) hx hb dX11_isKind_1 (by decide) ?_
  refine lv_iconst (v := 5) hx hb dX11_isKind_2 (by decide) ?_
  refine fw_call (va_runS (As := [.int x, .int 0, .int 5]) (rest := []) ⟨hx, hb, hml, hown, hts⟩ (c_X11_in G hL l ω x 0 5) (va_cwS 3 hts gX11_isKind_X11_in rfl rfl rfl (by decide +kernel) ⟨Nat.le_of_ble_eq_true rfl, Nat.le_of_ble_eq_true rfl⟩) (fw_preS hW hR) rfl rfl hl.1 rfl (lv_room (Nat.le_of_ble_eq_true rfl)) dX11_isKind_3 ⟨Nat.le_of_ble_eq_true rfl, Nat.le_of_ble_eq_true rfl⟩) hS (fun v_1 ω_2 H locs hq_3 hR hS => ?_)
  obtain ⟨rfl, hq_3⟩ := hq_3
  rw [hq_3] at hR
  refine W.eq (g2 := F0 mI 6 ls [.int (bz (inB x 0 5))]) rfl ?_
  refine fw_zret hx hb hr narrow_bz hlocks hR hS dX11_isKind_6 (rI_mk ?_)
  exact rfl
set_option maxHeartbeats 4000000 in
set_option maxRecDepth 100000 in
theorem c_X11_isShelf (G : FG) (hL : FL G) (l : Launch) (ω : FWd) (x : Int32) : FMet G l yX11_isShelf wsX11_isShelf ({ frames := 1, cells := 0, slots := 0, locals := 22 } : Room) [.int x] ω (rI (bz (inB x 0 3)) ω) 0 0 := by
  refine fw_ofW (cc := cX11_isShelf) (maxL := 1) (ret := (some .boolean)) (by decide) rfl (Nat.le_of_ble_eq_true rfl) ?_
  intro pP eE sS mI ar9 bl9 meth cD ls hx hb hr hlocks hml hts hown hnm hW hR hl
  have hK := hL.K hW
  have hS : va_S (fwA G) sS.heap sS.heap [] := va_S.rf
  have hl : lv_has ls 1 [(0, .int x)] := hl
  refine lv_iload_n hx hb dX11_isShelf_0 rfl (lv_at hl 0 rfl) ?_
  refine lv_iconst (v := 0) hx hb dX11_isShelf_1 (by decide) ?_
  refine lv_iconst (v := 3) hx hb dX11_isShelf_2 (by decide) ?_
  refine fw_call (va_runS (As := [.int x, .int 0, .int 3]) (rest := []) ⟨hx, hb, hml, hown, hts⟩ (c_X11_in G hL l ω x 0 3) (va_cwS 3 hts gX11_isShelf_X11_in rfl rfl rfl (by decide +kernel) ⟨Nat.le_of_ble_eq_true rfl, Nat.le_of_ble_eq_true rfl⟩) (fw_preS hW hR) rfl rfl hl.1 rfl (lv_room (Nat.le_of_ble_eq_true rfl)) dX11_isShelf_3 ⟨Nat.le_of_ble_eq_true rfl, Nat.le_of_ble_eq_true rfl⟩) hS (fun v_1 ω_2 H locs hq_3 hR hS => ?_)
  obtain ⟨rfl, hq_3⟩ := hq_3
  rw [hq_3] at hR
  refine W.eq (g2 := F0 mI 6 ls [.int (bz (inB x 0 3))]) rfl ?_
  refine fw_zret hx hb hr narrow_bz hlocks hR hS dX11_isShelf_6 (rI_mk ?_)
  exact rfl
set_option maxHeartbeats 4000000 in
set_option maxRecDepth 100000 in
theorem c_X11_bits (G : FG) (hL : FL G) (l : Launch) (ω : FWd) (x : Int32) : FMet G l yX11_bits wsX11_bits ({ frames := 0, cells := 0, slots := 0, locals := 0 } : Room) [.int x] ω (rI (bitsJ x 8) ω) 0 0 := by
  refine fw_ofW (cc := cX11_bits) (maxL := 3) (ret := (some .int)) (by decide) rfl (Nat.le_of_ble_eq_true rfl) ?_
  intro pP eE sS mI ar9 bl9 meth cD ls hx hb hr hlocks hml hts hown hnm hW hR hl
  have hK := hL.K hW
  have hS : va_S (fwA G) sS.heap sS.heap [] := va_S.rf
  have hl : lv_has ls 3 [(0, .int x)] := hl
  refine lv_iconst (v := 0) hx hb dX11_bits_0 (by decide) ?_
  refine lv_istore_n (lv' := [(1, .int 0), (0, .int x)]) hx hb dX11_bits_1 rfl hl (by decide) rfl (fun ls hl => ?_)
  refine lv_iconst (v := 0) hx hb dX11_bits_2 (by decide) ?_
  refine lv_istore_n (lv' := [(2, .int 0), (1, .int 0), (0, .int x)]) hx hb dX11_bits_3 rfl hl (by decide) rfl (fun ls hl => ?_)
  have loop_1 : ∀ (fu : Nat) (j : Nat), (8 - j) < fu → (j ≤ 8) → ∀ (H : Heap) (locs : List Loc) (ls : Array Slot), fR G ω H → va_S (fwA G) sS.heap H locs → lv_has ls 3 [(2, .int (nI j)), (1, .int (bitsJ x j)), (0, .int x)] → W pP l eE ({ frames := 0, cells := 0, slots := 0, locals := 0 } : Room) sS mI ar9 bl9 meth cD H locs 0 0 (MQ bl9 (fQ G (rI (bitsJ x 8) ω)) ar9 sS 0 0 (fwA G)) (F0 mI 4 ls []) := by
    intro fu
    induction fu with
    | zero => intro j hfu; exact absurd hfu (Nat.not_lt_zero _)
    | succ fu ih =>
      intro j hfu hj H locs ls hR hS hl
      refine lv_iload_n hx hb dX11_bits_4 rfl (lv_at hl 0 rfl) ?_
      refine lv_bipush (v := 8) hx hb dX11_bits_5 (by decide) ?_
      refine lv_icmp_ge (tgt := 24) hx hb dX11_bits_7 (by decide) (fun c_2 => ?_) (fun c_2 => ?_)
      · skip
        have hj2 := lp_ge (n := 8) rfl c_2 (by omega) (by omega)
        have hjn : j = 8 := by omega
        refine lv_iload_n hx hb dX11_bits_24 rfl (lv_at hl 1 rfl) ?_
        refine fw_iret hx hb hr hlocks hR hS dX11_bits_25 (rI_mk ?_)
        rw [hjn]
      · skip
        have hj2 := lp_lt (n := 8) rfl c_2 (by omega) (by omega)
        refine lv_iload_n hx hb dX11_bits_10 rfl (lv_at hl 1 rfl) ?_
        refine lv_iload_n hx hb dX11_bits_11 rfl (lv_at hl 2 rfl) ?_
        refine lv_iload_n hx hb dX11_bits_12 rfl (lv_at hl 0 rfl) ?_
        refine lv_ishr hx hb dX11_bits_13 ?_
        refine lv_iconst (v := 1) hx hb dX11_bits_14 (by decide) ?_
        refine lv_iand hx hb dX11_bits_15 ?_
        refine lv_iadd hx hb dX11_bits_16 ?_
        refine lv_topi (fun x_3 ex_3 => ?_)
        refine lv_istore_n (lv' := [(1, .int x_3), (2, .int (nI j)), (0, .int x)]) hx hb dX11_bits_17 rfl hl (by decide) rfl (fun ls hl => ?_)
        obtain ⟨x_4, ex_4⟩ : ∃ y : Int32, y = (nI j) + 1 := ⟨_, rfl⟩
        refine lv_iinc (v := x_4) (lv' := [(2, .int x_4), (1, .int x_3), (0, .int x)]) hx hb dX11_bits_18 hl (k := 1) rfl (by rw [ex_4]; rfl) (by decide) rfl (fun ls hl => ?_)
        refine lv_goto (tgt := 4) hx hb dX11_bits_21 (by decide) ?_
        have el_2 : x_4 = nI (j + 1) := by rw [ex_4]; exact nI_1 j
        have el_1 : x_3 = bitsJ x (j + 1) := by 
          rw [ex_3]; simp only [bitsJ]; repeat' split
          all_goals first | rfl | contradiction | (exfalso; simp_all; done)
        have hl := lv_sub (l' := [(2, .int x_4), (1, .int x_3), (0, .int x)]) hl [0, 1, 2] rfl
        rw [el_2, el_1] at hl
        exact ih (j + 1) (by omega) (by first | assumption | omega | (simp; done)) _ _ _ hR hS hl
  exact loop_1 _ 0 (Nat.lt_succ_self _) (by first | rfl | assumption | omega | (simp; done)) _ _ _ hR hS (lv_sub hl [0, 1, 2] rfl)
set_option maxHeartbeats 4000000 in
set_option maxRecDepth 100000 in
theorem c_X11_openWith (G : FG) (hL : FL G) (l : Launch) (ω : FWd) (m : Nat) (s g : Nat → Int32) (m0 : ω.2 m = some (.inr (13, [.ref (m + 1), .ref (m + 2), .ref (m + 3), .int (s 3), .ref (m + 4), .int (s 5), .ref (m + 5), .int (s 7), .int (s 8), .int (s 9), .int (s 10), .int (s 11), .ref (m + 6), .int (s 13), .int (s 14), .ref (m + 7), .int (s 16), .int (s 17), .ref (m + 8)]))) (m1 : ω.2 (m + 1) = some (.inl (G.2.1 0, 324, .inl g))) (k : Nat) (hl8 : k < 8) (f : Nat) (hf3 : f ≤ 3) : FMet G l yX11_openWith wsX11_openWith ({ frames := 0, cells := 0, slots := 0, locals := 0 } : Room) [.ref m, .int (nI k), .int (nI f)] ω (rI (openJ (g (18 + k)) f) ω) 0 0 := by
  refine fw_ofW (cc := cX11_openWith) (maxL := 5) (ret := (some .int)) (by decide) rfl (Nat.le_of_ble_eq_true rfl) ?_
  intro pP eE sS mI ar9 bl9 meth cD ls hx hb hr hlocks hml hts hown hnm hW hR hl
  have hK := hL.K hW
  have hS : va_S (fwA G) sS.heap sS.heap [] := va_S.rf
  have hin11 : ∀ w ∈ u_ws RX11 TX11 19, w ∈ wsX11_openWith := by decide +kernel
  have hl : lv_has ls 5 [(0, .ref m), (1, .int (nI k)), (2, .int (nI f))] := hl
  refine lv_aload_n hx hb dX11_openWith_0 rfl (lv_at hl 0 rfl) ?_
  refine fw_get (v := .ref (m + 1)) (C := RX11) (T := TX11) (N := 19) hx hb hts hin11 hown hK hR m0 rfl 0 (by decide) (hts (.fieldLink RX11 7 "UnreadLeafletsModel" "g" "[I") (by decide +kernel)) rfl dX11_openWith_1 ?_
  refine lv_bipush (v := 18) hx hb dX11_openWith_4 (by decide) ?_
  refine lv_iload_n hx hb dX11_openWith_6 rfl (lv_at hl 1 rfl) ?_
  refine lv_iadd hx hb dX11_openWith_7 ?_
  have hi_1 : 18 + (nI k) = nI (18 + k) := by
    show (nI 18) + (nI k) = _
    simp only [pk_mul, nI_add]
  refine W.eq (g2 := F0 mI 8 ls [.int (nI (18 + k)), .ref (m + 1)]) (by rw [hi_1]) ?_
  refine fw_iald hx hb hK hR m1 (vp_in_nI (by omega) (by omega)) dX11_openWith_8 ?_
  refine W.eq (g2 := F0 mI 9 ls [.int (g (18 + k))]) (by rw [nI_clamp (by omega)]) ?_
  refine lv_istore_n (lv' := [(3, .int (g (18 + k))), (0, .ref m), (1, .int (nI k)), (2, .int (nI f))]) hx hb dX11_openWith_9 rfl hl (by decide) rfl (fun ls hl => ?_)
  refine lv_iconst (v := 0) hx hb dX11_openWith_10 (by decide) ?_
  refine lv_istore (lv' := [(4, .int 0), (3, .int (g (18 + k))), (0, .ref m), (1, .int (nI k)), (2, .int (nI f))]) hx hb dX11_openWith_11 hl (by decide) rfl (fun ls hl => ?_)
  have loop_2 : ∀ (fu : Nat) (j : Nat), (f - j) < fu → (j ≤ f) → ∀ (H : Heap) (locs : List Loc) (ls : Array Slot), fR G ω H → va_S (fwA G) sS.heap H locs → lv_has ls 5 [(4, .int (nI j)), (3, .int (openJ (g (18 + k)) j)), (0, .ref m), (1, .int (nI k)), (2, .int (nI f))] → W pP l eE ({ frames := 0, cells := 0, slots := 0, locals := 0 } : Room) sS mI ar9 bl9 meth cD H locs 0 0 (MQ bl9 (fQ G (rI (openJ (g (18 + k)) f) ω)) ar9 sS 0 0 (fwA G)) (F0 mI 13 ls []) := by
    intro fu
    induction fu with
    | zero => intro j hfu; exact absurd hfu (Nat.not_lt_zero _)
    | succ fu ih =>
      intro j hfu hj H locs ls hR hS hl
      refine lv_iload hx hb dX11_openWith_13 (lv_at hl 0 rfl) ?_
      refine lv_iload_n hx hb dX11_openWith_15 rfl (lv_at hl 4 rfl) ?_
      refine lv_icmp_ge (tgt := 31) hx hb dX11_openWith_16 (by decide) (fun c_3 => ?_) (fun c_3 => ?_)
      · skip
        have hj2 := (nI_leI (by omega) (by omega)).mp c_3
        have hjn : j = f := by omega
        refine lv_iload_n hx hb dX11_openWith_31 rfl (lv_at hl 1 rfl) ?_
        refine fw_iret hx hb hr hlocks hR hS dX11_openWith_32 (rI_mk ?_)
        rw [hjn]
      · skip
        have hj2 : j < f := Nat.lt_of_not_le (fun z => c_3 ((nI_leI (by omega) (by omega)).mpr z))
        refine lv_iload_n hx hb dX11_openWith_19 rfl (lv_at hl 1 rfl) ?_
        refine lv_iconst (v := 1) hx hb dX11_openWith_20 (by decide) ?_
        refine lv_iadd hx hb dX11_openWith_21 ?_
        refine lv_iconst (v := 2) hx hb dX11_openWith_22 (by decide) ?_
        refine lv_idiv hx hb dX11_openWith_23 (by decide) ?_
        refine lv_topi (fun x_4 ex_4 => ?_)
        refine lv_istore_n (lv' := [(3, .int x_4), (4, .int (nI j)), (0, .ref m), (1, .int (nI k)), (2, .int (nI f))]) hx hb dX11_openWith_24 rfl hl (by decide) rfl (fun ls hl => ?_)
        obtain ⟨x_5, ex_5⟩ : ∃ y : Int32, y = (nI j) + 1 := ⟨_, rfl⟩
        refine lv_iinc (v := x_5) (lv' := [(4, .int x_5), (3, .int x_4), (0, .ref m), (1, .int (nI k)), (2, .int (nI f))]) hx hb dX11_openWith_25 hl (k := 1) rfl (by rw [ex_5]; rfl) (by decide) rfl (fun ls hl => ?_)
        refine lv_goto (tgt := 13) hx hb dX11_openWith_28 (by decide) ?_
        have el_4 : x_5 = nI (j + 1) := by rw [ex_5]; exact nI_1 j
        have el_3 : x_4 = openJ (g (18 + k)) (j + 1) := by rw [ex_4, openJ]
        have hl := lv_sub (l' := [(4, .int x_5), (3, .int x_4), (0, .ref m), (1, .int (nI k)), (2, .int (nI f))]) hl [0, 1, 2, 3, 4] rfl
        rw [el_4, el_3] at hl
        exact ih (j + 1) (by omega) (by first | assumption | omega | (simp; done)) _ _ _ hR hS hl
  exact loop_2 _ 0 (Nat.lt_succ_self _) (by first | rfl | assumption | omega | (simp; done)) _ _ _ hR hS (lv_sub hl [0, 1, 2, 3, 4] rfl)
set_option maxHeartbeats 4000000 in
set_option maxRecDepth 100000 in
theorem c_X11_open (G : FG) (hL : FL G) (l : Launch) (ω : FWd) (m : Nat) (s g : Nat → Int32) (m0 : ω.2 m = some (.inr (13, [.ref (m + 1), .ref (m + 2), .ref (m + 3), .int (s 3), .ref (m + 4), .int (s 5), .ref (m + 5), .int (s 7), .int (s 8), .int (s 9), .int (s 10), .int (s 11), .ref (m + 6), .int (s 13), .int (s 14), .ref (m + 7), .int (s 16), .int (s 17), .ref (m + 8)]))) (m1 : ω.2 (m + 1) = some (.inl (G.2.1 0, 324, .inl g))) (k : Nat) (hl8 : k < 8) (f : Nat) (hf3 : f ≤ 3) (hff : g (26 + k) = nI f) : FMet G l yX11_open wsX11_open ({ frames := 1, cells := 0, slots := 0, locals := 24 } : Room) [.ref m, .int (nI k)] ω (rI (openJ (g (18 + k)) f) ω) 0 0 := by
  refine fw_ofW (cc := cX11_open) (maxL := 2) (ret := (some .int)) (by decide) rfl (Nat.le_of_ble_eq_true rfl) ?_
  intro pP eE sS mI ar9 bl9 meth cD ls hx hb hr hlocks hml hts hown hnm hW hR hl
  have hK := hL.K hW
  have hS : va_S (fwA G) sS.heap sS.heap [] := va_S.rf
  have hin11 : ∀ w ∈ u_ws RX11 TX11 19, w ∈ wsX11_open := by decide +kernel
  have hl : lv_has ls 2 [(0, .ref m), (1, .int (nI k))] := hl
  refine lv_aload_n hx hb dX11_open_0 rfl (lv_at hl 0 rfl) ?_
  refine lv_iload_n hx hb dX11_open_1 rfl (lv_at hl 1 rfl) ?_
  refine lv_aload_n hx hb dX11_open_2 rfl (lv_at hl 0 rfl) ?_
  refine fw_get (v := .ref (m + 1)) (C := RX11) (T := TX11) (N := 19) hx hb hts hin11 hown hK hR m0 rfl 0 (by decide) (hts (.fieldLink RX11 7 "UnreadLeafletsModel" "g" "[I") (by decide +kernel)) rfl dX11_open_3 ?_
  refine lv_bipush (v := 26) hx hb dX11_open_6 (by decide) ?_
  refine lv_iload_n hx hb dX11_open_8 rfl (lv_at hl 1 rfl) ?_
  refine lv_iadd hx hb dX11_open_9 ?_
  have hi_1 : 26 + (nI k) = nI (26 + k) := by
    show (nI 26) + (nI k) = _
    simp only [pk_mul, nI_add]
  refine W.eq (g2 := F0 mI 10 ls [.int (nI (26 + k)), .ref (m + 1), .int (nI k), .ref m]) (by rw [hi_1]) ?_
  refine fw_iald hx hb hK hR m1 (vp_in_nI (by omega) (by omega)) dX11_open_10 ?_
  refine W.eq (g2 := F0 mI 11 ls [.int (g (26 + k)), .int (nI k), .ref m]) (by rw [nI_clamp (by omega)]) ?_
  refine W.eq (g2 := F0 mI 11 ls [.int (nI f), .int (nI k), .ref m]) (by rw [hff]) ?_
  refine fw_call (va_runV (As := [.int (nI k), .int (nI f)]) (rest := []) ⟨hx, hb, hml, hown, hts⟩ (c_X11_openWith G hL l ω m s g m0 m1 k (by omega) f (by omega)) (cwV 2 hts gX11_open_X11_openWith rfl rfl rfl (by decide +kernel) ⟨Nat.le_of_ble_eq_true rfl, Nat.le_of_ble_eq_true rfl⟩) (fw_preV hW hK hR m0 rfl) rfl rfl hl.1 rfl (lv_room (Nat.le_of_ble_eq_true rfl)) dX11_open_11 ⟨Nat.le_of_ble_eq_true rfl, Nat.le_of_ble_eq_true rfl⟩) hS (fun v_2 ω_3 H locs hq_4 hR hS => ?_)
  obtain ⟨rfl, hq_4⟩ := hq_4
  rw [hq_4] at hR
  refine W.eq (g2 := F0 mI 14 ls [.int (openJ (g (18 + k)) f)]) rfl ?_
  refine fw_iret hx hb hr hlocks hR hS dX11_open_14 (rI_mk ?_)
  exact rfl
set_option maxHeartbeats 4000000 in
set_option maxRecDepth 100000 in
theorem c_X11_partsOf (G : FG) (hL : FL G) (l : Launch) (ω : FWd) (m : Nat) (s g : Nat → Int32) (m0 : ω.2 m = some (.inr (13, [.ref (m + 1), .ref (m + 2), .ref (m + 3), .int (s 3), .ref (m + 4), .int (s 5), .ref (m + 5), .int (s 7), .int (s 8), .int (s 9), .int (s 10), .int (s 11), .ref (m + 6), .int (s 13), .int (s 14), .ref (m + 7), .int (s 16), .int (s 17), .ref (m + 8)]))) (m1 : ω.2 (m + 1) = some (.inl (G.2.1 0, 324, .inl g))) (k : Nat) (hl8 : k < 8) (j : Nat) (hj8 : j < 8) : FMet G l yX11_partsOf wsX11_partsOf ({ frames := 0, cells := 0, slots := 0, locals := 0 } : Room) [.ref m, .int (nI k), .int (nI j)] ω (rI (mP g k j) ω) 0 0 := by
  refine fw_ofW (cc := cX11_partsOf) (maxL := 3) (ret := (some .int)) (by decide) rfl (Nat.le_of_ble_eq_true rfl) ?_
  intro pP eE sS mI ar9 bl9 meth cD ls hx hb hr hlocks hml hts hown hnm hW hR hl
  have hK := hL.K hW
  have hS : va_S (fwA G) sS.heap sS.heap [] := va_S.rf
  have hin11 : ∀ w ∈ u_ws RX11 TX11 19, w ∈ wsX11_partsOf := by decide +kernel
  have hl : lv_has ls 3 [(0, .ref m), (1, .int (nI k)), (2, .int (nI j))] := hl
  refine lv_aload_n hx hb dX11_partsOf_0 rfl (lv_at hl 0 rfl) ?_
  refine fw_get (v := .ref (m + 1)) (C := RX11) (T := TX11) (N := 19) hx hb hts hin11 hown hK hR m0 rfl 0 (by decide) (hts (.fieldLink RX11 7 "UnreadLeafletsModel" "g" "[I") (by decide +kernel)) rfl dX11_partsOf_1 ?_
  refine lv_sipush (v := 132) hx hb dX11_partsOf_4 (by decide) ?_
  refine lv_bipush (v := 8) hx hb dX11_partsOf_7 (by decide) ?_
  refine lv_iload_n hx hb dX11_partsOf_9 rfl (lv_at hl 1 rfl) ?_
  refine lv_imul hx hb dX11_partsOf_10 ?_
  refine lv_iadd hx hb dX11_partsOf_11 ?_
  refine lv_iload_n hx hb dX11_partsOf_12 rfl (lv_at hl 2 rfl) ?_
  refine lv_iadd hx hb dX11_partsOf_13 ?_
  have hi_1 : (132 + (8 * (nI k))) + (nI j) = nI (132 + 8 * k + j) := by
    show ((nI 132) + ((nI 8) * (nI k))) + (nI j) = _
    simp only [pk_mul, nI_add]
  refine W.eq (g2 := F0 mI 14 ls [.int (nI (132 + 8 * k + j)), .ref (m + 1)]) (by rw [hi_1]) ?_
  refine fw_iald hx hb hK hR m1 (vp_in_nI (by omega) (by omega)) dX11_partsOf_14 ?_
  refine W.eq (g2 := F0 mI 15 ls [.int (g (132 + 8 * k + j))]) (by rw [nI_clamp (by omega)]) ?_
  refine lv_iconst (v := 1) hx hb dX11_partsOf_15 (by decide) ?_
  refine lv_aload_n hx hb dX11_partsOf_16 rfl (lv_at hl 0 rfl) ?_
  refine fw_get (v := .ref (m + 1)) (C := RX11) (T := TX11) (N := 19) hx hb hts hin11 hown hK hR m0 rfl 0 (by decide) (hts (.fieldLink RX11 7 "UnreadLeafletsModel" "g" "[I") (by decide +kernel)) rfl dX11_partsOf_17 ?_
  refine lv_sipush (v := 260) hx hb dX11_partsOf_20 (by decide) ?_
  refine lv_bipush (v := 8) hx hb dX11_partsOf_23 (by decide) ?_
  refine lv_iload_n hx hb dX11_partsOf_25 rfl (lv_at hl 1 rfl) ?_
  refine lv_imul hx hb dX11_partsOf_26 ?_
  refine lv_iadd hx hb dX11_partsOf_27 ?_
  refine lv_iload_n hx hb dX11_partsOf_28 rfl (lv_at hl 2 rfl) ?_
  refine lv_iadd hx hb dX11_partsOf_29 ?_
  have hi_2 : (260 + (8 * (nI k))) + (nI j) = nI (260 + 8 * k + j) := by
    show ((nI 260) + ((nI 8) * (nI k))) + (nI j) = _
    simp only [pk_mul, nI_add]
  refine W.eq (g2 := F0 mI 30 ls [.int (nI (260 + 8 * k + j)), .ref (m + 1), .int 1, .int (g (132 + 8 * k + j))]) (by rw [hi_2]) ?_
  refine fw_iald hx hb hK hR m1 (vp_in_nI (by omega) (by omega)) dX11_partsOf_30 ?_
  refine W.eq (g2 := F0 mI 31 ls [.int (g (260 + 8 * k + j)), .int 1, .int (g (132 + 8 * k + j))]) (by rw [nI_clamp (by omega)]) ?_
  refine lv_iadd hx hb dX11_partsOf_31 ?_
  refine lv_imul hx hb dX11_partsOf_32 ?_
  refine fw_iret hx hb hr hlocks hR hS dX11_partsOf_33 (rI_mk ?_)
  rfl
set_option maxHeartbeats 4000000 in
set_option maxRecDepth 100000 in
theorem c_X11_cause (G : FG) (hL : FL G) (l : Launch) (ω : FWd) (m : Nat) (s g : Nat → Int32) (m0 : ω.2 m = some (.inr (13, [.ref (m + 1), .ref (m + 2), .ref (m + 3), .int (s 3), .ref (m + 4), .int (s 5), .ref (m + 5), .int (s 7), .int (s 8), .int (s 9), .int (s 10), .int (s 11), .ref (m + 6), .int (s 13), .int (s 14), .ref (m + 7), .int (s 16), .int (s 17), .ref (m + 8)]))) (m1 : ω.2 (m + 1) = some (.inl (G.2.1 0, 324, .inl g))) (known boast : Int32) (k : Nat) (hl8 : k < 8) (j : Nat) (hj8 : j < 8) (f : Nat) (hf3 : f ≤ 3) : FMet G l yX11_cause wsX11_cause ({ frames := 1, cells := 0, slots := 0, locals := 24 } : Room) [.ref m, .int known, .int boast, .int (nI k), .int (nI j), .int (nI f)] ω (rI (causeM g known boast k j f) ω) 0 0 := by
  refine fw_ofW (cc := cX11_cause) (maxL := 6) (ret := (some .int)) (by decide) rfl (Nat.le_of_ble_eq_true rfl) ?_
  intro pP eE sS mI ar9 bl9 meth cD ls hx hb hr hlocks hml hts hown hnm hW hR hl
  have hK := hL.K hW
  have hS : va_S (fwA G) sS.heap sS.heap [] := va_S.rf
  have hin11 : ∀ w ∈ u_ws RX11 TX11 19, w ∈ wsX11_cause := by decide +kernel
  have hl : lv_has ls 6 [(0, .ref m), (1, .int known), (2, .int boast), (3, .int (nI k)), (4, .int (nI j)), (5, .int (nI f))] := hl
  refine lv_iload hx hb dX11_cause_0 (lv_at hl 4 rfl) ?_
  refine lv_aload_n hx hb dX11_cause_2 rfl (lv_at hl 0 rfl) ?_
  refine lv_iload_n hx hb dX11_cause_3 rfl (lv_at hl 3 rfl) ?_
  refine lv_iload hx hb dX11_cause_4 (lv_at hl 5 rfl) ?_
  refine fw_call (va_runV (As := [.int (nI k), .int (nI f)]) (rest := [.int (nI j)]) ⟨hx, hb, hml, hown, hts⟩ (c_X11_openWith G hL l ω m s g m0 m1 k (by omega) f (by omega)) (cwV 2 hts gX11_cause_X11_openWith rfl rfl rfl (by decide +kernel) ⟨Nat.le_of_ble_eq_true rfl, Nat.le_of_ble_eq_true rfl⟩) (fw_preV hW hK hR m0 rfl) rfl rfl hl.1 rfl (lv_room (Nat.le_of_ble_eq_true rfl)) dX11_cause_6 ⟨Nat.le_of_ble_eq_true rfl, Nat.le_of_ble_eq_true rfl⟩) hS (fun v_1 ω_2 H locs hq_3 hR hS => ?_)
  obtain ⟨rfl, hq_3⟩ := hq_3
  rw [hq_3] at hR
  refine W.eq (g2 := F0 mI 9 ls [.int (openJ (g (18 + k)) f), .int (nI j)]) rfl ?_
  refine lv_icmp_lt (tgt := 14) hx hb dX11_cause_9 (by decide) (fun c_4 => ?_) (fun c_4 => ?_)
  · skip
    refine lv_iload_n hx hb dX11_cause_14 rfl (lv_at hl 1 rfl) ?_
    refine lv_aload_n hx hb dX11_cause_15 rfl (lv_at hl 0 rfl) ?_
    refine fw_get (v := .ref (m + 1)) (C := RX11) (T := TX11) (N := 19) hx hb hts hin11 hown hK hR m0 rfl 0 (by decide) (hts (.fieldLink RX11 7 "UnreadLeafletsModel" "g" "[I") (by decide +kernel)) rfl dX11_cause_16 ?_
    refine lv_sipush (v := 196) hx hb dX11_cause_19 (by decide) ?_
    refine lv_bipush (v := 8) hx hb dX11_cause_22 (by decide) ?_
    refine lv_iload_n hx hb dX11_cause_24 rfl (lv_at hl 3 rfl) ?_
    refine lv_imul hx hb dX11_cause_25 ?_
    refine lv_iadd hx hb dX11_cause_26 ?_
    refine lv_iload hx hb dX11_cause_27 (lv_at hl 4 rfl) ?_
    refine lv_iadd hx hb dX11_cause_29 ?_
    have hi_5 : (196 + (8 * (nI k))) + (nI j) = nI (196 + 8 * k + j) := by
      show ((nI 196) + ((nI 8) * (nI k))) + (nI j) = _
      simp only [pk_mul, nI_add]
    refine W.eq (g2 := F0 mI 30 ls [.int (nI (196 + 8 * k + j)), .ref (m + 1), .int known]) (by rw [hi_5]) ?_
    refine fw_iald hx hb hK hR m1 (vp_in_nI (by omega) (by omega)) dX11_cause_30 ?_
    refine W.eq (g2 := F0 mI 31 ls [.int (g (196 + 8 * k + j)), .int known]) (by rw [nI_clamp (by omega)]) ?_
    refine lv_iand hx hb dX11_cause_31 ?_
    refine lv_if_ne (tgt := 37) hx hb dX11_cause_32 (by decide) (fun c_6 => ?_) (fun c_6 => ?_)
    · skip
      refine lv_aload_n hx hb dX11_cause_37 rfl (lv_at hl 0 rfl) ?_
      refine lv_iload_n hx hb dX11_cause_38 rfl (lv_at hl 3 rfl) ?_
      refine lv_iload hx hb dX11_cause_39 (lv_at hl 4 rfl) ?_
      refine fw_call (va_runV (As := [.int (nI k), .int (nI j)]) (rest := []) ⟨hx, hb, hml, hown, hts⟩ (c_X11_partsOf G hL l ω m s g m0 m1 k (by omega) j (by omega)) (cwV 2 hts gX11_cause_X11_partsOf rfl rfl rfl (by decide +kernel) ⟨Nat.le_of_ble_eq_true rfl, Nat.le_of_ble_eq_true rfl⟩) (fw_preV hW hK hR m0 rfl) rfl rfl hl.1 rfl (lv_room (Nat.le_of_ble_eq_true rfl)) dX11_cause_41 ⟨Nat.le_of_ble_eq_true rfl, Nat.le_of_ble_eq_true rfl⟩) hS (fun v_7 ω_8 H locs hq_9 hR hS => ?_)
      obtain ⟨rfl, hq_9⟩ := hq_9
      rw [hq_9] at hR
      refine W.eq (g2 := F0 mI 44 ls [.int (mP g k j)]) rfl ?_
      refine lv_iload_n hx hb dX11_cause_44 rfl (lv_at hl 2 rfl) ?_
      refine lv_icmp_ge (tgt := 52) hx hb dX11_cause_45 (by decide) (fun c_10 => ?_) (fun c_10 => ?_)
      · skip
        refine lv_iconst (v := 0) hx hb dX11_cause_52 (by decide) ?_
        refine fw_iret hx hb hr hlocks hR hS dX11_cause_53 (rI_mk ?_)
        simp only [causeM, if_pos c_4, if_neg c_6, if_pos c_10]
      · skip
        refine lv_iconst (v := 3) hx hb dX11_cause_48 (by decide) ?_
        refine lv_goto (tgt := 53) hx hb dX11_cause_49 (by decide) ?_
        refine fw_iret hx hb hr hlocks hR hS dX11_cause_53 (rI_mk ?_)
        simp only [causeM, if_pos c_4, if_neg c_6, if_neg c_10]
    · skip
      refine lv_iconst (v := 2) hx hb dX11_cause_35 (by decide) ?_
      refine fw_iret hx hb hr hlocks hR hS dX11_cause_36 (rI_mk ?_)
      simp only [causeM, if_pos c_4, if_pos c_6]
  · skip
    refine lv_iconst (v := 1) hx hb dX11_cause_12 (by decide) ?_
    refine fw_iret hx hb hr hlocks hR hS dX11_cause_13 (rI_mk ?_)
    simp only [causeM, if_neg c_4]
set_option maxHeartbeats 4000000 in
set_option maxRecDepth 100000 in
theorem c_X11_skipsWith (G : FG) (hL : FL G) (l : Launch) (ω : FWd) (m : Nat) (s g : Nat → Int32) (m0 : ω.2 m = some (.inr (13, [.ref (m + 1), .ref (m + 2), .ref (m + 3), .int (s 3), .ref (m + 4), .int (s 5), .ref (m + 5), .int (s 7), .int (s 8), .int (s 9), .int (s 10), .int (s 11), .ref (m + 6), .int (s 13), .int (s 14), .ref (m + 7), .int (s 16), .int (s 17), .ref (m + 8)]))) (m1 : ω.2 (m + 1) = some (.inl (G.2.1 0, 324, .inl g))) (known boast : Int32) (k : Nat) (hl8 : k < 8) (f : Nat) (hf3 : f ≤ 3) (n : Nat) (hn : g (18 + k) = nI n) (hn8 : n ≤ 8) : FMet G l yX11_skipsWith wsX11_skipsWith ({ frames := 2, cells := 0, slots := 0, locals := 49 } : Room) [.ref m, .int known, .int boast, .int (nI k), .int (nI f)] ω (rI (skipM g known boast k f n) ω) 0 0 := by
  refine fw_ofW (cc := cX11_skipsWith) (maxL := 7) (ret := (some .int)) (by decide) rfl (Nat.le_of_ble_eq_true rfl) ?_
  intro pP eE sS mI ar9 bl9 meth cD ls hx hb hr hlocks hml hts hown hnm hW hR hl
  have hK := hL.K hW
  have hS : va_S (fwA G) sS.heap sS.heap [] := va_S.rf
  have hin11 : ∀ w ∈ u_ws RX11 TX11 19, w ∈ wsX11_skipsWith := by decide +kernel
  have hl : lv_has ls 7 [(0, .ref m), (1, .int known), (2, .int boast), (3, .int (nI k)), (4, .int (nI f))] := hl
  refine lv_iconst (v := 0) hx hb dX11_skipsWith_0 (by decide) ?_
  refine lv_istore (lv' := [(5, .int 0), (0, .ref m), (1, .int known), (2, .int boast), (3, .int (nI k)), (4, .int (nI f))]) hx hb dX11_skipsWith_1 hl (by decide) rfl (fun ls hl => ?_)
  refine lv_iconst (v := 0) hx hb dX11_skipsWith_3 (by decide) ?_
  refine lv_istore (lv' := [(6, .int 0), (5, .int 0), (0, .ref m), (1, .int known), (2, .int boast), (3, .int (nI k)), (4, .int (nI f))]) hx hb dX11_skipsWith_4 hl (by decide) rfl (fun ls hl => ?_)
  have loop_1 : ∀ (fu : Nat) (j : Nat), (n - j) < fu → (j ≤ n) → ∀ (H : Heap) (locs : List Loc) (ls : Array Slot), fR G ω H → va_S (fwA G) sS.heap H locs → lv_has ls 7 [(6, .int (nI j)), (5, .int (skipM g known boast k f j)), (0, .ref m), (1, .int known), (2, .int boast), (3, .int (nI k)), (4, .int (nI f))] → W pP l eE ({ frames := 2, cells := 0, slots := 0, locals := 49 } : Room) sS mI ar9 bl9 meth cD H locs 0 0 (MQ bl9 (fQ G (rI (skipM g known boast k f n) ω)) ar9 sS 0 0 (fwA G)) (F0 mI 6 ls []) := by
    intro fu
    induction fu with
    | zero => intro j hfu; exact absurd hfu (Nat.not_lt_zero _)
    | succ fu ih =>
      intro j hfu hj H locs ls hR hS hl
      refine lv_iload hx hb dX11_skipsWith_6 (lv_at hl 0 rfl) ?_
      refine lv_aload_n hx hb dX11_skipsWith_8 rfl (lv_at hl 2 rfl) ?_
      refine fw_get (v := .ref (m + 1)) (C := RX11) (T := TX11) (N := 19) hx hb hts hin11 hown hK hR m0 rfl 0 (by decide) (hts (.fieldLink RX11 7 "UnreadLeafletsModel" "g" "[I") (by decide +kernel)) rfl dX11_skipsWith_9 ?_
      refine lv_bipush (v := 18) hx hb dX11_skipsWith_12 (by decide) ?_
      refine lv_iload_n hx hb dX11_skipsWith_14 rfl (lv_at hl 5 rfl) ?_
      refine lv_iadd hx hb dX11_skipsWith_15 ?_
      have hi_2 : 18 + (nI k) = nI (18 + k) := by
        show (nI 18) + (nI k) = _
        simp only [pk_mul, nI_add]
      refine W.eq (g2 := F0 mI 16 ls [.int (nI (18 + k)), .ref (m + 1), .int (nI j)]) (by rw [hi_2]) ?_
      refine fw_iald hx hb hK hR m1 (vp_in_nI (by omega) (by omega)) dX11_skipsWith_16 ?_
      refine W.eq (g2 := F0 mI 17 ls [.int (g (18 + k)), .int (nI j)]) (by rw [nI_clamp (by omega)]) ?_
      refine lv_icmp_ge (tgt := 53) hx hb dX11_skipsWith_17 (by decide) (fun c_3 => ?_) (fun c_3 => ?_)
      · skip
        have hj2 := lp_ge hn c_3 (by omega) (by omega)
        have hjn : j = n := by omega
        refine lv_iload hx hb dX11_skipsWith_53 (lv_at hl 1 rfl) ?_
        refine fw_iret hx hb hr hlocks hR hS dX11_skipsWith_55 (rI_mk ?_)
        rw [hjn]
      · skip
        have hj2 := lp_lt hn c_3 (by omega) (by omega)
        refine lv_iload hx hb dX11_skipsWith_20 (lv_at hl 1 rfl) ?_
        refine lv_aload_n hx hb dX11_skipsWith_22 rfl (lv_at hl 2 rfl) ?_
        refine lv_iload_n hx hb dX11_skipsWith_23 rfl (lv_at hl 3 rfl) ?_
        refine lv_iload_n hx hb dX11_skipsWith_24 rfl (lv_at hl 4 rfl) ?_
        refine lv_iload_n hx hb dX11_skipsWith_25 rfl (lv_at hl 5 rfl) ?_
        refine lv_iload hx hb dX11_skipsWith_26 (lv_at hl 0 rfl) ?_
        refine lv_iload hx hb dX11_skipsWith_28 (lv_at hl 6 rfl) ?_
        refine fw_call (va_runV (As := [.int known, .int boast, .int (nI k), .int (nI j), .int (nI f)]) (rest := [.int (skipM g known boast k f j)]) ⟨hx, hb, hml, hown, hts⟩ (c_X11_cause G hL l ω m s g m0 m1 known boast k (by omega) j (by omega) f (by omega)) (cwV 5 hts gX11_skipsWith_X11_cause rfl rfl rfl (by decide +kernel) ⟨Nat.le_of_ble_eq_true rfl, Nat.le_of_ble_eq_true rfl⟩) (fw_preV hW hK hR m0 rfl) rfl rfl hl.1 rfl (lv_room (Nat.le_of_ble_eq_true rfl)) dX11_skipsWith_30 ⟨Nat.le_of_ble_eq_true rfl, Nat.le_of_ble_eq_true rfl⟩) hS (fun v_4 ω_5 H locs hq_6 hR hS => ?_)
        obtain ⟨rfl, hq_6⟩ := hq_6
        rw [hq_6] at hR
        refine W.eq (g2 := F0 mI 33 ls [.int (causeM g known boast k j f), .int (skipM g known boast k f j)]) rfl ?_
        refine lv_if_ne (tgt := 40) hx hb dX11_skipsWith_33 (by decide) (fun c_7 => ?_) (fun c_7 => ?_)
        · skip
          refine lv_iconst (v := 1) hx hb dX11_skipsWith_40 (by decide) ?_
          refine lv_iload hx hb dX11_skipsWith_41 (lv_at hl 0 rfl) ?_
          refine lv_ishl hx hb dX11_skipsWith_43 ?_
          refine lv_ior hx hb dX11_skipsWith_44 ?_
          refine lv_topi (fun x_8 ex_8 => ?_)
          refine lv_istore (lv' := [(5, .int x_8), (6, .int (nI j)), (0, .ref m), (1, .int known), (2, .int boast), (3, .int (nI k)), (4, .int (nI f))]) hx hb dX11_skipsWith_45 hl (by decide) rfl (fun ls hl => ?_)
          obtain ⟨x_9, ex_9⟩ : ∃ y : Int32, y = (nI j) + 1 := ⟨_, rfl⟩
          refine lv_iinc (v := x_9) (lv' := [(6, .int x_9), (5, .int x_8), (0, .ref m), (1, .int known), (2, .int boast), (3, .int (nI k)), (4, .int (nI f))]) hx hb dX11_skipsWith_47 hl (k := 1) rfl (by rw [ex_9]; rfl) (by decide) rfl (fun ls hl => ?_)
          refine lv_goto (tgt := 6) hx hb dX11_skipsWith_50 (by decide) ?_
          have el_6 : x_9 = nI (j + 1) := by rw [ex_9]; exact nI_1 j
          have el_5 : x_8 = skipM g known boast k f (j + 1) := by 
            rw [ex_8]; simp only [skipM]; repeat' split
            all_goals first | rfl | contradiction | (exfalso; simp_all; done)
          have hl := lv_sub (l' := [(6, .int x_9), (5, .int x_8), (0, .ref m), (1, .int known), (2, .int boast), (3, .int (nI k)), (4, .int (nI f))]) hl [0, 1, 2, 3, 4, 5, 6] rfl
          rw [el_6, el_5] at hl
          exact ih (j + 1) (by omega) (by first | assumption | omega | (simp; done)) _ _ _ hR hS hl
        · skip
          refine lv_iconst (v := 0) hx hb dX11_skipsWith_36 (by decide) ?_
          refine lv_goto (tgt := 44) hx hb dX11_skipsWith_37 (by decide) ?_
          refine lv_ior hx hb dX11_skipsWith_44 ?_
          refine lv_topi (fun x_10 ex_10 => ?_)
          refine lv_istore (lv' := [(5, .int x_10), (6, .int (nI j)), (0, .ref m), (1, .int known), (2, .int boast), (3, .int (nI k)), (4, .int (nI f))]) hx hb dX11_skipsWith_45 hl (by decide) rfl (fun ls hl => ?_)
          obtain ⟨x_11, ex_11⟩ : ∃ y : Int32, y = (nI j) + 1 := ⟨_, rfl⟩
          refine lv_iinc (v := x_11) (lv' := [(6, .int x_11), (5, .int x_10), (0, .ref m), (1, .int known), (2, .int boast), (3, .int (nI k)), (4, .int (nI f))]) hx hb dX11_skipsWith_47 hl (k := 1) rfl (by rw [ex_11]; rfl) (by decide) rfl (fun ls hl => ?_)
          refine lv_goto (tgt := 6) hx hb dX11_skipsWith_50 (by decide) ?_
          have el_6 : x_11 = nI (j + 1) := by rw [ex_11]; exact nI_1 j
          have el_5 : x_10 = skipM g known boast k f (j + 1) := by 
            rw [ex_10]; simp only [skipM]; repeat' split
            all_goals first | rfl | contradiction | (exfalso; simp_all; done)
          have hl := lv_sub (l' := [(6, .int x_11), (5, .int x_10), (0, .ref m), (1, .int known), (2, .int boast), (3, .int (nI k)), (4, .int (nI f))]) hl [0, 1, 2, 3, 4, 5, 6] rfl
          rw [el_6, el_5] at hl
          exact ih (j + 1) (by omega) (by first | assumption | omega | (simp; done)) _ _ _ hR hS hl
  exact loop_1 _ 0 (Nat.lt_succ_self _) (by first | rfl | assumption | omega | (simp; done)) _ _ _ hR hS (lv_sub hl [0, 1, 2, 3, 4, 5, 6] rfl)
set_option maxHeartbeats 4000000 in
set_option maxRecDepth 100000 in
theorem c_X11_skips (G : FG) (hL : FL G) (l : Launch) (ω : FWd) (m : Nat) (s g : Nat → Int32) (m0 : ω.2 m = some (.inr (13, [.ref (m + 1), .ref (m + 2), .ref (m + 3), .int (s 3), .ref (m + 4), .int (s 5), .ref (m + 5), .int (s 7), .int (s 8), .int (s 9), .int (s 10), .int (s 11), .ref (m + 6), .int (s 13), .int (s 14), .ref (m + 7), .int (s 16), .int (s 17), .ref (m + 8)]))) (m1 : ω.2 (m + 1) = some (.inl (G.2.1 0, 324, .inl g))) (c : Nat) (hc5 : c < 5) (k : Nat) (hl8 : k < 8) (f : Nat) (hf3 : f ≤ 3) (hff : g (26 + k) = nI f) (n : Nat) (hn : g (18 + k) = nI n) (hn8 : n ≤ 8) : FMet G l yX11_skips wsX11_skips ({ frames := 3, cells := 0, slots := 0, locals := 75 } : Room) [.ref m, .int (nI c), .int (nI k)] ω (rI (skipM g (g (63 + c)) (g (58 + c)) k f n) ω) 0 0 := by
  refine fw_ofW (cc := cX11_skips) (maxL := 3) (ret := (some .int)) (by decide) rfl (Nat.le_of_ble_eq_true rfl) ?_
  intro pP eE sS mI ar9 bl9 meth cD ls hx hb hr hlocks hml hts hown hnm hW hR hl
  have hK := hL.K hW
  have hS : va_S (fwA G) sS.heap sS.heap [] := va_S.rf
  have hin11 : ∀ w ∈ u_ws RX11 TX11 19, w ∈ wsX11_skips := by decide +kernel
  have hl : lv_has ls 3 [(0, .ref m), (1, .int (nI c)), (2, .int (nI k))] := hl
  refine lv_aload_n hx hb dX11_skips_0 rfl (lv_at hl 0 rfl) ?_
  refine lv_aload_n hx hb dX11_skips_1 rfl (lv_at hl 0 rfl) ?_
  refine fw_get (v := .ref (m + 1)) (C := RX11) (T := TX11) (N := 19) hx hb hts hin11 hown hK hR m0 rfl 0 (by decide) (hts (.fieldLink RX11 7 "UnreadLeafletsModel" "g" "[I") (by decide +kernel)) rfl dX11_skips_2 ?_
  refine lv_bipush (v := 63) hx hb dX11_skips_5 (by decide) ?_
  refine lv_iload_n hx hb dX11_skips_7 rfl (lv_at hl 1 rfl) ?_
  refine lv_iadd hx hb dX11_skips_8 ?_
  have hi_1 : 63 + (nI c) = nI (63 + c) := by
    show (nI 63) + (nI c) = _
    simp only [pk_mul, nI_add]
  refine W.eq (g2 := F0 mI 9 ls [.int (nI (63 + c)), .ref (m + 1), .ref m]) (by rw [hi_1]) ?_
  refine fw_iald hx hb hK hR m1 (vp_in_nI (by omega) (by omega)) dX11_skips_9 ?_
  refine W.eq (g2 := F0 mI 10 ls [.int (g (63 + c)), .ref m]) (by rw [nI_clamp (by omega)]) ?_
  refine lv_aload_n hx hb dX11_skips_10 rfl (lv_at hl 0 rfl) ?_
  refine fw_get (v := .ref (m + 1)) (C := RX11) (T := TX11) (N := 19) hx hb hts hin11 hown hK hR m0 rfl 0 (by decide) (hts (.fieldLink RX11 7 "UnreadLeafletsModel" "g" "[I") (by decide +kernel)) rfl dX11_skips_11 ?_
  refine lv_bipush (v := 58) hx hb dX11_skips_14 (by decide) ?_
  refine lv_iload_n hx hb dX11_skips_16 rfl (lv_at hl 1 rfl) ?_
  refine lv_iadd hx hb dX11_skips_17 ?_
  have hi_2 : 58 + (nI c) = nI (58 + c) := by
    show (nI 58) + (nI c) = _
    simp only [pk_mul, nI_add]
  refine W.eq (g2 := F0 mI 18 ls [.int (nI (58 + c)), .ref (m + 1), .int (g (63 + c)), .ref m]) (by rw [hi_2]) ?_
  refine fw_iald hx hb hK hR m1 (vp_in_nI (by omega) (by omega)) dX11_skips_18 ?_
  refine W.eq (g2 := F0 mI 19 ls [.int (g (58 + c)), .int (g (63 + c)), .ref m]) (by rw [nI_clamp (by omega)]) ?_
  refine lv_iload_n hx hb dX11_skips_19 rfl (lv_at hl 2 rfl) ?_
  refine lv_aload_n hx hb dX11_skips_20 rfl (lv_at hl 0 rfl) ?_
  refine fw_get (v := .ref (m + 1)) (C := RX11) (T := TX11) (N := 19) hx hb hts hin11 hown hK hR m0 rfl 0 (by decide) (hts (.fieldLink RX11 7 "UnreadLeafletsModel" "g" "[I") (by decide +kernel)) rfl dX11_skips_21 ?_
  refine lv_bipush (v := 26) hx hb dX11_skips_24 (by decide) ?_
  refine lv_iload_n hx hb dX11_skips_26 rfl (lv_at hl 2 rfl) ?_
  refine lv_iadd hx hb dX11_skips_27 ?_
  have hi_3 : 26 + (nI k) = nI (26 + k) := by
    show (nI 26) + (nI k) = _
    simp only [pk_mul, nI_add]
  refine W.eq (g2 := F0 mI 28 ls [.int (nI (26 + k)), .ref (m + 1), .int (nI k), .int (g (58 + c)), .int (g (63 + c)), .ref m]) (by rw [hi_3]) ?_
  refine fw_iald hx hb hK hR m1 (vp_in_nI (by omega) (by omega)) dX11_skips_28 ?_
  refine W.eq (g2 := F0 mI 29 ls [.int (g (26 + k)), .int (nI k), .int (g (58 + c)), .int (g (63 + c)), .ref m]) (by rw [nI_clamp (by omega)]) ?_
  refine W.eq (g2 := F0 mI 29 ls [.int (nI f), .int (nI k), .int (g (58 + c)), .int (g (63 + c)), .ref m]) (by rw [hff]) ?_
  refine fw_call (va_runV (As := [.int (g (63 + c)), .int (g (58 + c)), .int (nI k), .int (nI f)]) (rest := []) ⟨hx, hb, hml, hown, hts⟩ (c_X11_skipsWith G hL l ω m s g m0 m1 (g (63 + c)) (g (58 + c)) k (by omega) f (by omega) n hn hn8) (cwV 4 hts gX11_skips_X11_skipsWith rfl rfl rfl (by decide +kernel) ⟨Nat.le_of_ble_eq_true rfl, Nat.le_of_ble_eq_true rfl⟩) (fw_preV hW hK hR m0 rfl) rfl rfl hl.1 rfl (lv_room (Nat.le_of_ble_eq_true rfl)) dX11_skips_29 ⟨Nat.le_of_ble_eq_true rfl, Nat.le_of_ble_eq_true rfl⟩) hS (fun v_4 ω_5 H locs hq_6 hR hS => ?_)
  obtain ⟨rfl, hq_6⟩ := hq_6
  rw [hq_6] at hR
  refine W.eq (g2 := F0 mI 32 ls [.int (skipM g (g (63 + c)) (g (58 + c)) k f n)]) rfl ?_
  refine fw_iret hx hb hr hlocks hR hS dX11_skips_32 (rI_mk ?_)
  exact rfl
set_option maxHeartbeats 4000000 in
set_option maxRecDepth 100000 in
theorem c_X11_needsFor (G : FG) (hL : FL G) (l : Launch) (ω : FWd) (m : Nat) (s g : Nat → Int32) (m0 : ω.2 m = some (.inr (13, [.ref (m + 1), .ref (m + 2), .ref (m + 3), .int (s 3), .ref (m + 4), .int (s 5), .ref (m + 5), .int (s 7), .int (s 8), .int (s 9), .int (s 10), .int (s 11), .ref (m + 6), .int (s 13), .int (s 14), .ref (m + 7), .int (s 16), .int (s 17), .ref (m + 8)]))) (m1 : ω.2 (m + 1) = some (.inl (G.2.1 0, 324, .inl g))) (nd : Nat → Int32) (m7 : ω.2 (m + 7) = some (.inl (G.2.1 0, 6, .inl nd))) (k : Nat) (hl8 : k < 8) (set : Int32) (n : Nat) (hn : g (18 + k) = nI n) (hn8 : n ≤ 8) (hkd : ∀ j, j < n → g (68 + 8 * k + j) = nI (cN (g (68 + 8 * k + j))) ∧ cN (g (68 + 8 * k + j)) < 6) : FMet G l yX11_needsFor wsX11_needsFor ({ frames := 1, cells := 0, slots := 0, locals := 22 } : Room) [.ref m, .int (nI k), .int set] ω (fun vv9 τ9 => vv9 = some (.int (sumM g k set n)) ∧ τ9.1 = ω.1 ∧ τ9.2 (m + 7) = some (.inl (G.2.1 0, 6, .inl (needM g k set (clrJ nd 6) n))) ∧ ∀ q : Nat, ¬ q = (m + 7) → τ9.2 q = ω.2 q) 0 0 := by
  refine fw_ofW (cc := cX11_needsFor) (maxL := 7) (ret := (some .int)) (by decide) rfl (Nat.le_of_ble_eq_true rfl) ?_
  intro pP eE sS mI ar9 bl9 meth cD ls hx hb hr hlocks hml hts hown hnm hW hR hl
  have hK := hL.K hW
  have hS : va_S (fwA G) sS.heap sS.heap [] := va_S.rf
  have hin11 : ∀ w ∈ u_ws RX11 TX11 19, w ∈ wsX11_needsFor := by decide +kernel
  have hl : lv_has ls 7 [(0, .ref m), (1, .int (nI k)), (2, .int set)] := hl
  refine lv_iconst (v := 0) hx hb dX11_needsFor_0 (by decide) ?_
  refine lv_istore_n (lv' := [(3, .int 0), (0, .ref m), (1, .int (nI k)), (2, .int set)]) hx hb dX11_needsFor_1 rfl hl (by decide) rfl (fun ls hl => ?_)
  have loop_1 : ∀ (fu : Nat) (i : Nat) (τ1 : FWd), (6 - i) < fu → (i ≤ 6) → τ1.1 = ω.1 → τ1.2 (m + 7) = some (.inl (G.2.1 0, 6, .inl (clrJ nd i))) → (∀ q : Nat, ¬ q = (m + 7) → τ1.2 q = ω.2 q) → ∀ (H : Heap) (locs : List Loc) (ls : Array Slot), fR G τ1 H → va_S (fwA G) sS.heap H locs → lv_has ls 7 [(3, .int (nI i)), (0, .ref m), (1, .int (nI k)), (2, .int set)] → W pP l eE ({ frames := 1, cells := 0, slots := 0, locals := 22 } : Room) sS mI ar9 bl9 meth cD H locs 0 0 (MQ bl9 (fQ G (fun vv9 τ9 => vv9 = some (.int (sumM g k set n)) ∧ τ9.1 = ω.1 ∧ τ9.2 (m + 7) = some (.inl (G.2.1 0, 6, .inl (needM g k set (clrJ nd 6) n))) ∧ ∀ q : Nat, ¬ q = (m + 7) → τ9.2 q = ω.2 q)) ar9 sS 0 0 (fwA G)) (F0 mI 2 ls []) := by
    intro fu
    induction fu with
    | zero => intro i τ1 hfu; exact absurd hfu (Nat.not_lt_zero _)
    | succ fu ih =>
      intro i τ1 hfu hi hzτ1 w7 hfrτ1 H locs ls hR hS hl
      refine lv_iload_n hx hb dX11_needsFor_2 rfl (lv_at hl 0 rfl) ?_
      refine lv_bipush (v := 6) hx hb dX11_needsFor_3 (by decide) ?_
      refine lv_icmp_ge (tgt := 21) hx hb dX11_needsFor_5 (by decide) (fun c_2 => ?_) (fun c_2 => ?_)
      · skip
        have hi2 := lp_ge (n := 6) rfl c_2 (by omega) (by omega)
        have hin : i = 6 := by omega
        subst hin
        refine lv_iconst (v := 0) hx hb dX11_needsFor_21 (by decide) ?_
        refine lv_istore_n (lv' := [(3, .int 0), (0, .ref m), (1, .int (nI k)), (2, .int set)]) hx hb dX11_needsFor_22 rfl hl (by decide) rfl (fun ls hl => ?_)
        refine lv_iconst (v := 0) hx hb dX11_needsFor_23 (by decide) ?_
        refine lv_istore (lv' := [(4, .int 0), (3, .int 0), (0, .ref m), (1, .int (nI k)), (2, .int set)]) hx hb dX11_needsFor_24 hl (by decide) rfl (fun ls hl => ?_)
        have loop_3 : ∀ (fu : Nat) (j : Nat) (τ2 : FWd), (n - j) < fu → (j ≤ n) → τ2.1 = τ1.1 → τ2.2 (m + 7) = some (.inl (G.2.1 0, 6, .inl (needM g k set (clrJ nd 6) j))) → (∀ q : Nat, ¬ q = (m + 7) → τ2.2 q = τ1.2 q) → ∀ (H : Heap) (locs : List Loc) (ls : Array Slot), fR G τ2 H → va_S (fwA G) sS.heap H locs → lv_has ls 7 [(4, .int (nI j)), (3, .int (sumM g k set j)), (0, .ref m), (1, .int (nI k)), (2, .int set)] → W pP l eE ({ frames := 1, cells := 0, slots := 0, locals := 22 } : Room) sS mI ar9 bl9 meth cD H locs 0 0 (MQ bl9 (fQ G (fun vv9 τ9 => vv9 = some (.int (sumM g k set n)) ∧ τ9.1 = ω.1 ∧ τ9.2 (m + 7) = some (.inl (G.2.1 0, 6, .inl (needM g k set (clrJ nd 6) n))) ∧ ∀ q : Nat, ¬ q = (m + 7) → τ9.2 q = ω.2 q)) ar9 sS 0 0 (fwA G)) (F0 mI 26 ls []) := by
          intro fu
          induction fu with
          | zero => intro j τ2 hfu; exact absurd hfu (Nat.not_lt_zero _)
          | succ fu ih =>
            intro j τ2 hfu hj hzτ2 v7 hfrτ2 H locs ls hR hS hl
            refine lv_iload hx hb dX11_needsFor_26 (lv_at hl 0 rfl) ?_
            refine lv_aload_n hx hb dX11_needsFor_28 rfl (lv_at hl 2 rfl) ?_
            have f_4 : τ1.2 m = some (.inr (13, [.ref (m + 1), .ref (m + 2), .ref (m + 3), .int (s 3), .ref (m + 4), .int (s 5), .ref (m + 5), .int (s 7), .int (s 8), .int (s 9), .int (s 10), .int (s 11), .ref (m + 6), .int (s 13), .int (s 14), .ref (m + 7), .int (s 16), .int (s 17), .ref (m + 8)])) := (hfrτ1 m (by omega)).trans m0
            have f_5 : τ2.2 m = some (.inr (13, [.ref (m + 1), .ref (m + 2), .ref (m + 3), .int (s 3), .ref (m + 4), .int (s 5), .ref (m + 5), .int (s 7), .int (s 8), .int (s 9), .int (s 10), .int (s 11), .ref (m + 6), .int (s 13), .int (s 14), .ref (m + 7), .int (s 16), .int (s 17), .ref (m + 8)])) := (hfrτ2 m (by omega)).trans f_4
            refine fw_get (v := .ref (m + 1)) (C := RX11) (T := TX11) (N := 19) hx hb hts hin11 hown hK hR f_5 rfl 0 (by decide) (hts (.fieldLink RX11 7 "UnreadLeafletsModel" "g" "[I") (by decide +kernel)) rfl dX11_needsFor_29 ?_
            refine lv_bipush (v := 18) hx hb dX11_needsFor_32 (by decide) ?_
            refine lv_iload_n hx hb dX11_needsFor_34 rfl (lv_at hl 3 rfl) ?_
            refine lv_iadd hx hb dX11_needsFor_35 ?_
            have hi_6 : 18 + (nI k) = nI (18 + k) := by
              show (nI 18) + (nI k) = _
              simp only [pk_mul, nI_add]
            refine W.eq (g2 := F0 mI 36 ls [.int (nI (18 + k)), .ref (m + 1), .int (nI j)]) (by rw [hi_6]) ?_
            have f_7 : τ1.2 (m + 1) = some (.inl (G.2.1 0, 324, .inl g)) := (hfrτ1 (m + 1) (by omega)).trans m1
            have f_8 : τ2.2 (m + 1) = some (.inl (G.2.1 0, 324, .inl g)) := (hfrτ2 (m + 1) (by omega)).trans f_7
            refine fw_iald hx hb hK hR f_8 (vp_in_nI (by omega) (by omega)) dX11_needsFor_36 ?_
            refine W.eq (g2 := F0 mI 37 ls [.int (g (18 + k)), .int (nI j)]) (by rw [nI_clamp (by omega)]) ?_
            refine lv_icmp_ge (tgt := 147) hx hb dX11_needsFor_37 (by decide) (fun c_9 => ?_) (fun c_9 => ?_)
            · skip
              have hj2 := lp_ge hn c_9 (by omega) (by omega)
              have hjn : j = n := by omega
              refine lv_iload_n hx hb dX11_needsFor_147 rfl (lv_at hl 1 rfl) ?_
              have fr_10 : ∀ q : Nat, ¬ q = (m + 7) → τ2.2 q = ω.2 q := by
                intro q h0
                rw [hfrτ2 q (by omega)]
                rw [hfrτ1 q (by omega)]
              have z_11 : τ2.1 = ω.1 := by rw [hzτ2, hzτ1]
              refine fw_iret hx hb hr hlocks hR hS dX11_needsFor_148 ⟨?_, z_11, ?_, fr_10⟩
              · refine congrArg (fun z => some (Value.int z)) ?_
                rw [hjn]
              · refine v7.trans (congrArg some ?_)
                rw [hjn]
            · skip
              have hj2 := lp_lt hn c_9 (by omega) (by omega)
              refine lv_iload_n hx hb dX11_needsFor_40 rfl (lv_at hl 4 rfl) ?_
              refine lv_iload hx hb dX11_needsFor_41 (lv_at hl 0 rfl) ?_
              refine lv_ishr hx hb dX11_needsFor_43 ?_
              refine lv_iconst (v := 1) hx hb dX11_needsFor_44 (by decide) ?_
              refine lv_iand hx hb dX11_needsFor_45 ?_
              refine lv_iconst (v := 1) hx hb dX11_needsFor_46 (by decide) ?_
              refine lv_icmp_ne (tgt := 141) hx hb dX11_needsFor_47 (by decide) (fun c_12 => ?_) (fun c_12 => ?_)
              · skip
                obtain ⟨x_13, ex_13⟩ : ∃ y : Int32, y = (nI j) + 1 := ⟨_, rfl⟩
                refine lv_iinc (v := x_13) (lv' := [(4, .int x_13), (3, .int (sumM g k set j)), (0, .ref m), (1, .int (nI k)), (2, .int set)]) hx hb dX11_needsFor_141 hl (k := 0) rfl (by rw [ex_13]; rfl) (by decide) rfl (fun ls hl => ?_)
                refine lv_goto (tgt := 26) hx hb dX11_needsFor_144 (by decide) ?_
                have el_4 : x_13 = nI (j + 1) := by rw [ex_13]; exact nI_1 j
                have el_3 : sumM g k set j = sumM g k set (j + 1) := by 
                  simp only [sumM]; repeat' split
                  all_goals first | rfl | contradiction | (exfalso; simp_all; done)
                have hl := lv_sub (l' := [(4, .int x_13), (3, .int (sumM g k set j)), (0, .ref m), (1, .int (nI k)), (2, .int set)]) hl [0, 1, 2, 3, 4] rfl
                rw [el_4, el_3] at hl
                have wf_14 : τ2.2 (m + 7) = some (.inl (G.2.1 0, 6, .inl (needM g k set (clrJ nd 6) (j + 1)))) := v7.trans (congrArg some (by simp only [needM, if_neg c_12]))
                have fr_15 : ∀ q : Nat, ¬ q = (m + 7) → τ2.2 q = τ1.2 q := by
                  intro q h0
                  rw [hfrτ2 q (by omega)]
                have z_16 : τ2.1 = τ1.1 := by rw [hzτ2]
                exact ih (j + 1) τ2 (by omega) (by first | assumption | omega | (simp; done)) z_16 wf_14 fr_15 _ _ _ hR hS hl
              · skip
                refine lv_aload_n hx hb dX11_needsFor_50 rfl (lv_at hl 2 rfl) ?_
                refine fw_get (v := .ref (m + 1)) (C := RX11) (T := TX11) (N := 19) hx hb hts hin11 hown hK hR f_5 rfl 0 (by decide) (hts (.fieldLink RX11 7 "UnreadLeafletsModel" "g" "[I") (by decide +kernel)) rfl dX11_needsFor_51 ?_
                refine lv_bipush (v := 68) hx hb dX11_needsFor_54 (by decide) ?_
                refine lv_bipush (v := 8) hx hb dX11_needsFor_56 (by decide) ?_
                refine lv_iload_n hx hb dX11_needsFor_58 rfl (lv_at hl 3 rfl) ?_
                refine lv_imul hx hb dX11_needsFor_59 ?_
                refine lv_iadd hx hb dX11_needsFor_60 ?_
                refine lv_iload hx hb dX11_needsFor_61 (lv_at hl 0 rfl) ?_
                refine lv_iadd hx hb dX11_needsFor_63 ?_
                have hi_17 : (68 + (8 * (nI k))) + (nI j) = nI (68 + 8 * k + j) := by
                  show ((nI 68) + ((nI 8) * (nI k))) + (nI j) = _
                  simp only [pk_mul, nI_add]
                refine W.eq (g2 := F0 mI 64 ls [.int (nI (68 + 8 * k + j)), .ref (m + 1)]) (by rw [hi_17]) ?_
                refine fw_iald hx hb hK hR f_8 (vp_in_nI (by omega) (by omega)) dX11_needsFor_64 ?_
                refine W.eq (g2 := F0 mI 65 ls [.int (g (68 + 8 * k + j))]) (by rw [nI_clamp (by omega)]) ?_
                obtain ⟨kd, hkq⟩ : ∃ kd, kd = cN (g (68 + 8 * k + j)) := ⟨_, rfl⟩
                have hk6 : kd < 6 := by rw [hkq]; exact (hkd j hj2).2
                have hkg : g (68 + 8 * k + j) = nI kd := by rw [hkq]; exact (hkd j hj2).1
                refine W.eq (g2 := F0 mI 65 ls [.int (nI kd)]) (by rw [hkg]) ?_
                refine lv_istore (lv' := [(5, .int (nI kd)), (4, .int (nI j)), (3, .int (sumM g k set j)), (0, .ref m), (1, .int (nI k)), (2, .int set)]) hx hb dX11_needsFor_65 hl (by decide) rfl (fun ls hl => ?_)
                refine lv_aload_n hx hb dX11_needsFor_67 rfl (lv_at hl 3 rfl) ?_
                refine fw_get (v := .ref (m + 1)) (C := RX11) (T := TX11) (N := 19) hx hb hts hin11 hown hK hR f_5 rfl 0 (by decide) (hts (.fieldLink RX11 7 "UnreadLeafletsModel" "g" "[I") (by decide +kernel)) rfl dX11_needsFor_68 ?_
                refine lv_sipush (v := 132) hx hb dX11_needsFor_71 (by decide) ?_
                refine lv_bipush (v := 8) hx hb dX11_needsFor_74 (by decide) ?_
                refine lv_iload_n hx hb dX11_needsFor_76 rfl (lv_at hl 4 rfl) ?_
                refine lv_imul hx hb dX11_needsFor_77 ?_
                refine lv_iadd hx hb dX11_needsFor_78 ?_
                refine lv_iload hx hb dX11_needsFor_79 (lv_at hl 1 rfl) ?_
                refine lv_iadd hx hb dX11_needsFor_81 ?_
                have hi_18 : (132 + (8 * (nI k))) + (nI j) = nI (132 + 8 * k + j) := by
                  show ((nI 132) + ((nI 8) * (nI k))) + (nI j) = _
                  simp only [pk_mul, nI_add]
                refine W.eq (g2 := F0 mI 82 ls [.int (nI (132 + 8 * k + j)), .ref (m + 1)]) (by rw [hi_18]) ?_
                refine fw_iald hx hb hK hR f_8 (vp_in_nI (by omega) (by omega)) dX11_needsFor_82 ?_
                refine W.eq (g2 := F0 mI 83 ls [.int (g (132 + 8 * k + j))]) (by rw [nI_clamp (by omega)]) ?_
                refine lv_istore (lv' := [(6, .int (g (132 + 8 * k + j))), (5, .int (nI kd)), (4, .int (nI j)), (3, .int (sumM g k set j)), (0, .ref m), (1, .int (nI k)), (2, .int set)]) hx hb dX11_needsFor_83 hl (by decide) rfl (fun ls hl => ?_)
                refine lv_aload_n hx hb dX11_needsFor_85 rfl (lv_at hl 4 rfl) ?_
                refine fw_get (v := .ref (m + 7)) (C := RX11) (T := TX11) (N := 19) hx hb hts hin11 hown hK hR f_5 rfl 15 (by decide) (hts (.fieldLink RX11 33 "UnreadLeafletsModel" "needs" "[I") (by decide +kernel)) rfl dX11_needsFor_86 ?_
                refine lv_iload hx hb dX11_needsFor_89 (lv_at hl 1 rfl) ?_
                refine lv_dup2_11 hx hb dX11_needsFor_91 rfl rfl ?_
                refine fw_iald hx hb hK hR v7 (vp_in_nI (by omega) (by omega)) dX11_needsFor_92 ?_
                refine W.eq (g2 := F0 mI 93 ls [.int ((needM g k set (clrJ nd 6) j) kd), .int (nI kd), .ref (m + 7)]) (by rw [nI_clamp (by omega)]) ?_
                refine lv_iload hx hb dX11_needsFor_93 (lv_at hl 0 rfl) ?_
                refine lv_iadd hx hb dX11_needsFor_95 ?_
                refine fw_iast hx hb hK hR hS v7 (vp_in_nI (by omega) (by omega)) dX11_needsFor_96 (fun H locs hR hS => ?_)
                rw [show (nI kd).toNatClampNeg = kd from nI_clamp (by omega)] at hR
                obtain ⟨ω_19, hw_20⟩ : ∃ τ : FWd, τ = (τ2.1, va_up τ2.2 (m + 7) (some (.inl (G.2.1 0, 6, .inl (upd (needM g k set (clrJ nd 6) j) kd (((needM g k set (clrJ nd 6) j) kd) + (g (132 + 8 * k + j)))))))) := ⟨_, rfl⟩
                have hR : fR G ω_19 H := by rw [hw_20]; exact hR
                have f_21 : ω_19.2 (m + 7) = some (.inl (G.2.1 0, 6, .inl (upd (needM g k set (clrJ nd 6) j) kd (((needM g k set (clrJ nd 6) j) kd) + (g (132 + 8 * k + j)))))) := by rw [hw_20]; exact va_up_at
                have fr_22 : ∀ q : Nat, ¬ q = (m + 7) → ω_19.2 q = τ2.2 q := fun q hq => by rw [hw_20]; exact va_up_off hq
                have z_23 : ω_19.1 = τ2.1 := by rw [hw_20]
                refine lv_aload_n hx hb dX11_needsFor_97 rfl (lv_at hl 4 rfl) ?_
                have f_24 : ω_19.2 m = some (.inr (13, [.ref (m + 1), .ref (m + 2), .ref (m + 3), .int (s 3), .ref (m + 4), .int (s 5), .ref (m + 5), .int (s 7), .int (s 8), .int (s 9), .int (s 10), .int (s 11), .ref (m + 6), .int (s 13), .int (s 14), .ref (m + 7), .int (s 16), .int (s 17), .ref (m + 8)])) := (fr_22 m (by omega)).trans f_5
                refine fw_get (v := .ref (m + 7)) (C := RX11) (T := TX11) (N := 19) hx hb hts hin11 hown hK hR f_24 rfl 15 (by decide) (hts (.fieldLink RX11 33 "UnreadLeafletsModel" "needs" "[I") (by decide +kernel)) rfl dX11_needsFor_98 ?_
                refine lv_iload hx hb dX11_needsFor_101 (lv_at hl 1 rfl) ?_
                refine lv_iconst (v := 1) hx hb dX11_needsFor_103 (by decide) ?_
                refine lv_iadd hx hb dX11_needsFor_104 ?_
                refine lv_bipush (v := 6) hx hb dX11_needsFor_105 (by decide) ?_
                refine lv_irem hx hb dX11_needsFor_107 (by decide) ?_
                refine W.eq (g2 := F0 mI 108 ls [.int (nI ((kd + 1) % 6)), .ref (m + 7)]) (by rw [rem6 hk6]) ?_
                refine lv_dup2_11 hx hb dX11_needsFor_108 rfl rfl ?_
                refine fw_iald hx hb hK hR f_21 (vp_in_nI (by omega) (by omega)) dX11_needsFor_109 ?_
                refine W.eq (g2 := F0 mI 110 ls [.int ((upd (needM g k set (clrJ nd 6) j) kd (((needM g k set (clrJ nd 6) j) kd) + (g (132 + 8 * k + j)))) ((kd + 1) % 6)), .int (nI ((kd + 1) % 6)), .ref (m + 7)]) (by rw [nI_clamp (by omega)]) ?_
                refine lv_iload hx hb dX11_needsFor_110 (lv_at hl 0 rfl) ?_
                refine lv_aload_n hx hb dX11_needsFor_112 rfl (lv_at hl 4 rfl) ?_
                refine fw_get (v := .ref (m + 1)) (C := RX11) (T := TX11) (N := 19) hx hb hts hin11 hown hK hR f_24 rfl 0 (by decide) (hts (.fieldLink RX11 7 "UnreadLeafletsModel" "g" "[I") (by decide +kernel)) rfl dX11_needsFor_113 ?_
                refine lv_sipush (v := 260) hx hb dX11_needsFor_116 (by decide) ?_
                refine lv_bipush (v := 8) hx hb dX11_needsFor_119 (by decide) ?_
                refine lv_iload_n hx hb dX11_needsFor_121 rfl (lv_at hl 5 rfl) ?_
                refine lv_imul hx hb dX11_needsFor_122 ?_
                refine lv_iadd hx hb dX11_needsFor_123 ?_
                refine lv_iload hx hb dX11_needsFor_124 (lv_at hl 2 rfl) ?_
                refine lv_iadd hx hb dX11_needsFor_126 ?_
                have hi_25 : (260 + (8 * (nI k))) + (nI j) = nI (260 + 8 * k + j) := by
                  show ((nI 260) + ((nI 8) * (nI k))) + (nI j) = _
                  simp only [pk_mul, nI_add]
                refine W.eq (g2 := F0 mI 127 ls [.int (nI (260 + 8 * k + j)), .ref (m + 1), .int (g (132 + 8 * k + j)), .int ((upd (needM g k set (clrJ nd 6) j) kd (((needM g k set (clrJ nd 6) j) kd) + (g (132 + 8 * k + j)))) ((kd + 1) % 6)), .int (nI ((kd + 1) % 6)), .ref (m + 7)]) (by rw [hi_25]) ?_
                have f_26 : ω_19.2 (m + 1) = some (.inl (G.2.1 0, 324, .inl g)) := (fr_22 (m + 1) (by omega)).trans f_8
                refine fw_iald hx hb hK hR f_26 (vp_in_nI (by omega) (by omega)) dX11_needsFor_127 ?_
                refine W.eq (g2 := F0 mI 128 ls [.int (g (260 + 8 * k + j)), .int (g (132 + 8 * k + j)), .int ((upd (needM g k set (clrJ nd 6) j) kd (((needM g k set (clrJ nd 6) j) kd) + (g (132 + 8 * k + j)))) ((kd + 1) % 6)), .int (nI ((kd + 1) % 6)), .ref (m + 7)]) (by rw [nI_clamp (by omega)]) ?_
                refine lv_imul hx hb dX11_needsFor_128 ?_
                refine lv_iadd hx hb dX11_needsFor_129 ?_
                refine fw_iast hx hb hK hR hS f_21 (vp_in_nI (by omega) (by omega)) dX11_needsFor_130 (fun H locs hR hS => ?_)
                rw [show (nI ((kd + 1) % 6)).toNatClampNeg = (kd + 1) % 6 from nI_clamp (by omega)] at hR
                obtain ⟨ω_27, hw_28⟩ : ∃ τ : FWd, τ = (ω_19.1, va_up ω_19.2 (m + 7) (some (.inl (G.2.1 0, 6, .inl (upd (upd (needM g k set (clrJ nd 6) j) kd (((needM g k set (clrJ nd 6) j) kd) + (g (132 + 8 * k + j)))) ((kd + 1) % 6) (((upd (needM g k set (clrJ nd 6) j) kd (((needM g k set (clrJ nd 6) j) kd) + (g (132 + 8 * k + j)))) ((kd + 1) % 6)) + ((g (132 + 8 * k + j)) * (g (260 + 8 * k + j))))))))) := ⟨_, rfl⟩
                have hR : fR G ω_27 H := by rw [hw_28]; exact hR
                have f_29 : ω_27.2 (m + 7) = some (.inl (G.2.1 0, 6, .inl (upd (upd (needM g k set (clrJ nd 6) j) kd (((needM g k set (clrJ nd 6) j) kd) + (g (132 + 8 * k + j)))) ((kd + 1) % 6) (((upd (needM g k set (clrJ nd 6) j) kd (((needM g k set (clrJ nd 6) j) kd) + (g (132 + 8 * k + j)))) ((kd + 1) % 6)) + ((g (132 + 8 * k + j)) * (g (260 + 8 * k + j))))))) := by rw [hw_28]; exact va_up_at
                have fr_30 : ∀ q : Nat, ¬ q = (m + 7) → ω_27.2 q = ω_19.2 q := fun q hq => by rw [hw_28]; exact va_up_off hq
                have z_31 : ω_27.1 = ω_19.1 := by rw [hw_28]
                refine lv_iload_n hx hb dX11_needsFor_131 rfl (lv_at hl 3 rfl) ?_
                refine lv_aload_n hx hb dX11_needsFor_132 rfl (lv_at hl 4 rfl) ?_
                refine lv_iload_n hx hb dX11_needsFor_133 rfl (lv_at hl 5 rfl) ?_
                refine lv_iload hx hb dX11_needsFor_134 (lv_at hl 2 rfl) ?_
                have f_32 : ω_27.2 m = some (.inr (13, [.ref (m + 1), .ref (m + 2), .ref (m + 3), .int (s 3), .ref (m + 4), .int (s 5), .ref (m + 5), .int (s 7), .int (s 8), .int (s 9), .int (s 10), .int (s 11), .ref (m + 6), .int (s 13), .int (s 14), .ref (m + 7), .int (s 16), .int (s 17), .ref (m + 8)])) := (fr_30 m (by omega)).trans f_24
                have f_33 : ω_27.2 (m + 1) = some (.inl (G.2.1 0, 324, .inl g)) := (fr_30 (m + 1) (by omega)).trans f_26
                refine fw_call (va_runV (As := [.int (nI k), .int (nI j)]) (rest := [.int (sumM g k set j)]) ⟨hx, hb, hml, hown, hts⟩ (c_X11_partsOf G hL l ω_27 m s g f_32 f_33 k (by omega) j (by omega)) (cwV 2 hts gX11_needsFor_X11_partsOf rfl rfl rfl (by decide +kernel) ⟨Nat.le_of_ble_eq_true rfl, Nat.le_of_ble_eq_true rfl⟩) (fw_preV hW hK hR f_32 rfl) rfl rfl hl.1 rfl (lv_room (Nat.le_of_ble_eq_true rfl)) dX11_needsFor_136 ⟨Nat.le_of_ble_eq_true rfl, Nat.le_of_ble_eq_true rfl⟩) hS (fun v_34 ω_35 H locs hq_36 hR hS => ?_)
                obtain ⟨rfl, hq_36⟩ := hq_36
                rw [hq_36] at hR
                refine W.eq (g2 := F0 mI 139 ls [.int (mP g k j), .int (sumM g k set j)]) rfl ?_
                refine lv_iadd hx hb dX11_needsFor_139 ?_
                refine lv_topi (fun x_37 ex_37 => ?_)
                refine lv_istore_n (lv' := [(3, .int x_37), (6, .int (g (132 + 8 * k + j))), (5, .int (nI kd)), (4, .int (nI j)), (0, .ref m), (1, .int (nI k)), (2, .int set)]) hx hb dX11_needsFor_140 rfl hl (by decide) rfl (fun ls hl => ?_)
                obtain ⟨x_38, ex_38⟩ : ∃ y : Int32, y = (nI j) + 1 := ⟨_, rfl⟩
                refine lv_iinc (v := x_38) (lv' := [(4, .int x_38), (3, .int x_37), (6, .int (g (132 + 8 * k + j))), (5, .int (nI kd)), (0, .ref m), (1, .int (nI k)), (2, .int set)]) hx hb dX11_needsFor_141 hl (k := 3) rfl (by rw [ex_38]; rfl) (by decide) rfl (fun ls hl => ?_)
                refine lv_goto (tgt := 26) hx hb dX11_needsFor_144 (by decide) ?_
                have el_4 : x_38 = nI (j + 1) := by rw [ex_38]; exact nI_1 j
                have el_3 : x_37 = sumM g k set (j + 1) := by 
                  rw [ex_37]; simp only [sumM]; repeat' split
                  all_goals first | rfl | contradiction | (exfalso; simp_all; done)
                have hl := lv_sub (l' := [(4, .int x_38), (3, .int x_37), (0, .ref m), (1, .int (nI k)), (2, .int set)]) hl [0, 1, 4, 5, 6] rfl
                rw [el_4, el_3] at hl
                have wf_39 : ω_27.2 (m + 7) = some (.inl (G.2.1 0, 6, .inl (needM g k set (clrJ nd 6) (j + 1)))) := f_29.trans (congrArg some (by simp only [needM, if_pos c_12]; simp only [needM1, ← hkq]))
                have fr_40 : ∀ q : Nat, ¬ q = (m + 7) → ω_27.2 q = τ1.2 q := by
                  intro q h0
                  rw [fr_30 q (by omega)]
                  rw [fr_22 q (by omega)]
                  rw [hfrτ2 q (by omega)]
                have z_41 : ω_27.1 = τ1.1 := by rw [z_31, z_23, hzτ2]
                exact ih (j + 1) ω_27 (by omega) (by first | assumption | omega | (simp; done)) z_41 wf_39 fr_40 _ _ _ hR hS hl
        exact loop_3 _ 0 τ1 (Nat.lt_succ_self _) (by first | rfl | assumption | omega | (simp; done)) rfl w7 (fun _ _ => rfl) _ _ _ hR hS (lv_sub hl [0, 1, 2, 3, 4] rfl)
      · skip
        have hi2 := lp_lt (n := 6) rfl c_2 (by omega) (by omega)
        refine lv_aload_n hx hb dX11_needsFor_8 rfl (lv_at hl 1 rfl) ?_
        have f_42 : τ1.2 m = some (.inr (13, [.ref (m + 1), .ref (m + 2), .ref (m + 3), .int (s 3), .ref (m + 4), .int (s 5), .ref (m + 5), .int (s 7), .int (s 8), .int (s 9), .int (s 10), .int (s 11), .ref (m + 6), .int (s 13), .int (s 14), .ref (m + 7), .int (s 16), .int (s 17), .ref (m + 8)])) := (hfrτ1 m (by omega)).trans m0
        refine fw_get (v := .ref (m + 7)) (C := RX11) (T := TX11) (N := 19) hx hb hts hin11 hown hK hR f_42 rfl 15 (by decide) (hts (.fieldLink RX11 33 "UnreadLeafletsModel" "needs" "[I") (by decide +kernel)) rfl dX11_needsFor_9 ?_
        refine lv_iload_n hx hb dX11_needsFor_12 rfl (lv_at hl 0 rfl) ?_
        refine lv_iconst (v := 0) hx hb dX11_needsFor_13 (by decide) ?_
        refine fw_iast hx hb hK hR hS w7 (vp_in_nI (by omega) (by omega)) dX11_needsFor_14 (fun H locs hR hS => ?_)
        rw [show (nI i).toNatClampNeg = i from nI_clamp (by omega)] at hR
        obtain ⟨ω_43, hw_44⟩ : ∃ τ : FWd, τ = (τ1.1, va_up τ1.2 (m + 7) (some (.inl (G.2.1 0, 6, .inl (upd (clrJ nd i) i 0))))) := ⟨_, rfl⟩
        have hR : fR G ω_43 H := by rw [hw_44]; exact hR
        have f_45 : ω_43.2 (m + 7) = some (.inl (G.2.1 0, 6, .inl (upd (clrJ nd i) i 0))) := by rw [hw_44]; exact va_up_at
        have fr_46 : ∀ q : Nat, ¬ q = (m + 7) → ω_43.2 q = τ1.2 q := fun q hq => by rw [hw_44]; exact va_up_off hq
        have z_47 : ω_43.1 = τ1.1 := by rw [hw_44]
        obtain ⟨x_48, ex_48⟩ : ∃ y : Int32, y = (nI i) + 1 := ⟨_, rfl⟩
        refine lv_iinc (v := x_48) (lv' := [(3, .int x_48), (0, .ref m), (1, .int (nI k)), (2, .int set)]) hx hb dX11_needsFor_15 hl (k := 0) rfl (by rw [ex_48]; rfl) (by decide) rfl (fun ls hl => ?_)
        refine lv_goto (tgt := 2) hx hb dX11_needsFor_18 (by decide) ?_
        have el_3 : x_48 = nI (i + 1) := by rw [ex_48]; exact nI_1 i
        have hl := lv_sub (l' := [(3, .int x_48), (0, .ref m), (1, .int (nI k)), (2, .int set)]) hl [0, 1, 2, 3] rfl
        rw [el_3] at hl
        have wf_49 : ω_43.2 (m + 7) = some (.inl (G.2.1 0, 6, .inl (clrJ nd (i + 1)))) := f_45.trans (congrArg some (by rfl))
        have fr_50 : ∀ q : Nat, ¬ q = (m + 7) → ω_43.2 q = ω.2 q := by
          intro q h0
          rw [fr_46 q (by omega)]
          rw [hfrτ1 q (by omega)]
        have z_51 : ω_43.1 = ω.1 := by rw [z_47, hzτ1]
        exact ih (i + 1) ω_43 (by omega) (by first | assumption | omega | (simp; done)) z_51 wf_49 fr_50 _ _ _ hR hS hl
  exact loop_1 _ 0 ω (Nat.lt_succ_self _) (by first | rfl | assumption | omega | (simp; done)) rfl m7 (fun _ _ => rfl) _ _ _ hR hS (lv_sub hl [0, 1, 2, 3] rfl)
set_option maxHeartbeats 4000000 in
set_option maxRecDepth 100000 in
theorem c_X11_lacking (G : FG) (hL : FL G) (l : Launch) (ω : FWd) (m : Nat) (s g : Nat → Int32) (m0 : ω.2 m = some (.inr (13, [.ref (m + 1), .ref (m + 2), .ref (m + 3), .int (s 3), .ref (m + 4), .int (s 5), .ref (m + 5), .int (s 7), .int (s 8), .int (s 9), .int (s 10), .int (s 11), .ref (m + 6), .int (s 13), .int (s 14), .ref (m + 7), .int (s 16), .int (s 17), .ref (m + 8)]))) (m1 : ω.2 (m + 1) = some (.inl (G.2.1 0, 324, .inl g))) (nd : Nat → Int32) (m7 : ω.2 (m + 7) = some (.inl (G.2.1 0, 6, .inl nd))) : FMet G l yX11_lacking wsX11_lacking ({ frames := 0, cells := 0, slots := 0, locals := 0 } : Room) [.ref m] ω (rI (lackJ (fun i => g (6 + i)) nd 0 6) ω) 0 0 := by
  refine fw_ofW (cc := cX11_lacking) (maxL := 2) (ret := (some .int)) (by decide) rfl (Nat.le_of_ble_eq_true rfl) ?_
  intro pP eE sS mI ar9 bl9 meth cD ls hx hb hr hlocks hml hts hown hnm hW hR hl
  have hK := hL.K hW
  have hS : va_S (fwA G) sS.heap sS.heap [] := va_S.rf
  have hin11 : ∀ w ∈ u_ws RX11 TX11 19, w ∈ wsX11_lacking := by decide +kernel
  have hl : lv_has ls 2 [(0, .ref m)] := hl
  refine lv_iconst (v := 0) hx hb dX11_lacking_0 (by decide) ?_
  refine lv_istore_n (lv' := [(1, .int 0), (0, .ref m)]) hx hb dX11_lacking_1 rfl hl (by decide) rfl (fun ls hl => ?_)
  have loop_1 : ∀ (fu : Nat) (j : Nat), (6 - j) < fu → (j ≤ 6) → (lackJ (fun i => g (6 + i)) nd 0 6 = lackJ (fun i => g (6 + i)) nd j (6 - j)) → ∀ (H : Heap) (locs : List Loc) (ls : Array Slot), fR G ω H → va_S (fwA G) sS.heap H locs → lv_has ls 2 [(1, .int (nI j)), (0, .ref m)] → W pP l eE ({ frames := 0, cells := 0, slots := 0, locals := 0 } : Room) sS mI ar9 bl9 meth cD H locs 0 0 (MQ bl9 (fQ G (rI (lackJ (fun i => g (6 + i)) nd 0 6) ω)) ar9 sS 0 0 (fwA G)) (F0 mI 2 ls []) := by
    intro fu
    induction fu with
    | zero => intro j hfu; exact absurd hfu (Nat.not_lt_zero _)
    | succ fu ih =>
      intro j hfu hj hlk H locs ls hR hS hl
      refine lv_iload_n hx hb dX11_lacking_2 rfl (lv_at hl 0 rfl) ?_
      refine lv_bipush (v := 6) hx hb dX11_lacking_3 (by decide) ?_
      refine lv_icmp_ge (tgt := 32) hx hb dX11_lacking_5 (by decide) (fun c_2 => ?_) (fun c_2 => ?_)
      · skip
        have hj2 := lp_ge (n := 6) rfl c_2 (by omega) (by omega)
        have hjn : j = 6 := by omega
        refine lv_iload_n hx hb dX11_lacking_32 rfl (lv_at hl 0 rfl) ?_
        refine lv_bipush (v := 6) hx hb dX11_lacking_33 (by decide) ?_
        refine lv_icmp_ne (tgt := 42) hx hb dX11_lacking_35 (by decide) (fun c_3 => ?_) (fun c_3 => ?_)
        · skip
          refine lv_iload_n hx hb dX11_lacking_42 rfl (lv_at hl 0 rfl) ?_
          refine fw_iret hx hb hr hlocks hR hS dX11_lacking_43 (rI_mk ?_)
          exact absurd (by rw [hjn]; rfl) c_3
        · skip
          refine lv_iconst (v := (-1)) hx hb dX11_lacking_38 (by decide) ?_
          refine lv_goto (tgt := 43) hx hb dX11_lacking_39 (by decide) ?_
          refine fw_iret hx hb hr hlocks hR hS dX11_lacking_43 (rI_mk ?_)
          rw [hlk, hjn]; rfl
      · skip
        have hj2 := lp_lt (n := 6) rfl c_2 (by omega) (by omega)
        refine lv_aload_n hx hb dX11_lacking_8 rfl (lv_at hl 1 rfl) ?_
        refine fw_get (v := .ref (m + 1)) (C := RX11) (T := TX11) (N := 19) hx hb hts hin11 hown hK hR m0 rfl 0 (by decide) (hts (.fieldLink RX11 7 "UnreadLeafletsModel" "g" "[I") (by decide +kernel)) rfl dX11_lacking_9 ?_
        refine lv_bipush (v := 6) hx hb dX11_lacking_12 (by decide) ?_
        refine lv_iload_n hx hb dX11_lacking_14 rfl (lv_at hl 0 rfl) ?_
        refine lv_iadd hx hb dX11_lacking_15 ?_
        have hi_4 : 6 + (nI j) = nI (6 + j) := by
          show (nI 6) + (nI j) = _
          simp only [pk_mul, nI_add]
        refine W.eq (g2 := F0 mI 16 ls [.int (nI (6 + j)), .ref (m + 1)]) (by rw [hi_4]) ?_
        refine fw_iald hx hb hK hR m1 (vp_in_nI (by omega) (by omega)) dX11_lacking_16 ?_
        refine W.eq (g2 := F0 mI 17 ls [.int (g (6 + j))]) (by rw [nI_clamp (by omega)]) ?_
        refine lv_aload_n hx hb dX11_lacking_17 rfl (lv_at hl 1 rfl) ?_
        refine fw_get (v := .ref (m + 7)) (C := RX11) (T := TX11) (N := 19) hx hb hts hin11 hown hK hR m0 rfl 15 (by decide) (hts (.fieldLink RX11 33 "UnreadLeafletsModel" "needs" "[I") (by decide +kernel)) rfl dX11_lacking_18 ?_
        refine lv_iload_n hx hb dX11_lacking_21 rfl (lv_at hl 0 rfl) ?_
        refine fw_iald hx hb hK hR m7 (vp_in_nI (by omega) (by omega)) dX11_lacking_22 ?_
        refine W.eq (g2 := F0 mI 23 ls [.int (nd j), .int (g (6 + j))]) (by rw [nI_clamp (by omega)]) ?_
        refine lv_icmp_lt (tgt := 32) hx hb dX11_lacking_23 (by decide) (fun c_5 => ?_) (fun c_5 => ?_)
        · skip
          have hle : ¬ nd j ≤ g (6 + j) := fun z => absurd c_5 (Int32.not_lt.mpr z)
          have hjn : ¬ j = 6 := by omega
          refine lv_iload_n hx hb dX11_lacking_32 rfl (lv_at hl 0 rfl) ?_
          refine lv_bipush (v := 6) hx hb dX11_lacking_33 (by decide) ?_
          refine lv_icmp_ne (tgt := 42) hx hb dX11_lacking_35 (by decide) (fun c_6 => ?_) (fun c_6 => ?_)
          · skip
            refine lv_iload_n hx hb dX11_lacking_42 rfl (lv_at hl 0 rfl) ?_
            refine fw_iret hx hb hr hlocks hR hS dX11_lacking_43 (rI_mk ?_)
            rw [hlk, show 6 - j = (6 - (j + 1)) + 1 by omega, lackJ, if_neg (show ¬ nd j ≤ g (6 + j) from hle)]
          · skip
            refine lv_iconst (v := (-1)) hx hb dX11_lacking_38 (by decide) ?_
            refine lv_goto (tgt := 43) hx hb dX11_lacking_39 (by decide) ?_
            refine fw_iret hx hb hr hlocks hR hS dX11_lacking_43 (rI_mk ?_)
            exact absurd ((nI_eq (b := 6) (by omega) (by omega)).mp c_6) hjn
        · skip
          have hle : nd j ≤ g (6 + j) := Int32.not_lt.mp c_5
          obtain ⟨x_7, ex_7⟩ : ∃ y : Int32, y = (nI j) + 1 := ⟨_, rfl⟩
          refine lv_iinc (v := x_7) (lv' := [(1, .int x_7), (0, .ref m)]) hx hb dX11_lacking_26 hl (k := 0) rfl (by rw [ex_7]; rfl) (by decide) rfl (fun ls hl => ?_)
          refine lv_goto (tgt := 2) hx hb dX11_lacking_29 (by decide) ?_
          have el_1 : x_7 = nI (j + 1) := by rw [ex_7]; exact nI_1 j
          have hl := lv_sub (l' := [(1, .int x_7), (0, .ref m)]) hl [0, 1] rfl
          rw [el_1] at hl
          exact ih (j + 1) (by omega) (by omega) (by rw [hlk, show 6 - j = (6 - (j + 1)) + 1 by omega, lackJ, if_pos (show nd j ≤ g (6 + j) from hle)]) _ _ _ hR hS hl
  exact loop_1 _ 0 (Nat.lt_succ_self _) (by first | rfl | assumption | omega | (simp; done)) (by first | rfl | assumption | omega | (simp; done)) _ _ _ hR hS (lv_sub hl [0, 1] rfl)
set_option maxHeartbeats 4000000 in
set_option maxRecDepth 100000 in
theorem c_X11_boxesOn (G : FG) (hL : FL G) (l : Launch) (ω : FWd) (m : Nat) (s g : Nat → Int32) (m0 : ω.2 m = some (.inr (13, [.ref (m + 1), .ref (m + 2), .ref (m + 3), .int (s 3), .ref (m + 4), .int (s 5), .ref (m + 5), .int (s 7), .int (s 8), .int (s 9), .int (s 10), .int (s 11), .ref (m + 6), .int (s 13), .int (s 14), .ref (m + 7), .int (s 16), .int (s 17), .ref (m + 8)]))) (m1 : ω.2 (m + 1) = some (.inl (G.2.1 0, 324, .inl g))) (sh : Int32) (c : Nat) (hc : g 0 = nI c) (hc8 : c ≤ 8) : FMet G l yX11_boxesOn wsX11_boxesOn ({ frames := 0, cells := 0, slots := 0, locals := 0 } : Room) [.ref m, .int sh] ω (rI (onM g sh c) ω) 0 0 := by
  refine fw_ofW (cc := cX11_boxesOn) (maxL := 4) (ret := (some .int)) (by decide) rfl (Nat.le_of_ble_eq_true rfl) ?_
  intro pP eE sS mI ar9 bl9 meth cD ls hx hb hr hlocks hml hts hown hnm hW hR hl
  have hK := hL.K hW
  have hS : va_S (fwA G) sS.heap sS.heap [] := va_S.rf
  have hin11 : ∀ w ∈ u_ws RX11 TX11 19, w ∈ wsX11_boxesOn := by decide +kernel
  have hl : lv_has ls 4 [(0, .ref m), (1, .int sh)] := hl
  refine lv_iconst (v := 0) hx hb dX11_boxesOn_0 (by decide) ?_
  refine lv_istore_n (lv' := [(2, .int 0), (0, .ref m), (1, .int sh)]) hx hb dX11_boxesOn_1 rfl hl (by decide) rfl (fun ls hl => ?_)
  refine lv_iconst (v := 0) hx hb dX11_boxesOn_2 (by decide) ?_
  refine lv_istore_n (lv' := [(3, .int 0), (2, .int 0), (0, .ref m), (1, .int sh)]) hx hb dX11_boxesOn_3 rfl hl (by decide) rfl (fun ls hl => ?_)
  have loop_1 : ∀ (fu : Nat) (j : Nat), (c - j) < fu → (j ≤ c) → ∀ (H : Heap) (locs : List Loc) (ls : Array Slot), fR G ω H → va_S (fwA G) sS.heap H locs → lv_has ls 4 [(3, .int (nI j)), (2, .int (onM g sh j)), (0, .ref m), (1, .int sh)] → W pP l eE ({ frames := 0, cells := 0, slots := 0, locals := 0 } : Room) sS mI ar9 bl9 meth cD H locs 0 0 (MQ bl9 (fQ G (rI (onM g sh c) ω)) ar9 sS 0 0 (fwA G)) (F0 mI 4 ls []) := by
    intro fu
    induction fu with
    | zero => intro j hfu; exact absurd hfu (Nat.not_lt_zero _)
    | succ fu ih =>
      intro j hfu hj H locs ls hR hS hl
      refine lv_iload_n hx hb dX11_boxesOn_4 rfl (lv_at hl 0 rfl) ?_
      refine lv_aload_n hx hb dX11_boxesOn_5 rfl (lv_at hl 2 rfl) ?_
      refine fw_get (v := .ref (m + 1)) (C := RX11) (T := TX11) (N := 19) hx hb hts hin11 hown hK hR m0 rfl 0 (by decide) (hts (.fieldLink RX11 7 "UnreadLeafletsModel" "g" "[I") (by decide +kernel)) rfl dX11_boxesOn_6 ?_
      refine lv_iconst (v := 0) hx hb dX11_boxesOn_9 (by decide) ?_
      refine fw_iald hx hb hK hR m1 (vp_in_nI (n := 0) (by omega) (by omega)) dX11_boxesOn_10 ?_
      refine W.eq (g2 := F0 mI 11 ls [.int (g 0), .int (nI j)]) (by rw [show (0 : Int32).toNatClampNeg = 0 from rfl]) ?_
      refine lv_icmp_ge (tgt := 43) hx hb dX11_boxesOn_11 (by decide) (fun c_2 => ?_) (fun c_2 => ?_)
      · skip
        have hj2 := lp_ge hc c_2 (by omega) (by omega)
        have hjn : j = c := by omega
        refine lv_iload_n hx hb dX11_boxesOn_43 rfl (lv_at hl 1 rfl) ?_
        refine fw_iret hx hb hr hlocks hR hS dX11_boxesOn_44 (rI_mk ?_)
        rw [hjn]
      · skip
        have hj2 := lp_lt hc c_2 (by omega) (by omega)
        refine lv_iload_n hx hb dX11_boxesOn_14 rfl (lv_at hl 1 rfl) ?_
        refine lv_aload_n hx hb dX11_boxesOn_15 rfl (lv_at hl 2 rfl) ?_
        refine fw_get (v := .ref (m + 1)) (C := RX11) (T := TX11) (N := 19) hx hb hts hin11 hown hK hR m0 rfl 0 (by decide) (hts (.fieldLink RX11 7 "UnreadLeafletsModel" "g" "[I") (by decide +kernel)) rfl dX11_boxesOn_16 ?_
        refine lv_bipush (v := 34) hx hb dX11_boxesOn_19 (by decide) ?_
        refine lv_iload_n hx hb dX11_boxesOn_21 rfl (lv_at hl 0 rfl) ?_
        refine lv_iadd hx hb dX11_boxesOn_22 ?_
        have hi_3 : 34 + (nI j) = nI (34 + j) := by
          show (nI 34) + (nI j) = _
          simp only [pk_mul, nI_add]
        refine W.eq (g2 := F0 mI 23 ls [.int (nI (34 + j)), .ref (m + 1), .int (onM g sh j)]) (by rw [hi_3]) ?_
        refine fw_iald hx hb hK hR m1 (vp_in_nI (by omega) (by omega)) dX11_boxesOn_23 ?_
        refine W.eq (g2 := F0 mI 24 ls [.int (g (34 + j)), .int (onM g sh j)]) (by rw [nI_clamp (by omega)]) ?_
        refine lv_iload_n hx hb dX11_boxesOn_24 rfl (lv_at hl 3 rfl) ?_
        refine lv_icmp_ne (tgt := 34) hx hb dX11_boxesOn_25 (by decide) (fun c_4 => ?_) (fun c_4 => ?_)
        · skip
          refine lv_iconst (v := 0) hx hb dX11_boxesOn_34 (by decide) ?_
          refine lv_ior hx hb dX11_boxesOn_35 ?_
          refine lv_topi (fun x_5 ex_5 => ?_)
          refine lv_istore_n (lv' := [(2, .int x_5), (3, .int (nI j)), (0, .ref m), (1, .int sh)]) hx hb dX11_boxesOn_36 rfl hl (by decide) rfl (fun ls hl => ?_)
          obtain ⟨x_6, ex_6⟩ : ∃ y : Int32, y = (nI j) + 1 := ⟨_, rfl⟩
          refine lv_iinc (v := x_6) (lv' := [(3, .int x_6), (2, .int x_5), (0, .ref m), (1, .int sh)]) hx hb dX11_boxesOn_37 hl (k := 1) rfl (by rw [ex_6]; rfl) (by decide) rfl (fun ls hl => ?_)
          refine lv_goto (tgt := 4) hx hb dX11_boxesOn_40 (by decide) ?_
          have el_3 : x_6 = nI (j + 1) := by rw [ex_6]; exact nI_1 j
          have el_2 : x_5 = onM g sh (j + 1) := by 
            rw [ex_5]; simp only [onM]; repeat' split
            all_goals first | rfl | contradiction | (exfalso; simp_all; done)
          have hl := lv_sub (l' := [(3, .int x_6), (2, .int x_5), (0, .ref m), (1, .int sh)]) hl [0, 1, 2, 3] rfl
          rw [el_3, el_2] at hl
          exact ih (j + 1) (by omega) (by first | assumption | omega | (simp; done)) _ _ _ hR hS hl
        · skip
          refine lv_iconst (v := 1) hx hb dX11_boxesOn_28 (by decide) ?_
          refine lv_iload_n hx hb dX11_boxesOn_29 rfl (lv_at hl 0 rfl) ?_
          refine lv_ishl hx hb dX11_boxesOn_30 ?_
          refine lv_goto (tgt := 35) hx hb dX11_boxesOn_31 (by decide) ?_
          refine lv_ior hx hb dX11_boxesOn_35 ?_
          refine lv_topi (fun x_7 ex_7 => ?_)
          refine lv_istore_n (lv' := [(2, .int x_7), (3, .int (nI j)), (0, .ref m), (1, .int sh)]) hx hb dX11_boxesOn_36 rfl hl (by decide) rfl (fun ls hl => ?_)
          obtain ⟨x_8, ex_8⟩ : ∃ y : Int32, y = (nI j) + 1 := ⟨_, rfl⟩
          refine lv_iinc (v := x_8) (lv' := [(3, .int x_8), (2, .int x_7), (0, .ref m), (1, .int sh)]) hx hb dX11_boxesOn_37 hl (k := 1) rfl (by rw [ex_8]; rfl) (by decide) rfl (fun ls hl => ?_)
          refine lv_goto (tgt := 4) hx hb dX11_boxesOn_40 (by decide) ?_
          have el_3 : x_8 = nI (j + 1) := by rw [ex_8]; exact nI_1 j
          have el_2 : x_7 = onM g sh (j + 1) := by 
            rw [ex_7]; simp only [onM]; repeat' split
            all_goals first | rfl | contradiction | (exfalso; simp_all; done)
          have hl := lv_sub (l' := [(3, .int x_8), (2, .int x_7), (0, .ref m), (1, .int sh)]) hl [0, 1, 2, 3] rfl
          rw [el_3, el_2] at hl
          exact ih (j + 1) (by omega) (by first | assumption | omega | (simp; done)) _ _ _ hR hS hl
  exact loop_1 _ 0 (Nat.lt_succ_self _) (by first | rfl | assumption | omega | (simp; done)) _ _ _ hR hS (lv_sub hl [0, 1, 2, 3] rfl)
set_option maxHeartbeats 4000000 in
set_option maxRecDepth 100000 in
theorem c_X11_tinGets (G : FG) (hL : FL G) (l : Launch) (ω : FWd) (m : Nat) (s g : Nat → Int32) (m0 : ω.2 m = some (.inr (13, [.ref (m + 1), .ref (m + 2), .ref (m + 3), .int (s 3), .ref (m + 4), .int (s 5), .ref (m + 5), .int (s 7), .int (s 8), .int (s 9), .int (s 10), .int (s 11), .ref (m + 6), .int (s 13), .int (s 14), .ref (m + 7), .int (s 16), .int (s 17), .ref (m + 8)]))) (m1 : ω.2 (m + 1) = some (.inl (G.2.1 0, 324, .inl g))) (nd : Nat → Int32) (m7 : ω.2 (m + 7) = some (.inl (G.2.1 0, 6, .inl nd))) (t : Int32) : FMet G l yX11_tinGets wsX11_tinGets ({ frames := 0, cells := 0, slots := 0, locals := 0 } : Room) [.ref m, .int t] ω (fun vv9 τ9 => vv9 = none ∧ τ9.1 = ω.1 ∧ τ9.2 (m + 1) = some (.inl (G.2.1 0, 324, .inl (getsM g nd t 6))) ∧ ∀ q : Nat, ¬ q = (m + 1) → τ9.2 q = ω.2 q) 0 0 := by
  refine fw_ofW (cc := cX11_tinGets) (maxL := 3) (ret := none) (by decide) rfl (Nat.le_of_ble_eq_true rfl) ?_
  intro pP eE sS mI ar9 bl9 meth cD ls hx hb hr hlocks hml hts hown hnm hW hR hl
  have hK := hL.K hW
  have hS : va_S (fwA G) sS.heap sS.heap [] := va_S.rf
  have hin11 : ∀ w ∈ u_ws RX11 TX11 19, w ∈ wsX11_tinGets := by decide +kernel
  have hl : lv_has ls 3 [(0, .ref m), (1, .int t)] := hl
  refine lv_iconst (v := 0) hx hb dX11_tinGets_0 (by decide) ?_
  refine lv_istore_n (lv' := [(2, .int 0), (0, .ref m), (1, .int t)]) hx hb dX11_tinGets_1 rfl hl (by decide) rfl (fun ls hl => ?_)
  have loop_1 : ∀ (fu : Nat) (j : Nat) (τ1 : FWd), (6 - j) < fu → (j ≤ 6) → τ1.1 = ω.1 → τ1.2 (m + 1) = some (.inl (G.2.1 0, 324, .inl (getsM g nd t j))) → (∀ q : Nat, ¬ q = (m + 1) → τ1.2 q = ω.2 q) → ∀ (H : Heap) (locs : List Loc) (ls : Array Slot), fR G τ1 H → va_S (fwA G) sS.heap H locs → lv_has ls 3 [(2, .int (nI j)), (0, .ref m), (1, .int t)] → W pP l eE ({ frames := 0, cells := 0, slots := 0, locals := 0 } : Room) sS mI ar9 bl9 meth cD H locs 0 0 (MQ bl9 (fQ G (fun vv9 τ9 => vv9 = none ∧ τ9.1 = ω.1 ∧ τ9.2 (m + 1) = some (.inl (G.2.1 0, 324, .inl (getsM g nd t 6))) ∧ ∀ q : Nat, ¬ q = (m + 1) → τ9.2 q = ω.2 q)) ar9 sS 0 0 (fwA G)) (F0 mI 2 ls []) := by
    intro fu
    induction fu with
    | zero => intro j τ1 hfu; exact absurd hfu (Nat.not_lt_zero _)
    | succ fu ih =>
      intro j τ1 hfu hj hzτ1 w1 hfrτ1 H locs ls hR hS hl
      refine lv_iload_n hx hb dX11_tinGets_2 rfl (lv_at hl 0 rfl) ?_
      refine lv_bipush (v := 6) hx hb dX11_tinGets_3 (by decide) ?_
      refine lv_icmp_ge (tgt := 34) hx hb dX11_tinGets_5 (by decide) (fun c_2 => ?_) (fun c_2 => ?_)
      · skip
        have hj2 := lp_ge (n := 6) rfl c_2 (by omega) (by omega)
        have hjn : j = 6 := by omega
        have fr_3 : ∀ q : Nat, ¬ q = (m + 1) → τ1.2 q = ω.2 q := by
          intro q h0
          rw [hfrτ1 q (by omega)]
        have z_4 : τ1.1 = ω.1 := by rw [hzτ1]
        refine fw_vret hx hb hr hlocks hR hS dX11_tinGets_34 ⟨rfl, z_4, ?_, fr_3⟩
        · refine w1.trans (congrArg some ?_)
          rw [hjn]
      · skip
        have hj2 := lp_lt (n := 6) rfl c_2 (by omega) (by omega)
        refine lv_aload_n hx hb dX11_tinGets_8 rfl (lv_at hl 1 rfl) ?_
        have f_5 : τ1.2 m = some (.inr (13, [.ref (m + 1), .ref (m + 2), .ref (m + 3), .int (s 3), .ref (m + 4), .int (s 5), .ref (m + 5), .int (s 7), .int (s 8), .int (s 9), .int (s 10), .int (s 11), .ref (m + 6), .int (s 13), .int (s 14), .ref (m + 7), .int (s 16), .int (s 17), .ref (m + 8)])) := (hfrτ1 m (by omega)).trans m0
        refine fw_get (v := .ref (m + 1)) (C := RX11) (T := TX11) (N := 19) hx hb hts hin11 hown hK hR f_5 rfl 0 (by decide) (hts (.fieldLink RX11 7 "UnreadLeafletsModel" "g" "[I") (by decide +kernel)) rfl dX11_tinGets_9 ?_
        refine lv_bipush (v := 6) hx hb dX11_tinGets_12 (by decide) ?_
        refine lv_iload_n hx hb dX11_tinGets_14 rfl (lv_at hl 0 rfl) ?_
        refine lv_iadd hx hb dX11_tinGets_15 ?_
        refine lv_dup2_11 hx hb dX11_tinGets_16 rfl rfl ?_
        have hi_6 : 6 + (nI j) = nI (6 + j) := by
          show (nI 6) + (nI j) = _
          simp only [pk_mul, nI_add]
        refine W.eq (g2 := F0 mI 17 ls [.int (nI (6 + j)), .ref (m + 1), .int (6 + (nI j)), .ref (m + 1)]) (by rw [hi_6]) ?_
        refine fw_iald hx hb hK hR w1 (vp_in_nI (by omega) (by omega)) dX11_tinGets_17 ?_
        refine W.eq (g2 := F0 mI 18 ls [.int ((getsM g nd t j) (6 + j)), .int (6 + (nI j)), .ref (m + 1)]) (by rw [nI_clamp (by omega)]) ?_
        refine lv_iload_n hx hb dX11_tinGets_18 rfl (lv_at hl 2 rfl) ?_
        refine lv_aload_n hx hb dX11_tinGets_19 rfl (lv_at hl 1 rfl) ?_
        refine fw_get (v := .ref (m + 7)) (C := RX11) (T := TX11) (N := 19) hx hb hts hin11 hown hK hR f_5 rfl 15 (by decide) (hts (.fieldLink RX11 33 "UnreadLeafletsModel" "needs" "[I") (by decide +kernel)) rfl dX11_tinGets_20 ?_
        refine lv_iload_n hx hb dX11_tinGets_23 rfl (lv_at hl 0 rfl) ?_
        have f_7 : τ1.2 (m + 7) = some (.inl (G.2.1 0, 6, .inl nd)) := (hfrτ1 (m + 7) (by omega)).trans m7
        refine fw_iald hx hb hK hR f_7 (vp_in_nI (by omega) (by omega)) dX11_tinGets_24 ?_
        refine W.eq (g2 := F0 mI 25 ls [.int (nd j), .int t, .int ((getsM g nd t j) (6 + j)), .int (6 + (nI j)), .ref (m + 1)]) (by rw [nI_clamp (by omega)]) ?_
        refine lv_imul hx hb dX11_tinGets_25 ?_
        refine lv_iadd hx hb dX11_tinGets_26 ?_
        have hi_8 : 6 + (nI j) = nI (6 + j) := by
          show (nI 6) + (nI j) = _
          simp only [pk_mul, nI_add]
        refine W.eq (g2 := F0 mI 27 ls [.int (((getsM g nd t j) (6 + j)) + (t * (nd j))), .int (nI (6 + j)), .ref (m + 1)]) (by rw [hi_8]) ?_
        refine fw_iast hx hb hK hR hS w1 (vp_in_nI (by omega) (by omega)) dX11_tinGets_27 (fun H locs hR hS => ?_)
        rw [show (nI (6 + j)).toNatClampNeg = 6 + j from nI_clamp (by omega)] at hR
        obtain ⟨ω_9, hw_10⟩ : ∃ τ : FWd, τ = (τ1.1, va_up τ1.2 (m + 1) (some (.inl (G.2.1 0, 324, .inl (upd (getsM g nd t j) (6 + j) (((getsM g nd t j) (6 + j)) + (t * (nd j)))))))) := ⟨_, rfl⟩
        have hR : fR G ω_9 H := by rw [hw_10]; exact hR
        have f_11 : ω_9.2 (m + 1) = some (.inl (G.2.1 0, 324, .inl (upd (getsM g nd t j) (6 + j) (((getsM g nd t j) (6 + j)) + (t * (nd j)))))) := by rw [hw_10]; exact va_up_at
        have fr_12 : ∀ q : Nat, ¬ q = (m + 1) → ω_9.2 q = τ1.2 q := fun q hq => by rw [hw_10]; exact va_up_off hq
        have z_13 : ω_9.1 = τ1.1 := by rw [hw_10]
        obtain ⟨x_14, ex_14⟩ : ∃ y : Int32, y = (nI j) + 1 := ⟨_, rfl⟩
        refine lv_iinc (v := x_14) (lv' := [(2, .int x_14), (0, .ref m), (1, .int t)]) hx hb dX11_tinGets_28 hl (k := 0) rfl (by rw [ex_14]; rfl) (by decide) rfl (fun ls hl => ?_)
        refine lv_goto (tgt := 2) hx hb dX11_tinGets_31 (by decide) ?_
        have el_2 : x_14 = nI (j + 1) := by rw [ex_14]; exact nI_1 j
        have hl := lv_sub (l' := [(2, .int x_14), (0, .ref m), (1, .int t)]) hl [0, 1, 2] rfl
        rw [el_2] at hl
        have wf_15 : ω_9.2 (m + 1) = some (.inl (G.2.1 0, 324, .inl (getsM g nd t (j + 1)))) := f_11.trans (congrArg some (by rfl))
        have fr_16 : ∀ q : Nat, ¬ q = (m + 1) → ω_9.2 q = ω.2 q := by
          intro q h0
          rw [fr_12 q (by omega)]
          rw [hfrτ1 q (by omega)]
        have z_17 : ω_9.1 = ω.1 := by rw [z_13, hzτ1]
        exact ih (j + 1) ω_9 (by omega) (by first | assumption | omega | (simp; done)) z_17 wf_15 fr_16 _ _ _ hR hS hl
  exact loop_1 _ 0 ω (Nat.lt_succ_self _) (by first | rfl | assumption | omega | (simp; done)) rfl m1 (fun _ _ => rfl) _ _ _ hR hS (lv_sub hl [0, 1, 2] rfl)
set_option maxHeartbeats 4000000 in
set_option maxRecDepth 100000 in
theorem c_X11_copy (G : FG) (hL : FL G) (l : Launch) (ω : FWd) (a b n0 n1 p q : Nat) (f h : Nat → Int32) (h0 : ω.2 a = some (.inl (G.2.1 0, n0, .inl f))) (h1 : ω.2 b = some (.inl (G.2.1 0, n1, .inl h))) (hab : ¬ a = b) (hp : p + 324 ≤ n0) (hq : q + 324 ≤ n1) (hn0 : n0 < 10000) (hn1 : n1 < 10000) : FMet G l yX11_copy wsX11_copy ({ frames := 0, cells := 0, slots := 0, locals := 0 } : Room) [.ref a, .int (nI p), .ref b, .int (nI q)] ω (fun vv9 τ9 => vv9 = none ∧ τ9.1 = ω.1 ∧ τ9.2 b = some (.inl (G.2.1 0, n1, .inl (cpyJ f h p q 324))) ∧ ∀ q : Nat, ¬ q = b → τ9.2 q = ω.2 q) 0 0 := by
  refine fw_ofW (cc := cX11_copy) (maxL := 5) (ret := none) (by decide) rfl (Nat.le_of_ble_eq_true rfl) ?_
  intro pP eE sS mI ar9 bl9 meth cD ls hx hb hr hlocks hml hts hown hnm hW hR hl
  have hK := hL.K hW
  have hS : va_S (fwA G) sS.heap sS.heap [] := va_S.rf
  have hl : lv_has ls 5 [(0, .ref a), (1, .int (nI p)), (2, .ref b), (3, .int (nI q))] := hl
  refine lv_iconst (v := 0) hx hb dX11_copy_0 (by decide) ?_
  refine lv_istore (lv' := [(4, .int 0), (0, .ref a), (1, .int (nI p)), (2, .ref b), (3, .int (nI q))]) hx hb dX11_copy_1 hl (by decide) rfl (fun ls hl => ?_)
  have loop_1 : ∀ (fu : Nat) (j : Nat) (τ1 : FWd), (324 - j) < fu → (j ≤ 324) → τ1.1 = ω.1 → τ1.2 b = some (.inl (G.2.1 0, n1, .inl (cpyJ f h p q j))) → (∀ q : Nat, ¬ q = b → τ1.2 q = ω.2 q) → ∀ (H : Heap) (locs : List Loc) (ls : Array Slot), fR G τ1 H → va_S (fwA G) sS.heap H locs → lv_has ls 5 [(4, .int (nI j)), (0, .ref a), (1, .int (nI p)), (2, .ref b), (3, .int (nI q))] → W pP l eE ({ frames := 0, cells := 0, slots := 0, locals := 0 } : Room) sS mI ar9 bl9 meth cD H locs 0 0 (MQ bl9 (fQ G (fun vv9 τ9 => vv9 = none ∧ τ9.1 = ω.1 ∧ τ9.2 b = some (.inl (G.2.1 0, n1, .inl (cpyJ f h p q 324))) ∧ ∀ q : Nat, ¬ q = b → τ9.2 q = ω.2 q)) ar9 sS 0 0 (fwA G)) (F0 mI 3 ls []) := by
    intro fu
    induction fu with
    | zero => intro j τ1 hfu; exact absurd hfu (Nat.not_lt_zero _)
    | succ fu ih =>
      intro j τ1 hfu hj hzτ1 w1 hfrτ1 H locs ls hR hS hl
      refine lv_iload hx hb dX11_copy_3 (lv_at hl 0 rfl) ?_
      refine lv_sipush (v := 324) hx hb dX11_copy_5 (by decide) ?_
      refine lv_icmp_ge (tgt := 29) hx hb dX11_copy_8 (by decide) (fun c_2 => ?_) (fun c_2 => ?_)
      · skip
        have hj2 := lp_ge (n := 324) rfl c_2 (by omega) (by omega)
        have hjn : j = 324 := by omega
        have fr_3 : ∀ q : Nat, ¬ q = b → τ1.2 q = ω.2 q := by
          intro q h0
          rw [hfrτ1 q (by omega)]
        have z_4 : τ1.1 = ω.1 := by rw [hzτ1]
        refine fw_vret hx hb hr hlocks hR hS dX11_copy_29 ⟨rfl, z_4, ?_, fr_3⟩
        · refine w1.trans (congrArg some ?_)
          rw [hjn]
      · skip
        have hj2 := lp_lt (n := 324) rfl c_2 (by omega) (by omega)
        refine lv_aload_n hx hb dX11_copy_11 rfl (lv_at hl 3 rfl) ?_
        refine lv_iload_n hx hb dX11_copy_12 rfl (lv_at hl 4 rfl) ?_
        refine lv_iload hx hb dX11_copy_13 (lv_at hl 0 rfl) ?_
        refine lv_iadd hx hb dX11_copy_15 ?_
        refine lv_aload_n hx hb dX11_copy_16 rfl (lv_at hl 1 rfl) ?_
        refine lv_iload_n hx hb dX11_copy_17 rfl (lv_at hl 2 rfl) ?_
        refine lv_iload hx hb dX11_copy_18 (lv_at hl 0 rfl) ?_
        refine lv_iadd hx hb dX11_copy_20 ?_
        have hi_5 : (nI p) + (nI j) = nI (p + j) := by
          show (nI p) + (nI j) = _
          simp only [pk_mul, nI_add]
        refine W.eq (g2 := F0 mI 21 ls [.int (nI (p + j)), .ref a, .int ((nI q) + (nI j)), .ref b]) (by rw [hi_5]) ?_
        have f_6 : τ1.2 a = some (.inl (G.2.1 0, n0, .inl f)) := (hfrτ1 a (by omega)).trans h0
        refine fw_iald hx hb hK hR f_6 (vp_in_nI (by omega) (by omega)) dX11_copy_21 ?_
        refine W.eq (g2 := F0 mI 22 ls [.int (f (p + j)), .int ((nI q) + (nI j)), .ref b]) (by rw [nI_clamp (by omega)]) ?_
        have hi_7 : (nI q) + (nI j) = nI (q + j) := by
          show (nI q) + (nI j) = _
          simp only [pk_mul, nI_add]
        refine W.eq (g2 := F0 mI 22 ls [.int (f (p + j)), .int (nI (q + j)), .ref b]) (by rw [hi_7]) ?_
        refine fw_iast hx hb hK hR hS w1 (vp_in_nI (by omega) (by omega)) dX11_copy_22 (fun H locs hR hS => ?_)
        rw [show (nI (q + j)).toNatClampNeg = q + j from nI_clamp (by omega)] at hR
        obtain ⟨ω_8, hw_9⟩ : ∃ τ : FWd, τ = (τ1.1, va_up τ1.2 b (some (.inl (G.2.1 0, n1, .inl (upd (cpyJ f h p q j) (q + j) (f (p + j))))))) := ⟨_, rfl⟩
        have hR : fR G ω_8 H := by rw [hw_9]; exact hR
        have f_10 : ω_8.2 b = some (.inl (G.2.1 0, n1, .inl (upd (cpyJ f h p q j) (q + j) (f (p + j))))) := by rw [hw_9]; exact va_up_at
        have fr_11 : ∀ q : Nat, ¬ q = b → ω_8.2 q = τ1.2 q := fun q hq => by rw [hw_9]; exact va_up_off hq
        have z_12 : ω_8.1 = τ1.1 := by rw [hw_9]
        obtain ⟨x_13, ex_13⟩ : ∃ y : Int32, y = (nI j) + 1 := ⟨_, rfl⟩
        refine lv_iinc (v := x_13) (lv' := [(4, .int x_13), (0, .ref a), (1, .int (nI p)), (2, .ref b), (3, .int (nI q))]) hx hb dX11_copy_23 hl (k := 0) rfl (by rw [ex_13]; rfl) (by decide) rfl (fun ls hl => ?_)
        refine lv_goto (tgt := 3) hx hb dX11_copy_26 (by decide) ?_
        have el_4 : x_13 = nI (j + 1) := by rw [ex_13]; exact nI_1 j
        have hl := lv_sub (l' := [(4, .int x_13), (0, .ref a), (1, .int (nI p)), (2, .ref b), (3, .int (nI q))]) hl [0, 1, 2, 3, 4] rfl
        rw [el_4] at hl
        have wf_14 : ω_8.2 b = some (.inl (G.2.1 0, n1, .inl (cpyJ f h p q (j + 1)))) := f_10.trans (congrArg some (by rfl))
        have fr_15 : ∀ q : Nat, ¬ q = b → ω_8.2 q = ω.2 q := by
          intro q h0
          rw [fr_11 q (by omega)]
          rw [hfrτ1 q (by omega)]
        have z_16 : ω_8.1 = ω.1 := by rw [z_12, hzτ1]
        exact ih (j + 1) ω_8 (by omega) (by first | assumption | omega | (simp; done)) z_16 wf_14 fr_15 _ _ _ hR hS hl
  exact loop_1 _ 0 ω (Nat.lt_succ_self _) (by first | rfl | assumption | omega | (simp; done)) rfl h1 (fun _ _ => rfl) _ _ _ hR hS (lv_sub hl [0, 1, 2, 3, 4] rfl)
