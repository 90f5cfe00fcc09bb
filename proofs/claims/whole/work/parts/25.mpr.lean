/-! ===== printed by program (wip/whole/gen): the reference reads its text ===== -/
/-- where the reader stands, how long the text is -/
def PK (s : Nat → Int32) (b : Nat) : Prop := okN (s 7) 60 ∧ okN (s 16) b
theorem PK_le {s : Nat → Int32} {a b : Nat} (h : PK s a) (hb : a ≤ b) : PK s b := ⟨h.1, okN_le h.2 hb⟩
theorem PK_16 {s : Nat → Int32} {b : Nat} (h : PK s b) (hb : b < 10000) : PK (upd s 16 (s 16 + 1)) (b + 1) := ⟨h.1, okN_1 h.2 (by omega)⟩
theorem PK_17 {s : Nat → Int32} {b : Nat} {x : Int32} (h : PK s b) : PK (upd s 17 x) b := h
theorem okN_p0 {x : Int32} {b : Nat} (h : okN x b) : okN (x + 0) (b + 1) := by rw [Int32.add_zero]; exact okN_le h (by omega)
def hereM (s g ip : Nat → Int32) : Int32 := if (s 7) ≤ (s 16) then ((-1)) else (ip (cN (s 16)))
set_option maxHeartbeats 4000000 in
set_option maxRecDepth 100000 in
theorem c_X11_here (G : FG) (hL : FL G) (l : Launch) (ω : FWd) (m : Nat) (s g : Nat → Int32) (m0 : ω.2 m = some (.inr (13, [.ref (m + 1), .ref (m + 2), .ref (m + 3), .int (s 3), .ref (m + 4), .int (s 5), .ref (m + 5), .int (s 7), .int (s 8), .int (s 9), .int (s 10), .int (s 11), .ref (m + 6), .int (s 13), .int (s 14), .ref (m + 7), .int (s 16), .int (s 17), .ref (m + 8)]))) (m1 : ω.2 (m + 1) = some (.inl (G.2.1 0, 324, .inl g))) (ip : Nat → Int32) (m5 : ω.2 (m + 5) = some (.inl (G.2.1 1, 60, .inl ip))) (hp : PK s 600) : FMet G l yX11_here wsX11_here ({ frames := 0, cells := 0, slots := 0, locals := 0 } : Room) [.ref m] ω (rI (hereM s g ip) ω) 0 0 := by
  refine fw_ofW (cc := cX11_here) (maxL := 1) (ret := (some .int)) (by decide) rfl (Nat.le_of_ble_eq_true rfl) ?_
  intro pP eE sS mI ar9 bl9 meth cD ls hx hb hr hlocks hml hts hown hnm hW hR hl
  have hK := hL.K hW
  have hS : va_S (fwA G) sS.heap sS.heap [] := va_S.rf
  have hin11 : ∀ w ∈ u_ws RX11 TX11 19, w ∈ wsX11_here := by decide +kernel
  have hl : lv_has ls 1 [(0, .ref m)] := hl
  obtain ⟨ty, hty6, hty, htyc⟩ := okN_of hp.1
  obtain ⟨sp, hsp6, hspe, hspc⟩ := okN_of hp.2
  refine lv_aload_n hx hb dX11_here_0 rfl (lv_at hl 0 rfl) ?_
  refine fw_get (v := .int (s 16)) (C := RX11) (T := TX11) (N := 19) hx hb hts hin11 hown hK hR m0 rfl 16 (by decide) (hts (.fieldLink RX11 192 "UnreadLeafletsModel" "spot" "I") (by decide +kernel)) rfl dX11_here_1 ?_
  refine lv_aload_n hx hb dX11_here_4 rfl (lv_at hl 0 rfl) ?_
  refine fw_get (v := .int (s 7)) (C := RX11) (T := TX11) (N := 19) hx hb hts hin11 hown hK hR m0 rfl 7 (by decide) (hts (.fieldLink RX11 189 "UnreadLeafletsModel" "typed" "I") (by decide +kernel)) rfl dX11_here_5 ?_
  refine lv_icmp_ge (tgt := 23) hx hb dX11_here_8 (by decide) (fun c_1 => ?_) (fun c_1 => ?_)
  · skip
    refine lv_iconst (v := (-1)) hx hb dX11_here_23 (by decide) ?_
    have fr_2 : ∀ q : Nat, True → ω.2 q = ω.2 q := by
      intro q _
      rfl
    have z_3 : ω.1 = ω.1 := rfl
    have hr_4 : hereM s g ip = ((-1) : Int32) := by
      simp only [hereM, hspc, htyc]
      rw [if_pos c_1]
    refine fw_iret hx hb hr hlocks hR hS dX11_here_24 (rI_mk hr_4.symm)
  · skip
    have hsl : sp < ty := by have h9 := c_1; rw [hty, hspe] at h9; exact Nat.lt_of_not_le (fun z => h9 ((nI_leI (by omega) (by omega)).mpr z))
    refine lv_aload_n hx hb dX11_here_11 rfl (lv_at hl 0 rfl) ?_
    refine fw_get (v := .ref (m + 5)) (C := RX11) (T := TX11) (N := 19) hx hb hts hin11 hown hK hR m0 rfl 6 (by decide) (hts (.fieldLink RX11 22 "UnreadLeafletsModel" "input" "[C") (by decide +kernel)) rfl dX11_here_12 ?_
    refine lv_aload_n hx hb dX11_here_15 rfl (lv_at hl 0 rfl) ?_
    refine fw_get (v := .int (s 16)) (C := RX11) (T := TX11) (N := 19) hx hb hts hin11 hown hK hR m0 rfl 16 (by decide) (hts (.fieldLink RX11 192 "UnreadLeafletsModel" "spot" "I") (by decide +kernel)) rfl dX11_here_16 ?_
    have hi_5 : s 16 = nI (sp) := by
      show s 16 = _
      simp only [pk_mul, nI_add, Nat.add_assoc, hspe, hty]
    refine W.eq (g2 := F0 mI 19 ls [.int (nI (sp)), .ref (m + 5)]) (by rw [hi_5]) ?_
    refine fw_cald hx hb hK hR m5 (vp_in_nI (by omega) (by omega)) dX11_here_19 ?_
    refine W.eq (g2 := F0 mI 20 ls [.int (ip sp)]) (by rw [nI_clamp (by omega)]) ?_
    refine lv_goto (tgt := 24) hx hb dX11_here_20 (by decide) ?_
    have fr_6 : ∀ q : Nat, True → ω.2 q = ω.2 q := by
      intro q _
      rfl
    have z_7 : ω.1 = ω.1 := rfl
    have hr_8 : hereM s g ip = ((ip sp) : Int32) := by
      simp only [hereM, hspc, htyc]
      rw [if_neg c_1]
    refine fw_iret hx hb hr hlocks hR hS dX11_here_24 (rI_mk hr_8.symm)
def needsM (s g ip : Nat → Int32) (c : Int32) : (Nat → Int32) := if (s 17) = 0 then (if (hereM s g ip) = c then ((upd (upd s 17 0) 16 ((s 16) + 1))) else ((upd (upd s 17 1) 16 ((s 16) + 0)))) else ((upd (upd s 17 1) 16 ((s 16) + 0)))
theorem needsM_pk {s g ip : Nat → Int32} {c : Int32} {b : Nat} (h : PK s b) (hb : b < 10000) : PK (needsM s g ip c) (b + 1) := by
  unfold needsM
  (repeat' split) <;> first | exact ⟨h.1, okN_1 h.2 (by omega)⟩ | exact ⟨h.1, okN_p0 h.2⟩
set_option maxHeartbeats 4000000 in
set_option maxRecDepth 100000 in
theorem c_X11_needsSign (G : FG) (hL : FL G) (l : Launch) (ω : FWd) (m : Nat) (s g : Nat → Int32) (m0 : ω.2 m = some (.inr (13, [.ref (m + 1), .ref (m + 2), .ref (m + 3), .int (s 3), .ref (m + 4), .int (s 5), .ref (m + 5), .int (s 7), .int (s 8), .int (s 9), .int (s 10), .int (s 11), .ref (m + 6), .int (s 13), .int (s 14), .ref (m + 7), .int (s 16), .int (s 17), .ref (m + 8)]))) (m1 : ω.2 (m + 1) = some (.inl (G.2.1 0, 324, .inl g))) (ip : Nat → Int32) (m5 : ω.2 (m + 5) = some (.inl (G.2.1 1, 60, .inl ip))) (hp : PK s 590) (c : Int32) : FMet G l yX11_needsSign wsX11_needsSign ({ frames := 1, cells := 0, slots := 0, locals := 20 } : Room) [.ref m, .int c] ω (fun vv9 τ9 => vv9 = none ∧ τ9.1 = ω.1 ∧ τ9.2 m = some (.inr (13, [.ref (m + 1), .ref (m + 2), .ref (m + 3), .int ((needsM s g ip c) 3), .ref (m + 4), .int ((needsM s g ip c) 5), .ref (m + 5), .int ((needsM s g ip c) 7), .int ((needsM s g ip c) 8), .int ((needsM s g ip c) 9), .int ((needsM s g ip c) 10), .int ((needsM s g ip c) 11), .ref (m + 6), .int ((needsM s g ip c) 13), .int ((needsM s g ip c) 14), .ref (m + 7), .int ((needsM s g ip c) 16), .int ((needsM s g ip c) 17), .ref (m + 8)])) ∧ ∀ q : Nat, ¬ q = m → τ9.2 q = ω.2 q) 0 0 := by
  refine fw_ofW (cc := cX11_needsSign) (maxL := 2) (ret := none) (by decide) rfl (Nat.le_of_ble_eq_true rfl) ?_
  intro pP eE sS mI ar9 bl9 meth cD ls hx hb hr hlocks hml hts hown hnm hW hR hl
  have hK := hL.K hW
  have hS : va_S (fwA G) sS.heap sS.heap [] := va_S.rf
  have hin11 : ∀ w ∈ u_ws RX11 TX11 19, w ∈ wsX11_needsSign := by decide +kernel
  have hl : lv_has ls 2 [(0, .ref m), (1, .int c)] := hl
  obtain ⟨ty, hty6, hty, htyc⟩ := okN_of hp.1
  obtain ⟨sp, hsp6, hspe, hspc⟩ := okN_of hp.2
  refine lv_aload_n hx hb dX11_needsSign_0 rfl (lv_at hl 0 rfl) ?_
  refine lv_aload_n hx hb dX11_needsSign_1 rfl (lv_at hl 0 rfl) ?_
  refine fw_get (v := .int (s 17)) (C := RX11) (T := TX11) (N := 19) hx hb hts hin11 hown hK hR m0 rfl 17 (by decide) (hts (.fieldLink RX11 195 "UnreadLeafletsModel" "isWrong" "Z") (by decide +kernel)) rfl dX11_needsSign_2 ?_
  refine lv_if_ne (tgt := 16) hx hb dX11_needsSign_5 (by decide) (fun c_1 => ?_) (fun c_1 => ?_)
  · skip
    refine lv_iconst (v := 1) hx hb dX11_needsSign_16 (by decide) ?_
    refine lv_goto (tgt := 21) hx hb dX11_needsSign_17 (by decide) ?_
    refine fw_put (v := .int 1) (C := RX11) (T := TX11) (N := 19) hx hb hts hin11 tyX11 tyX11_ok nmX11 hown hK hR hS m0 rfl 17 (by decide) (hts (.fieldLink RX11 195 "UnreadLeafletsModel" "isWrong" "Z") (by decide +kernel)) rfl rfl rfl (Nat.le_of_ble_eq_true rfl) dX11_needsSign_21 (fun H locs hR hS => ?_)
    obtain ⟨ω_2, hw_3⟩ : ∃ τ : FWd, τ = (ω.1, va_up ω.2 m (some (.inr (13, [.ref (m + 1), .ref (m + 2), .ref (m + 3), .int ((upd s 17 1) 3), .ref (m + 4), .int ((upd s 17 1) 5), .ref (m + 5), .int ((upd s 17 1) 7), .int ((upd s 17 1) 8), .int ((upd s 17 1) 9), .int ((upd s 17 1) 10), .int ((upd s 17 1) 11), .ref (m + 6), .int ((upd s 17 1) 13), .int ((upd s 17 1) 14), .ref (m + 7), .int ((upd s 17 1) 16), .int ((upd s 17 1) 17), .ref (m + 8)])))) := ⟨_, rfl⟩
    have hR : fR G ω_2 H := by rw [hw_3]; exact hR
    have f_4 : ω_2.2 m = some (.inr (13, [.ref (m + 1), .ref (m + 2), .ref (m + 3), .int ((upd s 17 1) 3), .ref (m + 4), .int ((upd s 17 1) 5), .ref (m + 5), .int ((upd s 17 1) 7), .int ((upd s 17 1) 8), .int ((upd s 17 1) 9), .int ((upd s 17 1) 10), .int ((upd s 17 1) 11), .ref (m + 6), .int ((upd s 17 1) 13), .int ((upd s 17 1) 14), .ref (m + 7), .int ((upd s 17 1) 16), .int ((upd s 17 1) 17), .ref (m + 8)])) := by rw [hw_3]; exact va_up_at
    have fr_5 : ∀ q : Nat, ¬ q = m → ω_2.2 q = ω.2 q := fun q hq => by rw [hw_3]; exact va_up_off hq
    have z_6 : ω_2.1 = ω.1 := by rw [hw_3]
    refine lv_aload_n hx hb dX11_needsSign_24 rfl (lv_at hl 0 rfl) ?_
    refine lv_dup hx hb dX11_needsSign_25 rfl ?_
    refine fw_get (v := .int (s 16)) (C := RX11) (T := TX11) (N := 19) hx hb hts hin11 hown hK hR f_4 rfl 16 (by decide) (hts (.fieldLink RX11 192 "UnreadLeafletsModel" "spot" "I") (by decide +kernel)) rfl dX11_needsSign_26 ?_
    refine lv_aload_n hx hb dX11_needsSign_29 rfl (lv_at hl 0 rfl) ?_
    refine fw_get (v := .int 1) (C := RX11) (T := TX11) (N := 19) hx hb hts hin11 hown hK hR f_4 rfl 17 (by decide) (hts (.fieldLink RX11 195 "UnreadLeafletsModel" "isWrong" "Z") (by decide +kernel)) rfl dX11_needsSign_30 ?_
    refine lv_if_eq (tgt := 40) hx hb dX11_needsSign_33 (by decide) (fun c_7 => ?_) (fun c_7 => ?_)
    · skip
      exact absurd c_7 (by decide)
    · skip
      refine lv_iconst (v := 0) hx hb dX11_needsSign_36 (by decide) ?_
      refine lv_goto (tgt := 41) hx hb dX11_needsSign_37 (by decide) ?_
      refine lv_iadd hx hb dX11_needsSign_41 ?_
      refine fw_put (v := .int ((s 16) + 0)) (C := RX11) (T := TX11) (N := 19) hx hb hts hin11 tyX11 tyX11_ok nmX11 hown hK hR hS f_4 rfl 16 (by decide) (hts (.fieldLink RX11 192 "UnreadLeafletsModel" "spot" "I") (by decide +kernel)) rfl rfl rfl (Nat.le_of_ble_eq_true rfl) dX11_needsSign_42 (fun H locs hR hS => ?_)
      obtain ⟨ω_8, hw_9⟩ : ∃ τ : FWd, τ = (ω_2.1, va_up ω_2.2 m (some (.inr (13, [.ref (m + 1), .ref (m + 2), .ref (m + 3), .int ((upd (upd s 17 1) 16 ((s 16) + 0)) 3), .ref (m + 4), .int ((upd (upd s 17 1) 16 ((s 16) + 0)) 5), .ref (m + 5), .int ((upd (upd s 17 1) 16 ((s 16) + 0)) 7), .int ((upd (upd s 17 1) 16 ((s 16) + 0)) 8), .int ((upd (upd s 17 1) 16 ((s 16) + 0)) 9), .int ((upd (upd s 17 1) 16 ((s 16) + 0)) 10), .int ((upd (upd s 17 1) 16 ((s 16) + 0)) 11), .ref (m + 6), .int ((upd (upd s 17 1) 16 ((s 16) + 0)) 13), .int ((upd (upd s 17 1) 16 ((s 16) + 0)) 14), .ref (m + 7), .int ((upd (upd s 17 1) 16 ((s 16) + 0)) 16), .int ((upd (upd s 17 1) 16 ((s 16) + 0)) 17), .ref (m + 8)])))) := ⟨_, rfl⟩
      have hR : fR G ω_8 H := by rw [hw_9]; exact hR
      have f_10 : ω_8.2 m = some (.inr (13, [.ref (m + 1), .ref (m + 2), .ref (m + 3), .int ((upd (upd s 17 1) 16 ((s 16) + 0)) 3), .ref (m + 4), .int ((upd (upd s 17 1) 16 ((s 16) + 0)) 5), .ref (m + 5), .int ((upd (upd s 17 1) 16 ((s 16) + 0)) 7), .int ((upd (upd s 17 1) 16 ((s 16) + 0)) 8), .int ((upd (upd s 17 1) 16 ((s 16) + 0)) 9), .int ((upd (upd s 17 1) 16 ((s 16) + 0)) 10), .int ((upd (upd s 17 1) 16 ((s 16) + 0)) 11), .ref (m + 6), .int ((upd (upd s 17 1) 16 ((s 16) + 0)) 13), .int ((upd (upd s 17 1) 16 ((s 16) + 0)) 14), .ref (m + 7), .int ((upd (upd s 17 1) 16 ((s 16) + 0)) 16), .int ((upd (upd s 17 1) 16 ((s 16) + 0)) 17), .ref (m + 8)])) := by rw [hw_9]; exact va_up_at
      have fr_11 : ∀ q : Nat, ¬ q = m → ω_8.2 q = ω_2.2 q := fun q hq => by rw [hw_9]; exact va_up_off hq
      have z_12 : ω_8.1 = ω_2.1 := by rw [hw_9]
      have fr_13 : ∀ q : Nat, ¬ q = m → ω_8.2 q = ω.2 q := by
        intro q h0
        rw [fr_11 q (by omega)]
        rw [fr_5 q (by omega)]
      have z_14 : ω_8.1 = ω.1 := by rw [z_12, z_6]
      have hr_15 : needsM s g ip c = ((upd (upd s 17 1) 16 ((s 16) + 0)) : (Nat → Int32)) := by
        simp only [needsM]
        rw [if_neg c_1]
      refine fw_vret hx hb hr hlocks hR hS dX11_needsSign_45 ?_
      rw [hr_15]
      exact ⟨rfl, z_14, f_10, fr_13⟩
  · skip
    refine lv_aload_n hx hb dX11_needsSign_8 rfl (lv_at hl 0 rfl) ?_
    refine fw_call (va_runV (As := []) (rest := [.ref m]) ⟨hx, hb, hml, hown, hts⟩ (c_X11_here G hL l ω m s g m0 m1 ip m5 (PK_le hp (by omega))  ) (cwV 0 hts gX11_needsSign_X11_here rfl rfl rfl (by decide +kernel) ⟨Nat.le_of_ble_eq_true rfl, Nat.le_of_ble_eq_true rfl⟩) (fw_preV hW hK hR m0 rfl) rfl rfl hl.1 rfl (lv_room (Nat.le_of_ble_eq_true rfl)) dX11_needsSign_9 ⟨Nat.le_of_ble_eq_true rfl, Nat.le_of_ble_eq_true rfl⟩) hS (fun v_16 ω_17 H locs hq_18 hR hS => ?_)
    obtain ⟨rfl, hq_18⟩ := hq_18
    rw [hq_18] at hR
    refine W.eq (g2 := F0 mI 12 ls [.int (hereM s g ip), .ref m]) rfl ?_
    refine lv_iload_n hx hb dX11_needsSign_12 rfl (lv_at hl 1 rfl) ?_
    refine lv_icmp_eq (tgt := 20) hx hb dX11_needsSign_13 (by decide) (fun c_19 => ?_) (fun c_19 => ?_)
    · skip
      refine lv_iconst (v := 0) hx hb dX11_needsSign_20 (by decide) ?_
      refine fw_put (v := .int 0) (C := RX11) (T := TX11) (N := 19) hx hb hts hin11 tyX11 tyX11_ok nmX11 hown hK hR hS m0 rfl 17 (by decide) (hts (.fieldLink RX11 195 "UnreadLeafletsModel" "isWrong" "Z") (by decide +kernel)) rfl rfl rfl (Nat.le_of_ble_eq_true rfl) dX11_needsSign_21 (fun H locs hR hS => ?_)
      obtain ⟨ω_20, hw_21⟩ : ∃ τ : FWd, τ = (ω.1, va_up ω.2 m (some (.inr (13, [.ref (m + 1), .ref (m + 2), .ref (m + 3), .int ((upd s 17 0) 3), .ref (m + 4), .int ((upd s 17 0) 5), .ref (m + 5), .int ((upd s 17 0) 7), .int ((upd s 17 0) 8), .int ((upd s 17 0) 9), .int ((upd s 17 0) 10), .int ((upd s 17 0) 11), .ref (m + 6), .int ((upd s 17 0) 13), .int ((upd s 17 0) 14), .ref (m + 7), .int ((upd s 17 0) 16), .int ((upd s 17 0) 17), .ref (m + 8)])))) := ⟨_, rfl⟩
      have hR : fR G ω_20 H := by rw [hw_21]; exact hR
      have f_22 : ω_20.2 m = some (.inr (13, [.ref (m + 1), .ref (m + 2), .ref (m + 3), .int ((upd s 17 0) 3), .ref (m + 4), .int ((upd s 17 0) 5), .ref (m + 5), .int ((upd s 17 0) 7), .int ((upd s 17 0) 8), .int ((upd s 17 0) 9), .int ((upd s 17 0) 10), .int ((upd s 17 0) 11), .ref (m + 6), .int ((upd s 17 0) 13), .int ((upd s 17 0) 14), .ref (m + 7), .int ((upd s 17 0) 16), .int ((upd s 17 0) 17), .ref (m + 8)])) := by rw [hw_21]; exact va_up_at
      have fr_23 : ∀ q : Nat, ¬ q = m → ω_20.2 q = ω.2 q := fun q hq => by rw [hw_21]; exact va_up_off hq
      have z_24 : ω_20.1 = ω.1 := by rw [hw_21]
      refine lv_aload_n hx hb dX11_needsSign_24 rfl (lv_at hl 0 rfl) ?_
      refine lv_dup hx hb dX11_needsSign_25 rfl ?_
      refine fw_get (v := .int (s 16)) (C := RX11) (T := TX11) (N := 19) hx hb hts hin11 hown hK hR f_22 rfl 16 (by decide) (hts (.fieldLink RX11 192 "UnreadLeafletsModel" "spot" "I") (by decide +kernel)) rfl dX11_needsSign_26 ?_
      refine lv_aload_n hx hb dX11_needsSign_29 rfl (lv_at hl 0 rfl) ?_
      refine fw_get (v := .int 0) (C := RX11) (T := TX11) (N := 19) hx hb hts hin11 hown hK hR f_22 rfl 17 (by decide) (hts (.fieldLink RX11 195 "UnreadLeafletsModel" "isWrong" "Z") (by decide +kernel)) rfl dX11_needsSign_30 ?_
      refine lv_if_eq (tgt := 40) hx hb dX11_needsSign_33 (by decide) (fun c_25 => ?_) (fun c_25 => ?_)
      · skip
        refine lv_iconst (v := 1) hx hb dX11_needsSign_40 (by decide) ?_
        refine lv_iadd hx hb dX11_needsSign_41 ?_
        refine fw_put (v := .int ((s 16) + 1)) (C := RX11) (T := TX11) (N := 19) hx hb hts hin11 tyX11 tyX11_ok nmX11 hown hK hR hS f_22 rfl 16 (by decide) (hts (.fieldLink RX11 192 "UnreadLeafletsModel" "spot" "I") (by decide +kernel)) rfl rfl rfl (Nat.le_of_ble_eq_true rfl) dX11_needsSign_42 (fun H locs hR hS => ?_)
        obtain ⟨ω_26, hw_27⟩ : ∃ τ : FWd, τ = (ω_20.1, va_up ω_20.2 m (some (.inr (13, [.ref (m + 1), .ref (m + 2), .ref (m + 3), .int ((upd (upd s 17 0) 16 ((s 16) + 1)) 3), .ref (m + 4), .int ((upd (upd s 17 0) 16 ((s 16) + 1)) 5), .ref (m + 5), .int ((upd (upd s 17 0) 16 ((s 16) + 1)) 7), .int ((upd (upd s 17 0) 16 ((s 16) + 1)) 8), .int ((upd (upd s 17 0) 16 ((s 16) + 1)) 9), .int ((upd (upd s 17 0) 16 ((s 16) + 1)) 10), .int ((upd (upd s 17 0) 16 ((s 16) + 1)) 11), .ref (m + 6), .int ((upd (upd s 17 0) 16 ((s 16) + 1)) 13), .int ((upd (upd s 17 0) 16 ((s 16) + 1)) 14), .ref (m + 7), .int ((upd (upd s 17 0) 16 ((s 16) + 1)) 16), .int ((upd (upd s 17 0) 16 ((s 16) + 1)) 17), .ref (m + 8)])))) := ⟨_, rfl⟩
        have hR : fR G ω_26 H := by rw [hw_27]; exact hR
        have f_28 : ω_26.2 m = some (.inr (13, [.ref (m + 1), .ref (m + 2), .ref (m + 3), .int ((upd (upd s 17 0) 16 ((s 16) + 1)) 3), .ref (m + 4), .int ((upd (upd s 17 0) 16 ((s 16) + 1)) 5), .ref (m + 5), .int ((upd (upd s 17 0) 16 ((s 16) + 1)) 7), .int ((upd (upd s 17 0) 16 ((s 16) + 1)) 8), .int ((upd (upd s 17 0) 16 ((s 16) + 1)) 9), .int ((upd (upd s 17 0) 16 ((s 16) + 1)) 10), .int ((upd (upd s 17 0) 16 ((s 16) + 1)) 11), .ref (m + 6), .int ((upd (upd s 17 0) 16 ((s 16) + 1)) 13), .int ((upd (upd s 17 0) 16 ((s 16) + 1)) 14), .ref (m + 7), .int ((upd (upd s 17 0) 16 ((s 16) + 1)) 16), .int ((upd (upd s 17 0) 16 ((s 16) + 1)) 17), .ref (m + 8)])) := by rw [hw_27]; exact va_up_at
        have fr_29 : ∀ q : Nat, ¬ q = m → ω_26.2 q = ω_20.2 q := fun q hq => by rw [hw_27]; exact va_up_off hq
        have z_30 : ω_26.1 = ω_20.1 := by rw [hw_27]
        have fr_31 : ∀ q : Nat, ¬ q = m → ω_26.2 q = ω.2 q := by
          intro q h0
          rw [fr_29 q (by omega)]
          rw [fr_23 q (by omega)]
        have z_32 : ω_26.1 = ω.1 := by rw [z_30, z_24]
        have hr_33 : needsM s g ip c = ((upd (upd s 17 0) 16 ((s 16) + 1)) : (Nat → Int32)) := by
          simp only [needsM]
          rw [if_pos c_1, if_pos c_19]
        refine fw_vret hx hb hr hlocks hR hS dX11_needsSign_45 ?_
        rw [hr_33]
        exact ⟨rfl, z_32, f_28, fr_31⟩
      · skip
        exact absurd c_25 (by decide)
    · skip
      refine lv_iconst (v := 1) hx hb dX11_needsSign_16 (by decide) ?_
      refine lv_goto (tgt := 21) hx hb dX11_needsSign_17 (by decide) ?_
      refine fw_put (v := .int 1) (C := RX11) (T := TX11) (N := 19) hx hb hts hin11 tyX11 tyX11_ok nmX11 hown hK hR hS m0 rfl 17 (by decide) (hts (.fieldLink RX11 195 "UnreadLeafletsModel" "isWrong" "Z") (by decide +kernel)) rfl rfl rfl (Nat.le_of_ble_eq_true rfl) dX11_needsSign_21 (fun H locs hR hS => ?_)
      obtain ⟨ω_34, hw_35⟩ : ∃ τ : FWd, τ = (ω.1, va_up ω.2 m (some (.inr (13, [.ref (m + 1), .ref (m + 2), .ref (m + 3), .int ((upd s 17 1) 3), .ref (m + 4), .int ((upd s 17 1) 5), .ref (m + 5), .int ((upd s 17 1) 7), .int ((upd s 17 1) 8), .int ((upd s 17 1) 9), .int ((upd s 17 1) 10), .int ((upd s 17 1) 11), .ref (m + 6), .int ((upd s 17 1) 13), .int ((upd s 17 1) 14), .ref (m + 7), .int ((upd s 17 1) 16), .int ((upd s 17 1) 17), .ref (m + 8)])))) := ⟨_, rfl⟩
      have hR : fR G ω_34 H := by rw [hw_35]; exact hR
      have f_36 : ω_34.2 m = some (.inr (13, [.ref (m + 1), .ref (m + 2), .ref (m + 3), .int ((upd s 17 1) 3), .ref (m + 4), .int ((upd s 17 1) 5), .ref (m + 5), .int ((upd s 17 1) 7), .int ((upd s 17 1) 8), .int ((upd s 17 1) 9), .int ((upd s 17 1) 10), .int ((upd s 17 1) 11), .ref (m + 6), .int ((upd s 17 1) 13), .int ((upd s 17 1) 14), .ref (m + 7), .int ((upd s 17 1) 16), .int ((upd s 17 1) 17), .ref (m + 8)])) := by rw [hw_35]; exact va_up_at
      have fr_37 : ∀ q : Nat, ¬ q = m → ω_34.2 q = ω.2 q := fun q hq => by rw [hw_35]; exact va_up_off hq
      have z_38 : ω_34.1 = ω.1 := by rw [hw_35]
      refine lv_aload_n hx hb dX11_needsSign_24 rfl (lv_at hl 0 rfl) ?_
      refine lv_dup hx hb dX11_needsSign_25 rfl ?_
      refine fw_get (v := .int (s 16)) (C := RX11) (T := TX11) (N := 19) hx hb hts hin11 hown hK hR f_36 rfl 16 (by decide) (hts (.fieldLink RX11 192 "UnreadLeafletsModel" "spot" "I") (by decide +kernel)) rfl dX11_needsSign_26 ?_
      refine lv_aload_n hx hb dX11_needsSign_29 rfl (lv_at hl 0 rfl) ?_
      refine fw_get (v := .int 1) (C := RX11) (T := TX11) (N := 19) hx hb hts hin11 hown hK hR f_36 rfl 17 (by decide) (hts (.fieldLink RX11 195 "UnreadLeafletsModel" "isWrong" "Z") (by decide +kernel)) rfl dX11_needsSign_30 ?_
      refine lv_if_eq (tgt := 40) hx hb dX11_needsSign_33 (by decide) (fun c_39 => ?_) (fun c_39 => ?_)
      · skip
        exact absurd c_39 (by decide)
      · skip
        refine lv_iconst (v := 0) hx hb dX11_needsSign_36 (by decide) ?_
        refine lv_goto (tgt := 41) hx hb dX11_needsSign_37 (by decide) ?_
        refine lv_iadd hx hb dX11_needsSign_41 ?_
        refine fw_put (v := .int ((s 16) + 0)) (C := RX11) (T := TX11) (N := 19) hx hb hts hin11 tyX11 tyX11_ok nmX11 hown hK hR hS f_36 rfl 16 (by decide) (hts (.fieldLink RX11 192 "UnreadLeafletsModel" "spot" "I") (by decide +kernel)) rfl rfl rfl (Nat.le_of_ble_eq_true rfl) dX11_needsSign_42 (fun H locs hR hS => ?_)
        obtain ⟨ω_40, hw_41⟩ : ∃ τ : FWd, τ = (ω_34.1, va_up ω_34.2 m (some (.inr (13, [.ref (m + 1), .ref (m + 2), .ref (m + 3), .int ((upd (upd s 17 1) 16 ((s 16) + 0)) 3), .ref (m + 4), .int ((upd (upd s 17 1) 16 ((s 16) + 0)) 5), .ref (m + 5), .int ((upd (upd s 17 1) 16 ((s 16) + 0)) 7), .int ((upd (upd s 17 1) 16 ((s 16) + 0)) 8), .int ((upd (upd s 17 1) 16 ((s 16) + 0)) 9), .int ((upd (upd s 17 1) 16 ((s 16) + 0)) 10), .int ((upd (upd s 17 1) 16 ((s 16) + 0)) 11), .ref (m + 6), .int ((upd (upd s 17 1) 16 ((s 16) + 0)) 13), .int ((upd (upd s 17 1) 16 ((s 16) + 0)) 14), .ref (m + 7), .int ((upd (upd s 17 1) 16 ((s 16) + 0)) 16), .int ((upd (upd s 17 1) 16 ((s 16) + 0)) 17), .ref (m + 8)])))) := ⟨_, rfl⟩
        have hR : fR G ω_40 H := by rw [hw_41]; exact hR
        have f_42 : ω_40.2 m = some (.inr (13, [.ref (m + 1), .ref (m + 2), .ref (m + 3), .int ((upd (upd s 17 1) 16 ((s 16) + 0)) 3), .ref (m + 4), .int ((upd (upd s 17 1) 16 ((s 16) + 0)) 5), .ref (m + 5), .int ((upd (upd s 17 1) 16 ((s 16) + 0)) 7), .int ((upd (upd s 17 1) 16 ((s 16) + 0)) 8), .int ((upd (upd s 17 1) 16 ((s 16) + 0)) 9), .int ((upd (upd s 17 1) 16 ((s 16) + 0)) 10), .int ((upd (upd s 17 1) 16 ((s 16) + 0)) 11), .ref (m + 6), .int ((upd (upd s 17 1) 16 ((s 16) + 0)) 13), .int ((upd (upd s 17 1) 16 ((s 16) + 0)) 14), .ref (m + 7), .int ((upd (upd s 17 1) 16 ((s 16) + 0)) 16), .int ((upd (upd s 17 1) 16 ((s 16) + 0)) 17), .ref (m + 8)])) := by rw [hw_41]; exact va_up_at
        have fr_43 : ∀ q : Nat, ¬ q = m → ω_40.2 q = ω_34.2 q := fun q hq => by rw [hw_41]; exact va_up_off hq
        have z_44 : ω_40.1 = ω_34.1 := by rw [hw_41]
        have fr_45 : ∀ q : Nat, ¬ q = m → ω_40.2 q = ω.2 q := by
          intro q h0
          rw [fr_43 q (by omega)]
          rw [fr_37 q (by omega)]
        have z_46 : ω_40.1 = ω.1 := by rw [z_44, z_38]
        have hr_47 : needsM s g ip c = ((upd (upd s 17 1) 16 ((s 16) + 0)) : (Nat → Int32)) := by
          simp only [needsM]
          rw [if_pos c_1, if_neg c_19]
        refine fw_vret hx hb hr hlocks hR hS dX11_needsSign_45 ?_
        rw [hr_47]
        exact ⟨rfl, z_46, f_42, fr_45⟩
def figM (s g ip : Nat → Int32) : Int32 × (Nat → Int32) := if (s 17) = 0 then (if inB (hereM s g ip) 48 57 then (((hereM s g ip) - 48, (upd (upd s 17 0) 16 ((s 16) + 1)))) else ((0, (upd (upd s 17 1) 16 ((s 16) + 0))))) else ((0, (upd (upd s 17 1) 16 ((s 16) + 0))))
theorem figM_pk {s g ip : Nat → Int32} {b : Nat} (h : PK s b) (hb : b < 10000) : PK (figM s g ip).2 (b + 1) := by
  unfold figM
  (repeat' split) <;> first | exact ⟨h.1, okN_1 h.2 (by omega)⟩ | exact ⟨h.1, okN_p0 h.2⟩
set_option maxHeartbeats 4000000 in
set_option maxRecDepth 100000 in
theorem c_X11_figure (G : FG) (hL : FL G) (l : Launch) (ω : FWd) (m : Nat) (s g : Nat → Int32) (m0 : ω.2 m = some (.inr (13, [.ref (m + 1), .ref (m + 2), .ref (m + 3), .int (s 3), .ref (m + 4), .int (s 5), .ref (m + 5), .int (s 7), .int (s 8), .int (s 9), .int (s 10), .int (s 11), .ref (m + 6), .int (s 13), .int (s 14), .ref (m + 7), .int (s 16), .int (s 17), .ref (m + 8)]))) (m1 : ω.2 (m + 1) = some (.inl (G.2.1 0, 324, .inl g))) (ip : Nat → Int32) (m5 : ω.2 (m + 5) = some (.inl (G.2.1 1, 60, .inl ip))) (hp : PK s 590) : FMet G l yX11_figure wsX11_figure ({ frames := 1, cells := 0, slots := 0, locals := 22 } : Room) [.ref m] ω (fun vv9 τ9 => vv9 = some (.int ((figM s g ip).1)) ∧ τ9.1 = ω.1 ∧ τ9.2 m = some (.inr (13, [.ref (m + 1), .ref (m + 2), .ref (m + 3), .int (((figM s g ip).2) 3), .ref (m + 4), .int (((figM s g ip).2) 5), .ref (m + 5), .int (((figM s g ip).2) 7), .int (((figM s g ip).2) 8), .int (((figM s g ip).2) 9), .int (((figM s g ip).2) 10), .int (((figM s g ip).2) 11), .ref (m + 6), .int (((figM s g ip).2) 13), .int (((figM s g ip).2) 14), .ref (m + 7), .int (((figM s g ip).2) 16), .int (((figM s g ip).2) 17), .ref (m + 8)])) ∧ ∀ q : Nat, ¬ q = m → τ9.2 q = ω.2 q) 0 0 := by
  refine fw_ofW (cc := cX11_figure) (maxL := 2) (ret := (some .int)) (by decide) rfl (Nat.le_of_ble_eq_true rfl) ?_
  intro pP eE sS mI ar9 bl9 meth cD ls hx hb hr hlocks hml hts hown hnm hW hR hl
  have hK := hL.K hW
  have hS : va_S (fwA G) sS.heap sS.heap [] := va_S.rf
  have hin11 : ∀ w ∈ u_ws RX11 TX11 19, w ∈ wsX11_figure := by decide +kernel
  have hl : lv_has ls 2 [(0, .ref m)] := hl
  obtain ⟨ty, hty6, hty, htyc⟩ := okN_of hp.1
  obtain ⟨sp, hsp6, hspe, hspc⟩ := okN_of hp.2
  refine lv_aload_n hx hb dX11_figure_0 rfl (lv_at hl 0 rfl) ?_
  refine fw_call (va_runV (As := []) (rest := []) ⟨hx, hb, hml, hown, hts⟩ (c_X11_here G hL l ω m s g m0 m1 ip m5 (PK_le hp (by omega))  ) (cwV 0 hts gX11_figure_X11_here rfl rfl rfl (by decide +kernel) ⟨Nat.le_of_ble_eq_true rfl, Nat.le_of_ble_eq_true rfl⟩) (fw_preV hW hK hR m0 rfl) rfl rfl hl.1 rfl (lv_room (Nat.le_of_ble_eq_true rfl)) dX11_figure_1 ⟨Nat.le_of_ble_eq_true rfl, Nat.le_of_ble_eq_true rfl⟩) hS (fun v_1 ω_2 H locs hq_3 hR hS => ?_)
  obtain ⟨rfl, hq_3⟩ := hq_3
  rw [hq_3] at hR
  refine W.eq (g2 := F0 mI 4 ls [.int (hereM s g ip)]) rfl ?_
  refine lv_istore_n (lv' := [(1, .int (hereM s g ip)), (0, .ref m)]) hx hb dX11_figure_4 rfl hl (by decide) rfl (fun ls hl => ?_)
  refine lv_aload_n hx hb dX11_figure_5 rfl (lv_at hl 1 rfl) ?_
  refine lv_aload_n hx hb dX11_figure_6 rfl (lv_at hl 1 rfl) ?_
  refine fw_get (v := .int (s 17)) (C := RX11) (T := TX11) (N := 19) hx hb hts hin11 hown hK hR m0 rfl 17 (by decide) (hts (.fieldLink RX11 195 "UnreadLeafletsModel" "isWrong" "Z") (by decide +kernel)) rfl dX11_figure_7 ?_
  refine lv_if_ne (tgt := 24) hx hb dX11_figure_10 (by decide) (fun c_4 => ?_) (fun c_4 => ?_)
  · skip
    refine lv_iconst (v := 1) hx hb dX11_figure_24 (by decide) ?_
    refine lv_goto (tgt := 29) hx hb dX11_figure_25 (by decide) ?_
    refine fw_put (v := .int 1) (C := RX11) (T := TX11) (N := 19) hx hb hts hin11 tyX11 tyX11_ok nmX11 hown hK hR hS m0 rfl 17 (by decide) (hts (.fieldLink RX11 195 "UnreadLeafletsModel" "isWrong" "Z") (by decide +kernel)) rfl rfl rfl (Nat.le_of_ble_eq_true rfl) dX11_figure_29 (fun H locs hR hS => ?_)
    obtain ⟨ω_5, hw_6⟩ : ∃ τ : FWd, τ = (ω.1, va_up ω.2 m (some (.inr (13, [.ref (m + 1), .ref (m + 2), .ref (m + 3), .int ((upd s 17 1) 3), .ref (m + 4), .int ((upd s 17 1) 5), .ref (m + 5), .int ((upd s 17 1) 7), .int ((upd s 17 1) 8), .int ((upd s 17 1) 9), .int ((upd s 17 1) 10), .int ((upd s 17 1) 11), .ref (m + 6), .int ((upd s 17 1) 13), .int ((upd s 17 1) 14), .ref (m + 7), .int ((upd s 17 1) 16), .int ((upd s 17 1) 17), .ref (m + 8)])))) := ⟨_, rfl⟩
    have hR : fR G ω_5 H := by rw [hw_6]; exact hR
    have f_7 : ω_5.2 m = some (.inr (13, [.ref (m + 1), .ref (m + 2), .ref (m + 3), .int ((upd s 17 1) 3), .ref (m + 4), .int ((upd s 17 1) 5), .ref (m + 5), .int ((upd s 17 1) 7), .int ((upd s 17 1) 8), .int ((upd s 17 1) 9), .int ((upd s 17 1) 10), .int ((upd s 17 1) 11), .ref (m + 6), .int ((upd s 17 1) 13), .int ((upd s 17 1) 14), .ref (m + 7), .int ((upd s 17 1) 16), .int ((upd s 17 1) 17), .ref (m + 8)])) := by rw [hw_6]; exact va_up_at
    have fr_8 : ∀ q : Nat, ¬ q = m → ω_5.2 q = ω.2 q := fun q hq => by rw [hw_6]; exact va_up_off hq
    have z_9 : ω_5.1 = ω.1 := by rw [hw_6]
    refine lv_aload_n hx hb dX11_figure_32 rfl (lv_at hl 1 rfl) ?_
    refine lv_dup hx hb dX11_figure_33 rfl ?_
    refine fw_get (v := .int (s 16)) (C := RX11) (T := TX11) (N := 19) hx hb hts hin11 hown hK hR f_7 rfl 16 (by decide) (hts (.fieldLink RX11 192 "UnreadLeafletsModel" "spot" "I") (by decide +kernel)) rfl dX11_figure_34 ?_
    refine lv_aload_n hx hb dX11_figure_37 rfl (lv_at hl 1 rfl) ?_
    refine fw_get (v := .int 1) (C := RX11) (T := TX11) (N := 19) hx hb hts hin11 hown hK hR f_7 rfl 17 (by decide) (hts (.fieldLink RX11 195 "UnreadLeafletsModel" "isWrong" "Z") (by decide +kernel)) rfl dX11_figure_38 ?_
    refine lv_if_eq (tgt := 48) hx hb dX11_figure_41 (by decide) (fun c_10 => ?_) (fun c_10 => ?_)
    · skip
      exact absurd c_10 (by decide)
    · skip
      refine lv_iconst (v := 0) hx hb dX11_figure_44 (by decide) ?_
      refine lv_goto (tgt := 49) hx hb dX11_figure_45 (by decide) ?_
      refine lv_iadd hx hb dX11_figure_49 ?_
      refine fw_put (v := .int ((s 16) + 0)) (C := RX11) (T := TX11) (N := 19) hx hb hts hin11 tyX11 tyX11_ok nmX11 hown hK hR hS f_7 rfl 16 (by decide) (hts (.fieldLink RX11 192 "UnreadLeafletsModel" "spot" "I") (by decide +kernel)) rfl rfl rfl (Nat.le_of_ble_eq_true rfl) dX11_figure_50 (fun H locs hR hS => ?_)
      obtain ⟨ω_11, hw_12⟩ : ∃ τ : FWd, τ = (ω_5.1, va_up ω_5.2 m (some (.inr (13, [.ref (m + 1), .ref (m + 2), .ref (m + 3), .int ((upd (upd s 17 1) 16 ((s 16) + 0)) 3), .ref (m + 4), .int ((upd (upd s 17 1) 16 ((s 16) + 0)) 5), .ref (m + 5), .int ((upd (upd s 17 1) 16 ((s 16) + 0)) 7), .int ((upd (upd s 17 1) 16 ((s 16) + 0)) 8), .int ((upd (upd s 17 1) 16 ((s 16) + 0)) 9), .int ((upd (upd s 17 1) 16 ((s 16) + 0)) 10), .int ((upd (upd s 17 1) 16 ((s 16) + 0)) 11), .ref (m + 6), .int ((upd (upd s 17 1) 16 ((s 16) + 0)) 13), .int ((upd (upd s 17 1) 16 ((s 16) + 0)) 14), .ref (m + 7), .int ((upd (upd s 17 1) 16 ((s 16) + 0)) 16), .int ((upd (upd s 17 1) 16 ((s 16) + 0)) 17), .ref (m + 8)])))) := ⟨_, rfl⟩
      have hR : fR G ω_11 H := by rw [hw_12]; exact hR
      have f_13 : ω_11.2 m = some (.inr (13, [.ref (m + 1), .ref (m + 2), .ref (m + 3), .int ((upd (upd s 17 1) 16 ((s 16) + 0)) 3), .ref (m + 4), .int ((upd (upd s 17 1) 16 ((s 16) + 0)) 5), .ref (m + 5), .int ((upd (upd s 17 1) 16 ((s 16) + 0)) 7), .int ((upd (upd s 17 1) 16 ((s 16) + 0)) 8), .int ((upd (upd s 17 1) 16 ((s 16) + 0)) 9), .int ((upd (upd s 17 1) 16 ((s 16) + 0)) 10), .int ((upd (upd s 17 1) 16 ((s 16) + 0)) 11), .ref (m + 6), .int ((upd (upd s 17 1) 16 ((s 16) + 0)) 13), .int ((upd (upd s 17 1) 16 ((s 16) + 0)) 14), .ref (m + 7), .int ((upd (upd s 17 1) 16 ((s 16) + 0)) 16), .int ((upd (upd s 17 1) 16 ((s 16) + 0)) 17), .ref (m + 8)])) := by rw [hw_12]; exact va_up_at
      have fr_14 : ∀ q : Nat, ¬ q = m → ω_11.2 q = ω_5.2 q := fun q hq => by rw [hw_12]; exact va_up_off hq
      have z_15 : ω_11.1 = ω_5.1 := by rw [hw_12]
      refine lv_aload_n hx hb dX11_figure_53 rfl (lv_at hl 1 rfl) ?_
      refine fw_get (v := .int 1) (C := RX11) (T := TX11) (N := 19) hx hb hts hin11 hown hK hR f_13 rfl 17 (by decide) (hts (.fieldLink RX11 195 "UnreadLeafletsModel" "isWrong" "Z") (by decide +kernel)) rfl dX11_figure_54 ?_
      refine lv_if_eq (tgt := 64) hx hb dX11_figure_57 (by decide) (fun c_16 => ?_) (fun c_16 => ?_)
      · skip
        exact absurd c_16 (by decide)
      · skip
        refine lv_iconst (v := 0) hx hb dX11_figure_60 (by decide) ?_
        refine lv_goto (tgt := 68) hx hb dX11_figure_61 (by decide) ?_
        have fr_17 : ∀ q : Nat, ¬ q = m → ω_11.2 q = ω.2 q := by
          intro q h0
          rw [fr_14 q (by omega)]
          rw [fr_8 q (by omega)]
        have z_18 : ω_11.1 = ω.1 := by rw [z_15, z_9]
        have hr_19 : figM s g ip = ((0, (upd (upd s 17 1) 16 ((s 16) + 0))) : Int32 × (Nat → Int32)) := by
          simp only [figM]
          rw [if_neg c_4]
        refine fw_iret hx hb hr hlocks hR hS dX11_figure_68 ?_
        rw [hr_19]
        exact ⟨rfl, z_18, f_13, fr_17⟩
  · skip
    refine lv_iload_n hx hb dX11_figure_13 rfl (lv_at hl 0 rfl) ?_
    refine lv_bipush (v := 48) hx hb dX11_figure_14 (by decide) ?_
    refine lv_bipush (v := 57) hx hb dX11_figure_16 (by decide) ?_
    refine fw_call (va_runS (As := [.int (hereM s g ip), .int 48, .int 57]) (rest := [.ref m]) ⟨hx, hb, hml, hown, hts⟩ (c_X11_in G hL l ω (hereM s g ip) 48 57) (va_cwS 3 hts gX11_figure_X11_in rfl rfl rfl (by decide +kernel) ⟨Nat.le_of_ble_eq_true rfl, Nat.le_of_ble_eq_true rfl⟩) (fw_preS hW hR) rfl rfl hl.1 rfl (lv_room (Nat.le_of_ble_eq_true rfl)) dX11_figure_18 ⟨Nat.le_of_ble_eq_true rfl, Nat.le_of_ble_eq_true rfl⟩) hS (fun v_20 ω_21 H locs hq_22 hR hS => ?_)
    obtain ⟨rfl, hq_22⟩ := hq_22
    rw [hq_22] at hR
    refine W.eq (g2 := F0 mI 21 ls [.int (bz (inB (hereM s g ip) 48 57)), .ref m]) rfl ?_
    refine lv_if_ne (tgt := 28) hx hb dX11_figure_21 (by decide) (fun c_23 => ?_) (fun c_23 => ?_)
    · skip
      have c_23 := bz_ne c_23
      refine lv_iconst (v := 0) hx hb dX11_figure_28 (by decide) ?_
      refine fw_put (v := .int 0) (C := RX11) (T := TX11) (N := 19) hx hb hts hin11 tyX11 tyX11_ok nmX11 hown hK hR hS m0 rfl 17 (by decide) (hts (.fieldLink RX11 195 "UnreadLeafletsModel" "isWrong" "Z") (by decide +kernel)) rfl rfl rfl (Nat.le_of_ble_eq_true rfl) dX11_figure_29 (fun H locs hR hS => ?_)
      obtain ⟨ω_24, hw_25⟩ : ∃ τ : FWd, τ = (ω.1, va_up ω.2 m (some (.inr (13, [.ref (m + 1), .ref (m + 2), .ref (m + 3), .int ((upd s 17 0) 3), .ref (m + 4), .int ((upd s 17 0) 5), .ref (m + 5), .int ((upd s 17 0) 7), .int ((upd s 17 0) 8), .int ((upd s 17 0) 9), .int ((upd s 17 0) 10), .int ((upd s 17 0) 11), .ref (m + 6), .int ((upd s 17 0) 13), .int ((upd s 17 0) 14), .ref (m + 7), .int ((upd s 17 0) 16), .int ((upd s 17 0) 17), .ref (m + 8)])))) := ⟨_, rfl⟩
      have hR : fR G ω_24 H := by rw [hw_25]; exact hR
      have f_26 : ω_24.2 m = some (.inr (13, [.ref (m + 1), .ref (m + 2), .ref (m + 3), .int ((upd s 17 0) 3), .ref (m + 4), .int ((upd s 17 0) 5), .ref (m + 5), .int ((upd s 17 0) 7), .int ((upd s 17 0) 8), .int ((upd s 17 0) 9), .int ((upd s 17 0) 10), .int ((upd s 17 0) 11), .ref (m + 6), .int ((upd s 17 0) 13), .int ((upd s 17 0) 14), .ref (m + 7), .int ((upd s 17 0) 16), .int ((upd s 17 0) 17), .ref (m + 8)])) := by rw [hw_25]; exact va_up_at
      have fr_27 : ∀ q : Nat, ¬ q = m → ω_24.2 q = ω.2 q := fun q hq => by rw [hw_25]; exact va_up_off hq
      have z_28 : ω_24.1 = ω.1 := by rw [hw_25]
      refine lv_aload_n hx hb dX11_figure_32 rfl (lv_at hl 1 rfl) ?_
      refine lv_dup hx hb dX11_figure_33 rfl ?_
      refine fw_get (v := .int (s 16)) (C := RX11) (T := TX11) (N := 19) hx hb hts hin11 hown hK hR f_26 rfl 16 (by decide) (hts (.fieldLink RX11 192 "UnreadLeafletsModel" "spot" "I") (by decide +kernel)) rfl dX11_figure_34 ?_
      refine lv_aload_n hx hb dX11_figure_37 rfl (lv_at hl 1 rfl) ?_
      refine fw_get (v := .int 0) (C := RX11) (T := TX11) (N := 19) hx hb hts hin11 hown hK hR f_26 rfl 17 (by decide) (hts (.fieldLink RX11 195 "UnreadLeafletsModel" "isWrong" "Z") (by decide +kernel)) rfl dX11_figure_38 ?_
      refine lv_if_eq (tgt := 48) hx hb dX11_figure_41 (by decide) (fun c_29 => ?_) (fun c_29 => ?_)
      · skip
        refine lv_iconst (v := 1) hx hb dX11_figure_48 (by decide) ?_
        refine lv_iadd hx hb dX11_figure_49 ?_
        refine fw_put (v := .int ((s 16) + 1)) (C := RX11) (T := TX11) (N := 19) hx hb hts hin11 tyX11 tyX11_ok nmX11 hown hK hR hS f_26 rfl 16 (by decide) (hts (.fieldLink RX11 192 "UnreadLeafletsModel" "spot" "I") (by decide +kernel)) rfl rfl rfl (Nat.le_of_ble_eq_true rfl) dX11_figure_50 (fun H locs hR hS => ?_)
        obtain ⟨ω_30, hw_31⟩ : ∃ τ : FWd, τ = (ω_24.1, va_up ω_24.2 m (some (.inr (13, [.ref (m + 1), .ref (m + 2), .ref (m + 3), .int ((upd (upd s 17 0) 16 ((s 16) + 1)) 3), .ref (m + 4), .int ((upd (upd s 17 0) 16 ((s 16) + 1)) 5), .ref (m + 5), .int ((upd (upd s 17 0) 16 ((s 16) + 1)) 7), .int ((upd (upd s 17 0) 16 ((s 16) + 1)) 8), .int ((upd (upd s 17 0) 16 ((s 16) + 1)) 9), .int ((upd (upd s 17 0) 16 ((s 16) + 1)) 10), .int ((upd (upd s 17 0) 16 ((s 16) + 1)) 11), .ref (m + 6), .int ((upd (upd s 17 0) 16 ((s 16) + 1)) 13), .int ((upd (upd s 17 0) 16 ((s 16) + 1)) 14), .ref (m + 7), .int ((upd (upd s 17 0) 16 ((s 16) + 1)) 16), .int ((upd (upd s 17 0) 16 ((s 16) + 1)) 17), .ref (m + 8)])))) := ⟨_, rfl⟩
        have hR : fR G ω_30 H := by rw [hw_31]; exact hR
        have f_32 : ω_30.2 m = some (.inr (13, [.ref (m + 1), .ref (m + 2), .ref (m + 3), .int ((upd (upd s 17 0) 16 ((s 16) + 1)) 3), .ref (m + 4), .int ((upd (upd s 17 0) 16 ((s 16) + 1)) 5), .ref (m + 5), .int ((upd (upd s 17 0) 16 ((s 16) + 1)) 7), .int ((upd (upd s 17 0) 16 ((s 16) + 1)) 8), .int ((upd (upd s 17 0) 16 ((s 16) + 1)) 9), .int ((upd (upd s 17 0) 16 ((s 16) + 1)) 10), .int ((upd (upd s 17 0) 16 ((s 16) + 1)) 11), .ref (m + 6), .int ((upd (upd s 17 0) 16 ((s 16) + 1)) 13), .int ((upd (upd s 17 0) 16 ((s 16) + 1)) 14), .ref (m + 7), .int ((upd (upd s 17 0) 16 ((s 16) + 1)) 16), .int ((upd (upd s 17 0) 16 ((s 16) + 1)) 17), .ref (m + 8)])) := by rw [hw_31]; exact va_up_at
        have fr_33 : ∀ q : Nat, ¬ q = m → ω_30.2 q = ω_24.2 q := fun q hq => by rw [hw_31]; exact va_up_off hq
        have z_34 : ω_30.1 = ω_24.1 := by rw [hw_31]
        refine lv_aload_n hx hb dX11_figure_53 rfl (lv_at hl 1 rfl) ?_
        refine fw_get (v := .int 0) (C := RX11) (T := TX11) (N := 19) hx hb hts hin11 hown hK hR f_32 rfl 17 (by decide) (hts (.fieldLink RX11 195 "UnreadLeafletsModel" "isWrong" "Z") (by decide +kernel)) rfl dX11_figure_54 ?_
        refine lv_if_eq (tgt := 64) hx hb dX11_figure_57 (by decide) (fun c_35 => ?_) (fun c_35 => ?_)
        · skip
          refine lv_iload_n hx hb dX11_figure_64 rfl (lv_at hl 0 rfl) ?_
          refine lv_bipush (v := 48) hx hb dX11_figure_65 (by decide) ?_
          refine lv_isub hx hb dX11_figure_67 ?_
          have fr_36 : ∀ q : Nat, ¬ q = m → ω_30.2 q = ω.2 q := by
            intro q h0
            rw [fr_33 q (by omega)]
            rw [fr_27 q (by omega)]
          have z_37 : ω_30.1 = ω.1 := by rw [z_34, z_28]
          have hr_38 : figM s g ip = (((hereM s g ip) - 48, (upd (upd s 17 0) 16 ((s 16) + 1))) : Int32 × (Nat → Int32)) := by
            simp only [figM]
            rw [if_pos c_4, if_pos c_23]
          refine fw_iret hx hb hr hlocks hR hS dX11_figure_68 ?_
          rw [hr_38]
          exact ⟨rfl, z_37, f_32, fr_36⟩
        · skip
          exact absurd c_35 (by decide)
      · skip
        exact absurd c_29 (by decide)
    · skip
      have c_23 := bz_eq c_23
      refine lv_iconst (v := 1) hx hb dX11_figure_24 (by decide) ?_
      refine lv_goto (tgt := 29) hx hb dX11_figure_25 (by decide) ?_
      refine fw_put (v := .int 1) (C := RX11) (T := TX11) (N := 19) hx hb hts hin11 tyX11 tyX11_ok nmX11 hown hK hR hS m0 rfl 17 (by decide) (hts (.fieldLink RX11 195 "UnreadLeafletsModel" "isWrong" "Z") (by decide +kernel)) rfl rfl rfl (Nat.le_of_ble_eq_true rfl) dX11_figure_29 (fun H locs hR hS => ?_)
      obtain ⟨ω_39, hw_40⟩ : ∃ τ : FWd, τ = (ω.1, va_up ω.2 m (some (.inr (13, [.ref (m + 1), .ref (m + 2), .ref (m + 3), .int ((upd s 17 1) 3), .ref (m + 4), .int ((upd s 17 1) 5), .ref (m + 5), .int ((upd s 17 1) 7), .int ((upd s 17 1) 8), .int ((upd s 17 1) 9), .int ((upd s 17 1) 10), .int ((upd s 17 1) 11), .ref (m + 6), .int ((upd s 17 1) 13), .int ((upd s 17 1) 14), .ref (m + 7), .int ((upd s 17 1) 16), .int ((upd s 17 1) 17), .ref (m + 8)])))) := ⟨_, rfl⟩
      have hR : fR G ω_39 H := by rw [hw_40]; exact hR
      have f_41 : ω_39.2 m = some (.inr (13, [.ref (m + 1), .ref (m + 2), .ref (m + 3), .int ((upd s 17 1) 3), .ref (m + 4), .int ((upd s 17 1) 5), .ref (m + 5), .int ((upd s 17 1) 7), .int ((upd s 17 1) 8), .int ((upd s 17 1) 9), .int ((upd s 17 1) 10), .int ((upd s 17 1) 11), .ref (m + 6), .int ((upd s 17 1) 13), .int ((upd s 17 1) 14), .ref (m + 7), .int ((upd s 17 1) 16), .int ((upd s 17 1) 17), .ref (m + 8)])) := by rw [hw_40]; exact va_up_at
      have fr_42 : ∀ q : Nat, ¬ q = m → ω_39.2 q = ω.2 q := fun q hq => by rw [hw_40]; exact va_up_off hq
      have z_43 : ω_39.1 = ω.1 := by rw [hw_40]
      refine lv_aload_n hx hb dX11_figure_32 rfl (lv_at hl 1 rfl) ?_
      refine lv_dup hx hb dX11_figure_33 rfl ?_
      refine fw_get (v := .int (s 16)) (C := RX11) (T := TX11) (N := 19) hx hb hts hin11 hown hK hR f_41 rfl 16 (by decide) (hts (.fieldLink RX11 192 "UnreadLeafletsModel" "spot" "I") (by decide +kernel)) rfl dX11_figure_34 ?_
      refine lv_aload_n hx hb dX11_figure_37 rfl (lv_at hl 1 rfl) ?_
      refine fw_get (v := .int 1) (C := RX11) (T := TX11) (N := 19) hx hb hts hin11 hown hK hR f_41 rfl 17 (by decide) (hts (.fieldLink RX11 195 "UnreadLeafletsModel" "isWrong" "Z") (by decide +kernel)) rfl dX11_figure_38 ?_
      refine lv_if_eq (tgt := 48) hx hb dX11_figure_41 (by decide) (fun c_44 => ?_) (fun c_44 => ?_)
      · skip
        exact absurd c_44 (by decide)
      · skip
        refine lv_iconst (v := 0) hx hb dX11_figure_44 (by decide) ?_
        refine lv_goto (tgt := 49) hx hb dX11_figure_45 (by decide) ?_
        refine lv_iadd hx hb dX11_figure_49 ?_
        refine fw_put (v := .int ((s 16) + 0)) (C := RX11) (T := TX11) (N := 19) hx hb hts hin11 tyX11 tyX11_ok nmX11 hown hK hR hS f_41 rfl 16 (by decide) (hts (.fieldLink RX11 192 "UnreadLeafletsModel" "spot" "I") (by decide +kernel)) rfl rfl rfl (Nat.le_of_ble_eq_true rfl) dX11_figure_50 (fun H locs hR hS => ?_)
        obtain ⟨ω_45, hw_46⟩ : ∃ τ : FWd, τ = (ω_39.1, va_up ω_39.2 m (some (.inr (13, [.ref (m + 1), .ref (m + 2), .ref (m + 3), .int ((upd (upd s 17 1) 16 ((s 16) + 0)) 3), .ref (m + 4), .int ((upd (upd s 17 1) 16 ((s 16) + 0)) 5), .ref (m + 5), .int ((upd (upd s 17 1) 16 ((s 16) + 0)) 7), .int ((upd (upd s 17 1) 16 ((s 16) + 0)) 8), .int ((upd (upd s 17 1) 16 ((s 16) + 0)) 9), .int ((upd (upd s 17 1) 16 ((s 16) + 0)) 10), .int ((upd (upd s 17 1) 16 ((s 16) + 0)) 11), .ref (m + 6), .int ((upd (upd s 17 1) 16 ((s 16) + 0)) 13), .int ((upd (upd s 17 1) 16 ((s 16) + 0)) 14), .ref (m + 7), .int ((upd (upd s 17 1) 16 ((s 16) + 0)) 16), .int ((upd (upd s 17 1) 16 ((s 16) + 0)) 17), .ref (m + 8)])))) := ⟨_, rfl⟩
        have hR : fR G ω_45 H := by rw [hw_46]; exact hR
        have f_47 : ω_45.2 m = some (.inr (13, [.ref (m + 1), .ref (m + 2), .ref (m + 3), .int ((upd (upd s 17 1) 16 ((s 16) + 0)) 3), .ref (m + 4), .int ((upd (upd s 17 1) 16 ((s 16) + 0)) 5), .ref (m + 5), .int ((upd (upd s 17 1) 16 ((s 16) + 0)) 7), .int ((upd (upd s 17 1) 16 ((s 16) + 0)) 8), .int ((upd (upd s 17 1) 16 ((s 16) + 0)) 9), .int ((upd (upd s 17 1) 16 ((s 16) + 0)) 10), .int ((upd (upd s 17 1) 16 ((s 16) + 0)) 11), .ref (m + 6), .int ((upd (upd s 17 1) 16 ((s 16) + 0)) 13), .int ((upd (upd s 17 1) 16 ((s 16) + 0)) 14), .ref (m + 7), .int ((upd (upd s 17 1) 16 ((s 16) + 0)) 16), .int ((upd (upd s 17 1) 16 ((s 16) + 0)) 17), .ref (m + 8)])) := by rw [hw_46]; exact va_up_at
        have fr_48 : ∀ q : Nat, ¬ q = m → ω_45.2 q = ω_39.2 q := fun q hq => by rw [hw_46]; exact va_up_off hq
        have z_49 : ω_45.1 = ω_39.1 := by rw [hw_46]
        refine lv_aload_n hx hb dX11_figure_53 rfl (lv_at hl 1 rfl) ?_
        refine fw_get (v := .int 1) (C := RX11) (T := TX11) (N := 19) hx hb hts hin11 hown hK hR f_47 rfl 17 (by decide) (hts (.fieldLink RX11 195 "UnreadLeafletsModel" "isWrong" "Z") (by decide +kernel)) rfl dX11_figure_54 ?_
        refine lv_if_eq (tgt := 64) hx hb dX11_figure_57 (by decide) (fun c_50 => ?_) (fun c_50 => ?_)
        · skip
          exact absurd c_50 (by decide)
        · skip
          refine lv_iconst (v := 0) hx hb dX11_figure_60 (by decide) ?_
          refine lv_goto (tgt := 68) hx hb dX11_figure_61 (by decide) ?_
          have fr_51 : ∀ q : Nat, ¬ q = m → ω_45.2 q = ω.2 q := by
            intro q h0
            rw [fr_48 q (by omega)]
            rw [fr_42 q (by omega)]
          have z_52 : ω_45.1 = ω.1 := by rw [z_49, z_43]
          have hr_53 : figM s g ip = ((0, (upd (upd s 17 1) 16 ((s 16) + 0))) : Int32 × (Nat → Int32)) := by
            simp only [figM]
            rw [if_pos c_4, if_neg c_23]
          refine fw_iret hx hb hr hlocks hR hS dX11_figure_68 ?_
          rw [hr_53]
          exact ⟨rfl, z_52, f_47, fr_51⟩
def appM (s g ip : Nat → Int32) (ch : Int32) : Int32 × (Nat → Int32) × (Nat → Int32) := if (s 7) = 60 then ((0, (upd s 14 1), ip)) else ((((s 7) + 1), (upd (upd s 7 ((s 7) + 1)) 14 0), (upd ip (cN (s 7)) ch)))
set_option maxHeartbeats 4000000 in
set_option maxRecDepth 100000 in
theorem c_X11_append (G : FG) (hL : FL G) (l : Launch) (ω : FWd) (m : Nat) (s g : Nat → Int32) (m0 : ω.2 m = some (.inr (13, [.ref (m + 1), .ref (m + 2), .ref (m + 3), .int (s 3), .ref (m + 4), .int (s 5), .ref (m + 5), .int (s 7), .int (s 8), .int (s 9), .int (s 10), .int (s 11), .ref (m + 6), .int (s 13), .int (s 14), .ref (m + 7), .int (s 16), .int (s 17), .ref (m + 8)]))) (m1 : ω.2 (m + 1) = some (.inl (G.2.1 0, 324, .inl g))) (ip : Nat → Int32) (m5 : ω.2 (m + 5) = some (.inl (G.2.1 1, 60, .inl ip))) (ht : okN (s 7) 60) (ch : Int32) (hch : vp_nar .char ch = ch) : FMet G l yX11_append wsX11_append ({ frames := 1, cells := 0, slots := 0, locals := 21 } : Room) [.ref m, .int ch] ω (fun vv9 τ9 => vv9 = some (.int ((appM s g ip ch).1)) ∧ τ9.1 = ω.1 ∧ τ9.2 m = some (.inr (13, [.ref (m + 1), .ref (m + 2), .ref (m + 3), .int (((appM s g ip ch).2.1) 3), .ref (m + 4), .int (((appM s g ip ch).2.1) 5), .ref (m + 5), .int (((appM s g ip ch).2.1) 7), .int (((appM s g ip ch).2.1) 8), .int (((appM s g ip ch).2.1) 9), .int (((appM s g ip ch).2.1) 10), .int (((appM s g ip ch).2.1) 11), .ref (m + 6), .int (((appM s g ip ch).2.1) 13), .int (((appM s g ip ch).2.1) 14), .ref (m + 7), .int (((appM s g ip ch).2.1) 16), .int (((appM s g ip ch).2.1) 17), .ref (m + 8)])) ∧ τ9.2 (m + 5) = some (.inl (G.2.1 1, 60, .inl ((appM s g ip ch).2.2))) ∧ ∀ q : Nat, ¬ q = m → ¬ q = (m + 5) → τ9.2 q = ω.2 q) 0 0 := by
  refine fw_ofW (cc := cX11_append) (maxL := 2) (ret := (some .int)) (by decide) rfl (Nat.le_of_ble_eq_true rfl) ?_
  intro pP eE sS mI ar9 bl9 meth cD ls hx hb hr hlocks hml hts hown hnm hW hR hl
  have hK := hL.K hW
  have hS : va_S (fwA G) sS.heap sS.heap [] := va_S.rf
  have hin11 : ∀ w ∈ u_ws RX11 TX11 19, w ∈ wsX11_append := by decide +kernel
  have hl : lv_has ls 2 [(0, .ref m), (1, .int ch)] := hl
  obtain ⟨ty, hty6, hty, htyc⟩ := okN_of ht
  refine lv_aload_n hx hb dX11_append_0 rfl (lv_at hl 0 rfl) ?_
  refine fw_get (v := .int (s 7)) (C := RX11) (T := TX11) (N := 19) hx hb hts hin11 hown hK hR m0 rfl 7 (by decide) (hts (.fieldLink RX11 189 "UnreadLeafletsModel" "typed" "I") (by decide +kernel)) rfl dX11_append_1 ?_
  refine lv_bipush (v := 60) hx hb dX11_append_4 (by decide) ?_
  refine lv_icmp_ne (tgt := 15) hx hb dX11_append_6 (by decide) (fun c_1 => ?_) (fun c_1 => ?_)
  · skip
    have hty7 : ty < 60 := by rcases Nat.lt_or_ge ty 60 with h9 | h9; exact h9; exact absurd (by rw [hty, show ty = 60 by omega]; rfl) c_1
    refine lv_aload_n hx hb dX11_append_15 rfl (lv_at hl 0 rfl) ?_
    refine fw_get (v := .ref (m + 5)) (C := RX11) (T := TX11) (N := 19) hx hb hts hin11 hown hK hR m0 rfl 6 (by decide) (hts (.fieldLink RX11 22 "UnreadLeafletsModel" "input" "[C") (by decide +kernel)) rfl dX11_append_16 ?_
    refine lv_aload_n hx hb dX11_append_19 rfl (lv_at hl 0 rfl) ?_
    refine fw_get (v := .int (s 7)) (C := RX11) (T := TX11) (N := 19) hx hb hts hin11 hown hK hR m0 rfl 7 (by decide) (hts (.fieldLink RX11 189 "UnreadLeafletsModel" "typed" "I") (by decide +kernel)) rfl dX11_append_20 ?_
    refine lv_iload_n hx hb dX11_append_23 rfl (lv_at hl 1 rfl) ?_
    have hi_2 : s 7 = nI (ty) := by
      show s 7 = _
      simp only [pk_mul, nI_add, Nat.add_assoc, hty]
    refine W.eq (g2 := F0 mI 24 ls [.int ch, .int (nI (ty)), .ref (m + 5)]) (by rw [hi_2]) ?_
    refine fw_cast hx hb hK hR hS m5 (vp_in_nI (by omega) (by omega)) dX11_append_24 (fun H locs hR hS => ?_)
    rw [show (nI (ty)).toNatClampNeg = ty from nI_clamp (by omega), hch] at hR
    obtain ⟨ω_3, hw_4⟩ : ∃ τ : FWd, τ = (ω.1, va_up ω.2 (m + 5) (some (.inl (G.2.1 1, 60, .inl (upd ip ty ch))))) := ⟨_, rfl⟩
    have hR : fR G ω_3 H := by rw [hw_4]; exact hR
    have f_5 : ω_3.2 (m + 5) = some (.inl (G.2.1 1, 60, .inl (upd ip ty ch))) := by rw [hw_4]; exact va_up_at
    have fr_6 : ∀ q : Nat, ¬ q = (m + 5) → ω_3.2 q = ω.2 q := fun q hq => by rw [hw_4]; exact va_up_off hq
    have z_7 : ω_3.1 = ω.1 := by rw [hw_4]
    refine lv_aload_n hx hb dX11_append_25 rfl (lv_at hl 0 rfl) ?_
    refine lv_dup hx hb dX11_append_26 rfl ?_
    have f_8 : ω_3.2 m = some (.inr (13, [.ref (m + 1), .ref (m + 2), .ref (m + 3), .int (s 3), .ref (m + 4), .int (s 5), .ref (m + 5), .int (s 7), .int (s 8), .int (s 9), .int (s 10), .int (s 11), .ref (m + 6), .int (s 13), .int (s 14), .ref (m + 7), .int (s 16), .int (s 17), .ref (m + 8)])) := (fr_6 m (by omega)).trans m0
    refine fw_get (v := .int (s 7)) (C := RX11) (T := TX11) (N := 19) hx hb hts hin11 hown hK hR f_8 rfl 7 (by decide) (hts (.fieldLink RX11 189 "UnreadLeafletsModel" "typed" "I") (by decide +kernel)) rfl dX11_append_27 ?_
    refine lv_iconst (v := 1) hx hb dX11_append_30 (by decide) ?_
    refine lv_iadd hx hb dX11_append_31 ?_
    refine fw_put (v := .int ((s 7) + 1)) (C := RX11) (T := TX11) (N := 19) hx hb hts hin11 tyX11 tyX11_ok nmX11 hown hK hR hS f_8 rfl 7 (by decide) (hts (.fieldLink RX11 189 "UnreadLeafletsModel" "typed" "I") (by decide +kernel)) rfl rfl rfl (Nat.le_of_ble_eq_true rfl) dX11_append_32 (fun H locs hR hS => ?_)
    obtain ⟨ω_9, hw_10⟩ : ∃ τ : FWd, τ = (ω_3.1, va_up ω_3.2 m (some (.inr (13, [.ref (m + 1), .ref (m + 2), .ref (m + 3), .int ((upd s 7 ((s 7) + 1)) 3), .ref (m + 4), .int ((upd s 7 ((s 7) + 1)) 5), .ref (m + 5), .int ((upd s 7 ((s 7) + 1)) 7), .int ((upd s 7 ((s 7) + 1)) 8), .int ((upd s 7 ((s 7) + 1)) 9), .int ((upd s 7 ((s 7) + 1)) 10), .int ((upd s 7 ((s 7) + 1)) 11), .ref (m + 6), .int ((upd s 7 ((s 7) + 1)) 13), .int ((upd s 7 ((s 7) + 1)) 14), .ref (m + 7), .int ((upd s 7 ((s 7) + 1)) 16), .int ((upd s 7 ((s 7) + 1)) 17), .ref (m + 8)])))) := ⟨_, rfl⟩
    have hR : fR G ω_9 H := by rw [hw_10]; exact hR
    have f_11 : ω_9.2 m = some (.inr (13, [.ref (m + 1), .ref (m + 2), .ref (m + 3), .int ((upd s 7 ((s 7) + 1)) 3), .ref (m + 4), .int ((upd s 7 ((s 7) + 1)) 5), .ref (m + 5), .int ((upd s 7 ((s 7) + 1)) 7), .int ((upd s 7 ((s 7) + 1)) 8), .int ((upd s 7 ((s 7) + 1)) 9), .int ((upd s 7 ((s 7) + 1)) 10), .int ((upd s 7 ((s 7) + 1)) 11), .ref (m + 6), .int ((upd s 7 ((s 7) + 1)) 13), .int ((upd s 7 ((s 7) + 1)) 14), .ref (m + 7), .int ((upd s 7 ((s 7) + 1)) 16), .int ((upd s 7 ((s 7) + 1)) 17), .ref (m + 8)])) := by rw [hw_10]; exact va_up_at
    have fr_12 : ∀ q : Nat, ¬ q = m → ω_9.2 q = ω_3.2 q := fun q hq => by rw [hw_10]; exact va_up_off hq
    have z_13 : ω_9.1 = ω_3.1 := by rw [hw_10]
    refine lv_aload_n hx hb dX11_append_35 rfl (lv_at hl 0 rfl) ?_
    refine lv_aload_n hx hb dX11_append_36 rfl (lv_at hl 0 rfl) ?_
    refine fw_get (v := .int ((s 7) + 1)) (C := RX11) (T := TX11) (N := 19) hx hb hts hin11 hown hK hR f_11 rfl 7 (by decide) (hts (.fieldLink RX11 189 "UnreadLeafletsModel" "typed" "I") (by decide +kernel)) rfl dX11_append_37 ?_
    have f_14 : ω_3.2 (m + 1) = some (.inl (G.2.1 0, 324, .inl g)) := (fr_6 (m + 1) (by omega)).trans m1
    have f_15 : ω_9.2 (m + 1) = some (.inl (G.2.1 0, 324, .inl g)) := (fr_12 (m + 1) (by omega)).trans f_14
    refine fw_call (va_runV (As := [.int ((s 7) + 1)]) (rest := []) ⟨hx, hb, hml, hown, hts⟩ (c_X11_done G hL l ω_9 m (upd s 7 ((s 7) + 1)) g f_11 f_15 ((s 7) + 1)) (cwV 1 hts gX11_append_X11_done rfl rfl rfl (by decide +kernel) ⟨Nat.le_of_ble_eq_true rfl, Nat.le_of_ble_eq_true rfl⟩) (fw_preV hW hK hR f_11 rfl) rfl rfl hl.1 rfl (lv_room (Nat.le_of_ble_eq_true rfl)) dX11_append_40 ⟨Nat.le_of_ble_eq_true rfl, Nat.le_of_ble_eq_true rfl⟩) hS (fun v_16 ω_17 H locs hq_18 hR hS => ?_)
    obtain ⟨rfl, z_19, f_21, fr_20⟩ := hq_18
    refine W.eq (g2 := F0 mI 43 ls [.int ((s 7) + 1)]) rfl ?_
    have f_22 : ω_9.2 (m + 5) = some (.inl (G.2.1 1, 60, .inl (upd ip ty ch))) := (fr_12 (m + 5) (by omega)).trans f_5
    have f_23 : ω_17.2 (m + 5) = some (.inl (G.2.1 1, 60, .inl (upd ip ty ch))) := (fr_20 (m + 5) (by omega)).trans f_22
    have fr_24 : ∀ q : Nat, ¬ q = m → ¬ q = (m + 5) → ω_17.2 q = ω.2 q := by
      intro q h0 h1
      rw [fr_20 q (by omega)]
      rw [fr_12 q (by omega)]
      rw [fr_6 q (by omega)]
    have z_25 : ω_17.1 = ω.1 := by rw [z_19, z_13, z_7]
    have hr_26 : appM s g ip ch = ((((s 7) + 1), (upd (upd s 7 ((s 7) + 1)) 14 0), (upd ip ty ch)) : Int32 × (Nat → Int32) × (Nat → Int32)) := by
      simp only [appM, htyc]
      rw [if_neg c_1]
    refine fw_iret hx hb hr hlocks hR hS dX11_append_43 ?_
    rw [hr_26]
    exact ⟨rfl, z_25, f_21, f_23, fr_24⟩
  · skip
    refine lv_aload_n hx hb dX11_append_9 rfl (lv_at hl 0 rfl) ?_
    refine lv_iconst (v := 1) hx hb dX11_append_10 (by decide) ?_
    refine fw_call (va_runV (As := [.int 1]) (rest := []) ⟨hx, hb, hml, hown, hts⟩ (c_X11_fails G hL l ω m s g m0 m1 1) (cwV 1 hts gX11_append_X11_fails rfl rfl rfl (by decide +kernel) ⟨Nat.le_of_ble_eq_true rfl, Nat.le_of_ble_eq_true rfl⟩) (fw_preV hW hK hR m0 rfl) rfl rfl hl.1 rfl (lv_room (Nat.le_of_ble_eq_true rfl)) dX11_append_11 ⟨Nat.le_of_ble_eq_true rfl, Nat.le_of_ble_eq_true rfl⟩) hS (fun v_27 ω_28 H locs hq_29 hR hS => ?_)
    obtain ⟨rfl, z_30, f_32, fr_31⟩ := hq_29
    refine W.eq (g2 := F0 mI 14 ls [.int 0]) rfl ?_
    have f_33 : ω_28.2 (m + 5) = some (.inl (G.2.1 1, 60, .inl ip)) := (fr_31 (m + 5) (by omega)).trans m5
    have fr_34 : ∀ q : Nat, ¬ q = m → ¬ q = (m + 5) → ω_28.2 q = ω.2 q := by
      intro q h0 h1
      rw [fr_31 q (by omega)]
    have z_35 : ω_28.1 = ω.1 := by rw [z_30]
    have hr_36 : appM s g ip ch = ((0, (upd s 14 1), ip) : Int32 × (Nat → Int32) × (Nat → Int32)) := by
      simp only [appM, htyc]
      rw [if_pos c_1]
    refine fw_iret hx hb hr hlocks hR hS dX11_append_14 ?_
    rw [hr_36]
    exact ⟨rfl, z_35, f_32, f_33, fr_34⟩
def tonL (g ip : Nat → Int32) (le : Int32) (set : Int32) (s : Nat → Int32) (many : Nat) : Nat → Int32 × (Nat → Int32)
  | 0 => (set, s)
  | n + 1 => if s 17 = 0 then (if nI many < le ∨ inB (hereM s g ip) 48 57 then tonL g ip le (set ||| (1 <<< ((figM s g ip).1 &&& 31))) (figM s g ip).2 (many + 1) n else (set, s)) else (set, s)
def tonM (s g ip : Nat → Int32) (le : Int32) : Int32 × (Nat → Int32) := tonL g ip le 0 s 0 5
theorem tonL_pk {g ip : Nat → Int32} {le : Int32} : ∀ (n many : Nat) (set : Int32) (s : Nat → Int32) (b : Nat), PK s b → b + n < 10000 → PK (tonL g ip le set s many n).2 (b + n)
  | 0, _, _, _, _, h, _ => h
  | n + 1, many, set, s, b, h, hb => by
    rw [tonL]
    split
    · split
      · have := tonL_pk (g := g) (ip := ip) (le := le) n (many + 1) (set ||| (1 <<< ((figM s g ip).1 &&& 31))) (figM s g ip).2 (b + 1) (figM_pk h (by omega)) (by omega)
        rw [show b + (n + 1) = b + 1 + n by omega]
        exact this
      · exact PK_le h (by omega)
    · exact PK_le h (by omega)
theorem tonM_pk {s g ip : Nat → Int32} {le : Int32} {b : Nat} (h : PK s b) (hb : b < 9000) : PK (tonM s g ip le).2 (b + 5) := tonL_pk 5 0 0 s b h (by omega)
set_option maxHeartbeats 4000000 in
set_option maxRecDepth 100000 in
theorem c_X11_tongues (G : FG) (hL : FL G) (l : Launch) (ω : FWd) (m : Nat) (s g : Nat → Int32) (m0 : ω.2 m = some (.inr (13, [.ref (m + 1), .ref (m + 2), .ref (m + 3), .int (s 3), .ref (m + 4), .int (s 5), .ref (m + 5), .int (s 7), .int (s 8), .int (s 9), .int (s 10), .int (s 11), .ref (m + 6), .int (s 13), .int (s 14), .ref (m + 7), .int (s 16), .int (s 17), .ref (m + 8)]))) (m1 : ω.2 (m + 1) = some (.inl (G.2.1 0, 324, .inl g))) (ip : Nat → Int32) (m5 : ω.2 (m + 5) = some (.inl (G.2.1 1, 60, .inl ip))) (hp : PK s 580) (le : Int32) : FMet G l yX11_tongues wsX11_tongues ({ frames := 2, cells := 0, slots := 0, locals := 43 } : Room) [.ref m, .int le] ω (fun vv9 τ9 => vv9 = some (.int ((tonM s g ip le).1)) ∧ τ9.1 = ω.1 ∧ τ9.2 m = some (.inr (13, [.ref (m + 1), .ref (m + 2), .ref (m + 3), .int (((tonM s g ip le).2) 3), .ref (m + 4), .int (((tonM s g ip le).2) 5), .ref (m + 5), .int (((tonM s g ip le).2) 7), .int (((tonM s g ip le).2) 8), .int (((tonM s g ip le).2) 9), .int (((tonM s g ip le).2) 10), .int (((tonM s g ip le).2) 11), .ref (m + 6), .int (((tonM s g ip le).2) 13), .int (((tonM s g ip le).2) 14), .ref (m + 7), .int (((tonM s g ip le).2) 16), .int (((tonM s g ip le).2) 17), .ref (m + 8)])) ∧ ∀ q : Nat, ¬ q = m → τ9.2 q = ω.2 q) 0 0 := by
  refine fw_ofW (cc := cX11_tongues) (maxL := 4) (ret := (some .int)) (by decide) rfl (Nat.le_of_ble_eq_true rfl) ?_
  intro pP eE sS mI ar9 bl9 meth cD ls hx hb hr hlocks hml hts hown hnm hW hR hl
  have hK := hL.K hW
  have hS : va_S (fwA G) sS.heap sS.heap [] := va_S.rf
  have hin11 : ∀ w ∈ u_ws RX11 TX11 19, w ∈ wsX11_tongues := by decide +kernel
  have hl : lv_has ls 4 [(0, .ref m), (1, .int le)] := hl
  refine lv_iconst (v := 0) hx hb dX11_tongues_0 (by decide) ?_
  refine lv_istore_n (lv' := [(2, .int 0), (0, .ref m), (1, .int le)]) hx hb dX11_tongues_1 rfl hl (by decide) rfl (fun ls hl => ?_)
  refine lv_iconst (v := 0) hx hb dX11_tongues_2 (by decide) ?_
  refine lv_istore_n (lv' := [(3, .int 0), (2, .int 0), (0, .ref m), (1, .int le)]) hx hb dX11_tongues_3 rfl hl (by decide) rfl (fun ls hl => ?_)
  have loop_1 : ∀ (fu : Nat) (many : Nat) (st : Int32) (z : Nat → Int32) (τ1 : FWd), (5 - many) < fu → (many ≤ 5) → (PK z (580 + many)) → (tonM s g ip le = tonL g ip le st z many (5 - many)) → τ1.1 = ω.1 → τ1.2 m = some (.inr (13, [.ref (m + 1), .ref (m + 2), .ref (m + 3), .int (z 3), .ref (m + 4), .int (z 5), .ref (m + 5), .int (z 7), .int (z 8), .int (z 9), .int (z 10), .int (z 11), .ref (m + 6), .int (z 13), .int (z 14), .ref (m + 7), .int (z 16), .int (z 17), .ref (m + 8)])) → (∀ q : Nat, ¬ q = m → τ1.2 q = ω.2 q) → ∀ (H : Heap) (locs : List Loc) (ls : Array Slot), fR G τ1 H → va_S (fwA G) sS.heap H locs → lv_has ls 4 [(3, .int (nI many)), (2, .int st), (0, .ref m), (1, .int le)] → W pP l eE ({ frames := 2, cells := 0, slots := 0, locals := 43 } : Room) sS mI ar9 bl9 meth cD H locs 0 0 (MQ bl9 (fQ G (fun vv9 τ9 => vv9 = some (.int ((tonM s g ip le).1)) ∧ τ9.1 = ω.1 ∧ τ9.2 m = some (.inr (13, [.ref (m + 1), .ref (m + 2), .ref (m + 3), .int (((tonM s g ip le).2) 3), .ref (m + 4), .int (((tonM s g ip le).2) 5), .ref (m + 5), .int (((tonM s g ip le).2) 7), .int (((tonM s g ip le).2) 8), .int (((tonM s g ip le).2) 9), .int (((tonM s g ip le).2) 10), .int (((tonM s g ip le).2) 11), .ref (m + 6), .int (((tonM s g ip le).2) 13), .int (((tonM s g ip le).2) 14), .ref (m + 7), .int (((tonM s g ip le).2) 16), .int (((tonM s g ip le).2) 17), .ref (m + 8)])) ∧ ∀ q : Nat, ¬ q = m → τ9.2 q = ω.2 q)) ar9 sS 0 0 (fwA G)) (F0 mI 4 ls []) := by
    intro fu
    induction fu with
    | zero => intro many st z τ1 hfu; exact absurd hfu (Nat.not_lt_zero _)
    | succ fu ih =>
      intro many st z τ1 hfu hmy hzp hzt hzτ1 w1 hfrτ1 H locs ls hR hS hl
      refine lv_aload_n hx hb dX11_tongues_4 rfl (lv_at hl 2 rfl) ?_
      refine fw_get (v := .int (z 17)) (C := RX11) (T := TX11) (N := 19) hx hb hts hin11 hown hK hR w1 rfl 17 (by decide) (hts (.fieldLink RX11 195 "UnreadLeafletsModel" "isWrong" "Z") (by decide +kernel)) rfl dX11_tongues_5 ?_
      refine lv_if_ne (tgt := 50) hx hb dX11_tongues_8 (by decide) (fun c_2 => ?_) (fun c_2 => ?_)
      · skip
        refine lv_iload_n hx hb dX11_tongues_50 rfl (lv_at hl 1 rfl) ?_
        have fr_3 : ∀ q : Nat, ¬ q = m → τ1.2 q = ω.2 q := by
          intro q h0
          rw [hfrτ1 q (by omega)]
        have z_4 : τ1.1 = ω.1 := by rw [hzτ1]
        refine fw_iret hx hb hr hlocks hR hS dX11_tongues_51 ⟨?_, z_4, ?_, fr_3⟩
        · refine congrArg (fun z => some (Value.int z)) ?_
          rw [hzt]; rcases Nat.eq_zero_or_pos (5 - many) with h9 | h9
          · rw [h9, tonL]
          · obtain ⟨n9, hn9⟩ : ∃ n9, 5 - many = n9 + 1 := ⟨5 - many - 1, by omega⟩
            rw [hn9, tonL, if_neg c_2]
        · refine w1.trans (congrArg some ?_)
          rw [hzt]; rcases Nat.eq_zero_or_pos (5 - many) with h9 | h9
          · rw [h9, tonL]
          · obtain ⟨n9, hn9⟩ : ∃ n9, 5 - many = n9 + 1 := ⟨5 - many - 1, by omega⟩
            rw [hn9, tonL, if_neg c_2]
      · skip
        refine lv_iload_n hx hb dX11_tongues_11 rfl (lv_at hl 0 rfl) ?_
        refine lv_iconst (v := 5) hx hb dX11_tongues_12 (by decide) ?_
        refine lv_icmp_ge (tgt := 50) hx hb dX11_tongues_13 (by decide) (fun c_5 => ?_) (fun c_5 => ?_)
        · skip
          refine lv_iload_n hx hb dX11_tongues_50 rfl (lv_at hl 1 rfl) ?_
          have fr_6 : ∀ q : Nat, ¬ q = m → τ1.2 q = ω.2 q := by
            intro q h0
            rw [hfrτ1 q (by omega)]
          have z_7 : τ1.1 = ω.1 := by rw [hzτ1]
          refine fw_iret hx hb hr hlocks hR hS dX11_tongues_51 ⟨?_, z_7, ?_, fr_6⟩
          · refine congrArg (fun z => some (Value.int z)) ?_
            have hm9 := lp_ge (n := 5) rfl c_5 (by omega) (by omega)
            rw [hzt, show 5 - many = 0 by omega, tonL]
          · refine w1.trans (congrArg some ?_)
            have hm9 := lp_ge (n := 5) rfl c_5 (by omega) (by omega)
            rw [hzt, show 5 - many = 0 by omega, tonL]
        · skip
          have hm5 : many < 5 := by have h9 := c_5; exact Nat.lt_of_not_le (fun z9 => h9 ((nI_leI (a := 5) (by omega) (by omega)).mpr z9))
          have hx5 : 5 - many = (5 - (many + 1)) + 1 := by omega
          refine lv_iload_n hx hb dX11_tongues_16 rfl (lv_at hl 0 rfl) ?_
          refine lv_iload_n hx hb dX11_tongues_17 rfl (lv_at hl 3 rfl) ?_
          refine lv_icmp_lt (tgt := 35) hx hb dX11_tongues_18 (by decide) (fun c_8 => ?_) (fun c_8 => ?_)
          · skip
            refine lv_iload_n hx hb dX11_tongues_35 rfl (lv_at hl 1 rfl) ?_
            refine lv_iconst (v := 1) hx hb dX11_tongues_36 (by decide) ?_
            refine lv_aload_n hx hb dX11_tongues_37 rfl (lv_at hl 2 rfl) ?_
            have f_9 : τ1.2 (m + 1) = some (.inl (G.2.1 0, 324, .inl g)) := (hfrτ1 (m + 1) (by omega)).trans m1
            have f_10 : τ1.2 (m + 5) = some (.inl (G.2.1 1, 60, .inl ip)) := (hfrτ1 (m + 5) (by omega)).trans m5
            refine fw_call (va_runV (As := []) (rest := [.int 1, .int st]) ⟨hx, hb, hml, hown, hts⟩ (c_X11_figure G hL l τ1 m z g w1 f_9 ip f_10 (PK_le hzp (by omega))  ) (cwV 0 hts gX11_tongues_X11_figure rfl rfl rfl (by decide +kernel) ⟨Nat.le_of_ble_eq_true rfl, Nat.le_of_ble_eq_true rfl⟩) (fw_preV hW hK hR w1 rfl) rfl rfl hl.1 rfl (lv_room (Nat.le_of_ble_eq_true rfl)) dX11_tongues_38 ⟨Nat.le_of_ble_eq_true rfl, Nat.le_of_ble_eq_true rfl⟩) hS (fun v_11 ω_12 H locs hq_13 hR hS => ?_)
            obtain ⟨rfl, z_14, f_16, fr_15⟩ := hq_13
            refine W.eq (g2 := F0 mI 41 ls [.int ((figM z g ip).1), .int 1, .int st]) rfl ?_
            refine lv_ishl hx hb dX11_tongues_41 ?_
            refine lv_ior hx hb dX11_tongues_42 ?_
            refine lv_topi (fun x_17 ex_17 => ?_)
            refine lv_istore_n (lv' := [(2, .int x_17), (3, .int (nI many)), (0, .ref m), (1, .int le)]) hx hb dX11_tongues_43 rfl hl (by decide) rfl (fun ls hl => ?_)
            obtain ⟨x_18, ex_18⟩ : ∃ y : Int32, y = (nI many) + 1 := ⟨_, rfl⟩
            refine lv_iinc (v := x_18) (lv' := [(3, .int x_18), (2, .int x_17), (0, .ref m), (1, .int le)]) hx hb dX11_tongues_44 hl (k := 1) rfl (by rw [ex_18]; rfl) (by decide) rfl (fun ls hl => ?_)
            refine lv_goto (tgt := 4) hx hb dX11_tongues_47 (by decide) ?_
            have el_3 : x_18 = nI (many + 1) := by rw [ex_18]; exact nI_1 many
            have hl := lv_sub (l' := [(3, .int x_18), (2, .int x_17), (0, .ref m), (1, .int le)]) hl [0, 1, 2, 3] rfl
            rw [el_3] at hl
            have fr_19 : ∀ q : Nat, ¬ q = m → ω_12.2 q = ω.2 q := by
              intro q h0
              rw [fr_15 q (by omega)]
              rw [hfrτ1 q (by omega)]
            have z_20 : ω_12.1 = ω.1 := by rw [z_14, hzτ1]
            exact ih (many + 1) x_17 ((figM z g ip).2) ω_12 (by omega) (by omega) (by rw [show 580 + (many + 1) = 580 + many + 1 by omega]; exact figM_pk hzp (by omega)) (by rw [hzt, hx5, tonL, if_pos c_2, if_pos (Or.inl c_8), ex_17]) z_20 f_16 fr_19 _ _ _ hR hS hl
          · skip
            refine lv_aload_n hx hb dX11_tongues_21 rfl (lv_at hl 2 rfl) ?_
            have f_21 : τ1.2 (m + 1) = some (.inl (G.2.1 0, 324, .inl g)) := (hfrτ1 (m + 1) (by omega)).trans m1
            have f_22 : τ1.2 (m + 5) = some (.inl (G.2.1 1, 60, .inl ip)) := (hfrτ1 (m + 5) (by omega)).trans m5
            refine fw_call (va_runV (As := []) (rest := []) ⟨hx, hb, hml, hown, hts⟩ (c_X11_here G hL l τ1 m z g w1 f_21 ip f_22 (PK_le hzp (by omega))  ) (cwV 0 hts gX11_tongues_X11_here rfl rfl rfl (by decide +kernel) ⟨Nat.le_of_ble_eq_true rfl, Nat.le_of_ble_eq_true rfl⟩) (fw_preV hW hK hR w1 rfl) rfl rfl hl.1 rfl (lv_room (Nat.le_of_ble_eq_true rfl)) dX11_tongues_22 ⟨Nat.le_of_ble_eq_true rfl, Nat.le_of_ble_eq_true rfl⟩) hS (fun v_23 ω_24 H locs hq_25 hR hS => ?_)
            obtain ⟨rfl, hq_25⟩ := hq_25
            rw [hq_25] at hR
            refine W.eq (g2 := F0 mI 25 ls [.int (hereM z g ip)]) rfl ?_
            refine lv_bipush (v := 48) hx hb dX11_tongues_25 (by decide) ?_
            refine lv_bipush (v := 57) hx hb dX11_tongues_27 (by decide) ?_
            refine fw_call (va_runS (As := [.int (hereM z g ip), .int 48, .int 57]) (rest := []) ⟨hx, hb, hml, hown, hts⟩ (c_X11_in G hL l τ1 (hereM z g ip) 48 57) (va_cwS 3 hts gX11_tongues_X11_in rfl rfl rfl (by decide +kernel) ⟨Nat.le_of_ble_eq_true rfl, Nat.le_of_ble_eq_true rfl⟩) (fw_preS hW hR) rfl rfl hl.1 rfl (lv_room (Nat.le_of_ble_eq_true rfl)) dX11_tongues_29 ⟨Nat.le_of_ble_eq_true rfl, Nat.le_of_ble_eq_true rfl⟩) hS (fun v_26 ω_27 H locs hq_28 hR hS => ?_)
            obtain ⟨rfl, hq_28⟩ := hq_28
            rw [hq_28] at hR
            refine W.eq (g2 := F0 mI 32 ls [.int (bz (inB (hereM z g ip) 48 57))]) rfl ?_
            refine lv_if_eq (tgt := 50) hx hb dX11_tongues_32 (by decide) (fun c_29 => ?_) (fun c_29 => ?_)
            · skip
              have c_29 := bz_eq c_29
              refine lv_iload_n hx hb dX11_tongues_50 rfl (lv_at hl 1 rfl) ?_
              have fr_30 : ∀ q : Nat, ¬ q = m → τ1.2 q = ω.2 q := by
                intro q h0
                rw [hfrτ1 q (by omega)]
              have z_31 : τ1.1 = ω.1 := by rw [hzτ1]
              refine fw_iret hx hb hr hlocks hR hS dX11_tongues_51 ⟨?_, z_31, ?_, fr_30⟩
              · refine congrArg (fun z => some (Value.int z)) ?_
                rw [hzt, hx5, tonL, if_pos c_2, if_neg (fun z9 => z9.elim c_8 c_29)]
              · refine w1.trans (congrArg some ?_)
                rw [hzt, hx5, tonL, if_pos c_2, if_neg (fun z9 => z9.elim c_8 c_29)]
            · skip
              have c_29 := bz_ne c_29
              refine lv_iload_n hx hb dX11_tongues_35 rfl (lv_at hl 1 rfl) ?_
              refine lv_iconst (v := 1) hx hb dX11_tongues_36 (by decide) ?_
              refine lv_aload_n hx hb dX11_tongues_37 rfl (lv_at hl 2 rfl) ?_
              refine fw_call (va_runV (As := []) (rest := [.int 1, .int st]) ⟨hx, hb, hml, hown, hts⟩ (c_X11_figure G hL l τ1 m z g w1 f_21 ip f_22 (PK_le hzp (by omega))  ) (cwV 0 hts gX11_tongues_X11_figure rfl rfl rfl (by decide +kernel) ⟨Nat.le_of_ble_eq_true rfl, Nat.le_of_ble_eq_true rfl⟩) (fw_preV hW hK hR w1 rfl) rfl rfl hl.1 rfl (lv_room (Nat.le_of_ble_eq_true rfl)) dX11_tongues_38 ⟨Nat.le_of_ble_eq_true rfl, Nat.le_of_ble_eq_true rfl⟩) hS (fun v_32 ω_33 H locs hq_34 hR hS => ?_)
              obtain ⟨rfl, z_35, f_37, fr_36⟩ := hq_34
              refine W.eq (g2 := F0 mI 41 ls [.int ((figM z g ip).1), .int 1, .int st]) rfl ?_
              refine lv_ishl hx hb dX11_tongues_41 ?_
              refine lv_ior hx hb dX11_tongues_42 ?_
              refine lv_topi (fun x_38 ex_38 => ?_)
              refine lv_istore_n (lv' := [(2, .int x_38), (3, .int (nI many)), (0, .ref m), (1, .int le)]) hx hb dX11_tongues_43 rfl hl (by decide) rfl (fun ls hl => ?_)
              obtain ⟨x_39, ex_39⟩ : ∃ y : Int32, y = (nI many) + 1 := ⟨_, rfl⟩
              refine lv_iinc (v := x_39) (lv' := [(3, .int x_39), (2, .int x_38), (0, .ref m), (1, .int le)]) hx hb dX11_tongues_44 hl (k := 1) rfl (by rw [ex_39]; rfl) (by decide) rfl (fun ls hl => ?_)
              refine lv_goto (tgt := 4) hx hb dX11_tongues_47 (by decide) ?_
              have el_3 : x_39 = nI (many + 1) := by rw [ex_39]; exact nI_1 many
              have hl := lv_sub (l' := [(3, .int x_39), (2, .int x_38), (0, .ref m), (1, .int le)]) hl [0, 1, 2, 3] rfl
              rw [el_3] at hl
              have fr_40 : ∀ q : Nat, ¬ q = m → ω_33.2 q = ω.2 q := by
                intro q h0
                rw [fr_36 q (by omega)]
                rw [hfrτ1 q (by omega)]
              have z_41 : ω_33.1 = ω.1 := by rw [z_35, hzτ1]
              exact ih (many + 1) x_38 ((figM z g ip).2) ω_33 (by omega) (by omega) (by rw [show 580 + (many + 1) = 580 + many + 1 by omega]; exact figM_pk hzp (by omega)) (by rw [hzt, hx5, tonL, if_pos c_2, if_pos (Or.inr c_29), ex_38]) z_41 f_37 fr_40 _ _ _ hR hS hl
  exact loop_1 _ 0 0 s ω (Nat.lt_succ_self _) (by first | rfl | assumption | omega | (simp; done)) (by exact hp) (by rfl) rfl m0 (fun _ _ => rfl) _ _ _ hR hS (lv_sub hl [0, 1, 2, 3] rfl)
def pairM (s g ip td : Nat → Int32) (k : Nat) (sg : Int32) : (Nat → Int32) × (Nat → Int32) := (((figM (needsM ((figM s g ip).2) g ip sg) g ip).2), (upd (upd td (k + 1) ((figM s g ip).1)) (k + 2) ((figM (needsM ((figM s g ip).2) g ip sg) g ip).1)))
theorem pairM_pk {s g ip td : Nat → Int32} {k : Nat} {sg : Int32} {b : Nat} (h : PK s b) (hb : b < 9000) : PK (pairM s g ip td k sg).1 (b + 3) := figM_pk (needsM_pk (figM_pk h (by omega)) (by omega)) (by omega)
set_option maxHeartbeats 4000000 in
set_option maxRecDepth 100000 in
theorem c_X11_readsPair (G : FG) (hL : FL G) (l : Launch) (ω : FWd) (m : Nat) (s g : Nat → Int32) (m0 : ω.2 m = some (.inr (13, [.ref (m + 1), .ref (m + 2), .ref (m + 3), .int (s 3), .ref (m + 4), .int (s 5), .ref (m + 5), .int (s 7), .int (s 8), .int (s 9), .int (s 10), .int (s 11), .ref (m + 6), .int (s 13), .int (s 14), .ref (m + 7), .int (s 16), .int (s 17), .ref (m + 8)]))) (m1 : ω.2 (m + 1) = some (.inl (G.2.1 0, 324, .inl g))) (ip : Nat → Int32) (m5 : ω.2 (m + 5) = some (.inl (G.2.1 1, 60, .inl ip))) (td : Nat → Int32) (m8 : ω.2 (m + 8) = some (.inl (G.2.1 0, 300, .inl td))) (hp : PK s 570) (k : Nat) (sg : Int32) (hk5 : k + 5 ≤ 300) : FMet G l yX11_readsPair wsX11_readsPair ({ frames := 2, cells := 0, slots := 0, locals := 43 } : Room) [.ref m, .int (nI k), .int sg] ω (fun vv9 τ9 => vv9 = none ∧ τ9.1 = ω.1 ∧ τ9.2 m = some (.inr (13, [.ref (m + 1), .ref (m + 2), .ref (m + 3), .int (((pairM s g ip td k sg).1) 3), .ref (m + 4), .int (((pairM s g ip td k sg).1) 5), .ref (m + 5), .int (((pairM s g ip td k sg).1) 7), .int (((pairM s g ip td k sg).1) 8), .int (((pairM s g ip td k sg).1) 9), .int (((pairM s g ip td k sg).1) 10), .int (((pairM s g ip td k sg).1) 11), .ref (m + 6), .int (((pairM s g ip td k sg).1) 13), .int (((pairM s g ip td k sg).1) 14), .ref (m + 7), .int (((pairM s g ip td k sg).1) 16), .int (((pairM s g ip td k sg).1) 17), .ref (m + 8)])) ∧ τ9.2 (m + 8) = some (.inl (G.2.1 0, 300, .inl ((pairM s g ip td k sg).2))) ∧ ∀ q : Nat, ¬ q = m → ¬ q = (m + 8) → τ9.2 q = ω.2 q) 0 0 := by
  refine fw_ofW (cc := cX11_readsPair) (maxL := 3) (ret := none) (by decide) rfl (Nat.le_of_ble_eq_true rfl) ?_
  intro pP eE sS mI ar9 bl9 meth cD ls hx hb hr hlocks hml hts hown hnm hW hR hl
  have hK := hL.K hW
  have hS : va_S (fwA G) sS.heap sS.heap [] := va_S.rf
  have hin11 : ∀ w ∈ u_ws RX11 TX11 19, w ∈ wsX11_readsPair := by decide +kernel
  have hl : lv_has ls 3 [(0, .ref m), (1, .int (nI k)), (2, .int sg)] := hl
  obtain ⟨ty, hty6, hty, htyc⟩ := okN_of hp.1
  obtain ⟨sp, hsp6, hspe, hspc⟩ := okN_of hp.2
  skip
  refine lv_aload_n hx hb dX11_readsPair_0 rfl (lv_at hl 0 rfl) ?_
  refine fw_get (v := .ref (m + 8)) (C := RX11) (T := TX11) (N := 19) hx hb hts hin11 hown hK hR m0 rfl 18 (by decide) (hts (.fieldLink RX11 36 "UnreadLeafletsModel" "told" "[I") (by decide +kernel)) rfl dX11_readsPair_1 ?_
  refine lv_iload_n hx hb dX11_readsPair_4 rfl (lv_at hl 1 rfl) ?_
  refine lv_iconst (v := 1) hx hb dX11_readsPair_5 (by decide) ?_
  refine lv_iadd hx hb dX11_readsPair_6 ?_
  refine lv_aload_n hx hb dX11_readsPair_7 rfl (lv_at hl 0 rfl) ?_
  refine fw_call (va_runV (As := []) (rest := [.int ((nI k) + 1), .ref (m + 8)]) ⟨hx, hb, hml, hown, hts⟩ (c_X11_figure G hL l ω m s g m0 m1 ip m5 (PK_le hp (by omega))  ) (cwV 0 hts gX11_readsPair_X11_figure rfl rfl rfl (by decide +kernel) ⟨Nat.le_of_ble_eq_true rfl, Nat.le_of_ble_eq_true rfl⟩) (fw_preV hW hK hR m0 rfl) rfl rfl hl.1 rfl (lv_room (Nat.le_of_ble_eq_true rfl)) dX11_readsPair_8 ⟨Nat.le_of_ble_eq_true rfl, Nat.le_of_ble_eq_true rfl⟩) hS (fun v_1 ω_2 H locs hq_3 hR hS => ?_)
  obtain ⟨rfl, z_4, f_6, fr_5⟩ := hq_3
  refine W.eq (g2 := F0 mI 11 ls [.int ((figM s g ip).1), .int ((nI k) + 1), .ref (m + 8)]) rfl ?_
  have hi_7 : (nI k) + 1 = nI (k + 1) := by
    show (nI k) + (nI 1) = _
    simp only [pk_mul, nI_add, Nat.add_assoc]
  refine W.eq (g2 := F0 mI 11 ls [.int ((figM s g ip).1), .int (nI (k + 1)), .ref (m + 8)]) (by rw [hi_7]) ?_
  have f_8 : ω_2.2 (m + 8) = some (.inl (G.2.1 0, 300, .inl td)) := (fr_5 (m + 8) (by omega)).trans m8
  refine fw_iast hx hb hK hR hS f_8 (vp_in_nI (by omega) (by omega)) dX11_readsPair_11 (fun H locs hR hS => ?_)
  rw [show (nI (k + 1)).toNatClampNeg = k + 1 from nI_clamp (by omega)] at hR
  obtain ⟨ω_9, hw_10⟩ : ∃ τ : FWd, τ = (ω_2.1, va_up ω_2.2 (m + 8) (some (.inl (G.2.1 0, 300, .inl (upd td (k + 1) ((figM s g ip).1)))))) := ⟨_, rfl⟩
  have hR : fR G ω_9 H := by rw [hw_10]; exact hR
  have f_11 : ω_9.2 (m + 8) = some (.inl (G.2.1 0, 300, .inl (upd td (k + 1) ((figM s g ip).1)))) := by rw [hw_10]; exact va_up_at
  have fr_12 : ∀ q : Nat, ¬ q = (m + 8) → ω_9.2 q = ω_2.2 q := fun q hq => by rw [hw_10]; exact va_up_off hq
  have z_13 : ω_9.1 = ω_2.1 := by rw [hw_10]
  refine lv_aload_n hx hb dX11_readsPair_12 rfl (lv_at hl 0 rfl) ?_
  refine lv_iload_n hx hb dX11_readsPair_13 rfl (lv_at hl 2 rfl) ?_
  have f_14 : ω_9.2 m = some (.inr (13, [.ref (m + 1), .ref (m + 2), .ref (m + 3), .int (((figM s g ip).2) 3), .ref (m + 4), .int (((figM s g ip).2) 5), .ref (m + 5), .int (((figM s g ip).2) 7), .int (((figM s g ip).2) 8), .int (((figM s g ip).2) 9), .int (((figM s g ip).2) 10), .int (((figM s g ip).2) 11), .ref (m + 6), .int (((figM s g ip).2) 13), .int (((figM s g ip).2) 14), .ref (m + 7), .int (((figM s g ip).2) 16), .int (((figM s g ip).2) 17), .ref (m + 8)])) := (fr_12 m (by omega)).trans f_6
  have f_15 : ω_2.2 (m + 1) = some (.inl (G.2.1 0, 324, .inl g)) := (fr_5 (m + 1) (by omega)).trans m1
  have f_16 : ω_9.2 (m + 1) = some (.inl (G.2.1 0, 324, .inl g)) := (fr_12 (m + 1) (by omega)).trans f_15
  have f_17 : ω_2.2 (m + 5) = some (.inl (G.2.1 1, 60, .inl ip)) := (fr_5 (m + 5) (by omega)).trans m5
  have f_18 : ω_9.2 (m + 5) = some (.inl (G.2.1 1, 60, .inl ip)) := (fr_12 (m + 5) (by omega)).trans f_17
  refine fw_call (va_runV (As := [.int sg]) (rest := []) ⟨hx, hb, hml, hown, hts⟩ (c_X11_needsSign G hL l ω_9 m ((figM s g ip).2) g f_14 f_16 ip f_18 (PK_le (figM_pk hp (by omega)) (by omega)) sg ) (cwV 1 hts gX11_readsPair_X11_needsSign rfl rfl rfl (by decide +kernel) ⟨Nat.le_of_ble_eq_true rfl, Nat.le_of_ble_eq_true rfl⟩) (fw_preV hW hK hR f_14 rfl) rfl rfl hl.1 rfl (lv_room (Nat.le_of_ble_eq_true rfl)) dX11_readsPair_14 ⟨Nat.le_of_ble_eq_true rfl, Nat.le_of_ble_eq_true rfl⟩) hS (fun v_19 ω_20 H locs hq_21 hR hS => ?_)
  obtain ⟨rfl, z_22, f_24, fr_23⟩ := hq_21
  refine W.eq (g2 := F0 mI 17 ls []) rfl ?_
  refine lv_aload_n hx hb dX11_readsPair_17 rfl (lv_at hl 0 rfl) ?_
  refine fw_get (v := .ref (m + 8)) (C := RX11) (T := TX11) (N := 19) hx hb hts hin11 hown hK hR f_24 rfl 18 (by decide) (hts (.fieldLink RX11 36 "UnreadLeafletsModel" "told" "[I") (by decide +kernel)) rfl dX11_readsPair_18 ?_
  refine lv_iload_n hx hb dX11_readsPair_21 rfl (lv_at hl 1 rfl) ?_
  refine lv_iconst (v := 2) hx hb dX11_readsPair_22 (by decide) ?_
  refine lv_iadd hx hb dX11_readsPair_23 ?_
  refine lv_aload_n hx hb dX11_readsPair_24 rfl (lv_at hl 0 rfl) ?_
  have f_25 : ω_20.2 (m + 1) = some (.inl (G.2.1 0, 324, .inl g)) := (fr_23 (m + 1) (by omega)).trans f_16
  have f_26 : ω_20.2 (m + 5) = some (.inl (G.2.1 1, 60, .inl ip)) := (fr_23 (m + 5) (by omega)).trans f_18
  refine fw_call (va_runV (As := []) (rest := [.int ((nI k) + 2), .ref (m + 8)]) ⟨hx, hb, hml, hown, hts⟩ (c_X11_figure G hL l ω_20 m (needsM ((figM s g ip).2) g ip sg) g f_24 f_25 ip f_26 (PK_le (needsM_pk (figM_pk hp (by omega)) (by omega)) (by omega))  ) (cwV 0 hts gX11_readsPair_X11_figure rfl rfl rfl (by decide +kernel) ⟨Nat.le_of_ble_eq_true rfl, Nat.le_of_ble_eq_true rfl⟩) (fw_preV hW hK hR f_24 rfl) rfl rfl hl.1 rfl (lv_room (Nat.le_of_ble_eq_true rfl)) dX11_readsPair_25 ⟨Nat.le_of_ble_eq_true rfl, Nat.le_of_ble_eq_true rfl⟩) hS (fun v_27 ω_28 H locs hq_29 hR hS => ?_)
  obtain ⟨rfl, z_30, f_32, fr_31⟩ := hq_29
  refine W.eq (g2 := F0 mI 28 ls [.int ((figM (needsM ((figM s g ip).2) g ip sg) g ip).1), .int ((nI k) + 2), .ref (m + 8)]) rfl ?_
  have hi_33 : (nI k) + 2 = nI (k + 2) := by
    show (nI k) + (nI 2) = _
    simp only [pk_mul, nI_add, Nat.add_assoc]
  refine W.eq (g2 := F0 mI 28 ls [.int ((figM (needsM ((figM s g ip).2) g ip sg) g ip).1), .int (nI (k + 2)), .ref (m + 8)]) (by rw [hi_33]) ?_
  have f_34 : ω_20.2 (m + 8) = some (.inl (G.2.1 0, 300, .inl (upd td (k + 1) ((figM s g ip).1)))) := (fr_23 (m + 8) (by omega)).trans f_11
  have f_35 : ω_28.2 (m + 8) = some (.inl (G.2.1 0, 300, .inl (upd td (k + 1) ((figM s g ip).1)))) := (fr_31 (m + 8) (by omega)).trans f_34
  refine fw_iast hx hb hK hR hS f_35 (vp_in_nI (by omega) (by omega)) dX11_readsPair_28 (fun H locs hR hS => ?_)
  rw [show (nI (k + 2)).toNatClampNeg = k + 2 from nI_clamp (by omega)] at hR
  obtain ⟨ω_36, hw_37⟩ : ∃ τ : FWd, τ = (ω_28.1, va_up ω_28.2 (m + 8) (some (.inl (G.2.1 0, 300, .inl (upd (upd td (k + 1) ((figM s g ip).1)) (k + 2) ((figM (needsM ((figM s g ip).2) g ip sg) g ip).1)))))) := ⟨_, rfl⟩
  have hR : fR G ω_36 H := by rw [hw_37]; exact hR
  have f_38 : ω_36.2 (m + 8) = some (.inl (G.2.1 0, 300, .inl (upd (upd td (k + 1) ((figM s g ip).1)) (k + 2) ((figM (needsM ((figM s g ip).2) g ip sg) g ip).1)))) := by rw [hw_37]; exact va_up_at
  have fr_39 : ∀ q : Nat, ¬ q = (m + 8) → ω_36.2 q = ω_28.2 q := fun q hq => by rw [hw_37]; exact va_up_off hq
  have z_40 : ω_36.1 = ω_28.1 := by rw [hw_37]
  have f_41 : ω_36.2 m = some (.inr (13, [.ref (m + 1), .ref (m + 2), .ref (m + 3), .int (((figM (needsM ((figM s g ip).2) g ip sg) g ip).2) 3), .ref (m + 4), .int (((figM (needsM ((figM s g ip).2) g ip sg) g ip).2) 5), .ref (m + 5), .int (((figM (needsM ((figM s g ip).2) g ip sg) g ip).2) 7), .int (((figM (needsM ((figM s g ip).2) g ip sg) g ip).2) 8), .int (((figM (needsM ((figM s g ip).2) g ip sg) g ip).2) 9), .int (((figM (needsM ((figM s g ip).2) g ip sg) g ip).2) 10), .int (((figM (needsM ((figM s g ip).2) g ip sg) g ip).2) 11), .ref (m + 6), .int (((figM (needsM ((figM s g ip).2) g ip sg) g ip).2) 13), .int (((figM (needsM ((figM s g ip).2) g ip sg) g ip).2) 14), .ref (m + 7), .int (((figM (needsM ((figM s g ip).2) g ip sg) g ip).2) 16), .int (((figM (needsM ((figM s g ip).2) g ip sg) g ip).2) 17), .ref (m + 8)])) := (fr_39 m (by omega)).trans f_32
  have fr_42 : ∀ q : Nat, ¬ q = m → ¬ q = (m + 8) → ω_36.2 q = ω.2 q := by
    intro q h0 h1
    rw [fr_39 q (by omega)]
    rw [fr_31 q (by omega)]
    rw [fr_23 q (by omega)]
    rw [fr_12 q (by omega)]
    rw [fr_5 q (by omega)]
  have z_43 : ω_36.1 = ω.1 := by rw [z_40, z_30, z_22, z_13, z_4]
  have hr_44 : pairM s g ip td k sg = ((((figM (needsM ((figM s g ip).2) g ip sg) g ip).2), (upd (upd td (k + 1) ((figM s g ip).1)) (k + 2) ((figM (needsM ((figM s g ip).2) g ip sg) g ip).1))) : (Nat → Int32) × (Nat → Int32)) := by
    rfl
  refine fw_vret hx hb hr hlocks hR hS dX11_readsPair_29 ?_
  rw [hr_44]
  exact ⟨rfl, z_43, f_41, f_38, fr_42⟩
def ordM (s g ip td : Nat → Int32) (k : Nat) : (Nat → Int32) × (Nat → Int32) := if (hereM s g ip) = 83 then ((((tonM (needsM ((figM (needsM ((pairM (upd s 16 ((s 16) + 1)) g ip (upd td k (hereM s g ip)) k 58).1) g ip 42) g ip).2) g ip 61) g ip 1).2), (upd (upd ((pairM (upd s 16 ((s 16) + 1)) g ip (upd td k (hereM s g ip)) k 58).2) (k + 3) ((figM (needsM ((pairM (upd s 16 ((s 16) + 1)) g ip (upd td k (hereM s g ip)) k 58).1) g ip 42) g ip).1)) (k + 4) ((tonM (needsM ((figM (needsM ((pairM (upd s 16 ((s 16) + 1)) g ip (upd td k (hereM s g ip)) k 58).1) g ip 42) g ip).2) g ip 61) g ip 1).1)))) else (if (hereM s g ip) = 98 then ((((pairM (upd s 16 ((s 16) + 1)) g ip (upd td k (hereM s g ip)) k 62).1), ((pairM (upd s 16 ((s 16) + 1)) g ip (upd td k (hereM s g ip)) k 62).2))) else (if (hereM s g ip) = 99 then ((((tonM (needsM ((figM (upd s 16 ((s 16) + 1)) g ip).2) g ip 61) g ip 0).2), (upd (upd (upd td k (hereM s g ip)) (k + 1) ((figM (upd s 16 ((s 16) + 1)) g ip).1)) (k + 2) ((tonM (needsM ((figM (upd s 16 ((s 16) + 1)) g ip).2) g ip 61) g ip 0).1)))) else (if (hereM s g ip) = 100 then ((((pairM (upd s 16 ((s 16) + 1)) g ip (upd td k (hereM s g ip)) k 46).1), ((pairM (upd s 16 ((s 16) + 1)) g ip (upd td k (hereM s g ip)) k 46).2))) else (if (hereM s g ip) = 102 then ((((figM (upd s 16 ((s 16) + 1)) g ip).2), (upd (upd td k (hereM s g ip)) (k + 1) ((figM (upd s 16 ((s 16) + 1)) g ip).1)))) else (if (hereM s g ip) = 108 then ((((figM (upd s 16 ((s 16) + 1)) g ip).2), (upd (upd td k (hereM s g ip)) (k + 1) ((figM (upd s 16 ((s 16) + 1)) g ip).1)))) else (if (hereM s g ip) = 109 then ((((pairM (upd s 16 ((s 16) + 1)) g ip (upd td k (hereM s g ip)) k 64).1), ((pairM (upd s 16 ((s 16) + 1)) g ip (upd td k (hereM s g ip)) k 64).2))) else (if (hereM s g ip) = 115 then ((((tonM (needsM ((figM (needsM ((pairM (upd s 16 ((s 16) + 1)) g ip (upd td k (hereM s g ip)) k 58).1) g ip 42) g ip).2) g ip 61) g ip 1).2), (upd (upd ((pairM (upd s 16 ((s 16) + 1)) g ip (upd td k (hereM s g ip)) k 58).2) (k + 3) ((figM (needsM ((pairM (upd s 16 ((s 16) + 1)) g ip (upd td k (hereM s g ip)) k 58).1) g ip 42) g ip).1)) (k + 4) ((tonM (needsM ((figM (needsM ((pairM (upd s 16 ((s 16) + 1)) g ip (upd td k (hereM s g ip)) k 58).1) g ip 42) g ip).2) g ip 61) g ip 1).1)))) else (if (hereM s g ip) = 116 then ((((figM (upd s 16 ((s 16) + 1)) g ip).2), (upd (upd td k (hereM s g ip)) (k + 1) ((figM (upd s 16 ((s 16) + 1)) g ip).1)))) else (if (hereM s g ip) = 117 then ((((figM (upd s 16 ((s 16) + 1)) g ip).2), (upd (upd td k (hereM s g ip)) (k + 1) ((figM (upd s 16 ((s 16) + 1)) g ip).1)))) else (if (hereM s g ip) = 120 then ((((pairM (upd s 16 ((s 16) + 1)) g ip (upd td k (hereM s g ip)) k 42).1), ((pairM (upd s 16 ((s 16) + 1)) g ip (upd td k (hereM s g ip)) k 42).2))) else (if (hereM s g ip) = 121 then ((((pairM (upd s 16 ((s 16) + 1)) g ip (upd td k (hereM s g ip)) k 42).1), ((pairM (upd s 16 ((s 16) + 1)) g ip (upd td k (hereM s g ip)) k 42).2))) else (((upd (upd (upd s 16 ((s 16) + 1)) 17 1) 16 (((s 16) + 1) - 1)), (upd td k (hereM s g ip)))))))))))))))
set_option maxHeartbeats 40000000 in
set_option maxRecDepth 100000 in
theorem c_X11_readsOrder (G : FG) (hL : FL G) (l : Launch) (ω : FWd) (m : Nat) (s g : Nat → Int32) (m0 : ω.2 m = some (.inr (13, [.ref (m + 1), .ref (m + 2), .ref (m + 3), .int (s 3), .ref (m + 4), .int (s 5), .ref (m + 5), .int (s 7), .int (s 8), .int (s 9), .int (s 10), .int (s 11), .ref (m + 6), .int (s 13), .int (s 14), .ref (m + 7), .int (s 16), .int (s 17), .ref (m + 8)]))) (m1 : ω.2 (m + 1) = some (.inl (G.2.1 0, 324, .inl g))) (ip : Nat → Int32) (m5 : ω.2 (m + 5) = some (.inl (G.2.1 1, 60, .inl ip))) (td : Nat → Int32) (m8 : ω.2 (m + 8) = some (.inl (G.2.1 0, 300, .inl td))) (hp : PK s 560) (k : Nat) (hk5 : k + 5 ≤ 300) : FMet G l yX11_readsOrder wsX11_readsOrder ({ frames := 3, cells := 0, slots := 0, locals := 66 } : Room) [.ref m, .int (nI k)] ω (fun vv9 τ9 => vv9 = none ∧ τ9.1 = ω.1 ∧ τ9.2 m = some (.inr (13, [.ref (m + 1), .ref (m + 2), .ref (m + 3), .int (((ordM s g ip td k).1) 3), .ref (m + 4), .int (((ordM s g ip td k).1) 5), .ref (m + 5), .int (((ordM s g ip td k).1) 7), .int (((ordM s g ip td k).1) 8), .int (((ordM s g ip td k).1) 9), .int (((ordM s g ip td k).1) 10), .int (((ordM s g ip td k).1) 11), .ref (m + 6), .int (((ordM s g ip td k).1) 13), .int (((ordM s g ip td k).1) 14), .ref (m + 7), .int (((ordM s g ip td k).1) 16), .int (((ordM s g ip td k).1) 17), .ref (m + 8)])) ∧ τ9.2 (m + 8) = some (.inl (G.2.1 0, 300, .inl ((ordM s g ip td k).2))) ∧ ∀ q : Nat, ¬ q = m → ¬ q = (m + 8) → τ9.2 q = ω.2 q) 0 0 := by
  refine fw_ofW (cc := cX11_readsOrder) (maxL := 3) (ret := none) (by decide) rfl (Nat.le_of_ble_eq_true rfl) ?_
  intro pP eE sS mI ar9 bl9 meth cD ls hx hb hr hlocks hml hts hown hnm hW hR hl
  have hK := hL.K hW
  have hS : va_S (fwA G) sS.heap sS.heap [] := va_S.rf
  have hin11 : ∀ w ∈ u_ws RX11 TX11 19, w ∈ wsX11_readsOrder := by decide +kernel
  have hl : lv_has ls 3 [(0, .ref m), (1, .int (nI k))] := hl
  obtain ⟨ty, hty6, hty, htyc⟩ := okN_of hp.1
  obtain ⟨sp, hsp6, hspe, hspc⟩ := okN_of hp.2
  skip
  refine lv_aload_n hx hb dX11_readsOrder_0 rfl (lv_at hl 0 rfl) ?_
  refine fw_call (va_runV (As := []) (rest := []) ⟨hx, hb, hml, hown, hts⟩ (c_X11_here G hL l ω m s g m0 m1 ip m5 (PK_le hp (by omega))  ) (cwV 0 hts gX11_readsOrder_X11_here rfl rfl rfl (by decide +kernel) ⟨Nat.le_of_ble_eq_true rfl, Nat.le_of_ble_eq_true rfl⟩) (fw_preV hW hK hR m0 rfl) rfl rfl hl.1 rfl (lv_room (Nat.le_of_ble_eq_true rfl)) dX11_readsOrder_1 ⟨Nat.le_of_ble_eq_true rfl, Nat.le_of_ble_eq_true rfl⟩) hS (fun v_1 ω_2 H locs hq_3 hR hS => ?_)
  obtain ⟨rfl, hq_3⟩ := hq_3
  rw [hq_3] at hR
  refine W.eq (g2 := F0 mI 4 ls [.int (hereM s g ip)]) rfl ?_
  refine lv_istore_n (lv' := [(2, .int (hereM s g ip)), (0, .ref m), (1, .int (nI k))]) hx hb dX11_readsOrder_4 rfl hl (by decide) rfl (fun ls hl => ?_)
  refine lv_aload_n hx hb dX11_readsOrder_5 rfl (lv_at hl 1 rfl) ?_
  refine lv_dup hx hb dX11_readsOrder_6 rfl ?_
  refine fw_get (v := .int (s 16)) (C := RX11) (T := TX11) (N := 19) hx hb hts hin11 hown hK hR m0 rfl 16 (by decide) (hts (.fieldLink RX11 192 "UnreadLeafletsModel" "spot" "I") (by decide +kernel)) rfl dX11_readsOrder_7 ?_
  refine lv_iconst (v := 1) hx hb dX11_readsOrder_10 (by decide) ?_
  refine lv_iadd hx hb dX11_readsOrder_11 ?_
  refine fw_put (v := .int ((s 16) + 1)) (C := RX11) (T := TX11) (N := 19) hx hb hts hin11 tyX11 tyX11_ok nmX11 hown hK hR hS m0 rfl 16 (by decide) (hts (.fieldLink RX11 192 "UnreadLeafletsModel" "spot" "I") (by decide +kernel)) rfl rfl rfl (Nat.le_of_ble_eq_true rfl) dX11_readsOrder_12 (fun H locs hR hS => ?_)
  obtain ⟨ω_4, hw_5⟩ : ∃ τ : FWd, τ = (ω.1, va_up ω.2 m (some (.inr (13, [.ref (m + 1), .ref (m + 2), .ref (m + 3), .int ((upd s 16 ((s 16) + 1)) 3), .ref (m + 4), .int ((upd s 16 ((s 16) + 1)) 5), .ref (m + 5), .int ((upd s 16 ((s 16) + 1)) 7), .int ((upd s 16 ((s 16) + 1)) 8), .int ((upd s 16 ((s 16) + 1)) 9), .int ((upd s 16 ((s 16) + 1)) 10), .int ((upd s 16 ((s 16) + 1)) 11), .ref (m + 6), .int ((upd s 16 ((s 16) + 1)) 13), .int ((upd s 16 ((s 16) + 1)) 14), .ref (m + 7), .int ((upd s 16 ((s 16) + 1)) 16), .int ((upd s 16 ((s 16) + 1)) 17), .ref (m + 8)])))) := ⟨_, rfl⟩
  have hR : fR G ω_4 H := by rw [hw_5]; exact hR
  have f_6 : ω_4.2 m = some (.inr (13, [.ref (m + 1), .ref (m + 2), .ref (m + 3), .int ((upd s 16 ((s 16) + 1)) 3), .ref (m + 4), .int ((upd s 16 ((s 16) + 1)) 5), .ref (m + 5), .int ((upd s 16 ((s 16) + 1)) 7), .int ((upd s 16 ((s 16) + 1)) 8), .int ((upd s 16 ((s 16) + 1)) 9), .int ((upd s 16 ((s 16) + 1)) 10), .int ((upd s 16 ((s 16) + 1)) 11), .ref (m + 6), .int ((upd s 16 ((s 16) + 1)) 13), .int ((upd s 16 ((s 16) + 1)) 14), .ref (m + 7), .int ((upd s 16 ((s 16) + 1)) 16), .int ((upd s 16 ((s 16) + 1)) 17), .ref (m + 8)])) := by rw [hw_5]; exact va_up_at
  have fr_7 : ∀ q : Nat, ¬ q = m → ω_4.2 q = ω.2 q := fun q hq => by rw [hw_5]; exact va_up_off hq
  have z_8 : ω_4.1 = ω.1 := by rw [hw_5]
  refine lv_aload_n hx hb dX11_readsOrder_15 rfl (lv_at hl 1 rfl) ?_
  refine fw_get (v := .ref (m + 8)) (C := RX11) (T := TX11) (N := 19) hx hb hts hin11 hown hK hR f_6 rfl 18 (by decide) (hts (.fieldLink RX11 36 "UnreadLeafletsModel" "told" "[I") (by decide +kernel)) rfl dX11_readsOrder_16 ?_
  refine lv_iload_n hx hb dX11_readsOrder_19 rfl (lv_at hl 2 rfl) ?_
  refine lv_iload_n hx hb dX11_readsOrder_20 rfl (lv_at hl 0 rfl) ?_
  have f_9 : ω_4.2 (m + 8) = some (.inl (G.2.1 0, 300, .inl td)) := (fr_7 (m + 8) (by omega)).trans m8
  refine fw_iast hx hb hK hR hS f_9 (vp_in_nI (by omega) (by omega)) dX11_readsOrder_21 (fun H locs hR hS => ?_)
  rw [show (nI k).toNatClampNeg = k from nI_clamp (by omega)] at hR
  obtain ⟨ω_10, hw_11⟩ : ∃ τ : FWd, τ = (ω_4.1, va_up ω_4.2 (m + 8) (some (.inl (G.2.1 0, 300, .inl (upd td k (hereM s g ip)))))) := ⟨_, rfl⟩
  have hR : fR G ω_10 H := by rw [hw_11]; exact hR
  have f_12 : ω_10.2 (m + 8) = some (.inl (G.2.1 0, 300, .inl (upd td k (hereM s g ip)))) := by rw [hw_11]; exact va_up_at
  have fr_13 : ∀ q : Nat, ¬ q = (m + 8) → ω_10.2 q = ω_4.2 q := fun q hq => by rw [hw_11]; exact va_up_off hq
  have z_14 : ω_10.1 = ω_4.1 := by rw [hw_11]
  refine lv_iload_n hx hb dX11_readsOrder_22 rfl (lv_at hl 0 rfl) ?_
  by_cases c_15 : (hereM s g ip) = 83
  · skip
    refine lv_tableIn (off := 184) (tgt := 207) hx hb dX11_readsOrder_23 (by rw [c_15]; decide) (by rw [c_15]; decide) (by rw [c_15]; rfl) (by decide) ?_
    refine lv_aload_n hx hb dX11_readsOrder_207 rfl (lv_at hl 1 rfl) ?_
    refine lv_iload_n hx hb dX11_readsOrder_208 rfl (lv_at hl 2 rfl) ?_
    refine lv_bipush (v := 58) hx hb dX11_readsOrder_209 (by decide) ?_
    have f_16 : ω_10.2 m = some (.inr (13, [.ref (m + 1), .ref (m + 2), .ref (m + 3), .int ((upd s 16 ((s 16) + 1)) 3), .ref (m + 4), .int ((upd s 16 ((s 16) + 1)) 5), .ref (m + 5), .int ((upd s 16 ((s 16) + 1)) 7), .int ((upd s 16 ((s 16) + 1)) 8), .int ((upd s 16 ((s 16) + 1)) 9), .int ((upd s 16 ((s 16) + 1)) 10), .int ((upd s 16 ((s 16) + 1)) 11), .ref (m + 6), .int ((upd s 16 ((s 16) + 1)) 13), .int ((upd s 16 ((s 16) + 1)) 14), .ref (m + 7), .int ((upd s 16 ((s 16) + 1)) 16), .int ((upd s 16 ((s 16) + 1)) 17), .ref (m + 8)])) := (fr_13 m (by omega)).trans f_6
    have f_17 : ω_4.2 (m + 1) = some (.inl (G.2.1 0, 324, .inl g)) := (fr_7 (m + 1) (by omega)).trans m1
    have f_18 : ω_10.2 (m + 1) = some (.inl (G.2.1 0, 324, .inl g)) := (fr_13 (m + 1) (by omega)).trans f_17
    have f_19 : ω_4.2 (m + 5) = some (.inl (G.2.1 1, 60, .inl ip)) := (fr_7 (m + 5) (by omega)).trans m5
    have f_20 : ω_10.2 (m + 5) = some (.inl (G.2.1 1, 60, .inl ip)) := (fr_13 (m + 5) (by omega)).trans f_19
    refine fw_call (va_runV (As := [.int (nI k), .int 58]) (rest := []) ⟨hx, hb, hml, hown, hts⟩ (c_X11_readsPair G hL l ω_10 m (upd s 16 ((s 16) + 1)) g f_16 f_18 ip f_20 (upd td k (hereM s g ip)) f_12 (PK_le (PK_16 hp (by omega)) (by omega)) k 58 (by omega)) (cwV 2 hts gX11_readsOrder_X11_readsPair rfl rfl rfl (by decide +kernel) ⟨Nat.le_of_ble_eq_true rfl, Nat.le_of_ble_eq_true rfl⟩) (fw_preV hW hK hR f_16 rfl) rfl rfl hl.1 rfl (lv_room (Nat.le_of_ble_eq_true rfl)) dX11_readsOrder_211 ⟨Nat.le_of_ble_eq_true rfl, Nat.le_of_ble_eq_true rfl⟩) hS (fun v_21 ω_22 H locs hq_23 hR hS => ?_)
    obtain ⟨rfl, z_24, f_26, f_27, fr_25⟩ := hq_23
    refine W.eq (g2 := F0 mI 214 ls []) rfl ?_
    obtain ⟨z_28, es_z_28⟩ : ∃ z : Nat → Int32, z = (pairM (upd s 16 ((s 16) + 1)) g ip (upd td k (hereM s g ip)) k 58).1 := ⟨_, rfl⟩
    have f_29 : ω_22.2 m = some (.inr (13, [.ref (m + 1), .ref (m + 2), .ref (m + 3), .int (z_28 3), .ref (m + 4), .int (z_28 5), .ref (m + 5), .int (z_28 7), .int (z_28 8), .int (z_28 9), .int (z_28 10), .int (z_28 11), .ref (m + 6), .int (z_28 13), .int (z_28 14), .ref (m + 7), .int (z_28 16), .int (z_28 17), .ref (m + 8)])) := by rw [es_z_28]; exact f_26
    have pk_z_28 : PK z_28 564 := by rw [es_z_28]; exact (pairM_pk (PK_16 hp (by omega)) (by omega))
    obtain ⟨z_30, es_z_30⟩ : ∃ z : Nat → Int32, z = (pairM (upd s 16 ((s 16) + 1)) g ip (upd td k (hereM s g ip)) k 58).2 := ⟨_, rfl⟩
    have f_31 : ω_22.2 (m + 8) = some (.inl (G.2.1 0, 300, .inl z_30)) := by rw [es_z_30]; exact f_27
    refine lv_aload_n hx hb dX11_readsOrder_214 rfl (lv_at hl 1 rfl) ?_
    refine lv_bipush (v := 42) hx hb dX11_readsOrder_215 (by decide) ?_
    have f_32 : ω_22.2 (m + 1) = some (.inl (G.2.1 0, 324, .inl g)) := (fr_25 (m + 1) (by omega) (by omega)).trans f_18
    have f_33 : ω_22.2 (m + 5) = some (.inl (G.2.1 1, 60, .inl ip)) := (fr_25 (m + 5) (by omega) (by omega)).trans f_20
    refine fw_call (va_runV (As := [.int 42]) (rest := []) ⟨hx, hb, hml, hown, hts⟩ (c_X11_needsSign G hL l ω_22 m z_28 g f_29 f_32 ip f_33 (PK_le pk_z_28 (by omega)) 42 ) (cwV 1 hts gX11_readsOrder_X11_needsSign rfl rfl rfl (by decide +kernel) ⟨Nat.le_of_ble_eq_true rfl, Nat.le_of_ble_eq_true rfl⟩) (fw_preV hW hK hR f_29 rfl) rfl rfl hl.1 rfl (lv_room (Nat.le_of_ble_eq_true rfl)) dX11_readsOrder_217 ⟨Nat.le_of_ble_eq_true rfl, Nat.le_of_ble_eq_true rfl⟩) hS (fun v_34 ω_35 H locs hq_36 hR hS => ?_)
    obtain ⟨rfl, z_37, f_39, fr_38⟩ := hq_36
    refine W.eq (g2 := F0 mI 220 ls []) rfl ?_
    obtain ⟨z_40, es_z_40⟩ : ∃ z : Nat → Int32, z = needsM z_28 g ip 42 := ⟨_, rfl⟩
    have f_41 : ω_35.2 m = some (.inr (13, [.ref (m + 1), .ref (m + 2), .ref (m + 3), .int (z_40 3), .ref (m + 4), .int (z_40 5), .ref (m + 5), .int (z_40 7), .int (z_40 8), .int (z_40 9), .int (z_40 10), .int (z_40 11), .ref (m + 6), .int (z_40 13), .int (z_40 14), .ref (m + 7), .int (z_40 16), .int (z_40 17), .ref (m + 8)])) := by rw [es_z_40]; exact f_39
    have pk_z_40 : PK z_40 565 := by rw [es_z_40]; exact (needsM_pk pk_z_28 (by omega))
    refine lv_aload_n hx hb dX11_readsOrder_220 rfl (lv_at hl 1 rfl) ?_
    refine fw_get (v := .ref (m + 8)) (C := RX11) (T := TX11) (N := 19) hx hb hts hin11 hown hK hR f_41 rfl 18 (by decide) (hts (.fieldLink RX11 36 "UnreadLeafletsModel" "told" "[I") (by decide +kernel)) rfl dX11_readsOrder_221 ?_
    refine lv_iload_n hx hb dX11_readsOrder_224 rfl (lv_at hl 2 rfl) ?_
    refine lv_iconst (v := 3) hx hb dX11_readsOrder_225 (by decide) ?_
    refine lv_iadd hx hb dX11_readsOrder_226 ?_
    refine lv_aload_n hx hb dX11_readsOrder_227 rfl (lv_at hl 1 rfl) ?_
    have f_42 : ω_35.2 (m + 1) = some (.inl (G.2.1 0, 324, .inl g)) := (fr_38 (m + 1) (by omega)).trans f_32
    have f_43 : ω_35.2 (m + 5) = some (.inl (G.2.1 1, 60, .inl ip)) := (fr_38 (m + 5) (by omega)).trans f_33
    refine fw_call (va_runV (As := []) (rest := [.int ((nI k) + 3), .ref (m + 8)]) ⟨hx, hb, hml, hown, hts⟩ (c_X11_figure G hL l ω_35 m z_40 g f_41 f_42 ip f_43 (PK_le pk_z_40 (by omega))  ) (cwV 0 hts gX11_readsOrder_X11_figure rfl rfl rfl (by decide +kernel) ⟨Nat.le_of_ble_eq_true rfl, Nat.le_of_ble_eq_true rfl⟩) (fw_preV hW hK hR f_41 rfl) rfl rfl hl.1 rfl (lv_room (Nat.le_of_ble_eq_true rfl)) dX11_readsOrder_228 ⟨Nat.le_of_ble_eq_true rfl, Nat.le_of_ble_eq_true rfl⟩) hS (fun v_44 ω_45 H locs hq_46 hR hS => ?_)
    obtain ⟨rfl, z_47, f_49, fr_48⟩ := hq_46
    refine W.eq (g2 := F0 mI 231 ls [.int ((figM z_40 g ip).1), .int ((nI k) + 3), .ref (m + 8)]) rfl ?_
    obtain ⟨z_50, es_z_50⟩ : ∃ z : Nat → Int32, z = (figM z_40 g ip).2 := ⟨_, rfl⟩
    have f_51 : ω_45.2 m = some (.inr (13, [.ref (m + 1), .ref (m + 2), .ref (m + 3), .int (z_50 3), .ref (m + 4), .int (z_50 5), .ref (m + 5), .int (z_50 7), .int (z_50 8), .int (z_50 9), .int (z_50 10), .int (z_50 11), .ref (m + 6), .int (z_50 13), .int (z_50 14), .ref (m + 7), .int (z_50 16), .int (z_50 17), .ref (m + 8)])) := by rw [es_z_50]; exact f_49
    have pk_z_50 : PK z_50 566 := by rw [es_z_50]; exact (figM_pk pk_z_40 (by omega))
    have hi_52 : (nI k) + 3 = nI (k + 3) := by
      show (nI k) + (nI 3) = _
      simp only [pk_mul, nI_add, Nat.add_assoc]
    refine W.eq (g2 := F0 mI 231 ls [.int ((figM z_40 g ip).1), .int (nI (k + 3)), .ref (m + 8)]) (by rw [hi_52]) ?_
    have f_53 : ω_35.2 (m + 8) = some (.inl (G.2.1 0, 300, .inl z_30)) := (fr_38 (m + 8) (by omega)).trans f_31
    have f_54 : ω_45.2 (m + 8) = some (.inl (G.2.1 0, 300, .inl z_30)) := (fr_48 (m + 8) (by omega)).trans f_53
    refine fw_iast hx hb hK hR hS f_54 (vp_in_nI (by omega) (by omega)) dX11_readsOrder_231 (fun H locs hR hS => ?_)
    rw [show (nI (k + 3)).toNatClampNeg = k + 3 from nI_clamp (by omega)] at hR
    obtain ⟨ω_55, hw_56⟩ : ∃ τ : FWd, τ = (ω_45.1, va_up ω_45.2 (m + 8) (some (.inl (G.2.1 0, 300, .inl (upd z_30 (k + 3) ((figM z_40 g ip).1)))))) := ⟨_, rfl⟩
    have hR : fR G ω_55 H := by rw [hw_56]; exact hR
    have f_57 : ω_55.2 (m + 8) = some (.inl (G.2.1 0, 300, .inl (upd z_30 (k + 3) ((figM z_40 g ip).1)))) := by rw [hw_56]; exact va_up_at
    have fr_58 : ∀ q : Nat, ¬ q = (m + 8) → ω_55.2 q = ω_45.2 q := fun q hq => by rw [hw_56]; exact va_up_off hq
    have z_59 : ω_55.1 = ω_45.1 := by rw [hw_56]
    refine lv_aload_n hx hb dX11_readsOrder_232 rfl (lv_at hl 1 rfl) ?_
    refine lv_bipush (v := 61) hx hb dX11_readsOrder_233 (by decide) ?_
    have f_60 : ω_55.2 m = some (.inr (13, [.ref (m + 1), .ref (m + 2), .ref (m + 3), .int (z_50 3), .ref (m + 4), .int (z_50 5), .ref (m + 5), .int (z_50 7), .int (z_50 8), .int (z_50 9), .int (z_50 10), .int (z_50 11), .ref (m + 6), .int (z_50 13), .int (z_50 14), .ref (m + 7), .int (z_50 16), .int (z_50 17), .ref (m + 8)])) := (fr_58 m (by omega)).trans f_51
    have f_61 : ω_45.2 (m + 1) = some (.inl (G.2.1 0, 324, .inl g)) := (fr_48 (m + 1) (by omega)).trans f_42
    have f_62 : ω_55.2 (m + 1) = some (.inl (G.2.1 0, 324, .inl g)) := (fr_58 (m + 1) (by omega)).trans f_61
    have f_63 : ω_45.2 (m + 5) = some (.inl (G.2.1 1, 60, .inl ip)) := (fr_48 (m + 5) (by omega)).trans f_43
    have f_64 : ω_55.2 (m + 5) = some (.inl (G.2.1 1, 60, .inl ip)) := (fr_58 (m + 5) (by omega)).trans f_63
    refine fw_call (va_runV (As := [.int 61]) (rest := []) ⟨hx, hb, hml, hown, hts⟩ (c_X11_needsSign G hL l ω_55 m z_50 g f_60 f_62 ip f_64 (PK_le pk_z_50 (by omega)) 61 ) (cwV 1 hts gX11_readsOrder_X11_needsSign rfl rfl rfl (by decide +kernel) ⟨Nat.le_of_ble_eq_true rfl, Nat.le_of_ble_eq_true rfl⟩) (fw_preV hW hK hR f_60 rfl) rfl rfl hl.1 rfl (lv_room (Nat.le_of_ble_eq_true rfl)) dX11_readsOrder_235 ⟨Nat.le_of_ble_eq_true rfl, Nat.le_of_ble_eq_true rfl⟩) hS (fun v_65 ω_66 H locs hq_67 hR hS => ?_)
    obtain ⟨rfl, z_68, f_70, fr_69⟩ := hq_67
    refine W.eq (g2 := F0 mI 238 ls []) rfl ?_
    obtain ⟨z_71, es_z_71⟩ : ∃ z : Nat → Int32, z = needsM z_50 g ip 61 := ⟨_, rfl⟩
    have f_72 : ω_66.2 m = some (.inr (13, [.ref (m + 1), .ref (m + 2), .ref (m + 3), .int (z_71 3), .ref (m + 4), .int (z_71 5), .ref (m + 5), .int (z_71 7), .int (z_71 8), .int (z_71 9), .int (z_71 10), .int (z_71 11), .ref (m + 6), .int (z_71 13), .int (z_71 14), .ref (m + 7), .int (z_71 16), .int (z_71 17), .ref (m + 8)])) := by rw [es_z_71]; exact f_70
    have pk_z_71 : PK z_71 567 := by rw [es_z_71]; exact (needsM_pk pk_z_50 (by omega))
    refine lv_aload_n hx hb dX11_readsOrder_238 rfl (lv_at hl 1 rfl) ?_
    refine fw_get (v := .ref (m + 8)) (C := RX11) (T := TX11) (N := 19) hx hb hts hin11 hown hK hR f_72 rfl 18 (by decide) (hts (.fieldLink RX11 36 "UnreadLeafletsModel" "told" "[I") (by decide +kernel)) rfl dX11_readsOrder_239 ?_
    refine lv_iload_n hx hb dX11_readsOrder_242 rfl (lv_at hl 2 rfl) ?_
    refine lv_iconst (v := 4) hx hb dX11_readsOrder_243 (by decide) ?_
    refine lv_iadd hx hb dX11_readsOrder_244 ?_
    refine lv_aload_n hx hb dX11_readsOrder_245 rfl (lv_at hl 1 rfl) ?_
    refine lv_iconst (v := 1) hx hb dX11_readsOrder_246 (by decide) ?_
    have f_73 : ω_66.2 (m + 1) = some (.inl (G.2.1 0, 324, .inl g)) := (fr_69 (m + 1) (by omega)).trans f_62
    have f_74 : ω_66.2 (m + 5) = some (.inl (G.2.1 1, 60, .inl ip)) := (fr_69 (m + 5) (by omega)).trans f_64
    refine fw_call (va_runV (As := [.int 1]) (rest := [.int ((nI k) + 4), .ref (m + 8)]) ⟨hx, hb, hml, hown, hts⟩ (c_X11_tongues G hL l ω_66 m z_71 g f_72 f_73 ip f_74 (PK_le pk_z_71 (by omega)) 1) (cwV 1 hts gX11_readsOrder_X11_tongues rfl rfl rfl (by decide +kernel) ⟨Nat.le_of_ble_eq_true rfl, Nat.le_of_ble_eq_true rfl⟩) (fw_preV hW hK hR f_72 rfl) rfl rfl hl.1 rfl (lv_room (Nat.le_of_ble_eq_true rfl)) dX11_readsOrder_247 ⟨Nat.le_of_ble_eq_true rfl, Nat.le_of_ble_eq_true rfl⟩) hS (fun v_75 ω_76 H locs hq_77 hR hS => ?_)
    obtain ⟨rfl, z_78, f_80, fr_79⟩ := hq_77
    refine W.eq (g2 := F0 mI 250 ls [.int ((tonM z_71 g ip 1).1), .int ((nI k) + 4), .ref (m + 8)]) rfl ?_
    obtain ⟨z_81, es_z_81⟩ : ∃ z : Nat → Int32, z = (tonM z_71 g ip 1).2 := ⟨_, rfl⟩
    have f_82 : ω_76.2 m = some (.inr (13, [.ref (m + 1), .ref (m + 2), .ref (m + 3), .int (z_81 3), .ref (m + 4), .int (z_81 5), .ref (m + 5), .int (z_81 7), .int (z_81 8), .int (z_81 9), .int (z_81 10), .int (z_81 11), .ref (m + 6), .int (z_81 13), .int (z_81 14), .ref (m + 7), .int (z_81 16), .int (z_81 17), .ref (m + 8)])) := by rw [es_z_81]; exact f_80
    have pk_z_81 : PK z_81 572 := by rw [es_z_81]; exact (tonM_pk pk_z_71 (by omega))
    have hi_83 : (nI k) + 4 = nI (k + 4) := by
      show (nI k) + (nI 4) = _
      simp only [pk_mul, nI_add, Nat.add_assoc]
    refine W.eq (g2 := F0 mI 250 ls [.int ((tonM z_71 g ip 1).1), .int (nI (k + 4)), .ref (m + 8)]) (by rw [hi_83]) ?_
    have f_84 : ω_66.2 (m + 8) = some (.inl (G.2.1 0, 300, .inl (upd z_30 (k + 3) ((figM z_40 g ip).1)))) := (fr_69 (m + 8) (by omega)).trans f_57
    have f_85 : ω_76.2 (m + 8) = some (.inl (G.2.1 0, 300, .inl (upd z_30 (k + 3) ((figM z_40 g ip).1)))) := (fr_79 (m + 8) (by omega)).trans f_84
    refine fw_iast hx hb hK hR hS f_85 (vp_in_nI (by omega) (by omega)) dX11_readsOrder_250 (fun H locs hR hS => ?_)
    rw [show (nI (k + 4)).toNatClampNeg = k + 4 from nI_clamp (by omega)] at hR
    obtain ⟨ω_86, hw_87⟩ : ∃ τ : FWd, τ = (ω_76.1, va_up ω_76.2 (m + 8) (some (.inl (G.2.1 0, 300, .inl (upd (upd z_30 (k + 3) ((figM z_40 g ip).1)) (k + 4) ((tonM z_71 g ip 1).1)))))) := ⟨_, rfl⟩
    have hR : fR G ω_86 H := by rw [hw_87]; exact hR
    have f_88 : ω_86.2 (m + 8) = some (.inl (G.2.1 0, 300, .inl (upd (upd z_30 (k + 3) ((figM z_40 g ip).1)) (k + 4) ((tonM z_71 g ip 1).1)))) := by rw [hw_87]; exact va_up_at
    have fr_89 : ∀ q : Nat, ¬ q = (m + 8) → ω_86.2 q = ω_76.2 q := fun q hq => by rw [hw_87]; exact va_up_off hq
    have z_90 : ω_86.1 = ω_76.1 := by rw [hw_87]
    refine lv_goto (tgt := 343) hx hb dX11_readsOrder_251 (by decide) ?_
    have f_91 : ω_86.2 m = some (.inr (13, [.ref (m + 1), .ref (m + 2), .ref (m + 3), .int (z_81 3), .ref (m + 4), .int (z_81 5), .ref (m + 5), .int (z_81 7), .int (z_81 8), .int (z_81 9), .int (z_81 10), .int (z_81 11), .ref (m + 6), .int (z_81 13), .int (z_81 14), .ref (m + 7), .int (z_81 16), .int (z_81 17), .ref (m + 8)])) := (fr_89 m (by omega)).trans f_82
    have fr_92 : ∀ q : Nat, ¬ q = m → ¬ q = (m + 8) → ω_86.2 q = ω.2 q := by
      intro q h0 h1
      rw [fr_89 q (by omega)]
      rw [fr_79 q (by omega)]
      rw [fr_69 q (by omega)]
      rw [fr_58 q (by omega)]
      rw [fr_48 q (by omega)]
      rw [fr_38 q (by omega)]
      rw [fr_25 q (by omega) (by omega)]
      rw [fr_13 q (by omega)]
      rw [fr_7 q (by omega)]
    have z_93 : ω_86.1 = ω.1 := by rw [z_90, z_78, z_68, z_59, z_47, z_37, z_24, z_14, z_8]
    have hr_94 : ordM s g ip td k = ((z_81, (upd (upd z_30 (k + 3) ((figM z_40 g ip).1)) (k + 4) ((tonM z_71 g ip 1).1))) : (Nat → Int32) × (Nat → Int32)) := by
      subst es_z_81 es_z_71 es_z_50 es_z_40 es_z_30 es_z_28
      simp only [ordM]
      rw [if_pos c_15]
    refine fw_vret hx hb hr hlocks hR hS dX11_readsOrder_343 ?_
    rw [hr_94]
    exact ⟨rfl, z_93, f_91, f_88, fr_92⟩
  by_cases c_95 : (hereM s g ip) = 98
  · skip
    refine lv_tableIn (off := 265) (tgt := 288) hx hb dX11_readsOrder_23 (by rw [c_95]; decide) (by rw [c_95]; decide) (by rw [c_95]; rfl) (by decide) ?_
    refine lv_aload_n hx hb dX11_readsOrder_288 rfl (lv_at hl 1 rfl) ?_
    refine lv_iload_n hx hb dX11_readsOrder_289 rfl (lv_at hl 2 rfl) ?_
    refine lv_bipush (v := 62) hx hb dX11_readsOrder_290 (by decide) ?_
    have f_96 : ω_10.2 m = some (.inr (13, [.ref (m + 1), .ref (m + 2), .ref (m + 3), .int ((upd s 16 ((s 16) + 1)) 3), .ref (m + 4), .int ((upd s 16 ((s 16) + 1)) 5), .ref (m + 5), .int ((upd s 16 ((s 16) + 1)) 7), .int ((upd s 16 ((s 16) + 1)) 8), .int ((upd s 16 ((s 16) + 1)) 9), .int ((upd s 16 ((s 16) + 1)) 10), .int ((upd s 16 ((s 16) + 1)) 11), .ref (m + 6), .int ((upd s 16 ((s 16) + 1)) 13), .int ((upd s 16 ((s 16) + 1)) 14), .ref (m + 7), .int ((upd s 16 ((s 16) + 1)) 16), .int ((upd s 16 ((s 16) + 1)) 17), .ref (m + 8)])) := (fr_13 m (by omega)).trans f_6
    have f_97 : ω_4.2 (m + 1) = some (.inl (G.2.1 0, 324, .inl g)) := (fr_7 (m + 1) (by omega)).trans m1
    have f_98 : ω_10.2 (m + 1) = some (.inl (G.2.1 0, 324, .inl g)) := (fr_13 (m + 1) (by omega)).trans f_97
    have f_99 : ω_4.2 (m + 5) = some (.inl (G.2.1 1, 60, .inl ip)) := (fr_7 (m + 5) (by omega)).trans m5
    have f_100 : ω_10.2 (m + 5) = some (.inl (G.2.1 1, 60, .inl ip)) := (fr_13 (m + 5) (by omega)).trans f_99
    refine fw_call (va_runV (As := [.int (nI k), .int 62]) (rest := []) ⟨hx, hb, hml, hown, hts⟩ (c_X11_readsPair G hL l ω_10 m (upd s 16 ((s 16) + 1)) g f_96 f_98 ip f_100 (upd td k (hereM s g ip)) f_12 (PK_le (PK_16 hp (by omega)) (by omega)) k 62 (by omega)) (cwV 2 hts gX11_readsOrder_X11_readsPair rfl rfl rfl (by decide +kernel) ⟨Nat.le_of_ble_eq_true rfl, Nat.le_of_ble_eq_true rfl⟩) (fw_preV hW hK hR f_96 rfl) rfl rfl hl.1 rfl (lv_room (Nat.le_of_ble_eq_true rfl)) dX11_readsOrder_292 ⟨Nat.le_of_ble_eq_true rfl, Nat.le_of_ble_eq_true rfl⟩) hS (fun v_101 ω_102 H locs hq_103 hR hS => ?_)
    obtain ⟨rfl, z_104, f_106, f_107, fr_105⟩ := hq_103
    refine W.eq (g2 := F0 mI 295 ls []) rfl ?_
    obtain ⟨z_108, es_z_108⟩ : ∃ z : Nat → Int32, z = (pairM (upd s 16 ((s 16) + 1)) g ip (upd td k (hereM s g ip)) k 62).1 := ⟨_, rfl⟩
    have f_109 : ω_102.2 m = some (.inr (13, [.ref (m + 1), .ref (m + 2), .ref (m + 3), .int (z_108 3), .ref (m + 4), .int (z_108 5), .ref (m + 5), .int (z_108 7), .int (z_108 8), .int (z_108 9), .int (z_108 10), .int (z_108 11), .ref (m + 6), .int (z_108 13), .int (z_108 14), .ref (m + 7), .int (z_108 16), .int (z_108 17), .ref (m + 8)])) := by rw [es_z_108]; exact f_106
    have pk_z_108 : PK z_108 564 := by rw [es_z_108]; exact (pairM_pk (PK_16 hp (by omega)) (by omega))
    obtain ⟨z_110, es_z_110⟩ : ∃ z : Nat → Int32, z = (pairM (upd s 16 ((s 16) + 1)) g ip (upd td k (hereM s g ip)) k 62).2 := ⟨_, rfl⟩
    have f_111 : ω_102.2 (m + 8) = some (.inl (G.2.1 0, 300, .inl z_110)) := by rw [es_z_110]; exact f_107
    refine lv_goto (tgt := 343) hx hb dX11_readsOrder_295 (by decide) ?_
    have fr_112 : ∀ q : Nat, ¬ q = m → ¬ q = (m + 8) → ω_102.2 q = ω.2 q := by
      intro q h0 h1
      rw [fr_105 q (by omega) (by omega)]
      rw [fr_13 q (by omega)]
      rw [fr_7 q (by omega)]
    have z_113 : ω_102.1 = ω.1 := by rw [z_104, z_14, z_8]
    have hr_114 : ordM s g ip td k = ((z_108, z_110) : (Nat → Int32) × (Nat → Int32)) := by
      subst es_z_110 es_z_108
      simp only [ordM]
      rw [if_neg c_15, if_pos c_95]
    refine fw_vret hx hb hr hlocks hR hS dX11_readsOrder_343 ?_
    rw [hr_114]
    exact ⟨rfl, z_113, f_109, f_111, fr_112⟩
  by_cases c_115 : (hereM s g ip) = 99
  · skip
    refine lv_tableIn (off := 231) (tgt := 254) hx hb dX11_readsOrder_23 (by rw [c_115]; decide) (by rw [c_115]; decide) (by rw [c_115]; rfl) (by decide) ?_
    refine lv_aload_n hx hb dX11_readsOrder_254 rfl (lv_at hl 1 rfl) ?_
    have f_116 : ω_10.2 m = some (.inr (13, [.ref (m + 1), .ref (m + 2), .ref (m + 3), .int ((upd s 16 ((s 16) + 1)) 3), .ref (m + 4), .int ((upd s 16 ((s 16) + 1)) 5), .ref (m + 5), .int ((upd s 16 ((s 16) + 1)) 7), .int ((upd s 16 ((s 16) + 1)) 8), .int ((upd s 16 ((s 16) + 1)) 9), .int ((upd s 16 ((s 16) + 1)) 10), .int ((upd s 16 ((s 16) + 1)) 11), .ref (m + 6), .int ((upd s 16 ((s 16) + 1)) 13), .int ((upd s 16 ((s 16) + 1)) 14), .ref (m + 7), .int ((upd s 16 ((s 16) + 1)) 16), .int ((upd s 16 ((s 16) + 1)) 17), .ref (m + 8)])) := (fr_13 m (by omega)).trans f_6
    refine fw_get (v := .ref (m + 8)) (C := RX11) (T := TX11) (N := 19) hx hb hts hin11 hown hK hR f_116 rfl 18 (by decide) (hts (.fieldLink RX11 36 "UnreadLeafletsModel" "told" "[I") (by decide +kernel)) rfl dX11_readsOrder_255 ?_
    refine lv_iload_n hx hb dX11_readsOrder_258 rfl (lv_at hl 2 rfl) ?_
    refine lv_iconst (v := 1) hx hb dX11_readsOrder_259 (by decide) ?_
    refine lv_iadd hx hb dX11_readsOrder_260 ?_
    refine lv_aload_n hx hb dX11_readsOrder_261 rfl (lv_at hl 1 rfl) ?_
    have f_117 : ω_4.2 (m + 1) = some (.inl (G.2.1 0, 324, .inl g)) := (fr_7 (m + 1) (by omega)).trans m1
    have f_118 : ω_10.2 (m + 1) = some (.inl (G.2.1 0, 324, .inl g)) := (fr_13 (m + 1) (by omega)).trans f_117
    have f_119 : ω_4.2 (m + 5) = some (.inl (G.2.1 1, 60, .inl ip)) := (fr_7 (m + 5) (by omega)).trans m5
    have f_120 : ω_10.2 (m + 5) = some (.inl (G.2.1 1, 60, .inl ip)) := (fr_13 (m + 5) (by omega)).trans f_119
    refine fw_call (va_runV (As := []) (rest := [.int ((nI k) + 1), .ref (m + 8)]) ⟨hx, hb, hml, hown, hts⟩ (c_X11_figure G hL l ω_10 m (upd s 16 ((s 16) + 1)) g f_116 f_118 ip f_120 (PK_le (PK_16 hp (by omega)) (by omega))  ) (cwV 0 hts gX11_readsOrder_X11_figure rfl rfl rfl (by decide +kernel) ⟨Nat.le_of_ble_eq_true rfl, Nat.le_of_ble_eq_true rfl⟩) (fw_preV hW hK hR f_116 rfl) rfl rfl hl.1 rfl (lv_room (Nat.le_of_ble_eq_true rfl)) dX11_readsOrder_262 ⟨Nat.le_of_ble_eq_true rfl, Nat.le_of_ble_eq_true rfl⟩) hS (fun v_121 ω_122 H locs hq_123 hR hS => ?_)
    obtain ⟨rfl, z_124, f_126, fr_125⟩ := hq_123
    refine W.eq (g2 := F0 mI 265 ls [.int ((figM (upd s 16 ((s 16) + 1)) g ip).1), .int ((nI k) + 1), .ref (m + 8)]) rfl ?_
    obtain ⟨z_127, es_z_127⟩ : ∃ z : Nat → Int32, z = (figM (upd s 16 ((s 16) + 1)) g ip).2 := ⟨_, rfl⟩
    have f_128 : ω_122.2 m = some (.inr (13, [.ref (m + 1), .ref (m + 2), .ref (m + 3), .int (z_127 3), .ref (m + 4), .int (z_127 5), .ref (m + 5), .int (z_127 7), .int (z_127 8), .int (z_127 9), .int (z_127 10), .int (z_127 11), .ref (m + 6), .int (z_127 13), .int (z_127 14), .ref (m + 7), .int (z_127 16), .int (z_127 17), .ref (m + 8)])) := by rw [es_z_127]; exact f_126
    have pk_z_127 : PK z_127 562 := by rw [es_z_127]; exact (figM_pk (PK_16 hp (by omega)) (by omega))
    have hi_129 : (nI k) + 1 = nI (k + 1) := by
      show (nI k) + (nI 1) = _
      simp only [pk_mul, nI_add, Nat.add_assoc]
    refine W.eq (g2 := F0 mI 265 ls [.int ((figM (upd s 16 ((s 16) + 1)) g ip).1), .int (nI (k + 1)), .ref (m + 8)]) (by rw [hi_129]) ?_
    have f_130 : ω_122.2 (m + 8) = some (.inl (G.2.1 0, 300, .inl (upd td k (hereM s g ip)))) := (fr_125 (m + 8) (by omega)).trans f_12
    refine fw_iast hx hb hK hR hS f_130 (vp_in_nI (by omega) (by omega)) dX11_readsOrder_265 (fun H locs hR hS => ?_)
    rw [show (nI (k + 1)).toNatClampNeg = k + 1 from nI_clamp (by omega)] at hR
    obtain ⟨ω_131, hw_132⟩ : ∃ τ : FWd, τ = (ω_122.1, va_up ω_122.2 (m + 8) (some (.inl (G.2.1 0, 300, .inl (upd (upd td k (hereM s g ip)) (k + 1) ((figM (upd s 16 ((s 16) + 1)) g ip).1)))))) := ⟨_, rfl⟩
    have hR : fR G ω_131 H := by rw [hw_132]; exact hR
    have f_133 : ω_131.2 (m + 8) = some (.inl (G.2.1 0, 300, .inl (upd (upd td k (hereM s g ip)) (k + 1) ((figM (upd s 16 ((s 16) + 1)) g ip).1)))) := by rw [hw_132]; exact va_up_at
    have fr_134 : ∀ q : Nat, ¬ q = (m + 8) → ω_131.2 q = ω_122.2 q := fun q hq => by rw [hw_132]; exact va_up_off hq
    have z_135 : ω_131.1 = ω_122.1 := by rw [hw_132]
    refine lv_aload_n hx hb dX11_readsOrder_266 rfl (lv_at hl 1 rfl) ?_
    refine lv_bipush (v := 61) hx hb dX11_readsOrder_267 (by decide) ?_
    have f_136 : ω_131.2 m = some (.inr (13, [.ref (m + 1), .ref (m + 2), .ref (m + 3), .int (z_127 3), .ref (m + 4), .int (z_127 5), .ref (m + 5), .int (z_127 7), .int (z_127 8), .int (z_127 9), .int (z_127 10), .int (z_127 11), .ref (m + 6), .int (z_127 13), .int (z_127 14), .ref (m + 7), .int (z_127 16), .int (z_127 17), .ref (m + 8)])) := (fr_134 m (by omega)).trans f_128
    have f_137 : ω_122.2 (m + 1) = some (.inl (G.2.1 0, 324, .inl g)) := (fr_125 (m + 1) (by omega)).trans f_118
    have f_138 : ω_131.2 (m + 1) = some (.inl (G.2.1 0, 324, .inl g)) := (fr_134 (m + 1) (by omega)).trans f_137
    have f_139 : ω_122.2 (m + 5) = some (.inl (G.2.1 1, 60, .inl ip)) := (fr_125 (m + 5) (by omega)).trans f_120
    have f_140 : ω_131.2 (m + 5) = some (.inl (G.2.1 1, 60, .inl ip)) := (fr_134 (m + 5) (by omega)).trans f_139
    refine fw_call (va_runV (As := [.int 61]) (rest := []) ⟨hx, hb, hml, hown, hts⟩ (c_X11_needsSign G hL l ω_131 m z_127 g f_136 f_138 ip f_140 (PK_le pk_z_127 (by omega)) 61 ) (cwV 1 hts gX11_readsOrder_X11_needsSign rfl rfl rfl (by decide +kernel) ⟨Nat.le_of_ble_eq_true rfl, Nat.le_of_ble_eq_true rfl⟩) (fw_preV hW hK hR f_136 rfl) rfl rfl hl.1 rfl (lv_room (Nat.le_of_ble_eq_true rfl)) dX11_readsOrder_269 ⟨Nat.le_of_ble_eq_true rfl, Nat.le_of_ble_eq_true rfl⟩) hS (fun v_141 ω_142 H locs hq_143 hR hS => ?_)
    obtain ⟨rfl, z_144, f_146, fr_145⟩ := hq_143
    refine W.eq (g2 := F0 mI 272 ls []) rfl ?_
    obtain ⟨z_147, es_z_147⟩ : ∃ z : Nat → Int32, z = needsM z_127 g ip 61 := ⟨_, rfl⟩
    have f_148 : ω_142.2 m = some (.inr (13, [.ref (m + 1), .ref (m + 2), .ref (m + 3), .int (z_147 3), .ref (m + 4), .int (z_147 5), .ref (m + 5), .int (z_147 7), .int (z_147 8), .int (z_147 9), .int (z_147 10), .int (z_147 11), .ref (m + 6), .int (z_147 13), .int (z_147 14), .ref (m + 7), .int (z_147 16), .int (z_147 17), .ref (m + 8)])) := by rw [es_z_147]; exact f_146
    have pk_z_147 : PK z_147 563 := by rw [es_z_147]; exact (needsM_pk pk_z_127 (by omega))
    refine lv_aload_n hx hb dX11_readsOrder_272 rfl (lv_at hl 1 rfl) ?_
    refine fw_get (v := .ref (m + 8)) (C := RX11) (T := TX11) (N := 19) hx hb hts hin11 hown hK hR f_148 rfl 18 (by decide) (hts (.fieldLink RX11 36 "UnreadLeafletsModel" "told" "[I") (by decide +kernel)) rfl dX11_readsOrder_273 ?_
    refine lv_iload_n hx hb dX11_readsOrder_276 rfl (lv_at hl 2 rfl) ?_
    refine lv_iconst (v := 2) hx hb dX11_readsOrder_277 (by decide) ?_
    refine lv_iadd hx hb dX11_readsOrder_278 ?_
    refine lv_aload_n hx hb dX11_readsOrder_279 rfl (lv_at hl 1 rfl) ?_
    refine lv_iconst (v := 0) hx hb dX11_readsOrder_280 (by decide) ?_
    have f_149 : ω_142.2 (m + 1) = some (.inl (G.2.1 0, 324, .inl g)) := (fr_145 (m + 1) (by omega)).trans f_138
    have f_150 : ω_142.2 (m + 5) = some (.inl (G.2.1 1, 60, .inl ip)) := (fr_145 (m + 5) (by omega)).trans f_140
    refine fw_call (va_runV (As := [.int 0]) (rest := [.int ((nI k) + 2), .ref (m + 8)]) ⟨hx, hb, hml, hown, hts⟩ (c_X11_tongues G hL l ω_142 m z_147 g f_148 f_149 ip f_150 (PK_le pk_z_147 (by omega)) 0) (cwV 1 hts gX11_readsOrder_X11_tongues rfl rfl rfl (by decide +kernel) ⟨Nat.le_of_ble_eq_true rfl, Nat.le_of_ble_eq_true rfl⟩) (fw_preV hW hK hR f_148 rfl) rfl rfl hl.1 rfl (lv_room (Nat.le_of_ble_eq_true rfl)) dX11_readsOrder_281 ⟨Nat.le_of_ble_eq_true rfl, Nat.le_of_ble_eq_true rfl⟩) hS (fun v_151 ω_152 H locs hq_153 hR hS => ?_)
    obtain ⟨rfl, z_154, f_156, fr_155⟩ := hq_153
    refine W.eq (g2 := F0 mI 284 ls [.int ((tonM z_147 g ip 0).1), .int ((nI k) + 2), .ref (m + 8)]) rfl ?_
    obtain ⟨z_157, es_z_157⟩ : ∃ z : Nat → Int32, z = (tonM z_147 g ip 0).2 := ⟨_, rfl⟩
    have f_158 : ω_152.2 m = some (.inr (13, [.ref (m + 1), .ref (m + 2), .ref (m + 3), .int (z_157 3), .ref (m + 4), .int (z_157 5), .ref (m + 5), .int (z_157 7), .int (z_157 8), .int (z_157 9), .int (z_157 10), .int (z_157 11), .ref (m + 6), .int (z_157 13), .int (z_157 14), .ref (m + 7), .int (z_157 16), .int (z_157 17), .ref (m + 8)])) := by rw [es_z_157]; exact f_156
    have pk_z_157 : PK z_157 568 := by rw [es_z_157]; exact (tonM_pk pk_z_147 (by omega))
    have hi_159 : (nI k) + 2 = nI (k + 2) := by
      show (nI k) + (nI 2) = _
      simp only [pk_mul, nI_add, Nat.add_assoc]
    refine W.eq (g2 := F0 mI 284 ls [.int ((tonM z_147 g ip 0).1), .int (nI (k + 2)), .ref (m + 8)]) (by rw [hi_159]) ?_
    have f_160 : ω_142.2 (m + 8) = some (.inl (G.2.1 0, 300, .inl (upd (upd td k (hereM s g ip)) (k + 1) ((figM (upd s 16 ((s 16) + 1)) g ip).1)))) := (fr_145 (m + 8) (by omega)).trans f_133
    have f_161 : ω_152.2 (m + 8) = some (.inl (G.2.1 0, 300, .inl (upd (upd td k (hereM s g ip)) (k + 1) ((figM (upd s 16 ((s 16) + 1)) g ip).1)))) := (fr_155 (m + 8) (by omega)).trans f_160
    refine fw_iast hx hb hK hR hS f_161 (vp_in_nI (by omega) (by omega)) dX11_readsOrder_284 (fun H locs hR hS => ?_)
    rw [show (nI (k + 2)).toNatClampNeg = k + 2 from nI_clamp (by omega)] at hR
    obtain ⟨ω_162, hw_163⟩ : ∃ τ : FWd, τ = (ω_152.1, va_up ω_152.2 (m + 8) (some (.inl (G.2.1 0, 300, .inl (upd (upd (upd td k (hereM s g ip)) (k + 1) ((figM (upd s 16 ((s 16) + 1)) g ip).1)) (k + 2) ((tonM z_147 g ip 0).1)))))) := ⟨_, rfl⟩
    have hR : fR G ω_162 H := by rw [hw_163]; exact hR
    have f_164 : ω_162.2 (m + 8) = some (.inl (G.2.1 0, 300, .inl (upd (upd (upd td k (hereM s g ip)) (k + 1) ((figM (upd s 16 ((s 16) + 1)) g ip).1)) (k + 2) ((tonM z_147 g ip 0).1)))) := by rw [hw_163]; exact va_up_at
    have fr_165 : ∀ q : Nat, ¬ q = (m + 8) → ω_162.2 q = ω_152.2 q := fun q hq => by rw [hw_163]; exact va_up_off hq
    have z_166 : ω_162.1 = ω_152.1 := by rw [hw_163]
    refine lv_goto (tgt := 343) hx hb dX11_readsOrder_285 (by decide) ?_
    have f_167 : ω_162.2 m = some (.inr (13, [.ref (m + 1), .ref (m + 2), .ref (m + 3), .int (z_157 3), .ref (m + 4), .int (z_157 5), .ref (m + 5), .int (z_157 7), .int (z_157 8), .int (z_157 9), .int (z_157 10), .int (z_157 11), .ref (m + 6), .int (z_157 13), .int (z_157 14), .ref (m + 7), .int (z_157 16), .int (z_157 17), .ref (m + 8)])) := (fr_165 m (by omega)).trans f_158
    have fr_168 : ∀ q : Nat, ¬ q = m → ¬ q = (m + 8) → ω_162.2 q = ω.2 q := by
      intro q h0 h1
      rw [fr_165 q (by omega)]
      rw [fr_155 q (by omega)]
      rw [fr_145 q (by omega)]
      rw [fr_134 q (by omega)]
      rw [fr_125 q (by omega)]
      rw [fr_13 q (by omega)]
      rw [fr_7 q (by omega)]
    have z_169 : ω_162.1 = ω.1 := by rw [z_166, z_154, z_144, z_135, z_124, z_14, z_8]
    have hr_170 : ordM s g ip td k = ((z_157, (upd (upd (upd td k (hereM s g ip)) (k + 1) ((figM (upd s 16 ((s 16) + 1)) g ip).1)) (k + 2) ((tonM z_147 g ip 0).1))) : (Nat → Int32) × (Nat → Int32)) := by
      subst es_z_157 es_z_147 es_z_127
      simp only [ordM]
      rw [if_neg c_15, if_neg c_95, if_pos c_115]
    refine fw_vret hx hb hr hlocks hR hS dX11_readsOrder_343 ?_
    rw [hr_170]
    exact ⟨rfl, z_169, f_167, f_164, fr_168⟩
  by_cases c_171 : (hereM s g ip) = 100
  · skip
    refine lv_tableIn (off := 275) (tgt := 298) hx hb dX11_readsOrder_23 (by rw [c_171]; decide) (by rw [c_171]; decide) (by rw [c_171]; rfl) (by decide) ?_
    refine lv_aload_n hx hb dX11_readsOrder_298 rfl (lv_at hl 1 rfl) ?_
    refine lv_iload_n hx hb dX11_readsOrder_299 rfl (lv_at hl 2 rfl) ?_
    refine lv_bipush (v := 46) hx hb dX11_readsOrder_300 (by decide) ?_
    have f_172 : ω_10.2 m = some (.inr (13, [.ref (m + 1), .ref (m + 2), .ref (m + 3), .int ((upd s 16 ((s 16) + 1)) 3), .ref (m + 4), .int ((upd s 16 ((s 16) + 1)) 5), .ref (m + 5), .int ((upd s 16 ((s 16) + 1)) 7), .int ((upd s 16 ((s 16) + 1)) 8), .int ((upd s 16 ((s 16) + 1)) 9), .int ((upd s 16 ((s 16) + 1)) 10), .int ((upd s 16 ((s 16) + 1)) 11), .ref (m + 6), .int ((upd s 16 ((s 16) + 1)) 13), .int ((upd s 16 ((s 16) + 1)) 14), .ref (m + 7), .int ((upd s 16 ((s 16) + 1)) 16), .int ((upd s 16 ((s 16) + 1)) 17), .ref (m + 8)])) := (fr_13 m (by omega)).trans f_6
    have f_173 : ω_4.2 (m + 1) = some (.inl (G.2.1 0, 324, .inl g)) := (fr_7 (m + 1) (by omega)).trans m1
    have f_174 : ω_10.2 (m + 1) = some (.inl (G.2.1 0, 324, .inl g)) := (fr_13 (m + 1) (by omega)).trans f_173
    have f_175 : ω_4.2 (m + 5) = some (.inl (G.2.1 1, 60, .inl ip)) := (fr_7 (m + 5) (by omega)).trans m5
    have f_176 : ω_10.2 (m + 5) = some (.inl (G.2.1 1, 60, .inl ip)) := (fr_13 (m + 5) (by omega)).trans f_175
    refine fw_call (va_runV (As := [.int (nI k), .int 46]) (rest := []) ⟨hx, hb, hml, hown, hts⟩ (c_X11_readsPair G hL l ω_10 m (upd s 16 ((s 16) + 1)) g f_172 f_174 ip f_176 (upd td k (hereM s g ip)) f_12 (PK_le (PK_16 hp (by omega)) (by omega)) k 46 (by omega)) (cwV 2 hts gX11_readsOrder_X11_readsPair rfl rfl rfl (by decide +kernel) ⟨Nat.le_of_ble_eq_true rfl, Nat.le_of_ble_eq_true rfl⟩) (fw_preV hW hK hR f_172 rfl) rfl rfl hl.1 rfl (lv_room (Nat.le_of_ble_eq_true rfl)) dX11_readsOrder_302 ⟨Nat.le_of_ble_eq_true rfl, Nat.le_of_ble_eq_true rfl⟩) hS (fun v_177 ω_178 H locs hq_179 hR hS => ?_)
    obtain ⟨rfl, z_180, f_182, f_183, fr_181⟩ := hq_179
    refine W.eq (g2 := F0 mI 305 ls []) rfl ?_
    obtain ⟨z_184, es_z_184⟩ : ∃ z : Nat → Int32, z = (pairM (upd s 16 ((s 16) + 1)) g ip (upd td k (hereM s g ip)) k 46).1 := ⟨_, rfl⟩
    have f_185 : ω_178.2 m = some (.inr (13, [.ref (m + 1), .ref (m + 2), .ref (m + 3), .int (z_184 3), .ref (m + 4), .int (z_184 5), .ref (m + 5), .int (z_184 7), .int (z_184 8), .int (z_184 9), .int (z_184 10), .int (z_184 11), .ref (m + 6), .int (z_184 13), .int (z_184 14), .ref (m + 7), .int (z_184 16), .int (z_184 17), .ref (m + 8)])) := by rw [es_z_184]; exact f_182
    have pk_z_184 : PK z_184 564 := by rw [es_z_184]; exact (pairM_pk (PK_16 hp (by omega)) (by omega))
    obtain ⟨z_186, es_z_186⟩ : ∃ z : Nat → Int32, z = (pairM (upd s 16 ((s 16) + 1)) g ip (upd td k (hereM s g ip)) k 46).2 := ⟨_, rfl⟩
    have f_187 : ω_178.2 (m + 8) = some (.inl (G.2.1 0, 300, .inl z_186)) := by rw [es_z_186]; exact f_183
    refine lv_goto (tgt := 343) hx hb dX11_readsOrder_305 (by decide) ?_
    have fr_188 : ∀ q : Nat, ¬ q = m → ¬ q = (m + 8) → ω_178.2 q = ω.2 q := by
      intro q h0 h1
      rw [fr_181 q (by omega) (by omega)]
      rw [fr_13 q (by omega)]
      rw [fr_7 q (by omega)]
    have z_189 : ω_178.1 = ω.1 := by rw [z_180, z_14, z_8]
    have hr_190 : ordM s g ip td k = ((z_184, z_186) : (Nat → Int32) × (Nat → Int32)) := by
      subst es_z_186 es_z_184
      simp only [ordM]
      rw [if_neg c_15, if_neg c_95, if_neg c_115, if_pos c_171]
    refine fw_vret hx hb hr hlocks hR hS dX11_readsOrder_343 ?_
    rw [hr_190]
    exact ⟨rfl, z_189, f_185, f_187, fr_188⟩
  by_cases c_191 : (hereM s g ip) = 102
  · skip
    refine lv_tableIn (off := 169) (tgt := 192) hx hb dX11_readsOrder_23 (by rw [c_191]; decide) (by rw [c_191]; decide) (by rw [c_191]; rfl) (by decide) ?_
    refine lv_aload_n hx hb dX11_readsOrder_192 rfl (lv_at hl 1 rfl) ?_
    have f_192 : ω_10.2 m = some (.inr (13, [.ref (m + 1), .ref (m + 2), .ref (m + 3), .int ((upd s 16 ((s 16) + 1)) 3), .ref (m + 4), .int ((upd s 16 ((s 16) + 1)) 5), .ref (m + 5), .int ((upd s 16 ((s 16) + 1)) 7), .int ((upd s 16 ((s 16) + 1)) 8), .int ((upd s 16 ((s 16) + 1)) 9), .int ((upd s 16 ((s 16) + 1)) 10), .int ((upd s 16 ((s 16) + 1)) 11), .ref (m + 6), .int ((upd s 16 ((s 16) + 1)) 13), .int ((upd s 16 ((s 16) + 1)) 14), .ref (m + 7), .int ((upd s 16 ((s 16) + 1)) 16), .int ((upd s 16 ((s 16) + 1)) 17), .ref (m + 8)])) := (fr_13 m (by omega)).trans f_6
    refine fw_get (v := .ref (m + 8)) (C := RX11) (T := TX11) (N := 19) hx hb hts hin11 hown hK hR f_192 rfl 18 (by decide) (hts (.fieldLink RX11 36 "UnreadLeafletsModel" "told" "[I") (by decide +kernel)) rfl dX11_readsOrder_193 ?_
    refine lv_iload_n hx hb dX11_readsOrder_196 rfl (lv_at hl 2 rfl) ?_
    refine lv_iconst (v := 1) hx hb dX11_readsOrder_197 (by decide) ?_
    refine lv_iadd hx hb dX11_readsOrder_198 ?_
    refine lv_aload_n hx hb dX11_readsOrder_199 rfl (lv_at hl 1 rfl) ?_
    have f_193 : ω_4.2 (m + 1) = some (.inl (G.2.1 0, 324, .inl g)) := (fr_7 (m + 1) (by omega)).trans m1
    have f_194 : ω_10.2 (m + 1) = some (.inl (G.2.1 0, 324, .inl g)) := (fr_13 (m + 1) (by omega)).trans f_193
    have f_195 : ω_4.2 (m + 5) = some (.inl (G.2.1 1, 60, .inl ip)) := (fr_7 (m + 5) (by omega)).trans m5
    have f_196 : ω_10.2 (m + 5) = some (.inl (G.2.1 1, 60, .inl ip)) := (fr_13 (m + 5) (by omega)).trans f_195
    refine fw_call (va_runV (As := []) (rest := [.int ((nI k) + 1), .ref (m + 8)]) ⟨hx, hb, hml, hown, hts⟩ (c_X11_figure G hL l ω_10 m (upd s 16 ((s 16) + 1)) g f_192 f_194 ip f_196 (PK_le (PK_16 hp (by omega)) (by omega))  ) (cwV 0 hts gX11_readsOrder_X11_figure rfl rfl rfl (by decide +kernel) ⟨Nat.le_of_ble_eq_true rfl, Nat.le_of_ble_eq_true rfl⟩) (fw_preV hW hK hR f_192 rfl) rfl rfl hl.1 rfl (lv_room (Nat.le_of_ble_eq_true rfl)) dX11_readsOrder_200 ⟨Nat.le_of_ble_eq_true rfl, Nat.le_of_ble_eq_true rfl⟩) hS (fun v_197 ω_198 H locs hq_199 hR hS => ?_)
    obtain ⟨rfl, z_200, f_202, fr_201⟩ := hq_199
    refine W.eq (g2 := F0 mI 203 ls [.int ((figM (upd s 16 ((s 16) + 1)) g ip).1), .int ((nI k) + 1), .ref (m + 8)]) rfl ?_
    obtain ⟨z_203, es_z_203⟩ : ∃ z : Nat → Int32, z = (figM (upd s 16 ((s 16) + 1)) g ip).2 := ⟨_, rfl⟩
    have f_204 : ω_198.2 m = some (.inr (13, [.ref (m + 1), .ref (m + 2), .ref (m + 3), .int (z_203 3), .ref (m + 4), .int (z_203 5), .ref (m + 5), .int (z_203 7), .int (z_203 8), .int (z_203 9), .int (z_203 10), .int (z_203 11), .ref (m + 6), .int (z_203 13), .int (z_203 14), .ref (m + 7), .int (z_203 16), .int (z_203 17), .ref (m + 8)])) := by rw [es_z_203]; exact f_202
    have pk_z_203 : PK z_203 562 := by rw [es_z_203]; exact (figM_pk (PK_16 hp (by omega)) (by omega))
    have hi_205 : (nI k) + 1 = nI (k + 1) := by
      show (nI k) + (nI 1) = _
      simp only [pk_mul, nI_add, Nat.add_assoc]
    refine W.eq (g2 := F0 mI 203 ls [.int ((figM (upd s 16 ((s 16) + 1)) g ip).1), .int (nI (k + 1)), .ref (m + 8)]) (by rw [hi_205]) ?_
    have f_206 : ω_198.2 (m + 8) = some (.inl (G.2.1 0, 300, .inl (upd td k (hereM s g ip)))) := (fr_201 (m + 8) (by omega)).trans f_12
    refine fw_iast hx hb hK hR hS f_206 (vp_in_nI (by omega) (by omega)) dX11_readsOrder_203 (fun H locs hR hS => ?_)
    rw [show (nI (k + 1)).toNatClampNeg = k + 1 from nI_clamp (by omega)] at hR
    obtain ⟨ω_207, hw_208⟩ : ∃ τ : FWd, τ = (ω_198.1, va_up ω_198.2 (m + 8) (some (.inl (G.2.1 0, 300, .inl (upd (upd td k (hereM s g ip)) (k + 1) ((figM (upd s 16 ((s 16) + 1)) g ip).1)))))) := ⟨_, rfl⟩
    have hR : fR G ω_207 H := by rw [hw_208]; exact hR
    have f_209 : ω_207.2 (m + 8) = some (.inl (G.2.1 0, 300, .inl (upd (upd td k (hereM s g ip)) (k + 1) ((figM (upd s 16 ((s 16) + 1)) g ip).1)))) := by rw [hw_208]; exact va_up_at
    have fr_210 : ∀ q : Nat, ¬ q = (m + 8) → ω_207.2 q = ω_198.2 q := fun q hq => by rw [hw_208]; exact va_up_off hq
    have z_211 : ω_207.1 = ω_198.1 := by rw [hw_208]
    refine lv_goto (tgt := 343) hx hb dX11_readsOrder_204 (by decide) ?_
    have f_212 : ω_207.2 m = some (.inr (13, [.ref (m + 1), .ref (m + 2), .ref (m + 3), .int (z_203 3), .ref (m + 4), .int (z_203 5), .ref (m + 5), .int (z_203 7), .int (z_203 8), .int (z_203 9), .int (z_203 10), .int (z_203 11), .ref (m + 6), .int (z_203 13), .int (z_203 14), .ref (m + 7), .int (z_203 16), .int (z_203 17), .ref (m + 8)])) := (fr_210 m (by omega)).trans f_204
    have fr_213 : ∀ q : Nat, ¬ q = m → ¬ q = (m + 8) → ω_207.2 q = ω.2 q := by
      intro q h0 h1
      rw [fr_210 q (by omega)]
      rw [fr_201 q (by omega)]
      rw [fr_13 q (by omega)]
      rw [fr_7 q (by omega)]
    have z_214 : ω_207.1 = ω.1 := by rw [z_211, z_200, z_14, z_8]
    have hr_215 : ordM s g ip td k = ((z_203, (upd (upd td k (hereM s g ip)) (k + 1) ((figM (upd s 16 ((s 16) + 1)) g ip).1))) : (Nat → Int32) × (Nat → Int32)) := by
      subst es_z_203
      simp only [ordM]
      rw [if_neg c_15, if_neg c_95, if_neg c_115, if_neg c_171, if_pos c_191]
    refine fw_vret hx hb hr hlocks hR hS dX11_readsOrder_343 ?_
    rw [hr_215]
    exact ⟨rfl, z_214, f_212, f_209, fr_213⟩
  by_cases c_216 : (hereM s g ip) = 108
  · skip
    refine lv_tableIn (off := 169) (tgt := 192) hx hb dX11_readsOrder_23 (by rw [c_216]; decide) (by rw [c_216]; decide) (by rw [c_216]; rfl) (by decide) ?_
    refine lv_aload_n hx hb dX11_readsOrder_192 rfl (lv_at hl 1 rfl) ?_
    have f_217 : ω_10.2 m = some (.inr (13, [.ref (m + 1), .ref (m + 2), .ref (m + 3), .int ((upd s 16 ((s 16) + 1)) 3), .ref (m + 4), .int ((upd s 16 ((s 16) + 1)) 5), .ref (m + 5), .int ((upd s 16 ((s 16) + 1)) 7), .int ((upd s 16 ((s 16) + 1)) 8), .int ((upd s 16 ((s 16) + 1)) 9), .int ((upd s 16 ((s 16) + 1)) 10), .int ((upd s 16 ((s 16) + 1)) 11), .ref (m + 6), .int ((upd s 16 ((s 16) + 1)) 13), .int ((upd s 16 ((s 16) + 1)) 14), .ref (m + 7), .int ((upd s 16 ((s 16) + 1)) 16), .int ((upd s 16 ((s 16) + 1)) 17), .ref (m + 8)])) := (fr_13 m (by omega)).trans f_6
    refine fw_get (v := .ref (m + 8)) (C := RX11) (T := TX11) (N := 19) hx hb hts hin11 hown hK hR f_217 rfl 18 (by decide) (hts (.fieldLink RX11 36 "UnreadLeafletsModel" "told" "[I") (by decide +kernel)) rfl dX11_readsOrder_193 ?_
    refine lv_iload_n hx hb dX11_readsOrder_196 rfl (lv_at hl 2 rfl) ?_
    refine lv_iconst (v := 1) hx hb dX11_readsOrder_197 (by decide) ?_
    refine lv_iadd hx hb dX11_readsOrder_198 ?_
    refine lv_aload_n hx hb dX11_readsOrder_199 rfl (lv_at hl 1 rfl) ?_
    have f_218 : ω_4.2 (m + 1) = some (.inl (G.2.1 0, 324, .inl g)) := (fr_7 (m + 1) (by omega)).trans m1
    have f_219 : ω_10.2 (m + 1) = some (.inl (G.2.1 0, 324, .inl g)) := (fr_13 (m + 1) (by omega)).trans f_218
    have f_220 : ω_4.2 (m + 5) = some (.inl (G.2.1 1, 60, .inl ip)) := (fr_7 (m + 5) (by omega)).trans m5
    have f_221 : ω_10.2 (m + 5) = some (.inl (G.2.1 1, 60, .inl ip)) := (fr_13 (m + 5) (by omega)).trans f_220
    refine fw_call (va_runV (As := []) (rest := [.int ((nI k) + 1), .ref (m + 8)]) ⟨hx, hb, hml, hown, hts⟩ (c_X11_figure G hL l ω_10 m (upd s 16 ((s 16) + 1)) g f_217 f_219 ip f_221 (PK_le (PK_16 hp (by omega)) (by omega))  ) (cwV 0 hts gX11_readsOrder_X11_figure rfl rfl rfl (by decide +kernel) ⟨Nat.le_of_ble_eq_true rfl, Nat.le_of_ble_eq_true rfl⟩) (fw_preV hW hK hR f_217 rfl) rfl rfl hl.1 rfl (lv_room (Nat.le_of_ble_eq_true rfl)) dX11_readsOrder_200 ⟨Nat.le_of_ble_eq_true rfl, Nat.le_of_ble_eq_true rfl⟩) hS (fun v_222 ω_223 H locs hq_224 hR hS => ?_)
    obtain ⟨rfl, z_225, f_227, fr_226⟩ := hq_224
    refine W.eq (g2 := F0 mI 203 ls [.int ((figM (upd s 16 ((s 16) + 1)) g ip).1), .int ((nI k) + 1), .ref (m + 8)]) rfl ?_
    obtain ⟨z_228, es_z_228⟩ : ∃ z : Nat → Int32, z = (figM (upd s 16 ((s 16) + 1)) g ip).2 := ⟨_, rfl⟩
    have f_229 : ω_223.2 m = some (.inr (13, [.ref (m + 1), .ref (m + 2), .ref (m + 3), .int (z_228 3), .ref (m + 4), .int (z_228 5), .ref (m + 5), .int (z_228 7), .int (z_228 8), .int (z_228 9), .int (z_228 10), .int (z_228 11), .ref (m + 6), .int (z_228 13), .int (z_228 14), .ref (m + 7), .int (z_228 16), .int (z_228 17), .ref (m + 8)])) := by rw [es_z_228]; exact f_227
    have pk_z_228 : PK z_228 562 := by rw [es_z_228]; exact (figM_pk (PK_16 hp (by omega)) (by omega))
    have hi_230 : (nI k) + 1 = nI (k + 1) := by
      show (nI k) + (nI 1) = _
      simp only [pk_mul, nI_add, Nat.add_assoc]
    refine W.eq (g2 := F0 mI 203 ls [.int ((figM (upd s 16 ((s 16) + 1)) g ip).1), .int (nI (k + 1)), .ref (m + 8)]) (by rw [hi_230]) ?_
    have f_231 : ω_223.2 (m + 8) = some (.inl (G.2.1 0, 300, .inl (upd td k (hereM s g ip)))) := (fr_226 (m + 8) (by omega)).trans f_12
    refine fw_iast hx hb hK hR hS f_231 (vp_in_nI (by omega) (by omega)) dX11_readsOrder_203 (fun H locs hR hS => ?_)
    rw [show (nI (k + 1)).toNatClampNeg = k + 1 from nI_clamp (by omega)] at hR
    obtain ⟨ω_232, hw_233⟩ : ∃ τ : FWd, τ = (ω_223.1, va_up ω_223.2 (m + 8) (some (.inl (G.2.1 0, 300, .inl (upd (upd td k (hereM s g ip)) (k + 1) ((figM (upd s 16 ((s 16) + 1)) g ip).1)))))) := ⟨_, rfl⟩
    have hR : fR G ω_232 H := by rw [hw_233]; exact hR
    have f_234 : ω_232.2 (m + 8) = some (.inl (G.2.1 0, 300, .inl (upd (upd td k (hereM s g ip)) (k + 1) ((figM (upd s 16 ((s 16) + 1)) g ip).1)))) := by rw [hw_233]; exact va_up_at
    have fr_235 : ∀ q : Nat, ¬ q = (m + 8) → ω_232.2 q = ω_223.2 q := fun q hq => by rw [hw_233]; exact va_up_off hq
    have z_236 : ω_232.1 = ω_223.1 := by rw [hw_233]
    refine lv_goto (tgt := 343) hx hb dX11_readsOrder_204 (by decide) ?_
    have f_237 : ω_232.2 m = some (.inr (13, [.ref (m + 1), .ref (m + 2), .ref (m + 3), .int (z_228 3), .ref (m + 4), .int (z_228 5), .ref (m + 5), .int (z_228 7), .int (z_228 8), .int (z_228 9), .int (z_228 10), .int (z_228 11), .ref (m + 6), .int (z_228 13), .int (z_228 14), .ref (m + 7), .int (z_228 16), .int (z_228 17), .ref (m + 8)])) := (fr_235 m (by omega)).trans f_229
    have fr_238 : ∀ q : Nat, ¬ q = m → ¬ q = (m + 8) → ω_232.2 q = ω.2 q := by
      intro q h0 h1
      rw [fr_235 q (by omega)]
      rw [fr_226 q (by omega)]
      rw [fr_13 q (by omega)]
      rw [fr_7 q (by omega)]
    have z_239 : ω_232.1 = ω.1 := by rw [z_236, z_225, z_14, z_8]
    have hr_240 : ordM s g ip td k = ((z_228, (upd (upd td k (hereM s g ip)) (k + 1) ((figM (upd s 16 ((s 16) + 1)) g ip).1))) : (Nat → Int32) × (Nat → Int32)) := by
      subst es_z_228
      simp only [ordM]
      rw [if_neg c_15, if_neg c_95, if_neg c_115, if_neg c_171, if_neg c_191, if_pos c_216]
    refine fw_vret hx hb hr hlocks hR hS dX11_readsOrder_343 ?_
    rw [hr_240]
    exact ⟨rfl, z_239, f_237, f_234, fr_238⟩
  by_cases c_241 : (hereM s g ip) = 109
  · skip
    refine lv_tableIn (off := 285) (tgt := 308) hx hb dX11_readsOrder_23 (by rw [c_241]; decide) (by rw [c_241]; decide) (by rw [c_241]; rfl) (by decide) ?_
    refine lv_aload_n hx hb dX11_readsOrder_308 rfl (lv_at hl 1 rfl) ?_
    refine lv_iload_n hx hb dX11_readsOrder_309 rfl (lv_at hl 2 rfl) ?_
    refine lv_bipush (v := 64) hx hb dX11_readsOrder_310 (by decide) ?_
    have f_242 : ω_10.2 m = some (.inr (13, [.ref (m + 1), .ref (m + 2), .ref (m + 3), .int ((upd s 16 ((s 16) + 1)) 3), .ref (m + 4), .int ((upd s 16 ((s 16) + 1)) 5), .ref (m + 5), .int ((upd s 16 ((s 16) + 1)) 7), .int ((upd s 16 ((s 16) + 1)) 8), .int ((upd s 16 ((s 16) + 1)) 9), .int ((upd s 16 ((s 16) + 1)) 10), .int ((upd s 16 ((s 16) + 1)) 11), .ref (m + 6), .int ((upd s 16 ((s 16) + 1)) 13), .int ((upd s 16 ((s 16) + 1)) 14), .ref (m + 7), .int ((upd s 16 ((s 16) + 1)) 16), .int ((upd s 16 ((s 16) + 1)) 17), .ref (m + 8)])) := (fr_13 m (by omega)).trans f_6
    have f_243 : ω_4.2 (m + 1) = some (.inl (G.2.1 0, 324, .inl g)) := (fr_7 (m + 1) (by omega)).trans m1
    have f_244 : ω_10.2 (m + 1) = some (.inl (G.2.1 0, 324, .inl g)) := (fr_13 (m + 1) (by omega)).trans f_243
    have f_245 : ω_4.2 (m + 5) = some (.inl (G.2.1 1, 60, .inl ip)) := (fr_7 (m + 5) (by omega)).trans m5
    have f_246 : ω_10.2 (m + 5) = some (.inl (G.2.1 1, 60, .inl ip)) := (fr_13 (m + 5) (by omega)).trans f_245
    refine fw_call (va_runV (As := [.int (nI k), .int 64]) (rest := []) ⟨hx, hb, hml, hown, hts⟩ (c_X11_readsPair G hL l ω_10 m (upd s 16 ((s 16) + 1)) g f_242 f_244 ip f_246 (upd td k (hereM s g ip)) f_12 (PK_le (PK_16 hp (by omega)) (by omega)) k 64 (by omega)) (cwV 2 hts gX11_readsOrder_X11_readsPair rfl rfl rfl (by decide +kernel) ⟨Nat.le_of_ble_eq_true rfl, Nat.le_of_ble_eq_true rfl⟩) (fw_preV hW hK hR f_242 rfl) rfl rfl hl.1 rfl (lv_room (Nat.le_of_ble_eq_true rfl)) dX11_readsOrder_312 ⟨Nat.le_of_ble_eq_true rfl, Nat.le_of_ble_eq_true rfl⟩) hS (fun v_247 ω_248 H locs hq_249 hR hS => ?_)
    obtain ⟨rfl, z_250, f_252, f_253, fr_251⟩ := hq_249
    refine W.eq (g2 := F0 mI 315 ls []) rfl ?_
    obtain ⟨z_254, es_z_254⟩ : ∃ z : Nat → Int32, z = (pairM (upd s 16 ((s 16) + 1)) g ip (upd td k (hereM s g ip)) k 64).1 := ⟨_, rfl⟩
    have f_255 : ω_248.2 m = some (.inr (13, [.ref (m + 1), .ref (m + 2), .ref (m + 3), .int (z_254 3), .ref (m + 4), .int (z_254 5), .ref (m + 5), .int (z_254 7), .int (z_254 8), .int (z_254 9), .int (z_254 10), .int (z_254 11), .ref (m + 6), .int (z_254 13), .int (z_254 14), .ref (m + 7), .int (z_254 16), .int (z_254 17), .ref (m + 8)])) := by rw [es_z_254]; exact f_252
    have pk_z_254 : PK z_254 564 := by rw [es_z_254]; exact (pairM_pk (PK_16 hp (by omega)) (by omega))
    obtain ⟨z_256, es_z_256⟩ : ∃ z : Nat → Int32, z = (pairM (upd s 16 ((s 16) + 1)) g ip (upd td k (hereM s g ip)) k 64).2 := ⟨_, rfl⟩
    have f_257 : ω_248.2 (m + 8) = some (.inl (G.2.1 0, 300, .inl z_256)) := by rw [es_z_256]; exact f_253
    refine lv_goto (tgt := 343) hx hb dX11_readsOrder_315 (by decide) ?_
    have fr_258 : ∀ q : Nat, ¬ q = m → ¬ q = (m + 8) → ω_248.2 q = ω.2 q := by
      intro q h0 h1
      rw [fr_251 q (by omega) (by omega)]
      rw [fr_13 q (by omega)]
      rw [fr_7 q (by omega)]
    have z_259 : ω_248.1 = ω.1 := by rw [z_250, z_14, z_8]
    have hr_260 : ordM s g ip td k = ((z_254, z_256) : (Nat → Int32) × (Nat → Int32)) := by
      subst es_z_256 es_z_254
      simp only [ordM]
      rw [if_neg c_15, if_neg c_95, if_neg c_115, if_neg c_171, if_neg c_191, if_neg c_216, if_pos c_241]
    refine fw_vret hx hb hr hlocks hR hS dX11_readsOrder_343 ?_
    rw [hr_260]
    exact ⟨rfl, z_259, f_255, f_257, fr_258⟩
  by_cases c_261 : (hereM s g ip) = 115
  · skip
    refine lv_tableIn (off := 184) (tgt := 207) hx hb dX11_readsOrder_23 (by rw [c_261]; decide) (by rw [c_261]; decide) (by rw [c_261]; rfl) (by decide) ?_
    refine lv_aload_n hx hb dX11_readsOrder_207 rfl (lv_at hl 1 rfl) ?_
    refine lv_iload_n hx hb dX11_readsOrder_208 rfl (lv_at hl 2 rfl) ?_
    refine lv_bipush (v := 58) hx hb dX11_readsOrder_209 (by decide) ?_
    have f_262 : ω_10.2 m = some (.inr (13, [.ref (m + 1), .ref (m + 2), .ref (m + 3), .int ((upd s 16 ((s 16) + 1)) 3), .ref (m + 4), .int ((upd s 16 ((s 16) + 1)) 5), .ref (m + 5), .int ((upd s 16 ((s 16) + 1)) 7), .int ((upd s 16 ((s 16) + 1)) 8), .int ((upd s 16 ((s 16) + 1)) 9), .int ((upd s 16 ((s 16) + 1)) 10), .int ((upd s 16 ((s 16) + 1)) 11), .ref (m + 6), .int ((upd s 16 ((s 16) + 1)) 13), .int ((upd s 16 ((s 16) + 1)) 14), .ref (m + 7), .int ((upd s 16 ((s 16) + 1)) 16), .int ((upd s 16 ((s 16) + 1)) 17), .ref (m + 8)])) := (fr_13 m (by omega)).trans f_6
    have f_263 : ω_4.2 (m + 1) = some (.inl (G.2.1 0, 324, .inl g)) := (fr_7 (m + 1) (by omega)).trans m1
    have f_264 : ω_10.2 (m + 1) = some (.inl (G.2.1 0, 324, .inl g)) := (fr_13 (m + 1) (by omega)).trans f_263
    have f_265 : ω_4.2 (m + 5) = some (.inl (G.2.1 1, 60, .inl ip)) := (fr_7 (m + 5) (by omega)).trans m5
    have f_266 : ω_10.2 (m + 5) = some (.inl (G.2.1 1, 60, .inl ip)) := (fr_13 (m + 5) (by omega)).trans f_265
    refine fw_call (va_runV (As := [.int (nI k), .int 58]) (rest := []) ⟨hx, hb, hml, hown, hts⟩ (c_X11_readsPair G hL l ω_10 m (upd s 16 ((s 16) + 1)) g f_262 f_264 ip f_266 (upd td k (hereM s g ip)) f_12 (PK_le (PK_16 hp (by omega)) (by omega)) k 58 (by omega)) (cwV 2 hts gX11_readsOrder_X11_readsPair rfl rfl rfl (by decide +kernel) ⟨Nat.le_of_ble_eq_true rfl, Nat.le_of_ble_eq_true rfl⟩) (fw_preV hW hK hR f_262 rfl) rfl rfl hl.1 rfl (lv_room (Nat.le_of_ble_eq_true rfl)) dX11_readsOrder_211 ⟨Nat.le_of_ble_eq_true rfl, Nat.le_of_ble_eq_true rfl⟩) hS (fun v_267 ω_268 H locs hq_269 hR hS => ?_)
    obtain ⟨rfl, z_270, f_272, f_273, fr_271⟩ := hq_269
    refine W.eq (g2 := F0 mI 214 ls []) rfl ?_
    obtain ⟨z_274, es_z_274⟩ : ∃ z : Nat → Int32, z = (pairM (upd s 16 ((s 16) + 1)) g ip (upd td k (hereM s g ip)) k 58).1 := ⟨_, rfl⟩
    have f_275 : ω_268.2 m = some (.inr (13, [.ref (m + 1), .ref (m + 2), .ref (m + 3), .int (z_274 3), .ref (m + 4), .int (z_274 5), .ref (m + 5), .int (z_274 7), .int (z_274 8), .int (z_274 9), .int (z_274 10), .int (z_274 11), .ref (m + 6), .int (z_274 13), .int (z_274 14), .ref (m + 7), .int (z_274 16), .int (z_274 17), .ref (m + 8)])) := by rw [es_z_274]; exact f_272
    have pk_z_274 : PK z_274 564 := by rw [es_z_274]; exact (pairM_pk (PK_16 hp (by omega)) (by omega))
    obtain ⟨z_276, es_z_276⟩ : ∃ z : Nat → Int32, z = (pairM (upd s 16 ((s 16) + 1)) g ip (upd td k (hereM s g ip)) k 58).2 := ⟨_, rfl⟩
    have f_277 : ω_268.2 (m + 8) = some (.inl (G.2.1 0, 300, .inl z_276)) := by rw [es_z_276]; exact f_273
    refine lv_aload_n hx hb dX11_readsOrder_214 rfl (lv_at hl 1 rfl) ?_
    refine lv_bipush (v := 42) hx hb dX11_readsOrder_215 (by decide) ?_
    have f_278 : ω_268.2 (m + 1) = some (.inl (G.2.1 0, 324, .inl g)) := (fr_271 (m + 1) (by omega) (by omega)).trans f_264
    have f_279 : ω_268.2 (m + 5) = some (.inl (G.2.1 1, 60, .inl ip)) := (fr_271 (m + 5) (by omega) (by omega)).trans f_266
    refine fw_call (va_runV (As := [.int 42]) (rest := []) ⟨hx, hb, hml, hown, hts⟩ (c_X11_needsSign G hL l ω_268 m z_274 g f_275 f_278 ip f_279 (PK_le pk_z_274 (by omega)) 42 ) (cwV 1 hts gX11_readsOrder_X11_needsSign rfl rfl rfl (by decide +kernel) ⟨Nat.le_of_ble_eq_true rfl, Nat.le_of_ble_eq_true rfl⟩) (fw_preV hW hK hR f_275 rfl) rfl rfl hl.1 rfl (lv_room (Nat.le_of_ble_eq_true rfl)) dX11_readsOrder_217 ⟨Nat.le_of_ble_eq_true rfl, Nat.le_of_ble_eq_true rfl⟩) hS (fun v_280 ω_281 H locs hq_282 hR hS => ?_)
    obtain ⟨rfl, z_283, f_285, fr_284⟩ := hq_282
    refine W.eq (g2 := F0 mI 220 ls []) rfl ?_
    obtain ⟨z_286, es_z_286⟩ : ∃ z : Nat → Int32, z = needsM z_274 g ip 42 := ⟨_, rfl⟩
    have f_287 : ω_281.2 m = some (.inr (13, [.ref (m + 1), .ref (m + 2), .ref (m + 3), .int (z_286 3), .ref (m + 4), .int (z_286 5), .ref (m + 5), .int (z_286 7), .int (z_286 8), .int (z_286 9), .int (z_286 10), .int (z_286 11), .ref (m + 6), .int (z_286 13), .int (z_286 14), .ref (m + 7), .int (z_286 16), .int (z_286 17), .ref (m + 8)])) := by rw [es_z_286]; exact f_285
    have pk_z_286 : PK z_286 565 := by rw [es_z_286]; exact (needsM_pk pk_z_274 (by omega))
    refine lv_aload_n hx hb dX11_readsOrder_220 rfl (lv_at hl 1 rfl) ?_
    refine fw_get (v := .ref (m + 8)) (C := RX11) (T := TX11) (N := 19) hx hb hts hin11 hown hK hR f_287 rfl 18 (by decide) (hts (.fieldLink RX11 36 "UnreadLeafletsModel" "told" "[I") (by decide +kernel)) rfl dX11_readsOrder_221 ?_
    refine lv_iload_n hx hb dX11_readsOrder_224 rfl (lv_at hl 2 rfl) ?_
    refine lv_iconst (v := 3) hx hb dX11_readsOrder_225 (by decide) ?_
    refine lv_iadd hx hb dX11_readsOrder_226 ?_
    refine lv_aload_n hx hb dX11_readsOrder_227 rfl (lv_at hl 1 rfl) ?_
    have f_288 : ω_281.2 (m + 1) = some (.inl (G.2.1 0, 324, .inl g)) := (fr_284 (m + 1) (by omega)).trans f_278
    have f_289 : ω_281.2 (m + 5) = some (.inl (G.2.1 1, 60, .inl ip)) := (fr_284 (m + 5) (by omega)).trans f_279
    refine fw_call (va_runV (As := []) (rest := [.int ((nI k) + 3), .ref (m + 8)]) ⟨hx, hb, hml, hown, hts⟩ (c_X11_figure G hL l ω_281 m z_286 g f_287 f_288 ip f_289 (PK_le pk_z_286 (by omega))  ) (cwV 0 hts gX11_readsOrder_X11_figure rfl rfl rfl (by decide +kernel) ⟨Nat.le_of_ble_eq_true rfl, Nat.le_of_ble_eq_true rfl⟩) (fw_preV hW hK hR f_287 rfl) rfl rfl hl.1 rfl (lv_room (Nat.le_of_ble_eq_true rfl)) dX11_readsOrder_228 ⟨Nat.le_of_ble_eq_true rfl, Nat.le_of_ble_eq_true rfl⟩) hS (fun v_290 ω_291 H locs hq_292 hR hS => ?_)
    obtain ⟨rfl, z_293, f_295, fr_294⟩ := hq_292
    refine W.eq (g2 := F0 mI 231 ls [.int ((figM z_286 g ip).1), .int ((nI k) + 3), .ref (m + 8)]) rfl ?_
    obtain ⟨z_296, es_z_296⟩ : ∃ z : Nat → Int32, z = (figM z_286 g ip).2 := ⟨_, rfl⟩
    have f_297 : ω_291.2 m = some (.inr (13, [.ref (m + 1), .ref (m + 2), .ref (m + 3), .int (z_296 3), .ref (m + 4), .int (z_296 5), .ref (m + 5), .int (z_296 7), .int (z_296 8), .int (z_296 9), .int (z_296 10), .int (z_296 11), .ref (m + 6), .int (z_296 13), .int (z_296 14), .ref (m + 7), .int (z_296 16), .int (z_296 17), .ref (m + 8)])) := by rw [es_z_296]; exact f_295
    have pk_z_296 : PK z_296 566 := by rw [es_z_296]; exact (figM_pk pk_z_286 (by omega))
    have hi_298 : (nI k) + 3 = nI (k + 3) := by
      show (nI k) + (nI 3) = _
      simp only [pk_mul, nI_add, Nat.add_assoc]
    refine W.eq (g2 := F0 mI 231 ls [.int ((figM z_286 g ip).1), .int (nI (k + 3)), .ref (m + 8)]) (by rw [hi_298]) ?_
    have f_299 : ω_281.2 (m + 8) = some (.inl (G.2.1 0, 300, .inl z_276)) := (fr_284 (m + 8) (by omega)).trans f_277
    have f_300 : ω_291.2 (m + 8) = some (.inl (G.2.1 0, 300, .inl z_276)) := (fr_294 (m + 8) (by omega)).trans f_299
    refine fw_iast hx hb hK hR hS f_300 (vp_in_nI (by omega) (by omega)) dX11_readsOrder_231 (fun H locs hR hS => ?_)
    rw [show (nI (k + 3)).toNatClampNeg = k + 3 from nI_clamp (by omega)] at hR
    obtain ⟨ω_301, hw_302⟩ : ∃ τ : FWd, τ = (ω_291.1, va_up ω_291.2 (m + 8) (some (.inl (G.2.1 0, 300, .inl (upd z_276 (k + 3) ((figM z_286 g ip).1)))))) := ⟨_, rfl⟩
    have hR : fR G ω_301 H := by rw [hw_302]; exact hR
    have f_303 : ω_301.2 (m + 8) = some (.inl (G.2.1 0, 300, .inl (upd z_276 (k + 3) ((figM z_286 g ip).1)))) := by rw [hw_302]; exact va_up_at
    have fr_304 : ∀ q : Nat, ¬ q = (m + 8) → ω_301.2 q = ω_291.2 q := fun q hq => by rw [hw_302]; exact va_up_off hq
    have z_305 : ω_301.1 = ω_291.1 := by rw [hw_302]
    refine lv_aload_n hx hb dX11_readsOrder_232 rfl (lv_at hl 1 rfl) ?_
    refine lv_bipush (v := 61) hx hb dX11_readsOrder_233 (by decide) ?_
    have f_306 : ω_301.2 m = some (.inr (13, [.ref (m + 1), .ref (m + 2), .ref (m + 3), .int (z_296 3), .ref (m + 4), .int (z_296 5), .ref (m + 5), .int (z_296 7), .int (z_296 8), .int (z_296 9), .int (z_296 10), .int (z_296 11), .ref (m + 6), .int (z_296 13), .int (z_296 14), .ref (m + 7), .int (z_296 16), .int (z_296 17), .ref (m + 8)])) := (fr_304 m (by omega)).trans f_297
    have f_307 : ω_291.2 (m + 1) = some (.inl (G.2.1 0, 324, .inl g)) := (fr_294 (m + 1) (by omega)).trans f_288
    have f_308 : ω_301.2 (m + 1) = some (.inl (G.2.1 0, 324, .inl g)) := (fr_304 (m + 1) (by omega)).trans f_307
    have f_309 : ω_291.2 (m + 5) = some (.inl (G.2.1 1, 60, .inl ip)) := (fr_294 (m + 5) (by omega)).trans f_289
    have f_310 : ω_301.2 (m + 5) = some (.inl (G.2.1 1, 60, .inl ip)) := (fr_304 (m + 5) (by omega)).trans f_309
    refine fw_call (va_runV (As := [.int 61]) (rest := []) ⟨hx, hb, hml, hown, hts⟩ (c_X11_needsSign G hL l ω_301 m z_296 g f_306 f_308 ip f_310 (PK_le pk_z_296 (by omega)) 61 ) (cwV 1 hts gX11_readsOrder_X11_needsSign rfl rfl rfl (by decide +kernel) ⟨Nat.le_of_ble_eq_true rfl, Nat.le_of_ble_eq_true rfl⟩) (fw_preV hW hK hR f_306 rfl) rfl rfl hl.1 rfl (lv_room (Nat.le_of_ble_eq_true rfl)) dX11_readsOrder_235 ⟨Nat.le_of_ble_eq_true rfl, Nat.le_of_ble_eq_true rfl⟩) hS (fun v_311 ω_312 H locs hq_313 hR hS => ?_)
    obtain ⟨rfl, z_314, f_316, fr_315⟩ := hq_313
    refine W.eq (g2 := F0 mI 238 ls []) rfl ?_
    obtain ⟨z_317, es_z_317⟩ : ∃ z : Nat → Int32, z = needsM z_296 g ip 61 := ⟨_, rfl⟩
    have f_318 : ω_312.2 m = some (.inr (13, [.ref (m + 1), .ref (m + 2), .ref (m + 3), .int (z_317 3), .ref (m + 4), .int (z_317 5), .ref (m + 5), .int (z_317 7), .int (z_317 8), .int (z_317 9), .int (z_317 10), .int (z_317 11), .ref (m + 6), .int (z_317 13), .int (z_317 14), .ref (m + 7), .int (z_317 16), .int (z_317 17), .ref (m + 8)])) := by rw [es_z_317]; exact f_316
    have pk_z_317 : PK z_317 567 := by rw [es_z_317]; exact (needsM_pk pk_z_296 (by omega))
    refine lv_aload_n hx hb dX11_readsOrder_238 rfl (lv_at hl 1 rfl) ?_
    refine fw_get (v := .ref (m + 8)) (C := RX11) (T := TX11) (N := 19) hx hb hts hin11 hown hK hR f_318 rfl 18 (by decide) (hts (.fieldLink RX11 36 "UnreadLeafletsModel" "told" "[I") (by decide +kernel)) rfl dX11_readsOrder_239 ?_
    refine lv_iload_n hx hb dX11_readsOrder_242 rfl (lv_at hl 2 rfl) ?_
    refine lv_iconst (v := 4) hx hb dX11_readsOrder_243 (by decide) ?_
    refine lv_iadd hx hb dX11_readsOrder_244 ?_
    refine lv_aload_n hx hb dX11_readsOrder_245 rfl (lv_at hl 1 rfl) ?_
    refine lv_iconst (v := 1) hx hb dX11_readsOrder_246 (by decide) ?_
    have f_319 : ω_312.2 (m + 1) = some (.inl (G.2.1 0, 324, .inl g)) := (fr_315 (m + 1) (by omega)).trans f_308
    have f_320 : ω_312.2 (m + 5) = some (.inl (G.2.1 1, 60, .inl ip)) := (fr_315 (m + 5) (by omega)).trans f_310
    refine fw_call (va_runV (As := [.int 1]) (rest := [.int ((nI k) + 4), .ref (m + 8)]) ⟨hx, hb, hml, hown, hts⟩ (c_X11_tongues G hL l ω_312 m z_317 g f_318 f_319 ip f_320 (PK_le pk_z_317 (by omega)) 1) (cwV 1 hts gX11_readsOrder_X11_tongues rfl rfl rfl (by decide +kernel) ⟨Nat.le_of_ble_eq_true rfl, Nat.le_of_ble_eq_true rfl⟩) (fw_preV hW hK hR f_318 rfl) rfl rfl hl.1 rfl (lv_room (Nat.le_of_ble_eq_true rfl)) dX11_readsOrder_247 ⟨Nat.le_of_ble_eq_true rfl, Nat.le_of_ble_eq_true rfl⟩) hS (fun v_321 ω_322 H locs hq_323 hR hS => ?_)
    obtain ⟨rfl, z_324, f_326, fr_325⟩ := hq_323
    refine W.eq (g2 := F0 mI 250 ls [.int ((tonM z_317 g ip 1).1), .int ((nI k) + 4), .ref (m + 8)]) rfl ?_
    obtain ⟨z_327, es_z_327⟩ : ∃ z : Nat → Int32, z = (tonM z_317 g ip 1).2 := ⟨_, rfl⟩
    have f_328 : ω_322.2 m = some (.inr (13, [.ref (m + 1), .ref (m + 2), .ref (m + 3), .int (z_327 3), .ref (m + 4), .int (z_327 5), .ref (m + 5), .int (z_327 7), .int (z_327 8), .int (z_327 9), .int (z_327 10), .int (z_327 11), .ref (m + 6), .int (z_327 13), .int (z_327 14), .ref (m + 7), .int (z_327 16), .int (z_327 17), .ref (m + 8)])) := by rw [es_z_327]; exact f_326
    have pk_z_327 : PK z_327 572 := by rw [es_z_327]; exact (tonM_pk pk_z_317 (by omega))
    have hi_329 : (nI k) + 4 = nI (k + 4) := by
      show (nI k) + (nI 4) = _
      simp only [pk_mul, nI_add, Nat.add_assoc]
    refine W.eq (g2 := F0 mI 250 ls [.int ((tonM z_317 g ip 1).1), .int (nI (k + 4)), .ref (m + 8)]) (by rw [hi_329]) ?_
    have f_330 : ω_312.2 (m + 8) = some (.inl (G.2.1 0, 300, .inl (upd z_276 (k + 3) ((figM z_286 g ip).1)))) := (fr_315 (m + 8) (by omega)).trans f_303
    have f_331 : ω_322.2 (m + 8) = some (.inl (G.2.1 0, 300, .inl (upd z_276 (k + 3) ((figM z_286 g ip).1)))) := (fr_325 (m + 8) (by omega)).trans f_330
    refine fw_iast hx hb hK hR hS f_331 (vp_in_nI (by omega) (by omega)) dX11_readsOrder_250 (fun H locs hR hS => ?_)
    rw [show (nI (k + 4)).toNatClampNeg = k + 4 from nI_clamp (by omega)] at hR
    obtain ⟨ω_332, hw_333⟩ : ∃ τ : FWd, τ = (ω_322.1, va_up ω_322.2 (m + 8) (some (.inl (G.2.1 0, 300, .inl (upd (upd z_276 (k + 3) ((figM z_286 g ip).1)) (k + 4) ((tonM z_317 g ip 1).1)))))) := ⟨_, rfl⟩
    have hR : fR G ω_332 H := by rw [hw_333]; exact hR
    have f_334 : ω_332.2 (m + 8) = some (.inl (G.2.1 0, 300, .inl (upd (upd z_276 (k + 3) ((figM z_286 g ip).1)) (k + 4) ((tonM z_317 g ip 1).1)))) := by rw [hw_333]; exact va_up_at
    have fr_335 : ∀ q : Nat, ¬ q = (m + 8) → ω_332.2 q = ω_322.2 q := fun q hq => by rw [hw_333]; exact va_up_off hq
    have z_336 : ω_332.1 = ω_322.1 := by rw [hw_333]
    refine lv_goto (tgt := 343) hx hb dX11_readsOrder_251 (by decide) ?_
    have f_337 : ω_332.2 m = some (.inr (13, [.ref (m + 1), .ref (m + 2), .ref (m + 3), .int (z_327 3), .ref (m + 4), .int (z_327 5), .ref (m + 5), .int (z_327 7), .int (z_327 8), .int (z_327 9), .int (z_327 10), .int (z_327 11), .ref (m + 6), .int (z_327 13), .int (z_327 14), .ref (m + 7), .int (z_327 16), .int (z_327 17), .ref (m + 8)])) := (fr_335 m (by omega)).trans f_328
    have fr_338 : ∀ q : Nat, ¬ q = m → ¬ q = (m + 8) → ω_332.2 q = ω.2 q := by
      intro q h0 h1
      rw [fr_335 q (by omega)]
      rw [fr_325 q (by omega)]
      rw [fr_315 q (by omega)]
      rw [fr_304 q (by omega)]
      rw [fr_294 q (by omega)]
      rw [fr_284 q (by omega)]
      rw [fr_271 q (by omega) (by omega)]
      rw [fr_13 q (by omega)]
      rw [fr_7 q (by omega)]
    have z_339 : ω_332.1 = ω.1 := by rw [z_336, z_324, z_314, z_305, z_293, z_283, z_270, z_14, z_8]
    have hr_340 : ordM s g ip td k = ((z_327, (upd (upd z_276 (k + 3) ((figM z_286 g ip).1)) (k + 4) ((tonM z_317 g ip 1).1))) : (Nat → Int32) × (Nat → Int32)) := by
      subst es_z_327 es_z_317 es_z_296 es_z_286 es_z_276 es_z_274
      simp only [ordM]
      rw [if_neg c_15, if_neg c_95, if_neg c_115, if_neg c_171, if_neg c_191, if_neg c_216, if_neg c_241, if_pos c_261]
    refine fw_vret hx hb hr hlocks hR hS dX11_readsOrder_343 ?_
    rw [hr_340]
    exact ⟨rfl, z_339, f_337, f_334, fr_338⟩
  by_cases c_341 : (hereM s g ip) = 116
  · skip
    refine lv_tableIn (off := 169) (tgt := 192) hx hb dX11_readsOrder_23 (by rw [c_341]; decide) (by rw [c_341]; decide) (by rw [c_341]; rfl) (by decide) ?_
    refine lv_aload_n hx hb dX11_readsOrder_192 rfl (lv_at hl 1 rfl) ?_
    have f_342 : ω_10.2 m = some (.inr (13, [.ref (m + 1), .ref (m + 2), .ref (m + 3), .int ((upd s 16 ((s 16) + 1)) 3), .ref (m + 4), .int ((upd s 16 ((s 16) + 1)) 5), .ref (m + 5), .int ((upd s 16 ((s 16) + 1)) 7), .int ((upd s 16 ((s 16) + 1)) 8), .int ((upd s 16 ((s 16) + 1)) 9), .int ((upd s 16 ((s 16) + 1)) 10), .int ((upd s 16 ((s 16) + 1)) 11), .ref (m + 6), .int ((upd s 16 ((s 16) + 1)) 13), .int ((upd s 16 ((s 16) + 1)) 14), .ref (m + 7), .int ((upd s 16 ((s 16) + 1)) 16), .int ((upd s 16 ((s 16) + 1)) 17), .ref (m + 8)])) := (fr_13 m (by omega)).trans f_6
    refine fw_get (v := .ref (m + 8)) (C := RX11) (T := TX11) (N := 19) hx hb hts hin11 hown hK hR f_342 rfl 18 (by decide) (hts (.fieldLink RX11 36 "UnreadLeafletsModel" "told" "[I") (by decide +kernel)) rfl dX11_readsOrder_193 ?_
    refine lv_iload_n hx hb dX11_readsOrder_196 rfl (lv_at hl 2 rfl) ?_
    refine lv_iconst (v := 1) hx hb dX11_readsOrder_197 (by decide) ?_
    refine lv_iadd hx hb dX11_readsOrder_198 ?_
    refine lv_aload_n hx hb dX11_readsOrder_199 rfl (lv_at hl 1 rfl) ?_
    have f_343 : ω_4.2 (m + 1) = some (.inl (G.2.1 0, 324, .inl g)) := (fr_7 (m + 1) (by omega)).trans m1
    have f_344 : ω_10.2 (m + 1) = some (.inl (G.2.1 0, 324, .inl g)) := (fr_13 (m + 1) (by omega)).trans f_343
    have f_345 : ω_4.2 (m + 5) = some (.inl (G.2.1 1, 60, .inl ip)) := (fr_7 (m + 5) (by omega)).trans m5
    have f_346 : ω_10.2 (m + 5) = some (.inl (G.2.1 1, 60, .inl ip)) := (fr_13 (m + 5) (by omega)).trans f_345
    refine fw_call (va_runV (As := []) (rest := [.int ((nI k) + 1), .ref (m + 8)]) ⟨hx, hb, hml, hown, hts⟩ (c_X11_figure G hL l ω_10 m (upd s 16 ((s 16) + 1)) g f_342 f_344 ip f_346 (PK_le (PK_16 hp (by omega)) (by omega))  ) (cwV 0 hts gX11_readsOrder_X11_figure rfl rfl rfl (by decide +kernel) ⟨Nat.le_of_ble_eq_true rfl, Nat.le_of_ble_eq_true rfl⟩) (fw_preV hW hK hR f_342 rfl) rfl rfl hl.1 rfl (lv_room (Nat.le_of_ble_eq_true rfl)) dX11_readsOrder_200 ⟨Nat.le_of_ble_eq_true rfl, Nat.le_of_ble_eq_true rfl⟩) hS (fun v_347 ω_348 H locs hq_349 hR hS => ?_)
    obtain ⟨rfl, z_350, f_352, fr_351⟩ := hq_349
    refine W.eq (g2 := F0 mI 203 ls [.int ((figM (upd s 16 ((s 16) + 1)) g ip).1), .int ((nI k) + 1), .ref (m + 8)]) rfl ?_
    obtain ⟨z_353, es_z_353⟩ : ∃ z : Nat → Int32, z = (figM (upd s 16 ((s 16) + 1)) g ip).2 := ⟨_, rfl⟩
    have f_354 : ω_348.2 m = some (.inr (13, [.ref (m + 1), .ref (m + 2), .ref (m + 3), .int (z_353 3), .ref (m + 4), .int (z_353 5), .ref (m + 5), .int (z_353 7), .int (z_353 8), .int (z_353 9), .int (z_353 10), .int (z_353 11), .ref (m + 6), .int (z_353 13), .int (z_353 14), .ref (m + 7), .int (z_353 16), .int (z_353 17), .ref (m + 8)])) := by rw [es_z_353]; exact f_352
    have pk_z_353 : PK z_353 562 := by rw [es_z_353]; exact (figM_pk (PK_16 hp (by omega)) (by omega))
    have hi_355 : (nI k) + 1 = nI (k + 1) := by
      show (nI k) + (nI 1) = _
      simp only [pk_mul, nI_add, Nat.add_assoc]
    refine W.eq (g2 := F0 mI 203 ls [.int ((figM (upd s 16 ((s 16) + 1)) g ip).1), .int (nI (k + 1)), .ref (m + 8)]) (by rw [hi_355]) ?_
    have f_356 : ω_348.2 (m + 8) = some (.inl (G.2.1 0, 300, .inl (upd td k (hereM s g ip)))) := (fr_351 (m + 8) (by omega)).trans f_12
    refine fw_iast hx hb hK hR hS f_356 (vp_in_nI (by omega) (by omega)) dX11_readsOrder_203 (fun H locs hR hS => ?_)
    rw [show (nI (k + 1)).toNatClampNeg = k + 1 from nI_clamp (by omega)] at hR
    obtain ⟨ω_357, hw_358⟩ : ∃ τ : FWd, τ = (ω_348.1, va_up ω_348.2 (m + 8) (some (.inl (G.2.1 0, 300, .inl (upd (upd td k (hereM s g ip)) (k + 1) ((figM (upd s 16 ((s 16) + 1)) g ip).1)))))) := ⟨_, rfl⟩
    have hR : fR G ω_357 H := by rw [hw_358]; exact hR
    have f_359 : ω_357.2 (m + 8) = some (.inl (G.2.1 0, 300, .inl (upd (upd td k (hereM s g ip)) (k + 1) ((figM (upd s 16 ((s 16) + 1)) g ip).1)))) := by rw [hw_358]; exact va_up_at
    have fr_360 : ∀ q : Nat, ¬ q = (m + 8) → ω_357.2 q = ω_348.2 q := fun q hq => by rw [hw_358]; exact va_up_off hq
    have z_361 : ω_357.1 = ω_348.1 := by rw [hw_358]
    refine lv_goto (tgt := 343) hx hb dX11_readsOrder_204 (by decide) ?_
    have f_362 : ω_357.2 m = some (.inr (13, [.ref (m + 1), .ref (m + 2), .ref (m + 3), .int (z_353 3), .ref (m + 4), .int (z_353 5), .ref (m + 5), .int (z_353 7), .int (z_353 8), .int (z_353 9), .int (z_353 10), .int (z_353 11), .ref (m + 6), .int (z_353 13), .int (z_353 14), .ref (m + 7), .int (z_353 16), .int (z_353 17), .ref (m + 8)])) := (fr_360 m (by omega)).trans f_354
    have fr_363 : ∀ q : Nat, ¬ q = m → ¬ q = (m + 8) → ω_357.2 q = ω.2 q := by
      intro q h0 h1
      rw [fr_360 q (by omega)]
      rw [fr_351 q (by omega)]
      rw [fr_13 q (by omega)]
      rw [fr_7 q (by omega)]
    have z_364 : ω_357.1 = ω.1 := by rw [z_361, z_350, z_14, z_8]
    have hr_365 : ordM s g ip td k = ((z_353, (upd (upd td k (hereM s g ip)) (k + 1) ((figM (upd s 16 ((s 16) + 1)) g ip).1))) : (Nat → Int32) × (Nat → Int32)) := by
      subst es_z_353
      simp only [ordM]
      rw [if_neg c_15, if_neg c_95, if_neg c_115, if_neg c_171, if_neg c_191, if_neg c_216, if_neg c_241, if_neg c_261, if_pos c_341]
    refine fw_vret hx hb hr hlocks hR hS dX11_readsOrder_343 ?_
    rw [hr_365]
    exact ⟨rfl, z_364, f_362, f_359, fr_363⟩
  by_cases c_366 : (hereM s g ip) = 117
  · skip
    refine lv_tableIn (off := 169) (tgt := 192) hx hb dX11_readsOrder_23 (by rw [c_366]; decide) (by rw [c_366]; decide) (by rw [c_366]; rfl) (by decide) ?_
    refine lv_aload_n hx hb dX11_readsOrder_192 rfl (lv_at hl 1 rfl) ?_
    have f_367 : ω_10.2 m = some (.inr (13, [.ref (m + 1), .ref (m + 2), .ref (m + 3), .int ((upd s 16 ((s 16) + 1)) 3), .ref (m + 4), .int ((upd s 16 ((s 16) + 1)) 5), .ref (m + 5), .int ((upd s 16 ((s 16) + 1)) 7), .int ((upd s 16 ((s 16) + 1)) 8), .int ((upd s 16 ((s 16) + 1)) 9), .int ((upd s 16 ((s 16) + 1)) 10), .int ((upd s 16 ((s 16) + 1)) 11), .ref (m + 6), .int ((upd s 16 ((s 16) + 1)) 13), .int ((upd s 16 ((s 16) + 1)) 14), .ref (m + 7), .int ((upd s 16 ((s 16) + 1)) 16), .int ((upd s 16 ((s 16) + 1)) 17), .ref (m + 8)])) := (fr_13 m (by omega)).trans f_6
    refine fw_get (v := .ref (m + 8)) (C := RX11) (T := TX11) (N := 19) hx hb hts hin11 hown hK hR f_367 rfl 18 (by decide) (hts (.fieldLink RX11 36 "UnreadLeafletsModel" "told" "[I") (by decide +kernel)) rfl dX11_readsOrder_193 ?_
    refine lv_iload_n hx hb dX11_readsOrder_196 rfl (lv_at hl 2 rfl) ?_
    refine lv_iconst (v := 1) hx hb dX11_readsOrder_197 (by decide) ?_
    refine lv_iadd hx hb dX11_readsOrder_198 ?_
    refine lv_aload_n hx hb dX11_readsOrder_199 rfl (lv_at hl 1 rfl) ?_
    have f_368 : ω_4.2 (m + 1) = some (.inl (G.2.1 0, 324, .inl g)) := (fr_7 (m + 1) (by omega)).trans m1
    have f_369 : ω_10.2 (m + 1) = some (.inl (G.2.1 0, 324, .inl g)) := (fr_13 (m + 1) (by omega)).trans f_368
    have f_370 : ω_4.2 (m + 5) = some (.inl (G.2.1 1, 60, .inl ip)) := (fr_7 (m + 5) (by omega)).trans m5
    have f_371 : ω_10.2 (m + 5) = some (.inl (G.2.1 1, 60, .inl ip)) := (fr_13 (m + 5) (by omega)).trans f_370
    refine fw_call (va_runV (As := []) (rest := [.int ((nI k) + 1), .ref (m + 8)]) ⟨hx, hb, hml, hown, hts⟩ (c_X11_figure G hL l ω_10 m (upd s 16 ((s 16) + 1)) g f_367 f_369 ip f_371 (PK_le (PK_16 hp (by omega)) (by omega))  ) (cwV 0 hts gX11_readsOrder_X11_figure rfl rfl rfl (by decide +kernel) ⟨Nat.le_of_ble_eq_true rfl, Nat.le_of_ble_eq_true rfl⟩) (fw_preV hW hK hR f_367 rfl) rfl rfl hl.1 rfl (lv_room (Nat.le_of_ble_eq_true rfl)) dX11_readsOrder_200 ⟨Nat.le_of_ble_eq_true rfl, Nat.le_of_ble_eq_true rfl⟩) hS (fun v_372 ω_373 H locs hq_374 hR hS => ?_)
    obtain ⟨rfl, z_375, f_377, fr_376⟩ := hq_374
    refine W.eq (g2 := F0 mI 203 ls [.int ((figM (upd s 16 ((s 16) + 1)) g ip).1), .int ((nI k) + 1), .ref (m + 8)]) rfl ?_
    obtain ⟨z_378, es_z_378⟩ : ∃ z : Nat → Int32, z = (figM (upd s 16 ((s 16) + 1)) g ip).2 := ⟨_, rfl⟩
    have f_379 : ω_373.2 m = some (.inr (13, [.ref (m + 1), .ref (m + 2), .ref (m + 3), .int (z_378 3), .ref (m + 4), .int (z_378 5), .ref (m + 5), .int (z_378 7), .int (z_378 8), .int (z_378 9), .int (z_378 10), .int (z_378 11), .ref (m + 6), .int (z_378 13), .int (z_378 14), .ref (m + 7), .int (z_378 16), .int (z_378 17), .ref (m + 8)])) := by rw [es_z_378]; exact f_377
    have pk_z_378 : PK z_378 562 := by rw [es_z_378]; exact (figM_pk (PK_16 hp (by omega)) (by omega))
    have hi_380 : (nI k) + 1 = nI (k + 1) := by
      show (nI k) + (nI 1) = _
      simp only [pk_mul, nI_add, Nat.add_assoc]
    refine W.eq (g2 := F0 mI 203 ls [.int ((figM (upd s 16 ((s 16) + 1)) g ip).1), .int (nI (k + 1)), .ref (m + 8)]) (by rw [hi_380]) ?_
    have f_381 : ω_373.2 (m + 8) = some (.inl (G.2.1 0, 300, .inl (upd td k (hereM s g ip)))) := (fr_376 (m + 8) (by omega)).trans f_12
    refine fw_iast hx hb hK hR hS f_381 (vp_in_nI (by omega) (by omega)) dX11_readsOrder_203 (fun H locs hR hS => ?_)
    rw [show (nI (k + 1)).toNatClampNeg = k + 1 from nI_clamp (by omega)] at hR
    obtain ⟨ω_382, hw_383⟩ : ∃ τ : FWd, τ = (ω_373.1, va_up ω_373.2 (m + 8) (some (.inl (G.2.1 0, 300, .inl (upd (upd td k (hereM s g ip)) (k + 1) ((figM (upd s 16 ((s 16) + 1)) g ip).1)))))) := ⟨_, rfl⟩
    have hR : fR G ω_382 H := by rw [hw_383]; exact hR
    have f_384 : ω_382.2 (m + 8) = some (.inl (G.2.1 0, 300, .inl (upd (upd td k (hereM s g ip)) (k + 1) ((figM (upd s 16 ((s 16) + 1)) g ip).1)))) := by rw [hw_383]; exact va_up_at
    have fr_385 : ∀ q : Nat, ¬ q = (m + 8) → ω_382.2 q = ω_373.2 q := fun q hq => by rw [hw_383]; exact va_up_off hq
    have z_386 : ω_382.1 = ω_373.1 := by rw [hw_383]
    refine lv_goto (tgt := 343) hx hb dX11_readsOrder_204 (by decide) ?_
    have f_387 : ω_382.2 m = some (.inr (13, [.ref (m + 1), .ref (m + 2), .ref (m + 3), .int (z_378 3), .ref (m + 4), .int (z_378 5), .ref (m + 5), .int (z_378 7), .int (z_378 8), .int (z_378 9), .int (z_378 10), .int (z_378 11), .ref (m + 6), .int (z_378 13), .int (z_378 14), .ref (m + 7), .int (z_378 16), .int (z_378 17), .ref (m + 8)])) := (fr_385 m (by omega)).trans f_379
    have fr_388 : ∀ q : Nat, ¬ q = m → ¬ q = (m + 8) → ω_382.2 q = ω.2 q := by
      intro q h0 h1
      rw [fr_385 q (by omega)]
      rw [fr_376 q (by omega)]
      rw [fr_13 q (by omega)]
      rw [fr_7 q (by omega)]
    have z_389 : ω_382.1 = ω.1 := by rw [z_386, z_375, z_14, z_8]
    have hr_390 : ordM s g ip td k = ((z_378, (upd (upd td k (hereM s g ip)) (k + 1) ((figM (upd s 16 ((s 16) + 1)) g ip).1))) : (Nat → Int32) × (Nat → Int32)) := by
      subst es_z_378
      simp only [ordM]
      rw [if_neg c_15, if_neg c_95, if_neg c_115, if_neg c_171, if_neg c_191, if_neg c_216, if_neg c_241, if_neg c_261, if_neg c_341, if_pos c_366]
    refine fw_vret hx hb hr hlocks hR hS dX11_readsOrder_343 ?_
    rw [hr_390]
    exact ⟨rfl, z_389, f_387, f_384, fr_388⟩
  by_cases c_391 : (hereM s g ip) = 120
  · skip
    refine lv_tableIn (off := 295) (tgt := 318) hx hb dX11_readsOrder_23 (by rw [c_391]; decide) (by rw [c_391]; decide) (by rw [c_391]; rfl) (by decide) ?_
    refine lv_aload_n hx hb dX11_readsOrder_318 rfl (lv_at hl 1 rfl) ?_
    refine lv_iload_n hx hb dX11_readsOrder_319 rfl (lv_at hl 2 rfl) ?_
    refine lv_bipush (v := 42) hx hb dX11_readsOrder_320 (by decide) ?_
    have f_392 : ω_10.2 m = some (.inr (13, [.ref (m + 1), .ref (m + 2), .ref (m + 3), .int ((upd s 16 ((s 16) + 1)) 3), .ref (m + 4), .int ((upd s 16 ((s 16) + 1)) 5), .ref (m + 5), .int ((upd s 16 ((s 16) + 1)) 7), .int ((upd s 16 ((s 16) + 1)) 8), .int ((upd s 16 ((s 16) + 1)) 9), .int ((upd s 16 ((s 16) + 1)) 10), .int ((upd s 16 ((s 16) + 1)) 11), .ref (m + 6), .int ((upd s 16 ((s 16) + 1)) 13), .int ((upd s 16 ((s 16) + 1)) 14), .ref (m + 7), .int ((upd s 16 ((s 16) + 1)) 16), .int ((upd s 16 ((s 16) + 1)) 17), .ref (m + 8)])) := (fr_13 m (by omega)).trans f_6
    have f_393 : ω_4.2 (m + 1) = some (.inl (G.2.1 0, 324, .inl g)) := (fr_7 (m + 1) (by omega)).trans m1
    have f_394 : ω_10.2 (m + 1) = some (.inl (G.2.1 0, 324, .inl g)) := (fr_13 (m + 1) (by omega)).trans f_393
    have f_395 : ω_4.2 (m + 5) = some (.inl (G.2.1 1, 60, .inl ip)) := (fr_7 (m + 5) (by omega)).trans m5
    have f_396 : ω_10.2 (m + 5) = some (.inl (G.2.1 1, 60, .inl ip)) := (fr_13 (m + 5) (by omega)).trans f_395
    refine fw_call (va_runV (As := [.int (nI k), .int 42]) (rest := []) ⟨hx, hb, hml, hown, hts⟩ (c_X11_readsPair G hL l ω_10 m (upd s 16 ((s 16) + 1)) g f_392 f_394 ip f_396 (upd td k (hereM s g ip)) f_12 (PK_le (PK_16 hp (by omega)) (by omega)) k 42 (by omega)) (cwV 2 hts gX11_readsOrder_X11_readsPair rfl rfl rfl (by decide +kernel) ⟨Nat.le_of_ble_eq_true rfl, Nat.le_of_ble_eq_true rfl⟩) (fw_preV hW hK hR f_392 rfl) rfl rfl hl.1 rfl (lv_room (Nat.le_of_ble_eq_true rfl)) dX11_readsOrder_322 ⟨Nat.le_of_ble_eq_true rfl, Nat.le_of_ble_eq_true rfl⟩) hS (fun v_397 ω_398 H locs hq_399 hR hS => ?_)
    obtain ⟨rfl, z_400, f_402, f_403, fr_401⟩ := hq_399
    refine W.eq (g2 := F0 mI 325 ls []) rfl ?_
    obtain ⟨z_404, es_z_404⟩ : ∃ z : Nat → Int32, z = (pairM (upd s 16 ((s 16) + 1)) g ip (upd td k (hereM s g ip)) k 42).1 := ⟨_, rfl⟩
    have f_405 : ω_398.2 m = some (.inr (13, [.ref (m + 1), .ref (m + 2), .ref (m + 3), .int (z_404 3), .ref (m + 4), .int (z_404 5), .ref (m + 5), .int (z_404 7), .int (z_404 8), .int (z_404 9), .int (z_404 10), .int (z_404 11), .ref (m + 6), .int (z_404 13), .int (z_404 14), .ref (m + 7), .int (z_404 16), .int (z_404 17), .ref (m + 8)])) := by rw [es_z_404]; exact f_402
    have pk_z_404 : PK z_404 564 := by rw [es_z_404]; exact (pairM_pk (PK_16 hp (by omega)) (by omega))
    obtain ⟨z_406, es_z_406⟩ : ∃ z : Nat → Int32, z = (pairM (upd s 16 ((s 16) + 1)) g ip (upd td k (hereM s g ip)) k 42).2 := ⟨_, rfl⟩
    have f_407 : ω_398.2 (m + 8) = some (.inl (G.2.1 0, 300, .inl z_406)) := by rw [es_z_406]; exact f_403
    refine lv_goto (tgt := 343) hx hb dX11_readsOrder_325 (by decide) ?_
    have fr_408 : ∀ q : Nat, ¬ q = m → ¬ q = (m + 8) → ω_398.2 q = ω.2 q := by
      intro q h0 h1
      rw [fr_401 q (by omega) (by omega)]
      rw [fr_13 q (by omega)]
      rw [fr_7 q (by omega)]
    have z_409 : ω_398.1 = ω.1 := by rw [z_400, z_14, z_8]
    have hr_410 : ordM s g ip td k = ((z_404, z_406) : (Nat → Int32) × (Nat → Int32)) := by
      subst es_z_406 es_z_404
      simp only [ordM]
      rw [if_neg c_15, if_neg c_95, if_neg c_115, if_neg c_171, if_neg c_191, if_neg c_216, if_neg c_241, if_neg c_261, if_neg c_341, if_neg c_366, if_pos c_391]
    refine fw_vret hx hb hr hlocks hR hS dX11_readsOrder_343 ?_
    rw [hr_410]
    exact ⟨rfl, z_409, f_405, f_407, fr_408⟩
  by_cases c_411 : (hereM s g ip) = 121
  · skip
    refine lv_tableIn (off := 295) (tgt := 318) hx hb dX11_readsOrder_23 (by rw [c_411]; decide) (by rw [c_411]; decide) (by rw [c_411]; rfl) (by decide) ?_
    refine lv_aload_n hx hb dX11_readsOrder_318 rfl (lv_at hl 1 rfl) ?_
    refine lv_iload_n hx hb dX11_readsOrder_319 rfl (lv_at hl 2 rfl) ?_
    refine lv_bipush (v := 42) hx hb dX11_readsOrder_320 (by decide) ?_
    have f_412 : ω_10.2 m = some (.inr (13, [.ref (m + 1), .ref (m + 2), .ref (m + 3), .int ((upd s 16 ((s 16) + 1)) 3), .ref (m + 4), .int ((upd s 16 ((s 16) + 1)) 5), .ref (m + 5), .int ((upd s 16 ((s 16) + 1)) 7), .int ((upd s 16 ((s 16) + 1)) 8), .int ((upd s 16 ((s 16) + 1)) 9), .int ((upd s 16 ((s 16) + 1)) 10), .int ((upd s 16 ((s 16) + 1)) 11), .ref (m + 6), .int ((upd s 16 ((s 16) + 1)) 13), .int ((upd s 16 ((s 16) + 1)) 14), .ref (m + 7), .int ((upd s 16 ((s 16) + 1)) 16), .int ((upd s 16 ((s 16) + 1)) 17), .ref (m + 8)])) := (fr_13 m (by omega)).trans f_6
    have f_413 : ω_4.2 (m + 1) = some (.inl (G.2.1 0, 324, .inl g)) := (fr_7 (m + 1) (by omega)).trans m1
    have f_414 : ω_10.2 (m + 1) = some (.inl (G.2.1 0, 324, .inl g)) := (fr_13 (m + 1) (by omega)).trans f_413
    have f_415 : ω_4.2 (m + 5) = some (.inl (G.2.1 1, 60, .inl ip)) := (fr_7 (m + 5) (by omega)).trans m5
    have f_416 : ω_10.2 (m + 5) = some (.inl (G.2.1 1, 60, .inl ip)) := (fr_13 (m + 5) (by omega)).trans f_415
    refine fw_call (va_runV (As := [.int (nI k), .int 42]) (rest := []) ⟨hx, hb, hml, hown, hts⟩ (c_X11_readsPair G hL l ω_10 m (upd s 16 ((s 16) + 1)) g f_412 f_414 ip f_416 (upd td k (hereM s g ip)) f_12 (PK_le (PK_16 hp (by omega)) (by omega)) k 42 (by omega)) (cwV 2 hts gX11_readsOrder_X11_readsPair rfl rfl rfl (by decide +kernel) ⟨Nat.le_of_ble_eq_true rfl, Nat.le_of_ble_eq_true rfl⟩) (fw_preV hW hK hR f_412 rfl) rfl rfl hl.1 rfl (lv_room (Nat.le_of_ble_eq_true rfl)) dX11_readsOrder_322 ⟨Nat.le_of_ble_eq_true rfl, Nat.le_of_ble_eq_true rfl⟩) hS (fun v_417 ω_418 H locs hq_419 hR hS => ?_)
    obtain ⟨rfl, z_420, f_422, f_423, fr_421⟩ := hq_419
    refine W.eq (g2 := F0 mI 325 ls []) rfl ?_
    obtain ⟨z_424, es_z_424⟩ : ∃ z : Nat → Int32, z = (pairM (upd s 16 ((s 16) + 1)) g ip (upd td k (hereM s g ip)) k 42).1 := ⟨_, rfl⟩
    have f_425 : ω_418.2 m = some (.inr (13, [.ref (m + 1), .ref (m + 2), .ref (m + 3), .int (z_424 3), .ref (m + 4), .int (z_424 5), .ref (m + 5), .int (z_424 7), .int (z_424 8), .int (z_424 9), .int (z_424 10), .int (z_424 11), .ref (m + 6), .int (z_424 13), .int (z_424 14), .ref (m + 7), .int (z_424 16), .int (z_424 17), .ref (m + 8)])) := by rw [es_z_424]; exact f_422
    have pk_z_424 : PK z_424 564 := by rw [es_z_424]; exact (pairM_pk (PK_16 hp (by omega)) (by omega))
    obtain ⟨z_426, es_z_426⟩ : ∃ z : Nat → Int32, z = (pairM (upd s 16 ((s 16) + 1)) g ip (upd td k (hereM s g ip)) k 42).2 := ⟨_, rfl⟩
    have f_427 : ω_418.2 (m + 8) = some (.inl (G.2.1 0, 300, .inl z_426)) := by rw [es_z_426]; exact f_423
    refine lv_goto (tgt := 343) hx hb dX11_readsOrder_325 (by decide) ?_
    have fr_428 : ∀ q : Nat, ¬ q = m → ¬ q = (m + 8) → ω_418.2 q = ω.2 q := by
      intro q h0 h1
      rw [fr_421 q (by omega) (by omega)]
      rw [fr_13 q (by omega)]
      rw [fr_7 q (by omega)]
    have z_429 : ω_418.1 = ω.1 := by rw [z_420, z_14, z_8]
    have hr_430 : ordM s g ip td k = ((z_424, z_426) : (Nat → Int32) × (Nat → Int32)) := by
      subst es_z_426 es_z_424
      simp only [ordM]
      rw [if_neg c_15, if_neg c_95, if_neg c_115, if_neg c_171, if_neg c_191, if_neg c_216, if_neg c_241, if_neg c_261, if_neg c_341, if_neg c_366, if_neg c_391, if_pos c_411]
    refine fw_vret hx hb hr hlocks hR hS dX11_readsOrder_343 ?_
    rw [hr_430]
    exact ⟨rfl, z_429, f_425, f_427, fr_428⟩
  have tc_15 := lv_neT c_15 (show (83 : Int32).toInt = 83 by decide)
  have tc_95 := lv_neT c_95 (show (98 : Int32).toInt = 98 by decide)
  have tc_115 := lv_neT c_115 (show (99 : Int32).toInt = 99 by decide)
  have tc_171 := lv_neT c_171 (show (100 : Int32).toInt = 100 by decide)
  have tc_191 := lv_neT c_191 (show (102 : Int32).toInt = 102 by decide)
  have tc_216 := lv_neT c_216 (show (108 : Int32).toInt = 108 by decide)
  have tc_241 := lv_neT c_241 (show (109 : Int32).toInt = 109 by decide)
  have tc_261 := lv_neT c_261 (show (115 : Int32).toInt = 115 by decide)
  have tc_341 := lv_neT c_341 (show (116 : Int32).toInt = 116 by decide)
  have tc_366 := lv_neT c_366 (show (117 : Int32).toInt = 117 by decide)
  have tc_391 := lv_neT c_391 (show (120 : Int32).toInt = 120 by decide)
  have tc_411 := lv_neT c_411 (show (121 : Int32).toInt = 121 by decide)
  have hg_431 : ∀ n9 : Nat, n9 < 39 → (decide (n9 ∈ [0, 15, 16, 17, 19, 25, 26, 32, 33, 34, 37, 38]) || (#[184, 305, 305, 305, 305, 305, 305, 305, 305, 305, 305, 305, 305, 305, 305, 265, 231, 275, 305, 169, 305, 305, 305, 305, 305, 169, 285, 305, 305, 305, 305, 305, 184, 169, 169, 305, 305, 295, 295] : Array Int)[n9]? == some (305 : Int)) = true := by decide
  have hgd_432 : (hereM s g ip).toInt < 83 ∨ 121 < (hereM s g ip).toInt ∨ (#[184, 305, 305, 305, 305, 305, 305, 305, 305, 305, 305, 305, 305, 305, 305, 265, 231, 275, 305, 169, 305, 305, 305, 305, 305, 169, 285, 305, 305, 305, 305, 305, 184, 169, 169, 305, 305, 295, 295] : Array Int)[((hereM s g ip).toInt - 83).toNat]? = some (305 : Int) := by
    by_cases h8 : (hereM s g ip).toInt < 83 ∨ 121 < (hereM s g ip).toInt
    · exact h8.elim Or.inl (fun z => Or.inr (Or.inl z))
    · rcases (Bool.or_eq_true _ _).mp (hg_431 ((hereM s g ip).toInt - 83).toNat (by omega)) with h6 | h6
      · exfalso
        have h5 := of_decide_eq_true h6
        simp only [List.mem_cons, List.not_mem_nil, or_false] at h5
        omega
      · exact Or.inr (Or.inr (eq_of_beq h6))
  refine lv_tableD (tgt := 328) hx hb dX11_readsOrder_23 hgd_432 (by decide) ?_
  refine lv_aload_n hx hb dX11_readsOrder_328 rfl (lv_at hl 1 rfl) ?_
  refine lv_iconst (v := 1) hx hb dX11_readsOrder_329 (by decide) ?_
  have f_433 : ω_10.2 m = some (.inr (13, [.ref (m + 1), .ref (m + 2), .ref (m + 3), .int ((upd s 16 ((s 16) + 1)) 3), .ref (m + 4), .int ((upd s 16 ((s 16) + 1)) 5), .ref (m + 5), .int ((upd s 16 ((s 16) + 1)) 7), .int ((upd s 16 ((s 16) + 1)) 8), .int ((upd s 16 ((s 16) + 1)) 9), .int ((upd s 16 ((s 16) + 1)) 10), .int ((upd s 16 ((s 16) + 1)) 11), .ref (m + 6), .int ((upd s 16 ((s 16) + 1)) 13), .int ((upd s 16 ((s 16) + 1)) 14), .ref (m + 7), .int ((upd s 16 ((s 16) + 1)) 16), .int ((upd s 16 ((s 16) + 1)) 17), .ref (m + 8)])) := (fr_13 m (by omega)).trans f_6
  refine fw_put (v := .int 1) (C := RX11) (T := TX11) (N := 19) hx hb hts hin11 tyX11 tyX11_ok nmX11 hown hK hR hS f_433 rfl 17 (by decide) (hts (.fieldLink RX11 195 "UnreadLeafletsModel" "isWrong" "Z") (by decide +kernel)) rfl rfl rfl (Nat.le_of_ble_eq_true rfl) dX11_readsOrder_330 (fun H locs hR hS => ?_)
  obtain ⟨ω_434, hw_435⟩ : ∃ τ : FWd, τ = (ω_10.1, va_up ω_10.2 m (some (.inr (13, [.ref (m + 1), .ref (m + 2), .ref (m + 3), .int ((upd (upd s 16 ((s 16) + 1)) 17 1) 3), .ref (m + 4), .int ((upd (upd s 16 ((s 16) + 1)) 17 1) 5), .ref (m + 5), .int ((upd (upd s 16 ((s 16) + 1)) 17 1) 7), .int ((upd (upd s 16 ((s 16) + 1)) 17 1) 8), .int ((upd (upd s 16 ((s 16) + 1)) 17 1) 9), .int ((upd (upd s 16 ((s 16) + 1)) 17 1) 10), .int ((upd (upd s 16 ((s 16) + 1)) 17 1) 11), .ref (m + 6), .int ((upd (upd s 16 ((s 16) + 1)) 17 1) 13), .int ((upd (upd s 16 ((s 16) + 1)) 17 1) 14), .ref (m + 7), .int ((upd (upd s 16 ((s 16) + 1)) 17 1) 16), .int ((upd (upd s 16 ((s 16) + 1)) 17 1) 17), .ref (m + 8)])))) := ⟨_, rfl⟩
  have hR : fR G ω_434 H := by rw [hw_435]; exact hR
  have f_436 : ω_434.2 m = some (.inr (13, [.ref (m + 1), .ref (m + 2), .ref (m + 3), .int ((upd (upd s 16 ((s 16) + 1)) 17 1) 3), .ref (m + 4), .int ((upd (upd s 16 ((s 16) + 1)) 17 1) 5), .ref (m + 5), .int ((upd (upd s 16 ((s 16) + 1)) 17 1) 7), .int ((upd (upd s 16 ((s 16) + 1)) 17 1) 8), .int ((upd (upd s 16 ((s 16) + 1)) 17 1) 9), .int ((upd (upd s 16 ((s 16) + 1)) 17 1) 10), .int ((upd (upd s 16 ((s 16) + 1)) 17 1) 11), .ref (m + 6), .int ((upd (upd s 16 ((s 16) + 1)) 17 1) 13), .int ((upd (upd s 16 ((s 16) + 1)) 17 1) 14), .ref (m + 7), .int ((upd (upd s 16 ((s 16) + 1)) 17 1) 16), .int ((upd (upd s 16 ((s 16) + 1)) 17 1) 17), .ref (m + 8)])) := by rw [hw_435]; exact va_up_at
  have fr_437 : ∀ q : Nat, ¬ q = m → ω_434.2 q = ω_10.2 q := fun q hq => by rw [hw_435]; exact va_up_off hq
  have z_438 : ω_434.1 = ω_10.1 := by rw [hw_435]
  refine lv_aload_n hx hb dX11_readsOrder_333 rfl (lv_at hl 1 rfl) ?_
  refine lv_dup hx hb dX11_readsOrder_334 rfl ?_
  refine fw_get (v := .int ((s 16) + 1)) (C := RX11) (T := TX11) (N := 19) hx hb hts hin11 hown hK hR f_436 rfl 16 (by decide) (hts (.fieldLink RX11 192 "UnreadLeafletsModel" "spot" "I") (by decide +kernel)) rfl dX11_readsOrder_335 ?_
  refine lv_iconst (v := 1) hx hb dX11_readsOrder_338 (by decide) ?_
  refine lv_isub hx hb dX11_readsOrder_339 ?_
  refine fw_put (v := .int (((s 16) + 1) - 1)) (C := RX11) (T := TX11) (N := 19) hx hb hts hin11 tyX11 tyX11_ok nmX11 hown hK hR hS f_436 rfl 16 (by decide) (hts (.fieldLink RX11 192 "UnreadLeafletsModel" "spot" "I") (by decide +kernel)) rfl rfl rfl (Nat.le_of_ble_eq_true rfl) dX11_readsOrder_340 (fun H locs hR hS => ?_)
  obtain ⟨ω_439, hw_440⟩ : ∃ τ : FWd, τ = (ω_434.1, va_up ω_434.2 m (some (.inr (13, [.ref (m + 1), .ref (m + 2), .ref (m + 3), .int ((upd (upd (upd s 16 ((s 16) + 1)) 17 1) 16 (((s 16) + 1) - 1)) 3), .ref (m + 4), .int ((upd (upd (upd s 16 ((s 16) + 1)) 17 1) 16 (((s 16) + 1) - 1)) 5), .ref (m + 5), .int ((upd (upd (upd s 16 ((s 16) + 1)) 17 1) 16 (((s 16) + 1) - 1)) 7), .int ((upd (upd (upd s 16 ((s 16) + 1)) 17 1) 16 (((s 16) + 1) - 1)) 8), .int ((upd (upd (upd s 16 ((s 16) + 1)) 17 1) 16 (((s 16) + 1) - 1)) 9), .int ((upd (upd (upd s 16 ((s 16) + 1)) 17 1) 16 (((s 16) + 1) - 1)) 10), .int ((upd (upd (upd s 16 ((s 16) + 1)) 17 1) 16 (((s 16) + 1) - 1)) 11), .ref (m + 6), .int ((upd (upd (upd s 16 ((s 16) + 1)) 17 1) 16 (((s 16) + 1) - 1)) 13), .int ((upd (upd (upd s 16 ((s 16) + 1)) 17 1) 16 (((s 16) + 1) - 1)) 14), .ref (m + 7), .int ((upd (upd (upd s 16 ((s 16) + 1)) 17 1) 16 (((s 16) + 1) - 1)) 16), .int ((upd (upd (upd s 16 ((s 16) + 1)) 17 1) 16 (((s 16) + 1) - 1)) 17), .ref (m + 8)])))) := ⟨_, rfl⟩
  have hR : fR G ω_439 H := by rw [hw_440]; exact hR
  have f_441 : ω_439.2 m = some (.inr (13, [.ref (m + 1), .ref (m + 2), .ref (m + 3), .int ((upd (upd (upd s 16 ((s 16) + 1)) 17 1) 16 (((s 16) + 1) - 1)) 3), .ref (m + 4), .int ((upd (upd (upd s 16 ((s 16) + 1)) 17 1) 16 (((s 16) + 1) - 1)) 5), .ref (m + 5), .int ((upd (upd (upd s 16 ((s 16) + 1)) 17 1) 16 (((s 16) + 1) - 1)) 7), .int ((upd (upd (upd s 16 ((s 16) + 1)) 17 1) 16 (((s 16) + 1) - 1)) 8), .int ((upd (upd (upd s 16 ((s 16) + 1)) 17 1) 16 (((s 16) + 1) - 1)) 9), .int ((upd (upd (upd s 16 ((s 16) + 1)) 17 1) 16 (((s 16) + 1) - 1)) 10), .int ((upd (upd (upd s 16 ((s 16) + 1)) 17 1) 16 (((s 16) + 1) - 1)) 11), .ref (m + 6), .int ((upd (upd (upd s 16 ((s 16) + 1)) 17 1) 16 (((s 16) + 1) - 1)) 13), .int ((upd (upd (upd s 16 ((s 16) + 1)) 17 1) 16 (((s 16) + 1) - 1)) 14), .ref (m + 7), .int ((upd (upd (upd s 16 ((s 16) + 1)) 17 1) 16 (((s 16) + 1) - 1)) 16), .int ((upd (upd (upd s 16 ((s 16) + 1)) 17 1) 16 (((s 16) + 1) - 1)) 17), .ref (m + 8)])) := by rw [hw_440]; exact va_up_at
  have fr_442 : ∀ q : Nat, ¬ q = m → ω_439.2 q = ω_434.2 q := fun q hq => by rw [hw_440]; exact va_up_off hq
  have z_443 : ω_439.1 = ω_434.1 := by rw [hw_440]
  have f_444 : ω_434.2 (m + 8) = some (.inl (G.2.1 0, 300, .inl (upd td k (hereM s g ip)))) := (fr_437 (m + 8) (by omega)).trans f_12
  have f_445 : ω_439.2 (m + 8) = some (.inl (G.2.1 0, 300, .inl (upd td k (hereM s g ip)))) := (fr_442 (m + 8) (by omega)).trans f_444
  have fr_446 : ∀ q : Nat, ¬ q = m → ¬ q = (m + 8) → ω_439.2 q = ω.2 q := by
    intro q h0 h1
    rw [fr_442 q (by omega)]
    rw [fr_437 q (by omega)]
    rw [fr_13 q (by omega)]
    rw [fr_7 q (by omega)]
  have z_447 : ω_439.1 = ω.1 := by rw [z_443, z_438, z_14, z_8]
  have hr_448 : ordM s g ip td k = (((upd (upd (upd s 16 ((s 16) + 1)) 17 1) 16 (((s 16) + 1) - 1)), (upd td k (hereM s g ip))) : (Nat → Int32) × (Nat → Int32)) := by
    simp only [ordM]
    rw [if_neg c_15, if_neg c_95, if_neg c_115, if_neg c_171, if_neg c_191, if_neg c_216, if_neg c_241, if_neg c_261, if_neg c_341, if_neg c_366, if_neg c_391, if_neg c_411]
  refine fw_vret hx hb hr hlocks hR hS dX11_readsOrder_343 ?_
  rw [hr_448]
  exact ⟨rfl, z_447, f_441, f_445, fr_446⟩
