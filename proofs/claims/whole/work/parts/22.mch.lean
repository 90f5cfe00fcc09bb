/-! ===== printed by program (wip/whole/gen): the reference's changes ===== -/
def laysM (s g : Nat → Int32) (sh : Int32) : Int32 × (Nat → Int32) × (Nat → Int32) := if inB sh 0 3 then (if (g 0) = 8 then ((0, (upd (upd (upd (upd s 9 2) 10 8) 11 0) 14 1), g)) else (if (bitsJ (onM g sh (cN (g 0))) 8) = 3 then ((0, (upd (upd (upd (upd s 9 5) 10 sh) 11 0) 14 1), g)) else (((g 0), (upd s 14 0), (upd (upd g (34 + (cN (g 0))) sh) 0 (((upd g (34 + (cN (g 0))) sh) 0) + 1)))))) else ((0, (upd (upd (upd (upd s 9 1) 10 0) 11 0) 14 1), g))
set_option maxHeartbeats 4000000 in
set_option maxRecDepth 100000 in
theorem c_X11_lays (G : FG) (hL : FL G) (l : Launch) (ω : FWd) (m : Nat) (s g : Nat → Int32) (m0 : ω.2 m = some (.inr (13, [.ref (m + 1), .ref (m + 2), .ref (m + 3), .int (s 3), .ref (m + 4), .int (s 5), .ref (m + 5), .int (s 7), .int (s 8), .int (s 9), .int (s 10), .int (s 11), .ref (m + 6), .int (s 13), .int (s 14), .ref (m + 7), .int (s 16), .int (s 17), .ref (m + 8)]))) (m1 : ω.2 (m + 1) = some (.inl (G.2.1 0, 324, .inl g))) (hM : WFM g) (sh : Int32) : FMet G l yX11_lays wsX11_lays ({ frames := 2, cells := 0, slots := 0, locals := 43 } : Room) [.ref m, .int sh] ω (fun vv9 τ9 => vv9 = some (.int ((laysM s g sh).1)) ∧ τ9.1 = ω.1 ∧ τ9.2 m = some (.inr (13, [.ref (m + 1), .ref (m + 2), .ref (m + 3), .int (((laysM s g sh).2.1) 3), .ref (m + 4), .int (((laysM s g sh).2.1) 5), .ref (m + 5), .int (((laysM s g sh).2.1) 7), .int (((laysM s g sh).2.1) 8), .int (((laysM s g sh).2.1) 9), .int (((laysM s g sh).2.1) 10), .int (((laysM s g sh).2.1) 11), .ref (m + 6), .int (((laysM s g sh).2.1) 13), .int (((laysM s g sh).2.1) 14), .ref (m + 7), .int (((laysM s g sh).2.1) 16), .int (((laysM s g sh).2.1) 17), .ref (m + 8)])) ∧ τ9.2 (m + 1) = some (.inl (G.2.1 0, 324, .inl ((laysM s g sh).2.2))) ∧ ∀ q : Nat, ¬ q = m → ¬ q = (m + 1) → τ9.2 q = ω.2 q) 0 0 := by
  refine fw_ofW (cc := cX11_lays) (maxL := 3) (ret := (some .int)) (by decide) rfl (Nat.le_of_ble_eq_true rfl) ?_
  intro pP eE sS mI ar9 bl9 meth cD ls hx hb hr hlocks hml hts hown hnm hW hR hl
  have hK := hL.K hW
  have hS : va_S (fwA G) sS.heap sS.heap [] := va_S.rf
  have hin11 : ∀ w ∈ u_ws RX11 TX11 19, w ∈ wsX11_lays := by decide +kernel
  have hl : lv_has ls 3 [(0, .ref m), (1, .int sh)] := hl
  obtain ⟨c, hc8, hc, hcc⟩ := okN_of hM.1
  obtain ⟨cc, hd5, hd, hdd⟩ := okN_of hM.2.1
  refine lv_iload_n hx hb dX11_lays_0 rfl (lv_at hl 1 rfl) ?_
  refine fw_call (va_runS (As := [.int sh]) (rest := []) ⟨hx, hb, hml, hown, hts⟩ (c_X11_isShelf G hL l ω sh) (va_cwS 1 hts gX11_lays_X11_isShelf rfl rfl rfl (by decide +kernel) ⟨Nat.le_of_ble_eq_true rfl, Nat.le_of_ble_eq_true rfl⟩) (fw_preS hW hR) rfl rfl hl.1 rfl (lv_room (Nat.le_of_ble_eq_true rfl)) dX11_lays_1 ⟨Nat.le_of_ble_eq_true rfl, Nat.le_of_ble_eq_true rfl⟩) hS (fun v_1 ω_2 H locs hq_3 hR hS => ?_)
  obtain ⟨rfl, hq_3⟩ := hq_3
  rw [hq_3] at hR
  refine W.eq (g2 := F0 mI 4 ls [.int (bz (inB sh 0 3))]) rfl ?_
  refine lv_if_ne (tgt := 14) hx hb dX11_lays_4 (by decide) (fun c_4 => ?_) (fun c_4 => ?_)
  · skip
    have c_4 := bz_ne c_4
    refine lv_aload_n hx hb dX11_lays_14 rfl (lv_at hl 0 rfl) ?_
    refine fw_get (v := .ref (m + 1)) (C := RX11) (T := TX11) (N := 19) hx hb hts hin11 hown hK hR m0 rfl 0 (by decide) (hts (.fieldLink RX11 7 "UnreadLeafletsModel" "g" "[I") (by decide +kernel)) rfl dX11_lays_15 ?_
    refine lv_iconst (v := 0) hx hb dX11_lays_18 (by decide) ?_
    refine fw_iald hx hb hK hR m1 (vp_in_nI (n := 0) (by omega) (by omega)) dX11_lays_19 ?_
    refine W.eq (g2 := F0 mI 20 ls [.int (g 0)]) (by rw [show (0 : Int32).toNatClampNeg = 0 from rfl]) ?_
    refine lv_istore_n (lv' := [(2, .int (g 0)), (0, .ref m), (1, .int sh)]) hx hb dX11_lays_20 rfl hl (by decide) rfl (fun ls hl => ?_)
    refine lv_iload_n hx hb dX11_lays_21 rfl (lv_at hl 0 rfl) ?_
    refine lv_bipush (v := 8) hx hb dX11_lays_22 (by decide) ?_
    refine lv_icmp_ne (tgt := 35) hx hb dX11_lays_24 (by decide) (fun c_5 => ?_) (fun c_5 => ?_)
    · skip
      refine lv_aload_n hx hb dX11_lays_35 rfl (lv_at hl 1 rfl) ?_
      refine lv_iload_n hx hb dX11_lays_36 rfl (lv_at hl 2 rfl) ?_
      refine fw_call (va_runV (As := [.int sh]) (rest := []) ⟨hx, hb, hml, hown, hts⟩ (c_X11_boxesOn G hL l ω m s g m0 m1 sh c hc hc8) (cwV 1 hts gX11_lays_X11_boxesOn rfl rfl rfl (by decide +kernel) ⟨Nat.le_of_ble_eq_true rfl, Nat.le_of_ble_eq_true rfl⟩) (fw_preV hW hK hR m0 rfl) rfl rfl hl.1 rfl (lv_room (Nat.le_of_ble_eq_true rfl)) dX11_lays_37 ⟨Nat.le_of_ble_eq_true rfl, Nat.le_of_ble_eq_true rfl⟩) hS (fun v_6 ω_7 H locs hq_8 hR hS => ?_)
      obtain ⟨rfl, hq_8⟩ := hq_8
      rw [hq_8] at hR
      refine W.eq (g2 := F0 mI 40 ls [.int (onM g sh c)]) rfl ?_
      refine fw_call (va_runS (As := [.int (onM g sh c)]) (rest := []) ⟨hx, hb, hml, hown, hts⟩ (c_X11_bits G hL l ω (onM g sh c)) (va_cwS 1 hts gX11_lays_X11_bits rfl rfl rfl (by decide +kernel) ⟨Nat.le_of_ble_eq_true rfl, Nat.le_of_ble_eq_true rfl⟩) (fw_preS hW hR) rfl rfl hl.1 rfl (lv_room (Nat.le_of_ble_eq_true rfl)) dX11_lays_40 ⟨Nat.le_of_ble_eq_true rfl, Nat.le_of_ble_eq_true rfl⟩) hS (fun v_9 ω_10 H locs hq_11 hR hS => ?_)
      obtain ⟨rfl, hq_11⟩ := hq_11
      rw [hq_11] at hR
      refine W.eq (g2 := F0 mI 43 ls [.int (bitsJ (onM g sh c) 8)]) rfl ?_
      refine lv_iconst (v := 3) hx hb dX11_lays_43 (by decide) ?_
      refine lv_icmp_ne (tgt := 54) hx hb dX11_lays_44 (by decide) (fun c_12 => ?_) (fun c_12 => ?_)
      · skip
        refine lv_aload_n hx hb dX11_lays_54 rfl (lv_at hl 1 rfl) ?_
        refine fw_get (v := .ref (m + 1)) (C := RX11) (T := TX11) (N := 19) hx hb hts hin11 hown hK hR m0 rfl 0 (by decide) (hts (.fieldLink RX11 7 "UnreadLeafletsModel" "g" "[I") (by decide +kernel)) rfl dX11_lays_55 ?_
        refine lv_bipush (v := 34) hx hb dX11_lays_58 (by decide) ?_
        refine lv_iload_n hx hb dX11_lays_60 rfl (lv_at hl 0 rfl) ?_
        refine lv_iadd hx hb dX11_lays_61 ?_
        refine lv_iload_n hx hb dX11_lays_62 rfl (lv_at hl 2 rfl) ?_
        have hi_13 : 34 + (g 0) = nI (34 + c) := by
          show (nI 34) + (g 0) = _
          simp only [pk_mul, nI_add, Nat.add_assoc, hc, hd]
        refine W.eq (g2 := F0 mI 63 ls [.int sh, .int (nI (34 + c)), .ref (m + 1)]) (by rw [hi_13]) ?_
        refine fw_iast hx hb hK hR hS m1 (vp_in_nI (by omega) (by omega)) dX11_lays_63 (fun H locs hR hS => ?_)
        rw [show (nI (34 + c)).toNatClampNeg = 34 + c from nI_clamp (by omega)] at hR
        obtain ⟨ω_14, hw_15⟩ : ∃ τ : FWd, τ = (ω.1, va_up ω.2 (m + 1) (some (.inl (G.2.1 0, 324, .inl (upd g (34 + c) sh))))) := ⟨_, rfl⟩
        have hR : fR G ω_14 H := by rw [hw_15]; exact hR
        have f_16 : ω_14.2 (m + 1) = some (.inl (G.2.1 0, 324, .inl (upd g (34 + c) sh))) := by rw [hw_15]; exact va_up_at
        have fr_17 : ∀ q : Nat, ¬ q = (m + 1) → ω_14.2 q = ω.2 q := fun q hq => by rw [hw_15]; exact va_up_off hq
        have z_18 : ω_14.1 = ω.1 := by rw [hw_15]
        refine lv_aload_n hx hb dX11_lays_64 rfl (lv_at hl 1 rfl) ?_
        have f_19 : ω_14.2 m = some (.inr (13, [.ref (m + 1), .ref (m + 2), .ref (m + 3), .int (s 3), .ref (m + 4), .int (s 5), .ref (m + 5), .int (s 7), .int (s 8), .int (s 9), .int (s 10), .int (s 11), .ref (m + 6), .int (s 13), .int (s 14), .ref (m + 7), .int (s 16), .int (s 17), .ref (m + 8)])) := (fr_17 m (by omega)).trans m0
        refine fw_get (v := .ref (m + 1)) (C := RX11) (T := TX11) (N := 19) hx hb hts hin11 hown hK hR f_19 rfl 0 (by decide) (hts (.fieldLink RX11 7 "UnreadLeafletsModel" "g" "[I") (by decide +kernel)) rfl dX11_lays_65 ?_
        refine lv_iconst (v := 0) hx hb dX11_lays_68 (by decide) ?_
        refine lv_dup2_11 hx hb dX11_lays_69 rfl rfl ?_
        refine fw_iald hx hb hK hR f_16 (vp_in_nI (n := 0) (by omega) (by omega)) dX11_lays_70 ?_
        refine W.eq (g2 := F0 mI 71 ls [.int ((upd g (34 + c) sh) 0), .int 0, .ref (m + 1)]) (by rw [show (0 : Int32).toNatClampNeg = 0 from rfl]) ?_
        refine lv_iconst (v := 1) hx hb dX11_lays_71 (by decide) ?_
        refine lv_iadd hx hb dX11_lays_72 ?_
        refine fw_iast hx hb hK hR hS f_16 (vp_in_nI (n := 0) (by omega) (by omega)) dX11_lays_73 (fun H locs hR hS => ?_)
        rw [show (0 : Int32).toNatClampNeg = 0 from show (0 : Int32).toNatClampNeg = 0 from rfl] at hR
        obtain ⟨ω_20, hw_21⟩ : ∃ τ : FWd, τ = (ω_14.1, va_up ω_14.2 (m + 1) (some (.inl (G.2.1 0, 324, .inl (upd (upd g (34 + c) sh) 0 (((upd g (34 + c) sh) 0) + 1)))))) := ⟨_, rfl⟩
        have hR : fR G ω_20 H := by rw [hw_21]; exact hR
        have f_22 : ω_20.2 (m + 1) = some (.inl (G.2.1 0, 324, .inl (upd (upd g (34 + c) sh) 0 (((upd g (34 + c) sh) 0) + 1)))) := by rw [hw_21]; exact va_up_at
        have fr_23 : ∀ q : Nat, ¬ q = (m + 1) → ω_20.2 q = ω_14.2 q := fun q hq => by rw [hw_21]; exact va_up_off hq
        have z_24 : ω_20.1 = ω_14.1 := by rw [hw_21]
        refine lv_aload_n hx hb dX11_lays_74 rfl (lv_at hl 1 rfl) ?_
        refine lv_iload_n hx hb dX11_lays_75 rfl (lv_at hl 0 rfl) ?_
        have f_25 : ω_20.2 m = some (.inr (13, [.ref (m + 1), .ref (m + 2), .ref (m + 3), .int (s 3), .ref (m + 4), .int (s 5), .ref (m + 5), .int (s 7), .int (s 8), .int (s 9), .int (s 10), .int (s 11), .ref (m + 6), .int (s 13), .int (s 14), .ref (m + 7), .int (s 16), .int (s 17), .ref (m + 8)])) := (fr_23 m (by omega)).trans f_19
        refine fw_call (va_runV (As := [.int (g 0)]) (rest := []) ⟨hx, hb, hml, hown, hts⟩ (c_X11_done G hL l ω_20 m s (upd (upd g (34 + c) sh) 0 (((upd g (34 + c) sh) 0) + 1)) f_25 f_22 (g 0)) (cwV 1 hts gX11_lays_X11_done rfl rfl rfl (by decide +kernel) ⟨Nat.le_of_ble_eq_true rfl, Nat.le_of_ble_eq_true rfl⟩) (fw_preV hW hK hR f_25 rfl) rfl rfl hl.1 rfl (lv_room (Nat.le_of_ble_eq_true rfl)) dX11_lays_76 ⟨Nat.le_of_ble_eq_true rfl, Nat.le_of_ble_eq_true rfl⟩) hS (fun v_26 ω_27 H locs hq_28 hR hS => ?_)
        obtain ⟨rfl, z_29, f_31, fr_30⟩ := hq_28
        refine W.eq (g2 := F0 mI 79 ls [.int (g 0)]) rfl ?_
        have f_32 : ω_27.2 (m + 1) = some (.inl (G.2.1 0, 324, .inl (upd (upd g (34 + c) sh) 0 (((upd g (34 + c) sh) 0) + 1)))) := (fr_30 (m + 1) (by omega)).trans f_22
        have fr_33 : ∀ q : Nat, ¬ q = m → ¬ q = (m + 1) → ω_27.2 q = ω.2 q := by
          intro q h0 h1
          rw [fr_30 q (by omega)]
          rw [fr_23 q (by omega)]
          rw [fr_17 q (by omega)]
        have z_34 : ω_27.1 = ω.1 := by rw [z_29, z_24, z_18]
        have hr_35 : laysM s g sh = (((g 0), (upd s 14 0), (upd (upd g (34 + c) sh) 0 (((upd g (34 + c) sh) 0) + 1))) : Int32 × (Nat → Int32) × (Nat → Int32)) := by
          simp only [laysM, hcc, hdd]
          rw [if_pos c_4, if_neg c_5, if_neg c_12]
        refine fw_iret hx hb hr hlocks hR hS dX11_lays_79 ?_
        rw [hr_35]
        exact ⟨rfl, z_34, f_31, f_32, fr_33⟩
      · skip
        refine lv_aload_n hx hb dX11_lays_47 rfl (lv_at hl 1 rfl) ?_
        refine lv_iconst (v := 5) hx hb dX11_lays_48 (by decide) ?_
        refine lv_iload_n hx hb dX11_lays_49 rfl (lv_at hl 2 rfl) ?_
        refine fw_call (va_runV (As := [.int 5, .int sh]) (rest := []) ⟨hx, hb, hml, hown, hts⟩ (c_X11_refused G hL l ω m s g m0 m1 5 sh) (cwV 2 hts gX11_lays_X11_refused rfl rfl rfl (by decide +kernel) ⟨Nat.le_of_ble_eq_true rfl, Nat.le_of_ble_eq_true rfl⟩) (fw_preV hW hK hR m0 rfl) rfl rfl hl.1 rfl (lv_room (Nat.le_of_ble_eq_true rfl)) dX11_lays_50 ⟨Nat.le_of_ble_eq_true rfl, Nat.le_of_ble_eq_true rfl⟩) hS (fun v_36 ω_37 H locs hq_38 hR hS => ?_)
        obtain ⟨rfl, z_39, f_41, fr_40⟩ := hq_38
        refine W.eq (g2 := F0 mI 53 ls [.int 0]) rfl ?_
        have f_42 : ω_37.2 (m + 1) = some (.inl (G.2.1 0, 324, .inl g)) := (fr_40 (m + 1) (by omega)).trans m1
        have fr_43 : ∀ q : Nat, ¬ q = m → ¬ q = (m + 1) → ω_37.2 q = ω.2 q := by
          intro q h0 h1
          rw [fr_40 q (by omega)]
        have z_44 : ω_37.1 = ω.1 := by rw [z_39]
        have hr_45 : laysM s g sh = ((0, (upd (upd (upd (upd s 9 5) 10 sh) 11 0) 14 1), g) : Int32 × (Nat → Int32) × (Nat → Int32)) := by
          simp only [laysM, hcc, hdd]
          rw [if_pos c_4, if_neg c_5, if_pos c_12]
        refine fw_iret hx hb hr hlocks hR hS dX11_lays_53 ?_
        rw [hr_45]
        exact ⟨rfl, z_44, f_41, f_42, fr_43⟩
    · skip
      refine lv_aload_n hx hb dX11_lays_27 rfl (lv_at hl 1 rfl) ?_
      refine lv_iconst (v := 2) hx hb dX11_lays_28 (by decide) ?_
      refine lv_bipush (v := 8) hx hb dX11_lays_29 (by decide) ?_
      refine fw_call (va_runV (As := [.int 2, .int 8]) (rest := []) ⟨hx, hb, hml, hown, hts⟩ (c_X11_refused G hL l ω m s g m0 m1 2 8) (cwV 2 hts gX11_lays_X11_refused rfl rfl rfl (by decide +kernel) ⟨Nat.le_of_ble_eq_true rfl, Nat.le_of_ble_eq_true rfl⟩) (fw_preV hW hK hR m0 rfl) rfl rfl hl.1 rfl (lv_room (Nat.le_of_ble_eq_true rfl)) dX11_lays_31 ⟨Nat.le_of_ble_eq_true rfl, Nat.le_of_ble_eq_true rfl⟩) hS (fun v_46 ω_47 H locs hq_48 hR hS => ?_)
      obtain ⟨rfl, z_49, f_51, fr_50⟩ := hq_48
      refine W.eq (g2 := F0 mI 34 ls [.int 0]) rfl ?_
      have f_52 : ω_47.2 (m + 1) = some (.inl (G.2.1 0, 324, .inl g)) := (fr_50 (m + 1) (by omega)).trans m1
      have fr_53 : ∀ q : Nat, ¬ q = m → ¬ q = (m + 1) → ω_47.2 q = ω.2 q := by
        intro q h0 h1
        rw [fr_50 q (by omega)]
      have z_54 : ω_47.1 = ω.1 := by rw [z_49]
      have hr_55 : laysM s g sh = ((0, (upd (upd (upd (upd s 9 2) 10 8) 11 0) 14 1), g) : Int32 × (Nat → Int32) × (Nat → Int32)) := by
        simp only [laysM, hcc, hdd]
        rw [if_pos c_4, if_pos c_5]
      refine fw_iret hx hb hr hlocks hR hS dX11_lays_34 ?_
      rw [hr_55]
      exact ⟨rfl, z_54, f_51, f_52, fr_53⟩
  · skip
    have c_4 := bz_eq c_4
    refine lv_aload_n hx hb dX11_lays_7 rfl (lv_at hl 0 rfl) ?_
    refine lv_iconst (v := 1) hx hb dX11_lays_8 (by decide) ?_
    refine lv_iconst (v := 0) hx hb dX11_lays_9 (by decide) ?_
    refine fw_call (va_runV (As := [.int 1, .int 0]) (rest := []) ⟨hx, hb, hml, hown, hts⟩ (c_X11_refused G hL l ω m s g m0 m1 1 0) (cwV 2 hts gX11_lays_X11_refused rfl rfl rfl (by decide +kernel) ⟨Nat.le_of_ble_eq_true rfl, Nat.le_of_ble_eq_true rfl⟩) (fw_preV hW hK hR m0 rfl) rfl rfl hl.1 rfl (lv_room (Nat.le_of_ble_eq_true rfl)) dX11_lays_10 ⟨Nat.le_of_ble_eq_true rfl, Nat.le_of_ble_eq_true rfl⟩) hS (fun v_56 ω_57 H locs hq_58 hR hS => ?_)
    obtain ⟨rfl, z_59, f_61, fr_60⟩ := hq_58
    refine W.eq (g2 := F0 mI 13 ls [.int 0]) rfl ?_
    have f_62 : ω_57.2 (m + 1) = some (.inl (G.2.1 0, 324, .inl g)) := (fr_60 (m + 1) (by omega)).trans m1
    have fr_63 : ∀ q : Nat, ¬ q = m → ¬ q = (m + 1) → ω_57.2 q = ω.2 q := by
      intro q h0 h1
      rw [fr_60 q (by omega)]
    have z_64 : ω_57.1 = ω.1 := by rw [z_59]
    have hr_65 : laysM s g sh = ((0, (upd (upd (upd (upd s 9 1) 10 0) 11 0) 14 1), g) : Int32 × (Nat → Int32) × (Nat → Int32)) := by
      simp only [laysM, hcc, hdd]
      rw [if_neg c_4]
    refine fw_iret hx hb hr hlocks hR hS dX11_lays_13 ?_
    rw [hr_65]
    exact ⟨rfl, z_64, f_61, f_62, fr_63⟩
def addsM (s g : Nat → Int32) (lf : Int32) (kd : Int32) (ps : Int32) (la : Int32) (sd : Int32) : Int32 × (Nat → Int32) × (Nat → Int32) := if inB lf 0 (g 0 - 1) then (if inB kd 0 5 then (if inB ps 1 4 then (if inB la 1 31 then (if (g (42 + (cN lf))) = 0 then (if (g (18 + (cN lf))) = 8 then ((0, (upd (upd (upd (upd s 9 2) 10 8) 11 0) 14 1), g)) else (((g (18 + (cN lf))), (upd s 14 0), (upd (upd (upd (upd (upd g (68 + 8 * (cN lf) + (cN (g (18 + (cN lf))))) kd) (132 + 8 * (cN lf) + (cN (g (18 + (cN lf))))) ps) (196 + 8 * (cN lf) + (cN (g (18 + (cN lf))))) la) (260 + 8 * (cN lf) + (cN (g (18 + (cN lf))))) sd) (18 + (cN lf)) (((upd (upd (upd (upd g (68 + 8 * (cN lf) + (cN (g (18 + (cN lf))))) kd) (132 + 8 * (cN lf) + (cN (g (18 + (cN lf))))) ps) (196 + 8 * (cN lf) + (cN (g (18 + (cN lf))))) la) (260 + 8 * (cN lf) + (cN (g (18 + (cN lf))))) sd) (18 + (cN lf))) + 1))))) else ((0, (upd (upd (upd (upd s 9 6) 10 ((g (42 + (cN lf))) - 1)) 11 0) 14 1), g))) else ((0, (upd (upd (upd (upd s 9 1) 10 0) 11 0) 14 1), g))) else ((0, (upd (upd (upd (upd s 9 1) 10 0) 11 0) 14 1), g))) else ((0, (upd (upd (upd (upd s 9 1) 10 0) 11 0) 14 1), g))) else ((0, (upd (upd (upd (upd s 9 3) 10 (g 0)) 11 0) 14 1), g))
set_option maxHeartbeats 4000000 in
set_option maxRecDepth 100000 in
theorem c_X11_adds (G : FG) (hL : FL G) (l : Launch) (ω : FWd) (m : Nat) (s g : Nat → Int32) (m0 : ω.2 m = some (.inr (13, [.ref (m + 1), .ref (m + 2), .ref (m + 3), .int (s 3), .ref (m + 4), .int (s 5), .ref (m + 5), .int (s 7), .int (s 8), .int (s 9), .int (s 10), .int (s 11), .ref (m + 6), .int (s 13), .int (s 14), .ref (m + 7), .int (s 16), .int (s 17), .ref (m + 8)]))) (m1 : ω.2 (m + 1) = some (.inl (G.2.1 0, 324, .inl g))) (hM : WFM g) (lf : Int32) (kd : Int32) (ps : Int32) (la : Int32) (sd : Int32) : FMet G l yX11_adds wsX11_adds ({ frames := 2, cells := 0, slots := 0, locals := 43 } : Room) [.ref m, .int lf, .int kd, .int ps, .int la, .int sd] ω (fun vv9 τ9 => vv9 = some (.int ((addsM s g lf kd ps la sd).1)) ∧ τ9.1 = ω.1 ∧ τ9.2 m = some (.inr (13, [.ref (m + 1), .ref (m + 2), .ref (m + 3), .int (((addsM s g lf kd ps la sd).2.1) 3), .ref (m + 4), .int (((addsM s g lf kd ps la sd).2.1) 5), .ref (m + 5), .int (((addsM s g lf kd ps la sd).2.1) 7), .int (((addsM s g lf kd ps la sd).2.1) 8), .int (((addsM s g lf kd ps la sd).2.1) 9), .int (((addsM s g lf kd ps la sd).2.1) 10), .int (((addsM s g lf kd ps la sd).2.1) 11), .ref (m + 6), .int (((addsM s g lf kd ps la sd).2.1) 13), .int (((addsM s g lf kd ps la sd).2.1) 14), .ref (m + 7), .int (((addsM s g lf kd ps la sd).2.1) 16), .int (((addsM s g lf kd ps la sd).2.1) 17), .ref (m + 8)])) ∧ τ9.2 (m + 1) = some (.inl (G.2.1 0, 324, .inl ((addsM s g lf kd ps la sd).2.2))) ∧ ∀ q : Nat, ¬ q = m → ¬ q = (m + 1) → τ9.2 q = ω.2 q) 0 0 := by
  refine fw_ofW (cc := cX11_adds) (maxL := 8) (ret := (some .int)) (by decide) rfl (Nat.le_of_ble_eq_true rfl) ?_
  intro pP eE sS mI ar9 bl9 meth cD ls hx hb hr hlocks hml hts hown hnm hW hR hl
  have hK := hL.K hW
  have hS : va_S (fwA G) sS.heap sS.heap [] := va_S.rf
  have hin11 : ∀ w ∈ u_ws RX11 TX11 19, w ∈ wsX11_adds := by decide +kernel
  have hl : lv_has ls 8 [(0, .ref m), (1, .int lf), (2, .int kd), (3, .int ps), (4, .int la), (5, .int sd)] := hl
  obtain ⟨c, hc8, hc, hcc⟩ := okN_of hM.1
  obtain ⟨cc, hd5, hd, hdd⟩ := okN_of hM.2.1
  refine lv_aload_n hx hb dX11_adds_0 rfl (lv_at hl 0 rfl) ?_
  refine lv_iload_n hx hb dX11_adds_1 rfl (lv_at hl 1 rfl) ?_
  refine fw_call (va_runV (As := [.int lf]) (rest := []) ⟨hx, hb, hml, hown, hts⟩ (c_X11_isLeaflet G hL l ω m s g m0 m1 lf) (cwV 1 hts gX11_adds_X11_isLeaflet rfl rfl rfl (by decide +kernel) ⟨Nat.le_of_ble_eq_true rfl, Nat.le_of_ble_eq_true rfl⟩) (fw_preV hW hK hR m0 rfl) rfl rfl hl.1 rfl (lv_room (Nat.le_of_ble_eq_true rfl)) dX11_adds_2 ⟨Nat.le_of_ble_eq_true rfl, Nat.le_of_ble_eq_true rfl⟩) hS (fun v_1 ω_2 H locs hq_3 hR hS => ?_)
  obtain ⟨rfl, hq_3⟩ := hq_3
  rw [hq_3] at hR
  refine W.eq (g2 := F0 mI 5 ls [.int (bz (inB lf 0 (g 0 - 1)))]) rfl ?_
  refine lv_if_ne (tgt := 20) hx hb dX11_adds_5 (by decide) (fun c_4 => ?_) (fun c_4 => ?_)
  · skip
    have c_4 := bz_ne c_4
    obtain ⟨j, hj2, rfl⟩ := in_c hc hc8 c_4
    have hcj : cN (nI j) = j := cN_nI (by omega)
    obtain ⟨n, hn8, hn, hnn⟩ := okN_of (hM.2.2 j (by rw [hcc]; exact hj2)).1
    obtain ⟨f, hf3, hff, hfn⟩ := okN_of (hM.2.2 j (by rw [hcc]; exact hj2)).2.1
    have hkd : ∀ q, q < n → g (68 + 8 * j + q) = nI (cN (g (68 + 8 * j + q))) ∧ cN (g (68 + 8 * j + q)) < 6 := fun q hq => by have h9 := (hM.2.2 j (by rw [hcc]; exact hj2)).2.2 q (by rw [hnn]; exact hq); exact ⟨h9.1, Nat.lt_succ_of_le h9.2⟩
    refine lv_iload_n hx hb dX11_adds_20 rfl (lv_at hl 2 rfl) ?_
    refine fw_call (va_runS (As := [.int kd]) (rest := []) ⟨hx, hb, hml, hown, hts⟩ (c_X11_isKind G hL l ω kd) (va_cwS 1 hts gX11_adds_X11_isKind rfl rfl rfl (by decide +kernel) ⟨Nat.le_of_ble_eq_true rfl, Nat.le_of_ble_eq_true rfl⟩) (fw_preS hW hR) rfl rfl hl.1 rfl (lv_room (Nat.le_of_ble_eq_true rfl)) dX11_adds_21 ⟨Nat.le_of_ble_eq_true rfl, Nat.le_of_ble_eq_true rfl⟩) hS (fun v_5 ω_6 H locs hq_7 hR hS => ?_)
    obtain ⟨rfl, hq_7⟩ := hq_7
    rw [hq_7] at hR
    refine W.eq (g2 := F0 mI 24 ls [.int (bz (inB kd 0 5))]) rfl ?_
    refine lv_if_eq (tgt := 47) hx hb dX11_adds_24 (by decide) (fun c_8 => ?_) (fun c_8 => ?_)
    · skip
      have c_8 := bz_eq c_8
      refine lv_aload_n hx hb dX11_adds_47 rfl (lv_at hl 0 rfl) ?_
      refine lv_iconst (v := 1) hx hb dX11_adds_48 (by decide) ?_
      refine lv_iconst (v := 0) hx hb dX11_adds_49 (by decide) ?_
      refine fw_call (va_runV (As := [.int 1, .int 0]) (rest := []) ⟨hx, hb, hml, hown, hts⟩ (c_X11_refused G hL l ω m s g m0 m1 1 0) (cwV 2 hts gX11_adds_X11_refused rfl rfl rfl (by decide +kernel) ⟨Nat.le_of_ble_eq_true rfl, Nat.le_of_ble_eq_true rfl⟩) (fw_preV hW hK hR m0 rfl) rfl rfl hl.1 rfl (lv_room (Nat.le_of_ble_eq_true rfl)) dX11_adds_50 ⟨Nat.le_of_ble_eq_true rfl, Nat.le_of_ble_eq_true rfl⟩) hS (fun v_9 ω_10 H locs hq_11 hR hS => ?_)
      obtain ⟨rfl, z_12, f_14, fr_13⟩ := hq_11
      refine W.eq (g2 := F0 mI 53 ls [.int 0]) rfl ?_
      have f_15 : ω_10.2 (m + 1) = some (.inl (G.2.1 0, 324, .inl g)) := (fr_13 (m + 1) (by omega)).trans m1
      have fr_16 : ∀ q : Nat, ¬ q = m → ¬ q = (m + 1) → ω_10.2 q = ω.2 q := by
        intro q h0 h1
        rw [fr_13 q (by omega)]
      have z_17 : ω_10.1 = ω.1 := by rw [z_12]
      have hr_18 : addsM s g (nI j) kd ps la sd = ((0, (upd (upd (upd (upd s 9 1) 10 0) 11 0) 14 1), g) : Int32 × (Nat → Int32) × (Nat → Int32)) := by
        simp only [addsM, hcc, hdd, hcj, hnn, hfn]
        rw [if_pos c_4, if_neg c_8]
      refine fw_iret hx hb hr hlocks hR hS dX11_adds_53 ?_
      rw [hr_18]
      exact ⟨rfl, z_17, f_14, f_15, fr_16⟩
    · skip
      have c_8 := bz_ne c_8
      refine lv_iload_n hx hb dX11_adds_27 rfl (lv_at hl 3 rfl) ?_
      refine lv_iconst (v := 1) hx hb dX11_adds_28 (by decide) ?_
      refine lv_iconst (v := 4) hx hb dX11_adds_29 (by decide) ?_
      refine fw_call (va_runS (As := [.int ps, .int 1, .int 4]) (rest := []) ⟨hx, hb, hml, hown, hts⟩ (c_X11_in G hL l ω ps 1 4) (va_cwS 3 hts gX11_adds_X11_in rfl rfl rfl (by decide +kernel) ⟨Nat.le_of_ble_eq_true rfl, Nat.le_of_ble_eq_true rfl⟩) (fw_preS hW hR) rfl rfl hl.1 rfl (lv_room (Nat.le_of_ble_eq_true rfl)) dX11_adds_30 ⟨Nat.le_of_ble_eq_true rfl, Nat.le_of_ble_eq_true rfl⟩) hS (fun v_19 ω_20 H locs hq_21 hR hS => ?_)
      obtain ⟨rfl, hq_21⟩ := hq_21
      rw [hq_21] at hR
      refine W.eq (g2 := F0 mI 33 ls [.int (bz (inB ps 1 4))]) rfl ?_
      refine lv_if_eq (tgt := 47) hx hb dX11_adds_33 (by decide) (fun c_22 => ?_) (fun c_22 => ?_)
      · skip
        have c_22 := bz_eq c_22
        refine lv_aload_n hx hb dX11_adds_47 rfl (lv_at hl 0 rfl) ?_
        refine lv_iconst (v := 1) hx hb dX11_adds_48 (by decide) ?_
        refine lv_iconst (v := 0) hx hb dX11_adds_49 (by decide) ?_
        refine fw_call (va_runV (As := [.int 1, .int 0]) (rest := []) ⟨hx, hb, hml, hown, hts⟩ (c_X11_refused G hL l ω m s g m0 m1 1 0) (cwV 2 hts gX11_adds_X11_refused rfl rfl rfl (by decide +kernel) ⟨Nat.le_of_ble_eq_true rfl, Nat.le_of_ble_eq_true rfl⟩) (fw_preV hW hK hR m0 rfl) rfl rfl hl.1 rfl (lv_room (Nat.le_of_ble_eq_true rfl)) dX11_adds_50 ⟨Nat.le_of_ble_eq_true rfl, Nat.le_of_ble_eq_true rfl⟩) hS (fun v_23 ω_24 H locs hq_25 hR hS => ?_)
        obtain ⟨rfl, z_26, f_28, fr_27⟩ := hq_25
        refine W.eq (g2 := F0 mI 53 ls [.int 0]) rfl ?_
        have f_29 : ω_24.2 (m + 1) = some (.inl (G.2.1 0, 324, .inl g)) := (fr_27 (m + 1) (by omega)).trans m1
        have fr_30 : ∀ q : Nat, ¬ q = m → ¬ q = (m + 1) → ω_24.2 q = ω.2 q := by
          intro q h0 h1
          rw [fr_27 q (by omega)]
        have z_31 : ω_24.1 = ω.1 := by rw [z_26]
        have hr_32 : addsM s g (nI j) kd ps la sd = ((0, (upd (upd (upd (upd s 9 1) 10 0) 11 0) 14 1), g) : Int32 × (Nat → Int32) × (Nat → Int32)) := by
          simp only [addsM, hcc, hdd, hcj, hnn, hfn]
          rw [if_pos c_4, if_pos c_8, if_neg c_22]
        refine fw_iret hx hb hr hlocks hR hS dX11_adds_53 ?_
        rw [hr_32]
        exact ⟨rfl, z_31, f_28, f_29, fr_30⟩
      · skip
        have c_22 := bz_ne c_22
        refine lv_iload hx hb dX11_adds_36 (lv_at hl 4 rfl) ?_
        refine lv_iconst (v := 1) hx hb dX11_adds_38 (by decide) ?_
        refine lv_bipush (v := 31) hx hb dX11_adds_39 (by decide) ?_
        refine fw_call (va_runS (As := [.int la, .int 1, .int 31]) (rest := []) ⟨hx, hb, hml, hown, hts⟩ (c_X11_in G hL l ω la 1 31) (va_cwS 3 hts gX11_adds_X11_in rfl rfl rfl (by decide +kernel) ⟨Nat.le_of_ble_eq_true rfl, Nat.le_of_ble_eq_true rfl⟩) (fw_preS hW hR) rfl rfl hl.1 rfl (lv_room (Nat.le_of_ble_eq_true rfl)) dX11_adds_41 ⟨Nat.le_of_ble_eq_true rfl, Nat.le_of_ble_eq_true rfl⟩) hS (fun v_33 ω_34 H locs hq_35 hR hS => ?_)
        obtain ⟨rfl, hq_35⟩ := hq_35
        rw [hq_35] at hR
        refine W.eq (g2 := F0 mI 44 ls [.int (bz (inB la 1 31))]) rfl ?_
        refine lv_if_ne (tgt := 54) hx hb dX11_adds_44 (by decide) (fun c_36 => ?_) (fun c_36 => ?_)
        · skip
          have c_36 := bz_ne c_36
          refine lv_aload_n hx hb dX11_adds_54 rfl (lv_at hl 0 rfl) ?_
          refine fw_get (v := .ref (m + 1)) (C := RX11) (T := TX11) (N := 19) hx hb hts hin11 hown hK hR m0 rfl 0 (by decide) (hts (.fieldLink RX11 7 "UnreadLeafletsModel" "g" "[I") (by decide +kernel)) rfl dX11_adds_55 ?_
          refine lv_bipush (v := 42) hx hb dX11_adds_58 (by decide) ?_
          refine lv_iload_n hx hb dX11_adds_60 rfl (lv_at hl 1 rfl) ?_
          refine lv_iadd hx hb dX11_adds_61 ?_
          have hi_37 : 42 + (nI j) = nI (42 + j) := by
            show (nI 42) + (nI j) = _
            simp only [pk_mul, nI_add, Nat.add_assoc, hc, hd, hn, hff]
          refine W.eq (g2 := F0 mI 62 ls [.int (nI (42 + j)), .ref (m + 1)]) (by rw [hi_37]) ?_
          refine fw_iald hx hb hK hR m1 (vp_in_nI (by omega) (by omega)) dX11_adds_62 ?_
          refine W.eq (g2 := F0 mI 63 ls [.int (g (42 + j))]) (by rw [nI_clamp (by omega)]) ?_
          refine lv_if_eq (tgt := 84) hx hb dX11_adds_63 (by decide) (fun c_38 => ?_) (fun c_38 => ?_)
          · skip
            refine lv_aload_n hx hb dX11_adds_84 rfl (lv_at hl 0 rfl) ?_
            refine fw_get (v := .ref (m + 1)) (C := RX11) (T := TX11) (N := 19) hx hb hts hin11 hown hK hR m0 rfl 0 (by decide) (hts (.fieldLink RX11 7 "UnreadLeafletsModel" "g" "[I") (by decide +kernel)) rfl dX11_adds_85 ?_
            refine lv_bipush (v := 18) hx hb dX11_adds_88 (by decide) ?_
            refine lv_iload_n hx hb dX11_adds_90 rfl (lv_at hl 1 rfl) ?_
            refine lv_iadd hx hb dX11_adds_91 ?_
            have hi_39 : 18 + (nI j) = nI (18 + j) := by
              show (nI 18) + (nI j) = _
              simp only [pk_mul, nI_add, Nat.add_assoc, hc, hd, hn, hff]
            refine W.eq (g2 := F0 mI 92 ls [.int (nI (18 + j)), .ref (m + 1)]) (by rw [hi_39]) ?_
            refine fw_iald hx hb hK hR m1 (vp_in_nI (by omega) (by omega)) dX11_adds_92 ?_
            refine W.eq (g2 := F0 mI 93 ls [.int (g (18 + j))]) (by rw [nI_clamp (by omega)]) ?_
            refine lv_istore (lv' := [(6, .int (g (18 + j))), (0, .ref m), (1, .int (nI j)), (2, .int kd), (3, .int ps), (4, .int la), (5, .int sd)]) hx hb dX11_adds_93 hl (by decide) rfl (fun ls hl => ?_)
            refine lv_iload hx hb dX11_adds_95 (lv_at hl 0 rfl) ?_
            refine lv_bipush (v := 8) hx hb dX11_adds_97 (by decide) ?_
            refine lv_icmp_ne (tgt := 110) hx hb dX11_adds_99 (by decide) (fun c_40 => ?_) (fun c_40 => ?_)
            · skip
              have hn7 : n < 8 := by rcases Nat.lt_or_ge n 8 with h9 | h9; exact h9; exact absurd (by rw [hn, show n = 8 by omega]; rfl) c_40
              refine lv_bipush (v := 8) hx hb dX11_adds_110 (by decide) ?_
              refine lv_iload_n hx hb dX11_adds_112 rfl (lv_at hl 2 rfl) ?_
              refine lv_imul hx hb dX11_adds_113 ?_
              refine lv_iload hx hb dX11_adds_114 (lv_at hl 0 rfl) ?_
              refine lv_iadd hx hb dX11_adds_116 ?_
              have hi_41 : (8 * (nI j)) + (g (18 + j)) = nI (8 * j + n) := by
                show ((nI 8) * (nI j)) + (g (18 + j)) = _
                simp only [pk_mul, nI_add, Nat.add_assoc, hc, hd, hn, hff]
              refine W.eq (g2 := F0 mI 117 ls [.int (nI (8 * j + n))]) (by rw [hi_41]) ?_
              refine lv_istore (lv' := [(7, .int (nI (8 * j + n))), (6, .int (g (18 + j))), (0, .ref m), (1, .int (nI j)), (2, .int kd), (3, .int ps), (4, .int la), (5, .int sd)]) hx hb dX11_adds_117 hl (by decide) rfl (fun ls hl => ?_)
              refine lv_aload_n hx hb dX11_adds_119 rfl (lv_at hl 2 rfl) ?_
              refine fw_get (v := .ref (m + 1)) (C := RX11) (T := TX11) (N := 19) hx hb hts hin11 hown hK hR m0 rfl 0 (by decide) (hts (.fieldLink RX11 7 "UnreadLeafletsModel" "g" "[I") (by decide +kernel)) rfl dX11_adds_120 ?_
              refine lv_bipush (v := 68) hx hb dX11_adds_123 (by decide) ?_
              refine lv_iload hx hb dX11_adds_125 (lv_at hl 0 rfl) ?_
              refine lv_iadd hx hb dX11_adds_127 ?_
              refine lv_iload_n hx hb dX11_adds_128 rfl (lv_at hl 4 rfl) ?_
              have hi_42 : 68 + (nI (8 * j + n)) = nI (68 + 8 * j + n) := by
                show (nI 68) + (nI (8 * j + n)) = _
                simp only [pk_mul, nI_add, Nat.add_assoc, hc, hd, hn, hff]
              refine W.eq (g2 := F0 mI 129 ls [.int kd, .int (nI (68 + 8 * j + n)), .ref (m + 1)]) (by rw [hi_42]) ?_
              refine fw_iast hx hb hK hR hS m1 (vp_in_nI (by omega) (by omega)) dX11_adds_129 (fun H locs hR hS => ?_)
              rw [show (nI (68 + 8 * j + n)).toNatClampNeg = 68 + 8 * j + n from nI_clamp (by omega)] at hR
              obtain ⟨ω_43, hw_44⟩ : ∃ τ : FWd, τ = (ω.1, va_up ω.2 (m + 1) (some (.inl (G.2.1 0, 324, .inl (upd g (68 + 8 * j + n) kd))))) := ⟨_, rfl⟩
              have hR : fR G ω_43 H := by rw [hw_44]; exact hR
              have f_45 : ω_43.2 (m + 1) = some (.inl (G.2.1 0, 324, .inl (upd g (68 + 8 * j + n) kd))) := by rw [hw_44]; exact va_up_at
              have fr_46 : ∀ q : Nat, ¬ q = (m + 1) → ω_43.2 q = ω.2 q := fun q hq => by rw [hw_44]; exact va_up_off hq
              have z_47 : ω_43.1 = ω.1 := by rw [hw_44]
              refine lv_aload_n hx hb dX11_adds_130 rfl (lv_at hl 2 rfl) ?_
              have f_48 : ω_43.2 m = some (.inr (13, [.ref (m + 1), .ref (m + 2), .ref (m + 3), .int (s 3), .ref (m + 4), .int (s 5), .ref (m + 5), .int (s 7), .int (s 8), .int (s 9), .int (s 10), .int (s 11), .ref (m + 6), .int (s 13), .int (s 14), .ref (m + 7), .int (s 16), .int (s 17), .ref (m + 8)])) := (fr_46 m (by omega)).trans m0
              refine fw_get (v := .ref (m + 1)) (C := RX11) (T := TX11) (N := 19) hx hb hts hin11 hown hK hR f_48 rfl 0 (by decide) (hts (.fieldLink RX11 7 "UnreadLeafletsModel" "g" "[I") (by decide +kernel)) rfl dX11_adds_131 ?_
              refine lv_sipush (v := 132) hx hb dX11_adds_134 (by decide) ?_
              refine lv_iload hx hb dX11_adds_137 (lv_at hl 0 rfl) ?_
              refine lv_iadd hx hb dX11_adds_139 ?_
              refine lv_iload_n hx hb dX11_adds_140 rfl (lv_at hl 5 rfl) ?_
              have hi_49 : 132 + (nI (8 * j + n)) = nI (132 + 8 * j + n) := by
                show (nI 132) + (nI (8 * j + n)) = _
                simp only [pk_mul, nI_add, Nat.add_assoc, hc, hd, hn, hff]
              refine W.eq (g2 := F0 mI 141 ls [.int ps, .int (nI (132 + 8 * j + n)), .ref (m + 1)]) (by rw [hi_49]) ?_
              refine fw_iast hx hb hK hR hS f_45 (vp_in_nI (by omega) (by omega)) dX11_adds_141 (fun H locs hR hS => ?_)
              rw [show (nI (132 + 8 * j + n)).toNatClampNeg = 132 + 8 * j + n from nI_clamp (by omega)] at hR
              obtain ⟨ω_50, hw_51⟩ : ∃ τ : FWd, τ = (ω_43.1, va_up ω_43.2 (m + 1) (some (.inl (G.2.1 0, 324, .inl (upd (upd g (68 + 8 * j + n) kd) (132 + 8 * j + n) ps))))) := ⟨_, rfl⟩
              have hR : fR G ω_50 H := by rw [hw_51]; exact hR
              have f_52 : ω_50.2 (m + 1) = some (.inl (G.2.1 0, 324, .inl (upd (upd g (68 + 8 * j + n) kd) (132 + 8 * j + n) ps))) := by rw [hw_51]; exact va_up_at
              have fr_53 : ∀ q : Nat, ¬ q = (m + 1) → ω_50.2 q = ω_43.2 q := fun q hq => by rw [hw_51]; exact va_up_off hq
              have z_54 : ω_50.1 = ω_43.1 := by rw [hw_51]
              refine lv_aload_n hx hb dX11_adds_142 rfl (lv_at hl 2 rfl) ?_
              have f_55 : ω_50.2 m = some (.inr (13, [.ref (m + 1), .ref (m + 2), .ref (m + 3), .int (s 3), .ref (m + 4), .int (s 5), .ref (m + 5), .int (s 7), .int (s 8), .int (s 9), .int (s 10), .int (s 11), .ref (m + 6), .int (s 13), .int (s 14), .ref (m + 7), .int (s 16), .int (s 17), .ref (m + 8)])) := (fr_53 m (by omega)).trans f_48
              refine fw_get (v := .ref (m + 1)) (C := RX11) (T := TX11) (N := 19) hx hb hts hin11 hown hK hR f_55 rfl 0 (by decide) (hts (.fieldLink RX11 7 "UnreadLeafletsModel" "g" "[I") (by decide +kernel)) rfl dX11_adds_143 ?_
              refine lv_sipush (v := 196) hx hb dX11_adds_146 (by decide) ?_
              refine lv_iload hx hb dX11_adds_149 (lv_at hl 0 rfl) ?_
              refine lv_iadd hx hb dX11_adds_151 ?_
              refine lv_iload hx hb dX11_adds_152 (lv_at hl 6 rfl) ?_
              have hi_56 : 196 + (nI (8 * j + n)) = nI (196 + 8 * j + n) := by
                show (nI 196) + (nI (8 * j + n)) = _
                simp only [pk_mul, nI_add, Nat.add_assoc, hc, hd, hn, hff]
              refine W.eq (g2 := F0 mI 154 ls [.int la, .int (nI (196 + 8 * j + n)), .ref (m + 1)]) (by rw [hi_56]) ?_
              refine fw_iast hx hb hK hR hS f_52 (vp_in_nI (by omega) (by omega)) dX11_adds_154 (fun H locs hR hS => ?_)
              rw [show (nI (196 + 8 * j + n)).toNatClampNeg = 196 + 8 * j + n from nI_clamp (by omega)] at hR
              obtain ⟨ω_57, hw_58⟩ : ∃ τ : FWd, τ = (ω_50.1, va_up ω_50.2 (m + 1) (some (.inl (G.2.1 0, 324, .inl (upd (upd (upd g (68 + 8 * j + n) kd) (132 + 8 * j + n) ps) (196 + 8 * j + n) la))))) := ⟨_, rfl⟩
              have hR : fR G ω_57 H := by rw [hw_58]; exact hR
              have f_59 : ω_57.2 (m + 1) = some (.inl (G.2.1 0, 324, .inl (upd (upd (upd g (68 + 8 * j + n) kd) (132 + 8 * j + n) ps) (196 + 8 * j + n) la))) := by rw [hw_58]; exact va_up_at
              have fr_60 : ∀ q : Nat, ¬ q = (m + 1) → ω_57.2 q = ω_50.2 q := fun q hq => by rw [hw_58]; exact va_up_off hq
              have z_61 : ω_57.1 = ω_50.1 := by rw [hw_58]
              refine lv_aload_n hx hb dX11_adds_155 rfl (lv_at hl 2 rfl) ?_
              have f_62 : ω_57.2 m = some (.inr (13, [.ref (m + 1), .ref (m + 2), .ref (m + 3), .int (s 3), .ref (m + 4), .int (s 5), .ref (m + 5), .int (s 7), .int (s 8), .int (s 9), .int (s 10), .int (s 11), .ref (m + 6), .int (s 13), .int (s 14), .ref (m + 7), .int (s 16), .int (s 17), .ref (m + 8)])) := (fr_60 m (by omega)).trans f_55
              refine fw_get (v := .ref (m + 1)) (C := RX11) (T := TX11) (N := 19) hx hb hts hin11 hown hK hR f_62 rfl 0 (by decide) (hts (.fieldLink RX11 7 "UnreadLeafletsModel" "g" "[I") (by decide +kernel)) rfl dX11_adds_156 ?_
              refine lv_sipush (v := 260) hx hb dX11_adds_159 (by decide) ?_
              refine lv_iload hx hb dX11_adds_162 (lv_at hl 0 rfl) ?_
              refine lv_iadd hx hb dX11_adds_164 ?_
              refine lv_iload hx hb dX11_adds_165 (lv_at hl 7 rfl) ?_
              have hi_63 : 260 + (nI (8 * j + n)) = nI (260 + 8 * j + n) := by
                show (nI 260) + (nI (8 * j + n)) = _
                simp only [pk_mul, nI_add, Nat.add_assoc, hc, hd, hn, hff]
              refine W.eq (g2 := F0 mI 167 ls [.int sd, .int (nI (260 + 8 * j + n)), .ref (m + 1)]) (by rw [hi_63]) ?_
              refine fw_iast hx hb hK hR hS f_59 (vp_in_nI (by omega) (by omega)) dX11_adds_167 (fun H locs hR hS => ?_)
              rw [show (nI (260 + 8 * j + n)).toNatClampNeg = 260 + 8 * j + n from nI_clamp (by omega)] at hR
              obtain ⟨ω_64, hw_65⟩ : ∃ τ : FWd, τ = (ω_57.1, va_up ω_57.2 (m + 1) (some (.inl (G.2.1 0, 324, .inl (upd (upd (upd (upd g (68 + 8 * j + n) kd) (132 + 8 * j + n) ps) (196 + 8 * j + n) la) (260 + 8 * j + n) sd))))) := ⟨_, rfl⟩
              have hR : fR G ω_64 H := by rw [hw_65]; exact hR
              have f_66 : ω_64.2 (m + 1) = some (.inl (G.2.1 0, 324, .inl (upd (upd (upd (upd g (68 + 8 * j + n) kd) (132 + 8 * j + n) ps) (196 + 8 * j + n) la) (260 + 8 * j + n) sd))) := by rw [hw_65]; exact va_up_at
              have fr_67 : ∀ q : Nat, ¬ q = (m + 1) → ω_64.2 q = ω_57.2 q := fun q hq => by rw [hw_65]; exact va_up_off hq
              have z_68 : ω_64.1 = ω_57.1 := by rw [hw_65]
              refine lv_aload_n hx hb dX11_adds_168 rfl (lv_at hl 2 rfl) ?_
              have f_69 : ω_64.2 m = some (.inr (13, [.ref (m + 1), .ref (m + 2), .ref (m + 3), .int (s 3), .ref (m + 4), .int (s 5), .ref (m + 5), .int (s 7), .int (s 8), .int (s 9), .int (s 10), .int (s 11), .ref (m + 6), .int (s 13), .int (s 14), .ref (m + 7), .int (s 16), .int (s 17), .ref (m + 8)])) := (fr_67 m (by omega)).trans f_62
              refine fw_get (v := .ref (m + 1)) (C := RX11) (T := TX11) (N := 19) hx hb hts hin11 hown hK hR f_69 rfl 0 (by decide) (hts (.fieldLink RX11 7 "UnreadLeafletsModel" "g" "[I") (by decide +kernel)) rfl dX11_adds_169 ?_
              refine lv_bipush (v := 18) hx hb dX11_adds_172 (by decide) ?_
              refine lv_iload_n hx hb dX11_adds_174 rfl (lv_at hl 3 rfl) ?_
              refine lv_iadd hx hb dX11_adds_175 ?_
              refine lv_dup2_11 hx hb dX11_adds_176 rfl rfl ?_
              have hi_70 : 18 + (nI j) = nI (18 + j) := by
                show (nI 18) + (nI j) = _
                simp only [pk_mul, nI_add, Nat.add_assoc, hc, hd, hn, hff]
              refine W.eq (g2 := F0 mI 177 ls [.int (nI (18 + j)), .ref (m + 1), .int (18 + (nI j)), .ref (m + 1)]) (by rw [hi_70]) ?_
              refine fw_iald hx hb hK hR f_66 (vp_in_nI (by omega) (by omega)) dX11_adds_177 ?_
              refine W.eq (g2 := F0 mI 178 ls [.int ((upd (upd (upd (upd g (68 + 8 * j + n) kd) (132 + 8 * j + n) ps) (196 + 8 * j + n) la) (260 + 8 * j + n) sd) (18 + j)), .int (18 + (nI j)), .ref (m + 1)]) (by rw [nI_clamp (by omega)]) ?_
              refine lv_iconst (v := 1) hx hb dX11_adds_178 (by decide) ?_
              refine lv_iadd hx hb dX11_adds_179 ?_
              have hi_71 : 18 + (nI j) = nI (18 + j) := by
                show (nI 18) + (nI j) = _
                simp only [pk_mul, nI_add, Nat.add_assoc, hc, hd, hn, hff]
              refine W.eq (g2 := F0 mI 180 ls [.int (((upd (upd (upd (upd g (68 + 8 * j + n) kd) (132 + 8 * j + n) ps) (196 + 8 * j + n) la) (260 + 8 * j + n) sd) (18 + j)) + 1), .int (nI (18 + j)), .ref (m + 1)]) (by rw [hi_71]) ?_
              refine fw_iast hx hb hK hR hS f_66 (vp_in_nI (by omega) (by omega)) dX11_adds_180 (fun H locs hR hS => ?_)
              rw [show (nI (18 + j)).toNatClampNeg = 18 + j from nI_clamp (by omega)] at hR
              obtain ⟨ω_72, hw_73⟩ : ∃ τ : FWd, τ = (ω_64.1, va_up ω_64.2 (m + 1) (some (.inl (G.2.1 0, 324, .inl (upd (upd (upd (upd (upd g (68 + 8 * j + n) kd) (132 + 8 * j + n) ps) (196 + 8 * j + n) la) (260 + 8 * j + n) sd) (18 + j) (((upd (upd (upd (upd g (68 + 8 * j + n) kd) (132 + 8 * j + n) ps) (196 + 8 * j + n) la) (260 + 8 * j + n) sd) (18 + j)) + 1)))))) := ⟨_, rfl⟩
              have hR : fR G ω_72 H := by rw [hw_73]; exact hR
              have f_74 : ω_72.2 (m + 1) = some (.inl (G.2.1 0, 324, .inl (upd (upd (upd (upd (upd g (68 + 8 * j + n) kd) (132 + 8 * j + n) ps) (196 + 8 * j + n) la) (260 + 8 * j + n) sd) (18 + j) (((upd (upd (upd (upd g (68 + 8 * j + n) kd) (132 + 8 * j + n) ps) (196 + 8 * j + n) la) (260 + 8 * j + n) sd) (18 + j)) + 1)))) := by rw [hw_73]; exact va_up_at
              have fr_75 : ∀ q : Nat, ¬ q = (m + 1) → ω_72.2 q = ω_64.2 q := fun q hq => by rw [hw_73]; exact va_up_off hq
              have z_76 : ω_72.1 = ω_64.1 := by rw [hw_73]
              refine lv_aload_n hx hb dX11_adds_181 rfl (lv_at hl 2 rfl) ?_
              refine lv_iload hx hb dX11_adds_182 (lv_at hl 1 rfl) ?_
              have f_77 : ω_72.2 m = some (.inr (13, [.ref (m + 1), .ref (m + 2), .ref (m + 3), .int (s 3), .ref (m + 4), .int (s 5), .ref (m + 5), .int (s 7), .int (s 8), .int (s 9), .int (s 10), .int (s 11), .ref (m + 6), .int (s 13), .int (s 14), .ref (m + 7), .int (s 16), .int (s 17), .ref (m + 8)])) := (fr_75 m (by omega)).trans f_69
              refine fw_call (va_runV (As := [.int (g (18 + j))]) (rest := []) ⟨hx, hb, hml, hown, hts⟩ (c_X11_done G hL l ω_72 m s (upd (upd (upd (upd (upd g (68 + 8 * j + n) kd) (132 + 8 * j + n) ps) (196 + 8 * j + n) la) (260 + 8 * j + n) sd) (18 + j) (((upd (upd (upd (upd g (68 + 8 * j + n) kd) (132 + 8 * j + n) ps) (196 + 8 * j + n) la) (260 + 8 * j + n) sd) (18 + j)) + 1)) f_77 f_74 (g (18 + j))) (cwV 1 hts gX11_adds_X11_done rfl rfl rfl (by decide +kernel) ⟨Nat.le_of_ble_eq_true rfl, Nat.le_of_ble_eq_true rfl⟩) (fw_preV hW hK hR f_77 rfl) rfl rfl hl.1 rfl (lv_room (Nat.le_of_ble_eq_true rfl)) dX11_adds_184 ⟨Nat.le_of_ble_eq_true rfl, Nat.le_of_ble_eq_true rfl⟩) hS (fun v_78 ω_79 H locs hq_80 hR hS => ?_)
              obtain ⟨rfl, z_81, f_83, fr_82⟩ := hq_80
              refine W.eq (g2 := F0 mI 187 ls [.int (g (18 + j))]) rfl ?_
              have f_84 : ω_79.2 (m + 1) = some (.inl (G.2.1 0, 324, .inl (upd (upd (upd (upd (upd g (68 + 8 * j + n) kd) (132 + 8 * j + n) ps) (196 + 8 * j + n) la) (260 + 8 * j + n) sd) (18 + j) (((upd (upd (upd (upd g (68 + 8 * j + n) kd) (132 + 8 * j + n) ps) (196 + 8 * j + n) la) (260 + 8 * j + n) sd) (18 + j)) + 1)))) := (fr_82 (m + 1) (by omega)).trans f_74
              have fr_85 : ∀ q : Nat, ¬ q = m → ¬ q = (m + 1) → ω_79.2 q = ω.2 q := by
                intro q h0 h1
                rw [fr_82 q (by omega)]
                rw [fr_75 q (by omega)]
                rw [fr_67 q (by omega)]
                rw [fr_60 q (by omega)]
                rw [fr_53 q (by omega)]
                rw [fr_46 q (by omega)]
              have z_86 : ω_79.1 = ω.1 := by rw [z_81, z_76, z_68, z_61, z_54, z_47]
              have hr_87 : addsM s g (nI j) kd ps la sd = (((g (18 + j)), (upd s 14 0), (upd (upd (upd (upd (upd g (68 + 8 * j + n) kd) (132 + 8 * j + n) ps) (196 + 8 * j + n) la) (260 + 8 * j + n) sd) (18 + j) (((upd (upd (upd (upd g (68 + 8 * j + n) kd) (132 + 8 * j + n) ps) (196 + 8 * j + n) la) (260 + 8 * j + n) sd) (18 + j)) + 1))) : Int32 × (Nat → Int32) × (Nat → Int32)) := by
                simp only [addsM, hcc, hdd, hcj, hnn, hfn]
                rw [if_pos c_4, if_pos c_8, if_pos c_22, if_pos c_36, if_pos c_38, if_neg c_40]
              refine fw_iret hx hb hr hlocks hR hS dX11_adds_187 ?_
              rw [hr_87]
              exact ⟨rfl, z_86, f_83, f_84, fr_85⟩
            · skip
              refine lv_aload_n hx hb dX11_adds_102 rfl (lv_at hl 1 rfl) ?_
              refine lv_iconst (v := 2) hx hb dX11_adds_103 (by decide) ?_
              refine lv_bipush (v := 8) hx hb dX11_adds_104 (by decide) ?_
              refine fw_call (va_runV (As := [.int 2, .int 8]) (rest := []) ⟨hx, hb, hml, hown, hts⟩ (c_X11_refused G hL l ω m s g m0 m1 2 8) (cwV 2 hts gX11_adds_X11_refused rfl rfl rfl (by decide +kernel) ⟨Nat.le_of_ble_eq_true rfl, Nat.le_of_ble_eq_true rfl⟩) (fw_preV hW hK hR m0 rfl) rfl rfl hl.1 rfl (lv_room (Nat.le_of_ble_eq_true rfl)) dX11_adds_106 ⟨Nat.le_of_ble_eq_true rfl, Nat.le_of_ble_eq_true rfl⟩) hS (fun v_88 ω_89 H locs hq_90 hR hS => ?_)
              obtain ⟨rfl, z_91, f_93, fr_92⟩ := hq_90
              refine W.eq (g2 := F0 mI 109 ls [.int 0]) rfl ?_
              have f_94 : ω_89.2 (m + 1) = some (.inl (G.2.1 0, 324, .inl g)) := (fr_92 (m + 1) (by omega)).trans m1
              have fr_95 : ∀ q : Nat, ¬ q = m → ¬ q = (m + 1) → ω_89.2 q = ω.2 q := by
                intro q h0 h1
                rw [fr_92 q (by omega)]
              have z_96 : ω_89.1 = ω.1 := by rw [z_91]
              have hr_97 : addsM s g (nI j) kd ps la sd = ((0, (upd (upd (upd (upd s 9 2) 10 8) 11 0) 14 1), g) : Int32 × (Nat → Int32) × (Nat → Int32)) := by
                simp only [addsM, hcc, hdd, hcj, hnn, hfn]
                rw [if_pos c_4, if_pos c_8, if_pos c_22, if_pos c_36, if_pos c_38, if_pos c_40]
              refine fw_iret hx hb hr hlocks hR hS dX11_adds_109 ?_
              rw [hr_97]
              exact ⟨rfl, z_96, f_93, f_94, fr_95⟩
          · skip
            refine lv_aload_n hx hb dX11_adds_66 rfl (lv_at hl 0 rfl) ?_
            refine lv_bipush (v := 6) hx hb dX11_adds_67 (by decide) ?_
            refine lv_aload_n hx hb dX11_adds_69 rfl (lv_at hl 0 rfl) ?_
            refine fw_get (v := .ref (m + 1)) (C := RX11) (T := TX11) (N := 19) hx hb hts hin11 hown hK hR m0 rfl 0 (by decide) (hts (.fieldLink RX11 7 "UnreadLeafletsModel" "g" "[I") (by decide +kernel)) rfl dX11_adds_70 ?_
            refine lv_bipush (v := 42) hx hb dX11_adds_73 (by decide) ?_
            refine lv_iload_n hx hb dX11_adds_75 rfl (lv_at hl 1 rfl) ?_
            refine lv_iadd hx hb dX11_adds_76 ?_
            have hi_98 : 42 + (nI j) = nI (42 + j) := by
              show (nI 42) + (nI j) = _
              simp only [pk_mul, nI_add, Nat.add_assoc, hc, hd, hn, hff]
            refine W.eq (g2 := F0 mI 77 ls [.int (nI (42 + j)), .ref (m + 1), .int 6, .ref m]) (by rw [hi_98]) ?_
            refine fw_iald hx hb hK hR m1 (vp_in_nI (by omega) (by omega)) dX11_adds_77 ?_
            refine W.eq (g2 := F0 mI 78 ls [.int (g (42 + j)), .int 6, .ref m]) (by rw [nI_clamp (by omega)]) ?_
            refine lv_iconst (v := 1) hx hb dX11_adds_78 (by decide) ?_
            refine lv_isub hx hb dX11_adds_79 ?_
            refine fw_call (va_runV (As := [.int 6, .int ((g (42 + j)) - 1)]) (rest := []) ⟨hx, hb, hml, hown, hts⟩ (c_X11_refused G hL l ω m s g m0 m1 6 ((g (42 + j)) - 1)) (cwV 2 hts gX11_adds_X11_refused rfl rfl rfl (by decide +kernel) ⟨Nat.le_of_ble_eq_true rfl, Nat.le_of_ble_eq_true rfl⟩) (fw_preV hW hK hR m0 rfl) rfl rfl hl.1 rfl (lv_room (Nat.le_of_ble_eq_true rfl)) dX11_adds_80 ⟨Nat.le_of_ble_eq_true rfl, Nat.le_of_ble_eq_true rfl⟩) hS (fun v_99 ω_100 H locs hq_101 hR hS => ?_)
            obtain ⟨rfl, z_102, f_104, fr_103⟩ := hq_101
            refine W.eq (g2 := F0 mI 83 ls [.int 0]) rfl ?_
            have f_105 : ω_100.2 (m + 1) = some (.inl (G.2.1 0, 324, .inl g)) := (fr_103 (m + 1) (by omega)).trans m1
            have fr_106 : ∀ q : Nat, ¬ q = m → ¬ q = (m + 1) → ω_100.2 q = ω.2 q := by
              intro q h0 h1
              rw [fr_103 q (by omega)]
            have z_107 : ω_100.1 = ω.1 := by rw [z_102]
            have hr_108 : addsM s g (nI j) kd ps la sd = ((0, (upd (upd (upd (upd s 9 6) 10 ((g (42 + j)) - 1)) 11 0) 14 1), g) : Int32 × (Nat → Int32) × (Nat → Int32)) := by
              simp only [addsM, hcc, hdd, hcj, hnn, hfn]
              rw [if_pos c_4, if_pos c_8, if_pos c_22, if_pos c_36, if_neg c_38]
            refine fw_iret hx hb hr hlocks hR hS dX11_adds_83 ?_
            rw [hr_108]
            exact ⟨rfl, z_107, f_104, f_105, fr_106⟩
        · skip
          have c_36 := bz_eq c_36
          refine lv_aload_n hx hb dX11_adds_47 rfl (lv_at hl 0 rfl) ?_
          refine lv_iconst (v := 1) hx hb dX11_adds_48 (by decide) ?_
          refine lv_iconst (v := 0) hx hb dX11_adds_49 (by decide) ?_
          refine fw_call (va_runV (As := [.int 1, .int 0]) (rest := []) ⟨hx, hb, hml, hown, hts⟩ (c_X11_refused G hL l ω m s g m0 m1 1 0) (cwV 2 hts gX11_adds_X11_refused rfl rfl rfl (by decide +kernel) ⟨Nat.le_of_ble_eq_true rfl, Nat.le_of_ble_eq_true rfl⟩) (fw_preV hW hK hR m0 rfl) rfl rfl hl.1 rfl (lv_room (Nat.le_of_ble_eq_true rfl)) dX11_adds_50 ⟨Nat.le_of_ble_eq_true rfl, Nat.le_of_ble_eq_true rfl⟩) hS (fun v_109 ω_110 H locs hq_111 hR hS => ?_)
          obtain ⟨rfl, z_112, f_114, fr_113⟩ := hq_111
          refine W.eq (g2 := F0 mI 53 ls [.int 0]) rfl ?_
          have f_115 : ω_110.2 (m + 1) = some (.inl (G.2.1 0, 324, .inl g)) := (fr_113 (m + 1) (by omega)).trans m1
          have fr_116 : ∀ q : Nat, ¬ q = m → ¬ q = (m + 1) → ω_110.2 q = ω.2 q := by
            intro q h0 h1
            rw [fr_113 q (by omega)]
          have z_117 : ω_110.1 = ω.1 := by rw [z_112]
          have hr_118 : addsM s g (nI j) kd ps la sd = ((0, (upd (upd (upd (upd s 9 1) 10 0) 11 0) 14 1), g) : Int32 × (Nat → Int32) × (Nat → Int32)) := by
            simp only [addsM, hcc, hdd, hcj, hnn, hfn]
            rw [if_pos c_4, if_pos c_8, if_pos c_22, if_neg c_36]
          refine fw_iret hx hb hr hlocks hR hS dX11_adds_53 ?_
          rw [hr_118]
          exact ⟨rfl, z_117, f_114, f_115, fr_116⟩
  · skip
    have c_4 := bz_eq c_4
    refine lv_aload_n hx hb dX11_adds_8 rfl (lv_at hl 0 rfl) ?_
    refine lv_iconst (v := 3) hx hb dX11_adds_9 (by decide) ?_
    refine lv_aload_n hx hb dX11_adds_10 rfl (lv_at hl 0 rfl) ?_
    refine fw_get (v := .ref (m + 1)) (C := RX11) (T := TX11) (N := 19) hx hb hts hin11 hown hK hR m0 rfl 0 (by decide) (hts (.fieldLink RX11 7 "UnreadLeafletsModel" "g" "[I") (by decide +kernel)) rfl dX11_adds_11 ?_
    refine lv_iconst (v := 0) hx hb dX11_adds_14 (by decide) ?_
    refine fw_iald hx hb hK hR m1 (vp_in_nI (n := 0) (by omega) (by omega)) dX11_adds_15 ?_
    refine W.eq (g2 := F0 mI 16 ls [.int (g 0), .int 3, .ref m]) (by rw [show (0 : Int32).toNatClampNeg = 0 from rfl]) ?_
    refine fw_call (va_runV (As := [.int 3, .int (g 0)]) (rest := []) ⟨hx, hb, hml, hown, hts⟩ (c_X11_refused G hL l ω m s g m0 m1 3 (g 0)) (cwV 2 hts gX11_adds_X11_refused rfl rfl rfl (by decide +kernel) ⟨Nat.le_of_ble_eq_true rfl, Nat.le_of_ble_eq_true rfl⟩) (fw_preV hW hK hR m0 rfl) rfl rfl hl.1 rfl (lv_room (Nat.le_of_ble_eq_true rfl)) dX11_adds_16 ⟨Nat.le_of_ble_eq_true rfl, Nat.le_of_ble_eq_true rfl⟩) hS (fun v_119 ω_120 H locs hq_121 hR hS => ?_)
    obtain ⟨rfl, z_122, f_124, fr_123⟩ := hq_121
    refine W.eq (g2 := F0 mI 19 ls [.int 0]) rfl ?_
    have f_125 : ω_120.2 (m + 1) = some (.inl (G.2.1 0, 324, .inl g)) := (fr_123 (m + 1) (by omega)).trans m1
    have fr_126 : ∀ q : Nat, ¬ q = m → ¬ q = (m + 1) → ω_120.2 q = ω.2 q := by
      intro q h0 h1
      rw [fr_123 q (by omega)]
    have z_127 : ω_120.1 = ω.1 := by rw [z_122]
    have hr_128 : addsM s g lf kd ps la sd = ((0, (upd (upd (upd (upd s 9 3) 10 (g 0)) 11 0) 14 1), g) : Int32 × (Nat → Int32) × (Nat → Int32)) := by
      simp only [addsM, hcc, hdd]
      rw [if_neg c_4]
    refine fw_iret hx hb hr hlocks hR hS dX11_adds_19 ?_
    rw [hr_128]
    exact ⟨rfl, z_127, f_124, f_125, fr_126⟩
def foldsM (s g : Nat → Int32) (lf : Int32) (by_ : Int32) : Int32 × (Nat → Int32) × (Nat → Int32) := if inB lf 0 (g 0 - 1) then (if (g (42 + (cN lf))) = 0 then (if inB ((g (26 + (cN lf))) + by_) 0 3 then (((openJ ((upd g (26 + (cN lf)) ((g (26 + (cN lf))) + by_)) (18 + (cN lf))) (cN (g (26 + (cN lf)) + by_))), (upd s 14 0), (upd g (26 + (cN lf)) ((g (26 + (cN lf))) + by_)))) else ((0, (upd (upd (upd (upd s 9 11) 10 (g (26 + (cN lf)))) 11 0) 14 1), g))) else ((0, (upd (upd (upd (upd s 9 6) 10 ((g (42 + (cN lf))) - 1)) 11 0) 14 1), g))) else ((0, (upd (upd (upd (upd s 9 3) 10 (g 0)) 11 0) 14 1), g))
set_option maxHeartbeats 4000000 in
set_option maxRecDepth 100000 in
theorem c_X11_foldsBy (G : FG) (hL : FL G) (l : Launch) (ω : FWd) (m : Nat) (s g : Nat → Int32) (m0 : ω.2 m = some (.inr (13, [.ref (m + 1), .ref (m + 2), .ref (m + 3), .int (s 3), .ref (m + 4), .int (s 5), .ref (m + 5), .int (s 7), .int (s 8), .int (s 9), .int (s 10), .int (s 11), .ref (m + 6), .int (s 13), .int (s 14), .ref (m + 7), .int (s 16), .int (s 17), .ref (m + 8)]))) (m1 : ω.2 (m + 1) = some (.inl (G.2.1 0, 324, .inl g))) (hM : WFM g) (lf : Int32) (by_ : Int32) : FMet G l yX11_foldsBy wsX11_foldsBy ({ frames := 2, cells := 0, slots := 0, locals := 45 } : Room) [.ref m, .int lf, .int by_] ω (fun vv9 τ9 => vv9 = some (.int ((foldsM s g lf by_).1)) ∧ τ9.1 = ω.1 ∧ τ9.2 m = some (.inr (13, [.ref (m + 1), .ref (m + 2), .ref (m + 3), .int (((foldsM s g lf by_).2.1) 3), .ref (m + 4), .int (((foldsM s g lf by_).2.1) 5), .ref (m + 5), .int (((foldsM s g lf by_).2.1) 7), .int (((foldsM s g lf by_).2.1) 8), .int (((foldsM s g lf by_).2.1) 9), .int (((foldsM s g lf by_).2.1) 10), .int (((foldsM s g lf by_).2.1) 11), .ref (m + 6), .int (((foldsM s g lf by_).2.1) 13), .int (((foldsM s g lf by_).2.1) 14), .ref (m + 7), .int (((foldsM s g lf by_).2.1) 16), .int (((foldsM s g lf by_).2.1) 17), .ref (m + 8)])) ∧ τ9.2 (m + 1) = some (.inl (G.2.1 0, 324, .inl ((foldsM s g lf by_).2.2))) ∧ ∀ q : Nat, ¬ q = m → ¬ q = (m + 1) → τ9.2 q = ω.2 q) 0 0 := by
  refine fw_ofW (cc := cX11_foldsBy) (maxL := 4) (ret := (some .int)) (by decide) rfl (Nat.le_of_ble_eq_true rfl) ?_
  intro pP eE sS mI ar9 bl9 meth cD ls hx hb hr hlocks hml hts hown hnm hW hR hl
  have hK := hL.K hW
  have hS : va_S (fwA G) sS.heap sS.heap [] := va_S.rf
  have hin11 : ∀ w ∈ u_ws RX11 TX11 19, w ∈ wsX11_foldsBy := by decide +kernel
  have hl : lv_has ls 4 [(0, .ref m), (1, .int lf), (2, .int by_)] := hl
  obtain ⟨c, hc8, hc, hcc⟩ := okN_of hM.1
  obtain ⟨cc, hd5, hd, hdd⟩ := okN_of hM.2.1
  refine lv_aload_n hx hb dX11_foldsBy_0 rfl (lv_at hl 0 rfl) ?_
  refine lv_iload_n hx hb dX11_foldsBy_1 rfl (lv_at hl 1 rfl) ?_
  refine fw_call (va_runV (As := [.int lf]) (rest := []) ⟨hx, hb, hml, hown, hts⟩ (c_X11_isLeaflet G hL l ω m s g m0 m1 lf) (cwV 1 hts gX11_foldsBy_X11_isLeaflet rfl rfl rfl (by decide +kernel) ⟨Nat.le_of_ble_eq_true rfl, Nat.le_of_ble_eq_true rfl⟩) (fw_preV hW hK hR m0 rfl) rfl rfl hl.1 rfl (lv_room (Nat.le_of_ble_eq_true rfl)) dX11_foldsBy_2 ⟨Nat.le_of_ble_eq_true rfl, Nat.le_of_ble_eq_true rfl⟩) hS (fun v_1 ω_2 H locs hq_3 hR hS => ?_)
  obtain ⟨rfl, hq_3⟩ := hq_3
  rw [hq_3] at hR
  refine W.eq (g2 := F0 mI 5 ls [.int (bz (inB lf 0 (g 0 - 1)))]) rfl ?_
  refine lv_if_ne (tgt := 20) hx hb dX11_foldsBy_5 (by decide) (fun c_4 => ?_) (fun c_4 => ?_)
  · skip
    have c_4 := bz_ne c_4
    obtain ⟨j, hj2, rfl⟩ := in_c hc hc8 c_4
    have hcj : cN (nI j) = j := cN_nI (by omega)
    obtain ⟨n, hn8, hn, hnn⟩ := okN_of (hM.2.2 j (by rw [hcc]; exact hj2)).1
    obtain ⟨f, hf3, hff, hfn⟩ := okN_of (hM.2.2 j (by rw [hcc]; exact hj2)).2.1
    have hkd : ∀ q, q < n → g (68 + 8 * j + q) = nI (cN (g (68 + 8 * j + q))) ∧ cN (g (68 + 8 * j + q)) < 6 := fun q hq => by have h9 := (hM.2.2 j (by rw [hcc]; exact hj2)).2.2 q (by rw [hnn]; exact hq); exact ⟨h9.1, Nat.lt_succ_of_le h9.2⟩
    refine lv_aload_n hx hb dX11_foldsBy_20 rfl (lv_at hl 0 rfl) ?_
    refine fw_get (v := .ref (m + 1)) (C := RX11) (T := TX11) (N := 19) hx hb hts hin11 hown hK hR m0 rfl 0 (by decide) (hts (.fieldLink RX11 7 "UnreadLeafletsModel" "g" "[I") (by decide +kernel)) rfl dX11_foldsBy_21 ?_
    refine lv_bipush (v := 42) hx hb dX11_foldsBy_24 (by decide) ?_
    refine lv_iload_n hx hb dX11_foldsBy_26 rfl (lv_at hl 1 rfl) ?_
    refine lv_iadd hx hb dX11_foldsBy_27 ?_
    have hi_5 : 42 + (nI j) = nI (42 + j) := by
      show (nI 42) + (nI j) = _
      simp only [pk_mul, nI_add, Nat.add_assoc, hc, hd, hn, hff]
    refine W.eq (g2 := F0 mI 28 ls [.int (nI (42 + j)), .ref (m + 1)]) (by rw [hi_5]) ?_
    refine fw_iald hx hb hK hR m1 (vp_in_nI (by omega) (by omega)) dX11_foldsBy_28 ?_
    refine W.eq (g2 := F0 mI 29 ls [.int (g (42 + j))]) (by rw [nI_clamp (by omega)]) ?_
    refine lv_if_eq (tgt := 50) hx hb dX11_foldsBy_29 (by decide) (fun c_6 => ?_) (fun c_6 => ?_)
    · skip
      refine lv_aload_n hx hb dX11_foldsBy_50 rfl (lv_at hl 0 rfl) ?_
      refine fw_get (v := .ref (m + 1)) (C := RX11) (T := TX11) (N := 19) hx hb hts hin11 hown hK hR m0 rfl 0 (by decide) (hts (.fieldLink RX11 7 "UnreadLeafletsModel" "g" "[I") (by decide +kernel)) rfl dX11_foldsBy_51 ?_
      refine lv_bipush (v := 26) hx hb dX11_foldsBy_54 (by decide) ?_
      refine lv_iload_n hx hb dX11_foldsBy_56 rfl (lv_at hl 1 rfl) ?_
      refine lv_iadd hx hb dX11_foldsBy_57 ?_
      have hi_7 : 26 + (nI j) = nI (26 + j) := by
        show (nI 26) + (nI j) = _
        simp only [pk_mul, nI_add, Nat.add_assoc, hc, hd, hn, hff]
      refine W.eq (g2 := F0 mI 58 ls [.int (nI (26 + j)), .ref (m + 1)]) (by rw [hi_7]) ?_
      refine fw_iald hx hb hK hR m1 (vp_in_nI (by omega) (by omega)) dX11_foldsBy_58 ?_
      refine W.eq (g2 := F0 mI 59 ls [.int (g (26 + j))]) (by rw [nI_clamp (by omega)]) ?_
      refine lv_istore_n (lv' := [(3, .int (g (26 + j))), (0, .ref m), (1, .int (nI j)), (2, .int by_)]) hx hb dX11_foldsBy_59 rfl hl (by decide) rfl (fun ls hl => ?_)
      refine lv_iload_n hx hb dX11_foldsBy_60 rfl (lv_at hl 0 rfl) ?_
      refine lv_iload_n hx hb dX11_foldsBy_61 rfl (lv_at hl 3 rfl) ?_
      refine lv_iadd hx hb dX11_foldsBy_62 ?_
      refine lv_iconst (v := 0) hx hb dX11_foldsBy_63 (by decide) ?_
      refine lv_iconst (v := 3) hx hb dX11_foldsBy_64 (by decide) ?_
      refine fw_call (va_runS (As := [.int ((g (26 + j)) + by_), .int 0, .int 3]) (rest := []) ⟨hx, hb, hml, hown, hts⟩ (c_X11_in G hL l ω ((g (26 + j)) + by_) 0 3) (va_cwS 3 hts gX11_foldsBy_X11_in rfl rfl rfl (by decide +kernel) ⟨Nat.le_of_ble_eq_true rfl, Nat.le_of_ble_eq_true rfl⟩) (fw_preS hW hR) rfl rfl hl.1 rfl (lv_room (Nat.le_of_ble_eq_true rfl)) dX11_foldsBy_65 ⟨Nat.le_of_ble_eq_true rfl, Nat.le_of_ble_eq_true rfl⟩) hS (fun v_8 ω_9 H locs hq_10 hR hS => ?_)
      obtain ⟨rfl, hq_10⟩ := hq_10
      rw [hq_10] at hR
      refine W.eq (g2 := F0 mI 68 ls [.int (bz (inB ((g (26 + j)) + by_) 0 3))]) rfl ?_
      refine lv_if_ne (tgt := 79) hx hb dX11_foldsBy_68 (by decide) (fun c_11 => ?_) (fun c_11 => ?_)
      · skip
        have c_11 := bz_ne c_11
        obtain ⟨f0, hf03, hfe⟩ := in_n (n := 3) (by decide) c_11
        have hcf0 : cN (g (26 + j) + by_) = f0 := by rw [hfe]; exact cN_nI (by omega)
        refine lv_aload_n hx hb dX11_foldsBy_79 rfl (lv_at hl 1 rfl) ?_
        refine fw_get (v := .ref (m + 1)) (C := RX11) (T := TX11) (N := 19) hx hb hts hin11 hown hK hR m0 rfl 0 (by decide) (hts (.fieldLink RX11 7 "UnreadLeafletsModel" "g" "[I") (by decide +kernel)) rfl dX11_foldsBy_80 ?_
        refine lv_bipush (v := 26) hx hb dX11_foldsBy_83 (by decide) ?_
        refine lv_iload_n hx hb dX11_foldsBy_85 rfl (lv_at hl 2 rfl) ?_
        refine lv_iadd hx hb dX11_foldsBy_86 ?_
        refine lv_dup2_11 hx hb dX11_foldsBy_87 rfl rfl ?_
        have hi_12 : 26 + (nI j) = nI (26 + j) := by
          show (nI 26) + (nI j) = _
          simp only [pk_mul, nI_add, Nat.add_assoc, hc, hd, hn, hff]
        refine W.eq (g2 := F0 mI 88 ls [.int (nI (26 + j)), .ref (m + 1), .int (26 + (nI j)), .ref (m + 1)]) (by rw [hi_12]) ?_
        refine fw_iald hx hb hK hR m1 (vp_in_nI (by omega) (by omega)) dX11_foldsBy_88 ?_
        refine W.eq (g2 := F0 mI 89 ls [.int (g (26 + j)), .int (26 + (nI j)), .ref (m + 1)]) (by rw [nI_clamp (by omega)]) ?_
        refine lv_iload_n hx hb dX11_foldsBy_89 rfl (lv_at hl 3 rfl) ?_
        refine lv_iadd hx hb dX11_foldsBy_90 ?_
        have hi_13 : 26 + (nI j) = nI (26 + j) := by
          show (nI 26) + (nI j) = _
          simp only [pk_mul, nI_add, Nat.add_assoc, hc, hd, hn, hff]
        refine W.eq (g2 := F0 mI 91 ls [.int ((g (26 + j)) + by_), .int (nI (26 + j)), .ref (m + 1)]) (by rw [hi_13]) ?_
        refine fw_iast hx hb hK hR hS m1 (vp_in_nI (by omega) (by omega)) dX11_foldsBy_91 (fun H locs hR hS => ?_)
        rw [show (nI (26 + j)).toNatClampNeg = 26 + j from nI_clamp (by omega)] at hR
        obtain ⟨ω_14, hw_15⟩ : ∃ τ : FWd, τ = (ω.1, va_up ω.2 (m + 1) (some (.inl (G.2.1 0, 324, .inl (upd g (26 + j) ((g (26 + j)) + by_)))))) := ⟨_, rfl⟩
        have hR : fR G ω_14 H := by rw [hw_15]; exact hR
        have f_16 : ω_14.2 (m + 1) = some (.inl (G.2.1 0, 324, .inl (upd g (26 + j) ((g (26 + j)) + by_)))) := by rw [hw_15]; exact va_up_at
        have fr_17 : ∀ q : Nat, ¬ q = (m + 1) → ω_14.2 q = ω.2 q := fun q hq => by rw [hw_15]; exact va_up_off hq
        have z_18 : ω_14.1 = ω.1 := by rw [hw_15]
        refine lv_aload_n hx hb dX11_foldsBy_92 rfl (lv_at hl 1 rfl) ?_
        refine lv_aload_n hx hb dX11_foldsBy_93 rfl (lv_at hl 1 rfl) ?_
        refine lv_iload_n hx hb dX11_foldsBy_94 rfl (lv_at hl 2 rfl) ?_
        have f_19 : ω_14.2 m = some (.inr (13, [.ref (m + 1), .ref (m + 2), .ref (m + 3), .int (s 3), .ref (m + 4), .int (s 5), .ref (m + 5), .int (s 7), .int (s 8), .int (s 9), .int (s 10), .int (s 11), .ref (m + 6), .int (s 13), .int (s 14), .ref (m + 7), .int (s 16), .int (s 17), .ref (m + 8)])) := (fr_17 m (by omega)).trans m0
        refine fw_call (va_runV (As := [.int (nI j)]) (rest := [.ref m]) ⟨hx, hb, hml, hown, hts⟩ (c_X11_open G hL l ω_14 m s (upd g (26 + j) ((g (26 + j)) + by_)) f_19 f_16 j (by omega) f0 hf03 (upd_at.trans hfe)) (cwV 1 hts gX11_foldsBy_X11_open rfl rfl rfl (by decide +kernel) ⟨Nat.le_of_ble_eq_true rfl, Nat.le_of_ble_eq_true rfl⟩) (fw_preV hW hK hR f_19 rfl) rfl rfl hl.1 rfl (lv_room (Nat.le_of_ble_eq_true rfl)) dX11_foldsBy_95 ⟨Nat.le_of_ble_eq_true rfl, Nat.le_of_ble_eq_true rfl⟩) hS (fun v_20 ω_21 H locs hq_22 hR hS => ?_)
        obtain ⟨rfl, hq_22⟩ := hq_22
        rw [hq_22] at hR
        refine W.eq (g2 := F0 mI 98 ls [.int (openJ ((upd g (26 + j) ((g (26 + j)) + by_)) (18 + j)) f0), .ref m]) rfl ?_
        refine fw_call (va_runV (As := [.int (openJ ((upd g (26 + j) ((g (26 + j)) + by_)) (18 + j)) f0)]) (rest := []) ⟨hx, hb, hml, hown, hts⟩ (c_X11_done G hL l ω_14 m s (upd g (26 + j) ((g (26 + j)) + by_)) f_19 f_16 (openJ ((upd g (26 + j) ((g (26 + j)) + by_)) (18 + j)) f0)) (cwV 1 hts gX11_foldsBy_X11_done rfl rfl rfl (by decide +kernel) ⟨Nat.le_of_ble_eq_true rfl, Nat.le_of_ble_eq_true rfl⟩) (fw_preV hW hK hR f_19 rfl) rfl rfl hl.1 rfl (lv_room (Nat.le_of_ble_eq_true rfl)) dX11_foldsBy_98 ⟨Nat.le_of_ble_eq_true rfl, Nat.le_of_ble_eq_true rfl⟩) hS (fun v_23 ω_24 H locs hq_25 hR hS => ?_)
        obtain ⟨rfl, z_26, f_28, fr_27⟩ := hq_25
        refine W.eq (g2 := F0 mI 101 ls [.int (openJ ((upd g (26 + j) ((g (26 + j)) + by_)) (18 + j)) f0)]) rfl ?_
        have f_29 : ω_24.2 (m + 1) = some (.inl (G.2.1 0, 324, .inl (upd g (26 + j) ((g (26 + j)) + by_)))) := (fr_27 (m + 1) (by omega)).trans f_16
        have fr_30 : ∀ q : Nat, ¬ q = m → ¬ q = (m + 1) → ω_24.2 q = ω.2 q := by
          intro q h0 h1
          rw [fr_27 q (by omega)]
          rw [fr_17 q (by omega)]
        have z_31 : ω_24.1 = ω.1 := by rw [z_26, z_18]
        have hr_32 : foldsM s g (nI j) by_ = (((openJ ((upd g (26 + j) ((g (26 + j)) + by_)) (18 + j)) f0), (upd s 14 0), (upd g (26 + j) ((g (26 + j)) + by_))) : Int32 × (Nat → Int32) × (Nat → Int32)) := by
          simp only [foldsM, hcc, hdd, hcj, hnn, hfn, hcf0]
          rw [if_pos c_4, if_pos c_6, if_pos c_11]
        refine fw_iret hx hb hr hlocks hR hS dX11_foldsBy_101 ?_
        rw [hr_32]
        exact ⟨rfl, z_31, f_28, f_29, fr_30⟩
      · skip
        have c_11 := bz_eq c_11
        refine lv_aload_n hx hb dX11_foldsBy_71 rfl (lv_at hl 1 rfl) ?_
        refine lv_bipush (v := 11) hx hb dX11_foldsBy_72 (by decide) ?_
        refine lv_iload_n hx hb dX11_foldsBy_74 rfl (lv_at hl 0 rfl) ?_
        refine fw_call (va_runV (As := [.int 11, .int (g (26 + j))]) (rest := []) ⟨hx, hb, hml, hown, hts⟩ (c_X11_refused G hL l ω m s g m0 m1 11 (g (26 + j))) (cwV 2 hts gX11_foldsBy_X11_refused rfl rfl rfl (by decide +kernel) ⟨Nat.le_of_ble_eq_true rfl, Nat.le_of_ble_eq_true rfl⟩) (fw_preV hW hK hR m0 rfl) rfl rfl hl.1 rfl (lv_room (Nat.le_of_ble_eq_true rfl)) dX11_foldsBy_75 ⟨Nat.le_of_ble_eq_true rfl, Nat.le_of_ble_eq_true rfl⟩) hS (fun v_33 ω_34 H locs hq_35 hR hS => ?_)
        obtain ⟨rfl, z_36, f_38, fr_37⟩ := hq_35
        refine W.eq (g2 := F0 mI 78 ls [.int 0]) rfl ?_
        have f_39 : ω_34.2 (m + 1) = some (.inl (G.2.1 0, 324, .inl g)) := (fr_37 (m + 1) (by omega)).trans m1
        have fr_40 : ∀ q : Nat, ¬ q = m → ¬ q = (m + 1) → ω_34.2 q = ω.2 q := by
          intro q h0 h1
          rw [fr_37 q (by omega)]
        have z_41 : ω_34.1 = ω.1 := by rw [z_36]
        have hr_42 : foldsM s g (nI j) by_ = ((0, (upd (upd (upd (upd s 9 11) 10 (g (26 + j))) 11 0) 14 1), g) : Int32 × (Nat → Int32) × (Nat → Int32)) := by
          simp only [foldsM, hcc, hdd, hcj, hnn, hfn]
          rw [if_pos c_4, if_pos c_6, if_neg c_11]
        refine fw_iret hx hb hr hlocks hR hS dX11_foldsBy_78 ?_
        rw [hr_42]
        exact ⟨rfl, z_41, f_38, f_39, fr_40⟩
    · skip
      refine lv_aload_n hx hb dX11_foldsBy_32 rfl (lv_at hl 0 rfl) ?_
      refine lv_bipush (v := 6) hx hb dX11_foldsBy_33 (by decide) ?_
      refine lv_aload_n hx hb dX11_foldsBy_35 rfl (lv_at hl 0 rfl) ?_
      refine fw_get (v := .ref (m + 1)) (C := RX11) (T := TX11) (N := 19) hx hb hts hin11 hown hK hR m0 rfl 0 (by decide) (hts (.fieldLink RX11 7 "UnreadLeafletsModel" "g" "[I") (by decide +kernel)) rfl dX11_foldsBy_36 ?_
      refine lv_bipush (v := 42) hx hb dX11_foldsBy_39 (by decide) ?_
      refine lv_iload_n hx hb dX11_foldsBy_41 rfl (lv_at hl 1 rfl) ?_
      refine lv_iadd hx hb dX11_foldsBy_42 ?_
      have hi_43 : 42 + (nI j) = nI (42 + j) := by
        show (nI 42) + (nI j) = _
        simp only [pk_mul, nI_add, Nat.add_assoc, hc, hd, hn, hff]
      refine W.eq (g2 := F0 mI 43 ls [.int (nI (42 + j)), .ref (m + 1), .int 6, .ref m]) (by rw [hi_43]) ?_
      refine fw_iald hx hb hK hR m1 (vp_in_nI (by omega) (by omega)) dX11_foldsBy_43 ?_
      refine W.eq (g2 := F0 mI 44 ls [.int (g (42 + j)), .int 6, .ref m]) (by rw [nI_clamp (by omega)]) ?_
      refine lv_iconst (v := 1) hx hb dX11_foldsBy_44 (by decide) ?_
      refine lv_isub hx hb dX11_foldsBy_45 ?_
      refine fw_call (va_runV (As := [.int 6, .int ((g (42 + j)) - 1)]) (rest := []) ⟨hx, hb, hml, hown, hts⟩ (c_X11_refused G hL l ω m s g m0 m1 6 ((g (42 + j)) - 1)) (cwV 2 hts gX11_foldsBy_X11_refused rfl rfl rfl (by decide +kernel) ⟨Nat.le_of_ble_eq_true rfl, Nat.le_of_ble_eq_true rfl⟩) (fw_preV hW hK hR m0 rfl) rfl rfl hl.1 rfl (lv_room (Nat.le_of_ble_eq_true rfl)) dX11_foldsBy_46 ⟨Nat.le_of_ble_eq_true rfl, Nat.le_of_ble_eq_true rfl⟩) hS (fun v_44 ω_45 H locs hq_46 hR hS => ?_)
      obtain ⟨rfl, z_47, f_49, fr_48⟩ := hq_46
      refine W.eq (g2 := F0 mI 49 ls [.int 0]) rfl ?_
      have f_50 : ω_45.2 (m + 1) = some (.inl (G.2.1 0, 324, .inl g)) := (fr_48 (m + 1) (by omega)).trans m1
      have fr_51 : ∀ q : Nat, ¬ q = m → ¬ q = (m + 1) → ω_45.2 q = ω.2 q := by
        intro q h0 h1
        rw [fr_48 q (by omega)]
      have z_52 : ω_45.1 = ω.1 := by rw [z_47]
      have hr_53 : foldsM s g (nI j) by_ = ((0, (upd (upd (upd (upd s 9 6) 10 ((g (42 + j)) - 1)) 11 0) 14 1), g) : Int32 × (Nat → Int32) × (Nat → Int32)) := by
        simp only [foldsM, hcc, hdd, hcj, hnn, hfn]
        rw [if_pos c_4, if_neg c_6]
      refine fw_iret hx hb hr hlocks hR hS dX11_foldsBy_49 ?_
      rw [hr_53]
      exact ⟨rfl, z_52, f_49, f_50, fr_51⟩
  · skip
    have c_4 := bz_eq c_4
    refine lv_aload_n hx hb dX11_foldsBy_8 rfl (lv_at hl 0 rfl) ?_
    refine lv_iconst (v := 3) hx hb dX11_foldsBy_9 (by decide) ?_
    refine lv_aload_n hx hb dX11_foldsBy_10 rfl (lv_at hl 0 rfl) ?_
    refine fw_get (v := .ref (m + 1)) (C := RX11) (T := TX11) (N := 19) hx hb hts hin11 hown hK hR m0 rfl 0 (by decide) (hts (.fieldLink RX11 7 "UnreadLeafletsModel" "g" "[I") (by decide +kernel)) rfl dX11_foldsBy_11 ?_
    refine lv_iconst (v := 0) hx hb dX11_foldsBy_14 (by decide) ?_
    refine fw_iald hx hb hK hR m1 (vp_in_nI (n := 0) (by omega) (by omega)) dX11_foldsBy_15 ?_
    refine W.eq (g2 := F0 mI 16 ls [.int (g 0), .int 3, .ref m]) (by rw [show (0 : Int32).toNatClampNeg = 0 from rfl]) ?_
    refine fw_call (va_runV (As := [.int 3, .int (g 0)]) (rest := []) ⟨hx, hb, hml, hown, hts⟩ (c_X11_refused G hL l ω m s g m0 m1 3 (g 0)) (cwV 2 hts gX11_foldsBy_X11_refused rfl rfl rfl (by decide +kernel) ⟨Nat.le_of_ble_eq_true rfl, Nat.le_of_ble_eq_true rfl⟩) (fw_preV hW hK hR m0 rfl) rfl rfl hl.1 rfl (lv_room (Nat.le_of_ble_eq_true rfl)) dX11_foldsBy_16 ⟨Nat.le_of_ble_eq_true rfl, Nat.le_of_ble_eq_true rfl⟩) hS (fun v_54 ω_55 H locs hq_56 hR hS => ?_)
    obtain ⟨rfl, z_57, f_59, fr_58⟩ := hq_56
    refine W.eq (g2 := F0 mI 19 ls [.int 0]) rfl ?_
    have f_60 : ω_55.2 (m + 1) = some (.inl (G.2.1 0, 324, .inl g)) := (fr_58 (m + 1) (by omega)).trans m1
    have fr_61 : ∀ q : Nat, ¬ q = m → ¬ q = (m + 1) → ω_55.2 q = ω.2 q := by
      intro q h0 h1
      rw [fr_58 q (by omega)]
    have z_62 : ω_55.1 = ω.1 := by rw [z_57]
    have hr_63 : foldsM s g lf by_ = ((0, (upd (upd (upd (upd s 9 3) 10 (g 0)) 11 0) 14 1), g) : Int32 × (Nat → Int32) × (Nat → Int32)) := by
      simp only [foldsM, hcc, hdd]
      rw [if_neg c_4]
    refine fw_iret hx hb hr hlocks hR hS dX11_foldsBy_19 ?_
    rw [hr_63]
    exact ⟨rfl, z_62, f_59, f_60, fr_61⟩
def comesM (s g : Nat → Int32) (bo : Int32) (la : Int32) : Int32 × (Nat → Int32) × (Nat → Int32) := if inB bo 0 5 then (if inB la 0 31 then (if (g 1) = 5 then ((0, (upd (upd (upd (upd s 9 2) 10 5) 11 0) 14 1), g)) else (((g 1), (upd s 14 0), (upd (upd (upd g (58 + (cN (g 1))) bo) (63 + (cN (g 1))) la) 1 (((upd (upd g (58 + (cN (g 1))) bo) (63 + (cN (g 1))) la) 1) + 1))))) else ((0, (upd (upd (upd (upd s 9 1) 10 0) 11 0) 14 1), g))) else ((0, (upd (upd (upd (upd s 9 1) 10 0) 11 0) 14 1), g))
set_option maxHeartbeats 4000000 in
set_option maxRecDepth 100000 in
theorem c_X11_comes (G : FG) (hL : FL G) (l : Launch) (ω : FWd) (m : Nat) (s g : Nat → Int32) (m0 : ω.2 m = some (.inr (13, [.ref (m + 1), .ref (m + 2), .ref (m + 3), .int (s 3), .ref (m + 4), .int (s 5), .ref (m + 5), .int (s 7), .int (s 8), .int (s 9), .int (s 10), .int (s 11), .ref (m + 6), .int (s 13), .int (s 14), .ref (m + 7), .int (s 16), .int (s 17), .ref (m + 8)]))) (m1 : ω.2 (m + 1) = some (.inl (G.2.1 0, 324, .inl g))) (hM : WFM g) (bo : Int32) (la : Int32) : FMet G l yX11_comes wsX11_comes ({ frames := 2, cells := 0, slots := 0, locals := 43 } : Room) [.ref m, .int bo, .int la] ω (fun vv9 τ9 => vv9 = some (.int ((comesM s g bo la).1)) ∧ τ9.1 = ω.1 ∧ τ9.2 m = some (.inr (13, [.ref (m + 1), .ref (m + 2), .ref (m + 3), .int (((comesM s g bo la).2.1) 3), .ref (m + 4), .int (((comesM s g bo la).2.1) 5), .ref (m + 5), .int (((comesM s g bo la).2.1) 7), .int (((comesM s g bo la).2.1) 8), .int (((comesM s g bo la).2.1) 9), .int (((comesM s g bo la).2.1) 10), .int (((comesM s g bo la).2.1) 11), .ref (m + 6), .int (((comesM s g bo la).2.1) 13), .int (((comesM s g bo la).2.1) 14), .ref (m + 7), .int (((comesM s g bo la).2.1) 16), .int (((comesM s g bo la).2.1) 17), .ref (m + 8)])) ∧ τ9.2 (m + 1) = some (.inl (G.2.1 0, 324, .inl ((comesM s g bo la).2.2))) ∧ ∀ q : Nat, ¬ q = m → ¬ q = (m + 1) → τ9.2 q = ω.2 q) 0 0 := by
  refine fw_ofW (cc := cX11_comes) (maxL := 4) (ret := (some .int)) (by decide) rfl (Nat.le_of_ble_eq_true rfl) ?_
  intro pP eE sS mI ar9 bl9 meth cD ls hx hb hr hlocks hml hts hown hnm hW hR hl
  have hK := hL.K hW
  have hS : va_S (fwA G) sS.heap sS.heap [] := va_S.rf
  have hin11 : ∀ w ∈ u_ws RX11 TX11 19, w ∈ wsX11_comes := by decide +kernel
  have hl : lv_has ls 4 [(0, .ref m), (1, .int bo), (2, .int la)] := hl
  obtain ⟨c, hc8, hc, hcc⟩ := okN_of hM.1
  obtain ⟨cc, hd5, hd, hdd⟩ := okN_of hM.2.1
  refine lv_iload_n hx hb dX11_comes_0 rfl (lv_at hl 1 rfl) ?_
  refine lv_iconst (v := 0) hx hb dX11_comes_1 (by decide) ?_
  refine lv_iconst (v := 5) hx hb dX11_comes_2 (by decide) ?_
  refine fw_call (va_runS (As := [.int bo, .int 0, .int 5]) (rest := []) ⟨hx, hb, hml, hown, hts⟩ (c_X11_in G hL l ω bo 0 5) (va_cwS 3 hts gX11_comes_X11_in rfl rfl rfl (by decide +kernel) ⟨Nat.le_of_ble_eq_true rfl, Nat.le_of_ble_eq_true rfl⟩) (fw_preS hW hR) rfl rfl hl.1 rfl (lv_room (Nat.le_of_ble_eq_true rfl)) dX11_comes_3 ⟨Nat.le_of_ble_eq_true rfl, Nat.le_of_ble_eq_true rfl⟩) hS (fun v_1 ω_2 H locs hq_3 hR hS => ?_)
  obtain ⟨rfl, hq_3⟩ := hq_3
  rw [hq_3] at hR
  refine W.eq (g2 := F0 mI 6 ls [.int (bz (inB bo 0 5))]) rfl ?_
  refine lv_if_eq (tgt := 19) hx hb dX11_comes_6 (by decide) (fun c_4 => ?_) (fun c_4 => ?_)
  · skip
    have c_4 := bz_eq c_4
    refine lv_aload_n hx hb dX11_comes_19 rfl (lv_at hl 0 rfl) ?_
    refine lv_iconst (v := 1) hx hb dX11_comes_20 (by decide) ?_
    refine lv_iconst (v := 0) hx hb dX11_comes_21 (by decide) ?_
    refine fw_call (va_runV (As := [.int 1, .int 0]) (rest := []) ⟨hx, hb, hml, hown, hts⟩ (c_X11_refused G hL l ω m s g m0 m1 1 0) (cwV 2 hts gX11_comes_X11_refused rfl rfl rfl (by decide +kernel) ⟨Nat.le_of_ble_eq_true rfl, Nat.le_of_ble_eq_true rfl⟩) (fw_preV hW hK hR m0 rfl) rfl rfl hl.1 rfl (lv_room (Nat.le_of_ble_eq_true rfl)) dX11_comes_22 ⟨Nat.le_of_ble_eq_true rfl, Nat.le_of_ble_eq_true rfl⟩) hS (fun v_5 ω_6 H locs hq_7 hR hS => ?_)
    obtain ⟨rfl, z_8, f_10, fr_9⟩ := hq_7
    refine W.eq (g2 := F0 mI 25 ls [.int 0]) rfl ?_
    have f_11 : ω_6.2 (m + 1) = some (.inl (G.2.1 0, 324, .inl g)) := (fr_9 (m + 1) (by omega)).trans m1
    have fr_12 : ∀ q : Nat, ¬ q = m → ¬ q = (m + 1) → ω_6.2 q = ω.2 q := by
      intro q h0 h1
      rw [fr_9 q (by omega)]
    have z_13 : ω_6.1 = ω.1 := by rw [z_8]
    have hr_14 : comesM s g bo la = ((0, (upd (upd (upd (upd s 9 1) 10 0) 11 0) 14 1), g) : Int32 × (Nat → Int32) × (Nat → Int32)) := by
      simp only [comesM, hcc, hdd]
      rw [if_neg c_4]
    refine fw_iret hx hb hr hlocks hR hS dX11_comes_25 ?_
    rw [hr_14]
    exact ⟨rfl, z_13, f_10, f_11, fr_12⟩
  · skip
    have c_4 := bz_ne c_4
    refine lv_iload_n hx hb dX11_comes_9 rfl (lv_at hl 2 rfl) ?_
    refine lv_iconst (v := 0) hx hb dX11_comes_10 (by decide) ?_
    refine lv_bipush (v := 31) hx hb dX11_comes_11 (by decide) ?_
    refine fw_call (va_runS (As := [.int la, .int 0, .int 31]) (rest := []) ⟨hx, hb, hml, hown, hts⟩ (c_X11_in G hL l ω la 0 31) (va_cwS 3 hts gX11_comes_X11_in rfl rfl rfl (by decide +kernel) ⟨Nat.le_of_ble_eq_true rfl, Nat.le_of_ble_eq_true rfl⟩) (fw_preS hW hR) rfl rfl hl.1 rfl (lv_room (Nat.le_of_ble_eq_true rfl)) dX11_comes_13 ⟨Nat.le_of_ble_eq_true rfl, Nat.le_of_ble_eq_true rfl⟩) hS (fun v_15 ω_16 H locs hq_17 hR hS => ?_)
    obtain ⟨rfl, hq_17⟩ := hq_17
    rw [hq_17] at hR
    refine W.eq (g2 := F0 mI 16 ls [.int (bz (inB la 0 31))]) rfl ?_
    refine lv_if_ne (tgt := 26) hx hb dX11_comes_16 (by decide) (fun c_18 => ?_) (fun c_18 => ?_)
    · skip
      have c_18 := bz_ne c_18
      refine lv_aload_n hx hb dX11_comes_26 rfl (lv_at hl 0 rfl) ?_
      refine fw_get (v := .ref (m + 1)) (C := RX11) (T := TX11) (N := 19) hx hb hts hin11 hown hK hR m0 rfl 0 (by decide) (hts (.fieldLink RX11 7 "UnreadLeafletsModel" "g" "[I") (by decide +kernel)) rfl dX11_comes_27 ?_
      refine lv_iconst (v := 1) hx hb dX11_comes_30 (by decide) ?_
      refine fw_iald hx hb hK hR m1 (vp_in_nI (n := 1) (by omega) (by omega)) dX11_comes_31 ?_
      refine W.eq (g2 := F0 mI 32 ls [.int (g 1)]) (by rw [show (1 : Int32).toNatClampNeg = 1 from rfl]) ?_
      refine lv_istore_n (lv' := [(3, .int (g 1)), (0, .ref m), (1, .int bo), (2, .int la)]) hx hb dX11_comes_32 rfl hl (by decide) rfl (fun ls hl => ?_)
      refine lv_iload_n hx hb dX11_comes_33 rfl (lv_at hl 0 rfl) ?_
      refine lv_iconst (v := 5) hx hb dX11_comes_34 (by decide) ?_
      refine lv_icmp_ne (tgt := 45) hx hb dX11_comes_35 (by decide) (fun c_19 => ?_) (fun c_19 => ?_)
      · skip
        refine lv_aload_n hx hb dX11_comes_45 rfl (lv_at hl 1 rfl) ?_
        refine fw_get (v := .ref (m + 1)) (C := RX11) (T := TX11) (N := 19) hx hb hts hin11 hown hK hR m0 rfl 0 (by decide) (hts (.fieldLink RX11 7 "UnreadLeafletsModel" "g" "[I") (by decide +kernel)) rfl dX11_comes_46 ?_
        refine lv_bipush (v := 58) hx hb dX11_comes_49 (by decide) ?_
        refine lv_iload_n hx hb dX11_comes_51 rfl (lv_at hl 0 rfl) ?_
        refine lv_iadd hx hb dX11_comes_52 ?_
        refine lv_iload_n hx hb dX11_comes_53 rfl (lv_at hl 2 rfl) ?_
        have hi_20 : 58 + (g 1) = nI (58 + cc) := by
          show (nI 58) + (g 1) = _
          simp only [pk_mul, nI_add, Nat.add_assoc, hc, hd]
        refine W.eq (g2 := F0 mI 54 ls [.int bo, .int (nI (58 + cc)), .ref (m + 1)]) (by rw [hi_20]) ?_
        refine fw_iast hx hb hK hR hS m1 (vp_in_nI (by omega) (by omega)) dX11_comes_54 (fun H locs hR hS => ?_)
        rw [show (nI (58 + cc)).toNatClampNeg = 58 + cc from nI_clamp (by omega)] at hR
        obtain ⟨ω_21, hw_22⟩ : ∃ τ : FWd, τ = (ω.1, va_up ω.2 (m + 1) (some (.inl (G.2.1 0, 324, .inl (upd g (58 + cc) bo))))) := ⟨_, rfl⟩
        have hR : fR G ω_21 H := by rw [hw_22]; exact hR
        have f_23 : ω_21.2 (m + 1) = some (.inl (G.2.1 0, 324, .inl (upd g (58 + cc) bo))) := by rw [hw_22]; exact va_up_at
        have fr_24 : ∀ q : Nat, ¬ q = (m + 1) → ω_21.2 q = ω.2 q := fun q hq => by rw [hw_22]; exact va_up_off hq
        have z_25 : ω_21.1 = ω.1 := by rw [hw_22]
        refine lv_aload_n hx hb dX11_comes_55 rfl (lv_at hl 1 rfl) ?_
        have f_26 : ω_21.2 m = some (.inr (13, [.ref (m + 1), .ref (m + 2), .ref (m + 3), .int (s 3), .ref (m + 4), .int (s 5), .ref (m + 5), .int (s 7), .int (s 8), .int (s 9), .int (s 10), .int (s 11), .ref (m + 6), .int (s 13), .int (s 14), .ref (m + 7), .int (s 16), .int (s 17), .ref (m + 8)])) := (fr_24 m (by omega)).trans m0
        refine fw_get (v := .ref (m + 1)) (C := RX11) (T := TX11) (N := 19) hx hb hts hin11 hown hK hR f_26 rfl 0 (by decide) (hts (.fieldLink RX11 7 "UnreadLeafletsModel" "g" "[I") (by decide +kernel)) rfl dX11_comes_56 ?_
        refine lv_bipush (v := 63) hx hb dX11_comes_59 (by decide) ?_
        refine lv_iload_n hx hb dX11_comes_61 rfl (lv_at hl 0 rfl) ?_
        refine lv_iadd hx hb dX11_comes_62 ?_
        refine lv_iload_n hx hb dX11_comes_63 rfl (lv_at hl 3 rfl) ?_
        have hi_27 : 63 + (g 1) = nI (63 + cc) := by
          show (nI 63) + (g 1) = _
          simp only [pk_mul, nI_add, Nat.add_assoc, hc, hd]
        refine W.eq (g2 := F0 mI 64 ls [.int la, .int (nI (63 + cc)), .ref (m + 1)]) (by rw [hi_27]) ?_
        refine fw_iast hx hb hK hR hS f_23 (vp_in_nI (by omega) (by omega)) dX11_comes_64 (fun H locs hR hS => ?_)
        rw [show (nI (63 + cc)).toNatClampNeg = 63 + cc from nI_clamp (by omega)] at hR
        obtain ⟨ω_28, hw_29⟩ : ∃ τ : FWd, τ = (ω_21.1, va_up ω_21.2 (m + 1) (some (.inl (G.2.1 0, 324, .inl (upd (upd g (58 + cc) bo) (63 + cc) la))))) := ⟨_, rfl⟩
        have hR : fR G ω_28 H := by rw [hw_29]; exact hR
        have f_30 : ω_28.2 (m + 1) = some (.inl (G.2.1 0, 324, .inl (upd (upd g (58 + cc) bo) (63 + cc) la))) := by rw [hw_29]; exact va_up_at
        have fr_31 : ∀ q : Nat, ¬ q = (m + 1) → ω_28.2 q = ω_21.2 q := fun q hq => by rw [hw_29]; exact va_up_off hq
        have z_32 : ω_28.1 = ω_21.1 := by rw [hw_29]
        refine lv_aload_n hx hb dX11_comes_65 rfl (lv_at hl 1 rfl) ?_
        have f_33 : ω_28.2 m = some (.inr (13, [.ref (m + 1), .ref (m + 2), .ref (m + 3), .int (s 3), .ref (m + 4), .int (s 5), .ref (m + 5), .int (s 7), .int (s 8), .int (s 9), .int (s 10), .int (s 11), .ref (m + 6), .int (s 13), .int (s 14), .ref (m + 7), .int (s 16), .int (s 17), .ref (m + 8)])) := (fr_31 m (by omega)).trans f_26
        refine fw_get (v := .ref (m + 1)) (C := RX11) (T := TX11) (N := 19) hx hb hts hin11 hown hK hR f_33 rfl 0 (by decide) (hts (.fieldLink RX11 7 "UnreadLeafletsModel" "g" "[I") (by decide +kernel)) rfl dX11_comes_66 ?_
        refine lv_iconst (v := 1) hx hb dX11_comes_69 (by decide) ?_
        refine lv_dup2_11 hx hb dX11_comes_70 rfl rfl ?_
        refine fw_iald hx hb hK hR f_30 (vp_in_nI (n := 1) (by omega) (by omega)) dX11_comes_71 ?_
        refine W.eq (g2 := F0 mI 72 ls [.int ((upd (upd g (58 + cc) bo) (63 + cc) la) 1), .int 1, .ref (m + 1)]) (by rw [show (1 : Int32).toNatClampNeg = 1 from rfl]) ?_
        refine lv_iconst (v := 1) hx hb dX11_comes_72 (by decide) ?_
        refine lv_iadd hx hb dX11_comes_73 ?_
        refine fw_iast hx hb hK hR hS f_30 (vp_in_nI (n := 1) (by omega) (by omega)) dX11_comes_74 (fun H locs hR hS => ?_)
        rw [show (1 : Int32).toNatClampNeg = 1 from show (1 : Int32).toNatClampNeg = 1 from rfl] at hR
        obtain ⟨ω_34, hw_35⟩ : ∃ τ : FWd, τ = (ω_28.1, va_up ω_28.2 (m + 1) (some (.inl (G.2.1 0, 324, .inl (upd (upd (upd g (58 + cc) bo) (63 + cc) la) 1 (((upd (upd g (58 + cc) bo) (63 + cc) la) 1) + 1)))))) := ⟨_, rfl⟩
        have hR : fR G ω_34 H := by rw [hw_35]; exact hR
        have f_36 : ω_34.2 (m + 1) = some (.inl (G.2.1 0, 324, .inl (upd (upd (upd g (58 + cc) bo) (63 + cc) la) 1 (((upd (upd g (58 + cc) bo) (63 + cc) la) 1) + 1)))) := by rw [hw_35]; exact va_up_at
        have fr_37 : ∀ q : Nat, ¬ q = (m + 1) → ω_34.2 q = ω_28.2 q := fun q hq => by rw [hw_35]; exact va_up_off hq
        have z_38 : ω_34.1 = ω_28.1 := by rw [hw_35]
        refine lv_aload_n hx hb dX11_comes_75 rfl (lv_at hl 1 rfl) ?_
        refine lv_iload_n hx hb dX11_comes_76 rfl (lv_at hl 0 rfl) ?_
        have f_39 : ω_34.2 m = some (.inr (13, [.ref (m + 1), .ref (m + 2), .ref (m + 3), .int (s 3), .ref (m + 4), .int (s 5), .ref (m + 5), .int (s 7), .int (s 8), .int (s 9), .int (s 10), .int (s 11), .ref (m + 6), .int (s 13), .int (s 14), .ref (m + 7), .int (s 16), .int (s 17), .ref (m + 8)])) := (fr_37 m (by omega)).trans f_33
        refine fw_call (va_runV (As := [.int (g 1)]) (rest := []) ⟨hx, hb, hml, hown, hts⟩ (c_X11_done G hL l ω_34 m s (upd (upd (upd g (58 + cc) bo) (63 + cc) la) 1 (((upd (upd g (58 + cc) bo) (63 + cc) la) 1) + 1)) f_39 f_36 (g 1)) (cwV 1 hts gX11_comes_X11_done rfl rfl rfl (by decide +kernel) ⟨Nat.le_of_ble_eq_true rfl, Nat.le_of_ble_eq_true rfl⟩) (fw_preV hW hK hR f_39 rfl) rfl rfl hl.1 rfl (lv_room (Nat.le_of_ble_eq_true rfl)) dX11_comes_77 ⟨Nat.le_of_ble_eq_true rfl, Nat.le_of_ble_eq_true rfl⟩) hS (fun v_40 ω_41 H locs hq_42 hR hS => ?_)
        obtain ⟨rfl, z_43, f_45, fr_44⟩ := hq_42
        refine W.eq (g2 := F0 mI 80 ls [.int (g 1)]) rfl ?_
        have f_46 : ω_41.2 (m + 1) = some (.inl (G.2.1 0, 324, .inl (upd (upd (upd g (58 + cc) bo) (63 + cc) la) 1 (((upd (upd g (58 + cc) bo) (63 + cc) la) 1) + 1)))) := (fr_44 (m + 1) (by omega)).trans f_36
        have fr_47 : ∀ q : Nat, ¬ q = m → ¬ q = (m + 1) → ω_41.2 q = ω.2 q := by
          intro q h0 h1
          rw [fr_44 q (by omega)]
          rw [fr_37 q (by omega)]
          rw [fr_31 q (by omega)]
          rw [fr_24 q (by omega)]
        have z_48 : ω_41.1 = ω.1 := by rw [z_43, z_38, z_32, z_25]
        have hr_49 : comesM s g bo la = (((g 1), (upd s 14 0), (upd (upd (upd g (58 + cc) bo) (63 + cc) la) 1 (((upd (upd g (58 + cc) bo) (63 + cc) la) 1) + 1))) : Int32 × (Nat → Int32) × (Nat → Int32)) := by
          simp only [comesM, hcc, hdd]
          rw [if_pos c_4, if_pos c_18, if_neg c_19]
        refine fw_iret hx hb hr hlocks hR hS dX11_comes_80 ?_
        rw [hr_49]
        exact ⟨rfl, z_48, f_45, f_46, fr_47⟩
      · skip
        refine lv_aload_n hx hb dX11_comes_38 rfl (lv_at hl 1 rfl) ?_
        refine lv_iconst (v := 2) hx hb dX11_comes_39 (by decide) ?_
        refine lv_iconst (v := 5) hx hb dX11_comes_40 (by decide) ?_
        refine fw_call (va_runV (As := [.int 2, .int 5]) (rest := []) ⟨hx, hb, hml, hown, hts⟩ (c_X11_refused G hL l ω m s g m0 m1 2 5) (cwV 2 hts gX11_comes_X11_refused rfl rfl rfl (by decide +kernel) ⟨Nat.le_of_ble_eq_true rfl, Nat.le_of_ble_eq_true rfl⟩) (fw_preV hW hK hR m0 rfl) rfl rfl hl.1 rfl (lv_room (Nat.le_of_ble_eq_true rfl)) dX11_comes_41 ⟨Nat.le_of_ble_eq_true rfl, Nat.le_of_ble_eq_true rfl⟩) hS (fun v_50 ω_51 H locs hq_52 hR hS => ?_)
        obtain ⟨rfl, z_53, f_55, fr_54⟩ := hq_52
        refine W.eq (g2 := F0 mI 44 ls [.int 0]) rfl ?_
        have f_56 : ω_51.2 (m + 1) = some (.inl (G.2.1 0, 324, .inl g)) := (fr_54 (m + 1) (by omega)).trans m1
        have fr_57 : ∀ q : Nat, ¬ q = m → ¬ q = (m + 1) → ω_51.2 q = ω.2 q := by
          intro q h0 h1
          rw [fr_54 q (by omega)]
        have z_58 : ω_51.1 = ω.1 := by rw [z_53]
        have hr_59 : comesM s g bo la = ((0, (upd (upd (upd (upd s 9 2) 10 5) 11 0) 14 1), g) : Int32 × (Nat → Int32) × (Nat → Int32)) := by
          simp only [comesM, hcc, hdd]
          rw [if_pos c_4, if_pos c_18, if_pos c_19]
        refine fw_iret hx hb hr hlocks hR hS dX11_comes_44 ?_
        rw [hr_59]
        exact ⟨rfl, z_58, f_55, f_56, fr_57⟩
    · skip
      have c_18 := bz_eq c_18
      refine lv_aload_n hx hb dX11_comes_19 rfl (lv_at hl 0 rfl) ?_
      refine lv_iconst (v := 1) hx hb dX11_comes_20 (by decide) ?_
      refine lv_iconst (v := 0) hx hb dX11_comes_21 (by decide) ?_
      refine fw_call (va_runV (As := [.int 1, .int 0]) (rest := []) ⟨hx, hb, hml, hown, hts⟩ (c_X11_refused G hL l ω m s g m0 m1 1 0) (cwV 2 hts gX11_comes_X11_refused rfl rfl rfl (by decide +kernel) ⟨Nat.le_of_ble_eq_true rfl, Nat.le_of_ble_eq_true rfl⟩) (fw_preV hW hK hR m0 rfl) rfl rfl hl.1 rfl (lv_room (Nat.le_of_ble_eq_true rfl)) dX11_comes_22 ⟨Nat.le_of_ble_eq_true rfl, Nat.le_of_ble_eq_true rfl⟩) hS (fun v_60 ω_61 H locs hq_62 hR hS => ?_)
      obtain ⟨rfl, z_63, f_65, fr_64⟩ := hq_62
      refine W.eq (g2 := F0 mI 25 ls [.int 0]) rfl ?_
      have f_66 : ω_61.2 (m + 1) = some (.inl (G.2.1 0, 324, .inl g)) := (fr_64 (m + 1) (by omega)).trans m1
      have fr_67 : ∀ q : Nat, ¬ q = m → ¬ q = (m + 1) → ω_61.2 q = ω.2 q := by
        intro q h0 h1
        rw [fr_64 q (by omega)]
      have z_68 : ω_61.1 = ω.1 := by rw [z_63]
      have hr_69 : comesM s g bo la = ((0, (upd (upd (upd (upd s 9 1) 10 0) 11 0) 14 1), g) : Int32 × (Nat → Int32) × (Nat → Int32)) := by
        simp only [comesM, hcc, hdd]
        rw [if_pos c_4, if_neg c_18]
      refine fw_iret hx hb hr hlocks hR hS dX11_comes_25 ?_
      rw [hr_69]
      exact ⟨rfl, z_68, f_65, f_66, fr_67⟩
def learnsM (s g : Nat → Int32) (co : Int32) (la : Int32) : Int32 × (Nat → Int32) × (Nat → Int32) := if inB co 0 (g 1 - 1) then (if inB la 0 4 then (if (((g (63 + (cN co))) >>> (la &&& 31)) &&& 1) = 1 then ((0, (upd (upd (upd (upd s 9 12) 10 la) 11 0) 14 1), g)) else (((bitsJ ((upd g (63 + (cN co)) ((g (63 + (cN co))) ||| (1 <<< (la &&& 31)))) (63 + (cN co))) 8), (upd s 14 0), (upd g (63 + (cN co)) ((g (63 + (cN co))) ||| (1 <<< (la &&& 31))))))) else ((0, (upd (upd (upd (upd s 9 1) 10 0) 11 0) 14 1), g))) else ((0, (upd (upd (upd (upd s 9 4) 10 (g 1)) 11 0) 14 1), g))
set_option maxHeartbeats 4000000 in
set_option maxRecDepth 100000 in
theorem c_X11_learns (G : FG) (hL : FL G) (l : Launch) (ω : FWd) (m : Nat) (s g : Nat → Int32) (m0 : ω.2 m = some (.inr (13, [.ref (m + 1), .ref (m + 2), .ref (m + 3), .int (s 3), .ref (m + 4), .int (s 5), .ref (m + 5), .int (s 7), .int (s 8), .int (s 9), .int (s 10), .int (s 11), .ref (m + 6), .int (s 13), .int (s 14), .ref (m + 7), .int (s 16), .int (s 17), .ref (m + 8)]))) (m1 : ω.2 (m + 1) = some (.inl (G.2.1 0, 324, .inl g))) (hM : WFM g) (co : Int32) (la : Int32) : FMet G l yX11_learns wsX11_learns ({ frames := 2, cells := 0, slots := 0, locals := 43 } : Room) [.ref m, .int co, .int la] ω (fun vv9 τ9 => vv9 = some (.int ((learnsM s g co la).1)) ∧ τ9.1 = ω.1 ∧ τ9.2 m = some (.inr (13, [.ref (m + 1), .ref (m + 2), .ref (m + 3), .int (((learnsM s g co la).2.1) 3), .ref (m + 4), .int (((learnsM s g co la).2.1) 5), .ref (m + 5), .int (((learnsM s g co la).2.1) 7), .int (((learnsM s g co la).2.1) 8), .int (((learnsM s g co la).2.1) 9), .int (((learnsM s g co la).2.1) 10), .int (((learnsM s g co la).2.1) 11), .ref (m + 6), .int (((learnsM s g co la).2.1) 13), .int (((learnsM s g co la).2.1) 14), .ref (m + 7), .int (((learnsM s g co la).2.1) 16), .int (((learnsM s g co la).2.1) 17), .ref (m + 8)])) ∧ τ9.2 (m + 1) = some (.inl (G.2.1 0, 324, .inl ((learnsM s g co la).2.2))) ∧ ∀ q : Nat, ¬ q = m → ¬ q = (m + 1) → τ9.2 q = ω.2 q) 0 0 := by
  refine fw_ofW (cc := cX11_learns) (maxL := 3) (ret := (some .int)) (by decide) rfl (Nat.le_of_ble_eq_true rfl) ?_
  intro pP eE sS mI ar9 bl9 meth cD ls hx hb hr hlocks hml hts hown hnm hW hR hl
  have hK := hL.K hW
  have hS : va_S (fwA G) sS.heap sS.heap [] := va_S.rf
  have hin11 : ∀ w ∈ u_ws RX11 TX11 19, w ∈ wsX11_learns := by decide +kernel
  have hl : lv_has ls 3 [(0, .ref m), (1, .int co), (2, .int la)] := hl
  obtain ⟨c, hc8, hc, hcc⟩ := okN_of hM.1
  obtain ⟨cc, hd5, hd, hdd⟩ := okN_of hM.2.1
  refine lv_aload_n hx hb dX11_learns_0 rfl (lv_at hl 0 rfl) ?_
  refine lv_iload_n hx hb dX11_learns_1 rfl (lv_at hl 1 rfl) ?_
  refine fw_call (va_runV (As := [.int co]) (rest := []) ⟨hx, hb, hml, hown, hts⟩ (c_X11_isCousin G hL l ω m s g m0 m1 co) (cwV 1 hts gX11_learns_X11_isCousin rfl rfl rfl (by decide +kernel) ⟨Nat.le_of_ble_eq_true rfl, Nat.le_of_ble_eq_true rfl⟩) (fw_preV hW hK hR m0 rfl) rfl rfl hl.1 rfl (lv_room (Nat.le_of_ble_eq_true rfl)) dX11_learns_2 ⟨Nat.le_of_ble_eq_true rfl, Nat.le_of_ble_eq_true rfl⟩) hS (fun v_1 ω_2 H locs hq_3 hR hS => ?_)
  obtain ⟨rfl, hq_3⟩ := hq_3
  rw [hq_3] at hR
  refine W.eq (g2 := F0 mI 5 ls [.int (bz (inB co 0 (g 1 - 1)))]) rfl ?_
  refine lv_if_ne (tgt := 20) hx hb dX11_learns_5 (by decide) (fun c_4 => ?_) (fun c_4 => ?_)
  · skip
    have c_4 := bz_ne c_4
    obtain ⟨i, hi2, rfl⟩ := in_c hd (by omega) c_4
    have hci : cN (nI i) = i := cN_nI (by omega)
    refine lv_iload_n hx hb dX11_learns_20 rfl (lv_at hl 2 rfl) ?_
    refine lv_iconst (v := 0) hx hb dX11_learns_21 (by decide) ?_
    refine lv_iconst (v := 4) hx hb dX11_learns_22 (by decide) ?_
    refine fw_call (va_runS (As := [.int la, .int 0, .int 4]) (rest := []) ⟨hx, hb, hml, hown, hts⟩ (c_X11_in G hL l ω la 0 4) (va_cwS 3 hts gX11_learns_X11_in rfl rfl rfl (by decide +kernel) ⟨Nat.le_of_ble_eq_true rfl, Nat.le_of_ble_eq_true rfl⟩) (fw_preS hW hR) rfl rfl hl.1 rfl (lv_room (Nat.le_of_ble_eq_true rfl)) dX11_learns_23 ⟨Nat.le_of_ble_eq_true rfl, Nat.le_of_ble_eq_true rfl⟩) hS (fun v_5 ω_6 H locs hq_7 hR hS => ?_)
    obtain ⟨rfl, hq_7⟩ := hq_7
    rw [hq_7] at hR
    refine W.eq (g2 := F0 mI 26 ls [.int (bz (inB la 0 4))]) rfl ?_
    refine lv_if_ne (tgt := 36) hx hb dX11_learns_26 (by decide) (fun c_8 => ?_) (fun c_8 => ?_)
    · skip
      have c_8 := bz_ne c_8
      refine lv_aload_n hx hb dX11_learns_36 rfl (lv_at hl 0 rfl) ?_
      refine fw_get (v := .ref (m + 1)) (C := RX11) (T := TX11) (N := 19) hx hb hts hin11 hown hK hR m0 rfl 0 (by decide) (hts (.fieldLink RX11 7 "UnreadLeafletsModel" "g" "[I") (by decide +kernel)) rfl dX11_learns_37 ?_
      refine lv_bipush (v := 63) hx hb dX11_learns_40 (by decide) ?_
      refine lv_iload_n hx hb dX11_learns_42 rfl (lv_at hl 1 rfl) ?_
      refine lv_iadd hx hb dX11_learns_43 ?_
      have hi_9 : 63 + (nI i) = nI (63 + i) := by
        show (nI 63) + (nI i) = _
        simp only [pk_mul, nI_add, Nat.add_assoc, hc, hd]
      refine W.eq (g2 := F0 mI 44 ls [.int (nI (63 + i)), .ref (m + 1)]) (by rw [hi_9]) ?_
      refine fw_iald hx hb hK hR m1 (vp_in_nI (by omega) (by omega)) dX11_learns_44 ?_
      refine W.eq (g2 := F0 mI 45 ls [.int (g (63 + i))]) (by rw [nI_clamp (by omega)]) ?_
      refine lv_iload_n hx hb dX11_learns_45 rfl (lv_at hl 2 rfl) ?_
      refine lv_ishr hx hb dX11_learns_46 ?_
      refine lv_iconst (v := 1) hx hb dX11_learns_47 (by decide) ?_
      refine lv_iand hx hb dX11_learns_48 ?_
      refine lv_iconst (v := 1) hx hb dX11_learns_49 (by decide) ?_
      refine lv_icmp_ne (tgt := 61) hx hb dX11_learns_50 (by decide) (fun c_10 => ?_) (fun c_10 => ?_)
      · skip
        refine lv_aload_n hx hb dX11_learns_61 rfl (lv_at hl 0 rfl) ?_
        refine fw_get (v := .ref (m + 1)) (C := RX11) (T := TX11) (N := 19) hx hb hts hin11 hown hK hR m0 rfl 0 (by decide) (hts (.fieldLink RX11 7 "UnreadLeafletsModel" "g" "[I") (by decide +kernel)) rfl dX11_learns_62 ?_
        refine lv_bipush (v := 63) hx hb dX11_learns_65 (by decide) ?_
        refine lv_iload_n hx hb dX11_learns_67 rfl (lv_at hl 1 rfl) ?_
        refine lv_iadd hx hb dX11_learns_68 ?_
        refine lv_dup2_11 hx hb dX11_learns_69 rfl rfl ?_
        have hi_11 : 63 + (nI i) = nI (63 + i) := by
          show (nI 63) + (nI i) = _
          simp only [pk_mul, nI_add, Nat.add_assoc, hc, hd]
        refine W.eq (g2 := F0 mI 70 ls [.int (nI (63 + i)), .ref (m + 1), .int (63 + (nI i)), .ref (m + 1)]) (by rw [hi_11]) ?_
        refine fw_iald hx hb hK hR m1 (vp_in_nI (by omega) (by omega)) dX11_learns_70 ?_
        refine W.eq (g2 := F0 mI 71 ls [.int (g (63 + i)), .int (63 + (nI i)), .ref (m + 1)]) (by rw [nI_clamp (by omega)]) ?_
        refine lv_iconst (v := 1) hx hb dX11_learns_71 (by decide) ?_
        refine lv_iload_n hx hb dX11_learns_72 rfl (lv_at hl 2 rfl) ?_
        refine lv_ishl hx hb dX11_learns_73 ?_
        refine lv_ior hx hb dX11_learns_74 ?_
        have hi_12 : 63 + (nI i) = nI (63 + i) := by
          show (nI 63) + (nI i) = _
          simp only [pk_mul, nI_add, Nat.add_assoc, hc, hd]
        refine W.eq (g2 := F0 mI 75 ls [.int ((g (63 + i)) ||| (1 <<< (la &&& 31))), .int (nI (63 + i)), .ref (m + 1)]) (by rw [hi_12]) ?_
        refine fw_iast hx hb hK hR hS m1 (vp_in_nI (by omega) (by omega)) dX11_learns_75 (fun H locs hR hS => ?_)
        rw [show (nI (63 + i)).toNatClampNeg = 63 + i from nI_clamp (by omega)] at hR
        obtain ⟨ω_13, hw_14⟩ : ∃ τ : FWd, τ = (ω.1, va_up ω.2 (m + 1) (some (.inl (G.2.1 0, 324, .inl (upd g (63 + i) ((g (63 + i)) ||| (1 <<< (la &&& 31)))))))) := ⟨_, rfl⟩
        have hR : fR G ω_13 H := by rw [hw_14]; exact hR
        have f_15 : ω_13.2 (m + 1) = some (.inl (G.2.1 0, 324, .inl (upd g (63 + i) ((g (63 + i)) ||| (1 <<< (la &&& 31)))))) := by rw [hw_14]; exact va_up_at
        have fr_16 : ∀ q : Nat, ¬ q = (m + 1) → ω_13.2 q = ω.2 q := fun q hq => by rw [hw_14]; exact va_up_off hq
        have z_17 : ω_13.1 = ω.1 := by rw [hw_14]
        refine lv_aload_n hx hb dX11_learns_76 rfl (lv_at hl 0 rfl) ?_
        refine lv_aload_n hx hb dX11_learns_77 rfl (lv_at hl 0 rfl) ?_
        have f_18 : ω_13.2 m = some (.inr (13, [.ref (m + 1), .ref (m + 2), .ref (m + 3), .int (s 3), .ref (m + 4), .int (s 5), .ref (m + 5), .int (s 7), .int (s 8), .int (s 9), .int (s 10), .int (s 11), .ref (m + 6), .int (s 13), .int (s 14), .ref (m + 7), .int (s 16), .int (s 17), .ref (m + 8)])) := (fr_16 m (by omega)).trans m0
        refine fw_get (v := .ref (m + 1)) (C := RX11) (T := TX11) (N := 19) hx hb hts hin11 hown hK hR f_18 rfl 0 (by decide) (hts (.fieldLink RX11 7 "UnreadLeafletsModel" "g" "[I") (by decide +kernel)) rfl dX11_learns_78 ?_
        refine lv_bipush (v := 63) hx hb dX11_learns_81 (by decide) ?_
        refine lv_iload_n hx hb dX11_learns_83 rfl (lv_at hl 1 rfl) ?_
        refine lv_iadd hx hb dX11_learns_84 ?_
        have hi_19 : 63 + (nI i) = nI (63 + i) := by
          show (nI 63) + (nI i) = _
          simp only [pk_mul, nI_add, Nat.add_assoc, hc, hd]
        refine W.eq (g2 := F0 mI 85 ls [.int (nI (63 + i)), .ref (m + 1), .ref m]) (by rw [hi_19]) ?_
        refine fw_iald hx hb hK hR f_15 (vp_in_nI (by omega) (by omega)) dX11_learns_85 ?_
        refine W.eq (g2 := F0 mI 86 ls [.int ((upd g (63 + i) ((g (63 + i)) ||| (1 <<< (la &&& 31)))) (63 + i)), .ref m]) (by rw [nI_clamp (by omega)]) ?_
        refine fw_call (va_runS (As := [.int ((upd g (63 + i) ((g (63 + i)) ||| (1 <<< (la &&& 31)))) (63 + i))]) (rest := [.ref m]) ⟨hx, hb, hml, hown, hts⟩ (c_X11_bits G hL l ω_13 ((upd g (63 + i) ((g (63 + i)) ||| (1 <<< (la &&& 31)))) (63 + i))) (va_cwS 1 hts gX11_learns_X11_bits rfl rfl rfl (by decide +kernel) ⟨Nat.le_of_ble_eq_true rfl, Nat.le_of_ble_eq_true rfl⟩) (fw_preS hW hR) rfl rfl hl.1 rfl (lv_room (Nat.le_of_ble_eq_true rfl)) dX11_learns_86 ⟨Nat.le_of_ble_eq_true rfl, Nat.le_of_ble_eq_true rfl⟩) hS (fun v_20 ω_21 H locs hq_22 hR hS => ?_)
        obtain ⟨rfl, hq_22⟩ := hq_22
        rw [hq_22] at hR
        refine W.eq (g2 := F0 mI 89 ls [.int (bitsJ ((upd g (63 + i) ((g (63 + i)) ||| (1 <<< (la &&& 31)))) (63 + i)) 8), .ref m]) rfl ?_
        refine fw_call (va_runV (As := [.int (bitsJ ((upd g (63 + i) ((g (63 + i)) ||| (1 <<< (la &&& 31)))) (63 + i)) 8)]) (rest := []) ⟨hx, hb, hml, hown, hts⟩ (c_X11_done G hL l ω_13 m s (upd g (63 + i) ((g (63 + i)) ||| (1 <<< (la &&& 31)))) f_18 f_15 (bitsJ ((upd g (63 + i) ((g (63 + i)) ||| (1 <<< (la &&& 31)))) (63 + i)) 8)) (cwV 1 hts gX11_learns_X11_done rfl rfl rfl (by decide +kernel) ⟨Nat.le_of_ble_eq_true rfl, Nat.le_of_ble_eq_true rfl⟩) (fw_preV hW hK hR f_18 rfl) rfl rfl hl.1 rfl (lv_room (Nat.le_of_ble_eq_true rfl)) dX11_learns_89 ⟨Nat.le_of_ble_eq_true rfl, Nat.le_of_ble_eq_true rfl⟩) hS (fun v_23 ω_24 H locs hq_25 hR hS => ?_)
        obtain ⟨rfl, z_26, f_28, fr_27⟩ := hq_25
        refine W.eq (g2 := F0 mI 92 ls [.int (bitsJ ((upd g (63 + i) ((g (63 + i)) ||| (1 <<< (la &&& 31)))) (63 + i)) 8)]) rfl ?_
        have f_29 : ω_24.2 (m + 1) = some (.inl (G.2.1 0, 324, .inl (upd g (63 + i) ((g (63 + i)) ||| (1 <<< (la &&& 31)))))) := (fr_27 (m + 1) (by omega)).trans f_15
        have fr_30 : ∀ q : Nat, ¬ q = m → ¬ q = (m + 1) → ω_24.2 q = ω.2 q := by
          intro q h0 h1
          rw [fr_27 q (by omega)]
          rw [fr_16 q (by omega)]
        have z_31 : ω_24.1 = ω.1 := by rw [z_26, z_17]
        have hr_32 : learnsM s g (nI i) la = (((bitsJ ((upd g (63 + i) ((g (63 + i)) ||| (1 <<< (la &&& 31)))) (63 + i)) 8), (upd s 14 0), (upd g (63 + i) ((g (63 + i)) ||| (1 <<< (la &&& 31))))) : Int32 × (Nat → Int32) × (Nat → Int32)) := by
          simp only [learnsM, hcc, hdd, hci]
          rw [if_pos c_4, if_pos c_8, if_neg c_10]
        refine fw_iret hx hb hr hlocks hR hS dX11_learns_92 ?_
        rw [hr_32]
        exact ⟨rfl, z_31, f_28, f_29, fr_30⟩
      · skip
        refine lv_aload_n hx hb dX11_learns_53 rfl (lv_at hl 0 rfl) ?_
        refine lv_bipush (v := 12) hx hb dX11_learns_54 (by decide) ?_
        refine lv_iload_n hx hb dX11_learns_56 rfl (lv_at hl 2 rfl) ?_
        refine fw_call (va_runV (As := [.int 12, .int la]) (rest := []) ⟨hx, hb, hml, hown, hts⟩ (c_X11_refused G hL l ω m s g m0 m1 12 la) (cwV 2 hts gX11_learns_X11_refused rfl rfl rfl (by decide +kernel) ⟨Nat.le_of_ble_eq_true rfl, Nat.le_of_ble_eq_true rfl⟩) (fw_preV hW hK hR m0 rfl) rfl rfl hl.1 rfl (lv_room (Nat.le_of_ble_eq_true rfl)) dX11_learns_57 ⟨Nat.le_of_ble_eq_true rfl, Nat.le_of_ble_eq_true rfl⟩) hS (fun v_33 ω_34 H locs hq_35 hR hS => ?_)
        obtain ⟨rfl, z_36, f_38, fr_37⟩ := hq_35
        refine W.eq (g2 := F0 mI 60 ls [.int 0]) rfl ?_
        have f_39 : ω_34.2 (m + 1) = some (.inl (G.2.1 0, 324, .inl g)) := (fr_37 (m + 1) (by omega)).trans m1
        have fr_40 : ∀ q : Nat, ¬ q = m → ¬ q = (m + 1) → ω_34.2 q = ω.2 q := by
          intro q h0 h1
          rw [fr_37 q (by omega)]
        have z_41 : ω_34.1 = ω.1 := by rw [z_36]
        have hr_42 : learnsM s g (nI i) la = ((0, (upd (upd (upd (upd s 9 12) 10 la) 11 0) 14 1), g) : Int32 × (Nat → Int32) × (Nat → Int32)) := by
          simp only [learnsM, hcc, hdd, hci]
          rw [if_pos c_4, if_pos c_8, if_pos c_10]
        refine fw_iret hx hb hr hlocks hR hS dX11_learns_60 ?_
        rw [hr_42]
        exact ⟨rfl, z_41, f_38, f_39, fr_40⟩
    · skip
      have c_8 := bz_eq c_8
      refine lv_aload_n hx hb dX11_learns_29 rfl (lv_at hl 0 rfl) ?_
      refine lv_iconst (v := 1) hx hb dX11_learns_30 (by decide) ?_
      refine lv_iconst (v := 0) hx hb dX11_learns_31 (by decide) ?_
      refine fw_call (va_runV (As := [.int 1, .int 0]) (rest := []) ⟨hx, hb, hml, hown, hts⟩ (c_X11_refused G hL l ω m s g m0 m1 1 0) (cwV 2 hts gX11_learns_X11_refused rfl rfl rfl (by decide +kernel) ⟨Nat.le_of_ble_eq_true rfl, Nat.le_of_ble_eq_true rfl⟩) (fw_preV hW hK hR m0 rfl) rfl rfl hl.1 rfl (lv_room (Nat.le_of_ble_eq_true rfl)) dX11_learns_32 ⟨Nat.le_of_ble_eq_true rfl, Nat.le_of_ble_eq_true rfl⟩) hS (fun v_43 ω_44 H locs hq_45 hR hS => ?_)
      obtain ⟨rfl, z_46, f_48, fr_47⟩ := hq_45
      refine W.eq (g2 := F0 mI 35 ls [.int 0]) rfl ?_
      have f_49 : ω_44.2 (m + 1) = some (.inl (G.2.1 0, 324, .inl g)) := (fr_47 (m + 1) (by omega)).trans m1
      have fr_50 : ∀ q : Nat, ¬ q = m → ¬ q = (m + 1) → ω_44.2 q = ω.2 q := by
        intro q h0 h1
        rw [fr_47 q (by omega)]
      have z_51 : ω_44.1 = ω.1 := by rw [z_46]
      have hr_52 : learnsM s g (nI i) la = ((0, (upd (upd (upd (upd s 9 1) 10 0) 11 0) 14 1), g) : Int32 × (Nat → Int32) × (Nat → Int32)) := by
        simp only [learnsM, hcc, hdd, hci]
        rw [if_pos c_4, if_neg c_8]
      refine fw_iret hx hb hr hlocks hR hS dX11_learns_35 ?_
      rw [hr_52]
      exact ⟨rfl, z_51, f_48, f_49, fr_50⟩
  · skip
    have c_4 := bz_eq c_4
    refine lv_aload_n hx hb dX11_learns_8 rfl (lv_at hl 0 rfl) ?_
    refine lv_iconst (v := 4) hx hb dX11_learns_9 (by decide) ?_
    refine lv_aload_n hx hb dX11_learns_10 rfl (lv_at hl 0 rfl) ?_
    refine fw_get (v := .ref (m + 1)) (C := RX11) (T := TX11) (N := 19) hx hb hts hin11 hown hK hR m0 rfl 0 (by decide) (hts (.fieldLink RX11 7 "UnreadLeafletsModel" "g" "[I") (by decide +kernel)) rfl dX11_learns_11 ?_
    refine lv_iconst (v := 1) hx hb dX11_learns_14 (by decide) ?_
    refine fw_iald hx hb hK hR m1 (vp_in_nI (n := 1) (by omega) (by omega)) dX11_learns_15 ?_
    refine W.eq (g2 := F0 mI 16 ls [.int (g 1), .int 4, .ref m]) (by rw [show (1 : Int32).toNatClampNeg = 1 from rfl]) ?_
    refine fw_call (va_runV (As := [.int 4, .int (g 1)]) (rest := []) ⟨hx, hb, hml, hown, hts⟩ (c_X11_refused G hL l ω m s g m0 m1 4 (g 1)) (cwV 2 hts gX11_learns_X11_refused rfl rfl rfl (by decide +kernel) ⟨Nat.le_of_ble_eq_true rfl, Nat.le_of_ble_eq_true rfl⟩) (fw_preV hW hK hR m0 rfl) rfl rfl hl.1 rfl (lv_room (Nat.le_of_ble_eq_true rfl)) dX11_learns_16 ⟨Nat.le_of_ble_eq_true rfl, Nat.le_of_ble_eq_true rfl⟩) hS (fun v_53 ω_54 H locs hq_55 hR hS => ?_)
    obtain ⟨rfl, z_56, f_58, fr_57⟩ := hq_55
    refine W.eq (g2 := F0 mI 19 ls [.int 0]) rfl ?_
    have f_59 : ω_54.2 (m + 1) = some (.inl (G.2.1 0, 324, .inl g)) := (fr_57 (m + 1) (by omega)).trans m1
    have fr_60 : ∀ q : Nat, ¬ q = m → ¬ q = (m + 1) → ω_54.2 q = ω.2 q := by
      intro q h0 h1
      rw [fr_57 q (by omega)]
    have z_61 : ω_54.1 = ω.1 := by rw [z_56]
    have hr_62 : learnsM s g co la = ((0, (upd (upd (upd (upd s 9 4) 10 (g 1)) 11 0) 14 1), g) : Int32 × (Nat → Int32) × (Nat → Int32)) := by
      simp only [learnsM, hcc, hdd]
      rw [if_neg c_4]
    refine fw_iret hx hb hr hlocks hR hS dX11_learns_19 ?_
    rw [hr_62]
    exact ⟨rfl, z_61, f_58, f_59, fr_60⟩
def buildsM (s g nd : Nat → Int32) (co : Int32) (lf : Int32) : Int32 × (Nat → Int32) × (Nat → Int32) × (Nat → Int32) := if inB co 0 (g 1 - 1) then (if inB lf 0 (g 0 - 1) then (if (g (42 + (cN lf))) = 0 then (((((upd (upd (upd (upd (getsM g (needM g (cN lf) (skipM g (g (63 + (cN co))) (g (58 + (cN co))) (cN lf) (cN (g (26 + (cN lf)))) (cN (g (18 + (cN lf))))) (clrJ nd 6) (cN (g (18 + (cN lf))))) 1 6) (42 + (cN lf)) ((co) + 1)) (50 + (cN lf)) (skipM g (g (63 + (cN co))) (g (58 + (cN co))) (cN lf) (cN (g (26 + (cN lf)))) (cN (g (18 + (cN lf)))))) 2 (((upd (upd (getsM g (needM g (cN lf) (skipM g (g (63 + (cN co))) (g (58 + (cN co))) (cN lf) (cN (g (26 + (cN lf)))) (cN (g (18 + (cN lf))))) (clrJ nd 6) (cN (g (18 + (cN lf))))) 1 6) (42 + (cN lf)) ((co) + 1)) (50 + (cN lf)) (skipM g (g (63 + (cN co))) (g (58 + (cN co))) (cN lf) (cN (g (26 + (cN lf)))) (cN (g (18 + (cN lf)))))) 2) + 1)) 3 (((upd (upd (upd (getsM g (needM g (cN lf) (skipM g (g (63 + (cN co))) (g (58 + (cN co))) (cN lf) (cN (g (26 + (cN lf)))) (cN (g (18 + (cN lf))))) (clrJ nd 6) (cN (g (18 + (cN lf))))) 1 6) (42 + (cN lf)) ((co) + 1)) (50 + (cN lf)) (skipM g (g (63 + (cN co))) (g (58 + (cN co))) (cN lf) (cN (g (26 + (cN lf)))) (cN (g (18 + (cN lf)))))) 2 (((upd (upd (getsM g (needM g (cN lf) (skipM g (g (63 + (cN co))) (g (58 + (cN co))) (cN lf) (cN (g (26 + (cN lf)))) (cN (g (18 + (cN lf))))) (clrJ nd 6) (cN (g (18 + (cN lf))))) 1 6) (42 + (cN lf)) ((co) + 1)) (50 + (cN lf)) (skipM g (g (63 + (cN co))) (g (58 + (cN co))) (cN lf) (cN (g (26 + (cN lf)))) (cN (g (18 + (cN lf)))))) 2) + 1)) 3) + (bitsJ (skipM g (g (63 + (cN co))) (g (58 + (cN co))) (cN lf) (cN (g (26 + (cN lf)))) (cN (g (18 + (cN lf))))) 8))) (18 + (cN lf))) - (bitsJ (skipM g (g (63 + (cN co))) (g (58 + (cN co))) (cN lf) (cN (g (26 + (cN lf)))) (cN (g (18 + (cN lf))))) 8)), (upd s 14 0), (upd (upd (upd (upd (getsM g (needM g (cN lf) (skipM g (g (63 + (cN co))) (g (58 + (cN co))) (cN lf) (cN (g (26 + (cN lf)))) (cN (g (18 + (cN lf))))) (clrJ nd 6) (cN (g (18 + (cN lf))))) 1 6) (42 + (cN lf)) ((co) + 1)) (50 + (cN lf)) (skipM g (g (63 + (cN co))) (g (58 + (cN co))) (cN lf) (cN (g (26 + (cN lf)))) (cN (g (18 + (cN lf)))))) 2 (((upd (upd (getsM g (needM g (cN lf) (skipM g (g (63 + (cN co))) (g (58 + (cN co))) (cN lf) (cN (g (26 + (cN lf)))) (cN (g (18 + (cN lf))))) (clrJ nd 6) (cN (g (18 + (cN lf))))) 1 6) (42 + (cN lf)) ((co) + 1)) (50 + (cN lf)) (skipM g (g (63 + (cN co))) (g (58 + (cN co))) (cN lf) (cN (g (26 + (cN lf)))) (cN (g (18 + (cN lf)))))) 2) + 1)) 3 (((upd (upd (upd (getsM g (needM g (cN lf) (skipM g (g (63 + (cN co))) (g (58 + (cN co))) (cN lf) (cN (g (26 + (cN lf)))) (cN (g (18 + (cN lf))))) (clrJ nd 6) (cN (g (18 + (cN lf))))) 1 6) (42 + (cN lf)) ((co) + 1)) (50 + (cN lf)) (skipM g (g (63 + (cN co))) (g (58 + (cN co))) (cN lf) (cN (g (26 + (cN lf)))) (cN (g (18 + (cN lf)))))) 2 (((upd (upd (getsM g (needM g (cN lf) (skipM g (g (63 + (cN co))) (g (58 + (cN co))) (cN lf) (cN (g (26 + (cN lf)))) (cN (g (18 + (cN lf))))) (clrJ nd 6) (cN (g (18 + (cN lf))))) 1 6) (42 + (cN lf)) ((co) + 1)) (50 + (cN lf)) (skipM g (g (63 + (cN co))) (g (58 + (cN co))) (cN lf) (cN (g (26 + (cN lf)))) (cN (g (18 + (cN lf)))))) 2) + 1)) 3) + (bitsJ (skipM g (g (63 + (cN co))) (g (58 + (cN co))) (cN lf) (cN (g (26 + (cN lf)))) (cN (g (18 + (cN lf))))) 8))), (needM g (cN lf) (skipM g (g (63 + (cN co))) (g (58 + (cN co))) (cN lf) (cN (g (26 + (cN lf)))) (cN (g (18 + (cN lf))))) (clrJ nd 6) (cN (g (18 + (cN lf))))))) else ((0, (upd (upd (upd (upd s 9 6) 10 ((g (42 + (cN lf))) - 1)) 11 0) 14 1), g, nd))) else ((0, (upd (upd (upd (upd s 9 3) 10 (g 0)) 11 0) 14 1), g, nd))) else ((0, (upd (upd (upd (upd s 9 4) 10 (g 1)) 11 0) 14 1), g, nd))
set_option maxHeartbeats 4000000 in
set_option maxRecDepth 100000 in
theorem c_X11_builds (G : FG) (hL : FL G) (l : Launch) (ω : FWd) (m : Nat) (s g : Nat → Int32) (m0 : ω.2 m = some (.inr (13, [.ref (m + 1), .ref (m + 2), .ref (m + 3), .int (s 3), .ref (m + 4), .int (s 5), .ref (m + 5), .int (s 7), .int (s 8), .int (s 9), .int (s 10), .int (s 11), .ref (m + 6), .int (s 13), .int (s 14), .ref (m + 7), .int (s 16), .int (s 17), .ref (m + 8)]))) (m1 : ω.2 (m + 1) = some (.inl (G.2.1 0, 324, .inl g))) (nd : Nat → Int32) (m7 : ω.2 (m + 7) = some (.inl (G.2.1 0, 6, .inl nd))) (hM : WFM g) (co : Int32) (lf : Int32) : FMet G l yX11_builds wsX11_builds ({ frames := 4, cells := 0, slots := 0, locals := 97 } : Room) [.ref m, .int co, .int lf] ω (fun vv9 τ9 => vv9 = some (.int ((buildsM s g nd co lf).1)) ∧ τ9.1 = ω.1 ∧ τ9.2 m = some (.inr (13, [.ref (m + 1), .ref (m + 2), .ref (m + 3), .int (((buildsM s g nd co lf).2.1) 3), .ref (m + 4), .int (((buildsM s g nd co lf).2.1) 5), .ref (m + 5), .int (((buildsM s g nd co lf).2.1) 7), .int (((buildsM s g nd co lf).2.1) 8), .int (((buildsM s g nd co lf).2.1) 9), .int (((buildsM s g nd co lf).2.1) 10), .int (((buildsM s g nd co lf).2.1) 11), .ref (m + 6), .int (((buildsM s g nd co lf).2.1) 13), .int (((buildsM s g nd co lf).2.1) 14), .ref (m + 7), .int (((buildsM s g nd co lf).2.1) 16), .int (((buildsM s g nd co lf).2.1) 17), .ref (m + 8)])) ∧ τ9.2 (m + 1) = some (.inl (G.2.1 0, 324, .inl ((buildsM s g nd co lf).2.2.1))) ∧ τ9.2 (m + 7) = some (.inl (G.2.1 0, 6, .inl ((buildsM s g nd co lf).2.2.2))) ∧ ∀ q : Nat, ¬ q = m → ¬ q = (m + 1) → ¬ q = (m + 7) → τ9.2 q = ω.2 q) 0 0 := by
  refine fw_ofW (cc := cX11_builds) (maxL := 5) (ret := (some .int)) (by decide) rfl (Nat.le_of_ble_eq_true rfl) ?_
  intro pP eE sS mI ar9 bl9 meth cD ls hx hb hr hlocks hml hts hown hnm hW hR hl
  have hK := hL.K hW
  have hS : va_S (fwA G) sS.heap sS.heap [] := va_S.rf
  have hin11 : ∀ w ∈ u_ws RX11 TX11 19, w ∈ wsX11_builds := by decide +kernel
  have hl : lv_has ls 5 [(0, .ref m), (1, .int co), (2, .int lf)] := hl
  obtain ⟨c, hc8, hc, hcc⟩ := okN_of hM.1
  obtain ⟨cc, hd5, hd, hdd⟩ := okN_of hM.2.1
  refine lv_aload_n hx hb dX11_builds_0 rfl (lv_at hl 0 rfl) ?_
  refine lv_iload_n hx hb dX11_builds_1 rfl (lv_at hl 1 rfl) ?_
  refine fw_call (va_runV (As := [.int co]) (rest := []) ⟨hx, hb, hml, hown, hts⟩ (c_X11_isCousin G hL l ω m s g m0 m1 co) (cwV 1 hts gX11_builds_X11_isCousin rfl rfl rfl (by decide +kernel) ⟨Nat.le_of_ble_eq_true rfl, Nat.le_of_ble_eq_true rfl⟩) (fw_preV hW hK hR m0 rfl) rfl rfl hl.1 rfl (lv_room (Nat.le_of_ble_eq_true rfl)) dX11_builds_2 ⟨Nat.le_of_ble_eq_true rfl, Nat.le_of_ble_eq_true rfl⟩) hS (fun v_1 ω_2 H locs hq_3 hR hS => ?_)
  obtain ⟨rfl, hq_3⟩ := hq_3
  rw [hq_3] at hR
  refine W.eq (g2 := F0 mI 5 ls [.int (bz (inB co 0 (g 1 - 1)))]) rfl ?_
  refine lv_if_ne (tgt := 20) hx hb dX11_builds_5 (by decide) (fun c_4 => ?_) (fun c_4 => ?_)
  · skip
    have c_4 := bz_ne c_4
    obtain ⟨i, hi2, rfl⟩ := in_c hd (by omega) c_4
    have hci : cN (nI i) = i := cN_nI (by omega)
    refine lv_aload_n hx hb dX11_builds_20 rfl (lv_at hl 0 rfl) ?_
    refine lv_iload_n hx hb dX11_builds_21 rfl (lv_at hl 2 rfl) ?_
    refine fw_call (va_runV (As := [.int lf]) (rest := []) ⟨hx, hb, hml, hown, hts⟩ (c_X11_isLeaflet G hL l ω m s g m0 m1 lf) (cwV 1 hts gX11_builds_X11_isLeaflet rfl rfl rfl (by decide +kernel) ⟨Nat.le_of_ble_eq_true rfl, Nat.le_of_ble_eq_true rfl⟩) (fw_preV hW hK hR m0 rfl) rfl rfl hl.1 rfl (lv_room (Nat.le_of_ble_eq_true rfl)) dX11_builds_22 ⟨Nat.le_of_ble_eq_true rfl, Nat.le_of_ble_eq_true rfl⟩) hS (fun v_5 ω_6 H locs hq_7 hR hS => ?_)
    obtain ⟨rfl, hq_7⟩ := hq_7
    rw [hq_7] at hR
    refine W.eq (g2 := F0 mI 25 ls [.int (bz (inB lf 0 (g 0 - 1)))]) rfl ?_
    refine lv_if_ne (tgt := 40) hx hb dX11_builds_25 (by decide) (fun c_8 => ?_) (fun c_8 => ?_)
    · skip
      have c_8 := bz_ne c_8
      obtain ⟨j, hj2, rfl⟩ := in_c hc hc8 c_8
      have hcj : cN (nI j) = j := cN_nI (by omega)
      obtain ⟨n, hn8, hn, hnn⟩ := okN_of (hM.2.2 j (by rw [hcc]; exact hj2)).1
      obtain ⟨f, hf3, hff, hfn⟩ := okN_of (hM.2.2 j (by rw [hcc]; exact hj2)).2.1
      have hkd : ∀ q, q < n → g (68 + 8 * j + q) = nI (cN (g (68 + 8 * j + q))) ∧ cN (g (68 + 8 * j + q)) < 6 := fun q hq => by have h9 := (hM.2.2 j (by rw [hcc]; exact hj2)).2.2 q (by rw [hnn]; exact hq); exact ⟨h9.1, Nat.lt_succ_of_le h9.2⟩
      refine lv_aload_n hx hb dX11_builds_40 rfl (lv_at hl 0 rfl) ?_
      refine fw_get (v := .ref (m + 1)) (C := RX11) (T := TX11) (N := 19) hx hb hts hin11 hown hK hR m0 rfl 0 (by decide) (hts (.fieldLink RX11 7 "UnreadLeafletsModel" "g" "[I") (by decide +kernel)) rfl dX11_builds_41 ?_
      refine lv_bipush (v := 42) hx hb dX11_builds_44 (by decide) ?_
      refine lv_iload_n hx hb dX11_builds_46 rfl (lv_at hl 2 rfl) ?_
      refine lv_iadd hx hb dX11_builds_47 ?_
      have hi_9 : 42 + (nI j) = nI (42 + j) := by
        show (nI 42) + (nI j) = _
        simp only [pk_mul, nI_add, Nat.add_assoc, hc, hd, hn, hff]
      refine W.eq (g2 := F0 mI 48 ls [.int (nI (42 + j)), .ref (m + 1)]) (by rw [hi_9]) ?_
      refine fw_iald hx hb hK hR m1 (vp_in_nI (by omega) (by omega)) dX11_builds_48 ?_
      refine W.eq (g2 := F0 mI 49 ls [.int (g (42 + j))]) (by rw [nI_clamp (by omega)]) ?_
      refine lv_if_eq (tgt := 70) hx hb dX11_builds_49 (by decide) (fun c_10 => ?_) (fun c_10 => ?_)
      · skip
        refine lv_aload_n hx hb dX11_builds_70 rfl (lv_at hl 0 rfl) ?_
        refine lv_iload_n hx hb dX11_builds_71 rfl (lv_at hl 1 rfl) ?_
        refine lv_iload_n hx hb dX11_builds_72 rfl (lv_at hl 2 rfl) ?_
        refine fw_call (va_runV (As := [.int (nI i), .int (nI j)]) (rest := []) ⟨hx, hb, hml, hown, hts⟩ (c_X11_skips G hL l ω m s g m0 m1 i (by omega) j (by omega) f hf3 hff n hn hn8) (cwV 2 hts gX11_builds_X11_skips rfl rfl rfl (by decide +kernel) ⟨Nat.le_of_ble_eq_true rfl, Nat.le_of_ble_eq_true rfl⟩) (fw_preV hW hK hR m0 rfl) rfl rfl hl.1 rfl (lv_room (Nat.le_of_ble_eq_true rfl)) dX11_builds_73 ⟨Nat.le_of_ble_eq_true rfl, Nat.le_of_ble_eq_true rfl⟩) hS (fun v_11 ω_12 H locs hq_13 hR hS => ?_)
        obtain ⟨rfl, hq_13⟩ := hq_13
        rw [hq_13] at hR
        refine W.eq (g2 := F0 mI 76 ls [.int (skipM g (g (63 + i)) (g (58 + i)) j f n)]) rfl ?_
        refine lv_istore_n (lv' := [(3, .int (skipM g (g (63 + i)) (g (58 + i)) j f n)), (0, .ref m), (1, .int (nI i)), (2, .int (nI j))]) hx hb dX11_builds_76 rfl hl (by decide) rfl (fun ls hl => ?_)
        refine lv_aload_n hx hb dX11_builds_77 rfl (lv_at hl 1 rfl) ?_
        refine lv_iload_n hx hb dX11_builds_78 rfl (lv_at hl 3 rfl) ?_
        refine lv_iload_n hx hb dX11_builds_79 rfl (lv_at hl 0 rfl) ?_
        refine fw_call (va_runV (As := [.int (nI j), .int (skipM g (g (63 + i)) (g (58 + i)) j f n)]) (rest := []) ⟨hx, hb, hml, hown, hts⟩ (c_X11_needsFor G hL l ω m s g m0 m1 nd m7 j (by omega) (skipM g (g (63 + i)) (g (58 + i)) j f n) n hn hn8 hkd) (cwV 2 hts gX11_builds_X11_needsFor rfl rfl rfl (by decide +kernel) ⟨Nat.le_of_ble_eq_true rfl, Nat.le_of_ble_eq_true rfl⟩) (fw_preV hW hK hR m0 rfl) rfl rfl hl.1 rfl (lv_room (Nat.le_of_ble_eq_true rfl)) dX11_builds_80 ⟨Nat.le_of_ble_eq_true rfl, Nat.le_of_ble_eq_true rfl⟩) hS (fun v_14 ω_15 H locs hq_16 hR hS => ?_)
        obtain ⟨rfl, z_17, f_19, fr_18⟩ := hq_16
        refine W.eq (g2 := F0 mI 83 ls [.int (sumM g j (skipM g (g (63 + i)) (g (58 + i)) j f n) n)]) rfl ?_
        refine lv_istore (lv' := [(4, .int (sumM g j (skipM g (g (63 + i)) (g (58 + i)) j f n) n)), (3, .int (skipM g (g (63 + i)) (g (58 + i)) j f n)), (0, .ref m), (1, .int (nI i)), (2, .int (nI j))]) hx hb dX11_builds_83 hl (by decide) rfl (fun ls hl => ?_)
        refine lv_aload_n hx hb dX11_builds_85 rfl (lv_at hl 2 rfl) ?_
        refine lv_iconst (v := 1) hx hb dX11_builds_86 (by decide) ?_
        have f_20 : ω_15.2 m = some (.inr (13, [.ref (m + 1), .ref (m + 2), .ref (m + 3), .int (s 3), .ref (m + 4), .int (s 5), .ref (m + 5), .int (s 7), .int (s 8), .int (s 9), .int (s 10), .int (s 11), .ref (m + 6), .int (s 13), .int (s 14), .ref (m + 7), .int (s 16), .int (s 17), .ref (m + 8)])) := (fr_18 m (by omega)).trans m0
        have f_21 : ω_15.2 (m + 1) = some (.inl (G.2.1 0, 324, .inl g)) := (fr_18 (m + 1) (by omega)).trans m1
        refine fw_call (va_runV (As := [.int 1]) (rest := []) ⟨hx, hb, hml, hown, hts⟩ (c_X11_tinGets G hL l ω_15 m s g f_20 f_21 (needM g j (skipM g (g (63 + i)) (g (58 + i)) j f n) (clrJ nd 6) n) f_19 1) (cwV 1 hts gX11_builds_X11_tinGets rfl rfl rfl (by decide +kernel) ⟨Nat.le_of_ble_eq_true rfl, Nat.le_of_ble_eq_true rfl⟩) (fw_preV hW hK hR f_20 rfl) rfl rfl hl.1 rfl (lv_room (Nat.le_of_ble_eq_true rfl)) dX11_builds_87 ⟨Nat.le_of_ble_eq_true rfl, Nat.le_of_ble_eq_true rfl⟩) hS (fun v_22 ω_23 H locs hq_24 hR hS => ?_)
        obtain ⟨rfl, z_25, f_27, fr_26⟩ := hq_24
        refine W.eq (g2 := F0 mI 90 ls []) rfl ?_
        refine lv_aload_n hx hb dX11_builds_90 rfl (lv_at hl 2 rfl) ?_
        have f_28 : ω_23.2 m = some (.inr (13, [.ref (m + 1), .ref (m + 2), .ref (m + 3), .int (s 3), .ref (m + 4), .int (s 5), .ref (m + 5), .int (s 7), .int (s 8), .int (s 9), .int (s 10), .int (s 11), .ref (m + 6), .int (s 13), .int (s 14), .ref (m + 7), .int (s 16), .int (s 17), .ref (m + 8)])) := (fr_26 m (by omega)).trans f_20
        refine fw_get (v := .ref (m + 1)) (C := RX11) (T := TX11) (N := 19) hx hb hts hin11 hown hK hR f_28 rfl 0 (by decide) (hts (.fieldLink RX11 7 "UnreadLeafletsModel" "g" "[I") (by decide +kernel)) rfl dX11_builds_91 ?_
        refine lv_bipush (v := 42) hx hb dX11_builds_94 (by decide) ?_
        refine lv_iload_n hx hb dX11_builds_96 rfl (lv_at hl 4 rfl) ?_
        refine lv_iadd hx hb dX11_builds_97 ?_
        refine lv_iload_n hx hb dX11_builds_98 rfl (lv_at hl 3 rfl) ?_
        refine lv_iconst (v := 1) hx hb dX11_builds_99 (by decide) ?_
        refine lv_iadd hx hb dX11_builds_100 ?_
        have hi_29 : 42 + (nI j) = nI (42 + j) := by
          show (nI 42) + (nI j) = _
          simp only [pk_mul, nI_add, Nat.add_assoc, hc, hd, hn, hff]
        refine W.eq (g2 := F0 mI 101 ls [.int ((nI i) + 1), .int (nI (42 + j)), .ref (m + 1)]) (by rw [hi_29]) ?_
        refine fw_iast hx hb hK hR hS f_27 (vp_in_nI (by omega) (by omega)) dX11_builds_101 (fun H locs hR hS => ?_)
        rw [show (nI (42 + j)).toNatClampNeg = 42 + j from nI_clamp (by omega)] at hR
        obtain ⟨ω_30, hw_31⟩ : ∃ τ : FWd, τ = (ω_23.1, va_up ω_23.2 (m + 1) (some (.inl (G.2.1 0, 324, .inl (upd (getsM g (needM g j (skipM g (g (63 + i)) (g (58 + i)) j f n) (clrJ nd 6) n) 1 6) (42 + j) ((nI i) + 1)))))) := ⟨_, rfl⟩
        have hR : fR G ω_30 H := by rw [hw_31]; exact hR
        have f_32 : ω_30.2 (m + 1) = some (.inl (G.2.1 0, 324, .inl (upd (getsM g (needM g j (skipM g (g (63 + i)) (g (58 + i)) j f n) (clrJ nd 6) n) 1 6) (42 + j) ((nI i) + 1)))) := by rw [hw_31]; exact va_up_at
        have fr_33 : ∀ q : Nat, ¬ q = (m + 1) → ω_30.2 q = ω_23.2 q := fun q hq => by rw [hw_31]; exact va_up_off hq
        have z_34 : ω_30.1 = ω_23.1 := by rw [hw_31]
        refine lv_aload_n hx hb dX11_builds_102 rfl (lv_at hl 2 rfl) ?_
        have f_35 : ω_30.2 m = some (.inr (13, [.ref (m + 1), .ref (m + 2), .ref (m + 3), .int (s 3), .ref (m + 4), .int (s 5), .ref (m + 5), .int (s 7), .int (s 8), .int (s 9), .int (s 10), .int (s 11), .ref (m + 6), .int (s 13), .int (s 14), .ref (m + 7), .int (s 16), .int (s 17), .ref (m + 8)])) := (fr_33 m (by omega)).trans f_28
        refine fw_get (v := .ref (m + 1)) (C := RX11) (T := TX11) (N := 19) hx hb hts hin11 hown hK hR f_35 rfl 0 (by decide) (hts (.fieldLink RX11 7 "UnreadLeafletsModel" "g" "[I") (by decide +kernel)) rfl dX11_builds_103 ?_
        refine lv_bipush (v := 50) hx hb dX11_builds_106 (by decide) ?_
        refine lv_iload_n hx hb dX11_builds_108 rfl (lv_at hl 4 rfl) ?_
        refine lv_iadd hx hb dX11_builds_109 ?_
        refine lv_iload_n hx hb dX11_builds_110 rfl (lv_at hl 1 rfl) ?_
        have hi_36 : 50 + (nI j) = nI (50 + j) := by
          show (nI 50) + (nI j) = _
          simp only [pk_mul, nI_add, Nat.add_assoc, hc, hd, hn, hff]
        refine W.eq (g2 := F0 mI 111 ls [.int (skipM g (g (63 + i)) (g (58 + i)) j f n), .int (nI (50 + j)), .ref (m + 1)]) (by rw [hi_36]) ?_
        refine fw_iast hx hb hK hR hS f_32 (vp_in_nI (by omega) (by omega)) dX11_builds_111 (fun H locs hR hS => ?_)
        rw [show (nI (50 + j)).toNatClampNeg = 50 + j from nI_clamp (by omega)] at hR
        obtain ⟨ω_37, hw_38⟩ : ∃ τ : FWd, τ = (ω_30.1, va_up ω_30.2 (m + 1) (some (.inl (G.2.1 0, 324, .inl (upd (upd (getsM g (needM g j (skipM g (g (63 + i)) (g (58 + i)) j f n) (clrJ nd 6) n) 1 6) (42 + j) ((nI i) + 1)) (50 + j) (skipM g (g (63 + i)) (g (58 + i)) j f n)))))) := ⟨_, rfl⟩
        have hR : fR G ω_37 H := by rw [hw_38]; exact hR
        have f_39 : ω_37.2 (m + 1) = some (.inl (G.2.1 0, 324, .inl (upd (upd (getsM g (needM g j (skipM g (g (63 + i)) (g (58 + i)) j f n) (clrJ nd 6) n) 1 6) (42 + j) ((nI i) + 1)) (50 + j) (skipM g (g (63 + i)) (g (58 + i)) j f n)))) := by rw [hw_38]; exact va_up_at
        have fr_40 : ∀ q : Nat, ¬ q = (m + 1) → ω_37.2 q = ω_30.2 q := fun q hq => by rw [hw_38]; exact va_up_off hq
        have z_41 : ω_37.1 = ω_30.1 := by rw [hw_38]
        refine lv_aload_n hx hb dX11_builds_112 rfl (lv_at hl 2 rfl) ?_
        have f_42 : ω_37.2 m = some (.inr (13, [.ref (m + 1), .ref (m + 2), .ref (m + 3), .int (s 3), .ref (m + 4), .int (s 5), .ref (m + 5), .int (s 7), .int (s 8), .int (s 9), .int (s 10), .int (s 11), .ref (m + 6), .int (s 13), .int (s 14), .ref (m + 7), .int (s 16), .int (s 17), .ref (m + 8)])) := (fr_40 m (by omega)).trans f_35
        refine fw_get (v := .ref (m + 1)) (C := RX11) (T := TX11) (N := 19) hx hb hts hin11 hown hK hR f_42 rfl 0 (by decide) (hts (.fieldLink RX11 7 "UnreadLeafletsModel" "g" "[I") (by decide +kernel)) rfl dX11_builds_113 ?_
        refine lv_iconst (v := 2) hx hb dX11_builds_116 (by decide) ?_
        refine lv_dup2_11 hx hb dX11_builds_117 rfl rfl ?_
        refine fw_iald hx hb hK hR f_39 (vp_in_nI (n := 2) (by omega) (by omega)) dX11_builds_118 ?_
        refine W.eq (g2 := F0 mI 119 ls [.int ((upd (upd (getsM g (needM g j (skipM g (g (63 + i)) (g (58 + i)) j f n) (clrJ nd 6) n) 1 6) (42 + j) ((nI i) + 1)) (50 + j) (skipM g (g (63 + i)) (g (58 + i)) j f n)) 2), .int 2, .ref (m + 1)]) (by rw [show (2 : Int32).toNatClampNeg = 2 from rfl]) ?_
        refine lv_iconst (v := 1) hx hb dX11_builds_119 (by decide) ?_
        refine lv_iadd hx hb dX11_builds_120 ?_
        refine fw_iast hx hb hK hR hS f_39 (vp_in_nI (n := 2) (by omega) (by omega)) dX11_builds_121 (fun H locs hR hS => ?_)
        rw [show (2 : Int32).toNatClampNeg = 2 from show (2 : Int32).toNatClampNeg = 2 from rfl] at hR
        obtain ⟨ω_43, hw_44⟩ : ∃ τ : FWd, τ = (ω_37.1, va_up ω_37.2 (m + 1) (some (.inl (G.2.1 0, 324, .inl (upd (upd (upd (getsM g (needM g j (skipM g (g (63 + i)) (g (58 + i)) j f n) (clrJ nd 6) n) 1 6) (42 + j) ((nI i) + 1)) (50 + j) (skipM g (g (63 + i)) (g (58 + i)) j f n)) 2 (((upd (upd (getsM g (needM g j (skipM g (g (63 + i)) (g (58 + i)) j f n) (clrJ nd 6) n) 1 6) (42 + j) ((nI i) + 1)) (50 + j) (skipM g (g (63 + i)) (g (58 + i)) j f n)) 2) + 1)))))) := ⟨_, rfl⟩
        have hR : fR G ω_43 H := by rw [hw_44]; exact hR
        have f_45 : ω_43.2 (m + 1) = some (.inl (G.2.1 0, 324, .inl (upd (upd (upd (getsM g (needM g j (skipM g (g (63 + i)) (g (58 + i)) j f n) (clrJ nd 6) n) 1 6) (42 + j) ((nI i) + 1)) (50 + j) (skipM g (g (63 + i)) (g (58 + i)) j f n)) 2 (((upd (upd (getsM g (needM g j (skipM g (g (63 + i)) (g (58 + i)) j f n) (clrJ nd 6) n) 1 6) (42 + j) ((nI i) + 1)) (50 + j) (skipM g (g (63 + i)) (g (58 + i)) j f n)) 2) + 1)))) := by rw [hw_44]; exact va_up_at
        have fr_46 : ∀ q : Nat, ¬ q = (m + 1) → ω_43.2 q = ω_37.2 q := fun q hq => by rw [hw_44]; exact va_up_off hq
        have z_47 : ω_43.1 = ω_37.1 := by rw [hw_44]
        refine lv_aload_n hx hb dX11_builds_122 rfl (lv_at hl 2 rfl) ?_
        have f_48 : ω_43.2 m = some (.inr (13, [.ref (m + 1), .ref (m + 2), .ref (m + 3), .int (s 3), .ref (m + 4), .int (s 5), .ref (m + 5), .int (s 7), .int (s 8), .int (s 9), .int (s 10), .int (s 11), .ref (m + 6), .int (s 13), .int (s 14), .ref (m + 7), .int (s 16), .int (s 17), .ref (m + 8)])) := (fr_46 m (by omega)).trans f_42
        refine fw_get (v := .ref (m + 1)) (C := RX11) (T := TX11) (N := 19) hx hb hts hin11 hown hK hR f_48 rfl 0 (by decide) (hts (.fieldLink RX11 7 "UnreadLeafletsModel" "g" "[I") (by decide +kernel)) rfl dX11_builds_123 ?_
        refine lv_iconst (v := 3) hx hb dX11_builds_126 (by decide) ?_
        refine lv_dup2_11 hx hb dX11_builds_127 rfl rfl ?_
        refine fw_iald hx hb hK hR f_45 (vp_in_nI (n := 3) (by omega) (by omega)) dX11_builds_128 ?_
        refine W.eq (g2 := F0 mI 129 ls [.int ((upd (upd (upd (getsM g (needM g j (skipM g (g (63 + i)) (g (58 + i)) j f n) (clrJ nd 6) n) 1 6) (42 + j) ((nI i) + 1)) (50 + j) (skipM g (g (63 + i)) (g (58 + i)) j f n)) 2 (((upd (upd (getsM g (needM g j (skipM g (g (63 + i)) (g (58 + i)) j f n) (clrJ nd 6) n) 1 6) (42 + j) ((nI i) + 1)) (50 + j) (skipM g (g (63 + i)) (g (58 + i)) j f n)) 2) + 1)) 3), .int 3, .ref (m + 1)]) (by rw [show (3 : Int32).toNatClampNeg = 3 from rfl]) ?_
        refine lv_iload_n hx hb dX11_builds_129 rfl (lv_at hl 1 rfl) ?_
        refine fw_call (va_runS (As := [.int (skipM g (g (63 + i)) (g (58 + i)) j f n)]) (rest := [.int ((upd (upd (upd (getsM g (needM g j (skipM g (g (63 + i)) (g (58 + i)) j f n) (clrJ nd 6) n) 1 6) (42 + j) ((nI i) + 1)) (50 + j) (skipM g (g (63 + i)) (g (58 + i)) j f n)) 2 (((upd (upd (getsM g (needM g j (skipM g (g (63 + i)) (g (58 + i)) j f n) (clrJ nd 6) n) 1 6) (42 + j) ((nI i) + 1)) (50 + j) (skipM g (g (63 + i)) (g (58 + i)) j f n)) 2) + 1)) 3), .int 3, .ref (m + 1)]) ⟨hx, hb, hml, hown, hts⟩ (c_X11_bits G hL l ω_43 (skipM g (g (63 + i)) (g (58 + i)) j f n)) (va_cwS 1 hts gX11_builds_X11_bits rfl rfl rfl (by decide +kernel) ⟨Nat.le_of_ble_eq_true rfl, Nat.le_of_ble_eq_true rfl⟩) (fw_preS hW hR) rfl rfl hl.1 rfl (lv_room (Nat.le_of_ble_eq_true rfl)) dX11_builds_130 ⟨Nat.le_of_ble_eq_true rfl, Nat.le_of_ble_eq_true rfl⟩) hS (fun v_49 ω_50 H locs hq_51 hR hS => ?_)
        obtain ⟨rfl, hq_51⟩ := hq_51
        rw [hq_51] at hR
        refine W.eq (g2 := F0 mI 133 ls [.int (bitsJ (skipM g (g (63 + i)) (g (58 + i)) j f n) 8), .int ((upd (upd (upd (getsM g (needM g j (skipM g (g (63 + i)) (g (58 + i)) j f n) (clrJ nd 6) n) 1 6) (42 + j) ((nI i) + 1)) (50 + j) (skipM g (g (63 + i)) (g (58 + i)) j f n)) 2 (((upd (upd (getsM g (needM g j (skipM g (g (63 + i)) (g (58 + i)) j f n) (clrJ nd 6) n) 1 6) (42 + j) ((nI i) + 1)) (50 + j) (skipM g (g (63 + i)) (g (58 + i)) j f n)) 2) + 1)) 3), .int 3, .ref (m + 1)]) rfl ?_
        refine lv_iadd hx hb dX11_builds_133 ?_
        refine fw_iast hx hb hK hR hS f_45 (vp_in_nI (n := 3) (by omega) (by omega)) dX11_builds_134 (fun H locs hR hS => ?_)
        rw [show (3 : Int32).toNatClampNeg = 3 from show (3 : Int32).toNatClampNeg = 3 from rfl] at hR
        obtain ⟨ω_52, hw_53⟩ : ∃ τ : FWd, τ = (ω_43.1, va_up ω_43.2 (m + 1) (some (.inl (G.2.1 0, 324, .inl (upd (upd (upd (upd (getsM g (needM g j (skipM g (g (63 + i)) (g (58 + i)) j f n) (clrJ nd 6) n) 1 6) (42 + j) ((nI i) + 1)) (50 + j) (skipM g (g (63 + i)) (g (58 + i)) j f n)) 2 (((upd (upd (getsM g (needM g j (skipM g (g (63 + i)) (g (58 + i)) j f n) (clrJ nd 6) n) 1 6) (42 + j) ((nI i) + 1)) (50 + j) (skipM g (g (63 + i)) (g (58 + i)) j f n)) 2) + 1)) 3 (((upd (upd (upd (getsM g (needM g j (skipM g (g (63 + i)) (g (58 + i)) j f n) (clrJ nd 6) n) 1 6) (42 + j) ((nI i) + 1)) (50 + j) (skipM g (g (63 + i)) (g (58 + i)) j f n)) 2 (((upd (upd (getsM g (needM g j (skipM g (g (63 + i)) (g (58 + i)) j f n) (clrJ nd 6) n) 1 6) (42 + j) ((nI i) + 1)) (50 + j) (skipM g (g (63 + i)) (g (58 + i)) j f n)) 2) + 1)) 3) + (bitsJ (skipM g (g (63 + i)) (g (58 + i)) j f n) 8))))))) := ⟨_, rfl⟩
        have hR : fR G ω_52 H := by rw [hw_53]; exact hR
        have f_54 : ω_52.2 (m + 1) = some (.inl (G.2.1 0, 324, .inl (upd (upd (upd (upd (getsM g (needM g j (skipM g (g (63 + i)) (g (58 + i)) j f n) (clrJ nd 6) n) 1 6) (42 + j) ((nI i) + 1)) (50 + j) (skipM g (g (63 + i)) (g (58 + i)) j f n)) 2 (((upd (upd (getsM g (needM g j (skipM g (g (63 + i)) (g (58 + i)) j f n) (clrJ nd 6) n) 1 6) (42 + j) ((nI i) + 1)) (50 + j) (skipM g (g (63 + i)) (g (58 + i)) j f n)) 2) + 1)) 3 (((upd (upd (upd (getsM g (needM g j (skipM g (g (63 + i)) (g (58 + i)) j f n) (clrJ nd 6) n) 1 6) (42 + j) ((nI i) + 1)) (50 + j) (skipM g (g (63 + i)) (g (58 + i)) j f n)) 2 (((upd (upd (getsM g (needM g j (skipM g (g (63 + i)) (g (58 + i)) j f n) (clrJ nd 6) n) 1 6) (42 + j) ((nI i) + 1)) (50 + j) (skipM g (g (63 + i)) (g (58 + i)) j f n)) 2) + 1)) 3) + (bitsJ (skipM g (g (63 + i)) (g (58 + i)) j f n) 8))))) := by rw [hw_53]; exact va_up_at
        have fr_55 : ∀ q : Nat, ¬ q = (m + 1) → ω_52.2 q = ω_43.2 q := fun q hq => by rw [hw_53]; exact va_up_off hq
        have z_56 : ω_52.1 = ω_43.1 := by rw [hw_53]
        refine lv_aload_n hx hb dX11_builds_135 rfl (lv_at hl 2 rfl) ?_
        refine lv_aload_n hx hb dX11_builds_136 rfl (lv_at hl 2 rfl) ?_
        have f_57 : ω_52.2 m = some (.inr (13, [.ref (m + 1), .ref (m + 2), .ref (m + 3), .int (s 3), .ref (m + 4), .int (s 5), .ref (m + 5), .int (s 7), .int (s 8), .int (s 9), .int (s 10), .int (s 11), .ref (m + 6), .int (s 13), .int (s 14), .ref (m + 7), .int (s 16), .int (s 17), .ref (m + 8)])) := (fr_55 m (by omega)).trans f_48
        refine fw_get (v := .ref (m + 1)) (C := RX11) (T := TX11) (N := 19) hx hb hts hin11 hown hK hR f_57 rfl 0 (by decide) (hts (.fieldLink RX11 7 "UnreadLeafletsModel" "g" "[I") (by decide +kernel)) rfl dX11_builds_137 ?_
        refine lv_bipush (v := 18) hx hb dX11_builds_140 (by decide) ?_
        refine lv_iload_n hx hb dX11_builds_142 rfl (lv_at hl 4 rfl) ?_
        refine lv_iadd hx hb dX11_builds_143 ?_
        have hi_58 : 18 + (nI j) = nI (18 + j) := by
          show (nI 18) + (nI j) = _
          simp only [pk_mul, nI_add, Nat.add_assoc, hc, hd, hn, hff]
        refine W.eq (g2 := F0 mI 144 ls [.int (nI (18 + j)), .ref (m + 1), .ref m]) (by rw [hi_58]) ?_
        refine fw_iald hx hb hK hR f_54 (vp_in_nI (by omega) (by omega)) dX11_builds_144 ?_
        refine W.eq (g2 := F0 mI 145 ls [.int ((upd (upd (upd (upd (getsM g (needM g j (skipM g (g (63 + i)) (g (58 + i)) j f n) (clrJ nd 6) n) 1 6) (42 + j) ((nI i) + 1)) (50 + j) (skipM g (g (63 + i)) (g (58 + i)) j f n)) 2 (((upd (upd (getsM g (needM g j (skipM g (g (63 + i)) (g (58 + i)) j f n) (clrJ nd 6) n) 1 6) (42 + j) ((nI i) + 1)) (50 + j) (skipM g (g (63 + i)) (g (58 + i)) j f n)) 2) + 1)) 3 (((upd (upd (upd (getsM g (needM g j (skipM g (g (63 + i)) (g (58 + i)) j f n) (clrJ nd 6) n) 1 6) (42 + j) ((nI i) + 1)) (50 + j) (skipM g (g (63 + i)) (g (58 + i)) j f n)) 2 (((upd (upd (getsM g (needM g j (skipM g (g (63 + i)) (g (58 + i)) j f n) (clrJ nd 6) n) 1 6) (42 + j) ((nI i) + 1)) (50 + j) (skipM g (g (63 + i)) (g (58 + i)) j f n)) 2) + 1)) 3) + (bitsJ (skipM g (g (63 + i)) (g (58 + i)) j f n) 8))) (18 + j)), .ref m]) (by rw [nI_clamp (by omega)]) ?_
        refine lv_iload_n hx hb dX11_builds_145 rfl (lv_at hl 1 rfl) ?_
        refine fw_call (va_runS (As := [.int (skipM g (g (63 + i)) (g (58 + i)) j f n)]) (rest := [.int ((upd (upd (upd (upd (getsM g (needM g j (skipM g (g (63 + i)) (g (58 + i)) j f n) (clrJ nd 6) n) 1 6) (42 + j) ((nI i) + 1)) (50 + j) (skipM g (g (63 + i)) (g (58 + i)) j f n)) 2 (((upd (upd (getsM g (needM g j (skipM g (g (63 + i)) (g (58 + i)) j f n) (clrJ nd 6) n) 1 6) (42 + j) ((nI i) + 1)) (50 + j) (skipM g (g (63 + i)) (g (58 + i)) j f n)) 2) + 1)) 3 (((upd (upd (upd (getsM g (needM g j (skipM g (g (63 + i)) (g (58 + i)) j f n) (clrJ nd 6) n) 1 6) (42 + j) ((nI i) + 1)) (50 + j) (skipM g (g (63 + i)) (g (58 + i)) j f n)) 2 (((upd (upd (getsM g (needM g j (skipM g (g (63 + i)) (g (58 + i)) j f n) (clrJ nd 6) n) 1 6) (42 + j) ((nI i) + 1)) (50 + j) (skipM g (g (63 + i)) (g (58 + i)) j f n)) 2) + 1)) 3) + (bitsJ (skipM g (g (63 + i)) (g (58 + i)) j f n) 8))) (18 + j)), .ref m]) ⟨hx, hb, hml, hown, hts⟩ (c_X11_bits G hL l ω_52 (skipM g (g (63 + i)) (g (58 + i)) j f n)) (va_cwS 1 hts gX11_builds_X11_bits rfl rfl rfl (by decide +kernel) ⟨Nat.le_of_ble_eq_true rfl, Nat.le_of_ble_eq_true rfl⟩) (fw_preS hW hR) rfl rfl hl.1 rfl (lv_room (Nat.le_of_ble_eq_true rfl)) dX11_builds_146 ⟨Nat.le_of_ble_eq_true rfl, Nat.le_of_ble_eq_true rfl⟩) hS (fun v_59 ω_60 H locs hq_61 hR hS => ?_)
        obtain ⟨rfl, hq_61⟩ := hq_61
        rw [hq_61] at hR
        refine W.eq (g2 := F0 mI 149 ls [.int (bitsJ (skipM g (g (63 + i)) (g (58 + i)) j f n) 8), .int ((upd (upd (upd (upd (getsM g (needM g j (skipM g (g (63 + i)) (g (58 + i)) j f n) (clrJ nd 6) n) 1 6) (42 + j) ((nI i) + 1)) (50 + j) (skipM g (g (63 + i)) (g (58 + i)) j f n)) 2 (((upd (upd (getsM g (needM g j (skipM g (g (63 + i)) (g (58 + i)) j f n) (clrJ nd 6) n) 1 6) (42 + j) ((nI i) + 1)) (50 + j) (skipM g (g (63 + i)) (g (58 + i)) j f n)) 2) + 1)) 3 (((upd (upd (upd (getsM g (needM g j (skipM g (g (63 + i)) (g (58 + i)) j f n) (clrJ nd 6) n) 1 6) (42 + j) ((nI i) + 1)) (50 + j) (skipM g (g (63 + i)) (g (58 + i)) j f n)) 2 (((upd (upd (getsM g (needM g j (skipM g (g (63 + i)) (g (58 + i)) j f n) (clrJ nd 6) n) 1 6) (42 + j) ((nI i) + 1)) (50 + j) (skipM g (g (63 + i)) (g (58 + i)) j f n)) 2) + 1)) 3) + (bitsJ (skipM g (g (63 + i)) (g (58 + i)) j f n) 8))) (18 + j)), .ref m]) rfl ?_
        refine lv_isub hx hb dX11_builds_149 ?_
        refine fw_call (va_runV (As := [.int (((upd (upd (upd (upd (getsM g (needM g j (skipM g (g (63 + i)) (g (58 + i)) j f n) (clrJ nd 6) n) 1 6) (42 + j) ((nI i) + 1)) (50 + j) (skipM g (g (63 + i)) (g (58 + i)) j f n)) 2 (((upd (upd (getsM g (needM g j (skipM g (g (63 + i)) (g (58 + i)) j f n) (clrJ nd 6) n) 1 6) (42 + j) ((nI i) + 1)) (50 + j) (skipM g (g (63 + i)) (g (58 + i)) j f n)) 2) + 1)) 3 (((upd (upd (upd (getsM g (needM g j (skipM g (g (63 + i)) (g (58 + i)) j f n) (clrJ nd 6) n) 1 6) (42 + j) ((nI i) + 1)) (50 + j) (skipM g (g (63 + i)) (g (58 + i)) j f n)) 2 (((upd (upd (getsM g (needM g j (skipM g (g (63 + i)) (g (58 + i)) j f n) (clrJ nd 6) n) 1 6) (42 + j) ((nI i) + 1)) (50 + j) (skipM g (g (63 + i)) (g (58 + i)) j f n)) 2) + 1)) 3) + (bitsJ (skipM g (g (63 + i)) (g (58 + i)) j f n) 8))) (18 + j)) - (bitsJ (skipM g (g (63 + i)) (g (58 + i)) j f n) 8))]) (rest := []) ⟨hx, hb, hml, hown, hts⟩ (c_X11_done G hL l ω_52 m s (upd (upd (upd (upd (getsM g (needM g j (skipM g (g (63 + i)) (g (58 + i)) j f n) (clrJ nd 6) n) 1 6) (42 + j) ((nI i) + 1)) (50 + j) (skipM g (g (63 + i)) (g (58 + i)) j f n)) 2 (((upd (upd (getsM g (needM g j (skipM g (g (63 + i)) (g (58 + i)) j f n) (clrJ nd 6) n) 1 6) (42 + j) ((nI i) + 1)) (50 + j) (skipM g (g (63 + i)) (g (58 + i)) j f n)) 2) + 1)) 3 (((upd (upd (upd (getsM g (needM g j (skipM g (g (63 + i)) (g (58 + i)) j f n) (clrJ nd 6) n) 1 6) (42 + j) ((nI i) + 1)) (50 + j) (skipM g (g (63 + i)) (g (58 + i)) j f n)) 2 (((upd (upd (getsM g (needM g j (skipM g (g (63 + i)) (g (58 + i)) j f n) (clrJ nd 6) n) 1 6) (42 + j) ((nI i) + 1)) (50 + j) (skipM g (g (63 + i)) (g (58 + i)) j f n)) 2) + 1)) 3) + (bitsJ (skipM g (g (63 + i)) (g (58 + i)) j f n) 8))) f_57 f_54 (((upd (upd (upd (upd (getsM g (needM g j (skipM g (g (63 + i)) (g (58 + i)) j f n) (clrJ nd 6) n) 1 6) (42 + j) ((nI i) + 1)) (50 + j) (skipM g (g (63 + i)) (g (58 + i)) j f n)) 2 (((upd (upd (getsM g (needM g j (skipM g (g (63 + i)) (g (58 + i)) j f n) (clrJ nd 6) n) 1 6) (42 + j) ((nI i) + 1)) (50 + j) (skipM g (g (63 + i)) (g (58 + i)) j f n)) 2) + 1)) 3 (((upd (upd (upd (getsM g (needM g j (skipM g (g (63 + i)) (g (58 + i)) j f n) (clrJ nd 6) n) 1 6) (42 + j) ((nI i) + 1)) (50 + j) (skipM g (g (63 + i)) (g (58 + i)) j f n)) 2 (((upd (upd (getsM g (needM g j (skipM g (g (63 + i)) (g (58 + i)) j f n) (clrJ nd 6) n) 1 6) (42 + j) ((nI i) + 1)) (50 + j) (skipM g (g (63 + i)) (g (58 + i)) j f n)) 2) + 1)) 3) + (bitsJ (skipM g (g (63 + i)) (g (58 + i)) j f n) 8))) (18 + j)) - (bitsJ (skipM g (g (63 + i)) (g (58 + i)) j f n) 8))) (cwV 1 hts gX11_builds_X11_done rfl rfl rfl (by decide +kernel) ⟨Nat.le_of_ble_eq_true rfl, Nat.le_of_ble_eq_true rfl⟩) (fw_preV hW hK hR f_57 rfl) rfl rfl hl.1 rfl (lv_room (Nat.le_of_ble_eq_true rfl)) dX11_builds_150 ⟨Nat.le_of_ble_eq_true rfl, Nat.le_of_ble_eq_true rfl⟩) hS (fun v_62 ω_63 H locs hq_64 hR hS => ?_)
        obtain ⟨rfl, z_65, f_67, fr_66⟩ := hq_64
        refine W.eq (g2 := F0 mI 153 ls [.int (((upd (upd (upd (upd (getsM g (needM g j (skipM g (g (63 + i)) (g (58 + i)) j f n) (clrJ nd 6) n) 1 6) (42 + j) ((nI i) + 1)) (50 + j) (skipM g (g (63 + i)) (g (58 + i)) j f n)) 2 (((upd (upd (getsM g (needM g j (skipM g (g (63 + i)) (g (58 + i)) j f n) (clrJ nd 6) n) 1 6) (42 + j) ((nI i) + 1)) (50 + j) (skipM g (g (63 + i)) (g (58 + i)) j f n)) 2) + 1)) 3 (((upd (upd (upd (getsM g (needM g j (skipM g (g (63 + i)) (g (58 + i)) j f n) (clrJ nd 6) n) 1 6) (42 + j) ((nI i) + 1)) (50 + j) (skipM g (g (63 + i)) (g (58 + i)) j f n)) 2 (((upd (upd (getsM g (needM g j (skipM g (g (63 + i)) (g (58 + i)) j f n) (clrJ nd 6) n) 1 6) (42 + j) ((nI i) + 1)) (50 + j) (skipM g (g (63 + i)) (g (58 + i)) j f n)) 2) + 1)) 3) + (bitsJ (skipM g (g (63 + i)) (g (58 + i)) j f n) 8))) (18 + j)) - (bitsJ (skipM g (g (63 + i)) (g (58 + i)) j f n) 8))]) rfl ?_
        have f_68 : ω_63.2 (m + 1) = some (.inl (G.2.1 0, 324, .inl (upd (upd (upd (upd (getsM g (needM g j (skipM g (g (63 + i)) (g (58 + i)) j f n) (clrJ nd 6) n) 1 6) (42 + j) ((nI i) + 1)) (50 + j) (skipM g (g (63 + i)) (g (58 + i)) j f n)) 2 (((upd (upd (getsM g (needM g j (skipM g (g (63 + i)) (g (58 + i)) j f n) (clrJ nd 6) n) 1 6) (42 + j) ((nI i) + 1)) (50 + j) (skipM g (g (63 + i)) (g (58 + i)) j f n)) 2) + 1)) 3 (((upd (upd (upd (getsM g (needM g j (skipM g (g (63 + i)) (g (58 + i)) j f n) (clrJ nd 6) n) 1 6) (42 + j) ((nI i) + 1)) (50 + j) (skipM g (g (63 + i)) (g (58 + i)) j f n)) 2 (((upd (upd (getsM g (needM g j (skipM g (g (63 + i)) (g (58 + i)) j f n) (clrJ nd 6) n) 1 6) (42 + j) ((nI i) + 1)) (50 + j) (skipM g (g (63 + i)) (g (58 + i)) j f n)) 2) + 1)) 3) + (bitsJ (skipM g (g (63 + i)) (g (58 + i)) j f n) 8))))) := (fr_66 (m + 1) (by omega)).trans f_54
        have f_69 : ω_23.2 (m + 7) = some (.inl (G.2.1 0, 6, .inl (needM g j (skipM g (g (63 + i)) (g (58 + i)) j f n) (clrJ nd 6) n))) := (fr_26 (m + 7) (by omega)).trans f_19
        have f_70 : ω_30.2 (m + 7) = some (.inl (G.2.1 0, 6, .inl (needM g j (skipM g (g (63 + i)) (g (58 + i)) j f n) (clrJ nd 6) n))) := (fr_33 (m + 7) (by omega)).trans f_69
        have f_71 : ω_37.2 (m + 7) = some (.inl (G.2.1 0, 6, .inl (needM g j (skipM g (g (63 + i)) (g (58 + i)) j f n) (clrJ nd 6) n))) := (fr_40 (m + 7) (by omega)).trans f_70
        have f_72 : ω_43.2 (m + 7) = some (.inl (G.2.1 0, 6, .inl (needM g j (skipM g (g (63 + i)) (g (58 + i)) j f n) (clrJ nd 6) n))) := (fr_46 (m + 7) (by omega)).trans f_71
        have f_73 : ω_52.2 (m + 7) = some (.inl (G.2.1 0, 6, .inl (needM g j (skipM g (g (63 + i)) (g (58 + i)) j f n) (clrJ nd 6) n))) := (fr_55 (m + 7) (by omega)).trans f_72
        have f_74 : ω_63.2 (m + 7) = some (.inl (G.2.1 0, 6, .inl (needM g j (skipM g (g (63 + i)) (g (58 + i)) j f n) (clrJ nd 6) n))) := (fr_66 (m + 7) (by omega)).trans f_73
        have fr_75 : ∀ q : Nat, ¬ q = m → ¬ q = (m + 1) → ¬ q = (m + 7) → ω_63.2 q = ω.2 q := by
          intro q h0 h1 h2
          rw [fr_66 q (by omega)]
          rw [fr_55 q (by omega)]
          rw [fr_46 q (by omega)]
          rw [fr_40 q (by omega)]
          rw [fr_33 q (by omega)]
          rw [fr_26 q (by omega)]
          rw [fr_18 q (by omega)]
        have z_76 : ω_63.1 = ω.1 := by rw [z_65, z_56, z_47, z_41, z_34, z_25, z_17]
        have hr_77 : buildsM s g nd (nI i) (nI j) = (((((upd (upd (upd (upd (getsM g (needM g j (skipM g (g (63 + i)) (g (58 + i)) j f n) (clrJ nd 6) n) 1 6) (42 + j) ((nI i) + 1)) (50 + j) (skipM g (g (63 + i)) (g (58 + i)) j f n)) 2 (((upd (upd (getsM g (needM g j (skipM g (g (63 + i)) (g (58 + i)) j f n) (clrJ nd 6) n) 1 6) (42 + j) ((nI i) + 1)) (50 + j) (skipM g (g (63 + i)) (g (58 + i)) j f n)) 2) + 1)) 3 (((upd (upd (upd (getsM g (needM g j (skipM g (g (63 + i)) (g (58 + i)) j f n) (clrJ nd 6) n) 1 6) (42 + j) ((nI i) + 1)) (50 + j) (skipM g (g (63 + i)) (g (58 + i)) j f n)) 2 (((upd (upd (getsM g (needM g j (skipM g (g (63 + i)) (g (58 + i)) j f n) (clrJ nd 6) n) 1 6) (42 + j) ((nI i) + 1)) (50 + j) (skipM g (g (63 + i)) (g (58 + i)) j f n)) 2) + 1)) 3) + (bitsJ (skipM g (g (63 + i)) (g (58 + i)) j f n) 8))) (18 + j)) - (bitsJ (skipM g (g (63 + i)) (g (58 + i)) j f n) 8)), (upd s 14 0), (upd (upd (upd (upd (getsM g (needM g j (skipM g (g (63 + i)) (g (58 + i)) j f n) (clrJ nd 6) n) 1 6) (42 + j) ((nI i) + 1)) (50 + j) (skipM g (g (63 + i)) (g (58 + i)) j f n)) 2 (((upd (upd (getsM g (needM g j (skipM g (g (63 + i)) (g (58 + i)) j f n) (clrJ nd 6) n) 1 6) (42 + j) ((nI i) + 1)) (50 + j) (skipM g (g (63 + i)) (g (58 + i)) j f n)) 2) + 1)) 3 (((upd (upd (upd (getsM g (needM g j (skipM g (g (63 + i)) (g (58 + i)) j f n) (clrJ nd 6) n) 1 6) (42 + j) ((nI i) + 1)) (50 + j) (skipM g (g (63 + i)) (g (58 + i)) j f n)) 2 (((upd (upd (getsM g (needM g j (skipM g (g (63 + i)) (g (58 + i)) j f n) (clrJ nd 6) n) 1 6) (42 + j) ((nI i) + 1)) (50 + j) (skipM g (g (63 + i)) (g (58 + i)) j f n)) 2) + 1)) 3) + (bitsJ (skipM g (g (63 + i)) (g (58 + i)) j f n) 8))), (needM g j (skipM g (g (63 + i)) (g (58 + i)) j f n) (clrJ nd 6) n)) : Int32 × (Nat → Int32) × (Nat → Int32) × (Nat → Int32)) := by
          simp only [buildsM, hcc, hdd, hci, hcj, hnn, hfn]
          rw [if_pos c_4, if_pos c_8, if_pos c_10]
        refine fw_iret hx hb hr hlocks hR hS dX11_builds_153 ?_
        rw [hr_77]
        exact ⟨rfl, z_76, f_67, f_68, f_74, fr_75⟩
      · skip
        refine lv_aload_n hx hb dX11_builds_52 rfl (lv_at hl 0 rfl) ?_
        refine lv_bipush (v := 6) hx hb dX11_builds_53 (by decide) ?_
        refine lv_aload_n hx hb dX11_builds_55 rfl (lv_at hl 0 rfl) ?_
        refine fw_get (v := .ref (m + 1)) (C := RX11) (T := TX11) (N := 19) hx hb hts hin11 hown hK hR m0 rfl 0 (by decide) (hts (.fieldLink RX11 7 "UnreadLeafletsModel" "g" "[I") (by decide +kernel)) rfl dX11_builds_56 ?_
        refine lv_bipush (v := 42) hx hb dX11_builds_59 (by decide) ?_
        refine lv_iload_n hx hb dX11_builds_61 rfl (lv_at hl 2 rfl) ?_
        refine lv_iadd hx hb dX11_builds_62 ?_
        have hi_78 : 42 + (nI j) = nI (42 + j) := by
          show (nI 42) + (nI j) = _
          simp only [pk_mul, nI_add, Nat.add_assoc, hc, hd, hn, hff]
        refine W.eq (g2 := F0 mI 63 ls [.int (nI (42 + j)), .ref (m + 1), .int 6, .ref m]) (by rw [hi_78]) ?_
        refine fw_iald hx hb hK hR m1 (vp_in_nI (by omega) (by omega)) dX11_builds_63 ?_
        refine W.eq (g2 := F0 mI 64 ls [.int (g (42 + j)), .int 6, .ref m]) (by rw [nI_clamp (by omega)]) ?_
        refine lv_iconst (v := 1) hx hb dX11_builds_64 (by decide) ?_
        refine lv_isub hx hb dX11_builds_65 ?_
        refine fw_call (va_runV (As := [.int 6, .int ((g (42 + j)) - 1)]) (rest := []) ⟨hx, hb, hml, hown, hts⟩ (c_X11_refused G hL l ω m s g m0 m1 6 ((g (42 + j)) - 1)) (cwV 2 hts gX11_builds_X11_refused rfl rfl rfl (by decide +kernel) ⟨Nat.le_of_ble_eq_true rfl, Nat.le_of_ble_eq_true rfl⟩) (fw_preV hW hK hR m0 rfl) rfl rfl hl.1 rfl (lv_room (Nat.le_of_ble_eq_true rfl)) dX11_builds_66 ⟨Nat.le_of_ble_eq_true rfl, Nat.le_of_ble_eq_true rfl⟩) hS (fun v_79 ω_80 H locs hq_81 hR hS => ?_)
        obtain ⟨rfl, z_82, f_84, fr_83⟩ := hq_81
        refine W.eq (g2 := F0 mI 69 ls [.int 0]) rfl ?_
        have f_85 : ω_80.2 (m + 1) = some (.inl (G.2.1 0, 324, .inl g)) := (fr_83 (m + 1) (by omega)).trans m1
        have f_86 : ω_80.2 (m + 7) = some (.inl (G.2.1 0, 6, .inl nd)) := (fr_83 (m + 7) (by omega)).trans m7
        have fr_87 : ∀ q : Nat, ¬ q = m → ¬ q = (m + 1) → ¬ q = (m + 7) → ω_80.2 q = ω.2 q := by
          intro q h0 h1 h2
          rw [fr_83 q (by omega)]
        have z_88 : ω_80.1 = ω.1 := by rw [z_82]
        have hr_89 : buildsM s g nd (nI i) (nI j) = ((0, (upd (upd (upd (upd s 9 6) 10 ((g (42 + j)) - 1)) 11 0) 14 1), g, nd) : Int32 × (Nat → Int32) × (Nat → Int32) × (Nat → Int32)) := by
          simp only [buildsM, hcc, hdd, hci, hcj, hnn, hfn]
          rw [if_pos c_4, if_pos c_8, if_neg c_10]
        refine fw_iret hx hb hr hlocks hR hS dX11_builds_69 ?_
        rw [hr_89]
        exact ⟨rfl, z_88, f_84, f_85, f_86, fr_87⟩
    · skip
      have c_8 := bz_eq c_8
      refine lv_aload_n hx hb dX11_builds_28 rfl (lv_at hl 0 rfl) ?_
      refine lv_iconst (v := 3) hx hb dX11_builds_29 (by decide) ?_
      refine lv_aload_n hx hb dX11_builds_30 rfl (lv_at hl 0 rfl) ?_
      refine fw_get (v := .ref (m + 1)) (C := RX11) (T := TX11) (N := 19) hx hb hts hin11 hown hK hR m0 rfl 0 (by decide) (hts (.fieldLink RX11 7 "UnreadLeafletsModel" "g" "[I") (by decide +kernel)) rfl dX11_builds_31 ?_
      refine lv_iconst (v := 0) hx hb dX11_builds_34 (by decide) ?_
      refine fw_iald hx hb hK hR m1 (vp_in_nI (n := 0) (by omega) (by omega)) dX11_builds_35 ?_
      refine W.eq (g2 := F0 mI 36 ls [.int (g 0), .int 3, .ref m]) (by rw [show (0 : Int32).toNatClampNeg = 0 from rfl]) ?_
      refine fw_call (va_runV (As := [.int 3, .int (g 0)]) (rest := []) ⟨hx, hb, hml, hown, hts⟩ (c_X11_refused G hL l ω m s g m0 m1 3 (g 0)) (cwV 2 hts gX11_builds_X11_refused rfl rfl rfl (by decide +kernel) ⟨Nat.le_of_ble_eq_true rfl, Nat.le_of_ble_eq_true rfl⟩) (fw_preV hW hK hR m0 rfl) rfl rfl hl.1 rfl (lv_room (Nat.le_of_ble_eq_true rfl)) dX11_builds_36 ⟨Nat.le_of_ble_eq_true rfl, Nat.le_of_ble_eq_true rfl⟩) hS (fun v_90 ω_91 H locs hq_92 hR hS => ?_)
      obtain ⟨rfl, z_93, f_95, fr_94⟩ := hq_92
      refine W.eq (g2 := F0 mI 39 ls [.int 0]) rfl ?_
      have f_96 : ω_91.2 (m + 1) = some (.inl (G.2.1 0, 324, .inl g)) := (fr_94 (m + 1) (by omega)).trans m1
      have f_97 : ω_91.2 (m + 7) = some (.inl (G.2.1 0, 6, .inl nd)) := (fr_94 (m + 7) (by omega)).trans m7
      have fr_98 : ∀ q : Nat, ¬ q = m → ¬ q = (m + 1) → ¬ q = (m + 7) → ω_91.2 q = ω.2 q := by
        intro q h0 h1 h2
        rw [fr_94 q (by omega)]
      have z_99 : ω_91.1 = ω.1 := by rw [z_93]
      have hr_100 : buildsM s g nd (nI i) lf = ((0, (upd (upd (upd (upd s 9 3) 10 (g 0)) 11 0) 14 1), g, nd) : Int32 × (Nat → Int32) × (Nat → Int32) × (Nat → Int32)) := by
        simp only [buildsM, hcc, hdd, hci]
        rw [if_pos c_4, if_neg c_8]
      refine fw_iret hx hb hr hlocks hR hS dX11_builds_39 ?_
      rw [hr_100]
      exact ⟨rfl, z_99, f_95, f_96, f_97, fr_98⟩
  · skip
    have c_4 := bz_eq c_4
    refine lv_aload_n hx hb dX11_builds_8 rfl (lv_at hl 0 rfl) ?_
    refine lv_iconst (v := 4) hx hb dX11_builds_9 (by decide) ?_
    refine lv_aload_n hx hb dX11_builds_10 rfl (lv_at hl 0 rfl) ?_
    refine fw_get (v := .ref (m + 1)) (C := RX11) (T := TX11) (N := 19) hx hb hts hin11 hown hK hR m0 rfl 0 (by decide) (hts (.fieldLink RX11 7 "UnreadLeafletsModel" "g" "[I") (by decide +kernel)) rfl dX11_builds_11 ?_
    refine lv_iconst (v := 1) hx hb dX11_builds_14 (by decide) ?_
    refine fw_iald hx hb hK hR m1 (vp_in_nI (n := 1) (by omega) (by omega)) dX11_builds_15 ?_
    refine W.eq (g2 := F0 mI 16 ls [.int (g 1), .int 4, .ref m]) (by rw [show (1 : Int32).toNatClampNeg = 1 from rfl]) ?_
    refine fw_call (va_runV (As := [.int 4, .int (g 1)]) (rest := []) ⟨hx, hb, hml, hown, hts⟩ (c_X11_refused G hL l ω m s g m0 m1 4 (g 1)) (cwV 2 hts gX11_builds_X11_refused rfl rfl rfl (by decide +kernel) ⟨Nat.le_of_ble_eq_true rfl, Nat.le_of_ble_eq_true rfl⟩) (fw_preV hW hK hR m0 rfl) rfl rfl hl.1 rfl (lv_room (Nat.le_of_ble_eq_true rfl)) dX11_builds_16 ⟨Nat.le_of_ble_eq_true rfl, Nat.le_of_ble_eq_true rfl⟩) hS (fun v_101 ω_102 H locs hq_103 hR hS => ?_)
    obtain ⟨rfl, z_104, f_106, fr_105⟩ := hq_103
    refine W.eq (g2 := F0 mI 19 ls [.int 0]) rfl ?_
    have f_107 : ω_102.2 (m + 1) = some (.inl (G.2.1 0, 324, .inl g)) := (fr_105 (m + 1) (by omega)).trans m1
    have f_108 : ω_102.2 (m + 7) = some (.inl (G.2.1 0, 6, .inl nd)) := (fr_105 (m + 7) (by omega)).trans m7
    have fr_109 : ∀ q : Nat, ¬ q = m → ¬ q = (m + 1) → ¬ q = (m + 7) → ω_102.2 q = ω.2 q := by
      intro q h0 h1 h2
      rw [fr_105 q (by omega)]
    have z_110 : ω_102.1 = ω.1 := by rw [z_104]
    have hr_111 : buildsM s g nd co lf = ((0, (upd (upd (upd (upd s 9 4) 10 (g 1)) 11 0) 14 1), g, nd) : Int32 × (Nat → Int32) × (Nat → Int32) × (Nat → Int32)) := by
      simp only [buildsM, hcc, hdd]
      rw [if_neg c_4]
    refine fw_iret hx hb hr hlocks hR hS dX11_builds_19 ?_
    rw [hr_111]
    exact ⟨rfl, z_110, f_106, f_107, f_108, fr_109⟩
def finishesM (s g nd : Nat → Int32) (lf : Int32) (sp : Int32) : Int32 × (Nat → Int32) × (Nat → Int32) × (Nat → Int32) := if inB lf 0 (g 0 - 1) then (if (g (42 + (cN lf))) = 0 then ((0, (upd (upd (upd (upd s 9 7) 10 0) 11 0) 14 1), g, nd)) else (if inB sp 0 (g (18 + (cN lf)) - 1) then (if (((g (50 + (cN lf))) >>> (sp &&& 31)) &&& 1) = 0 then ((0, (upd (upd (upd (upd s 9 9) 10 sp) 11 0) 14 1), g, nd)) else (if (lackJ (fun i => g (6 + i)) (needM g (cN lf) (1 <<< (sp &&& 31)) (clrJ nd 6) (cN (g (18 + (cN lf))))) 0 6) = (-1) then (((bitsJ ((upd (upd (getsM g (needM g (cN lf) (1 <<< (sp &&& 31)) (clrJ nd 6) (cN (g (18 + (cN lf))))) (-1) 6) (50 + (cN lf)) (((getsM g (needM g (cN lf) (1 <<< (sp &&& 31)) (clrJ nd 6) (cN (g (18 + (cN lf))))) (-1) 6) (50 + (cN lf))) &&& ((1 <<< (sp &&& 31)) ^^^ (-1)))) 4 (((upd (getsM g (needM g (cN lf) (1 <<< (sp &&& 31)) (clrJ nd 6) (cN (g (18 + (cN lf))))) (-1) 6) (50 + (cN lf)) (((getsM g (needM g (cN lf) (1 <<< (sp &&& 31)) (clrJ nd 6) (cN (g (18 + (cN lf))))) (-1) 6) (50 + (cN lf))) &&& ((1 <<< (sp &&& 31)) ^^^ (-1)))) 4) + 1)) (50 + (cN lf))) 8), (upd s 14 0), (upd (upd (getsM g (needM g (cN lf) (1 <<< (sp &&& 31)) (clrJ nd 6) (cN (g (18 + (cN lf))))) (-1) 6) (50 + (cN lf)) (((getsM g (needM g (cN lf) (1 <<< (sp &&& 31)) (clrJ nd 6) (cN (g (18 + (cN lf))))) (-1) 6) (50 + (cN lf))) &&& ((1 <<< (sp &&& 31)) ^^^ (-1)))) 4 (((upd (getsM g (needM g (cN lf) (1 <<< (sp &&& 31)) (clrJ nd 6) (cN (g (18 + (cN lf))))) (-1) 6) (50 + (cN lf)) (((getsM g (needM g (cN lf) (1 <<< (sp &&& 31)) (clrJ nd 6) (cN (g (18 + (cN lf))))) (-1) 6) (50 + (cN lf))) &&& ((1 <<< (sp &&& 31)) ^^^ (-1)))) 4) + 1)), (needM g (cN lf) (1 <<< (sp &&& 31)) (clrJ nd 6) (cN (g (18 + (cN lf))))))) else ((0, (upd (upd (upd (upd s 9 10) 10 (lackJ (fun i => g (6 + i)) (needM g (cN lf) (1 <<< (sp &&& 31)) (clrJ nd 6) (cN (g (18 + (cN lf))))) 0 6)) 11 0) 14 1), g, (needM g (cN lf) (1 <<< (sp &&& 31)) (clrJ nd 6) (cN (g (18 + (cN lf))))))))) else ((0, (upd (upd (upd (upd s 9 8) 10 (g (18 + (cN lf)))) 11 0) 14 1), g, nd)))) else ((0, (upd (upd (upd (upd s 9 3) 10 (g 0)) 11 0) 14 1), g, nd))
set_option maxHeartbeats 4000000 in
set_option maxRecDepth 100000 in
theorem c_X11_finishes (G : FG) (hL : FL G) (l : Launch) (ω : FWd) (m : Nat) (s g : Nat → Int32) (m0 : ω.2 m = some (.inr (13, [.ref (m + 1), .ref (m + 2), .ref (m + 3), .int (s 3), .ref (m + 4), .int (s 5), .ref (m + 5), .int (s 7), .int (s 8), .int (s 9), .int (s 10), .int (s 11), .ref (m + 6), .int (s 13), .int (s 14), .ref (m + 7), .int (s 16), .int (s 17), .ref (m + 8)]))) (m1 : ω.2 (m + 1) = some (.inl (G.2.1 0, 324, .inl g))) (nd : Nat → Int32) (m7 : ω.2 (m + 7) = some (.inl (G.2.1 0, 6, .inl nd))) (hM : WFM g) (lf : Int32) (sp : Int32) : FMet G l yX11_finishes wsX11_finishes ({ frames := 2, cells := 0, slots := 0, locals := 48 } : Room) [.ref m, .int lf, .int sp] ω (fun vv9 τ9 => vv9 = some (.int ((finishesM s g nd lf sp).1)) ∧ τ9.1 = ω.1 ∧ τ9.2 m = some (.inr (13, [.ref (m + 1), .ref (m + 2), .ref (m + 3), .int (((finishesM s g nd lf sp).2.1) 3), .ref (m + 4), .int (((finishesM s g nd lf sp).2.1) 5), .ref (m + 5), .int (((finishesM s g nd lf sp).2.1) 7), .int (((finishesM s g nd lf sp).2.1) 8), .int (((finishesM s g nd lf sp).2.1) 9), .int (((finishesM s g nd lf sp).2.1) 10), .int (((finishesM s g nd lf sp).2.1) 11), .ref (m + 6), .int (((finishesM s g nd lf sp).2.1) 13), .int (((finishesM s g nd lf sp).2.1) 14), .ref (m + 7), .int (((finishesM s g nd lf sp).2.1) 16), .int (((finishesM s g nd lf sp).2.1) 17), .ref (m + 8)])) ∧ τ9.2 (m + 1) = some (.inl (G.2.1 0, 324, .inl ((finishesM s g nd lf sp).2.2.1))) ∧ τ9.2 (m + 7) = some (.inl (G.2.1 0, 6, .inl ((finishesM s g nd lf sp).2.2.2))) ∧ ∀ q : Nat, ¬ q = m → ¬ q = (m + 1) → ¬ q = (m + 7) → τ9.2 q = ω.2 q) 0 0 := by
  refine fw_ofW (cc := cX11_finishes) (maxL := 4) (ret := (some .int)) (by decide) rfl (Nat.le_of_ble_eq_true rfl) ?_
  intro pP eE sS mI ar9 bl9 meth cD ls hx hb hr hlocks hml hts hown hnm hW hR hl
  have hK := hL.K hW
  have hS : va_S (fwA G) sS.heap sS.heap [] := va_S.rf
  have hin11 : ∀ w ∈ u_ws RX11 TX11 19, w ∈ wsX11_finishes := by decide +kernel
  have hl : lv_has ls 4 [(0, .ref m), (1, .int lf), (2, .int sp)] := hl
  obtain ⟨c, hc8, hc, hcc⟩ := okN_of hM.1
  obtain ⟨cc, hd5, hd, hdd⟩ := okN_of hM.2.1
  refine lv_aload_n hx hb dX11_finishes_0 rfl (lv_at hl 0 rfl) ?_
  refine lv_iload_n hx hb dX11_finishes_1 rfl (lv_at hl 1 rfl) ?_
  refine fw_call (va_runV (As := [.int lf]) (rest := []) ⟨hx, hb, hml, hown, hts⟩ (c_X11_isLeaflet G hL l ω m s g m0 m1 lf) (cwV 1 hts gX11_finishes_X11_isLeaflet rfl rfl rfl (by decide +kernel) ⟨Nat.le_of_ble_eq_true rfl, Nat.le_of_ble_eq_true rfl⟩) (fw_preV hW hK hR m0 rfl) rfl rfl hl.1 rfl (lv_room (Nat.le_of_ble_eq_true rfl)) dX11_finishes_2 ⟨Nat.le_of_ble_eq_true rfl, Nat.le_of_ble_eq_true rfl⟩) hS (fun v_1 ω_2 H locs hq_3 hR hS => ?_)
  obtain ⟨rfl, hq_3⟩ := hq_3
  rw [hq_3] at hR
  refine W.eq (g2 := F0 mI 5 ls [.int (bz (inB lf 0 (g 0 - 1)))]) rfl ?_
  refine lv_if_ne (tgt := 20) hx hb dX11_finishes_5 (by decide) (fun c_4 => ?_) (fun c_4 => ?_)
  · skip
    have c_4 := bz_ne c_4
    obtain ⟨j, hj2, rfl⟩ := in_c hc hc8 c_4
    have hcj : cN (nI j) = j := cN_nI (by omega)
    obtain ⟨n, hn8, hn, hnn⟩ := okN_of (hM.2.2 j (by rw [hcc]; exact hj2)).1
    obtain ⟨f, hf3, hff, hfn⟩ := okN_of (hM.2.2 j (by rw [hcc]; exact hj2)).2.1
    have hkd : ∀ q, q < n → g (68 + 8 * j + q) = nI (cN (g (68 + 8 * j + q))) ∧ cN (g (68 + 8 * j + q)) < 6 := fun q hq => by have h9 := (hM.2.2 j (by rw [hcc]; exact hj2)).2.2 q (by rw [hnn]; exact hq); exact ⟨h9.1, Nat.lt_succ_of_le h9.2⟩
    refine lv_aload_n hx hb dX11_finishes_20 rfl (lv_at hl 0 rfl) ?_
    refine fw_get (v := .ref (m + 1)) (C := RX11) (T := TX11) (N := 19) hx hb hts hin11 hown hK hR m0 rfl 0 (by decide) (hts (.fieldLink RX11 7 "UnreadLeafletsModel" "g" "[I") (by decide +kernel)) rfl dX11_finishes_21 ?_
    refine lv_bipush (v := 42) hx hb dX11_finishes_24 (by decide) ?_
    refine lv_iload_n hx hb dX11_finishes_26 rfl (lv_at hl 1 rfl) ?_
    refine lv_iadd hx hb dX11_finishes_27 ?_
    have hi_5 : 42 + (nI j) = nI (42 + j) := by
      show (nI 42) + (nI j) = _
      simp only [pk_mul, nI_add, Nat.add_assoc, hc, hd, hn, hff]
    refine W.eq (g2 := F0 mI 28 ls [.int (nI (42 + j)), .ref (m + 1)]) (by rw [hi_5]) ?_
    refine fw_iald hx hb hK hR m1 (vp_in_nI (by omega) (by omega)) dX11_finishes_28 ?_
    refine W.eq (g2 := F0 mI 29 ls [.int (g (42 + j))]) (by rw [nI_clamp (by omega)]) ?_
    refine lv_if_ne (tgt := 40) hx hb dX11_finishes_29 (by decide) (fun c_6 => ?_) (fun c_6 => ?_)
    · skip
      refine lv_aload_n hx hb dX11_finishes_40 rfl (lv_at hl 0 rfl) ?_
      refine lv_iload_n hx hb dX11_finishes_41 rfl (lv_at hl 1 rfl) ?_
      refine lv_iload_n hx hb dX11_finishes_42 rfl (lv_at hl 2 rfl) ?_
      refine fw_call (va_runV (As := [.int (nI j), .int sp]) (rest := []) ⟨hx, hb, hml, hown, hts⟩ (c_X11_isStep G hL l ω m s g m0 m1 j (by omega) sp) (cwV 2 hts gX11_finishes_X11_isStep rfl rfl rfl (by decide +kernel) ⟨Nat.le_of_ble_eq_true rfl, Nat.le_of_ble_eq_true rfl⟩) (fw_preV hW hK hR m0 rfl) rfl rfl hl.1 rfl (lv_room (Nat.le_of_ble_eq_true rfl)) dX11_finishes_43 ⟨Nat.le_of_ble_eq_true rfl, Nat.le_of_ble_eq_true rfl⟩) hS (fun v_7 ω_8 H locs hq_9 hR hS => ?_)
      obtain ⟨rfl, hq_9⟩ := hq_9
      rw [hq_9] at hR
      refine W.eq (g2 := F0 mI 46 ls [.int (bz (inB sp 0 (g (18 + j) - 1)))]) rfl ?_
      refine lv_if_ne (tgt := 65) hx hb dX11_finishes_46 (by decide) (fun c_10 => ?_) (fun c_10 => ?_)
      · skip
        have c_10 := bz_ne c_10
        refine lv_aload_n hx hb dX11_finishes_65 rfl (lv_at hl 0 rfl) ?_
        refine fw_get (v := .ref (m + 1)) (C := RX11) (T := TX11) (N := 19) hx hb hts hin11 hown hK hR m0 rfl 0 (by decide) (hts (.fieldLink RX11 7 "UnreadLeafletsModel" "g" "[I") (by decide +kernel)) rfl dX11_finishes_66 ?_
        refine lv_bipush (v := 50) hx hb dX11_finishes_69 (by decide) ?_
        refine lv_iload_n hx hb dX11_finishes_71 rfl (lv_at hl 1 rfl) ?_
        refine lv_iadd hx hb dX11_finishes_72 ?_
        have hi_11 : 50 + (nI j) = nI (50 + j) := by
          show (nI 50) + (nI j) = _
          simp only [pk_mul, nI_add, Nat.add_assoc, hc, hd, hn, hff]
        refine W.eq (g2 := F0 mI 73 ls [.int (nI (50 + j)), .ref (m + 1)]) (by rw [hi_11]) ?_
        refine fw_iald hx hb hK hR m1 (vp_in_nI (by omega) (by omega)) dX11_finishes_73 ?_
        refine W.eq (g2 := F0 mI 74 ls [.int (g (50 + j))]) (by rw [nI_clamp (by omega)]) ?_
        refine lv_iload_n hx hb dX11_finishes_74 rfl (lv_at hl 2 rfl) ?_
        refine lv_ishr hx hb dX11_finishes_75 ?_
        refine lv_iconst (v := 1) hx hb dX11_finishes_76 (by decide) ?_
        refine lv_iand hx hb dX11_finishes_77 ?_
        refine lv_if_ne (tgt := 89) hx hb dX11_finishes_78 (by decide) (fun c_12 => ?_) (fun c_12 => ?_)
        · skip
          refine lv_aload_n hx hb dX11_finishes_89 rfl (lv_at hl 0 rfl) ?_
          refine lv_iload_n hx hb dX11_finishes_90 rfl (lv_at hl 1 rfl) ?_
          refine lv_iconst (v := 1) hx hb dX11_finishes_91 (by decide) ?_
          refine lv_iload_n hx hb dX11_finishes_92 rfl (lv_at hl 2 rfl) ?_
          refine lv_ishl hx hb dX11_finishes_93 ?_
          refine fw_call (va_runV (As := [.int (nI j), .int (1 <<< (sp &&& 31))]) (rest := []) ⟨hx, hb, hml, hown, hts⟩ (c_X11_needsFor G hL l ω m s g m0 m1 nd m7 j (by omega) (1 <<< (sp &&& 31)) n hn hn8 hkd) (cwV 2 hts gX11_finishes_X11_needsFor rfl rfl rfl (by decide +kernel) ⟨Nat.le_of_ble_eq_true rfl, Nat.le_of_ble_eq_true rfl⟩) (fw_preV hW hK hR m0 rfl) rfl rfl hl.1 rfl (lv_room (Nat.le_of_ble_eq_true rfl)) dX11_finishes_94 ⟨Nat.le_of_ble_eq_true rfl, Nat.le_of_ble_eq_true rfl⟩) hS (fun v_13 ω_14 H locs hq_15 hR hS => ?_)
          obtain ⟨rfl, z_16, f_18, fr_17⟩ := hq_15
          refine W.eq (g2 := F0 mI 97 ls [.int (sumM g j (1 <<< (sp &&& 31)) n)]) rfl ?_
          refine lv_istore_n (lv' := [(3, .int (sumM g j (1 <<< (sp &&& 31)) n)), (0, .ref m), (1, .int (nI j)), (2, .int sp)]) hx hb dX11_finishes_97 rfl hl (by decide) rfl (fun ls hl => ?_)
          refine lv_aload_n hx hb dX11_finishes_98 rfl (lv_at hl 1 rfl) ?_
          have f_19 : ω_14.2 m = some (.inr (13, [.ref (m + 1), .ref (m + 2), .ref (m + 3), .int (s 3), .ref (m + 4), .int (s 5), .ref (m + 5), .int (s 7), .int (s 8), .int (s 9), .int (s 10), .int (s 11), .ref (m + 6), .int (s 13), .int (s 14), .ref (m + 7), .int (s 16), .int (s 17), .ref (m + 8)])) := (fr_17 m (by omega)).trans m0
          have f_20 : ω_14.2 (m + 1) = some (.inl (G.2.1 0, 324, .inl g)) := (fr_17 (m + 1) (by omega)).trans m1
          refine fw_call (va_runV (As := []) (rest := []) ⟨hx, hb, hml, hown, hts⟩ (c_X11_lacking G hL l ω_14 m s g f_19 f_20 (needM g j (1 <<< (sp &&& 31)) (clrJ nd 6) n) f_18 ) (cwV 0 hts gX11_finishes_X11_lacking rfl rfl rfl (by decide +kernel) ⟨Nat.le_of_ble_eq_true rfl, Nat.le_of_ble_eq_true rfl⟩) (fw_preV hW hK hR f_19 rfl) rfl rfl hl.1 rfl (lv_room (Nat.le_of_ble_eq_true rfl)) dX11_finishes_99 ⟨Nat.le_of_ble_eq_true rfl, Nat.le_of_ble_eq_true rfl⟩) hS (fun v_21 ω_22 H locs hq_23 hR hS => ?_)
          obtain ⟨rfl, hq_23⟩ := hq_23
          rw [hq_23] at hR
          refine W.eq (g2 := F0 mI 102 ls [.int (lackJ (fun i => g (6 + i)) (needM g j (1 <<< (sp &&& 31)) (clrJ nd 6) n) 0 6)]) rfl ?_
          refine lv_iconst (v := (-1)) hx hb dX11_finishes_102 (by decide) ?_
          refine lv_icmp_eq (tgt := 117) hx hb dX11_finishes_103 (by decide) (fun c_24 => ?_) (fun c_24 => ?_)
          · skip
            refine lv_aload_n hx hb dX11_finishes_117 rfl (lv_at hl 1 rfl) ?_
            refine lv_iconst (v := (-1)) hx hb dX11_finishes_118 (by decide) ?_
            refine fw_call (va_runV (As := [.int (-1)]) (rest := []) ⟨hx, hb, hml, hown, hts⟩ (c_X11_tinGets G hL l ω_14 m s g f_19 f_20 (needM g j (1 <<< (sp &&& 31)) (clrJ nd 6) n) f_18 (-1)) (cwV 1 hts gX11_finishes_X11_tinGets rfl rfl rfl (by decide +kernel) ⟨Nat.le_of_ble_eq_true rfl, Nat.le_of_ble_eq_true rfl⟩) (fw_preV hW hK hR f_19 rfl) rfl rfl hl.1 rfl (lv_room (Nat.le_of_ble_eq_true rfl)) dX11_finishes_119 ⟨Nat.le_of_ble_eq_true rfl, Nat.le_of_ble_eq_true rfl⟩) hS (fun v_25 ω_26 H locs hq_27 hR hS => ?_)
            obtain ⟨rfl, z_28, f_30, fr_29⟩ := hq_27
            refine W.eq (g2 := F0 mI 122 ls []) rfl ?_
            refine lv_aload_n hx hb dX11_finishes_122 rfl (lv_at hl 1 rfl) ?_
            have f_31 : ω_26.2 m = some (.inr (13, [.ref (m + 1), .ref (m + 2), .ref (m + 3), .int (s 3), .ref (m + 4), .int (s 5), .ref (m + 5), .int (s 7), .int (s 8), .int (s 9), .int (s 10), .int (s 11), .ref (m + 6), .int (s 13), .int (s 14), .ref (m + 7), .int (s 16), .int (s 17), .ref (m + 8)])) := (fr_29 m (by omega)).trans f_19
            refine fw_get (v := .ref (m + 1)) (C := RX11) (T := TX11) (N := 19) hx hb hts hin11 hown hK hR f_31 rfl 0 (by decide) (hts (.fieldLink RX11 7 "UnreadLeafletsModel" "g" "[I") (by decide +kernel)) rfl dX11_finishes_123 ?_
            refine lv_bipush (v := 50) hx hb dX11_finishes_126 (by decide) ?_
            refine lv_iload_n hx hb dX11_finishes_128 rfl (lv_at hl 2 rfl) ?_
            refine lv_iadd hx hb dX11_finishes_129 ?_
            refine lv_dup2_11 hx hb dX11_finishes_130 rfl rfl ?_
            have hi_32 : 50 + (nI j) = nI (50 + j) := by
              show (nI 50) + (nI j) = _
              simp only [pk_mul, nI_add, Nat.add_assoc, hc, hd, hn, hff]
            refine W.eq (g2 := F0 mI 131 ls [.int (nI (50 + j)), .ref (m + 1), .int (50 + (nI j)), .ref (m + 1)]) (by rw [hi_32]) ?_
            refine fw_iald hx hb hK hR f_30 (vp_in_nI (by omega) (by omega)) dX11_finishes_131 ?_
            refine W.eq (g2 := F0 mI 132 ls [.int ((getsM g (needM g j (1 <<< (sp &&& 31)) (clrJ nd 6) n) (-1) 6) (50 + j)), .int (50 + (nI j)), .ref (m + 1)]) (by rw [nI_clamp (by omega)]) ?_
            refine lv_iconst (v := 1) hx hb dX11_finishes_132 (by decide) ?_
            refine lv_iload_n hx hb dX11_finishes_133 rfl (lv_at hl 3 rfl) ?_
            refine lv_ishl hx hb dX11_finishes_134 ?_
            refine lv_iconst (v := (-1)) hx hb dX11_finishes_135 (by decide) ?_
            refine lv_ixor hx hb dX11_finishes_136 ?_
            refine lv_iand hx hb dX11_finishes_137 ?_
            have hi_33 : 50 + (nI j) = nI (50 + j) := by
              show (nI 50) + (nI j) = _
              simp only [pk_mul, nI_add, Nat.add_assoc, hc, hd, hn, hff]
            refine W.eq (g2 := F0 mI 138 ls [.int (((getsM g (needM g j (1 <<< (sp &&& 31)) (clrJ nd 6) n) (-1) 6) (50 + j)) &&& ((1 <<< (sp &&& 31)) ^^^ (-1))), .int (nI (50 + j)), .ref (m + 1)]) (by rw [hi_33]) ?_
            refine fw_iast hx hb hK hR hS f_30 (vp_in_nI (by omega) (by omega)) dX11_finishes_138 (fun H locs hR hS => ?_)
            rw [show (nI (50 + j)).toNatClampNeg = 50 + j from nI_clamp (by omega)] at hR
            obtain ⟨ω_34, hw_35⟩ : ∃ τ : FWd, τ = (ω_26.1, va_up ω_26.2 (m + 1) (some (.inl (G.2.1 0, 324, .inl (upd (getsM g (needM g j (1 <<< (sp &&& 31)) (clrJ nd 6) n) (-1) 6) (50 + j) (((getsM g (needM g j (1 <<< (sp &&& 31)) (clrJ nd 6) n) (-1) 6) (50 + j)) &&& ((1 <<< (sp &&& 31)) ^^^ (-1)))))))) := ⟨_, rfl⟩
            have hR : fR G ω_34 H := by rw [hw_35]; exact hR
            have f_36 : ω_34.2 (m + 1) = some (.inl (G.2.1 0, 324, .inl (upd (getsM g (needM g j (1 <<< (sp &&& 31)) (clrJ nd 6) n) (-1) 6) (50 + j) (((getsM g (needM g j (1 <<< (sp &&& 31)) (clrJ nd 6) n) (-1) 6) (50 + j)) &&& ((1 <<< (sp &&& 31)) ^^^ (-1)))))) := by rw [hw_35]; exact va_up_at
            have fr_37 : ∀ q : Nat, ¬ q = (m + 1) → ω_34.2 q = ω_26.2 q := fun q hq => by rw [hw_35]; exact va_up_off hq
            have z_38 : ω_34.1 = ω_26.1 := by rw [hw_35]
            refine lv_aload_n hx hb dX11_finishes_139 rfl (lv_at hl 1 rfl) ?_
            have f_39 : ω_34.2 m = some (.inr (13, [.ref (m + 1), .ref (m + 2), .ref (m + 3), .int (s 3), .ref (m + 4), .int (s 5), .ref (m + 5), .int (s 7), .int (s 8), .int (s 9), .int (s 10), .int (s 11), .ref (m + 6), .int (s 13), .int (s 14), .ref (m + 7), .int (s 16), .int (s 17), .ref (m + 8)])) := (fr_37 m (by omega)).trans f_31
            refine fw_get (v := .ref (m + 1)) (C := RX11) (T := TX11) (N := 19) hx hb hts hin11 hown hK hR f_39 rfl 0 (by decide) (hts (.fieldLink RX11 7 "UnreadLeafletsModel" "g" "[I") (by decide +kernel)) rfl dX11_finishes_140 ?_
            refine lv_iconst (v := 4) hx hb dX11_finishes_143 (by decide) ?_
            refine lv_dup2_11 hx hb dX11_finishes_144 rfl rfl ?_
            refine fw_iald hx hb hK hR f_36 (vp_in_nI (n := 4) (by omega) (by omega)) dX11_finishes_145 ?_
            refine W.eq (g2 := F0 mI 146 ls [.int ((upd (getsM g (needM g j (1 <<< (sp &&& 31)) (clrJ nd 6) n) (-1) 6) (50 + j) (((getsM g (needM g j (1 <<< (sp &&& 31)) (clrJ nd 6) n) (-1) 6) (50 + j)) &&& ((1 <<< (sp &&& 31)) ^^^ (-1)))) 4), .int 4, .ref (m + 1)]) (by rw [show (4 : Int32).toNatClampNeg = 4 from rfl]) ?_
            refine lv_iconst (v := 1) hx hb dX11_finishes_146 (by decide) ?_
            refine lv_iadd hx hb dX11_finishes_147 ?_
            refine fw_iast hx hb hK hR hS f_36 (vp_in_nI (n := 4) (by omega) (by omega)) dX11_finishes_148 (fun H locs hR hS => ?_)
            rw [show (4 : Int32).toNatClampNeg = 4 from show (4 : Int32).toNatClampNeg = 4 from rfl] at hR
            obtain ⟨ω_40, hw_41⟩ : ∃ τ : FWd, τ = (ω_34.1, va_up ω_34.2 (m + 1) (some (.inl (G.2.1 0, 324, .inl (upd (upd (getsM g (needM g j (1 <<< (sp &&& 31)) (clrJ nd 6) n) (-1) 6) (50 + j) (((getsM g (needM g j (1 <<< (sp &&& 31)) (clrJ nd 6) n) (-1) 6) (50 + j)) &&& ((1 <<< (sp &&& 31)) ^^^ (-1)))) 4 (((upd (getsM g (needM g j (1 <<< (sp &&& 31)) (clrJ nd 6) n) (-1) 6) (50 + j) (((getsM g (needM g j (1 <<< (sp &&& 31)) (clrJ nd 6) n) (-1) 6) (50 + j)) &&& ((1 <<< (sp &&& 31)) ^^^ (-1)))) 4) + 1)))))) := ⟨_, rfl⟩
            have hR : fR G ω_40 H := by rw [hw_41]; exact hR
            have f_42 : ω_40.2 (m + 1) = some (.inl (G.2.1 0, 324, .inl (upd (upd (getsM g (needM g j (1 <<< (sp &&& 31)) (clrJ nd 6) n) (-1) 6) (50 + j) (((getsM g (needM g j (1 <<< (sp &&& 31)) (clrJ nd 6) n) (-1) 6) (50 + j)) &&& ((1 <<< (sp &&& 31)) ^^^ (-1)))) 4 (((upd (getsM g (needM g j (1 <<< (sp &&& 31)) (clrJ nd 6) n) (-1) 6) (50 + j) (((getsM g (needM g j (1 <<< (sp &&& 31)) (clrJ nd 6) n) (-1) 6) (50 + j)) &&& ((1 <<< (sp &&& 31)) ^^^ (-1)))) 4) + 1)))) := by rw [hw_41]; exact va_up_at
            have fr_43 : ∀ q : Nat, ¬ q = (m + 1) → ω_40.2 q = ω_34.2 q := fun q hq => by rw [hw_41]; exact va_up_off hq
            have z_44 : ω_40.1 = ω_34.1 := by rw [hw_41]
            refine lv_aload_n hx hb dX11_finishes_149 rfl (lv_at hl 1 rfl) ?_
            refine lv_aload_n hx hb dX11_finishes_150 rfl (lv_at hl 1 rfl) ?_
            have f_45 : ω_40.2 m = some (.inr (13, [.ref (m + 1), .ref (m + 2), .ref (m + 3), .int (s 3), .ref (m + 4), .int (s 5), .ref (m + 5), .int (s 7), .int (s 8), .int (s 9), .int (s 10), .int (s 11), .ref (m + 6), .int (s 13), .int (s 14), .ref (m + 7), .int (s 16), .int (s 17), .ref (m + 8)])) := (fr_43 m (by omega)).trans f_39
            refine fw_get (v := .ref (m + 1)) (C := RX11) (T := TX11) (N := 19) hx hb hts hin11 hown hK hR f_45 rfl 0 (by decide) (hts (.fieldLink RX11 7 "UnreadLeafletsModel" "g" "[I") (by decide +kernel)) rfl dX11_finishes_151 ?_
            refine lv_bipush (v := 50) hx hb dX11_finishes_154 (by decide) ?_
            refine lv_iload_n hx hb dX11_finishes_156 rfl (lv_at hl 2 rfl) ?_
            refine lv_iadd hx hb dX11_finishes_157 ?_
            have hi_46 : 50 + (nI j) = nI (50 + j) := by
              show (nI 50) + (nI j) = _
              simp only [pk_mul, nI_add, Nat.add_assoc, hc, hd, hn, hff]
            refine W.eq (g2 := F0 mI 158 ls [.int (nI (50 + j)), .ref (m + 1), .ref m]) (by rw [hi_46]) ?_
            refine fw_iald hx hb hK hR f_42 (vp_in_nI (by omega) (by omega)) dX11_finishes_158 ?_
            refine W.eq (g2 := F0 mI 159 ls [.int ((upd (upd (getsM g (needM g j (1 <<< (sp &&& 31)) (clrJ nd 6) n) (-1) 6) (50 + j) (((getsM g (needM g j (1 <<< (sp &&& 31)) (clrJ nd 6) n) (-1) 6) (50 + j)) &&& ((1 <<< (sp &&& 31)) ^^^ (-1)))) 4 (((upd (getsM g (needM g j (1 <<< (sp &&& 31)) (clrJ nd 6) n) (-1) 6) (50 + j) (((getsM g (needM g j (1 <<< (sp &&& 31)) (clrJ nd 6) n) (-1) 6) (50 + j)) &&& ((1 <<< (sp &&& 31)) ^^^ (-1)))) 4) + 1)) (50 + j)), .ref m]) (by rw [nI_clamp (by omega)]) ?_
            refine fw_call (va_runS (As := [.int ((upd (upd (getsM g (needM g j (1 <<< (sp &&& 31)) (clrJ nd 6) n) (-1) 6) (50 + j) (((getsM g (needM g j (1 <<< (sp &&& 31)) (clrJ nd 6) n) (-1) 6) (50 + j)) &&& ((1 <<< (sp &&& 31)) ^^^ (-1)))) 4 (((upd (getsM g (needM g j (1 <<< (sp &&& 31)) (clrJ nd 6) n) (-1) 6) (50 + j) (((getsM g (needM g j (1 <<< (sp &&& 31)) (clrJ nd 6) n) (-1) 6) (50 + j)) &&& ((1 <<< (sp &&& 31)) ^^^ (-1)))) 4) + 1)) (50 + j))]) (rest := [.ref m]) ⟨hx, hb, hml, hown, hts⟩ (c_X11_bits G hL l ω_40 ((upd (upd (getsM g (needM g j (1 <<< (sp &&& 31)) (clrJ nd 6) n) (-1) 6) (50 + j) (((getsM g (needM g j (1 <<< (sp &&& 31)) (clrJ nd 6) n) (-1) 6) (50 + j)) &&& ((1 <<< (sp &&& 31)) ^^^ (-1)))) 4 (((upd (getsM g (needM g j (1 <<< (sp &&& 31)) (clrJ nd 6) n) (-1) 6) (50 + j) (((getsM g (needM g j (1 <<< (sp &&& 31)) (clrJ nd 6) n) (-1) 6) (50 + j)) &&& ((1 <<< (sp &&& 31)) ^^^ (-1)))) 4) + 1)) (50 + j))) (va_cwS 1 hts gX11_finishes_X11_bits rfl rfl rfl (by decide +kernel) ⟨Nat.le_of_ble_eq_true rfl, Nat.le_of_ble_eq_true rfl⟩) (fw_preS hW hR) rfl rfl hl.1 rfl (lv_room (Nat.le_of_ble_eq_true rfl)) dX11_finishes_159 ⟨Nat.le_of_ble_eq_true rfl, Nat.le_of_ble_eq_true rfl⟩) hS (fun v_47 ω_48 H locs hq_49 hR hS => ?_)
            obtain ⟨rfl, hq_49⟩ := hq_49
            rw [hq_49] at hR
            refine W.eq (g2 := F0 mI 162 ls [.int (bitsJ ((upd (upd (getsM g (needM g j (1 <<< (sp &&& 31)) (clrJ nd 6) n) (-1) 6) (50 + j) (((getsM g (needM g j (1 <<< (sp &&& 31)) (clrJ nd 6) n) (-1) 6) (50 + j)) &&& ((1 <<< (sp &&& 31)) ^^^ (-1)))) 4 (((upd (getsM g (needM g j (1 <<< (sp &&& 31)) (clrJ nd 6) n) (-1) 6) (50 + j) (((getsM g (needM g j (1 <<< (sp &&& 31)) (clrJ nd 6) n) (-1) 6) (50 + j)) &&& ((1 <<< (sp &&& 31)) ^^^ (-1)))) 4) + 1)) (50 + j)) 8), .ref m]) rfl ?_
            refine fw_call (va_runV (As := [.int (bitsJ ((upd (upd (getsM g (needM g j (1 <<< (sp &&& 31)) (clrJ nd 6) n) (-1) 6) (50 + j) (((getsM g (needM g j (1 <<< (sp &&& 31)) (clrJ nd 6) n) (-1) 6) (50 + j)) &&& ((1 <<< (sp &&& 31)) ^^^ (-1)))) 4 (((upd (getsM g (needM g j (1 <<< (sp &&& 31)) (clrJ nd 6) n) (-1) 6) (50 + j) (((getsM g (needM g j (1 <<< (sp &&& 31)) (clrJ nd 6) n) (-1) 6) (50 + j)) &&& ((1 <<< (sp &&& 31)) ^^^ (-1)))) 4) + 1)) (50 + j)) 8)]) (rest := []) ⟨hx, hb, hml, hown, hts⟩ (c_X11_done G hL l ω_40 m s (upd (upd (getsM g (needM g j (1 <<< (sp &&& 31)) (clrJ nd 6) n) (-1) 6) (50 + j) (((getsM g (needM g j (1 <<< (sp &&& 31)) (clrJ nd 6) n) (-1) 6) (50 + j)) &&& ((1 <<< (sp &&& 31)) ^^^ (-1)))) 4 (((upd (getsM g (needM g j (1 <<< (sp &&& 31)) (clrJ nd 6) n) (-1) 6) (50 + j) (((getsM g (needM g j (1 <<< (sp &&& 31)) (clrJ nd 6) n) (-1) 6) (50 + j)) &&& ((1 <<< (sp &&& 31)) ^^^ (-1)))) 4) + 1)) f_45 f_42 (bitsJ ((upd (upd (getsM g (needM g j (1 <<< (sp &&& 31)) (clrJ nd 6) n) (-1) 6) (50 + j) (((getsM g (needM g j (1 <<< (sp &&& 31)) (clrJ nd 6) n) (-1) 6) (50 + j)) &&& ((1 <<< (sp &&& 31)) ^^^ (-1)))) 4 (((upd (getsM g (needM g j (1 <<< (sp &&& 31)) (clrJ nd 6) n) (-1) 6) (50 + j) (((getsM g (needM g j (1 <<< (sp &&& 31)) (clrJ nd 6) n) (-1) 6) (50 + j)) &&& ((1 <<< (sp &&& 31)) ^^^ (-1)))) 4) + 1)) (50 + j)) 8)) (cwV 1 hts gX11_finishes_X11_done rfl rfl rfl (by decide +kernel) ⟨Nat.le_of_ble_eq_true rfl, Nat.le_of_ble_eq_true rfl⟩) (fw_preV hW hK hR f_45 rfl) rfl rfl hl.1 rfl (lv_room (Nat.le_of_ble_eq_true rfl)) dX11_finishes_162 ⟨Nat.le_of_ble_eq_true rfl, Nat.le_of_ble_eq_true rfl⟩) hS (fun v_50 ω_51 H locs hq_52 hR hS => ?_)
            obtain ⟨rfl, z_53, f_55, fr_54⟩ := hq_52
            refine W.eq (g2 := F0 mI 165 ls [.int (bitsJ ((upd (upd (getsM g (needM g j (1 <<< (sp &&& 31)) (clrJ nd 6) n) (-1) 6) (50 + j) (((getsM g (needM g j (1 <<< (sp &&& 31)) (clrJ nd 6) n) (-1) 6) (50 + j)) &&& ((1 <<< (sp &&& 31)) ^^^ (-1)))) 4 (((upd (getsM g (needM g j (1 <<< (sp &&& 31)) (clrJ nd 6) n) (-1) 6) (50 + j) (((getsM g (needM g j (1 <<< (sp &&& 31)) (clrJ nd 6) n) (-1) 6) (50 + j)) &&& ((1 <<< (sp &&& 31)) ^^^ (-1)))) 4) + 1)) (50 + j)) 8)]) rfl ?_
            have f_56 : ω_51.2 (m + 1) = some (.inl (G.2.1 0, 324, .inl (upd (upd (getsM g (needM g j (1 <<< (sp &&& 31)) (clrJ nd 6) n) (-1) 6) (50 + j) (((getsM g (needM g j (1 <<< (sp &&& 31)) (clrJ nd 6) n) (-1) 6) (50 + j)) &&& ((1 <<< (sp &&& 31)) ^^^ (-1)))) 4 (((upd (getsM g (needM g j (1 <<< (sp &&& 31)) (clrJ nd 6) n) (-1) 6) (50 + j) (((getsM g (needM g j (1 <<< (sp &&& 31)) (clrJ nd 6) n) (-1) 6) (50 + j)) &&& ((1 <<< (sp &&& 31)) ^^^ (-1)))) 4) + 1)))) := (fr_54 (m + 1) (by omega)).trans f_42
            have f_57 : ω_26.2 (m + 7) = some (.inl (G.2.1 0, 6, .inl (needM g j (1 <<< (sp &&& 31)) (clrJ nd 6) n))) := (fr_29 (m + 7) (by omega)).trans f_18
            have f_58 : ω_34.2 (m + 7) = some (.inl (G.2.1 0, 6, .inl (needM g j (1 <<< (sp &&& 31)) (clrJ nd 6) n))) := (fr_37 (m + 7) (by omega)).trans f_57
            have f_59 : ω_40.2 (m + 7) = some (.inl (G.2.1 0, 6, .inl (needM g j (1 <<< (sp &&& 31)) (clrJ nd 6) n))) := (fr_43 (m + 7) (by omega)).trans f_58
            have f_60 : ω_51.2 (m + 7) = some (.inl (G.2.1 0, 6, .inl (needM g j (1 <<< (sp &&& 31)) (clrJ nd 6) n))) := (fr_54 (m + 7) (by omega)).trans f_59
            have fr_61 : ∀ q : Nat, ¬ q = m → ¬ q = (m + 1) → ¬ q = (m + 7) → ω_51.2 q = ω.2 q := by
              intro q h0 h1 h2
              rw [fr_54 q (by omega)]
              rw [fr_43 q (by omega)]
              rw [fr_37 q (by omega)]
              rw [fr_29 q (by omega)]
              rw [fr_17 q (by omega)]
            have z_62 : ω_51.1 = ω.1 := by rw [z_53, z_44, z_38, z_28, z_16]
            have hr_63 : finishesM s g nd (nI j) sp = (((bitsJ ((upd (upd (getsM g (needM g j (1 <<< (sp &&& 31)) (clrJ nd 6) n) (-1) 6) (50 + j) (((getsM g (needM g j (1 <<< (sp &&& 31)) (clrJ nd 6) n) (-1) 6) (50 + j)) &&& ((1 <<< (sp &&& 31)) ^^^ (-1)))) 4 (((upd (getsM g (needM g j (1 <<< (sp &&& 31)) (clrJ nd 6) n) (-1) 6) (50 + j) (((getsM g (needM g j (1 <<< (sp &&& 31)) (clrJ nd 6) n) (-1) 6) (50 + j)) &&& ((1 <<< (sp &&& 31)) ^^^ (-1)))) 4) + 1)) (50 + j)) 8), (upd s 14 0), (upd (upd (getsM g (needM g j (1 <<< (sp &&& 31)) (clrJ nd 6) n) (-1) 6) (50 + j) (((getsM g (needM g j (1 <<< (sp &&& 31)) (clrJ nd 6) n) (-1) 6) (50 + j)) &&& ((1 <<< (sp &&& 31)) ^^^ (-1)))) 4 (((upd (getsM g (needM g j (1 <<< (sp &&& 31)) (clrJ nd 6) n) (-1) 6) (50 + j) (((getsM g (needM g j (1 <<< (sp &&& 31)) (clrJ nd 6) n) (-1) 6) (50 + j)) &&& ((1 <<< (sp &&& 31)) ^^^ (-1)))) 4) + 1)), (needM g j (1 <<< (sp &&& 31)) (clrJ nd 6) n)) : Int32 × (Nat → Int32) × (Nat → Int32) × (Nat → Int32)) := by
              simp only [finishesM, hcc, hdd, hcj, hnn, hfn]
              rw [if_pos c_4, if_neg c_6, if_pos c_10, if_neg c_12, if_pos c_24]
            refine fw_iret hx hb hr hlocks hR hS dX11_finishes_165 ?_
            rw [hr_63]
            exact ⟨rfl, z_62, f_55, f_56, f_60, fr_61⟩
          · skip
            refine lv_aload_n hx hb dX11_finishes_106 rfl (lv_at hl 1 rfl) ?_
            refine lv_bipush (v := 10) hx hb dX11_finishes_107 (by decide) ?_
            refine lv_aload_n hx hb dX11_finishes_109 rfl (lv_at hl 1 rfl) ?_
            refine fw_call (va_runV (As := []) (rest := [.int 10, .ref m]) ⟨hx, hb, hml, hown, hts⟩ (c_X11_lacking G hL l ω_14 m s g f_19 f_20 (needM g j (1 <<< (sp &&& 31)) (clrJ nd 6) n) f_18 ) (cwV 0 hts gX11_finishes_X11_lacking rfl rfl rfl (by decide +kernel) ⟨Nat.le_of_ble_eq_true rfl, Nat.le_of_ble_eq_true rfl⟩) (fw_preV hW hK hR f_19 rfl) rfl rfl hl.1 rfl (lv_room (Nat.le_of_ble_eq_true rfl)) dX11_finishes_110 ⟨Nat.le_of_ble_eq_true rfl, Nat.le_of_ble_eq_true rfl⟩) hS (fun v_64 ω_65 H locs hq_66 hR hS => ?_)
            obtain ⟨rfl, hq_66⟩ := hq_66
            rw [hq_66] at hR
            refine W.eq (g2 := F0 mI 113 ls [.int (lackJ (fun i => g (6 + i)) (needM g j (1 <<< (sp &&& 31)) (clrJ nd 6) n) 0 6), .int 10, .ref m]) rfl ?_
            refine fw_call (va_runV (As := [.int 10, .int (lackJ (fun i => g (6 + i)) (needM g j (1 <<< (sp &&& 31)) (clrJ nd 6) n) 0 6)]) (rest := []) ⟨hx, hb, hml, hown, hts⟩ (c_X11_refused G hL l ω_14 m s g f_19 f_20 10 (lackJ (fun i => g (6 + i)) (needM g j (1 <<< (sp &&& 31)) (clrJ nd 6) n) 0 6)) (cwV 2 hts gX11_finishes_X11_refused rfl rfl rfl (by decide +kernel) ⟨Nat.le_of_ble_eq_true rfl, Nat.le_of_ble_eq_true rfl⟩) (fw_preV hW hK hR f_19 rfl) rfl rfl hl.1 rfl (lv_room (Nat.le_of_ble_eq_true rfl)) dX11_finishes_113 ⟨Nat.le_of_ble_eq_true rfl, Nat.le_of_ble_eq_true rfl⟩) hS (fun v_67 ω_68 H locs hq_69 hR hS => ?_)
            obtain ⟨rfl, z_70, f_72, fr_71⟩ := hq_69
            refine W.eq (g2 := F0 mI 116 ls [.int 0]) rfl ?_
            have f_73 : ω_68.2 (m + 1) = some (.inl (G.2.1 0, 324, .inl g)) := (fr_71 (m + 1) (by omega)).trans f_20
            have f_74 : ω_68.2 (m + 7) = some (.inl (G.2.1 0, 6, .inl (needM g j (1 <<< (sp &&& 31)) (clrJ nd 6) n))) := (fr_71 (m + 7) (by omega)).trans f_18
            have fr_75 : ∀ q : Nat, ¬ q = m → ¬ q = (m + 1) → ¬ q = (m + 7) → ω_68.2 q = ω.2 q := by
              intro q h0 h1 h2
              rw [fr_71 q (by omega)]
              rw [fr_17 q (by omega)]
            have z_76 : ω_68.1 = ω.1 := by rw [z_70, z_16]
            have hr_77 : finishesM s g nd (nI j) sp = ((0, (upd (upd (upd (upd s 9 10) 10 (lackJ (fun i => g (6 + i)) (needM g j (1 <<< (sp &&& 31)) (clrJ nd 6) n) 0 6)) 11 0) 14 1), g, (needM g j (1 <<< (sp &&& 31)) (clrJ nd 6) n)) : Int32 × (Nat → Int32) × (Nat → Int32) × (Nat → Int32)) := by
              simp only [finishesM, hcc, hdd, hcj, hnn, hfn]
              rw [if_pos c_4, if_neg c_6, if_pos c_10, if_neg c_12, if_neg c_24]
            refine fw_iret hx hb hr hlocks hR hS dX11_finishes_116 ?_
            rw [hr_77]
            exact ⟨rfl, z_76, f_72, f_73, f_74, fr_75⟩
        · skip
          refine lv_aload_n hx hb dX11_finishes_81 rfl (lv_at hl 0 rfl) ?_
          refine lv_bipush (v := 9) hx hb dX11_finishes_82 (by decide) ?_
          refine lv_iload_n hx hb dX11_finishes_84 rfl (lv_at hl 2 rfl) ?_
          refine fw_call (va_runV (As := [.int 9, .int sp]) (rest := []) ⟨hx, hb, hml, hown, hts⟩ (c_X11_refused G hL l ω m s g m0 m1 9 sp) (cwV 2 hts gX11_finishes_X11_refused rfl rfl rfl (by decide +kernel) ⟨Nat.le_of_ble_eq_true rfl, Nat.le_of_ble_eq_true rfl⟩) (fw_preV hW hK hR m0 rfl) rfl rfl hl.1 rfl (lv_room (Nat.le_of_ble_eq_true rfl)) dX11_finishes_85 ⟨Nat.le_of_ble_eq_true rfl, Nat.le_of_ble_eq_true rfl⟩) hS (fun v_78 ω_79 H locs hq_80 hR hS => ?_)
          obtain ⟨rfl, z_81, f_83, fr_82⟩ := hq_80
          refine W.eq (g2 := F0 mI 88 ls [.int 0]) rfl ?_
          have f_84 : ω_79.2 (m + 1) = some (.inl (G.2.1 0, 324, .inl g)) := (fr_82 (m + 1) (by omega)).trans m1
          have f_85 : ω_79.2 (m + 7) = some (.inl (G.2.1 0, 6, .inl nd)) := (fr_82 (m + 7) (by omega)).trans m7
          have fr_86 : ∀ q : Nat, ¬ q = m → ¬ q = (m + 1) → ¬ q = (m + 7) → ω_79.2 q = ω.2 q := by
            intro q h0 h1 h2
            rw [fr_82 q (by omega)]
          have z_87 : ω_79.1 = ω.1 := by rw [z_81]
          have hr_88 : finishesM s g nd (nI j) sp = ((0, (upd (upd (upd (upd s 9 9) 10 sp) 11 0) 14 1), g, nd) : Int32 × (Nat → Int32) × (Nat → Int32) × (Nat → Int32)) := by
            simp only [finishesM, hcc, hdd, hcj, hnn, hfn]
            rw [if_pos c_4, if_neg c_6, if_pos c_10, if_pos c_12]
          refine fw_iret hx hb hr hlocks hR hS dX11_finishes_88 ?_
          rw [hr_88]
          exact ⟨rfl, z_87, f_83, f_84, f_85, fr_86⟩
      · skip
        have c_10 := bz_eq c_10
        refine lv_aload_n hx hb dX11_finishes_49 rfl (lv_at hl 0 rfl) ?_
        refine lv_bipush (v := 8) hx hb dX11_finishes_50 (by decide) ?_
        refine lv_aload_n hx hb dX11_finishes_52 rfl (lv_at hl 0 rfl) ?_
        refine fw_get (v := .ref (m + 1)) (C := RX11) (T := TX11) (N := 19) hx hb hts hin11 hown hK hR m0 rfl 0 (by decide) (hts (.fieldLink RX11 7 "UnreadLeafletsModel" "g" "[I") (by decide +kernel)) rfl dX11_finishes_53 ?_
        refine lv_bipush (v := 18) hx hb dX11_finishes_56 (by decide) ?_
        refine lv_iload_n hx hb dX11_finishes_58 rfl (lv_at hl 1 rfl) ?_
        refine lv_iadd hx hb dX11_finishes_59 ?_
        have hi_89 : 18 + (nI j) = nI (18 + j) := by
          show (nI 18) + (nI j) = _
          simp only [pk_mul, nI_add, Nat.add_assoc, hc, hd, hn, hff]
        refine W.eq (g2 := F0 mI 60 ls [.int (nI (18 + j)), .ref (m + 1), .int 8, .ref m]) (by rw [hi_89]) ?_
        refine fw_iald hx hb hK hR m1 (vp_in_nI (by omega) (by omega)) dX11_finishes_60 ?_
        refine W.eq (g2 := F0 mI 61 ls [.int (g (18 + j)), .int 8, .ref m]) (by rw [nI_clamp (by omega)]) ?_
        refine fw_call (va_runV (As := [.int 8, .int (g (18 + j))]) (rest := []) ⟨hx, hb, hml, hown, hts⟩ (c_X11_refused G hL l ω m s g m0 m1 8 (g (18 + j))) (cwV 2 hts gX11_finishes_X11_refused rfl rfl rfl (by decide +kernel) ⟨Nat.le_of_ble_eq_true rfl, Nat.le_of_ble_eq_true rfl⟩) (fw_preV hW hK hR m0 rfl) rfl rfl hl.1 rfl (lv_room (Nat.le_of_ble_eq_true rfl)) dX11_finishes_61 ⟨Nat.le_of_ble_eq_true rfl, Nat.le_of_ble_eq_true rfl⟩) hS (fun v_90 ω_91 H locs hq_92 hR hS => ?_)
        obtain ⟨rfl, z_93, f_95, fr_94⟩ := hq_92
        refine W.eq (g2 := F0 mI 64 ls [.int 0]) rfl ?_
        have f_96 : ω_91.2 (m + 1) = some (.inl (G.2.1 0, 324, .inl g)) := (fr_94 (m + 1) (by omega)).trans m1
        have f_97 : ω_91.2 (m + 7) = some (.inl (G.2.1 0, 6, .inl nd)) := (fr_94 (m + 7) (by omega)).trans m7
        have fr_98 : ∀ q : Nat, ¬ q = m → ¬ q = (m + 1) → ¬ q = (m + 7) → ω_91.2 q = ω.2 q := by
          intro q h0 h1 h2
          rw [fr_94 q (by omega)]
        have z_99 : ω_91.1 = ω.1 := by rw [z_93]
        have hr_100 : finishesM s g nd (nI j) sp = ((0, (upd (upd (upd (upd s 9 8) 10 (g (18 + j))) 11 0) 14 1), g, nd) : Int32 × (Nat → Int32) × (Nat → Int32) × (Nat → Int32)) := by
          simp only [finishesM, hcc, hdd, hcj, hnn, hfn]
          rw [if_pos c_4, if_neg c_6, if_neg c_10]
        refine fw_iret hx hb hr hlocks hR hS dX11_finishes_64 ?_
        rw [hr_100]
        exact ⟨rfl, z_99, f_95, f_96, f_97, fr_98⟩
    · skip
      refine lv_aload_n hx hb dX11_finishes_32 rfl (lv_at hl 0 rfl) ?_
      refine lv_bipush (v := 7) hx hb dX11_finishes_33 (by decide) ?_
      refine lv_iconst (v := 0) hx hb dX11_finishes_35 (by decide) ?_
      refine fw_call (va_runV (As := [.int 7, .int 0]) (rest := []) ⟨hx, hb, hml, hown, hts⟩ (c_X11_refused G hL l ω m s g m0 m1 7 0) (cwV 2 hts gX11_finishes_X11_refused rfl rfl rfl (by decide +kernel) ⟨Nat.le_of_ble_eq_true rfl, Nat.le_of_ble_eq_true rfl⟩) (fw_preV hW hK hR m0 rfl) rfl rfl hl.1 rfl (lv_room (Nat.le_of_ble_eq_true rfl)) dX11_finishes_36 ⟨Nat.le_of_ble_eq_true rfl, Nat.le_of_ble_eq_true rfl⟩) hS (fun v_101 ω_102 H locs hq_103 hR hS => ?_)
      obtain ⟨rfl, z_104, f_106, fr_105⟩ := hq_103
      refine W.eq (g2 := F0 mI 39 ls [.int 0]) rfl ?_
      have f_107 : ω_102.2 (m + 1) = some (.inl (G.2.1 0, 324, .inl g)) := (fr_105 (m + 1) (by omega)).trans m1
      have f_108 : ω_102.2 (m + 7) = some (.inl (G.2.1 0, 6, .inl nd)) := (fr_105 (m + 7) (by omega)).trans m7
      have fr_109 : ∀ q : Nat, ¬ q = m → ¬ q = (m + 1) → ¬ q = (m + 7) → ω_102.2 q = ω.2 q := by
        intro q h0 h1 h2
        rw [fr_105 q (by omega)]
      have z_110 : ω_102.1 = ω.1 := by rw [z_104]
      have hr_111 : finishesM s g nd (nI j) sp = ((0, (upd (upd (upd (upd s 9 7) 10 0) 11 0) 14 1), g, nd) : Int32 × (Nat → Int32) × (Nat → Int32) × (Nat → Int32)) := by
        simp only [finishesM, hcc, hdd, hcj, hnn, hfn]
        rw [if_pos c_4, if_pos c_6]
      refine fw_iret hx hb hr hlocks hR hS dX11_finishes_39 ?_
      rw [hr_111]
      exact ⟨rfl, z_110, f_106, f_107, f_108, fr_109⟩
  · skip
    have c_4 := bz_eq c_4
    refine lv_aload_n hx hb dX11_finishes_8 rfl (lv_at hl 0 rfl) ?_
    refine lv_iconst (v := 3) hx hb dX11_finishes_9 (by decide) ?_
    refine lv_aload_n hx hb dX11_finishes_10 rfl (lv_at hl 0 rfl) ?_
    refine fw_get (v := .ref (m + 1)) (C := RX11) (T := TX11) (N := 19) hx hb hts hin11 hown hK hR m0 rfl 0 (by decide) (hts (.fieldLink RX11 7 "UnreadLeafletsModel" "g" "[I") (by decide +kernel)) rfl dX11_finishes_11 ?_
    refine lv_iconst (v := 0) hx hb dX11_finishes_14 (by decide) ?_
    refine fw_iald hx hb hK hR m1 (vp_in_nI (n := 0) (by omega) (by omega)) dX11_finishes_15 ?_
    refine W.eq (g2 := F0 mI 16 ls [.int (g 0), .int 3, .ref m]) (by rw [show (0 : Int32).toNatClampNeg = 0 from rfl]) ?_
    refine fw_call (va_runV (As := [.int 3, .int (g 0)]) (rest := []) ⟨hx, hb, hml, hown, hts⟩ (c_X11_refused G hL l ω m s g m0 m1 3 (g 0)) (cwV 2 hts gX11_finishes_X11_refused rfl rfl rfl (by decide +kernel) ⟨Nat.le_of_ble_eq_true rfl, Nat.le_of_ble_eq_true rfl⟩) (fw_preV hW hK hR m0 rfl) rfl rfl hl.1 rfl (lv_room (Nat.le_of_ble_eq_true rfl)) dX11_finishes_16 ⟨Nat.le_of_ble_eq_true rfl, Nat.le_of_ble_eq_true rfl⟩) hS (fun v_112 ω_113 H locs hq_114 hR hS => ?_)
    obtain ⟨rfl, z_115, f_117, fr_116⟩ := hq_114
    refine W.eq (g2 := F0 mI 19 ls [.int 0]) rfl ?_
    have f_118 : ω_113.2 (m + 1) = some (.inl (G.2.1 0, 324, .inl g)) := (fr_116 (m + 1) (by omega)).trans m1
    have f_119 : ω_113.2 (m + 7) = some (.inl (G.2.1 0, 6, .inl nd)) := (fr_116 (m + 7) (by omega)).trans m7
    have fr_120 : ∀ q : Nat, ¬ q = m → ¬ q = (m + 1) → ¬ q = (m + 7) → ω_113.2 q = ω.2 q := by
      intro q h0 h1 h2
      rw [fr_116 q (by omega)]
    have z_121 : ω_113.1 = ω.1 := by rw [z_115]
    have hr_122 : finishesM s g nd lf sp = ((0, (upd (upd (upd (upd s 9 3) 10 (g 0)) 11 0) 14 1), g, nd) : Int32 × (Nat → Int32) × (Nat → Int32) × (Nat → Int32)) := by
      simp only [finishesM, hcc, hdd]
      rw [if_neg c_4]
    refine fw_iret hx hb hr hlocks hR hS dX11_finishes_19 ?_
    rw [hr_122]
    exact ⟨rfl, z_121, f_117, f_118, f_119, fr_120⟩
def apartM (s g nd : Nat → Int32) (lf : Int32) : Int32 × (Nat → Int32) × (Nat → Int32) × (Nat → Int32) := if inB lf 0 (g 0 - 1) then (if (g (42 + (cN lf))) = 0 then ((0, (upd (upd (upd (upd s 9 7) 10 0) 11 0) 14 1), g, nd)) else (if (lackJ (fun i => g (6 + i)) (needM g (cN lf) (g (50 + (cN lf))) (clrJ nd 6) (cN (g (18 + (cN lf))))) 0 6) = (-1) then (((sumM g (cN lf) (g (50 + (cN lf))) (cN (g (18 + (cN lf))))), (upd s 14 0), (upd (upd (upd (getsM g (needM g (cN lf) (g (50 + (cN lf))) (clrJ nd 6) (cN (g (18 + (cN lf))))) (-1) 6) (42 + (cN lf)) 0) (50 + (cN lf)) 0) 5 (((upd (upd (getsM g (needM g (cN lf) (g (50 + (cN lf))) (clrJ nd 6) (cN (g (18 + (cN lf))))) (-1) 6) (42 + (cN lf)) 0) (50 + (cN lf)) 0) 5) + 1)), (needM g (cN lf) (g (50 + (cN lf))) (clrJ nd 6) (cN (g (18 + (cN lf))))))) else ((0, (upd (upd (upd (upd s 9 10) 10 (lackJ (fun i => g (6 + i)) (needM g (cN lf) (g (50 + (cN lf))) (clrJ nd 6) (cN (g (18 + (cN lf))))) 0 6)) 11 0) 14 1), g, (needM g (cN lf) (g (50 + (cN lf))) (clrJ nd 6) (cN (g (18 + (cN lf))))))))) else ((0, (upd (upd (upd (upd s 9 3) 10 (g 0)) 11 0) 14 1), g, nd))
set_option maxHeartbeats 4000000 in
set_option maxRecDepth 100000 in
theorem c_X11_takesApart (G : FG) (hL : FL G) (l : Launch) (ω : FWd) (m : Nat) (s g : Nat → Int32) (m0 : ω.2 m = some (.inr (13, [.ref (m + 1), .ref (m + 2), .ref (m + 3), .int (s 3), .ref (m + 4), .int (s 5), .ref (m + 5), .int (s 7), .int (s 8), .int (s 9), .int (s 10), .int (s 11), .ref (m + 6), .int (s 13), .int (s 14), .ref (m + 7), .int (s 16), .int (s 17), .ref (m + 8)]))) (m1 : ω.2 (m + 1) = some (.inl (G.2.1 0, 324, .inl g))) (nd : Nat → Int32) (m7 : ω.2 (m + 7) = some (.inl (G.2.1 0, 6, .inl nd))) (hM : WFM g) (lf : Int32) : FMet G l yX11_takesApart wsX11_takesApart ({ frames := 2, cells := 0, slots := 0, locals := 48 } : Room) [.ref m, .int lf] ω (fun vv9 τ9 => vv9 = some (.int ((apartM s g nd lf).1)) ∧ τ9.1 = ω.1 ∧ τ9.2 m = some (.inr (13, [.ref (m + 1), .ref (m + 2), .ref (m + 3), .int (((apartM s g nd lf).2.1) 3), .ref (m + 4), .int (((apartM s g nd lf).2.1) 5), .ref (m + 5), .int (((apartM s g nd lf).2.1) 7), .int (((apartM s g nd lf).2.1) 8), .int (((apartM s g nd lf).2.1) 9), .int (((apartM s g nd lf).2.1) 10), .int (((apartM s g nd lf).2.1) 11), .ref (m + 6), .int (((apartM s g nd lf).2.1) 13), .int (((apartM s g nd lf).2.1) 14), .ref (m + 7), .int (((apartM s g nd lf).2.1) 16), .int (((apartM s g nd lf).2.1) 17), .ref (m + 8)])) ∧ τ9.2 (m + 1) = some (.inl (G.2.1 0, 324, .inl ((apartM s g nd lf).2.2.1))) ∧ τ9.2 (m + 7) = some (.inl (G.2.1 0, 6, .inl ((apartM s g nd lf).2.2.2))) ∧ ∀ q : Nat, ¬ q = m → ¬ q = (m + 1) → ¬ q = (m + 7) → τ9.2 q = ω.2 q) 0 0 := by
  refine fw_ofW (cc := cX11_takesApart) (maxL := 3) (ret := (some .int)) (by decide) rfl (Nat.le_of_ble_eq_true rfl) ?_
  intro pP eE sS mI ar9 bl9 meth cD ls hx hb hr hlocks hml hts hown hnm hW hR hl
  have hK := hL.K hW
  have hS : va_S (fwA G) sS.heap sS.heap [] := va_S.rf
  have hin11 : ∀ w ∈ u_ws RX11 TX11 19, w ∈ wsX11_takesApart := by decide +kernel
  have hl : lv_has ls 3 [(0, .ref m), (1, .int lf)] := hl
  obtain ⟨c, hc8, hc, hcc⟩ := okN_of hM.1
  obtain ⟨cc, hd5, hd, hdd⟩ := okN_of hM.2.1
  refine lv_aload_n hx hb dX11_takesApart_0 rfl (lv_at hl 0 rfl) ?_
  refine lv_iload_n hx hb dX11_takesApart_1 rfl (lv_at hl 1 rfl) ?_
  refine fw_call (va_runV (As := [.int lf]) (rest := []) ⟨hx, hb, hml, hown, hts⟩ (c_X11_isLeaflet G hL l ω m s g m0 m1 lf) (cwV 1 hts gX11_takesApart_X11_isLeaflet rfl rfl rfl (by decide +kernel) ⟨Nat.le_of_ble_eq_true rfl, Nat.le_of_ble_eq_true rfl⟩) (fw_preV hW hK hR m0 rfl) rfl rfl hl.1 rfl (lv_room (Nat.le_of_ble_eq_true rfl)) dX11_takesApart_2 ⟨Nat.le_of_ble_eq_true rfl, Nat.le_of_ble_eq_true rfl⟩) hS (fun v_1 ω_2 H locs hq_3 hR hS => ?_)
  obtain ⟨rfl, hq_3⟩ := hq_3
  rw [hq_3] at hR
  refine W.eq (g2 := F0 mI 5 ls [.int (bz (inB lf 0 (g 0 - 1)))]) rfl ?_
  refine lv_if_ne (tgt := 20) hx hb dX11_takesApart_5 (by decide) (fun c_4 => ?_) (fun c_4 => ?_)
  · skip
    have c_4 := bz_ne c_4
    obtain ⟨j, hj2, rfl⟩ := in_c hc hc8 c_4
    have hcj : cN (nI j) = j := cN_nI (by omega)
    obtain ⟨n, hn8, hn, hnn⟩ := okN_of (hM.2.2 j (by rw [hcc]; exact hj2)).1
    obtain ⟨f, hf3, hff, hfn⟩ := okN_of (hM.2.2 j (by rw [hcc]; exact hj2)).2.1
    have hkd : ∀ q, q < n → g (68 + 8 * j + q) = nI (cN (g (68 + 8 * j + q))) ∧ cN (g (68 + 8 * j + q)) < 6 := fun q hq => by have h9 := (hM.2.2 j (by rw [hcc]; exact hj2)).2.2 q (by rw [hnn]; exact hq); exact ⟨h9.1, Nat.lt_succ_of_le h9.2⟩
    refine lv_aload_n hx hb dX11_takesApart_20 rfl (lv_at hl 0 rfl) ?_
    refine fw_get (v := .ref (m + 1)) (C := RX11) (T := TX11) (N := 19) hx hb hts hin11 hown hK hR m0 rfl 0 (by decide) (hts (.fieldLink RX11 7 "UnreadLeafletsModel" "g" "[I") (by decide +kernel)) rfl dX11_takesApart_21 ?_
    refine lv_bipush (v := 42) hx hb dX11_takesApart_24 (by decide) ?_
    refine lv_iload_n hx hb dX11_takesApart_26 rfl (lv_at hl 1 rfl) ?_
    refine lv_iadd hx hb dX11_takesApart_27 ?_
    have hi_5 : 42 + (nI j) = nI (42 + j) := by
      show (nI 42) + (nI j) = _
      simp only [pk_mul, nI_add, Nat.add_assoc, hc, hd, hn, hff]
    refine W.eq (g2 := F0 mI 28 ls [.int (nI (42 + j)), .ref (m + 1)]) (by rw [hi_5]) ?_
    refine fw_iald hx hb hK hR m1 (vp_in_nI (by omega) (by omega)) dX11_takesApart_28 ?_
    refine W.eq (g2 := F0 mI 29 ls [.int (g (42 + j))]) (by rw [nI_clamp (by omega)]) ?_
    refine lv_if_ne (tgt := 40) hx hb dX11_takesApart_29 (by decide) (fun c_6 => ?_) (fun c_6 => ?_)
    · skip
      refine lv_aload_n hx hb dX11_takesApart_40 rfl (lv_at hl 0 rfl) ?_
      refine lv_iload_n hx hb dX11_takesApart_41 rfl (lv_at hl 1 rfl) ?_
      refine lv_aload_n hx hb dX11_takesApart_42 rfl (lv_at hl 0 rfl) ?_
      refine fw_get (v := .ref (m + 1)) (C := RX11) (T := TX11) (N := 19) hx hb hts hin11 hown hK hR m0 rfl 0 (by decide) (hts (.fieldLink RX11 7 "UnreadLeafletsModel" "g" "[I") (by decide +kernel)) rfl dX11_takesApart_43 ?_
      refine lv_bipush (v := 50) hx hb dX11_takesApart_46 (by decide) ?_
      refine lv_iload_n hx hb dX11_takesApart_48 rfl (lv_at hl 1 rfl) ?_
      refine lv_iadd hx hb dX11_takesApart_49 ?_
      have hi_7 : 50 + (nI j) = nI (50 + j) := by
        show (nI 50) + (nI j) = _
        simp only [pk_mul, nI_add, Nat.add_assoc, hc, hd, hn, hff]
      refine W.eq (g2 := F0 mI 50 ls [.int (nI (50 + j)), .ref (m + 1), .int (nI j), .ref m]) (by rw [hi_7]) ?_
      refine fw_iald hx hb hK hR m1 (vp_in_nI (by omega) (by omega)) dX11_takesApart_50 ?_
      refine W.eq (g2 := F0 mI 51 ls [.int (g (50 + j)), .int (nI j), .ref m]) (by rw [nI_clamp (by omega)]) ?_
      refine fw_call (va_runV (As := [.int (nI j), .int (g (50 + j))]) (rest := []) ⟨hx, hb, hml, hown, hts⟩ (c_X11_needsFor G hL l ω m s g m0 m1 nd m7 j (by omega) (g (50 + j)) n hn hn8 hkd) (cwV 2 hts gX11_takesApart_X11_needsFor rfl rfl rfl (by decide +kernel) ⟨Nat.le_of_ble_eq_true rfl, Nat.le_of_ble_eq_true rfl⟩) (fw_preV hW hK hR m0 rfl) rfl rfl hl.1 rfl (lv_room (Nat.le_of_ble_eq_true rfl)) dX11_takesApart_51 ⟨Nat.le_of_ble_eq_true rfl, Nat.le_of_ble_eq_true rfl⟩) hS (fun v_8 ω_9 H locs hq_10 hR hS => ?_)
      obtain ⟨rfl, z_11, f_13, fr_12⟩ := hq_10
      refine W.eq (g2 := F0 mI 54 ls [.int (sumM g j (g (50 + j)) n)]) rfl ?_
      refine lv_istore_n (lv' := [(2, .int (sumM g j (g (50 + j)) n)), (0, .ref m), (1, .int (nI j))]) hx hb dX11_takesApart_54 rfl hl (by decide) rfl (fun ls hl => ?_)
      refine lv_aload_n hx hb dX11_takesApart_55 rfl (lv_at hl 1 rfl) ?_
      have f_14 : ω_9.2 m = some (.inr (13, [.ref (m + 1), .ref (m + 2), .ref (m + 3), .int (s 3), .ref (m + 4), .int (s 5), .ref (m + 5), .int (s 7), .int (s 8), .int (s 9), .int (s 10), .int (s 11), .ref (m + 6), .int (s 13), .int (s 14), .ref (m + 7), .int (s 16), .int (s 17), .ref (m + 8)])) := (fr_12 m (by omega)).trans m0
      have f_15 : ω_9.2 (m + 1) = some (.inl (G.2.1 0, 324, .inl g)) := (fr_12 (m + 1) (by omega)).trans m1
      refine fw_call (va_runV (As := []) (rest := []) ⟨hx, hb, hml, hown, hts⟩ (c_X11_lacking G hL l ω_9 m s g f_14 f_15 (needM g j (g (50 + j)) (clrJ nd 6) n) f_13 ) (cwV 0 hts gX11_takesApart_X11_lacking rfl rfl rfl (by decide +kernel) ⟨Nat.le_of_ble_eq_true rfl, Nat.le_of_ble_eq_true rfl⟩) (fw_preV hW hK hR f_14 rfl) rfl rfl hl.1 rfl (lv_room (Nat.le_of_ble_eq_true rfl)) dX11_takesApart_56 ⟨Nat.le_of_ble_eq_true rfl, Nat.le_of_ble_eq_true rfl⟩) hS (fun v_16 ω_17 H locs hq_18 hR hS => ?_)
      obtain ⟨rfl, hq_18⟩ := hq_18
      rw [hq_18] at hR
      refine W.eq (g2 := F0 mI 59 ls [.int (lackJ (fun i => g (6 + i)) (needM g j (g (50 + j)) (clrJ nd 6) n) 0 6)]) rfl ?_
      refine lv_iconst (v := (-1)) hx hb dX11_takesApart_59 (by decide) ?_
      refine lv_icmp_eq (tgt := 74) hx hb dX11_takesApart_60 (by decide) (fun c_19 => ?_) (fun c_19 => ?_)
      · skip
        refine lv_aload_n hx hb dX11_takesApart_74 rfl (lv_at hl 1 rfl) ?_
        refine lv_iconst (v := (-1)) hx hb dX11_takesApart_75 (by decide) ?_
        refine fw_call (va_runV (As := [.int (-1)]) (rest := []) ⟨hx, hb, hml, hown, hts⟩ (c_X11_tinGets G hL l ω_9 m s g f_14 f_15 (needM g j (g (50 + j)) (clrJ nd 6) n) f_13 (-1)) (cwV 1 hts gX11_takesApart_X11_tinGets rfl rfl rfl (by decide +kernel) ⟨Nat.le_of_ble_eq_true rfl, Nat.le_of_ble_eq_true rfl⟩) (fw_preV hW hK hR f_14 rfl) rfl rfl hl.1 rfl (lv_room (Nat.le_of_ble_eq_true rfl)) dX11_takesApart_76 ⟨Nat.le_of_ble_eq_true rfl, Nat.le_of_ble_eq_true rfl⟩) hS (fun v_20 ω_21 H locs hq_22 hR hS => ?_)
        obtain ⟨rfl, z_23, f_25, fr_24⟩ := hq_22
        refine W.eq (g2 := F0 mI 79 ls []) rfl ?_
        refine lv_aload_n hx hb dX11_takesApart_79 rfl (lv_at hl 1 rfl) ?_
        have f_26 : ω_21.2 m = some (.inr (13, [.ref (m + 1), .ref (m + 2), .ref (m + 3), .int (s 3), .ref (m + 4), .int (s 5), .ref (m + 5), .int (s 7), .int (s 8), .int (s 9), .int (s 10), .int (s 11), .ref (m + 6), .int (s 13), .int (s 14), .ref (m + 7), .int (s 16), .int (s 17), .ref (m + 8)])) := (fr_24 m (by omega)).trans f_14
        refine fw_get (v := .ref (m + 1)) (C := RX11) (T := TX11) (N := 19) hx hb hts hin11 hown hK hR f_26 rfl 0 (by decide) (hts (.fieldLink RX11 7 "UnreadLeafletsModel" "g" "[I") (by decide +kernel)) rfl dX11_takesApart_80 ?_
        refine lv_bipush (v := 42) hx hb dX11_takesApart_83 (by decide) ?_
        refine lv_iload_n hx hb dX11_takesApart_85 rfl (lv_at hl 2 rfl) ?_
        refine lv_iadd hx hb dX11_takesApart_86 ?_
        refine lv_iconst (v := 0) hx hb dX11_takesApart_87 (by decide) ?_
        have hi_27 : 42 + (nI j) = nI (42 + j) := by
          show (nI 42) + (nI j) = _
          simp only [pk_mul, nI_add, Nat.add_assoc, hc, hd, hn, hff]
        refine W.eq (g2 := F0 mI 88 ls [.int 0, .int (nI (42 + j)), .ref (m + 1)]) (by rw [hi_27]) ?_
        refine fw_iast hx hb hK hR hS f_25 (vp_in_nI (by omega) (by omega)) dX11_takesApart_88 (fun H locs hR hS => ?_)
        rw [show (nI (42 + j)).toNatClampNeg = 42 + j from nI_clamp (by omega)] at hR
        obtain ⟨ω_28, hw_29⟩ : ∃ τ : FWd, τ = (ω_21.1, va_up ω_21.2 (m + 1) (some (.inl (G.2.1 0, 324, .inl (upd (getsM g (needM g j (g (50 + j)) (clrJ nd 6) n) (-1) 6) (42 + j) 0))))) := ⟨_, rfl⟩
        have hR : fR G ω_28 H := by rw [hw_29]; exact hR
        have f_30 : ω_28.2 (m + 1) = some (.inl (G.2.1 0, 324, .inl (upd (getsM g (needM g j (g (50 + j)) (clrJ nd 6) n) (-1) 6) (42 + j) 0))) := by rw [hw_29]; exact va_up_at
        have fr_31 : ∀ q : Nat, ¬ q = (m + 1) → ω_28.2 q = ω_21.2 q := fun q hq => by rw [hw_29]; exact va_up_off hq
        have z_32 : ω_28.1 = ω_21.1 := by rw [hw_29]
        refine lv_aload_n hx hb dX11_takesApart_89 rfl (lv_at hl 1 rfl) ?_
        have f_33 : ω_28.2 m = some (.inr (13, [.ref (m + 1), .ref (m + 2), .ref (m + 3), .int (s 3), .ref (m + 4), .int (s 5), .ref (m + 5), .int (s 7), .int (s 8), .int (s 9), .int (s 10), .int (s 11), .ref (m + 6), .int (s 13), .int (s 14), .ref (m + 7), .int (s 16), .int (s 17), .ref (m + 8)])) := (fr_31 m (by omega)).trans f_26
        refine fw_get (v := .ref (m + 1)) (C := RX11) (T := TX11) (N := 19) hx hb hts hin11 hown hK hR f_33 rfl 0 (by decide) (hts (.fieldLink RX11 7 "UnreadLeafletsModel" "g" "[I") (by decide +kernel)) rfl dX11_takesApart_90 ?_
        refine lv_bipush (v := 50) hx hb dX11_takesApart_93 (by decide) ?_
        refine lv_iload_n hx hb dX11_takesApart_95 rfl (lv_at hl 2 rfl) ?_
        refine lv_iadd hx hb dX11_takesApart_96 ?_
        refine lv_iconst (v := 0) hx hb dX11_takesApart_97 (by decide) ?_
        have hi_34 : 50 + (nI j) = nI (50 + j) := by
          show (nI 50) + (nI j) = _
          simp only [pk_mul, nI_add, Nat.add_assoc, hc, hd, hn, hff]
        refine W.eq (g2 := F0 mI 98 ls [.int 0, .int (nI (50 + j)), .ref (m + 1)]) (by rw [hi_34]) ?_
        refine fw_iast hx hb hK hR hS f_30 (vp_in_nI (by omega) (by omega)) dX11_takesApart_98 (fun H locs hR hS => ?_)
        rw [show (nI (50 + j)).toNatClampNeg = 50 + j from nI_clamp (by omega)] at hR
        obtain ⟨ω_35, hw_36⟩ : ∃ τ : FWd, τ = (ω_28.1, va_up ω_28.2 (m + 1) (some (.inl (G.2.1 0, 324, .inl (upd (upd (getsM g (needM g j (g (50 + j)) (clrJ nd 6) n) (-1) 6) (42 + j) 0) (50 + j) 0))))) := ⟨_, rfl⟩
        have hR : fR G ω_35 H := by rw [hw_36]; exact hR
        have f_37 : ω_35.2 (m + 1) = some (.inl (G.2.1 0, 324, .inl (upd (upd (getsM g (needM g j (g (50 + j)) (clrJ nd 6) n) (-1) 6) (42 + j) 0) (50 + j) 0))) := by rw [hw_36]; exact va_up_at
        have fr_38 : ∀ q : Nat, ¬ q = (m + 1) → ω_35.2 q = ω_28.2 q := fun q hq => by rw [hw_36]; exact va_up_off hq
        have z_39 : ω_35.1 = ω_28.1 := by rw [hw_36]
        refine lv_aload_n hx hb dX11_takesApart_99 rfl (lv_at hl 1 rfl) ?_
        have f_40 : ω_35.2 m = some (.inr (13, [.ref (m + 1), .ref (m + 2), .ref (m + 3), .int (s 3), .ref (m + 4), .int (s 5), .ref (m + 5), .int (s 7), .int (s 8), .int (s 9), .int (s 10), .int (s 11), .ref (m + 6), .int (s 13), .int (s 14), .ref (m + 7), .int (s 16), .int (s 17), .ref (m + 8)])) := (fr_38 m (by omega)).trans f_33
        refine fw_get (v := .ref (m + 1)) (C := RX11) (T := TX11) (N := 19) hx hb hts hin11 hown hK hR f_40 rfl 0 (by decide) (hts (.fieldLink RX11 7 "UnreadLeafletsModel" "g" "[I") (by decide +kernel)) rfl dX11_takesApart_100 ?_
        refine lv_iconst (v := 5) hx hb dX11_takesApart_103 (by decide) ?_
        refine lv_dup2_11 hx hb dX11_takesApart_104 rfl rfl ?_
        refine fw_iald hx hb hK hR f_37 (vp_in_nI (n := 5) (by omega) (by omega)) dX11_takesApart_105 ?_
        refine W.eq (g2 := F0 mI 106 ls [.int ((upd (upd (getsM g (needM g j (g (50 + j)) (clrJ nd 6) n) (-1) 6) (42 + j) 0) (50 + j) 0) 5), .int 5, .ref (m + 1)]) (by rw [show (5 : Int32).toNatClampNeg = 5 from rfl]) ?_
        refine lv_iconst (v := 1) hx hb dX11_takesApart_106 (by decide) ?_
        refine lv_iadd hx hb dX11_takesApart_107 ?_
        refine fw_iast hx hb hK hR hS f_37 (vp_in_nI (n := 5) (by omega) (by omega)) dX11_takesApart_108 (fun H locs hR hS => ?_)
        rw [show (5 : Int32).toNatClampNeg = 5 from show (5 : Int32).toNatClampNeg = 5 from rfl] at hR
        obtain ⟨ω_41, hw_42⟩ : ∃ τ : FWd, τ = (ω_35.1, va_up ω_35.2 (m + 1) (some (.inl (G.2.1 0, 324, .inl (upd (upd (upd (getsM g (needM g j (g (50 + j)) (clrJ nd 6) n) (-1) 6) (42 + j) 0) (50 + j) 0) 5 (((upd (upd (getsM g (needM g j (g (50 + j)) (clrJ nd 6) n) (-1) 6) (42 + j) 0) (50 + j) 0) 5) + 1)))))) := ⟨_, rfl⟩
        have hR : fR G ω_41 H := by rw [hw_42]; exact hR
        have f_43 : ω_41.2 (m + 1) = some (.inl (G.2.1 0, 324, .inl (upd (upd (upd (getsM g (needM g j (g (50 + j)) (clrJ nd 6) n) (-1) 6) (42 + j) 0) (50 + j) 0) 5 (((upd (upd (getsM g (needM g j (g (50 + j)) (clrJ nd 6) n) (-1) 6) (42 + j) 0) (50 + j) 0) 5) + 1)))) := by rw [hw_42]; exact va_up_at
        have fr_44 : ∀ q : Nat, ¬ q = (m + 1) → ω_41.2 q = ω_35.2 q := fun q hq => by rw [hw_42]; exact va_up_off hq
        have z_45 : ω_41.1 = ω_35.1 := by rw [hw_42]
        refine lv_aload_n hx hb dX11_takesApart_109 rfl (lv_at hl 1 rfl) ?_
        refine lv_iload_n hx hb dX11_takesApart_110 rfl (lv_at hl 0 rfl) ?_
        have f_46 : ω_41.2 m = some (.inr (13, [.ref (m + 1), .ref (m + 2), .ref (m + 3), .int (s 3), .ref (m + 4), .int (s 5), .ref (m + 5), .int (s 7), .int (s 8), .int (s 9), .int (s 10), .int (s 11), .ref (m + 6), .int (s 13), .int (s 14), .ref (m + 7), .int (s 16), .int (s 17), .ref (m + 8)])) := (fr_44 m (by omega)).trans f_40
        refine fw_call (va_runV (As := [.int (sumM g j (g (50 + j)) n)]) (rest := []) ⟨hx, hb, hml, hown, hts⟩ (c_X11_done G hL l ω_41 m s (upd (upd (upd (getsM g (needM g j (g (50 + j)) (clrJ nd 6) n) (-1) 6) (42 + j) 0) (50 + j) 0) 5 (((upd (upd (getsM g (needM g j (g (50 + j)) (clrJ nd 6) n) (-1) 6) (42 + j) 0) (50 + j) 0) 5) + 1)) f_46 f_43 (sumM g j (g (50 + j)) n)) (cwV 1 hts gX11_takesApart_X11_done rfl rfl rfl (by decide +kernel) ⟨Nat.le_of_ble_eq_true rfl, Nat.le_of_ble_eq_true rfl⟩) (fw_preV hW hK hR f_46 rfl) rfl rfl hl.1 rfl (lv_room (Nat.le_of_ble_eq_true rfl)) dX11_takesApart_111 ⟨Nat.le_of_ble_eq_true rfl, Nat.le_of_ble_eq_true rfl⟩) hS (fun v_47 ω_48 H locs hq_49 hR hS => ?_)
        obtain ⟨rfl, z_50, f_52, fr_51⟩ := hq_49
        refine W.eq (g2 := F0 mI 114 ls [.int (sumM g j (g (50 + j)) n)]) rfl ?_
        have f_53 : ω_48.2 (m + 1) = some (.inl (G.2.1 0, 324, .inl (upd (upd (upd (getsM g (needM g j (g (50 + j)) (clrJ nd 6) n) (-1) 6) (42 + j) 0) (50 + j) 0) 5 (((upd (upd (getsM g (needM g j (g (50 + j)) (clrJ nd 6) n) (-1) 6) (42 + j) 0) (50 + j) 0) 5) + 1)))) := (fr_51 (m + 1) (by omega)).trans f_43
        have f_54 : ω_21.2 (m + 7) = some (.inl (G.2.1 0, 6, .inl (needM g j (g (50 + j)) (clrJ nd 6) n))) := (fr_24 (m + 7) (by omega)).trans f_13
        have f_55 : ω_28.2 (m + 7) = some (.inl (G.2.1 0, 6, .inl (needM g j (g (50 + j)) (clrJ nd 6) n))) := (fr_31 (m + 7) (by omega)).trans f_54
        have f_56 : ω_35.2 (m + 7) = some (.inl (G.2.1 0, 6, .inl (needM g j (g (50 + j)) (clrJ nd 6) n))) := (fr_38 (m + 7) (by omega)).trans f_55
        have f_57 : ω_41.2 (m + 7) = some (.inl (G.2.1 0, 6, .inl (needM g j (g (50 + j)) (clrJ nd 6) n))) := (fr_44 (m + 7) (by omega)).trans f_56
        have f_58 : ω_48.2 (m + 7) = some (.inl (G.2.1 0, 6, .inl (needM g j (g (50 + j)) (clrJ nd 6) n))) := (fr_51 (m + 7) (by omega)).trans f_57
        have fr_59 : ∀ q : Nat, ¬ q = m → ¬ q = (m + 1) → ¬ q = (m + 7) → ω_48.2 q = ω.2 q := by
          intro q h0 h1 h2
          rw [fr_51 q (by omega)]
          rw [fr_44 q (by omega)]
          rw [fr_38 q (by omega)]
          rw [fr_31 q (by omega)]
          rw [fr_24 q (by omega)]
          rw [fr_12 q (by omega)]
        have z_60 : ω_48.1 = ω.1 := by rw [z_50, z_45, z_39, z_32, z_23, z_11]
        have hr_61 : apartM s g nd (nI j) = (((sumM g j (g (50 + j)) n), (upd s 14 0), (upd (upd (upd (getsM g (needM g j (g (50 + j)) (clrJ nd 6) n) (-1) 6) (42 + j) 0) (50 + j) 0) 5 (((upd (upd (getsM g (needM g j (g (50 + j)) (clrJ nd 6) n) (-1) 6) (42 + j) 0) (50 + j) 0) 5) + 1)), (needM g j (g (50 + j)) (clrJ nd 6) n)) : Int32 × (Nat → Int32) × (Nat → Int32) × (Nat → Int32)) := by
          simp only [apartM, hcc, hdd, hcj, hnn, hfn]
          rw [if_pos c_4, if_neg c_6, if_pos c_19]
        refine fw_iret hx hb hr hlocks hR hS dX11_takesApart_114 ?_
        rw [hr_61]
        exact ⟨rfl, z_60, f_52, f_53, f_58, fr_59⟩
      · skip
        refine lv_aload_n hx hb dX11_takesApart_63 rfl (lv_at hl 1 rfl) ?_
        refine lv_bipush (v := 10) hx hb dX11_takesApart_64 (by decide) ?_
        refine lv_aload_n hx hb dX11_takesApart_66 rfl (lv_at hl 1 rfl) ?_
        refine fw_call (va_runV (As := []) (rest := [.int 10, .ref m]) ⟨hx, hb, hml, hown, hts⟩ (c_X11_lacking G hL l ω_9 m s g f_14 f_15 (needM g j (g (50 + j)) (clrJ nd 6) n) f_13 ) (cwV 0 hts gX11_takesApart_X11_lacking rfl rfl rfl (by decide +kernel) ⟨Nat.le_of_ble_eq_true rfl, Nat.le_of_ble_eq_true rfl⟩) (fw_preV hW hK hR f_14 rfl) rfl rfl hl.1 rfl (lv_room (Nat.le_of_ble_eq_true rfl)) dX11_takesApart_67 ⟨Nat.le_of_ble_eq_true rfl, Nat.le_of_ble_eq_true rfl⟩) hS (fun v_62 ω_63 H locs hq_64 hR hS => ?_)
        obtain ⟨rfl, hq_64⟩ := hq_64
        rw [hq_64] at hR
        refine W.eq (g2 := F0 mI 70 ls [.int (lackJ (fun i => g (6 + i)) (needM g j (g (50 + j)) (clrJ nd 6) n) 0 6), .int 10, .ref m]) rfl ?_
        refine fw_call (va_runV (As := [.int 10, .int (lackJ (fun i => g (6 + i)) (needM g j (g (50 + j)) (clrJ nd 6) n) 0 6)]) (rest := []) ⟨hx, hb, hml, hown, hts⟩ (c_X11_refused G hL l ω_9 m s g f_14 f_15 10 (lackJ (fun i => g (6 + i)) (needM g j (g (50 + j)) (clrJ nd 6) n) 0 6)) (cwV 2 hts gX11_takesApart_X11_refused rfl rfl rfl (by decide +kernel) ⟨Nat.le_of_ble_eq_true rfl, Nat.le_of_ble_eq_true rfl⟩) (fw_preV hW hK hR f_14 rfl) rfl rfl hl.1 rfl (lv_room (Nat.le_of_ble_eq_true rfl)) dX11_takesApart_70 ⟨Nat.le_of_ble_eq_true rfl, Nat.le_of_ble_eq_true rfl⟩) hS (fun v_65 ω_66 H locs hq_67 hR hS => ?_)
        obtain ⟨rfl, z_68, f_70, fr_69⟩ := hq_67
        refine W.eq (g2 := F0 mI 73 ls [.int 0]) rfl ?_
        have f_71 : ω_66.2 (m + 1) = some (.inl (G.2.1 0, 324, .inl g)) := (fr_69 (m + 1) (by omega)).trans f_15
        have f_72 : ω_66.2 (m + 7) = some (.inl (G.2.1 0, 6, .inl (needM g j (g (50 + j)) (clrJ nd 6) n))) := (fr_69 (m + 7) (by omega)).trans f_13
        have fr_73 : ∀ q : Nat, ¬ q = m → ¬ q = (m + 1) → ¬ q = (m + 7) → ω_66.2 q = ω.2 q := by
          intro q h0 h1 h2
          rw [fr_69 q (by omega)]
          rw [fr_12 q (by omega)]
        have z_74 : ω_66.1 = ω.1 := by rw [z_68, z_11]
        have hr_75 : apartM s g nd (nI j) = ((0, (upd (upd (upd (upd s 9 10) 10 (lackJ (fun i => g (6 + i)) (needM g j (g (50 + j)) (clrJ nd 6) n) 0 6)) 11 0) 14 1), g, (needM g j (g (50 + j)) (clrJ nd 6) n)) : Int32 × (Nat → Int32) × (Nat → Int32) × (Nat → Int32)) := by
          simp only [apartM, hcc, hdd, hcj, hnn, hfn]
          rw [if_pos c_4, if_neg c_6, if_neg c_19]
        refine fw_iret hx hb hr hlocks hR hS dX11_takesApart_73 ?_
        rw [hr_75]
        exact ⟨rfl, z_74, f_70, f_71, f_72, fr_73⟩
    · skip
      refine lv_aload_n hx hb dX11_takesApart_32 rfl (lv_at hl 0 rfl) ?_
      refine lv_bipush (v := 7) hx hb dX11_takesApart_33 (by decide) ?_
      refine lv_iconst (v := 0) hx hb dX11_takesApart_35 (by decide) ?_
      refine fw_call (va_runV (As := [.int 7, .int 0]) (rest := []) ⟨hx, hb, hml, hown, hts⟩ (c_X11_refused G hL l ω m s g m0 m1 7 0) (cwV 2 hts gX11_takesApart_X11_refused rfl rfl rfl (by decide +kernel) ⟨Nat.le_of_ble_eq_true rfl, Nat.le_of_ble_eq_true rfl⟩) (fw_preV hW hK hR m0 rfl) rfl rfl hl.1 rfl (lv_room (Nat.le_of_ble_eq_true rfl)) dX11_takesApart_36 ⟨Nat.le_of_ble_eq_true rfl, Nat.le_of_ble_eq_true rfl⟩) hS (fun v_76 ω_77 H locs hq_78 hR hS => ?_)
      obtain ⟨rfl, z_79, f_81, fr_80⟩ := hq_78
      refine W.eq (g2 := F0 mI 39 ls [.int 0]) rfl ?_
      have f_82 : ω_77.2 (m + 1) = some (.inl (G.2.1 0, 324, .inl g)) := (fr_80 (m + 1) (by omega)).trans m1
      have f_83 : ω_77.2 (m + 7) = some (.inl (G.2.1 0, 6, .inl nd)) := (fr_80 (m + 7) (by omega)).trans m7
      have fr_84 : ∀ q : Nat, ¬ q = m → ¬ q = (m + 1) → ¬ q = (m + 7) → ω_77.2 q = ω.2 q := by
        intro q h0 h1 h2
        rw [fr_80 q (by omega)]
      have z_85 : ω_77.1 = ω.1 := by rw [z_79]
      have hr_86 : apartM s g nd (nI j) = ((0, (upd (upd (upd (upd s 9 7) 10 0) 11 0) 14 1), g, nd) : Int32 × (Nat → Int32) × (Nat → Int32) × (Nat → Int32)) := by
        simp only [apartM, hcc, hdd, hcj, hnn, hfn]
        rw [if_pos c_4, if_pos c_6]
      refine fw_iret hx hb hr hlocks hR hS dX11_takesApart_39 ?_
      rw [hr_86]
      exact ⟨rfl, z_85, f_81, f_82, f_83, fr_84⟩
  · skip
    have c_4 := bz_eq c_4
    refine lv_aload_n hx hb dX11_takesApart_8 rfl (lv_at hl 0 rfl) ?_
    refine lv_iconst (v := 3) hx hb dX11_takesApart_9 (by decide) ?_
    refine lv_aload_n hx hb dX11_takesApart_10 rfl (lv_at hl 0 rfl) ?_
    refine fw_get (v := .ref (m + 1)) (C := RX11) (T := TX11) (N := 19) hx hb hts hin11 hown hK hR m0 rfl 0 (by decide) (hts (.fieldLink RX11 7 "UnreadLeafletsModel" "g" "[I") (by decide +kernel)) rfl dX11_takesApart_11 ?_
    refine lv_iconst (v := 0) hx hb dX11_takesApart_14 (by decide) ?_
    refine fw_iald hx hb hK hR m1 (vp_in_nI (n := 0) (by omega) (by omega)) dX11_takesApart_15 ?_
    refine W.eq (g2 := F0 mI 16 ls [.int (g 0), .int 3, .ref m]) (by rw [show (0 : Int32).toNatClampNeg = 0 from rfl]) ?_
    refine fw_call (va_runV (As := [.int 3, .int (g 0)]) (rest := []) ⟨hx, hb, hml, hown, hts⟩ (c_X11_refused G hL l ω m s g m0 m1 3 (g 0)) (cwV 2 hts gX11_takesApart_X11_refused rfl rfl rfl (by decide +kernel) ⟨Nat.le_of_ble_eq_true rfl, Nat.le_of_ble_eq_true rfl⟩) (fw_preV hW hK hR m0 rfl) rfl rfl hl.1 rfl (lv_room (Nat.le_of_ble_eq_true rfl)) dX11_takesApart_16 ⟨Nat.le_of_ble_eq_true rfl, Nat.le_of_ble_eq_true rfl⟩) hS (fun v_87 ω_88 H locs hq_89 hR hS => ?_)
    obtain ⟨rfl, z_90, f_92, fr_91⟩ := hq_89
    refine W.eq (g2 := F0 mI 19 ls [.int 0]) rfl ?_
    have f_93 : ω_88.2 (m + 1) = some (.inl (G.2.1 0, 324, .inl g)) := (fr_91 (m + 1) (by omega)).trans m1
    have f_94 : ω_88.2 (m + 7) = some (.inl (G.2.1 0, 6, .inl nd)) := (fr_91 (m + 7) (by omega)).trans m7
    have fr_95 : ∀ q : Nat, ¬ q = m → ¬ q = (m + 1) → ¬ q = (m + 7) → ω_88.2 q = ω.2 q := by
      intro q h0 h1 h2
      rw [fr_91 q (by omega)]
    have z_96 : ω_88.1 = ω.1 := by rw [z_90]
    have hr_97 : apartM s g nd lf = ((0, (upd (upd (upd (upd s 9 3) 10 (g 0)) 11 0) 14 1), g, nd) : Int32 × (Nat → Int32) × (Nat → Int32) × (Nat → Int32)) := by
      simp only [apartM, hcc, hdd]
      rw [if_neg c_4]
    refine fw_iret hx hb hr hlocks hR hS dX11_takesApart_19 ?_
    rw [hr_97]
    exact ⟨rfl, z_96, f_92, f_93, f_94, fr_95⟩
def movesM (s g : Nat → Int32) (lf : Int32) (sh : Int32) : Int32 × (Nat → Int32) × (Nat → Int32) := if inB lf 0 (g 0 - 1) then (if inB sh 0 3 then (if (g (34 + (cN lf))) = sh then ((0, (upd (upd (upd (upd s 9 12) 10 sh) 11 0) 14 1), g)) else (if (bitsJ (onM g sh (cN (g 0))) 8) = 3 then ((0, (upd (upd (upd (upd s 9 5) 10 sh) 11 0) 14 1), g)) else (((g (34 + (cN lf))), (upd s 14 0), (upd g (34 + (cN lf)) sh))))) else ((0, (upd (upd (upd (upd s 9 1) 10 0) 11 0) 14 1), g))) else ((0, (upd (upd (upd (upd s 9 3) 10 (g 0)) 11 0) 14 1), g))
set_option maxHeartbeats 4000000 in
set_option maxRecDepth 100000 in
theorem c_X11_moves (G : FG) (hL : FL G) (l : Launch) (ω : FWd) (m : Nat) (s g : Nat → Int32) (m0 : ω.2 m = some (.inr (13, [.ref (m + 1), .ref (m + 2), .ref (m + 3), .int (s 3), .ref (m + 4), .int (s 5), .ref (m + 5), .int (s 7), .int (s 8), .int (s 9), .int (s 10), .int (s 11), .ref (m + 6), .int (s 13), .int (s 14), .ref (m + 7), .int (s 16), .int (s 17), .ref (m + 8)]))) (m1 : ω.2 (m + 1) = some (.inl (G.2.1 0, 324, .inl g))) (hM : WFM g) (lf : Int32) (sh : Int32) : FMet G l yX11_moves wsX11_moves ({ frames := 2, cells := 0, slots := 0, locals := 43 } : Room) [.ref m, .int lf, .int sh] ω (fun vv9 τ9 => vv9 = some (.int ((movesM s g lf sh).1)) ∧ τ9.1 = ω.1 ∧ τ9.2 m = some (.inr (13, [.ref (m + 1), .ref (m + 2), .ref (m + 3), .int (((movesM s g lf sh).2.1) 3), .ref (m + 4), .int (((movesM s g lf sh).2.1) 5), .ref (m + 5), .int (((movesM s g lf sh).2.1) 7), .int (((movesM s g lf sh).2.1) 8), .int (((movesM s g lf sh).2.1) 9), .int (((movesM s g lf sh).2.1) 10), .int (((movesM s g lf sh).2.1) 11), .ref (m + 6), .int (((movesM s g lf sh).2.1) 13), .int (((movesM s g lf sh).2.1) 14), .ref (m + 7), .int (((movesM s g lf sh).2.1) 16), .int (((movesM s g lf sh).2.1) 17), .ref (m + 8)])) ∧ τ9.2 (m + 1) = some (.inl (G.2.1 0, 324, .inl ((movesM s g lf sh).2.2))) ∧ ∀ q : Nat, ¬ q = m → ¬ q = (m + 1) → τ9.2 q = ω.2 q) 0 0 := by
  refine fw_ofW (cc := cX11_moves) (maxL := 4) (ret := (some .int)) (by decide) rfl (Nat.le_of_ble_eq_true rfl) ?_
  intro pP eE sS mI ar9 bl9 meth cD ls hx hb hr hlocks hml hts hown hnm hW hR hl
  have hK := hL.K hW
  have hS : va_S (fwA G) sS.heap sS.heap [] := va_S.rf
  have hin11 : ∀ w ∈ u_ws RX11 TX11 19, w ∈ wsX11_moves := by decide +kernel
  have hl : lv_has ls 4 [(0, .ref m), (1, .int lf), (2, .int sh)] := hl
  obtain ⟨c, hc8, hc, hcc⟩ := okN_of hM.1
  obtain ⟨cc, hd5, hd, hdd⟩ := okN_of hM.2.1
  refine lv_aload_n hx hb dX11_moves_0 rfl (lv_at hl 0 rfl) ?_
  refine lv_iload_n hx hb dX11_moves_1 rfl (lv_at hl 1 rfl) ?_
  refine fw_call (va_runV (As := [.int lf]) (rest := []) ⟨hx, hb, hml, hown, hts⟩ (c_X11_isLeaflet G hL l ω m s g m0 m1 lf) (cwV 1 hts gX11_moves_X11_isLeaflet rfl rfl rfl (by decide +kernel) ⟨Nat.le_of_ble_eq_true rfl, Nat.le_of_ble_eq_true rfl⟩) (fw_preV hW hK hR m0 rfl) rfl rfl hl.1 rfl (lv_room (Nat.le_of_ble_eq_true rfl)) dX11_moves_2 ⟨Nat.le_of_ble_eq_true rfl, Nat.le_of_ble_eq_true rfl⟩) hS (fun v_1 ω_2 H locs hq_3 hR hS => ?_)
  obtain ⟨rfl, hq_3⟩ := hq_3
  rw [hq_3] at hR
  refine W.eq (g2 := F0 mI 5 ls [.int (bz (inB lf 0 (g 0 - 1)))]) rfl ?_
  refine lv_if_ne (tgt := 20) hx hb dX11_moves_5 (by decide) (fun c_4 => ?_) (fun c_4 => ?_)
  · skip
    have c_4 := bz_ne c_4
    obtain ⟨j, hj2, rfl⟩ := in_c hc hc8 c_4
    have hcj : cN (nI j) = j := cN_nI (by omega)
    obtain ⟨n, hn8, hn, hnn⟩ := okN_of (hM.2.2 j (by rw [hcc]; exact hj2)).1
    obtain ⟨f, hf3, hff, hfn⟩ := okN_of (hM.2.2 j (by rw [hcc]; exact hj2)).2.1
    have hkd : ∀ q, q < n → g (68 + 8 * j + q) = nI (cN (g (68 + 8 * j + q))) ∧ cN (g (68 + 8 * j + q)) < 6 := fun q hq => by have h9 := (hM.2.2 j (by rw [hcc]; exact hj2)).2.2 q (by rw [hnn]; exact hq); exact ⟨h9.1, Nat.lt_succ_of_le h9.2⟩
    refine lv_iload_n hx hb dX11_moves_20 rfl (lv_at hl 2 rfl) ?_
    refine fw_call (va_runS (As := [.int sh]) (rest := []) ⟨hx, hb, hml, hown, hts⟩ (c_X11_isShelf G hL l ω sh) (va_cwS 1 hts gX11_moves_X11_isShelf rfl rfl rfl (by decide +kernel) ⟨Nat.le_of_ble_eq_true rfl, Nat.le_of_ble_eq_true rfl⟩) (fw_preS hW hR) rfl rfl hl.1 rfl (lv_room (Nat.le_of_ble_eq_true rfl)) dX11_moves_21 ⟨Nat.le_of_ble_eq_true rfl, Nat.le_of_ble_eq_true rfl⟩) hS (fun v_5 ω_6 H locs hq_7 hR hS => ?_)
    obtain ⟨rfl, hq_7⟩ := hq_7
    rw [hq_7] at hR
    refine W.eq (g2 := F0 mI 24 ls [.int (bz (inB sh 0 3))]) rfl ?_
    refine lv_if_ne (tgt := 34) hx hb dX11_moves_24 (by decide) (fun c_8 => ?_) (fun c_8 => ?_)
    · skip
      have c_8 := bz_ne c_8
      refine lv_aload_n hx hb dX11_moves_34 rfl (lv_at hl 0 rfl) ?_
      refine fw_get (v := .ref (m + 1)) (C := RX11) (T := TX11) (N := 19) hx hb hts hin11 hown hK hR m0 rfl 0 (by decide) (hts (.fieldLink RX11 7 "UnreadLeafletsModel" "g" "[I") (by decide +kernel)) rfl dX11_moves_35 ?_
      refine lv_bipush (v := 34) hx hb dX11_moves_38 (by decide) ?_
      refine lv_iload_n hx hb dX11_moves_40 rfl (lv_at hl 1 rfl) ?_
      refine lv_iadd hx hb dX11_moves_41 ?_
      have hi_9 : 34 + (nI j) = nI (34 + j) := by
        show (nI 34) + (nI j) = _
        simp only [pk_mul, nI_add, Nat.add_assoc, hc, hd, hn, hff]
      refine W.eq (g2 := F0 mI 42 ls [.int (nI (34 + j)), .ref (m + 1)]) (by rw [hi_9]) ?_
      refine fw_iald hx hb hK hR m1 (vp_in_nI (by omega) (by omega)) dX11_moves_42 ?_
      refine W.eq (g2 := F0 mI 43 ls [.int (g (34 + j))]) (by rw [nI_clamp (by omega)]) ?_
      refine lv_istore_n (lv' := [(3, .int (g (34 + j))), (0, .ref m), (1, .int (nI j)), (2, .int sh)]) hx hb dX11_moves_43 rfl hl (by decide) rfl (fun ls hl => ?_)
      refine lv_iload_n hx hb dX11_moves_44 rfl (lv_at hl 0 rfl) ?_
      refine lv_iload_n hx hb dX11_moves_45 rfl (lv_at hl 3 rfl) ?_
      refine lv_icmp_ne (tgt := 57) hx hb dX11_moves_46 (by decide) (fun c_10 => ?_) (fun c_10 => ?_)
      · skip
        refine lv_aload_n hx hb dX11_moves_57 rfl (lv_at hl 1 rfl) ?_
        refine lv_iload_n hx hb dX11_moves_58 rfl (lv_at hl 3 rfl) ?_
        refine fw_call (va_runV (As := [.int sh]) (rest := []) ⟨hx, hb, hml, hown, hts⟩ (c_X11_boxesOn G hL l ω m s g m0 m1 sh c hc hc8) (cwV 1 hts gX11_moves_X11_boxesOn rfl rfl rfl (by decide +kernel) ⟨Nat.le_of_ble_eq_true rfl, Nat.le_of_ble_eq_true rfl⟩) (fw_preV hW hK hR m0 rfl) rfl rfl hl.1 rfl (lv_room (Nat.le_of_ble_eq_true rfl)) dX11_moves_59 ⟨Nat.le_of_ble_eq_true rfl, Nat.le_of_ble_eq_true rfl⟩) hS (fun v_11 ω_12 H locs hq_13 hR hS => ?_)
        obtain ⟨rfl, hq_13⟩ := hq_13
        rw [hq_13] at hR
        refine W.eq (g2 := F0 mI 62 ls [.int (onM g sh c)]) rfl ?_
        refine fw_call (va_runS (As := [.int (onM g sh c)]) (rest := []) ⟨hx, hb, hml, hown, hts⟩ (c_X11_bits G hL l ω (onM g sh c)) (va_cwS 1 hts gX11_moves_X11_bits rfl rfl rfl (by decide +kernel) ⟨Nat.le_of_ble_eq_true rfl, Nat.le_of_ble_eq_true rfl⟩) (fw_preS hW hR) rfl rfl hl.1 rfl (lv_room (Nat.le_of_ble_eq_true rfl)) dX11_moves_62 ⟨Nat.le_of_ble_eq_true rfl, Nat.le_of_ble_eq_true rfl⟩) hS (fun v_14 ω_15 H locs hq_16 hR hS => ?_)
        obtain ⟨rfl, hq_16⟩ := hq_16
        rw [hq_16] at hR
        refine W.eq (g2 := F0 mI 65 ls [.int (bitsJ (onM g sh c) 8)]) rfl ?_
        refine lv_iconst (v := 3) hx hb dX11_moves_65 (by decide) ?_
        refine lv_icmp_ne (tgt := 76) hx hb dX11_moves_66 (by decide) (fun c_17 => ?_) (fun c_17 => ?_)
        · skip
          refine lv_aload_n hx hb dX11_moves_76 rfl (lv_at hl 1 rfl) ?_
          refine fw_get (v := .ref (m + 1)) (C := RX11) (T := TX11) (N := 19) hx hb hts hin11 hown hK hR m0 rfl 0 (by decide) (hts (.fieldLink RX11 7 "UnreadLeafletsModel" "g" "[I") (by decide +kernel)) rfl dX11_moves_77 ?_
          refine lv_bipush (v := 34) hx hb dX11_moves_80 (by decide) ?_
          refine lv_iload_n hx hb dX11_moves_82 rfl (lv_at hl 2 rfl) ?_
          refine lv_iadd hx hb dX11_moves_83 ?_
          refine lv_iload_n hx hb dX11_moves_84 rfl (lv_at hl 3 rfl) ?_
          have hi_18 : 34 + (nI j) = nI (34 + j) := by
            show (nI 34) + (nI j) = _
            simp only [pk_mul, nI_add, Nat.add_assoc, hc, hd, hn, hff]
          refine W.eq (g2 := F0 mI 85 ls [.int sh, .int (nI (34 + j)), .ref (m + 1)]) (by rw [hi_18]) ?_
          refine fw_iast hx hb hK hR hS m1 (vp_in_nI (by omega) (by omega)) dX11_moves_85 (fun H locs hR hS => ?_)
          rw [show (nI (34 + j)).toNatClampNeg = 34 + j from nI_clamp (by omega)] at hR
          obtain ⟨ω_19, hw_20⟩ : ∃ τ : FWd, τ = (ω.1, va_up ω.2 (m + 1) (some (.inl (G.2.1 0, 324, .inl (upd g (34 + j) sh))))) := ⟨_, rfl⟩
          have hR : fR G ω_19 H := by rw [hw_20]; exact hR
          have f_21 : ω_19.2 (m + 1) = some (.inl (G.2.1 0, 324, .inl (upd g (34 + j) sh))) := by rw [hw_20]; exact va_up_at
          have fr_22 : ∀ q : Nat, ¬ q = (m + 1) → ω_19.2 q = ω.2 q := fun q hq => by rw [hw_20]; exact va_up_off hq
          have z_23 : ω_19.1 = ω.1 := by rw [hw_20]
          refine lv_aload_n hx hb dX11_moves_86 rfl (lv_at hl 1 rfl) ?_
          refine lv_iload_n hx hb dX11_moves_87 rfl (lv_at hl 0 rfl) ?_
          have f_24 : ω_19.2 m = some (.inr (13, [.ref (m + 1), .ref (m + 2), .ref (m + 3), .int (s 3), .ref (m + 4), .int (s 5), .ref (m + 5), .int (s 7), .int (s 8), .int (s 9), .int (s 10), .int (s 11), .ref (m + 6), .int (s 13), .int (s 14), .ref (m + 7), .int (s 16), .int (s 17), .ref (m + 8)])) := (fr_22 m (by omega)).trans m0
          refine fw_call (va_runV (As := [.int (g (34 + j))]) (rest := []) ⟨hx, hb, hml, hown, hts⟩ (c_X11_done G hL l ω_19 m s (upd g (34 + j) sh) f_24 f_21 (g (34 + j))) (cwV 1 hts gX11_moves_X11_done rfl rfl rfl (by decide +kernel) ⟨Nat.le_of_ble_eq_true rfl, Nat.le_of_ble_eq_true rfl⟩) (fw_preV hW hK hR f_24 rfl) rfl rfl hl.1 rfl (lv_room (Nat.le_of_ble_eq_true rfl)) dX11_moves_88 ⟨Nat.le_of_ble_eq_true rfl, Nat.le_of_ble_eq_true rfl⟩) hS (fun v_25 ω_26 H locs hq_27 hR hS => ?_)
          obtain ⟨rfl, z_28, f_30, fr_29⟩ := hq_27
          refine W.eq (g2 := F0 mI 91 ls [.int (g (34 + j))]) rfl ?_
          have f_31 : ω_26.2 (m + 1) = some (.inl (G.2.1 0, 324, .inl (upd g (34 + j) sh))) := (fr_29 (m + 1) (by omega)).trans f_21
          have fr_32 : ∀ q : Nat, ¬ q = m → ¬ q = (m + 1) → ω_26.2 q = ω.2 q := by
            intro q h0 h1
            rw [fr_29 q (by omega)]
            rw [fr_22 q (by omega)]
          have z_33 : ω_26.1 = ω.1 := by rw [z_28, z_23]
          have hr_34 : movesM s g (nI j) sh = (((g (34 + j)), (upd s 14 0), (upd g (34 + j) sh)) : Int32 × (Nat → Int32) × (Nat → Int32)) := by
            simp only [movesM, hcc, hdd, hcj, hnn, hfn]
            rw [if_pos c_4, if_pos c_8, if_neg c_10, if_neg c_17]
          refine fw_iret hx hb hr hlocks hR hS dX11_moves_91 ?_
          rw [hr_34]
          exact ⟨rfl, z_33, f_30, f_31, fr_32⟩
        · skip
          refine lv_aload_n hx hb dX11_moves_69 rfl (lv_at hl 1 rfl) ?_
          refine lv_iconst (v := 5) hx hb dX11_moves_70 (by decide) ?_
          refine lv_iload_n hx hb dX11_moves_71 rfl (lv_at hl 3 rfl) ?_
          refine fw_call (va_runV (As := [.int 5, .int sh]) (rest := []) ⟨hx, hb, hml, hown, hts⟩ (c_X11_refused G hL l ω m s g m0 m1 5 sh) (cwV 2 hts gX11_moves_X11_refused rfl rfl rfl (by decide +kernel) ⟨Nat.le_of_ble_eq_true rfl, Nat.le_of_ble_eq_true rfl⟩) (fw_preV hW hK hR m0 rfl) rfl rfl hl.1 rfl (lv_room (Nat.le_of_ble_eq_true rfl)) dX11_moves_72 ⟨Nat.le_of_ble_eq_true rfl, Nat.le_of_ble_eq_true rfl⟩) hS (fun v_35 ω_36 H locs hq_37 hR hS => ?_)
          obtain ⟨rfl, z_38, f_40, fr_39⟩ := hq_37
          refine W.eq (g2 := F0 mI 75 ls [.int 0]) rfl ?_
          have f_41 : ω_36.2 (m + 1) = some (.inl (G.2.1 0, 324, .inl g)) := (fr_39 (m + 1) (by omega)).trans m1
          have fr_42 : ∀ q : Nat, ¬ q = m → ¬ q = (m + 1) → ω_36.2 q = ω.2 q := by
            intro q h0 h1
            rw [fr_39 q (by omega)]
          have z_43 : ω_36.1 = ω.1 := by rw [z_38]
          have hr_44 : movesM s g (nI j) sh = ((0, (upd (upd (upd (upd s 9 5) 10 sh) 11 0) 14 1), g) : Int32 × (Nat → Int32) × (Nat → Int32)) := by
            simp only [movesM, hcc, hdd, hcj, hnn, hfn]
            rw [if_pos c_4, if_pos c_8, if_neg c_10, if_pos c_17]
          refine fw_iret hx hb hr hlocks hR hS dX11_moves_75 ?_
          rw [hr_44]
          exact ⟨rfl, z_43, f_40, f_41, fr_42⟩
      · skip
        refine lv_aload_n hx hb dX11_moves_49 rfl (lv_at hl 1 rfl) ?_
        refine lv_bipush (v := 12) hx hb dX11_moves_50 (by decide) ?_
        refine lv_iload_n hx hb dX11_moves_52 rfl (lv_at hl 3 rfl) ?_
        refine fw_call (va_runV (As := [.int 12, .int sh]) (rest := []) ⟨hx, hb, hml, hown, hts⟩ (c_X11_refused G hL l ω m s g m0 m1 12 sh) (cwV 2 hts gX11_moves_X11_refused rfl rfl rfl (by decide +kernel) ⟨Nat.le_of_ble_eq_true rfl, Nat.le_of_ble_eq_true rfl⟩) (fw_preV hW hK hR m0 rfl) rfl rfl hl.1 rfl (lv_room (Nat.le_of_ble_eq_true rfl)) dX11_moves_53 ⟨Nat.le_of_ble_eq_true rfl, Nat.le_of_ble_eq_true rfl⟩) hS (fun v_45 ω_46 H locs hq_47 hR hS => ?_)
        obtain ⟨rfl, z_48, f_50, fr_49⟩ := hq_47
        refine W.eq (g2 := F0 mI 56 ls [.int 0]) rfl ?_
        have f_51 : ω_46.2 (m + 1) = some (.inl (G.2.1 0, 324, .inl g)) := (fr_49 (m + 1) (by omega)).trans m1
        have fr_52 : ∀ q : Nat, ¬ q = m → ¬ q = (m + 1) → ω_46.2 q = ω.2 q := by
          intro q h0 h1
          rw [fr_49 q (by omega)]
        have z_53 : ω_46.1 = ω.1 := by rw [z_48]
        have hr_54 : movesM s g (nI j) sh = ((0, (upd (upd (upd (upd s 9 12) 10 sh) 11 0) 14 1), g) : Int32 × (Nat → Int32) × (Nat → Int32)) := by
          simp only [movesM, hcc, hdd, hcj, hnn, hfn]
          rw [if_pos c_4, if_pos c_8, if_pos c_10]
        refine fw_iret hx hb hr hlocks hR hS dX11_moves_56 ?_
        rw [hr_54]
        exact ⟨rfl, z_53, f_50, f_51, fr_52⟩
    · skip
      have c_8 := bz_eq c_8
      refine lv_aload_n hx hb dX11_moves_27 rfl (lv_at hl 0 rfl) ?_
      refine lv_iconst (v := 1) hx hb dX11_moves_28 (by decide) ?_
      refine lv_iconst (v := 0) hx hb dX11_moves_29 (by decide) ?_
      refine fw_call (va_runV (As := [.int 1, .int 0]) (rest := []) ⟨hx, hb, hml, hown, hts⟩ (c_X11_refused G hL l ω m s g m0 m1 1 0) (cwV 2 hts gX11_moves_X11_refused rfl rfl rfl (by decide +kernel) ⟨Nat.le_of_ble_eq_true rfl, Nat.le_of_ble_eq_true rfl⟩) (fw_preV hW hK hR m0 rfl) rfl rfl hl.1 rfl (lv_room (Nat.le_of_ble_eq_true rfl)) dX11_moves_30 ⟨Nat.le_of_ble_eq_true rfl, Nat.le_of_ble_eq_true rfl⟩) hS (fun v_55 ω_56 H locs hq_57 hR hS => ?_)
      obtain ⟨rfl, z_58, f_60, fr_59⟩ := hq_57
      refine W.eq (g2 := F0 mI 33 ls [.int 0]) rfl ?_
      have f_61 : ω_56.2 (m + 1) = some (.inl (G.2.1 0, 324, .inl g)) := (fr_59 (m + 1) (by omega)).trans m1
      have fr_62 : ∀ q : Nat, ¬ q = m → ¬ q = (m + 1) → ω_56.2 q = ω.2 q := by
        intro q h0 h1
        rw [fr_59 q (by omega)]
      have z_63 : ω_56.1 = ω.1 := by rw [z_58]
      have hr_64 : movesM s g (nI j) sh = ((0, (upd (upd (upd (upd s 9 1) 10 0) 11 0) 14 1), g) : Int32 × (Nat → Int32) × (Nat → Int32)) := by
        simp only [movesM, hcc, hdd, hcj, hnn, hfn]
        rw [if_pos c_4, if_neg c_8]
      refine fw_iret hx hb hr hlocks hR hS dX11_moves_33 ?_
      rw [hr_64]
      exact ⟨rfl, z_63, f_60, f_61, fr_62⟩
  · skip
    have c_4 := bz_eq c_4
    refine lv_aload_n hx hb dX11_moves_8 rfl (lv_at hl 0 rfl) ?_
    refine lv_iconst (v := 3) hx hb dX11_moves_9 (by decide) ?_
    refine lv_aload_n hx hb dX11_moves_10 rfl (lv_at hl 0 rfl) ?_
    refine fw_get (v := .ref (m + 1)) (C := RX11) (T := TX11) (N := 19) hx hb hts hin11 hown hK hR m0 rfl 0 (by decide) (hts (.fieldLink RX11 7 "UnreadLeafletsModel" "g" "[I") (by decide +kernel)) rfl dX11_moves_11 ?_
    refine lv_iconst (v := 0) hx hb dX11_moves_14 (by decide) ?_
    refine fw_iald hx hb hK hR m1 (vp_in_nI (n := 0) (by omega) (by omega)) dX11_moves_15 ?_
    refine W.eq (g2 := F0 mI 16 ls [.int (g 0), .int 3, .ref m]) (by rw [show (0 : Int32).toNatClampNeg = 0 from rfl]) ?_
    refine fw_call (va_runV (As := [.int 3, .int (g 0)]) (rest := []) ⟨hx, hb, hml, hown, hts⟩ (c_X11_refused G hL l ω m s g m0 m1 3 (g 0)) (cwV 2 hts gX11_moves_X11_refused rfl rfl rfl (by decide +kernel) ⟨Nat.le_of_ble_eq_true rfl, Nat.le_of_ble_eq_true rfl⟩) (fw_preV hW hK hR m0 rfl) rfl rfl hl.1 rfl (lv_room (Nat.le_of_ble_eq_true rfl)) dX11_moves_16 ⟨Nat.le_of_ble_eq_true rfl, Nat.le_of_ble_eq_true rfl⟩) hS (fun v_65 ω_66 H locs hq_67 hR hS => ?_)
    obtain ⟨rfl, z_68, f_70, fr_69⟩ := hq_67
    refine W.eq (g2 := F0 mI 19 ls [.int 0]) rfl ?_
    have f_71 : ω_66.2 (m + 1) = some (.inl (G.2.1 0, 324, .inl g)) := (fr_69 (m + 1) (by omega)).trans m1
    have fr_72 : ∀ q : Nat, ¬ q = m → ¬ q = (m + 1) → ω_66.2 q = ω.2 q := by
      intro q h0 h1
      rw [fr_69 q (by omega)]
    have z_73 : ω_66.1 = ω.1 := by rw [z_68]
    have hr_74 : movesM s g lf sh = ((0, (upd (upd (upd (upd s 9 3) 10 (g 0)) 11 0) 14 1), g) : Int32 × (Nat → Int32) × (Nat → Int32)) := by
      simp only [movesM, hcc, hdd]
      rw [if_neg c_4]
    refine fw_iret hx hb hr hlocks hR hS dX11_moves_19 ?_
    rw [hr_74]
    exact ⟨rfl, z_73, f_70, f_71, fr_72⟩
def losesM (s g : Nat → Int32) (kd : Int32) (ps : Int32) : Int32 × (Nat → Int32) × (Nat → Int32) := if inB kd 0 5 then (if inB ps 1 9 then (if ps ≤ (g (6 + (cN kd))) then ((((upd (upd g (6 + (cN kd)) ((g (6 + (cN kd))) - ps)) (12 + (cN kd)) (((upd g (6 + (cN kd)) ((g (6 + (cN kd))) - ps)) (12 + (cN kd))) + ps)) (6 + (cN kd))), (upd s 14 0), (upd (upd g (6 + (cN kd)) ((g (6 + (cN kd))) - ps)) (12 + (cN kd)) (((upd g (6 + (cN kd)) ((g (6 + (cN kd))) - ps)) (12 + (cN kd))) + ps)))) else ((0, (upd (upd (upd (upd s 9 10) 10 (kd)) 11 0) 14 1), g))) else ((0, (upd (upd (upd (upd s 9 1) 10 0) 11 0) 14 1), g))) else ((0, (upd (upd (upd (upd s 9 1) 10 0) 11 0) 14 1), g))
set_option maxHeartbeats 4000000 in
set_option maxRecDepth 100000 in
theorem c_X11_loses (G : FG) (hL : FL G) (l : Launch) (ω : FWd) (m : Nat) (s g : Nat → Int32) (m0 : ω.2 m = some (.inr (13, [.ref (m + 1), .ref (m + 2), .ref (m + 3), .int (s 3), .ref (m + 4), .int (s 5), .ref (m + 5), .int (s 7), .int (s 8), .int (s 9), .int (s 10), .int (s 11), .ref (m + 6), .int (s 13), .int (s 14), .ref (m + 7), .int (s 16), .int (s 17), .ref (m + 8)]))) (m1 : ω.2 (m + 1) = some (.inl (G.2.1 0, 324, .inl g))) (hM : WFM g) (kd : Int32) (ps : Int32) : FMet G l yX11_loses wsX11_loses ({ frames := 2, cells := 0, slots := 0, locals := 43 } : Room) [.ref m, .int kd, .int ps] ω (fun vv9 τ9 => vv9 = some (.int ((losesM s g kd ps).1)) ∧ τ9.1 = ω.1 ∧ τ9.2 m = some (.inr (13, [.ref (m + 1), .ref (m + 2), .ref (m + 3), .int (((losesM s g kd ps).2.1) 3), .ref (m + 4), .int (((losesM s g kd ps).2.1) 5), .ref (m + 5), .int (((losesM s g kd ps).2.1) 7), .int (((losesM s g kd ps).2.1) 8), .int (((losesM s g kd ps).2.1) 9), .int (((losesM s g kd ps).2.1) 10), .int (((losesM s g kd ps).2.1) 11), .ref (m + 6), .int (((losesM s g kd ps).2.1) 13), .int (((losesM s g kd ps).2.1) 14), .ref (m + 7), .int (((losesM s g kd ps).2.1) 16), .int (((losesM s g kd ps).2.1) 17), .ref (m + 8)])) ∧ τ9.2 (m + 1) = some (.inl (G.2.1 0, 324, .inl ((losesM s g kd ps).2.2))) ∧ ∀ q : Nat, ¬ q = m → ¬ q = (m + 1) → τ9.2 q = ω.2 q) 0 0 := by
  refine fw_ofW (cc := cX11_loses) (maxL := 3) (ret := (some .int)) (by decide) rfl (Nat.le_of_ble_eq_true rfl) ?_
  intro pP eE sS mI ar9 bl9 meth cD ls hx hb hr hlocks hml hts hown hnm hW hR hl
  have hK := hL.K hW
  have hS : va_S (fwA G) sS.heap sS.heap [] := va_S.rf
  have hin11 : ∀ w ∈ u_ws RX11 TX11 19, w ∈ wsX11_loses := by decide +kernel
  have hl : lv_has ls 3 [(0, .ref m), (1, .int kd), (2, .int ps)] := hl
  obtain ⟨c, hc8, hc, hcc⟩ := okN_of hM.1
  obtain ⟨cc, hd5, hd, hdd⟩ := okN_of hM.2.1
  refine lv_iload_n hx hb dX11_loses_0 rfl (lv_at hl 1 rfl) ?_
  refine fw_call (va_runS (As := [.int kd]) (rest := []) ⟨hx, hb, hml, hown, hts⟩ (c_X11_isKind G hL l ω kd) (va_cwS 1 hts gX11_loses_X11_isKind rfl rfl rfl (by decide +kernel) ⟨Nat.le_of_ble_eq_true rfl, Nat.le_of_ble_eq_true rfl⟩) (fw_preS hW hR) rfl rfl hl.1 rfl (lv_room (Nat.le_of_ble_eq_true rfl)) dX11_loses_1 ⟨Nat.le_of_ble_eq_true rfl, Nat.le_of_ble_eq_true rfl⟩) hS (fun v_1 ω_2 H locs hq_3 hR hS => ?_)
  obtain ⟨rfl, hq_3⟩ := hq_3
  rw [hq_3] at hR
  refine W.eq (g2 := F0 mI 4 ls [.int (bz (inB kd 0 5))]) rfl ?_
  refine lv_if_eq (tgt := 17) hx hb dX11_loses_4 (by decide) (fun c_4 => ?_) (fun c_4 => ?_)
  · skip
    have c_4 := bz_eq c_4
    refine lv_aload_n hx hb dX11_loses_17 rfl (lv_at hl 0 rfl) ?_
    refine lv_iconst (v := 1) hx hb dX11_loses_18 (by decide) ?_
    refine lv_iconst (v := 0) hx hb dX11_loses_19 (by decide) ?_
    refine fw_call (va_runV (As := [.int 1, .int 0]) (rest := []) ⟨hx, hb, hml, hown, hts⟩ (c_X11_refused G hL l ω m s g m0 m1 1 0) (cwV 2 hts gX11_loses_X11_refused rfl rfl rfl (by decide +kernel) ⟨Nat.le_of_ble_eq_true rfl, Nat.le_of_ble_eq_true rfl⟩) (fw_preV hW hK hR m0 rfl) rfl rfl hl.1 rfl (lv_room (Nat.le_of_ble_eq_true rfl)) dX11_loses_20 ⟨Nat.le_of_ble_eq_true rfl, Nat.le_of_ble_eq_true rfl⟩) hS (fun v_5 ω_6 H locs hq_7 hR hS => ?_)
    obtain ⟨rfl, z_8, f_10, fr_9⟩ := hq_7
    refine W.eq (g2 := F0 mI 23 ls [.int 0]) rfl ?_
    have f_11 : ω_6.2 (m + 1) = some (.inl (G.2.1 0, 324, .inl g)) := (fr_9 (m + 1) (by omega)).trans m1
    have fr_12 : ∀ q : Nat, ¬ q = m → ¬ q = (m + 1) → ω_6.2 q = ω.2 q := by
      intro q h0 h1
      rw [fr_9 q (by omega)]
    have z_13 : ω_6.1 = ω.1 := by rw [z_8]
    have hr_14 : losesM s g kd ps = ((0, (upd (upd (upd (upd s 9 1) 10 0) 11 0) 14 1), g) : Int32 × (Nat → Int32) × (Nat → Int32)) := by
      simp only [losesM, hcc, hdd]
      rw [if_neg c_4]
    refine fw_iret hx hb hr hlocks hR hS dX11_loses_23 ?_
    rw [hr_14]
    exact ⟨rfl, z_13, f_10, f_11, fr_12⟩
  · skip
    have c_4 := bz_ne c_4
    obtain ⟨ki, hki5, rfl⟩ := in_n (n := 5) (by decide) c_4
    have hcki : cN (nI ki) = ki := cN_nI (by omega)
    refine lv_iload_n hx hb dX11_loses_7 rfl (lv_at hl 2 rfl) ?_
    refine lv_iconst (v := 1) hx hb dX11_loses_8 (by decide) ?_
    refine lv_bipush (v := 9) hx hb dX11_loses_9 (by decide) ?_
    refine fw_call (va_runS (As := [.int ps, .int 1, .int 9]) (rest := []) ⟨hx, hb, hml, hown, hts⟩ (c_X11_in G hL l ω ps 1 9) (va_cwS 3 hts gX11_loses_X11_in rfl rfl rfl (by decide +kernel) ⟨Nat.le_of_ble_eq_true rfl, Nat.le_of_ble_eq_true rfl⟩) (fw_preS hW hR) rfl rfl hl.1 rfl (lv_room (Nat.le_of_ble_eq_true rfl)) dX11_loses_11 ⟨Nat.le_of_ble_eq_true rfl, Nat.le_of_ble_eq_true rfl⟩) hS (fun v_15 ω_16 H locs hq_17 hR hS => ?_)
    obtain ⟨rfl, hq_17⟩ := hq_17
    rw [hq_17] at hR
    refine W.eq (g2 := F0 mI 14 ls [.int (bz (inB ps 1 9))]) rfl ?_
    refine lv_if_ne (tgt := 24) hx hb dX11_loses_14 (by decide) (fun c_18 => ?_) (fun c_18 => ?_)
    · skip
      have c_18 := bz_ne c_18
      refine lv_aload_n hx hb dX11_loses_24 rfl (lv_at hl 0 rfl) ?_
      refine fw_get (v := .ref (m + 1)) (C := RX11) (T := TX11) (N := 19) hx hb hts hin11 hown hK hR m0 rfl 0 (by decide) (hts (.fieldLink RX11 7 "UnreadLeafletsModel" "g" "[I") (by decide +kernel)) rfl dX11_loses_25 ?_
      refine lv_bipush (v := 6) hx hb dX11_loses_28 (by decide) ?_
      refine lv_iload_n hx hb dX11_loses_30 rfl (lv_at hl 1 rfl) ?_
      refine lv_iadd hx hb dX11_loses_31 ?_
      have hi_19 : 6 + (nI ki) = nI (6 + ki) := by
        show (nI 6) + (nI ki) = _
        simp only [pk_mul, nI_add, Nat.add_assoc, hc, hd]
      refine W.eq (g2 := F0 mI 32 ls [.int (nI (6 + ki)), .ref (m + 1)]) (by rw [hi_19]) ?_
      refine fw_iald hx hb hK hR m1 (vp_in_nI (by omega) (by omega)) dX11_loses_32 ?_
      refine W.eq (g2 := F0 mI 33 ls [.int (g (6 + ki))]) (by rw [nI_clamp (by omega)]) ?_
      refine lv_iload_n hx hb dX11_loses_33 rfl (lv_at hl 2 rfl) ?_
      refine lv_icmp_ge (tgt := 45) hx hb dX11_loses_34 (by decide) (fun c_20 => ?_) (fun c_20 => ?_)
      · skip
        refine lv_aload_n hx hb dX11_loses_45 rfl (lv_at hl 0 rfl) ?_
        refine fw_get (v := .ref (m + 1)) (C := RX11) (T := TX11) (N := 19) hx hb hts hin11 hown hK hR m0 rfl 0 (by decide) (hts (.fieldLink RX11 7 "UnreadLeafletsModel" "g" "[I") (by decide +kernel)) rfl dX11_loses_46 ?_
        refine lv_bipush (v := 6) hx hb dX11_loses_49 (by decide) ?_
        refine lv_iload_n hx hb dX11_loses_51 rfl (lv_at hl 1 rfl) ?_
        refine lv_iadd hx hb dX11_loses_52 ?_
        refine lv_dup2_11 hx hb dX11_loses_53 rfl rfl ?_
        have hi_21 : 6 + (nI ki) = nI (6 + ki) := by
          show (nI 6) + (nI ki) = _
          simp only [pk_mul, nI_add, Nat.add_assoc, hc, hd]
        refine W.eq (g2 := F0 mI 54 ls [.int (nI (6 + ki)), .ref (m + 1), .int (6 + (nI ki)), .ref (m + 1)]) (by rw [hi_21]) ?_
        refine fw_iald hx hb hK hR m1 (vp_in_nI (by omega) (by omega)) dX11_loses_54 ?_
        refine W.eq (g2 := F0 mI 55 ls [.int (g (6 + ki)), .int (6 + (nI ki)), .ref (m + 1)]) (by rw [nI_clamp (by omega)]) ?_
        refine lv_iload_n hx hb dX11_loses_55 rfl (lv_at hl 2 rfl) ?_
        refine lv_isub hx hb dX11_loses_56 ?_
        have hi_22 : 6 + (nI ki) = nI (6 + ki) := by
          show (nI 6) + (nI ki) = _
          simp only [pk_mul, nI_add, Nat.add_assoc, hc, hd]
        refine W.eq (g2 := F0 mI 57 ls [.int ((g (6 + ki)) - ps), .int (nI (6 + ki)), .ref (m + 1)]) (by rw [hi_22]) ?_
        refine fw_iast hx hb hK hR hS m1 (vp_in_nI (by omega) (by omega)) dX11_loses_57 (fun H locs hR hS => ?_)
        rw [show (nI (6 + ki)).toNatClampNeg = 6 + ki from nI_clamp (by omega)] at hR
        obtain ⟨ω_23, hw_24⟩ : ∃ τ : FWd, τ = (ω.1, va_up ω.2 (m + 1) (some (.inl (G.2.1 0, 324, .inl (upd g (6 + ki) ((g (6 + ki)) - ps)))))) := ⟨_, rfl⟩
        have hR : fR G ω_23 H := by rw [hw_24]; exact hR
        have f_25 : ω_23.2 (m + 1) = some (.inl (G.2.1 0, 324, .inl (upd g (6 + ki) ((g (6 + ki)) - ps)))) := by rw [hw_24]; exact va_up_at
        have fr_26 : ∀ q : Nat, ¬ q = (m + 1) → ω_23.2 q = ω.2 q := fun q hq => by rw [hw_24]; exact va_up_off hq
        have z_27 : ω_23.1 = ω.1 := by rw [hw_24]
        refine lv_aload_n hx hb dX11_loses_58 rfl (lv_at hl 0 rfl) ?_
        have f_28 : ω_23.2 m = some (.inr (13, [.ref (m + 1), .ref (m + 2), .ref (m + 3), .int (s 3), .ref (m + 4), .int (s 5), .ref (m + 5), .int (s 7), .int (s 8), .int (s 9), .int (s 10), .int (s 11), .ref (m + 6), .int (s 13), .int (s 14), .ref (m + 7), .int (s 16), .int (s 17), .ref (m + 8)])) := (fr_26 m (by omega)).trans m0
        refine fw_get (v := .ref (m + 1)) (C := RX11) (T := TX11) (N := 19) hx hb hts hin11 hown hK hR f_28 rfl 0 (by decide) (hts (.fieldLink RX11 7 "UnreadLeafletsModel" "g" "[I") (by decide +kernel)) rfl dX11_loses_59 ?_
        refine lv_bipush (v := 12) hx hb dX11_loses_62 (by decide) ?_
        refine lv_iload_n hx hb dX11_loses_64 rfl (lv_at hl 1 rfl) ?_
        refine lv_iadd hx hb dX11_loses_65 ?_
        refine lv_dup2_11 hx hb dX11_loses_66 rfl rfl ?_
        have hi_29 : 12 + (nI ki) = nI (12 + ki) := by
          show (nI 12) + (nI ki) = _
          simp only [pk_mul, nI_add, Nat.add_assoc, hc, hd]
        refine W.eq (g2 := F0 mI 67 ls [.int (nI (12 + ki)), .ref (m + 1), .int (12 + (nI ki)), .ref (m + 1)]) (by rw [hi_29]) ?_
        refine fw_iald hx hb hK hR f_25 (vp_in_nI (by omega) (by omega)) dX11_loses_67 ?_
        refine W.eq (g2 := F0 mI 68 ls [.int ((upd g (6 + ki) ((g (6 + ki)) - ps)) (12 + ki)), .int (12 + (nI ki)), .ref (m + 1)]) (by rw [nI_clamp (by omega)]) ?_
        refine lv_iload_n hx hb dX11_loses_68 rfl (lv_at hl 2 rfl) ?_
        refine lv_iadd hx hb dX11_loses_69 ?_
        have hi_30 : 12 + (nI ki) = nI (12 + ki) := by
          show (nI 12) + (nI ki) = _
          simp only [pk_mul, nI_add, Nat.add_assoc, hc, hd]
        refine W.eq (g2 := F0 mI 70 ls [.int (((upd g (6 + ki) ((g (6 + ki)) - ps)) (12 + ki)) + ps), .int (nI (12 + ki)), .ref (m + 1)]) (by rw [hi_30]) ?_
        refine fw_iast hx hb hK hR hS f_25 (vp_in_nI (by omega) (by omega)) dX11_loses_70 (fun H locs hR hS => ?_)
        rw [show (nI (12 + ki)).toNatClampNeg = 12 + ki from nI_clamp (by omega)] at hR
        obtain ⟨ω_31, hw_32⟩ : ∃ τ : FWd, τ = (ω_23.1, va_up ω_23.2 (m + 1) (some (.inl (G.2.1 0, 324, .inl (upd (upd g (6 + ki) ((g (6 + ki)) - ps)) (12 + ki) (((upd g (6 + ki) ((g (6 + ki)) - ps)) (12 + ki)) + ps)))))) := ⟨_, rfl⟩
        have hR : fR G ω_31 H := by rw [hw_32]; exact hR
        have f_33 : ω_31.2 (m + 1) = some (.inl (G.2.1 0, 324, .inl (upd (upd g (6 + ki) ((g (6 + ki)) - ps)) (12 + ki) (((upd g (6 + ki) ((g (6 + ki)) - ps)) (12 + ki)) + ps)))) := by rw [hw_32]; exact va_up_at
        have fr_34 : ∀ q : Nat, ¬ q = (m + 1) → ω_31.2 q = ω_23.2 q := fun q hq => by rw [hw_32]; exact va_up_off hq
        have z_35 : ω_31.1 = ω_23.1 := by rw [hw_32]
        refine lv_aload_n hx hb dX11_loses_71 rfl (lv_at hl 0 rfl) ?_
        refine lv_aload_n hx hb dX11_loses_72 rfl (lv_at hl 0 rfl) ?_
        have f_36 : ω_31.2 m = some (.inr (13, [.ref (m + 1), .ref (m + 2), .ref (m + 3), .int (s 3), .ref (m + 4), .int (s 5), .ref (m + 5), .int (s 7), .int (s 8), .int (s 9), .int (s 10), .int (s 11), .ref (m + 6), .int (s 13), .int (s 14), .ref (m + 7), .int (s 16), .int (s 17), .ref (m + 8)])) := (fr_34 m (by omega)).trans f_28
        refine fw_get (v := .ref (m + 1)) (C := RX11) (T := TX11) (N := 19) hx hb hts hin11 hown hK hR f_36 rfl 0 (by decide) (hts (.fieldLink RX11 7 "UnreadLeafletsModel" "g" "[I") (by decide +kernel)) rfl dX11_loses_73 ?_
        refine lv_bipush (v := 6) hx hb dX11_loses_76 (by decide) ?_
        refine lv_iload_n hx hb dX11_loses_78 rfl (lv_at hl 1 rfl) ?_
        refine lv_iadd hx hb dX11_loses_79 ?_
        have hi_37 : 6 + (nI ki) = nI (6 + ki) := by
          show (nI 6) + (nI ki) = _
          simp only [pk_mul, nI_add, Nat.add_assoc, hc, hd]
        refine W.eq (g2 := F0 mI 80 ls [.int (nI (6 + ki)), .ref (m + 1), .ref m]) (by rw [hi_37]) ?_
        refine fw_iald hx hb hK hR f_33 (vp_in_nI (by omega) (by omega)) dX11_loses_80 ?_
        refine W.eq (g2 := F0 mI 81 ls [.int ((upd (upd g (6 + ki) ((g (6 + ki)) - ps)) (12 + ki) (((upd g (6 + ki) ((g (6 + ki)) - ps)) (12 + ki)) + ps)) (6 + ki)), .ref m]) (by rw [nI_clamp (by omega)]) ?_
        refine fw_call (va_runV (As := [.int ((upd (upd g (6 + ki) ((g (6 + ki)) - ps)) (12 + ki) (((upd g (6 + ki) ((g (6 + ki)) - ps)) (12 + ki)) + ps)) (6 + ki))]) (rest := []) ⟨hx, hb, hml, hown, hts⟩ (c_X11_done G hL l ω_31 m s (upd (upd g (6 + ki) ((g (6 + ki)) - ps)) (12 + ki) (((upd g (6 + ki) ((g (6 + ki)) - ps)) (12 + ki)) + ps)) f_36 f_33 ((upd (upd g (6 + ki) ((g (6 + ki)) - ps)) (12 + ki) (((upd g (6 + ki) ((g (6 + ki)) - ps)) (12 + ki)) + ps)) (6 + ki))) (cwV 1 hts gX11_loses_X11_done rfl rfl rfl (by decide +kernel) ⟨Nat.le_of_ble_eq_true rfl, Nat.le_of_ble_eq_true rfl⟩) (fw_preV hW hK hR f_36 rfl) rfl rfl hl.1 rfl (lv_room (Nat.le_of_ble_eq_true rfl)) dX11_loses_81 ⟨Nat.le_of_ble_eq_true rfl, Nat.le_of_ble_eq_true rfl⟩) hS (fun v_38 ω_39 H locs hq_40 hR hS => ?_)
        obtain ⟨rfl, z_41, f_43, fr_42⟩ := hq_40
        refine W.eq (g2 := F0 mI 84 ls [.int ((upd (upd g (6 + ki) ((g (6 + ki)) - ps)) (12 + ki) (((upd g (6 + ki) ((g (6 + ki)) - ps)) (12 + ki)) + ps)) (6 + ki))]) rfl ?_
        have f_44 : ω_39.2 (m + 1) = some (.inl (G.2.1 0, 324, .inl (upd (upd g (6 + ki) ((g (6 + ki)) - ps)) (12 + ki) (((upd g (6 + ki) ((g (6 + ki)) - ps)) (12 + ki)) + ps)))) := (fr_42 (m + 1) (by omega)).trans f_33
        have fr_45 : ∀ q : Nat, ¬ q = m → ¬ q = (m + 1) → ω_39.2 q = ω.2 q := by
          intro q h0 h1
          rw [fr_42 q (by omega)]
          rw [fr_34 q (by omega)]
          rw [fr_26 q (by omega)]
        have z_46 : ω_39.1 = ω.1 := by rw [z_41, z_35, z_27]
        have hr_47 : losesM s g (nI ki) ps = ((((upd (upd g (6 + ki) ((g (6 + ki)) - ps)) (12 + ki) (((upd g (6 + ki) ((g (6 + ki)) - ps)) (12 + ki)) + ps)) (6 + ki)), (upd s 14 0), (upd (upd g (6 + ki) ((g (6 + ki)) - ps)) (12 + ki) (((upd g (6 + ki) ((g (6 + ki)) - ps)) (12 + ki)) + ps))) : Int32 × (Nat → Int32) × (Nat → Int32)) := by
          simp only [losesM, hcc, hdd, hcki]
          rw [if_pos c_4, if_pos c_18, if_pos c_20]
        refine fw_iret hx hb hr hlocks hR hS dX11_loses_84 ?_
        rw [hr_47]
        exact ⟨rfl, z_46, f_43, f_44, fr_45⟩
      · skip
        refine lv_aload_n hx hb dX11_loses_37 rfl (lv_at hl 0 rfl) ?_
        refine lv_bipush (v := 10) hx hb dX11_loses_38 (by decide) ?_
        refine lv_iload_n hx hb dX11_loses_40 rfl (lv_at hl 1 rfl) ?_
        refine fw_call (va_runV (As := [.int 10, .int (nI ki)]) (rest := []) ⟨hx, hb, hml, hown, hts⟩ (c_X11_refused G hL l ω m s g m0 m1 10 (nI ki)) (cwV 2 hts gX11_loses_X11_refused rfl rfl rfl (by decide +kernel) ⟨Nat.le_of_ble_eq_true rfl, Nat.le_of_ble_eq_true rfl⟩) (fw_preV hW hK hR m0 rfl) rfl rfl hl.1 rfl (lv_room (Nat.le_of_ble_eq_true rfl)) dX11_loses_41 ⟨Nat.le_of_ble_eq_true rfl, Nat.le_of_ble_eq_true rfl⟩) hS (fun v_48 ω_49 H locs hq_50 hR hS => ?_)
        obtain ⟨rfl, z_51, f_53, fr_52⟩ := hq_50
        refine W.eq (g2 := F0 mI 44 ls [.int 0]) rfl ?_
        have f_54 : ω_49.2 (m + 1) = some (.inl (G.2.1 0, 324, .inl g)) := (fr_52 (m + 1) (by omega)).trans m1
        have fr_55 : ∀ q : Nat, ¬ q = m → ¬ q = (m + 1) → ω_49.2 q = ω.2 q := by
          intro q h0 h1
          rw [fr_52 q (by omega)]
        have z_56 : ω_49.1 = ω.1 := by rw [z_51]
        have hr_57 : losesM s g (nI ki) ps = ((0, (upd (upd (upd (upd s 9 10) 10 (nI ki)) 11 0) 14 1), g) : Int32 × (Nat → Int32) × (Nat → Int32)) := by
          simp only [losesM, hcc, hdd, hcki]
          rw [if_pos c_4, if_pos c_18, if_neg c_20]
        refine fw_iret hx hb hr hlocks hR hS dX11_loses_44 ?_
        rw [hr_57]
        exact ⟨rfl, z_56, f_53, f_54, fr_55⟩
    · skip
      have c_18 := bz_eq c_18
      refine lv_aload_n hx hb dX11_loses_17 rfl (lv_at hl 0 rfl) ?_
      refine lv_iconst (v := 1) hx hb dX11_loses_18 (by decide) ?_
      refine lv_iconst (v := 0) hx hb dX11_loses_19 (by decide) ?_
      refine fw_call (va_runV (As := [.int 1, .int 0]) (rest := []) ⟨hx, hb, hml, hown, hts⟩ (c_X11_refused G hL l ω m s g m0 m1 1 0) (cwV 2 hts gX11_loses_X11_refused rfl rfl rfl (by decide +kernel) ⟨Nat.le_of_ble_eq_true rfl, Nat.le_of_ble_eq_true rfl⟩) (fw_preV hW hK hR m0 rfl) rfl rfl hl.1 rfl (lv_room (Nat.le_of_ble_eq_true rfl)) dX11_loses_20 ⟨Nat.le_of_ble_eq_true rfl, Nat.le_of_ble_eq_true rfl⟩) hS (fun v_58 ω_59 H locs hq_60 hR hS => ?_)
      obtain ⟨rfl, z_61, f_63, fr_62⟩ := hq_60
      refine W.eq (g2 := F0 mI 23 ls [.int 0]) rfl ?_
      have f_64 : ω_59.2 (m + 1) = some (.inl (G.2.1 0, 324, .inl g)) := (fr_62 (m + 1) (by omega)).trans m1
      have fr_65 : ∀ q : Nat, ¬ q = m → ¬ q = (m + 1) → ω_59.2 q = ω.2 q := by
        intro q h0 h1
        rw [fr_62 q (by omega)]
      have z_66 : ω_59.1 = ω.1 := by rw [z_61]
      have hr_67 : losesM s g (nI ki) ps = ((0, (upd (upd (upd (upd s 9 1) 10 0) 11 0) 14 1), g) : Int32 × (Nat → Int32) × (Nat → Int32)) := by
        simp only [losesM, hcc, hdd, hcki]
        rw [if_pos c_4, if_neg c_18]
      refine fw_iret hx hb hr hlocks hR hS dX11_loses_23 ?_
      rw [hr_67]
      exact ⟨rfl, z_66, f_63, f_64, fr_65⟩
def findsM (s g : Nat → Int32) (kd : Int32) (ps : Int32) : Int32 × (Nat → Int32) × (Nat → Int32) := if inB kd 0 5 then (if inB ps 1 9 then (if ps ≤ (g (12 + (cN kd))) then ((((upd (upd g (12 + (cN kd)) ((g (12 + (cN kd))) - ps)) (6 + (cN kd)) (((upd g (12 + (cN kd)) ((g (12 + (cN kd))) - ps)) (6 + (cN kd))) + ps)) (12 + (cN kd))), (upd s 14 0), (upd (upd g (12 + (cN kd)) ((g (12 + (cN kd))) - ps)) (6 + (cN kd)) (((upd g (12 + (cN kd)) ((g (12 + (cN kd))) - ps)) (6 + (cN kd))) + ps)))) else ((0, (upd (upd (upd (upd s 9 13) 10 (g (12 + (cN kd)))) 11 0) 14 1), g))) else ((0, (upd (upd (upd (upd s 9 1) 10 0) 11 0) 14 1), g))) else ((0, (upd (upd (upd (upd s 9 1) 10 0) 11 0) 14 1), g))
set_option maxHeartbeats 4000000 in
set_option maxRecDepth 100000 in
theorem c_X11_findsAgain (G : FG) (hL : FL G) (l : Launch) (ω : FWd) (m : Nat) (s g : Nat → Int32) (m0 : ω.2 m = some (.inr (13, [.ref (m + 1), .ref (m + 2), .ref (m + 3), .int (s 3), .ref (m + 4), .int (s 5), .ref (m + 5), .int (s 7), .int (s 8), .int (s 9), .int (s 10), .int (s 11), .ref (m + 6), .int (s 13), .int (s 14), .ref (m + 7), .int (s 16), .int (s 17), .ref (m + 8)]))) (m1 : ω.2 (m + 1) = some (.inl (G.2.1 0, 324, .inl g))) (hM : WFM g) (kd : Int32) (ps : Int32) : FMet G l yX11_findsAgain wsX11_findsAgain ({ frames := 2, cells := 0, slots := 0, locals := 43 } : Room) [.ref m, .int kd, .int ps] ω (fun vv9 τ9 => vv9 = some (.int ((findsM s g kd ps).1)) ∧ τ9.1 = ω.1 ∧ τ9.2 m = some (.inr (13, [.ref (m + 1), .ref (m + 2), .ref (m + 3), .int (((findsM s g kd ps).2.1) 3), .ref (m + 4), .int (((findsM s g kd ps).2.1) 5), .ref (m + 5), .int (((findsM s g kd ps).2.1) 7), .int (((findsM s g kd ps).2.1) 8), .int (((findsM s g kd ps).2.1) 9), .int (((findsM s g kd ps).2.1) 10), .int (((findsM s g kd ps).2.1) 11), .ref (m + 6), .int (((findsM s g kd ps).2.1) 13), .int (((findsM s g kd ps).2.1) 14), .ref (m + 7), .int (((findsM s g kd ps).2.1) 16), .int (((findsM s g kd ps).2.1) 17), .ref (m + 8)])) ∧ τ9.2 (m + 1) = some (.inl (G.2.1 0, 324, .inl ((findsM s g kd ps).2.2))) ∧ ∀ q : Nat, ¬ q = m → ¬ q = (m + 1) → τ9.2 q = ω.2 q) 0 0 := by
  refine fw_ofW (cc := cX11_findsAgain) (maxL := 3) (ret := (some .int)) (by decide) rfl (Nat.le_of_ble_eq_true rfl) ?_
  intro pP eE sS mI ar9 bl9 meth cD ls hx hb hr hlocks hml hts hown hnm hW hR hl
  have hK := hL.K hW
  have hS : va_S (fwA G) sS.heap sS.heap [] := va_S.rf
  have hin11 : ∀ w ∈ u_ws RX11 TX11 19, w ∈ wsX11_findsAgain := by decide +kernel
  have hl : lv_has ls 3 [(0, .ref m), (1, .int kd), (2, .int ps)] := hl
  obtain ⟨c, hc8, hc, hcc⟩ := okN_of hM.1
  obtain ⟨cc, hd5, hd, hdd⟩ := okN_of hM.2.1
  refine lv_iload_n hx hb dX11_findsAgain_0 rfl (lv_at hl 1 rfl) ?_
  refine fw_call (va_runS (As := [.int kd]) (rest := []) ⟨hx, hb, hml, hown, hts⟩ (c_X11_isKind G hL l ω kd) (va_cwS 1 hts gX11_findsAgain_X11_isKind rfl rfl rfl (by decide +kernel) ⟨Nat.le_of_ble_eq_true rfl, Nat.le_of_ble_eq_true rfl⟩) (fw_preS hW hR) rfl rfl hl.1 rfl (lv_room (Nat.le_of_ble_eq_true rfl)) dX11_findsAgain_1 ⟨Nat.le_of_ble_eq_true rfl, Nat.le_of_ble_eq_true rfl⟩) hS (fun v_1 ω_2 H locs hq_3 hR hS => ?_)
  obtain ⟨rfl, hq_3⟩ := hq_3
  rw [hq_3] at hR
  refine W.eq (g2 := F0 mI 4 ls [.int (bz (inB kd 0 5))]) rfl ?_
  refine lv_if_eq (tgt := 17) hx hb dX11_findsAgain_4 (by decide) (fun c_4 => ?_) (fun c_4 => ?_)
  · skip
    have c_4 := bz_eq c_4
    refine lv_aload_n hx hb dX11_findsAgain_17 rfl (lv_at hl 0 rfl) ?_
    refine lv_iconst (v := 1) hx hb dX11_findsAgain_18 (by decide) ?_
    refine lv_iconst (v := 0) hx hb dX11_findsAgain_19 (by decide) ?_
    refine fw_call (va_runV (As := [.int 1, .int 0]) (rest := []) ⟨hx, hb, hml, hown, hts⟩ (c_X11_refused G hL l ω m s g m0 m1 1 0) (cwV 2 hts gX11_findsAgain_X11_refused rfl rfl rfl (by decide +kernel) ⟨Nat.le_of_ble_eq_true rfl, Nat.le_of_ble_eq_true rfl⟩) (fw_preV hW hK hR m0 rfl) rfl rfl hl.1 rfl (lv_room (Nat.le_of_ble_eq_true rfl)) dX11_findsAgain_20 ⟨Nat.le_of_ble_eq_true rfl, Nat.le_of_ble_eq_true rfl⟩) hS (fun v_5 ω_6 H locs hq_7 hR hS => ?_)
    obtain ⟨rfl, z_8, f_10, fr_9⟩ := hq_7
    refine W.eq (g2 := F0 mI 23 ls [.int 0]) rfl ?_
    have f_11 : ω_6.2 (m + 1) = some (.inl (G.2.1 0, 324, .inl g)) := (fr_9 (m + 1) (by omega)).trans m1
    have fr_12 : ∀ q : Nat, ¬ q = m → ¬ q = (m + 1) → ω_6.2 q = ω.2 q := by
      intro q h0 h1
      rw [fr_9 q (by omega)]
    have z_13 : ω_6.1 = ω.1 := by rw [z_8]
    have hr_14 : findsM s g kd ps = ((0, (upd (upd (upd (upd s 9 1) 10 0) 11 0) 14 1), g) : Int32 × (Nat → Int32) × (Nat → Int32)) := by
      simp only [findsM, hcc, hdd]
      rw [if_neg c_4]
    refine fw_iret hx hb hr hlocks hR hS dX11_findsAgain_23 ?_
    rw [hr_14]
    exact ⟨rfl, z_13, f_10, f_11, fr_12⟩
  · skip
    have c_4 := bz_ne c_4
    obtain ⟨ki, hki5, rfl⟩ := in_n (n := 5) (by decide) c_4
    have hcki : cN (nI ki) = ki := cN_nI (by omega)
    refine lv_iload_n hx hb dX11_findsAgain_7 rfl (lv_at hl 2 rfl) ?_
    refine lv_iconst (v := 1) hx hb dX11_findsAgain_8 (by decide) ?_
    refine lv_bipush (v := 9) hx hb dX11_findsAgain_9 (by decide) ?_
    refine fw_call (va_runS (As := [.int ps, .int 1, .int 9]) (rest := []) ⟨hx, hb, hml, hown, hts⟩ (c_X11_in G hL l ω ps 1 9) (va_cwS 3 hts gX11_findsAgain_X11_in rfl rfl rfl (by decide +kernel) ⟨Nat.le_of_ble_eq_true rfl, Nat.le_of_ble_eq_true rfl⟩) (fw_preS hW hR) rfl rfl hl.1 rfl (lv_room (Nat.le_of_ble_eq_true rfl)) dX11_findsAgain_11 ⟨Nat.le_of_ble_eq_true rfl, Nat.le_of_ble_eq_true rfl⟩) hS (fun v_15 ω_16 H locs hq_17 hR hS => ?_)
    obtain ⟨rfl, hq_17⟩ := hq_17
    rw [hq_17] at hR
    refine W.eq (g2 := F0 mI 14 ls [.int (bz (inB ps 1 9))]) rfl ?_
    refine lv_if_ne (tgt := 24) hx hb dX11_findsAgain_14 (by decide) (fun c_18 => ?_) (fun c_18 => ?_)
    · skip
      have c_18 := bz_ne c_18
      refine lv_aload_n hx hb dX11_findsAgain_24 rfl (lv_at hl 0 rfl) ?_
      refine fw_get (v := .ref (m + 1)) (C := RX11) (T := TX11) (N := 19) hx hb hts hin11 hown hK hR m0 rfl 0 (by decide) (hts (.fieldLink RX11 7 "UnreadLeafletsModel" "g" "[I") (by decide +kernel)) rfl dX11_findsAgain_25 ?_
      refine lv_bipush (v := 12) hx hb dX11_findsAgain_28 (by decide) ?_
      refine lv_iload_n hx hb dX11_findsAgain_30 rfl (lv_at hl 1 rfl) ?_
      refine lv_iadd hx hb dX11_findsAgain_31 ?_
      have hi_19 : 12 + (nI ki) = nI (12 + ki) := by
        show (nI 12) + (nI ki) = _
        simp only [pk_mul, nI_add, Nat.add_assoc, hc, hd]
      refine W.eq (g2 := F0 mI 32 ls [.int (nI (12 + ki)), .ref (m + 1)]) (by rw [hi_19]) ?_
      refine fw_iald hx hb hK hR m1 (vp_in_nI (by omega) (by omega)) dX11_findsAgain_32 ?_
      refine W.eq (g2 := F0 mI 33 ls [.int (g (12 + ki))]) (by rw [nI_clamp (by omega)]) ?_
      refine lv_iload_n hx hb dX11_findsAgain_33 rfl (lv_at hl 2 rfl) ?_
      refine lv_icmp_ge (tgt := 53) hx hb dX11_findsAgain_34 (by decide) (fun c_20 => ?_) (fun c_20 => ?_)
      · skip
        refine lv_aload_n hx hb dX11_findsAgain_53 rfl (lv_at hl 0 rfl) ?_
        refine fw_get (v := .ref (m + 1)) (C := RX11) (T := TX11) (N := 19) hx hb hts hin11 hown hK hR m0 rfl 0 (by decide) (hts (.fieldLink RX11 7 "UnreadLeafletsModel" "g" "[I") (by decide +kernel)) rfl dX11_findsAgain_54 ?_
        refine lv_bipush (v := 12) hx hb dX11_findsAgain_57 (by decide) ?_
        refine lv_iload_n hx hb dX11_findsAgain_59 rfl (lv_at hl 1 rfl) ?_
        refine lv_iadd hx hb dX11_findsAgain_60 ?_
        refine lv_dup2_11 hx hb dX11_findsAgain_61 rfl rfl ?_
        have hi_21 : 12 + (nI ki) = nI (12 + ki) := by
          show (nI 12) + (nI ki) = _
          simp only [pk_mul, nI_add, Nat.add_assoc, hc, hd]
        refine W.eq (g2 := F0 mI 62 ls [.int (nI (12 + ki)), .ref (m + 1), .int (12 + (nI ki)), .ref (m + 1)]) (by rw [hi_21]) ?_
        refine fw_iald hx hb hK hR m1 (vp_in_nI (by omega) (by omega)) dX11_findsAgain_62 ?_
        refine W.eq (g2 := F0 mI 63 ls [.int (g (12 + ki)), .int (12 + (nI ki)), .ref (m + 1)]) (by rw [nI_clamp (by omega)]) ?_
        refine lv_iload_n hx hb dX11_findsAgain_63 rfl (lv_at hl 2 rfl) ?_
        refine lv_isub hx hb dX11_findsAgain_64 ?_
        have hi_22 : 12 + (nI ki) = nI (12 + ki) := by
          show (nI 12) + (nI ki) = _
          simp only [pk_mul, nI_add, Nat.add_assoc, hc, hd]
        refine W.eq (g2 := F0 mI 65 ls [.int ((g (12 + ki)) - ps), .int (nI (12 + ki)), .ref (m + 1)]) (by rw [hi_22]) ?_
        refine fw_iast hx hb hK hR hS m1 (vp_in_nI (by omega) (by omega)) dX11_findsAgain_65 (fun H locs hR hS => ?_)
        rw [show (nI (12 + ki)).toNatClampNeg = 12 + ki from nI_clamp (by omega)] at hR
        obtain ⟨ω_23, hw_24⟩ : ∃ τ : FWd, τ = (ω.1, va_up ω.2 (m + 1) (some (.inl (G.2.1 0, 324, .inl (upd g (12 + ki) ((g (12 + ki)) - ps)))))) := ⟨_, rfl⟩
        have hR : fR G ω_23 H := by rw [hw_24]; exact hR
        have f_25 : ω_23.2 (m + 1) = some (.inl (G.2.1 0, 324, .inl (upd g (12 + ki) ((g (12 + ki)) - ps)))) := by rw [hw_24]; exact va_up_at
        have fr_26 : ∀ q : Nat, ¬ q = (m + 1) → ω_23.2 q = ω.2 q := fun q hq => by rw [hw_24]; exact va_up_off hq
        have z_27 : ω_23.1 = ω.1 := by rw [hw_24]
        refine lv_aload_n hx hb dX11_findsAgain_66 rfl (lv_at hl 0 rfl) ?_
        have f_28 : ω_23.2 m = some (.inr (13, [.ref (m + 1), .ref (m + 2), .ref (m + 3), .int (s 3), .ref (m + 4), .int (s 5), .ref (m + 5), .int (s 7), .int (s 8), .int (s 9), .int (s 10), .int (s 11), .ref (m + 6), .int (s 13), .int (s 14), .ref (m + 7), .int (s 16), .int (s 17), .ref (m + 8)])) := (fr_26 m (by omega)).trans m0
        refine fw_get (v := .ref (m + 1)) (C := RX11) (T := TX11) (N := 19) hx hb hts hin11 hown hK hR f_28 rfl 0 (by decide) (hts (.fieldLink RX11 7 "UnreadLeafletsModel" "g" "[I") (by decide +kernel)) rfl dX11_findsAgain_67 ?_
        refine lv_bipush (v := 6) hx hb dX11_findsAgain_70 (by decide) ?_
        refine lv_iload_n hx hb dX11_findsAgain_72 rfl (lv_at hl 1 rfl) ?_
        refine lv_iadd hx hb dX11_findsAgain_73 ?_
        refine lv_dup2_11 hx hb dX11_findsAgain_74 rfl rfl ?_
        have hi_29 : 6 + (nI ki) = nI (6 + ki) := by
          show (nI 6) + (nI ki) = _
          simp only [pk_mul, nI_add, Nat.add_assoc, hc, hd]
        refine W.eq (g2 := F0 mI 75 ls [.int (nI (6 + ki)), .ref (m + 1), .int (6 + (nI ki)), .ref (m + 1)]) (by rw [hi_29]) ?_
        refine fw_iald hx hb hK hR f_25 (vp_in_nI (by omega) (by omega)) dX11_findsAgain_75 ?_
        refine W.eq (g2 := F0 mI 76 ls [.int ((upd g (12 + ki) ((g (12 + ki)) - ps)) (6 + ki)), .int (6 + (nI ki)), .ref (m + 1)]) (by rw [nI_clamp (by omega)]) ?_
        refine lv_iload_n hx hb dX11_findsAgain_76 rfl (lv_at hl 2 rfl) ?_
        refine lv_iadd hx hb dX11_findsAgain_77 ?_
        have hi_30 : 6 + (nI ki) = nI (6 + ki) := by
          show (nI 6) + (nI ki) = _
          simp only [pk_mul, nI_add, Nat.add_assoc, hc, hd]
        refine W.eq (g2 := F0 mI 78 ls [.int (((upd g (12 + ki) ((g (12 + ki)) - ps)) (6 + ki)) + ps), .int (nI (6 + ki)), .ref (m + 1)]) (by rw [hi_30]) ?_
        refine fw_iast hx hb hK hR hS f_25 (vp_in_nI (by omega) (by omega)) dX11_findsAgain_78 (fun H locs hR hS => ?_)
        rw [show (nI (6 + ki)).toNatClampNeg = 6 + ki from nI_clamp (by omega)] at hR
        obtain ⟨ω_31, hw_32⟩ : ∃ τ : FWd, τ = (ω_23.1, va_up ω_23.2 (m + 1) (some (.inl (G.2.1 0, 324, .inl (upd (upd g (12 + ki) ((g (12 + ki)) - ps)) (6 + ki) (((upd g (12 + ki) ((g (12 + ki)) - ps)) (6 + ki)) + ps)))))) := ⟨_, rfl⟩
        have hR : fR G ω_31 H := by rw [hw_32]; exact hR
        have f_33 : ω_31.2 (m + 1) = some (.inl (G.2.1 0, 324, .inl (upd (upd g (12 + ki) ((g (12 + ki)) - ps)) (6 + ki) (((upd g (12 + ki) ((g (12 + ki)) - ps)) (6 + ki)) + ps)))) := by rw [hw_32]; exact va_up_at
        have fr_34 : ∀ q : Nat, ¬ q = (m + 1) → ω_31.2 q = ω_23.2 q := fun q hq => by rw [hw_32]; exact va_up_off hq
        have z_35 : ω_31.1 = ω_23.1 := by rw [hw_32]
        refine lv_aload_n hx hb dX11_findsAgain_79 rfl (lv_at hl 0 rfl) ?_
        refine lv_aload_n hx hb dX11_findsAgain_80 rfl (lv_at hl 0 rfl) ?_
        have f_36 : ω_31.2 m = some (.inr (13, [.ref (m + 1), .ref (m + 2), .ref (m + 3), .int (s 3), .ref (m + 4), .int (s 5), .ref (m + 5), .int (s 7), .int (s 8), .int (s 9), .int (s 10), .int (s 11), .ref (m + 6), .int (s 13), .int (s 14), .ref (m + 7), .int (s 16), .int (s 17), .ref (m + 8)])) := (fr_34 m (by omega)).trans f_28
        refine fw_get (v := .ref (m + 1)) (C := RX11) (T := TX11) (N := 19) hx hb hts hin11 hown hK hR f_36 rfl 0 (by decide) (hts (.fieldLink RX11 7 "UnreadLeafletsModel" "g" "[I") (by decide +kernel)) rfl dX11_findsAgain_81 ?_
        refine lv_bipush (v := 12) hx hb dX11_findsAgain_84 (by decide) ?_
        refine lv_iload_n hx hb dX11_findsAgain_86 rfl (lv_at hl 1 rfl) ?_
        refine lv_iadd hx hb dX11_findsAgain_87 ?_
        have hi_37 : 12 + (nI ki) = nI (12 + ki) := by
          show (nI 12) + (nI ki) = _
          simp only [pk_mul, nI_add, Nat.add_assoc, hc, hd]
        refine W.eq (g2 := F0 mI 88 ls [.int (nI (12 + ki)), .ref (m + 1), .ref m]) (by rw [hi_37]) ?_
        refine fw_iald hx hb hK hR f_33 (vp_in_nI (by omega) (by omega)) dX11_findsAgain_88 ?_
        refine W.eq (g2 := F0 mI 89 ls [.int ((upd (upd g (12 + ki) ((g (12 + ki)) - ps)) (6 + ki) (((upd g (12 + ki) ((g (12 + ki)) - ps)) (6 + ki)) + ps)) (12 + ki)), .ref m]) (by rw [nI_clamp (by omega)]) ?_
        refine fw_call (va_runV (As := [.int ((upd (upd g (12 + ki) ((g (12 + ki)) - ps)) (6 + ki) (((upd g (12 + ki) ((g (12 + ki)) - ps)) (6 + ki)) + ps)) (12 + ki))]) (rest := []) ⟨hx, hb, hml, hown, hts⟩ (c_X11_done G hL l ω_31 m s (upd (upd g (12 + ki) ((g (12 + ki)) - ps)) (6 + ki) (((upd g (12 + ki) ((g (12 + ki)) - ps)) (6 + ki)) + ps)) f_36 f_33 ((upd (upd g (12 + ki) ((g (12 + ki)) - ps)) (6 + ki) (((upd g (12 + ki) ((g (12 + ki)) - ps)) (6 + ki)) + ps)) (12 + ki))) (cwV 1 hts gX11_findsAgain_X11_done rfl rfl rfl (by decide +kernel) ⟨Nat.le_of_ble_eq_true rfl, Nat.le_of_ble_eq_true rfl⟩) (fw_preV hW hK hR f_36 rfl) rfl rfl hl.1 rfl (lv_room (Nat.le_of_ble_eq_true rfl)) dX11_findsAgain_89 ⟨Nat.le_of_ble_eq_true rfl, Nat.le_of_ble_eq_true rfl⟩) hS (fun v_38 ω_39 H locs hq_40 hR hS => ?_)
        obtain ⟨rfl, z_41, f_43, fr_42⟩ := hq_40
        refine W.eq (g2 := F0 mI 92 ls [.int ((upd (upd g (12 + ki) ((g (12 + ki)) - ps)) (6 + ki) (((upd g (12 + ki) ((g (12 + ki)) - ps)) (6 + ki)) + ps)) (12 + ki))]) rfl ?_
        have f_44 : ω_39.2 (m + 1) = some (.inl (G.2.1 0, 324, .inl (upd (upd g (12 + ki) ((g (12 + ki)) - ps)) (6 + ki) (((upd g (12 + ki) ((g (12 + ki)) - ps)) (6 + ki)) + ps)))) := (fr_42 (m + 1) (by omega)).trans f_33
        have fr_45 : ∀ q : Nat, ¬ q = m → ¬ q = (m + 1) → ω_39.2 q = ω.2 q := by
          intro q h0 h1
          rw [fr_42 q (by omega)]
          rw [fr_34 q (by omega)]
          rw [fr_26 q (by omega)]
        have z_46 : ω_39.1 = ω.1 := by rw [z_41, z_35, z_27]
        have hr_47 : findsM s g (nI ki) ps = ((((upd (upd g (12 + ki) ((g (12 + ki)) - ps)) (6 + ki) (((upd g (12 + ki) ((g (12 + ki)) - ps)) (6 + ki)) + ps)) (12 + ki)), (upd s 14 0), (upd (upd g (12 + ki) ((g (12 + ki)) - ps)) (6 + ki) (((upd g (12 + ki) ((g (12 + ki)) - ps)) (6 + ki)) + ps))) : Int32 × (Nat → Int32) × (Nat → Int32)) := by
          simp only [findsM, hcc, hdd, hcki]
          rw [if_pos c_4, if_pos c_18, if_pos c_20]
        refine fw_iret hx hb hr hlocks hR hS dX11_findsAgain_92 ?_
        rw [hr_47]
        exact ⟨rfl, z_46, f_43, f_44, fr_45⟩
      · skip
        refine lv_aload_n hx hb dX11_findsAgain_37 rfl (lv_at hl 0 rfl) ?_
        refine lv_bipush (v := 13) hx hb dX11_findsAgain_38 (by decide) ?_
        refine lv_aload_n hx hb dX11_findsAgain_40 rfl (lv_at hl 0 rfl) ?_
        refine fw_get (v := .ref (m + 1)) (C := RX11) (T := TX11) (N := 19) hx hb hts hin11 hown hK hR m0 rfl 0 (by decide) (hts (.fieldLink RX11 7 "UnreadLeafletsModel" "g" "[I") (by decide +kernel)) rfl dX11_findsAgain_41 ?_
        refine lv_bipush (v := 12) hx hb dX11_findsAgain_44 (by decide) ?_
        refine lv_iload_n hx hb dX11_findsAgain_46 rfl (lv_at hl 1 rfl) ?_
        refine lv_iadd hx hb dX11_findsAgain_47 ?_
        have hi_48 : 12 + (nI ki) = nI (12 + ki) := by
          show (nI 12) + (nI ki) = _
          simp only [pk_mul, nI_add, Nat.add_assoc, hc, hd]
        refine W.eq (g2 := F0 mI 48 ls [.int (nI (12 + ki)), .ref (m + 1), .int 13, .ref m]) (by rw [hi_48]) ?_
        refine fw_iald hx hb hK hR m1 (vp_in_nI (by omega) (by omega)) dX11_findsAgain_48 ?_
        refine W.eq (g2 := F0 mI 49 ls [.int (g (12 + ki)), .int 13, .ref m]) (by rw [nI_clamp (by omega)]) ?_
        refine fw_call (va_runV (As := [.int 13, .int (g (12 + ki))]) (rest := []) ⟨hx, hb, hml, hown, hts⟩ (c_X11_refused G hL l ω m s g m0 m1 13 (g (12 + ki))) (cwV 2 hts gX11_findsAgain_X11_refused rfl rfl rfl (by decide +kernel) ⟨Nat.le_of_ble_eq_true rfl, Nat.le_of_ble_eq_true rfl⟩) (fw_preV hW hK hR m0 rfl) rfl rfl hl.1 rfl (lv_room (Nat.le_of_ble_eq_true rfl)) dX11_findsAgain_49 ⟨Nat.le_of_ble_eq_true rfl, Nat.le_of_ble_eq_true rfl⟩) hS (fun v_49 ω_50 H locs hq_51 hR hS => ?_)
        obtain ⟨rfl, z_52, f_54, fr_53⟩ := hq_51
        refine W.eq (g2 := F0 mI 52 ls [.int 0]) rfl ?_
        have f_55 : ω_50.2 (m + 1) = some (.inl (G.2.1 0, 324, .inl g)) := (fr_53 (m + 1) (by omega)).trans m1
        have fr_56 : ∀ q : Nat, ¬ q = m → ¬ q = (m + 1) → ω_50.2 q = ω.2 q := by
          intro q h0 h1
          rw [fr_53 q (by omega)]
        have z_57 : ω_50.1 = ω.1 := by rw [z_52]
        have hr_58 : findsM s g (nI ki) ps = ((0, (upd (upd (upd (upd s 9 13) 10 (g (12 + ki))) 11 0) 14 1), g) : Int32 × (Nat → Int32) × (Nat → Int32)) := by
          simp only [findsM, hcc, hdd, hcki]
          rw [if_pos c_4, if_pos c_18, if_neg c_20]
        refine fw_iret hx hb hr hlocks hR hS dX11_findsAgain_52 ?_
        rw [hr_58]
        exact ⟨rfl, z_57, f_54, f_55, fr_56⟩
    · skip
      have c_18 := bz_eq c_18
      refine lv_aload_n hx hb dX11_findsAgain_17 rfl (lv_at hl 0 rfl) ?_
      refine lv_iconst (v := 1) hx hb dX11_findsAgain_18 (by decide) ?_
      refine lv_iconst (v := 0) hx hb dX11_findsAgain_19 (by decide) ?_
      refine fw_call (va_runV (As := [.int 1, .int 0]) (rest := []) ⟨hx, hb, hml, hown, hts⟩ (c_X11_refused G hL l ω m s g m0 m1 1 0) (cwV 2 hts gX11_findsAgain_X11_refused rfl rfl rfl (by decide +kernel) ⟨Nat.le_of_ble_eq_true rfl, Nat.le_of_ble_eq_true rfl⟩) (fw_preV hW hK hR m0 rfl) rfl rfl hl.1 rfl (lv_room (Nat.le_of_ble_eq_true rfl)) dX11_findsAgain_20 ⟨Nat.le_of_ble_eq_true rfl, Nat.le_of_ble_eq_true rfl⟩) hS (fun v_59 ω_60 H locs hq_61 hR hS => ?_)
      obtain ⟨rfl, z_62, f_64, fr_63⟩ := hq_61
      refine W.eq (g2 := F0 mI 23 ls [.int 0]) rfl ?_
      have f_65 : ω_60.2 (m + 1) = some (.inl (G.2.1 0, 324, .inl g)) := (fr_63 (m + 1) (by omega)).trans m1
      have fr_66 : ∀ q : Nat, ¬ q = m → ¬ q = (m + 1) → ω_60.2 q = ω.2 q := by
        intro q h0 h1
        rw [fr_63 q (by omega)]
      have z_67 : ω_60.1 = ω.1 := by rw [z_62]
      have hr_68 : findsM s g (nI ki) ps = ((0, (upd (upd (upd (upd s 9 1) 10 0) 11 0) 14 1), g) : Int32 × (Nat → Int32) × (Nat → Int32)) := by
        simp only [findsM, hcc, hdd, hcki]
        rw [if_pos c_4, if_neg c_18]
      refine fw_iret hx hb hr hlocks hR hS dX11_findsAgain_23 ?_
      rw [hr_68]
      exact ⟨rfl, z_67, f_64, f_65, fr_66⟩
