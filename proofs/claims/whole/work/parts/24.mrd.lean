/-! ===== printed by program (wip/whole/gen): the reference's reads ===== -/
def bltL (s g : Nat → Int32) (co : Int32) (z : Int32) : Nat → Int32
  | 0 => 0
  | k + 1 => if (g (42 + k)) = (co + 1) then (if z = 0 then (((bltL s g co z k) + 1)) else (((bltL s g co z k) + (bitsJ (g (50 + k)) 8)))) else (((bltL s g co z k) + 0))
def bltM (s g : Nat → Int32) (co : Int32) (z : Int32) : Int32 := bltL s g co z (cN (g 0))
set_option maxHeartbeats 4000000 in
set_option maxRecDepth 100000 in
theorem c_X11_builtBy (G : FG) (hL : FL G) (l : Launch) (ω : FWd) (m : Nat) (s g : Nat → Int32) (m0 : ω.2 m = some (.inr (13, [.ref (m + 1), .ref (m + 2), .ref (m + 3), .int (s 3), .ref (m + 4), .int (s 5), .ref (m + 5), .int (s 7), .int (s 8), .int (s 9), .int (s 10), .int (s 11), .ref (m + 6), .int (s 13), .int (s 14), .ref (m + 7), .int (s 16), .int (s 17), .ref (m + 8)]))) (m1 : ω.2 (m + 1) = some (.inl (G.2.1 0, 324, .inl g))) (hM : WFM g) (co : Int32) (z : Int32) : FMet G l yX11_builtBy wsX11_builtBy ({ frames := 1, cells := 0, slots := 0, locals := 22 } : Room) [.ref m, .int co, .int z] ω (rI (bltM s g co z) ω) 0 0 := by
  refine fw_ofW (cc := cX11_builtBy) (maxL := 5) (ret := (some .int)) (by decide) rfl (Nat.le_of_ble_eq_true rfl) ?_
  intro pP eE sS mI ar9 bl9 meth cD ls hx hb hr hlocks hml hts hown hnm hW hR hl
  have hK := hL.K hW
  have hS : va_S (fwA G) sS.heap sS.heap [] := va_S.rf
  have hin11 : ∀ w ∈ u_ws RX11 TX11 19, w ∈ wsX11_builtBy := by decide +kernel
  have hl : lv_has ls 5 [(0, .ref m), (1, .int co), (2, .int z)] := hl
  obtain ⟨c, hc8, hc, hcc⟩ := okN_of hM.1
  obtain ⟨cc, hd5, hd, hdd⟩ := okN_of hM.2.1
  refine lv_iconst (v := 0) hx hb dX11_builtBy_0 (by decide) ?_
  refine lv_istore_n (lv' := [(3, .int 0), (0, .ref m), (1, .int co), (2, .int z)]) hx hb dX11_builtBy_1 rfl hl (by decide) rfl (fun ls hl => ?_)
  refine lv_iconst (v := 0) hx hb dX11_builtBy_2 (by decide) ?_
  refine lv_istore (lv' := [(4, .int 0), (3, .int 0), (0, .ref m), (1, .int co), (2, .int z)]) hx hb dX11_builtBy_3 hl (by decide) rfl (fun ls hl => ?_)
  have hi_1 : bltL s g co z 0 = (0 : Int32) := by simp only [bltL, hcc, hdd]
  have loop_3 : ∀ (fu : Nat) (k : Nat), (c - k) < fu → (k ≤ c) → ∀ (H : Heap) (locs : List Loc) (ls : Array Slot), fR G ω H → va_S (fwA G) sS.heap H locs → lv_has ls 5 [(4, .int (nI k)), (3, .int (bltL s g co z k)), (0, .ref m), (1, .int co), (2, .int z)] → W pP l eE ({ frames := 1, cells := 0, slots := 0, locals := 22 } : Room) sS mI ar9 bl9 meth cD H locs 0 0 (MQ bl9 (fQ G (rI (bltM s g co z) ω)) ar9 sS 0 0 (fwA G)) (F0 mI 5 ls []) := by
    intro fu
    induction fu with
    | zero => intro k hfu; exact absurd hfu (Nat.not_lt_zero _)
    | succ fu ih =>
      intro k hfu hkk H locs ls hR hS hl
      refine lv_iload hx hb dX11_builtBy_5 (lv_at hl 0 rfl) ?_
      refine lv_aload_n hx hb dX11_builtBy_7 rfl (lv_at hl 2 rfl) ?_
      refine fw_get (v := .ref (m + 1)) (C := RX11) (T := TX11) (N := 19) hx hb hts hin11 hown hK hR m0 rfl 0 (by decide) (hts (.fieldLink RX11 7 "UnreadLeafletsModel" "g" "[I") (by decide +kernel)) rfl dX11_builtBy_8 ?_
      refine lv_iconst (v := 0) hx hb dX11_builtBy_11 (by decide) ?_
      refine fw_iald hx hb hK hR m1 (vp_in_nI (n := 0) (by omega) (by omega)) dX11_builtBy_12 ?_
      refine W.eq (g2 := F0 mI 13 ls [.int (g 0), .int (nI k)]) (by rw [show (0 : Int32).toNatClampNeg = 0 from rfl]) ?_
      refine lv_icmp_ge (tgt := 66) hx hb dX11_builtBy_13 (by decide) (fun c_4 => ?_) (fun c_4 => ?_)
      · skip
        have hj9 := lp_ge (n := c) hc c_4 (by omega) (by omega)
        have hk9 : c = k := by omega
        subst hk9
        refine lv_iload_n hx hb dX11_builtBy_66 rfl (lv_at hl 1 rfl) ?_
        have fr_5 : ∀ q : Nat, True → ω.2 q = ω.2 q := by
          intro q _
          rfl
        have z_6 : ω.1 = ω.1 := rfl
        have hr_7 : bltM s g co z = ((bltL s g co z c) : Int32) := by
          simp only [bltM, hcc, hdd]
        refine fw_iret hx hb hr hlocks hR hS dX11_builtBy_67 (rI_mk hr_7.symm)
      · skip
        have hk2 := lp_lt (n := c) hc c_4 (by omega) (by omega)
        refine lv_iload_n hx hb dX11_builtBy_16 rfl (lv_at hl 1 rfl) ?_
        refine lv_aload_n hx hb dX11_builtBy_17 rfl (lv_at hl 2 rfl) ?_
        refine fw_get (v := .ref (m + 1)) (C := RX11) (T := TX11) (N := 19) hx hb hts hin11 hown hK hR m0 rfl 0 (by decide) (hts (.fieldLink RX11 7 "UnreadLeafletsModel" "g" "[I") (by decide +kernel)) rfl dX11_builtBy_18 ?_
        refine lv_bipush (v := 42) hx hb dX11_builtBy_21 (by decide) ?_
        refine lv_iload hx hb dX11_builtBy_23 (lv_at hl 0 rfl) ?_
        refine lv_iadd hx hb dX11_builtBy_25 ?_
        have hi_8 : 42 + (nI k) = nI (42 + k) := by
          show (nI 42) + (nI k) = _
          simp only [pk_mul, nI_add, Nat.add_assoc, hc, hd]
        refine W.eq (g2 := F0 mI 26 ls [.int (nI (42 + k)), .ref (m + 1), .int (bltL s g co z k)]) (by rw [hi_8]) ?_
        refine fw_iald hx hb hK hR m1 (vp_in_nI (by omega) (by omega)) dX11_builtBy_26 ?_
        refine W.eq (g2 := F0 mI 27 ls [.int (g (42 + k)), .int (bltL s g co z k)]) (by rw [nI_clamp (by omega)]) ?_
        refine lv_iload_n hx hb dX11_builtBy_27 rfl (lv_at hl 3 rfl) ?_
        refine lv_iconst (v := 1) hx hb dX11_builtBy_28 (by decide) ?_
        refine lv_iadd hx hb dX11_builtBy_29 ?_
        refine lv_icmp_eq (tgt := 37) hx hb dX11_builtBy_30 (by decide) (fun c_9 => ?_) (fun c_9 => ?_)
        · skip
          refine lv_iload_n hx hb dX11_builtBy_37 rfl (lv_at hl 4 rfl) ?_
          refine lv_if_eq (tgt := 57) hx hb dX11_builtBy_38 (by decide) (fun c_10 => ?_) (fun c_10 => ?_)
          · skip
            refine lv_iconst (v := 1) hx hb dX11_builtBy_57 (by decide) ?_
            refine lv_iadd hx hb dX11_builtBy_58 ?_
            refine lv_topi (fun x_11 ex_11 => ?_)
            refine lv_istore_n (lv' := [(3, .int x_11), (4, .int (nI k)), (0, .ref m), (1, .int co), (2, .int z)]) hx hb dX11_builtBy_59 rfl hl (by decide) rfl (fun ls hl => ?_)
            obtain ⟨x_12, ex_12⟩ : ∃ y : Int32, y = (nI k) + 1 := ⟨_, rfl⟩
            refine lv_iinc (v := x_12) (lv' := [(4, .int x_12), (3, .int x_11), (0, .ref m), (1, .int co), (2, .int z)]) hx hb dX11_builtBy_60 hl (k := 1) rfl (by rw [ex_12]; rfl) (by decide) rfl (fun ls hl => ?_)
            refine lv_goto (tgt := 5) hx hb dX11_builtBy_63 (by decide) ?_
            have hr_13 : bltL s g co z (k + 1) = (x_11 : Int32) := by
              simp only [bltL, hcc, hdd, ex_11, ex_12]
              rw [if_pos c_9, if_pos c_10]
            have el_4 : x_12 = nI (k + 1) := by rw [ex_12]; exact nI_1 k
            have el_3 : x_11 = bltL s g co z (k + 1) := by rw [hr_13]
            have hl := lv_sub (l' := [(4, .int x_12), (3, .int x_11), (0, .ref m), (1, .int co), (2, .int z)]) hl [0, 1, 2, 3, 4] rfl
            rw [el_4, el_3] at hl
            exact ih (k + 1) (by omega) (by first | assumption | omega | (simp; done)) _ _ _ hR hS hl
          · skip
            refine lv_aload_n hx hb dX11_builtBy_41 rfl (lv_at hl 2 rfl) ?_
            refine fw_get (v := .ref (m + 1)) (C := RX11) (T := TX11) (N := 19) hx hb hts hin11 hown hK hR m0 rfl 0 (by decide) (hts (.fieldLink RX11 7 "UnreadLeafletsModel" "g" "[I") (by decide +kernel)) rfl dX11_builtBy_42 ?_
            refine lv_bipush (v := 50) hx hb dX11_builtBy_45 (by decide) ?_
            refine lv_iload hx hb dX11_builtBy_47 (lv_at hl 0 rfl) ?_
            refine lv_iadd hx hb dX11_builtBy_49 ?_
            have hi_14 : 50 + (nI k) = nI (50 + k) := by
              show (nI 50) + (nI k) = _
              simp only [pk_mul, nI_add, Nat.add_assoc, hc, hd]
            refine W.eq (g2 := F0 mI 50 ls [.int (nI (50 + k)), .ref (m + 1), .int (bltL s g co z k)]) (by rw [hi_14]) ?_
            refine fw_iald hx hb hK hR m1 (vp_in_nI (by omega) (by omega)) dX11_builtBy_50 ?_
            refine W.eq (g2 := F0 mI 51 ls [.int (g (50 + k)), .int (bltL s g co z k)]) (by rw [nI_clamp (by omega)]) ?_
            refine fw_call (va_runS (As := [.int (g (50 + k))]) (rest := [.int (bltL s g co z k)]) ⟨hx, hb, hml, hown, hts⟩ (c_X11_bits G hL l ω (g (50 + k))) (va_cwS 1 hts gX11_builtBy_X11_bits rfl rfl rfl (by decide +kernel) ⟨Nat.le_of_ble_eq_true rfl, Nat.le_of_ble_eq_true rfl⟩) (fw_preS hW hR) rfl rfl hl.1 rfl (lv_room (Nat.le_of_ble_eq_true rfl)) dX11_builtBy_51 ⟨Nat.le_of_ble_eq_true rfl, Nat.le_of_ble_eq_true rfl⟩) hS (fun v_15 ω_16 H locs hq_17 hR hS => ?_)
            obtain ⟨rfl, hq_17⟩ := hq_17
            rw [hq_17] at hR
            refine W.eq (g2 := F0 mI 54 ls [.int (bitsJ (g (50 + k)) 8), .int (bltL s g co z k)]) rfl ?_
            refine lv_goto (tgt := 58) hx hb dX11_builtBy_54 (by decide) ?_
            refine lv_iadd hx hb dX11_builtBy_58 ?_
            refine lv_topi (fun x_18 ex_18 => ?_)
            refine lv_istore_n (lv' := [(3, .int x_18), (4, .int (nI k)), (0, .ref m), (1, .int co), (2, .int z)]) hx hb dX11_builtBy_59 rfl hl (by decide) rfl (fun ls hl => ?_)
            obtain ⟨x_19, ex_19⟩ : ∃ y : Int32, y = (nI k) + 1 := ⟨_, rfl⟩
            refine lv_iinc (v := x_19) (lv' := [(4, .int x_19), (3, .int x_18), (0, .ref m), (1, .int co), (2, .int z)]) hx hb dX11_builtBy_60 hl (k := 1) rfl (by rw [ex_19]; rfl) (by decide) rfl (fun ls hl => ?_)
            refine lv_goto (tgt := 5) hx hb dX11_builtBy_63 (by decide) ?_
            have hr_20 : bltL s g co z (k + 1) = (x_18 : Int32) := by
              simp only [bltL, hcc, hdd, ex_18, ex_19]
              rw [if_pos c_9, if_neg c_10]
            have el_4 : x_19 = nI (k + 1) := by rw [ex_19]; exact nI_1 k
            have el_3 : x_18 = bltL s g co z (k + 1) := by rw [hr_20]
            have hl := lv_sub (l' := [(4, .int x_19), (3, .int x_18), (0, .ref m), (1, .int co), (2, .int z)]) hl [0, 1, 2, 3, 4] rfl
            rw [el_4, el_3] at hl
            exact ih (k + 1) (by omega) (by first | assumption | omega | (simp; done)) _ _ _ hR hS hl
        · skip
          refine lv_iconst (v := 0) hx hb dX11_builtBy_33 (by decide) ?_
          refine lv_goto (tgt := 58) hx hb dX11_builtBy_34 (by decide) ?_
          refine lv_iadd hx hb dX11_builtBy_58 ?_
          refine lv_topi (fun x_21 ex_21 => ?_)
          refine lv_istore_n (lv' := [(3, .int x_21), (4, .int (nI k)), (0, .ref m), (1, .int co), (2, .int z)]) hx hb dX11_builtBy_59 rfl hl (by decide) rfl (fun ls hl => ?_)
          obtain ⟨x_22, ex_22⟩ : ∃ y : Int32, y = (nI k) + 1 := ⟨_, rfl⟩
          refine lv_iinc (v := x_22) (lv' := [(4, .int x_22), (3, .int x_21), (0, .ref m), (1, .int co), (2, .int z)]) hx hb dX11_builtBy_60 hl (k := 1) rfl (by rw [ex_22]; rfl) (by decide) rfl (fun ls hl => ?_)
          refine lv_goto (tgt := 5) hx hb dX11_builtBy_63 (by decide) ?_
          have hr_23 : bltL s g co z (k + 1) = (x_21 : Int32) := by
            simp only [bltL, hcc, hdd, ex_21, ex_22]
            rw [if_neg c_9]
          have el_4 : x_22 = nI (k + 1) := by rw [ex_22]; exact nI_1 k
          have el_3 : x_21 = bltL s g co z (k + 1) := by rw [hr_23]
          have hl := lv_sub (l' := [(4, .int x_22), (3, .int x_21), (0, .ref m), (1, .int co), (2, .int z)]) hl [0, 1, 2, 3, 4] rfl
          rw [el_4, el_3] at hl
          exact ih (k + 1) (by omega) (by first | assumption | omega | (simp; done)) _ _ _ hR hS hl
  have h0_24 : (0 : Int32) = bltL s g co z 0 := by rw [hi_1]
  have hl : lv_has ls 5 [(4, .int 0), (3, .int (bltL s g co z 0)), (0, .ref m), (1, .int co), (2, .int z)] := by rw [← h0_24]; exact hl
  exact loop_3 _ 0 (Nat.lt_succ_self _) (by first | rfl | assumption | omega | (simp; done)) _ _ _ hR hS (lv_sub hl [0, 1, 2, 3, 4] rfl)
def onesL (s g : Nat → Int32) : Nat → Int32
  | 0 => 0
  | k + 1 => if (g (42 + k)) = 0 then (((onesL s g k) + 0)) else (((onesL s g k) + 1))
def onesM (s g : Nat → Int32) : Int32 := onesL s g (cN (g 0))
set_option maxHeartbeats 4000000 in
set_option maxRecDepth 100000 in
theorem c_X11_builtOnes (G : FG) (hL : FL G) (l : Launch) (ω : FWd) (m : Nat) (s g : Nat → Int32) (m0 : ω.2 m = some (.inr (13, [.ref (m + 1), .ref (m + 2), .ref (m + 3), .int (s 3), .ref (m + 4), .int (s 5), .ref (m + 5), .int (s 7), .int (s 8), .int (s 9), .int (s 10), .int (s 11), .ref (m + 6), .int (s 13), .int (s 14), .ref (m + 7), .int (s 16), .int (s 17), .ref (m + 8)]))) (m1 : ω.2 (m + 1) = some (.inl (G.2.1 0, 324, .inl g))) (hM : WFM g) : FMet G l yX11_builtOnes wsX11_builtOnes ({ frames := 0, cells := 0, slots := 0, locals := 0 } : Room) [.ref m] ω (rI (onesM s g) ω) 0 0 := by
  refine fw_ofW (cc := cX11_builtOnes) (maxL := 3) (ret := (some .int)) (by decide) rfl (Nat.le_of_ble_eq_true rfl) ?_
  intro pP eE sS mI ar9 bl9 meth cD ls hx hb hr hlocks hml hts hown hnm hW hR hl
  have hK := hL.K hW
  have hS : va_S (fwA G) sS.heap sS.heap [] := va_S.rf
  have hin11 : ∀ w ∈ u_ws RX11 TX11 19, w ∈ wsX11_builtOnes := by decide +kernel
  have hl : lv_has ls 3 [(0, .ref m)] := hl
  obtain ⟨c, hc8, hc, hcc⟩ := okN_of hM.1
  obtain ⟨cc, hd5, hd, hdd⟩ := okN_of hM.2.1
  refine lv_iconst (v := 0) hx hb dX11_builtOnes_0 (by decide) ?_
  refine lv_istore_n (lv' := [(1, .int 0), (0, .ref m)]) hx hb dX11_builtOnes_1 rfl hl (by decide) rfl (fun ls hl => ?_)
  refine lv_iconst (v := 0) hx hb dX11_builtOnes_2 (by decide) ?_
  refine lv_istore_n (lv' := [(2, .int 0), (1, .int 0), (0, .ref m)]) hx hb dX11_builtOnes_3 rfl hl (by decide) rfl (fun ls hl => ?_)
  have hi_1 : onesL s g 0 = (0 : Int32) := by simp only [onesL, hcc, hdd]
  have loop_3 : ∀ (fu : Nat) (k : Nat), (c - k) < fu → (k ≤ c) → ∀ (H : Heap) (locs : List Loc) (ls : Array Slot), fR G ω H → va_S (fwA G) sS.heap H locs → lv_has ls 3 [(2, .int (nI k)), (1, .int (onesL s g k)), (0, .ref m)] → W pP l eE ({ frames := 0, cells := 0, slots := 0, locals := 0 } : Room) sS mI ar9 bl9 meth cD H locs 0 0 (MQ bl9 (fQ G (rI (onesM s g) ω)) ar9 sS 0 0 (fwA G)) (F0 mI 4 ls []) := by
    intro fu
    induction fu with
    | zero => intro k hfu; exact absurd hfu (Nat.not_lt_zero _)
    | succ fu ih =>
      intro k hfu hkk H locs ls hR hS hl
      refine lv_iload_n hx hb dX11_builtOnes_4 rfl (lv_at hl 0 rfl) ?_
      refine lv_aload_n hx hb dX11_builtOnes_5 rfl (lv_at hl 2 rfl) ?_
      refine fw_get (v := .ref (m + 1)) (C := RX11) (T := TX11) (N := 19) hx hb hts hin11 hown hK hR m0 rfl 0 (by decide) (hts (.fieldLink RX11 7 "UnreadLeafletsModel" "g" "[I") (by decide +kernel)) rfl dX11_builtOnes_6 ?_
      refine lv_iconst (v := 0) hx hb dX11_builtOnes_9 (by decide) ?_
      refine fw_iald hx hb hK hR m1 (vp_in_nI (n := 0) (by omega) (by omega)) dX11_builtOnes_10 ?_
      refine W.eq (g2 := F0 mI 11 ls [.int (g 0), .int (nI k)]) (by rw [show (0 : Int32).toNatClampNeg = 0 from rfl]) ?_
      refine lv_icmp_ge (tgt := 40) hx hb dX11_builtOnes_11 (by decide) (fun c_4 => ?_) (fun c_4 => ?_)
      · skip
        have hj9 := lp_ge (n := c) hc c_4 (by omega) (by omega)
        have hk9 : c = k := by omega
        subst hk9
        refine lv_iload_n hx hb dX11_builtOnes_40 rfl (lv_at hl 1 rfl) ?_
        have fr_5 : ∀ q : Nat, True → ω.2 q = ω.2 q := by
          intro q _
          rfl
        have z_6 : ω.1 = ω.1 := rfl
        have hr_7 : onesM s g = ((onesL s g c) : Int32) := by
          simp only [onesM, hcc, hdd]
        refine fw_iret hx hb hr hlocks hR hS dX11_builtOnes_41 (rI_mk hr_7.symm)
      · skip
        have hk2 := lp_lt (n := c) hc c_4 (by omega) (by omega)
        refine lv_iload_n hx hb dX11_builtOnes_14 rfl (lv_at hl 1 rfl) ?_
        refine lv_aload_n hx hb dX11_builtOnes_15 rfl (lv_at hl 2 rfl) ?_
        refine fw_get (v := .ref (m + 1)) (C := RX11) (T := TX11) (N := 19) hx hb hts hin11 hown hK hR m0 rfl 0 (by decide) (hts (.fieldLink RX11 7 "UnreadLeafletsModel" "g" "[I") (by decide +kernel)) rfl dX11_builtOnes_16 ?_
        refine lv_bipush (v := 42) hx hb dX11_builtOnes_19 (by decide) ?_
        refine lv_iload_n hx hb dX11_builtOnes_21 rfl (lv_at hl 0 rfl) ?_
        refine lv_iadd hx hb dX11_builtOnes_22 ?_
        have hi_8 : 42 + (nI k) = nI (42 + k) := by
          show (nI 42) + (nI k) = _
          simp only [pk_mul, nI_add, Nat.add_assoc, hc, hd]
        refine W.eq (g2 := F0 mI 23 ls [.int (nI (42 + k)), .ref (m + 1), .int (onesL s g k)]) (by rw [hi_8]) ?_
        refine fw_iald hx hb hK hR m1 (vp_in_nI (by omega) (by omega)) dX11_builtOnes_23 ?_
        refine W.eq (g2 := F0 mI 24 ls [.int (g (42 + k)), .int (onesL s g k)]) (by rw [nI_clamp (by omega)]) ?_
        refine lv_if_ne (tgt := 31) hx hb dX11_builtOnes_24 (by decide) (fun c_9 => ?_) (fun c_9 => ?_)
        · skip
          refine lv_iconst (v := 1) hx hb dX11_builtOnes_31 (by decide) ?_
          refine lv_iadd hx hb dX11_builtOnes_32 ?_
          refine lv_topi (fun x_10 ex_10 => ?_)
          refine lv_istore_n (lv' := [(1, .int x_10), (2, .int (nI k)), (0, .ref m)]) hx hb dX11_builtOnes_33 rfl hl (by decide) rfl (fun ls hl => ?_)
          obtain ⟨x_11, ex_11⟩ : ∃ y : Int32, y = (nI k) + 1 := ⟨_, rfl⟩
          refine lv_iinc (v := x_11) (lv' := [(2, .int x_11), (1, .int x_10), (0, .ref m)]) hx hb dX11_builtOnes_34 hl (k := 1) rfl (by rw [ex_11]; rfl) (by decide) rfl (fun ls hl => ?_)
          refine lv_goto (tgt := 4) hx hb dX11_builtOnes_37 (by decide) ?_
          have hr_12 : onesL s g (k + 1) = (x_10 : Int32) := by
            simp only [onesL, hcc, hdd, ex_10, ex_11]
            rw [if_neg c_9]
          have el_2 : x_11 = nI (k + 1) := by rw [ex_11]; exact nI_1 k
          have el_1 : x_10 = onesL s g (k + 1) := by rw [hr_12]
          have hl := lv_sub (l' := [(2, .int x_11), (1, .int x_10), (0, .ref m)]) hl [0, 1, 2] rfl
          rw [el_2, el_1] at hl
          exact ih (k + 1) (by omega) (by first | assumption | omega | (simp; done)) _ _ _ hR hS hl
        · skip
          refine lv_iconst (v := 0) hx hb dX11_builtOnes_27 (by decide) ?_
          refine lv_goto (tgt := 32) hx hb dX11_builtOnes_28 (by decide) ?_
          refine lv_iadd hx hb dX11_builtOnes_32 ?_
          refine lv_topi (fun x_13 ex_13 => ?_)
          refine lv_istore_n (lv' := [(1, .int x_13), (2, .int (nI k)), (0, .ref m)]) hx hb dX11_builtOnes_33 rfl hl (by decide) rfl (fun ls hl => ?_)
          obtain ⟨x_14, ex_14⟩ : ∃ y : Int32, y = (nI k) + 1 := ⟨_, rfl⟩
          refine lv_iinc (v := x_14) (lv' := [(2, .int x_14), (1, .int x_13), (0, .ref m)]) hx hb dX11_builtOnes_34 hl (k := 1) rfl (by rw [ex_14]; rfl) (by decide) rfl (fun ls hl => ?_)
          refine lv_goto (tgt := 4) hx hb dX11_builtOnes_37 (by decide) ?_
          have hr_15 : onesL s g (k + 1) = (x_13 : Int32) := by
            simp only [onesL, hcc, hdd, ex_13, ex_14]
            rw [if_pos c_9]
          have el_2 : x_14 = nI (k + 1) := by rw [ex_14]; exact nI_1 k
          have el_1 : x_13 = onesL s g (k + 1) := by rw [hr_15]
          have hl := lv_sub (l' := [(2, .int x_14), (1, .int x_13), (0, .ref m)]) hl [0, 1, 2] rfl
          rw [el_2, el_1] at hl
          exact ih (k + 1) (by omega) (by first | assumption | omega | (simp; done)) _ _ _ hR hS hl
  have h0_16 : (0 : Int32) = onesL s g 0 := by rw [hi_1]
  have hl : lv_has ls 3 [(2, .int 0), (1, .int (onesL s g 0)), (0, .ref m)] := by rw [← h0_16]; exact hl
  exact loop_3 _ 0 (Nat.lt_succ_self _) (by first | rfl | assumption | omega | (simp; done)) _ _ _ hR hS (lv_sub hl [0, 1, 2] rfl)
set_option maxHeartbeats 4000000 in
set_option maxRecDepth 100000 in
theorem c_X11_allSteps (G : FG) (hL : FL G) (l : Launch) (ω : FWd) (m : Nat) (s g : Nat → Int32) (m0 : ω.2 m = some (.inr (13, [.ref (m + 1), .ref (m + 2), .ref (m + 3), .int (s 3), .ref (m + 4), .int (s 5), .ref (m + 5), .int (s 7), .int (s 8), .int (s 9), .int (s 10), .int (s 11), .ref (m + 6), .int (s 13), .int (s 14), .ref (m + 7), .int (s 16), .int (s 17), .ref (m + 8)]))) (m1 : ω.2 (m + 1) = some (.inl (G.2.1 0, 324, .inl g))) (k : Nat) (hl8 : k < 8) : FMet G l yX11_allSteps wsX11_allSteps ({ frames := 0, cells := 0, slots := 0, locals := 0 } : Room) [.ref m, .int (nI k)] ω (rI (1 <<< (g (18 + k) &&& 31) - 1) ω) 0 0 := by
  refine fw_ofW (cc := cX11_allSteps) (maxL := 2) (ret := (some .int)) (by decide) rfl (Nat.le_of_ble_eq_true rfl) ?_
  intro pP eE sS mI ar9 bl9 meth cD ls hx hb hr hlocks hml hts hown hnm hW hR hl
  have hK := hL.K hW
  have hS : va_S (fwA G) sS.heap sS.heap [] := va_S.rf
  have hin11 : ∀ w ∈ u_ws RX11 TX11 19, w ∈ wsX11_allSteps := by decide +kernel
  have hl : lv_has ls 2 [(0, .ref m), (1, .int (nI k))] := hl
  refine lv_iconst (v := 1) hx hb dX11_allSteps_0 (by decide) ?_
  refine lv_aload_n hx hb dX11_allSteps_1 rfl (lv_at hl 0 rfl) ?_
  refine fw_get (v := .ref (m + 1)) (C := RX11) (T := TX11) (N := 19) hx hb hts hin11 hown hK hR m0 rfl 0 (by decide) (hts (.fieldLink RX11 7 "UnreadLeafletsModel" "g" "[I") (by decide +kernel)) rfl dX11_allSteps_2 ?_
  refine lv_bipush (v := 18) hx hb dX11_allSteps_5 (by decide) ?_
  refine lv_iload_n hx hb dX11_allSteps_7 rfl (lv_at hl 1 rfl) ?_
  refine lv_iadd hx hb dX11_allSteps_8 ?_
  have hi_1 : 18 + (nI k) = nI (18 + k) := by
    show (nI 18) + (nI k) = _
    simp only [pk_mul, nI_add]
  refine W.eq (g2 := F0 mI 9 ls [.int (nI (18 + k)), .ref (m + 1), .int 1]) (by rw [hi_1]) ?_
  refine fw_iald hx hb hK hR m1 (vp_in_nI (by omega) (by omega)) dX11_allSteps_9 ?_
  refine W.eq (g2 := F0 mI 10 ls [.int (g (18 + k)), .int 1]) (by rw [nI_clamp (by omega)]) ?_
  refine lv_ishl hx hb dX11_allSteps_10 ?_
  refine lv_iconst (v := 1) hx hb dX11_allSteps_11 (by decide) ?_
  refine lv_isub hx hb dX11_allSteps_12 ?_
  refine fw_iret hx hb hr hlocks hR hS dX11_allSteps_13 (rI_mk ?_)
  first | rfl | assumption | (simp_all [inB, hasB, usesB]; done) | omega
def leafOfM (s g nd : Nat → Int32) (lf : Int32) (wh : Int32) : Int32 × (Nat → Int32) × (Nat → Int32) := if inB lf 0 (g 0 - 1) then (if wh = 0 then (((g (18 + (cN lf))), (upd s 14 0), nd)) else (if wh = 1 then (((g (26 + (cN lf))), (upd s 14 0), nd)) else (if wh = 2 then (((openJ (g (18 + (cN lf))) (cN (g (26 + (cN lf))))), (upd s 14 0), nd)) else (if wh = 3 then (((g (34 + (cN lf))), (upd s 14 0), nd)) else (if wh = 4 then ((((g (42 + (cN lf))) - 1), (upd s 14 0), nd)) else (if wh = 5 then (((bitsJ (g (50 + (cN lf))) 8), (upd s 14 0), nd)) else (if wh = 6 then (((sumM g (cN lf) (1 <<< (g (18 + (cN lf)) &&& 31) - 1) (cN (g (18 + (cN lf))))), (upd s 14 0), (needM g (cN lf) (1 <<< (g (18 + (cN lf)) &&& 31) - 1) (clrJ nd 6) (cN (g (18 + (cN lf))))))) else (if wh = 7 then (((sumM g (cN lf) (g (50 + (cN lf))) (cN (g (18 + (cN lf))))), (upd s 14 0), (needM g (cN lf) (g (50 + (cN lf))) (clrJ nd 6) (cN (g (18 + (cN lf))))))) else ((0, (upd s 14 2), nd)))))))))) else ((0, (upd s 14 1), nd))
set_option maxHeartbeats 4000000 in
set_option maxRecDepth 100000 in
theorem c_X11_leafletOf (G : FG) (hL : FL G) (l : Launch) (ω : FWd) (m : Nat) (s g : Nat → Int32) (m0 : ω.2 m = some (.inr (13, [.ref (m + 1), .ref (m + 2), .ref (m + 3), .int (s 3), .ref (m + 4), .int (s 5), .ref (m + 5), .int (s 7), .int (s 8), .int (s 9), .int (s 10), .int (s 11), .ref (m + 6), .int (s 13), .int (s 14), .ref (m + 7), .int (s 16), .int (s 17), .ref (m + 8)]))) (m1 : ω.2 (m + 1) = some (.inl (G.2.1 0, 324, .inl g))) (nd : Nat → Int32) (m7 : ω.2 (m + 7) = some (.inl (G.2.1 0, 6, .inl nd))) (hM : WFM g) (lf : Int32) (wh : Int32) : FMet G l yX11_leafletOf wsX11_leafletOf ({ frames := 2, cells := 0, slots := 0, locals := 48 } : Room) [.ref m, .int lf, .int wh] ω (fun vv9 τ9 => vv9 = some (.int ((leafOfM s g nd lf wh).1)) ∧ τ9.1 = ω.1 ∧ τ9.2 m = some (.inr (13, [.ref (m + 1), .ref (m + 2), .ref (m + 3), .int (((leafOfM s g nd lf wh).2.1) 3), .ref (m + 4), .int (((leafOfM s g nd lf wh).2.1) 5), .ref (m + 5), .int (((leafOfM s g nd lf wh).2.1) 7), .int (((leafOfM s g nd lf wh).2.1) 8), .int (((leafOfM s g nd lf wh).2.1) 9), .int (((leafOfM s g nd lf wh).2.1) 10), .int (((leafOfM s g nd lf wh).2.1) 11), .ref (m + 6), .int (((leafOfM s g nd lf wh).2.1) 13), .int (((leafOfM s g nd lf wh).2.1) 14), .ref (m + 7), .int (((leafOfM s g nd lf wh).2.1) 16), .int (((leafOfM s g nd lf wh).2.1) 17), .ref (m + 8)])) ∧ τ9.2 (m + 7) = some (.inl (G.2.1 0, 6, .inl ((leafOfM s g nd lf wh).2.2))) ∧ ∀ q : Nat, ¬ q = m → ¬ q = (m + 7) → τ9.2 q = ω.2 q) 0 0 := by
  refine fw_ofW (cc := cX11_leafletOf) (maxL := 3) (ret := (some .int)) (by decide) rfl (Nat.le_of_ble_eq_true rfl) ?_
  intro pP eE sS mI ar9 bl9 meth cD ls hx hb hr hlocks hml hts hown hnm hW hR hl
  have hK := hL.K hW
  have hS : va_S (fwA G) sS.heap sS.heap [] := va_S.rf
  have hin11 : ∀ w ∈ u_ws RX11 TX11 19, w ∈ wsX11_leafletOf := by decide +kernel
  have hl : lv_has ls 3 [(0, .ref m), (1, .int lf), (2, .int wh)] := hl
  obtain ⟨c, hc8, hc, hcc⟩ := okN_of hM.1
  obtain ⟨cc, hd5, hd, hdd⟩ := okN_of hM.2.1
  refine lv_aload_n hx hb dX11_leafletOf_0 rfl (lv_at hl 0 rfl) ?_
  refine lv_iload_n hx hb dX11_leafletOf_1 rfl (lv_at hl 1 rfl) ?_
  refine fw_call (va_runV (As := [.int lf]) (rest := []) ⟨hx, hb, hml, hown, hts⟩ (c_X11_isLeaflet G hL l ω m s g m0 m1 lf) (cwV 1 hts gX11_leafletOf_X11_isLeaflet rfl rfl rfl (by decide +kernel) ⟨Nat.le_of_ble_eq_true rfl, Nat.le_of_ble_eq_true rfl⟩) (fw_preV hW hK hR m0 rfl) rfl rfl hl.1 rfl (lv_room (Nat.le_of_ble_eq_true rfl)) dX11_leafletOf_2 ⟨Nat.le_of_ble_eq_true rfl, Nat.le_of_ble_eq_true rfl⟩) hS (fun v_1 ω_2 H locs hq_3 hR hS => ?_)
  obtain ⟨rfl, hq_3⟩ := hq_3
  rw [hq_3] at hR
  refine W.eq (g2 := F0 mI 5 ls [.int (bz (inB lf 0 (g 0 - 1)))]) rfl ?_
  refine lv_if_ne (tgt := 14) hx hb dX11_leafletOf_5 (by decide) (fun c_4 => ?_) (fun c_4 => ?_)
  · skip
    have c_4 := bz_ne c_4
    obtain ⟨j, hj2, rfl⟩ := in_c hc hc8 c_4
    have hcj : cN (nI j) = j := cN_nI (by omega)
    obtain ⟨n, hn8, hn, hnn⟩ := okN_of (hM.2.2 j (by rw [hcc]; exact hj2)).1
    obtain ⟨f, hf3, hff, hfn⟩ := okN_of (hM.2.2 j (by rw [hcc]; exact hj2)).2.1
    have hkd : ∀ q, q < n → g (68 + 8 * j + q) = nI (cN (g (68 + 8 * j + q))) ∧ cN (g (68 + 8 * j + q)) < 6 := fun q hq => by have h9 := (hM.2.2 j (by rw [hcc]; exact hj2)).2.2 q (by rw [hnn]; exact hq); exact ⟨h9.1, Nat.lt_succ_of_le h9.2⟩
    refine lv_iload_n hx hb dX11_leafletOf_14 rfl (lv_at hl 2 rfl) ?_
    by_cases c_5 : wh = 0
    · skip
      refine lv_tableIn (off := 45) (tgt := 60) hx hb dX11_leafletOf_15 (by rw [c_5]; decide) (by rw [c_5]; decide) (by rw [c_5]; rfl) (by decide) ?_
      refine lv_aload_n hx hb dX11_leafletOf_60 rfl (lv_at hl 0 rfl) ?_
      refine lv_aload_n hx hb dX11_leafletOf_61 rfl (lv_at hl 0 rfl) ?_
      refine fw_get (v := .ref (m + 1)) (C := RX11) (T := TX11) (N := 19) hx hb hts hin11 hown hK hR m0 rfl 0 (by decide) (hts (.fieldLink RX11 7 "UnreadLeafletsModel" "g" "[I") (by decide +kernel)) rfl dX11_leafletOf_62 ?_
      refine lv_bipush (v := 18) hx hb dX11_leafletOf_65 (by decide) ?_
      refine lv_iload_n hx hb dX11_leafletOf_67 rfl (lv_at hl 1 rfl) ?_
      refine lv_iadd hx hb dX11_leafletOf_68 ?_
      have hi_6 : 18 + (nI j) = nI (18 + j) := by
        show (nI 18) + (nI j) = _
        simp only [pk_mul, nI_add, Nat.add_assoc, hc, hd, hn, hff]
      refine W.eq (g2 := F0 mI 69 ls [.int (nI (18 + j)), .ref (m + 1), .ref m]) (by rw [hi_6]) ?_
      refine fw_iald hx hb hK hR m1 (vp_in_nI (by omega) (by omega)) dX11_leafletOf_69 ?_
      refine W.eq (g2 := F0 mI 70 ls [.int (g (18 + j)), .ref m]) (by rw [nI_clamp (by omega)]) ?_
      refine fw_call (va_runV (As := [.int (g (18 + j))]) (rest := []) ⟨hx, hb, hml, hown, hts⟩ (c_X11_done G hL l ω m s g m0 m1 (g (18 + j))) (cwV 1 hts gX11_leafletOf_X11_done rfl rfl rfl (by decide +kernel) ⟨Nat.le_of_ble_eq_true rfl, Nat.le_of_ble_eq_true rfl⟩) (fw_preV hW hK hR m0 rfl) rfl rfl hl.1 rfl (lv_room (Nat.le_of_ble_eq_true rfl)) dX11_leafletOf_70 ⟨Nat.le_of_ble_eq_true rfl, Nat.le_of_ble_eq_true rfl⟩) hS (fun v_7 ω_8 H locs hq_9 hR hS => ?_)
      obtain ⟨rfl, z_10, f_12, fr_11⟩ := hq_9
      refine W.eq (g2 := F0 mI 73 ls [.int (g (18 + j))]) rfl ?_
      have f_13 : ω_8.2 (m + 7) = some (.inl (G.2.1 0, 6, .inl nd)) := (fr_11 (m + 7) (by omega)).trans m7
      have fr_14 : ∀ q : Nat, ¬ q = m → ¬ q = (m + 7) → ω_8.2 q = ω.2 q := by
        intro q h0 h1
        rw [fr_11 q (by omega)]
      have z_15 : ω_8.1 = ω.1 := by rw [z_10]
      have hr_16 : leafOfM s g nd (nI j) wh = (((g (18 + j)), (upd s 14 0), nd) : Int32 × (Nat → Int32) × (Nat → Int32)) := by
        simp only [leafOfM, hcc, hdd, hcj, hnn, hfn]
        rw [if_pos c_4, if_pos c_5]
      refine fw_iret hx hb hr hlocks hR hS dX11_leafletOf_73 ?_
      rw [hr_16]
      exact ⟨rfl, z_15, f_12, f_13, fr_14⟩
    by_cases c_17 : wh = 1
    · skip
      refine lv_tableIn (off := 59) (tgt := 74) hx hb dX11_leafletOf_15 (by rw [c_17]; decide) (by rw [c_17]; decide) (by rw [c_17]; rfl) (by decide) ?_
      refine lv_aload_n hx hb dX11_leafletOf_74 rfl (lv_at hl 0 rfl) ?_
      refine lv_aload_n hx hb dX11_leafletOf_75 rfl (lv_at hl 0 rfl) ?_
      refine fw_get (v := .ref (m + 1)) (C := RX11) (T := TX11) (N := 19) hx hb hts hin11 hown hK hR m0 rfl 0 (by decide) (hts (.fieldLink RX11 7 "UnreadLeafletsModel" "g" "[I") (by decide +kernel)) rfl dX11_leafletOf_76 ?_
      refine lv_bipush (v := 26) hx hb dX11_leafletOf_79 (by decide) ?_
      refine lv_iload_n hx hb dX11_leafletOf_81 rfl (lv_at hl 1 rfl) ?_
      refine lv_iadd hx hb dX11_leafletOf_82 ?_
      have hi_18 : 26 + (nI j) = nI (26 + j) := by
        show (nI 26) + (nI j) = _
        simp only [pk_mul, nI_add, Nat.add_assoc, hc, hd, hn, hff]
      refine W.eq (g2 := F0 mI 83 ls [.int (nI (26 + j)), .ref (m + 1), .ref m]) (by rw [hi_18]) ?_
      refine fw_iald hx hb hK hR m1 (vp_in_nI (by omega) (by omega)) dX11_leafletOf_83 ?_
      refine W.eq (g2 := F0 mI 84 ls [.int (g (26 + j)), .ref m]) (by rw [nI_clamp (by omega)]) ?_
      refine fw_call (va_runV (As := [.int (g (26 + j))]) (rest := []) ⟨hx, hb, hml, hown, hts⟩ (c_X11_done G hL l ω m s g m0 m1 (g (26 + j))) (cwV 1 hts gX11_leafletOf_X11_done rfl rfl rfl (by decide +kernel) ⟨Nat.le_of_ble_eq_true rfl, Nat.le_of_ble_eq_true rfl⟩) (fw_preV hW hK hR m0 rfl) rfl rfl hl.1 rfl (lv_room (Nat.le_of_ble_eq_true rfl)) dX11_leafletOf_84 ⟨Nat.le_of_ble_eq_true rfl, Nat.le_of_ble_eq_true rfl⟩) hS (fun v_19 ω_20 H locs hq_21 hR hS => ?_)
      obtain ⟨rfl, z_22, f_24, fr_23⟩ := hq_21
      refine W.eq (g2 := F0 mI 87 ls [.int (g (26 + j))]) rfl ?_
      have f_25 : ω_20.2 (m + 7) = some (.inl (G.2.1 0, 6, .inl nd)) := (fr_23 (m + 7) (by omega)).trans m7
      have fr_26 : ∀ q : Nat, ¬ q = m → ¬ q = (m + 7) → ω_20.2 q = ω.2 q := by
        intro q h0 h1
        rw [fr_23 q (by omega)]
      have z_27 : ω_20.1 = ω.1 := by rw [z_22]
      have hr_28 : leafOfM s g nd (nI j) wh = (((g (26 + j)), (upd s 14 0), nd) : Int32 × (Nat → Int32) × (Nat → Int32)) := by
        simp only [leafOfM, hcc, hdd, hcj, hnn, hfn]
        rw [if_pos c_4, if_neg c_5, if_pos c_17]
      refine fw_iret hx hb hr hlocks hR hS dX11_leafletOf_87 ?_
      rw [hr_28]
      exact ⟨rfl, z_27, f_24, f_25, fr_26⟩
    by_cases c_29 : wh = 2
    · skip
      refine lv_tableIn (off := 73) (tgt := 88) hx hb dX11_leafletOf_15 (by rw [c_29]; decide) (by rw [c_29]; decide) (by rw [c_29]; rfl) (by decide) ?_
      refine lv_aload_n hx hb dX11_leafletOf_88 rfl (lv_at hl 0 rfl) ?_
      refine lv_aload_n hx hb dX11_leafletOf_89 rfl (lv_at hl 0 rfl) ?_
      refine lv_iload_n hx hb dX11_leafletOf_90 rfl (lv_at hl 1 rfl) ?_
      refine fw_call (va_runV (As := [.int (nI j)]) (rest := [.ref m]) ⟨hx, hb, hml, hown, hts⟩ (c_X11_open G hL l ω m s g m0 m1 j (by omega) f hf3 hff) (cwV 1 hts gX11_leafletOf_X11_open rfl rfl rfl (by decide +kernel) ⟨Nat.le_of_ble_eq_true rfl, Nat.le_of_ble_eq_true rfl⟩) (fw_preV hW hK hR m0 rfl) rfl rfl hl.1 rfl (lv_room (Nat.le_of_ble_eq_true rfl)) dX11_leafletOf_91 ⟨Nat.le_of_ble_eq_true rfl, Nat.le_of_ble_eq_true rfl⟩) hS (fun v_30 ω_31 H locs hq_32 hR hS => ?_)
      obtain ⟨rfl, hq_32⟩ := hq_32
      rw [hq_32] at hR
      refine W.eq (g2 := F0 mI 94 ls [.int (openJ (g (18 + j)) f), .ref m]) rfl ?_
      refine fw_call (va_runV (As := [.int (openJ (g (18 + j)) f)]) (rest := []) ⟨hx, hb, hml, hown, hts⟩ (c_X11_done G hL l ω m s g m0 m1 (openJ (g (18 + j)) f)) (cwV 1 hts gX11_leafletOf_X11_done rfl rfl rfl (by decide +kernel) ⟨Nat.le_of_ble_eq_true rfl, Nat.le_of_ble_eq_true rfl⟩) (fw_preV hW hK hR m0 rfl) rfl rfl hl.1 rfl (lv_room (Nat.le_of_ble_eq_true rfl)) dX11_leafletOf_94 ⟨Nat.le_of_ble_eq_true rfl, Nat.le_of_ble_eq_true rfl⟩) hS (fun v_33 ω_34 H locs hq_35 hR hS => ?_)
      obtain ⟨rfl, z_36, f_38, fr_37⟩ := hq_35
      refine W.eq (g2 := F0 mI 97 ls [.int (openJ (g (18 + j)) f)]) rfl ?_
      have f_39 : ω_34.2 (m + 7) = some (.inl (G.2.1 0, 6, .inl nd)) := (fr_37 (m + 7) (by omega)).trans m7
      have fr_40 : ∀ q : Nat, ¬ q = m → ¬ q = (m + 7) → ω_34.2 q = ω.2 q := by
        intro q h0 h1
        rw [fr_37 q (by omega)]
      have z_41 : ω_34.1 = ω.1 := by rw [z_36]
      have hr_42 : leafOfM s g nd (nI j) wh = (((openJ (g (18 + j)) f), (upd s 14 0), nd) : Int32 × (Nat → Int32) × (Nat → Int32)) := by
        simp only [leafOfM, hcc, hdd, hcj, hnn, hfn]
        rw [if_pos c_4, if_neg c_5, if_neg c_17, if_pos c_29]
      refine fw_iret hx hb hr hlocks hR hS dX11_leafletOf_97 ?_
      rw [hr_42]
      exact ⟨rfl, z_41, f_38, f_39, fr_40⟩
    by_cases c_43 : wh = 3
    · skip
      refine lv_tableIn (off := 83) (tgt := 98) hx hb dX11_leafletOf_15 (by rw [c_43]; decide) (by rw [c_43]; decide) (by rw [c_43]; rfl) (by decide) ?_
      refine lv_aload_n hx hb dX11_leafletOf_98 rfl (lv_at hl 0 rfl) ?_
      refine lv_aload_n hx hb dX11_leafletOf_99 rfl (lv_at hl 0 rfl) ?_
      refine fw_get (v := .ref (m + 1)) (C := RX11) (T := TX11) (N := 19) hx hb hts hin11 hown hK hR m0 rfl 0 (by decide) (hts (.fieldLink RX11 7 "UnreadLeafletsModel" "g" "[I") (by decide +kernel)) rfl dX11_leafletOf_100 ?_
      refine lv_bipush (v := 34) hx hb dX11_leafletOf_103 (by decide) ?_
      refine lv_iload_n hx hb dX11_leafletOf_105 rfl (lv_at hl 1 rfl) ?_
      refine lv_iadd hx hb dX11_leafletOf_106 ?_
      have hi_44 : 34 + (nI j) = nI (34 + j) := by
        show (nI 34) + (nI j) = _
        simp only [pk_mul, nI_add, Nat.add_assoc, hc, hd, hn, hff]
      refine W.eq (g2 := F0 mI 107 ls [.int (nI (34 + j)), .ref (m + 1), .ref m]) (by rw [hi_44]) ?_
      refine fw_iald hx hb hK hR m1 (vp_in_nI (by omega) (by omega)) dX11_leafletOf_107 ?_
      refine W.eq (g2 := F0 mI 108 ls [.int (g (34 + j)), .ref m]) (by rw [nI_clamp (by omega)]) ?_
      refine fw_call (va_runV (As := [.int (g (34 + j))]) (rest := []) ⟨hx, hb, hml, hown, hts⟩ (c_X11_done G hL l ω m s g m0 m1 (g (34 + j))) (cwV 1 hts gX11_leafletOf_X11_done rfl rfl rfl (by decide +kernel) ⟨Nat.le_of_ble_eq_true rfl, Nat.le_of_ble_eq_true rfl⟩) (fw_preV hW hK hR m0 rfl) rfl rfl hl.1 rfl (lv_room (Nat.le_of_ble_eq_true rfl)) dX11_leafletOf_108 ⟨Nat.le_of_ble_eq_true rfl, Nat.le_of_ble_eq_true rfl⟩) hS (fun v_45 ω_46 H locs hq_47 hR hS => ?_)
      obtain ⟨rfl, z_48, f_50, fr_49⟩ := hq_47
      refine W.eq (g2 := F0 mI 111 ls [.int (g (34 + j))]) rfl ?_
      have f_51 : ω_46.2 (m + 7) = some (.inl (G.2.1 0, 6, .inl nd)) := (fr_49 (m + 7) (by omega)).trans m7
      have fr_52 : ∀ q : Nat, ¬ q = m → ¬ q = (m + 7) → ω_46.2 q = ω.2 q := by
        intro q h0 h1
        rw [fr_49 q (by omega)]
      have z_53 : ω_46.1 = ω.1 := by rw [z_48]
      have hr_54 : leafOfM s g nd (nI j) wh = (((g (34 + j)), (upd s 14 0), nd) : Int32 × (Nat → Int32) × (Nat → Int32)) := by
        simp only [leafOfM, hcc, hdd, hcj, hnn, hfn]
        rw [if_pos c_4, if_neg c_5, if_neg c_17, if_neg c_29, if_pos c_43]
      refine fw_iret hx hb hr hlocks hR hS dX11_leafletOf_111 ?_
      rw [hr_54]
      exact ⟨rfl, z_53, f_50, f_51, fr_52⟩
    by_cases c_55 : wh = 4
    · skip
      refine lv_tableIn (off := 97) (tgt := 112) hx hb dX11_leafletOf_15 (by rw [c_55]; decide) (by rw [c_55]; decide) (by rw [c_55]; rfl) (by decide) ?_
      refine lv_aload_n hx hb dX11_leafletOf_112 rfl (lv_at hl 0 rfl) ?_
      refine lv_aload_n hx hb dX11_leafletOf_113 rfl (lv_at hl 0 rfl) ?_
      refine fw_get (v := .ref (m + 1)) (C := RX11) (T := TX11) (N := 19) hx hb hts hin11 hown hK hR m0 rfl 0 (by decide) (hts (.fieldLink RX11 7 "UnreadLeafletsModel" "g" "[I") (by decide +kernel)) rfl dX11_leafletOf_114 ?_
      refine lv_bipush (v := 42) hx hb dX11_leafletOf_117 (by decide) ?_
      refine lv_iload_n hx hb dX11_leafletOf_119 rfl (lv_at hl 1 rfl) ?_
      refine lv_iadd hx hb dX11_leafletOf_120 ?_
      have hi_56 : 42 + (nI j) = nI (42 + j) := by
        show (nI 42) + (nI j) = _
        simp only [pk_mul, nI_add, Nat.add_assoc, hc, hd, hn, hff]
      refine W.eq (g2 := F0 mI 121 ls [.int (nI (42 + j)), .ref (m + 1), .ref m]) (by rw [hi_56]) ?_
      refine fw_iald hx hb hK hR m1 (vp_in_nI (by omega) (by omega)) dX11_leafletOf_121 ?_
      refine W.eq (g2 := F0 mI 122 ls [.int (g (42 + j)), .ref m]) (by rw [nI_clamp (by omega)]) ?_
      refine lv_iconst (v := 1) hx hb dX11_leafletOf_122 (by decide) ?_
      refine lv_isub hx hb dX11_leafletOf_123 ?_
      refine fw_call (va_runV (As := [.int ((g (42 + j)) - 1)]) (rest := []) ⟨hx, hb, hml, hown, hts⟩ (c_X11_done G hL l ω m s g m0 m1 ((g (42 + j)) - 1)) (cwV 1 hts gX11_leafletOf_X11_done rfl rfl rfl (by decide +kernel) ⟨Nat.le_of_ble_eq_true rfl, Nat.le_of_ble_eq_true rfl⟩) (fw_preV hW hK hR m0 rfl) rfl rfl hl.1 rfl (lv_room (Nat.le_of_ble_eq_true rfl)) dX11_leafletOf_124 ⟨Nat.le_of_ble_eq_true rfl, Nat.le_of_ble_eq_true rfl⟩) hS (fun v_57 ω_58 H locs hq_59 hR hS => ?_)
      obtain ⟨rfl, z_60, f_62, fr_61⟩ := hq_59
      refine W.eq (g2 := F0 mI 127 ls [.int ((g (42 + j)) - 1)]) rfl ?_
      have f_63 : ω_58.2 (m + 7) = some (.inl (G.2.1 0, 6, .inl nd)) := (fr_61 (m + 7) (by omega)).trans m7
      have fr_64 : ∀ q : Nat, ¬ q = m → ¬ q = (m + 7) → ω_58.2 q = ω.2 q := by
        intro q h0 h1
        rw [fr_61 q (by omega)]
      have z_65 : ω_58.1 = ω.1 := by rw [z_60]
      have hr_66 : leafOfM s g nd (nI j) wh = ((((g (42 + j)) - 1), (upd s 14 0), nd) : Int32 × (Nat → Int32) × (Nat → Int32)) := by
        simp only [leafOfM, hcc, hdd, hcj, hnn, hfn]
        rw [if_pos c_4, if_neg c_5, if_neg c_17, if_neg c_29, if_neg c_43, if_pos c_55]
      refine fw_iret hx hb hr hlocks hR hS dX11_leafletOf_127 ?_
      rw [hr_66]
      exact ⟨rfl, z_65, f_62, f_63, fr_64⟩
    by_cases c_67 : wh = 5
    · skip
      refine lv_tableIn (off := 113) (tgt := 128) hx hb dX11_leafletOf_15 (by rw [c_67]; decide) (by rw [c_67]; decide) (by rw [c_67]; rfl) (by decide) ?_
      refine lv_aload_n hx hb dX11_leafletOf_128 rfl (lv_at hl 0 rfl) ?_
      refine lv_aload_n hx hb dX11_leafletOf_129 rfl (lv_at hl 0 rfl) ?_
      refine fw_get (v := .ref (m + 1)) (C := RX11) (T := TX11) (N := 19) hx hb hts hin11 hown hK hR m0 rfl 0 (by decide) (hts (.fieldLink RX11 7 "UnreadLeafletsModel" "g" "[I") (by decide +kernel)) rfl dX11_leafletOf_130 ?_
      refine lv_bipush (v := 50) hx hb dX11_leafletOf_133 (by decide) ?_
      refine lv_iload_n hx hb dX11_leafletOf_135 rfl (lv_at hl 1 rfl) ?_
      refine lv_iadd hx hb dX11_leafletOf_136 ?_
      have hi_68 : 50 + (nI j) = nI (50 + j) := by
        show (nI 50) + (nI j) = _
        simp only [pk_mul, nI_add, Nat.add_assoc, hc, hd, hn, hff]
      refine W.eq (g2 := F0 mI 137 ls [.int (nI (50 + j)), .ref (m + 1), .ref m]) (by rw [hi_68]) ?_
      refine fw_iald hx hb hK hR m1 (vp_in_nI (by omega) (by omega)) dX11_leafletOf_137 ?_
      refine W.eq (g2 := F0 mI 138 ls [.int (g (50 + j)), .ref m]) (by rw [nI_clamp (by omega)]) ?_
      refine fw_call (va_runS (As := [.int (g (50 + j))]) (rest := [.ref m]) ⟨hx, hb, hml, hown, hts⟩ (c_X11_bits G hL l ω (g (50 + j))) (va_cwS 1 hts gX11_leafletOf_X11_bits rfl rfl rfl (by decide +kernel) ⟨Nat.le_of_ble_eq_true rfl, Nat.le_of_ble_eq_true rfl⟩) (fw_preS hW hR) rfl rfl hl.1 rfl (lv_room (Nat.le_of_ble_eq_true rfl)) dX11_leafletOf_138 ⟨Nat.le_of_ble_eq_true rfl, Nat.le_of_ble_eq_true rfl⟩) hS (fun v_69 ω_70 H locs hq_71 hR hS => ?_)
      obtain ⟨rfl, hq_71⟩ := hq_71
      rw [hq_71] at hR
      refine W.eq (g2 := F0 mI 141 ls [.int (bitsJ (g (50 + j)) 8), .ref m]) rfl ?_
      refine fw_call (va_runV (As := [.int (bitsJ (g (50 + j)) 8)]) (rest := []) ⟨hx, hb, hml, hown, hts⟩ (c_X11_done G hL l ω m s g m0 m1 (bitsJ (g (50 + j)) 8)) (cwV 1 hts gX11_leafletOf_X11_done rfl rfl rfl (by decide +kernel) ⟨Nat.le_of_ble_eq_true rfl, Nat.le_of_ble_eq_true rfl⟩) (fw_preV hW hK hR m0 rfl) rfl rfl hl.1 rfl (lv_room (Nat.le_of_ble_eq_true rfl)) dX11_leafletOf_141 ⟨Nat.le_of_ble_eq_true rfl, Nat.le_of_ble_eq_true rfl⟩) hS (fun v_72 ω_73 H locs hq_74 hR hS => ?_)
      obtain ⟨rfl, z_75, f_77, fr_76⟩ := hq_74
      refine W.eq (g2 := F0 mI 144 ls [.int (bitsJ (g (50 + j)) 8)]) rfl ?_
      have f_78 : ω_73.2 (m + 7) = some (.inl (G.2.1 0, 6, .inl nd)) := (fr_76 (m + 7) (by omega)).trans m7
      have fr_79 : ∀ q : Nat, ¬ q = m → ¬ q = (m + 7) → ω_73.2 q = ω.2 q := by
        intro q h0 h1
        rw [fr_76 q (by omega)]
      have z_80 : ω_73.1 = ω.1 := by rw [z_75]
      have hr_81 : leafOfM s g nd (nI j) wh = (((bitsJ (g (50 + j)) 8), (upd s 14 0), nd) : Int32 × (Nat → Int32) × (Nat → Int32)) := by
        simp only [leafOfM, hcc, hdd, hcj, hnn, hfn]
        rw [if_pos c_4, if_neg c_5, if_neg c_17, if_neg c_29, if_neg c_43, if_neg c_55, if_pos c_67]
      refine fw_iret hx hb hr hlocks hR hS dX11_leafletOf_144 ?_
      rw [hr_81]
      exact ⟨rfl, z_80, f_77, f_78, fr_79⟩
    by_cases c_82 : wh = 6
    · skip
      refine lv_tableIn (off := 130) (tgt := 145) hx hb dX11_leafletOf_15 (by rw [c_82]; decide) (by rw [c_82]; decide) (by rw [c_82]; rfl) (by decide) ?_
      refine lv_aload_n hx hb dX11_leafletOf_145 rfl (lv_at hl 0 rfl) ?_
      refine lv_aload_n hx hb dX11_leafletOf_146 rfl (lv_at hl 0 rfl) ?_
      refine lv_iload_n hx hb dX11_leafletOf_147 rfl (lv_at hl 1 rfl) ?_
      refine lv_aload_n hx hb dX11_leafletOf_148 rfl (lv_at hl 0 rfl) ?_
      refine lv_iload_n hx hb dX11_leafletOf_149 rfl (lv_at hl 1 rfl) ?_
      refine fw_call (va_runV (As := [.int (nI j)]) (rest := [.int (nI j), .ref m, .ref m]) ⟨hx, hb, hml, hown, hts⟩ (c_X11_allSteps G hL l ω m s g m0 m1 j (by omega)) (cwV 1 hts gX11_leafletOf_X11_allSteps rfl rfl rfl (by decide +kernel) ⟨Nat.le_of_ble_eq_true rfl, Nat.le_of_ble_eq_true rfl⟩) (fw_preV hW hK hR m0 rfl) rfl rfl hl.1 rfl (lv_room (Nat.le_of_ble_eq_true rfl)) dX11_leafletOf_150 ⟨Nat.le_of_ble_eq_true rfl, Nat.le_of_ble_eq_true rfl⟩) hS (fun v_83 ω_84 H locs hq_85 hR hS => ?_)
      obtain ⟨rfl, hq_85⟩ := hq_85
      rw [hq_85] at hR
      refine W.eq (g2 := F0 mI 153 ls [.int (1 <<< (g (18 + j) &&& 31) - 1), .int (nI j), .ref m, .ref m]) rfl ?_
      refine fw_call (va_runV (As := [.int (nI j), .int (1 <<< (g (18 + j) &&& 31) - 1)]) (rest := [.ref m]) ⟨hx, hb, hml, hown, hts⟩ (c_X11_needsFor G hL l ω m s g m0 m1 nd m7 j (by omega) (1 <<< (g (18 + j) &&& 31) - 1) n hn hn8 hkd) (cwV 2 hts gX11_leafletOf_X11_needsFor rfl rfl rfl (by decide +kernel) ⟨Nat.le_of_ble_eq_true rfl, Nat.le_of_ble_eq_true rfl⟩) (fw_preV hW hK hR m0 rfl) rfl rfl hl.1 rfl (lv_room (Nat.le_of_ble_eq_true rfl)) dX11_leafletOf_153 ⟨Nat.le_of_ble_eq_true rfl, Nat.le_of_ble_eq_true rfl⟩) hS (fun v_86 ω_87 H locs hq_88 hR hS => ?_)
      obtain ⟨rfl, z_89, f_91, fr_90⟩ := hq_88
      refine W.eq (g2 := F0 mI 156 ls [.int (sumM g j (1 <<< (g (18 + j) &&& 31) - 1) n), .ref m]) rfl ?_
      have f_92 : ω_87.2 m = some (.inr (13, [.ref (m + 1), .ref (m + 2), .ref (m + 3), .int (s 3), .ref (m + 4), .int (s 5), .ref (m + 5), .int (s 7), .int (s 8), .int (s 9), .int (s 10), .int (s 11), .ref (m + 6), .int (s 13), .int (s 14), .ref (m + 7), .int (s 16), .int (s 17), .ref (m + 8)])) := (fr_90 m (by omega)).trans m0
      have f_93 : ω_87.2 (m + 1) = some (.inl (G.2.1 0, 324, .inl g)) := (fr_90 (m + 1) (by omega)).trans m1
      refine fw_call (va_runV (As := [.int (sumM g j (1 <<< (g (18 + j) &&& 31) - 1) n)]) (rest := []) ⟨hx, hb, hml, hown, hts⟩ (c_X11_done G hL l ω_87 m s g f_92 f_93 (sumM g j (1 <<< (g (18 + j) &&& 31) - 1) n)) (cwV 1 hts gX11_leafletOf_X11_done rfl rfl rfl (by decide +kernel) ⟨Nat.le_of_ble_eq_true rfl, Nat.le_of_ble_eq_true rfl⟩) (fw_preV hW hK hR f_92 rfl) rfl rfl hl.1 rfl (lv_room (Nat.le_of_ble_eq_true rfl)) dX11_leafletOf_156 ⟨Nat.le_of_ble_eq_true rfl, Nat.le_of_ble_eq_true rfl⟩) hS (fun v_94 ω_95 H locs hq_96 hR hS => ?_)
      obtain ⟨rfl, z_97, f_99, fr_98⟩ := hq_96
      refine W.eq (g2 := F0 mI 159 ls [.int (sumM g j (1 <<< (g (18 + j) &&& 31) - 1) n)]) rfl ?_
      have f_100 : ω_95.2 (m + 7) = some (.inl (G.2.1 0, 6, .inl (needM g j (1 <<< (g (18 + j) &&& 31) - 1) (clrJ nd 6) n))) := (fr_98 (m + 7) (by omega)).trans f_91
      have fr_101 : ∀ q : Nat, ¬ q = m → ¬ q = (m + 7) → ω_95.2 q = ω.2 q := by
        intro q h0 h1
        rw [fr_98 q (by omega)]
        rw [fr_90 q (by omega)]
      have z_102 : ω_95.1 = ω.1 := by rw [z_97, z_89]
      have hr_103 : leafOfM s g nd (nI j) wh = (((sumM g j (1 <<< (g (18 + j) &&& 31) - 1) n), (upd s 14 0), (needM g j (1 <<< (g (18 + j) &&& 31) - 1) (clrJ nd 6) n)) : Int32 × (Nat → Int32) × (Nat → Int32)) := by
        simp only [leafOfM, hcc, hdd, hcj, hnn, hfn]
        rw [if_pos c_4, if_neg c_5, if_neg c_17, if_neg c_29, if_neg c_43, if_neg c_55, if_neg c_67, if_pos c_82]
      refine fw_iret hx hb hr hlocks hR hS dX11_leafletOf_159 ?_
      rw [hr_103]
      exact ⟨rfl, z_102, f_99, f_100, fr_101⟩
    by_cases c_104 : wh = 7
    · skip
      refine lv_tableIn (off := 145) (tgt := 160) hx hb dX11_leafletOf_15 (by rw [c_104]; decide) (by rw [c_104]; decide) (by rw [c_104]; rfl) (by decide) ?_
      refine lv_aload_n hx hb dX11_leafletOf_160 rfl (lv_at hl 0 rfl) ?_
      refine lv_aload_n hx hb dX11_leafletOf_161 rfl (lv_at hl 0 rfl) ?_
      refine lv_iload_n hx hb dX11_leafletOf_162 rfl (lv_at hl 1 rfl) ?_
      refine lv_aload_n hx hb dX11_leafletOf_163 rfl (lv_at hl 0 rfl) ?_
      refine fw_get (v := .ref (m + 1)) (C := RX11) (T := TX11) (N := 19) hx hb hts hin11 hown hK hR m0 rfl 0 (by decide) (hts (.fieldLink RX11 7 "UnreadLeafletsModel" "g" "[I") (by decide +kernel)) rfl dX11_leafletOf_164 ?_
      refine lv_bipush (v := 50) hx hb dX11_leafletOf_167 (by decide) ?_
      refine lv_iload_n hx hb dX11_leafletOf_169 rfl (lv_at hl 1 rfl) ?_
      refine lv_iadd hx hb dX11_leafletOf_170 ?_
      have hi_105 : 50 + (nI j) = nI (50 + j) := by
        show (nI 50) + (nI j) = _
        simp only [pk_mul, nI_add, Nat.add_assoc, hc, hd, hn, hff]
      refine W.eq (g2 := F0 mI 171 ls [.int (nI (50 + j)), .ref (m + 1), .int (nI j), .ref m, .ref m]) (by rw [hi_105]) ?_
      refine fw_iald hx hb hK hR m1 (vp_in_nI (by omega) (by omega)) dX11_leafletOf_171 ?_
      refine W.eq (g2 := F0 mI 172 ls [.int (g (50 + j)), .int (nI j), .ref m, .ref m]) (by rw [nI_clamp (by omega)]) ?_
      refine fw_call (va_runV (As := [.int (nI j), .int (g (50 + j))]) (rest := [.ref m]) ⟨hx, hb, hml, hown, hts⟩ (c_X11_needsFor G hL l ω m s g m0 m1 nd m7 j (by omega) (g (50 + j)) n hn hn8 hkd) (cwV 2 hts gX11_leafletOf_X11_needsFor rfl rfl rfl (by decide +kernel) ⟨Nat.le_of_ble_eq_true rfl, Nat.le_of_ble_eq_true rfl⟩) (fw_preV hW hK hR m0 rfl) rfl rfl hl.1 rfl (lv_room (Nat.le_of_ble_eq_true rfl)) dX11_leafletOf_172 ⟨Nat.le_of_ble_eq_true rfl, Nat.le_of_ble_eq_true rfl⟩) hS (fun v_106 ω_107 H locs hq_108 hR hS => ?_)
      obtain ⟨rfl, z_109, f_111, fr_110⟩ := hq_108
      refine W.eq (g2 := F0 mI 175 ls [.int (sumM g j (g (50 + j)) n), .ref m]) rfl ?_
      have f_112 : ω_107.2 m = some (.inr (13, [.ref (m + 1), .ref (m + 2), .ref (m + 3), .int (s 3), .ref (m + 4), .int (s 5), .ref (m + 5), .int (s 7), .int (s 8), .int (s 9), .int (s 10), .int (s 11), .ref (m + 6), .int (s 13), .int (s 14), .ref (m + 7), .int (s 16), .int (s 17), .ref (m + 8)])) := (fr_110 m (by omega)).trans m0
      have f_113 : ω_107.2 (m + 1) = some (.inl (G.2.1 0, 324, .inl g)) := (fr_110 (m + 1) (by omega)).trans m1
      refine fw_call (va_runV (As := [.int (sumM g j (g (50 + j)) n)]) (rest := []) ⟨hx, hb, hml, hown, hts⟩ (c_X11_done G hL l ω_107 m s g f_112 f_113 (sumM g j (g (50 + j)) n)) (cwV 1 hts gX11_leafletOf_X11_done rfl rfl rfl (by decide +kernel) ⟨Nat.le_of_ble_eq_true rfl, Nat.le_of_ble_eq_true rfl⟩) (fw_preV hW hK hR f_112 rfl) rfl rfl hl.1 rfl (lv_room (Nat.le_of_ble_eq_true rfl)) dX11_leafletOf_175 ⟨Nat.le_of_ble_eq_true rfl, Nat.le_of_ble_eq_true rfl⟩) hS (fun v_114 ω_115 H locs hq_116 hR hS => ?_)
      obtain ⟨rfl, z_117, f_119, fr_118⟩ := hq_116
      refine W.eq (g2 := F0 mI 178 ls [.int (sumM g j (g (50 + j)) n)]) rfl ?_
      have f_120 : ω_115.2 (m + 7) = some (.inl (G.2.1 0, 6, .inl (needM g j (g (50 + j)) (clrJ nd 6) n))) := (fr_118 (m + 7) (by omega)).trans f_111
      have fr_121 : ∀ q : Nat, ¬ q = m → ¬ q = (m + 7) → ω_115.2 q = ω.2 q := by
        intro q h0 h1
        rw [fr_118 q (by omega)]
        rw [fr_110 q (by omega)]
      have z_122 : ω_115.1 = ω.1 := by rw [z_117, z_109]
      have hr_123 : leafOfM s g nd (nI j) wh = (((sumM g j (g (50 + j)) n), (upd s 14 0), (needM g j (g (50 + j)) (clrJ nd 6) n)) : Int32 × (Nat → Int32) × (Nat → Int32)) := by
        simp only [leafOfM, hcc, hdd, hcj, hnn, hfn]
        rw [if_pos c_4, if_neg c_5, if_neg c_17, if_neg c_29, if_neg c_43, if_neg c_55, if_neg c_67, if_neg c_82, if_pos c_104]
      refine fw_iret hx hb hr hlocks hR hS dX11_leafletOf_178 ?_
      rw [hr_123]
      exact ⟨rfl, z_122, f_119, f_120, fr_121⟩
    have tc_5 := lv_neT c_5 (show (0 : Int32).toInt = 0 by decide)
    have tc_17 := lv_neT c_17 (show (1 : Int32).toInt = 1 by decide)
    have tc_29 := lv_neT c_29 (show (2 : Int32).toInt = 2 by decide)
    have tc_43 := lv_neT c_43 (show (3 : Int32).toInt = 3 by decide)
    have tc_55 := lv_neT c_55 (show (4 : Int32).toInt = 4 by decide)
    have tc_67 := lv_neT c_67 (show (5 : Int32).toInt = 5 by decide)
    have tc_82 := lv_neT c_82 (show (6 : Int32).toInt = 6 by decide)
    have tc_104 := lv_neT c_104 (show (7 : Int32).toInt = 7 by decide)
    refine lv_tableOut (tgt := 179) hx hb dX11_leafletOf_15 (by omega) (by decide) ?_
    refine lv_aload_n hx hb dX11_leafletOf_179 rfl (lv_at hl 0 rfl) ?_
    refine lv_iconst (v := 2) hx hb dX11_leafletOf_180 (by decide) ?_
    refine fw_call (va_runV (As := [.int 2]) (rest := []) ⟨hx, hb, hml, hown, hts⟩ (c_X11_fails G hL l ω m s g m0 m1 2) (cwV 1 hts gX11_leafletOf_X11_fails rfl rfl rfl (by decide +kernel) ⟨Nat.le_of_ble_eq_true rfl, Nat.le_of_ble_eq_true rfl⟩) (fw_preV hW hK hR m0 rfl) rfl rfl hl.1 rfl (lv_room (Nat.le_of_ble_eq_true rfl)) dX11_leafletOf_181 ⟨Nat.le_of_ble_eq_true rfl, Nat.le_of_ble_eq_true rfl⟩) hS (fun v_124 ω_125 H locs hq_126 hR hS => ?_)
    obtain ⟨rfl, z_127, f_129, fr_128⟩ := hq_126
    refine W.eq (g2 := F0 mI 184 ls [.int 0]) rfl ?_
    have f_130 : ω_125.2 (m + 7) = some (.inl (G.2.1 0, 6, .inl nd)) := (fr_128 (m + 7) (by omega)).trans m7
    have fr_131 : ∀ q : Nat, ¬ q = m → ¬ q = (m + 7) → ω_125.2 q = ω.2 q := by
      intro q h0 h1
      rw [fr_128 q (by omega)]
    have z_132 : ω_125.1 = ω.1 := by rw [z_127]
    have hr_133 : leafOfM s g nd (nI j) wh = ((0, (upd s 14 2), nd) : Int32 × (Nat → Int32) × (Nat → Int32)) := by
      simp only [leafOfM, hcc, hdd, hcj, hnn, hfn]
      rw [if_pos c_4, if_neg c_5, if_neg c_17, if_neg c_29, if_neg c_43, if_neg c_55, if_neg c_67, if_neg c_82, if_neg c_104]
    refine fw_iret hx hb hr hlocks hR hS dX11_leafletOf_184 ?_
    rw [hr_133]
    exact ⟨rfl, z_132, f_129, f_130, fr_131⟩
  · skip
    have c_4 := bz_eq c_4
    refine lv_aload_n hx hb dX11_leafletOf_8 rfl (lv_at hl 0 rfl) ?_
    refine lv_iconst (v := 1) hx hb dX11_leafletOf_9 (by decide) ?_
    refine fw_call (va_runV (As := [.int 1]) (rest := []) ⟨hx, hb, hml, hown, hts⟩ (c_X11_fails G hL l ω m s g m0 m1 1) (cwV 1 hts gX11_leafletOf_X11_fails rfl rfl rfl (by decide +kernel) ⟨Nat.le_of_ble_eq_true rfl, Nat.le_of_ble_eq_true rfl⟩) (fw_preV hW hK hR m0 rfl) rfl rfl hl.1 rfl (lv_room (Nat.le_of_ble_eq_true rfl)) dX11_leafletOf_10 ⟨Nat.le_of_ble_eq_true rfl, Nat.le_of_ble_eq_true rfl⟩) hS (fun v_134 ω_135 H locs hq_136 hR hS => ?_)
    obtain ⟨rfl, z_137, f_139, fr_138⟩ := hq_136
    refine W.eq (g2 := F0 mI 13 ls [.int 0]) rfl ?_
    have f_140 : ω_135.2 (m + 7) = some (.inl (G.2.1 0, 6, .inl nd)) := (fr_138 (m + 7) (by omega)).trans m7
    have fr_141 : ∀ q : Nat, ¬ q = m → ¬ q = (m + 7) → ω_135.2 q = ω.2 q := by
      intro q h0 h1
      rw [fr_138 q (by omega)]
    have z_142 : ω_135.1 = ω.1 := by rw [z_137]
    have hr_143 : leafOfM s g nd lf wh = ((0, (upd s 14 1), nd) : Int32 × (Nat → Int32) × (Nat → Int32)) := by
      simp only [leafOfM, hcc, hdd]
      rw [if_neg c_4]
    refine fw_iret hx hb hr hlocks hR hS dX11_leafletOf_13 ?_
    rw [hr_143]
    exact ⟨rfl, z_142, f_139, f_140, fr_141⟩
def stepOfM (s g : Nat → Int32) (lf : Int32) (sp : Int32) (wh : Int32) : Int32 × (Nat → Int32) := if inB lf 0 (g 0 - 1) then (if inB sp 0 (g (18 + (cN lf)) - 1) then (if wh = 0 then (((g (68 + 8 * (cN lf) + (cN sp))), (upd s 14 0))) else (if wh = 1 then (((mP g (cN lf) (cN sp)), (upd s 14 0))) else (if wh = 2 then (((g (196 + 8 * (cN lf) + (cN sp))), (upd s 14 0))) else (if wh = 3 then (((g (260 + 8 * (cN lf) + (cN sp))), (upd s 14 0))) else (if wh = 4 then (((((g (50 + (cN lf))) >>> ((sp) &&& 31)) &&& 1), (upd s 14 0))) else ((0, (upd s 14 3)))))))) else ((0, (upd s 14 2)))) else ((0, (upd s 14 1)))
set_option maxHeartbeats 4000000 in
set_option maxRecDepth 100000 in
theorem c_X11_stepOf (G : FG) (hL : FL G) (l : Launch) (ω : FWd) (m : Nat) (s g : Nat → Int32) (m0 : ω.2 m = some (.inr (13, [.ref (m + 1), .ref (m + 2), .ref (m + 3), .int (s 3), .ref (m + 4), .int (s 5), .ref (m + 5), .int (s 7), .int (s 8), .int (s 9), .int (s 10), .int (s 11), .ref (m + 6), .int (s 13), .int (s 14), .ref (m + 7), .int (s 16), .int (s 17), .ref (m + 8)]))) (m1 : ω.2 (m + 1) = some (.inl (G.2.1 0, 324, .inl g))) (hM : WFM g) (lf : Int32) (sp : Int32) (wh : Int32) : FMet G l yX11_stepOf wsX11_stepOf ({ frames := 2, cells := 0, slots := 0, locals := 44 } : Room) [.ref m, .int lf, .int sp, .int wh] ω (fun vv9 τ9 => vv9 = some (.int ((stepOfM s g lf sp wh).1)) ∧ τ9.1 = ω.1 ∧ τ9.2 m = some (.inr (13, [.ref (m + 1), .ref (m + 2), .ref (m + 3), .int (((stepOfM s g lf sp wh).2) 3), .ref (m + 4), .int (((stepOfM s g lf sp wh).2) 5), .ref (m + 5), .int (((stepOfM s g lf sp wh).2) 7), .int (((stepOfM s g lf sp wh).2) 8), .int (((stepOfM s g lf sp wh).2) 9), .int (((stepOfM s g lf sp wh).2) 10), .int (((stepOfM s g lf sp wh).2) 11), .ref (m + 6), .int (((stepOfM s g lf sp wh).2) 13), .int (((stepOfM s g lf sp wh).2) 14), .ref (m + 7), .int (((stepOfM s g lf sp wh).2) 16), .int (((stepOfM s g lf sp wh).2) 17), .ref (m + 8)])) ∧ ∀ q : Nat, ¬ q = m → τ9.2 q = ω.2 q) 0 0 := by
  refine fw_ofW (cc := cX11_stepOf) (maxL := 5) (ret := (some .int)) (by decide) rfl (Nat.le_of_ble_eq_true rfl) ?_
  intro pP eE sS mI ar9 bl9 meth cD ls hx hb hr hlocks hml hts hown hnm hW hR hl
  have hK := hL.K hW
  have hS : va_S (fwA G) sS.heap sS.heap [] := va_S.rf
  have hin11 : ∀ w ∈ u_ws RX11 TX11 19, w ∈ wsX11_stepOf := by decide +kernel
  have hl : lv_has ls 5 [(0, .ref m), (1, .int lf), (2, .int sp), (3, .int wh)] := hl
  obtain ⟨c, hc8, hc, hcc⟩ := okN_of hM.1
  obtain ⟨cc, hd5, hd, hdd⟩ := okN_of hM.2.1
  refine lv_aload_n hx hb dX11_stepOf_0 rfl (lv_at hl 0 rfl) ?_
  refine lv_iload_n hx hb dX11_stepOf_1 rfl (lv_at hl 1 rfl) ?_
  refine fw_call (va_runV (As := [.int lf]) (rest := []) ⟨hx, hb, hml, hown, hts⟩ (c_X11_isLeaflet G hL l ω m s g m0 m1 lf) (cwV 1 hts gX11_stepOf_X11_isLeaflet rfl rfl rfl (by decide +kernel) ⟨Nat.le_of_ble_eq_true rfl, Nat.le_of_ble_eq_true rfl⟩) (fw_preV hW hK hR m0 rfl) rfl rfl hl.1 rfl (lv_room (Nat.le_of_ble_eq_true rfl)) dX11_stepOf_2 ⟨Nat.le_of_ble_eq_true rfl, Nat.le_of_ble_eq_true rfl⟩) hS (fun v_1 ω_2 H locs hq_3 hR hS => ?_)
  obtain ⟨rfl, hq_3⟩ := hq_3
  rw [hq_3] at hR
  refine W.eq (g2 := F0 mI 5 ls [.int (bz (inB lf 0 (g 0 - 1)))]) rfl ?_
  refine lv_if_ne (tgt := 14) hx hb dX11_stepOf_5 (by decide) (fun c_4 => ?_) (fun c_4 => ?_)
  · skip
    have c_4 := bz_ne c_4
    obtain ⟨j, hj2, rfl⟩ := in_c hc hc8 c_4
    have hcj : cN (nI j) = j := cN_nI (by omega)
    obtain ⟨n, hn8, hn, hnn⟩ := okN_of (hM.2.2 j (by rw [hcc]; exact hj2)).1
    obtain ⟨f, hf3, hff, hfn⟩ := okN_of (hM.2.2 j (by rw [hcc]; exact hj2)).2.1
    have hkd : ∀ q, q < n → g (68 + 8 * j + q) = nI (cN (g (68 + 8 * j + q))) ∧ cN (g (68 + 8 * j + q)) < 6 := fun q hq => by have h9 := (hM.2.2 j (by rw [hcc]; exact hj2)).2.2 q (by rw [hnn]; exact hq); exact ⟨h9.1, Nat.lt_succ_of_le h9.2⟩
    refine lv_aload_n hx hb dX11_stepOf_14 rfl (lv_at hl 0 rfl) ?_
    refine lv_iload_n hx hb dX11_stepOf_15 rfl (lv_at hl 1 rfl) ?_
    refine lv_iload_n hx hb dX11_stepOf_16 rfl (lv_at hl 2 rfl) ?_
    refine fw_call (va_runV (As := [.int (nI j), .int sp]) (rest := []) ⟨hx, hb, hml, hown, hts⟩ (c_X11_isStep G hL l ω m s g m0 m1 j (by omega) sp) (cwV 2 hts gX11_stepOf_X11_isStep rfl rfl rfl (by decide +kernel) ⟨Nat.le_of_ble_eq_true rfl, Nat.le_of_ble_eq_true rfl⟩) (fw_preV hW hK hR m0 rfl) rfl rfl hl.1 rfl (lv_room (Nat.le_of_ble_eq_true rfl)) dX11_stepOf_17 ⟨Nat.le_of_ble_eq_true rfl, Nat.le_of_ble_eq_true rfl⟩) hS (fun v_5 ω_6 H locs hq_7 hR hS => ?_)
    obtain ⟨rfl, hq_7⟩ := hq_7
    rw [hq_7] at hR
    refine W.eq (g2 := F0 mI 20 ls [.int (bz (inB sp 0 (g (18 + j) - 1)))]) rfl ?_
    refine lv_if_ne (tgt := 29) hx hb dX11_stepOf_20 (by decide) (fun c_8 => ?_) (fun c_8 => ?_)
    · skip
      have c_8 := bz_ne c_8
      obtain ⟨q, hq2, rfl⟩ := in_c hn hn8 c_8
      have hcq : cN (nI q) = q := cN_nI (by omega)
      refine lv_bipush (v := 8) hx hb dX11_stepOf_29 (by decide) ?_
      refine lv_iload_n hx hb dX11_stepOf_31 rfl (lv_at hl 1 rfl) ?_
      refine lv_imul hx hb dX11_stepOf_32 ?_
      refine lv_iload_n hx hb dX11_stepOf_33 rfl (lv_at hl 2 rfl) ?_
      refine lv_iadd hx hb dX11_stepOf_34 ?_
      have hi_9 : (8 * (nI j)) + (nI q) = nI (8 * j + q) := by
        show ((nI 8) * (nI j)) + (nI q) = _
        simp only [pk_mul, nI_add, Nat.add_assoc, hc, hd, hn, hff]
      refine W.eq (g2 := F0 mI 35 ls [.int (nI (8 * j + q))]) (by rw [hi_9]) ?_
      refine lv_istore (lv' := [(4, .int (nI (8 * j + q))), (0, .ref m), (1, .int (nI j)), (2, .int (nI q)), (3, .int wh)]) hx hb dX11_stepOf_35 hl (by decide) rfl (fun ls hl => ?_)
      refine lv_iload_n hx hb dX11_stepOf_37 rfl (lv_at hl 4 rfl) ?_
      by_cases c_10 : wh = 0
      · skip
        refine lv_tableIn (off := 34) (tgt := 72) hx hb dX11_stepOf_38 (by rw [c_10]; decide) (by rw [c_10]; decide) (by rw [c_10]; rfl) (by decide) ?_
        refine lv_aload_n hx hb dX11_stepOf_72 rfl (lv_at hl 1 rfl) ?_
        refine lv_aload_n hx hb dX11_stepOf_73 rfl (lv_at hl 1 rfl) ?_
        refine fw_get (v := .ref (m + 1)) (C := RX11) (T := TX11) (N := 19) hx hb hts hin11 hown hK hR m0 rfl 0 (by decide) (hts (.fieldLink RX11 7 "UnreadLeafletsModel" "g" "[I") (by decide +kernel)) rfl dX11_stepOf_74 ?_
        refine lv_bipush (v := 68) hx hb dX11_stepOf_77 (by decide) ?_
        refine lv_iload hx hb dX11_stepOf_79 (lv_at hl 0 rfl) ?_
        refine lv_iadd hx hb dX11_stepOf_81 ?_
        have hi_11 : 68 + (nI (8 * j + q)) = nI (68 + 8 * j + q) := by
          show (nI 68) + (nI (8 * j + q)) = _
          simp only [pk_mul, nI_add, Nat.add_assoc, hc, hd, hn, hff]
        refine W.eq (g2 := F0 mI 82 ls [.int (nI (68 + 8 * j + q)), .ref (m + 1), .ref m]) (by rw [hi_11]) ?_
        refine fw_iald hx hb hK hR m1 (vp_in_nI (by omega) (by omega)) dX11_stepOf_82 ?_
        refine W.eq (g2 := F0 mI 83 ls [.int (g (68 + 8 * j + q)), .ref m]) (by rw [nI_clamp (by omega)]) ?_
        refine fw_call (va_runV (As := [.int (g (68 + 8 * j + q))]) (rest := []) ⟨hx, hb, hml, hown, hts⟩ (c_X11_done G hL l ω m s g m0 m1 (g (68 + 8 * j + q))) (cwV 1 hts gX11_stepOf_X11_done rfl rfl rfl (by decide +kernel) ⟨Nat.le_of_ble_eq_true rfl, Nat.le_of_ble_eq_true rfl⟩) (fw_preV hW hK hR m0 rfl) rfl rfl hl.1 rfl (lv_room (Nat.le_of_ble_eq_true rfl)) dX11_stepOf_83 ⟨Nat.le_of_ble_eq_true rfl, Nat.le_of_ble_eq_true rfl⟩) hS (fun v_12 ω_13 H locs hq_14 hR hS => ?_)
        obtain ⟨rfl, z_15, f_17, fr_16⟩ := hq_14
        refine W.eq (g2 := F0 mI 86 ls [.int (g (68 + 8 * j + q))]) rfl ?_
        have fr_18 : ∀ q : Nat, ¬ q = m → ω_13.2 q = ω.2 q := by
          intro q h0
          rw [fr_16 q (by omega)]
        have z_19 : ω_13.1 = ω.1 := by rw [z_15]
        have hr_20 : stepOfM s g (nI j) (nI q) wh = (((g (68 + 8 * j + q)), (upd s 14 0)) : Int32 × (Nat → Int32)) := by
          simp only [stepOfM, hcc, hdd, hcj, hnn, hfn, hcq]
          rw [if_pos c_4, if_pos c_8, if_pos c_10]
        refine fw_iret hx hb hr hlocks hR hS dX11_stepOf_86 ?_
        rw [hr_20]
        exact ⟨rfl, z_19, f_17, fr_18⟩
      by_cases c_21 : wh = 1
      · skip
        refine lv_tableIn (off := 49) (tgt := 87) hx hb dX11_stepOf_38 (by rw [c_21]; decide) (by rw [c_21]; decide) (by rw [c_21]; rfl) (by decide) ?_
        refine lv_aload_n hx hb dX11_stepOf_87 rfl (lv_at hl 1 rfl) ?_
        refine lv_aload_n hx hb dX11_stepOf_88 rfl (lv_at hl 1 rfl) ?_
        refine lv_iload_n hx hb dX11_stepOf_89 rfl (lv_at hl 2 rfl) ?_
        refine lv_iload_n hx hb dX11_stepOf_90 rfl (lv_at hl 3 rfl) ?_
        refine fw_call (va_runV (As := [.int (nI j), .int (nI q)]) (rest := [.ref m]) ⟨hx, hb, hml, hown, hts⟩ (c_X11_partsOf G hL l ω m s g m0 m1 j (by omega) q (by omega)) (cwV 2 hts gX11_stepOf_X11_partsOf rfl rfl rfl (by decide +kernel) ⟨Nat.le_of_ble_eq_true rfl, Nat.le_of_ble_eq_true rfl⟩) (fw_preV hW hK hR m0 rfl) rfl rfl hl.1 rfl (lv_room (Nat.le_of_ble_eq_true rfl)) dX11_stepOf_91 ⟨Nat.le_of_ble_eq_true rfl, Nat.le_of_ble_eq_true rfl⟩) hS (fun v_22 ω_23 H locs hq_24 hR hS => ?_)
        obtain ⟨rfl, hq_24⟩ := hq_24
        rw [hq_24] at hR
        refine W.eq (g2 := F0 mI 94 ls [.int (mP g j q), .ref m]) rfl ?_
        refine fw_call (va_runV (As := [.int (mP g j q)]) (rest := []) ⟨hx, hb, hml, hown, hts⟩ (c_X11_done G hL l ω m s g m0 m1 (mP g j q)) (cwV 1 hts gX11_stepOf_X11_done rfl rfl rfl (by decide +kernel) ⟨Nat.le_of_ble_eq_true rfl, Nat.le_of_ble_eq_true rfl⟩) (fw_preV hW hK hR m0 rfl) rfl rfl hl.1 rfl (lv_room (Nat.le_of_ble_eq_true rfl)) dX11_stepOf_94 ⟨Nat.le_of_ble_eq_true rfl, Nat.le_of_ble_eq_true rfl⟩) hS (fun v_25 ω_26 H locs hq_27 hR hS => ?_)
        obtain ⟨rfl, z_28, f_30, fr_29⟩ := hq_27
        refine W.eq (g2 := F0 mI 97 ls [.int (mP g j q)]) rfl ?_
        have fr_31 : ∀ q : Nat, ¬ q = m → ω_26.2 q = ω.2 q := by
          intro q h0
          rw [fr_29 q (by omega)]
        have z_32 : ω_26.1 = ω.1 := by rw [z_28]
        have hr_33 : stepOfM s g (nI j) (nI q) wh = (((mP g j q), (upd s 14 0)) : Int32 × (Nat → Int32)) := by
          simp only [stepOfM, hcc, hdd, hcj, hnn, hfn, hcq]
          rw [if_pos c_4, if_pos c_8, if_neg c_10, if_pos c_21]
        refine fw_iret hx hb hr hlocks hR hS dX11_stepOf_97 ?_
        rw [hr_33]
        exact ⟨rfl, z_32, f_30, fr_31⟩
      by_cases c_34 : wh = 2
      · skip
        refine lv_tableIn (off := 60) (tgt := 98) hx hb dX11_stepOf_38 (by rw [c_34]; decide) (by rw [c_34]; decide) (by rw [c_34]; rfl) (by decide) ?_
        refine lv_aload_n hx hb dX11_stepOf_98 rfl (lv_at hl 1 rfl) ?_
        refine lv_aload_n hx hb dX11_stepOf_99 rfl (lv_at hl 1 rfl) ?_
        refine fw_get (v := .ref (m + 1)) (C := RX11) (T := TX11) (N := 19) hx hb hts hin11 hown hK hR m0 rfl 0 (by decide) (hts (.fieldLink RX11 7 "UnreadLeafletsModel" "g" "[I") (by decide +kernel)) rfl dX11_stepOf_100 ?_
        refine lv_sipush (v := 196) hx hb dX11_stepOf_103 (by decide) ?_
        refine lv_iload hx hb dX11_stepOf_106 (lv_at hl 0 rfl) ?_
        refine lv_iadd hx hb dX11_stepOf_108 ?_
        have hi_35 : 196 + (nI (8 * j + q)) = nI (196 + 8 * j + q) := by
          show (nI 196) + (nI (8 * j + q)) = _
          simp only [pk_mul, nI_add, Nat.add_assoc, hc, hd, hn, hff]
        refine W.eq (g2 := F0 mI 109 ls [.int (nI (196 + 8 * j + q)), .ref (m + 1), .ref m]) (by rw [hi_35]) ?_
        refine fw_iald hx hb hK hR m1 (vp_in_nI (by omega) (by omega)) dX11_stepOf_109 ?_
        refine W.eq (g2 := F0 mI 110 ls [.int (g (196 + 8 * j + q)), .ref m]) (by rw [nI_clamp (by omega)]) ?_
        refine fw_call (va_runV (As := [.int (g (196 + 8 * j + q))]) (rest := []) ⟨hx, hb, hml, hown, hts⟩ (c_X11_done G hL l ω m s g m0 m1 (g (196 + 8 * j + q))) (cwV 1 hts gX11_stepOf_X11_done rfl rfl rfl (by decide +kernel) ⟨Nat.le_of_ble_eq_true rfl, Nat.le_of_ble_eq_true rfl⟩) (fw_preV hW hK hR m0 rfl) rfl rfl hl.1 rfl (lv_room (Nat.le_of_ble_eq_true rfl)) dX11_stepOf_110 ⟨Nat.le_of_ble_eq_true rfl, Nat.le_of_ble_eq_true rfl⟩) hS (fun v_36 ω_37 H locs hq_38 hR hS => ?_)
        obtain ⟨rfl, z_39, f_41, fr_40⟩ := hq_38
        refine W.eq (g2 := F0 mI 113 ls [.int (g (196 + 8 * j + q))]) rfl ?_
        have fr_42 : ∀ q : Nat, ¬ q = m → ω_37.2 q = ω.2 q := by
          intro q h0
          rw [fr_40 q (by omega)]
        have z_43 : ω_37.1 = ω.1 := by rw [z_39]
        have hr_44 : stepOfM s g (nI j) (nI q) wh = (((g (196 + 8 * j + q)), (upd s 14 0)) : Int32 × (Nat → Int32)) := by
          simp only [stepOfM, hcc, hdd, hcj, hnn, hfn, hcq]
          rw [if_pos c_4, if_pos c_8, if_neg c_10, if_neg c_21, if_pos c_34]
        refine fw_iret hx hb hr hlocks hR hS dX11_stepOf_113 ?_
        rw [hr_44]
        exact ⟨rfl, z_43, f_41, fr_42⟩
      by_cases c_45 : wh = 3
      · skip
        refine lv_tableIn (off := 76) (tgt := 114) hx hb dX11_stepOf_38 (by rw [c_45]; decide) (by rw [c_45]; decide) (by rw [c_45]; rfl) (by decide) ?_
        refine lv_aload_n hx hb dX11_stepOf_114 rfl (lv_at hl 1 rfl) ?_
        refine lv_aload_n hx hb dX11_stepOf_115 rfl (lv_at hl 1 rfl) ?_
        refine fw_get (v := .ref (m + 1)) (C := RX11) (T := TX11) (N := 19) hx hb hts hin11 hown hK hR m0 rfl 0 (by decide) (hts (.fieldLink RX11 7 "UnreadLeafletsModel" "g" "[I") (by decide +kernel)) rfl dX11_stepOf_116 ?_
        refine lv_sipush (v := 260) hx hb dX11_stepOf_119 (by decide) ?_
        refine lv_iload hx hb dX11_stepOf_122 (lv_at hl 0 rfl) ?_
        refine lv_iadd hx hb dX11_stepOf_124 ?_
        have hi_46 : 260 + (nI (8 * j + q)) = nI (260 + 8 * j + q) := by
          show (nI 260) + (nI (8 * j + q)) = _
          simp only [pk_mul, nI_add, Nat.add_assoc, hc, hd, hn, hff]
        refine W.eq (g2 := F0 mI 125 ls [.int (nI (260 + 8 * j + q)), .ref (m + 1), .ref m]) (by rw [hi_46]) ?_
        refine fw_iald hx hb hK hR m1 (vp_in_nI (by omega) (by omega)) dX11_stepOf_125 ?_
        refine W.eq (g2 := F0 mI 126 ls [.int (g (260 + 8 * j + q)), .ref m]) (by rw [nI_clamp (by omega)]) ?_
        refine fw_call (va_runV (As := [.int (g (260 + 8 * j + q))]) (rest := []) ⟨hx, hb, hml, hown, hts⟩ (c_X11_done G hL l ω m s g m0 m1 (g (260 + 8 * j + q))) (cwV 1 hts gX11_stepOf_X11_done rfl rfl rfl (by decide +kernel) ⟨Nat.le_of_ble_eq_true rfl, Nat.le_of_ble_eq_true rfl⟩) (fw_preV hW hK hR m0 rfl) rfl rfl hl.1 rfl (lv_room (Nat.le_of_ble_eq_true rfl)) dX11_stepOf_126 ⟨Nat.le_of_ble_eq_true rfl, Nat.le_of_ble_eq_true rfl⟩) hS (fun v_47 ω_48 H locs hq_49 hR hS => ?_)
        obtain ⟨rfl, z_50, f_52, fr_51⟩ := hq_49
        refine W.eq (g2 := F0 mI 129 ls [.int (g (260 + 8 * j + q))]) rfl ?_
        have fr_53 : ∀ q : Nat, ¬ q = m → ω_48.2 q = ω.2 q := by
          intro q h0
          rw [fr_51 q (by omega)]
        have z_54 : ω_48.1 = ω.1 := by rw [z_50]
        have hr_55 : stepOfM s g (nI j) (nI q) wh = (((g (260 + 8 * j + q)), (upd s 14 0)) : Int32 × (Nat → Int32)) := by
          simp only [stepOfM, hcc, hdd, hcj, hnn, hfn, hcq]
          rw [if_pos c_4, if_pos c_8, if_neg c_10, if_neg c_21, if_neg c_34, if_pos c_45]
        refine fw_iret hx hb hr hlocks hR hS dX11_stepOf_129 ?_
        rw [hr_55]
        exact ⟨rfl, z_54, f_52, fr_53⟩
      by_cases c_56 : wh = 4
      · skip
        refine lv_tableIn (off := 92) (tgt := 130) hx hb dX11_stepOf_38 (by rw [c_56]; decide) (by rw [c_56]; decide) (by rw [c_56]; rfl) (by decide) ?_
        refine lv_aload_n hx hb dX11_stepOf_130 rfl (lv_at hl 1 rfl) ?_
        refine lv_aload_n hx hb dX11_stepOf_131 rfl (lv_at hl 1 rfl) ?_
        refine fw_get (v := .ref (m + 1)) (C := RX11) (T := TX11) (N := 19) hx hb hts hin11 hown hK hR m0 rfl 0 (by decide) (hts (.fieldLink RX11 7 "UnreadLeafletsModel" "g" "[I") (by decide +kernel)) rfl dX11_stepOf_132 ?_
        refine lv_bipush (v := 50) hx hb dX11_stepOf_135 (by decide) ?_
        refine lv_iload_n hx hb dX11_stepOf_137 rfl (lv_at hl 2 rfl) ?_
        refine lv_iadd hx hb dX11_stepOf_138 ?_
        have hi_57 : 50 + (nI j) = nI (50 + j) := by
          show (nI 50) + (nI j) = _
          simp only [pk_mul, nI_add, Nat.add_assoc, hc, hd, hn, hff]
        refine W.eq (g2 := F0 mI 139 ls [.int (nI (50 + j)), .ref (m + 1), .ref m]) (by rw [hi_57]) ?_
        refine fw_iald hx hb hK hR m1 (vp_in_nI (by omega) (by omega)) dX11_stepOf_139 ?_
        refine W.eq (g2 := F0 mI 140 ls [.int (g (50 + j)), .ref m]) (by rw [nI_clamp (by omega)]) ?_
        refine lv_iload_n hx hb dX11_stepOf_140 rfl (lv_at hl 3 rfl) ?_
        refine lv_ishr hx hb dX11_stepOf_141 ?_
        refine lv_iconst (v := 1) hx hb dX11_stepOf_142 (by decide) ?_
        refine lv_iand hx hb dX11_stepOf_143 ?_
        refine fw_call (va_runV (As := [.int (((g (50 + j)) >>> ((nI q) &&& 31)) &&& 1)]) (rest := []) ⟨hx, hb, hml, hown, hts⟩ (c_X11_done G hL l ω m s g m0 m1 (((g (50 + j)) >>> ((nI q) &&& 31)) &&& 1)) (cwV 1 hts gX11_stepOf_X11_done rfl rfl rfl (by decide +kernel) ⟨Nat.le_of_ble_eq_true rfl, Nat.le_of_ble_eq_true rfl⟩) (fw_preV hW hK hR m0 rfl) rfl rfl hl.1 rfl (lv_room (Nat.le_of_ble_eq_true rfl)) dX11_stepOf_144 ⟨Nat.le_of_ble_eq_true rfl, Nat.le_of_ble_eq_true rfl⟩) hS (fun v_58 ω_59 H locs hq_60 hR hS => ?_)
        obtain ⟨rfl, z_61, f_63, fr_62⟩ := hq_60
        refine W.eq (g2 := F0 mI 147 ls [.int (((g (50 + j)) >>> ((nI q) &&& 31)) &&& 1)]) rfl ?_
        have fr_64 : ∀ q : Nat, ¬ q = m → ω_59.2 q = ω.2 q := by
          intro q h0
          rw [fr_62 q (by omega)]
        have z_65 : ω_59.1 = ω.1 := by rw [z_61]
        have hr_66 : stepOfM s g (nI j) (nI q) wh = (((((g (50 + j)) >>> ((nI q) &&& 31)) &&& 1), (upd s 14 0)) : Int32 × (Nat → Int32)) := by
          simp only [stepOfM, hcc, hdd, hcj, hnn, hfn, hcq]
          rw [if_pos c_4, if_pos c_8, if_neg c_10, if_neg c_21, if_neg c_34, if_neg c_45, if_pos c_56]
        refine fw_iret hx hb hr hlocks hR hS dX11_stepOf_147 ?_
        rw [hr_66]
        exact ⟨rfl, z_65, f_63, fr_64⟩
      have tc_10 := lv_neT c_10 (show (0 : Int32).toInt = 0 by decide)
      have tc_21 := lv_neT c_21 (show (1 : Int32).toInt = 1 by decide)
      have tc_34 := lv_neT c_34 (show (2 : Int32).toInt = 2 by decide)
      have tc_45 := lv_neT c_45 (show (3 : Int32).toInt = 3 by decide)
      have tc_56 := lv_neT c_56 (show (4 : Int32).toInt = 4 by decide)
      refine lv_tableOut (tgt := 148) hx hb dX11_stepOf_38 (by omega) (by decide) ?_
      refine lv_aload_n hx hb dX11_stepOf_148 rfl (lv_at hl 1 rfl) ?_
      refine lv_iconst (v := 3) hx hb dX11_stepOf_149 (by decide) ?_
      refine fw_call (va_runV (As := [.int 3]) (rest := []) ⟨hx, hb, hml, hown, hts⟩ (c_X11_fails G hL l ω m s g m0 m1 3) (cwV 1 hts gX11_stepOf_X11_fails rfl rfl rfl (by decide +kernel) ⟨Nat.le_of_ble_eq_true rfl, Nat.le_of_ble_eq_true rfl⟩) (fw_preV hW hK hR m0 rfl) rfl rfl hl.1 rfl (lv_room (Nat.le_of_ble_eq_true rfl)) dX11_stepOf_150 ⟨Nat.le_of_ble_eq_true rfl, Nat.le_of_ble_eq_true rfl⟩) hS (fun v_67 ω_68 H locs hq_69 hR hS => ?_)
      obtain ⟨rfl, z_70, f_72, fr_71⟩ := hq_69
      refine W.eq (g2 := F0 mI 153 ls [.int 0]) rfl ?_
      have fr_73 : ∀ q : Nat, ¬ q = m → ω_68.2 q = ω.2 q := by
        intro q h0
        rw [fr_71 q (by omega)]
      have z_74 : ω_68.1 = ω.1 := by rw [z_70]
      have hr_75 : stepOfM s g (nI j) (nI q) wh = ((0, (upd s 14 3)) : Int32 × (Nat → Int32)) := by
        simp only [stepOfM, hcc, hdd, hcj, hnn, hfn, hcq]
        rw [if_pos c_4, if_pos c_8, if_neg c_10, if_neg c_21, if_neg c_34, if_neg c_45, if_neg c_56]
      refine fw_iret hx hb hr hlocks hR hS dX11_stepOf_153 ?_
      rw [hr_75]
      exact ⟨rfl, z_74, f_72, fr_73⟩
    · skip
      have c_8 := bz_eq c_8
      refine lv_aload_n hx hb dX11_stepOf_23 rfl (lv_at hl 0 rfl) ?_
      refine lv_iconst (v := 2) hx hb dX11_stepOf_24 (by decide) ?_
      refine fw_call (va_runV (As := [.int 2]) (rest := []) ⟨hx, hb, hml, hown, hts⟩ (c_X11_fails G hL l ω m s g m0 m1 2) (cwV 1 hts gX11_stepOf_X11_fails rfl rfl rfl (by decide +kernel) ⟨Nat.le_of_ble_eq_true rfl, Nat.le_of_ble_eq_true rfl⟩) (fw_preV hW hK hR m0 rfl) rfl rfl hl.1 rfl (lv_room (Nat.le_of_ble_eq_true rfl)) dX11_stepOf_25 ⟨Nat.le_of_ble_eq_true rfl, Nat.le_of_ble_eq_true rfl⟩) hS (fun v_76 ω_77 H locs hq_78 hR hS => ?_)
      obtain ⟨rfl, z_79, f_81, fr_80⟩ := hq_78
      refine W.eq (g2 := F0 mI 28 ls [.int 0]) rfl ?_
      have fr_82 : ∀ q : Nat, ¬ q = m → ω_77.2 q = ω.2 q := by
        intro q h0
        rw [fr_80 q (by omega)]
      have z_83 : ω_77.1 = ω.1 := by rw [z_79]
      have hr_84 : stepOfM s g (nI j) sp wh = ((0, (upd s 14 2)) : Int32 × (Nat → Int32)) := by
        simp only [stepOfM, hcc, hdd, hcj, hnn, hfn]
        rw [if_pos c_4, if_neg c_8]
      refine fw_iret hx hb hr hlocks hR hS dX11_stepOf_28 ?_
      rw [hr_84]
      exact ⟨rfl, z_83, f_81, fr_82⟩
  · skip
    have c_4 := bz_eq c_4
    refine lv_aload_n hx hb dX11_stepOf_8 rfl (lv_at hl 0 rfl) ?_
    refine lv_iconst (v := 1) hx hb dX11_stepOf_9 (by decide) ?_
    refine fw_call (va_runV (As := [.int 1]) (rest := []) ⟨hx, hb, hml, hown, hts⟩ (c_X11_fails G hL l ω m s g m0 m1 1) (cwV 1 hts gX11_stepOf_X11_fails rfl rfl rfl (by decide +kernel) ⟨Nat.le_of_ble_eq_true rfl, Nat.le_of_ble_eq_true rfl⟩) (fw_preV hW hK hR m0 rfl) rfl rfl hl.1 rfl (lv_room (Nat.le_of_ble_eq_true rfl)) dX11_stepOf_10 ⟨Nat.le_of_ble_eq_true rfl, Nat.le_of_ble_eq_true rfl⟩) hS (fun v_85 ω_86 H locs hq_87 hR hS => ?_)
    obtain ⟨rfl, z_88, f_90, fr_89⟩ := hq_87
    refine W.eq (g2 := F0 mI 13 ls [.int 0]) rfl ?_
    have fr_91 : ∀ q : Nat, ¬ q = m → ω_86.2 q = ω.2 q := by
      intro q h0
      rw [fr_89 q (by omega)]
    have z_92 : ω_86.1 = ω.1 := by rw [z_88]
    have hr_93 : stepOfM s g lf sp wh = ((0, (upd s 14 1)) : Int32 × (Nat → Int32)) := by
      simp only [stepOfM, hcc, hdd]
      rw [if_neg c_4]
    refine fw_iret hx hb hr hlocks hR hS dX11_stepOf_13 ?_
    rw [hr_93]
    exact ⟨rfl, z_92, f_90, fr_91⟩
def cousOfM (s g : Nat → Int32) (co : Int32) (wh : Int32) : Int32 × (Nat → Int32) := if inB co 0 (g 1 - 1) then (if wh = 0 then (((g (58 + (cN co))), (upd s 14 0))) else (if wh = 1 then (((g (63 + (cN co))), (upd s 14 0))) else (if wh = 2 then (((bitsJ (g (63 + (cN co))) 8), (upd s 14 0))) else (if wh = 3 then (((bltM s g (co) 0), (upd s 14 0))) else (if wh = 4 then (((bltM s g (co) 1), (upd s 14 0))) else ((0, (upd s 14 2)))))))) else ((0, (upd s 14 1)))
set_option maxHeartbeats 4000000 in
set_option maxRecDepth 100000 in
theorem c_X11_cousinOf (G : FG) (hL : FL G) (l : Launch) (ω : FWd) (m : Nat) (s g : Nat → Int32) (m0 : ω.2 m = some (.inr (13, [.ref (m + 1), .ref (m + 2), .ref (m + 3), .int (s 3), .ref (m + 4), .int (s 5), .ref (m + 5), .int (s 7), .int (s 8), .int (s 9), .int (s 10), .int (s 11), .ref (m + 6), .int (s 13), .int (s 14), .ref (m + 7), .int (s 16), .int (s 17), .ref (m + 8)]))) (m1 : ω.2 (m + 1) = some (.inl (G.2.1 0, 324, .inl g))) (hM : WFM g) (co : Int32) (wh : Int32) : FMet G l yX11_cousinOf wsX11_cousinOf ({ frames := 2, cells := 0, slots := 0, locals := 46 } : Room) [.ref m, .int co, .int wh] ω (fun vv9 τ9 => vv9 = some (.int ((cousOfM s g co wh).1)) ∧ τ9.1 = ω.1 ∧ τ9.2 m = some (.inr (13, [.ref (m + 1), .ref (m + 2), .ref (m + 3), .int (((cousOfM s g co wh).2) 3), .ref (m + 4), .int (((cousOfM s g co wh).2) 5), .ref (m + 5), .int (((cousOfM s g co wh).2) 7), .int (((cousOfM s g co wh).2) 8), .int (((cousOfM s g co wh).2) 9), .int (((cousOfM s g co wh).2) 10), .int (((cousOfM s g co wh).2) 11), .ref (m + 6), .int (((cousOfM s g co wh).2) 13), .int (((cousOfM s g co wh).2) 14), .ref (m + 7), .int (((cousOfM s g co wh).2) 16), .int (((cousOfM s g co wh).2) 17), .ref (m + 8)])) ∧ ∀ q : Nat, ¬ q = m → τ9.2 q = ω.2 q) 0 0 := by
  refine fw_ofW (cc := cX11_cousinOf) (maxL := 3) (ret := (some .int)) (by decide) rfl (Nat.le_of_ble_eq_true rfl) ?_
  intro pP eE sS mI ar9 bl9 meth cD ls hx hb hr hlocks hml hts hown hnm hW hR hl
  have hK := hL.K hW
  have hS : va_S (fwA G) sS.heap sS.heap [] := va_S.rf
  have hin11 : ∀ w ∈ u_ws RX11 TX11 19, w ∈ wsX11_cousinOf := by decide +kernel
  have hl : lv_has ls 3 [(0, .ref m), (1, .int co), (2, .int wh)] := hl
  obtain ⟨c, hc8, hc, hcc⟩ := okN_of hM.1
  obtain ⟨cc, hd5, hd, hdd⟩ := okN_of hM.2.1
  refine lv_aload_n hx hb dX11_cousinOf_0 rfl (lv_at hl 0 rfl) ?_
  refine lv_iload_n hx hb dX11_cousinOf_1 rfl (lv_at hl 1 rfl) ?_
  refine fw_call (va_runV (As := [.int co]) (rest := []) ⟨hx, hb, hml, hown, hts⟩ (c_X11_isCousin G hL l ω m s g m0 m1 co) (cwV 1 hts gX11_cousinOf_X11_isCousin rfl rfl rfl (by decide +kernel) ⟨Nat.le_of_ble_eq_true rfl, Nat.le_of_ble_eq_true rfl⟩) (fw_preV hW hK hR m0 rfl) rfl rfl hl.1 rfl (lv_room (Nat.le_of_ble_eq_true rfl)) dX11_cousinOf_2 ⟨Nat.le_of_ble_eq_true rfl, Nat.le_of_ble_eq_true rfl⟩) hS (fun v_1 ω_2 H locs hq_3 hR hS => ?_)
  obtain ⟨rfl, hq_3⟩ := hq_3
  rw [hq_3] at hR
  refine W.eq (g2 := F0 mI 5 ls [.int (bz (inB co 0 (g 1 - 1)))]) rfl ?_
  refine lv_if_ne (tgt := 14) hx hb dX11_cousinOf_5 (by decide) (fun c_4 => ?_) (fun c_4 => ?_)
  · skip
    have c_4 := bz_ne c_4
    obtain ⟨i, hi2, rfl⟩ := in_c hd (by omega) c_4
    have hci : cN (nI i) = i := cN_nI (by omega)
    refine lv_iload_n hx hb dX11_cousinOf_14 rfl (lv_at hl 2 rfl) ?_
    by_cases c_5 : wh = 0
    · skip
      refine lv_tableIn (off := 33) (tgt := 48) hx hb dX11_cousinOf_15 (by rw [c_5]; decide) (by rw [c_5]; decide) (by rw [c_5]; rfl) (by decide) ?_
      refine lv_aload_n hx hb dX11_cousinOf_48 rfl (lv_at hl 0 rfl) ?_
      refine lv_aload_n hx hb dX11_cousinOf_49 rfl (lv_at hl 0 rfl) ?_
      refine fw_get (v := .ref (m + 1)) (C := RX11) (T := TX11) (N := 19) hx hb hts hin11 hown hK hR m0 rfl 0 (by decide) (hts (.fieldLink RX11 7 "UnreadLeafletsModel" "g" "[I") (by decide +kernel)) rfl dX11_cousinOf_50 ?_
      refine lv_bipush (v := 58) hx hb dX11_cousinOf_53 (by decide) ?_
      refine lv_iload_n hx hb dX11_cousinOf_55 rfl (lv_at hl 1 rfl) ?_
      refine lv_iadd hx hb dX11_cousinOf_56 ?_
      have hi_6 : 58 + (nI i) = nI (58 + i) := by
        show (nI 58) + (nI i) = _
        simp only [pk_mul, nI_add, Nat.add_assoc, hc, hd]
      refine W.eq (g2 := F0 mI 57 ls [.int (nI (58 + i)), .ref (m + 1), .ref m]) (by rw [hi_6]) ?_
      refine fw_iald hx hb hK hR m1 (vp_in_nI (by omega) (by omega)) dX11_cousinOf_57 ?_
      refine W.eq (g2 := F0 mI 58 ls [.int (g (58 + i)), .ref m]) (by rw [nI_clamp (by omega)]) ?_
      refine fw_call (va_runV (As := [.int (g (58 + i))]) (rest := []) ⟨hx, hb, hml, hown, hts⟩ (c_X11_done G hL l ω m s g m0 m1 (g (58 + i))) (cwV 1 hts gX11_cousinOf_X11_done rfl rfl rfl (by decide +kernel) ⟨Nat.le_of_ble_eq_true rfl, Nat.le_of_ble_eq_true rfl⟩) (fw_preV hW hK hR m0 rfl) rfl rfl hl.1 rfl (lv_room (Nat.le_of_ble_eq_true rfl)) dX11_cousinOf_58 ⟨Nat.le_of_ble_eq_true rfl, Nat.le_of_ble_eq_true rfl⟩) hS (fun v_7 ω_8 H locs hq_9 hR hS => ?_)
      obtain ⟨rfl, z_10, f_12, fr_11⟩ := hq_9
      refine W.eq (g2 := F0 mI 61 ls [.int (g (58 + i))]) rfl ?_
      have fr_13 : ∀ q : Nat, ¬ q = m → ω_8.2 q = ω.2 q := by
        intro q h0
        rw [fr_11 q (by omega)]
      have z_14 : ω_8.1 = ω.1 := by rw [z_10]
      have hr_15 : cousOfM s g (nI i) wh = (((g (58 + i)), (upd s 14 0)) : Int32 × (Nat → Int32)) := by
        simp only [cousOfM, hcc, hdd, hci]
        rw [if_pos c_4, if_pos c_5]
      refine fw_iret hx hb hr hlocks hR hS dX11_cousinOf_61 ?_
      rw [hr_15]
      exact ⟨rfl, z_14, f_12, fr_13⟩
    by_cases c_16 : wh = 1
    · skip
      refine lv_tableIn (off := 47) (tgt := 62) hx hb dX11_cousinOf_15 (by rw [c_16]; decide) (by rw [c_16]; decide) (by rw [c_16]; rfl) (by decide) ?_
      refine lv_aload_n hx hb dX11_cousinOf_62 rfl (lv_at hl 0 rfl) ?_
      refine lv_aload_n hx hb dX11_cousinOf_63 rfl (lv_at hl 0 rfl) ?_
      refine fw_get (v := .ref (m + 1)) (C := RX11) (T := TX11) (N := 19) hx hb hts hin11 hown hK hR m0 rfl 0 (by decide) (hts (.fieldLink RX11 7 "UnreadLeafletsModel" "g" "[I") (by decide +kernel)) rfl dX11_cousinOf_64 ?_
      refine lv_bipush (v := 63) hx hb dX11_cousinOf_67 (by decide) ?_
      refine lv_iload_n hx hb dX11_cousinOf_69 rfl (lv_at hl 1 rfl) ?_
      refine lv_iadd hx hb dX11_cousinOf_70 ?_
      have hi_17 : 63 + (nI i) = nI (63 + i) := by
        show (nI 63) + (nI i) = _
        simp only [pk_mul, nI_add, Nat.add_assoc, hc, hd]
      refine W.eq (g2 := F0 mI 71 ls [.int (nI (63 + i)), .ref (m + 1), .ref m]) (by rw [hi_17]) ?_
      refine fw_iald hx hb hK hR m1 (vp_in_nI (by omega) (by omega)) dX11_cousinOf_71 ?_
      refine W.eq (g2 := F0 mI 72 ls [.int (g (63 + i)), .ref m]) (by rw [nI_clamp (by omega)]) ?_
      refine fw_call (va_runV (As := [.int (g (63 + i))]) (rest := []) ⟨hx, hb, hml, hown, hts⟩ (c_X11_done G hL l ω m s g m0 m1 (g (63 + i))) (cwV 1 hts gX11_cousinOf_X11_done rfl rfl rfl (by decide +kernel) ⟨Nat.le_of_ble_eq_true rfl, Nat.le_of_ble_eq_true rfl⟩) (fw_preV hW hK hR m0 rfl) rfl rfl hl.1 rfl (lv_room (Nat.le_of_ble_eq_true rfl)) dX11_cousinOf_72 ⟨Nat.le_of_ble_eq_true rfl, Nat.le_of_ble_eq_true rfl⟩) hS (fun v_18 ω_19 H locs hq_20 hR hS => ?_)
      obtain ⟨rfl, z_21, f_23, fr_22⟩ := hq_20
      refine W.eq (g2 := F0 mI 75 ls [.int (g (63 + i))]) rfl ?_
      have fr_24 : ∀ q : Nat, ¬ q = m → ω_19.2 q = ω.2 q := by
        intro q h0
        rw [fr_22 q (by omega)]
      have z_25 : ω_19.1 = ω.1 := by rw [z_21]
      have hr_26 : cousOfM s g (nI i) wh = (((g (63 + i)), (upd s 14 0)) : Int32 × (Nat → Int32)) := by
        simp only [cousOfM, hcc, hdd, hci]
        rw [if_pos c_4, if_neg c_5, if_pos c_16]
      refine fw_iret hx hb hr hlocks hR hS dX11_cousinOf_75 ?_
      rw [hr_26]
      exact ⟨rfl, z_25, f_23, fr_24⟩
    by_cases c_27 : wh = 2
    · skip
      refine lv_tableIn (off := 61) (tgt := 76) hx hb dX11_cousinOf_15 (by rw [c_27]; decide) (by rw [c_27]; decide) (by rw [c_27]; rfl) (by decide) ?_
      refine lv_aload_n hx hb dX11_cousinOf_76 rfl (lv_at hl 0 rfl) ?_
      refine lv_aload_n hx hb dX11_cousinOf_77 rfl (lv_at hl 0 rfl) ?_
      refine fw_get (v := .ref (m + 1)) (C := RX11) (T := TX11) (N := 19) hx hb hts hin11 hown hK hR m0 rfl 0 (by decide) (hts (.fieldLink RX11 7 "UnreadLeafletsModel" "g" "[I") (by decide +kernel)) rfl dX11_cousinOf_78 ?_
      refine lv_bipush (v := 63) hx hb dX11_cousinOf_81 (by decide) ?_
      refine lv_iload_n hx hb dX11_cousinOf_83 rfl (lv_at hl 1 rfl) ?_
      refine lv_iadd hx hb dX11_cousinOf_84 ?_
      have hi_28 : 63 + (nI i) = nI (63 + i) := by
        show (nI 63) + (nI i) = _
        simp only [pk_mul, nI_add, Nat.add_assoc, hc, hd]
      refine W.eq (g2 := F0 mI 85 ls [.int (nI (63 + i)), .ref (m + 1), .ref m]) (by rw [hi_28]) ?_
      refine fw_iald hx hb hK hR m1 (vp_in_nI (by omega) (by omega)) dX11_cousinOf_85 ?_
      refine W.eq (g2 := F0 mI 86 ls [.int (g (63 + i)), .ref m]) (by rw [nI_clamp (by omega)]) ?_
      refine fw_call (va_runS (As := [.int (g (63 + i))]) (rest := [.ref m]) ⟨hx, hb, hml, hown, hts⟩ (c_X11_bits G hL l ω (g (63 + i))) (va_cwS 1 hts gX11_cousinOf_X11_bits rfl rfl rfl (by decide +kernel) ⟨Nat.le_of_ble_eq_true rfl, Nat.le_of_ble_eq_true rfl⟩) (fw_preS hW hR) rfl rfl hl.1 rfl (lv_room (Nat.le_of_ble_eq_true rfl)) dX11_cousinOf_86 ⟨Nat.le_of_ble_eq_true rfl, Nat.le_of_ble_eq_true rfl⟩) hS (fun v_29 ω_30 H locs hq_31 hR hS => ?_)
      obtain ⟨rfl, hq_31⟩ := hq_31
      rw [hq_31] at hR
      refine W.eq (g2 := F0 mI 89 ls [.int (bitsJ (g (63 + i)) 8), .ref m]) rfl ?_
      refine fw_call (va_runV (As := [.int (bitsJ (g (63 + i)) 8)]) (rest := []) ⟨hx, hb, hml, hown, hts⟩ (c_X11_done G hL l ω m s g m0 m1 (bitsJ (g (63 + i)) 8)) (cwV 1 hts gX11_cousinOf_X11_done rfl rfl rfl (by decide +kernel) ⟨Nat.le_of_ble_eq_true rfl, Nat.le_of_ble_eq_true rfl⟩) (fw_preV hW hK hR m0 rfl) rfl rfl hl.1 rfl (lv_room (Nat.le_of_ble_eq_true rfl)) dX11_cousinOf_89 ⟨Nat.le_of_ble_eq_true rfl, Nat.le_of_ble_eq_true rfl⟩) hS (fun v_32 ω_33 H locs hq_34 hR hS => ?_)
      obtain ⟨rfl, z_35, f_37, fr_36⟩ := hq_34
      refine W.eq (g2 := F0 mI 92 ls [.int (bitsJ (g (63 + i)) 8)]) rfl ?_
      have fr_38 : ∀ q : Nat, ¬ q = m → ω_33.2 q = ω.2 q := by
        intro q h0
        rw [fr_36 q (by omega)]
      have z_39 : ω_33.1 = ω.1 := by rw [z_35]
      have hr_40 : cousOfM s g (nI i) wh = (((bitsJ (g (63 + i)) 8), (upd s 14 0)) : Int32 × (Nat → Int32)) := by
        simp only [cousOfM, hcc, hdd, hci]
        rw [if_pos c_4, if_neg c_5, if_neg c_16, if_pos c_27]
      refine fw_iret hx hb hr hlocks hR hS dX11_cousinOf_92 ?_
      rw [hr_40]
      exact ⟨rfl, z_39, f_37, fr_38⟩
    by_cases c_41 : wh = 3
    · skip
      refine lv_tableIn (off := 78) (tgt := 93) hx hb dX11_cousinOf_15 (by rw [c_41]; decide) (by rw [c_41]; decide) (by rw [c_41]; rfl) (by decide) ?_
      refine lv_aload_n hx hb dX11_cousinOf_93 rfl (lv_at hl 0 rfl) ?_
      refine lv_aload_n hx hb dX11_cousinOf_94 rfl (lv_at hl 0 rfl) ?_
      refine lv_iload_n hx hb dX11_cousinOf_95 rfl (lv_at hl 1 rfl) ?_
      refine lv_iconst (v := 0) hx hb dX11_cousinOf_96 (by decide) ?_
      refine fw_call (va_runV (As := [.int (nI i), .int 0]) (rest := [.ref m]) ⟨hx, hb, hml, hown, hts⟩ (c_X11_builtBy G hL l ω m s g m0 m1 hM (nI i) 0 ) (cwV 2 hts gX11_cousinOf_X11_builtBy rfl rfl rfl (by decide +kernel) ⟨Nat.le_of_ble_eq_true rfl, Nat.le_of_ble_eq_true rfl⟩) (fw_preV hW hK hR m0 rfl) rfl rfl hl.1 rfl (lv_room (Nat.le_of_ble_eq_true rfl)) dX11_cousinOf_97 ⟨Nat.le_of_ble_eq_true rfl, Nat.le_of_ble_eq_true rfl⟩) hS (fun v_42 ω_43 H locs hq_44 hR hS => ?_)
      obtain ⟨rfl, hq_44⟩ := hq_44
      rw [hq_44] at hR
      refine W.eq (g2 := F0 mI 100 ls [.int (bltM s g (nI i) 0), .ref m]) rfl ?_
      refine fw_call (va_runV (As := [.int (bltM s g (nI i) 0)]) (rest := []) ⟨hx, hb, hml, hown, hts⟩ (c_X11_done G hL l ω m s g m0 m1 (bltM s g (nI i) 0)) (cwV 1 hts gX11_cousinOf_X11_done rfl rfl rfl (by decide +kernel) ⟨Nat.le_of_ble_eq_true rfl, Nat.le_of_ble_eq_true rfl⟩) (fw_preV hW hK hR m0 rfl) rfl rfl hl.1 rfl (lv_room (Nat.le_of_ble_eq_true rfl)) dX11_cousinOf_100 ⟨Nat.le_of_ble_eq_true rfl, Nat.le_of_ble_eq_true rfl⟩) hS (fun v_45 ω_46 H locs hq_47 hR hS => ?_)
      obtain ⟨rfl, z_48, f_50, fr_49⟩ := hq_47
      refine W.eq (g2 := F0 mI 103 ls [.int (bltM s g (nI i) 0)]) rfl ?_
      have fr_51 : ∀ q : Nat, ¬ q = m → ω_46.2 q = ω.2 q := by
        intro q h0
        rw [fr_49 q (by omega)]
      have z_52 : ω_46.1 = ω.1 := by rw [z_48]
      have hr_53 : cousOfM s g (nI i) wh = (((bltM s g (nI i) 0), (upd s 14 0)) : Int32 × (Nat → Int32)) := by
        simp only [cousOfM, hcc, hdd, hci]
        rw [if_pos c_4, if_neg c_5, if_neg c_16, if_neg c_27, if_pos c_41]
      refine fw_iret hx hb hr hlocks hR hS dX11_cousinOf_103 ?_
      rw [hr_53]
      exact ⟨rfl, z_52, f_50, fr_51⟩
    by_cases c_54 : wh = 4
    · skip
      refine lv_tableIn (off := 89) (tgt := 104) hx hb dX11_cousinOf_15 (by rw [c_54]; decide) (by rw [c_54]; decide) (by rw [c_54]; rfl) (by decide) ?_
      refine lv_aload_n hx hb dX11_cousinOf_104 rfl (lv_at hl 0 rfl) ?_
      refine lv_aload_n hx hb dX11_cousinOf_105 rfl (lv_at hl 0 rfl) ?_
      refine lv_iload_n hx hb dX11_cousinOf_106 rfl (lv_at hl 1 rfl) ?_
      refine lv_iconst (v := 1) hx hb dX11_cousinOf_107 (by decide) ?_
      refine fw_call (va_runV (As := [.int (nI i), .int 1]) (rest := [.ref m]) ⟨hx, hb, hml, hown, hts⟩ (c_X11_builtBy G hL l ω m s g m0 m1 hM (nI i) 1 ) (cwV 2 hts gX11_cousinOf_X11_builtBy rfl rfl rfl (by decide +kernel) ⟨Nat.le_of_ble_eq_true rfl, Nat.le_of_ble_eq_true rfl⟩) (fw_preV hW hK hR m0 rfl) rfl rfl hl.1 rfl (lv_room (Nat.le_of_ble_eq_true rfl)) dX11_cousinOf_108 ⟨Nat.le_of_ble_eq_true rfl, Nat.le_of_ble_eq_true rfl⟩) hS (fun v_55 ω_56 H locs hq_57 hR hS => ?_)
      obtain ⟨rfl, hq_57⟩ := hq_57
      rw [hq_57] at hR
      refine W.eq (g2 := F0 mI 111 ls [.int (bltM s g (nI i) 1), .ref m]) rfl ?_
      refine fw_call (va_runV (As := [.int (bltM s g (nI i) 1)]) (rest := []) ⟨hx, hb, hml, hown, hts⟩ (c_X11_done G hL l ω m s g m0 m1 (bltM s g (nI i) 1)) (cwV 1 hts gX11_cousinOf_X11_done rfl rfl rfl (by decide +kernel) ⟨Nat.le_of_ble_eq_true rfl, Nat.le_of_ble_eq_true rfl⟩) (fw_preV hW hK hR m0 rfl) rfl rfl hl.1 rfl (lv_room (Nat.le_of_ble_eq_true rfl)) dX11_cousinOf_111 ⟨Nat.le_of_ble_eq_true rfl, Nat.le_of_ble_eq_true rfl⟩) hS (fun v_58 ω_59 H locs hq_60 hR hS => ?_)
      obtain ⟨rfl, z_61, f_63, fr_62⟩ := hq_60
      refine W.eq (g2 := F0 mI 114 ls [.int (bltM s g (nI i) 1)]) rfl ?_
      have fr_64 : ∀ q : Nat, ¬ q = m → ω_59.2 q = ω.2 q := by
        intro q h0
        rw [fr_62 q (by omega)]
      have z_65 : ω_59.1 = ω.1 := by rw [z_61]
      have hr_66 : cousOfM s g (nI i) wh = (((bltM s g (nI i) 1), (upd s 14 0)) : Int32 × (Nat → Int32)) := by
        simp only [cousOfM, hcc, hdd, hci]
        rw [if_pos c_4, if_neg c_5, if_neg c_16, if_neg c_27, if_neg c_41, if_pos c_54]
      refine fw_iret hx hb hr hlocks hR hS dX11_cousinOf_114 ?_
      rw [hr_66]
      exact ⟨rfl, z_65, f_63, fr_64⟩
    have tc_5 := lv_neT c_5 (show (0 : Int32).toInt = 0 by decide)
    have tc_16 := lv_neT c_16 (show (1 : Int32).toInt = 1 by decide)
    have tc_27 := lv_neT c_27 (show (2 : Int32).toInt = 2 by decide)
    have tc_41 := lv_neT c_41 (show (3 : Int32).toInt = 3 by decide)
    have tc_54 := lv_neT c_54 (show (4 : Int32).toInt = 4 by decide)
    refine lv_tableOut (tgt := 115) hx hb dX11_cousinOf_15 (by omega) (by decide) ?_
    refine lv_aload_n hx hb dX11_cousinOf_115 rfl (lv_at hl 0 rfl) ?_
    refine lv_iconst (v := 2) hx hb dX11_cousinOf_116 (by decide) ?_
    refine fw_call (va_runV (As := [.int 2]) (rest := []) ⟨hx, hb, hml, hown, hts⟩ (c_X11_fails G hL l ω m s g m0 m1 2) (cwV 1 hts gX11_cousinOf_X11_fails rfl rfl rfl (by decide +kernel) ⟨Nat.le_of_ble_eq_true rfl, Nat.le_of_ble_eq_true rfl⟩) (fw_preV hW hK hR m0 rfl) rfl rfl hl.1 rfl (lv_room (Nat.le_of_ble_eq_true rfl)) dX11_cousinOf_117 ⟨Nat.le_of_ble_eq_true rfl, Nat.le_of_ble_eq_true rfl⟩) hS (fun v_67 ω_68 H locs hq_69 hR hS => ?_)
    obtain ⟨rfl, z_70, f_72, fr_71⟩ := hq_69
    refine W.eq (g2 := F0 mI 120 ls [.int 0]) rfl ?_
    have fr_73 : ∀ q : Nat, ¬ q = m → ω_68.2 q = ω.2 q := by
      intro q h0
      rw [fr_71 q (by omega)]
    have z_74 : ω_68.1 = ω.1 := by rw [z_70]
    have hr_75 : cousOfM s g (nI i) wh = ((0, (upd s 14 2)) : Int32 × (Nat → Int32)) := by
      simp only [cousOfM, hcc, hdd, hci]
      rw [if_pos c_4, if_neg c_5, if_neg c_16, if_neg c_27, if_neg c_41, if_neg c_54]
    refine fw_iret hx hb hr hlocks hR hS dX11_cousinOf_120 ?_
    rw [hr_75]
    exact ⟨rfl, z_74, f_72, fr_73⟩
  · skip
    have c_4 := bz_eq c_4
    refine lv_aload_n hx hb dX11_cousinOf_8 rfl (lv_at hl 0 rfl) ?_
    refine lv_iconst (v := 1) hx hb dX11_cousinOf_9 (by decide) ?_
    refine fw_call (va_runV (As := [.int 1]) (rest := []) ⟨hx, hb, hml, hown, hts⟩ (c_X11_fails G hL l ω m s g m0 m1 1) (cwV 1 hts gX11_cousinOf_X11_fails rfl rfl rfl (by decide +kernel) ⟨Nat.le_of_ble_eq_true rfl, Nat.le_of_ble_eq_true rfl⟩) (fw_preV hW hK hR m0 rfl) rfl rfl hl.1 rfl (lv_room (Nat.le_of_ble_eq_true rfl)) dX11_cousinOf_10 ⟨Nat.le_of_ble_eq_true rfl, Nat.le_of_ble_eq_true rfl⟩) hS (fun v_76 ω_77 H locs hq_78 hR hS => ?_)
    obtain ⟨rfl, z_79, f_81, fr_80⟩ := hq_78
    refine W.eq (g2 := F0 mI 13 ls [.int 0]) rfl ?_
    have fr_82 : ∀ q : Nat, ¬ q = m → ω_77.2 q = ω.2 q := by
      intro q h0
      rw [fr_80 q (by omega)]
    have z_83 : ω_77.1 = ω.1 := by rw [z_79]
    have hr_84 : cousOfM s g co wh = ((0, (upd s 14 1)) : Int32 × (Nat → Int32)) := by
      simp only [cousOfM, hcc, hdd]
      rw [if_neg c_4]
    refine fw_iret hx hb hr hlocks hR hS dX11_cousinOf_13 ?_
    rw [hr_84]
    exact ⟨rfl, z_83, f_81, fr_82⟩
def whyM (s g : Nat → Int32) (co : Int32) (lf : Int32) (sp : Int32) : Int32 × (Nat → Int32) := if inB co 0 (g 1 - 1) then (if inB lf 0 (g 0 - 1) then (if inB sp 0 (g (18 + (cN lf)) - 1) then (((causeM g (g (63 + (cN co))) (g (58 + (cN co))) (cN lf) (cN sp) ((cN (g (26 + (cN lf)))))), (upd s 14 0))) else ((0, (upd s 14 2)))) else ((0, (upd s 14 1)))) else ((0, (upd s 14 1)))
set_option maxHeartbeats 4000000 in
set_option maxRecDepth 100000 in
theorem c_X11_why (G : FG) (hL : FL G) (l : Launch) (ω : FWd) (m : Nat) (s g : Nat → Int32) (m0 : ω.2 m = some (.inr (13, [.ref (m + 1), .ref (m + 2), .ref (m + 3), .int (s 3), .ref (m + 4), .int (s 5), .ref (m + 5), .int (s 7), .int (s 8), .int (s 9), .int (s 10), .int (s 11), .ref (m + 6), .int (s 13), .int (s 14), .ref (m + 7), .int (s 16), .int (s 17), .ref (m + 8)]))) (m1 : ω.2 (m + 1) = some (.inl (G.2.1 0, 324, .inl g))) (hM : WFM g) (co : Int32) (lf : Int32) (sp : Int32) : FMet G l yX11_why wsX11_why ({ frames := 2, cells := 0, slots := 0, locals := 49 } : Room) [.ref m, .int co, .int lf, .int sp] ω (fun vv9 τ9 => vv9 = some (.int ((whyM s g co lf sp).1)) ∧ τ9.1 = ω.1 ∧ τ9.2 m = some (.inr (13, [.ref (m + 1), .ref (m + 2), .ref (m + 3), .int (((whyM s g co lf sp).2) 3), .ref (m + 4), .int (((whyM s g co lf sp).2) 5), .ref (m + 5), .int (((whyM s g co lf sp).2) 7), .int (((whyM s g co lf sp).2) 8), .int (((whyM s g co lf sp).2) 9), .int (((whyM s g co lf sp).2) 10), .int (((whyM s g co lf sp).2) 11), .ref (m + 6), .int (((whyM s g co lf sp).2) 13), .int (((whyM s g co lf sp).2) 14), .ref (m + 7), .int (((whyM s g co lf sp).2) 16), .int (((whyM s g co lf sp).2) 17), .ref (m + 8)])) ∧ ∀ q : Nat, ¬ q = m → τ9.2 q = ω.2 q) 0 0 := by
  refine fw_ofW (cc := cX11_why) (maxL := 4) (ret := (some .int)) (by decide) rfl (Nat.le_of_ble_eq_true rfl) ?_
  intro pP eE sS mI ar9 bl9 meth cD ls hx hb hr hlocks hml hts hown hnm hW hR hl
  have hK := hL.K hW
  have hS : va_S (fwA G) sS.heap sS.heap [] := va_S.rf
  have hin11 : ∀ w ∈ u_ws RX11 TX11 19, w ∈ wsX11_why := by decide +kernel
  have hl : lv_has ls 4 [(0, .ref m), (1, .int co), (2, .int lf), (3, .int sp)] := hl
  obtain ⟨c, hc8, hc, hcc⟩ := okN_of hM.1
  obtain ⟨cc, hd5, hd, hdd⟩ := okN_of hM.2.1
  refine lv_aload_n hx hb dX11_why_0 rfl (lv_at hl 0 rfl) ?_
  refine lv_iload_n hx hb dX11_why_1 rfl (lv_at hl 1 rfl) ?_
  refine fw_call (va_runV (As := [.int co]) (rest := []) ⟨hx, hb, hml, hown, hts⟩ (c_X11_isCousin G hL l ω m s g m0 m1 co) (cwV 1 hts gX11_why_X11_isCousin rfl rfl rfl (by decide +kernel) ⟨Nat.le_of_ble_eq_true rfl, Nat.le_of_ble_eq_true rfl⟩) (fw_preV hW hK hR m0 rfl) rfl rfl hl.1 rfl (lv_room (Nat.le_of_ble_eq_true rfl)) dX11_why_2 ⟨Nat.le_of_ble_eq_true rfl, Nat.le_of_ble_eq_true rfl⟩) hS (fun v_1 ω_2 H locs hq_3 hR hS => ?_)
  obtain ⟨rfl, hq_3⟩ := hq_3
  rw [hq_3] at hR
  refine W.eq (g2 := F0 mI 5 ls [.int (bz (inB co 0 (g 1 - 1)))]) rfl ?_
  refine lv_if_eq (tgt := 16) hx hb dX11_why_5 (by decide) (fun c_4 => ?_) (fun c_4 => ?_)
  · skip
    have c_4 := bz_eq c_4
    refine lv_aload_n hx hb dX11_why_16 rfl (lv_at hl 0 rfl) ?_
    refine lv_iconst (v := 1) hx hb dX11_why_17 (by decide) ?_
    refine fw_call (va_runV (As := [.int 1]) (rest := []) ⟨hx, hb, hml, hown, hts⟩ (c_X11_fails G hL l ω m s g m0 m1 1) (cwV 1 hts gX11_why_X11_fails rfl rfl rfl (by decide +kernel) ⟨Nat.le_of_ble_eq_true rfl, Nat.le_of_ble_eq_true rfl⟩) (fw_preV hW hK hR m0 rfl) rfl rfl hl.1 rfl (lv_room (Nat.le_of_ble_eq_true rfl)) dX11_why_18 ⟨Nat.le_of_ble_eq_true rfl, Nat.le_of_ble_eq_true rfl⟩) hS (fun v_5 ω_6 H locs hq_7 hR hS => ?_)
    obtain ⟨rfl, z_8, f_10, fr_9⟩ := hq_7
    refine W.eq (g2 := F0 mI 21 ls [.int 0]) rfl ?_
    have fr_11 : ∀ q : Nat, ¬ q = m → ω_6.2 q = ω.2 q := by
      intro q h0
      rw [fr_9 q (by omega)]
    have z_12 : ω_6.1 = ω.1 := by rw [z_8]
    have hr_13 : whyM s g co lf sp = ((0, (upd s 14 1)) : Int32 × (Nat → Int32)) := by
      simp only [whyM, hcc, hdd]
      rw [if_neg c_4]
    refine fw_iret hx hb hr hlocks hR hS dX11_why_21 ?_
    rw [hr_13]
    exact ⟨rfl, z_12, f_10, fr_11⟩
  · skip
    have c_4 := bz_ne c_4
    obtain ⟨i, hi2, rfl⟩ := in_c hd (by omega) c_4
    have hci : cN (nI i) = i := cN_nI (by omega)
    refine lv_aload_n hx hb dX11_why_8 rfl (lv_at hl 0 rfl) ?_
    refine lv_iload_n hx hb dX11_why_9 rfl (lv_at hl 2 rfl) ?_
    refine fw_call (va_runV (As := [.int lf]) (rest := []) ⟨hx, hb, hml, hown, hts⟩ (c_X11_isLeaflet G hL l ω m s g m0 m1 lf) (cwV 1 hts gX11_why_X11_isLeaflet rfl rfl rfl (by decide +kernel) ⟨Nat.le_of_ble_eq_true rfl, Nat.le_of_ble_eq_true rfl⟩) (fw_preV hW hK hR m0 rfl) rfl rfl hl.1 rfl (lv_room (Nat.le_of_ble_eq_true rfl)) dX11_why_10 ⟨Nat.le_of_ble_eq_true rfl, Nat.le_of_ble_eq_true rfl⟩) hS (fun v_14 ω_15 H locs hq_16 hR hS => ?_)
    obtain ⟨rfl, hq_16⟩ := hq_16
    rw [hq_16] at hR
    refine W.eq (g2 := F0 mI 13 ls [.int (bz (inB lf 0 (g 0 - 1)))]) rfl ?_
    refine lv_if_ne (tgt := 22) hx hb dX11_why_13 (by decide) (fun c_17 => ?_) (fun c_17 => ?_)
    · skip
      have c_17 := bz_ne c_17
      obtain ⟨j, hj2, rfl⟩ := in_c hc hc8 c_17
      have hcj : cN (nI j) = j := cN_nI (by omega)
      obtain ⟨n, hn8, hn, hnn⟩ := okN_of (hM.2.2 j (by rw [hcc]; exact hj2)).1
      obtain ⟨f, hf3, hff, hfn⟩ := okN_of (hM.2.2 j (by rw [hcc]; exact hj2)).2.1
      have hkd : ∀ q, q < n → g (68 + 8 * j + q) = nI (cN (g (68 + 8 * j + q))) ∧ cN (g (68 + 8 * j + q)) < 6 := fun q hq => by have h9 := (hM.2.2 j (by rw [hcc]; exact hj2)).2.2 q (by rw [hnn]; exact hq); exact ⟨h9.1, Nat.lt_succ_of_le h9.2⟩
      refine lv_aload_n hx hb dX11_why_22 rfl (lv_at hl 0 rfl) ?_
      refine lv_iload_n hx hb dX11_why_23 rfl (lv_at hl 2 rfl) ?_
      refine lv_iload_n hx hb dX11_why_24 rfl (lv_at hl 3 rfl) ?_
      refine fw_call (va_runV (As := [.int (nI j), .int sp]) (rest := []) ⟨hx, hb, hml, hown, hts⟩ (c_X11_isStep G hL l ω m s g m0 m1 j (by omega) sp) (cwV 2 hts gX11_why_X11_isStep rfl rfl rfl (by decide +kernel) ⟨Nat.le_of_ble_eq_true rfl, Nat.le_of_ble_eq_true rfl⟩) (fw_preV hW hK hR m0 rfl) rfl rfl hl.1 rfl (lv_room (Nat.le_of_ble_eq_true rfl)) dX11_why_25 ⟨Nat.le_of_ble_eq_true rfl, Nat.le_of_ble_eq_true rfl⟩) hS (fun v_18 ω_19 H locs hq_20 hR hS => ?_)
      obtain ⟨rfl, hq_20⟩ := hq_20
      rw [hq_20] at hR
      refine W.eq (g2 := F0 mI 28 ls [.int (bz (inB sp 0 (g (18 + j) - 1)))]) rfl ?_
      refine lv_if_ne (tgt := 37) hx hb dX11_why_28 (by decide) (fun c_21 => ?_) (fun c_21 => ?_)
      · skip
        have c_21 := bz_ne c_21
        obtain ⟨q, hq2, rfl⟩ := in_c hn hn8 c_21
        have hcq : cN (nI q) = q := cN_nI (by omega)
        refine lv_aload_n hx hb dX11_why_37 rfl (lv_at hl 0 rfl) ?_
        refine lv_aload_n hx hb dX11_why_38 rfl (lv_at hl 0 rfl) ?_
        refine lv_aload_n hx hb dX11_why_39 rfl (lv_at hl 0 rfl) ?_
        refine fw_get (v := .ref (m + 1)) (C := RX11) (T := TX11) (N := 19) hx hb hts hin11 hown hK hR m0 rfl 0 (by decide) (hts (.fieldLink RX11 7 "UnreadLeafletsModel" "g" "[I") (by decide +kernel)) rfl dX11_why_40 ?_
        refine lv_bipush (v := 63) hx hb dX11_why_43 (by decide) ?_
        refine lv_iload_n hx hb dX11_why_45 rfl (lv_at hl 1 rfl) ?_
        refine lv_iadd hx hb dX11_why_46 ?_
        have hi_22 : 63 + (nI i) = nI (63 + i) := by
          show (nI 63) + (nI i) = _
          simp only [pk_mul, nI_add, Nat.add_assoc, hc, hd, hn, hff]
        refine W.eq (g2 := F0 mI 47 ls [.int (nI (63 + i)), .ref (m + 1), .ref m, .ref m]) (by rw [hi_22]) ?_
        refine fw_iald hx hb hK hR m1 (vp_in_nI (by omega) (by omega)) dX11_why_47 ?_
        refine W.eq (g2 := F0 mI 48 ls [.int (g (63 + i)), .ref m, .ref m]) (by rw [nI_clamp (by omega)]) ?_
        refine lv_aload_n hx hb dX11_why_48 rfl (lv_at hl 0 rfl) ?_
        refine fw_get (v := .ref (m + 1)) (C := RX11) (T := TX11) (N := 19) hx hb hts hin11 hown hK hR m0 rfl 0 (by decide) (hts (.fieldLink RX11 7 "UnreadLeafletsModel" "g" "[I") (by decide +kernel)) rfl dX11_why_49 ?_
        refine lv_bipush (v := 58) hx hb dX11_why_52 (by decide) ?_
        refine lv_iload_n hx hb dX11_why_54 rfl (lv_at hl 1 rfl) ?_
        refine lv_iadd hx hb dX11_why_55 ?_
        have hi_23 : 58 + (nI i) = nI (58 + i) := by
          show (nI 58) + (nI i) = _
          simp only [pk_mul, nI_add, Nat.add_assoc, hc, hd, hn, hff]
        refine W.eq (g2 := F0 mI 56 ls [.int (nI (58 + i)), .ref (m + 1), .int (g (63 + i)), .ref m, .ref m]) (by rw [hi_23]) ?_
        refine fw_iald hx hb hK hR m1 (vp_in_nI (by omega) (by omega)) dX11_why_56 ?_
        refine W.eq (g2 := F0 mI 57 ls [.int (g (58 + i)), .int (g (63 + i)), .ref m, .ref m]) (by rw [nI_clamp (by omega)]) ?_
        refine lv_iload_n hx hb dX11_why_57 rfl (lv_at hl 2 rfl) ?_
        refine lv_iload_n hx hb dX11_why_58 rfl (lv_at hl 3 rfl) ?_
        refine lv_aload_n hx hb dX11_why_59 rfl (lv_at hl 0 rfl) ?_
        refine fw_get (v := .ref (m + 1)) (C := RX11) (T := TX11) (N := 19) hx hb hts hin11 hown hK hR m0 rfl 0 (by decide) (hts (.fieldLink RX11 7 "UnreadLeafletsModel" "g" "[I") (by decide +kernel)) rfl dX11_why_60 ?_
        refine lv_bipush (v := 26) hx hb dX11_why_63 (by decide) ?_
        refine lv_iload_n hx hb dX11_why_65 rfl (lv_at hl 2 rfl) ?_
        refine lv_iadd hx hb dX11_why_66 ?_
        have hi_24 : 26 + (nI j) = nI (26 + j) := by
          show (nI 26) + (nI j) = _
          simp only [pk_mul, nI_add, Nat.add_assoc, hc, hd, hn, hff]
        refine W.eq (g2 := F0 mI 67 ls [.int (nI (26 + j)), .ref (m + 1), .int (nI q), .int (nI j), .int (g (58 + i)), .int (g (63 + i)), .ref m, .ref m]) (by rw [hi_24]) ?_
        refine fw_iald hx hb hK hR m1 (vp_in_nI (by omega) (by omega)) dX11_why_67 ?_
        refine W.eq (g2 := F0 mI 68 ls [.int (g (26 + j)), .int (nI q), .int (nI j), .int (g (58 + i)), .int (g (63 + i)), .ref m, .ref m]) (by rw [nI_clamp (by omega)]) ?_
        have hi_25 : g (26 + j) = nI (f) := by
          show g (26 + j) = _
          simp only [pk_mul, nI_add, Nat.add_assoc, hc, hd, hn, hff]
        refine W.eq (g2 := F0 mI 68 ls [.int (nI (f)), .int (nI q), .int (nI j), .int (g (58 + i)), .int (g (63 + i)), .ref m, .ref m]) (by rw [hi_25]) ?_
        refine fw_call (va_runV (As := [.int (g (63 + i)), .int (g (58 + i)), .int (nI j), .int (nI q), .int (nI (f))]) (rest := [.ref m]) ⟨hx, hb, hml, hown, hts⟩ (c_X11_cause G hL l ω m s g m0 m1 (g (63 + i)) (g (58 + i)) j (by omega) q (by omega) (f) (by omega)) (cwV 5 hts gX11_why_X11_cause rfl rfl rfl (by decide +kernel) ⟨Nat.le_of_ble_eq_true rfl, Nat.le_of_ble_eq_true rfl⟩) (fw_preV hW hK hR m0 rfl) rfl rfl hl.1 rfl (lv_room (Nat.le_of_ble_eq_true rfl)) dX11_why_68 ⟨Nat.le_of_ble_eq_true rfl, Nat.le_of_ble_eq_true rfl⟩) hS (fun v_26 ω_27 H locs hq_28 hR hS => ?_)
        obtain ⟨rfl, hq_28⟩ := hq_28
        rw [hq_28] at hR
        refine W.eq (g2 := F0 mI 71 ls [.int (causeM g (g (63 + i)) (g (58 + i)) j q (f)), .ref m]) rfl ?_
        refine fw_call (va_runV (As := [.int (causeM g (g (63 + i)) (g (58 + i)) j q (f))]) (rest := []) ⟨hx, hb, hml, hown, hts⟩ (c_X11_done G hL l ω m s g m0 m1 (causeM g (g (63 + i)) (g (58 + i)) j q (f))) (cwV 1 hts gX11_why_X11_done rfl rfl rfl (by decide +kernel) ⟨Nat.le_of_ble_eq_true rfl, Nat.le_of_ble_eq_true rfl⟩) (fw_preV hW hK hR m0 rfl) rfl rfl hl.1 rfl (lv_room (Nat.le_of_ble_eq_true rfl)) dX11_why_71 ⟨Nat.le_of_ble_eq_true rfl, Nat.le_of_ble_eq_true rfl⟩) hS (fun v_29 ω_30 H locs hq_31 hR hS => ?_)
        obtain ⟨rfl, z_32, f_34, fr_33⟩ := hq_31
        refine W.eq (g2 := F0 mI 74 ls [.int (causeM g (g (63 + i)) (g (58 + i)) j q (f))]) rfl ?_
        have fr_35 : ∀ q : Nat, ¬ q = m → ω_30.2 q = ω.2 q := by
          intro q h0
          rw [fr_33 q (by omega)]
        have z_36 : ω_30.1 = ω.1 := by rw [z_32]
        have hr_37 : whyM s g (nI i) (nI j) (nI q) = (((causeM g (g (63 + i)) (g (58 + i)) j q (f)), (upd s 14 0)) : Int32 × (Nat → Int32)) := by
          simp only [whyM, hcc, hdd, hci, hcj, hnn, hfn, hcq]
          rw [if_pos c_4, if_pos c_17, if_pos c_21]
        refine fw_iret hx hb hr hlocks hR hS dX11_why_74 ?_
        rw [hr_37]
        exact ⟨rfl, z_36, f_34, fr_35⟩
      · skip
        have c_21 := bz_eq c_21
        refine lv_aload_n hx hb dX11_why_31 rfl (lv_at hl 0 rfl) ?_
        refine lv_iconst (v := 2) hx hb dX11_why_32 (by decide) ?_
        refine fw_call (va_runV (As := [.int 2]) (rest := []) ⟨hx, hb, hml, hown, hts⟩ (c_X11_fails G hL l ω m s g m0 m1 2) (cwV 1 hts gX11_why_X11_fails rfl rfl rfl (by decide +kernel) ⟨Nat.le_of_ble_eq_true rfl, Nat.le_of_ble_eq_true rfl⟩) (fw_preV hW hK hR m0 rfl) rfl rfl hl.1 rfl (lv_room (Nat.le_of_ble_eq_true rfl)) dX11_why_33 ⟨Nat.le_of_ble_eq_true rfl, Nat.le_of_ble_eq_true rfl⟩) hS (fun v_38 ω_39 H locs hq_40 hR hS => ?_)
        obtain ⟨rfl, z_41, f_43, fr_42⟩ := hq_40
        refine W.eq (g2 := F0 mI 36 ls [.int 0]) rfl ?_
        have fr_44 : ∀ q : Nat, ¬ q = m → ω_39.2 q = ω.2 q := by
          intro q h0
          rw [fr_42 q (by omega)]
        have z_45 : ω_39.1 = ω.1 := by rw [z_41]
        have hr_46 : whyM s g (nI i) (nI j) sp = ((0, (upd s 14 2)) : Int32 × (Nat → Int32)) := by
          simp only [whyM, hcc, hdd, hci, hcj, hnn, hfn]
          rw [if_pos c_4, if_pos c_17, if_neg c_21]
        refine fw_iret hx hb hr hlocks hR hS dX11_why_36 ?_
        rw [hr_46]
        exact ⟨rfl, z_45, f_43, fr_44⟩
    · skip
      have c_17 := bz_eq c_17
      refine lv_aload_n hx hb dX11_why_16 rfl (lv_at hl 0 rfl) ?_
      refine lv_iconst (v := 1) hx hb dX11_why_17 (by decide) ?_
      refine fw_call (va_runV (As := [.int 1]) (rest := []) ⟨hx, hb, hml, hown, hts⟩ (c_X11_fails G hL l ω m s g m0 m1 1) (cwV 1 hts gX11_why_X11_fails rfl rfl rfl (by decide +kernel) ⟨Nat.le_of_ble_eq_true rfl, Nat.le_of_ble_eq_true rfl⟩) (fw_preV hW hK hR m0 rfl) rfl rfl hl.1 rfl (lv_room (Nat.le_of_ble_eq_true rfl)) dX11_why_18 ⟨Nat.le_of_ble_eq_true rfl, Nat.le_of_ble_eq_true rfl⟩) hS (fun v_47 ω_48 H locs hq_49 hR hS => ?_)
      obtain ⟨rfl, z_50, f_52, fr_51⟩ := hq_49
      refine W.eq (g2 := F0 mI 21 ls [.int 0]) rfl ?_
      have fr_53 : ∀ q : Nat, ¬ q = m → ω_48.2 q = ω.2 q := by
        intro q h0
        rw [fr_51 q (by omega)]
      have z_54 : ω_48.1 = ω.1 := by rw [z_50]
      have hr_55 : whyM s g (nI i) lf sp = ((0, (upd s 14 1)) : Int32 × (Nat → Int32)) := by
        simp only [whyM, hcc, hdd, hci]
        rw [if_pos c_4, if_neg c_17]
      refine fw_iret hx hb hr hlocks hR hS dX11_why_21 ?_
      rw [hr_55]
      exact ⟨rfl, z_54, f_52, fr_53⟩
def whyAgM (s g : Nat → Int32) (co : Int32) (lf : Int32) (sp : Int32) : Int32 × (Nat → Int32) := ((whyM s g co lf sp).1, ((whyM s g co lf sp).2))
set_option maxHeartbeats 4000000 in
set_option maxRecDepth 100000 in
theorem c_X11_whyAgain (G : FG) (hL : FL G) (l : Launch) (ω : FWd) (m : Nat) (s g : Nat → Int32) (m0 : ω.2 m = some (.inr (13, [.ref (m + 1), .ref (m + 2), .ref (m + 3), .int (s 3), .ref (m + 4), .int (s 5), .ref (m + 5), .int (s 7), .int (s 8), .int (s 9), .int (s 10), .int (s 11), .ref (m + 6), .int (s 13), .int (s 14), .ref (m + 7), .int (s 16), .int (s 17), .ref (m + 8)]))) (m1 : ω.2 (m + 1) = some (.inl (G.2.1 0, 324, .inl g))) (hM : WFM g) (co : Int32) (lf : Int32) (sp : Int32) : FMet G l yX11_whyAgain wsX11_whyAgain ({ frames := 3, cells := 0, slots := 0, locals := 72 } : Room) [.ref m, .int co, .int lf, .int sp] ω (fun vv9 τ9 => vv9 = some (.int ((whyAgM s g co lf sp).1)) ∧ τ9.1 = ω.1 ∧ τ9.2 m = some (.inr (13, [.ref (m + 1), .ref (m + 2), .ref (m + 3), .int (((whyAgM s g co lf sp).2) 3), .ref (m + 4), .int (((whyAgM s g co lf sp).2) 5), .ref (m + 5), .int (((whyAgM s g co lf sp).2) 7), .int (((whyAgM s g co lf sp).2) 8), .int (((whyAgM s g co lf sp).2) 9), .int (((whyAgM s g co lf sp).2) 10), .int (((whyAgM s g co lf sp).2) 11), .ref (m + 6), .int (((whyAgM s g co lf sp).2) 13), .int (((whyAgM s g co lf sp).2) 14), .ref (m + 7), .int (((whyAgM s g co lf sp).2) 16), .int (((whyAgM s g co lf sp).2) 17), .ref (m + 8)])) ∧ ∀ q : Nat, ¬ q = m → τ9.2 q = ω.2 q) 0 0 := by
  refine fw_ofW (cc := cX11_whyAgain) (maxL := 4) (ret := (some .int)) (by decide) rfl (Nat.le_of_ble_eq_true rfl) ?_
  intro pP eE sS mI ar9 bl9 meth cD ls hx hb hr hlocks hml hts hown hnm hW hR hl
  have hK := hL.K hW
  have hS : va_S (fwA G) sS.heap sS.heap [] := va_S.rf
  have hl : lv_has ls 4 [(0, .ref m), (1, .int co), (2, .int lf), (3, .int sp)] := hl
  obtain ⟨c, hc8, hc, hcc⟩ := okN_of hM.1
  obtain ⟨cc, hd5, hd, hdd⟩ := okN_of hM.2.1
  refine lv_aload_n hx hb dX11_whyAgain_0 rfl (lv_at hl 0 rfl) ?_
  refine lv_iload_n hx hb dX11_whyAgain_1 rfl (lv_at hl 1 rfl) ?_
  refine lv_iload_n hx hb dX11_whyAgain_2 rfl (lv_at hl 2 rfl) ?_
  refine lv_iload_n hx hb dX11_whyAgain_3 rfl (lv_at hl 3 rfl) ?_
  refine fw_call (va_runV (As := [.int co, .int lf, .int sp]) (rest := []) ⟨hx, hb, hml, hown, hts⟩ (c_X11_why G hL l ω m s g m0 m1 hM co lf sp ) (cwV 3 hts gX11_whyAgain_X11_why rfl rfl rfl (by decide +kernel) ⟨Nat.le_of_ble_eq_true rfl, Nat.le_of_ble_eq_true rfl⟩) (fw_preV hW hK hR m0 rfl) rfl rfl hl.1 rfl (lv_room (Nat.le_of_ble_eq_true rfl)) dX11_whyAgain_4 ⟨Nat.le_of_ble_eq_true rfl, Nat.le_of_ble_eq_true rfl⟩) hS (fun v_1 ω_2 H locs hq_3 hR hS => ?_)
  obtain ⟨rfl, z_4, f_6, fr_5⟩ := hq_3
  refine W.eq (g2 := F0 mI 7 ls [.int ((whyM s g co lf sp).1)]) rfl ?_
  have fr_7 : ∀ q : Nat, ¬ q = m → ω_2.2 q = ω.2 q := by
    intro q h0
    rw [fr_5 q (by omega)]
  have z_8 : ω_2.1 = ω.1 := by rw [z_4]
  have hr_9 : whyAgM s g co lf sp = (((whyM s g co lf sp).1, ((whyM s g co lf sp).2)) : Int32 × (Nat → Int32)) := by
    simp only [whyAgM, hcc, hdd]
  refine fw_iret hx hb hr hlocks hR hS dX11_whyAgain_7 ?_
  rw [hr_9]
  exact ⟨rfl, z_8, f_6, fr_7⟩
def wskipM (s g : Nat → Int32) (co : Int32) (lf : Int32) : Int32 × (Nat → Int32) := if inB co 0 (g 1 - 1) then (if inB lf 0 (g 0 - 1) then (((skipM g (g (63 + (cN co))) (g (58 + (cN co))) (cN lf) (cN (g (26 + (cN lf)))) (cN (g (18 + (cN lf))))), (upd s 14 0))) else ((0, (upd s 14 1)))) else ((0, (upd s 14 1)))
set_option maxHeartbeats 4000000 in
set_option maxRecDepth 100000 in
theorem c_X11_wouldSkip (G : FG) (hL : FL G) (l : Launch) (ω : FWd) (m : Nat) (s g : Nat → Int32) (m0 : ω.2 m = some (.inr (13, [.ref (m + 1), .ref (m + 2), .ref (m + 3), .int (s 3), .ref (m + 4), .int (s 5), .ref (m + 5), .int (s 7), .int (s 8), .int (s 9), .int (s 10), .int (s 11), .ref (m + 6), .int (s 13), .int (s 14), .ref (m + 7), .int (s 16), .int (s 17), .ref (m + 8)]))) (m1 : ω.2 (m + 1) = some (.inl (G.2.1 0, 324, .inl g))) (hM : WFM g) (co : Int32) (lf : Int32) : FMet G l yX11_wouldSkip wsX11_wouldSkip ({ frames := 4, cells := 0, slots := 0, locals := 97 } : Room) [.ref m, .int co, .int lf] ω (fun vv9 τ9 => vv9 = some (.int ((wskipM s g co lf).1)) ∧ τ9.1 = ω.1 ∧ τ9.2 m = some (.inr (13, [.ref (m + 1), .ref (m + 2), .ref (m + 3), .int (((wskipM s g co lf).2) 3), .ref (m + 4), .int (((wskipM s g co lf).2) 5), .ref (m + 5), .int (((wskipM s g co lf).2) 7), .int (((wskipM s g co lf).2) 8), .int (((wskipM s g co lf).2) 9), .int (((wskipM s g co lf).2) 10), .int (((wskipM s g co lf).2) 11), .ref (m + 6), .int (((wskipM s g co lf).2) 13), .int (((wskipM s g co lf).2) 14), .ref (m + 7), .int (((wskipM s g co lf).2) 16), .int (((wskipM s g co lf).2) 17), .ref (m + 8)])) ∧ ∀ q : Nat, ¬ q = m → τ9.2 q = ω.2 q) 0 0 := by
  refine fw_ofW (cc := cX11_wouldSkip) (maxL := 3) (ret := (some .int)) (by decide) rfl (Nat.le_of_ble_eq_true rfl) ?_
  intro pP eE sS mI ar9 bl9 meth cD ls hx hb hr hlocks hml hts hown hnm hW hR hl
  have hK := hL.K hW
  have hS : va_S (fwA G) sS.heap sS.heap [] := va_S.rf
  have hl : lv_has ls 3 [(0, .ref m), (1, .int co), (2, .int lf)] := hl
  obtain ⟨c, hc8, hc, hcc⟩ := okN_of hM.1
  obtain ⟨cc, hd5, hd, hdd⟩ := okN_of hM.2.1
  refine lv_aload_n hx hb dX11_wouldSkip_0 rfl (lv_at hl 0 rfl) ?_
  refine lv_iload_n hx hb dX11_wouldSkip_1 rfl (lv_at hl 1 rfl) ?_
  refine fw_call (va_runV (As := [.int co]) (rest := []) ⟨hx, hb, hml, hown, hts⟩ (c_X11_isCousin G hL l ω m s g m0 m1 co) (cwV 1 hts gX11_wouldSkip_X11_isCousin rfl rfl rfl (by decide +kernel) ⟨Nat.le_of_ble_eq_true rfl, Nat.le_of_ble_eq_true rfl⟩) (fw_preV hW hK hR m0 rfl) rfl rfl hl.1 rfl (lv_room (Nat.le_of_ble_eq_true rfl)) dX11_wouldSkip_2 ⟨Nat.le_of_ble_eq_true rfl, Nat.le_of_ble_eq_true rfl⟩) hS (fun v_1 ω_2 H locs hq_3 hR hS => ?_)
  obtain ⟨rfl, hq_3⟩ := hq_3
  rw [hq_3] at hR
  refine W.eq (g2 := F0 mI 5 ls [.int (bz (inB co 0 (g 1 - 1)))]) rfl ?_
  refine lv_if_eq (tgt := 29) hx hb dX11_wouldSkip_5 (by decide) (fun c_4 => ?_) (fun c_4 => ?_)
  · skip
    have c_4 := bz_eq c_4
    refine lv_aload_n hx hb dX11_wouldSkip_29 rfl (lv_at hl 0 rfl) ?_
    refine lv_iconst (v := 1) hx hb dX11_wouldSkip_30 (by decide) ?_
    refine fw_call (va_runV (As := [.int 1]) (rest := []) ⟨hx, hb, hml, hown, hts⟩ (c_X11_fails G hL l ω m s g m0 m1 1) (cwV 1 hts gX11_wouldSkip_X11_fails rfl rfl rfl (by decide +kernel) ⟨Nat.le_of_ble_eq_true rfl, Nat.le_of_ble_eq_true rfl⟩) (fw_preV hW hK hR m0 rfl) rfl rfl hl.1 rfl (lv_room (Nat.le_of_ble_eq_true rfl)) dX11_wouldSkip_31 ⟨Nat.le_of_ble_eq_true rfl, Nat.le_of_ble_eq_true rfl⟩) hS (fun v_5 ω_6 H locs hq_7 hR hS => ?_)
    obtain ⟨rfl, z_8, f_10, fr_9⟩ := hq_7
    refine W.eq (g2 := F0 mI 34 ls [.int 0]) rfl ?_
    have fr_11 : ∀ q : Nat, ¬ q = m → ω_6.2 q = ω.2 q := by
      intro q h0
      rw [fr_9 q (by omega)]
    have z_12 : ω_6.1 = ω.1 := by rw [z_8]
    have hr_13 : wskipM s g co lf = ((0, (upd s 14 1)) : Int32 × (Nat → Int32)) := by
      simp only [wskipM, hcc, hdd]
      rw [if_neg c_4]
    refine fw_iret hx hb hr hlocks hR hS dX11_wouldSkip_34 ?_
    rw [hr_13]
    exact ⟨rfl, z_12, f_10, fr_11⟩
  · skip
    have c_4 := bz_ne c_4
    obtain ⟨i, hi2, rfl⟩ := in_c hd (by omega) c_4
    have hci : cN (nI i) = i := cN_nI (by omega)
    refine lv_aload_n hx hb dX11_wouldSkip_8 rfl (lv_at hl 0 rfl) ?_
    refine lv_iload_n hx hb dX11_wouldSkip_9 rfl (lv_at hl 2 rfl) ?_
    refine fw_call (va_runV (As := [.int lf]) (rest := []) ⟨hx, hb, hml, hown, hts⟩ (c_X11_isLeaflet G hL l ω m s g m0 m1 lf) (cwV 1 hts gX11_wouldSkip_X11_isLeaflet rfl rfl rfl (by decide +kernel) ⟨Nat.le_of_ble_eq_true rfl, Nat.le_of_ble_eq_true rfl⟩) (fw_preV hW hK hR m0 rfl) rfl rfl hl.1 rfl (lv_room (Nat.le_of_ble_eq_true rfl)) dX11_wouldSkip_10 ⟨Nat.le_of_ble_eq_true rfl, Nat.le_of_ble_eq_true rfl⟩) hS (fun v_14 ω_15 H locs hq_16 hR hS => ?_)
    obtain ⟨rfl, hq_16⟩ := hq_16
    rw [hq_16] at hR
    refine W.eq (g2 := F0 mI 13 ls [.int (bz (inB lf 0 (g 0 - 1)))]) rfl ?_
    refine lv_if_eq (tgt := 29) hx hb dX11_wouldSkip_13 (by decide) (fun c_17 => ?_) (fun c_17 => ?_)
    · skip
      have c_17 := bz_eq c_17
      refine lv_aload_n hx hb dX11_wouldSkip_29 rfl (lv_at hl 0 rfl) ?_
      refine lv_iconst (v := 1) hx hb dX11_wouldSkip_30 (by decide) ?_
      refine fw_call (va_runV (As := [.int 1]) (rest := []) ⟨hx, hb, hml, hown, hts⟩ (c_X11_fails G hL l ω m s g m0 m1 1) (cwV 1 hts gX11_wouldSkip_X11_fails rfl rfl rfl (by decide +kernel) ⟨Nat.le_of_ble_eq_true rfl, Nat.le_of_ble_eq_true rfl⟩) (fw_preV hW hK hR m0 rfl) rfl rfl hl.1 rfl (lv_room (Nat.le_of_ble_eq_true rfl)) dX11_wouldSkip_31 ⟨Nat.le_of_ble_eq_true rfl, Nat.le_of_ble_eq_true rfl⟩) hS (fun v_18 ω_19 H locs hq_20 hR hS => ?_)
      obtain ⟨rfl, z_21, f_23, fr_22⟩ := hq_20
      refine W.eq (g2 := F0 mI 34 ls [.int 0]) rfl ?_
      have fr_24 : ∀ q : Nat, ¬ q = m → ω_19.2 q = ω.2 q := by
        intro q h0
        rw [fr_22 q (by omega)]
      have z_25 : ω_19.1 = ω.1 := by rw [z_21]
      have hr_26 : wskipM s g (nI i) lf = ((0, (upd s 14 1)) : Int32 × (Nat → Int32)) := by
        simp only [wskipM, hcc, hdd, hci]
        rw [if_pos c_4, if_neg c_17]
      refine fw_iret hx hb hr hlocks hR hS dX11_wouldSkip_34 ?_
      rw [hr_26]
      exact ⟨rfl, z_25, f_23, fr_24⟩
    · skip
      have c_17 := bz_ne c_17
      obtain ⟨j, hj2, rfl⟩ := in_c hc hc8 c_17
      have hcj : cN (nI j) = j := cN_nI (by omega)
      obtain ⟨n, hn8, hn, hnn⟩ := okN_of (hM.2.2 j (by rw [hcc]; exact hj2)).1
      obtain ⟨f, hf3, hff, hfn⟩ := okN_of (hM.2.2 j (by rw [hcc]; exact hj2)).2.1
      have hkd : ∀ q, q < n → g (68 + 8 * j + q) = nI (cN (g (68 + 8 * j + q))) ∧ cN (g (68 + 8 * j + q)) < 6 := fun q hq => by have h9 := (hM.2.2 j (by rw [hcc]; exact hj2)).2.2 q (by rw [hnn]; exact hq); exact ⟨h9.1, Nat.lt_succ_of_le h9.2⟩
      refine lv_aload_n hx hb dX11_wouldSkip_16 rfl (lv_at hl 0 rfl) ?_
      refine lv_aload_n hx hb dX11_wouldSkip_17 rfl (lv_at hl 0 rfl) ?_
      refine lv_iload_n hx hb dX11_wouldSkip_18 rfl (lv_at hl 1 rfl) ?_
      refine lv_iload_n hx hb dX11_wouldSkip_19 rfl (lv_at hl 2 rfl) ?_
      refine fw_call (va_runV (As := [.int (nI i), .int (nI j)]) (rest := [.ref m]) ⟨hx, hb, hml, hown, hts⟩ (c_X11_skips G hL l ω m s g m0 m1 i (by omega) j (by omega) f hf3 hff n hn hn8) (cwV 2 hts gX11_wouldSkip_X11_skips rfl rfl rfl (by decide +kernel) ⟨Nat.le_of_ble_eq_true rfl, Nat.le_of_ble_eq_true rfl⟩) (fw_preV hW hK hR m0 rfl) rfl rfl hl.1 rfl (lv_room (Nat.le_of_ble_eq_true rfl)) dX11_wouldSkip_20 ⟨Nat.le_of_ble_eq_true rfl, Nat.le_of_ble_eq_true rfl⟩) hS (fun v_27 ω_28 H locs hq_29 hR hS => ?_)
      obtain ⟨rfl, hq_29⟩ := hq_29
      rw [hq_29] at hR
      refine W.eq (g2 := F0 mI 23 ls [.int (skipM g (g (63 + i)) (g (58 + i)) j f n), .ref m]) rfl ?_
      refine fw_call (va_runV (As := [.int (skipM g (g (63 + i)) (g (58 + i)) j f n)]) (rest := []) ⟨hx, hb, hml, hown, hts⟩ (c_X11_done G hL l ω m s g m0 m1 (skipM g (g (63 + i)) (g (58 + i)) j f n)) (cwV 1 hts gX11_wouldSkip_X11_done rfl rfl rfl (by decide +kernel) ⟨Nat.le_of_ble_eq_true rfl, Nat.le_of_ble_eq_true rfl⟩) (fw_preV hW hK hR m0 rfl) rfl rfl hl.1 rfl (lv_room (Nat.le_of_ble_eq_true rfl)) dX11_wouldSkip_23 ⟨Nat.le_of_ble_eq_true rfl, Nat.le_of_ble_eq_true rfl⟩) hS (fun v_30 ω_31 H locs hq_32 hR hS => ?_)
      obtain ⟨rfl, z_33, f_35, fr_34⟩ := hq_32
      refine W.eq (g2 := F0 mI 26 ls [.int (skipM g (g (63 + i)) (g (58 + i)) j f n)]) rfl ?_
      refine lv_goto (tgt := 34) hx hb dX11_wouldSkip_26 (by decide) ?_
      have fr_36 : ∀ q : Nat, ¬ q = m → ω_31.2 q = ω.2 q := by
        intro q h0
        rw [fr_34 q (by omega)]
      have z_37 : ω_31.1 = ω.1 := by rw [z_33]
      have hr_38 : wskipM s g (nI i) (nI j) = (((skipM g (g (63 + i)) (g (58 + i)) j f n), (upd s 14 0)) : Int32 × (Nat → Int32)) := by
        simp only [wskipM, hcc, hdd, hci, hcj, hnn, hfn]
        rw [if_pos c_4, if_pos c_17]
      refine fw_iret hx hb hr hlocks hR hS dX11_wouldSkip_34 ?_
      rw [hr_38]
      exact ⟨rfl, z_37, f_35, fr_36⟩
def wleaveM (s g nd : Nat → Int32) (co : Int32) (lf : Int32) (kd : Int32) : Int32 × (Nat → Int32) × (Nat → Int32) := if inB co 0 (g 1 - 1) then (if inB lf 0 (g 0 - 1) then (if inB kd 0 5 then ((((needM g (cN lf) (skipM g (g (63 + (cN co))) (g (58 + (cN co))) (cN lf) (cN (g (26 + (cN lf)))) (cN (g (18 + (cN lf))))) (clrJ nd 6) (cN (g (18 + (cN lf))))) (cN kd)), (upd s 14 0), (needM g (cN lf) (skipM g (g (63 + (cN co))) (g (58 + (cN co))) (cN lf) (cN (g (26 + (cN lf)))) (cN (g (18 + (cN lf))))) (clrJ nd 6) (cN (g (18 + (cN lf))))))) else ((0, (upd s 14 2), nd))) else ((0, (upd s 14 1), nd))) else ((0, (upd s 14 1), nd))
set_option maxHeartbeats 4000000 in
set_option maxRecDepth 100000 in
theorem c_X11_wouldLeave (G : FG) (hL : FL G) (l : Launch) (ω : FWd) (m : Nat) (s g : Nat → Int32) (m0 : ω.2 m = some (.inr (13, [.ref (m + 1), .ref (m + 2), .ref (m + 3), .int (s 3), .ref (m + 4), .int (s 5), .ref (m + 5), .int (s 7), .int (s 8), .int (s 9), .int (s 10), .int (s 11), .ref (m + 6), .int (s 13), .int (s 14), .ref (m + 7), .int (s 16), .int (s 17), .ref (m + 8)]))) (m1 : ω.2 (m + 1) = some (.inl (G.2.1 0, 324, .inl g))) (nd : Nat → Int32) (m7 : ω.2 (m + 7) = some (.inl (G.2.1 0, 6, .inl nd))) (hM : WFM g) (co : Int32) (lf : Int32) (kd : Int32) : FMet G l yX11_wouldLeave wsX11_wouldLeave ({ frames := 4, cells := 0, slots := 0, locals := 97 } : Room) [.ref m, .int co, .int lf, .int kd] ω (fun vv9 τ9 => vv9 = some (.int ((wleaveM s g nd co lf kd).1)) ∧ τ9.1 = ω.1 ∧ τ9.2 m = some (.inr (13, [.ref (m + 1), .ref (m + 2), .ref (m + 3), .int (((wleaveM s g nd co lf kd).2.1) 3), .ref (m + 4), .int (((wleaveM s g nd co lf kd).2.1) 5), .ref (m + 5), .int (((wleaveM s g nd co lf kd).2.1) 7), .int (((wleaveM s g nd co lf kd).2.1) 8), .int (((wleaveM s g nd co lf kd).2.1) 9), .int (((wleaveM s g nd co lf kd).2.1) 10), .int (((wleaveM s g nd co lf kd).2.1) 11), .ref (m + 6), .int (((wleaveM s g nd co lf kd).2.1) 13), .int (((wleaveM s g nd co lf kd).2.1) 14), .ref (m + 7), .int (((wleaveM s g nd co lf kd).2.1) 16), .int (((wleaveM s g nd co lf kd).2.1) 17), .ref (m + 8)])) ∧ τ9.2 (m + 7) = some (.inl (G.2.1 0, 6, .inl ((wleaveM s g nd co lf kd).2.2))) ∧ ∀ q : Nat, ¬ q = m → ¬ q = (m + 7) → τ9.2 q = ω.2 q) 0 0 := by
  refine fw_ofW (cc := cX11_wouldLeave) (maxL := 5) (ret := (some .int)) (by decide) rfl (Nat.le_of_ble_eq_true rfl) ?_
  intro pP eE sS mI ar9 bl9 meth cD ls hx hb hr hlocks hml hts hown hnm hW hR hl
  have hK := hL.K hW
  have hS : va_S (fwA G) sS.heap sS.heap [] := va_S.rf
  have hin11 : ∀ w ∈ u_ws RX11 TX11 19, w ∈ wsX11_wouldLeave := by decide +kernel
  have hl : lv_has ls 5 [(0, .ref m), (1, .int co), (2, .int lf), (3, .int kd)] := hl
  obtain ⟨c, hc8, hc, hcc⟩ := okN_of hM.1
  obtain ⟨cc, hd5, hd, hdd⟩ := okN_of hM.2.1
  refine lv_aload_n hx hb dX11_wouldLeave_0 rfl (lv_at hl 0 rfl) ?_
  refine lv_iload_n hx hb dX11_wouldLeave_1 rfl (lv_at hl 1 rfl) ?_
  refine fw_call (va_runV (As := [.int co]) (rest := []) ⟨hx, hb, hml, hown, hts⟩ (c_X11_isCousin G hL l ω m s g m0 m1 co) (cwV 1 hts gX11_wouldLeave_X11_isCousin rfl rfl rfl (by decide +kernel) ⟨Nat.le_of_ble_eq_true rfl, Nat.le_of_ble_eq_true rfl⟩) (fw_preV hW hK hR m0 rfl) rfl rfl hl.1 rfl (lv_room (Nat.le_of_ble_eq_true rfl)) dX11_wouldLeave_2 ⟨Nat.le_of_ble_eq_true rfl, Nat.le_of_ble_eq_true rfl⟩) hS (fun v_1 ω_2 H locs hq_3 hR hS => ?_)
  obtain ⟨rfl, hq_3⟩ := hq_3
  rw [hq_3] at hR
  refine W.eq (g2 := F0 mI 5 ls [.int (bz (inB co 0 (g 1 - 1)))]) rfl ?_
  refine lv_if_eq (tgt := 16) hx hb dX11_wouldLeave_5 (by decide) (fun c_4 => ?_) (fun c_4 => ?_)
  · skip
    have c_4 := bz_eq c_4
    refine lv_aload_n hx hb dX11_wouldLeave_16 rfl (lv_at hl 0 rfl) ?_
    refine lv_iconst (v := 1) hx hb dX11_wouldLeave_17 (by decide) ?_
    refine fw_call (va_runV (As := [.int 1]) (rest := []) ⟨hx, hb, hml, hown, hts⟩ (c_X11_fails G hL l ω m s g m0 m1 1) (cwV 1 hts gX11_wouldLeave_X11_fails rfl rfl rfl (by decide +kernel) ⟨Nat.le_of_ble_eq_true rfl, Nat.le_of_ble_eq_true rfl⟩) (fw_preV hW hK hR m0 rfl) rfl rfl hl.1 rfl (lv_room (Nat.le_of_ble_eq_true rfl)) dX11_wouldLeave_18 ⟨Nat.le_of_ble_eq_true rfl, Nat.le_of_ble_eq_true rfl⟩) hS (fun v_5 ω_6 H locs hq_7 hR hS => ?_)
    obtain ⟨rfl, z_8, f_10, fr_9⟩ := hq_7
    refine W.eq (g2 := F0 mI 21 ls [.int 0]) rfl ?_
    have f_11 : ω_6.2 (m + 7) = some (.inl (G.2.1 0, 6, .inl nd)) := (fr_9 (m + 7) (by omega)).trans m7
    have fr_12 : ∀ q : Nat, ¬ q = m → ¬ q = (m + 7) → ω_6.2 q = ω.2 q := by
      intro q h0 h1
      rw [fr_9 q (by omega)]
    have z_13 : ω_6.1 = ω.1 := by rw [z_8]
    have hr_14 : wleaveM s g nd co lf kd = ((0, (upd s 14 1), nd) : Int32 × (Nat → Int32) × (Nat → Int32)) := by
      simp only [wleaveM, hcc, hdd]
      rw [if_neg c_4]
    refine fw_iret hx hb hr hlocks hR hS dX11_wouldLeave_21 ?_
    rw [hr_14]
    exact ⟨rfl, z_13, f_10, f_11, fr_12⟩
  · skip
    have c_4 := bz_ne c_4
    obtain ⟨i, hi2, rfl⟩ := in_c hd (by omega) c_4
    have hci : cN (nI i) = i := cN_nI (by omega)
    refine lv_aload_n hx hb dX11_wouldLeave_8 rfl (lv_at hl 0 rfl) ?_
    refine lv_iload_n hx hb dX11_wouldLeave_9 rfl (lv_at hl 2 rfl) ?_
    refine fw_call (va_runV (As := [.int lf]) (rest := []) ⟨hx, hb, hml, hown, hts⟩ (c_X11_isLeaflet G hL l ω m s g m0 m1 lf) (cwV 1 hts gX11_wouldLeave_X11_isLeaflet rfl rfl rfl (by decide +kernel) ⟨Nat.le_of_ble_eq_true rfl, Nat.le_of_ble_eq_true rfl⟩) (fw_preV hW hK hR m0 rfl) rfl rfl hl.1 rfl (lv_room (Nat.le_of_ble_eq_true rfl)) dX11_wouldLeave_10 ⟨Nat.le_of_ble_eq_true rfl, Nat.le_of_ble_eq_true rfl⟩) hS (fun v_15 ω_16 H locs hq_17 hR hS => ?_)
    obtain ⟨rfl, hq_17⟩ := hq_17
    rw [hq_17] at hR
    refine W.eq (g2 := F0 mI 13 ls [.int (bz (inB lf 0 (g 0 - 1)))]) rfl ?_
    refine lv_if_ne (tgt := 22) hx hb dX11_wouldLeave_13 (by decide) (fun c_18 => ?_) (fun c_18 => ?_)
    · skip
      have c_18 := bz_ne c_18
      obtain ⟨j, hj2, rfl⟩ := in_c hc hc8 c_18
      have hcj : cN (nI j) = j := cN_nI (by omega)
      obtain ⟨n, hn8, hn, hnn⟩ := okN_of (hM.2.2 j (by rw [hcc]; exact hj2)).1
      obtain ⟨f, hf3, hff, hfn⟩ := okN_of (hM.2.2 j (by rw [hcc]; exact hj2)).2.1
      have hkd : ∀ q, q < n → g (68 + 8 * j + q) = nI (cN (g (68 + 8 * j + q))) ∧ cN (g (68 + 8 * j + q)) < 6 := fun q hq => by have h9 := (hM.2.2 j (by rw [hcc]; exact hj2)).2.2 q (by rw [hnn]; exact hq); exact ⟨h9.1, Nat.lt_succ_of_le h9.2⟩
      refine lv_iload_n hx hb dX11_wouldLeave_22 rfl (lv_at hl 3 rfl) ?_
      refine fw_call (va_runS (As := [.int kd]) (rest := []) ⟨hx, hb, hml, hown, hts⟩ (c_X11_isKind G hL l ω kd) (va_cwS 1 hts gX11_wouldLeave_X11_isKind rfl rfl rfl (by decide +kernel) ⟨Nat.le_of_ble_eq_true rfl, Nat.le_of_ble_eq_true rfl⟩) (fw_preS hW hR) rfl rfl hl.1 rfl (lv_room (Nat.le_of_ble_eq_true rfl)) dX11_wouldLeave_23 ⟨Nat.le_of_ble_eq_true rfl, Nat.le_of_ble_eq_true rfl⟩) hS (fun v_19 ω_20 H locs hq_21 hR hS => ?_)
      obtain ⟨rfl, hq_21⟩ := hq_21
      rw [hq_21] at hR
      refine W.eq (g2 := F0 mI 26 ls [.int (bz (inB kd 0 5))]) rfl ?_
      refine lv_if_ne (tgt := 35) hx hb dX11_wouldLeave_26 (by decide) (fun c_22 => ?_) (fun c_22 => ?_)
      · skip
        have c_22 := bz_ne c_22
        obtain ⟨ki, hki5, rfl⟩ := in_n (n := 5) (by decide) c_22
        have hcki : cN (nI ki) = ki := cN_nI (by omega)
        refine lv_aload_n hx hb dX11_wouldLeave_35 rfl (lv_at hl 0 rfl) ?_
        refine lv_iload_n hx hb dX11_wouldLeave_36 rfl (lv_at hl 2 rfl) ?_
        refine lv_aload_n hx hb dX11_wouldLeave_37 rfl (lv_at hl 0 rfl) ?_
        refine lv_iload_n hx hb dX11_wouldLeave_38 rfl (lv_at hl 1 rfl) ?_
        refine lv_iload_n hx hb dX11_wouldLeave_39 rfl (lv_at hl 2 rfl) ?_
        refine fw_call (va_runV (As := [.int (nI i), .int (nI j)]) (rest := [.int (nI j), .ref m]) ⟨hx, hb, hml, hown, hts⟩ (c_X11_skips G hL l ω m s g m0 m1 i (by omega) j (by omega) f hf3 hff n hn hn8) (cwV 2 hts gX11_wouldLeave_X11_skips rfl rfl rfl (by decide +kernel) ⟨Nat.le_of_ble_eq_true rfl, Nat.le_of_ble_eq_true rfl⟩) (fw_preV hW hK hR m0 rfl) rfl rfl hl.1 rfl (lv_room (Nat.le_of_ble_eq_true rfl)) dX11_wouldLeave_40 ⟨Nat.le_of_ble_eq_true rfl, Nat.le_of_ble_eq_true rfl⟩) hS (fun v_23 ω_24 H locs hq_25 hR hS => ?_)
        obtain ⟨rfl, hq_25⟩ := hq_25
        rw [hq_25] at hR
        refine W.eq (g2 := F0 mI 43 ls [.int (skipM g (g (63 + i)) (g (58 + i)) j f n), .int (nI j), .ref m]) rfl ?_
        refine fw_call (va_runV (As := [.int (nI j), .int (skipM g (g (63 + i)) (g (58 + i)) j f n)]) (rest := []) ⟨hx, hb, hml, hown, hts⟩ (c_X11_needsFor G hL l ω m s g m0 m1 nd m7 j (by omega) (skipM g (g (63 + i)) (g (58 + i)) j f n) n hn hn8 hkd) (cwV 2 hts gX11_wouldLeave_X11_needsFor rfl rfl rfl (by decide +kernel) ⟨Nat.le_of_ble_eq_true rfl, Nat.le_of_ble_eq_true rfl⟩) (fw_preV hW hK hR m0 rfl) rfl rfl hl.1 rfl (lv_room (Nat.le_of_ble_eq_true rfl)) dX11_wouldLeave_43 ⟨Nat.le_of_ble_eq_true rfl, Nat.le_of_ble_eq_true rfl⟩) hS (fun v_26 ω_27 H locs hq_28 hR hS => ?_)
        obtain ⟨rfl, z_29, f_31, fr_30⟩ := hq_28
        refine W.eq (g2 := F0 mI 46 ls [.int (sumM g j (skipM g (g (63 + i)) (g (58 + i)) j f n) n)]) rfl ?_
        refine lv_istore (lv' := [(4, .int (sumM g j (skipM g (g (63 + i)) (g (58 + i)) j f n) n)), (0, .ref m), (1, .int (nI i)), (2, .int (nI j)), (3, .int (nI ki))]) hx hb dX11_wouldLeave_46 hl (by decide) rfl (fun ls hl => ?_)
        refine lv_aload_n hx hb dX11_wouldLeave_48 rfl (lv_at hl 1 rfl) ?_
        refine lv_aload_n hx hb dX11_wouldLeave_49 rfl (lv_at hl 1 rfl) ?_
        have f_32 : ω_27.2 m = some (.inr (13, [.ref (m + 1), .ref (m + 2), .ref (m + 3), .int (s 3), .ref (m + 4), .int (s 5), .ref (m + 5), .int (s 7), .int (s 8), .int (s 9), .int (s 10), .int (s 11), .ref (m + 6), .int (s 13), .int (s 14), .ref (m + 7), .int (s 16), .int (s 17), .ref (m + 8)])) := (fr_30 m (by omega)).trans m0
        refine fw_get (v := .ref (m + 7)) (C := RX11) (T := TX11) (N := 19) hx hb hts hin11 hown hK hR f_32 rfl 15 (by decide) (hts (.fieldLink RX11 33 "UnreadLeafletsModel" "needs" "[I") (by decide +kernel)) rfl dX11_wouldLeave_50 ?_
        refine lv_iload_n hx hb dX11_wouldLeave_53 rfl (lv_at hl 4 rfl) ?_
        refine fw_iald hx hb hK hR f_31 (vp_in_nI (by omega) (by omega)) dX11_wouldLeave_54 ?_
        refine W.eq (g2 := F0 mI 55 ls [.int ((needM g j (skipM g (g (63 + i)) (g (58 + i)) j f n) (clrJ nd 6) n) ki), .ref m]) (by rw [nI_clamp (by omega)]) ?_
        have f_33 : ω_27.2 (m + 1) = some (.inl (G.2.1 0, 324, .inl g)) := (fr_30 (m + 1) (by omega)).trans m1
        refine fw_call (va_runV (As := [.int ((needM g j (skipM g (g (63 + i)) (g (58 + i)) j f n) (clrJ nd 6) n) ki)]) (rest := []) ⟨hx, hb, hml, hown, hts⟩ (c_X11_done G hL l ω_27 m s g f_32 f_33 ((needM g j (skipM g (g (63 + i)) (g (58 + i)) j f n) (clrJ nd 6) n) ki)) (cwV 1 hts gX11_wouldLeave_X11_done rfl rfl rfl (by decide +kernel) ⟨Nat.le_of_ble_eq_true rfl, Nat.le_of_ble_eq_true rfl⟩) (fw_preV hW hK hR f_32 rfl) rfl rfl hl.1 rfl (lv_room (Nat.le_of_ble_eq_true rfl)) dX11_wouldLeave_55 ⟨Nat.le_of_ble_eq_true rfl, Nat.le_of_ble_eq_true rfl⟩) hS (fun v_34 ω_35 H locs hq_36 hR hS => ?_)
        obtain ⟨rfl, z_37, f_39, fr_38⟩ := hq_36
        refine W.eq (g2 := F0 mI 58 ls [.int ((needM g j (skipM g (g (63 + i)) (g (58 + i)) j f n) (clrJ nd 6) n) ki)]) rfl ?_
        have f_40 : ω_35.2 (m + 7) = some (.inl (G.2.1 0, 6, .inl (needM g j (skipM g (g (63 + i)) (g (58 + i)) j f n) (clrJ nd 6) n))) := (fr_38 (m + 7) (by omega)).trans f_31
        have fr_41 : ∀ q : Nat, ¬ q = m → ¬ q = (m + 7) → ω_35.2 q = ω.2 q := by
          intro q h0 h1
          rw [fr_38 q (by omega)]
          rw [fr_30 q (by omega)]
        have z_42 : ω_35.1 = ω.1 := by rw [z_37, z_29]
        have hr_43 : wleaveM s g nd (nI i) (nI j) (nI ki) = ((((needM g j (skipM g (g (63 + i)) (g (58 + i)) j f n) (clrJ nd 6) n) ki), (upd s 14 0), (needM g j (skipM g (g (63 + i)) (g (58 + i)) j f n) (clrJ nd 6) n)) : Int32 × (Nat → Int32) × (Nat → Int32)) := by
          simp only [wleaveM, hcc, hdd, hci, hcj, hnn, hfn, hcki]
          rw [if_pos c_4, if_pos c_18, if_pos c_22]
        refine fw_iret hx hb hr hlocks hR hS dX11_wouldLeave_58 ?_
        rw [hr_43]
        exact ⟨rfl, z_42, f_39, f_40, fr_41⟩
      · skip
        have c_22 := bz_eq c_22
        refine lv_aload_n hx hb dX11_wouldLeave_29 rfl (lv_at hl 0 rfl) ?_
        refine lv_iconst (v := 2) hx hb dX11_wouldLeave_30 (by decide) ?_
        refine fw_call (va_runV (As := [.int 2]) (rest := []) ⟨hx, hb, hml, hown, hts⟩ (c_X11_fails G hL l ω m s g m0 m1 2) (cwV 1 hts gX11_wouldLeave_X11_fails rfl rfl rfl (by decide +kernel) ⟨Nat.le_of_ble_eq_true rfl, Nat.le_of_ble_eq_true rfl⟩) (fw_preV hW hK hR m0 rfl) rfl rfl hl.1 rfl (lv_room (Nat.le_of_ble_eq_true rfl)) dX11_wouldLeave_31 ⟨Nat.le_of_ble_eq_true rfl, Nat.le_of_ble_eq_true rfl⟩) hS (fun v_44 ω_45 H locs hq_46 hR hS => ?_)
        obtain ⟨rfl, z_47, f_49, fr_48⟩ := hq_46
        refine W.eq (g2 := F0 mI 34 ls [.int 0]) rfl ?_
        have f_50 : ω_45.2 (m + 7) = some (.inl (G.2.1 0, 6, .inl nd)) := (fr_48 (m + 7) (by omega)).trans m7
        have fr_51 : ∀ q : Nat, ¬ q = m → ¬ q = (m + 7) → ω_45.2 q = ω.2 q := by
          intro q h0 h1
          rw [fr_48 q (by omega)]
        have z_52 : ω_45.1 = ω.1 := by rw [z_47]
        have hr_53 : wleaveM s g nd (nI i) (nI j) kd = ((0, (upd s 14 2), nd) : Int32 × (Nat → Int32) × (Nat → Int32)) := by
          simp only [wleaveM, hcc, hdd, hci, hcj, hnn, hfn]
          rw [if_pos c_4, if_pos c_18, if_neg c_22]
        refine fw_iret hx hb hr hlocks hR hS dX11_wouldLeave_34 ?_
        rw [hr_53]
        exact ⟨rfl, z_52, f_49, f_50, fr_51⟩
    · skip
      have c_18 := bz_eq c_18
      refine lv_aload_n hx hb dX11_wouldLeave_16 rfl (lv_at hl 0 rfl) ?_
      refine lv_iconst (v := 1) hx hb dX11_wouldLeave_17 (by decide) ?_
      refine fw_call (va_runV (As := [.int 1]) (rest := []) ⟨hx, hb, hml, hown, hts⟩ (c_X11_fails G hL l ω m s g m0 m1 1) (cwV 1 hts gX11_wouldLeave_X11_fails rfl rfl rfl (by decide +kernel) ⟨Nat.le_of_ble_eq_true rfl, Nat.le_of_ble_eq_true rfl⟩) (fw_preV hW hK hR m0 rfl) rfl rfl hl.1 rfl (lv_room (Nat.le_of_ble_eq_true rfl)) dX11_wouldLeave_18 ⟨Nat.le_of_ble_eq_true rfl, Nat.le_of_ble_eq_true rfl⟩) hS (fun v_54 ω_55 H locs hq_56 hR hS => ?_)
      obtain ⟨rfl, z_57, f_59, fr_58⟩ := hq_56
      refine W.eq (g2 := F0 mI 21 ls [.int 0]) rfl ?_
      have f_60 : ω_55.2 (m + 7) = some (.inl (G.2.1 0, 6, .inl nd)) := (fr_58 (m + 7) (by omega)).trans m7
      have fr_61 : ∀ q : Nat, ¬ q = m → ¬ q = (m + 7) → ω_55.2 q = ω.2 q := by
        intro q h0 h1
        rw [fr_58 q (by omega)]
      have z_62 : ω_55.1 = ω.1 := by rw [z_57]
      have hr_63 : wleaveM s g nd (nI i) lf kd = ((0, (upd s 14 1), nd) : Int32 × (Nat → Int32) × (Nat → Int32)) := by
        simp only [wleaveM, hcc, hdd, hci]
        rw [if_pos c_4, if_neg c_18]
      refine fw_iret hx hb hr hlocks hR hS dX11_wouldLeave_21 ?_
      rw [hr_63]
      exact ⟨rfl, z_62, f_59, f_60, fr_61⟩
def betM (s g : Nat → Int32) (i : Nat) (i2 : Nat) (j : Nat) : Int32 := if 0 < ((bitsJ (skipM g (g (63 + i2)) (g (58 + i2)) j (cN (g (26 + j))) (cN (g (18 + j)))) 8) - (bitsJ (skipM g (g (63 + i)) (g (58 + i)) j (cN (g (26 + j))) (cN (g (18 + j)))) 8)) then (1) else (if ((bitsJ (skipM g (g (63 + i2)) (g (58 + i2)) j (cN (g (26 + j))) (cN (g (18 + j)))) 8) - (bitsJ (skipM g (g (63 + i)) (g (58 + i)) j (cN (g (26 + j))) (cN (g (18 + j)))) 8)) = 0 then (if (g (58 + i2)) ≤ (g (58 + i)) then (0) else (1)) else (0))
set_option maxHeartbeats 4000000 in
set_option maxRecDepth 100000 in
theorem c_X11_isBetter (G : FG) (hL : FL G) (l : Launch) (ω : FWd) (m : Nat) (s g : Nat → Int32) (m0 : ω.2 m = some (.inr (13, [.ref (m + 1), .ref (m + 2), .ref (m + 3), .int (s 3), .ref (m + 4), .int (s 5), .ref (m + 5), .int (s 7), .int (s 8), .int (s 9), .int (s 10), .int (s 11), .ref (m + 6), .int (s 13), .int (s 14), .ref (m + 7), .int (s 16), .int (s 17), .ref (m + 8)]))) (m1 : ω.2 (m + 1) = some (.inl (G.2.1 0, 324, .inl g))) (hM : WFM g) (i : Nat) (i2 : Nat) (j : Nat) (hic : i < cN (g 1)) (hic2 : i2 < cN (g 1)) (hjc : j < cN (g 0)) : FMet G l yX11_isBetter wsX11_isBetter ({ frames := 4, cells := 0, slots := 0, locals := 97 } : Room) [.ref m, .int (nI i), .int (nI i2), .int (nI j)] ω (rI (betM s g i i2 j) ω) 0 0 := by
  refine fw_ofW (cc := cX11_isBetter) (maxL := 5) (ret := (some .boolean)) (by decide) rfl (Nat.le_of_ble_eq_true rfl) ?_
  intro pP eE sS mI ar9 bl9 meth cD ls hx hb hr hlocks hml hts hown hnm hW hR hl
  have hK := hL.K hW
  have hS : va_S (fwA G) sS.heap sS.heap [] := va_S.rf
  have hin11 : ∀ w ∈ u_ws RX11 TX11 19, w ∈ wsX11_isBetter := by decide +kernel
  have hl : lv_has ls 5 [(0, .ref m), (1, .int (nI i)), (2, .int (nI i2)), (3, .int (nI j))] := hl
  obtain ⟨c, hc8, hc, hcc⟩ := okN_of hM.1
  obtain ⟨cc, hd5, hd, hdd⟩ := okN_of hM.2.1
  have hi2 : i < cc := by rw [← hdd]; exact hic
  have hi22 : i2 < cc := by rw [← hdd]; exact hic2
  have hj2 : j < c := by rw [← hcc]; exact hjc
  obtain ⟨n, hn8, hn, hnn⟩ := okN_of (hM.2.2 j (by rw [hcc]; exact hj2)).1
  obtain ⟨f, hf3, hff, hfn⟩ := okN_of (hM.2.2 j (by rw [hcc]; exact hj2)).2.1
  have hkd : ∀ q, q < n → g (68 + 8 * j + q) = nI (cN (g (68 + 8 * j + q))) ∧ cN (g (68 + 8 * j + q)) < 6 := fun q hq => by have h9 := (hM.2.2 j (by rw [hcc]; exact hj2)).2.2 q (by rw [hnn]; exact hq); exact ⟨h9.1, Nat.lt_succ_of_le h9.2⟩
  refine lv_aload_n hx hb dX11_isBetter_0 rfl (lv_at hl 0 rfl) ?_
  refine lv_iload_n hx hb dX11_isBetter_1 rfl (lv_at hl 2 rfl) ?_
  refine lv_iload_n hx hb dX11_isBetter_2 rfl (lv_at hl 3 rfl) ?_
  refine fw_call (va_runV (As := [.int (nI i2), .int (nI j)]) (rest := []) ⟨hx, hb, hml, hown, hts⟩ (c_X11_skips G hL l ω m s g m0 m1 i2 (by omega) j (by omega) f hf3 hff n hn hn8) (cwV 2 hts gX11_isBetter_X11_skips rfl rfl rfl (by decide +kernel) ⟨Nat.le_of_ble_eq_true rfl, Nat.le_of_ble_eq_true rfl⟩) (fw_preV hW hK hR m0 rfl) rfl rfl hl.1 rfl (lv_room (Nat.le_of_ble_eq_true rfl)) dX11_isBetter_3 ⟨Nat.le_of_ble_eq_true rfl, Nat.le_of_ble_eq_true rfl⟩) hS (fun v_1 ω_2 H locs hq_3 hR hS => ?_)
  obtain ⟨rfl, hq_3⟩ := hq_3
  rw [hq_3] at hR
  refine W.eq (g2 := F0 mI 6 ls [.int (skipM g (g (63 + i2)) (g (58 + i2)) j f n)]) rfl ?_
  refine fw_call (va_runS (As := [.int (skipM g (g (63 + i2)) (g (58 + i2)) j f n)]) (rest := []) ⟨hx, hb, hml, hown, hts⟩ (c_X11_bits G hL l ω (skipM g (g (63 + i2)) (g (58 + i2)) j f n)) (va_cwS 1 hts gX11_isBetter_X11_bits rfl rfl rfl (by decide +kernel) ⟨Nat.le_of_ble_eq_true rfl, Nat.le_of_ble_eq_true rfl⟩) (fw_preS hW hR) rfl rfl hl.1 rfl (lv_room (Nat.le_of_ble_eq_true rfl)) dX11_isBetter_6 ⟨Nat.le_of_ble_eq_true rfl, Nat.le_of_ble_eq_true rfl⟩) hS (fun v_4 ω_5 H locs hq_6 hR hS => ?_)
  obtain ⟨rfl, hq_6⟩ := hq_6
  rw [hq_6] at hR
  refine W.eq (g2 := F0 mI 9 ls [.int (bitsJ (skipM g (g (63 + i2)) (g (58 + i2)) j f n) 8)]) rfl ?_
  refine lv_aload_n hx hb dX11_isBetter_9 rfl (lv_at hl 0 rfl) ?_
  refine lv_iload_n hx hb dX11_isBetter_10 rfl (lv_at hl 1 rfl) ?_
  refine lv_iload_n hx hb dX11_isBetter_11 rfl (lv_at hl 3 rfl) ?_
  refine fw_call (va_runV (As := [.int (nI i), .int (nI j)]) (rest := [.int (bitsJ (skipM g (g (63 + i2)) (g (58 + i2)) j f n) 8)]) ⟨hx, hb, hml, hown, hts⟩ (c_X11_skips G hL l ω m s g m0 m1 i (by omega) j (by omega) f hf3 hff n hn hn8) (cwV 2 hts gX11_isBetter_X11_skips rfl rfl rfl (by decide +kernel) ⟨Nat.le_of_ble_eq_true rfl, Nat.le_of_ble_eq_true rfl⟩) (fw_preV hW hK hR m0 rfl) rfl rfl hl.1 rfl (lv_room (Nat.le_of_ble_eq_true rfl)) dX11_isBetter_12 ⟨Nat.le_of_ble_eq_true rfl, Nat.le_of_ble_eq_true rfl⟩) hS (fun v_7 ω_8 H locs hq_9 hR hS => ?_)
  obtain ⟨rfl, hq_9⟩ := hq_9
  rw [hq_9] at hR
  refine W.eq (g2 := F0 mI 15 ls [.int (skipM g (g (63 + i)) (g (58 + i)) j f n), .int (bitsJ (skipM g (g (63 + i2)) (g (58 + i2)) j f n) 8)]) rfl ?_
  refine fw_call (va_runS (As := [.int (skipM g (g (63 + i)) (g (58 + i)) j f n)]) (rest := [.int (bitsJ (skipM g (g (63 + i2)) (g (58 + i2)) j f n) 8)]) ⟨hx, hb, hml, hown, hts⟩ (c_X11_bits G hL l ω (skipM g (g (63 + i)) (g (58 + i)) j f n)) (va_cwS 1 hts gX11_isBetter_X11_bits rfl rfl rfl (by decide +kernel) ⟨Nat.le_of_ble_eq_true rfl, Nat.le_of_ble_eq_true rfl⟩) (fw_preS hW hR) rfl rfl hl.1 rfl (lv_room (Nat.le_of_ble_eq_true rfl)) dX11_isBetter_15 ⟨Nat.le_of_ble_eq_true rfl, Nat.le_of_ble_eq_true rfl⟩) hS (fun v_10 ω_11 H locs hq_12 hR hS => ?_)
  obtain ⟨rfl, hq_12⟩ := hq_12
  rw [hq_12] at hR
  refine W.eq (g2 := F0 mI 18 ls [.int (bitsJ (skipM g (g (63 + i)) (g (58 + i)) j f n) 8), .int (bitsJ (skipM g (g (63 + i2)) (g (58 + i2)) j f n) 8)]) rfl ?_
  refine lv_isub hx hb dX11_isBetter_18 ?_
  refine lv_topi (fun x_13 ex_13 => ?_)
  refine lv_istore (lv' := [(4, .int x_13), (0, .ref m), (1, .int (nI i)), (2, .int (nI i2)), (3, .int (nI j))]) hx hb dX11_isBetter_19 hl (by decide) rfl (fun ls hl => ?_)
  refine lv_iload hx hb dX11_isBetter_21 (lv_at hl 0 rfl) ?_
  refine lv_if_gt (tgt := 52) hx hb dX11_isBetter_23 (by decide) (fun c_14 => ?_) (fun c_14 => ?_)
  · skip
    refine lv_iconst (v := 1) hx hb dX11_isBetter_52 (by decide) ?_
    refine lv_goto (tgt := 57) hx hb dX11_isBetter_53 (by decide) ?_
    subst ex_13
    have fr_15 : ∀ q : Nat, True → ω.2 q = ω.2 q := by
      intro q _
      rfl
    have z_16 : ω.1 = ω.1 := rfl
    have hr_17 : betM s g i i2 j = (1 : Int32) := by
      simp only [betM, hcc, hdd, hnn, hfn]
      rw [if_pos c_14]
    refine fw_zret hx hb hr rfl hlocks hR hS dX11_isBetter_57 (rI_mk hr_17.symm)
  · skip
    refine lv_iload hx hb dX11_isBetter_26 (lv_at hl 0 rfl) ?_
    refine lv_if_ne (tgt := 56) hx hb dX11_isBetter_28 (by decide) (fun c_18 => ?_) (fun c_18 => ?_)
    · skip
      refine lv_iconst (v := 0) hx hb dX11_isBetter_56 (by decide) ?_
      subst ex_13
      have fr_19 : ∀ q : Nat, True → ω.2 q = ω.2 q := by
        intro q _
        rfl
      have z_20 : ω.1 = ω.1 := rfl
      have hr_21 : betM s g i i2 j = (0 : Int32) := by
        simp only [betM, hcc, hdd, hnn, hfn]
        rw [if_neg c_14, if_neg c_18]
      refine fw_zret hx hb hr rfl hlocks hR hS dX11_isBetter_57 (rI_mk hr_21.symm)
    · skip
      refine lv_aload_n hx hb dX11_isBetter_31 rfl (lv_at hl 1 rfl) ?_
      refine fw_get (v := .ref (m + 1)) (C := RX11) (T := TX11) (N := 19) hx hb hts hin11 hown hK hR m0 rfl 0 (by decide) (hts (.fieldLink RX11 7 "UnreadLeafletsModel" "g" "[I") (by decide +kernel)) rfl dX11_isBetter_32 ?_
      refine lv_bipush (v := 58) hx hb dX11_isBetter_35 (by decide) ?_
      refine lv_iload_n hx hb dX11_isBetter_37 rfl (lv_at hl 2 rfl) ?_
      refine lv_iadd hx hb dX11_isBetter_38 ?_
      have hi_22 : 58 + (nI i) = nI (58 + i) := by
        show (nI 58) + (nI i) = _
        simp only [pk_mul, nI_add, Nat.add_assoc, hc, hd, hn, hff]
      refine W.eq (g2 := F0 mI 39 ls [.int (nI (58 + i)), .ref (m + 1)]) (by rw [hi_22]) ?_
      refine fw_iald hx hb hK hR m1 (vp_in_nI (by omega) (by omega)) dX11_isBetter_39 ?_
      refine W.eq (g2 := F0 mI 40 ls [.int (g (58 + i))]) (by rw [nI_clamp (by omega)]) ?_
      refine lv_aload_n hx hb dX11_isBetter_40 rfl (lv_at hl 1 rfl) ?_
      refine fw_get (v := .ref (m + 1)) (C := RX11) (T := TX11) (N := 19) hx hb hts hin11 hown hK hR m0 rfl 0 (by decide) (hts (.fieldLink RX11 7 "UnreadLeafletsModel" "g" "[I") (by decide +kernel)) rfl dX11_isBetter_41 ?_
      refine lv_bipush (v := 58) hx hb dX11_isBetter_44 (by decide) ?_
      refine lv_iload_n hx hb dX11_isBetter_46 rfl (lv_at hl 3 rfl) ?_
      refine lv_iadd hx hb dX11_isBetter_47 ?_
      have hi_23 : 58 + (nI i2) = nI (58 + i2) := by
        show (nI 58) + (nI i2) = _
        simp only [pk_mul, nI_add, Nat.add_assoc, hc, hd, hn, hff]
      refine W.eq (g2 := F0 mI 48 ls [.int (nI (58 + i2)), .ref (m + 1), .int (g (58 + i))]) (by rw [hi_23]) ?_
      refine fw_iald hx hb hK hR m1 (vp_in_nI (by omega) (by omega)) dX11_isBetter_48 ?_
      refine W.eq (g2 := F0 mI 49 ls [.int (g (58 + i2)), .int (g (58 + i))]) (by rw [nI_clamp (by omega)]) ?_
      refine lv_icmp_ge (tgt := 56) hx hb dX11_isBetter_49 (by decide) (fun c_24 => ?_) (fun c_24 => ?_)
      · skip
        refine lv_iconst (v := 0) hx hb dX11_isBetter_56 (by decide) ?_
        subst ex_13
        have fr_25 : ∀ q : Nat, True → ω.2 q = ω.2 q := by
          intro q _
          rfl
        have z_26 : ω.1 = ω.1 := rfl
        have hr_27 : betM s g i i2 j = (0 : Int32) := by
          simp only [betM, hcc, hdd, hnn, hfn]
          rw [if_neg c_14, if_pos c_18, if_pos c_24]
        refine fw_zret hx hb hr rfl hlocks hR hS dX11_isBetter_57 (rI_mk hr_27.symm)
      · skip
        refine lv_iconst (v := 1) hx hb dX11_isBetter_52 (by decide) ?_
        refine lv_goto (tgt := 57) hx hb dX11_isBetter_53 (by decide) ?_
        subst ex_13
        have fr_28 : ∀ q : Nat, True → ω.2 q = ω.2 q := by
          intro q _
          rfl
        have z_29 : ω.1 = ω.1 := rfl
        have hr_30 : betM s g i i2 j = (1 : Int32) := by
          simp only [betM, hcc, hdd, hnn, hfn]
          rw [if_neg c_14, if_pos c_18, if_neg c_24]
        refine fw_zret hx hb hr rfl hlocks hR hS dX11_isBetter_57 (rI_mk hr_30.symm)
def blanL (s g : Nat → Int32) (co : Int32) (lf : Int32) : Nat → Int32 × Int32
  | 0 => ((-1), bitsJ (skipM g (g (63 + (cN co))) (g (58 + (cN co))) (cN lf) (cN (g (26 + (cN lf)))) (cN (g (18 + (cN lf))))) 8)
  | k + 1 => if ((blanL s g (co) (lf) k).2) ≤ (bitsJ (skipM g ((g (63 + (cN co))) ||| (1 <<< ((nI k) &&& 31))) (g (58 + (cN co))) (cN lf) ((cN (g (26 + (cN lf))))) (cN (g (18 + (cN lf))))) 8) then ((((blanL s g (co) (lf) k).1), ((blanL s g (co) (lf) k).2))) else ((nI k, bitsJ (skipM g ((g (63 + (cN co))) ||| (1 <<< ((nI k) &&& 31))) (g (58 + (cN co))) (cN lf) ((cN (g (26 + (cN lf))))) (cN (g (18 + (cN lf))))) 8))
def blanM (s g : Nat → Int32) (co : Int32) (lf : Int32) : Int32 × (Nat → Int32) := if inB co 0 (g 1 - 1) then (if inB lf 0 (g 0 - 1) then (if ((blanL s g (co) (lf) 5).1) = (-1) then ((0, (upd s 14 2))) else ((((blanL s g (co) (lf) 5).1), (upd s 14 0)))) else ((0, (upd s 14 1)))) else ((0, (upd s 14 1)))
set_option maxHeartbeats 4000000 in
set_option maxRecDepth 100000 in
theorem c_X11_bestLanguage (G : FG) (hL : FL G) (l : Launch) (ω : FWd) (m : Nat) (s g : Nat → Int32) (m0 : ω.2 m = some (.inr (13, [.ref (m + 1), .ref (m + 2), .ref (m + 3), .int (s 3), .ref (m + 4), .int (s 5), .ref (m + 5), .int (s 7), .int (s 8), .int (s 9), .int (s 10), .int (s 11), .ref (m + 6), .int (s 13), .int (s 14), .ref (m + 7), .int (s 16), .int (s 17), .ref (m + 8)]))) (m1 : ω.2 (m + 1) = some (.inl (G.2.1 0, 324, .inl g))) (hM : WFM g) (co : Int32) (lf : Int32) : FMet G l yX11_bestLanguage wsX11_bestLanguage ({ frames := 4, cells := 0, slots := 0, locals := 97 } : Room) [.ref m, .int co, .int lf] ω (fun vv9 τ9 => vv9 = some (.int ((blanM s g co lf).1)) ∧ τ9.1 = ω.1 ∧ τ9.2 m = some (.inr (13, [.ref (m + 1), .ref (m + 2), .ref (m + 3), .int (((blanM s g co lf).2) 3), .ref (m + 4), .int (((blanM s g co lf).2) 5), .ref (m + 5), .int (((blanM s g co lf).2) 7), .int (((blanM s g co lf).2) 8), .int (((blanM s g co lf).2) 9), .int (((blanM s g co lf).2) 10), .int (((blanM s g co lf).2) 11), .ref (m + 6), .int (((blanM s g co lf).2) 13), .int (((blanM s g co lf).2) 14), .ref (m + 7), .int (((blanM s g co lf).2) 16), .int (((blanM s g co lf).2) 17), .ref (m + 8)])) ∧ ∀ q : Nat, ¬ q = m → τ9.2 q = ω.2 q) 0 0 := by
  refine fw_ofW (cc := cX11_bestLanguage) (maxL := 7) (ret := (some .int)) (by decide) rfl (Nat.le_of_ble_eq_true rfl) ?_
  intro pP eE sS mI ar9 bl9 meth cD ls hx hb hr hlocks hml hts hown hnm hW hR hl
  have hK := hL.K hW
  have hS : va_S (fwA G) sS.heap sS.heap [] := va_S.rf
  have hin11 : ∀ w ∈ u_ws RX11 TX11 19, w ∈ wsX11_bestLanguage := by decide +kernel
  have hl : lv_has ls 7 [(0, .ref m), (1, .int co), (2, .int lf)] := hl
  obtain ⟨c, hc8, hc, hcc⟩ := okN_of hM.1
  obtain ⟨cc, hd5, hd, hdd⟩ := okN_of hM.2.1
  refine lv_aload_n hx hb dX11_bestLanguage_0 rfl (lv_at hl 0 rfl) ?_
  refine lv_iload_n hx hb dX11_bestLanguage_1 rfl (lv_at hl 1 rfl) ?_
  refine fw_call (va_runV (As := [.int co]) (rest := []) ⟨hx, hb, hml, hown, hts⟩ (c_X11_isCousin G hL l ω m s g m0 m1 co) (cwV 1 hts gX11_bestLanguage_X11_isCousin rfl rfl rfl (by decide +kernel) ⟨Nat.le_of_ble_eq_true rfl, Nat.le_of_ble_eq_true rfl⟩) (fw_preV hW hK hR m0 rfl) rfl rfl hl.1 rfl (lv_room (Nat.le_of_ble_eq_true rfl)) dX11_bestLanguage_2 ⟨Nat.le_of_ble_eq_true rfl, Nat.le_of_ble_eq_true rfl⟩) hS (fun v_1 ω_2 H locs hq_3 hR hS => ?_)
  obtain ⟨rfl, hq_3⟩ := hq_3
  rw [hq_3] at hR
  refine W.eq (g2 := F0 mI 5 ls [.int (bz (inB co 0 (g 1 - 1)))]) rfl ?_
  refine lv_if_eq (tgt := 16) hx hb dX11_bestLanguage_5 (by decide) (fun c_4 => ?_) (fun c_4 => ?_)
  · skip
    have c_4 := bz_eq c_4
    refine lv_aload_n hx hb dX11_bestLanguage_16 rfl (lv_at hl 0 rfl) ?_
    refine lv_iconst (v := 1) hx hb dX11_bestLanguage_17 (by decide) ?_
    refine fw_call (va_runV (As := [.int 1]) (rest := []) ⟨hx, hb, hml, hown, hts⟩ (c_X11_fails G hL l ω m s g m0 m1 1) (cwV 1 hts gX11_bestLanguage_X11_fails rfl rfl rfl (by decide +kernel) ⟨Nat.le_of_ble_eq_true rfl, Nat.le_of_ble_eq_true rfl⟩) (fw_preV hW hK hR m0 rfl) rfl rfl hl.1 rfl (lv_room (Nat.le_of_ble_eq_true rfl)) dX11_bestLanguage_18 ⟨Nat.le_of_ble_eq_true rfl, Nat.le_of_ble_eq_true rfl⟩) hS (fun v_5 ω_6 H locs hq_7 hR hS => ?_)
    obtain ⟨rfl, z_8, f_10, fr_9⟩ := hq_7
    refine W.eq (g2 := F0 mI 21 ls [.int 0]) rfl ?_
    have fr_11 : ∀ q : Nat, ¬ q = m → ω_6.2 q = ω.2 q := by
      intro q h0
      rw [fr_9 q (by omega)]
    have z_12 : ω_6.1 = ω.1 := by rw [z_8]
    have hr_13 : blanM s g co lf = ((0, (upd s 14 1)) : Int32 × (Nat → Int32)) := by
      simp only [blanM, hcc, hdd]
      rw [if_neg c_4]
    refine fw_iret hx hb hr hlocks hR hS dX11_bestLanguage_21 ?_
    rw [hr_13]
    exact ⟨rfl, z_12, f_10, fr_11⟩
  · skip
    have c_4 := bz_ne c_4
    obtain ⟨i, hi2, rfl⟩ := in_c hd (by omega) c_4
    have hci : cN (nI i) = i := cN_nI (by omega)
    refine lv_aload_n hx hb dX11_bestLanguage_8 rfl (lv_at hl 0 rfl) ?_
    refine lv_iload_n hx hb dX11_bestLanguage_9 rfl (lv_at hl 2 rfl) ?_
    refine fw_call (va_runV (As := [.int lf]) (rest := []) ⟨hx, hb, hml, hown, hts⟩ (c_X11_isLeaflet G hL l ω m s g m0 m1 lf) (cwV 1 hts gX11_bestLanguage_X11_isLeaflet rfl rfl rfl (by decide +kernel) ⟨Nat.le_of_ble_eq_true rfl, Nat.le_of_ble_eq_true rfl⟩) (fw_preV hW hK hR m0 rfl) rfl rfl hl.1 rfl (lv_room (Nat.le_of_ble_eq_true rfl)) dX11_bestLanguage_10 ⟨Nat.le_of_ble_eq_true rfl, Nat.le_of_ble_eq_true rfl⟩) hS (fun v_14 ω_15 H locs hq_16 hR hS => ?_)
    obtain ⟨rfl, hq_16⟩ := hq_16
    rw [hq_16] at hR
    refine W.eq (g2 := F0 mI 13 ls [.int (bz (inB lf 0 (g 0 - 1)))]) rfl ?_
    refine lv_if_ne (tgt := 22) hx hb dX11_bestLanguage_13 (by decide) (fun c_17 => ?_) (fun c_17 => ?_)
    · skip
      have c_17 := bz_ne c_17
      obtain ⟨j, hj2, rfl⟩ := in_c hc hc8 c_17
      have hcj : cN (nI j) = j := cN_nI (by omega)
      obtain ⟨n, hn8, hn, hnn⟩ := okN_of (hM.2.2 j (by rw [hcc]; exact hj2)).1
      obtain ⟨f, hf3, hff, hfn⟩ := okN_of (hM.2.2 j (by rw [hcc]; exact hj2)).2.1
      have hkd : ∀ q, q < n → g (68 + 8 * j + q) = nI (cN (g (68 + 8 * j + q))) ∧ cN (g (68 + 8 * j + q)) < 6 := fun q hq => by have h9 := (hM.2.2 j (by rw [hcc]; exact hj2)).2.2 q (by rw [hnn]; exact hq); exact ⟨h9.1, Nat.lt_succ_of_le h9.2⟩
      refine lv_iconst (v := (-1)) hx hb dX11_bestLanguage_22 (by decide) ?_
      refine lv_istore_n (lv' := [(3, .int (-1)), (0, .ref m), (1, .int (nI i)), (2, .int (nI j))]) hx hb dX11_bestLanguage_23 rfl hl (by decide) rfl (fun ls hl => ?_)
      refine lv_aload_n hx hb dX11_bestLanguage_24 rfl (lv_at hl 1 rfl) ?_
      refine lv_iload_n hx hb dX11_bestLanguage_25 rfl (lv_at hl 2 rfl) ?_
      refine lv_iload_n hx hb dX11_bestLanguage_26 rfl (lv_at hl 3 rfl) ?_
      refine fw_call (va_runV (As := [.int (nI i), .int (nI j)]) (rest := []) ⟨hx, hb, hml, hown, hts⟩ (c_X11_skips G hL l ω m s g m0 m1 i (by omega) j (by omega) f hf3 hff n hn hn8) (cwV 2 hts gX11_bestLanguage_X11_skips rfl rfl rfl (by decide +kernel) ⟨Nat.le_of_ble_eq_true rfl, Nat.le_of_ble_eq_true rfl⟩) (fw_preV hW hK hR m0 rfl) rfl rfl hl.1 rfl (lv_room (Nat.le_of_ble_eq_true rfl)) dX11_bestLanguage_27 ⟨Nat.le_of_ble_eq_true rfl, Nat.le_of_ble_eq_true rfl⟩) hS (fun v_18 ω_19 H locs hq_20 hR hS => ?_)
      obtain ⟨rfl, hq_20⟩ := hq_20
      rw [hq_20] at hR
      refine W.eq (g2 := F0 mI 30 ls [.int (skipM g (g (63 + i)) (g (58 + i)) j f n)]) rfl ?_
      refine fw_call (va_runS (As := [.int (skipM g (g (63 + i)) (g (58 + i)) j f n)]) (rest := []) ⟨hx, hb, hml, hown, hts⟩ (c_X11_bits G hL l ω (skipM g (g (63 + i)) (g (58 + i)) j f n)) (va_cwS 1 hts gX11_bestLanguage_X11_bits rfl rfl rfl (by decide +kernel) ⟨Nat.le_of_ble_eq_true rfl, Nat.le_of_ble_eq_true rfl⟩) (fw_preS hW hR) rfl rfl hl.1 rfl (lv_room (Nat.le_of_ble_eq_true rfl)) dX11_bestLanguage_30 ⟨Nat.le_of_ble_eq_true rfl, Nat.le_of_ble_eq_true rfl⟩) hS (fun v_21 ω_22 H locs hq_23 hR hS => ?_)
      obtain ⟨rfl, hq_23⟩ := hq_23
      rw [hq_23] at hR
      refine W.eq (g2 := F0 mI 33 ls [.int (bitsJ (skipM g (g (63 + i)) (g (58 + i)) j f n) 8)]) rfl ?_
      refine lv_istore (lv' := [(4, .int (bitsJ (skipM g (g (63 + i)) (g (58 + i)) j f n) 8)), (3, .int (-1)), (0, .ref m), (1, .int (nI i)), (2, .int (nI j))]) hx hb dX11_bestLanguage_33 hl (by decide) rfl (fun ls hl => ?_)
      refine lv_iconst (v := 0) hx hb dX11_bestLanguage_35 (by decide) ?_
      refine lv_istore (lv' := [(5, .int 0), (4, .int (bitsJ (skipM g (g (63 + i)) (g (58 + i)) j f n) 8)), (3, .int (-1)), (0, .ref m), (1, .int (nI i)), (2, .int (nI j))]) hx hb dX11_bestLanguage_36 hl (by decide) rfl (fun ls hl => ?_)
      have hi_24 : blanL s g (nI i) (nI j) 0 = (((-1), bitsJ (skipM g (g (63 + i)) (g (58 + i)) j f n) 8) : Int32 × Int32) := by simp only [blanL, hcc, hdd, hci, hcj, hnn, hfn]
      have loop_26 : ∀ (fu : Nat) (k : Nat), (5 - k) < fu → (k ≤ 5) → ∀ (H : Heap) (locs : List Loc) (ls : Array Slot), fR G ω H → va_S (fwA G) sS.heap H locs → lv_has ls 7 [(5, .int (nI k)), (4, .int ((blanL s g (nI i) (nI j) k).2)), (3, .int ((blanL s g (nI i) (nI j) k).1)), (0, .ref m), (1, .int (nI i)), (2, .int (nI j))] → W pP l eE ({ frames := 4, cells := 0, slots := 0, locals := 97 } : Room) sS mI ar9 bl9 meth cD H locs 0 0 (MQ bl9 (fQ G (fun vv9 τ9 => vv9 = some (.int ((blanM s g (nI i) (nI j)).1)) ∧ τ9.1 = ω.1 ∧ τ9.2 m = some (.inr (13, [.ref (m + 1), .ref (m + 2), .ref (m + 3), .int (((blanM s g (nI i) (nI j)).2) 3), .ref (m + 4), .int (((blanM s g (nI i) (nI j)).2) 5), .ref (m + 5), .int (((blanM s g (nI i) (nI j)).2) 7), .int (((blanM s g (nI i) (nI j)).2) 8), .int (((blanM s g (nI i) (nI j)).2) 9), .int (((blanM s g (nI i) (nI j)).2) 10), .int (((blanM s g (nI i) (nI j)).2) 11), .ref (m + 6), .int (((blanM s g (nI i) (nI j)).2) 13), .int (((blanM s g (nI i) (nI j)).2) 14), .ref (m + 7), .int (((blanM s g (nI i) (nI j)).2) 16), .int (((blanM s g (nI i) (nI j)).2) 17), .ref (m + 8)])) ∧ ∀ q : Nat, ¬ q = m → τ9.2 q = ω.2 q)) ar9 sS 0 0 (fwA G)) (F0 mI 38 ls []) := by
        intro fu
        induction fu with
        | zero => intro k hfu; exact absurd hfu (Nat.not_lt_zero _)
        | succ fu ih =>
          intro k hfu hkk H locs ls hR hS hl
          refine lv_iload hx hb dX11_bestLanguage_38 (lv_at hl 0 rfl) ?_
          refine lv_iconst (v := 5) hx hb dX11_bestLanguage_40 (by decide) ?_
          refine lv_icmp_ge (tgt := 122) hx hb dX11_bestLanguage_41 (by decide) (fun c_27 => ?_) (fun c_27 => ?_)
          · skip
            have hj9 := lp_ge (n := 5) rfl c_27 (by omega) (by omega)
            have hk9 : k = 5 := by omega
            subst hk9
            refine lv_iload_n hx hb dX11_bestLanguage_122 rfl (lv_at hl 2 rfl) ?_
            refine lv_iconst (v := (-1)) hx hb dX11_bestLanguage_123 (by decide) ?_
            refine lv_icmp_ne (tgt := 135) hx hb dX11_bestLanguage_124 (by decide) (fun c_28 => ?_) (fun c_28 => ?_)
            · skip
              refine lv_aload_n hx hb dX11_bestLanguage_135 rfl (lv_at hl 3 rfl) ?_
              refine lv_iload_n hx hb dX11_bestLanguage_136 rfl (lv_at hl 2 rfl) ?_
              refine fw_call (va_runV (As := [.int ((blanL s g (nI i) (nI j) 5).1)]) (rest := []) ⟨hx, hb, hml, hown, hts⟩ (c_X11_done G hL l ω m s g m0 m1 ((blanL s g (nI i) (nI j) 5).1)) (cwV 1 hts gX11_bestLanguage_X11_done rfl rfl rfl (by decide +kernel) ⟨Nat.le_of_ble_eq_true rfl, Nat.le_of_ble_eq_true rfl⟩) (fw_preV hW hK hR m0 rfl) rfl rfl hl.1 rfl (lv_room (Nat.le_of_ble_eq_true rfl)) dX11_bestLanguage_137 ⟨Nat.le_of_ble_eq_true rfl, Nat.le_of_ble_eq_true rfl⟩) hS (fun v_29 ω_30 H locs hq_31 hR hS => ?_)
              obtain ⟨rfl, z_32, f_34, fr_33⟩ := hq_31
              refine W.eq (g2 := F0 mI 140 ls [.int ((blanL s g (nI i) (nI j) 5).1)]) rfl ?_
              have fr_35 : ∀ q : Nat, ¬ q = m → ω_30.2 q = ω.2 q := by
                intro q h0
                rw [fr_33 q (by omega)]
              have z_36 : ω_30.1 = ω.1 := by rw [z_32]
              have hr_37 : blanM s g (nI i) (nI j) = ((((blanL s g (nI i) (nI j) 5).1), (upd s 14 0)) : Int32 × (Nat → Int32)) := by
                simp only [blanM, hcc, hdd, hci, hcj, hnn, hfn]
                rw [if_pos c_4, if_pos c_17, if_neg c_28]
              refine fw_iret hx hb hr hlocks hR hS dX11_bestLanguage_140 ?_
              rw [hr_37]
              exact ⟨rfl, z_36, f_34, fr_35⟩
            · skip
              refine lv_aload_n hx hb dX11_bestLanguage_127 rfl (lv_at hl 3 rfl) ?_
              refine lv_iconst (v := 2) hx hb dX11_bestLanguage_128 (by decide) ?_
              refine fw_call (va_runV (As := [.int 2]) (rest := []) ⟨hx, hb, hml, hown, hts⟩ (c_X11_fails G hL l ω m s g m0 m1 2) (cwV 1 hts gX11_bestLanguage_X11_fails rfl rfl rfl (by decide +kernel) ⟨Nat.le_of_ble_eq_true rfl, Nat.le_of_ble_eq_true rfl⟩) (fw_preV hW hK hR m0 rfl) rfl rfl hl.1 rfl (lv_room (Nat.le_of_ble_eq_true rfl)) dX11_bestLanguage_129 ⟨Nat.le_of_ble_eq_true rfl, Nat.le_of_ble_eq_true rfl⟩) hS (fun v_38 ω_39 H locs hq_40 hR hS => ?_)
              obtain ⟨rfl, z_41, f_43, fr_42⟩ := hq_40
              refine W.eq (g2 := F0 mI 132 ls [.int 0]) rfl ?_
              refine lv_goto (tgt := 140) hx hb dX11_bestLanguage_132 (by decide) ?_
              have fr_44 : ∀ q : Nat, ¬ q = m → ω_39.2 q = ω.2 q := by
                intro q h0
                rw [fr_42 q (by omega)]
              have z_45 : ω_39.1 = ω.1 := by rw [z_41]
              have hr_46 : blanM s g (nI i) (nI j) = ((0, (upd s 14 2)) : Int32 × (Nat → Int32)) := by
                simp only [blanM, hcc, hdd, hci, hcj, hnn, hfn]
                rw [if_pos c_4, if_pos c_17, if_pos c_28]
              refine fw_iret hx hb hr hlocks hR hS dX11_bestLanguage_140 ?_
              rw [hr_46]
              exact ⟨rfl, z_45, f_43, fr_44⟩
          · skip
            have hk2 := lp_lt (n := 5) rfl c_27 (by omega) (by omega)
            refine lv_aload_n hx hb dX11_bestLanguage_44 rfl (lv_at hl 3 rfl) ?_
            refine lv_aload_n hx hb dX11_bestLanguage_45 rfl (lv_at hl 3 rfl) ?_
            refine fw_get (v := .ref (m + 1)) (C := RX11) (T := TX11) (N := 19) hx hb hts hin11 hown hK hR m0 rfl 0 (by decide) (hts (.fieldLink RX11 7 "UnreadLeafletsModel" "g" "[I") (by decide +kernel)) rfl dX11_bestLanguage_46 ?_
            refine lv_bipush (v := 63) hx hb dX11_bestLanguage_49 (by decide) ?_
            refine lv_iload_n hx hb dX11_bestLanguage_51 rfl (lv_at hl 4 rfl) ?_
            refine lv_iadd hx hb dX11_bestLanguage_52 ?_
            have hi_47 : 63 + (nI i) = nI (63 + i) := by
              show (nI 63) + (nI i) = _
              simp only [pk_mul, nI_add, Nat.add_assoc, hc, hd, hn, hff]
            refine W.eq (g2 := F0 mI 53 ls [.int (nI (63 + i)), .ref (m + 1), .ref m]) (by rw [hi_47]) ?_
            refine fw_iald hx hb hK hR m1 (vp_in_nI (by omega) (by omega)) dX11_bestLanguage_53 ?_
            refine W.eq (g2 := F0 mI 54 ls [.int (g (63 + i)), .ref m]) (by rw [nI_clamp (by omega)]) ?_
            refine lv_iconst (v := 1) hx hb dX11_bestLanguage_54 (by decide) ?_
            refine lv_iload hx hb dX11_bestLanguage_55 (lv_at hl 0 rfl) ?_
            refine lv_ishl hx hb dX11_bestLanguage_57 ?_
            refine lv_ior hx hb dX11_bestLanguage_58 ?_
            refine lv_aload_n hx hb dX11_bestLanguage_59 rfl (lv_at hl 3 rfl) ?_
            refine fw_get (v := .ref (m + 1)) (C := RX11) (T := TX11) (N := 19) hx hb hts hin11 hown hK hR m0 rfl 0 (by decide) (hts (.fieldLink RX11 7 "UnreadLeafletsModel" "g" "[I") (by decide +kernel)) rfl dX11_bestLanguage_60 ?_
            refine lv_bipush (v := 58) hx hb dX11_bestLanguage_63 (by decide) ?_
            refine lv_iload_n hx hb dX11_bestLanguage_65 rfl (lv_at hl 4 rfl) ?_
            refine lv_iadd hx hb dX11_bestLanguage_66 ?_
            have hi_48 : 58 + (nI i) = nI (58 + i) := by
              show (nI 58) + (nI i) = _
              simp only [pk_mul, nI_add, Nat.add_assoc, hc, hd, hn, hff]
            refine W.eq (g2 := F0 mI 67 ls [.int (nI (58 + i)), .ref (m + 1), .int ((g (63 + i)) ||| (1 <<< ((nI k) &&& 31))), .ref m]) (by rw [hi_48]) ?_
            refine fw_iald hx hb hK hR m1 (vp_in_nI (by omega) (by omega)) dX11_bestLanguage_67 ?_
            refine W.eq (g2 := F0 mI 68 ls [.int (g (58 + i)), .int ((g (63 + i)) ||| (1 <<< ((nI k) &&& 31))), .ref m]) (by rw [nI_clamp (by omega)]) ?_
            refine lv_iload_n hx hb dX11_bestLanguage_68 rfl (lv_at hl 5 rfl) ?_
            refine lv_aload_n hx hb dX11_bestLanguage_69 rfl (lv_at hl 3 rfl) ?_
            refine fw_get (v := .ref (m + 1)) (C := RX11) (T := TX11) (N := 19) hx hb hts hin11 hown hK hR m0 rfl 0 (by decide) (hts (.fieldLink RX11 7 "UnreadLeafletsModel" "g" "[I") (by decide +kernel)) rfl dX11_bestLanguage_70 ?_
            refine lv_bipush (v := 26) hx hb dX11_bestLanguage_73 (by decide) ?_
            refine lv_iload_n hx hb dX11_bestLanguage_75 rfl (lv_at hl 5 rfl) ?_
            refine lv_iadd hx hb dX11_bestLanguage_76 ?_
            have hi_49 : 26 + (nI j) = nI (26 + j) := by
              show (nI 26) + (nI j) = _
              simp only [pk_mul, nI_add, Nat.add_assoc, hc, hd, hn, hff]
            refine W.eq (g2 := F0 mI 77 ls [.int (nI (26 + j)), .ref (m + 1), .int (nI j), .int (g (58 + i)), .int ((g (63 + i)) ||| (1 <<< ((nI k) &&& 31))), .ref m]) (by rw [hi_49]) ?_
            refine fw_iald hx hb hK hR m1 (vp_in_nI (by omega) (by omega)) dX11_bestLanguage_77 ?_
            refine W.eq (g2 := F0 mI 78 ls [.int (g (26 + j)), .int (nI j), .int (g (58 + i)), .int ((g (63 + i)) ||| (1 <<< ((nI k) &&& 31))), .ref m]) (by rw [nI_clamp (by omega)]) ?_
            have hi_50 : g (26 + j) = nI (f) := by
              show g (26 + j) = _
              simp only [pk_mul, nI_add, Nat.add_assoc, hc, hd, hn, hff]
            refine W.eq (g2 := F0 mI 78 ls [.int (nI (f)), .int (nI j), .int (g (58 + i)), .int ((g (63 + i)) ||| (1 <<< ((nI k) &&& 31))), .ref m]) (by rw [hi_50]) ?_
            refine fw_call (va_runV (As := [.int ((g (63 + i)) ||| (1 <<< ((nI k) &&& 31))), .int (g (58 + i)), .int (nI j), .int (nI (f))]) (rest := []) ⟨hx, hb, hml, hown, hts⟩ (c_X11_skipsWith G hL l ω m s g m0 m1 ((g (63 + i)) ||| (1 <<< ((nI k) &&& 31))) (g (58 + i)) j (by omega) (f) (by omega) n hn hn8) (cwV 4 hts gX11_bestLanguage_X11_skipsWith rfl rfl rfl (by decide +kernel) ⟨Nat.le_of_ble_eq_true rfl, Nat.le_of_ble_eq_true rfl⟩) (fw_preV hW hK hR m0 rfl) rfl rfl hl.1 rfl (lv_room (Nat.le_of_ble_eq_true rfl)) dX11_bestLanguage_78 ⟨Nat.le_of_ble_eq_true rfl, Nat.le_of_ble_eq_true rfl⟩) hS (fun v_51 ω_52 H locs hq_53 hR hS => ?_)
            obtain ⟨rfl, hq_53⟩ := hq_53
            rw [hq_53] at hR
            refine W.eq (g2 := F0 mI 81 ls [.int (skipM g ((g (63 + i)) ||| (1 <<< ((nI k) &&& 31))) (g (58 + i)) j (f) n)]) rfl ?_
            refine fw_call (va_runS (As := [.int (skipM g ((g (63 + i)) ||| (1 <<< ((nI k) &&& 31))) (g (58 + i)) j (f) n)]) (rest := []) ⟨hx, hb, hml, hown, hts⟩ (c_X11_bits G hL l ω (skipM g ((g (63 + i)) ||| (1 <<< ((nI k) &&& 31))) (g (58 + i)) j (f) n)) (va_cwS 1 hts gX11_bestLanguage_X11_bits rfl rfl rfl (by decide +kernel) ⟨Nat.le_of_ble_eq_true rfl, Nat.le_of_ble_eq_true rfl⟩) (fw_preS hW hR) rfl rfl hl.1 rfl (lv_room (Nat.le_of_ble_eq_true rfl)) dX11_bestLanguage_81 ⟨Nat.le_of_ble_eq_true rfl, Nat.le_of_ble_eq_true rfl⟩) hS (fun v_54 ω_55 H locs hq_56 hR hS => ?_)
            obtain ⟨rfl, hq_56⟩ := hq_56
            rw [hq_56] at hR
            refine W.eq (g2 := F0 mI 84 ls [.int (bitsJ (skipM g ((g (63 + i)) ||| (1 <<< ((nI k) &&& 31))) (g (58 + i)) j (f) n) 8)]) rfl ?_
            refine lv_istore (lv' := [(6, .int (bitsJ (skipM g ((g (63 + i)) ||| (1 <<< ((nI k) &&& 31))) (g (58 + i)) j (f) n) 8)), (5, .int (nI k)), (4, .int ((blanL s g (nI i) (nI j) k).2)), (3, .int ((blanL s g (nI i) (nI j) k).1)), (0, .ref m), (1, .int (nI i)), (2, .int (nI j))]) hx hb dX11_bestLanguage_84 hl (by decide) rfl (fun ls hl => ?_)
            refine lv_iload hx hb dX11_bestLanguage_86 (lv_at hl 0 rfl) ?_
            refine lv_iload hx hb dX11_bestLanguage_88 (lv_at hl 2 rfl) ?_
            refine lv_icmp_ge (tgt := 98) hx hb dX11_bestLanguage_90 (by decide) (fun c_57 => ?_) (fun c_57 => ?_)
            · skip
              refine lv_iload_n hx hb dX11_bestLanguage_98 rfl (lv_at hl 3 rfl) ?_
              refine lv_topi (fun x_58 ex_58 => ?_)
              refine lv_istore_n (lv' := [(3, .int x_58), (6, .int (bitsJ (skipM g ((g (63 + i)) ||| (1 <<< ((nI k) &&& 31))) (g (58 + i)) j (f) n) 8)), (5, .int (nI k)), (4, .int ((blanL s g (nI i) (nI j) k).2)), (0, .ref m), (1, .int (nI i)), (2, .int (nI j))]) hx hb dX11_bestLanguage_99 rfl hl (by decide) rfl (fun ls hl => ?_)
              refine lv_iload hx hb dX11_bestLanguage_100 (lv_at hl 1 rfl) ?_
              refine lv_iload hx hb dX11_bestLanguage_102 (lv_at hl 3 rfl) ?_
              refine lv_icmp_ge (tgt := 112) hx hb dX11_bestLanguage_104 (by decide) (fun c_59 => ?_) (fun c_59 => ?_)
              · skip
                refine lv_iload hx hb dX11_bestLanguage_112 (lv_at hl 3 rfl) ?_
                refine lv_topi (fun x_60 ex_60 => ?_)
                refine lv_istore (lv' := [(4, .int x_60), (3, .int x_58), (6, .int (bitsJ (skipM g ((g (63 + i)) ||| (1 <<< ((nI k) &&& 31))) (g (58 + i)) j (f) n) 8)), (5, .int (nI k)), (0, .ref m), (1, .int (nI i)), (2, .int (nI j))]) hx hb dX11_bestLanguage_114 hl (by decide) rfl (fun ls hl => ?_)
                obtain ⟨x_61, ex_61⟩ : ∃ y : Int32, y = (nI k) + 1 := ⟨_, rfl⟩
                refine lv_iinc (v := x_61) (lv' := [(5, .int x_61), (4, .int x_60), (3, .int x_58), (6, .int (bitsJ (skipM g ((g (63 + i)) ||| (1 <<< ((nI k) &&& 31))) (g (58 + i)) j (f) n) 8)), (0, .ref m), (1, .int (nI i)), (2, .int (nI j))]) hx hb dX11_bestLanguage_116 hl (k := 3) rfl (by rw [ex_61]; rfl) (by decide) rfl (fun ls hl => ?_)
                refine lv_goto (tgt := 38) hx hb dX11_bestLanguage_119 (by decide) ?_
                have hr_62 : blanL s g (nI i) (nI j) (k + 1) = ((x_58, x_60) : Int32 × Int32) := by
                  simp only [blanL, hcc, hdd, hci, hcj, hnn, hfn, ex_58, ex_60, ex_61]
                  rw [if_pos c_57]
                have el_5 : x_61 = nI (k + 1) := by rw [ex_61]; exact nI_1 k
                have el_4 : x_60 = (blanL s g (nI i) (nI j) (k + 1)).2 := by rw [hr_62]
                have el_3 : x_58 = (blanL s g (nI i) (nI j) (k + 1)).1 := by rw [hr_62]
                have hl := lv_sub (l' := [(5, .int x_61), (4, .int x_60), (3, .int x_58), (0, .ref m), (1, .int (nI i)), (2, .int (nI j))]) hl [0, 1, 2, 4, 5, 6] rfl
                rw [el_5, el_4, el_3] at hl
                exact ih (k + 1) (by omega) (by first | assumption | omega | (simp; done)) _ _ _ hR hS hl
              · skip
                exact absurd c_57 c_59
            · skip
              refine lv_iload hx hb dX11_bestLanguage_93 (lv_at hl 1 rfl) ?_
              refine lv_goto (tgt := 99) hx hb dX11_bestLanguage_95 (by decide) ?_
              refine lv_istore_n (lv' := [(3, .int (nI k)), (6, .int (bitsJ (skipM g ((g (63 + i)) ||| (1 <<< ((nI k) &&& 31))) (g (58 + i)) j (f) n) 8)), (5, .int (nI k)), (4, .int ((blanL s g (nI i) (nI j) k).2)), (0, .ref m), (1, .int (nI i)), (2, .int (nI j))]) hx hb dX11_bestLanguage_99 rfl hl (by decide) rfl (fun ls hl => ?_)
              refine lv_iload hx hb dX11_bestLanguage_100 (lv_at hl 1 rfl) ?_
              refine lv_iload hx hb dX11_bestLanguage_102 (lv_at hl 3 rfl) ?_
              refine lv_icmp_ge (tgt := 112) hx hb dX11_bestLanguage_104 (by decide) (fun c_63 => ?_) (fun c_63 => ?_)
              · skip
                exact absurd c_63 c_57
              · skip
                refine lv_iload hx hb dX11_bestLanguage_107 (lv_at hl 1 rfl) ?_
                refine lv_goto (tgt := 114) hx hb dX11_bestLanguage_109 (by decide) ?_
                refine lv_istore (lv' := [(4, .int (bitsJ (skipM g ((g (63 + i)) ||| (1 <<< ((nI k) &&& 31))) (g (58 + i)) j (f) n) 8)), (3, .int (nI k)), (6, .int (bitsJ (skipM g ((g (63 + i)) ||| (1 <<< ((nI k) &&& 31))) (g (58 + i)) j (f) n) 8)), (5, .int (nI k)), (0, .ref m), (1, .int (nI i)), (2, .int (nI j))]) hx hb dX11_bestLanguage_114 hl (by decide) rfl (fun ls hl => ?_)
                obtain ⟨x_64, ex_64⟩ : ∃ y : Int32, y = (nI k) + 1 := ⟨_, rfl⟩
                refine lv_iinc (v := x_64) (lv' := [(5, .int x_64), (4, .int (bitsJ (skipM g ((g (63 + i)) ||| (1 <<< ((nI k) &&& 31))) (g (58 + i)) j (f) n) 8)), (3, .int (nI k)), (6, .int (bitsJ (skipM g ((g (63 + i)) ||| (1 <<< ((nI k) &&& 31))) (g (58 + i)) j (f) n) 8)), (0, .ref m), (1, .int (nI i)), (2, .int (nI j))]) hx hb dX11_bestLanguage_116 hl (k := 3) rfl (by rw [ex_64]; rfl) (by decide) rfl (fun ls hl => ?_)
                refine lv_goto (tgt := 38) hx hb dX11_bestLanguage_119 (by decide) ?_
                have hr_65 : blanL s g (nI i) (nI j) (k + 1) = ((nI k, bitsJ (skipM g ((g (63 + i)) ||| (1 <<< ((nI k) &&& 31))) (g (58 + i)) j (f) n) 8) : Int32 × Int32) := by
                  simp only [blanL, hcc, hdd, hci, hcj, hnn, hfn, ex_64]
                  rw [if_neg c_57]
                have el_5 : x_64 = nI (k + 1) := by rw [ex_64]; exact nI_1 k
                have el_4 : bitsJ (skipM g ((g (63 + i)) ||| (1 <<< ((nI k) &&& 31))) (g (58 + i)) j (f) n) 8 = (blanL s g (nI i) (nI j) (k + 1)).2 := by rw [hr_65]
                have el_3 : nI k = (blanL s g (nI i) (nI j) (k + 1)).1 := by rw [hr_65]
                have hl := lv_sub (l' := [(5, .int x_64), (4, .int (bitsJ (skipM g ((g (63 + i)) ||| (1 <<< ((nI k) &&& 31))) (g (58 + i)) j (f) n) 8)), (3, .int (nI k)), (0, .ref m), (1, .int (nI i)), (2, .int (nI j))]) hl [0, 1, 2, 4, 5, 6] rfl
                rw [el_5, el_4, el_3] at hl
                exact ih (k + 1) (by omega) (by first | assumption | omega | (simp; done)) _ _ _ hR hS hl
      have h0_66 : ((-1) : Int32) = (blanL s g (nI i) (nI j) 0).1 := by rw [hi_24]
      have h0_67 : bitsJ (skipM g (g (63 + i)) (g (58 + i)) j f n) 8 = (blanL s g (nI i) (nI j) 0).2 := by rw [hi_24]
      have hl : lv_has ls 7 [(5, .int 0), (4, .int ((blanL s g (nI i) (nI j) 0).2)), (3, .int ((blanL s g (nI i) (nI j) 0).1)), (0, .ref m), (1, .int (nI i)), (2, .int (nI j))] := by rw [← h0_66, ← h0_67]; exact hl
      exact loop_26 _ 0 (Nat.lt_succ_self _) (by first | rfl | assumption | omega | (simp; done)) _ _ _ hR hS (lv_sub hl [0, 1, 2, 3, 4, 5] rfl)
    · skip
      have c_17 := bz_eq c_17
      refine lv_aload_n hx hb dX11_bestLanguage_16 rfl (lv_at hl 0 rfl) ?_
      refine lv_iconst (v := 1) hx hb dX11_bestLanguage_17 (by decide) ?_
      refine fw_call (va_runV (As := [.int 1]) (rest := []) ⟨hx, hb, hml, hown, hts⟩ (c_X11_fails G hL l ω m s g m0 m1 1) (cwV 1 hts gX11_bestLanguage_X11_fails rfl rfl rfl (by decide +kernel) ⟨Nat.le_of_ble_eq_true rfl, Nat.le_of_ble_eq_true rfl⟩) (fw_preV hW hK hR m0 rfl) rfl rfl hl.1 rfl (lv_room (Nat.le_of_ble_eq_true rfl)) dX11_bestLanguage_18 ⟨Nat.le_of_ble_eq_true rfl, Nat.le_of_ble_eq_true rfl⟩) hS (fun v_68 ω_69 H locs hq_70 hR hS => ?_)
      obtain ⟨rfl, z_71, f_73, fr_72⟩ := hq_70
      refine W.eq (g2 := F0 mI 21 ls [.int 0]) rfl ?_
      have fr_74 : ∀ q : Nat, ¬ q = m → ω_69.2 q = ω.2 q := by
        intro q h0
        rw [fr_72 q (by omega)]
      have z_75 : ω_69.1 = ω.1 := by rw [z_71]
      have hr_76 : blanM s g (nI i) lf = ((0, (upd s 14 1)) : Int32 × (Nat → Int32)) := by
        simp only [blanM, hcc, hdd, hci]
        rw [if_pos c_4, if_neg c_17]
      refine fw_iret hx hb hr hlocks hR hS dX11_bestLanguage_21 ?_
      rw [hr_76]
      exact ⟨rfl, z_75, f_73, fr_74⟩
def skwM (s g : Nat → Int32) (i : Nat) (j : Nat) (fo : Nat) : Int32 := bitsJ (skipM g (g (63 + i)) (g (58 + i)) j fo (cN (g (18 + j)))) 8
set_option maxHeartbeats 4000000 in
set_option maxRecDepth 100000 in
theorem c_X11_skippedWith (G : FG) (hL : FL G) (l : Launch) (ω : FWd) (m : Nat) (s g : Nat → Int32) (m0 : ω.2 m = some (.inr (13, [.ref (m + 1), .ref (m + 2), .ref (m + 3), .int (s 3), .ref (m + 4), .int (s 5), .ref (m + 5), .int (s 7), .int (s 8), .int (s 9), .int (s 10), .int (s 11), .ref (m + 6), .int (s 13), .int (s 14), .ref (m + 7), .int (s 16), .int (s 17), .ref (m + 8)]))) (m1 : ω.2 (m + 1) = some (.inl (G.2.1 0, 324, .inl g))) (hM : WFM g) (i : Nat) (j : Nat) (fo : Nat) (hic : i < cN (g 1)) (hjc : j < cN (g 0)) (hfo : fo ≤ 3) : FMet G l yX11_skippedWith wsX11_skippedWith ({ frames := 3, cells := 0, slots := 0, locals := 75 } : Room) [.ref m, .int (nI i), .int (nI j), .int (nI fo)] ω (rI (skwM s g i j fo) ω) 0 0 := by
  refine fw_ofW (cc := cX11_skippedWith) (maxL := 4) (ret := (some .int)) (by decide) rfl (Nat.le_of_ble_eq_true rfl) ?_
  intro pP eE sS mI ar9 bl9 meth cD ls hx hb hr hlocks hml hts hown hnm hW hR hl
  have hK := hL.K hW
  have hS : va_S (fwA G) sS.heap sS.heap [] := va_S.rf
  have hin11 : ∀ w ∈ u_ws RX11 TX11 19, w ∈ wsX11_skippedWith := by decide +kernel
  have hl : lv_has ls 4 [(0, .ref m), (1, .int (nI i)), (2, .int (nI j)), (3, .int (nI fo))] := hl
  obtain ⟨c, hc8, hc, hcc⟩ := okN_of hM.1
  obtain ⟨cc, hd5, hd, hdd⟩ := okN_of hM.2.1
  have hi2 : i < cc := by rw [← hdd]; exact hic
  have hj2 : j < c := by rw [← hcc]; exact hjc
  obtain ⟨n, hn8, hn, hnn⟩ := okN_of (hM.2.2 j (by rw [hcc]; exact hj2)).1
  obtain ⟨f, hf3, hff, hfn⟩ := okN_of (hM.2.2 j (by rw [hcc]; exact hj2)).2.1
  have hkd : ∀ q, q < n → g (68 + 8 * j + q) = nI (cN (g (68 + 8 * j + q))) ∧ cN (g (68 + 8 * j + q)) < 6 := fun q hq => by have h9 := (hM.2.2 j (by rw [hcc]; exact hj2)).2.2 q (by rw [hnn]; exact hq); exact ⟨h9.1, Nat.lt_succ_of_le h9.2⟩
  skip
  refine lv_aload_n hx hb dX11_skippedWith_0 rfl (lv_at hl 0 rfl) ?_
  refine lv_aload_n hx hb dX11_skippedWith_1 rfl (lv_at hl 0 rfl) ?_
  refine fw_get (v := .ref (m + 1)) (C := RX11) (T := TX11) (N := 19) hx hb hts hin11 hown hK hR m0 rfl 0 (by decide) (hts (.fieldLink RX11 7 "UnreadLeafletsModel" "g" "[I") (by decide +kernel)) rfl dX11_skippedWith_2 ?_
  refine lv_bipush (v := 63) hx hb dX11_skippedWith_5 (by decide) ?_
  refine lv_iload_n hx hb dX11_skippedWith_7 rfl (lv_at hl 1 rfl) ?_
  refine lv_iadd hx hb dX11_skippedWith_8 ?_
  have hi_1 : 63 + (nI i) = nI (63 + i) := by
    show (nI 63) + (nI i) = _
    simp only [pk_mul, nI_add, Nat.add_assoc, hc, hd, hn, hff]
  refine W.eq (g2 := F0 mI 9 ls [.int (nI (63 + i)), .ref (m + 1), .ref m]) (by rw [hi_1]) ?_
  refine fw_iald hx hb hK hR m1 (vp_in_nI (by omega) (by omega)) dX11_skippedWith_9 ?_
  refine W.eq (g2 := F0 mI 10 ls [.int (g (63 + i)), .ref m]) (by rw [nI_clamp (by omega)]) ?_
  refine lv_aload_n hx hb dX11_skippedWith_10 rfl (lv_at hl 0 rfl) ?_
  refine fw_get (v := .ref (m + 1)) (C := RX11) (T := TX11) (N := 19) hx hb hts hin11 hown hK hR m0 rfl 0 (by decide) (hts (.fieldLink RX11 7 "UnreadLeafletsModel" "g" "[I") (by decide +kernel)) rfl dX11_skippedWith_11 ?_
  refine lv_bipush (v := 58) hx hb dX11_skippedWith_14 (by decide) ?_
  refine lv_iload_n hx hb dX11_skippedWith_16 rfl (lv_at hl 1 rfl) ?_
  refine lv_iadd hx hb dX11_skippedWith_17 ?_
  have hi_2 : 58 + (nI i) = nI (58 + i) := by
    show (nI 58) + (nI i) = _
    simp only [pk_mul, nI_add, Nat.add_assoc, hc, hd, hn, hff]
  refine W.eq (g2 := F0 mI 18 ls [.int (nI (58 + i)), .ref (m + 1), .int (g (63 + i)), .ref m]) (by rw [hi_2]) ?_
  refine fw_iald hx hb hK hR m1 (vp_in_nI (by omega) (by omega)) dX11_skippedWith_18 ?_
  refine W.eq (g2 := F0 mI 19 ls [.int (g (58 + i)), .int (g (63 + i)), .ref m]) (by rw [nI_clamp (by omega)]) ?_
  refine lv_iload_n hx hb dX11_skippedWith_19 rfl (lv_at hl 2 rfl) ?_
  refine lv_iload_n hx hb dX11_skippedWith_20 rfl (lv_at hl 3 rfl) ?_
  refine fw_call (va_runV (As := [.int (g (63 + i)), .int (g (58 + i)), .int (nI j), .int (nI fo)]) (rest := []) ⟨hx, hb, hml, hown, hts⟩ (c_X11_skipsWith G hL l ω m s g m0 m1 (g (63 + i)) (g (58 + i)) j (by omega) fo (by omega) n hn hn8) (cwV 4 hts gX11_skippedWith_X11_skipsWith rfl rfl rfl (by decide +kernel) ⟨Nat.le_of_ble_eq_true rfl, Nat.le_of_ble_eq_true rfl⟩) (fw_preV hW hK hR m0 rfl) rfl rfl hl.1 rfl (lv_room (Nat.le_of_ble_eq_true rfl)) dX11_skippedWith_21 ⟨Nat.le_of_ble_eq_true rfl, Nat.le_of_ble_eq_true rfl⟩) hS (fun v_3 ω_4 H locs hq_5 hR hS => ?_)
  obtain ⟨rfl, hq_5⟩ := hq_5
  rw [hq_5] at hR
  refine W.eq (g2 := F0 mI 24 ls [.int (skipM g (g (63 + i)) (g (58 + i)) j fo n)]) rfl ?_
  refine fw_call (va_runS (As := [.int (skipM g (g (63 + i)) (g (58 + i)) j fo n)]) (rest := []) ⟨hx, hb, hml, hown, hts⟩ (c_X11_bits G hL l ω (skipM g (g (63 + i)) (g (58 + i)) j fo n)) (va_cwS 1 hts gX11_skippedWith_X11_bits rfl rfl rfl (by decide +kernel) ⟨Nat.le_of_ble_eq_true rfl, Nat.le_of_ble_eq_true rfl⟩) (fw_preS hW hR) rfl rfl hl.1 rfl (lv_room (Nat.le_of_ble_eq_true rfl)) dX11_skippedWith_24 ⟨Nat.le_of_ble_eq_true rfl, Nat.le_of_ble_eq_true rfl⟩) hS (fun v_6 ω_7 H locs hq_8 hR hS => ?_)
  obtain ⟨rfl, hq_8⟩ := hq_8
  rw [hq_8] at hR
  refine W.eq (g2 := F0 mI 27 ls [.int (bitsJ (skipM g (g (63 + i)) (g (58 + i)) j fo n) 8)]) rfl ?_
  have fr_9 : ∀ q : Nat, True → ω.2 q = ω.2 q := by
    intro q _
    rfl
  have z_10 : ω.1 = ω.1 := rfl
  have hr_11 : skwM s g i j fo = ((bitsJ (skipM g (g (63 + i)) (g (58 + i)) j fo n) 8) : Int32) := by
    simp only [skwM, hcc, hdd, hnn, hfn]
  refine fw_iret hx hb hr hlocks hR hS dX11_skippedWith_27 (rI_mk hr_11.symm)
def bfolM (s g : Nat → Int32) (co : Int32) (lf : Int32) : Int32 × (Nat → Int32) := if inB co 0 (g 1 - 1) then (if inB lf 0 (g 0 - 1) then (if (skwM s g (cN co) (cN lf) 0) < (skwM s g (cN co) (cN lf) 1) then (if (skwM s g (cN co) (cN lf) 0) < (skwM s g (cN co) (cN lf) 2) then (if (skwM s g (cN co) (cN lf) 0) < (skwM s g (cN co) (cN lf) 3) then ((0, (upd s 14 0))) else ((3, (upd s 14 0)))) else (if (skwM s g (cN co) (cN lf) 0) < (skwM s g (cN co) (cN lf) 3) then ((2, (upd s 14 0))) else ((3, (upd s 14 0))))) else (if (skwM s g (cN co) (cN lf) 0) < (skwM s g (cN co) (cN lf) 2) then (if (skwM s g (cN co) (cN lf) 0) < (skwM s g (cN co) (cN lf) 3) then ((1, (upd s 14 0))) else ((3, (upd s 14 0)))) else (if (skwM s g (cN co) (cN lf) 0) < (skwM s g (cN co) (cN lf) 3) then ((2, (upd s 14 0))) else ((3, (upd s 14 0)))))) else ((0, (upd s 14 1)))) else ((0, (upd s 14 1)))
set_option maxHeartbeats 4000000 in
set_option maxRecDepth 100000 in
theorem c_X11_bestFolds (G : FG) (hL : FL G) (l : Launch) (ω : FWd) (m : Nat) (s g : Nat → Int32) (m0 : ω.2 m = some (.inr (13, [.ref (m + 1), .ref (m + 2), .ref (m + 3), .int (s 3), .ref (m + 4), .int (s 5), .ref (m + 5), .int (s 7), .int (s 8), .int (s 9), .int (s 10), .int (s 11), .ref (m + 6), .int (s 13), .int (s 14), .ref (m + 7), .int (s 16), .int (s 17), .ref (m + 8)]))) (m1 : ω.2 (m + 1) = some (.inl (G.2.1 0, 324, .inl g))) (hM : WFM g) (co : Int32) (lf : Int32) : FMet G l yX11_bestFolds wsX11_bestFolds ({ frames := 4, cells := 0, slots := 0, locals := 98 } : Room) [.ref m, .int co, .int lf] ω (fun vv9 τ9 => vv9 = some (.int ((bfolM s g co lf).1)) ∧ τ9.1 = ω.1 ∧ τ9.2 m = some (.inr (13, [.ref (m + 1), .ref (m + 2), .ref (m + 3), .int (((bfolM s g co lf).2) 3), .ref (m + 4), .int (((bfolM s g co lf).2) 5), .ref (m + 5), .int (((bfolM s g co lf).2) 7), .int (((bfolM s g co lf).2) 8), .int (((bfolM s g co lf).2) 9), .int (((bfolM s g co lf).2) 10), .int (((bfolM s g co lf).2) 11), .ref (m + 6), .int (((bfolM s g co lf).2) 13), .int (((bfolM s g co lf).2) 14), .ref (m + 7), .int (((bfolM s g co lf).2) 16), .int (((bfolM s g co lf).2) 17), .ref (m + 8)])) ∧ ∀ q : Nat, ¬ q = m → τ9.2 q = ω.2 q) 0 0 := by
  refine fw_ofW (cc := cX11_bestFolds) (maxL := 5) (ret := (some .int)) (by decide) rfl (Nat.le_of_ble_eq_true rfl) ?_
  intro pP eE sS mI ar9 bl9 meth cD ls hx hb hr hlocks hml hts hown hnm hW hR hl
  have hK := hL.K hW
  have hS : va_S (fwA G) sS.heap sS.heap [] := va_S.rf
  have hl : lv_has ls 5 [(0, .ref m), (1, .int co), (2, .int lf)] := hl
  obtain ⟨c, hc8, hc, hcc⟩ := okN_of hM.1
  obtain ⟨cc, hd5, hd, hdd⟩ := okN_of hM.2.1
  refine lv_aload_n hx hb dX11_bestFolds_0 rfl (lv_at hl 0 rfl) ?_
  refine lv_iload_n hx hb dX11_bestFolds_1 rfl (lv_at hl 1 rfl) ?_
  refine fw_call (va_runV (As := [.int co]) (rest := []) ⟨hx, hb, hml, hown, hts⟩ (c_X11_isCousin G hL l ω m s g m0 m1 co) (cwV 1 hts gX11_bestFolds_X11_isCousin rfl rfl rfl (by decide +kernel) ⟨Nat.le_of_ble_eq_true rfl, Nat.le_of_ble_eq_true rfl⟩) (fw_preV hW hK hR m0 rfl) rfl rfl hl.1 rfl (lv_room (Nat.le_of_ble_eq_true rfl)) dX11_bestFolds_2 ⟨Nat.le_of_ble_eq_true rfl, Nat.le_of_ble_eq_true rfl⟩) hS (fun v_1 ω_2 H locs hq_3 hR hS => ?_)
  obtain ⟨rfl, hq_3⟩ := hq_3
  rw [hq_3] at hR
  refine W.eq (g2 := F0 mI 5 ls [.int (bz (inB co 0 (g 1 - 1)))]) rfl ?_
  refine lv_if_eq (tgt := 16) hx hb dX11_bestFolds_5 (by decide) (fun c_4 => ?_) (fun c_4 => ?_)
  · skip
    have c_4 := bz_eq c_4
    refine lv_aload_n hx hb dX11_bestFolds_16 rfl (lv_at hl 0 rfl) ?_
    refine lv_iconst (v := 1) hx hb dX11_bestFolds_17 (by decide) ?_
    refine fw_call (va_runV (As := [.int 1]) (rest := []) ⟨hx, hb, hml, hown, hts⟩ (c_X11_fails G hL l ω m s g m0 m1 1) (cwV 1 hts gX11_bestFolds_X11_fails rfl rfl rfl (by decide +kernel) ⟨Nat.le_of_ble_eq_true rfl, Nat.le_of_ble_eq_true rfl⟩) (fw_preV hW hK hR m0 rfl) rfl rfl hl.1 rfl (lv_room (Nat.le_of_ble_eq_true rfl)) dX11_bestFolds_18 ⟨Nat.le_of_ble_eq_true rfl, Nat.le_of_ble_eq_true rfl⟩) hS (fun v_5 ω_6 H locs hq_7 hR hS => ?_)
    obtain ⟨rfl, z_8, f_10, fr_9⟩ := hq_7
    refine W.eq (g2 := F0 mI 21 ls [.int 0]) rfl ?_
    have fr_11 : ∀ q : Nat, ¬ q = m → ω_6.2 q = ω.2 q := by
      intro q h0
      rw [fr_9 q (by omega)]
    have z_12 : ω_6.1 = ω.1 := by rw [z_8]
    have hr_13 : bfolM s g co lf = ((0, (upd s 14 1)) : Int32 × (Nat → Int32)) := by
      simp only [bfolM, hcc, hdd]
      rw [if_neg c_4]
    refine fw_iret hx hb hr hlocks hR hS dX11_bestFolds_21 ?_
    rw [hr_13]
    exact ⟨rfl, z_12, f_10, fr_11⟩
  · skip
    have c_4 := bz_ne c_4
    obtain ⟨i, hi2, rfl⟩ := in_c hd (by omega) c_4
    have hci : cN (nI i) = i := cN_nI (by omega)
    refine lv_aload_n hx hb dX11_bestFolds_8 rfl (lv_at hl 0 rfl) ?_
    refine lv_iload_n hx hb dX11_bestFolds_9 rfl (lv_at hl 2 rfl) ?_
    refine fw_call (va_runV (As := [.int lf]) (rest := []) ⟨hx, hb, hml, hown, hts⟩ (c_X11_isLeaflet G hL l ω m s g m0 m1 lf) (cwV 1 hts gX11_bestFolds_X11_isLeaflet rfl rfl rfl (by decide +kernel) ⟨Nat.le_of_ble_eq_true rfl, Nat.le_of_ble_eq_true rfl⟩) (fw_preV hW hK hR m0 rfl) rfl rfl hl.1 rfl (lv_room (Nat.le_of_ble_eq_true rfl)) dX11_bestFolds_10 ⟨Nat.le_of_ble_eq_true rfl, Nat.le_of_ble_eq_true rfl⟩) hS (fun v_14 ω_15 H locs hq_16 hR hS => ?_)
    obtain ⟨rfl, hq_16⟩ := hq_16
    rw [hq_16] at hR
    refine W.eq (g2 := F0 mI 13 ls [.int (bz (inB lf 0 (g 0 - 1)))]) rfl ?_
    refine lv_if_ne (tgt := 22) hx hb dX11_bestFolds_13 (by decide) (fun c_17 => ?_) (fun c_17 => ?_)
    · skip
      have c_17 := bz_ne c_17
      obtain ⟨j, hj2, rfl⟩ := in_c hc hc8 c_17
      have hcj : cN (nI j) = j := cN_nI (by omega)
      obtain ⟨n, hn8, hn, hnn⟩ := okN_of (hM.2.2 j (by rw [hcc]; exact hj2)).1
      obtain ⟨f, hf3, hff, hfn⟩ := okN_of (hM.2.2 j (by rw [hcc]; exact hj2)).2.1
      have hkd : ∀ q, q < n → g (68 + 8 * j + q) = nI (cN (g (68 + 8 * j + q))) ∧ cN (g (68 + 8 * j + q)) < 6 := fun q hq => by have h9 := (hM.2.2 j (by rw [hcc]; exact hj2)).2.2 q (by rw [hnn]; exact hq); exact ⟨h9.1, Nat.lt_succ_of_le h9.2⟩
      refine lv_iconst (v := 0) hx hb dX11_bestFolds_22 (by decide) ?_
      refine lv_istore_n (lv' := [(3, .int 0), (0, .ref m), (1, .int (nI i)), (2, .int (nI j))]) hx hb dX11_bestFolds_23 rfl hl (by decide) rfl (fun ls hl => ?_)
      refine lv_iconst (v := 1) hx hb dX11_bestFolds_24 (by decide) ?_
      refine lv_istore (lv' := [(4, .int 1), (3, .int 0), (0, .ref m), (1, .int (nI i)), (2, .int (nI j))]) hx hb dX11_bestFolds_25 hl (by decide) rfl (fun ls hl => ?_)
      refine lv_iload hx hb dX11_bestFolds_27 (lv_at hl 0 rfl) ?_
      refine lv_iconst (v := 3) hx hb dX11_bestFolds_29 (by decide) ?_
      refine lv_icmp_gt (tgt := 64) hx hb dX11_bestFolds_30 (by decide) (fun c_18 => ?_) (fun c_18 => ?_)
      · skip
        exact absurd c_18 (by decide)
      · skip
        refine lv_aload_n hx hb dX11_bestFolds_33 rfl (lv_at hl 2 rfl) ?_
        refine lv_iload_n hx hb dX11_bestFolds_34 rfl (lv_at hl 3 rfl) ?_
        refine lv_iload_n hx hb dX11_bestFolds_35 rfl (lv_at hl 4 rfl) ?_
        refine lv_iload hx hb dX11_bestFolds_36 (lv_at hl 0 rfl) ?_
        refine fw_call (va_runV (As := [.int (nI i), .int (nI j), .int 1]) (rest := []) ⟨hx, hb, hml, hown, hts⟩ (c_X11_skippedWith G hL l ω m s g m0 m1 hM i j 1 (by rw [hdd]; omega) (by rw [hcc]; omega) (by omega)) (cwV 3 hts gX11_bestFolds_X11_skippedWith rfl rfl rfl (by decide +kernel) ⟨Nat.le_of_ble_eq_true rfl, Nat.le_of_ble_eq_true rfl⟩) (fw_preV hW hK hR m0 rfl) rfl rfl hl.1 rfl (lv_room (Nat.le_of_ble_eq_true rfl)) dX11_bestFolds_38 ⟨Nat.le_of_ble_eq_true rfl, Nat.le_of_ble_eq_true rfl⟩) hS (fun v_19 ω_20 H locs hq_21 hR hS => ?_)
        obtain ⟨rfl, hq_21⟩ := hq_21
        rw [hq_21] at hR
        refine W.eq (g2 := F0 mI 41 ls [.int (skwM s g i j 1)]) rfl ?_
        refine lv_aload_n hx hb dX11_bestFolds_41 rfl (lv_at hl 2 rfl) ?_
        refine lv_iload_n hx hb dX11_bestFolds_42 rfl (lv_at hl 3 rfl) ?_
        refine lv_iload_n hx hb dX11_bestFolds_43 rfl (lv_at hl 4 rfl) ?_
        refine lv_iconst (v := 0) hx hb dX11_bestFolds_44 (by decide) ?_
        refine fw_call (va_runV (As := [.int (nI i), .int (nI j), .int 0]) (rest := [.int (skwM s g i j 1)]) ⟨hx, hb, hml, hown, hts⟩ (c_X11_skippedWith G hL l ω m s g m0 m1 hM i j 0 (by rw [hdd]; omega) (by rw [hcc]; omega) (by omega)) (cwV 3 hts gX11_bestFolds_X11_skippedWith rfl rfl rfl (by decide +kernel) ⟨Nat.le_of_ble_eq_true rfl, Nat.le_of_ble_eq_true rfl⟩) (fw_preV hW hK hR m0 rfl) rfl rfl hl.1 rfl (lv_room (Nat.le_of_ble_eq_true rfl)) dX11_bestFolds_45 ⟨Nat.le_of_ble_eq_true rfl, Nat.le_of_ble_eq_true rfl⟩) hS (fun v_22 ω_23 H locs hq_24 hR hS => ?_)
        obtain ⟨rfl, hq_24⟩ := hq_24
        rw [hq_24] at hR
        refine W.eq (g2 := F0 mI 48 ls [.int (skwM s g i j 0), .int (skwM s g i j 1)]) rfl ?_
        refine lv_icmp_gt (tgt := 56) hx hb dX11_bestFolds_48 (by decide) (fun c_25 => ?_) (fun c_25 => ?_)
        · skip
          refine lv_iload_n hx hb dX11_bestFolds_56 rfl (lv_at hl 1 rfl) ?_
          refine lv_istore_n (lv' := [(3, .int 0), (4, .int 1), (0, .ref m), (1, .int (nI i)), (2, .int (nI j))]) hx hb dX11_bestFolds_57 rfl hl (by decide) rfl (fun ls hl => ?_)
          refine lv_iinc (v := 2) (lv' := [(4, .int 2), (3, .int 0), (0, .ref m), (1, .int (nI i)), (2, .int (nI j))]) hx hb dX11_bestFolds_58 hl (k := 1) rfl (by decide) (by decide) rfl (fun ls hl => ?_)
          refine lv_goto (tgt := 27) hx hb dX11_bestFolds_61 (by decide) ?_
          refine lv_iload hx hb dX11_bestFolds_27 (lv_at hl 0 rfl) ?_
          refine lv_iconst (v := 3) hx hb dX11_bestFolds_29 (by decide) ?_
          refine lv_icmp_gt (tgt := 64) hx hb dX11_bestFolds_30 (by decide) (fun c_26 => ?_) (fun c_26 => ?_)
          · skip
            exact absurd c_26 (by decide)
          · skip
            refine lv_aload_n hx hb dX11_bestFolds_33 rfl (lv_at hl 2 rfl) ?_
            refine lv_iload_n hx hb dX11_bestFolds_34 rfl (lv_at hl 3 rfl) ?_
            refine lv_iload_n hx hb dX11_bestFolds_35 rfl (lv_at hl 4 rfl) ?_
            refine lv_iload hx hb dX11_bestFolds_36 (lv_at hl 0 rfl) ?_
            refine fw_call (va_runV (As := [.int (nI i), .int (nI j), .int 2]) (rest := []) ⟨hx, hb, hml, hown, hts⟩ (c_X11_skippedWith G hL l ω m s g m0 m1 hM i j 2 (by rw [hdd]; omega) (by rw [hcc]; omega) (by omega)) (cwV 3 hts gX11_bestFolds_X11_skippedWith rfl rfl rfl (by decide +kernel) ⟨Nat.le_of_ble_eq_true rfl, Nat.le_of_ble_eq_true rfl⟩) (fw_preV hW hK hR m0 rfl) rfl rfl hl.1 rfl (lv_room (Nat.le_of_ble_eq_true rfl)) dX11_bestFolds_38 ⟨Nat.le_of_ble_eq_true rfl, Nat.le_of_ble_eq_true rfl⟩) hS (fun v_27 ω_28 H locs hq_29 hR hS => ?_)
            obtain ⟨rfl, hq_29⟩ := hq_29
            rw [hq_29] at hR
            refine W.eq (g2 := F0 mI 41 ls [.int (skwM s g i j 2)]) rfl ?_
            refine lv_aload_n hx hb dX11_bestFolds_41 rfl (lv_at hl 2 rfl) ?_
            refine lv_iload_n hx hb dX11_bestFolds_42 rfl (lv_at hl 3 rfl) ?_
            refine lv_iload_n hx hb dX11_bestFolds_43 rfl (lv_at hl 4 rfl) ?_
            refine lv_iconst (v := 0) hx hb dX11_bestFolds_44 (by decide) ?_
            refine fw_call (va_runV (As := [.int (nI i), .int (nI j), .int 0]) (rest := [.int (skwM s g i j 2)]) ⟨hx, hb, hml, hown, hts⟩ (c_X11_skippedWith G hL l ω m s g m0 m1 hM i j 0 (by rw [hdd]; omega) (by rw [hcc]; omega) (by omega)) (cwV 3 hts gX11_bestFolds_X11_skippedWith rfl rfl rfl (by decide +kernel) ⟨Nat.le_of_ble_eq_true rfl, Nat.le_of_ble_eq_true rfl⟩) (fw_preV hW hK hR m0 rfl) rfl rfl hl.1 rfl (lv_room (Nat.le_of_ble_eq_true rfl)) dX11_bestFolds_45 ⟨Nat.le_of_ble_eq_true rfl, Nat.le_of_ble_eq_true rfl⟩) hS (fun v_30 ω_31 H locs hq_32 hR hS => ?_)
            obtain ⟨rfl, hq_32⟩ := hq_32
            rw [hq_32] at hR
            refine W.eq (g2 := F0 mI 48 ls [.int (skwM s g i j 0), .int (skwM s g i j 2)]) rfl ?_
            refine lv_icmp_gt (tgt := 56) hx hb dX11_bestFolds_48 (by decide) (fun c_33 => ?_) (fun c_33 => ?_)
            · skip
              refine lv_iload_n hx hb dX11_bestFolds_56 rfl (lv_at hl 1 rfl) ?_
              refine lv_istore_n (lv' := [(3, .int 0), (4, .int 2), (0, .ref m), (1, .int (nI i)), (2, .int (nI j))]) hx hb dX11_bestFolds_57 rfl hl (by decide) rfl (fun ls hl => ?_)
              refine lv_iinc (v := 3) (lv' := [(4, .int 3), (3, .int 0), (0, .ref m), (1, .int (nI i)), (2, .int (nI j))]) hx hb dX11_bestFolds_58 hl (k := 1) rfl (by decide) (by decide) rfl (fun ls hl => ?_)
              refine lv_goto (tgt := 27) hx hb dX11_bestFolds_61 (by decide) ?_
              refine lv_iload hx hb dX11_bestFolds_27 (lv_at hl 0 rfl) ?_
              refine lv_iconst (v := 3) hx hb dX11_bestFolds_29 (by decide) ?_
              refine lv_icmp_gt (tgt := 64) hx hb dX11_bestFolds_30 (by decide) (fun c_34 => ?_) (fun c_34 => ?_)
              · skip
                exact absurd c_34 (by decide)
              · skip
                refine lv_aload_n hx hb dX11_bestFolds_33 rfl (lv_at hl 2 rfl) ?_
                refine lv_iload_n hx hb dX11_bestFolds_34 rfl (lv_at hl 3 rfl) ?_
                refine lv_iload_n hx hb dX11_bestFolds_35 rfl (lv_at hl 4 rfl) ?_
                refine lv_iload hx hb dX11_bestFolds_36 (lv_at hl 0 rfl) ?_
                refine fw_call (va_runV (As := [.int (nI i), .int (nI j), .int 3]) (rest := []) ⟨hx, hb, hml, hown, hts⟩ (c_X11_skippedWith G hL l ω m s g m0 m1 hM i j 3 (by rw [hdd]; omega) (by rw [hcc]; omega) (by omega)) (cwV 3 hts gX11_bestFolds_X11_skippedWith rfl rfl rfl (by decide +kernel) ⟨Nat.le_of_ble_eq_true rfl, Nat.le_of_ble_eq_true rfl⟩) (fw_preV hW hK hR m0 rfl) rfl rfl hl.1 rfl (lv_room (Nat.le_of_ble_eq_true rfl)) dX11_bestFolds_38 ⟨Nat.le_of_ble_eq_true rfl, Nat.le_of_ble_eq_true rfl⟩) hS (fun v_35 ω_36 H locs hq_37 hR hS => ?_)
                obtain ⟨rfl, hq_37⟩ := hq_37
                rw [hq_37] at hR
                refine W.eq (g2 := F0 mI 41 ls [.int (skwM s g i j 3)]) rfl ?_
                refine lv_aload_n hx hb dX11_bestFolds_41 rfl (lv_at hl 2 rfl) ?_
                refine lv_iload_n hx hb dX11_bestFolds_42 rfl (lv_at hl 3 rfl) ?_
                refine lv_iload_n hx hb dX11_bestFolds_43 rfl (lv_at hl 4 rfl) ?_
                refine lv_iconst (v := 0) hx hb dX11_bestFolds_44 (by decide) ?_
                refine fw_call (va_runV (As := [.int (nI i), .int (nI j), .int 0]) (rest := [.int (skwM s g i j 3)]) ⟨hx, hb, hml, hown, hts⟩ (c_X11_skippedWith G hL l ω m s g m0 m1 hM i j 0 (by rw [hdd]; omega) (by rw [hcc]; omega) (by omega)) (cwV 3 hts gX11_bestFolds_X11_skippedWith rfl rfl rfl (by decide +kernel) ⟨Nat.le_of_ble_eq_true rfl, Nat.le_of_ble_eq_true rfl⟩) (fw_preV hW hK hR m0 rfl) rfl rfl hl.1 rfl (lv_room (Nat.le_of_ble_eq_true rfl)) dX11_bestFolds_45 ⟨Nat.le_of_ble_eq_true rfl, Nat.le_of_ble_eq_true rfl⟩) hS (fun v_38 ω_39 H locs hq_40 hR hS => ?_)
                obtain ⟨rfl, hq_40⟩ := hq_40
                rw [hq_40] at hR
                refine W.eq (g2 := F0 mI 48 ls [.int (skwM s g i j 0), .int (skwM s g i j 3)]) rfl ?_
                refine lv_icmp_gt (tgt := 56) hx hb dX11_bestFolds_48 (by decide) (fun c_41 => ?_) (fun c_41 => ?_)
                · skip
                  refine lv_iload_n hx hb dX11_bestFolds_56 rfl (lv_at hl 1 rfl) ?_
                  refine lv_istore_n (lv' := [(3, .int 0), (4, .int 3), (0, .ref m), (1, .int (nI i)), (2, .int (nI j))]) hx hb dX11_bestFolds_57 rfl hl (by decide) rfl (fun ls hl => ?_)
                  refine lv_iinc (v := 4) (lv' := [(4, .int 4), (3, .int 0), (0, .ref m), (1, .int (nI i)), (2, .int (nI j))]) hx hb dX11_bestFolds_58 hl (k := 1) rfl (by decide) (by decide) rfl (fun ls hl => ?_)
                  refine lv_goto (tgt := 27) hx hb dX11_bestFolds_61 (by decide) ?_
                  refine lv_iload hx hb dX11_bestFolds_27 (lv_at hl 0 rfl) ?_
                  refine lv_iconst (v := 3) hx hb dX11_bestFolds_29 (by decide) ?_
                  refine lv_icmp_gt (tgt := 64) hx hb dX11_bestFolds_30 (by decide) (fun c_42 => ?_) (fun c_42 => ?_)
                  · skip
                    refine lv_aload_n hx hb dX11_bestFolds_64 rfl (lv_at hl 2 rfl) ?_
                    refine lv_iload_n hx hb dX11_bestFolds_65 rfl (lv_at hl 1 rfl) ?_
                    refine fw_call (va_runV (As := [.int 0]) (rest := []) ⟨hx, hb, hml, hown, hts⟩ (c_X11_done G hL l ω m s g m0 m1 0) (cwV 1 hts gX11_bestFolds_X11_done rfl rfl rfl (by decide +kernel) ⟨Nat.le_of_ble_eq_true rfl, Nat.le_of_ble_eq_true rfl⟩) (fw_preV hW hK hR m0 rfl) rfl rfl hl.1 rfl (lv_room (Nat.le_of_ble_eq_true rfl)) dX11_bestFolds_66 ⟨Nat.le_of_ble_eq_true rfl, Nat.le_of_ble_eq_true rfl⟩) hS (fun v_43 ω_44 H locs hq_45 hR hS => ?_)
                    obtain ⟨rfl, z_46, f_48, fr_47⟩ := hq_45
                    refine W.eq (g2 := F0 mI 69 ls [.int 0]) rfl ?_
                    have fr_49 : ∀ q : Nat, ¬ q = m → ω_44.2 q = ω.2 q := by
                      intro q h0
                      rw [fr_47 q (by omega)]
                    have z_50 : ω_44.1 = ω.1 := by rw [z_46]
                    have hr_51 : bfolM s g (nI i) (nI j) = ((0, (upd s 14 0)) : Int32 × (Nat → Int32)) := by
                      simp only [bfolM, hcc, hdd, hci, hcj, hnn, hfn]
                      rw [if_pos c_4, if_pos c_17, if_pos c_25, if_pos c_33, if_pos c_41]
                    refine fw_iret hx hb hr hlocks hR hS dX11_bestFolds_69 ?_
                    rw [hr_51]
                    exact ⟨rfl, z_50, f_48, fr_49⟩
                  · skip
                    exact absurd c_42 (by decide)
                · skip
                  refine lv_iload hx hb dX11_bestFolds_51 (lv_at hl 0 rfl) ?_
                  refine lv_goto (tgt := 57) hx hb dX11_bestFolds_53 (by decide) ?_
                  refine lv_istore_n (lv' := [(3, .int 3), (4, .int 3), (0, .ref m), (1, .int (nI i)), (2, .int (nI j))]) hx hb dX11_bestFolds_57 rfl hl (by decide) rfl (fun ls hl => ?_)
                  refine lv_iinc (v := 4) (lv' := [(4, .int 4), (3, .int 3), (0, .ref m), (1, .int (nI i)), (2, .int (nI j))]) hx hb dX11_bestFolds_58 hl (k := 1) rfl (by decide) (by decide) rfl (fun ls hl => ?_)
                  refine lv_goto (tgt := 27) hx hb dX11_bestFolds_61 (by decide) ?_
                  refine lv_iload hx hb dX11_bestFolds_27 (lv_at hl 0 rfl) ?_
                  refine lv_iconst (v := 3) hx hb dX11_bestFolds_29 (by decide) ?_
                  refine lv_icmp_gt (tgt := 64) hx hb dX11_bestFolds_30 (by decide) (fun c_52 => ?_) (fun c_52 => ?_)
                  · skip
                    refine lv_aload_n hx hb dX11_bestFolds_64 rfl (lv_at hl 2 rfl) ?_
                    refine lv_iload_n hx hb dX11_bestFolds_65 rfl (lv_at hl 1 rfl) ?_
                    refine fw_call (va_runV (As := [.int 3]) (rest := []) ⟨hx, hb, hml, hown, hts⟩ (c_X11_done G hL l ω m s g m0 m1 3) (cwV 1 hts gX11_bestFolds_X11_done rfl rfl rfl (by decide +kernel) ⟨Nat.le_of_ble_eq_true rfl, Nat.le_of_ble_eq_true rfl⟩) (fw_preV hW hK hR m0 rfl) rfl rfl hl.1 rfl (lv_room (Nat.le_of_ble_eq_true rfl)) dX11_bestFolds_66 ⟨Nat.le_of_ble_eq_true rfl, Nat.le_of_ble_eq_true rfl⟩) hS (fun v_53 ω_54 H locs hq_55 hR hS => ?_)
                    obtain ⟨rfl, z_56, f_58, fr_57⟩ := hq_55
                    refine W.eq (g2 := F0 mI 69 ls [.int 3]) rfl ?_
                    have fr_59 : ∀ q : Nat, ¬ q = m → ω_54.2 q = ω.2 q := by
                      intro q h0
                      rw [fr_57 q (by omega)]
                    have z_60 : ω_54.1 = ω.1 := by rw [z_56]
                    have hr_61 : bfolM s g (nI i) (nI j) = ((3, (upd s 14 0)) : Int32 × (Nat → Int32)) := by
                      simp only [bfolM, hcc, hdd, hci, hcj, hnn, hfn]
                      rw [if_pos c_4, if_pos c_17, if_pos c_25, if_pos c_33, if_neg c_41]
                    refine fw_iret hx hb hr hlocks hR hS dX11_bestFolds_69 ?_
                    rw [hr_61]
                    exact ⟨rfl, z_60, f_58, fr_59⟩
                  · skip
                    exact absurd c_52 (by decide)
            · skip
              refine lv_iload hx hb dX11_bestFolds_51 (lv_at hl 0 rfl) ?_
              refine lv_goto (tgt := 57) hx hb dX11_bestFolds_53 (by decide) ?_
              refine lv_istore_n (lv' := [(3, .int 2), (4, .int 2), (0, .ref m), (1, .int (nI i)), (2, .int (nI j))]) hx hb dX11_bestFolds_57 rfl hl (by decide) rfl (fun ls hl => ?_)
              refine lv_iinc (v := 3) (lv' := [(4, .int 3), (3, .int 2), (0, .ref m), (1, .int (nI i)), (2, .int (nI j))]) hx hb dX11_bestFolds_58 hl (k := 1) rfl (by decide) (by decide) rfl (fun ls hl => ?_)
              refine lv_goto (tgt := 27) hx hb dX11_bestFolds_61 (by decide) ?_
              refine lv_iload hx hb dX11_bestFolds_27 (lv_at hl 0 rfl) ?_
              refine lv_iconst (v := 3) hx hb dX11_bestFolds_29 (by decide) ?_
              refine lv_icmp_gt (tgt := 64) hx hb dX11_bestFolds_30 (by decide) (fun c_62 => ?_) (fun c_62 => ?_)
              · skip
                exact absurd c_62 (by decide)
              · skip
                refine lv_aload_n hx hb dX11_bestFolds_33 rfl (lv_at hl 2 rfl) ?_
                refine lv_iload_n hx hb dX11_bestFolds_34 rfl (lv_at hl 3 rfl) ?_
                refine lv_iload_n hx hb dX11_bestFolds_35 rfl (lv_at hl 4 rfl) ?_
                refine lv_iload hx hb dX11_bestFolds_36 (lv_at hl 0 rfl) ?_
                refine fw_call (va_runV (As := [.int (nI i), .int (nI j), .int 3]) (rest := []) ⟨hx, hb, hml, hown, hts⟩ (c_X11_skippedWith G hL l ω m s g m0 m1 hM i j 3 (by rw [hdd]; omega) (by rw [hcc]; omega) (by omega)) (cwV 3 hts gX11_bestFolds_X11_skippedWith rfl rfl rfl (by decide +kernel) ⟨Nat.le_of_ble_eq_true rfl, Nat.le_of_ble_eq_true rfl⟩) (fw_preV hW hK hR m0 rfl) rfl rfl hl.1 rfl (lv_room (Nat.le_of_ble_eq_true rfl)) dX11_bestFolds_38 ⟨Nat.le_of_ble_eq_true rfl, Nat.le_of_ble_eq_true rfl⟩) hS (fun v_63 ω_64 H locs hq_65 hR hS => ?_)
                obtain ⟨rfl, hq_65⟩ := hq_65
                rw [hq_65] at hR
                refine W.eq (g2 := F0 mI 41 ls [.int (skwM s g i j 3)]) rfl ?_
                refine lv_aload_n hx hb dX11_bestFolds_41 rfl (lv_at hl 2 rfl) ?_
                refine lv_iload_n hx hb dX11_bestFolds_42 rfl (lv_at hl 3 rfl) ?_
                refine lv_iload_n hx hb dX11_bestFolds_43 rfl (lv_at hl 4 rfl) ?_
                refine lv_iconst (v := 0) hx hb dX11_bestFolds_44 (by decide) ?_
                refine fw_call (va_runV (As := [.int (nI i), .int (nI j), .int 0]) (rest := [.int (skwM s g i j 3)]) ⟨hx, hb, hml, hown, hts⟩ (c_X11_skippedWith G hL l ω m s g m0 m1 hM i j 0 (by rw [hdd]; omega) (by rw [hcc]; omega) (by omega)) (cwV 3 hts gX11_bestFolds_X11_skippedWith rfl rfl rfl (by decide +kernel) ⟨Nat.le_of_ble_eq_true rfl, Nat.le_of_ble_eq_true rfl⟩) (fw_preV hW hK hR m0 rfl) rfl rfl hl.1 rfl (lv_room (Nat.le_of_ble_eq_true rfl)) dX11_bestFolds_45 ⟨Nat.le_of_ble_eq_true rfl, Nat.le_of_ble_eq_true rfl⟩) hS (fun v_66 ω_67 H locs hq_68 hR hS => ?_)
                obtain ⟨rfl, hq_68⟩ := hq_68
                rw [hq_68] at hR
                refine W.eq (g2 := F0 mI 48 ls [.int (skwM s g i j 0), .int (skwM s g i j 3)]) rfl ?_
                refine lv_icmp_gt (tgt := 56) hx hb dX11_bestFolds_48 (by decide) (fun c_69 => ?_) (fun c_69 => ?_)
                · skip
                  refine lv_iload_n hx hb dX11_bestFolds_56 rfl (lv_at hl 1 rfl) ?_
                  refine lv_istore_n (lv' := [(3, .int 2), (4, .int 3), (0, .ref m), (1, .int (nI i)), (2, .int (nI j))]) hx hb dX11_bestFolds_57 rfl hl (by decide) rfl (fun ls hl => ?_)
                  refine lv_iinc (v := 4) (lv' := [(4, .int 4), (3, .int 2), (0, .ref m), (1, .int (nI i)), (2, .int (nI j))]) hx hb dX11_bestFolds_58 hl (k := 1) rfl (by decide) (by decide) rfl (fun ls hl => ?_)
                  refine lv_goto (tgt := 27) hx hb dX11_bestFolds_61 (by decide) ?_
                  refine lv_iload hx hb dX11_bestFolds_27 (lv_at hl 0 rfl) ?_
                  refine lv_iconst (v := 3) hx hb dX11_bestFolds_29 (by decide) ?_
                  refine lv_icmp_gt (tgt := 64) hx hb dX11_bestFolds_30 (by decide) (fun c_70 => ?_) (fun c_70 => ?_)
                  · skip
                    refine lv_aload_n hx hb dX11_bestFolds_64 rfl (lv_at hl 2 rfl) ?_
                    refine lv_iload_n hx hb dX11_bestFolds_65 rfl (lv_at hl 1 rfl) ?_
                    refine fw_call (va_runV (As := [.int 2]) (rest := []) ⟨hx, hb, hml, hown, hts⟩ (c_X11_done G hL l ω m s g m0 m1 2) (cwV 1 hts gX11_bestFolds_X11_done rfl rfl rfl (by decide +kernel) ⟨Nat.le_of_ble_eq_true rfl, Nat.le_of_ble_eq_true rfl⟩) (fw_preV hW hK hR m0 rfl) rfl rfl hl.1 rfl (lv_room (Nat.le_of_ble_eq_true rfl)) dX11_bestFolds_66 ⟨Nat.le_of_ble_eq_true rfl, Nat.le_of_ble_eq_true rfl⟩) hS (fun v_71 ω_72 H locs hq_73 hR hS => ?_)
                    obtain ⟨rfl, z_74, f_76, fr_75⟩ := hq_73
                    refine W.eq (g2 := F0 mI 69 ls [.int 2]) rfl ?_
                    have fr_77 : ∀ q : Nat, ¬ q = m → ω_72.2 q = ω.2 q := by
                      intro q h0
                      rw [fr_75 q (by omega)]
                    have z_78 : ω_72.1 = ω.1 := by rw [z_74]
                    have hr_79 : bfolM s g (nI i) (nI j) = ((2, (upd s 14 0)) : Int32 × (Nat → Int32)) := by
                      simp only [bfolM, hcc, hdd, hci, hcj, hnn, hfn]
                      rw [if_pos c_4, if_pos c_17, if_pos c_25, if_neg c_33, if_pos c_69]
                    refine fw_iret hx hb hr hlocks hR hS dX11_bestFolds_69 ?_
                    rw [hr_79]
                    exact ⟨rfl, z_78, f_76, fr_77⟩
                  · skip
                    exact absurd c_70 (by decide)
                · skip
                  refine lv_iload hx hb dX11_bestFolds_51 (lv_at hl 0 rfl) ?_
                  refine lv_goto (tgt := 57) hx hb dX11_bestFolds_53 (by decide) ?_
                  refine lv_istore_n (lv' := [(3, .int 3), (4, .int 3), (0, .ref m), (1, .int (nI i)), (2, .int (nI j))]) hx hb dX11_bestFolds_57 rfl hl (by decide) rfl (fun ls hl => ?_)
                  refine lv_iinc (v := 4) (lv' := [(4, .int 4), (3, .int 3), (0, .ref m), (1, .int (nI i)), (2, .int (nI j))]) hx hb dX11_bestFolds_58 hl (k := 1) rfl (by decide) (by decide) rfl (fun ls hl => ?_)
                  refine lv_goto (tgt := 27) hx hb dX11_bestFolds_61 (by decide) ?_
                  refine lv_iload hx hb dX11_bestFolds_27 (lv_at hl 0 rfl) ?_
                  refine lv_iconst (v := 3) hx hb dX11_bestFolds_29 (by decide) ?_
                  refine lv_icmp_gt (tgt := 64) hx hb dX11_bestFolds_30 (by decide) (fun c_80 => ?_) (fun c_80 => ?_)
                  · skip
                    refine lv_aload_n hx hb dX11_bestFolds_64 rfl (lv_at hl 2 rfl) ?_
                    refine lv_iload_n hx hb dX11_bestFolds_65 rfl (lv_at hl 1 rfl) ?_
                    refine fw_call (va_runV (As := [.int 3]) (rest := []) ⟨hx, hb, hml, hown, hts⟩ (c_X11_done G hL l ω m s g m0 m1 3) (cwV 1 hts gX11_bestFolds_X11_done rfl rfl rfl (by decide +kernel) ⟨Nat.le_of_ble_eq_true rfl, Nat.le_of_ble_eq_true rfl⟩) (fw_preV hW hK hR m0 rfl) rfl rfl hl.1 rfl (lv_room (Nat.le_of_ble_eq_true rfl)) dX11_bestFolds_66 ⟨Nat.le_of_ble_eq_true rfl, Nat.le_of_ble_eq_true rfl⟩) hS (fun v_81 ω_82 H locs hq_83 hR hS => ?_)
                    obtain ⟨rfl, z_84, f_86, fr_85⟩ := hq_83
                    refine W.eq (g2 := F0 mI 69 ls [.int 3]) rfl ?_
                    have fr_87 : ∀ q : Nat, ¬ q = m → ω_82.2 q = ω.2 q := by
                      intro q h0
                      rw [fr_85 q (by omega)]
                    have z_88 : ω_82.1 = ω.1 := by rw [z_84]
                    have hr_89 : bfolM s g (nI i) (nI j) = ((3, (upd s 14 0)) : Int32 × (Nat → Int32)) := by
                      simp only [bfolM, hcc, hdd, hci, hcj, hnn, hfn]
                      rw [if_pos c_4, if_pos c_17, if_pos c_25, if_neg c_33, if_neg c_69]
                    refine fw_iret hx hb hr hlocks hR hS dX11_bestFolds_69 ?_
                    rw [hr_89]
                    exact ⟨rfl, z_88, f_86, fr_87⟩
                  · skip
                    exact absurd c_80 (by decide)
        · skip
          refine lv_iload hx hb dX11_bestFolds_51 (lv_at hl 0 rfl) ?_
          refine lv_goto (tgt := 57) hx hb dX11_bestFolds_53 (by decide) ?_
          refine lv_istore_n (lv' := [(3, .int 1), (4, .int 1), (0, .ref m), (1, .int (nI i)), (2, .int (nI j))]) hx hb dX11_bestFolds_57 rfl hl (by decide) rfl (fun ls hl => ?_)
          refine lv_iinc (v := 2) (lv' := [(4, .int 2), (3, .int 1), (0, .ref m), (1, .int (nI i)), (2, .int (nI j))]) hx hb dX11_bestFolds_58 hl (k := 1) rfl (by decide) (by decide) rfl (fun ls hl => ?_)
          refine lv_goto (tgt := 27) hx hb dX11_bestFolds_61 (by decide) ?_
          refine lv_iload hx hb dX11_bestFolds_27 (lv_at hl 0 rfl) ?_
          refine lv_iconst (v := 3) hx hb dX11_bestFolds_29 (by decide) ?_
          refine lv_icmp_gt (tgt := 64) hx hb dX11_bestFolds_30 (by decide) (fun c_90 => ?_) (fun c_90 => ?_)
          · skip
            exact absurd c_90 (by decide)
          · skip
            refine lv_aload_n hx hb dX11_bestFolds_33 rfl (lv_at hl 2 rfl) ?_
            refine lv_iload_n hx hb dX11_bestFolds_34 rfl (lv_at hl 3 rfl) ?_
            refine lv_iload_n hx hb dX11_bestFolds_35 rfl (lv_at hl 4 rfl) ?_
            refine lv_iload hx hb dX11_bestFolds_36 (lv_at hl 0 rfl) ?_
            refine fw_call (va_runV (As := [.int (nI i), .int (nI j), .int 2]) (rest := []) ⟨hx, hb, hml, hown, hts⟩ (c_X11_skippedWith G hL l ω m s g m0 m1 hM i j 2 (by rw [hdd]; omega) (by rw [hcc]; omega) (by omega)) (cwV 3 hts gX11_bestFolds_X11_skippedWith rfl rfl rfl (by decide +kernel) ⟨Nat.le_of_ble_eq_true rfl, Nat.le_of_ble_eq_true rfl⟩) (fw_preV hW hK hR m0 rfl) rfl rfl hl.1 rfl (lv_room (Nat.le_of_ble_eq_true rfl)) dX11_bestFolds_38 ⟨Nat.le_of_ble_eq_true rfl, Nat.le_of_ble_eq_true rfl⟩) hS (fun v_91 ω_92 H locs hq_93 hR hS => ?_)
            obtain ⟨rfl, hq_93⟩ := hq_93
            rw [hq_93] at hR
            refine W.eq (g2 := F0 mI 41 ls [.int (skwM s g i j 2)]) rfl ?_
            refine lv_aload_n hx hb dX11_bestFolds_41 rfl (lv_at hl 2 rfl) ?_
            refine lv_iload_n hx hb dX11_bestFolds_42 rfl (lv_at hl 3 rfl) ?_
            refine lv_iload_n hx hb dX11_bestFolds_43 rfl (lv_at hl 4 rfl) ?_
            refine lv_iconst (v := 0) hx hb dX11_bestFolds_44 (by decide) ?_
            refine fw_call (va_runV (As := [.int (nI i), .int (nI j), .int 0]) (rest := [.int (skwM s g i j 2)]) ⟨hx, hb, hml, hown, hts⟩ (c_X11_skippedWith G hL l ω m s g m0 m1 hM i j 0 (by rw [hdd]; omega) (by rw [hcc]; omega) (by omega)) (cwV 3 hts gX11_bestFolds_X11_skippedWith rfl rfl rfl (by decide +kernel) ⟨Nat.le_of_ble_eq_true rfl, Nat.le_of_ble_eq_true rfl⟩) (fw_preV hW hK hR m0 rfl) rfl rfl hl.1 rfl (lv_room (Nat.le_of_ble_eq_true rfl)) dX11_bestFolds_45 ⟨Nat.le_of_ble_eq_true rfl, Nat.le_of_ble_eq_true rfl⟩) hS (fun v_94 ω_95 H locs hq_96 hR hS => ?_)
            obtain ⟨rfl, hq_96⟩ := hq_96
            rw [hq_96] at hR
            refine W.eq (g2 := F0 mI 48 ls [.int (skwM s g i j 0), .int (skwM s g i j 2)]) rfl ?_
            refine lv_icmp_gt (tgt := 56) hx hb dX11_bestFolds_48 (by decide) (fun c_97 => ?_) (fun c_97 => ?_)
            · skip
              refine lv_iload_n hx hb dX11_bestFolds_56 rfl (lv_at hl 1 rfl) ?_
              refine lv_istore_n (lv' := [(3, .int 1), (4, .int 2), (0, .ref m), (1, .int (nI i)), (2, .int (nI j))]) hx hb dX11_bestFolds_57 rfl hl (by decide) rfl (fun ls hl => ?_)
              refine lv_iinc (v := 3) (lv' := [(4, .int 3), (3, .int 1), (0, .ref m), (1, .int (nI i)), (2, .int (nI j))]) hx hb dX11_bestFolds_58 hl (k := 1) rfl (by decide) (by decide) rfl (fun ls hl => ?_)
              refine lv_goto (tgt := 27) hx hb dX11_bestFolds_61 (by decide) ?_
              refine lv_iload hx hb dX11_bestFolds_27 (lv_at hl 0 rfl) ?_
              refine lv_iconst (v := 3) hx hb dX11_bestFolds_29 (by decide) ?_
              refine lv_icmp_gt (tgt := 64) hx hb dX11_bestFolds_30 (by decide) (fun c_98 => ?_) (fun c_98 => ?_)
              · skip
                exact absurd c_98 (by decide)
              · skip
                refine lv_aload_n hx hb dX11_bestFolds_33 rfl (lv_at hl 2 rfl) ?_
                refine lv_iload_n hx hb dX11_bestFolds_34 rfl (lv_at hl 3 rfl) ?_
                refine lv_iload_n hx hb dX11_bestFolds_35 rfl (lv_at hl 4 rfl) ?_
                refine lv_iload hx hb dX11_bestFolds_36 (lv_at hl 0 rfl) ?_
                refine fw_call (va_runV (As := [.int (nI i), .int (nI j), .int 3]) (rest := []) ⟨hx, hb, hml, hown, hts⟩ (c_X11_skippedWith G hL l ω m s g m0 m1 hM i j 3 (by rw [hdd]; omega) (by rw [hcc]; omega) (by omega)) (cwV 3 hts gX11_bestFolds_X11_skippedWith rfl rfl rfl (by decide +kernel) ⟨Nat.le_of_ble_eq_true rfl, Nat.le_of_ble_eq_true rfl⟩) (fw_preV hW hK hR m0 rfl) rfl rfl hl.1 rfl (lv_room (Nat.le_of_ble_eq_true rfl)) dX11_bestFolds_38 ⟨Nat.le_of_ble_eq_true rfl, Nat.le_of_ble_eq_true rfl⟩) hS (fun v_99 ω_100 H locs hq_101 hR hS => ?_)
                obtain ⟨rfl, hq_101⟩ := hq_101
                rw [hq_101] at hR
                refine W.eq (g2 := F0 mI 41 ls [.int (skwM s g i j 3)]) rfl ?_
                refine lv_aload_n hx hb dX11_bestFolds_41 rfl (lv_at hl 2 rfl) ?_
                refine lv_iload_n hx hb dX11_bestFolds_42 rfl (lv_at hl 3 rfl) ?_
                refine lv_iload_n hx hb dX11_bestFolds_43 rfl (lv_at hl 4 rfl) ?_
                refine lv_iconst (v := 0) hx hb dX11_bestFolds_44 (by decide) ?_
                refine fw_call (va_runV (As := [.int (nI i), .int (nI j), .int 0]) (rest := [.int (skwM s g i j 3)]) ⟨hx, hb, hml, hown, hts⟩ (c_X11_skippedWith G hL l ω m s g m0 m1 hM i j 0 (by rw [hdd]; omega) (by rw [hcc]; omega) (by omega)) (cwV 3 hts gX11_bestFolds_X11_skippedWith rfl rfl rfl (by decide +kernel) ⟨Nat.le_of_ble_eq_true rfl, Nat.le_of_ble_eq_true rfl⟩) (fw_preV hW hK hR m0 rfl) rfl rfl hl.1 rfl (lv_room (Nat.le_of_ble_eq_true rfl)) dX11_bestFolds_45 ⟨Nat.le_of_ble_eq_true rfl, Nat.le_of_ble_eq_true rfl⟩) hS (fun v_102 ω_103 H locs hq_104 hR hS => ?_)
                obtain ⟨rfl, hq_104⟩ := hq_104
                rw [hq_104] at hR
                refine W.eq (g2 := F0 mI 48 ls [.int (skwM s g i j 0), .int (skwM s g i j 3)]) rfl ?_
                refine lv_icmp_gt (tgt := 56) hx hb dX11_bestFolds_48 (by decide) (fun c_105 => ?_) (fun c_105 => ?_)
                · skip
                  refine lv_iload_n hx hb dX11_bestFolds_56 rfl (lv_at hl 1 rfl) ?_
                  refine lv_istore_n (lv' := [(3, .int 1), (4, .int 3), (0, .ref m), (1, .int (nI i)), (2, .int (nI j))]) hx hb dX11_bestFolds_57 rfl hl (by decide) rfl (fun ls hl => ?_)
                  refine lv_iinc (v := 4) (lv' := [(4, .int 4), (3, .int 1), (0, .ref m), (1, .int (nI i)), (2, .int (nI j))]) hx hb dX11_bestFolds_58 hl (k := 1) rfl (by decide) (by decide) rfl (fun ls hl => ?_)
                  refine lv_goto (tgt := 27) hx hb dX11_bestFolds_61 (by decide) ?_
                  refine lv_iload hx hb dX11_bestFolds_27 (lv_at hl 0 rfl) ?_
                  refine lv_iconst (v := 3) hx hb dX11_bestFolds_29 (by decide) ?_
                  refine lv_icmp_gt (tgt := 64) hx hb dX11_bestFolds_30 (by decide) (fun c_106 => ?_) (fun c_106 => ?_)
                  · skip
                    refine lv_aload_n hx hb dX11_bestFolds_64 rfl (lv_at hl 2 rfl) ?_
                    refine lv_iload_n hx hb dX11_bestFolds_65 rfl (lv_at hl 1 rfl) ?_
                    refine fw_call (va_runV (As := [.int 1]) (rest := []) ⟨hx, hb, hml, hown, hts⟩ (c_X11_done G hL l ω m s g m0 m1 1) (cwV 1 hts gX11_bestFolds_X11_done rfl rfl rfl (by decide +kernel) ⟨Nat.le_of_ble_eq_true rfl, Nat.le_of_ble_eq_true rfl⟩) (fw_preV hW hK hR m0 rfl) rfl rfl hl.1 rfl (lv_room (Nat.le_of_ble_eq_true rfl)) dX11_bestFolds_66 ⟨Nat.le_of_ble_eq_true rfl, Nat.le_of_ble_eq_true rfl⟩) hS (fun v_107 ω_108 H locs hq_109 hR hS => ?_)
                    obtain ⟨rfl, z_110, f_112, fr_111⟩ := hq_109
                    refine W.eq (g2 := F0 mI 69 ls [.int 1]) rfl ?_
                    have fr_113 : ∀ q : Nat, ¬ q = m → ω_108.2 q = ω.2 q := by
                      intro q h0
                      rw [fr_111 q (by omega)]
                    have z_114 : ω_108.1 = ω.1 := by rw [z_110]
                    have hr_115 : bfolM s g (nI i) (nI j) = ((1, (upd s 14 0)) : Int32 × (Nat → Int32)) := by
                      simp only [bfolM, hcc, hdd, hci, hcj, hnn, hfn]
                      rw [if_pos c_4, if_pos c_17, if_neg c_25, if_pos c_97, if_pos c_105]
                    refine fw_iret hx hb hr hlocks hR hS dX11_bestFolds_69 ?_
                    rw [hr_115]
                    exact ⟨rfl, z_114, f_112, fr_113⟩
                  · skip
                    exact absurd c_106 (by decide)
                · skip
                  refine lv_iload hx hb dX11_bestFolds_51 (lv_at hl 0 rfl) ?_
                  refine lv_goto (tgt := 57) hx hb dX11_bestFolds_53 (by decide) ?_
                  refine lv_istore_n (lv' := [(3, .int 3), (4, .int 3), (0, .ref m), (1, .int (nI i)), (2, .int (nI j))]) hx hb dX11_bestFolds_57 rfl hl (by decide) rfl (fun ls hl => ?_)
                  refine lv_iinc (v := 4) (lv' := [(4, .int 4), (3, .int 3), (0, .ref m), (1, .int (nI i)), (2, .int (nI j))]) hx hb dX11_bestFolds_58 hl (k := 1) rfl (by decide) (by decide) rfl (fun ls hl => ?_)
                  refine lv_goto (tgt := 27) hx hb dX11_bestFolds_61 (by decide) ?_
                  refine lv_iload hx hb dX11_bestFolds_27 (lv_at hl 0 rfl) ?_
                  refine lv_iconst (v := 3) hx hb dX11_bestFolds_29 (by decide) ?_
                  refine lv_icmp_gt (tgt := 64) hx hb dX11_bestFolds_30 (by decide) (fun c_116 => ?_) (fun c_116 => ?_)
                  · skip
                    refine lv_aload_n hx hb dX11_bestFolds_64 rfl (lv_at hl 2 rfl) ?_
                    refine lv_iload_n hx hb dX11_bestFolds_65 rfl (lv_at hl 1 rfl) ?_
                    refine fw_call (va_runV (As := [.int 3]) (rest := []) ⟨hx, hb, hml, hown, hts⟩ (c_X11_done G hL l ω m s g m0 m1 3) (cwV 1 hts gX11_bestFolds_X11_done rfl rfl rfl (by decide +kernel) ⟨Nat.le_of_ble_eq_true rfl, Nat.le_of_ble_eq_true rfl⟩) (fw_preV hW hK hR m0 rfl) rfl rfl hl.1 rfl (lv_room (Nat.le_of_ble_eq_true rfl)) dX11_bestFolds_66 ⟨Nat.le_of_ble_eq_true rfl, Nat.le_of_ble_eq_true rfl⟩) hS (fun v_117 ω_118 H locs hq_119 hR hS => ?_)
                    obtain ⟨rfl, z_120, f_122, fr_121⟩ := hq_119
                    refine W.eq (g2 := F0 mI 69 ls [.int 3]) rfl ?_
                    have fr_123 : ∀ q : Nat, ¬ q = m → ω_118.2 q = ω.2 q := by
                      intro q h0
                      rw [fr_121 q (by omega)]
                    have z_124 : ω_118.1 = ω.1 := by rw [z_120]
                    have hr_125 : bfolM s g (nI i) (nI j) = ((3, (upd s 14 0)) : Int32 × (Nat → Int32)) := by
                      simp only [bfolM, hcc, hdd, hci, hcj, hnn, hfn]
                      rw [if_pos c_4, if_pos c_17, if_neg c_25, if_pos c_97, if_neg c_105]
                    refine fw_iret hx hb hr hlocks hR hS dX11_bestFolds_69 ?_
                    rw [hr_125]
                    exact ⟨rfl, z_124, f_122, fr_123⟩
                  · skip
                    exact absurd c_116 (by decide)
            · skip
              refine lv_iload hx hb dX11_bestFolds_51 (lv_at hl 0 rfl) ?_
              refine lv_goto (tgt := 57) hx hb dX11_bestFolds_53 (by decide) ?_
              refine lv_istore_n (lv' := [(3, .int 2), (4, .int 2), (0, .ref m), (1, .int (nI i)), (2, .int (nI j))]) hx hb dX11_bestFolds_57 rfl hl (by decide) rfl (fun ls hl => ?_)
              refine lv_iinc (v := 3) (lv' := [(4, .int 3), (3, .int 2), (0, .ref m), (1, .int (nI i)), (2, .int (nI j))]) hx hb dX11_bestFolds_58 hl (k := 1) rfl (by decide) (by decide) rfl (fun ls hl => ?_)
              refine lv_goto (tgt := 27) hx hb dX11_bestFolds_61 (by decide) ?_
              refine lv_iload hx hb dX11_bestFolds_27 (lv_at hl 0 rfl) ?_
              refine lv_iconst (v := 3) hx hb dX11_bestFolds_29 (by decide) ?_
              refine lv_icmp_gt (tgt := 64) hx hb dX11_bestFolds_30 (by decide) (fun c_126 => ?_) (fun c_126 => ?_)
              · skip
                exact absurd c_126 (by decide)
              · skip
                refine lv_aload_n hx hb dX11_bestFolds_33 rfl (lv_at hl 2 rfl) ?_
                refine lv_iload_n hx hb dX11_bestFolds_34 rfl (lv_at hl 3 rfl) ?_
                refine lv_iload_n hx hb dX11_bestFolds_35 rfl (lv_at hl 4 rfl) ?_
                refine lv_iload hx hb dX11_bestFolds_36 (lv_at hl 0 rfl) ?_
                refine fw_call (va_runV (As := [.int (nI i), .int (nI j), .int 3]) (rest := []) ⟨hx, hb, hml, hown, hts⟩ (c_X11_skippedWith G hL l ω m s g m0 m1 hM i j 3 (by rw [hdd]; omega) (by rw [hcc]; omega) (by omega)) (cwV 3 hts gX11_bestFolds_X11_skippedWith rfl rfl rfl (by decide +kernel) ⟨Nat.le_of_ble_eq_true rfl, Nat.le_of_ble_eq_true rfl⟩) (fw_preV hW hK hR m0 rfl) rfl rfl hl.1 rfl (lv_room (Nat.le_of_ble_eq_true rfl)) dX11_bestFolds_38 ⟨Nat.le_of_ble_eq_true rfl, Nat.le_of_ble_eq_true rfl⟩) hS (fun v_127 ω_128 H locs hq_129 hR hS => ?_)
                obtain ⟨rfl, hq_129⟩ := hq_129
                rw [hq_129] at hR
                refine W.eq (g2 := F0 mI 41 ls [.int (skwM s g i j 3)]) rfl ?_
                refine lv_aload_n hx hb dX11_bestFolds_41 rfl (lv_at hl 2 rfl) ?_
                refine lv_iload_n hx hb dX11_bestFolds_42 rfl (lv_at hl 3 rfl) ?_
                refine lv_iload_n hx hb dX11_bestFolds_43 rfl (lv_at hl 4 rfl) ?_
                refine lv_iconst (v := 0) hx hb dX11_bestFolds_44 (by decide) ?_
                refine fw_call (va_runV (As := [.int (nI i), .int (nI j), .int 0]) (rest := [.int (skwM s g i j 3)]) ⟨hx, hb, hml, hown, hts⟩ (c_X11_skippedWith G hL l ω m s g m0 m1 hM i j 0 (by rw [hdd]; omega) (by rw [hcc]; omega) (by omega)) (cwV 3 hts gX11_bestFolds_X11_skippedWith rfl rfl rfl (by decide +kernel) ⟨Nat.le_of_ble_eq_true rfl, Nat.le_of_ble_eq_true rfl⟩) (fw_preV hW hK hR m0 rfl) rfl rfl hl.1 rfl (lv_room (Nat.le_of_ble_eq_true rfl)) dX11_bestFolds_45 ⟨Nat.le_of_ble_eq_true rfl, Nat.le_of_ble_eq_true rfl⟩) hS (fun v_130 ω_131 H locs hq_132 hR hS => ?_)
                obtain ⟨rfl, hq_132⟩ := hq_132
                rw [hq_132] at hR
                refine W.eq (g2 := F0 mI 48 ls [.int (skwM s g i j 0), .int (skwM s g i j 3)]) rfl ?_
                refine lv_icmp_gt (tgt := 56) hx hb dX11_bestFolds_48 (by decide) (fun c_133 => ?_) (fun c_133 => ?_)
                · skip
                  refine lv_iload_n hx hb dX11_bestFolds_56 rfl (lv_at hl 1 rfl) ?_
                  refine lv_istore_n (lv' := [(3, .int 2), (4, .int 3), (0, .ref m), (1, .int (nI i)), (2, .int (nI j))]) hx hb dX11_bestFolds_57 rfl hl (by decide) rfl (fun ls hl => ?_)
                  refine lv_iinc (v := 4) (lv' := [(4, .int 4), (3, .int 2), (0, .ref m), (1, .int (nI i)), (2, .int (nI j))]) hx hb dX11_bestFolds_58 hl (k := 1) rfl (by decide) (by decide) rfl (fun ls hl => ?_)
                  refine lv_goto (tgt := 27) hx hb dX11_bestFolds_61 (by decide) ?_
                  refine lv_iload hx hb dX11_bestFolds_27 (lv_at hl 0 rfl) ?_
                  refine lv_iconst (v := 3) hx hb dX11_bestFolds_29 (by decide) ?_
                  refine lv_icmp_gt (tgt := 64) hx hb dX11_bestFolds_30 (by decide) (fun c_134 => ?_) (fun c_134 => ?_)
                  · skip
                    refine lv_aload_n hx hb dX11_bestFolds_64 rfl (lv_at hl 2 rfl) ?_
                    refine lv_iload_n hx hb dX11_bestFolds_65 rfl (lv_at hl 1 rfl) ?_
                    refine fw_call (va_runV (As := [.int 2]) (rest := []) ⟨hx, hb, hml, hown, hts⟩ (c_X11_done G hL l ω m s g m0 m1 2) (cwV 1 hts gX11_bestFolds_X11_done rfl rfl rfl (by decide +kernel) ⟨Nat.le_of_ble_eq_true rfl, Nat.le_of_ble_eq_true rfl⟩) (fw_preV hW hK hR m0 rfl) rfl rfl hl.1 rfl (lv_room (Nat.le_of_ble_eq_true rfl)) dX11_bestFolds_66 ⟨Nat.le_of_ble_eq_true rfl, Nat.le_of_ble_eq_true rfl⟩) hS (fun v_135 ω_136 H locs hq_137 hR hS => ?_)
                    obtain ⟨rfl, z_138, f_140, fr_139⟩ := hq_137
                    refine W.eq (g2 := F0 mI 69 ls [.int 2]) rfl ?_
                    have fr_141 : ∀ q : Nat, ¬ q = m → ω_136.2 q = ω.2 q := by
                      intro q h0
                      rw [fr_139 q (by omega)]
                    have z_142 : ω_136.1 = ω.1 := by rw [z_138]
                    have hr_143 : bfolM s g (nI i) (nI j) = ((2, (upd s 14 0)) : Int32 × (Nat → Int32)) := by
                      simp only [bfolM, hcc, hdd, hci, hcj, hnn, hfn]
                      rw [if_pos c_4, if_pos c_17, if_neg c_25, if_neg c_97, if_pos c_133]
                    refine fw_iret hx hb hr hlocks hR hS dX11_bestFolds_69 ?_
                    rw [hr_143]
                    exact ⟨rfl, z_142, f_140, fr_141⟩
                  · skip
                    exact absurd c_134 (by decide)
                · skip
                  refine lv_iload hx hb dX11_bestFolds_51 (lv_at hl 0 rfl) ?_
                  refine lv_goto (tgt := 57) hx hb dX11_bestFolds_53 (by decide) ?_
                  refine lv_istore_n (lv' := [(3, .int 3), (4, .int 3), (0, .ref m), (1, .int (nI i)), (2, .int (nI j))]) hx hb dX11_bestFolds_57 rfl hl (by decide) rfl (fun ls hl => ?_)
                  refine lv_iinc (v := 4) (lv' := [(4, .int 4), (3, .int 3), (0, .ref m), (1, .int (nI i)), (2, .int (nI j))]) hx hb dX11_bestFolds_58 hl (k := 1) rfl (by decide) (by decide) rfl (fun ls hl => ?_)
                  refine lv_goto (tgt := 27) hx hb dX11_bestFolds_61 (by decide) ?_
                  refine lv_iload hx hb dX11_bestFolds_27 (lv_at hl 0 rfl) ?_
                  refine lv_iconst (v := 3) hx hb dX11_bestFolds_29 (by decide) ?_
                  refine lv_icmp_gt (tgt := 64) hx hb dX11_bestFolds_30 (by decide) (fun c_144 => ?_) (fun c_144 => ?_)
                  · skip
                    refine lv_aload_n hx hb dX11_bestFolds_64 rfl (lv_at hl 2 rfl) ?_
                    refine lv_iload_n hx hb dX11_bestFolds_65 rfl (lv_at hl 1 rfl) ?_
                    refine fw_call (va_runV (As := [.int 3]) (rest := []) ⟨hx, hb, hml, hown, hts⟩ (c_X11_done G hL l ω m s g m0 m1 3) (cwV 1 hts gX11_bestFolds_X11_done rfl rfl rfl (by decide +kernel) ⟨Nat.le_of_ble_eq_true rfl, Nat.le_of_ble_eq_true rfl⟩) (fw_preV hW hK hR m0 rfl) rfl rfl hl.1 rfl (lv_room (Nat.le_of_ble_eq_true rfl)) dX11_bestFolds_66 ⟨Nat.le_of_ble_eq_true rfl, Nat.le_of_ble_eq_true rfl⟩) hS (fun v_145 ω_146 H locs hq_147 hR hS => ?_)
                    obtain ⟨rfl, z_148, f_150, fr_149⟩ := hq_147
                    refine W.eq (g2 := F0 mI 69 ls [.int 3]) rfl ?_
                    have fr_151 : ∀ q : Nat, ¬ q = m → ω_146.2 q = ω.2 q := by
                      intro q h0
                      rw [fr_149 q (by omega)]
                    have z_152 : ω_146.1 = ω.1 := by rw [z_148]
                    have hr_153 : bfolM s g (nI i) (nI j) = ((3, (upd s 14 0)) : Int32 × (Nat → Int32)) := by
                      simp only [bfolM, hcc, hdd, hci, hcj, hnn, hfn]
                      rw [if_pos c_4, if_pos c_17, if_neg c_25, if_neg c_97, if_neg c_133]
                    refine fw_iret hx hb hr hlocks hR hS dX11_bestFolds_69 ?_
                    rw [hr_153]
                    exact ⟨rfl, z_152, f_150, fr_151⟩
                  · skip
                    exact absurd c_144 (by decide)
    · skip
      have c_17 := bz_eq c_17
      refine lv_aload_n hx hb dX11_bestFolds_16 rfl (lv_at hl 0 rfl) ?_
      refine lv_iconst (v := 1) hx hb dX11_bestFolds_17 (by decide) ?_
      refine fw_call (va_runV (As := [.int 1]) (rest := []) ⟨hx, hb, hml, hown, hts⟩ (c_X11_fails G hL l ω m s g m0 m1 1) (cwV 1 hts gX11_bestFolds_X11_fails rfl rfl rfl (by decide +kernel) ⟨Nat.le_of_ble_eq_true rfl, Nat.le_of_ble_eq_true rfl⟩) (fw_preV hW hK hR m0 rfl) rfl rfl hl.1 rfl (lv_room (Nat.le_of_ble_eq_true rfl)) dX11_bestFolds_18 ⟨Nat.le_of_ble_eq_true rfl, Nat.le_of_ble_eq_true rfl⟩) hS (fun v_154 ω_155 H locs hq_156 hR hS => ?_)
      obtain ⟨rfl, z_157, f_159, fr_158⟩ := hq_156
      refine W.eq (g2 := F0 mI 21 ls [.int 0]) rfl ?_
      have fr_160 : ∀ q : Nat, ¬ q = m → ω_155.2 q = ω.2 q := by
        intro q h0
        rw [fr_158 q (by omega)]
      have z_161 : ω_155.1 = ω.1 := by rw [z_157]
      have hr_162 : bfolM s g (nI i) lf = ((0, (upd s 14 1)) : Int32 × (Nat → Int32)) := by
        simp only [bfolM, hcc, hdd, hci]
        rw [if_pos c_4, if_neg c_17]
      refine fw_iret hx hb hr hlocks hR hS dX11_bestFolds_21 ?_
      rw [hr_162]
      exact ⟨rfl, z_161, f_159, fr_160⟩
def canM (s g nd : Nat → Int32) (lf : Int32) (sp : Int32) : Int32 × (Nat → Int32) × (Nat → Int32) := if inB lf 0 (g 0 - 1) then (if inB sp 0 (g (18 + (cN lf)) - 1) then (if (((g (50 + (cN lf))) >>> (sp &&& 31)) &&& 1) = 1 then (if (lackJ (fun i => g (6 + i)) (needM g (cN lf) (1 <<< (sp &&& 31)) (clrJ nd 6) (cN (g (18 + (cN lf))))) 0 6) = (-1) then ((1, (upd s 14 0), (needM g (cN lf) (1 <<< (sp &&& 31)) (clrJ nd 6) (cN (g (18 + (cN lf))))))) else ((0, (upd s 14 0), (needM g (cN lf) (1 <<< (sp &&& 31)) (clrJ nd 6) (cN (g (18 + (cN lf)))))))) else ((0, (upd s 14 0), (needM g (cN lf) (1 <<< (sp &&& 31)) (clrJ nd 6) (cN (g (18 + (cN lf)))))))) else ((0, (upd s 14 2), nd))) else ((0, (upd s 14 1), nd))
set_option maxHeartbeats 4000000 in
set_option maxRecDepth 100000 in
theorem c_X11_canFinish (G : FG) (hL : FL G) (l : Launch) (ω : FWd) (m : Nat) (s g : Nat → Int32) (m0 : ω.2 m = some (.inr (13, [.ref (m + 1), .ref (m + 2), .ref (m + 3), .int (s 3), .ref (m + 4), .int (s 5), .ref (m + 5), .int (s 7), .int (s 8), .int (s 9), .int (s 10), .int (s 11), .ref (m + 6), .int (s 13), .int (s 14), .ref (m + 7), .int (s 16), .int (s 17), .ref (m + 8)]))) (m1 : ω.2 (m + 1) = some (.inl (G.2.1 0, 324, .inl g))) (nd : Nat → Int32) (m7 : ω.2 (m + 7) = some (.inl (G.2.1 0, 6, .inl nd))) (hM : WFM g) (lf : Int32) (sp : Int32) : FMet G l yX11_canFinish wsX11_canFinish ({ frames := 2, cells := 0, slots := 0, locals := 48 } : Room) [.ref m, .int lf, .int sp] ω (fun vv9 τ9 => vv9 = some (.int ((canM s g nd lf sp).1)) ∧ τ9.1 = ω.1 ∧ τ9.2 m = some (.inr (13, [.ref (m + 1), .ref (m + 2), .ref (m + 3), .int (((canM s g nd lf sp).2.1) 3), .ref (m + 4), .int (((canM s g nd lf sp).2.1) 5), .ref (m + 5), .int (((canM s g nd lf sp).2.1) 7), .int (((canM s g nd lf sp).2.1) 8), .int (((canM s g nd lf sp).2.1) 9), .int (((canM s g nd lf sp).2.1) 10), .int (((canM s g nd lf sp).2.1) 11), .ref (m + 6), .int (((canM s g nd lf sp).2.1) 13), .int (((canM s g nd lf sp).2.1) 14), .ref (m + 7), .int (((canM s g nd lf sp).2.1) 16), .int (((canM s g nd lf sp).2.1) 17), .ref (m + 8)])) ∧ τ9.2 (m + 7) = some (.inl (G.2.1 0, 6, .inl ((canM s g nd lf sp).2.2))) ∧ ∀ q : Nat, ¬ q = m → ¬ q = (m + 7) → τ9.2 q = ω.2 q) 0 0 := by
  refine fw_ofW (cc := cX11_canFinish) (maxL := 4) (ret := (some .boolean)) (by decide) rfl (Nat.le_of_ble_eq_true rfl) ?_
  intro pP eE sS mI ar9 bl9 meth cD ls hx hb hr hlocks hml hts hown hnm hW hR hl
  have hK := hL.K hW
  have hS : va_S (fwA G) sS.heap sS.heap [] := va_S.rf
  have hin11 : ∀ w ∈ u_ws RX11 TX11 19, w ∈ wsX11_canFinish := by decide +kernel
  have hl : lv_has ls 4 [(0, .ref m), (1, .int lf), (2, .int sp)] := hl
  obtain ⟨c, hc8, hc, hcc⟩ := okN_of hM.1
  obtain ⟨cc, hd5, hd, hdd⟩ := okN_of hM.2.1
  refine lv_aload_n hx hb dX11_canFinish_0 rfl (lv_at hl 0 rfl) ?_
  refine lv_aload_n hx hb dX11_canFinish_1 rfl (lv_at hl 0 rfl) ?_
  refine lv_iload_n hx hb dX11_canFinish_2 rfl (lv_at hl 1 rfl) ?_
  refine fw_call (va_runV (As := [.int lf]) (rest := [.ref m]) ⟨hx, hb, hml, hown, hts⟩ (c_X11_isLeaflet G hL l ω m s g m0 m1 lf) (cwV 1 hts gX11_canFinish_X11_isLeaflet rfl rfl rfl (by decide +kernel) ⟨Nat.le_of_ble_eq_true rfl, Nat.le_of_ble_eq_true rfl⟩) (fw_preV hW hK hR m0 rfl) rfl rfl hl.1 rfl (lv_room (Nat.le_of_ble_eq_true rfl)) dX11_canFinish_3 ⟨Nat.le_of_ble_eq_true rfl, Nat.le_of_ble_eq_true rfl⟩) hS (fun v_1 ω_2 H locs hq_3 hR hS => ?_)
  obtain ⟨rfl, hq_3⟩ := hq_3
  rw [hq_3] at hR
  refine W.eq (g2 := F0 mI 6 ls [.int (bz (inB lf 0 (g 0 - 1))), .ref m]) rfl ?_
  refine lv_if_ne (tgt := 13) hx hb dX11_canFinish_6 (by decide) (fun c_4 => ?_) (fun c_4 => ?_)
  · skip
    have c_4 := bz_ne c_4
    obtain ⟨j, hj2, rfl⟩ := in_c hc hc8 c_4
    have hcj : cN (nI j) = j := cN_nI (by omega)
    obtain ⟨n, hn8, hn, hnn⟩ := okN_of (hM.2.2 j (by rw [hcc]; exact hj2)).1
    obtain ⟨f, hf3, hff, hfn⟩ := okN_of (hM.2.2 j (by rw [hcc]; exact hj2)).2.1
    have hkd : ∀ q, q < n → g (68 + 8 * j + q) = nI (cN (g (68 + 8 * j + q))) ∧ cN (g (68 + 8 * j + q)) < 6 := fun q hq => by have h9 := (hM.2.2 j (by rw [hcc]; exact hj2)).2.2 q (by rw [hnn]; exact hq); exact ⟨h9.1, Nat.lt_succ_of_le h9.2⟩
    refine lv_aload_n hx hb dX11_canFinish_13 rfl (lv_at hl 0 rfl) ?_
    refine lv_iload_n hx hb dX11_canFinish_14 rfl (lv_at hl 1 rfl) ?_
    refine lv_iload_n hx hb dX11_canFinish_15 rfl (lv_at hl 2 rfl) ?_
    refine fw_call (va_runV (As := [.int (nI j), .int sp]) (rest := [.ref m]) ⟨hx, hb, hml, hown, hts⟩ (c_X11_isStep G hL l ω m s g m0 m1 j (by omega) sp) (cwV 2 hts gX11_canFinish_X11_isStep rfl rfl rfl (by decide +kernel) ⟨Nat.le_of_ble_eq_true rfl, Nat.le_of_ble_eq_true rfl⟩) (fw_preV hW hK hR m0 rfl) rfl rfl hl.1 rfl (lv_room (Nat.le_of_ble_eq_true rfl)) dX11_canFinish_16 ⟨Nat.le_of_ble_eq_true rfl, Nat.le_of_ble_eq_true rfl⟩) hS (fun v_5 ω_6 H locs hq_7 hR hS => ?_)
    obtain ⟨rfl, hq_7⟩ := hq_7
    rw [hq_7] at hR
    refine W.eq (g2 := F0 mI 19 ls [.int (bz (inB sp 0 (g (18 + j) - 1))), .ref m]) rfl ?_
    refine lv_if_eq (tgt := 26) hx hb dX11_canFinish_19 (by decide) (fun c_8 => ?_) (fun c_8 => ?_)
    · skip
      have c_8 := bz_eq c_8
      refine lv_iconst (v := 2) hx hb dX11_canFinish_26 (by decide) ?_
      refine fw_put (v := .int 2) (C := RX11) (T := TX11) (N := 19) hx hb hts hin11 tyX11 tyX11_ok nmX11 hown hK hR hS m0 rfl 14 (by decide) (hts (.fieldLink RX11 39 "UnreadLeafletsModel" "thrown" "I") (by decide +kernel)) rfl rfl rfl (Nat.le_of_ble_eq_true rfl) dX11_canFinish_27 (fun H locs hR hS => ?_)
      obtain ⟨ω_9, hw_10⟩ : ∃ τ : FWd, τ = (ω.1, va_up ω.2 m (some (.inr (13, [.ref (m + 1), .ref (m + 2), .ref (m + 3), .int ((upd s 14 2) 3), .ref (m + 4), .int ((upd s 14 2) 5), .ref (m + 5), .int ((upd s 14 2) 7), .int ((upd s 14 2) 8), .int ((upd s 14 2) 9), .int ((upd s 14 2) 10), .int ((upd s 14 2) 11), .ref (m + 6), .int ((upd s 14 2) 13), .int ((upd s 14 2) 14), .ref (m + 7), .int ((upd s 14 2) 16), .int ((upd s 14 2) 17), .ref (m + 8)])))) := ⟨_, rfl⟩
      have hR : fR G ω_9 H := by rw [hw_10]; exact hR
      have f_11 : ω_9.2 m = some (.inr (13, [.ref (m + 1), .ref (m + 2), .ref (m + 3), .int ((upd s 14 2) 3), .ref (m + 4), .int ((upd s 14 2) 5), .ref (m + 5), .int ((upd s 14 2) 7), .int ((upd s 14 2) 8), .int ((upd s 14 2) 9), .int ((upd s 14 2) 10), .int ((upd s 14 2) 11), .ref (m + 6), .int ((upd s 14 2) 13), .int ((upd s 14 2) 14), .ref (m + 7), .int ((upd s 14 2) 16), .int ((upd s 14 2) 17), .ref (m + 8)])) := by rw [hw_10]; exact va_up_at
      have fr_12 : ∀ q : Nat, ¬ q = m → ω_9.2 q = ω.2 q := fun q hq => by rw [hw_10]; exact va_up_off hq
      have z_13 : ω_9.1 = ω.1 := by rw [hw_10]
      refine lv_aload_n hx hb dX11_canFinish_30 rfl (lv_at hl 0 rfl) ?_
      refine fw_get (v := .int 2) (C := RX11) (T := TX11) (N := 19) hx hb hts hin11 hown hK hR f_11 rfl 14 (by decide) (hts (.fieldLink RX11 39 "UnreadLeafletsModel" "thrown" "I") (by decide +kernel)) rfl dX11_canFinish_31 ?_
      refine lv_if_eq (tgt := 39) hx hb dX11_canFinish_34 (by decide) (fun c_14 => ?_) (fun c_14 => ?_)
      · skip
        exact absurd c_14 (by decide)
      · skip
        refine lv_iconst (v := 0) hx hb dX11_canFinish_37 (by decide) ?_
        have f_15 : ω_9.2 (m + 7) = some (.inl (G.2.1 0, 6, .inl nd)) := (fr_12 (m + 7) (by omega)).trans m7
        have fr_16 : ∀ q : Nat, ¬ q = m → ¬ q = (m + 7) → ω_9.2 q = ω.2 q := by
          intro q h0 h1
          rw [fr_12 q (by omega)]
        have z_17 : ω_9.1 = ω.1 := by rw [z_13]
        have hr_18 : canM s g nd (nI j) sp = ((0, (upd s 14 2), nd) : Int32 × (Nat → Int32) × (Nat → Int32)) := by
          simp only [canM, hcc, hdd, hcj, hnn, hfn]
          rw [if_pos c_4, if_neg c_8]
        refine fw_zret hx hb hr rfl hlocks hR hS dX11_canFinish_38 ?_
        rw [hr_18]
        exact ⟨rfl, z_17, f_11, f_15, fr_16⟩
    · skip
      have c_8 := bz_ne c_8
      refine lv_iconst (v := 0) hx hb dX11_canFinish_22 (by decide) ?_
      refine lv_goto (tgt := 27) hx hb dX11_canFinish_23 (by decide) ?_
      refine fw_put (v := .int 0) (C := RX11) (T := TX11) (N := 19) hx hb hts hin11 tyX11 tyX11_ok nmX11 hown hK hR hS m0 rfl 14 (by decide) (hts (.fieldLink RX11 39 "UnreadLeafletsModel" "thrown" "I") (by decide +kernel)) rfl rfl rfl (Nat.le_of_ble_eq_true rfl) dX11_canFinish_27 (fun H locs hR hS => ?_)
      obtain ⟨ω_19, hw_20⟩ : ∃ τ : FWd, τ = (ω.1, va_up ω.2 m (some (.inr (13, [.ref (m + 1), .ref (m + 2), .ref (m + 3), .int ((upd s 14 0) 3), .ref (m + 4), .int ((upd s 14 0) 5), .ref (m + 5), .int ((upd s 14 0) 7), .int ((upd s 14 0) 8), .int ((upd s 14 0) 9), .int ((upd s 14 0) 10), .int ((upd s 14 0) 11), .ref (m + 6), .int ((upd s 14 0) 13), .int ((upd s 14 0) 14), .ref (m + 7), .int ((upd s 14 0) 16), .int ((upd s 14 0) 17), .ref (m + 8)])))) := ⟨_, rfl⟩
      have hR : fR G ω_19 H := by rw [hw_20]; exact hR
      have f_21 : ω_19.2 m = some (.inr (13, [.ref (m + 1), .ref (m + 2), .ref (m + 3), .int ((upd s 14 0) 3), .ref (m + 4), .int ((upd s 14 0) 5), .ref (m + 5), .int ((upd s 14 0) 7), .int ((upd s 14 0) 8), .int ((upd s 14 0) 9), .int ((upd s 14 0) 10), .int ((upd s 14 0) 11), .ref (m + 6), .int ((upd s 14 0) 13), .int ((upd s 14 0) 14), .ref (m + 7), .int ((upd s 14 0) 16), .int ((upd s 14 0) 17), .ref (m + 8)])) := by rw [hw_20]; exact va_up_at
      have fr_22 : ∀ q : Nat, ¬ q = m → ω_19.2 q = ω.2 q := fun q hq => by rw [hw_20]; exact va_up_off hq
      have z_23 : ω_19.1 = ω.1 := by rw [hw_20]
      refine lv_aload_n hx hb dX11_canFinish_30 rfl (lv_at hl 0 rfl) ?_
      refine fw_get (v := .int 0) (C := RX11) (T := TX11) (N := 19) hx hb hts hin11 hown hK hR f_21 rfl 14 (by decide) (hts (.fieldLink RX11 39 "UnreadLeafletsModel" "thrown" "I") (by decide +kernel)) rfl dX11_canFinish_31 ?_
      refine lv_if_eq (tgt := 39) hx hb dX11_canFinish_34 (by decide) (fun c_24 => ?_) (fun c_24 => ?_)
      · skip
        refine lv_aload_n hx hb dX11_canFinish_39 rfl (lv_at hl 0 rfl) ?_
        refine lv_iload_n hx hb dX11_canFinish_40 rfl (lv_at hl 1 rfl) ?_
        refine lv_iconst (v := 1) hx hb dX11_canFinish_41 (by decide) ?_
        refine lv_iload_n hx hb dX11_canFinish_42 rfl (lv_at hl 2 rfl) ?_
        refine lv_ishl hx hb dX11_canFinish_43 ?_
        have f_25 : ω_19.2 (m + 1) = some (.inl (G.2.1 0, 324, .inl g)) := (fr_22 (m + 1) (by omega)).trans m1
        have f_26 : ω_19.2 (m + 7) = some (.inl (G.2.1 0, 6, .inl nd)) := (fr_22 (m + 7) (by omega)).trans m7
        refine fw_call (va_runV (As := [.int (nI j), .int (1 <<< (sp &&& 31))]) (rest := []) ⟨hx, hb, hml, hown, hts⟩ (c_X11_needsFor G hL l ω_19 m (upd s 14 0) g f_21 f_25 nd f_26 j (by omega) (1 <<< (sp &&& 31)) n hn hn8 hkd) (cwV 2 hts gX11_canFinish_X11_needsFor rfl rfl rfl (by decide +kernel) ⟨Nat.le_of_ble_eq_true rfl, Nat.le_of_ble_eq_true rfl⟩) (fw_preV hW hK hR f_21 rfl) rfl rfl hl.1 rfl (lv_room (Nat.le_of_ble_eq_true rfl)) dX11_canFinish_44 ⟨Nat.le_of_ble_eq_true rfl, Nat.le_of_ble_eq_true rfl⟩) hS (fun v_27 ω_28 H locs hq_29 hR hS => ?_)
        obtain ⟨rfl, z_30, f_32, fr_31⟩ := hq_29
        refine W.eq (g2 := F0 mI 47 ls [.int (sumM g j (1 <<< (sp &&& 31)) n)]) rfl ?_
        refine lv_istore_n (lv' := [(3, .int (sumM g j (1 <<< (sp &&& 31)) n)), (0, .ref m), (1, .int (nI j)), (2, .int sp)]) hx hb dX11_canFinish_47 rfl hl (by decide) rfl (fun ls hl => ?_)
        refine lv_aload_n hx hb dX11_canFinish_48 rfl (lv_at hl 1 rfl) ?_
        have f_33 : ω_28.2 m = some (.inr (13, [.ref (m + 1), .ref (m + 2), .ref (m + 3), .int ((upd s 14 0) 3), .ref (m + 4), .int ((upd s 14 0) 5), .ref (m + 5), .int ((upd s 14 0) 7), .int ((upd s 14 0) 8), .int ((upd s 14 0) 9), .int ((upd s 14 0) 10), .int ((upd s 14 0) 11), .ref (m + 6), .int ((upd s 14 0) 13), .int ((upd s 14 0) 14), .ref (m + 7), .int ((upd s 14 0) 16), .int ((upd s 14 0) 17), .ref (m + 8)])) := (fr_31 m (by omega)).trans f_21
        refine fw_get (v := .ref (m + 1)) (C := RX11) (T := TX11) (N := 19) hx hb hts hin11 hown hK hR f_33 rfl 0 (by decide) (hts (.fieldLink RX11 7 "UnreadLeafletsModel" "g" "[I") (by decide +kernel)) rfl dX11_canFinish_49 ?_
        refine lv_bipush (v := 50) hx hb dX11_canFinish_52 (by decide) ?_
        refine lv_iload_n hx hb dX11_canFinish_54 rfl (lv_at hl 2 rfl) ?_
        refine lv_iadd hx hb dX11_canFinish_55 ?_
        have hi_34 : 50 + (nI j) = nI (50 + j) := by
          show (nI 50) + (nI j) = _
          simp only [pk_mul, nI_add, Nat.add_assoc, hc, hd, hn, hff]
        refine W.eq (g2 := F0 mI 56 ls [.int (nI (50 + j)), .ref (m + 1)]) (by rw [hi_34]) ?_
        have f_35 : ω_28.2 (m + 1) = some (.inl (G.2.1 0, 324, .inl g)) := (fr_31 (m + 1) (by omega)).trans f_25
        refine fw_iald hx hb hK hR f_35 (vp_in_nI (by omega) (by omega)) dX11_canFinish_56 ?_
        refine W.eq (g2 := F0 mI 57 ls [.int (g (50 + j))]) (by rw [nI_clamp (by omega)]) ?_
        refine lv_iload_n hx hb dX11_canFinish_57 rfl (lv_at hl 3 rfl) ?_
        refine lv_ishr hx hb dX11_canFinish_58 ?_
        refine lv_iconst (v := 1) hx hb dX11_canFinish_59 (by decide) ?_
        refine lv_iand hx hb dX11_canFinish_60 ?_
        refine lv_iconst (v := 1) hx hb dX11_canFinish_61 (by decide) ?_
        refine lv_icmp_ne (tgt := 77) hx hb dX11_canFinish_62 (by decide) (fun c_36 => ?_) (fun c_36 => ?_)
        · skip
          refine lv_iconst (v := 0) hx hb dX11_canFinish_77 (by decide) ?_
          have fr_37 : ∀ q : Nat, ¬ q = m → ¬ q = (m + 7) → ω_28.2 q = ω.2 q := by
            intro q h0 h1
            rw [fr_31 q (by omega)]
            rw [fr_22 q (by omega)]
          have z_38 : ω_28.1 = ω.1 := by rw [z_30, z_23]
          have hr_39 : canM s g nd (nI j) sp = ((0, (upd s 14 0), (needM g j (1 <<< (sp &&& 31)) (clrJ nd 6) n)) : Int32 × (Nat → Int32) × (Nat → Int32)) := by
            simp only [canM, hcc, hdd, hcj, hnn, hfn]
            rw [if_pos c_4, if_pos c_8, if_neg c_36]
          refine fw_zret hx hb hr rfl hlocks hR hS dX11_canFinish_78 ?_
          rw [hr_39]
          exact ⟨rfl, z_38, f_33, f_32, fr_37⟩
        · skip
          refine lv_aload_n hx hb dX11_canFinish_65 rfl (lv_at hl 1 rfl) ?_
          refine fw_call (va_runV (As := []) (rest := []) ⟨hx, hb, hml, hown, hts⟩ (c_X11_lacking G hL l ω_28 m (upd s 14 0) g f_33 f_35 (needM g j (1 <<< (sp &&& 31)) (clrJ nd 6) n) f_32 ) (cwV 0 hts gX11_canFinish_X11_lacking rfl rfl rfl (by decide +kernel) ⟨Nat.le_of_ble_eq_true rfl, Nat.le_of_ble_eq_true rfl⟩) (fw_preV hW hK hR f_33 rfl) rfl rfl hl.1 rfl (lv_room (Nat.le_of_ble_eq_true rfl)) dX11_canFinish_66 ⟨Nat.le_of_ble_eq_true rfl, Nat.le_of_ble_eq_true rfl⟩) hS (fun v_40 ω_41 H locs hq_42 hR hS => ?_)
          obtain ⟨rfl, hq_42⟩ := hq_42
          rw [hq_42] at hR
          refine W.eq (g2 := F0 mI 69 ls [.int (lackJ (fun i => g (6 + i)) (needM g j (1 <<< (sp &&& 31)) (clrJ nd 6) n) 0 6)]) rfl ?_
          refine lv_iconst (v := (-1)) hx hb dX11_canFinish_69 (by decide) ?_
          refine lv_icmp_ne (tgt := 77) hx hb dX11_canFinish_70 (by decide) (fun c_43 => ?_) (fun c_43 => ?_)
          · skip
            refine lv_iconst (v := 0) hx hb dX11_canFinish_77 (by decide) ?_
            have fr_44 : ∀ q : Nat, ¬ q = m → ¬ q = (m + 7) → ω_28.2 q = ω.2 q := by
              intro q h0 h1
              rw [fr_31 q (by omega)]
              rw [fr_22 q (by omega)]
            have z_45 : ω_28.1 = ω.1 := by rw [z_30, z_23]
            have hr_46 : canM s g nd (nI j) sp = ((0, (upd s 14 0), (needM g j (1 <<< (sp &&& 31)) (clrJ nd 6) n)) : Int32 × (Nat → Int32) × (Nat → Int32)) := by
              simp only [canM, hcc, hdd, hcj, hnn, hfn]
              rw [if_pos c_4, if_pos c_8, if_pos c_36, if_neg c_43]
            refine fw_zret hx hb hr rfl hlocks hR hS dX11_canFinish_78 ?_
            rw [hr_46]
            exact ⟨rfl, z_45, f_33, f_32, fr_44⟩
          · skip
            refine lv_iconst (v := 1) hx hb dX11_canFinish_73 (by decide) ?_
            refine lv_goto (tgt := 78) hx hb dX11_canFinish_74 (by decide) ?_
            have fr_47 : ∀ q : Nat, ¬ q = m → ¬ q = (m + 7) → ω_28.2 q = ω.2 q := by
              intro q h0 h1
              rw [fr_31 q (by omega)]
              rw [fr_22 q (by omega)]
            have z_48 : ω_28.1 = ω.1 := by rw [z_30, z_23]
            have hr_49 : canM s g nd (nI j) sp = ((1, (upd s 14 0), (needM g j (1 <<< (sp &&& 31)) (clrJ nd 6) n)) : Int32 × (Nat → Int32) × (Nat → Int32)) := by
              simp only [canM, hcc, hdd, hcj, hnn, hfn]
              rw [if_pos c_4, if_pos c_8, if_pos c_36, if_pos c_43]
            refine fw_zret hx hb hr rfl hlocks hR hS dX11_canFinish_78 ?_
            rw [hr_49]
            exact ⟨rfl, z_48, f_33, f_32, fr_47⟩
      · skip
        exact absurd c_24 (by decide)
  · skip
    have c_4 := bz_eq c_4
    refine lv_iconst (v := 1) hx hb dX11_canFinish_9 (by decide) ?_
    refine lv_goto (tgt := 27) hx hb dX11_canFinish_10 (by decide) ?_
    refine fw_put (v := .int 1) (C := RX11) (T := TX11) (N := 19) hx hb hts hin11 tyX11 tyX11_ok nmX11 hown hK hR hS m0 rfl 14 (by decide) (hts (.fieldLink RX11 39 "UnreadLeafletsModel" "thrown" "I") (by decide +kernel)) rfl rfl rfl (Nat.le_of_ble_eq_true rfl) dX11_canFinish_27 (fun H locs hR hS => ?_)
    obtain ⟨ω_50, hw_51⟩ : ∃ τ : FWd, τ = (ω.1, va_up ω.2 m (some (.inr (13, [.ref (m + 1), .ref (m + 2), .ref (m + 3), .int ((upd s 14 1) 3), .ref (m + 4), .int ((upd s 14 1) 5), .ref (m + 5), .int ((upd s 14 1) 7), .int ((upd s 14 1) 8), .int ((upd s 14 1) 9), .int ((upd s 14 1) 10), .int ((upd s 14 1) 11), .ref (m + 6), .int ((upd s 14 1) 13), .int ((upd s 14 1) 14), .ref (m + 7), .int ((upd s 14 1) 16), .int ((upd s 14 1) 17), .ref (m + 8)])))) := ⟨_, rfl⟩
    have hR : fR G ω_50 H := by rw [hw_51]; exact hR
    have f_52 : ω_50.2 m = some (.inr (13, [.ref (m + 1), .ref (m + 2), .ref (m + 3), .int ((upd s 14 1) 3), .ref (m + 4), .int ((upd s 14 1) 5), .ref (m + 5), .int ((upd s 14 1) 7), .int ((upd s 14 1) 8), .int ((upd s 14 1) 9), .int ((upd s 14 1) 10), .int ((upd s 14 1) 11), .ref (m + 6), .int ((upd s 14 1) 13), .int ((upd s 14 1) 14), .ref (m + 7), .int ((upd s 14 1) 16), .int ((upd s 14 1) 17), .ref (m + 8)])) := by rw [hw_51]; exact va_up_at
    have fr_53 : ∀ q : Nat, ¬ q = m → ω_50.2 q = ω.2 q := fun q hq => by rw [hw_51]; exact va_up_off hq
    have z_54 : ω_50.1 = ω.1 := by rw [hw_51]
    refine lv_aload_n hx hb dX11_canFinish_30 rfl (lv_at hl 0 rfl) ?_
    refine fw_get (v := .int 1) (C := RX11) (T := TX11) (N := 19) hx hb hts hin11 hown hK hR f_52 rfl 14 (by decide) (hts (.fieldLink RX11 39 "UnreadLeafletsModel" "thrown" "I") (by decide +kernel)) rfl dX11_canFinish_31 ?_
    refine lv_if_eq (tgt := 39) hx hb dX11_canFinish_34 (by decide) (fun c_55 => ?_) (fun c_55 => ?_)
    · skip
      exact absurd c_55 (by decide)
    · skip
      refine lv_iconst (v := 0) hx hb dX11_canFinish_37 (by decide) ?_
      have f_56 : ω_50.2 (m + 7) = some (.inl (G.2.1 0, 6, .inl nd)) := (fr_53 (m + 7) (by omega)).trans m7
      have fr_57 : ∀ q : Nat, ¬ q = m → ¬ q = (m + 7) → ω_50.2 q = ω.2 q := by
        intro q h0 h1
        rw [fr_53 q (by omega)]
      have z_58 : ω_50.1 = ω.1 := by rw [z_54]
      have hr_59 : canM s g nd lf sp = ((0, (upd s 14 1), nd) : Int32 × (Nat → Int32) × (Nat → Int32)) := by
        simp only [canM, hcc, hdd]
        rw [if_neg c_4]
      refine fw_zret hx hb hr rfl hlocks hR hS dX11_canFinish_38 ?_
      rw [hr_59]
      exact ⟨rfl, z_58, f_52, f_56, fr_57⟩
def tinM (s g : Nat → Int32) (kd : Int32) : Int32 × (Nat → Int32) := if inB kd 0 5 then (((g (6 + (cN kd))), (upd s 14 0))) else ((0, (upd s 14 1)))
set_option maxHeartbeats 4000000 in
set_option maxRecDepth 100000 in
theorem c_X11_tin (G : FG) (hL : FL G) (l : Launch) (ω : FWd) (m : Nat) (s g : Nat → Int32) (m0 : ω.2 m = some (.inr (13, [.ref (m + 1), .ref (m + 2), .ref (m + 3), .int (s 3), .ref (m + 4), .int (s 5), .ref (m + 5), .int (s 7), .int (s 8), .int (s 9), .int (s 10), .int (s 11), .ref (m + 6), .int (s 13), .int (s 14), .ref (m + 7), .int (s 16), .int (s 17), .ref (m + 8)]))) (m1 : ω.2 (m + 1) = some (.inl (G.2.1 0, 324, .inl g))) (hM : WFM g) (kd : Int32) : FMet G l yX11_tin wsX11_tin ({ frames := 2, cells := 0, slots := 0, locals := 42 } : Room) [.ref m, .int kd] ω (fun vv9 τ9 => vv9 = some (.int ((tinM s g kd).1)) ∧ τ9.1 = ω.1 ∧ τ9.2 m = some (.inr (13, [.ref (m + 1), .ref (m + 2), .ref (m + 3), .int (((tinM s g kd).2) 3), .ref (m + 4), .int (((tinM s g kd).2) 5), .ref (m + 5), .int (((tinM s g kd).2) 7), .int (((tinM s g kd).2) 8), .int (((tinM s g kd).2) 9), .int (((tinM s g kd).2) 10), .int (((tinM s g kd).2) 11), .ref (m + 6), .int (((tinM s g kd).2) 13), .int (((tinM s g kd).2) 14), .ref (m + 7), .int (((tinM s g kd).2) 16), .int (((tinM s g kd).2) 17), .ref (m + 8)])) ∧ ∀ q : Nat, ¬ q = m → τ9.2 q = ω.2 q) 0 0 := by
  refine fw_ofW (cc := cX11_tin) (maxL := 2) (ret := (some .int)) (by decide) rfl (Nat.le_of_ble_eq_true rfl) ?_
  intro pP eE sS mI ar9 bl9 meth cD ls hx hb hr hlocks hml hts hown hnm hW hR hl
  have hK := hL.K hW
  have hS : va_S (fwA G) sS.heap sS.heap [] := va_S.rf
  have hin11 : ∀ w ∈ u_ws RX11 TX11 19, w ∈ wsX11_tin := by decide +kernel
  have hl : lv_has ls 2 [(0, .ref m), (1, .int kd)] := hl
  obtain ⟨c, hc8, hc, hcc⟩ := okN_of hM.1
  obtain ⟨cc, hd5, hd, hdd⟩ := okN_of hM.2.1
  refine lv_iload_n hx hb dX11_tin_0 rfl (lv_at hl 1 rfl) ?_
  refine fw_call (va_runS (As := [.int kd]) (rest := []) ⟨hx, hb, hml, hown, hts⟩ (c_X11_isKind G hL l ω kd) (va_cwS 1 hts gX11_tin_X11_isKind rfl rfl rfl (by decide +kernel) ⟨Nat.le_of_ble_eq_true rfl, Nat.le_of_ble_eq_true rfl⟩) (fw_preS hW hR) rfl rfl hl.1 rfl (lv_room (Nat.le_of_ble_eq_true rfl)) dX11_tin_1 ⟨Nat.le_of_ble_eq_true rfl, Nat.le_of_ble_eq_true rfl⟩) hS (fun v_1 ω_2 H locs hq_3 hR hS => ?_)
  obtain ⟨rfl, hq_3⟩ := hq_3
  rw [hq_3] at hR
  refine W.eq (g2 := F0 mI 4 ls [.int (bz (inB kd 0 5))]) rfl ?_
  refine lv_if_eq (tgt := 23) hx hb dX11_tin_4 (by decide) (fun c_4 => ?_) (fun c_4 => ?_)
  · skip
    have c_4 := bz_eq c_4
    refine lv_aload_n hx hb dX11_tin_23 rfl (lv_at hl 0 rfl) ?_
    refine lv_iconst (v := 1) hx hb dX11_tin_24 (by decide) ?_
    refine fw_call (va_runV (As := [.int 1]) (rest := []) ⟨hx, hb, hml, hown, hts⟩ (c_X11_fails G hL l ω m s g m0 m1 1) (cwV 1 hts gX11_tin_X11_fails rfl rfl rfl (by decide +kernel) ⟨Nat.le_of_ble_eq_true rfl, Nat.le_of_ble_eq_true rfl⟩) (fw_preV hW hK hR m0 rfl) rfl rfl hl.1 rfl (lv_room (Nat.le_of_ble_eq_true rfl)) dX11_tin_25 ⟨Nat.le_of_ble_eq_true rfl, Nat.le_of_ble_eq_true rfl⟩) hS (fun v_5 ω_6 H locs hq_7 hR hS => ?_)
    obtain ⟨rfl, z_8, f_10, fr_9⟩ := hq_7
    refine W.eq (g2 := F0 mI 28 ls [.int 0]) rfl ?_
    have fr_11 : ∀ q : Nat, ¬ q = m → ω_6.2 q = ω.2 q := by
      intro q h0
      rw [fr_9 q (by omega)]
    have z_12 : ω_6.1 = ω.1 := by rw [z_8]
    have hr_13 : tinM s g kd = ((0, (upd s 14 1)) : Int32 × (Nat → Int32)) := by
      simp only [tinM, hcc, hdd]
      rw [if_neg c_4]
    refine fw_iret hx hb hr hlocks hR hS dX11_tin_28 ?_
    rw [hr_13]
    exact ⟨rfl, z_12, f_10, fr_11⟩
  · skip
    have c_4 := bz_ne c_4
    obtain ⟨ki, hki5, rfl⟩ := in_n (n := 5) (by decide) c_4
    have hcki : cN (nI ki) = ki := cN_nI (by omega)
    refine lv_aload_n hx hb dX11_tin_7 rfl (lv_at hl 0 rfl) ?_
    refine lv_aload_n hx hb dX11_tin_8 rfl (lv_at hl 0 rfl) ?_
    refine fw_get (v := .ref (m + 1)) (C := RX11) (T := TX11) (N := 19) hx hb hts hin11 hown hK hR m0 rfl 0 (by decide) (hts (.fieldLink RX11 7 "UnreadLeafletsModel" "g" "[I") (by decide +kernel)) rfl dX11_tin_9 ?_
    refine lv_bipush (v := 6) hx hb dX11_tin_12 (by decide) ?_
    refine lv_iload_n hx hb dX11_tin_14 rfl (lv_at hl 1 rfl) ?_
    refine lv_iadd hx hb dX11_tin_15 ?_
    have hi_14 : 6 + (nI ki) = nI (6 + ki) := by
      show (nI 6) + (nI ki) = _
      simp only [pk_mul, nI_add, Nat.add_assoc, hc, hd]
    refine W.eq (g2 := F0 mI 16 ls [.int (nI (6 + ki)), .ref (m + 1), .ref m]) (by rw [hi_14]) ?_
    refine fw_iald hx hb hK hR m1 (vp_in_nI (by omega) (by omega)) dX11_tin_16 ?_
    refine W.eq (g2 := F0 mI 17 ls [.int (g (6 + ki)), .ref m]) (by rw [nI_clamp (by omega)]) ?_
    refine fw_call (va_runV (As := [.int (g (6 + ki))]) (rest := []) ⟨hx, hb, hml, hown, hts⟩ (c_X11_done G hL l ω m s g m0 m1 (g (6 + ki))) (cwV 1 hts gX11_tin_X11_done rfl rfl rfl (by decide +kernel) ⟨Nat.le_of_ble_eq_true rfl, Nat.le_of_ble_eq_true rfl⟩) (fw_preV hW hK hR m0 rfl) rfl rfl hl.1 rfl (lv_room (Nat.le_of_ble_eq_true rfl)) dX11_tin_17 ⟨Nat.le_of_ble_eq_true rfl, Nat.le_of_ble_eq_true rfl⟩) hS (fun v_15 ω_16 H locs hq_17 hR hS => ?_)
    obtain ⟨rfl, z_18, f_20, fr_19⟩ := hq_17
    refine W.eq (g2 := F0 mI 20 ls [.int (g (6 + ki))]) rfl ?_
    refine lv_goto (tgt := 28) hx hb dX11_tin_20 (by decide) ?_
    have fr_21 : ∀ q : Nat, ¬ q = m → ω_16.2 q = ω.2 q := by
      intro q h0
      rw [fr_19 q (by omega)]
    have z_22 : ω_16.1 = ω.1 := by rw [z_18]
    have hr_23 : tinM s g (nI ki) = (((g (6 + ki)), (upd s 14 0)) : Int32 × (Nat → Int32)) := by
      simp only [tinM, hcc, hdd, hcki]
      rw [if_pos c_4]
    refine fw_iret hx hb hr hlocks hR hS dX11_tin_28 ?_
    rw [hr_23]
    exact ⟨rfl, z_22, f_20, fr_21⟩
def lostM (s g : Nat → Int32) (kd : Int32) : Int32 × (Nat → Int32) := if inB kd 0 5 then (((g (12 + (cN kd))), (upd s 14 0))) else ((0, (upd s 14 1)))
set_option maxHeartbeats 4000000 in
set_option maxRecDepth 100000 in
theorem c_X11_lost (G : FG) (hL : FL G) (l : Launch) (ω : FWd) (m : Nat) (s g : Nat → Int32) (m0 : ω.2 m = some (.inr (13, [.ref (m + 1), .ref (m + 2), .ref (m + 3), .int (s 3), .ref (m + 4), .int (s 5), .ref (m + 5), .int (s 7), .int (s 8), .int (s 9), .int (s 10), .int (s 11), .ref (m + 6), .int (s 13), .int (s 14), .ref (m + 7), .int (s 16), .int (s 17), .ref (m + 8)]))) (m1 : ω.2 (m + 1) = some (.inl (G.2.1 0, 324, .inl g))) (hM : WFM g) (kd : Int32) : FMet G l yX11_lost wsX11_lost ({ frames := 2, cells := 0, slots := 0, locals := 42 } : Room) [.ref m, .int kd] ω (fun vv9 τ9 => vv9 = some (.int ((lostM s g kd).1)) ∧ τ9.1 = ω.1 ∧ τ9.2 m = some (.inr (13, [.ref (m + 1), .ref (m + 2), .ref (m + 3), .int (((lostM s g kd).2) 3), .ref (m + 4), .int (((lostM s g kd).2) 5), .ref (m + 5), .int (((lostM s g kd).2) 7), .int (((lostM s g kd).2) 8), .int (((lostM s g kd).2) 9), .int (((lostM s g kd).2) 10), .int (((lostM s g kd).2) 11), .ref (m + 6), .int (((lostM s g kd).2) 13), .int (((lostM s g kd).2) 14), .ref (m + 7), .int (((lostM s g kd).2) 16), .int (((lostM s g kd).2) 17), .ref (m + 8)])) ∧ ∀ q : Nat, ¬ q = m → τ9.2 q = ω.2 q) 0 0 := by
  refine fw_ofW (cc := cX11_lost) (maxL := 2) (ret := (some .int)) (by decide) rfl (Nat.le_of_ble_eq_true rfl) ?_
  intro pP eE sS mI ar9 bl9 meth cD ls hx hb hr hlocks hml hts hown hnm hW hR hl
  have hK := hL.K hW
  have hS : va_S (fwA G) sS.heap sS.heap [] := va_S.rf
  have hin11 : ∀ w ∈ u_ws RX11 TX11 19, w ∈ wsX11_lost := by decide +kernel
  have hl : lv_has ls 2 [(0, .ref m), (1, .int kd)] := hl
  obtain ⟨c, hc8, hc, hcc⟩ := okN_of hM.1
  obtain ⟨cc, hd5, hd, hdd⟩ := okN_of hM.2.1
  refine lv_iload_n hx hb dX11_lost_0 rfl (lv_at hl 1 rfl) ?_
  refine fw_call (va_runS (As := [.int kd]) (rest := []) ⟨hx, hb, hml, hown, hts⟩ (c_X11_isKind G hL l ω kd) (va_cwS 1 hts gX11_lost_X11_isKind rfl rfl rfl (by decide +kernel) ⟨Nat.le_of_ble_eq_true rfl, Nat.le_of_ble_eq_true rfl⟩) (fw_preS hW hR) rfl rfl hl.1 rfl (lv_room (Nat.le_of_ble_eq_true rfl)) dX11_lost_1 ⟨Nat.le_of_ble_eq_true rfl, Nat.le_of_ble_eq_true rfl⟩) hS (fun v_1 ω_2 H locs hq_3 hR hS => ?_)
  obtain ⟨rfl, hq_3⟩ := hq_3
  rw [hq_3] at hR
  refine W.eq (g2 := F0 mI 4 ls [.int (bz (inB kd 0 5))]) rfl ?_
  refine lv_if_eq (tgt := 23) hx hb dX11_lost_4 (by decide) (fun c_4 => ?_) (fun c_4 => ?_)
  · skip
    have c_4 := bz_eq c_4
    refine lv_aload_n hx hb dX11_lost_23 rfl (lv_at hl 0 rfl) ?_
    refine lv_iconst (v := 1) hx hb dX11_lost_24 (by decide) ?_
    refine fw_call (va_runV (As := [.int 1]) (rest := []) ⟨hx, hb, hml, hown, hts⟩ (c_X11_fails G hL l ω m s g m0 m1 1) (cwV 1 hts gX11_lost_X11_fails rfl rfl rfl (by decide +kernel) ⟨Nat.le_of_ble_eq_true rfl, Nat.le_of_ble_eq_true rfl⟩) (fw_preV hW hK hR m0 rfl) rfl rfl hl.1 rfl (lv_room (Nat.le_of_ble_eq_true rfl)) dX11_lost_25 ⟨Nat.le_of_ble_eq_true rfl, Nat.le_of_ble_eq_true rfl⟩) hS (fun v_5 ω_6 H locs hq_7 hR hS => ?_)
    obtain ⟨rfl, z_8, f_10, fr_9⟩ := hq_7
    refine W.eq (g2 := F0 mI 28 ls [.int 0]) rfl ?_
    have fr_11 : ∀ q : Nat, ¬ q = m → ω_6.2 q = ω.2 q := by
      intro q h0
      rw [fr_9 q (by omega)]
    have z_12 : ω_6.1 = ω.1 := by rw [z_8]
    have hr_13 : lostM s g kd = ((0, (upd s 14 1)) : Int32 × (Nat → Int32)) := by
      simp only [lostM, hcc, hdd]
      rw [if_neg c_4]
    refine fw_iret hx hb hr hlocks hR hS dX11_lost_28 ?_
    rw [hr_13]
    exact ⟨rfl, z_12, f_10, fr_11⟩
  · skip
    have c_4 := bz_ne c_4
    obtain ⟨ki, hki5, rfl⟩ := in_n (n := 5) (by decide) c_4
    have hcki : cN (nI ki) = ki := cN_nI (by omega)
    refine lv_aload_n hx hb dX11_lost_7 rfl (lv_at hl 0 rfl) ?_
    refine lv_aload_n hx hb dX11_lost_8 rfl (lv_at hl 0 rfl) ?_
    refine fw_get (v := .ref (m + 1)) (C := RX11) (T := TX11) (N := 19) hx hb hts hin11 hown hK hR m0 rfl 0 (by decide) (hts (.fieldLink RX11 7 "UnreadLeafletsModel" "g" "[I") (by decide +kernel)) rfl dX11_lost_9 ?_
    refine lv_bipush (v := 12) hx hb dX11_lost_12 (by decide) ?_
    refine lv_iload_n hx hb dX11_lost_14 rfl (lv_at hl 1 rfl) ?_
    refine lv_iadd hx hb dX11_lost_15 ?_
    have hi_14 : 12 + (nI ki) = nI (12 + ki) := by
      show (nI 12) + (nI ki) = _
      simp only [pk_mul, nI_add, Nat.add_assoc, hc, hd]
    refine W.eq (g2 := F0 mI 16 ls [.int (nI (12 + ki)), .ref (m + 1), .ref m]) (by rw [hi_14]) ?_
    refine fw_iald hx hb hK hR m1 (vp_in_nI (by omega) (by omega)) dX11_lost_16 ?_
    refine W.eq (g2 := F0 mI 17 ls [.int (g (12 + ki)), .ref m]) (by rw [nI_clamp (by omega)]) ?_
    refine fw_call (va_runV (As := [.int (g (12 + ki))]) (rest := []) ⟨hx, hb, hml, hown, hts⟩ (c_X11_done G hL l ω m s g m0 m1 (g (12 + ki))) (cwV 1 hts gX11_lost_X11_done rfl rfl rfl (by decide +kernel) ⟨Nat.le_of_ble_eq_true rfl, Nat.le_of_ble_eq_true rfl⟩) (fw_preV hW hK hR m0 rfl) rfl rfl hl.1 rfl (lv_room (Nat.le_of_ble_eq_true rfl)) dX11_lost_17 ⟨Nat.le_of_ble_eq_true rfl, Nat.le_of_ble_eq_true rfl⟩) hS (fun v_15 ω_16 H locs hq_17 hR hS => ?_)
    obtain ⟨rfl, z_18, f_20, fr_19⟩ := hq_17
    refine W.eq (g2 := F0 mI 20 ls [.int (g (12 + ki))]) rfl ?_
    refine lv_goto (tgt := 28) hx hb dX11_lost_20 (by decide) ?_
    have fr_21 : ∀ q : Nat, ¬ q = m → ω_16.2 q = ω.2 q := by
      intro q h0
      rw [fr_19 q (by omega)]
    have z_22 : ω_16.1 = ω.1 := by rw [z_18]
    have hr_23 : lostM s g (nI ki) = (((g (12 + ki)), (upd s 14 0)) : Int32 × (Nat → Int32)) := by
      simp only [lostM, hcc, hdd, hcki]
      rw [if_pos c_4]
    refine fw_iret hx hb hr hlocks hR hS dX11_lost_28 ?_
    rw [hr_23]
    exact ⟨rfl, z_22, f_20, fr_21⟩
def shelfM (s g : Nat → Int32) (sh : Int32) : Int32 × (Nat → Int32) := if inB sh 0 3 then (((onM g sh (cN (g 0))), (upd s 14 0))) else ((0, (upd s 14 1)))
set_option maxHeartbeats 4000000 in
set_option maxRecDepth 100000 in
theorem c_X11_shelfOf (G : FG) (hL : FL G) (l : Launch) (ω : FWd) (m : Nat) (s g : Nat → Int32) (m0 : ω.2 m = some (.inr (13, [.ref (m + 1), .ref (m + 2), .ref (m + 3), .int (s 3), .ref (m + 4), .int (s 5), .ref (m + 5), .int (s 7), .int (s 8), .int (s 9), .int (s 10), .int (s 11), .ref (m + 6), .int (s 13), .int (s 14), .ref (m + 7), .int (s 16), .int (s 17), .ref (m + 8)]))) (m1 : ω.2 (m + 1) = some (.inl (G.2.1 0, 324, .inl g))) (hM : WFM g) (sh : Int32) : FMet G l yX11_shelfOf wsX11_shelfOf ({ frames := 2, cells := 0, slots := 0, locals := 42 } : Room) [.ref m, .int sh] ω (fun vv9 τ9 => vv9 = some (.int ((shelfM s g sh).1)) ∧ τ9.1 = ω.1 ∧ τ9.2 m = some (.inr (13, [.ref (m + 1), .ref (m + 2), .ref (m + 3), .int (((shelfM s g sh).2) 3), .ref (m + 4), .int (((shelfM s g sh).2) 5), .ref (m + 5), .int (((shelfM s g sh).2) 7), .int (((shelfM s g sh).2) 8), .int (((shelfM s g sh).2) 9), .int (((shelfM s g sh).2) 10), .int (((shelfM s g sh).2) 11), .ref (m + 6), .int (((shelfM s g sh).2) 13), .int (((shelfM s g sh).2) 14), .ref (m + 7), .int (((shelfM s g sh).2) 16), .int (((shelfM s g sh).2) 17), .ref (m + 8)])) ∧ ∀ q : Nat, ¬ q = m → τ9.2 q = ω.2 q) 0 0 := by
  refine fw_ofW (cc := cX11_shelfOf) (maxL := 2) (ret := (some .int)) (by decide) rfl (Nat.le_of_ble_eq_true rfl) ?_
  intro pP eE sS mI ar9 bl9 meth cD ls hx hb hr hlocks hml hts hown hnm hW hR hl
  have hK := hL.K hW
  have hS : va_S (fwA G) sS.heap sS.heap [] := va_S.rf
  have hl : lv_has ls 2 [(0, .ref m), (1, .int sh)] := hl
  obtain ⟨c, hc8, hc, hcc⟩ := okN_of hM.1
  obtain ⟨cc, hd5, hd, hdd⟩ := okN_of hM.2.1
  refine lv_iload_n hx hb dX11_shelfOf_0 rfl (lv_at hl 1 rfl) ?_
  refine fw_call (va_runS (As := [.int sh]) (rest := []) ⟨hx, hb, hml, hown, hts⟩ (c_X11_isShelf G hL l ω sh) (va_cwS 1 hts gX11_shelfOf_X11_isShelf rfl rfl rfl (by decide +kernel) ⟨Nat.le_of_ble_eq_true rfl, Nat.le_of_ble_eq_true rfl⟩) (fw_preS hW hR) rfl rfl hl.1 rfl (lv_room (Nat.le_of_ble_eq_true rfl)) dX11_shelfOf_1 ⟨Nat.le_of_ble_eq_true rfl, Nat.le_of_ble_eq_true rfl⟩) hS (fun v_1 ω_2 H locs hq_3 hR hS => ?_)
  obtain ⟨rfl, hq_3⟩ := hq_3
  rw [hq_3] at hR
  refine W.eq (g2 := F0 mI 4 ls [.int (bz (inB sh 0 3))]) rfl ?_
  refine lv_if_eq (tgt := 19) hx hb dX11_shelfOf_4 (by decide) (fun c_4 => ?_) (fun c_4 => ?_)
  · skip
    have c_4 := bz_eq c_4
    refine lv_aload_n hx hb dX11_shelfOf_19 rfl (lv_at hl 0 rfl) ?_
    refine lv_iconst (v := 1) hx hb dX11_shelfOf_20 (by decide) ?_
    refine fw_call (va_runV (As := [.int 1]) (rest := []) ⟨hx, hb, hml, hown, hts⟩ (c_X11_fails G hL l ω m s g m0 m1 1) (cwV 1 hts gX11_shelfOf_X11_fails rfl rfl rfl (by decide +kernel) ⟨Nat.le_of_ble_eq_true rfl, Nat.le_of_ble_eq_true rfl⟩) (fw_preV hW hK hR m0 rfl) rfl rfl hl.1 rfl (lv_room (Nat.le_of_ble_eq_true rfl)) dX11_shelfOf_21 ⟨Nat.le_of_ble_eq_true rfl, Nat.le_of_ble_eq_true rfl⟩) hS (fun v_5 ω_6 H locs hq_7 hR hS => ?_)
    obtain ⟨rfl, z_8, f_10, fr_9⟩ := hq_7
    refine W.eq (g2 := F0 mI 24 ls [.int 0]) rfl ?_
    have fr_11 : ∀ q : Nat, ¬ q = m → ω_6.2 q = ω.2 q := by
      intro q h0
      rw [fr_9 q (by omega)]
    have z_12 : ω_6.1 = ω.1 := by rw [z_8]
    have hr_13 : shelfM s g sh = ((0, (upd s 14 1)) : Int32 × (Nat → Int32)) := by
      simp only [shelfM, hcc, hdd]
      rw [if_neg c_4]
    refine fw_iret hx hb hr hlocks hR hS dX11_shelfOf_24 ?_
    rw [hr_13]
    exact ⟨rfl, z_12, f_10, fr_11⟩
  · skip
    have c_4 := bz_ne c_4
    refine lv_aload_n hx hb dX11_shelfOf_7 rfl (lv_at hl 0 rfl) ?_
    refine lv_aload_n hx hb dX11_shelfOf_8 rfl (lv_at hl 0 rfl) ?_
    refine lv_iload_n hx hb dX11_shelfOf_9 rfl (lv_at hl 1 rfl) ?_
    refine fw_call (va_runV (As := [.int sh]) (rest := [.ref m]) ⟨hx, hb, hml, hown, hts⟩ (c_X11_boxesOn G hL l ω m s g m0 m1 sh c hc hc8) (cwV 1 hts gX11_shelfOf_X11_boxesOn rfl rfl rfl (by decide +kernel) ⟨Nat.le_of_ble_eq_true rfl, Nat.le_of_ble_eq_true rfl⟩) (fw_preV hW hK hR m0 rfl) rfl rfl hl.1 rfl (lv_room (Nat.le_of_ble_eq_true rfl)) dX11_shelfOf_10 ⟨Nat.le_of_ble_eq_true rfl, Nat.le_of_ble_eq_true rfl⟩) hS (fun v_14 ω_15 H locs hq_16 hR hS => ?_)
    obtain ⟨rfl, hq_16⟩ := hq_16
    rw [hq_16] at hR
    refine W.eq (g2 := F0 mI 13 ls [.int (onM g sh c), .ref m]) rfl ?_
    refine fw_call (va_runV (As := [.int (onM g sh c)]) (rest := []) ⟨hx, hb, hml, hown, hts⟩ (c_X11_done G hL l ω m s g m0 m1 (onM g sh c)) (cwV 1 hts gX11_shelfOf_X11_done rfl rfl rfl (by decide +kernel) ⟨Nat.le_of_ble_eq_true rfl, Nat.le_of_ble_eq_true rfl⟩) (fw_preV hW hK hR m0 rfl) rfl rfl hl.1 rfl (lv_room (Nat.le_of_ble_eq_true rfl)) dX11_shelfOf_13 ⟨Nat.le_of_ble_eq_true rfl, Nat.le_of_ble_eq_true rfl⟩) hS (fun v_17 ω_18 H locs hq_19 hR hS => ?_)
    obtain ⟨rfl, z_20, f_22, fr_21⟩ := hq_19
    refine W.eq (g2 := F0 mI 16 ls [.int (onM g sh c)]) rfl ?_
    refine lv_goto (tgt := 24) hx hb dX11_shelfOf_16 (by decide) ?_
    have fr_23 : ∀ q : Nat, ¬ q = m → ω_18.2 q = ω.2 q := by
      intro q h0
      rw [fr_21 q (by omega)]
    have z_24 : ω_18.1 = ω.1 := by rw [z_20]
    have hr_25 : shelfM s g sh = (((onM g sh c), (upd s 14 0)) : Int32 × (Nat → Int32)) := by
      simp only [shelfM, hcc, hdd]
      rw [if_pos c_4]
    refine fw_iret hx hb hr hlocks hR hS dX11_shelfOf_24 ?_
    rw [hr_25]
    exact ⟨rfl, z_24, f_22, fr_23⟩
def keyM (s g nd : Nat → Int32) (ms : Int32) (j : Nat) : Int32 × (Nat → Int32) := if ms = 0 then ((g (18 + j), nd)) else (if ms = 1 then ((g (26 + j), nd)) else (if ms = 2 then ((sumM g j (1 <<< (g (18 + j) &&& 31) - 1) (cN (g (18 + j))), (needM g j (1 <<< (g (18 + j) &&& 31) - 1) (clrJ nd 6) (cN (g (18 + j)))))) else ((bitsJ (g (50 + j)) 8, nd))))
set_option maxHeartbeats 4000000 in
set_option maxRecDepth 100000 in
theorem c_X11_keyOf (G : FG) (hL : FL G) (l : Launch) (ω : FWd) (m : Nat) (s g : Nat → Int32) (m0 : ω.2 m = some (.inr (13, [.ref (m + 1), .ref (m + 2), .ref (m + 3), .int (s 3), .ref (m + 4), .int (s 5), .ref (m + 5), .int (s 7), .int (s 8), .int (s 9), .int (s 10), .int (s 11), .ref (m + 6), .int (s 13), .int (s 14), .ref (m + 7), .int (s 16), .int (s 17), .ref (m + 8)]))) (m1 : ω.2 (m + 1) = some (.inl (G.2.1 0, 324, .inl g))) (nd : Nat → Int32) (m7 : ω.2 (m + 7) = some (.inl (G.2.1 0, 6, .inl nd))) (hM : WFM g) (ms : Int32) (j : Nat) (hjc : j < cN (g 0)) : FMet G l yX11_keyOf wsX11_keyOf ({ frames := 2, cells := 0, slots := 0, locals := 48 } : Room) [.ref m, .int ms, .int (nI j)] ω (fun vv9 τ9 => vv9 = some (.int ((keyM s g nd ms j).1)) ∧ τ9.1 = ω.1 ∧ τ9.2 (m + 7) = some (.inl (G.2.1 0, 6, .inl ((keyM s g nd ms j).2))) ∧ ∀ q : Nat, ¬ q = (m + 7) → τ9.2 q = ω.2 q) 0 0 := by
  refine fw_ofW (cc := cX11_keyOf) (maxL := 3) (ret := (some .int)) (by decide) rfl (Nat.le_of_ble_eq_true rfl) ?_
  intro pP eE sS mI ar9 bl9 meth cD ls hx hb hr hlocks hml hts hown hnm hW hR hl
  have hK := hL.K hW
  have hS : va_S (fwA G) sS.heap sS.heap [] := va_S.rf
  have hin11 : ∀ w ∈ u_ws RX11 TX11 19, w ∈ wsX11_keyOf := by decide +kernel
  have hl : lv_has ls 3 [(0, .ref m), (1, .int ms), (2, .int (nI j))] := hl
  obtain ⟨c, hc8, hc, hcc⟩ := okN_of hM.1
  obtain ⟨cc, hd5, hd, hdd⟩ := okN_of hM.2.1
  have hj2 : j < c := by rw [← hcc]; exact hjc
  obtain ⟨n, hn8, hn, hnn⟩ := okN_of (hM.2.2 j (by rw [hcc]; exact hj2)).1
  obtain ⟨f, hf3, hff, hfn⟩ := okN_of (hM.2.2 j (by rw [hcc]; exact hj2)).2.1
  have hkd : ∀ q, q < n → g (68 + 8 * j + q) = nI (cN (g (68 + 8 * j + q))) ∧ cN (g (68 + 8 * j + q)) < 6 := fun q hq => by have h9 := (hM.2.2 j (by rw [hcc]; exact hj2)).2.2 q (by rw [hnn]; exact hq); exact ⟨h9.1, Nat.lt_succ_of_le h9.2⟩
  refine lv_iload_n hx hb dX11_keyOf_0 rfl (lv_at hl 1 rfl) ?_
  refine lv_if_ne (tgt := 16) hx hb dX11_keyOf_1 (by decide) (fun c_1 => ?_) (fun c_1 => ?_)
  · skip
    refine lv_iload_n hx hb dX11_keyOf_16 rfl (lv_at hl 1 rfl) ?_
    refine lv_iconst (v := 1) hx hb dX11_keyOf_17 (by decide) ?_
    refine lv_icmp_ne (tgt := 33) hx hb dX11_keyOf_18 (by decide) (fun c_2 => ?_) (fun c_2 => ?_)
    · skip
      refine lv_iload_n hx hb dX11_keyOf_33 rfl (lv_at hl 1 rfl) ?_
      refine lv_iconst (v := 2) hx hb dX11_keyOf_34 (by decide) ?_
      refine lv_icmp_ne (tgt := 51) hx hb dX11_keyOf_35 (by decide) (fun c_3 => ?_) (fun c_3 => ?_)
      · skip
        refine lv_aload_n hx hb dX11_keyOf_51 rfl (lv_at hl 0 rfl) ?_
        refine fw_get (v := .ref (m + 1)) (C := RX11) (T := TX11) (N := 19) hx hb hts hin11 hown hK hR m0 rfl 0 (by decide) (hts (.fieldLink RX11 7 "UnreadLeafletsModel" "g" "[I") (by decide +kernel)) rfl dX11_keyOf_52 ?_
        refine lv_bipush (v := 50) hx hb dX11_keyOf_55 (by decide) ?_
        refine lv_iload_n hx hb dX11_keyOf_57 rfl (lv_at hl 2 rfl) ?_
        refine lv_iadd hx hb dX11_keyOf_58 ?_
        have hi_4 : 50 + (nI j) = nI (50 + j) := by
          show (nI 50) + (nI j) = _
          simp only [pk_mul, nI_add, Nat.add_assoc, hc, hd, hn, hff]
        refine W.eq (g2 := F0 mI 59 ls [.int (nI (50 + j)), .ref (m + 1)]) (by rw [hi_4]) ?_
        refine fw_iald hx hb hK hR m1 (vp_in_nI (by omega) (by omega)) dX11_keyOf_59 ?_
        refine W.eq (g2 := F0 mI 60 ls [.int (g (50 + j))]) (by rw [nI_clamp (by omega)]) ?_
        refine fw_call (va_runS (As := [.int (g (50 + j))]) (rest := []) ⟨hx, hb, hml, hown, hts⟩ (c_X11_bits G hL l ω (g (50 + j))) (va_cwS 1 hts gX11_keyOf_X11_bits rfl rfl rfl (by decide +kernel) ⟨Nat.le_of_ble_eq_true rfl, Nat.le_of_ble_eq_true rfl⟩) (fw_preS hW hR) rfl rfl hl.1 rfl (lv_room (Nat.le_of_ble_eq_true rfl)) dX11_keyOf_60 ⟨Nat.le_of_ble_eq_true rfl, Nat.le_of_ble_eq_true rfl⟩) hS (fun v_5 ω_6 H locs hq_7 hR hS => ?_)
        obtain ⟨rfl, hq_7⟩ := hq_7
        rw [hq_7] at hR
        refine W.eq (g2 := F0 mI 63 ls [.int (bitsJ (g (50 + j)) 8)]) rfl ?_
        have fr_8 : ∀ q : Nat, ¬ q = (m + 7) → ω.2 q = ω.2 q := by
          intro q h0
          rfl
        have z_9 : ω.1 = ω.1 := rfl
        have hr_10 : keyM s g nd ms j = ((bitsJ (g (50 + j)) 8, nd) : Int32 × (Nat → Int32)) := by
          simp only [keyM, hcc, hdd, hnn, hfn]
          rw [if_neg c_1, if_neg c_2, if_neg c_3]
        refine fw_iret hx hb hr hlocks hR hS dX11_keyOf_63 ?_
        rw [hr_10]
        exact ⟨rfl, z_9, m7, fr_8⟩
      · skip
        refine lv_aload_n hx hb dX11_keyOf_38 rfl (lv_at hl 0 rfl) ?_
        refine lv_iload_n hx hb dX11_keyOf_39 rfl (lv_at hl 2 rfl) ?_
        refine lv_aload_n hx hb dX11_keyOf_40 rfl (lv_at hl 0 rfl) ?_
        refine lv_iload_n hx hb dX11_keyOf_41 rfl (lv_at hl 2 rfl) ?_
        refine fw_call (va_runV (As := [.int (nI j)]) (rest := [.int (nI j), .ref m]) ⟨hx, hb, hml, hown, hts⟩ (c_X11_allSteps G hL l ω m s g m0 m1 j (by omega)) (cwV 1 hts gX11_keyOf_X11_allSteps rfl rfl rfl (by decide +kernel) ⟨Nat.le_of_ble_eq_true rfl, Nat.le_of_ble_eq_true rfl⟩) (fw_preV hW hK hR m0 rfl) rfl rfl hl.1 rfl (lv_room (Nat.le_of_ble_eq_true rfl)) dX11_keyOf_42 ⟨Nat.le_of_ble_eq_true rfl, Nat.le_of_ble_eq_true rfl⟩) hS (fun v_11 ω_12 H locs hq_13 hR hS => ?_)
        obtain ⟨rfl, hq_13⟩ := hq_13
        rw [hq_13] at hR
        refine W.eq (g2 := F0 mI 45 ls [.int (1 <<< (g (18 + j) &&& 31) - 1), .int (nI j), .ref m]) rfl ?_
        refine fw_call (va_runV (As := [.int (nI j), .int (1 <<< (g (18 + j) &&& 31) - 1)]) (rest := []) ⟨hx, hb, hml, hown, hts⟩ (c_X11_needsFor G hL l ω m s g m0 m1 nd m7 j (by omega) (1 <<< (g (18 + j) &&& 31) - 1) n hn hn8 hkd) (cwV 2 hts gX11_keyOf_X11_needsFor rfl rfl rfl (by decide +kernel) ⟨Nat.le_of_ble_eq_true rfl, Nat.le_of_ble_eq_true rfl⟩) (fw_preV hW hK hR m0 rfl) rfl rfl hl.1 rfl (lv_room (Nat.le_of_ble_eq_true rfl)) dX11_keyOf_45 ⟨Nat.le_of_ble_eq_true rfl, Nat.le_of_ble_eq_true rfl⟩) hS (fun v_14 ω_15 H locs hq_16 hR hS => ?_)
        obtain ⟨rfl, z_17, f_19, fr_18⟩ := hq_16
        refine W.eq (g2 := F0 mI 48 ls [.int (sumM g j (1 <<< (g (18 + j) &&& 31) - 1) n)]) rfl ?_
        refine lv_goto (tgt := 63) hx hb dX11_keyOf_48 (by decide) ?_
        have fr_20 : ∀ q : Nat, ¬ q = (m + 7) → ω_15.2 q = ω.2 q := by
          intro q h0
          rw [fr_18 q (by omega)]
        have z_21 : ω_15.1 = ω.1 := by rw [z_17]
        have hr_22 : keyM s g nd ms j = ((sumM g j (1 <<< (g (18 + j) &&& 31) - 1) n, (needM g j (1 <<< (g (18 + j) &&& 31) - 1) (clrJ nd 6) n)) : Int32 × (Nat → Int32)) := by
          simp only [keyM, hcc, hdd, hnn, hfn]
          rw [if_neg c_1, if_neg c_2, if_pos c_3]
        refine fw_iret hx hb hr hlocks hR hS dX11_keyOf_63 ?_
        rw [hr_22]
        exact ⟨rfl, z_21, f_19, fr_20⟩
    · skip
      refine lv_aload_n hx hb dX11_keyOf_21 rfl (lv_at hl 0 rfl) ?_
      refine fw_get (v := .ref (m + 1)) (C := RX11) (T := TX11) (N := 19) hx hb hts hin11 hown hK hR m0 rfl 0 (by decide) (hts (.fieldLink RX11 7 "UnreadLeafletsModel" "g" "[I") (by decide +kernel)) rfl dX11_keyOf_22 ?_
      refine lv_bipush (v := 26) hx hb dX11_keyOf_25 (by decide) ?_
      refine lv_iload_n hx hb dX11_keyOf_27 rfl (lv_at hl 2 rfl) ?_
      refine lv_iadd hx hb dX11_keyOf_28 ?_
      have hi_23 : 26 + (nI j) = nI (26 + j) := by
        show (nI 26) + (nI j) = _
        simp only [pk_mul, nI_add, Nat.add_assoc, hc, hd, hn, hff]
      refine W.eq (g2 := F0 mI 29 ls [.int (nI (26 + j)), .ref (m + 1)]) (by rw [hi_23]) ?_
      refine fw_iald hx hb hK hR m1 (vp_in_nI (by omega) (by omega)) dX11_keyOf_29 ?_
      refine W.eq (g2 := F0 mI 30 ls [.int (g (26 + j))]) (by rw [nI_clamp (by omega)]) ?_
      refine lv_goto (tgt := 63) hx hb dX11_keyOf_30 (by decide) ?_
      have fr_24 : ∀ q : Nat, ¬ q = (m + 7) → ω.2 q = ω.2 q := by
        intro q h0
        rfl
      have z_25 : ω.1 = ω.1 := rfl
      have hr_26 : keyM s g nd ms j = ((g (26 + j), nd) : Int32 × (Nat → Int32)) := by
        simp only [keyM, hcc, hdd, hnn, hfn]
        rw [if_neg c_1, if_pos c_2]
      refine fw_iret hx hb hr hlocks hR hS dX11_keyOf_63 ?_
      rw [hr_26]
      exact ⟨rfl, z_25, m7, fr_24⟩
  · skip
    refine lv_aload_n hx hb dX11_keyOf_4 rfl (lv_at hl 0 rfl) ?_
    refine fw_get (v := .ref (m + 1)) (C := RX11) (T := TX11) (N := 19) hx hb hts hin11 hown hK hR m0 rfl 0 (by decide) (hts (.fieldLink RX11 7 "UnreadLeafletsModel" "g" "[I") (by decide +kernel)) rfl dX11_keyOf_5 ?_
    refine lv_bipush (v := 18) hx hb dX11_keyOf_8 (by decide) ?_
    refine lv_iload_n hx hb dX11_keyOf_10 rfl (lv_at hl 2 rfl) ?_
    refine lv_iadd hx hb dX11_keyOf_11 ?_
    have hi_27 : 18 + (nI j) = nI (18 + j) := by
      show (nI 18) + (nI j) = _
      simp only [pk_mul, nI_add, Nat.add_assoc, hc, hd, hn, hff]
    refine W.eq (g2 := F0 mI 12 ls [.int (nI (18 + j)), .ref (m + 1)]) (by rw [hi_27]) ?_
    refine fw_iald hx hb hK hR m1 (vp_in_nI (by omega) (by omega)) dX11_keyOf_12 ?_
    refine W.eq (g2 := F0 mI 13 ls [.int (g (18 + j))]) (by rw [nI_clamp (by omega)]) ?_
    refine lv_goto (tgt := 63) hx hb dX11_keyOf_13 (by decide) ?_
    have fr_28 : ∀ q : Nat, ¬ q = (m + 7) → ω.2 q = ω.2 q := by
      intro q h0
      rfl
    have z_29 : ω.1 = ω.1 := rfl
    have hr_30 : keyM s g nd ms j = ((g (18 + j), nd) : Int32 × (Nat → Int32)) := by
      simp only [keyM, hcc, hdd, hnn, hfn]
      rw [if_pos c_1]
    refine fw_iret hx hb hr hlocks hR hS dX11_keyOf_63 ?_
    rw [hr_30]
    exact ⟨rfl, z_29, m7, fr_28⟩
def evenM (s g : Nat → Int32) : Int32 × (Nat → Int32) := (1, (upd s 14 0))
set_option maxHeartbeats 4000000 in
set_option maxRecDepth 100000 in
theorem c_X11_isEven (G : FG) (hL : FL G) (l : Launch) (ω : FWd) (m : Nat) (s g : Nat → Int32) (m0 : ω.2 m = some (.inr (13, [.ref (m + 1), .ref (m + 2), .ref (m + 3), .int (s 3), .ref (m + 4), .int (s 5), .ref (m + 5), .int (s 7), .int (s 8), .int (s 9), .int (s 10), .int (s 11), .ref (m + 6), .int (s 13), .int (s 14), .ref (m + 7), .int (s 16), .int (s 17), .ref (m + 8)]))) (m1 : ω.2 (m + 1) = some (.inl (G.2.1 0, 324, .inl g))) : FMet G l yX11_isEven wsX11_isEven ({ frames := 0, cells := 0, slots := 0, locals := 0 } : Room) [.ref m] ω (fun vv9 τ9 => vv9 = some (.int ((evenM s g).1)) ∧ τ9.1 = ω.1 ∧ τ9.2 m = some (.inr (13, [.ref (m + 1), .ref (m + 2), .ref (m + 3), .int (((evenM s g).2) 3), .ref (m + 4), .int (((evenM s g).2) 5), .ref (m + 5), .int (((evenM s g).2) 7), .int (((evenM s g).2) 8), .int (((evenM s g).2) 9), .int (((evenM s g).2) 10), .int (((evenM s g).2) 11), .ref (m + 6), .int (((evenM s g).2) 13), .int (((evenM s g).2) 14), .ref (m + 7), .int (((evenM s g).2) 16), .int (((evenM s g).2) 17), .ref (m + 8)])) ∧ ∀ q : Nat, ¬ q = m → τ9.2 q = ω.2 q) 0 0 := by
  refine fw_ofW (cc := cX11_isEven) (maxL := 1) (ret := (some .boolean)) (by decide) rfl (Nat.le_of_ble_eq_true rfl) ?_
  intro pP eE sS mI ar9 bl9 meth cD ls hx hb hr hlocks hml hts hown hnm hW hR hl
  have hK := hL.K hW
  have hS : va_S (fwA G) sS.heap sS.heap [] := va_S.rf
  have hin11 : ∀ w ∈ u_ws RX11 TX11 19, w ∈ wsX11_isEven := by decide +kernel
  have hl : lv_has ls 1 [(0, .ref m)] := hl
  refine lv_aload_n hx hb dX11_isEven_0 rfl (lv_at hl 0 rfl) ?_
  refine lv_iconst (v := 0) hx hb dX11_isEven_1 (by decide) ?_
  refine fw_put (v := .int 0) (C := RX11) (T := TX11) (N := 19) hx hb hts hin11 tyX11 tyX11_ok nmX11 hown hK hR hS m0 rfl 14 (by decide) (hts (.fieldLink RX11 39 "UnreadLeafletsModel" "thrown" "I") (by decide +kernel)) rfl rfl rfl (Nat.le_of_ble_eq_true rfl) dX11_isEven_2 (fun H locs hR hS => ?_)
  obtain ⟨ω_1, hw_2⟩ : ∃ τ : FWd, τ = (ω.1, va_up ω.2 m (some (.inr (13, [.ref (m + 1), .ref (m + 2), .ref (m + 3), .int ((upd s 14 0) 3), .ref (m + 4), .int ((upd s 14 0) 5), .ref (m + 5), .int ((upd s 14 0) 7), .int ((upd s 14 0) 8), .int ((upd s 14 0) 9), .int ((upd s 14 0) 10), .int ((upd s 14 0) 11), .ref (m + 6), .int ((upd s 14 0) 13), .int ((upd s 14 0) 14), .ref (m + 7), .int ((upd s 14 0) 16), .int ((upd s 14 0) 17), .ref (m + 8)])))) := ⟨_, rfl⟩
  have hR : fR G ω_1 H := by rw [hw_2]; exact hR
  have f_3 : ω_1.2 m = some (.inr (13, [.ref (m + 1), .ref (m + 2), .ref (m + 3), .int ((upd s 14 0) 3), .ref (m + 4), .int ((upd s 14 0) 5), .ref (m + 5), .int ((upd s 14 0) 7), .int ((upd s 14 0) 8), .int ((upd s 14 0) 9), .int ((upd s 14 0) 10), .int ((upd s 14 0) 11), .ref (m + 6), .int ((upd s 14 0) 13), .int ((upd s 14 0) 14), .ref (m + 7), .int ((upd s 14 0) 16), .int ((upd s 14 0) 17), .ref (m + 8)])) := by rw [hw_2]; exact va_up_at
  have fr_4 : ∀ q : Nat, ¬ q = m → ω_1.2 q = ω.2 q := fun q hq => by rw [hw_2]; exact va_up_off hq
  have z_5 : ω_1.1 = ω.1 := by rw [hw_2]
  refine lv_iconst (v := 1) hx hb dX11_isEven_5 (by decide) ?_
  have fr_6 : ∀ q : Nat, ¬ q = m → ω_1.2 q = ω.2 q := by
    intro q h0
    rw [fr_4 q (by omega)]
  have z_7 : ω_1.1 = ω.1 := by rw [z_5]
  have hr_8 : evenM s g = ((1, (upd s 14 0)) : Int32 × (Nat → Int32)) := by
    rfl
  refine fw_zret hx hb hr rfl hlocks hR hS dX11_isEven_6 ?_
  rw [hr_8]
  exact ⟨rfl, z_7, f_3, fr_6⟩
def fposM (s g : Nat → Int32) : Int32 × (Nat → Int32) := ((s 8), (upd s 14 0))
set_option maxHeartbeats 4000000 in
set_option maxRecDepth 100000 in
theorem c_X11_faultPosition (G : FG) (hL : FL G) (l : Launch) (ω : FWd) (m : Nat) (s g : Nat → Int32) (m0 : ω.2 m = some (.inr (13, [.ref (m + 1), .ref (m + 2), .ref (m + 3), .int (s 3), .ref (m + 4), .int (s 5), .ref (m + 5), .int (s 7), .int (s 8), .int (s 9), .int (s 10), .int (s 11), .ref (m + 6), .int (s 13), .int (s 14), .ref (m + 7), .int (s 16), .int (s 17), .ref (m + 8)]))) (m1 : ω.2 (m + 1) = some (.inl (G.2.1 0, 324, .inl g))) : FMet G l yX11_faultPosition wsX11_faultPosition ({ frames := 1, cells := 0, slots := 0, locals := 21 } : Room) [.ref m] ω (fun vv9 τ9 => vv9 = some (.int ((fposM s g).1)) ∧ τ9.1 = ω.1 ∧ τ9.2 m = some (.inr (13, [.ref (m + 1), .ref (m + 2), .ref (m + 3), .int (((fposM s g).2) 3), .ref (m + 4), .int (((fposM s g).2) 5), .ref (m + 5), .int (((fposM s g).2) 7), .int (((fposM s g).2) 8), .int (((fposM s g).2) 9), .int (((fposM s g).2) 10), .int (((fposM s g).2) 11), .ref (m + 6), .int (((fposM s g).2) 13), .int (((fposM s g).2) 14), .ref (m + 7), .int (((fposM s g).2) 16), .int (((fposM s g).2) 17), .ref (m + 8)])) ∧ ∀ q : Nat, ¬ q = m → τ9.2 q = ω.2 q) 0 0 := by
  refine fw_ofW (cc := cX11_faultPosition) (maxL := 1) (ret := (some .int)) (by decide) rfl (Nat.le_of_ble_eq_true rfl) ?_
  intro pP eE sS mI ar9 bl9 meth cD ls hx hb hr hlocks hml hts hown hnm hW hR hl
  have hK := hL.K hW
  have hS : va_S (fwA G) sS.heap sS.heap [] := va_S.rf
  have hin11 : ∀ w ∈ u_ws RX11 TX11 19, w ∈ wsX11_faultPosition := by decide +kernel
  have hl : lv_has ls 1 [(0, .ref m)] := hl
  refine lv_aload_n hx hb dX11_faultPosition_0 rfl (lv_at hl 0 rfl) ?_
  refine lv_aload_n hx hb dX11_faultPosition_1 rfl (lv_at hl 0 rfl) ?_
  refine fw_get (v := .int (s 8)) (C := RX11) (T := TX11) (N := 19) hx hb hts hin11 hown hK hR m0 rfl 8 (by decide) (hts (.fieldLink RX11 26 "UnreadLeafletsModel" "faultAt" "I") (by decide +kernel)) rfl dX11_faultPosition_2 ?_
  refine fw_call (va_runV (As := [.int (s 8)]) (rest := []) ⟨hx, hb, hml, hown, hts⟩ (c_X11_done G hL l ω m s g m0 m1 (s 8)) (cwV 1 hts gX11_faultPosition_X11_done rfl rfl rfl (by decide +kernel) ⟨Nat.le_of_ble_eq_true rfl, Nat.le_of_ble_eq_true rfl⟩) (fw_preV hW hK hR m0 rfl) rfl rfl hl.1 rfl (lv_room (Nat.le_of_ble_eq_true rfl)) dX11_faultPosition_5 ⟨Nat.le_of_ble_eq_true rfl, Nat.le_of_ble_eq_true rfl⟩) hS (fun v_1 ω_2 H locs hq_3 hR hS => ?_)
  obtain ⟨rfl, z_4, f_6, fr_5⟩ := hq_3
  refine W.eq (g2 := F0 mI 8 ls [.int (s 8)]) rfl ?_
  have fr_7 : ∀ q : Nat, ¬ q = m → ω_2.2 q = ω.2 q := by
    intro q h0
    rw [fr_5 q (by omega)]
  have z_8 : ω_2.1 = ω.1 := by rw [z_4]
  have hr_9 : fposM s g = (((s 8), (upd s 14 0)) : Int32 × (Nat → Int32)) := by
    rfl
  refine fw_iret hx hb hr hlocks hR hS dX11_faultPosition_8 ?_
  rw [hr_9]
  exact ⟨rfl, z_8, f_6, fr_7⟩
def reasM (s g : Nat → Int32) (wh : Int32) : Int32 × (Nat → Int32) := if inB wh 0 2 then (if (s 9) = 0 then ((0, (upd s 14 2))) else (if wh = 0 then (((s 9), (upd s 14 0))) else (if wh = 1 then (((s 10), (upd s 14 0))) else (((s 11), (upd s 14 0)))))) else ((0, (upd s 14 1)))
set_option maxHeartbeats 4000000 in
set_option maxRecDepth 100000 in
theorem c_X11_reason (G : FG) (hL : FL G) (l : Launch) (ω : FWd) (m : Nat) (s g : Nat → Int32) (m0 : ω.2 m = some (.inr (13, [.ref (m + 1), .ref (m + 2), .ref (m + 3), .int (s 3), .ref (m + 4), .int (s 5), .ref (m + 5), .int (s 7), .int (s 8), .int (s 9), .int (s 10), .int (s 11), .ref (m + 6), .int (s 13), .int (s 14), .ref (m + 7), .int (s 16), .int (s 17), .ref (m + 8)]))) (m1 : ω.2 (m + 1) = some (.inl (G.2.1 0, 324, .inl g))) (wh : Int32) : FMet G l yX11_reason wsX11_reason ({ frames := 1, cells := 0, slots := 0, locals := 22 } : Room) [.ref m, .int wh] ω (fun vv9 τ9 => vv9 = some (.int ((reasM s g wh).1)) ∧ τ9.1 = ω.1 ∧ τ9.2 m = some (.inr (13, [.ref (m + 1), .ref (m + 2), .ref (m + 3), .int (((reasM s g wh).2) 3), .ref (m + 4), .int (((reasM s g wh).2) 5), .ref (m + 5), .int (((reasM s g wh).2) 7), .int (((reasM s g wh).2) 8), .int (((reasM s g wh).2) 9), .int (((reasM s g wh).2) 10), .int (((reasM s g wh).2) 11), .ref (m + 6), .int (((reasM s g wh).2) 13), .int (((reasM s g wh).2) 14), .ref (m + 7), .int (((reasM s g wh).2) 16), .int (((reasM s g wh).2) 17), .ref (m + 8)])) ∧ ∀ q : Nat, ¬ q = m → τ9.2 q = ω.2 q) 0 0 := by
  refine fw_ofW (cc := cX11_reason) (maxL := 2) (ret := (some .int)) (by decide) rfl (Nat.le_of_ble_eq_true rfl) ?_
  intro pP eE sS mI ar9 bl9 meth cD ls hx hb hr hlocks hml hts hown hnm hW hR hl
  have hK := hL.K hW
  have hS : va_S (fwA G) sS.heap sS.heap [] := va_S.rf
  have hin11 : ∀ w ∈ u_ws RX11 TX11 19, w ∈ wsX11_reason := by decide +kernel
  have hl : lv_has ls 2 [(0, .ref m), (1, .int wh)] := hl
  refine lv_iload_n hx hb dX11_reason_0 rfl (lv_at hl 1 rfl) ?_
  refine lv_iconst (v := 0) hx hb dX11_reason_1 (by decide) ?_
  refine lv_iconst (v := 2) hx hb dX11_reason_2 (by decide) ?_
  refine fw_call (va_runS (As := [.int wh, .int 0, .int 2]) (rest := []) ⟨hx, hb, hml, hown, hts⟩ (c_X11_in G hL l ω wh 0 2) (va_cwS 3 hts gX11_reason_X11_in rfl rfl rfl (by decide +kernel) ⟨Nat.le_of_ble_eq_true rfl, Nat.le_of_ble_eq_true rfl⟩) (fw_preS hW hR) rfl rfl hl.1 rfl (lv_room (Nat.le_of_ble_eq_true rfl)) dX11_reason_3 ⟨Nat.le_of_ble_eq_true rfl, Nat.le_of_ble_eq_true rfl⟩) hS (fun v_1 ω_2 H locs hq_3 hR hS => ?_)
  obtain ⟨rfl, hq_3⟩ := hq_3
  rw [hq_3] at hR
  refine W.eq (g2 := F0 mI 6 ls [.int (bz (inB wh 0 2))]) rfl ?_
  refine lv_if_ne (tgt := 15) hx hb dX11_reason_6 (by decide) (fun c_4 => ?_) (fun c_4 => ?_)
  · skip
    have c_4 := bz_ne c_4
    refine lv_aload_n hx hb dX11_reason_15 rfl (lv_at hl 0 rfl) ?_
    refine fw_get (v := .int (s 9)) (C := RX11) (T := TX11) (N := 19) hx hb hts hin11 hown hK hR m0 rfl 9 (by decide) (hts (.fieldLink RX11 42 "UnreadLeafletsModel" "why0" "I") (by decide +kernel)) rfl dX11_reason_16 ?_
    refine lv_if_ne (tgt := 28) hx hb dX11_reason_19 (by decide) (fun c_5 => ?_) (fun c_5 => ?_)
    · skip
      refine lv_aload_n hx hb dX11_reason_28 rfl (lv_at hl 0 rfl) ?_
      refine lv_iload_n hx hb dX11_reason_29 rfl (lv_at hl 1 rfl) ?_
      refine lv_if_ne (tgt := 40) hx hb dX11_reason_30 (by decide) (fun c_6 => ?_) (fun c_6 => ?_)
      · skip
        refine lv_iload_n hx hb dX11_reason_40 rfl (lv_at hl 1 rfl) ?_
        refine lv_iconst (v := 1) hx hb dX11_reason_41 (by decide) ?_
        refine lv_icmp_ne (tgt := 52) hx hb dX11_reason_42 (by decide) (fun c_7 => ?_) (fun c_7 => ?_)
        · skip
          refine lv_aload_n hx hb dX11_reason_52 rfl (lv_at hl 0 rfl) ?_
          refine fw_get (v := .int (s 11)) (C := RX11) (T := TX11) (N := 19) hx hb hts hin11 hown hK hR m0 rfl 11 (by decide) (hts (.fieldLink RX11 48 "UnreadLeafletsModel" "whyOrder" "I") (by decide +kernel)) rfl dX11_reason_53 ?_
          refine fw_call (va_runV (As := [.int (s 11)]) (rest := []) ⟨hx, hb, hml, hown, hts⟩ (c_X11_done G hL l ω m s g m0 m1 (s 11)) (cwV 1 hts gX11_reason_X11_done rfl rfl rfl (by decide +kernel) ⟨Nat.le_of_ble_eq_true rfl, Nat.le_of_ble_eq_true rfl⟩) (fw_preV hW hK hR m0 rfl) rfl rfl hl.1 rfl (lv_room (Nat.le_of_ble_eq_true rfl)) dX11_reason_56 ⟨Nat.le_of_ble_eq_true rfl, Nat.le_of_ble_eq_true rfl⟩) hS (fun v_8 ω_9 H locs hq_10 hR hS => ?_)
          obtain ⟨rfl, z_11, f_13, fr_12⟩ := hq_10
          refine W.eq (g2 := F0 mI 59 ls [.int (s 11)]) rfl ?_
          have fr_14 : ∀ q : Nat, ¬ q = m → ω_9.2 q = ω.2 q := by
            intro q h0
            rw [fr_12 q (by omega)]
          have z_15 : ω_9.1 = ω.1 := by rw [z_11]
          have hr_16 : reasM s g wh = (((s 11), (upd s 14 0)) : Int32 × (Nat → Int32)) := by
            simp only [reasM]
            rw [if_pos c_4, if_neg c_5, if_neg c_6, if_neg c_7]
          refine fw_iret hx hb hr hlocks hR hS dX11_reason_59 ?_
          rw [hr_16]
          exact ⟨rfl, z_15, f_13, fr_14⟩
        · skip
          refine lv_aload_n hx hb dX11_reason_45 rfl (lv_at hl 0 rfl) ?_
          refine fw_get (v := .int (s 10)) (C := RX11) (T := TX11) (N := 19) hx hb hts hin11 hown hK hR m0 rfl 10 (by decide) (hts (.fieldLink RX11 45 "UnreadLeafletsModel" "whyDetail" "I") (by decide +kernel)) rfl dX11_reason_46 ?_
          refine lv_goto (tgt := 56) hx hb dX11_reason_49 (by decide) ?_
          refine fw_call (va_runV (As := [.int (s 10)]) (rest := []) ⟨hx, hb, hml, hown, hts⟩ (c_X11_done G hL l ω m s g m0 m1 (s 10)) (cwV 1 hts gX11_reason_X11_done rfl rfl rfl (by decide +kernel) ⟨Nat.le_of_ble_eq_true rfl, Nat.le_of_ble_eq_true rfl⟩) (fw_preV hW hK hR m0 rfl) rfl rfl hl.1 rfl (lv_room (Nat.le_of_ble_eq_true rfl)) dX11_reason_56 ⟨Nat.le_of_ble_eq_true rfl, Nat.le_of_ble_eq_true rfl⟩) hS (fun v_17 ω_18 H locs hq_19 hR hS => ?_)
          obtain ⟨rfl, z_20, f_22, fr_21⟩ := hq_19
          refine W.eq (g2 := F0 mI 59 ls [.int (s 10)]) rfl ?_
          have fr_23 : ∀ q : Nat, ¬ q = m → ω_18.2 q = ω.2 q := by
            intro q h0
            rw [fr_21 q (by omega)]
          have z_24 : ω_18.1 = ω.1 := by rw [z_20]
          have hr_25 : reasM s g wh = (((s 10), (upd s 14 0)) : Int32 × (Nat → Int32)) := by
            simp only [reasM]
            rw [if_pos c_4, if_neg c_5, if_neg c_6, if_pos c_7]
          refine fw_iret hx hb hr hlocks hR hS dX11_reason_59 ?_
          rw [hr_25]
          exact ⟨rfl, z_24, f_22, fr_23⟩
      · skip
        refine lv_aload_n hx hb dX11_reason_33 rfl (lv_at hl 0 rfl) ?_
        refine fw_get (v := .int (s 9)) (C := RX11) (T := TX11) (N := 19) hx hb hts hin11 hown hK hR m0 rfl 9 (by decide) (hts (.fieldLink RX11 42 "UnreadLeafletsModel" "why0" "I") (by decide +kernel)) rfl dX11_reason_34 ?_
        refine lv_goto (tgt := 56) hx hb dX11_reason_37 (by decide) ?_
        refine fw_call (va_runV (As := [.int (s 9)]) (rest := []) ⟨hx, hb, hml, hown, hts⟩ (c_X11_done G hL l ω m s g m0 m1 (s 9)) (cwV 1 hts gX11_reason_X11_done rfl rfl rfl (by decide +kernel) ⟨Nat.le_of_ble_eq_true rfl, Nat.le_of_ble_eq_true rfl⟩) (fw_preV hW hK hR m0 rfl) rfl rfl hl.1 rfl (lv_room (Nat.le_of_ble_eq_true rfl)) dX11_reason_56 ⟨Nat.le_of_ble_eq_true rfl, Nat.le_of_ble_eq_true rfl⟩) hS (fun v_26 ω_27 H locs hq_28 hR hS => ?_)
        obtain ⟨rfl, z_29, f_31, fr_30⟩ := hq_28
        refine W.eq (g2 := F0 mI 59 ls [.int (s 9)]) rfl ?_
        have fr_32 : ∀ q : Nat, ¬ q = m → ω_27.2 q = ω.2 q := by
          intro q h0
          rw [fr_30 q (by omega)]
        have z_33 : ω_27.1 = ω.1 := by rw [z_29]
        have hr_34 : reasM s g wh = (((s 9), (upd s 14 0)) : Int32 × (Nat → Int32)) := by
          simp only [reasM]
          rw [if_pos c_4, if_neg c_5, if_pos c_6]
        refine fw_iret hx hb hr hlocks hR hS dX11_reason_59 ?_
        rw [hr_34]
        exact ⟨rfl, z_33, f_31, fr_32⟩
    · skip
      refine lv_aload_n hx hb dX11_reason_22 rfl (lv_at hl 0 rfl) ?_
      refine lv_iconst (v := 2) hx hb dX11_reason_23 (by decide) ?_
      refine fw_call (va_runV (As := [.int 2]) (rest := []) ⟨hx, hb, hml, hown, hts⟩ (c_X11_fails G hL l ω m s g m0 m1 2) (cwV 1 hts gX11_reason_X11_fails rfl rfl rfl (by decide +kernel) ⟨Nat.le_of_ble_eq_true rfl, Nat.le_of_ble_eq_true rfl⟩) (fw_preV hW hK hR m0 rfl) rfl rfl hl.1 rfl (lv_room (Nat.le_of_ble_eq_true rfl)) dX11_reason_24 ⟨Nat.le_of_ble_eq_true rfl, Nat.le_of_ble_eq_true rfl⟩) hS (fun v_35 ω_36 H locs hq_37 hR hS => ?_)
      obtain ⟨rfl, z_38, f_40, fr_39⟩ := hq_37
      refine W.eq (g2 := F0 mI 27 ls [.int 0]) rfl ?_
      have fr_41 : ∀ q : Nat, ¬ q = m → ω_36.2 q = ω.2 q := by
        intro q h0
        rw [fr_39 q (by omega)]
      have z_42 : ω_36.1 = ω.1 := by rw [z_38]
      have hr_43 : reasM s g wh = ((0, (upd s 14 2)) : Int32 × (Nat → Int32)) := by
        simp only [reasM]
        rw [if_pos c_4, if_pos c_5]
      refine fw_iret hx hb hr hlocks hR hS dX11_reason_27 ?_
      rw [hr_43]
      exact ⟨rfl, z_42, f_40, fr_41⟩
  · skip
    have c_4 := bz_eq c_4
    refine lv_aload_n hx hb dX11_reason_9 rfl (lv_at hl 0 rfl) ?_
    refine lv_iconst (v := 1) hx hb dX11_reason_10 (by decide) ?_
    refine fw_call (va_runV (As := [.int 1]) (rest := []) ⟨hx, hb, hml, hown, hts⟩ (c_X11_fails G hL l ω m s g m0 m1 1) (cwV 1 hts gX11_reason_X11_fails rfl rfl rfl (by decide +kernel) ⟨Nat.le_of_ble_eq_true rfl, Nat.le_of_ble_eq_true rfl⟩) (fw_preV hW hK hR m0 rfl) rfl rfl hl.1 rfl (lv_room (Nat.le_of_ble_eq_true rfl)) dX11_reason_11 ⟨Nat.le_of_ble_eq_true rfl, Nat.le_of_ble_eq_true rfl⟩) hS (fun v_44 ω_45 H locs hq_46 hR hS => ?_)
    obtain ⟨rfl, z_47, f_49, fr_48⟩ := hq_46
    refine W.eq (g2 := F0 mI 14 ls [.int 0]) rfl ?_
    have fr_50 : ∀ q : Nat, ¬ q = m → ω_45.2 q = ω.2 q := by
      intro q h0
      rw [fr_48 q (by omega)]
    have z_51 : ω_45.1 = ω.1 := by rw [z_47]
    have hr_52 : reasM s g wh = ((0, (upd s 14 1)) : Int32 × (Nat → Int32)) := by
      simp only [reasM]
      rw [if_neg c_4]
    refine fw_iret hx hb hr hlocks hR hS dX11_reason_14 ?_
    rw [hr_52]
    exact ⟨rfl, z_51, f_49, fr_50⟩
def sumaL (s g : Nat → Int32) (a : Nat) (b : Nat) : Nat → Int32
  | 0 => 0
  | k + 1 => ((sumaL s g a b k) + (g (a + k)))
def sumaM (s g : Nat → Int32) (a : Nat) (b : Nat) : Int32 := sumaL s g a b b
set_option maxHeartbeats 4000000 in
set_option maxRecDepth 100000 in
theorem c_X11_sum (G : FG) (hL : FL G) (l : Launch) (ω : FWd) (m : Nat) (s g : Nat → Int32) (m0 : ω.2 m = some (.inr (13, [.ref (m + 1), .ref (m + 2), .ref (m + 3), .int (s 3), .ref (m + 4), .int (s 5), .ref (m + 5), .int (s 7), .int (s 8), .int (s 9), .int (s 10), .int (s 11), .ref (m + 6), .int (s 13), .int (s 14), .ref (m + 7), .int (s 16), .int (s 17), .ref (m + 8)]))) (m1 : ω.2 (m + 1) = some (.inl (G.2.1 0, 324, .inl g))) (a : Nat) (b : Nat) (hab : a + b ≤ 324) (hb9 : b < 100) : FMet G l yX11_sum wsX11_sum ({ frames := 0, cells := 0, slots := 0, locals := 0 } : Room) [.ref m, .int (nI a), .int (nI b)] ω (rI (sumaM s g a b) ω) 0 0 := by
  refine fw_ofW (cc := cX11_sum) (maxL := 5) (ret := (some .int)) (by decide) rfl (Nat.le_of_ble_eq_true rfl) ?_
  intro pP eE sS mI ar9 bl9 meth cD ls hx hb hr hlocks hml hts hown hnm hW hR hl
  have hK := hL.K hW
  have hS : va_S (fwA G) sS.heap sS.heap [] := va_S.rf
  have hin11 : ∀ w ∈ u_ws RX11 TX11 19, w ∈ wsX11_sum := by decide +kernel
  have hl : lv_has ls 5 [(0, .ref m), (1, .int (nI a)), (2, .int (nI b))] := hl
  skip
  skip
  refine lv_iconst (v := 0) hx hb dX11_sum_0 (by decide) ?_
  refine lv_istore_n (lv' := [(3, .int 0), (0, .ref m), (1, .int (nI a)), (2, .int (nI b))]) hx hb dX11_sum_1 rfl hl (by decide) rfl (fun ls hl => ?_)
  refine lv_iconst (v := 0) hx hb dX11_sum_2 (by decide) ?_
  refine lv_istore (lv' := [(4, .int 0), (3, .int 0), (0, .ref m), (1, .int (nI a)), (2, .int (nI b))]) hx hb dX11_sum_3 hl (by decide) rfl (fun ls hl => ?_)
  have hi_1 : sumaL s g a b 0 = (0 : Int32) := by simp only [sumaL]
  have loop_3 : ∀ (fu : Nat) (k : Nat), (b - k) < fu → (k ≤ b) → ∀ (H : Heap) (locs : List Loc) (ls : Array Slot), fR G ω H → va_S (fwA G) sS.heap H locs → lv_has ls 5 [(4, .int (nI k)), (3, .int (sumaL s g a b k)), (0, .ref m), (1, .int (nI a)), (2, .int (nI b))] → W pP l eE ({ frames := 0, cells := 0, slots := 0, locals := 0 } : Room) sS mI ar9 bl9 meth cD H locs 0 0 (MQ bl9 (fQ G (rI (sumaM s g a b) ω)) ar9 sS 0 0 (fwA G)) (F0 mI 5 ls []) := by
    intro fu
    induction fu with
    | zero => intro k hfu; exact absurd hfu (Nat.not_lt_zero _)
    | succ fu ih =>
      intro k hfu hkk H locs ls hR hS hl
      refine lv_iload hx hb dX11_sum_5 (lv_at hl 0 rfl) ?_
      refine lv_iload_n hx hb dX11_sum_7 rfl (lv_at hl 4 rfl) ?_
      refine lv_icmp_ge (tgt := 29) hx hb dX11_sum_8 (by decide) (fun c_4 => ?_) (fun c_4 => ?_)
      · skip
        have hj9 := lp_ge (n := b) rfl c_4 (by omega) (by omega)
        have hk9 : b = k := by omega
        subst hk9
        refine lv_iload_n hx hb dX11_sum_29 rfl (lv_at hl 1 rfl) ?_
        have fr_5 : ∀ q : Nat, True → ω.2 q = ω.2 q := by
          intro q _
          rfl
        have z_6 : ω.1 = ω.1 := rfl
        have hr_7 : sumaM s g a b = ((sumaL s g a b b) : Int32) := by
          rfl
        refine fw_iret hx hb hr hlocks hR hS dX11_sum_30 (rI_mk hr_7.symm)
      · skip
        have hk2 := lp_lt (n := b) rfl c_4 (by omega) (by omega)
        refine lv_iload_n hx hb dX11_sum_11 rfl (lv_at hl 1 rfl) ?_
        refine lv_aload_n hx hb dX11_sum_12 rfl (lv_at hl 2 rfl) ?_
        refine fw_get (v := .ref (m + 1)) (C := RX11) (T := TX11) (N := 19) hx hb hts hin11 hown hK hR m0 rfl 0 (by decide) (hts (.fieldLink RX11 7 "UnreadLeafletsModel" "g" "[I") (by decide +kernel)) rfl dX11_sum_13 ?_
        refine lv_iload_n hx hb dX11_sum_16 rfl (lv_at hl 3 rfl) ?_
        refine lv_iload hx hb dX11_sum_17 (lv_at hl 0 rfl) ?_
        refine lv_iadd hx hb dX11_sum_19 ?_
        have hi_8 : (nI a) + (nI k) = nI (a + k) := by
          show (nI a) + (nI k) = _
          simp only [pk_mul, nI_add, Nat.add_assoc]
        refine W.eq (g2 := F0 mI 20 ls [.int (nI (a + k)), .ref (m + 1), .int (sumaL s g a b k)]) (by rw [hi_8]) ?_
        refine fw_iald hx hb hK hR m1 (vp_in_nI (by omega) (by omega)) dX11_sum_20 ?_
        refine W.eq (g2 := F0 mI 21 ls [.int (g (a + k)), .int (sumaL s g a b k)]) (by rw [nI_clamp (by omega)]) ?_
        refine lv_iadd hx hb dX11_sum_21 ?_
        refine lv_topi (fun x_9 ex_9 => ?_)
        refine lv_istore_n (lv' := [(3, .int x_9), (4, .int (nI k)), (0, .ref m), (1, .int (nI a)), (2, .int (nI b))]) hx hb dX11_sum_22 rfl hl (by decide) rfl (fun ls hl => ?_)
        obtain ⟨x_10, ex_10⟩ : ∃ y : Int32, y = (nI k) + 1 := ⟨_, rfl⟩
        refine lv_iinc (v := x_10) (lv' := [(4, .int x_10), (3, .int x_9), (0, .ref m), (1, .int (nI a)), (2, .int (nI b))]) hx hb dX11_sum_23 hl (k := 1) rfl (by rw [ex_10]; rfl) (by decide) rfl (fun ls hl => ?_)
        refine lv_goto (tgt := 5) hx hb dX11_sum_26 (by decide) ?_
        have hr_11 : sumaL s g a b (k + 1) = (x_9 : Int32) := by
          simp only [sumaL, ex_9, ex_10]
        have el_4 : x_10 = nI (k + 1) := by rw [ex_10]; exact nI_1 k
        have el_3 : x_9 = sumaL s g a b (k + 1) := by rw [hr_11]
        have hl := lv_sub (l' := [(4, .int x_10), (3, .int x_9), (0, .ref m), (1, .int (nI a)), (2, .int (nI b))]) hl [0, 1, 2, 3, 4] rfl
        rw [el_4, el_3] at hl
        exact ih (k + 1) (by omega) (by first | assumption | omega | (simp; done)) _ _ _ hR hS hl
  have h0_12 : (0 : Int32) = sumaL s g a b 0 := by rw [hi_1]
  have hl : lv_has ls 5 [(4, .int 0), (3, .int (sumaL s g a b 0)), (0, .ref m), (1, .int (nI a)), (2, .int (nI b))] := by rw [← h0_12]; exact hl
  exact loop_3 _ 0 (Nat.lt_succ_self _) (by first | rfl | assumption | omega | (simp; done)) _ _ _ hR hS (lv_sub hl [0, 1, 2, 3, 4] rfl)
def accM (s g : Nat → Int32) (wh : Int32) : Int32 × (Nat → Int32) := if wh = 0 then (((g 0), (upd s 14 0))) else (if wh = 1 then (((g 1), (upd s 14 0))) else (if wh = 2 then (((sumaM s g 18 8), (upd s 14 0))) else (if wh = 3 then (((onesM s g), (upd s 14 0))) else (if wh = 4 then (((sumaM s g 6 6), (upd s 14 0))) else (if wh = 5 then (((g 2), (upd s 14 0))) else (if wh = 6 then (((g 3), (upd s 14 0))) else (if wh = 7 then (((g 4), (upd s 14 0))) else (if wh = 8 then (((g 5), (upd s 14 0))) else (if wh = 9 then (((s 3), (upd s 14 0))) else (if wh = 10 then (((s 7), (upd s 14 0))) else ((0, (upd s 14 1)))))))))))))
set_option maxHeartbeats 4000000 in
set_option maxRecDepth 100000 in
theorem c_X11_account (G : FG) (hL : FL G) (l : Launch) (ω : FWd) (m : Nat) (s g : Nat → Int32) (m0 : ω.2 m = some (.inr (13, [.ref (m + 1), .ref (m + 2), .ref (m + 3), .int (s 3), .ref (m + 4), .int (s 5), .ref (m + 5), .int (s 7), .int (s 8), .int (s 9), .int (s 10), .int (s 11), .ref (m + 6), .int (s 13), .int (s 14), .ref (m + 7), .int (s 16), .int (s 17), .ref (m + 8)]))) (m1 : ω.2 (m + 1) = some (.inl (G.2.1 0, 324, .inl g))) (hM : WFM g) (wh : Int32) : FMet G l yX11_account wsX11_account ({ frames := 1, cells := 0, slots := 0, locals := 24 } : Room) [.ref m, .int wh] ω (fun vv9 τ9 => vv9 = some (.int ((accM s g wh).1)) ∧ τ9.1 = ω.1 ∧ τ9.2 m = some (.inr (13, [.ref (m + 1), .ref (m + 2), .ref (m + 3), .int (((accM s g wh).2) 3), .ref (m + 4), .int (((accM s g wh).2) 5), .ref (m + 5), .int (((accM s g wh).2) 7), .int (((accM s g wh).2) 8), .int (((accM s g wh).2) 9), .int (((accM s g wh).2) 10), .int (((accM s g wh).2) 11), .ref (m + 6), .int (((accM s g wh).2) 13), .int (((accM s g wh).2) 14), .ref (m + 7), .int (((accM s g wh).2) 16), .int (((accM s g wh).2) 17), .ref (m + 8)])) ∧ ∀ q : Nat, ¬ q = m → τ9.2 q = ω.2 q) 0 0 := by
  refine fw_ofW (cc := cX11_account) (maxL := 2) (ret := (some .int)) (by decide) rfl (Nat.le_of_ble_eq_true rfl) ?_
  intro pP eE sS mI ar9 bl9 meth cD ls hx hb hr hlocks hml hts hown hnm hW hR hl
  have hK := hL.K hW
  have hS : va_S (fwA G) sS.heap sS.heap [] := va_S.rf
  have hin11 : ∀ w ∈ u_ws RX11 TX11 19, w ∈ wsX11_account := by decide +kernel
  have hl : lv_has ls 2 [(0, .ref m), (1, .int wh)] := hl
  obtain ⟨c, hc8, hc, hcc⟩ := okN_of hM.1
  obtain ⟨cc, hd5, hd, hdd⟩ := okN_of hM.2.1
  refine lv_iload_n hx hb dX11_account_0 rfl (lv_at hl 1 rfl) ?_
  by_cases c_1 : wh = 0
  · skip
    refine lv_tableIn (off := 59) (tgt := 60) hx hb dX11_account_1 (by rw [c_1]; decide) (by rw [c_1]; decide) (by rw [c_1]; rfl) (by decide) ?_
    refine lv_aload_n hx hb dX11_account_60 rfl (lv_at hl 0 rfl) ?_
    refine lv_aload_n hx hb dX11_account_61 rfl (lv_at hl 0 rfl) ?_
    refine fw_get (v := .ref (m + 1)) (C := RX11) (T := TX11) (N := 19) hx hb hts hin11 hown hK hR m0 rfl 0 (by decide) (hts (.fieldLink RX11 7 "UnreadLeafletsModel" "g" "[I") (by decide +kernel)) rfl dX11_account_62 ?_
    refine lv_iload_n hx hb dX11_account_65 rfl (lv_at hl 1 rfl) ?_
    have hv_2 : wh = 0 := by rw [c_1]; first | done | rfl
    refine W.eq (g2 := F0 mI 66 ls [.int 0, .ref (m + 1), .ref m]) (by rw [hv_2]) ?_
    refine fw_iald hx hb hK hR m1 (vp_in_nI (n := 0) (by omega) (by omega)) dX11_account_66 ?_
    refine W.eq (g2 := F0 mI 67 ls [.int (g 0), .ref m]) (by rw [show (0 : Int32).toNatClampNeg = 0 from rfl]) ?_
    refine fw_call (va_runV (As := [.int (g 0)]) (rest := []) ⟨hx, hb, hml, hown, hts⟩ (c_X11_done G hL l ω m s g m0 m1 (g 0)) (cwV 1 hts gX11_account_X11_done rfl rfl rfl (by decide +kernel) ⟨Nat.le_of_ble_eq_true rfl, Nat.le_of_ble_eq_true rfl⟩) (fw_preV hW hK hR m0 rfl) rfl rfl hl.1 rfl (lv_room (Nat.le_of_ble_eq_true rfl)) dX11_account_67 ⟨Nat.le_of_ble_eq_true rfl, Nat.le_of_ble_eq_true rfl⟩) hS (fun v_3 ω_4 H locs hq_5 hR hS => ?_)
    obtain ⟨rfl, z_6, f_8, fr_7⟩ := hq_5
    refine W.eq (g2 := F0 mI 70 ls [.int (g 0)]) rfl ?_
    have fr_9 : ∀ q : Nat, ¬ q = m → ω_4.2 q = ω.2 q := by
      intro q h0
      rw [fr_7 q (by omega)]
    have z_10 : ω_4.1 = ω.1 := by rw [z_6]
    have hr_11 : accM s g wh = (((g 0), (upd s 14 0)) : Int32 × (Nat → Int32)) := by
      simp only [accM, hcc, hdd]
      rw [if_pos c_1]
    refine fw_iret hx hb hr hlocks hR hS dX11_account_70 ?_
    rw [hr_11]
    exact ⟨rfl, z_10, f_8, fr_9⟩
  by_cases c_12 : wh = 1
  · skip
    refine lv_tableIn (off := 59) (tgt := 60) hx hb dX11_account_1 (by rw [c_12]; decide) (by rw [c_12]; decide) (by rw [c_12]; rfl) (by decide) ?_
    refine lv_aload_n hx hb dX11_account_60 rfl (lv_at hl 0 rfl) ?_
    refine lv_aload_n hx hb dX11_account_61 rfl (lv_at hl 0 rfl) ?_
    refine fw_get (v := .ref (m + 1)) (C := RX11) (T := TX11) (N := 19) hx hb hts hin11 hown hK hR m0 rfl 0 (by decide) (hts (.fieldLink RX11 7 "UnreadLeafletsModel" "g" "[I") (by decide +kernel)) rfl dX11_account_62 ?_
    refine lv_iload_n hx hb dX11_account_65 rfl (lv_at hl 1 rfl) ?_
    have hv_13 : wh = 1 := by rw [c_12]; first | done | rfl
    refine W.eq (g2 := F0 mI 66 ls [.int 1, .ref (m + 1), .ref m]) (by rw [hv_13]) ?_
    refine fw_iald hx hb hK hR m1 (vp_in_nI (n := 1) (by omega) (by omega)) dX11_account_66 ?_
    refine W.eq (g2 := F0 mI 67 ls [.int (g 1), .ref m]) (by rw [show (1 : Int32).toNatClampNeg = 1 from rfl]) ?_
    refine fw_call (va_runV (As := [.int (g 1)]) (rest := []) ⟨hx, hb, hml, hown, hts⟩ (c_X11_done G hL l ω m s g m0 m1 (g 1)) (cwV 1 hts gX11_account_X11_done rfl rfl rfl (by decide +kernel) ⟨Nat.le_of_ble_eq_true rfl, Nat.le_of_ble_eq_true rfl⟩) (fw_preV hW hK hR m0 rfl) rfl rfl hl.1 rfl (lv_room (Nat.le_of_ble_eq_true rfl)) dX11_account_67 ⟨Nat.le_of_ble_eq_true rfl, Nat.le_of_ble_eq_true rfl⟩) hS (fun v_14 ω_15 H locs hq_16 hR hS => ?_)
    obtain ⟨rfl, z_17, f_19, fr_18⟩ := hq_16
    refine W.eq (g2 := F0 mI 70 ls [.int (g 1)]) rfl ?_
    have fr_20 : ∀ q : Nat, ¬ q = m → ω_15.2 q = ω.2 q := by
      intro q h0
      rw [fr_18 q (by omega)]
    have z_21 : ω_15.1 = ω.1 := by rw [z_17]
    have hr_22 : accM s g wh = (((g 1), (upd s 14 0)) : Int32 × (Nat → Int32)) := by
      simp only [accM, hcc, hdd]
      rw [if_neg c_1, if_pos c_12]
    refine fw_iret hx hb hr hlocks hR hS dX11_account_70 ?_
    rw [hr_22]
    exact ⟨rfl, z_21, f_19, fr_20⟩
  by_cases c_23 : wh = 2
  · skip
    refine lv_tableIn (off := 70) (tgt := 71) hx hb dX11_account_1 (by rw [c_23]; decide) (by rw [c_23]; decide) (by rw [c_23]; rfl) (by decide) ?_
    refine lv_aload_n hx hb dX11_account_71 rfl (lv_at hl 0 rfl) ?_
    refine lv_aload_n hx hb dX11_account_72 rfl (lv_at hl 0 rfl) ?_
    refine lv_bipush (v := 18) hx hb dX11_account_73 (by decide) ?_
    refine lv_bipush (v := 8) hx hb dX11_account_75 (by decide) ?_
    refine fw_call (va_runV (As := [.int 18, .int 8]) (rest := [.ref m]) ⟨hx, hb, hml, hown, hts⟩ (c_X11_sum G hL l ω m s g m0 m1  18 8 (by omega) (by omega)) (cwV 2 hts gX11_account_X11_sum rfl rfl rfl (by decide +kernel) ⟨Nat.le_of_ble_eq_true rfl, Nat.le_of_ble_eq_true rfl⟩) (fw_preV hW hK hR m0 rfl) rfl rfl hl.1 rfl (lv_room (Nat.le_of_ble_eq_true rfl)) dX11_account_77 ⟨Nat.le_of_ble_eq_true rfl, Nat.le_of_ble_eq_true rfl⟩) hS (fun v_24 ω_25 H locs hq_26 hR hS => ?_)
    obtain ⟨rfl, hq_26⟩ := hq_26
    rw [hq_26] at hR
    refine W.eq (g2 := F0 mI 80 ls [.int (sumaM s g 18 8), .ref m]) rfl ?_
    refine fw_call (va_runV (As := [.int (sumaM s g 18 8)]) (rest := []) ⟨hx, hb, hml, hown, hts⟩ (c_X11_done G hL l ω m s g m0 m1 (sumaM s g 18 8)) (cwV 1 hts gX11_account_X11_done rfl rfl rfl (by decide +kernel) ⟨Nat.le_of_ble_eq_true rfl, Nat.le_of_ble_eq_true rfl⟩) (fw_preV hW hK hR m0 rfl) rfl rfl hl.1 rfl (lv_room (Nat.le_of_ble_eq_true rfl)) dX11_account_80 ⟨Nat.le_of_ble_eq_true rfl, Nat.le_of_ble_eq_true rfl⟩) hS (fun v_27 ω_28 H locs hq_29 hR hS => ?_)
    obtain ⟨rfl, z_30, f_32, fr_31⟩ := hq_29
    refine W.eq (g2 := F0 mI 83 ls [.int (sumaM s g 18 8)]) rfl ?_
    have fr_33 : ∀ q : Nat, ¬ q = m → ω_28.2 q = ω.2 q := by
      intro q h0
      rw [fr_31 q (by omega)]
    have z_34 : ω_28.1 = ω.1 := by rw [z_30]
    have hr_35 : accM s g wh = (((sumaM s g 18 8), (upd s 14 0)) : Int32 × (Nat → Int32)) := by
      simp only [accM, hcc, hdd]
      rw [if_neg c_1, if_neg c_12, if_pos c_23]
    refine fw_iret hx hb hr hlocks hR hS dX11_account_83 ?_
    rw [hr_35]
    exact ⟨rfl, z_34, f_32, fr_33⟩
  by_cases c_36 : wh = 3
  · skip
    refine lv_tableIn (off := 83) (tgt := 84) hx hb dX11_account_1 (by rw [c_36]; decide) (by rw [c_36]; decide) (by rw [c_36]; rfl) (by decide) ?_
    refine lv_aload_n hx hb dX11_account_84 rfl (lv_at hl 0 rfl) ?_
    refine lv_aload_n hx hb dX11_account_85 rfl (lv_at hl 0 rfl) ?_
    refine fw_call (va_runV (As := []) (rest := [.ref m]) ⟨hx, hb, hml, hown, hts⟩ (c_X11_builtOnes G hL l ω m s g m0 m1 hM  ) (cwV 0 hts gX11_account_X11_builtOnes rfl rfl rfl (by decide +kernel) ⟨Nat.le_of_ble_eq_true rfl, Nat.le_of_ble_eq_true rfl⟩) (fw_preV hW hK hR m0 rfl) rfl rfl hl.1 rfl (lv_room (Nat.le_of_ble_eq_true rfl)) dX11_account_86 ⟨Nat.le_of_ble_eq_true rfl, Nat.le_of_ble_eq_true rfl⟩) hS (fun v_37 ω_38 H locs hq_39 hR hS => ?_)
    obtain ⟨rfl, hq_39⟩ := hq_39
    rw [hq_39] at hR
    refine W.eq (g2 := F0 mI 89 ls [.int (onesM s g), .ref m]) rfl ?_
    refine fw_call (va_runV (As := [.int (onesM s g)]) (rest := []) ⟨hx, hb, hml, hown, hts⟩ (c_X11_done G hL l ω m s g m0 m1 (onesM s g)) (cwV 1 hts gX11_account_X11_done rfl rfl rfl (by decide +kernel) ⟨Nat.le_of_ble_eq_true rfl, Nat.le_of_ble_eq_true rfl⟩) (fw_preV hW hK hR m0 rfl) rfl rfl hl.1 rfl (lv_room (Nat.le_of_ble_eq_true rfl)) dX11_account_89 ⟨Nat.le_of_ble_eq_true rfl, Nat.le_of_ble_eq_true rfl⟩) hS (fun v_40 ω_41 H locs hq_42 hR hS => ?_)
    obtain ⟨rfl, z_43, f_45, fr_44⟩ := hq_42
    refine W.eq (g2 := F0 mI 92 ls [.int (onesM s g)]) rfl ?_
    have fr_46 : ∀ q : Nat, ¬ q = m → ω_41.2 q = ω.2 q := by
      intro q h0
      rw [fr_44 q (by omega)]
    have z_47 : ω_41.1 = ω.1 := by rw [z_43]
    have hr_48 : accM s g wh = (((onesM s g), (upd s 14 0)) : Int32 × (Nat → Int32)) := by
      simp only [accM, hcc, hdd]
      rw [if_neg c_1, if_neg c_12, if_neg c_23, if_pos c_36]
    refine fw_iret hx hb hr hlocks hR hS dX11_account_92 ?_
    rw [hr_48]
    exact ⟨rfl, z_47, f_45, fr_46⟩
  by_cases c_49 : wh = 4
  · skip
    refine lv_tableIn (off := 92) (tgt := 93) hx hb dX11_account_1 (by rw [c_49]; decide) (by rw [c_49]; decide) (by rw [c_49]; rfl) (by decide) ?_
    refine lv_aload_n hx hb dX11_account_93 rfl (lv_at hl 0 rfl) ?_
    refine lv_aload_n hx hb dX11_account_94 rfl (lv_at hl 0 rfl) ?_
    refine lv_bipush (v := 6) hx hb dX11_account_95 (by decide) ?_
    refine lv_bipush (v := 6) hx hb dX11_account_97 (by decide) ?_
    refine fw_call (va_runV (As := [.int 6, .int 6]) (rest := [.ref m]) ⟨hx, hb, hml, hown, hts⟩ (c_X11_sum G hL l ω m s g m0 m1  6 6 (by omega) (by omega)) (cwV 2 hts gX11_account_X11_sum rfl rfl rfl (by decide +kernel) ⟨Nat.le_of_ble_eq_true rfl, Nat.le_of_ble_eq_true rfl⟩) (fw_preV hW hK hR m0 rfl) rfl rfl hl.1 rfl (lv_room (Nat.le_of_ble_eq_true rfl)) dX11_account_99 ⟨Nat.le_of_ble_eq_true rfl, Nat.le_of_ble_eq_true rfl⟩) hS (fun v_50 ω_51 H locs hq_52 hR hS => ?_)
    obtain ⟨rfl, hq_52⟩ := hq_52
    rw [hq_52] at hR
    refine W.eq (g2 := F0 mI 102 ls [.int (sumaM s g 6 6), .ref m]) rfl ?_
    refine fw_call (va_runV (As := [.int (sumaM s g 6 6)]) (rest := []) ⟨hx, hb, hml, hown, hts⟩ (c_X11_done G hL l ω m s g m0 m1 (sumaM s g 6 6)) (cwV 1 hts gX11_account_X11_done rfl rfl rfl (by decide +kernel) ⟨Nat.le_of_ble_eq_true rfl, Nat.le_of_ble_eq_true rfl⟩) (fw_preV hW hK hR m0 rfl) rfl rfl hl.1 rfl (lv_room (Nat.le_of_ble_eq_true rfl)) dX11_account_102 ⟨Nat.le_of_ble_eq_true rfl, Nat.le_of_ble_eq_true rfl⟩) hS (fun v_53 ω_54 H locs hq_55 hR hS => ?_)
    obtain ⟨rfl, z_56, f_58, fr_57⟩ := hq_55
    refine W.eq (g2 := F0 mI 105 ls [.int (sumaM s g 6 6)]) rfl ?_
    have fr_59 : ∀ q : Nat, ¬ q = m → ω_54.2 q = ω.2 q := by
      intro q h0
      rw [fr_57 q (by omega)]
    have z_60 : ω_54.1 = ω.1 := by rw [z_56]
    have hr_61 : accM s g wh = (((sumaM s g 6 6), (upd s 14 0)) : Int32 × (Nat → Int32)) := by
      simp only [accM, hcc, hdd]
      rw [if_neg c_1, if_neg c_12, if_neg c_23, if_neg c_36, if_pos c_49]
    refine fw_iret hx hb hr hlocks hR hS dX11_account_105 ?_
    rw [hr_61]
    exact ⟨rfl, z_60, f_58, fr_59⟩
  by_cases c_62 : wh = 5
  · skip
    refine lv_tableIn (off := 105) (tgt := 106) hx hb dX11_account_1 (by rw [c_62]; decide) (by rw [c_62]; decide) (by rw [c_62]; rfl) (by decide) ?_
    refine lv_aload_n hx hb dX11_account_106 rfl (lv_at hl 0 rfl) ?_
    refine lv_aload_n hx hb dX11_account_107 rfl (lv_at hl 0 rfl) ?_
    refine fw_get (v := .ref (m + 1)) (C := RX11) (T := TX11) (N := 19) hx hb hts hin11 hown hK hR m0 rfl 0 (by decide) (hts (.fieldLink RX11 7 "UnreadLeafletsModel" "g" "[I") (by decide +kernel)) rfl dX11_account_108 ?_
    refine lv_iconst (v := 2) hx hb dX11_account_111 (by decide) ?_
    refine lv_iload_n hx hb dX11_account_112 rfl (lv_at hl 1 rfl) ?_
    refine lv_iadd hx hb dX11_account_113 ?_
    refine lv_iconst (v := 5) hx hb dX11_account_114 (by decide) ?_
    refine lv_isub hx hb dX11_account_115 ?_
    have hv_63 : (2 + wh) - 5 = 2 := by rw [c_62]; first | done | rfl
    refine W.eq (g2 := F0 mI 116 ls [.int 2, .ref (m + 1), .ref m]) (by rw [hv_63]) ?_
    refine fw_iald hx hb hK hR m1 (vp_in_nI (n := 2) (by omega) (by omega)) dX11_account_116 ?_
    refine W.eq (g2 := F0 mI 117 ls [.int (g 2), .ref m]) (by rw [show (2 : Int32).toNatClampNeg = 2 from rfl]) ?_
    refine fw_call (va_runV (As := [.int (g 2)]) (rest := []) ⟨hx, hb, hml, hown, hts⟩ (c_X11_done G hL l ω m s g m0 m1 (g 2)) (cwV 1 hts gX11_account_X11_done rfl rfl rfl (by decide +kernel) ⟨Nat.le_of_ble_eq_true rfl, Nat.le_of_ble_eq_true rfl⟩) (fw_preV hW hK hR m0 rfl) rfl rfl hl.1 rfl (lv_room (Nat.le_of_ble_eq_true rfl)) dX11_account_117 ⟨Nat.le_of_ble_eq_true rfl, Nat.le_of_ble_eq_true rfl⟩) hS (fun v_64 ω_65 H locs hq_66 hR hS => ?_)
    obtain ⟨rfl, z_67, f_69, fr_68⟩ := hq_66
    refine W.eq (g2 := F0 mI 120 ls [.int (g 2)]) rfl ?_
    have fr_70 : ∀ q : Nat, ¬ q = m → ω_65.2 q = ω.2 q := by
      intro q h0
      rw [fr_68 q (by omega)]
    have z_71 : ω_65.1 = ω.1 := by rw [z_67]
    have hr_72 : accM s g wh = (((g 2), (upd s 14 0)) : Int32 × (Nat → Int32)) := by
      simp only [accM, hcc, hdd]
      rw [if_neg c_1, if_neg c_12, if_neg c_23, if_neg c_36, if_neg c_49, if_pos c_62]
    refine fw_iret hx hb hr hlocks hR hS dX11_account_120 ?_
    rw [hr_72]
    exact ⟨rfl, z_71, f_69, fr_70⟩
  by_cases c_73 : wh = 6
  · skip
    refine lv_tableIn (off := 105) (tgt := 106) hx hb dX11_account_1 (by rw [c_73]; decide) (by rw [c_73]; decide) (by rw [c_73]; rfl) (by decide) ?_
    refine lv_aload_n hx hb dX11_account_106 rfl (lv_at hl 0 rfl) ?_
    refine lv_aload_n hx hb dX11_account_107 rfl (lv_at hl 0 rfl) ?_
    refine fw_get (v := .ref (m + 1)) (C := RX11) (T := TX11) (N := 19) hx hb hts hin11 hown hK hR m0 rfl 0 (by decide) (hts (.fieldLink RX11 7 "UnreadLeafletsModel" "g" "[I") (by decide +kernel)) rfl dX11_account_108 ?_
    refine lv_iconst (v := 2) hx hb dX11_account_111 (by decide) ?_
    refine lv_iload_n hx hb dX11_account_112 rfl (lv_at hl 1 rfl) ?_
    refine lv_iadd hx hb dX11_account_113 ?_
    refine lv_iconst (v := 5) hx hb dX11_account_114 (by decide) ?_
    refine lv_isub hx hb dX11_account_115 ?_
    have hv_74 : (2 + wh) - 5 = 3 := by rw [c_73]; first | done | rfl
    refine W.eq (g2 := F0 mI 116 ls [.int 3, .ref (m + 1), .ref m]) (by rw [hv_74]) ?_
    refine fw_iald hx hb hK hR m1 (vp_in_nI (n := 3) (by omega) (by omega)) dX11_account_116 ?_
    refine W.eq (g2 := F0 mI 117 ls [.int (g 3), .ref m]) (by rw [show (3 : Int32).toNatClampNeg = 3 from rfl]) ?_
    refine fw_call (va_runV (As := [.int (g 3)]) (rest := []) ⟨hx, hb, hml, hown, hts⟩ (c_X11_done G hL l ω m s g m0 m1 (g 3)) (cwV 1 hts gX11_account_X11_done rfl rfl rfl (by decide +kernel) ⟨Nat.le_of_ble_eq_true rfl, Nat.le_of_ble_eq_true rfl⟩) (fw_preV hW hK hR m0 rfl) rfl rfl hl.1 rfl (lv_room (Nat.le_of_ble_eq_true rfl)) dX11_account_117 ⟨Nat.le_of_ble_eq_true rfl, Nat.le_of_ble_eq_true rfl⟩) hS (fun v_75 ω_76 H locs hq_77 hR hS => ?_)
    obtain ⟨rfl, z_78, f_80, fr_79⟩ := hq_77
    refine W.eq (g2 := F0 mI 120 ls [.int (g 3)]) rfl ?_
    have fr_81 : ∀ q : Nat, ¬ q = m → ω_76.2 q = ω.2 q := by
      intro q h0
      rw [fr_79 q (by omega)]
    have z_82 : ω_76.1 = ω.1 := by rw [z_78]
    have hr_83 : accM s g wh = (((g 3), (upd s 14 0)) : Int32 × (Nat → Int32)) := by
      simp only [accM, hcc, hdd]
      rw [if_neg c_1, if_neg c_12, if_neg c_23, if_neg c_36, if_neg c_49, if_neg c_62, if_pos c_73]
    refine fw_iret hx hb hr hlocks hR hS dX11_account_120 ?_
    rw [hr_83]
    exact ⟨rfl, z_82, f_80, fr_81⟩
  by_cases c_84 : wh = 7
  · skip
    refine lv_tableIn (off := 105) (tgt := 106) hx hb dX11_account_1 (by rw [c_84]; decide) (by rw [c_84]; decide) (by rw [c_84]; rfl) (by decide) ?_
    refine lv_aload_n hx hb dX11_account_106 rfl (lv_at hl 0 rfl) ?_
    refine lv_aload_n hx hb dX11_account_107 rfl (lv_at hl 0 rfl) ?_
    refine fw_get (v := .ref (m + 1)) (C := RX11) (T := TX11) (N := 19) hx hb hts hin11 hown hK hR m0 rfl 0 (by decide) (hts (.fieldLink RX11 7 "UnreadLeafletsModel" "g" "[I") (by decide +kernel)) rfl dX11_account_108 ?_
    refine lv_iconst (v := 2) hx hb dX11_account_111 (by decide) ?_
    refine lv_iload_n hx hb dX11_account_112 rfl (lv_at hl 1 rfl) ?_
    refine lv_iadd hx hb dX11_account_113 ?_
    refine lv_iconst (v := 5) hx hb dX11_account_114 (by decide) ?_
    refine lv_isub hx hb dX11_account_115 ?_
    have hv_85 : (2 + wh) - 5 = 4 := by rw [c_84]; first | done | rfl
    refine W.eq (g2 := F0 mI 116 ls [.int 4, .ref (m + 1), .ref m]) (by rw [hv_85]) ?_
    refine fw_iald hx hb hK hR m1 (vp_in_nI (n := 4) (by omega) (by omega)) dX11_account_116 ?_
    refine W.eq (g2 := F0 mI 117 ls [.int (g 4), .ref m]) (by rw [show (4 : Int32).toNatClampNeg = 4 from rfl]) ?_
    refine fw_call (va_runV (As := [.int (g 4)]) (rest := []) ⟨hx, hb, hml, hown, hts⟩ (c_X11_done G hL l ω m s g m0 m1 (g 4)) (cwV 1 hts gX11_account_X11_done rfl rfl rfl (by decide +kernel) ⟨Nat.le_of_ble_eq_true rfl, Nat.le_of_ble_eq_true rfl⟩) (fw_preV hW hK hR m0 rfl) rfl rfl hl.1 rfl (lv_room (Nat.le_of_ble_eq_true rfl)) dX11_account_117 ⟨Nat.le_of_ble_eq_true rfl, Nat.le_of_ble_eq_true rfl⟩) hS (fun v_86 ω_87 H locs hq_88 hR hS => ?_)
    obtain ⟨rfl, z_89, f_91, fr_90⟩ := hq_88
    refine W.eq (g2 := F0 mI 120 ls [.int (g 4)]) rfl ?_
    have fr_92 : ∀ q : Nat, ¬ q = m → ω_87.2 q = ω.2 q := by
      intro q h0
      rw [fr_90 q (by omega)]
    have z_93 : ω_87.1 = ω.1 := by rw [z_89]
    have hr_94 : accM s g wh = (((g 4), (upd s 14 0)) : Int32 × (Nat → Int32)) := by
      simp only [accM, hcc, hdd]
      rw [if_neg c_1, if_neg c_12, if_neg c_23, if_neg c_36, if_neg c_49, if_neg c_62, if_neg c_73, if_pos c_84]
    refine fw_iret hx hb hr hlocks hR hS dX11_account_120 ?_
    rw [hr_94]
    exact ⟨rfl, z_93, f_91, fr_92⟩
  by_cases c_95 : wh = 8
  · skip
    refine lv_tableIn (off := 105) (tgt := 106) hx hb dX11_account_1 (by rw [c_95]; decide) (by rw [c_95]; decide) (by rw [c_95]; rfl) (by decide) ?_
    refine lv_aload_n hx hb dX11_account_106 rfl (lv_at hl 0 rfl) ?_
    refine lv_aload_n hx hb dX11_account_107 rfl (lv_at hl 0 rfl) ?_
    refine fw_get (v := .ref (m + 1)) (C := RX11) (T := TX11) (N := 19) hx hb hts hin11 hown hK hR m0 rfl 0 (by decide) (hts (.fieldLink RX11 7 "UnreadLeafletsModel" "g" "[I") (by decide +kernel)) rfl dX11_account_108 ?_
    refine lv_iconst (v := 2) hx hb dX11_account_111 (by decide) ?_
    refine lv_iload_n hx hb dX11_account_112 rfl (lv_at hl 1 rfl) ?_
    refine lv_iadd hx hb dX11_account_113 ?_
    refine lv_iconst (v := 5) hx hb dX11_account_114 (by decide) ?_
    refine lv_isub hx hb dX11_account_115 ?_
    have hv_96 : (2 + wh) - 5 = 5 := by rw [c_95]; first | done | rfl
    refine W.eq (g2 := F0 mI 116 ls [.int 5, .ref (m + 1), .ref m]) (by rw [hv_96]) ?_
    refine fw_iald hx hb hK hR m1 (vp_in_nI (n := 5) (by omega) (by omega)) dX11_account_116 ?_
    refine W.eq (g2 := F0 mI 117 ls [.int (g 5), .ref m]) (by rw [show (5 : Int32).toNatClampNeg = 5 from rfl]) ?_
    refine fw_call (va_runV (As := [.int (g 5)]) (rest := []) ⟨hx, hb, hml, hown, hts⟩ (c_X11_done G hL l ω m s g m0 m1 (g 5)) (cwV 1 hts gX11_account_X11_done rfl rfl rfl (by decide +kernel) ⟨Nat.le_of_ble_eq_true rfl, Nat.le_of_ble_eq_true rfl⟩) (fw_preV hW hK hR m0 rfl) rfl rfl hl.1 rfl (lv_room (Nat.le_of_ble_eq_true rfl)) dX11_account_117 ⟨Nat.le_of_ble_eq_true rfl, Nat.le_of_ble_eq_true rfl⟩) hS (fun v_97 ω_98 H locs hq_99 hR hS => ?_)
    obtain ⟨rfl, z_100, f_102, fr_101⟩ := hq_99
    refine W.eq (g2 := F0 mI 120 ls [.int (g 5)]) rfl ?_
    have fr_103 : ∀ q : Nat, ¬ q = m → ω_98.2 q = ω.2 q := by
      intro q h0
      rw [fr_101 q (by omega)]
    have z_104 : ω_98.1 = ω.1 := by rw [z_100]
    have hr_105 : accM s g wh = (((g 5), (upd s 14 0)) : Int32 × (Nat → Int32)) := by
      simp only [accM, hcc, hdd]
      rw [if_neg c_1, if_neg c_12, if_neg c_23, if_neg c_36, if_neg c_49, if_neg c_62, if_neg c_73, if_neg c_84, if_pos c_95]
    refine fw_iret hx hb hr hlocks hR hS dX11_account_120 ?_
    rw [hr_105]
    exact ⟨rfl, z_104, f_102, fr_103⟩
  by_cases c_106 : wh = 9
  · skip
    refine lv_tableIn (off := 120) (tgt := 121) hx hb dX11_account_1 (by rw [c_106]; decide) (by rw [c_106]; decide) (by rw [c_106]; rfl) (by decide) ?_
    refine lv_aload_n hx hb dX11_account_121 rfl (lv_at hl 0 rfl) ?_
    refine lv_aload_n hx hb dX11_account_122 rfl (lv_at hl 0 rfl) ?_
    refine fw_get (v := .int (s 3)) (C := RX11) (T := TX11) (N := 19) hx hb hts hin11 hown hK hR m0 rfl 3 (by decide) (hts (.fieldLink RX11 59 "UnreadLeafletsModel" "changes" "I") (by decide +kernel)) rfl dX11_account_123 ?_
    refine fw_call (va_runV (As := [.int (s 3)]) (rest := []) ⟨hx, hb, hml, hown, hts⟩ (c_X11_done G hL l ω m s g m0 m1 (s 3)) (cwV 1 hts gX11_account_X11_done rfl rfl rfl (by decide +kernel) ⟨Nat.le_of_ble_eq_true rfl, Nat.le_of_ble_eq_true rfl⟩) (fw_preV hW hK hR m0 rfl) rfl rfl hl.1 rfl (lv_room (Nat.le_of_ble_eq_true rfl)) dX11_account_126 ⟨Nat.le_of_ble_eq_true rfl, Nat.le_of_ble_eq_true rfl⟩) hS (fun v_107 ω_108 H locs hq_109 hR hS => ?_)
    obtain ⟨rfl, z_110, f_112, fr_111⟩ := hq_109
    refine W.eq (g2 := F0 mI 129 ls [.int (s 3)]) rfl ?_
    have fr_113 : ∀ q : Nat, ¬ q = m → ω_108.2 q = ω.2 q := by
      intro q h0
      rw [fr_111 q (by omega)]
    have z_114 : ω_108.1 = ω.1 := by rw [z_110]
    have hr_115 : accM s g wh = (((s 3), (upd s 14 0)) : Int32 × (Nat → Int32)) := by
      simp only [accM, hcc, hdd]
      rw [if_neg c_1, if_neg c_12, if_neg c_23, if_neg c_36, if_neg c_49, if_neg c_62, if_neg c_73, if_neg c_84, if_neg c_95, if_pos c_106]
    refine fw_iret hx hb hr hlocks hR hS dX11_account_129 ?_
    rw [hr_115]
    exact ⟨rfl, z_114, f_112, fr_113⟩
  by_cases c_116 : wh = 10
  · skip
    refine lv_tableIn (off := 129) (tgt := 130) hx hb dX11_account_1 (by rw [c_116]; decide) (by rw [c_116]; decide) (by rw [c_116]; rfl) (by decide) ?_
    refine lv_aload_n hx hb dX11_account_130 rfl (lv_at hl 0 rfl) ?_
    refine lv_aload_n hx hb dX11_account_131 rfl (lv_at hl 0 rfl) ?_
    refine fw_get (v := .int (s 7)) (C := RX11) (T := TX11) (N := 19) hx hb hts hin11 hown hK hR m0 rfl 7 (by decide) (hts (.fieldLink RX11 189 "UnreadLeafletsModel" "typed" "I") (by decide +kernel)) rfl dX11_account_132 ?_
    refine fw_call (va_runV (As := [.int (s 7)]) (rest := []) ⟨hx, hb, hml, hown, hts⟩ (c_X11_done G hL l ω m s g m0 m1 (s 7)) (cwV 1 hts gX11_account_X11_done rfl rfl rfl (by decide +kernel) ⟨Nat.le_of_ble_eq_true rfl, Nat.le_of_ble_eq_true rfl⟩) (fw_preV hW hK hR m0 rfl) rfl rfl hl.1 rfl (lv_room (Nat.le_of_ble_eq_true rfl)) dX11_account_135 ⟨Nat.le_of_ble_eq_true rfl, Nat.le_of_ble_eq_true rfl⟩) hS (fun v_117 ω_118 H locs hq_119 hR hS => ?_)
    obtain ⟨rfl, z_120, f_122, fr_121⟩ := hq_119
    refine W.eq (g2 := F0 mI 138 ls [.int (s 7)]) rfl ?_
    have fr_123 : ∀ q : Nat, ¬ q = m → ω_118.2 q = ω.2 q := by
      intro q h0
      rw [fr_121 q (by omega)]
    have z_124 : ω_118.1 = ω.1 := by rw [z_120]
    have hr_125 : accM s g wh = (((s 7), (upd s 14 0)) : Int32 × (Nat → Int32)) := by
      simp only [accM, hcc, hdd]
      rw [if_neg c_1, if_neg c_12, if_neg c_23, if_neg c_36, if_neg c_49, if_neg c_62, if_neg c_73, if_neg c_84, if_neg c_95, if_neg c_106, if_pos c_116]
    refine fw_iret hx hb hr hlocks hR hS dX11_account_138 ?_
    rw [hr_125]
    exact ⟨rfl, z_124, f_122, fr_123⟩
  have tc_1 := lv_neT c_1 (show (0 : Int32).toInt = 0 by decide)
  have tc_12 := lv_neT c_12 (show (1 : Int32).toInt = 1 by decide)
  have tc_23 := lv_neT c_23 (show (2 : Int32).toInt = 2 by decide)
  have tc_36 := lv_neT c_36 (show (3 : Int32).toInt = 3 by decide)
  have tc_49 := lv_neT c_49 (show (4 : Int32).toInt = 4 by decide)
  have tc_62 := lv_neT c_62 (show (5 : Int32).toInt = 5 by decide)
  have tc_73 := lv_neT c_73 (show (6 : Int32).toInt = 6 by decide)
  have tc_84 := lv_neT c_84 (show (7 : Int32).toInt = 7 by decide)
  have tc_95 := lv_neT c_95 (show (8 : Int32).toInt = 8 by decide)
  have tc_106 := lv_neT c_106 (show (9 : Int32).toInt = 9 by decide)
  have tc_116 := lv_neT c_116 (show (10 : Int32).toInt = 10 by decide)
  refine lv_tableOut (tgt := 139) hx hb dX11_account_1 (by omega) (by decide) ?_
  refine lv_aload_n hx hb dX11_account_139 rfl (lv_at hl 0 rfl) ?_
  refine lv_iconst (v := 1) hx hb dX11_account_140 (by decide) ?_
  refine fw_call (va_runV (As := [.int 1]) (rest := []) ⟨hx, hb, hml, hown, hts⟩ (c_X11_fails G hL l ω m s g m0 m1 1) (cwV 1 hts gX11_account_X11_fails rfl rfl rfl (by decide +kernel) ⟨Nat.le_of_ble_eq_true rfl, Nat.le_of_ble_eq_true rfl⟩) (fw_preV hW hK hR m0 rfl) rfl rfl hl.1 rfl (lv_room (Nat.le_of_ble_eq_true rfl)) dX11_account_141 ⟨Nat.le_of_ble_eq_true rfl, Nat.le_of_ble_eq_true rfl⟩) hS (fun v_126 ω_127 H locs hq_128 hR hS => ?_)
  obtain ⟨rfl, z_129, f_131, fr_130⟩ := hq_128
  refine W.eq (g2 := F0 mI 144 ls [.int 0]) rfl ?_
  have fr_132 : ∀ q : Nat, ¬ q = m → ω_127.2 q = ω.2 q := by
    intro q h0
    rw [fr_130 q (by omega)]
  have z_133 : ω_127.1 = ω.1 := by rw [z_129]
  have hr_134 : accM s g wh = ((0, (upd s 14 1)) : Int32 × (Nat → Int32)) := by
    simp only [accM, hcc, hdd]
    rw [if_neg c_1, if_neg c_12, if_neg c_23, if_neg c_36, if_neg c_49, if_neg c_62, if_neg c_73, if_neg c_84, if_neg c_95, if_neg c_106, if_neg c_116]
  refine fw_iret hx hb hr hlocks hR hS dX11_account_144 ?_
  rw [hr_134]
  exact ⟨rfl, z_133, f_131, fr_132⟩
def undoM (s g hs : Nat → Int32) : Int32 × (Nat → Int32) × (Nat → Int32) := if (s 3) = 0 then ((0, (upd s 14 1), g)) else ((((s 3) - 1), (upd (upd s 3 ((s 3) - 1)) 14 0), (fun j9 => hs ((((cN (s 3)) - 1) * 324) + j9))))
set_option maxHeartbeats 4000000 in
set_option maxRecDepth 100000 in
theorem c_X11_undo (G : FG) (hL : FL G) (l : Launch) (ω : FWd) (m : Nat) (s g : Nat → Int32) (m0 : ω.2 m = some (.inr (13, [.ref (m + 1), .ref (m + 2), .ref (m + 3), .int (s 3), .ref (m + 4), .int (s 5), .ref (m + 5), .int (s 7), .int (s 8), .int (s 9), .int (s 10), .int (s 11), .ref (m + 6), .int (s 13), .int (s 14), .ref (m + 7), .int (s 16), .int (s 17), .ref (m + 8)]))) (m1 : ω.2 (m + 1) = some (.inl (G.2.1 0, 324, .inl g))) (hs : Nat → Int32) (m3 : ω.2 (m + 3) = some (.inl (G.2.1 0, 2592, .inl hs))) (hk : okN (s 3) 8) : FMet G l yX11_undo wsX11_undo ({ frames := 1, cells := 0, slots := 0, locals := 24 } : Room) [.ref m] ω (fun vv9 τ9 => vv9 = some (.int ((undoM s g hs).1)) ∧ τ9.1 = ω.1 ∧ τ9.2 m = some (.inr (13, [.ref (m + 1), .ref (m + 2), .ref (m + 3), .int (((undoM s g hs).2.1) 3), .ref (m + 4), .int (((undoM s g hs).2.1) 5), .ref (m + 5), .int (((undoM s g hs).2.1) 7), .int (((undoM s g hs).2.1) 8), .int (((undoM s g hs).2.1) 9), .int (((undoM s g hs).2.1) 10), .int (((undoM s g hs).2.1) 11), .ref (m + 6), .int (((undoM s g hs).2.1) 13), .int (((undoM s g hs).2.1) 14), .ref (m + 7), .int (((undoM s g hs).2.1) 16), .int (((undoM s g hs).2.1) 17), .ref (m + 8)])) ∧ τ9.2 (m + 1) = some (.inl (G.2.1 0, 324, .inl ((undoM s g hs).2.2))) ∧ ∀ q : Nat, ¬ q = m → ¬ q = (m + 1) → τ9.2 q = ω.2 q) 0 0 := by
  refine fw_ofW (cc := cX11_undo) (maxL := 1) (ret := (some .int)) (by decide) rfl (Nat.le_of_ble_eq_true rfl) ?_
  intro pP eE sS mI ar9 bl9 meth cD ls hx hb hr hlocks hml hts hown hnm hW hR hl
  have hK := hL.K hW
  have hS : va_S (fwA G) sS.heap sS.heap [] := va_S.rf
  have hin11 : ∀ w ∈ u_ws RX11 TX11 19, w ∈ wsX11_undo := by decide +kernel
  have hl : lv_has ls 1 [(0, .ref m)] := hl
  obtain ⟨ch, hch8, hch, hchc⟩ := okN_of hk
  refine lv_aload_n hx hb dX11_undo_0 rfl (lv_at hl 0 rfl) ?_
  refine fw_get (v := .int (s 3)) (C := RX11) (T := TX11) (N := 19) hx hb hts hin11 hown hK hR m0 rfl 3 (by decide) (hts (.fieldLink RX11 59 "UnreadLeafletsModel" "changes" "I") (by decide +kernel)) rfl dX11_undo_1 ?_
  refine lv_if_ne (tgt := 13) hx hb dX11_undo_4 (by decide) (fun c_1 => ?_) (fun c_1 => ?_)
  · skip
    have hch1 : 0 < ch := by rcases Nat.eq_zero_or_pos ch with h9 | h9; exact absurd (by rw [hch, h9]; rfl) c_1; exact h9
    refine lv_aload_n hx hb dX11_undo_13 rfl (lv_at hl 0 rfl) ?_
    refine lv_dup hx hb dX11_undo_14 rfl ?_
    refine fw_get (v := .int (s 3)) (C := RX11) (T := TX11) (N := 19) hx hb hts hin11 hown hK hR m0 rfl 3 (by decide) (hts (.fieldLink RX11 59 "UnreadLeafletsModel" "changes" "I") (by decide +kernel)) rfl dX11_undo_15 ?_
    refine lv_iconst (v := 1) hx hb dX11_undo_18 (by decide) ?_
    refine lv_isub hx hb dX11_undo_19 ?_
    refine fw_put (v := .int ((s 3) - 1)) (C := RX11) (T := TX11) (N := 19) hx hb hts hin11 tyX11 tyX11_ok nmX11 hown hK hR hS m0 rfl 3 (by decide) (hts (.fieldLink RX11 59 "UnreadLeafletsModel" "changes" "I") (by decide +kernel)) rfl rfl rfl (Nat.le_of_ble_eq_true rfl) dX11_undo_20 (fun H locs hR hS => ?_)
    obtain ⟨ω_2, hw_3⟩ : ∃ τ : FWd, τ = (ω.1, va_up ω.2 m (some (.inr (13, [.ref (m + 1), .ref (m + 2), .ref (m + 3), .int ((upd s 3 ((s 3) - 1)) 3), .ref (m + 4), .int ((upd s 3 ((s 3) - 1)) 5), .ref (m + 5), .int ((upd s 3 ((s 3) - 1)) 7), .int ((upd s 3 ((s 3) - 1)) 8), .int ((upd s 3 ((s 3) - 1)) 9), .int ((upd s 3 ((s 3) - 1)) 10), .int ((upd s 3 ((s 3) - 1)) 11), .ref (m + 6), .int ((upd s 3 ((s 3) - 1)) 13), .int ((upd s 3 ((s 3) - 1)) 14), .ref (m + 7), .int ((upd s 3 ((s 3) - 1)) 16), .int ((upd s 3 ((s 3) - 1)) 17), .ref (m + 8)])))) := ⟨_, rfl⟩
    have hR : fR G ω_2 H := by rw [hw_3]; exact hR
    have f_4 : ω_2.2 m = some (.inr (13, [.ref (m + 1), .ref (m + 2), .ref (m + 3), .int ((upd s 3 ((s 3) - 1)) 3), .ref (m + 4), .int ((upd s 3 ((s 3) - 1)) 5), .ref (m + 5), .int ((upd s 3 ((s 3) - 1)) 7), .int ((upd s 3 ((s 3) - 1)) 8), .int ((upd s 3 ((s 3) - 1)) 9), .int ((upd s 3 ((s 3) - 1)) 10), .int ((upd s 3 ((s 3) - 1)) 11), .ref (m + 6), .int ((upd s 3 ((s 3) - 1)) 13), .int ((upd s 3 ((s 3) - 1)) 14), .ref (m + 7), .int ((upd s 3 ((s 3) - 1)) 16), .int ((upd s 3 ((s 3) - 1)) 17), .ref (m + 8)])) := by rw [hw_3]; exact va_up_at
    have fr_5 : ∀ q : Nat, ¬ q = m → ω_2.2 q = ω.2 q := fun q hq => by rw [hw_3]; exact va_up_off hq
    have z_6 : ω_2.1 = ω.1 := by rw [hw_3]
    refine lv_aload_n hx hb dX11_undo_23 rfl (lv_at hl 0 rfl) ?_
    refine fw_get (v := .ref (m + 3)) (C := RX11) (T := TX11) (N := 19) hx hb hts hin11 hown hK hR f_4 rfl 2 (by decide) (hts (.fieldLink RX11 16 "UnreadLeafletsModel" "history" "[I") (by decide +kernel)) rfl dX11_undo_24 ?_
    refine lv_aload_n hx hb dX11_undo_27 rfl (lv_at hl 0 rfl) ?_
    refine fw_get (v := .int ((s 3) - 1)) (C := RX11) (T := TX11) (N := 19) hx hb hts hin11 hown hK hR f_4 rfl 3 (by decide) (hts (.fieldLink RX11 59 "UnreadLeafletsModel" "changes" "I") (by decide +kernel)) rfl dX11_undo_28 ?_
    refine W.eq (g2 := F0 mI 31 ls [.int (nI (ch - 1)), .ref (m + 3)]) (by rw [hch, nI_m1 hch1]) ?_
    refine lv_sipush (v := 324) hx hb dX11_undo_31 (by decide) ?_
    refine lv_imul hx hb dX11_undo_34 ?_
    have hi_7 : (nI (ch - 1)) * 324 = nI ((ch - 1) * 324) := by
      show (nI (ch - 1)) * (nI 324) = _
      simp only [pk_mul, nI_add, Nat.add_assoc, hch]
    refine W.eq (g2 := F0 mI 35 ls [.int (nI ((ch - 1) * 324)), .ref (m + 3)]) (by rw [hi_7]) ?_
    refine lv_aload_n hx hb dX11_undo_35 rfl (lv_at hl 0 rfl) ?_
    refine fw_get (v := .ref (m + 1)) (C := RX11) (T := TX11) (N := 19) hx hb hts hin11 hown hK hR f_4 rfl 0 (by decide) (hts (.fieldLink RX11 7 "UnreadLeafletsModel" "g" "[I") (by decide +kernel)) rfl dX11_undo_36 ?_
    refine lv_iconst (v := 0) hx hb dX11_undo_39 (by decide) ?_
    have f_8 : ω_2.2 (m + 3) = some (.inl (G.2.1 0, 2592, .inl hs)) := (fr_5 (m + 3) (by omega)).trans m3
    have f_9 : ω_2.2 (m + 1) = some (.inl (G.2.1 0, 324, .inl g)) := (fr_5 (m + 1) (by omega)).trans m1
    refine fw_call (va_runS (As := [.ref (m + 3), .int (nI ((ch - 1) * 324)), .ref (m + 1), .int 0]) (rest := []) ⟨hx, hb, hml, hown, hts⟩ (c_X11_copy G hL l ω_2 (m + 3) (m + 1) 2592 324 ((ch - 1) * 324) 0 hs g f_8 f_9 (by omega) (by omega) (by omega) (by omega) (by omega)) (va_cwS 4 hts gX11_undo_X11_copy rfl rfl rfl (by decide +kernel) ⟨Nat.le_of_ble_eq_true rfl, Nat.le_of_ble_eq_true rfl⟩) (fw_preS hW hR) rfl rfl hl.1 rfl (lv_room (Nat.le_of_ble_eq_true rfl)) dX11_undo_40 ⟨Nat.le_of_ble_eq_true rfl, Nat.le_of_ble_eq_true rfl⟩) hS (fun v_10 ω_11 H locs hq_12 hR hS => ?_)
    obtain ⟨rfl, z_13, f_15, fr_14⟩ := hq_12
    refine W.eq (g2 := F0 mI 43 ls []) rfl ?_
    have hR := hR.rowAt f_15 (g := (fun j9 => hs (((ch - 1) * 324) + j9))) (fun j9 hj9 => by have h9 := cpyJ_at (f := hs) (h := g) (p := ((ch - 1) * 324)) (q := 0) hj9; rw [Nat.zero_add] at h9; exact h9)
    obtain ⟨ω_16, hw_17⟩ : ∃ τ : FWd, τ = (ω_11.1, va_up ω_11.2 (m + 1) (some (.inl (G.2.1 0, 324, .inl (fun j9 => hs (((ch - 1) * 324) + j9)))))) := ⟨_, rfl⟩
    have hR : fR G ω_16 H := by rw [hw_17]; exact hR
    have f_18 : ω_16.2 (m + 1) = some (.inl (G.2.1 0, 324, .inl (fun j9 => hs (((ch - 1) * 324) + j9)))) := by rw [hw_17]; exact va_up_at
    have fr_19 : ∀ q : Nat, ¬ q = (m + 1) → ω_16.2 q = ω_11.2 q := fun q hq => by rw [hw_17]; exact va_up_off hq
    have z_20 : ω_16.1 = ω_11.1 := by rw [hw_17]
    refine lv_aload_n hx hb dX11_undo_43 rfl (lv_at hl 0 rfl) ?_
    refine lv_aload_n hx hb dX11_undo_44 rfl (lv_at hl 0 rfl) ?_
    have f_21 : ω_11.2 m = some (.inr (13, [.ref (m + 1), .ref (m + 2), .ref (m + 3), .int ((upd s 3 ((s 3) - 1)) 3), .ref (m + 4), .int ((upd s 3 ((s 3) - 1)) 5), .ref (m + 5), .int ((upd s 3 ((s 3) - 1)) 7), .int ((upd s 3 ((s 3) - 1)) 8), .int ((upd s 3 ((s 3) - 1)) 9), .int ((upd s 3 ((s 3) - 1)) 10), .int ((upd s 3 ((s 3) - 1)) 11), .ref (m + 6), .int ((upd s 3 ((s 3) - 1)) 13), .int ((upd s 3 ((s 3) - 1)) 14), .ref (m + 7), .int ((upd s 3 ((s 3) - 1)) 16), .int ((upd s 3 ((s 3) - 1)) 17), .ref (m + 8)])) := (fr_14 m (by omega)).trans f_4
    have f_22 : ω_16.2 m = some (.inr (13, [.ref (m + 1), .ref (m + 2), .ref (m + 3), .int ((upd s 3 ((s 3) - 1)) 3), .ref (m + 4), .int ((upd s 3 ((s 3) - 1)) 5), .ref (m + 5), .int ((upd s 3 ((s 3) - 1)) 7), .int ((upd s 3 ((s 3) - 1)) 8), .int ((upd s 3 ((s 3) - 1)) 9), .int ((upd s 3 ((s 3) - 1)) 10), .int ((upd s 3 ((s 3) - 1)) 11), .ref (m + 6), .int ((upd s 3 ((s 3) - 1)) 13), .int ((upd s 3 ((s 3) - 1)) 14), .ref (m + 7), .int ((upd s 3 ((s 3) - 1)) 16), .int ((upd s 3 ((s 3) - 1)) 17), .ref (m + 8)])) := (fr_19 m (by omega)).trans f_21
    refine fw_get (v := .int ((s 3) - 1)) (C := RX11) (T := TX11) (N := 19) hx hb hts hin11 hown hK hR f_22 rfl 3 (by decide) (hts (.fieldLink RX11 59 "UnreadLeafletsModel" "changes" "I") (by decide +kernel)) rfl dX11_undo_45 ?_
    refine fw_call (va_runV (As := [.int ((s 3) - 1)]) (rest := []) ⟨hx, hb, hml, hown, hts⟩ (c_X11_done G hL l ω_16 m (upd s 3 ((s 3) - 1)) (fun j9 => hs (((ch - 1) * 324) + j9)) f_22 f_18 ((s 3) - 1)) (cwV 1 hts gX11_undo_X11_done rfl rfl rfl (by decide +kernel) ⟨Nat.le_of_ble_eq_true rfl, Nat.le_of_ble_eq_true rfl⟩) (fw_preV hW hK hR f_22 rfl) rfl rfl hl.1 rfl (lv_room (Nat.le_of_ble_eq_true rfl)) dX11_undo_48 ⟨Nat.le_of_ble_eq_true rfl, Nat.le_of_ble_eq_true rfl⟩) hS (fun v_23 ω_24 H locs hq_25 hR hS => ?_)
    obtain ⟨rfl, z_26, f_28, fr_27⟩ := hq_25
    refine W.eq (g2 := F0 mI 51 ls [.int ((s 3) - 1)]) rfl ?_
    have f_29 : ω_24.2 (m + 1) = some (.inl (G.2.1 0, 324, .inl (fun j9 => hs (((ch - 1) * 324) + j9)))) := (fr_27 (m + 1) (by omega)).trans f_18
    have fr_30 : ∀ q : Nat, ¬ q = m → ¬ q = (m + 1) → ω_24.2 q = ω.2 q := by
      intro q h0 h1
      rw [fr_27 q (by omega)]
      rw [fr_19 q (by omega)]
      rw [fr_14 q (by omega)]
      rw [fr_5 q (by omega)]
    have z_31 : ω_24.1 = ω.1 := by rw [z_26, z_20, z_13, z_6]
    have hr_32 : undoM s g hs = ((((s 3) - 1), (upd (upd s 3 ((s 3) - 1)) 14 0), (fun j9 => hs (((ch - 1) * 324) + j9))) : Int32 × (Nat → Int32) × (Nat → Int32)) := by
      simp only [undoM, hchc]
      rw [if_neg c_1]
    refine fw_iret hx hb hr hlocks hR hS dX11_undo_51 ?_
    rw [hr_32]
    exact ⟨rfl, z_31, f_28, f_29, fr_30⟩
  · skip
    refine lv_aload_n hx hb dX11_undo_7 rfl (lv_at hl 0 rfl) ?_
    refine lv_iconst (v := 1) hx hb dX11_undo_8 (by decide) ?_
    refine fw_call (va_runV (As := [.int 1]) (rest := []) ⟨hx, hb, hml, hown, hts⟩ (c_X11_fails G hL l ω m s g m0 m1 1) (cwV 1 hts gX11_undo_X11_fails rfl rfl rfl (by decide +kernel) ⟨Nat.le_of_ble_eq_true rfl, Nat.le_of_ble_eq_true rfl⟩) (fw_preV hW hK hR m0 rfl) rfl rfl hl.1 rfl (lv_room (Nat.le_of_ble_eq_true rfl)) dX11_undo_9 ⟨Nat.le_of_ble_eq_true rfl, Nat.le_of_ble_eq_true rfl⟩) hS (fun v_33 ω_34 H locs hq_35 hR hS => ?_)
    obtain ⟨rfl, z_36, f_38, fr_37⟩ := hq_35
    refine W.eq (g2 := F0 mI 12 ls [.int 0]) rfl ?_
    have f_39 : ω_34.2 (m + 1) = some (.inl (G.2.1 0, 324, .inl g)) := (fr_37 (m + 1) (by omega)).trans m1
    have fr_40 : ∀ q : Nat, ¬ q = m → ¬ q = (m + 1) → ω_34.2 q = ω.2 q := by
      intro q h0 h1
      rw [fr_37 q (by omega)]
    have z_41 : ω_34.1 = ω.1 := by rw [z_36]
    have hr_42 : undoM s g hs = ((0, (upd s 14 1), g) : Int32 × (Nat → Int32) × (Nat → Int32)) := by
      simp only [undoM, hchc]
      rw [if_pos c_1]
    refine fw_iret hx hb hr hlocks hR hS dX11_undo_12 ?_
    rw [hr_42]
    exact ⟨rfl, z_41, f_38, f_39, fr_40⟩
def saveM (s g sv : Nat → Int32) : Int32 × (Nat → Int32) × (Nat → Int32) := ((g 0), (upd (upd s 5 1) 14 0), g)
set_option maxHeartbeats 4000000 in
set_option maxRecDepth 100000 in
theorem c_X11_save (G : FG) (hL : FL G) (l : Launch) (ω : FWd) (m : Nat) (s g : Nat → Int32) (m0 : ω.2 m = some (.inr (13, [.ref (m + 1), .ref (m + 2), .ref (m + 3), .int (s 3), .ref (m + 4), .int (s 5), .ref (m + 5), .int (s 7), .int (s 8), .int (s 9), .int (s 10), .int (s 11), .ref (m + 6), .int (s 13), .int (s 14), .ref (m + 7), .int (s 16), .int (s 17), .ref (m + 8)]))) (m1 : ω.2 (m + 1) = some (.inl (G.2.1 0, 324, .inl g))) (sv : Nat → Int32) (m4 : ω.2 (m + 4) = some (.inl (G.2.1 0, 324, .inl sv))) (hM : WFM g) : FMet G l yX11_save wsX11_save ({ frames := 1, cells := 0, slots := 0, locals := 24 } : Room) [.ref m] ω (fun vv9 τ9 => vv9 = some (.int ((saveM s g sv).1)) ∧ τ9.1 = ω.1 ∧ τ9.2 m = some (.inr (13, [.ref (m + 1), .ref (m + 2), .ref (m + 3), .int (((saveM s g sv).2.1) 3), .ref (m + 4), .int (((saveM s g sv).2.1) 5), .ref (m + 5), .int (((saveM s g sv).2.1) 7), .int (((saveM s g sv).2.1) 8), .int (((saveM s g sv).2.1) 9), .int (((saveM s g sv).2.1) 10), .int (((saveM s g sv).2.1) 11), .ref (m + 6), .int (((saveM s g sv).2.1) 13), .int (((saveM s g sv).2.1) 14), .ref (m + 7), .int (((saveM s g sv).2.1) 16), .int (((saveM s g sv).2.1) 17), .ref (m + 8)])) ∧ τ9.2 (m + 4) = some (.inl (G.2.1 0, 324, .inl ((saveM s g sv).2.2))) ∧ ∀ q : Nat, ¬ q = m → ¬ q = (m + 4) → τ9.2 q = ω.2 q) 0 0 := by
  refine fw_ofW (cc := cX11_save) (maxL := 1) (ret := (some .int)) (by decide) rfl (Nat.le_of_ble_eq_true rfl) ?_
  intro pP eE sS mI ar9 bl9 meth cD ls hx hb hr hlocks hml hts hown hnm hW hR hl
  have hK := hL.K hW
  have hS : va_S (fwA G) sS.heap sS.heap [] := va_S.rf
  have hin11 : ∀ w ∈ u_ws RX11 TX11 19, w ∈ wsX11_save := by decide +kernel
  have hl : lv_has ls 1 [(0, .ref m)] := hl
  obtain ⟨c, hc8, hc, hcc⟩ := okN_of hM.1
  obtain ⟨cc, hd5, hd, hdd⟩ := okN_of hM.2.1
  refine lv_aload_n hx hb dX11_save_0 rfl (lv_at hl 0 rfl) ?_
  refine fw_get (v := .ref (m + 1)) (C := RX11) (T := TX11) (N := 19) hx hb hts hin11 hown hK hR m0 rfl 0 (by decide) (hts (.fieldLink RX11 7 "UnreadLeafletsModel" "g" "[I") (by decide +kernel)) rfl dX11_save_1 ?_
  refine lv_iconst (v := 0) hx hb dX11_save_4 (by decide) ?_
  refine lv_aload_n hx hb dX11_save_5 rfl (lv_at hl 0 rfl) ?_
  refine fw_get (v := .ref (m + 4)) (C := RX11) (T := TX11) (N := 19) hx hb hts hin11 hown hK hR m0 rfl 4 (by decide) (hts (.fieldLink RX11 19 "UnreadLeafletsModel" "savedOnes" "[I") (by decide +kernel)) rfl dX11_save_6 ?_
  refine lv_iconst (v := 0) hx hb dX11_save_9 (by decide) ?_
  refine fw_call (va_runS (As := [.ref (m + 1), .int 0, .ref (m + 4), .int 0]) (rest := []) ⟨hx, hb, hml, hown, hts⟩ (c_X11_copy G hL l ω (m + 1) (m + 4) 324 324 0 0 g sv m1 m4 (by omega) (by omega) (by omega) (by omega) (by omega)) (va_cwS 4 hts gX11_save_X11_copy rfl rfl rfl (by decide +kernel) ⟨Nat.le_of_ble_eq_true rfl, Nat.le_of_ble_eq_true rfl⟩) (fw_preS hW hR) rfl rfl hl.1 rfl (lv_room (Nat.le_of_ble_eq_true rfl)) dX11_save_10 ⟨Nat.le_of_ble_eq_true rfl, Nat.le_of_ble_eq_true rfl⟩) hS (fun v_1 ω_2 H locs hq_3 hR hS => ?_)
  obtain ⟨rfl, z_4, f_6, fr_5⟩ := hq_3
  refine W.eq (g2 := F0 mI 13 ls []) rfl ?_
  have hR := hR.rowAt f_6 (g := g) (fun j9 hj9 => by have h9 := cpyJ_at (f := g) (h := sv) (p := 0) (q := 0) hj9; rw [Nat.zero_add] at h9; exact h9)
  obtain ⟨ω_7, hw_8⟩ : ∃ τ : FWd, τ = (ω_2.1, va_up ω_2.2 (m + 4) (some (.inl (G.2.1 0, 324, .inl g)))) := ⟨_, rfl⟩
  have hR : fR G ω_7 H := by rw [hw_8]; exact hR
  have f_9 : ω_7.2 (m + 4) = some (.inl (G.2.1 0, 324, .inl g)) := by rw [hw_8]; exact va_up_at
  have fr_10 : ∀ q : Nat, ¬ q = (m + 4) → ω_7.2 q = ω_2.2 q := fun q hq => by rw [hw_8]; exact va_up_off hq
  have z_11 : ω_7.1 = ω_2.1 := by rw [hw_8]
  refine lv_aload_n hx hb dX11_save_13 rfl (lv_at hl 0 rfl) ?_
  refine lv_iconst (v := 1) hx hb dX11_save_14 (by decide) ?_
  have f_12 : ω_2.2 m = some (.inr (13, [.ref (m + 1), .ref (m + 2), .ref (m + 3), .int (s 3), .ref (m + 4), .int (s 5), .ref (m + 5), .int (s 7), .int (s 8), .int (s 9), .int (s 10), .int (s 11), .ref (m + 6), .int (s 13), .int (s 14), .ref (m + 7), .int (s 16), .int (s 17), .ref (m + 8)])) := (fr_5 m (by omega)).trans m0
  have f_13 : ω_7.2 m = some (.inr (13, [.ref (m + 1), .ref (m + 2), .ref (m + 3), .int (s 3), .ref (m + 4), .int (s 5), .ref (m + 5), .int (s 7), .int (s 8), .int (s 9), .int (s 10), .int (s 11), .ref (m + 6), .int (s 13), .int (s 14), .ref (m + 7), .int (s 16), .int (s 17), .ref (m + 8)])) := (fr_10 m (by omega)).trans f_12
  refine fw_put (v := .int 1) (C := RX11) (T := TX11) (N := 19) hx hb hts hin11 tyX11 tyX11_ok nmX11 hown hK hR hS f_13 rfl 5 (by decide) (hts (.fieldLink RX11 233 "UnreadLeafletsModel" "hasSaved" "Z") (by decide +kernel)) rfl rfl rfl (Nat.le_of_ble_eq_true rfl) dX11_save_15 (fun H locs hR hS => ?_)
  obtain ⟨ω_14, hw_15⟩ : ∃ τ : FWd, τ = (ω_7.1, va_up ω_7.2 m (some (.inr (13, [.ref (m + 1), .ref (m + 2), .ref (m + 3), .int ((upd s 5 1) 3), .ref (m + 4), .int ((upd s 5 1) 5), .ref (m + 5), .int ((upd s 5 1) 7), .int ((upd s 5 1) 8), .int ((upd s 5 1) 9), .int ((upd s 5 1) 10), .int ((upd s 5 1) 11), .ref (m + 6), .int ((upd s 5 1) 13), .int ((upd s 5 1) 14), .ref (m + 7), .int ((upd s 5 1) 16), .int ((upd s 5 1) 17), .ref (m + 8)])))) := ⟨_, rfl⟩
  have hR : fR G ω_14 H := by rw [hw_15]; exact hR
  have f_16 : ω_14.2 m = some (.inr (13, [.ref (m + 1), .ref (m + 2), .ref (m + 3), .int ((upd s 5 1) 3), .ref (m + 4), .int ((upd s 5 1) 5), .ref (m + 5), .int ((upd s 5 1) 7), .int ((upd s 5 1) 8), .int ((upd s 5 1) 9), .int ((upd s 5 1) 10), .int ((upd s 5 1) 11), .ref (m + 6), .int ((upd s 5 1) 13), .int ((upd s 5 1) 14), .ref (m + 7), .int ((upd s 5 1) 16), .int ((upd s 5 1) 17), .ref (m + 8)])) := by rw [hw_15]; exact va_up_at
  have fr_17 : ∀ q : Nat, ¬ q = m → ω_14.2 q = ω_7.2 q := fun q hq => by rw [hw_15]; exact va_up_off hq
  have z_18 : ω_14.1 = ω_7.1 := by rw [hw_15]
  refine lv_aload_n hx hb dX11_save_18 rfl (lv_at hl 0 rfl) ?_
  refine lv_aload_n hx hb dX11_save_19 rfl (lv_at hl 0 rfl) ?_
  refine fw_get (v := .ref (m + 1)) (C := RX11) (T := TX11) (N := 19) hx hb hts hin11 hown hK hR f_16 rfl 0 (by decide) (hts (.fieldLink RX11 7 "UnreadLeafletsModel" "g" "[I") (by decide +kernel)) rfl dX11_save_20 ?_
  refine lv_iconst (v := 0) hx hb dX11_save_23 (by decide) ?_
  have f_19 : ω_2.2 (m + 1) = some (.inl (G.2.1 0, 324, .inl g)) := (fr_5 (m + 1) (by omega)).trans m1
  have f_20 : ω_7.2 (m + 1) = some (.inl (G.2.1 0, 324, .inl g)) := (fr_10 (m + 1) (by omega)).trans f_19
  have f_21 : ω_14.2 (m + 1) = some (.inl (G.2.1 0, 324, .inl g)) := (fr_17 (m + 1) (by omega)).trans f_20
  refine fw_iald hx hb hK hR f_21 (vp_in_nI (n := 0) (by omega) (by omega)) dX11_save_24 ?_
  refine W.eq (g2 := F0 mI 25 ls [.int (g 0), .ref m]) (by rw [show (0 : Int32).toNatClampNeg = 0 from rfl]) ?_
  refine fw_call (va_runV (As := [.int (g 0)]) (rest := []) ⟨hx, hb, hml, hown, hts⟩ (c_X11_done G hL l ω_14 m (upd s 5 1) g f_16 f_21 (g 0)) (cwV 1 hts gX11_save_X11_done rfl rfl rfl (by decide +kernel) ⟨Nat.le_of_ble_eq_true rfl, Nat.le_of_ble_eq_true rfl⟩) (fw_preV hW hK hR f_16 rfl) rfl rfl hl.1 rfl (lv_room (Nat.le_of_ble_eq_true rfl)) dX11_save_25 ⟨Nat.le_of_ble_eq_true rfl, Nat.le_of_ble_eq_true rfl⟩) hS (fun v_22 ω_23 H locs hq_24 hR hS => ?_)
  obtain ⟨rfl, z_25, f_27, fr_26⟩ := hq_24
  refine W.eq (g2 := F0 mI 28 ls [.int (g 0)]) rfl ?_
  have f_28 : ω_14.2 (m + 4) = some (.inl (G.2.1 0, 324, .inl g)) := (fr_17 (m + 4) (by omega)).trans f_9
  have f_29 : ω_23.2 (m + 4) = some (.inl (G.2.1 0, 324, .inl g)) := (fr_26 (m + 4) (by omega)).trans f_28
  have fr_30 : ∀ q : Nat, ¬ q = m → ¬ q = (m + 4) → ω_23.2 q = ω.2 q := by
    intro q h0 h1
    rw [fr_26 q (by omega)]
    rw [fr_17 q (by omega)]
    rw [fr_10 q (by omega)]
    rw [fr_5 q (by omega)]
  have z_31 : ω_23.1 = ω.1 := by rw [z_25, z_18, z_11, z_4]
  have hr_32 : saveM s g sv = (((g 0), (upd (upd s 5 1) 14 0), g) : Int32 × (Nat → Int32) × (Nat → Int32)) := by
    simp only [saveM, hcc, hdd]
  refine fw_iret hx hb hr hlocks hR hS dX11_save_28 ?_
  rw [hr_32]
  exact ⟨rfl, z_31, f_27, f_29, fr_30⟩
def restM (s g sv : Nat → Int32) : Int32 × (Nat → Int32) × (Nat → Int32) := if (s 5) = 0 then ((0, (upd s 14 1), g)) else (((sv 0), (upd (upd s 3 0) 14 0), sv))
set_option maxHeartbeats 4000000 in
set_option maxRecDepth 100000 in
theorem c_X11_restore (G : FG) (hL : FL G) (l : Launch) (ω : FWd) (m : Nat) (s g : Nat → Int32) (m0 : ω.2 m = some (.inr (13, [.ref (m + 1), .ref (m + 2), .ref (m + 3), .int (s 3), .ref (m + 4), .int (s 5), .ref (m + 5), .int (s 7), .int (s 8), .int (s 9), .int (s 10), .int (s 11), .ref (m + 6), .int (s 13), .int (s 14), .ref (m + 7), .int (s 16), .int (s 17), .ref (m + 8)]))) (m1 : ω.2 (m + 1) = some (.inl (G.2.1 0, 324, .inl g))) (sv : Nat → Int32) (m4 : ω.2 (m + 4) = some (.inl (G.2.1 0, 324, .inl sv))) (hM : WFM g) : FMet G l yX11_restore wsX11_restore ({ frames := 1, cells := 0, slots := 0, locals := 24 } : Room) [.ref m] ω (fun vv9 τ9 => vv9 = some (.int ((restM s g sv).1)) ∧ τ9.1 = ω.1 ∧ τ9.2 m = some (.inr (13, [.ref (m + 1), .ref (m + 2), .ref (m + 3), .int (((restM s g sv).2.1) 3), .ref (m + 4), .int (((restM s g sv).2.1) 5), .ref (m + 5), .int (((restM s g sv).2.1) 7), .int (((restM s g sv).2.1) 8), .int (((restM s g sv).2.1) 9), .int (((restM s g sv).2.1) 10), .int (((restM s g sv).2.1) 11), .ref (m + 6), .int (((restM s g sv).2.1) 13), .int (((restM s g sv).2.1) 14), .ref (m + 7), .int (((restM s g sv).2.1) 16), .int (((restM s g sv).2.1) 17), .ref (m + 8)])) ∧ τ9.2 (m + 1) = some (.inl (G.2.1 0, 324, .inl ((restM s g sv).2.2))) ∧ ∀ q : Nat, ¬ q = m → ¬ q = (m + 1) → τ9.2 q = ω.2 q) 0 0 := by
  refine fw_ofW (cc := cX11_restore) (maxL := 1) (ret := (some .int)) (by decide) rfl (Nat.le_of_ble_eq_true rfl) ?_
  intro pP eE sS mI ar9 bl9 meth cD ls hx hb hr hlocks hml hts hown hnm hW hR hl
  have hK := hL.K hW
  have hS : va_S (fwA G) sS.heap sS.heap [] := va_S.rf
  have hin11 : ∀ w ∈ u_ws RX11 TX11 19, w ∈ wsX11_restore := by decide +kernel
  have hl : lv_has ls 1 [(0, .ref m)] := hl
  obtain ⟨c, hc8, hc, hcc⟩ := okN_of hM.1
  obtain ⟨cc, hd5, hd, hdd⟩ := okN_of hM.2.1
  refine lv_aload_n hx hb dX11_restore_0 rfl (lv_at hl 0 rfl) ?_
  refine fw_get (v := .int (s 5)) (C := RX11) (T := TX11) (N := 19) hx hb hts hin11 hown hK hR m0 rfl 5 (by decide) (hts (.fieldLink RX11 233 "UnreadLeafletsModel" "hasSaved" "Z") (by decide +kernel)) rfl dX11_restore_1 ?_
  refine lv_if_ne (tgt := 13) hx hb dX11_restore_4 (by decide) (fun c_1 => ?_) (fun c_1 => ?_)
  · skip
    refine lv_aload_n hx hb dX11_restore_13 rfl (lv_at hl 0 rfl) ?_
    refine fw_get (v := .ref (m + 4)) (C := RX11) (T := TX11) (N := 19) hx hb hts hin11 hown hK hR m0 rfl 4 (by decide) (hts (.fieldLink RX11 19 "UnreadLeafletsModel" "savedOnes" "[I") (by decide +kernel)) rfl dX11_restore_14 ?_
    refine lv_iconst (v := 0) hx hb dX11_restore_17 (by decide) ?_
    refine lv_aload_n hx hb dX11_restore_18 rfl (lv_at hl 0 rfl) ?_
    refine fw_get (v := .ref (m + 1)) (C := RX11) (T := TX11) (N := 19) hx hb hts hin11 hown hK hR m0 rfl 0 (by decide) (hts (.fieldLink RX11 7 "UnreadLeafletsModel" "g" "[I") (by decide +kernel)) rfl dX11_restore_19 ?_
    refine lv_iconst (v := 0) hx hb dX11_restore_22 (by decide) ?_
    refine fw_call (va_runS (As := [.ref (m + 4), .int 0, .ref (m + 1), .int 0]) (rest := []) ⟨hx, hb, hml, hown, hts⟩ (c_X11_copy G hL l ω (m + 4) (m + 1) 324 324 0 0 sv g m4 m1 (by omega) (by omega) (by omega) (by omega) (by omega)) (va_cwS 4 hts gX11_restore_X11_copy rfl rfl rfl (by decide +kernel) ⟨Nat.le_of_ble_eq_true rfl, Nat.le_of_ble_eq_true rfl⟩) (fw_preS hW hR) rfl rfl hl.1 rfl (lv_room (Nat.le_of_ble_eq_true rfl)) dX11_restore_23 ⟨Nat.le_of_ble_eq_true rfl, Nat.le_of_ble_eq_true rfl⟩) hS (fun v_2 ω_3 H locs hq_4 hR hS => ?_)
    obtain ⟨rfl, z_5, f_7, fr_6⟩ := hq_4
    refine W.eq (g2 := F0 mI 26 ls []) rfl ?_
    have hR := hR.rowAt f_7 (g := sv) (fun j9 hj9 => by have h9 := cpyJ_at (f := sv) (h := g) (p := 0) (q := 0) hj9; rw [Nat.zero_add] at h9; exact h9)
    obtain ⟨ω_8, hw_9⟩ : ∃ τ : FWd, τ = (ω_3.1, va_up ω_3.2 (m + 1) (some (.inl (G.2.1 0, 324, .inl sv)))) := ⟨_, rfl⟩
    have hR : fR G ω_8 H := by rw [hw_9]; exact hR
    have f_10 : ω_8.2 (m + 1) = some (.inl (G.2.1 0, 324, .inl sv)) := by rw [hw_9]; exact va_up_at
    have fr_11 : ∀ q : Nat, ¬ q = (m + 1) → ω_8.2 q = ω_3.2 q := fun q hq => by rw [hw_9]; exact va_up_off hq
    have z_12 : ω_8.1 = ω_3.1 := by rw [hw_9]
    refine lv_aload_n hx hb dX11_restore_26 rfl (lv_at hl 0 rfl) ?_
    refine lv_iconst (v := 0) hx hb dX11_restore_27 (by decide) ?_
    have f_13 : ω_3.2 m = some (.inr (13, [.ref (m + 1), .ref (m + 2), .ref (m + 3), .int (s 3), .ref (m + 4), .int (s 5), .ref (m + 5), .int (s 7), .int (s 8), .int (s 9), .int (s 10), .int (s 11), .ref (m + 6), .int (s 13), .int (s 14), .ref (m + 7), .int (s 16), .int (s 17), .ref (m + 8)])) := (fr_6 m (by omega)).trans m0
    have f_14 : ω_8.2 m = some (.inr (13, [.ref (m + 1), .ref (m + 2), .ref (m + 3), .int (s 3), .ref (m + 4), .int (s 5), .ref (m + 5), .int (s 7), .int (s 8), .int (s 9), .int (s 10), .int (s 11), .ref (m + 6), .int (s 13), .int (s 14), .ref (m + 7), .int (s 16), .int (s 17), .ref (m + 8)])) := (fr_11 m (by omega)).trans f_13
    refine fw_put (v := .int 0) (C := RX11) (T := TX11) (N := 19) hx hb hts hin11 tyX11 tyX11_ok nmX11 hown hK hR hS f_14 rfl 3 (by decide) (hts (.fieldLink RX11 59 "UnreadLeafletsModel" "changes" "I") (by decide +kernel)) rfl rfl rfl (Nat.le_of_ble_eq_true rfl) dX11_restore_28 (fun H locs hR hS => ?_)
    obtain ⟨ω_15, hw_16⟩ : ∃ τ : FWd, τ = (ω_8.1, va_up ω_8.2 m (some (.inr (13, [.ref (m + 1), .ref (m + 2), .ref (m + 3), .int ((upd s 3 0) 3), .ref (m + 4), .int ((upd s 3 0) 5), .ref (m + 5), .int ((upd s 3 0) 7), .int ((upd s 3 0) 8), .int ((upd s 3 0) 9), .int ((upd s 3 0) 10), .int ((upd s 3 0) 11), .ref (m + 6), .int ((upd s 3 0) 13), .int ((upd s 3 0) 14), .ref (m + 7), .int ((upd s 3 0) 16), .int ((upd s 3 0) 17), .ref (m + 8)])))) := ⟨_, rfl⟩
    have hR : fR G ω_15 H := by rw [hw_16]; exact hR
    have f_17 : ω_15.2 m = some (.inr (13, [.ref (m + 1), .ref (m + 2), .ref (m + 3), .int ((upd s 3 0) 3), .ref (m + 4), .int ((upd s 3 0) 5), .ref (m + 5), .int ((upd s 3 0) 7), .int ((upd s 3 0) 8), .int ((upd s 3 0) 9), .int ((upd s 3 0) 10), .int ((upd s 3 0) 11), .ref (m + 6), .int ((upd s 3 0) 13), .int ((upd s 3 0) 14), .ref (m + 7), .int ((upd s 3 0) 16), .int ((upd s 3 0) 17), .ref (m + 8)])) := by rw [hw_16]; exact va_up_at
    have fr_18 : ∀ q : Nat, ¬ q = m → ω_15.2 q = ω_8.2 q := fun q hq => by rw [hw_16]; exact va_up_off hq
    have z_19 : ω_15.1 = ω_8.1 := by rw [hw_16]
    refine lv_aload_n hx hb dX11_restore_31 rfl (lv_at hl 0 rfl) ?_
    refine lv_aload_n hx hb dX11_restore_32 rfl (lv_at hl 0 rfl) ?_
    refine fw_get (v := .ref (m + 1)) (C := RX11) (T := TX11) (N := 19) hx hb hts hin11 hown hK hR f_17 rfl 0 (by decide) (hts (.fieldLink RX11 7 "UnreadLeafletsModel" "g" "[I") (by decide +kernel)) rfl dX11_restore_33 ?_
    refine lv_iconst (v := 0) hx hb dX11_restore_36 (by decide) ?_
    have f_20 : ω_15.2 (m + 1) = some (.inl (G.2.1 0, 324, .inl sv)) := (fr_18 (m + 1) (by omega)).trans f_10
    refine fw_iald hx hb hK hR f_20 (vp_in_nI (n := 0) (by omega) (by omega)) dX11_restore_37 ?_
    refine W.eq (g2 := F0 mI 38 ls [.int (sv 0), .ref m]) (by rw [show (0 : Int32).toNatClampNeg = 0 from rfl]) ?_
    refine fw_call (va_runV (As := [.int (sv 0)]) (rest := []) ⟨hx, hb, hml, hown, hts⟩ (c_X11_done G hL l ω_15 m (upd s 3 0) sv f_17 f_20 (sv 0)) (cwV 1 hts gX11_restore_X11_done rfl rfl rfl (by decide +kernel) ⟨Nat.le_of_ble_eq_true rfl, Nat.le_of_ble_eq_true rfl⟩) (fw_preV hW hK hR f_17 rfl) rfl rfl hl.1 rfl (lv_room (Nat.le_of_ble_eq_true rfl)) dX11_restore_38 ⟨Nat.le_of_ble_eq_true rfl, Nat.le_of_ble_eq_true rfl⟩) hS (fun v_21 ω_22 H locs hq_23 hR hS => ?_)
    obtain ⟨rfl, z_24, f_26, fr_25⟩ := hq_23
    refine W.eq (g2 := F0 mI 41 ls [.int (sv 0)]) rfl ?_
    have f_27 : ω_22.2 (m + 1) = some (.inl (G.2.1 0, 324, .inl sv)) := (fr_25 (m + 1) (by omega)).trans f_20
    have fr_28 : ∀ q : Nat, ¬ q = m → ¬ q = (m + 1) → ω_22.2 q = ω.2 q := by
      intro q h0 h1
      rw [fr_25 q (by omega)]
      rw [fr_18 q (by omega)]
      rw [fr_11 q (by omega)]
      rw [fr_6 q (by omega)]
    have z_29 : ω_22.1 = ω.1 := by rw [z_24, z_19, z_12, z_5]
    have hr_30 : restM s g sv = (((sv 0), (upd (upd s 3 0) 14 0), sv) : Int32 × (Nat → Int32) × (Nat → Int32)) := by
      simp only [restM, hcc, hdd]
      rw [if_neg c_1]
    refine fw_iret hx hb hr hlocks hR hS dX11_restore_41 ?_
    rw [hr_30]
    exact ⟨rfl, z_29, f_26, f_27, fr_28⟩
  · skip
    refine lv_aload_n hx hb dX11_restore_7 rfl (lv_at hl 0 rfl) ?_
    refine lv_iconst (v := 1) hx hb dX11_restore_8 (by decide) ?_
    refine fw_call (va_runV (As := [.int 1]) (rest := []) ⟨hx, hb, hml, hown, hts⟩ (c_X11_fails G hL l ω m s g m0 m1 1) (cwV 1 hts gX11_restore_X11_fails rfl rfl rfl (by decide +kernel) ⟨Nat.le_of_ble_eq_true rfl, Nat.le_of_ble_eq_true rfl⟩) (fw_preV hW hK hR m0 rfl) rfl rfl hl.1 rfl (lv_room (Nat.le_of_ble_eq_true rfl)) dX11_restore_9 ⟨Nat.le_of_ble_eq_true rfl, Nat.le_of_ble_eq_true rfl⟩) hS (fun v_31 ω_32 H locs hq_33 hR hS => ?_)
    obtain ⟨rfl, z_34, f_36, fr_35⟩ := hq_33
    refine W.eq (g2 := F0 mI 12 ls [.int 0]) rfl ?_
    have f_37 : ω_32.2 (m + 1) = some (.inl (G.2.1 0, 324, .inl g)) := (fr_35 (m + 1) (by omega)).trans m1
    have fr_38 : ∀ q : Nat, ¬ q = m → ¬ q = (m + 1) → ω_32.2 q = ω.2 q := by
      intro q h0 h1
      rw [fr_35 q (by omega)]
    have z_39 : ω_32.1 = ω.1 := by rw [z_34]
    have hr_40 : restM s g sv = ((0, (upd s 14 1), g) : Int32 × (Nat → Int32) × (Nat → Int32)) := by
      simp only [restM, hcc, hdd]
      rw [if_pos c_1]
    refine fw_iret hx hb hr hlocks hR hS dX11_restore_12 ?_
    rw [hr_40]
    exact ⟨rfl, z_39, f_36, f_37, fr_38⟩
def finL (s g nd bf : Nat → Int32) (j : Nat) : Nat → Int32 × (Nat → Int32) × (Nat → Int32)
  | 0 => (0, g, nd)
  | k + 1 => if (((((finL s g nd bf j k).2.1) (50 + j)) >>> ((nI k) &&& 31)) &&& 1) = 1 then (if (lackJ (fun i => ((finL s g nd bf j k).2.1) (6 + i)) (needM ((finL s g nd bf j k).2.1) j (1 <<< ((nI k) &&& 31)) (clrJ ((finL s g nd bf j k).2.2) 6) (cN (g (18 + j)))) 0 6) = (-1) then (((((finL s g nd bf j k).1) + 1), (getsM ((finL s g nd bf j k).2.1) (needM ((finL s g nd bf j k).2.1) j (1 <<< ((nI k) &&& 31)) (clrJ ((finL s g nd bf j k).2.2) 6) (cN (g (18 + j)))) (-1) 6), (needM ((finL s g nd bf j k).2.1) j (1 <<< ((nI k) &&& 31)) (clrJ ((finL s g nd bf j k).2.2) 6) (cN (g (18 + j)))))) else (((finL s g nd bf j k).1, ((finL s g nd bf j k).2.1), (needM ((finL s g nd bf j k).2.1) j (1 <<< ((nI k) &&& 31)) (clrJ ((finL s g nd bf j k).2.2) 6) (cN (g (18 + j))))))) else (((finL s g nd bf j k).1, ((finL s g nd bf j k).2.1), (needM ((finL s g nd bf j k).2.1) j (1 <<< ((nI k) &&& 31)) (clrJ ((finL s g nd bf j k).2.2) 6) (cN (g (18 + j))))))
def finAllM (s g nd bf : Nat → Int32) (j : Nat) : Int32 × (Nat → Int32) × (Nat → Int32) × (Nat → Int32) := ((finL s g nd bf j (cN (g (18 + j)))).1, (looksM s g bf), ((finL s g nd bf j (cN (g (18 + j)))).2.2), (looksM s g bf))
theorem finL_off (s g nd bf : Nat → Int32) (j : Nat) {q : Nat} (h : 12 ≤ q) : ∀ k, (finL s g nd bf j k).2.1 q = g q
  | 0 => rfl
  | k + 1 => by
    have h0 := finL_off s g nd bf j h k
    simp only [finL]
    repeat' split
    all_goals first | exact h0 | exact (getsM_hi h _ (by omega)).trans h0
set_option maxHeartbeats 4000000 in
set_option maxRecDepth 100000 in
theorem c_X11_finishedAll (G : FG) (hL : FL G) (l : Launch) (ω : FWd) (m : Nat) (s g : Nat → Int32) (m0 : ω.2 m = some (.inr (13, [.ref (m + 1), .ref (m + 2), .ref (m + 3), .int (s 3), .ref (m + 4), .int (s 5), .ref (m + 5), .int (s 7), .int (s 8), .int (s 9), .int (s 10), .int (s 11), .ref (m + 6), .int (s 13), .int (s 14), .ref (m + 7), .int (s 16), .int (s 17), .ref (m + 8)]))) (m1 : ω.2 (m + 1) = some (.inl (G.2.1 0, 324, .inl g))) (nd : Nat → Int32) (m7 : ω.2 (m + 7) = some (.inl (G.2.1 0, 6, .inl nd))) (bf : Nat → Int32) (m2 : ω.2 (m + 2) = some (.inl (G.2.1 0, 324, .inl bf))) (hM : WFM g) (j : Nat) (hjc : j < cN (g 0)) : FMet G l yX11_finishedAll wsX11_finishedAll ({ frames := 2, cells := 0, slots := 0, locals := 48 } : Room) [.ref m, .int (nI j)] ω (fun vv9 τ9 => vv9 = some (.int ((finAllM s g nd bf j).1)) ∧ τ9.1 = ω.1 ∧ τ9.2 (m + 1) = some (.inl (G.2.1 0, 324, .inl ((finAllM s g nd bf j).2.1))) ∧ τ9.2 (m + 7) = some (.inl (G.2.1 0, 6, .inl ((finAllM s g nd bf j).2.2.1))) ∧ τ9.2 (m + 2) = some (.inl (G.2.1 0, 324, .inl ((finAllM s g nd bf j).2.2.2))) ∧ ∀ q : Nat, ¬ q = (m + 1) → ¬ q = (m + 7) → ¬ q = (m + 2) → τ9.2 q = ω.2 q) 0 0 := by
  refine fw_ofW (cc := cX11_finishedAll) (maxL := 5) (ret := (some .int)) (by decide) rfl (Nat.le_of_ble_eq_true rfl) ?_
  intro pP eE sS mI ar9 bl9 meth cD ls hx hb hr hlocks hml hts hown hnm hW hR hl
  have hK := hL.K hW
  have hS : va_S (fwA G) sS.heap sS.heap [] := va_S.rf
  have hin11 : ∀ w ∈ u_ws RX11 TX11 19, w ∈ wsX11_finishedAll := by decide +kernel
  have hl : lv_has ls 5 [(0, .ref m), (1, .int (nI j))] := hl
  obtain ⟨c, hc8, hc, hcc⟩ := okN_of hM.1
  obtain ⟨cc, hd5, hd, hdd⟩ := okN_of hM.2.1
  have hj2 : j < c := by rw [← hcc]; exact hjc
  obtain ⟨n, hn8, hn, hnn⟩ := okN_of (hM.2.2 j (by rw [hcc]; exact hj2)).1
  obtain ⟨f, hf3, hff, hfn⟩ := okN_of (hM.2.2 j (by rw [hcc]; exact hj2)).2.1
  have hkd : ∀ q, q < n → g (68 + 8 * j + q) = nI (cN (g (68 + 8 * j + q))) ∧ cN (g (68 + 8 * j + q)) < 6 := fun q hq => by have h9 := (hM.2.2 j (by rw [hcc]; exact hj2)).2.2 q (by rw [hnn]; exact hq); exact ⟨h9.1, Nat.lt_succ_of_le h9.2⟩
  refine lv_aload_n hx hb dX11_finishedAll_0 rfl (lv_at hl 0 rfl) ?_
  refine fw_call (va_runV (As := []) (rest := []) ⟨hx, hb, hml, hown, hts⟩ (c_X11_looksBack G hL l ω m s g m0 m1 bf m2   ) (cwV 0 hts gX11_finishedAll_X11_looksBack rfl rfl rfl (by decide +kernel) ⟨Nat.le_of_ble_eq_true rfl, Nat.le_of_ble_eq_true rfl⟩) (fw_preV hW hK hR m0 rfl) rfl rfl hl.1 rfl (lv_room (Nat.le_of_ble_eq_true rfl)) dX11_finishedAll_1 ⟨Nat.le_of_ble_eq_true rfl, Nat.le_of_ble_eq_true rfl⟩) hS (fun v_1 ω_2 H locs hq_3 hR hS => ?_)
  obtain ⟨rfl, z_4, f_6, fr_5⟩ := hq_3
  refine W.eq (g2 := F0 mI 4 ls []) rfl ?_
  refine lv_iconst (v := 0) hx hb dX11_finishedAll_4 (by decide) ?_
  refine lv_istore_n (lv' := [(2, .int 0), (0, .ref m), (1, .int (nI j))]) hx hb dX11_finishedAll_5 rfl hl (by decide) rfl (fun ls hl => ?_)
  refine lv_iconst (v := 0) hx hb dX11_finishedAll_6 (by decide) ?_
  refine lv_istore_n (lv' := [(3, .int 0), (2, .int 0), (0, .ref m), (1, .int (nI j))]) hx hb dX11_finishedAll_7 rfl hl (by decide) rfl (fun ls hl => ?_)
  have f_7 : ω_2.2 (m + 1) = some (.inl (G.2.1 0, 324, .inl g)) := (fr_5 (m + 1) (by omega)).trans m1
  have f_8 : ω_2.2 (m + 7) = some (.inl (G.2.1 0, 6, .inl nd)) := (fr_5 (m + 7) (by omega)).trans m7
  have hi_9 : finL s g nd bf j 0 = ((0, g, nd) : Int32 × (Nat → Int32) × (Nat → Int32)) := by simp only [finL, hcc, hdd, hnn, hfn]
  have loop_10 : ∀ (fu : Nat) (k : Nat) (τk : FWd), (n - k) < fu → (k ≤ n) → τk.1 = ω_2.1 → τk.2 (m + 1) = some (.inl (G.2.1 0, 324, .inl ((finL s g nd bf j k).2.1))) → τk.2 (m + 7) = some (.inl (G.2.1 0, 6, .inl ((finL s g nd bf j k).2.2))) → (∀ q : Nat, ¬ q = (m + 1) → ¬ q = (m + 7) → τk.2 q = ω_2.2 q) → ∀ (H : Heap) (locs : List Loc) (ls : Array Slot), fR G τk H → va_S (fwA G) sS.heap H locs → lv_has ls 5 [(3, .int (nI k)), (2, .int ((finL s g nd bf j k).1)), (0, .ref m), (1, .int (nI j))] → W pP l eE ({ frames := 2, cells := 0, slots := 0, locals := 48 } : Room) sS mI ar9 bl9 meth cD H locs 0 0 (MQ bl9 (fQ G (fun vv9 τ9 => vv9 = some (.int ((finAllM s g nd bf j).1)) ∧ τ9.1 = ω.1 ∧ τ9.2 (m + 1) = some (.inl (G.2.1 0, 324, .inl ((finAllM s g nd bf j).2.1))) ∧ τ9.2 (m + 7) = some (.inl (G.2.1 0, 6, .inl ((finAllM s g nd bf j).2.2.1))) ∧ τ9.2 (m + 2) = some (.inl (G.2.1 0, 324, .inl ((finAllM s g nd bf j).2.2.2))) ∧ ∀ q : Nat, ¬ q = (m + 1) → ¬ q = (m + 7) → ¬ q = (m + 2) → τ9.2 q = ω.2 q)) ar9 sS 0 0 (fwA G)) (F0 mI 8 ls []) := by
    intro fu
    induction fu with
    | zero => intro k τk hfu; exact absurd hfu (Nat.not_lt_zero _)
    | succ fu ih =>
      intro k τk hfu hkk hzτk wk0 wk1 hfrτk H locs ls hR hS hl
      refine lv_iload_n hx hb dX11_finishedAll_8 rfl (lv_at hl 0 rfl) ?_
      refine lv_aload_n hx hb dX11_finishedAll_9 rfl (lv_at hl 2 rfl) ?_
      have f_11 : ω_2.2 m = some (.inr (13, [.ref (m + 1), .ref (m + 2), .ref (m + 3), .int (s 3), .ref (m + 4), .int (s 5), .ref (m + 5), .int (s 7), .int (s 8), .int (s 9), .int (s 10), .int (s 11), .ref (m + 6), .int (s 13), .int (s 14), .ref (m + 7), .int (s 16), .int (s 17), .ref (m + 8)])) := (fr_5 m (by omega)).trans m0
      have f_12 : τk.2 m = some (.inr (13, [.ref (m + 1), .ref (m + 2), .ref (m + 3), .int (s 3), .ref (m + 4), .int (s 5), .ref (m + 5), .int (s 7), .int (s 8), .int (s 9), .int (s 10), .int (s 11), .ref (m + 6), .int (s 13), .int (s 14), .ref (m + 7), .int (s 16), .int (s 17), .ref (m + 8)])) := (hfrτk m (by omega) (by omega)).trans f_11
      refine fw_get (v := .ref (m + 1)) (C := RX11) (T := TX11) (N := 19) hx hb hts hin11 hown hK hR f_12 rfl 0 (by decide) (hts (.fieldLink RX11 7 "UnreadLeafletsModel" "g" "[I") (by decide +kernel)) rfl dX11_finishedAll_10 ?_
      refine lv_bipush (v := 18) hx hb dX11_finishedAll_13 (by decide) ?_
      refine lv_iload_n hx hb dX11_finishedAll_15 rfl (lv_at hl 3 rfl) ?_
      refine lv_iadd hx hb dX11_finishedAll_16 ?_
      have hi_13 : 18 + (nI j) = nI (18 + j) := by
        show (nI 18) + (nI j) = _
        simp only [pk_mul, nI_add, Nat.add_assoc, hc, hd, hn, hff]
      refine W.eq (g2 := F0 mI 17 ls [.int (nI (18 + j)), .ref (m + 1), .int (nI k)]) (by rw [hi_13]) ?_
      refine fw_iald hx hb hK hR wk0 (vp_in_nI (by omega) (by omega)) dX11_finishedAll_17 ?_
      refine W.eq (g2 := F0 mI 18 ls [.int (((finL s g nd bf j k).2.1) (18 + j)), .int (nI k)]) (by rw [nI_clamp (by omega)]) ?_
      refine lv_icmp_ge (tgt := 70) hx hb dX11_finishedAll_18 (by decide) (fun c_14 => ?_) (fun c_14 => ?_)
      · skip
        have hj9 := lp_ge (n := n) ((finL_off s g nd bf j (by omega) _).trans hn) c_14 (by omega) (by omega)
        have hk9 : n = k := by omega
        subst hk9
        refine lv_aload_n hx hb dX11_finishedAll_70 rfl (lv_at hl 2 rfl) ?_
        refine fw_get (v := .ref (m + 2)) (C := RX11) (T := TX11) (N := 19) hx hb hts hin11 hown hK hR f_12 rfl 1 (by decide) (hts (.fieldLink RX11 13 "UnreadLeafletsModel" "before" "[I") (by decide +kernel)) rfl dX11_finishedAll_71 ?_
        refine lv_iconst (v := 0) hx hb dX11_finishedAll_74 (by decide) ?_
        refine lv_aload_n hx hb dX11_finishedAll_75 rfl (lv_at hl 2 rfl) ?_
        refine fw_get (v := .ref (m + 1)) (C := RX11) (T := TX11) (N := 19) hx hb hts hin11 hown hK hR f_12 rfl 0 (by decide) (hts (.fieldLink RX11 7 "UnreadLeafletsModel" "g" "[I") (by decide +kernel)) rfl dX11_finishedAll_76 ?_
        refine lv_iconst (v := 0) hx hb dX11_finishedAll_79 (by decide) ?_
        have f_15 : τk.2 (m + 2) = some (.inl (G.2.1 0, 324, .inl (looksM s g bf))) := (hfrτk (m + 2) (by omega) (by omega)).trans f_6
        refine fw_call (va_runS (As := [.ref (m + 2), .int 0, .ref (m + 1), .int 0]) (rest := []) ⟨hx, hb, hml, hown, hts⟩ (c_X11_copy G hL l τk (m + 2) (m + 1) 324 324 0 0 (looksM s g bf) ((finL s g nd bf j n).2.1) f_15 wk0 (by omega) (by omega) (by omega) (by omega) (by omega)) (va_cwS 4 hts gX11_finishedAll_X11_copy rfl rfl rfl (by decide +kernel) ⟨Nat.le_of_ble_eq_true rfl, Nat.le_of_ble_eq_true rfl⟩) (fw_preS hW hR) rfl rfl hl.1 rfl (lv_room (Nat.le_of_ble_eq_true rfl)) dX11_finishedAll_80 ⟨Nat.le_of_ble_eq_true rfl, Nat.le_of_ble_eq_true rfl⟩) hS (fun v_16 ω_17 H locs hq_18 hR hS => ?_)
        obtain ⟨rfl, z_19, f_21, fr_20⟩ := hq_18
        refine W.eq (g2 := F0 mI 83 ls []) rfl ?_
        have hR := hR.rowAt f_21 (g := (looksM s g bf)) (fun j9 hj9 => by have h9 := cpyJ_at (f := (looksM s g bf)) (h := ((finL s g nd bf j n).2.1)) (p := 0) (q := 0) hj9; rw [Nat.zero_add] at h9; exact h9)
        obtain ⟨ω_22, hw_23⟩ : ∃ τ : FWd, τ = (ω_17.1, va_up ω_17.2 (m + 1) (some (.inl (G.2.1 0, 324, .inl (looksM s g bf))))) := ⟨_, rfl⟩
        have hR : fR G ω_22 H := by rw [hw_23]; exact hR
        have f_24 : ω_22.2 (m + 1) = some (.inl (G.2.1 0, 324, .inl (looksM s g bf))) := by rw [hw_23]; exact va_up_at
        have fr_25 : ∀ q : Nat, ¬ q = (m + 1) → ω_22.2 q = ω_17.2 q := fun q hq => by rw [hw_23]; exact va_up_off hq
        have z_26 : ω_22.1 = ω_17.1 := by rw [hw_23]
        refine lv_iload_n hx hb dX11_finishedAll_83 rfl (lv_at hl 1 rfl) ?_
        have f_27 : ω_17.2 (m + 7) = some (.inl (G.2.1 0, 6, .inl ((finL s g nd bf j n).2.2))) := (fr_20 (m + 7) (by omega)).trans wk1
        have f_28 : ω_22.2 (m + 7) = some (.inl (G.2.1 0, 6, .inl ((finL s g nd bf j n).2.2))) := (fr_25 (m + 7) (by omega)).trans f_27
        have f_29 : ω_17.2 (m + 2) = some (.inl (G.2.1 0, 324, .inl (looksM s g bf))) := (fr_20 (m + 2) (by omega)).trans f_15
        have f_30 : ω_22.2 (m + 2) = some (.inl (G.2.1 0, 324, .inl (looksM s g bf))) := (fr_25 (m + 2) (by omega)).trans f_29
        have fr_31 : ∀ q : Nat, ¬ q = (m + 1) → ¬ q = (m + 7) → ¬ q = (m + 2) → ω_22.2 q = ω.2 q := by
          intro q h0 h1 h2
          rw [fr_25 q (by omega)]
          rw [fr_20 q (by omega)]
          rw [hfrτk q (by omega) (by omega)]
          rw [fr_5 q (by omega)]
        have z_32 : ω_22.1 = ω.1 := by rw [z_26, z_19, hzτk, z_4]
        have hr_33 : finAllM s g nd bf j = (((finL s g nd bf j n).1, (looksM s g bf), ((finL s g nd bf j n).2.2), (looksM s g bf)) : Int32 × (Nat → Int32) × (Nat → Int32) × (Nat → Int32)) := by
          simp only [finAllM, hcc, hdd, hnn, hfn]
        refine fw_iret hx hb hr hlocks hR hS dX11_finishedAll_84 ?_
        rw [hr_33]
        exact ⟨rfl, z_32, f_24, f_28, f_30, fr_31⟩
      · skip
        have hk2 := lp_lt (n := n) ((finL_off s g nd bf j (by omega) _).trans hn) c_14 (by omega) (by omega)
        refine lv_aload_n hx hb dX11_finishedAll_21 rfl (lv_at hl 2 rfl) ?_
        refine lv_iload_n hx hb dX11_finishedAll_22 rfl (lv_at hl 3 rfl) ?_
        refine lv_iconst (v := 1) hx hb dX11_finishedAll_23 (by decide) ?_
        refine lv_iload_n hx hb dX11_finishedAll_24 rfl (lv_at hl 0 rfl) ?_
        refine lv_ishl hx hb dX11_finishedAll_25 ?_
        refine fw_call (va_runV (As := [.int (nI j), .int (1 <<< ((nI k) &&& 31))]) (rest := []) ⟨hx, hb, hml, hown, hts⟩ (c_X11_needsFor G hL l τk m s ((finL s g nd bf j k).2.1) f_12 wk0 ((finL s g nd bf j k).2.2) wk1 j (by omega) (1 <<< ((nI k) &&& 31)) n ((finL_off s g nd bf j (by omega) _).trans hn) hn8 (fun q hq => by rw [finL_off s g nd bf j (by omega)]; exact hkd q hq)) (cwV 2 hts gX11_finishedAll_X11_needsFor rfl rfl rfl (by decide +kernel) ⟨Nat.le_of_ble_eq_true rfl, Nat.le_of_ble_eq_true rfl⟩) (fw_preV hW hK hR f_12 rfl) rfl rfl hl.1 rfl (lv_room (Nat.le_of_ble_eq_true rfl)) dX11_finishedAll_26 ⟨Nat.le_of_ble_eq_true rfl, Nat.le_of_ble_eq_true rfl⟩) hS (fun v_34 ω_35 H locs hq_36 hR hS => ?_)
        obtain ⟨rfl, z_37, f_39, fr_38⟩ := hq_36
        refine W.eq (g2 := F0 mI 29 ls [.int (sumM ((finL s g nd bf j k).2.1) j (1 <<< ((nI k) &&& 31)) n)]) rfl ?_
        refine lv_istore (lv' := [(4, .int (sumM ((finL s g nd bf j k).2.1) j (1 <<< ((nI k) &&& 31)) n)), (3, .int (nI k)), (2, .int ((finL s g nd bf j k).1)), (0, .ref m), (1, .int (nI j))]) hx hb dX11_finishedAll_29 hl (by decide) rfl (fun ls hl => ?_)
        refine lv_aload_n hx hb dX11_finishedAll_31 rfl (lv_at hl 3 rfl) ?_
        have f_40 : ω_35.2 m = some (.inr (13, [.ref (m + 1), .ref (m + 2), .ref (m + 3), .int (s 3), .ref (m + 4), .int (s 5), .ref (m + 5), .int (s 7), .int (s 8), .int (s 9), .int (s 10), .int (s 11), .ref (m + 6), .int (s 13), .int (s 14), .ref (m + 7), .int (s 16), .int (s 17), .ref (m + 8)])) := (fr_38 m (by omega)).trans f_12
        refine fw_get (v := .ref (m + 1)) (C := RX11) (T := TX11) (N := 19) hx hb hts hin11 hown hK hR f_40 rfl 0 (by decide) (hts (.fieldLink RX11 7 "UnreadLeafletsModel" "g" "[I") (by decide +kernel)) rfl dX11_finishedAll_32 ?_
        refine lv_bipush (v := 50) hx hb dX11_finishedAll_35 (by decide) ?_
        refine lv_iload_n hx hb dX11_finishedAll_37 rfl (lv_at hl 4 rfl) ?_
        refine lv_iadd hx hb dX11_finishedAll_38 ?_
        have hi_41 : 50 + (nI j) = nI (50 + j) := by
          show (nI 50) + (nI j) = _
          simp only [pk_mul, nI_add, Nat.add_assoc, hc, hd, hn, hff]
        refine W.eq (g2 := F0 mI 39 ls [.int (nI (50 + j)), .ref (m + 1)]) (by rw [hi_41]) ?_
        have f_42 : ω_35.2 (m + 1) = some (.inl (G.2.1 0, 324, .inl ((finL s g nd bf j k).2.1))) := (fr_38 (m + 1) (by omega)).trans wk0
        refine fw_iald hx hb hK hR f_42 (vp_in_nI (by omega) (by omega)) dX11_finishedAll_39 ?_
        refine W.eq (g2 := F0 mI 40 ls [.int (((finL s g nd bf j k).2.1) (50 + j))]) (by rw [nI_clamp (by omega)]) ?_
        refine lv_iload_n hx hb dX11_finishedAll_40 rfl (lv_at hl 1 rfl) ?_
        refine lv_ishr hx hb dX11_finishedAll_41 ?_
        refine lv_iconst (v := 1) hx hb dX11_finishedAll_42 (by decide) ?_
        refine lv_iand hx hb dX11_finishedAll_43 ?_
        refine lv_iconst (v := 1) hx hb dX11_finishedAll_44 (by decide) ?_
        refine lv_icmp_ne (tgt := 64) hx hb dX11_finishedAll_45 (by decide) (fun c_43 => ?_) (fun c_43 => ?_)
        · skip
          obtain ⟨x_44, ex_44⟩ : ∃ y : Int32, y = (nI k) + 1 := ⟨_, rfl⟩
          refine lv_iinc (v := x_44) (lv' := [(3, .int x_44), (4, .int (sumM ((finL s g nd bf j k).2.1) j (1 <<< ((nI k) &&& 31)) n)), (2, .int ((finL s g nd bf j k).1)), (0, .ref m), (1, .int (nI j))]) hx hb dX11_finishedAll_64 hl (k := 1) rfl (by rw [ex_44]; rfl) (by decide) rfl (fun ls hl => ?_)
          refine lv_goto (tgt := 8) hx hb dX11_finishedAll_67 (by decide) ?_
          have hr_45 : finL s g nd bf j (k + 1) = (((finL s g nd bf j k).1, ((finL s g nd bf j k).2.1), (needM ((finL s g nd bf j k).2.1) j (1 <<< ((nI k) &&& 31)) (clrJ ((finL s g nd bf j k).2.2) 6) n)) : Int32 × (Nat → Int32) × (Nat → Int32)) := by
            simp only [finL, hcc, hdd, hnn, hfn, ex_44]
            rw [if_neg c_43]
          have el_3 : x_44 = nI (k + 1) := by rw [ex_44]; exact nI_1 k
          have el_2 : (finL s g nd bf j k).1 = (finL s g nd bf j (k + 1)).1 := by rw [hr_45]
          have hl := lv_sub (l' := [(3, .int x_44), (2, .int ((finL s g nd bf j k).1)), (0, .ref m), (1, .int (nI j))]) hl [0, 2, 3, 4] rfl
          rw [el_3, el_2] at hl
          have wf_46 : ω_35.2 (m + 1) = some (.inl (G.2.1 0, 324, .inl ((finL s g nd bf j (k + 1)).2.1))) := f_42.trans (congrArg some (by rw [hr_45]))
          have wf_47 : ω_35.2 (m + 7) = some (.inl (G.2.1 0, 6, .inl ((finL s g nd bf j (k + 1)).2.2))) := f_39.trans (congrArg some (by rw [hr_45]))
          have fr_48 : ∀ q : Nat, ¬ q = (m + 1) → ¬ q = (m + 7) → ω_35.2 q = ω_2.2 q := by
            intro q h0 h1
            rw [fr_38 q (by omega)]
            rw [hfrτk q (by omega) (by omega)]
          have z_49 : ω_35.1 = ω_2.1 := by rw [z_37, hzτk]
          exact ih (k + 1) ω_35 (by omega) (by first | assumption | omega | (simp; done)) z_49 wf_46 wf_47 fr_48 _ _ _ hR hS hl
        · skip
          refine lv_aload_n hx hb dX11_finishedAll_48 rfl (lv_at hl 3 rfl) ?_
          refine fw_call (va_runV (As := []) (rest := []) ⟨hx, hb, hml, hown, hts⟩ (c_X11_lacking G hL l ω_35 m s ((finL s g nd bf j k).2.1) f_40 f_42 (needM ((finL s g nd bf j k).2.1) j (1 <<< ((nI k) &&& 31)) (clrJ ((finL s g nd bf j k).2.2) 6) n) f_39 ) (cwV 0 hts gX11_finishedAll_X11_lacking rfl rfl rfl (by decide +kernel) ⟨Nat.le_of_ble_eq_true rfl, Nat.le_of_ble_eq_true rfl⟩) (fw_preV hW hK hR f_40 rfl) rfl rfl hl.1 rfl (lv_room (Nat.le_of_ble_eq_true rfl)) dX11_finishedAll_49 ⟨Nat.le_of_ble_eq_true rfl, Nat.le_of_ble_eq_true rfl⟩) hS (fun v_50 ω_51 H locs hq_52 hR hS => ?_)
          obtain ⟨rfl, hq_52⟩ := hq_52
          rw [hq_52] at hR
          refine W.eq (g2 := F0 mI 52 ls [.int (lackJ (fun i => ((finL s g nd bf j k).2.1) (6 + i)) (needM ((finL s g nd bf j k).2.1) j (1 <<< ((nI k) &&& 31)) (clrJ ((finL s g nd bf j k).2.2) 6) n) 0 6)]) rfl ?_
          refine lv_iconst (v := (-1)) hx hb dX11_finishedAll_52 (by decide) ?_
          refine lv_icmp_ne (tgt := 64) hx hb dX11_finishedAll_53 (by decide) (fun c_53 => ?_) (fun c_53 => ?_)
          · skip
            obtain ⟨x_54, ex_54⟩ : ∃ y : Int32, y = (nI k) + 1 := ⟨_, rfl⟩
            refine lv_iinc (v := x_54) (lv' := [(3, .int x_54), (4, .int (sumM ((finL s g nd bf j k).2.1) j (1 <<< ((nI k) &&& 31)) n)), (2, .int ((finL s g nd bf j k).1)), (0, .ref m), (1, .int (nI j))]) hx hb dX11_finishedAll_64 hl (k := 1) rfl (by rw [ex_54]; rfl) (by decide) rfl (fun ls hl => ?_)
            refine lv_goto (tgt := 8) hx hb dX11_finishedAll_67 (by decide) ?_
            have hr_55 : finL s g nd bf j (k + 1) = (((finL s g nd bf j k).1, ((finL s g nd bf j k).2.1), (needM ((finL s g nd bf j k).2.1) j (1 <<< ((nI k) &&& 31)) (clrJ ((finL s g nd bf j k).2.2) 6) n)) : Int32 × (Nat → Int32) × (Nat → Int32)) := by
              simp only [finL, hcc, hdd, hnn, hfn, ex_54]
              rw [if_pos c_43, if_neg c_53]
            have el_3 : x_54 = nI (k + 1) := by rw [ex_54]; exact nI_1 k
            have el_2 : (finL s g nd bf j k).1 = (finL s g nd bf j (k + 1)).1 := by rw [hr_55]
            have hl := lv_sub (l' := [(3, .int x_54), (2, .int ((finL s g nd bf j k).1)), (0, .ref m), (1, .int (nI j))]) hl [0, 2, 3, 4] rfl
            rw [el_3, el_2] at hl
            have wf_56 : ω_35.2 (m + 1) = some (.inl (G.2.1 0, 324, .inl ((finL s g nd bf j (k + 1)).2.1))) := f_42.trans (congrArg some (by rw [hr_55]))
            have wf_57 : ω_35.2 (m + 7) = some (.inl (G.2.1 0, 6, .inl ((finL s g nd bf j (k + 1)).2.2))) := f_39.trans (congrArg some (by rw [hr_55]))
            have fr_58 : ∀ q : Nat, ¬ q = (m + 1) → ¬ q = (m + 7) → ω_35.2 q = ω_2.2 q := by
              intro q h0 h1
              rw [fr_38 q (by omega)]
              rw [hfrτk q (by omega) (by omega)]
            have z_59 : ω_35.1 = ω_2.1 := by rw [z_37, hzτk]
            exact ih (k + 1) ω_35 (by omega) (by first | assumption | omega | (simp; done)) z_59 wf_56 wf_57 fr_58 _ _ _ hR hS hl
          · skip
            refine lv_aload_n hx hb dX11_finishedAll_56 rfl (lv_at hl 3 rfl) ?_
            refine lv_iconst (v := (-1)) hx hb dX11_finishedAll_57 (by decide) ?_
            refine fw_call (va_runV (As := [.int (-1)]) (rest := []) ⟨hx, hb, hml, hown, hts⟩ (c_X11_tinGets G hL l ω_35 m s ((finL s g nd bf j k).2.1) f_40 f_42 (needM ((finL s g nd bf j k).2.1) j (1 <<< ((nI k) &&& 31)) (clrJ ((finL s g nd bf j k).2.2) 6) n) f_39 (-1)) (cwV 1 hts gX11_finishedAll_X11_tinGets rfl rfl rfl (by decide +kernel) ⟨Nat.le_of_ble_eq_true rfl, Nat.le_of_ble_eq_true rfl⟩) (fw_preV hW hK hR f_40 rfl) rfl rfl hl.1 rfl (lv_room (Nat.le_of_ble_eq_true rfl)) dX11_finishedAll_58 ⟨Nat.le_of_ble_eq_true rfl, Nat.le_of_ble_eq_true rfl⟩) hS (fun v_60 ω_61 H locs hq_62 hR hS => ?_)
            obtain ⟨rfl, z_63, f_65, fr_64⟩ := hq_62
            refine W.eq (g2 := F0 mI 61 ls []) rfl ?_
            obtain ⟨x_66, ex_66⟩ : ∃ y : Int32, y = ((finL s g nd bf j k).1) + 1 := ⟨_, rfl⟩
            refine lv_iinc (v := x_66) (lv' := [(2, .int x_66), (4, .int (sumM ((finL s g nd bf j k).2.1) j (1 <<< ((nI k) &&& 31)) n)), (3, .int (nI k)), (0, .ref m), (1, .int (nI j))]) hx hb dX11_finishedAll_61 hl (k := 2) rfl (by rw [ex_66]; rfl) (by decide) rfl (fun ls hl => ?_)
            obtain ⟨x_67, ex_67⟩ : ∃ y : Int32, y = (nI k) + 1 := ⟨_, rfl⟩
            refine lv_iinc (v := x_67) (lv' := [(3, .int x_67), (2, .int x_66), (4, .int (sumM ((finL s g nd bf j k).2.1) j (1 <<< ((nI k) &&& 31)) n)), (0, .ref m), (1, .int (nI j))]) hx hb dX11_finishedAll_64 hl (k := 2) rfl (by rw [ex_67]; rfl) (by decide) rfl (fun ls hl => ?_)
            refine lv_goto (tgt := 8) hx hb dX11_finishedAll_67 (by decide) ?_
            have f_68 : ω_61.2 (m + 7) = some (.inl (G.2.1 0, 6, .inl (needM ((finL s g nd bf j k).2.1) j (1 <<< ((nI k) &&& 31)) (clrJ ((finL s g nd bf j k).2.2) 6) n))) := (fr_64 (m + 7) (by omega)).trans f_39
            have hr_69 : finL s g nd bf j (k + 1) = ((x_66, (getsM ((finL s g nd bf j k).2.1) (needM ((finL s g nd bf j k).2.1) j (1 <<< ((nI k) &&& 31)) (clrJ ((finL s g nd bf j k).2.2) 6) n) (-1) 6), (needM ((finL s g nd bf j k).2.1) j (1 <<< ((nI k) &&& 31)) (clrJ ((finL s g nd bf j k).2.2) 6) n)) : Int32 × (Nat → Int32) × (Nat → Int32)) := by
              simp only [finL, hcc, hdd, hnn, hfn, ex_66, ex_67]
              rw [if_pos c_43, if_pos c_53]
            have el_3 : x_67 = nI (k + 1) := by rw [ex_67]; exact nI_1 k
            have el_2 : x_66 = (finL s g nd bf j (k + 1)).1 := by rw [hr_69]
            have hl := lv_sub (l' := [(3, .int x_67), (2, .int x_66), (0, .ref m), (1, .int (nI j))]) hl [0, 1, 3, 4] rfl
            rw [el_3, el_2] at hl
            have wf_70 : ω_61.2 (m + 1) = some (.inl (G.2.1 0, 324, .inl ((finL s g nd bf j (k + 1)).2.1))) := f_65.trans (congrArg some (by rw [hr_69]))
            have wf_71 : ω_61.2 (m + 7) = some (.inl (G.2.1 0, 6, .inl ((finL s g nd bf j (k + 1)).2.2))) := f_68.trans (congrArg some (by rw [hr_69]))
            have fr_72 : ∀ q : Nat, ¬ q = (m + 1) → ¬ q = (m + 7) → ω_61.2 q = ω_2.2 q := by
              intro q h0 h1
              rw [fr_64 q (by omega)]
              rw [fr_38 q (by omega)]
              rw [hfrτk q (by omega) (by omega)]
            have z_73 : ω_61.1 = ω_2.1 := by rw [z_63, z_37, hzτk]
            exact ih (k + 1) ω_61 (by omega) (by first | assumption | omega | (simp; done)) z_73 wf_70 wf_71 fr_72 _ _ _ hR hS hl
  have h0_74 : (0 : Int32) = (finL s g nd bf j 0).1 := by rw [hi_9]
  have hl : lv_has ls 5 [(3, .int 0), (2, .int ((finL s g nd bf j 0).1)), (0, .ref m), (1, .int (nI j))] := by rw [← h0_74]; exact hl
  have w0_75 : ω_2.2 (m + 1) = some (.inl (G.2.1 0, 324, .inl ((finL s g nd bf j 0).2.1))) := f_7.trans (congrArg some (by rw [hi_9]))
  have w0_76 : ω_2.2 (m + 7) = some (.inl (G.2.1 0, 6, .inl ((finL s g nd bf j 0).2.2))) := f_8.trans (congrArg some (by rw [hi_9]))
  exact loop_10 _ 0 ω_2 (Nat.lt_succ_self _) (by first | rfl | assumption | omega | (simp; done)) rfl w0_75 w0_76 (fun _ _ _ => rfl) _ _ _ hR hS (lv_sub hl [0, 1, 2, 3] rfl)
def couldM (s g nd bf : Nat → Int32) (lf : Int32) : Int32 × (Nat → Int32) × (Nat → Int32) × (Nat → Int32) × (Nat → Int32) := if inB lf 0 (g 0 - 1) then ((((finAllM s g nd bf (cN lf)).1), (upd s 14 0), ((finAllM s g nd bf (cN lf)).2.1), ((finAllM s g nd bf (cN lf)).2.2.1), ((finAllM s g nd bf (cN lf)).2.2.2))) else ((0, (upd s 14 1), g, nd, bf))
set_option maxHeartbeats 4000000 in
set_option maxRecDepth 100000 in
theorem c_X11_couldFinish (G : FG) (hL : FL G) (l : Launch) (ω : FWd) (m : Nat) (s g : Nat → Int32) (m0 : ω.2 m = some (.inr (13, [.ref (m + 1), .ref (m + 2), .ref (m + 3), .int (s 3), .ref (m + 4), .int (s 5), .ref (m + 5), .int (s 7), .int (s 8), .int (s 9), .int (s 10), .int (s 11), .ref (m + 6), .int (s 13), .int (s 14), .ref (m + 7), .int (s 16), .int (s 17), .ref (m + 8)]))) (m1 : ω.2 (m + 1) = some (.inl (G.2.1 0, 324, .inl g))) (nd : Nat → Int32) (m7 : ω.2 (m + 7) = some (.inl (G.2.1 0, 6, .inl nd))) (bf : Nat → Int32) (m2 : ω.2 (m + 2) = some (.inl (G.2.1 0, 324, .inl bf))) (hM : WFM g) (lf : Int32) : FMet G l yX11_couldFinish wsX11_couldFinish ({ frames := 3, cells := 0, slots := 0, locals := 72 } : Room) [.ref m, .int lf] ω (fun vv9 τ9 => vv9 = some (.int ((couldM s g nd bf lf).1)) ∧ τ9.1 = ω.1 ∧ τ9.2 m = some (.inr (13, [.ref (m + 1), .ref (m + 2), .ref (m + 3), .int (((couldM s g nd bf lf).2.1) 3), .ref (m + 4), .int (((couldM s g nd bf lf).2.1) 5), .ref (m + 5), .int (((couldM s g nd bf lf).2.1) 7), .int (((couldM s g nd bf lf).2.1) 8), .int (((couldM s g nd bf lf).2.1) 9), .int (((couldM s g nd bf lf).2.1) 10), .int (((couldM s g nd bf lf).2.1) 11), .ref (m + 6), .int (((couldM s g nd bf lf).2.1) 13), .int (((couldM s g nd bf lf).2.1) 14), .ref (m + 7), .int (((couldM s g nd bf lf).2.1) 16), .int (((couldM s g nd bf lf).2.1) 17), .ref (m + 8)])) ∧ τ9.2 (m + 1) = some (.inl (G.2.1 0, 324, .inl ((couldM s g nd bf lf).2.2.1))) ∧ τ9.2 (m + 7) = some (.inl (G.2.1 0, 6, .inl ((couldM s g nd bf lf).2.2.2.1))) ∧ τ9.2 (m + 2) = some (.inl (G.2.1 0, 324, .inl ((couldM s g nd bf lf).2.2.2.2))) ∧ ∀ q : Nat, ¬ q = m → ¬ q = (m + 1) → ¬ q = (m + 7) → ¬ q = (m + 2) → τ9.2 q = ω.2 q) 0 0 := by
  refine fw_ofW (cc := cX11_couldFinish) (maxL := 2) (ret := (some .int)) (by decide) rfl (Nat.le_of_ble_eq_true rfl) ?_
  intro pP eE sS mI ar9 bl9 meth cD ls hx hb hr hlocks hml hts hown hnm hW hR hl
  have hK := hL.K hW
  have hS : va_S (fwA G) sS.heap sS.heap [] := va_S.rf
  have hl : lv_has ls 2 [(0, .ref m), (1, .int lf)] := hl
  obtain ⟨c, hc8, hc, hcc⟩ := okN_of hM.1
  obtain ⟨cc, hd5, hd, hdd⟩ := okN_of hM.2.1
  refine lv_aload_n hx hb dX11_couldFinish_0 rfl (lv_at hl 0 rfl) ?_
  refine lv_iload_n hx hb dX11_couldFinish_1 rfl (lv_at hl 1 rfl) ?_
  refine fw_call (va_runV (As := [.int lf]) (rest := []) ⟨hx, hb, hml, hown, hts⟩ (c_X11_isLeaflet G hL l ω m s g m0 m1 lf) (cwV 1 hts gX11_couldFinish_X11_isLeaflet rfl rfl rfl (by decide +kernel) ⟨Nat.le_of_ble_eq_true rfl, Nat.le_of_ble_eq_true rfl⟩) (fw_preV hW hK hR m0 rfl) rfl rfl hl.1 rfl (lv_room (Nat.le_of_ble_eq_true rfl)) dX11_couldFinish_2 ⟨Nat.le_of_ble_eq_true rfl, Nat.le_of_ble_eq_true rfl⟩) hS (fun v_1 ω_2 H locs hq_3 hR hS => ?_)
  obtain ⟨rfl, hq_3⟩ := hq_3
  rw [hq_3] at hR
  refine W.eq (g2 := F0 mI 5 ls [.int (bz (inB lf 0 (g 0 - 1)))]) rfl ?_
  refine lv_if_eq (tgt := 20) hx hb dX11_couldFinish_5 (by decide) (fun c_4 => ?_) (fun c_4 => ?_)
  · skip
    have c_4 := bz_eq c_4
    refine lv_aload_n hx hb dX11_couldFinish_20 rfl (lv_at hl 0 rfl) ?_
    refine lv_iconst (v := 1) hx hb dX11_couldFinish_21 (by decide) ?_
    refine fw_call (va_runV (As := [.int 1]) (rest := []) ⟨hx, hb, hml, hown, hts⟩ (c_X11_fails G hL l ω m s g m0 m1 1) (cwV 1 hts gX11_couldFinish_X11_fails rfl rfl rfl (by decide +kernel) ⟨Nat.le_of_ble_eq_true rfl, Nat.le_of_ble_eq_true rfl⟩) (fw_preV hW hK hR m0 rfl) rfl rfl hl.1 rfl (lv_room (Nat.le_of_ble_eq_true rfl)) dX11_couldFinish_22 ⟨Nat.le_of_ble_eq_true rfl, Nat.le_of_ble_eq_true rfl⟩) hS (fun v_5 ω_6 H locs hq_7 hR hS => ?_)
    obtain ⟨rfl, z_8, f_10, fr_9⟩ := hq_7
    refine W.eq (g2 := F0 mI 25 ls [.int 0]) rfl ?_
    have f_11 : ω_6.2 (m + 1) = some (.inl (G.2.1 0, 324, .inl g)) := (fr_9 (m + 1) (by omega)).trans m1
    have f_12 : ω_6.2 (m + 7) = some (.inl (G.2.1 0, 6, .inl nd)) := (fr_9 (m + 7) (by omega)).trans m7
    have f_13 : ω_6.2 (m + 2) = some (.inl (G.2.1 0, 324, .inl bf)) := (fr_9 (m + 2) (by omega)).trans m2
    have fr_14 : ∀ q : Nat, ¬ q = m → ¬ q = (m + 1) → ¬ q = (m + 7) → ¬ q = (m + 2) → ω_6.2 q = ω.2 q := by
      intro q h0 h1 h2 h3
      rw [fr_9 q (by omega)]
    have z_15 : ω_6.1 = ω.1 := by rw [z_8]
    have hr_16 : couldM s g nd bf lf = ((0, (upd s 14 1), g, nd, bf) : Int32 × (Nat → Int32) × (Nat → Int32) × (Nat → Int32) × (Nat → Int32)) := by
      simp only [couldM, hcc, hdd]
      rw [if_neg c_4]
    refine fw_iret hx hb hr hlocks hR hS dX11_couldFinish_25 ?_
    rw [hr_16]
    exact ⟨rfl, z_15, f_10, f_11, f_12, f_13, fr_14⟩
  · skip
    have c_4 := bz_ne c_4
    obtain ⟨j, hj2, rfl⟩ := in_c hc hc8 c_4
    have hcj : cN (nI j) = j := cN_nI (by omega)
    obtain ⟨n, hn8, hn, hnn⟩ := okN_of (hM.2.2 j (by rw [hcc]; exact hj2)).1
    obtain ⟨f, hf3, hff, hfn⟩ := okN_of (hM.2.2 j (by rw [hcc]; exact hj2)).2.1
    have hkd : ∀ q, q < n → g (68 + 8 * j + q) = nI (cN (g (68 + 8 * j + q))) ∧ cN (g (68 + 8 * j + q)) < 6 := fun q hq => by have h9 := (hM.2.2 j (by rw [hcc]; exact hj2)).2.2 q (by rw [hnn]; exact hq); exact ⟨h9.1, Nat.lt_succ_of_le h9.2⟩
    refine lv_aload_n hx hb dX11_couldFinish_8 rfl (lv_at hl 0 rfl) ?_
    refine lv_aload_n hx hb dX11_couldFinish_9 rfl (lv_at hl 0 rfl) ?_
    refine lv_iload_n hx hb dX11_couldFinish_10 rfl (lv_at hl 1 rfl) ?_
    refine fw_call (va_runV (As := [.int (nI j)]) (rest := [.ref m]) ⟨hx, hb, hml, hown, hts⟩ (c_X11_finishedAll G hL l ω m s g m0 m1 nd m7 bf m2 hM j (by rw [hcc]; omega)) (cwV 1 hts gX11_couldFinish_X11_finishedAll rfl rfl rfl (by decide +kernel) ⟨Nat.le_of_ble_eq_true rfl, Nat.le_of_ble_eq_true rfl⟩) (fw_preV hW hK hR m0 rfl) rfl rfl hl.1 rfl (lv_room (Nat.le_of_ble_eq_true rfl)) dX11_couldFinish_11 ⟨Nat.le_of_ble_eq_true rfl, Nat.le_of_ble_eq_true rfl⟩) hS (fun v_17 ω_18 H locs hq_19 hR hS => ?_)
    obtain ⟨rfl, z_20, f_22, f_23, f_24, fr_21⟩ := hq_19
    refine W.eq (g2 := F0 mI 14 ls [.int ((finAllM s g nd bf j).1), .ref m]) rfl ?_
    have f_25 : ω_18.2 m = some (.inr (13, [.ref (m + 1), .ref (m + 2), .ref (m + 3), .int (s 3), .ref (m + 4), .int (s 5), .ref (m + 5), .int (s 7), .int (s 8), .int (s 9), .int (s 10), .int (s 11), .ref (m + 6), .int (s 13), .int (s 14), .ref (m + 7), .int (s 16), .int (s 17), .ref (m + 8)])) := (fr_21 m (by omega) (by omega) (by omega)).trans m0
    refine fw_call (va_runV (As := [.int ((finAllM s g nd bf j).1)]) (rest := []) ⟨hx, hb, hml, hown, hts⟩ (c_X11_done G hL l ω_18 m s ((finAllM s g nd bf j).2.1) f_25 f_22 ((finAllM s g nd bf j).1)) (cwV 1 hts gX11_couldFinish_X11_done rfl rfl rfl (by decide +kernel) ⟨Nat.le_of_ble_eq_true rfl, Nat.le_of_ble_eq_true rfl⟩) (fw_preV hW hK hR f_25 rfl) rfl rfl hl.1 rfl (lv_room (Nat.le_of_ble_eq_true rfl)) dX11_couldFinish_14 ⟨Nat.le_of_ble_eq_true rfl, Nat.le_of_ble_eq_true rfl⟩) hS (fun v_26 ω_27 H locs hq_28 hR hS => ?_)
    obtain ⟨rfl, z_29, f_31, fr_30⟩ := hq_28
    refine W.eq (g2 := F0 mI 17 ls [.int ((finAllM s g nd bf j).1)]) rfl ?_
    refine lv_goto (tgt := 25) hx hb dX11_couldFinish_17 (by decide) ?_
    have f_32 : ω_27.2 (m + 1) = some (.inl (G.2.1 0, 324, .inl ((finAllM s g nd bf j).2.1))) := (fr_30 (m + 1) (by omega)).trans f_22
    have f_33 : ω_27.2 (m + 7) = some (.inl (G.2.1 0, 6, .inl ((finAllM s g nd bf j).2.2.1))) := (fr_30 (m + 7) (by omega)).trans f_23
    have f_34 : ω_27.2 (m + 2) = some (.inl (G.2.1 0, 324, .inl ((finAllM s g nd bf j).2.2.2))) := (fr_30 (m + 2) (by omega)).trans f_24
    have fr_35 : ∀ q : Nat, ¬ q = m → ¬ q = (m + 1) → ¬ q = (m + 7) → ¬ q = (m + 2) → ω_27.2 q = ω.2 q := by
      intro q h0 h1 h2 h3
      rw [fr_30 q (by omega)]
      rw [fr_21 q (by omega) (by omega) (by omega)]
    have z_36 : ω_27.1 = ω.1 := by rw [z_29, z_20]
    have hr_37 : couldM s g nd bf (nI j) = ((((finAllM s g nd bf j).1), (upd s 14 0), ((finAllM s g nd bf j).2.1), ((finAllM s g nd bf j).2.2.1), ((finAllM s g nd bf j).2.2.2)) : Int32 × (Nat → Int32) × (Nat → Int32) × (Nat → Int32) × (Nat → Int32)) := by
      simp only [couldM, hcc, hdd, hcj, hnn, hfn]
      rw [if_pos c_4]
    refine fw_iret hx hb hr hlocks hR hS dX11_couldFinish_25 ?_
    rw [hr_37]
    exact ⟨rfl, z_36, f_31, f_32, f_33, f_34, fr_35⟩
def meanM (s g : Nat → Int32) : UInt64 × (Nat → Int32) := if (g 0) = 0 then ((FP.dconst0, (upd s 14 1))) else ((FP.ddiv (FP.i2d (sumaM (upd s 14 0) g 18 8)) (FP.i2d (g 0)), (upd s 14 0)))
set_option maxHeartbeats 4000000 in
set_option maxRecDepth 100000 in
theorem c_X11_meanSteps (G : FG) (hL : FL G) (l : Launch) (ω : FWd) (m : Nat) (s g : Nat → Int32) (m0 : ω.2 m = some (.inr (13, [.ref (m + 1), .ref (m + 2), .ref (m + 3), .int (s 3), .ref (m + 4), .int (s 5), .ref (m + 5), .int (s 7), .int (s 8), .int (s 9), .int (s 10), .int (s 11), .ref (m + 6), .int (s 13), .int (s 14), .ref (m + 7), .int (s 16), .int (s 17), .ref (m + 8)]))) (m1 : ω.2 (m + 1) = some (.inl (G.2.1 0, 324, .inl g))) (hM : WFM g) (hD : ¬ g 0 = 0 → vf_n64 (FP.ddiv (FP.i2d (sumaM (upd s 14 0) g 18 8)) (FP.i2d (g 0)))) : FMet G l yX11_meanSteps wsX11_meanSteps ({ frames := 1, cells := 0, slots := 0, locals := 24 } : Room) [.ref m] ω (fun vv9 τ9 => vv9 = some (.double ((meanM s g).1)) ∧ τ9.1 = ω.1 ∧ τ9.2 m = some (.inr (13, [.ref (m + 1), .ref (m + 2), .ref (m + 3), .int (((meanM s g).2) 3), .ref (m + 4), .int (((meanM s g).2) 5), .ref (m + 5), .int (((meanM s g).2) 7), .int (((meanM s g).2) 8), .int (((meanM s g).2) 9), .int (((meanM s g).2) 10), .int (((meanM s g).2) 11), .ref (m + 6), .int (((meanM s g).2) 13), .int (((meanM s g).2) 14), .ref (m + 7), .int (((meanM s g).2) 16), .int (((meanM s g).2) 17), .ref (m + 8)])) ∧ ∀ q : Nat, ¬ q = m → τ9.2 q = ω.2 q) 0 0 := by
  refine fw_ofW (cc := cX11_meanSteps) (maxL := 1) (ret := (some .double)) (by decide) rfl (Nat.le_of_ble_eq_true rfl) ?_
  intro pP eE sS mI ar9 bl9 meth cD ls hx hb hr hlocks hml hts hown hnm hW hR hl
  have hK := hL.K hW
  have hS : va_S (fwA G) sS.heap sS.heap [] := va_S.rf
  have hin11 : ∀ w ∈ u_ws RX11 TX11 19, w ∈ wsX11_meanSteps := by decide +kernel
  have hl : lv_has ls 1 [(0, .ref m)] := hl
  obtain ⟨c, hc8, hc, hcc⟩ := okN_of hM.1
  obtain ⟨cc, hd5, hd, hdd⟩ := okN_of hM.2.1
  refine lv_aload_n hx hb dX11_meanSteps_0 rfl (lv_at hl 0 rfl) ?_
  refine lv_aload_n hx hb dX11_meanSteps_1 rfl (lv_at hl 0 rfl) ?_
  refine fw_get (v := .ref (m + 1)) (C := RX11) (T := TX11) (N := 19) hx hb hts hin11 hown hK hR m0 rfl 0 (by decide) (hts (.fieldLink RX11 7 "UnreadLeafletsModel" "g" "[I") (by decide +kernel)) rfl dX11_meanSteps_2 ?_
  refine lv_iconst (v := 0) hx hb dX11_meanSteps_5 (by decide) ?_
  refine fw_iald hx hb hK hR m1 (vp_in_nI (n := 0) (by omega) (by omega)) dX11_meanSteps_6 ?_
  refine W.eq (g2 := F0 mI 7 ls [.int (g 0), .ref m]) (by rw [show (0 : Int32).toNatClampNeg = 0 from rfl]) ?_
  refine lv_if_ne (tgt := 14) hx hb dX11_meanSteps_7 (by decide) (fun c_1 => ?_) (fun c_1 => ?_)
  · skip
    refine lv_iconst (v := 0) hx hb dX11_meanSteps_14 (by decide) ?_
    refine fw_put (v := .int 0) (C := RX11) (T := TX11) (N := 19) hx hb hts hin11 tyX11 tyX11_ok nmX11 hown hK hR hS m0 rfl 14 (by decide) (hts (.fieldLink RX11 39 "UnreadLeafletsModel" "thrown" "I") (by decide +kernel)) rfl rfl rfl (Nat.le_of_ble_eq_true rfl) dX11_meanSteps_15 (fun H locs hR hS => ?_)
    obtain ⟨ω_2, hw_3⟩ : ∃ τ : FWd, τ = (ω.1, va_up ω.2 m (some (.inr (13, [.ref (m + 1), .ref (m + 2), .ref (m + 3), .int ((upd s 14 0) 3), .ref (m + 4), .int ((upd s 14 0) 5), .ref (m + 5), .int ((upd s 14 0) 7), .int ((upd s 14 0) 8), .int ((upd s 14 0) 9), .int ((upd s 14 0) 10), .int ((upd s 14 0) 11), .ref (m + 6), .int ((upd s 14 0) 13), .int ((upd s 14 0) 14), .ref (m + 7), .int ((upd s 14 0) 16), .int ((upd s 14 0) 17), .ref (m + 8)])))) := ⟨_, rfl⟩
    have hR : fR G ω_2 H := by rw [hw_3]; exact hR
    have f_4 : ω_2.2 m = some (.inr (13, [.ref (m + 1), .ref (m + 2), .ref (m + 3), .int ((upd s 14 0) 3), .ref (m + 4), .int ((upd s 14 0) 5), .ref (m + 5), .int ((upd s 14 0) 7), .int ((upd s 14 0) 8), .int ((upd s 14 0) 9), .int ((upd s 14 0) 10), .int ((upd s 14 0) 11), .ref (m + 6), .int ((upd s 14 0) 13), .int ((upd s 14 0) 14), .ref (m + 7), .int ((upd s 14 0) 16), .int ((upd s 14 0) 17), .ref (m + 8)])) := by rw [hw_3]; exact va_up_at
    have fr_5 : ∀ q : Nat, ¬ q = m → ω_2.2 q = ω.2 q := fun q hq => by rw [hw_3]; exact va_up_off hq
    have z_6 : ω_2.1 = ω.1 := by rw [hw_3]
    refine lv_aload_n hx hb dX11_meanSteps_18 rfl (lv_at hl 0 rfl) ?_
    refine fw_get (v := .int 0) (C := RX11) (T := TX11) (N := 19) hx hb hts hin11 hown hK hR f_4 rfl 14 (by decide) (hts (.fieldLink RX11 39 "UnreadLeafletsModel" "thrown" "I") (by decide +kernel)) rfl dX11_meanSteps_19 ?_
    refine lv_if_ne (tgt := 45) hx hb dX11_meanSteps_22 (by decide) (fun c_7 => ?_) (fun c_7 => ?_)
    · skip
      exact absurd c_7 (by decide)
    · skip
      refine lv_aload_n hx hb dX11_meanSteps_25 rfl (lv_at hl 0 rfl) ?_
      refine lv_bipush (v := 18) hx hb dX11_meanSteps_26 (by decide) ?_
      refine lv_bipush (v := 8) hx hb dX11_meanSteps_28 (by decide) ?_
      have f_8 : ω_2.2 (m + 1) = some (.inl (G.2.1 0, 324, .inl g)) := (fr_5 (m + 1) (by omega)).trans m1
      refine fw_call (va_runV (As := [.int 18, .int 8]) (rest := []) ⟨hx, hb, hml, hown, hts⟩ (c_X11_sum G hL l ω_2 m (upd s 14 0) g f_4 f_8  18 8 (by omega) (by omega)) (cwV 2 hts gX11_meanSteps_X11_sum rfl rfl rfl (by decide +kernel) ⟨Nat.le_of_ble_eq_true rfl, Nat.le_of_ble_eq_true rfl⟩) (fw_preV hW hK hR f_4 rfl) rfl rfl hl.1 rfl (lv_room (Nat.le_of_ble_eq_true rfl)) dX11_meanSteps_30 ⟨Nat.le_of_ble_eq_true rfl, Nat.le_of_ble_eq_true rfl⟩) hS (fun v_9 ω_10 H locs hq_11 hR hS => ?_)
      obtain ⟨rfl, hq_11⟩ := hq_11
      rw [hq_11] at hR
      refine W.eq (g2 := F0 mI 33 ls [.int (sumaM (upd s 14 0) g 18 8)]) rfl ?_
      refine lv_i2d hx hb dX11_meanSteps_33 ?_
      refine lv_aload_n hx hb dX11_meanSteps_34 rfl (lv_at hl 0 rfl) ?_
      refine fw_get (v := .ref (m + 1)) (C := RX11) (T := TX11) (N := 19) hx hb hts hin11 hown hK hR f_4 rfl 0 (by decide) (hts (.fieldLink RX11 7 "UnreadLeafletsModel" "g" "[I") (by decide +kernel)) rfl dX11_meanSteps_35 ?_
      refine lv_iconst (v := 0) hx hb dX11_meanSteps_38 (by decide) ?_
      refine fw_iald hx hb hK hR f_8 (vp_in_nI (n := 0) (by omega) (by omega)) dX11_meanSteps_39 ?_
      refine W.eq (g2 := F0 mI 40 ls [.int (g 0), .double (FP.i2d (sumaM (upd s 14 0) g 18 8))]) (by rw [show (0 : Int32).toNatClampNeg = 0 from rfl]) ?_
      refine lv_i2d hx hb dX11_meanSteps_40 ?_
      refine lv_ddiv hx hb dX11_meanSteps_41 (hD c_1) ?_
      refine lv_goto (tgt := 46) hx hb dX11_meanSteps_42 (by decide) ?_
      have fr_12 : ∀ q : Nat, ¬ q = m → ω_2.2 q = ω.2 q := by
        intro q h0
        rw [fr_5 q (by omega)]
      have z_13 : ω_2.1 = ω.1 := by rw [z_6]
      have hr_14 : meanM s g = ((FP.ddiv (FP.i2d (sumaM (upd s 14 0) g 18 8)) (FP.i2d (g 0)), (upd s 14 0)) : UInt64 × (Nat → Int32)) := by
        simp only [meanM, hcc, hdd]
        rw [if_neg c_1]
      refine fw_dret hx hb hr hlocks hR hS dX11_meanSteps_46 ?_
      rw [hr_14]
      exact ⟨rfl, z_13, f_4, fr_12⟩
  · skip
    refine lv_iconst (v := 1) hx hb dX11_meanSteps_10 (by decide) ?_
    refine lv_goto (tgt := 15) hx hb dX11_meanSteps_11 (by decide) ?_
    refine fw_put (v := .int 1) (C := RX11) (T := TX11) (N := 19) hx hb hts hin11 tyX11 tyX11_ok nmX11 hown hK hR hS m0 rfl 14 (by decide) (hts (.fieldLink RX11 39 "UnreadLeafletsModel" "thrown" "I") (by decide +kernel)) rfl rfl rfl (Nat.le_of_ble_eq_true rfl) dX11_meanSteps_15 (fun H locs hR hS => ?_)
    obtain ⟨ω_15, hw_16⟩ : ∃ τ : FWd, τ = (ω.1, va_up ω.2 m (some (.inr (13, [.ref (m + 1), .ref (m + 2), .ref (m + 3), .int ((upd s 14 1) 3), .ref (m + 4), .int ((upd s 14 1) 5), .ref (m + 5), .int ((upd s 14 1) 7), .int ((upd s 14 1) 8), .int ((upd s 14 1) 9), .int ((upd s 14 1) 10), .int ((upd s 14 1) 11), .ref (m + 6), .int ((upd s 14 1) 13), .int ((upd s 14 1) 14), .ref (m + 7), .int ((upd s 14 1) 16), .int ((upd s 14 1) 17), .ref (m + 8)])))) := ⟨_, rfl⟩
    have hR : fR G ω_15 H := by rw [hw_16]; exact hR
    have f_17 : ω_15.2 m = some (.inr (13, [.ref (m + 1), .ref (m + 2), .ref (m + 3), .int ((upd s 14 1) 3), .ref (m + 4), .int ((upd s 14 1) 5), .ref (m + 5), .int ((upd s 14 1) 7), .int ((upd s 14 1) 8), .int ((upd s 14 1) 9), .int ((upd s 14 1) 10), .int ((upd s 14 1) 11), .ref (m + 6), .int ((upd s 14 1) 13), .int ((upd s 14 1) 14), .ref (m + 7), .int ((upd s 14 1) 16), .int ((upd s 14 1) 17), .ref (m + 8)])) := by rw [hw_16]; exact va_up_at
    have fr_18 : ∀ q : Nat, ¬ q = m → ω_15.2 q = ω.2 q := fun q hq => by rw [hw_16]; exact va_up_off hq
    have z_19 : ω_15.1 = ω.1 := by rw [hw_16]
    refine lv_aload_n hx hb dX11_meanSteps_18 rfl (lv_at hl 0 rfl) ?_
    refine fw_get (v := .int 1) (C := RX11) (T := TX11) (N := 19) hx hb hts hin11 hown hK hR f_17 rfl 14 (by decide) (hts (.fieldLink RX11 39 "UnreadLeafletsModel" "thrown" "I") (by decide +kernel)) rfl dX11_meanSteps_19 ?_
    refine lv_if_ne (tgt := 45) hx hb dX11_meanSteps_22 (by decide) (fun c_20 => ?_) (fun c_20 => ?_)
    · skip
      refine lv_dconst0 hx hb dX11_meanSteps_45 ?_
      have fr_21 : ∀ q : Nat, ¬ q = m → ω_15.2 q = ω.2 q := by
        intro q h0
        rw [fr_18 q (by omega)]
      have z_22 : ω_15.1 = ω.1 := by rw [z_19]
      have hr_23 : meanM s g = ((FP.dconst0, (upd s 14 1)) : UInt64 × (Nat → Int32)) := by
        simp only [meanM, hcc, hdd]
        rw [if_pos c_1]
      refine fw_dret hx hb hr hlocks hR hS dX11_meanSteps_46 ?_
      rw [hr_23]
      exact ⟨rfl, z_22, f_17, fr_21⟩
    · skip
      exact absurd c_20 (by decide)
def shareL (s g : Nat → Int32) : Nat → Int32 × Int32
  | 0 => (0, 0)
  | k + 1 => if (g (42 + k)) = 0 then (((((shareL s g k).1) + 0), (((shareL s g k).2) + (bitsJ (g (50 + k)) 8)))) else (((((shareL s g k).1) + (g (18 + k))), (((shareL s g k).2) + (bitsJ (g (50 + k)) 8))))
def shareM (s g : Nat → Int32) : UInt32 × (Nat → Int32) := if ((shareL s g (cN (g 0))).1) = 0 then ((FP.fconst0, (upd s 14 1))) else ((FP.fdiv (FP.i2f ((shareL s g (cN (g 0))).2)) (FP.i2f ((shareL s g (cN (g 0))).1)), (upd s 14 0)))
set_option maxHeartbeats 4000000 in
set_option maxRecDepth 100000 in
theorem c_X11_skippedShare (G : FG) (hL : FL G) (l : Launch) (ω : FWd) (m : Nat) (s g : Nat → Int32) (m0 : ω.2 m = some (.inr (13, [.ref (m + 1), .ref (m + 2), .ref (m + 3), .int (s 3), .ref (m + 4), .int (s 5), .ref (m + 5), .int (s 7), .int (s 8), .int (s 9), .int (s 10), .int (s 11), .ref (m + 6), .int (s 13), .int (s 14), .ref (m + 7), .int (s 16), .int (s 17), .ref (m + 8)]))) (m1 : ω.2 (m + 1) = some (.inl (G.2.1 0, 324, .inl g))) (hM : WFM g) (hD : ¬ (shareL s g (cN (g 0))).1 = 0 → vf_n32 (FP.fdiv (FP.i2f (shareL s g (cN (g 0))).2) (FP.i2f (shareL s g (cN (g 0))).1))) : FMet G l yX11_skippedShare wsX11_skippedShare ({ frames := 1, cells := 0, slots := 0, locals := 22 } : Room) [.ref m] ω (fun vv9 τ9 => vv9 = some (.float ((shareM s g).1)) ∧ τ9.1 = ω.1 ∧ τ9.2 m = some (.inr (13, [.ref (m + 1), .ref (m + 2), .ref (m + 3), .int (((shareM s g).2) 3), .ref (m + 4), .int (((shareM s g).2) 5), .ref (m + 5), .int (((shareM s g).2) 7), .int (((shareM s g).2) 8), .int (((shareM s g).2) 9), .int (((shareM s g).2) 10), .int (((shareM s g).2) 11), .ref (m + 6), .int (((shareM s g).2) 13), .int (((shareM s g).2) 14), .ref (m + 7), .int (((shareM s g).2) 16), .int (((shareM s g).2) 17), .ref (m + 8)])) ∧ ∀ q : Nat, ¬ q = m → τ9.2 q = ω.2 q) 0 0 := by
  refine fw_ofW (cc := cX11_skippedShare) (maxL := 4) (ret := (some .float)) (by decide) rfl (Nat.le_of_ble_eq_true rfl) ?_
  intro pP eE sS mI ar9 bl9 meth cD ls hx hb hr hlocks hml hts hown hnm hW hR hl
  have hK := hL.K hW
  have hS : va_S (fwA G) sS.heap sS.heap [] := va_S.rf
  have hin11 : ∀ w ∈ u_ws RX11 TX11 19, w ∈ wsX11_skippedShare := by decide +kernel
  have hl : lv_has ls 4 [(0, .ref m)] := hl
  obtain ⟨c, hc8, hc, hcc⟩ := okN_of hM.1
  obtain ⟨cc, hd5, hd, hdd⟩ := okN_of hM.2.1
  refine lv_iconst (v := 0) hx hb dX11_skippedShare_0 (by decide) ?_
  refine lv_istore_n (lv' := [(1, .int 0), (0, .ref m)]) hx hb dX11_skippedShare_1 rfl hl (by decide) rfl (fun ls hl => ?_)
  refine lv_iconst (v := 0) hx hb dX11_skippedShare_2 (by decide) ?_
  refine lv_istore_n (lv' := [(2, .int 0), (1, .int 0), (0, .ref m)]) hx hb dX11_skippedShare_3 rfl hl (by decide) rfl (fun ls hl => ?_)
  refine lv_iconst (v := 0) hx hb dX11_skippedShare_4 (by decide) ?_
  refine lv_istore_n (lv' := [(3, .int 0), (2, .int 0), (1, .int 0), (0, .ref m)]) hx hb dX11_skippedShare_5 rfl hl (by decide) rfl (fun ls hl => ?_)
  have hi_1 : shareL s g 0 = ((0, 0) : Int32 × Int32) := by simp only [shareL, hcc, hdd]
  have loop_3 : ∀ (fu : Nat) (k : Nat), (c - k) < fu → (k ≤ c) → ∀ (H : Heap) (locs : List Loc) (ls : Array Slot), fR G ω H → va_S (fwA G) sS.heap H locs → lv_has ls 4 [(3, .int (nI k)), (2, .int ((shareL s g k).2)), (1, .int ((shareL s g k).1)), (0, .ref m)] → W pP l eE ({ frames := 1, cells := 0, slots := 0, locals := 22 } : Room) sS mI ar9 bl9 meth cD H locs 0 0 (MQ bl9 (fQ G (fun vv9 τ9 => vv9 = some (.float ((shareM s g).1)) ∧ τ9.1 = ω.1 ∧ τ9.2 m = some (.inr (13, [.ref (m + 1), .ref (m + 2), .ref (m + 3), .int (((shareM s g).2) 3), .ref (m + 4), .int (((shareM s g).2) 5), .ref (m + 5), .int (((shareM s g).2) 7), .int (((shareM s g).2) 8), .int (((shareM s g).2) 9), .int (((shareM s g).2) 10), .int (((shareM s g).2) 11), .ref (m + 6), .int (((shareM s g).2) 13), .int (((shareM s g).2) 14), .ref (m + 7), .int (((shareM s g).2) 16), .int (((shareM s g).2) 17), .ref (m + 8)])) ∧ ∀ q : Nat, ¬ q = m → τ9.2 q = ω.2 q)) ar9 sS 0 0 (fwA G)) (F0 mI 6 ls []) := by
    intro fu
    induction fu with
    | zero => intro k hfu; exact absurd hfu (Nat.not_lt_zero _)
    | succ fu ih =>
      intro k hfu hkk H locs ls hR hS hl
      refine lv_iload_n hx hb dX11_skippedShare_6 rfl (lv_at hl 0 rfl) ?_
      refine lv_aload_n hx hb dX11_skippedShare_7 rfl (lv_at hl 3 rfl) ?_
      refine fw_get (v := .ref (m + 1)) (C := RX11) (T := TX11) (N := 19) hx hb hts hin11 hown hK hR m0 rfl 0 (by decide) (hts (.fieldLink RX11 7 "UnreadLeafletsModel" "g" "[I") (by decide +kernel)) rfl dX11_skippedShare_8 ?_
      refine lv_iconst (v := 0) hx hb dX11_skippedShare_11 (by decide) ?_
      refine fw_iald hx hb hK hR m1 (vp_in_nI (n := 0) (by omega) (by omega)) dX11_skippedShare_12 ?_
      refine W.eq (g2 := F0 mI 13 ls [.int (g 0), .int (nI k)]) (by rw [show (0 : Int32).toNatClampNeg = 0 from rfl]) ?_
      refine lv_icmp_ge (tgt := 65) hx hb dX11_skippedShare_13 (by decide) (fun c_4 => ?_) (fun c_4 => ?_)
      · skip
        have hj9 := lp_ge (n := c) hc c_4 (by omega) (by omega)
        have hk9 : c = k := by omega
        subst hk9
        refine lv_aload_n hx hb dX11_skippedShare_65 rfl (lv_at hl 3 rfl) ?_
        refine lv_iload_n hx hb dX11_skippedShare_66 rfl (lv_at hl 2 rfl) ?_
        refine lv_if_ne (tgt := 74) hx hb dX11_skippedShare_67 (by decide) (fun c_5 => ?_) (fun c_5 => ?_)
        · skip
          refine lv_iconst (v := 0) hx hb dX11_skippedShare_74 (by decide) ?_
          refine fw_put (v := .int 0) (C := RX11) (T := TX11) (N := 19) hx hb hts hin11 tyX11 tyX11_ok nmX11 hown hK hR hS m0 rfl 14 (by decide) (hts (.fieldLink RX11 39 "UnreadLeafletsModel" "thrown" "I") (by decide +kernel)) rfl rfl rfl (Nat.le_of_ble_eq_true rfl) dX11_skippedShare_75 (fun H locs hR hS => ?_)
          obtain ⟨ω_6, hw_7⟩ : ∃ τ : FWd, τ = (ω.1, va_up ω.2 m (some (.inr (13, [.ref (m + 1), .ref (m + 2), .ref (m + 3), .int ((upd s 14 0) 3), .ref (m + 4), .int ((upd s 14 0) 5), .ref (m + 5), .int ((upd s 14 0) 7), .int ((upd s 14 0) 8), .int ((upd s 14 0) 9), .int ((upd s 14 0) 10), .int ((upd s 14 0) 11), .ref (m + 6), .int ((upd s 14 0) 13), .int ((upd s 14 0) 14), .ref (m + 7), .int ((upd s 14 0) 16), .int ((upd s 14 0) 17), .ref (m + 8)])))) := ⟨_, rfl⟩
          have hR : fR G ω_6 H := by rw [hw_7]; exact hR
          have f_8 : ω_6.2 m = some (.inr (13, [.ref (m + 1), .ref (m + 2), .ref (m + 3), .int ((upd s 14 0) 3), .ref (m + 4), .int ((upd s 14 0) 5), .ref (m + 5), .int ((upd s 14 0) 7), .int ((upd s 14 0) 8), .int ((upd s 14 0) 9), .int ((upd s 14 0) 10), .int ((upd s 14 0) 11), .ref (m + 6), .int ((upd s 14 0) 13), .int ((upd s 14 0) 14), .ref (m + 7), .int ((upd s 14 0) 16), .int ((upd s 14 0) 17), .ref (m + 8)])) := by rw [hw_7]; exact va_up_at
          have fr_9 : ∀ q : Nat, ¬ q = m → ω_6.2 q = ω.2 q := fun q hq => by rw [hw_7]; exact va_up_off hq
          have z_10 : ω_6.1 = ω.1 := by rw [hw_7]
          refine lv_aload_n hx hb dX11_skippedShare_78 rfl (lv_at hl 3 rfl) ?_
          refine fw_get (v := .int 0) (C := RX11) (T := TX11) (N := 19) hx hb hts hin11 hown hK hR f_8 rfl 14 (by decide) (hts (.fieldLink RX11 39 "UnreadLeafletsModel" "thrown" "I") (by decide +kernel)) rfl dX11_skippedShare_79 ?_
          refine lv_if_ne (tgt := 93) hx hb dX11_skippedShare_82 (by decide) (fun c_11 => ?_) (fun c_11 => ?_)
          · skip
            exact absurd c_11 (by decide)
          · skip
            refine lv_iload_n hx hb dX11_skippedShare_85 rfl (lv_at hl 1 rfl) ?_
            refine lv_i2f hx hb dX11_skippedShare_86 ?_
            refine lv_iload_n hx hb dX11_skippedShare_87 rfl (lv_at hl 2 rfl) ?_
            refine lv_i2f hx hb dX11_skippedShare_88 ?_
            refine lv_fdiv hx hb dX11_skippedShare_89 (by rw [hcc] at hD; exact hD c_5) ?_
            refine lv_goto (tgt := 94) hx hb dX11_skippedShare_90 (by decide) ?_
            have fr_12 : ∀ q : Nat, ¬ q = m → ω_6.2 q = ω.2 q := by
              intro q h0
              rw [fr_9 q (by omega)]
            have z_13 : ω_6.1 = ω.1 := by rw [z_10]
            have hr_14 : shareM s g = ((FP.fdiv (FP.i2f ((shareL s g c).2)) (FP.i2f ((shareL s g c).1)), (upd s 14 0)) : UInt32 × (Nat → Int32)) := by
              simp only [shareM, hcc, hdd]
              rw [if_neg c_5]
            refine fw_fret hx hb hr hlocks hR hS dX11_skippedShare_94 ?_
            rw [hr_14]
            exact ⟨rfl, z_13, f_8, fr_12⟩
        · skip
          refine lv_iconst (v := 1) hx hb dX11_skippedShare_70 (by decide) ?_
          refine lv_goto (tgt := 75) hx hb dX11_skippedShare_71 (by decide) ?_
          refine fw_put (v := .int 1) (C := RX11) (T := TX11) (N := 19) hx hb hts hin11 tyX11 tyX11_ok nmX11 hown hK hR hS m0 rfl 14 (by decide) (hts (.fieldLink RX11 39 "UnreadLeafletsModel" "thrown" "I") (by decide +kernel)) rfl rfl rfl (Nat.le_of_ble_eq_true rfl) dX11_skippedShare_75 (fun H locs hR hS => ?_)
          obtain ⟨ω_15, hw_16⟩ : ∃ τ : FWd, τ = (ω.1, va_up ω.2 m (some (.inr (13, [.ref (m + 1), .ref (m + 2), .ref (m + 3), .int ((upd s 14 1) 3), .ref (m + 4), .int ((upd s 14 1) 5), .ref (m + 5), .int ((upd s 14 1) 7), .int ((upd s 14 1) 8), .int ((upd s 14 1) 9), .int ((upd s 14 1) 10), .int ((upd s 14 1) 11), .ref (m + 6), .int ((upd s 14 1) 13), .int ((upd s 14 1) 14), .ref (m + 7), .int ((upd s 14 1) 16), .int ((upd s 14 1) 17), .ref (m + 8)])))) := ⟨_, rfl⟩
          have hR : fR G ω_15 H := by rw [hw_16]; exact hR
          have f_17 : ω_15.2 m = some (.inr (13, [.ref (m + 1), .ref (m + 2), .ref (m + 3), .int ((upd s 14 1) 3), .ref (m + 4), .int ((upd s 14 1) 5), .ref (m + 5), .int ((upd s 14 1) 7), .int ((upd s 14 1) 8), .int ((upd s 14 1) 9), .int ((upd s 14 1) 10), .int ((upd s 14 1) 11), .ref (m + 6), .int ((upd s 14 1) 13), .int ((upd s 14 1) 14), .ref (m + 7), .int ((upd s 14 1) 16), .int ((upd s 14 1) 17), .ref (m + 8)])) := by rw [hw_16]; exact va_up_at
          have fr_18 : ∀ q : Nat, ¬ q = m → ω_15.2 q = ω.2 q := fun q hq => by rw [hw_16]; exact va_up_off hq
          have z_19 : ω_15.1 = ω.1 := by rw [hw_16]
          refine lv_aload_n hx hb dX11_skippedShare_78 rfl (lv_at hl 3 rfl) ?_
          refine fw_get (v := .int 1) (C := RX11) (T := TX11) (N := 19) hx hb hts hin11 hown hK hR f_17 rfl 14 (by decide) (hts (.fieldLink RX11 39 "UnreadLeafletsModel" "thrown" "I") (by decide +kernel)) rfl dX11_skippedShare_79 ?_
          refine lv_if_ne (tgt := 93) hx hb dX11_skippedShare_82 (by decide) (fun c_20 => ?_) (fun c_20 => ?_)
          · skip
            refine lv_fconst0 hx hb dX11_skippedShare_93 ?_
            have fr_21 : ∀ q : Nat, ¬ q = m → ω_15.2 q = ω.2 q := by
              intro q h0
              rw [fr_18 q (by omega)]
            have z_22 : ω_15.1 = ω.1 := by rw [z_19]
            have hr_23 : shareM s g = ((FP.fconst0, (upd s 14 1)) : UInt32 × (Nat → Int32)) := by
              simp only [shareM, hcc, hdd]
              rw [if_pos c_5]
            refine fw_fret hx hb hr hlocks hR hS dX11_skippedShare_94 ?_
            rw [hr_23]
            exact ⟨rfl, z_22, f_17, fr_21⟩
          · skip
            exact absurd c_20 (by decide)
      · skip
        have hk2 := lp_lt (n := c) hc c_4 (by omega) (by omega)
        refine lv_iload_n hx hb dX11_skippedShare_16 rfl (lv_at hl 2 rfl) ?_
        refine lv_aload_n hx hb dX11_skippedShare_17 rfl (lv_at hl 3 rfl) ?_
        refine fw_get (v := .ref (m + 1)) (C := RX11) (T := TX11) (N := 19) hx hb hts hin11 hown hK hR m0 rfl 0 (by decide) (hts (.fieldLink RX11 7 "UnreadLeafletsModel" "g" "[I") (by decide +kernel)) rfl dX11_skippedShare_18 ?_
        refine lv_bipush (v := 42) hx hb dX11_skippedShare_21 (by decide) ?_
        refine lv_iload_n hx hb dX11_skippedShare_23 rfl (lv_at hl 0 rfl) ?_
        refine lv_iadd hx hb dX11_skippedShare_24 ?_
        have hi_24 : 42 + (nI k) = nI (42 + k) := by
          show (nI 42) + (nI k) = _
          simp only [pk_mul, nI_add, Nat.add_assoc, hc, hd]
        refine W.eq (g2 := F0 mI 25 ls [.int (nI (42 + k)), .ref (m + 1), .int ((shareL s g k).1)]) (by rw [hi_24]) ?_
        refine fw_iald hx hb hK hR m1 (vp_in_nI (by omega) (by omega)) dX11_skippedShare_25 ?_
        refine W.eq (g2 := F0 mI 26 ls [.int (g (42 + k)), .int ((shareL s g k).1)]) (by rw [nI_clamp (by omega)]) ?_
        refine lv_if_ne (tgt := 33) hx hb dX11_skippedShare_26 (by decide) (fun c_25 => ?_) (fun c_25 => ?_)
        · skip
          refine lv_aload_n hx hb dX11_skippedShare_33 rfl (lv_at hl 3 rfl) ?_
          refine fw_get (v := .ref (m + 1)) (C := RX11) (T := TX11) (N := 19) hx hb hts hin11 hown hK hR m0 rfl 0 (by decide) (hts (.fieldLink RX11 7 "UnreadLeafletsModel" "g" "[I") (by decide +kernel)) rfl dX11_skippedShare_34 ?_
          refine lv_bipush (v := 18) hx hb dX11_skippedShare_37 (by decide) ?_
          refine lv_iload_n hx hb dX11_skippedShare_39 rfl (lv_at hl 0 rfl) ?_
          refine lv_iadd hx hb dX11_skippedShare_40 ?_
          have hi_26 : 18 + (nI k) = nI (18 + k) := by
            show (nI 18) + (nI k) = _
            simp only [pk_mul, nI_add, Nat.add_assoc, hc, hd]
          refine W.eq (g2 := F0 mI 41 ls [.int (nI (18 + k)), .ref (m + 1), .int ((shareL s g k).1)]) (by rw [hi_26]) ?_
          refine fw_iald hx hb hK hR m1 (vp_in_nI (by omega) (by omega)) dX11_skippedShare_41 ?_
          refine W.eq (g2 := F0 mI 42 ls [.int (g (18 + k)), .int ((shareL s g k).1)]) (by rw [nI_clamp (by omega)]) ?_
          refine lv_iadd hx hb dX11_skippedShare_42 ?_
          refine lv_topi (fun x_27 ex_27 => ?_)
          refine lv_istore_n (lv' := [(1, .int x_27), (3, .int (nI k)), (2, .int ((shareL s g k).2)), (0, .ref m)]) hx hb dX11_skippedShare_43 rfl hl (by decide) rfl (fun ls hl => ?_)
          refine lv_iload_n hx hb dX11_skippedShare_44 rfl (lv_at hl 2 rfl) ?_
          refine lv_aload_n hx hb dX11_skippedShare_45 rfl (lv_at hl 3 rfl) ?_
          refine fw_get (v := .ref (m + 1)) (C := RX11) (T := TX11) (N := 19) hx hb hts hin11 hown hK hR m0 rfl 0 (by decide) (hts (.fieldLink RX11 7 "UnreadLeafletsModel" "g" "[I") (by decide +kernel)) rfl dX11_skippedShare_46 ?_
          refine lv_bipush (v := 50) hx hb dX11_skippedShare_49 (by decide) ?_
          refine lv_iload_n hx hb dX11_skippedShare_51 rfl (lv_at hl 1 rfl) ?_
          refine lv_iadd hx hb dX11_skippedShare_52 ?_
          have hi_28 : 50 + (nI k) = nI (50 + k) := by
            show (nI 50) + (nI k) = _
            simp only [pk_mul, nI_add, Nat.add_assoc, hc, hd]
          refine W.eq (g2 := F0 mI 53 ls [.int (nI (50 + k)), .ref (m + 1), .int ((shareL s g k).2)]) (by rw [hi_28]) ?_
          refine fw_iald hx hb hK hR m1 (vp_in_nI (by omega) (by omega)) dX11_skippedShare_53 ?_
          refine W.eq (g2 := F0 mI 54 ls [.int (g (50 + k)), .int ((shareL s g k).2)]) (by rw [nI_clamp (by omega)]) ?_
          refine fw_call (va_runS (As := [.int (g (50 + k))]) (rest := [.int ((shareL s g k).2)]) ⟨hx, hb, hml, hown, hts⟩ (c_X11_bits G hL l ω (g (50 + k))) (va_cwS 1 hts gX11_skippedShare_X11_bits rfl rfl rfl (by decide +kernel) ⟨Nat.le_of_ble_eq_true rfl, Nat.le_of_ble_eq_true rfl⟩) (fw_preS hW hR) rfl rfl hl.1 rfl (lv_room (Nat.le_of_ble_eq_true rfl)) dX11_skippedShare_54 ⟨Nat.le_of_ble_eq_true rfl, Nat.le_of_ble_eq_true rfl⟩) hS (fun v_29 ω_30 H locs hq_31 hR hS => ?_)
          obtain ⟨rfl, hq_31⟩ := hq_31
          rw [hq_31] at hR
          refine W.eq (g2 := F0 mI 57 ls [.int (bitsJ (g (50 + k)) 8), .int ((shareL s g k).2)]) rfl ?_
          refine lv_iadd hx hb dX11_skippedShare_57 ?_
          refine lv_topi (fun x_32 ex_32 => ?_)
          refine lv_istore_n (lv' := [(2, .int x_32), (1, .int x_27), (3, .int (nI k)), (0, .ref m)]) hx hb dX11_skippedShare_58 rfl hl (by decide) rfl (fun ls hl => ?_)
          obtain ⟨x_33, ex_33⟩ : ∃ y : Int32, y = (nI k) + 1 := ⟨_, rfl⟩
          refine lv_iinc (v := x_33) (lv' := [(3, .int x_33), (2, .int x_32), (1, .int x_27), (0, .ref m)]) hx hb dX11_skippedShare_59 hl (k := 2) rfl (by rw [ex_33]; rfl) (by decide) rfl (fun ls hl => ?_)
          refine lv_goto (tgt := 6) hx hb dX11_skippedShare_62 (by decide) ?_
          have hr_34 : shareL s g (k + 1) = ((x_27, x_32) : Int32 × Int32) := by
            simp only [shareL, hcc, hdd, ex_27, ex_32, ex_33]
            rw [if_neg c_25]
          have el_3 : x_33 = nI (k + 1) := by rw [ex_33]; exact nI_1 k
          have el_2 : x_32 = (shareL s g (k + 1)).2 := by rw [hr_34]
          have el_1 : x_27 = (shareL s g (k + 1)).1 := by rw [hr_34]
          have hl := lv_sub (l' := [(3, .int x_33), (2, .int x_32), (1, .int x_27), (0, .ref m)]) hl [0, 1, 2, 3] rfl
          rw [el_3, el_2, el_1] at hl
          exact ih (k + 1) (by omega) (by first | assumption | omega | (simp; done)) _ _ _ hR hS hl
        · skip
          refine lv_iconst (v := 0) hx hb dX11_skippedShare_29 (by decide) ?_
          refine lv_goto (tgt := 42) hx hb dX11_skippedShare_30 (by decide) ?_
          refine lv_iadd hx hb dX11_skippedShare_42 ?_
          refine lv_topi (fun x_35 ex_35 => ?_)
          refine lv_istore_n (lv' := [(1, .int x_35), (3, .int (nI k)), (2, .int ((shareL s g k).2)), (0, .ref m)]) hx hb dX11_skippedShare_43 rfl hl (by decide) rfl (fun ls hl => ?_)
          refine lv_iload_n hx hb dX11_skippedShare_44 rfl (lv_at hl 2 rfl) ?_
          refine lv_aload_n hx hb dX11_skippedShare_45 rfl (lv_at hl 3 rfl) ?_
          refine fw_get (v := .ref (m + 1)) (C := RX11) (T := TX11) (N := 19) hx hb hts hin11 hown hK hR m0 rfl 0 (by decide) (hts (.fieldLink RX11 7 "UnreadLeafletsModel" "g" "[I") (by decide +kernel)) rfl dX11_skippedShare_46 ?_
          refine lv_bipush (v := 50) hx hb dX11_skippedShare_49 (by decide) ?_
          refine lv_iload_n hx hb dX11_skippedShare_51 rfl (lv_at hl 1 rfl) ?_
          refine lv_iadd hx hb dX11_skippedShare_52 ?_
          have hi_36 : 50 + (nI k) = nI (50 + k) := by
            show (nI 50) + (nI k) = _
            simp only [pk_mul, nI_add, Nat.add_assoc, hc, hd]
          refine W.eq (g2 := F0 mI 53 ls [.int (nI (50 + k)), .ref (m + 1), .int ((shareL s g k).2)]) (by rw [hi_36]) ?_
          refine fw_iald hx hb hK hR m1 (vp_in_nI (by omega) (by omega)) dX11_skippedShare_53 ?_
          refine W.eq (g2 := F0 mI 54 ls [.int (g (50 + k)), .int ((shareL s g k).2)]) (by rw [nI_clamp (by omega)]) ?_
          refine fw_call (va_runS (As := [.int (g (50 + k))]) (rest := [.int ((shareL s g k).2)]) ⟨hx, hb, hml, hown, hts⟩ (c_X11_bits G hL l ω (g (50 + k))) (va_cwS 1 hts gX11_skippedShare_X11_bits rfl rfl rfl (by decide +kernel) ⟨Nat.le_of_ble_eq_true rfl, Nat.le_of_ble_eq_true rfl⟩) (fw_preS hW hR) rfl rfl hl.1 rfl (lv_room (Nat.le_of_ble_eq_true rfl)) dX11_skippedShare_54 ⟨Nat.le_of_ble_eq_true rfl, Nat.le_of_ble_eq_true rfl⟩) hS (fun v_37 ω_38 H locs hq_39 hR hS => ?_)
          obtain ⟨rfl, hq_39⟩ := hq_39
          rw [hq_39] at hR
          refine W.eq (g2 := F0 mI 57 ls [.int (bitsJ (g (50 + k)) 8), .int ((shareL s g k).2)]) rfl ?_
          refine lv_iadd hx hb dX11_skippedShare_57 ?_
          refine lv_topi (fun x_40 ex_40 => ?_)
          refine lv_istore_n (lv' := [(2, .int x_40), (1, .int x_35), (3, .int (nI k)), (0, .ref m)]) hx hb dX11_skippedShare_58 rfl hl (by decide) rfl (fun ls hl => ?_)
          obtain ⟨x_41, ex_41⟩ : ∃ y : Int32, y = (nI k) + 1 := ⟨_, rfl⟩
          refine lv_iinc (v := x_41) (lv' := [(3, .int x_41), (2, .int x_40), (1, .int x_35), (0, .ref m)]) hx hb dX11_skippedShare_59 hl (k := 2) rfl (by rw [ex_41]; rfl) (by decide) rfl (fun ls hl => ?_)
          refine lv_goto (tgt := 6) hx hb dX11_skippedShare_62 (by decide) ?_
          have hr_42 : shareL s g (k + 1) = ((x_35, x_40) : Int32 × Int32) := by
            simp only [shareL, hcc, hdd, ex_35, ex_40, ex_41]
            rw [if_pos c_25]
          have el_3 : x_41 = nI (k + 1) := by rw [ex_41]; exact nI_1 k
          have el_2 : x_40 = (shareL s g (k + 1)).2 := by rw [hr_42]
          have el_1 : x_35 = (shareL s g (k + 1)).1 := by rw [hr_42]
          have hl := lv_sub (l' := [(3, .int x_41), (2, .int x_40), (1, .int x_35), (0, .ref m)]) hl [0, 1, 2, 3] rfl
          rw [el_3, el_2, el_1] at hl
          exact ih (k + 1) (by omega) (by first | assumption | omega | (simp; done)) _ _ _ hR hS hl
  have h0_43 : (0 : Int32) = (shareL s g 0).1 := by rw [hi_1]
  have h0_44 : (0 : Int32) = (shareL s g 0).2 := by rw [hi_1]
  have hl : lv_has ls 4 [(3, .int 0), (2, .int ((shareL s g 0).2)), (1, .int ((shareL s g 0).1)), (0, .ref m)] := by rw [← h0_43, ← h0_44]; exact hl
  exact loop_3 _ 0 (Nat.lt_succ_self _) (by first | rfl | assumption | omega | (simp; done)) _ _ _ hR hS (lv_sub hl [0, 1, 2, 3] rfl)
def bcL (s g : Nat → Int32) (j : Nat) : Nat → Nat
  | 0 => 0
  | q + 1 => if betM s g (q + 1) (bcL s g j q) j = 0 then bcL s g j q else q + 1
theorem bcL_le {s g : Nat → Int32} {j : Nat} : ∀ q, bcL s g j q ≤ q
  | 0 => Nat.le_refl _
  | q + 1 => by
    rw [bcL]
    split
    · exact Nat.le_succ_of_le (bcL_le q)
    · exact Nat.le_refl _
def bcouM (s g : Nat → Int32) (lf : Int32) : Int32 × (Nat → Int32) := if inB lf 0 (g 0 - 1) then (if (g 1) = 0 then ((0, (upd s 14 2))) else (((nI (bcL s g (cN lf) ((cN (g 1)) - 1))), (upd s 14 0)))) else ((0, (upd s 14 1)))
set_option maxHeartbeats 4000000 in
set_option maxRecDepth 100000 in
theorem c_X11_bestCousin (G : FG) (hL : FL G) (l : Launch) (ω : FWd) (m : Nat) (s g : Nat → Int32) (m0 : ω.2 m = some (.inr (13, [.ref (m + 1), .ref (m + 2), .ref (m + 3), .int (s 3), .ref (m + 4), .int (s 5), .ref (m + 5), .int (s 7), .int (s 8), .int (s 9), .int (s 10), .int (s 11), .ref (m + 6), .int (s 13), .int (s 14), .ref (m + 7), .int (s 16), .int (s 17), .ref (m + 8)]))) (m1 : ω.2 (m + 1) = some (.inl (G.2.1 0, 324, .inl g))) (hM : WFM g) (lf : Int32) : FMet G l yX11_bestCousin wsX11_bestCousin ({ frames := 5, cells := 0, slots := 0, locals := 121 } : Room) [.ref m, .int lf] ω (fun vv9 τ9 => vv9 = some (.int ((bcouM s g lf).1)) ∧ τ9.1 = ω.1 ∧ τ9.2 m = some (.inr (13, [.ref (m + 1), .ref (m + 2), .ref (m + 3), .int (((bcouM s g lf).2) 3), .ref (m + 4), .int (((bcouM s g lf).2) 5), .ref (m + 5), .int (((bcouM s g lf).2) 7), .int (((bcouM s g lf).2) 8), .int (((bcouM s g lf).2) 9), .int (((bcouM s g lf).2) 10), .int (((bcouM s g lf).2) 11), .ref (m + 6), .int (((bcouM s g lf).2) 13), .int (((bcouM s g lf).2) 14), .ref (m + 7), .int (((bcouM s g lf).2) 16), .int (((bcouM s g lf).2) 17), .ref (m + 8)])) ∧ ∀ q : Nat, ¬ q = m → τ9.2 q = ω.2 q) 0 0 := by
  refine fw_ofW (cc := cX11_bestCousin) (maxL := 4) (ret := (some .int)) (by decide) rfl (Nat.le_of_ble_eq_true rfl) ?_
  intro pP eE sS mI ar9 bl9 meth cD ls hx hb hr hlocks hml hts hown hnm hW hR hl
  have hK := hL.K hW
  have hS : va_S (fwA G) sS.heap sS.heap [] := va_S.rf
  have hin11 : ∀ w ∈ u_ws RX11 TX11 19, w ∈ wsX11_bestCousin := by decide +kernel
  have hl : lv_has ls 4 [(0, .ref m), (1, .int lf)] := hl
  obtain ⟨c, hc8, hc, hcc⟩ := okN_of hM.1
  obtain ⟨cc, hd5, hd, hdd⟩ := okN_of hM.2.1
  refine lv_aload_n hx hb dX11_bestCousin_0 rfl (lv_at hl 0 rfl) ?_
  refine lv_iload_n hx hb dX11_bestCousin_1 rfl (lv_at hl 1 rfl) ?_
  refine fw_call (va_runV (As := [.int lf]) (rest := []) ⟨hx, hb, hml, hown, hts⟩ (c_X11_isLeaflet G hL l ω m s g m0 m1 lf) (cwV 1 hts gX11_bestCousin_X11_isLeaflet rfl rfl rfl (by decide +kernel) ⟨Nat.le_of_ble_eq_true rfl, Nat.le_of_ble_eq_true rfl⟩) (fw_preV hW hK hR m0 rfl) rfl rfl hl.1 rfl (lv_room (Nat.le_of_ble_eq_true rfl)) dX11_bestCousin_2 ⟨Nat.le_of_ble_eq_true rfl, Nat.le_of_ble_eq_true rfl⟩) hS (fun v_1 ω_2 H locs hq_3 hR hS => ?_)
  obtain ⟨rfl, hq_3⟩ := hq_3
  rw [hq_3] at hR
  refine W.eq (g2 := F0 mI 5 ls [.int (bz (inB lf 0 (g 0 - 1)))]) rfl ?_
  refine lv_if_ne (tgt := 14) hx hb dX11_bestCousin_5 (by decide) (fun c_4 => ?_) (fun c_4 => ?_)
  · skip
    have c_4 := bz_ne c_4
    obtain ⟨j, hj2, rfl⟩ := in_c hc hc8 c_4
    have hcj : cN (nI j) = j := cN_nI (by omega)
    obtain ⟨n, hn8, hn, hnn⟩ := okN_of (hM.2.2 j (by rw [hcc]; exact hj2)).1
    obtain ⟨f, hf3, hff, hfn⟩ := okN_of (hM.2.2 j (by rw [hcc]; exact hj2)).2.1
    have hkd : ∀ q, q < n → g (68 + 8 * j + q) = nI (cN (g (68 + 8 * j + q))) ∧ cN (g (68 + 8 * j + q)) < 6 := fun q hq => by have h9 := (hM.2.2 j (by rw [hcc]; exact hj2)).2.2 q (by rw [hnn]; exact hq); exact ⟨h9.1, Nat.lt_succ_of_le h9.2⟩
    refine lv_iconst (v := 0) hx hb dX11_bestCousin_14 (by decide) ?_
    refine lv_istore_n (lv' := [(2, .int 0), (0, .ref m), (1, .int (nI j))]) hx hb dX11_bestCousin_15 rfl hl (by decide) rfl (fun ls hl => ?_)
    refine lv_iconst (v := 1) hx hb dX11_bestCousin_16 (by decide) ?_
    refine lv_istore_n (lv' := [(3, .int 1), (2, .int 0), (0, .ref m), (1, .int (nI j))]) hx hb dX11_bestCousin_17 rfl hl (by decide) rfl (fun ls hl => ?_)
    have loop_5 : ∀ (fu : Nat) (q : Nat), (cc - q) < fu → (q ≤ cc - 1) → ∀ (H : Heap) (locs : List Loc) (ls : Array Slot), fR G ω H → va_S (fwA G) sS.heap H locs → lv_has ls 4 [(3, .int (nI (q + 1))), (2, .int (nI (bcL s g j q))), (0, .ref m), (1, .int (nI j))] → W pP l eE ({ frames := 5, cells := 0, slots := 0, locals := 121 } : Room) sS mI ar9 bl9 meth cD H locs 0 0 (MQ bl9 (fQ G (fun vv9 τ9 => vv9 = some (.int ((bcouM s g (nI j)).1)) ∧ τ9.1 = ω.1 ∧ τ9.2 m = some (.inr (13, [.ref (m + 1), .ref (m + 2), .ref (m + 3), .int (((bcouM s g (nI j)).2) 3), .ref (m + 4), .int (((bcouM s g (nI j)).2) 5), .ref (m + 5), .int (((bcouM s g (nI j)).2) 7), .int (((bcouM s g (nI j)).2) 8), .int (((bcouM s g (nI j)).2) 9), .int (((bcouM s g (nI j)).2) 10), .int (((bcouM s g (nI j)).2) 11), .ref (m + 6), .int (((bcouM s g (nI j)).2) 13), .int (((bcouM s g (nI j)).2) 14), .ref (m + 7), .int (((bcouM s g (nI j)).2) 16), .int (((bcouM s g (nI j)).2) 17), .ref (m + 8)])) ∧ ∀ q : Nat, ¬ q = m → τ9.2 q = ω.2 q)) ar9 sS 0 0 (fwA G)) (F0 mI 18 ls []) := by
      intro fu
      induction fu with
      | zero => intro q hfu; exact absurd hfu (Nat.not_lt_zero _)
      | succ fu ih =>
        intro q hfu hq H locs ls hR hS hl
        refine lv_iload_n hx hb dX11_bestCousin_18 rfl (lv_at hl 0 rfl) ?_
        refine lv_aload_n hx hb dX11_bestCousin_19 rfl (lv_at hl 2 rfl) ?_
        refine fw_get (v := .ref (m + 1)) (C := RX11) (T := TX11) (N := 19) hx hb hts hin11 hown hK hR m0 rfl 0 (by decide) (hts (.fieldLink RX11 7 "UnreadLeafletsModel" "g" "[I") (by decide +kernel)) rfl dX11_bestCousin_20 ?_
        refine lv_iconst (v := 1) hx hb dX11_bestCousin_23 (by decide) ?_
        refine fw_iald hx hb hK hR m1 (vp_in_nI (n := 1) (by omega) (by omega)) dX11_bestCousin_24 ?_
        refine W.eq (g2 := F0 mI 25 ls [.int (g 1), .int (nI (q + 1))]) (by rw [show (1 : Int32).toNatClampNeg = 1 from rfl]) ?_
        refine lv_icmp_ge (tgt := 50) hx hb dX11_bestCousin_25 (by decide) (fun c_6 => ?_) (fun c_6 => ?_)
        · skip
          have hq9 : q = cc - 1 := by have h9 := c_6; rw [hd] at h9; have := (nI_leI (by omega) (by omega)).mp h9; omega
          subst hq9
          refine lv_aload_n hx hb dX11_bestCousin_50 rfl (lv_at hl 2 rfl) ?_
          refine fw_get (v := .ref (m + 1)) (C := RX11) (T := TX11) (N := 19) hx hb hts hin11 hown hK hR m0 rfl 0 (by decide) (hts (.fieldLink RX11 7 "UnreadLeafletsModel" "g" "[I") (by decide +kernel)) rfl dX11_bestCousin_51 ?_
          refine lv_iconst (v := 1) hx hb dX11_bestCousin_54 (by decide) ?_
          refine fw_iald hx hb hK hR m1 (vp_in_nI (n := 1) (by omega) (by omega)) dX11_bestCousin_55 ?_
          refine W.eq (g2 := F0 mI 56 ls [.int (g 1)]) (by rw [show (1 : Int32).toNatClampNeg = 1 from rfl]) ?_
          refine lv_if_ne (tgt := 67) hx hb dX11_bestCousin_56 (by decide) (fun c_7 => ?_) (fun c_7 => ?_)
          · skip
            refine lv_aload_n hx hb dX11_bestCousin_67 rfl (lv_at hl 2 rfl) ?_
            refine lv_iload_n hx hb dX11_bestCousin_68 rfl (lv_at hl 1 rfl) ?_
            refine fw_call (va_runV (As := [.int (nI (bcL s g j (cc - 1)))]) (rest := []) ⟨hx, hb, hml, hown, hts⟩ (c_X11_done G hL l ω m s g m0 m1 (nI (bcL s g j (cc - 1)))) (cwV 1 hts gX11_bestCousin_X11_done rfl rfl rfl (by decide +kernel) ⟨Nat.le_of_ble_eq_true rfl, Nat.le_of_ble_eq_true rfl⟩) (fw_preV hW hK hR m0 rfl) rfl rfl hl.1 rfl (lv_room (Nat.le_of_ble_eq_true rfl)) dX11_bestCousin_69 ⟨Nat.le_of_ble_eq_true rfl, Nat.le_of_ble_eq_true rfl⟩) hS (fun v_8 ω_9 H locs hq_10 hR hS => ?_)
            obtain ⟨rfl, z_11, f_13, fr_12⟩ := hq_10
            refine W.eq (g2 := F0 mI 72 ls [.int (nI (bcL s g j (cc - 1)))]) rfl ?_
            have fr_14 : ∀ q : Nat, ¬ q = m → ω_9.2 q = ω.2 q := by
              intro q h0
              rw [fr_12 q (by omega)]
            have z_15 : ω_9.1 = ω.1 := by rw [z_11]
            have hr_16 : bcouM s g (nI j) = (((nI (bcL s g j (cc - 1))), (upd s 14 0)) : Int32 × (Nat → Int32)) := by
              simp only [bcouM, hcc, hdd, hcj, hnn, hfn]
              rw [if_pos c_4, if_neg c_7]
            refine fw_iret hx hb hr hlocks hR hS dX11_bestCousin_72 ?_
            rw [hr_16]
            exact ⟨rfl, z_15, f_13, fr_14⟩
          · skip
            refine lv_aload_n hx hb dX11_bestCousin_59 rfl (lv_at hl 2 rfl) ?_
            refine lv_iconst (v := 2) hx hb dX11_bestCousin_60 (by decide) ?_
            refine fw_call (va_runV (As := [.int 2]) (rest := []) ⟨hx, hb, hml, hown, hts⟩ (c_X11_fails G hL l ω m s g m0 m1 2) (cwV 1 hts gX11_bestCousin_X11_fails rfl rfl rfl (by decide +kernel) ⟨Nat.le_of_ble_eq_true rfl, Nat.le_of_ble_eq_true rfl⟩) (fw_preV hW hK hR m0 rfl) rfl rfl hl.1 rfl (lv_room (Nat.le_of_ble_eq_true rfl)) dX11_bestCousin_61 ⟨Nat.le_of_ble_eq_true rfl, Nat.le_of_ble_eq_true rfl⟩) hS (fun v_17 ω_18 H locs hq_19 hR hS => ?_)
            obtain ⟨rfl, z_20, f_22, fr_21⟩ := hq_19
            refine W.eq (g2 := F0 mI 64 ls [.int 0]) rfl ?_
            refine lv_goto (tgt := 72) hx hb dX11_bestCousin_64 (by decide) ?_
            have fr_23 : ∀ q : Nat, ¬ q = m → ω_18.2 q = ω.2 q := by
              intro q h0
              rw [fr_21 q (by omega)]
            have z_24 : ω_18.1 = ω.1 := by rw [z_20]
            have hr_25 : bcouM s g (nI j) = ((0, (upd s 14 2)) : Int32 × (Nat → Int32)) := by
              simp only [bcouM, hcc, hdd, hcj, hnn, hfn]
              rw [if_pos c_4, if_pos c_7]
            refine fw_iret hx hb hr hlocks hR hS dX11_bestCousin_72 ?_
            rw [hr_25]
            exact ⟨rfl, z_24, f_22, fr_23⟩
        · skip
          have hq2 : q + 1 < cc := by have h9 := c_6; rw [hd] at h9; exact Nat.lt_of_not_le (fun z => h9 ((nI_leI (by omega) (by omega)).mpr z))
          have hb2 : bcL s g j q < cc := Nat.lt_of_le_of_lt (bcL_le q) (by omega)
          refine lv_aload_n hx hb dX11_bestCousin_28 rfl (lv_at hl 2 rfl) ?_
          refine lv_iload_n hx hb dX11_bestCousin_29 rfl (lv_at hl 0 rfl) ?_
          refine lv_iload_n hx hb dX11_bestCousin_30 rfl (lv_at hl 1 rfl) ?_
          refine lv_iload_n hx hb dX11_bestCousin_31 rfl (lv_at hl 3 rfl) ?_
          refine fw_call (va_runV (As := [.int (nI (q + 1)), .int (nI (bcL s g j q)), .int (nI j)]) (rest := []) ⟨hx, hb, hml, hown, hts⟩ (c_X11_isBetter G hL l ω m s g m0 m1 hM (q + 1) (bcL s g j q) j (by rw [hdd]; omega) (by rw [hdd]; omega) (by rw [hcc]; omega)) (cwV 3 hts gX11_bestCousin_X11_isBetter rfl rfl rfl (by decide +kernel) ⟨Nat.le_of_ble_eq_true rfl, Nat.le_of_ble_eq_true rfl⟩) (fw_preV hW hK hR m0 rfl) rfl rfl hl.1 rfl (lv_room (Nat.le_of_ble_eq_true rfl)) dX11_bestCousin_32 ⟨Nat.le_of_ble_eq_true rfl, Nat.le_of_ble_eq_true rfl⟩) hS (fun v_26 ω_27 H locs hq_28 hR hS => ?_)
          obtain ⟨rfl, hq_28⟩ := hq_28
          rw [hq_28] at hR
          refine W.eq (g2 := F0 mI 35 ls [.int (betM s g (q + 1) (bcL s g j q) j)]) rfl ?_
          refine lv_if_eq (tgt := 42) hx hb dX11_bestCousin_35 (by decide) (fun c_29 => ?_) (fun c_29 => ?_)
          · skip
            refine lv_iload_n hx hb dX11_bestCousin_42 rfl (lv_at hl 1 rfl) ?_
            refine lv_istore_n (lv' := [(2, .int (nI (bcL s g j q))), (3, .int (nI (q + 1))), (0, .ref m), (1, .int (nI j))]) hx hb dX11_bestCousin_43 rfl hl (by decide) rfl (fun ls hl => ?_)
            obtain ⟨x_30, ex_30⟩ : ∃ y : Int32, y = (nI (q + 1)) + 1 := ⟨_, rfl⟩
            refine lv_iinc (v := x_30) (lv' := [(3, .int x_30), (2, .int (nI (bcL s g j q))), (0, .ref m), (1, .int (nI j))]) hx hb dX11_bestCousin_44 hl (k := 1) rfl (by rw [ex_30]; rfl) (by decide) rfl (fun ls hl => ?_)
            refine lv_goto (tgt := 18) hx hb dX11_bestCousin_47 (by decide) ?_
            have el_3 : x_30 = nI ((q + 1) + 1) := by rw [ex_30]; exact nI_1 (q + 1)
            have el_2 : nI (bcL s g j q) = nI (bcL s g j (q + 1)) := by first | (rw [bcL, if_pos (by assumption)]; done) | (rw [bcL, if_neg (by assumption)]; done) | (rw [bcL, if_neg (fun z => absurd z (by assumption))])
            have hl := lv_sub (l' := [(3, .int x_30), (2, .int (nI (bcL s g j q))), (0, .ref m), (1, .int (nI j))]) hl [0, 1, 2, 3] rfl
            rw [el_3, el_2] at hl
            exact ih (q + 1) (by omega) (by first | assumption | omega | (simp; done)) _ _ _ hR hS hl
          · skip
            refine lv_iload_n hx hb dX11_bestCousin_38 rfl (lv_at hl 0 rfl) ?_
            refine lv_goto (tgt := 43) hx hb dX11_bestCousin_39 (by decide) ?_
            refine lv_istore_n (lv' := [(2, .int (nI (q + 1))), (3, .int (nI (q + 1))), (0, .ref m), (1, .int (nI j))]) hx hb dX11_bestCousin_43 rfl hl (by decide) rfl (fun ls hl => ?_)
            obtain ⟨x_31, ex_31⟩ : ∃ y : Int32, y = (nI (q + 1)) + 1 := ⟨_, rfl⟩
            refine lv_iinc (v := x_31) (lv' := [(3, .int x_31), (2, .int (nI (q + 1))), (0, .ref m), (1, .int (nI j))]) hx hb dX11_bestCousin_44 hl (k := 1) rfl (by rw [ex_31]; rfl) (by decide) rfl (fun ls hl => ?_)
            refine lv_goto (tgt := 18) hx hb dX11_bestCousin_47 (by decide) ?_
            have el_3 : x_31 = nI ((q + 1) + 1) := by rw [ex_31]; exact nI_1 (q + 1)
            have el_2 : nI (q + 1) = nI (bcL s g j (q + 1)) := by first | (rw [bcL, if_pos (by assumption)]; done) | (rw [bcL, if_neg (by assumption)]; done) | (rw [bcL, if_neg (fun z => absurd z (by assumption))])
            have hl := lv_sub (l' := [(3, .int x_31), (2, .int (nI (q + 1))), (0, .ref m), (1, .int (nI j))]) hl [0, 1, 2, 3] rfl
            rw [el_3, el_2] at hl
            exact ih (q + 1) (by omega) (by first | assumption | omega | (simp; done)) _ _ _ hR hS hl
    exact loop_5 _ 0 (Nat.lt_succ_self _) (by first | rfl | assumption | omega | (simp; done)) _ _ _ hR hS (lv_sub hl [0, 1, 2, 3] rfl)
  · skip
    have c_4 := bz_eq c_4
    refine lv_aload_n hx hb dX11_bestCousin_8 rfl (lv_at hl 0 rfl) ?_
    refine lv_iconst (v := 1) hx hb dX11_bestCousin_9 (by decide) ?_
    refine fw_call (va_runV (As := [.int 1]) (rest := []) ⟨hx, hb, hml, hown, hts⟩ (c_X11_fails G hL l ω m s g m0 m1 1) (cwV 1 hts gX11_bestCousin_X11_fails rfl rfl rfl (by decide +kernel) ⟨Nat.le_of_ble_eq_true rfl, Nat.le_of_ble_eq_true rfl⟩) (fw_preV hW hK hR m0 rfl) rfl rfl hl.1 rfl (lv_room (Nat.le_of_ble_eq_true rfl)) dX11_bestCousin_10 ⟨Nat.le_of_ble_eq_true rfl, Nat.le_of_ble_eq_true rfl⟩) hS (fun v_32 ω_33 H locs hq_34 hR hS => ?_)
    obtain ⟨rfl, z_35, f_37, fr_36⟩ := hq_34
    refine W.eq (g2 := F0 mI 13 ls [.int 0]) rfl ?_
    have fr_38 : ∀ q : Nat, ¬ q = m → ω_33.2 q = ω.2 q := by
      intro q h0
      rw [fr_36 q (by omega)]
    have z_39 : ω_33.1 = ω.1 := by rw [z_35]
    have hr_40 : bcouM s g lf = ((0, (upd s 14 1)) : Int32 × (Nat → Int32)) := by
      simp only [bcouM, hcc, hdd]
      rw [if_neg c_4]
    refine fw_iret hx hb hr hlocks hR hS dX11_bestCousin_13 ?_
    rw [hr_40]
    exact ⟨rfl, z_39, f_37, fr_38⟩
