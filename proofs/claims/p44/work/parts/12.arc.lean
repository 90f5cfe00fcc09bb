/-! ===== printed by program (wip/whole/gen): reads of the archive, the tin ===== -/
set_option maxHeartbeats 4000000 in
set_option maxRecDepth 100000 in
theorem c_X0_hasLeaflet (G : FG) (hL : FL G) (l : Launch) (ω : FWd) (a : Nat) (v : Nat → Nat → Int32) (hA : ArcS G ω.2 a v) (m : Int32) : FMet G l yX0_hasLeaflet wsX0_hasLeaflet ({ frames := 1, cells := 0, slots := 0, locals := 22 } : Room) [.ref a, .int m] ω (rI (bz (inB m 0 (v 0 0 - 1))) ω) 0 0 := by
  refine fw_ofW (cc := cX0_hasLeaflet) (maxL := 2) (ret := (some .boolean)) (by decide) rfl (Nat.le_of_ble_eq_true rfl) ?_
  intro pP eE sS mI ar9 bl9 meth cD ls hx hb hr hlocks hml hts hown hnm hW hR hl
  have hK := hL.K hW
  have hS : va_S (fwA G) sS.heap sS.heap [] := va_S.rf
  have hin0 : ∀ w ∈ u_ws RX0 TX0 9, w ∈ wsX0_hasLeaflet := by decide +kernel
  have hl : lv_has ls 2 [(0, .ref a), (1, .int m)] := hl
  obtain ⟨h0, h1, h2, h3, h4, h5, hLf, hCo⟩ := id hA
  refine lv_iload_n hx hb dX0_hasLeaflet_0 rfl (lv_at hl 1 rfl) ?_
  refine lv_iconst (v := 0) hx hb dX0_hasLeaflet_1 (by decide) ?_
  refine lv_aload_n hx hb dX0_hasLeaflet_2 rfl (lv_at hl 0 rfl) ?_
  refine fw_get (v := .int (v 0 0)) (C := RX0) (T := TX0) (N := 9) hx hb hts hin0 hown hK hR h0 rfl 1 (by decide) (hts (.fieldLink RX0 32 "UnreadLeaflets$Archive" "leafletCount" "I") (by decide +kernel)) rfl dX0_hasLeaflet_3 ?_
  refine lv_iconst (v := 1) hx hb dX0_hasLeaflet_6 (by decide) ?_
  refine lv_isub hx hb dX0_hasLeaflet_7 ?_
  refine fw_call (va_runSN (As := [.int m, .int 0, .int ((v 0 0) - 1)]) (rest := []) ⟨hx, hb, hml, hown, hts⟩ (c_X10_isWithin G hL l ω m 0 ((v 0 0) - 1)) ⟨va_cnB 3 hts gX0_hasLeaflet_X10_isWithin_n61 rfl rfl rfl (hL.N hW (hh := RX10) (by decide +kernel)) (hts (.initialized RX10) (by decide +kernel)) (by decide +kernel) ⟨Nat.le_of_ble_eq_true rfl, Nat.le_of_ble_eq_true rfl⟩, hts (.static yX10_isWithin) (by decide +kernel), trivial⟩ (fw_preS hW hR) rfl rfl hl.1 rfl (lv_room (Nat.le_of_ble_eq_true rfl)) dX0_hasLeaflet_8 ⟨Nat.le_of_ble_eq_true rfl, Nat.le_of_ble_eq_true rfl⟩) hS (fun v_1 ω_2 H locs hq_3 hR hS => ?_)
  obtain ⟨rfl, hq_3⟩ := hq_3
  rw [hq_3] at hR
  refine W.eq (g2 := F0 mI 11 ls [.int (bz (inB m 0 ((v 0 0) - 1)))]) rfl ?_
  refine fw_zret hx hb hr narrow_bz hlocks hR hS dX0_hasLeaflet_11 (rI_mk ?_)
  exact rfl
set_option maxHeartbeats 4000000 in
set_option maxRecDepth 100000 in
theorem c_X0_hasCousin (G : FG) (hL : FL G) (l : Launch) (ω : FWd) (a : Nat) (v : Nat → Nat → Int32) (hA : ArcS G ω.2 a v) (m : Int32) : FMet G l yX0_hasCousin wsX0_hasCousin ({ frames := 1, cells := 0, slots := 0, locals := 22 } : Room) [.ref a, .int m] ω (rI (bz (inB m 0 (v 0 1 - 1))) ω) 0 0 := by
  refine fw_ofW (cc := cX0_hasCousin) (maxL := 2) (ret := (some .boolean)) (by decide) rfl (Nat.le_of_ble_eq_true rfl) ?_
  intro pP eE sS mI ar9 bl9 meth cD ls hx hb hr hlocks hml hts hown hnm hW hR hl
  have hK := hL.K hW
  have hS : va_S (fwA G) sS.heap sS.heap [] := va_S.rf
  have hin0 : ∀ w ∈ u_ws RX0 TX0 9, w ∈ wsX0_hasCousin := by decide +kernel
  have hl : lv_has ls 2 [(0, .ref a), (1, .int m)] := hl
  obtain ⟨h0, h1, h2, h3, h4, h5, hLf, hCo⟩ := id hA
  refine lv_iload_n hx hb dX0_hasCousin_0 rfl (lv_at hl 1 rfl) ?_
  refine lv_iconst (v := 0) hx hb dX0_hasCousin_1 (by decide) ?_
  refine lv_aload_n hx hb dX0_hasCousin_2 rfl (lv_at hl 0 rfl) ?_
  refine fw_get (v := .int (v 0 1)) (C := RX0) (T := TX0) (N := 9) hx hb hts hin0 hown hK hR h0 rfl 3 (by decide) (hts (.fieldLink RX0 40 "UnreadLeaflets$Archive" "cousinCount" "I") (by decide +kernel)) rfl dX0_hasCousin_3 ?_
  refine lv_iconst (v := 1) hx hb dX0_hasCousin_6 (by decide) ?_
  refine lv_isub hx hb dX0_hasCousin_7 ?_
  refine fw_call (va_runSN (As := [.int m, .int 0, .int ((v 0 1) - 1)]) (rest := []) ⟨hx, hb, hml, hown, hts⟩ (c_X10_isWithin G hL l ω m 0 ((v 0 1) - 1)) ⟨va_cnB 3 hts gX0_hasCousin_X10_isWithin_n61 rfl rfl rfl (hL.N hW (hh := RX10) (by decide +kernel)) (hts (.initialized RX10) (by decide +kernel)) (by decide +kernel) ⟨Nat.le_of_ble_eq_true rfl, Nat.le_of_ble_eq_true rfl⟩, hts (.static yX10_isWithin) (by decide +kernel), trivial⟩ (fw_preS hW hR) rfl rfl hl.1 rfl (lv_room (Nat.le_of_ble_eq_true rfl)) dX0_hasCousin_8 ⟨Nat.le_of_ble_eq_true rfl, Nat.le_of_ble_eq_true rfl⟩) hS (fun v_1 ω_2 H locs hq_3 hR hS => ?_)
  obtain ⟨rfl, hq_3⟩ := hq_3
  rw [hq_3] at hR
  refine W.eq (g2 := F0 mI 11 ls [.int (bz (inB m 0 ((v 0 1) - 1)))]) rfl ?_
  refine fw_zret hx hb hr narrow_bz hlocks hR hS dX0_hasCousin_11 (rI_mk ?_)
  exact rfl
set_option maxHeartbeats 4000000 in
set_option maxRecDepth 100000 in
theorem c_X0_leafletsOn (G : FG) (hL : FL G) (l : Launch) (ω : FWd) (a : Nat) (v : Nat → Nat → Int32) (hA : ArcS G ω.2 a v) (c : Nat) (hc : v 0 0 = nI c) (hc8 : c ≤ 8) (sh : Int32) : FMet G l yX0_leafletsOn wsX0_leafletsOn ({ frames := 0, cells := 0, slots := 0, locals := 0 } : Room) [.ref a, .int sh] ω (rI (onJ v sh c) ω) 0 0 := by
  refine fw_ofW (cc := cX0_leafletsOn) (maxL := 4) (ret := (some .int)) (by decide) rfl (Nat.le_of_ble_eq_true rfl) ?_
  intro pP eE sS mI ar9 bl9 meth cD ls hx hb hr hlocks hml hts hown hnm hW hR hl
  have hK := hL.K hW
  have hS : va_S (fwA G) sS.heap sS.heap [] := va_S.rf
  have hin0 : ∀ w ∈ u_ws RX0 TX0 9, w ∈ wsX0_leafletsOn := by decide +kernel
  have hin5 : ∀ w ∈ u_ws RX5 TX5 9, w ∈ wsX0_leafletsOn := by decide +kernel
  have hl : lv_has ls 4 [(0, .ref a), (1, .int sh)] := hl
  obtain ⟨h0, h1, h2, h3, h4, h5, hLf, hCo⟩ := id hA
  refine lv_iconst (v := 0) hx hb dX0_leafletsOn_0 (by decide) ?_
  refine lv_istore_n (lv' := [(2, .int 0), (0, .ref a), (1, .int sh)]) hx hb dX0_leafletsOn_1 rfl hl (by decide) rfl (fun ls hl => ?_)
  refine lv_iconst (v := 0) hx hb dX0_leafletsOn_2 (by decide) ?_
  refine lv_istore_n (lv' := [(3, .int 0), (2, .int 0), (0, .ref a), (1, .int sh)]) hx hb dX0_leafletsOn_3 rfl hl (by decide) rfl (fun ls hl => ?_)
  have loop_1 : ∀ (fu : Nat) (j : Nat), (c - j) < fu → (j ≤ c) → ∀ (H : Heap) (locs : List Loc) (ls : Array Slot), fR G ω H → va_S (fwA G) sS.heap H locs → lv_has ls 4 [(3, .int (nI j)), (2, .int (onJ v sh j)), (0, .ref a), (1, .int sh)] → W pP l eE ({ frames := 0, cells := 0, slots := 0, locals := 0 } : Room) sS mI ar9 bl9 meth cD H locs 0 0 (MQ bl9 (fQ G (rI (onJ v sh c) ω)) ar9 sS 0 0 (fwA G)) (F0 mI 4 ls []) := by
    intro fu
    induction fu with
    | zero => intro j hfu; exact absurd hfu (Nat.not_lt_zero _)
    | succ fu ih =>
      intro j hfu hj H locs ls hR hS hl
      refine lv_iload_n hx hb dX0_leafletsOn_4 rfl (lv_at hl 0 rfl) ?_
      refine lv_aload_n hx hb dX0_leafletsOn_5 rfl (lv_at hl 2 rfl) ?_
      refine fw_get (v := .int (v 0 0)) (C := RX0) (T := TX0) (N := 9) hx hb hts hin0 hown hK hR h0 rfl 1 (by decide) (hts (.fieldLink RX0 32 "UnreadLeaflets$Archive" "leafletCount" "I") (by decide +kernel)) rfl dX0_leafletsOn_6 ?_
      refine lv_icmp_ge (tgt := 37) hx hb dX0_leafletsOn_9 (by decide) (fun c_2 => ?_) (fun c_2 => ?_)
      · skip
        have hj2 := lp_ge hc c_2 (by omega) (by omega)
        have hjn : j = c := by omega
        refine lv_iload_n hx hb dX0_leafletsOn_37 rfl (lv_at hl 1 rfl) ?_
        refine fw_iret hx hb hr hlocks hR hS dX0_leafletsOn_38 (rI_mk ?_)
        rw [hjn]
      · skip
        have hj2 := lp_lt hc c_2 (by omega) (by omega)
        refine lv_aload_n hx hb dX0_leafletsOn_12 rfl (lv_at hl 2 rfl) ?_
        refine fw_get (v := .ref (a + 1)) (C := RX0) (T := TX0) (N := 9) hx hb hts hin0 hown hK hR h0 rfl 0 (by decide) (hts (.fieldLink RX0 11 "UnreadLeaflets$Archive" "leaflets" "[LUnreadLeaflets$Leaflet;") (by decide +kernel)) rfl dX0_leafletsOn_13 ?_
        refine lv_iload_n hx hb dX0_leafletsOn_16 rfl (lv_at hl 0 rfl) ?_
        refine fw_aald (b := a + 6 + 5 * j) hx hb hK hR h1 rfl (vp_in_nI (by omega) (by omega)) (by rw [nI_clamp (by omega)]) dX0_leafletsOn_17 ?_
        have f_3 : ω.2 (a + 6 + 5 * j) = some (.inr (7, [.int (v 3 j), .int (v 4 j), .int (v 5 j), .int (v 6 j - 1), .int (v 7 j), .ref (a + 6 + 5 * j + 1), .ref (a + 6 + 5 * j + 2), .ref (a + 6 + 5 * j + 3), .ref (a + 6 + 5 * j + 4)])) := (hLf j (by omega)).1
        refine fw_get (v := .int (v 5 j)) (C := RX5) (T := TX5) (N := 9) hx hb hts hin5 hown hK hR f_3 rfl 2 (by decide) (hts (.fieldLink RX0 65 "UnreadLeaflets$Leaflet" "shelf" "I") (by decide +kernel)) rfl dX0_leafletsOn_18 ?_
        refine lv_iload_n hx hb dX0_leafletsOn_21 rfl (lv_at hl 3 rfl) ?_
        refine lv_icmp_ne (tgt := 31) hx hb dX0_leafletsOn_22 (by decide) (fun c_4 => ?_) (fun c_4 => ?_)
        · skip
          obtain ⟨x_5, ex_5⟩ : ∃ y : Int32, y = (nI j) + 1 := ⟨_, rfl⟩
          refine lv_iinc (v := x_5) (lv' := [(3, .int x_5), (2, .int (onJ v sh j)), (0, .ref a), (1, .int sh)]) hx hb dX0_leafletsOn_31 hl (k := 0) rfl (by rw [ex_5]; rfl) (by decide) rfl (fun ls hl => ?_)
          refine lv_goto (tgt := 4) hx hb dX0_leafletsOn_34 (by decide) ?_
          have el_3 : x_5 = nI (j + 1) := by rw [ex_5]; exact nI_1 j
          have el_2 : onJ v sh j = onJ v sh (j + 1) := by 
            simp only [onJ]; repeat' split
            all_goals first | rfl | contradiction | (exfalso; simp_all; done)
          have hl := lv_sub (l' := [(3, .int x_5), (2, .int (onJ v sh j)), (0, .ref a), (1, .int sh)]) hl [0, 1, 2, 3] rfl
          rw [el_3, el_2] at hl
          exact ih (j + 1) (by omega) (by first | assumption | omega | (simp; done)) _ _ _ hR hS hl
        · skip
          refine lv_iload_n hx hb dX0_leafletsOn_25 rfl (lv_at hl 1 rfl) ?_
          refine lv_iconst (v := 1) hx hb dX0_leafletsOn_26 (by decide) ?_
          refine lv_iload_n hx hb dX0_leafletsOn_27 rfl (lv_at hl 0 rfl) ?_
          refine lv_ishl hx hb dX0_leafletsOn_28 ?_
          refine lv_ior hx hb dX0_leafletsOn_29 ?_
          refine lv_topi (fun x_6 ex_6 => ?_)
          refine lv_istore_n (lv' := [(2, .int x_6), (3, .int (nI j)), (0, .ref a), (1, .int sh)]) hx hb dX0_leafletsOn_30 rfl hl (by decide) rfl (fun ls hl => ?_)
          obtain ⟨x_7, ex_7⟩ : ∃ y : Int32, y = (nI j) + 1 := ⟨_, rfl⟩
          refine lv_iinc (v := x_7) (lv' := [(3, .int x_7), (2, .int x_6), (0, .ref a), (1, .int sh)]) hx hb dX0_leafletsOn_31 hl (k := 1) rfl (by rw [ex_7]; rfl) (by decide) rfl (fun ls hl => ?_)
          refine lv_goto (tgt := 4) hx hb dX0_leafletsOn_34 (by decide) ?_
          have el_3 : x_7 = nI (j + 1) := by rw [ex_7]; exact nI_1 j
          have el_2 : x_6 = onJ v sh (j + 1) := by 
            rw [ex_6]; simp only [onJ]; repeat' split
            all_goals first | rfl | contradiction | (exfalso; simp_all; done)
          have hl := lv_sub (l' := [(3, .int x_7), (2, .int x_6), (0, .ref a), (1, .int sh)]) hl [0, 1, 2, 3] rfl
          rw [el_3, el_2] at hl
          exact ih (j + 1) (by omega) (by first | assumption | omega | (simp; done)) _ _ _ hR hS hl
  exact loop_1 _ 0 (Nat.lt_succ_self _) (by first | rfl | assumption | omega | (simp; done)) _ _ _ hR hS (lv_sub hl [0, 1, 2, 3] rfl)
set_option maxHeartbeats 4000000 in
set_option maxRecDepth 100000 in
theorem c_X0_isFull (G : FG) (hL : FL G) (l : Launch) (ω : FWd) (a : Nat) (v : Nat → Nat → Int32) (hA : ArcS G ω.2 a v) (c : Nat) (hc : v 0 0 = nI c) (hc8 : c ≤ 8) (sh : Int32) : FMet G l yX0_isFull wsX0_isFull ({ frames := 1, cells := 0, slots := 0, locals := 23 } : Room) [.ref a, .int sh] ω (rI (bz (¬ popF (onJ v sh c) < 3)) ω) 0 0 := by
  refine fw_ofW (cc := cX0_isFull) (maxL := 2) (ret := (some .boolean)) (by decide) rfl (Nat.le_of_ble_eq_true rfl) ?_
  intro pP eE sS mI ar9 bl9 meth cD ls hx hb hr hlocks hml hts hown hnm hW hR hl
  have hK := hL.K hW
  have hS : va_S (fwA G) sS.heap sS.heap [] := va_S.rf
  have hl : lv_has ls 2 [(0, .ref a), (1, .int sh)] := hl
  obtain ⟨h0, h1, h2, h3, h4, h5, hLf, hCo⟩ := id hA
  refine lv_aload_n hx hb dX0_isFull_0 rfl (lv_at hl 0 rfl) ?_
  refine lv_iload_n hx hb dX0_isFull_1 rfl (lv_at hl 1 rfl) ?_
  refine fw_call (va_runV (As := [.int sh]) (rest := []) ⟨hx, hb, hml, hown, hts⟩ (c_X0_leafletsOn G hL l ω a v hA c hc hc8 sh ) (cwV 1 hts gX0_isFull_X0_leafletsOn rfl rfl rfl (by decide +kernel) ⟨Nat.le_of_ble_eq_true rfl, Nat.le_of_ble_eq_true rfl⟩) (fw_preV hW hK hR h0 rfl) rfl rfl hl.1 rfl (lv_room (Nat.le_of_ble_eq_true rfl)) dX0_isFull_2 ⟨Nat.le_of_ble_eq_true rfl, Nat.le_of_ble_eq_true rfl⟩) hS (fun v_1 ω_2 H locs hq_3 hR hS => ?_)
  obtain ⟨rfl, hq_3⟩ := hq_3
  rw [hq_3] at hR
  refine W.eq (g2 := F0 mI 5 ls [.int (onJ v sh c)]) rfl ?_
  refine fw_call (va_runS (As := [.int (onJ v sh c)]) (rest := []) ⟨hx, hb, hml, hown, hts⟩ (c_J6_bitCount_0f7a4 G hL l ω (onJ v sh c)) (va_cwS 1 hts gX0_isFull_J6_bitCount_0f7a4 rfl rfl rfl (by decide +kernel) ⟨Nat.le_of_ble_eq_true rfl, Nat.le_of_ble_eq_true rfl⟩) (fw_preS hW hR) rfl rfl hl.1 rfl (lv_room (Nat.le_of_ble_eq_true rfl)) dX0_isFull_5 ⟨Nat.le_of_ble_eq_true rfl, Nat.le_of_ble_eq_true rfl⟩) hS (fun v_4 ω_5 H locs hq_6 hR hS => ?_)
  obtain ⟨rfl, hq_6⟩ := hq_6
  rw [hq_6] at hR
  refine W.eq (g2 := F0 mI 8 ls [.int (popF (onJ v sh c))]) rfl ?_
  refine lv_iconst (v := 3) hx hb dX0_isFull_8 (by decide) ?_
  refine lv_icmp_lt (tgt := 16) hx hb dX0_isFull_9 (by decide) (fun c_7 => ?_) (fun c_7 => ?_)
  · skip
    refine lv_iconst (v := 0) hx hb dX0_isFull_16 (by decide) ?_
    refine fw_zret hx hb hr rfl hlocks hR hS dX0_isFull_17 (rI_mk ?_)
    exact (bz_0 (by first | rfl | assumption | (simp_all [inB, hasB, usesB]; done) | omega)).symm
  · skip
    refine lv_iconst (v := 1) hx hb dX0_isFull_12 (by decide) ?_
    refine lv_goto (tgt := 17) hx hb dX0_isFull_13 (by decide) ?_
    refine fw_zret hx hb hr rfl hlocks hR hS dX0_isFull_17 (rI_mk ?_)
    exact (bz_1 (by first | rfl | assumption | (simp_all [inB, hasB, usesB]; done) | omega)).symm
set_option maxHeartbeats 4000000 in
set_option maxRecDepth 100000 in
theorem c_X0_stepsOfAll (G : FG) (hL : FL G) (l : Launch) (ω : FWd) (a : Nat) (v : Nat → Nat → Int32) (hA : ArcS G ω.2 a v) (c : Nat) (hc : v 0 0 = nI c) (hc8 : c ≤ 8) : FMet G l yX0_stepsOfAll wsX0_stepsOfAll ({ frames := 0, cells := 0, slots := 0, locals := 0 } : Room) [.ref a] ω (rI (sumJ (fun z9 => v 3 z9) c) ω) 0 0 := by
  refine fw_ofW (cc := cX0_stepsOfAll) (maxL := 3) (ret := (some .int)) (by decide) rfl (Nat.le_of_ble_eq_true rfl) ?_
  intro pP eE sS mI ar9 bl9 meth cD ls hx hb hr hlocks hml hts hown hnm hW hR hl
  have hK := hL.K hW
  have hS : va_S (fwA G) sS.heap sS.heap [] := va_S.rf
  have hin0 : ∀ w ∈ u_ws RX0 TX0 9, w ∈ wsX0_stepsOfAll := by decide +kernel
  have hin5 : ∀ w ∈ u_ws RX5 TX5 9, w ∈ wsX0_stepsOfAll := by decide +kernel
  have hl : lv_has ls 3 [(0, .ref a)] := hl
  obtain ⟨h0, h1, h2, h3, h4, h5, hLf, hCo⟩ := id hA
  refine lv_iconst (v := 0) hx hb dX0_stepsOfAll_0 (by decide) ?_
  refine lv_istore_n (lv' := [(1, .int 0), (0, .ref a)]) hx hb dX0_stepsOfAll_1 rfl hl (by decide) rfl (fun ls hl => ?_)
  refine lv_iconst (v := 0) hx hb dX0_stepsOfAll_2 (by decide) ?_
  refine lv_istore_n (lv' := [(2, .int 0), (1, .int 0), (0, .ref a)]) hx hb dX0_stepsOfAll_3 rfl hl (by decide) rfl (fun ls hl => ?_)
  have loop_1 : ∀ (fu : Nat) (j : Nat), (c - j) < fu → (j ≤ c) → ∀ (H : Heap) (locs : List Loc) (ls : Array Slot), fR G ω H → va_S (fwA G) sS.heap H locs → lv_has ls 3 [(2, .int (nI j)), (1, .int (sumJ (fun z9 => v 3 z9) j)), (0, .ref a)] → W pP l eE ({ frames := 0, cells := 0, slots := 0, locals := 0 } : Room) sS mI ar9 bl9 meth cD H locs 0 0 (MQ bl9 (fQ G (rI (sumJ (fun z9 => v 3 z9) c) ω)) ar9 sS 0 0 (fwA G)) (F0 mI 4 ls []) := by
    intro fu
    induction fu with
    | zero => intro j hfu; exact absurd hfu (Nat.not_lt_zero _)
    | succ fu ih =>
      intro j hfu hj H locs ls hR hS hl
      refine lv_iload_n hx hb dX0_stepsOfAll_4 rfl (lv_at hl 0 rfl) ?_
      refine lv_aload_n hx hb dX0_stepsOfAll_5 rfl (lv_at hl 2 rfl) ?_
      refine fw_get (v := .int (v 0 0)) (C := RX0) (T := TX0) (N := 9) hx hb hts hin0 hown hK hR h0 rfl 1 (by decide) (hts (.fieldLink RX0 32 "UnreadLeaflets$Archive" "leafletCount" "I") (by decide +kernel)) rfl dX0_stepsOfAll_6 ?_
      refine lv_icmp_ge (tgt := 30) hx hb dX0_stepsOfAll_9 (by decide) (fun c_2 => ?_) (fun c_2 => ?_)
      · skip
        have hj2 := lp_ge hc c_2 (by omega) (by omega)
        have hjn : j = c := by omega
        refine lv_iload_n hx hb dX0_stepsOfAll_30 rfl (lv_at hl 1 rfl) ?_
        refine fw_iret hx hb hr hlocks hR hS dX0_stepsOfAll_31 (rI_mk ?_)
        rw [hjn]
      · skip
        have hj2 := lp_lt hc c_2 (by omega) (by omega)
        refine lv_iload_n hx hb dX0_stepsOfAll_12 rfl (lv_at hl 1 rfl) ?_
        refine lv_aload_n hx hb dX0_stepsOfAll_13 rfl (lv_at hl 2 rfl) ?_
        refine fw_get (v := .ref (a + 1)) (C := RX0) (T := TX0) (N := 9) hx hb hts hin0 hown hK hR h0 rfl 0 (by decide) (hts (.fieldLink RX0 11 "UnreadLeaflets$Archive" "leaflets" "[LUnreadLeaflets$Leaflet;") (by decide +kernel)) rfl dX0_stepsOfAll_14 ?_
        refine lv_iload_n hx hb dX0_stepsOfAll_17 rfl (lv_at hl 0 rfl) ?_
        refine fw_aald (b := a + 6 + 5 * j) hx hb hK hR h1 rfl (vp_in_nI (by omega) (by omega)) (by rw [nI_clamp (by omega)]) dX0_stepsOfAll_18 ?_
        have f_3 : ω.2 (a + 6 + 5 * j) = some (.inr (7, [.int (v 3 j), .int (v 4 j), .int (v 5 j), .int (v 6 j - 1), .int (v 7 j), .ref (a + 6 + 5 * j + 1), .ref (a + 6 + 5 * j + 2), .ref (a + 6 + 5 * j + 3), .ref (a + 6 + 5 * j + 4)])) := (hLf j (by omega)).1
        refine fw_get (v := .int (v 3 j)) (C := RX5) (T := TX5) (N := 9) hx hb hts hin5 hown hK hR f_3 rfl 0 (by decide) (hts (.fieldLink RX0 77 "UnreadLeaflets$Leaflet" "steps" "I") (by decide +kernel)) rfl dX0_stepsOfAll_19 ?_
        refine lv_iadd hx hb dX0_stepsOfAll_22 ?_
        refine lv_topi (fun x_4 ex_4 => ?_)
        refine lv_istore_n (lv' := [(1, .int x_4), (2, .int (nI j)), (0, .ref a)]) hx hb dX0_stepsOfAll_23 rfl hl (by decide) rfl (fun ls hl => ?_)
        obtain ⟨x_5, ex_5⟩ : ∃ y : Int32, y = (nI j) + 1 := ⟨_, rfl⟩
        refine lv_iinc (v := x_5) (lv' := [(2, .int x_5), (1, .int x_4), (0, .ref a)]) hx hb dX0_stepsOfAll_24 hl (k := 1) rfl (by rw [ex_5]; rfl) (by decide) rfl (fun ls hl => ?_)
        refine lv_goto (tgt := 4) hx hb dX0_stepsOfAll_27 (by decide) ?_
        have el_2 : x_5 = nI (j + 1) := by rw [ex_5]; exact nI_1 j
        have el_1 : x_4 = sumJ (fun z9 => v 3 z9) (j + 1) := by 
          rw [ex_4]; simp only [sumJ]; repeat' split
          all_goals first | rfl | contradiction | (exfalso; simp_all; done)
        have hl := lv_sub (l' := [(2, .int x_5), (1, .int x_4), (0, .ref a)]) hl [0, 1, 2] rfl
        rw [el_2, el_1] at hl
        exact ih (j + 1) (by omega) (by first | assumption | omega | (simp; done)) _ _ _ hR hS hl
  exact loop_1 _ 0 (Nat.lt_succ_self _) (by first | rfl | assumption | omega | (simp; done)) _ _ _ hR hS (lv_sub hl [0, 1, 2] rfl)
set_option maxHeartbeats 4000000 in
set_option maxRecDepth 100000 in
theorem c_X0_leafletsBuilt (G : FG) (hL : FL G) (l : Launch) (ω : FWd) (a : Nat) (v : Nat → Nat → Int32) (hA : ArcS G ω.2 a v) (c : Nat) (hc : v 0 0 = nI c) (hc8 : c ≤ 8) : FMet G l yX0_leafletsBuilt wsX0_leafletsBuilt ({ frames := 1, cells := 0, slots := 0, locals := 20 } : Room) [.ref a] ω (rI (sumJ (fun z9 => if builtB v z9 then 1 else 0) c) ω) 0 0 := by
  refine fw_ofW (cc := cX0_leafletsBuilt) (maxL := 3) (ret := (some .int)) (by decide) rfl (Nat.le_of_ble_eq_true rfl) ?_
  intro pP eE sS mI ar9 bl9 meth cD ls hx hb hr hlocks hml hts hown hnm hW hR hl
  have hK := hL.K hW
  have hS : va_S (fwA G) sS.heap sS.heap [] := va_S.rf
  have hin0 : ∀ w ∈ u_ws RX0 TX0 9, w ∈ wsX0_leafletsBuilt := by decide +kernel
  have hl : lv_has ls 3 [(0, .ref a)] := hl
  obtain ⟨h0, h1, h2, h3, h4, h5, hLf, hCo⟩ := id hA
  refine lv_iconst (v := 0) hx hb dX0_leafletsBuilt_0 (by decide) ?_
  refine lv_istore_n (lv' := [(1, .int 0), (0, .ref a)]) hx hb dX0_leafletsBuilt_1 rfl hl (by decide) rfl (fun ls hl => ?_)
  refine lv_iconst (v := 0) hx hb dX0_leafletsBuilt_2 (by decide) ?_
  refine lv_istore_n (lv' := [(2, .int 0), (1, .int 0), (0, .ref a)]) hx hb dX0_leafletsBuilt_3 rfl hl (by decide) rfl (fun ls hl => ?_)
  have loop_1 : ∀ (fu : Nat) (j : Nat), (c - j) < fu → (j ≤ c) → ∀ (H : Heap) (locs : List Loc) (ls : Array Slot), fR G ω H → va_S (fwA G) sS.heap H locs → lv_has ls 3 [(2, .int (nI j)), (1, .int (sumJ (fun z9 => if builtB v z9 then 1 else 0) j)), (0, .ref a)] → W pP l eE ({ frames := 1, cells := 0, slots := 0, locals := 20 } : Room) sS mI ar9 bl9 meth cD H locs 0 0 (MQ bl9 (fQ G (rI (sumJ (fun z9 => if builtB v z9 then 1 else 0) c) ω)) ar9 sS 0 0 (fwA G)) (F0 mI 4 ls []) := by
    intro fu
    induction fu with
    | zero => intro j hfu; exact absurd hfu (Nat.not_lt_zero _)
    | succ fu ih =>
      intro j hfu hj H locs ls hR hS hl
      refine lv_iload_n hx hb dX0_leafletsBuilt_4 rfl (lv_at hl 0 rfl) ?_
      refine lv_aload_n hx hb dX0_leafletsBuilt_5 rfl (lv_at hl 2 rfl) ?_
      refine fw_get (v := .int (v 0 0)) (C := RX0) (T := TX0) (N := 9) hx hb hts hin0 hown hK hR h0 rfl 1 (by decide) (hts (.fieldLink RX0 32 "UnreadLeaflets$Archive" "leafletCount" "I") (by decide +kernel)) rfl dX0_leafletsBuilt_6 ?_
      refine lv_icmp_ge (tgt := 38) hx hb dX0_leafletsBuilt_9 (by decide) (fun c_2 => ?_) (fun c_2 => ?_)
      · skip
        have hj2 := lp_ge hc c_2 (by omega) (by omega)
        have hjn : j = c := by omega
        refine lv_iload_n hx hb dX0_leafletsBuilt_38 rfl (lv_at hl 1 rfl) ?_
        refine fw_iret hx hb hr hlocks hR hS dX0_leafletsBuilt_39 (rI_mk ?_)
        rw [hjn]
      · skip
        have hj2 := lp_lt hc c_2 (by omega) (by omega)
        refine lv_iload_n hx hb dX0_leafletsBuilt_12 rfl (lv_at hl 1 rfl) ?_
        refine lv_aload_n hx hb dX0_leafletsBuilt_13 rfl (lv_at hl 2 rfl) ?_
        refine fw_get (v := .ref (a + 1)) (C := RX0) (T := TX0) (N := 9) hx hb hts hin0 hown hK hR h0 rfl 0 (by decide) (hts (.fieldLink RX0 11 "UnreadLeaflets$Archive" "leaflets" "[LUnreadLeaflets$Leaflet;") (by decide +kernel)) rfl dX0_leafletsBuilt_14 ?_
        refine lv_iload_n hx hb dX0_leafletsBuilt_17 rfl (lv_at hl 0 rfl) ?_
        refine fw_aald (b := a + 6 + 5 * j) hx hb hK hR h1 rfl (vp_in_nI (by omega) (by omega)) (by rw [nI_clamp (by omega)]) dX0_leafletsBuilt_18 ?_
        have f_3 : ω.2 (a + 6 + 5 * j) = some (.inr (7, [.int (v 3 j), .int (v 4 j), .int (v 5 j), .int (v 6 j - 1), .int (v 7 j), .ref (a + 6 + 5 * j + 1), .ref (a + 6 + 5 * j + 2), .ref (a + 6 + 5 * j + 3), .ref (a + 6 + 5 * j + 4)])) := (hLf j (by omega)).1
        refine fw_call (va_runV (As := []) (rest := [.int (sumJ (fun z9 => if builtB v z9 then 1 else 0) j)]) ⟨hx, hb, hml, hown, hts⟩ (c_X5_isBuilt G hL l ω (a + 6 + 5 * j) j v (hLf j (by omega))  ) (cwV 0 hts gX0_leafletsBuilt_X5_isBuilt rfl rfl rfl (by decide +kernel) ⟨Nat.le_of_ble_eq_true rfl, Nat.le_of_ble_eq_true rfl⟩) (fw_preV hW hK hR f_3 rfl) rfl rfl hl.1 rfl (lv_room (Nat.le_of_ble_eq_true rfl)) dX0_leafletsBuilt_19 ⟨Nat.le_of_ble_eq_true rfl, Nat.le_of_ble_eq_true rfl⟩) hS (fun v_4 ω_5 H locs hq_6 hR hS => ?_)
        obtain ⟨rfl, hq_6⟩ := hq_6
        rw [hq_6] at hR
        refine W.eq (g2 := F0 mI 22 ls [.int (bz (¬ v 6 j - 1 = (-1))), .int (sumJ (fun z9 => if builtB v z9 then 1 else 0) j)]) rfl ?_
        refine lv_if_eq (tgt := 29) hx hb dX0_leafletsBuilt_22 (by decide) (fun c_7 => ?_) (fun c_7 => ?_)
        · skip
          have c_7 := bz_eq c_7
          refine lv_iconst (v := 0) hx hb dX0_leafletsBuilt_29 (by decide) ?_
          refine lv_iadd hx hb dX0_leafletsBuilt_30 ?_
          refine lv_topi (fun x_8 ex_8 => ?_)
          refine lv_istore_n (lv' := [(1, .int x_8), (2, .int (nI j)), (0, .ref a)]) hx hb dX0_leafletsBuilt_31 rfl hl (by decide) rfl (fun ls hl => ?_)
          obtain ⟨x_9, ex_9⟩ : ∃ y : Int32, y = (nI j) + 1 := ⟨_, rfl⟩
          refine lv_iinc (v := x_9) (lv' := [(2, .int x_9), (1, .int x_8), (0, .ref a)]) hx hb dX0_leafletsBuilt_32 hl (k := 1) rfl (by rw [ex_9]; rfl) (by decide) rfl (fun ls hl => ?_)
          refine lv_goto (tgt := 4) hx hb dX0_leafletsBuilt_35 (by decide) ?_
          have el_2 : x_9 = nI (j + 1) := by rw [ex_9]; exact nI_1 j
          have el_1 : x_8 = sumJ (fun z9 => if builtB v z9 then 1 else 0) (j + 1) := by 
            rw [ex_8]; simp only [sumJ]; repeat' split
            all_goals first | rfl | contradiction | (exfalso; simp_all; done)
          have hl := lv_sub (l' := [(2, .int x_9), (1, .int x_8), (0, .ref a)]) hl [0, 1, 2] rfl
          rw [el_2, el_1] at hl
          exact ih (j + 1) (by omega) (by first | assumption | omega | (simp; done)) _ _ _ hR hS hl
        · skip
          have c_7 := bz_ne c_7
          refine lv_iconst (v := 1) hx hb dX0_leafletsBuilt_25 (by decide) ?_
          refine lv_goto (tgt := 30) hx hb dX0_leafletsBuilt_26 (by decide) ?_
          refine lv_iadd hx hb dX0_leafletsBuilt_30 ?_
          refine lv_topi (fun x_10 ex_10 => ?_)
          refine lv_istore_n (lv' := [(1, .int x_10), (2, .int (nI j)), (0, .ref a)]) hx hb dX0_leafletsBuilt_31 rfl hl (by decide) rfl (fun ls hl => ?_)
          obtain ⟨x_11, ex_11⟩ : ∃ y : Int32, y = (nI j) + 1 := ⟨_, rfl⟩
          refine lv_iinc (v := x_11) (lv' := [(2, .int x_11), (1, .int x_10), (0, .ref a)]) hx hb dX0_leafletsBuilt_32 hl (k := 1) rfl (by rw [ex_11]; rfl) (by decide) rfl (fun ls hl => ?_)
          refine lv_goto (tgt := 4) hx hb dX0_leafletsBuilt_35 (by decide) ?_
          have el_2 : x_11 = nI (j + 1) := by rw [ex_11]; exact nI_1 j
          have el_1 : x_10 = sumJ (fun z9 => if builtB v z9 then 1 else 0) (j + 1) := by 
            rw [ex_10]; simp only [sumJ]; repeat' split
            all_goals first | rfl | contradiction | (exfalso; simp_all; done)
          have hl := lv_sub (l' := [(2, .int x_11), (1, .int x_10), (0, .ref a)]) hl [0, 1, 2] rfl
          rw [el_2, el_1] at hl
          exact ih (j + 1) (by omega) (by first | assumption | omega | (simp; done)) _ _ _ hR hS hl
  exact loop_1 _ 0 (Nat.lt_succ_self _) (by first | rfl | assumption | omega | (simp; done)) _ _ _ hR hS (lv_sub hl [0, 1, 2] rfl)
set_option maxHeartbeats 4000000 in
set_option maxRecDepth 100000 in
theorem c_X0_stepsOfBuilt (G : FG) (hL : FL G) (l : Launch) (ω : FWd) (a : Nat) (v : Nat → Nat → Int32) (hA : ArcS G ω.2 a v) (c : Nat) (hc : v 0 0 = nI c) (hc8 : c ≤ 8) : FMet G l yX0_stepsOfBuilt wsX0_stepsOfBuilt ({ frames := 1, cells := 0, slots := 0, locals := 20 } : Room) [.ref a] ω (rI (sumJ (fun z9 => if builtB v z9 then v 3 z9 else 0) c) ω) 0 0 := by
  refine fw_ofW (cc := cX0_stepsOfBuilt) (maxL := 3) (ret := (some .int)) (by decide) rfl (Nat.le_of_ble_eq_true rfl) ?_
  intro pP eE sS mI ar9 bl9 meth cD ls hx hb hr hlocks hml hts hown hnm hW hR hl
  have hK := hL.K hW
  have hS : va_S (fwA G) sS.heap sS.heap [] := va_S.rf
  have hin0 : ∀ w ∈ u_ws RX0 TX0 9, w ∈ wsX0_stepsOfBuilt := by decide +kernel
  have hin5 : ∀ w ∈ u_ws RX5 TX5 9, w ∈ wsX0_stepsOfBuilt := by decide +kernel
  have hl : lv_has ls 3 [(0, .ref a)] := hl
  obtain ⟨h0, h1, h2, h3, h4, h5, hLf, hCo⟩ := id hA
  refine lv_iconst (v := 0) hx hb dX0_stepsOfBuilt_0 (by decide) ?_
  refine lv_istore_n (lv' := [(1, .int 0), (0, .ref a)]) hx hb dX0_stepsOfBuilt_1 rfl hl (by decide) rfl (fun ls hl => ?_)
  refine lv_iconst (v := 0) hx hb dX0_stepsOfBuilt_2 (by decide) ?_
  refine lv_istore_n (lv' := [(2, .int 0), (1, .int 0), (0, .ref a)]) hx hb dX0_stepsOfBuilt_3 rfl hl (by decide) rfl (fun ls hl => ?_)
  have loop_1 : ∀ (fu : Nat) (j : Nat), (c - j) < fu → (j ≤ c) → ∀ (H : Heap) (locs : List Loc) (ls : Array Slot), fR G ω H → va_S (fwA G) sS.heap H locs → lv_has ls 3 [(2, .int (nI j)), (1, .int (sumJ (fun z9 => if builtB v z9 then v 3 z9 else 0) j)), (0, .ref a)] → W pP l eE ({ frames := 1, cells := 0, slots := 0, locals := 20 } : Room) sS mI ar9 bl9 meth cD H locs 0 0 (MQ bl9 (fQ G (rI (sumJ (fun z9 => if builtB v z9 then v 3 z9 else 0) c) ω)) ar9 sS 0 0 (fwA G)) (F0 mI 4 ls []) := by
    intro fu
    induction fu with
    | zero => intro j hfu; exact absurd hfu (Nat.not_lt_zero _)
    | succ fu ih =>
      intro j hfu hj H locs ls hR hS hl
      refine lv_iload_n hx hb dX0_stepsOfBuilt_4 rfl (lv_at hl 0 rfl) ?_
      refine lv_aload_n hx hb dX0_stepsOfBuilt_5 rfl (lv_at hl 2 rfl) ?_
      refine fw_get (v := .int (v 0 0)) (C := RX0) (T := TX0) (N := 9) hx hb hts hin0 hown hK hR h0 rfl 1 (by decide) (hts (.fieldLink RX0 32 "UnreadLeaflets$Archive" "leafletCount" "I") (by decide +kernel)) rfl dX0_stepsOfBuilt_6 ?_
      refine lv_icmp_ge (tgt := 46) hx hb dX0_stepsOfBuilt_9 (by decide) (fun c_2 => ?_) (fun c_2 => ?_)
      · skip
        have hj2 := lp_ge hc c_2 (by omega) (by omega)
        have hjn : j = c := by omega
        refine lv_iload_n hx hb dX0_stepsOfBuilt_46 rfl (lv_at hl 1 rfl) ?_
        refine fw_iret hx hb hr hlocks hR hS dX0_stepsOfBuilt_47 (rI_mk ?_)
        rw [hjn]
      · skip
        have hj2 := lp_lt hc c_2 (by omega) (by omega)
        refine lv_iload_n hx hb dX0_stepsOfBuilt_12 rfl (lv_at hl 1 rfl) ?_
        refine lv_aload_n hx hb dX0_stepsOfBuilt_13 rfl (lv_at hl 2 rfl) ?_
        refine fw_get (v := .ref (a + 1)) (C := RX0) (T := TX0) (N := 9) hx hb hts hin0 hown hK hR h0 rfl 0 (by decide) (hts (.fieldLink RX0 11 "UnreadLeaflets$Archive" "leaflets" "[LUnreadLeaflets$Leaflet;") (by decide +kernel)) rfl dX0_stepsOfBuilt_14 ?_
        refine lv_iload_n hx hb dX0_stepsOfBuilt_17 rfl (lv_at hl 0 rfl) ?_
        refine fw_aald (b := a + 6 + 5 * j) hx hb hK hR h1 rfl (vp_in_nI (by omega) (by omega)) (by rw [nI_clamp (by omega)]) dX0_stepsOfBuilt_18 ?_
        have f_3 : ω.2 (a + 6 + 5 * j) = some (.inr (7, [.int (v 3 j), .int (v 4 j), .int (v 5 j), .int (v 6 j - 1), .int (v 7 j), .ref (a + 6 + 5 * j + 1), .ref (a + 6 + 5 * j + 2), .ref (a + 6 + 5 * j + 3), .ref (a + 6 + 5 * j + 4)])) := (hLf j (by omega)).1
        refine fw_call (va_runV (As := []) (rest := [.int (sumJ (fun z9 => if builtB v z9 then v 3 z9 else 0) j)]) ⟨hx, hb, hml, hown, hts⟩ (c_X5_isBuilt G hL l ω (a + 6 + 5 * j) j v (hLf j (by omega))  ) (cwV 0 hts gX0_stepsOfBuilt_X5_isBuilt rfl rfl rfl (by decide +kernel) ⟨Nat.le_of_ble_eq_true rfl, Nat.le_of_ble_eq_true rfl⟩) (fw_preV hW hK hR f_3 rfl) rfl rfl hl.1 rfl (lv_room (Nat.le_of_ble_eq_true rfl)) dX0_stepsOfBuilt_19 ⟨Nat.le_of_ble_eq_true rfl, Nat.le_of_ble_eq_true rfl⟩) hS (fun v_4 ω_5 H locs hq_6 hR hS => ?_)
        obtain ⟨rfl, hq_6⟩ := hq_6
        rw [hq_6] at hR
        refine W.eq (g2 := F0 mI 22 ls [.int (bz (¬ v 6 j - 1 = (-1))), .int (sumJ (fun z9 => if builtB v z9 then v 3 z9 else 0) j)]) rfl ?_
        refine lv_if_eq (tgt := 37) hx hb dX0_stepsOfBuilt_22 (by decide) (fun c_7 => ?_) (fun c_7 => ?_)
        · skip
          have c_7 := bz_eq c_7
          refine lv_iconst (v := 0) hx hb dX0_stepsOfBuilt_37 (by decide) ?_
          refine lv_iadd hx hb dX0_stepsOfBuilt_38 ?_
          refine lv_topi (fun x_8 ex_8 => ?_)
          refine lv_istore_n (lv' := [(1, .int x_8), (2, .int (nI j)), (0, .ref a)]) hx hb dX0_stepsOfBuilt_39 rfl hl (by decide) rfl (fun ls hl => ?_)
          obtain ⟨x_9, ex_9⟩ : ∃ y : Int32, y = (nI j) + 1 := ⟨_, rfl⟩
          refine lv_iinc (v := x_9) (lv' := [(2, .int x_9), (1, .int x_8), (0, .ref a)]) hx hb dX0_stepsOfBuilt_40 hl (k := 1) rfl (by rw [ex_9]; rfl) (by decide) rfl (fun ls hl => ?_)
          refine lv_goto (tgt := 4) hx hb dX0_stepsOfBuilt_43 (by decide) ?_
          have el_2 : x_9 = nI (j + 1) := by rw [ex_9]; exact nI_1 j
          have el_1 : x_8 = sumJ (fun z9 => if builtB v z9 then v 3 z9 else 0) (j + 1) := by 
            rw [ex_8]; simp only [sumJ]; repeat' split
            all_goals first | rfl | contradiction | (exfalso; simp_all; done)
          have hl := lv_sub (l' := [(2, .int x_9), (1, .int x_8), (0, .ref a)]) hl [0, 1, 2] rfl
          rw [el_2, el_1] at hl
          exact ih (j + 1) (by omega) (by first | assumption | omega | (simp; done)) _ _ _ hR hS hl
        · skip
          have c_7 := bz_ne c_7
          refine lv_aload_n hx hb dX0_stepsOfBuilt_25 rfl (lv_at hl 2 rfl) ?_
          refine fw_get (v := .ref (a + 1)) (C := RX0) (T := TX0) (N := 9) hx hb hts hin0 hown hK hR h0 rfl 0 (by decide) (hts (.fieldLink RX0 11 "UnreadLeaflets$Archive" "leaflets" "[LUnreadLeaflets$Leaflet;") (by decide +kernel)) rfl dX0_stepsOfBuilt_26 ?_
          refine lv_iload_n hx hb dX0_stepsOfBuilt_29 rfl (lv_at hl 0 rfl) ?_
          refine fw_aald (b := a + 6 + 5 * j) hx hb hK hR h1 rfl (vp_in_nI (by omega) (by omega)) (by rw [nI_clamp (by omega)]) dX0_stepsOfBuilt_30 ?_
          refine fw_get (v := .int (v 3 j)) (C := RX5) (T := TX5) (N := 9) hx hb hts hin5 hown hK hR f_3 rfl 0 (by decide) (hts (.fieldLink RX0 77 "UnreadLeaflets$Leaflet" "steps" "I") (by decide +kernel)) rfl dX0_stepsOfBuilt_31 ?_
          refine lv_goto (tgt := 38) hx hb dX0_stepsOfBuilt_34 (by decide) ?_
          refine lv_iadd hx hb dX0_stepsOfBuilt_38 ?_
          refine lv_topi (fun x_10 ex_10 => ?_)
          refine lv_istore_n (lv' := [(1, .int x_10), (2, .int (nI j)), (0, .ref a)]) hx hb dX0_stepsOfBuilt_39 rfl hl (by decide) rfl (fun ls hl => ?_)
          obtain ⟨x_11, ex_11⟩ : ∃ y : Int32, y = (nI j) + 1 := ⟨_, rfl⟩
          refine lv_iinc (v := x_11) (lv' := [(2, .int x_11), (1, .int x_10), (0, .ref a)]) hx hb dX0_stepsOfBuilt_40 hl (k := 1) rfl (by rw [ex_11]; rfl) (by decide) rfl (fun ls hl => ?_)
          refine lv_goto (tgt := 4) hx hb dX0_stepsOfBuilt_43 (by decide) ?_
          have el_2 : x_11 = nI (j + 1) := by rw [ex_11]; exact nI_1 j
          have el_1 : x_10 = sumJ (fun z9 => if builtB v z9 then v 3 z9 else 0) (j + 1) := by 
            rw [ex_10]; simp only [sumJ]; repeat' split
            all_goals first | rfl | contradiction | (exfalso; simp_all; done)
          have hl := lv_sub (l' := [(2, .int x_11), (1, .int x_10), (0, .ref a)]) hl [0, 1, 2] rfl
          rw [el_2, el_1] at hl
          exact ih (j + 1) (by omega) (by first | assumption | omega | (simp; done)) _ _ _ hR hS hl
  exact loop_1 _ 0 (Nat.lt_succ_self _) (by first | rfl | assumption | omega | (simp; done)) _ _ _ hR hS (lv_sub hl [0, 1, 2] rfl)
set_option maxHeartbeats 4000000 in
set_option maxRecDepth 100000 in
theorem c_X0_stepsSkipped (G : FG) (hL : FL G) (l : Launch) (ω : FWd) (a : Nat) (v : Nat → Nat → Int32) (hA : ArcS G ω.2 a v) (c : Nat) (hc : v 0 0 = nI c) (hc8 : c ≤ 8) : FMet G l yX0_stepsSkipped wsX0_stepsSkipped ({ frames := 2, cells := 0, slots := 0, locals := 40 } : Room) [.ref a] ω (rI (sumJ (fun z9 => popF (v 7 z9)) c) ω) 0 0 := by
  refine fw_ofW (cc := cX0_stepsSkipped) (maxL := 3) (ret := (some .int)) (by decide) rfl (Nat.le_of_ble_eq_true rfl) ?_
  intro pP eE sS mI ar9 bl9 meth cD ls hx hb hr hlocks hml hts hown hnm hW hR hl
  have hK := hL.K hW
  have hS : va_S (fwA G) sS.heap sS.heap [] := va_S.rf
  have hin0 : ∀ w ∈ u_ws RX0 TX0 9, w ∈ wsX0_stepsSkipped := by decide +kernel
  have hl : lv_has ls 3 [(0, .ref a)] := hl
  obtain ⟨h0, h1, h2, h3, h4, h5, hLf, hCo⟩ := id hA
  refine lv_iconst (v := 0) hx hb dX0_stepsSkipped_0 (by decide) ?_
  refine lv_istore_n (lv' := [(1, .int 0), (0, .ref a)]) hx hb dX0_stepsSkipped_1 rfl hl (by decide) rfl (fun ls hl => ?_)
  refine lv_iconst (v := 0) hx hb dX0_stepsSkipped_2 (by decide) ?_
  refine lv_istore_n (lv' := [(2, .int 0), (1, .int 0), (0, .ref a)]) hx hb dX0_stepsSkipped_3 rfl hl (by decide) rfl (fun ls hl => ?_)
  have loop_1 : ∀ (fu : Nat) (j : Nat), (c - j) < fu → (j ≤ c) → ∀ (H : Heap) (locs : List Loc) (ls : Array Slot), fR G ω H → va_S (fwA G) sS.heap H locs → lv_has ls 3 [(2, .int (nI j)), (1, .int (sumJ (fun z9 => popF (v 7 z9)) j)), (0, .ref a)] → W pP l eE ({ frames := 2, cells := 0, slots := 0, locals := 40 } : Room) sS mI ar9 bl9 meth cD H locs 0 0 (MQ bl9 (fQ G (rI (sumJ (fun z9 => popF (v 7 z9)) c) ω)) ar9 sS 0 0 (fwA G)) (F0 mI 4 ls []) := by
    intro fu
    induction fu with
    | zero => intro j hfu; exact absurd hfu (Nat.not_lt_zero _)
    | succ fu ih =>
      intro j hfu hj H locs ls hR hS hl
      refine lv_iload_n hx hb dX0_stepsSkipped_4 rfl (lv_at hl 0 rfl) ?_
      refine lv_aload_n hx hb dX0_stepsSkipped_5 rfl (lv_at hl 2 rfl) ?_
      refine fw_get (v := .int (v 0 0)) (C := RX0) (T := TX0) (N := 9) hx hb hts hin0 hown hK hR h0 rfl 1 (by decide) (hts (.fieldLink RX0 32 "UnreadLeaflets$Archive" "leafletCount" "I") (by decide +kernel)) rfl dX0_stepsSkipped_6 ?_
      refine lv_icmp_ge (tgt := 30) hx hb dX0_stepsSkipped_9 (by decide) (fun c_2 => ?_) (fun c_2 => ?_)
      · skip
        have hj2 := lp_ge hc c_2 (by omega) (by omega)
        have hjn : j = c := by omega
        refine lv_iload_n hx hb dX0_stepsSkipped_30 rfl (lv_at hl 1 rfl) ?_
        refine fw_iret hx hb hr hlocks hR hS dX0_stepsSkipped_31 (rI_mk ?_)
        rw [hjn]
      · skip
        have hj2 := lp_lt hc c_2 (by omega) (by omega)
        refine lv_iload_n hx hb dX0_stepsSkipped_12 rfl (lv_at hl 1 rfl) ?_
        refine lv_aload_n hx hb dX0_stepsSkipped_13 rfl (lv_at hl 2 rfl) ?_
        refine fw_get (v := .ref (a + 1)) (C := RX0) (T := TX0) (N := 9) hx hb hts hin0 hown hK hR h0 rfl 0 (by decide) (hts (.fieldLink RX0 11 "UnreadLeaflets$Archive" "leaflets" "[LUnreadLeaflets$Leaflet;") (by decide +kernel)) rfl dX0_stepsSkipped_14 ?_
        refine lv_iload_n hx hb dX0_stepsSkipped_17 rfl (lv_at hl 0 rfl) ?_
        refine fw_aald (b := a + 6 + 5 * j) hx hb hK hR h1 rfl (vp_in_nI (by omega) (by omega)) (by rw [nI_clamp (by omega)]) dX0_stepsSkipped_18 ?_
        have f_3 : ω.2 (a + 6 + 5 * j) = some (.inr (7, [.int (v 3 j), .int (v 4 j), .int (v 5 j), .int (v 6 j - 1), .int (v 7 j), .ref (a + 6 + 5 * j + 1), .ref (a + 6 + 5 * j + 2), .ref (a + 6 + 5 * j + 3), .ref (a + 6 + 5 * j + 4)])) := (hLf j (by omega)).1
        refine fw_call (va_runV (As := []) (rest := [.int (sumJ (fun z9 => popF (v 7 z9)) j)]) ⟨hx, hb, hml, hown, hts⟩ (c_X5_skippedSteps G hL l ω (a + 6 + 5 * j) j v (hLf j (by omega))  ) (cwV 0 hts gX0_stepsSkipped_X5_skippedSteps rfl rfl rfl (by decide +kernel) ⟨Nat.le_of_ble_eq_true rfl, Nat.le_of_ble_eq_true rfl⟩) (fw_preV hW hK hR f_3 rfl) rfl rfl hl.1 rfl (lv_room (Nat.le_of_ble_eq_true rfl)) dX0_stepsSkipped_19 ⟨Nat.le_of_ble_eq_true rfl, Nat.le_of_ble_eq_true rfl⟩) hS (fun v_4 ω_5 H locs hq_6 hR hS => ?_)
        obtain ⟨rfl, hq_6⟩ := hq_6
        rw [hq_6] at hR
        refine W.eq (g2 := F0 mI 22 ls [.int (popF (v 7 j)), .int (sumJ (fun z9 => popF (v 7 z9)) j)]) rfl ?_
        refine lv_iadd hx hb dX0_stepsSkipped_22 ?_
        refine lv_topi (fun x_7 ex_7 => ?_)
        refine lv_istore_n (lv' := [(1, .int x_7), (2, .int (nI j)), (0, .ref a)]) hx hb dX0_stepsSkipped_23 rfl hl (by decide) rfl (fun ls hl => ?_)
        obtain ⟨x_8, ex_8⟩ : ∃ y : Int32, y = (nI j) + 1 := ⟨_, rfl⟩
        refine lv_iinc (v := x_8) (lv' := [(2, .int x_8), (1, .int x_7), (0, .ref a)]) hx hb dX0_stepsSkipped_24 hl (k := 1) rfl (by rw [ex_8]; rfl) (by decide) rfl (fun ls hl => ?_)
        refine lv_goto (tgt := 4) hx hb dX0_stepsSkipped_27 (by decide) ?_
        have el_2 : x_8 = nI (j + 1) := by rw [ex_8]; exact nI_1 j
        have el_1 : x_7 = sumJ (fun z9 => popF (v 7 z9)) (j + 1) := by 
          rw [ex_7]; simp only [sumJ]; repeat' split
          all_goals first | rfl | contradiction | (exfalso; simp_all; done)
        have hl := lv_sub (l' := [(2, .int x_8), (1, .int x_7), (0, .ref a)]) hl [0, 1, 2] rfl
        rw [el_2, el_1] at hl
        exact ih (j + 1) (by omega) (by first | assumption | omega | (simp; done)) _ _ _ hR hS hl
  exact loop_1 _ 0 (Nat.lt_succ_self _) (by first | rfl | assumption | omega | (simp; done)) _ _ _ hR hS (lv_sub hl [0, 1, 2] rfl)
set_option maxHeartbeats 4000000 in
set_option maxRecDepth 100000 in
theorem c_X0_leafletsBuiltBy (G : FG) (hL : FL G) (l : Launch) (ω : FWd) (a : Nat) (v : Nat → Nat → Int32) (hA : ArcS G ω.2 a v) (c : Nat) (hc : v 0 0 = nI c) (hc8 : c ≤ 8) (m : Int32) : FMet G l yX0_leafletsBuiltBy wsX0_leafletsBuiltBy ({ frames := 0, cells := 0, slots := 0, locals := 0 } : Room) [.ref a, .int m] ω (rI (sumJ (fun z9 => if v 6 z9 - 1 = m then 1 else 0) c) ω) 0 0 := by
  refine fw_ofW (cc := cX0_leafletsBuiltBy) (maxL := 4) (ret := (some .int)) (by decide) rfl (Nat.le_of_ble_eq_true rfl) ?_
  intro pP eE sS mI ar9 bl9 meth cD ls hx hb hr hlocks hml hts hown hnm hW hR hl
  have hK := hL.K hW
  have hS : va_S (fwA G) sS.heap sS.heap [] := va_S.rf
  have hin0 : ∀ w ∈ u_ws RX0 TX0 9, w ∈ wsX0_leafletsBuiltBy := by decide +kernel
  have hin5 : ∀ w ∈ u_ws RX5 TX5 9, w ∈ wsX0_leafletsBuiltBy := by decide +kernel
  have hl : lv_has ls 4 [(0, .ref a), (1, .int m)] := hl
  obtain ⟨h0, h1, h2, h3, h4, h5, hLf, hCo⟩ := id hA
  refine lv_iconst (v := 0) hx hb dX0_leafletsBuiltBy_0 (by decide) ?_
  refine lv_istore_n (lv' := [(2, .int 0), (0, .ref a), (1, .int m)]) hx hb dX0_leafletsBuiltBy_1 rfl hl (by decide) rfl (fun ls hl => ?_)
  refine lv_iconst (v := 0) hx hb dX0_leafletsBuiltBy_2 (by decide) ?_
  refine lv_istore_n (lv' := [(3, .int 0), (2, .int 0), (0, .ref a), (1, .int m)]) hx hb dX0_leafletsBuiltBy_3 rfl hl (by decide) rfl (fun ls hl => ?_)
  have loop_1 : ∀ (fu : Nat) (j : Nat), (c - j) < fu → (j ≤ c) → ∀ (H : Heap) (locs : List Loc) (ls : Array Slot), fR G ω H → va_S (fwA G) sS.heap H locs → lv_has ls 4 [(3, .int (nI j)), (2, .int (sumJ (fun z9 => if v 6 z9 - 1 = m then 1 else 0) j)), (0, .ref a), (1, .int m)] → W pP l eE ({ frames := 0, cells := 0, slots := 0, locals := 0 } : Room) sS mI ar9 bl9 meth cD H locs 0 0 (MQ bl9 (fQ G (rI (sumJ (fun z9 => if v 6 z9 - 1 = m then 1 else 0) c) ω)) ar9 sS 0 0 (fwA G)) (F0 mI 4 ls []) := by
    intro fu
    induction fu with
    | zero => intro j hfu; exact absurd hfu (Nat.not_lt_zero _)
    | succ fu ih =>
      intro j hfu hj H locs ls hR hS hl
      refine lv_iload_n hx hb dX0_leafletsBuiltBy_4 rfl (lv_at hl 0 rfl) ?_
      refine lv_aload_n hx hb dX0_leafletsBuiltBy_5 rfl (lv_at hl 2 rfl) ?_
      refine fw_get (v := .int (v 0 0)) (C := RX0) (T := TX0) (N := 9) hx hb hts hin0 hown hK hR h0 rfl 1 (by decide) (hts (.fieldLink RX0 32 "UnreadLeaflets$Archive" "leafletCount" "I") (by decide +kernel)) rfl dX0_leafletsBuiltBy_6 ?_
      refine lv_icmp_ge (tgt := 39) hx hb dX0_leafletsBuiltBy_9 (by decide) (fun c_2 => ?_) (fun c_2 => ?_)
      · skip
        have hj2 := lp_ge hc c_2 (by omega) (by omega)
        have hjn : j = c := by omega
        refine lv_iload_n hx hb dX0_leafletsBuiltBy_39 rfl (lv_at hl 1 rfl) ?_
        refine fw_iret hx hb hr hlocks hR hS dX0_leafletsBuiltBy_40 (rI_mk ?_)
        rw [hjn]
      · skip
        have hj2 := lp_lt hc c_2 (by omega) (by omega)
        refine lv_iload_n hx hb dX0_leafletsBuiltBy_12 rfl (lv_at hl 1 rfl) ?_
        refine lv_aload_n hx hb dX0_leafletsBuiltBy_13 rfl (lv_at hl 2 rfl) ?_
        refine fw_get (v := .ref (a + 1)) (C := RX0) (T := TX0) (N := 9) hx hb hts hin0 hown hK hR h0 rfl 0 (by decide) (hts (.fieldLink RX0 11 "UnreadLeaflets$Archive" "leaflets" "[LUnreadLeaflets$Leaflet;") (by decide +kernel)) rfl dX0_leafletsBuiltBy_14 ?_
        refine lv_iload_n hx hb dX0_leafletsBuiltBy_17 rfl (lv_at hl 0 rfl) ?_
        refine fw_aald (b := a + 6 + 5 * j) hx hb hK hR h1 rfl (vp_in_nI (by omega) (by omega)) (by rw [nI_clamp (by omega)]) dX0_leafletsBuiltBy_18 ?_
        have f_3 : ω.2 (a + 6 + 5 * j) = some (.inr (7, [.int (v 3 j), .int (v 4 j), .int (v 5 j), .int (v 6 j - 1), .int (v 7 j), .ref (a + 6 + 5 * j + 1), .ref (a + 6 + 5 * j + 2), .ref (a + 6 + 5 * j + 3), .ref (a + 6 + 5 * j + 4)])) := (hLf j (by omega)).1
        refine fw_get (v := .int (v 6 j - 1)) (C := RX5) (T := TX5) (N := 9) hx hb hts hin5 hown hK hR f_3 rfl 3 (by decide) (hts (.fieldLink RX0 88 "UnreadLeaflets$Leaflet" "builder" "I") (by decide +kernel)) rfl dX0_leafletsBuiltBy_19 ?_
        refine lv_iload_n hx hb dX0_leafletsBuiltBy_22 rfl (lv_at hl 3 rfl) ?_
        refine lv_icmp_ne (tgt := 30) hx hb dX0_leafletsBuiltBy_23 (by decide) (fun c_4 => ?_) (fun c_4 => ?_)
        · skip
          refine lv_iconst (v := 0) hx hb dX0_leafletsBuiltBy_30 (by decide) ?_
          refine lv_iadd hx hb dX0_leafletsBuiltBy_31 ?_
          refine lv_topi (fun x_5 ex_5 => ?_)
          refine lv_istore_n (lv' := [(2, .int x_5), (3, .int (nI j)), (0, .ref a), (1, .int m)]) hx hb dX0_leafletsBuiltBy_32 rfl hl (by decide) rfl (fun ls hl => ?_)
          obtain ⟨x_6, ex_6⟩ : ∃ y : Int32, y = (nI j) + 1 := ⟨_, rfl⟩
          refine lv_iinc (v := x_6) (lv' := [(3, .int x_6), (2, .int x_5), (0, .ref a), (1, .int m)]) hx hb dX0_leafletsBuiltBy_33 hl (k := 1) rfl (by rw [ex_6]; rfl) (by decide) rfl (fun ls hl => ?_)
          refine lv_goto (tgt := 4) hx hb dX0_leafletsBuiltBy_36 (by decide) ?_
          have el_3 : x_6 = nI (j + 1) := by rw [ex_6]; exact nI_1 j
          have el_2 : x_5 = sumJ (fun z9 => if v 6 z9 - 1 = m then 1 else 0) (j + 1) := by 
            rw [ex_5]; simp only [sumJ]; repeat' split
            all_goals first | rfl | contradiction | (exfalso; simp_all; done)
          have hl := lv_sub (l' := [(3, .int x_6), (2, .int x_5), (0, .ref a), (1, .int m)]) hl [0, 1, 2, 3] rfl
          rw [el_3, el_2] at hl
          exact ih (j + 1) (by omega) (by first | assumption | omega | (simp; done)) _ _ _ hR hS hl
        · skip
          refine lv_iconst (v := 1) hx hb dX0_leafletsBuiltBy_26 (by decide) ?_
          refine lv_goto (tgt := 31) hx hb dX0_leafletsBuiltBy_27 (by decide) ?_
          refine lv_iadd hx hb dX0_leafletsBuiltBy_31 ?_
          refine lv_topi (fun x_7 ex_7 => ?_)
          refine lv_istore_n (lv' := [(2, .int x_7), (3, .int (nI j)), (0, .ref a), (1, .int m)]) hx hb dX0_leafletsBuiltBy_32 rfl hl (by decide) rfl (fun ls hl => ?_)
          obtain ⟨x_8, ex_8⟩ : ∃ y : Int32, y = (nI j) + 1 := ⟨_, rfl⟩
          refine lv_iinc (v := x_8) (lv' := [(3, .int x_8), (2, .int x_7), (0, .ref a), (1, .int m)]) hx hb dX0_leafletsBuiltBy_33 hl (k := 1) rfl (by rw [ex_8]; rfl) (by decide) rfl (fun ls hl => ?_)
          refine lv_goto (tgt := 4) hx hb dX0_leafletsBuiltBy_36 (by decide) ?_
          have el_3 : x_8 = nI (j + 1) := by rw [ex_8]; exact nI_1 j
          have el_2 : x_7 = sumJ (fun z9 => if v 6 z9 - 1 = m then 1 else 0) (j + 1) := by 
            rw [ex_7]; simp only [sumJ]; repeat' split
            all_goals first | rfl | contradiction | (exfalso; simp_all; done)
          have hl := lv_sub (l' := [(3, .int x_8), (2, .int x_7), (0, .ref a), (1, .int m)]) hl [0, 1, 2, 3] rfl
          rw [el_3, el_2] at hl
          exact ih (j + 1) (by omega) (by first | assumption | omega | (simp; done)) _ _ _ hR hS hl
  exact loop_1 _ 0 (Nat.lt_succ_self _) (by first | rfl | assumption | omega | (simp; done)) _ _ _ hR hS (lv_sub hl [0, 1, 2, 3] rfl)
set_option maxHeartbeats 4000000 in
set_option maxRecDepth 100000 in
theorem c_X0_stepsSkippedBy (G : FG) (hL : FL G) (l : Launch) (ω : FWd) (a : Nat) (v : Nat → Nat → Int32) (hA : ArcS G ω.2 a v) (c : Nat) (hc : v 0 0 = nI c) (hc8 : c ≤ 8) (m : Int32) : FMet G l yX0_stepsSkippedBy wsX0_stepsSkippedBy ({ frames := 2, cells := 0, slots := 0, locals := 40 } : Room) [.ref a, .int m] ω (rI (sumJ (fun z9 => if v 6 z9 - 1 = m then popF (v 7 z9) else 0) c) ω) 0 0 := by
  refine fw_ofW (cc := cX0_stepsSkippedBy) (maxL := 4) (ret := (some .int)) (by decide) rfl (Nat.le_of_ble_eq_true rfl) ?_
  intro pP eE sS mI ar9 bl9 meth cD ls hx hb hr hlocks hml hts hown hnm hW hR hl
  have hK := hL.K hW
  have hS : va_S (fwA G) sS.heap sS.heap [] := va_S.rf
  have hin0 : ∀ w ∈ u_ws RX0 TX0 9, w ∈ wsX0_stepsSkippedBy := by decide +kernel
  have hin5 : ∀ w ∈ u_ws RX5 TX5 9, w ∈ wsX0_stepsSkippedBy := by decide +kernel
  have hl : lv_has ls 4 [(0, .ref a), (1, .int m)] := hl
  obtain ⟨h0, h1, h2, h3, h4, h5, hLf, hCo⟩ := id hA
  refine lv_iconst (v := 0) hx hb dX0_stepsSkippedBy_0 (by decide) ?_
  refine lv_istore_n (lv' := [(2, .int 0), (0, .ref a), (1, .int m)]) hx hb dX0_stepsSkippedBy_1 rfl hl (by decide) rfl (fun ls hl => ?_)
  refine lv_iconst (v := 0) hx hb dX0_stepsSkippedBy_2 (by decide) ?_
  refine lv_istore_n (lv' := [(3, .int 0), (2, .int 0), (0, .ref a), (1, .int m)]) hx hb dX0_stepsSkippedBy_3 rfl hl (by decide) rfl (fun ls hl => ?_)
  have loop_1 : ∀ (fu : Nat) (j : Nat), (c - j) < fu → (j ≤ c) → ∀ (H : Heap) (locs : List Loc) (ls : Array Slot), fR G ω H → va_S (fwA G) sS.heap H locs → lv_has ls 4 [(3, .int (nI j)), (2, .int (sumJ (fun z9 => if v 6 z9 - 1 = m then popF (v 7 z9) else 0) j)), (0, .ref a), (1, .int m)] → W pP l eE ({ frames := 2, cells := 0, slots := 0, locals := 40 } : Room) sS mI ar9 bl9 meth cD H locs 0 0 (MQ bl9 (fQ G (rI (sumJ (fun z9 => if v 6 z9 - 1 = m then popF (v 7 z9) else 0) c) ω)) ar9 sS 0 0 (fwA G)) (F0 mI 4 ls []) := by
    intro fu
    induction fu with
    | zero => intro j hfu; exact absurd hfu (Nat.not_lt_zero _)
    | succ fu ih =>
      intro j hfu hj H locs ls hR hS hl
      refine lv_iload_n hx hb dX0_stepsSkippedBy_4 rfl (lv_at hl 0 rfl) ?_
      refine lv_aload_n hx hb dX0_stepsSkippedBy_5 rfl (lv_at hl 2 rfl) ?_
      refine fw_get (v := .int (v 0 0)) (C := RX0) (T := TX0) (N := 9) hx hb hts hin0 hown hK hR h0 rfl 1 (by decide) (hts (.fieldLink RX0 32 "UnreadLeaflets$Archive" "leafletCount" "I") (by decide +kernel)) rfl dX0_stepsSkippedBy_6 ?_
      refine lv_icmp_ge (tgt := 47) hx hb dX0_stepsSkippedBy_9 (by decide) (fun c_2 => ?_) (fun c_2 => ?_)
      · skip
        have hj2 := lp_ge hc c_2 (by omega) (by omega)
        have hjn : j = c := by omega
        refine lv_iload_n hx hb dX0_stepsSkippedBy_47 rfl (lv_at hl 1 rfl) ?_
        refine fw_iret hx hb hr hlocks hR hS dX0_stepsSkippedBy_48 (rI_mk ?_)
        rw [hjn]
      · skip
        have hj2 := lp_lt hc c_2 (by omega) (by omega)
        refine lv_iload_n hx hb dX0_stepsSkippedBy_12 rfl (lv_at hl 1 rfl) ?_
        refine lv_aload_n hx hb dX0_stepsSkippedBy_13 rfl (lv_at hl 2 rfl) ?_
        refine fw_get (v := .ref (a + 1)) (C := RX0) (T := TX0) (N := 9) hx hb hts hin0 hown hK hR h0 rfl 0 (by decide) (hts (.fieldLink RX0 11 "UnreadLeaflets$Archive" "leaflets" "[LUnreadLeaflets$Leaflet;") (by decide +kernel)) rfl dX0_stepsSkippedBy_14 ?_
        refine lv_iload_n hx hb dX0_stepsSkippedBy_17 rfl (lv_at hl 0 rfl) ?_
        refine fw_aald (b := a + 6 + 5 * j) hx hb hK hR h1 rfl (vp_in_nI (by omega) (by omega)) (by rw [nI_clamp (by omega)]) dX0_stepsSkippedBy_18 ?_
        have f_3 : ω.2 (a + 6 + 5 * j) = some (.inr (7, [.int (v 3 j), .int (v 4 j), .int (v 5 j), .int (v 6 j - 1), .int (v 7 j), .ref (a + 6 + 5 * j + 1), .ref (a + 6 + 5 * j + 2), .ref (a + 6 + 5 * j + 3), .ref (a + 6 + 5 * j + 4)])) := (hLf j (by omega)).1
        refine fw_get (v := .int (v 6 j - 1)) (C := RX5) (T := TX5) (N := 9) hx hb hts hin5 hown hK hR f_3 rfl 3 (by decide) (hts (.fieldLink RX0 88 "UnreadLeaflets$Leaflet" "builder" "I") (by decide +kernel)) rfl dX0_stepsSkippedBy_19 ?_
        refine lv_iload_n hx hb dX0_stepsSkippedBy_22 rfl (lv_at hl 3 rfl) ?_
        refine lv_icmp_ne (tgt := 38) hx hb dX0_stepsSkippedBy_23 (by decide) (fun c_4 => ?_) (fun c_4 => ?_)
        · skip
          refine lv_iconst (v := 0) hx hb dX0_stepsSkippedBy_38 (by decide) ?_
          refine lv_iadd hx hb dX0_stepsSkippedBy_39 ?_
          refine lv_topi (fun x_5 ex_5 => ?_)
          refine lv_istore_n (lv' := [(2, .int x_5), (3, .int (nI j)), (0, .ref a), (1, .int m)]) hx hb dX0_stepsSkippedBy_40 rfl hl (by decide) rfl (fun ls hl => ?_)
          obtain ⟨x_6, ex_6⟩ : ∃ y : Int32, y = (nI j) + 1 := ⟨_, rfl⟩
          refine lv_iinc (v := x_6) (lv' := [(3, .int x_6), (2, .int x_5), (0, .ref a), (1, .int m)]) hx hb dX0_stepsSkippedBy_41 hl (k := 1) rfl (by rw [ex_6]; rfl) (by decide) rfl (fun ls hl => ?_)
          refine lv_goto (tgt := 4) hx hb dX0_stepsSkippedBy_44 (by decide) ?_
          have el_3 : x_6 = nI (j + 1) := by rw [ex_6]; exact nI_1 j
          have el_2 : x_5 = sumJ (fun z9 => if v 6 z9 - 1 = m then popF (v 7 z9) else 0) (j + 1) := by 
            rw [ex_5]; simp only [sumJ]; repeat' split
            all_goals first | rfl | contradiction | (exfalso; simp_all; done)
          have hl := lv_sub (l' := [(3, .int x_6), (2, .int x_5), (0, .ref a), (1, .int m)]) hl [0, 1, 2, 3] rfl
          rw [el_3, el_2] at hl
          exact ih (j + 1) (by omega) (by first | assumption | omega | (simp; done)) _ _ _ hR hS hl
        · skip
          refine lv_aload_n hx hb dX0_stepsSkippedBy_26 rfl (lv_at hl 2 rfl) ?_
          refine fw_get (v := .ref (a + 1)) (C := RX0) (T := TX0) (N := 9) hx hb hts hin0 hown hK hR h0 rfl 0 (by decide) (hts (.fieldLink RX0 11 "UnreadLeaflets$Archive" "leaflets" "[LUnreadLeaflets$Leaflet;") (by decide +kernel)) rfl dX0_stepsSkippedBy_27 ?_
          refine lv_iload_n hx hb dX0_stepsSkippedBy_30 rfl (lv_at hl 0 rfl) ?_
          refine fw_aald (b := a + 6 + 5 * j) hx hb hK hR h1 rfl (vp_in_nI (by omega) (by omega)) (by rw [nI_clamp (by omega)]) dX0_stepsSkippedBy_31 ?_
          refine fw_call (va_runV (As := []) (rest := [.int (sumJ (fun z9 => if v 6 z9 - 1 = m then popF (v 7 z9) else 0) j)]) ⟨hx, hb, hml, hown, hts⟩ (c_X5_skippedSteps G hL l ω (a + 6 + 5 * j) j v (hLf j (by omega))  ) (cwV 0 hts gX0_stepsSkippedBy_X5_skippedSteps rfl rfl rfl (by decide +kernel) ⟨Nat.le_of_ble_eq_true rfl, Nat.le_of_ble_eq_true rfl⟩) (fw_preV hW hK hR f_3 rfl) rfl rfl hl.1 rfl (lv_room (Nat.le_of_ble_eq_true rfl)) dX0_stepsSkippedBy_32 ⟨Nat.le_of_ble_eq_true rfl, Nat.le_of_ble_eq_true rfl⟩) hS (fun v_7 ω_8 H locs hq_9 hR hS => ?_)
          obtain ⟨rfl, hq_9⟩ := hq_9
          rw [hq_9] at hR
          refine W.eq (g2 := F0 mI 35 ls [.int (popF (v 7 j)), .int (sumJ (fun z9 => if v 6 z9 - 1 = m then popF (v 7 z9) else 0) j)]) rfl ?_
          refine lv_goto (tgt := 39) hx hb dX0_stepsSkippedBy_35 (by decide) ?_
          refine lv_iadd hx hb dX0_stepsSkippedBy_39 ?_
          refine lv_topi (fun x_10 ex_10 => ?_)
          refine lv_istore_n (lv' := [(2, .int x_10), (3, .int (nI j)), (0, .ref a), (1, .int m)]) hx hb dX0_stepsSkippedBy_40 rfl hl (by decide) rfl (fun ls hl => ?_)
          obtain ⟨x_11, ex_11⟩ : ∃ y : Int32, y = (nI j) + 1 := ⟨_, rfl⟩
          refine lv_iinc (v := x_11) (lv' := [(3, .int x_11), (2, .int x_10), (0, .ref a), (1, .int m)]) hx hb dX0_stepsSkippedBy_41 hl (k := 1) rfl (by rw [ex_11]; rfl) (by decide) rfl (fun ls hl => ?_)
          refine lv_goto (tgt := 4) hx hb dX0_stepsSkippedBy_44 (by decide) ?_
          have el_3 : x_11 = nI (j + 1) := by rw [ex_11]; exact nI_1 j
          have el_2 : x_10 = sumJ (fun z9 => if v 6 z9 - 1 = m then popF (v 7 z9) else 0) (j + 1) := by 
            rw [ex_10]; simp only [sumJ]; repeat' split
            all_goals first | rfl | contradiction | (exfalso; simp_all; done)
          have hl := lv_sub (l' := [(3, .int x_11), (2, .int x_10), (0, .ref a), (1, .int m)]) hl [0, 1, 2, 3] rfl
          rw [el_3, el_2] at hl
          exact ih (j + 1) (by omega) (by first | assumption | omega | (simp; done)) _ _ _ hR hS hl
  exact loop_1 _ 0 (Nat.lt_succ_self _) (by first | rfl | assumption | omega | (simp; done)) _ _ _ hR hS (lv_sub hl [0, 1, 2, 3] rfl)
set_option maxHeartbeats 4000000 in
set_option maxRecDepth 100000 in
theorem c_X0_needOfSkipped (G : FG) (hL : FL G) (l : Launch) (ω : FWd) (a : Nat) (v : Nat → Nat → Int32) (hA : ArcS G ω.2 a v) (c : Nat) (hc : v 0 0 = nI c) (hc8 : c ≤ 8) (m : Int32) (hs : ∀ j, j < c → v 3 j = nI (stN v j) ∧ stN v j ≤ 8) : FMet G l yX0_needOfSkipped wsX0_needOfSkipped ({ frames := 2, cells := 0, slots := 0, locals := 46 } : Room) [.ref a, .int m] ω (rI (sumJ (fun z9 => needJ v z9 (v 7 z9) m (stN v z9)) c) ω) 0 0 := by
  refine fw_ofW (cc := cX0_needOfSkipped) (maxL := 4) (ret := (some .int)) (by decide) rfl (Nat.le_of_ble_eq_true rfl) ?_
  intro pP eE sS mI ar9 bl9 meth cD ls hx hb hr hlocks hml hts hown hnm hW hR hl
  have hK := hL.K hW
  have hS : va_S (fwA G) sS.heap sS.heap [] := va_S.rf
  have hin0 : ∀ w ∈ u_ws RX0 TX0 9, w ∈ wsX0_needOfSkipped := by decide +kernel
  have hin5 : ∀ w ∈ u_ws RX5 TX5 9, w ∈ wsX0_needOfSkipped := by decide +kernel
  have hl : lv_has ls 4 [(0, .ref a), (1, .int m)] := hl
  obtain ⟨h0, h1, h2, h3, h4, h5, hLf, hCo⟩ := id hA
  refine lv_iconst (v := 0) hx hb dX0_needOfSkipped_0 (by decide) ?_
  refine lv_istore_n (lv' := [(2, .int 0), (0, .ref a), (1, .int m)]) hx hb dX0_needOfSkipped_1 rfl hl (by decide) rfl (fun ls hl => ?_)
  refine lv_iconst (v := 0) hx hb dX0_needOfSkipped_2 (by decide) ?_
  refine lv_istore_n (lv' := [(3, .int 0), (2, .int 0), (0, .ref a), (1, .int m)]) hx hb dX0_needOfSkipped_3 rfl hl (by decide) rfl (fun ls hl => ?_)
  have loop_1 : ∀ (fu : Nat) (j : Nat), (c - j) < fu → (j ≤ c) → ∀ (H : Heap) (locs : List Loc) (ls : Array Slot), fR G ω H → va_S (fwA G) sS.heap H locs → lv_has ls 4 [(3, .int (nI j)), (2, .int (sumJ (fun z9 => needJ v z9 (v 7 z9) m (stN v z9)) j)), (0, .ref a), (1, .int m)] → W pP l eE ({ frames := 2, cells := 0, slots := 0, locals := 46 } : Room) sS mI ar9 bl9 meth cD H locs 0 0 (MQ bl9 (fQ G (rI (sumJ (fun z9 => needJ v z9 (v 7 z9) m (stN v z9)) c) ω)) ar9 sS 0 0 (fwA G)) (F0 mI 4 ls []) := by
    intro fu
    induction fu with
    | zero => intro j hfu; exact absurd hfu (Nat.not_lt_zero _)
    | succ fu ih =>
      intro j hfu hj H locs ls hR hS hl
      refine lv_iload_n hx hb dX0_needOfSkipped_4 rfl (lv_at hl 0 rfl) ?_
      refine lv_aload_n hx hb dX0_needOfSkipped_5 rfl (lv_at hl 2 rfl) ?_
      refine fw_get (v := .int (v 0 0)) (C := RX0) (T := TX0) (N := 9) hx hb hts hin0 hown hK hR h0 rfl 1 (by decide) (hts (.fieldLink RX0 32 "UnreadLeaflets$Archive" "leafletCount" "I") (by decide +kernel)) rfl dX0_needOfSkipped_6 ?_
      refine lv_icmp_ge (tgt := 40) hx hb dX0_needOfSkipped_9 (by decide) (fun c_2 => ?_) (fun c_2 => ?_)
      · skip
        have hj2 := lp_ge hc c_2 (by omega) (by omega)
        have hjn : j = c := by omega
        refine lv_iload_n hx hb dX0_needOfSkipped_40 rfl (lv_at hl 1 rfl) ?_
        refine fw_iret hx hb hr hlocks hR hS dX0_needOfSkipped_41 (rI_mk ?_)
        rw [hjn]
      · skip
        have hj2 := lp_lt hc c_2 (by omega) (by omega)
        refine lv_iload_n hx hb dX0_needOfSkipped_12 rfl (lv_at hl 1 rfl) ?_
        refine lv_aload_n hx hb dX0_needOfSkipped_13 rfl (lv_at hl 2 rfl) ?_
        refine fw_get (v := .ref (a + 1)) (C := RX0) (T := TX0) (N := 9) hx hb hts hin0 hown hK hR h0 rfl 0 (by decide) (hts (.fieldLink RX0 11 "UnreadLeaflets$Archive" "leaflets" "[LUnreadLeaflets$Leaflet;") (by decide +kernel)) rfl dX0_needOfSkipped_14 ?_
        refine lv_iload_n hx hb dX0_needOfSkipped_17 rfl (lv_at hl 0 rfl) ?_
        refine fw_aald (b := a + 6 + 5 * j) hx hb hK hR h1 rfl (vp_in_nI (by omega) (by omega)) (by rw [nI_clamp (by omega)]) dX0_needOfSkipped_18 ?_
        refine lv_aload_n hx hb dX0_needOfSkipped_19 rfl (lv_at hl 2 rfl) ?_
        refine fw_get (v := .ref (a + 1)) (C := RX0) (T := TX0) (N := 9) hx hb hts hin0 hown hK hR h0 rfl 0 (by decide) (hts (.fieldLink RX0 11 "UnreadLeaflets$Archive" "leaflets" "[LUnreadLeaflets$Leaflet;") (by decide +kernel)) rfl dX0_needOfSkipped_20 ?_
        refine lv_iload_n hx hb dX0_needOfSkipped_23 rfl (lv_at hl 0 rfl) ?_
        refine fw_aald (b := a + 6 + 5 * j) hx hb hK hR h1 rfl (vp_in_nI (by omega) (by omega)) (by rw [nI_clamp (by omega)]) dX0_needOfSkipped_24 ?_
        have f_3 : ω.2 (a + 6 + 5 * j) = some (.inr (7, [.int (v 3 j), .int (v 4 j), .int (v 5 j), .int (v 6 j - 1), .int (v 7 j), .ref (a + 6 + 5 * j + 1), .ref (a + 6 + 5 * j + 2), .ref (a + 6 + 5 * j + 3), .ref (a + 6 + 5 * j + 4)])) := (hLf j (by omega)).1
        refine fw_get (v := .int (v 7 j)) (C := RX5) (T := TX5) (N := 9) hx hb hts hin5 hown hK hR f_3 rfl 4 (by decide) (hts (.fieldLink RX0 91 "UnreadLeaflets$Leaflet" "skipped" "I") (by decide +kernel)) rfl dX0_needOfSkipped_25 ?_
        refine lv_iload_n hx hb dX0_needOfSkipped_28 rfl (lv_at hl 3 rfl) ?_
        refine fw_call (va_runV (As := [.int (v 7 j), .int m]) (rest := [.int (sumJ (fun z9 => needJ v z9 (v 7 z9) m (stN v z9)) j)]) ⟨hx, hb, hml, hown, hts⟩ (c_X5_needOf G hL l ω (a + 6 + 5 * j) j v (hLf j (by omega)) (stN v j) (hs j hj2).1 (hs j hj2).2 (v 7 j) m) (cwV 2 hts gX0_needOfSkipped_X5_needOf rfl rfl rfl (by decide +kernel) ⟨Nat.le_of_ble_eq_true rfl, Nat.le_of_ble_eq_true rfl⟩) (fw_preV hW hK hR f_3 rfl) rfl rfl hl.1 rfl (lv_room (Nat.le_of_ble_eq_true rfl)) dX0_needOfSkipped_29 ⟨Nat.le_of_ble_eq_true rfl, Nat.le_of_ble_eq_true rfl⟩) hS (fun v_4 ω_5 H locs hq_6 hR hS => ?_)
        obtain ⟨rfl, hq_6⟩ := hq_6
        rw [hq_6] at hR
        refine W.eq (g2 := F0 mI 32 ls [.int (needJ v j (v 7 j) m (stN v j)), .int (sumJ (fun z9 => needJ v z9 (v 7 z9) m (stN v z9)) j)]) rfl ?_
        refine lv_iadd hx hb dX0_needOfSkipped_32 ?_
        refine lv_topi (fun x_7 ex_7 => ?_)
        refine lv_istore_n (lv' := [(2, .int x_7), (3, .int (nI j)), (0, .ref a), (1, .int m)]) hx hb dX0_needOfSkipped_33 rfl hl (by decide) rfl (fun ls hl => ?_)
        obtain ⟨x_8, ex_8⟩ : ∃ y : Int32, y = (nI j) + 1 := ⟨_, rfl⟩
        refine lv_iinc (v := x_8) (lv' := [(3, .int x_8), (2, .int x_7), (0, .ref a), (1, .int m)]) hx hb dX0_needOfSkipped_34 hl (k := 1) rfl (by rw [ex_8]; rfl) (by decide) rfl (fun ls hl => ?_)
        refine lv_goto (tgt := 4) hx hb dX0_needOfSkipped_37 (by decide) ?_
        have el_3 : x_8 = nI (j + 1) := by rw [ex_8]; exact nI_1 j
        have el_2 : x_7 = sumJ (fun z9 => needJ v z9 (v 7 z9) m (stN v z9)) (j + 1) := by 
          rw [ex_7]; simp only [sumJ]; repeat' split
          all_goals first | rfl | contradiction | (exfalso; simp_all; done)
        have hl := lv_sub (l' := [(3, .int x_8), (2, .int x_7), (0, .ref a), (1, .int m)]) hl [0, 1, 2, 3] rfl
        rw [el_3, el_2] at hl
        exact ih (j + 1) (by omega) (by first | assumption | omega | (simp; done)) _ _ _ hR hS hl
  exact loop_1 _ 0 (Nat.lt_succ_self _) (by first | rfl | assumption | omega | (simp; done)) _ _ _ hR hS (lv_sub hl [0, 1, 2, 3] rfl)
set_option maxHeartbeats 4000000 in
set_option maxRecDepth 100000 in
theorem c_X9_allInside (G : FG) (hL : FL G) (l : Launch) (ω : FWd) (t : Nat) (f h : Nat → Int32) (hT : TinS G ω.2 t f h) : FMet G l yX9_allInside wsX9_allInside ({ frames := 0, cells := 0, slots := 0, locals := 0 } : Room) [.ref t] ω (rI (sumJ f 6) ω) 0 0 := by
  refine fw_ofW (cc := cX9_allInside) (maxL := 3) (ret := (some .int)) (by decide) rfl (Nat.le_of_ble_eq_true rfl) ?_
  intro pP eE sS mI ar9 bl9 meth cD ls hx hb hr hlocks hml hts hown hnm hW hR hl
  have hK := hL.K hW
  have hS : va_S (fwA G) sS.heap sS.heap [] := va_S.rf
  have hin9 : ∀ w ∈ u_ws RX9 TX9 2, w ∈ wsX9_allInside := by decide +kernel
  have hl : lv_has ls 3 [(0, .ref t)] := hl
  obtain ⟨g0, g1, g2⟩ := id hT
  refine lv_iconst (v := 0) hx hb dX9_allInside_0 (by decide) ?_
  refine lv_istore_n (lv' := [(1, .int 0), (0, .ref t)]) hx hb dX9_allInside_1 rfl hl (by decide) rfl (fun ls hl => ?_)
  refine lv_iconst (v := 0) hx hb dX9_allInside_2 (by decide) ?_
  refine lv_istore_n (lv' := [(2, .int 0), (1, .int 0), (0, .ref t)]) hx hb dX9_allInside_3 rfl hl (by decide) rfl (fun ls hl => ?_)
  have loop_1 : ∀ (fu : Nat) (j : Nat), (6 - j) < fu → (j ≤ 6) → ∀ (H : Heap) (locs : List Loc) (ls : Array Slot), fR G ω H → va_S (fwA G) sS.heap H locs → lv_has ls 3 [(2, .int (nI j)), (1, .int (sumJ f j)), (0, .ref t)] → W pP l eE ({ frames := 0, cells := 0, slots := 0, locals := 0 } : Room) sS mI ar9 bl9 meth cD H locs 0 0 (MQ bl9 (fQ G (rI (sumJ f 6) ω)) ar9 sS 0 0 (fwA G)) (F0 mI 4 ls []) := by
    intro fu
    induction fu with
    | zero => intro j hfu; exact absurd hfu (Nat.not_lt_zero _)
    | succ fu ih =>
      intro j hfu hj H locs ls hR hS hl
      refine lv_iload_n hx hb dX9_allInside_4 rfl (lv_at hl 0 rfl) ?_
      refine lv_bipush (v := 6) hx hb dX9_allInside_5 (by decide) ?_
      refine lv_icmp_ge (tgt := 25) hx hb dX9_allInside_7 (by decide) (fun c_2 => ?_) (fun c_2 => ?_)
      · skip
        have hj2 := lp_ge (n := 6) rfl c_2 (by omega) (by omega)
        have hjn : j = 6 := by omega
        refine lv_iload_n hx hb dX9_allInside_25 rfl (lv_at hl 1 rfl) ?_
        refine fw_iret hx hb hr hlocks hR hS dX9_allInside_26 (rI_mk ?_)
        rw [hjn]
      · skip
        have hj2 := lp_lt (n := 6) rfl c_2 (by omega) (by omega)
        refine lv_iload_n hx hb dX9_allInside_10 rfl (lv_at hl 1 rfl) ?_
        refine lv_aload_n hx hb dX9_allInside_11 rfl (lv_at hl 2 rfl) ?_
        refine fw_get (v := .ref (t + 1)) (C := RX9) (T := TX9) (N := 2) hx hb hts hin9 hown hK hR g0 rfl 0 (by decide) (hts (.fieldLink RX9 9 "UnreadLeaflets$Tin" "inside" "[I") (by decide +kernel)) rfl dX9_allInside_12 ?_
        refine lv_iload_n hx hb dX9_allInside_15 rfl (lv_at hl 0 rfl) ?_
        refine fw_iald hx hb hK hR g1 (vp_in_nI (by omega) (by omega)) dX9_allInside_16 ?_
        refine W.eq (g2 := F0 mI 17 ls [.int (f j), .int (sumJ f j)]) (by rw [nI_clamp (by omega)]) ?_
        refine lv_iadd hx hb dX9_allInside_17 ?_
        refine lv_topi (fun x_3 ex_3 => ?_)
        refine lv_istore_n (lv' := [(1, .int x_3), (2, .int (nI j)), (0, .ref t)]) hx hb dX9_allInside_18 rfl hl (by decide) rfl (fun ls hl => ?_)
        obtain ⟨x_4, ex_4⟩ : ∃ y : Int32, y = (nI j) + 1 := ⟨_, rfl⟩
        refine lv_iinc (v := x_4) (lv' := [(2, .int x_4), (1, .int x_3), (0, .ref t)]) hx hb dX9_allInside_19 hl (k := 1) rfl (by rw [ex_4]; rfl) (by decide) rfl (fun ls hl => ?_)
        refine lv_goto (tgt := 4) hx hb dX9_allInside_22 (by decide) ?_
        have el_2 : x_4 = nI (j + 1) := by rw [ex_4]; exact nI_1 j
        have el_1 : x_3 = sumJ f (j + 1) := by 
          rw [ex_3]; simp only [sumJ]; repeat' split
          all_goals first | rfl | contradiction | (exfalso; simp_all; done)
        have hl := lv_sub (l' := [(2, .int x_4), (1, .int x_3), (0, .ref t)]) hl [0, 1, 2] rfl
        rw [el_2, el_1] at hl
        exact ih (j + 1) (by omega) (by first | assumption | omega | (simp; done)) _ _ _ hR hS hl
  exact loop_1 _ 0 (Nat.lt_succ_self _) (by first | rfl | assumption | omega | (simp; done)) _ _ _ hR hS (lv_sub hl [0, 1, 2] rfl)
set_option maxHeartbeats 4000000 in
set_option maxRecDepth 100000 in
theorem c_X9_kindLacking (G : FG) (hL : FL G) (l : Launch) (ω : FWd) (t : Nat) (f h : Nat → Int32) (hT : TinS G ω.2 t f h) (a k : Nat) (v : Nat → Nat → Int32) (hf : LeafS G ω.2 a v k) (n : Nat) (hn : v 3 k = nI n) (hn8 : n ≤ 8) (set : Int32) : FMet G l yX9_kindLacking wsX9_kindLacking ({ frames := 2, cells := 0, slots := 0, locals := 46 } : Room) [.ref t, .ref a, .int set] ω (rI (lackJ f (fun i => needJ v k set (nI i) n) 0 6) ω) 0 0 := by
  refine fw_ofW (cc := cX9_kindLacking) (maxL := 4) (ret := (some .int)) (by decide) rfl (Nat.le_of_ble_eq_true rfl) ?_
  intro pP eE sS mI ar9 bl9 meth cD ls hx hb hr hlocks hml hts hown hnm hW hR hl
  have hK := hL.K hW
  have hS : va_S (fwA G) sS.heap sS.heap [] := va_S.rf
  have hin9 : ∀ w ∈ u_ws RX9 TX9 2, w ∈ wsX9_kindLacking := by decide +kernel
  have hl : lv_has ls 4 [(0, .ref t), (1, .ref a), (2, .int set)] := hl
  obtain ⟨g0, g1, g2⟩ := id hT
  obtain ⟨h0, h1, h2, h3, h4⟩ := id hf
  refine lv_iconst (v := 0) hx hb dX9_kindLacking_0 (by decide) ?_
  refine lv_istore_n (lv' := [(3, .int 0), (0, .ref t), (1, .ref a), (2, .int set)]) hx hb dX9_kindLacking_1 rfl hl (by decide) rfl (fun ls hl => ?_)
  have loop_1 : ∀ (fu : Nat) (j : Nat), (6 - j) < fu → (j ≤ 6) → (lackJ f (fun i => needJ v k set (nI i) n) 0 6 = lackJ f (fun i => needJ v k set (nI i) n) j (6 - j)) → ∀ (H : Heap) (locs : List Loc) (ls : Array Slot), fR G ω H → va_S (fwA G) sS.heap H locs → lv_has ls 4 [(3, .int (nI j)), (0, .ref t), (1, .ref a), (2, .int set)] → W pP l eE ({ frames := 2, cells := 0, slots := 0, locals := 46 } : Room) sS mI ar9 bl9 meth cD H locs 0 0 (MQ bl9 (fQ G (rI (lackJ f (fun i => needJ v k set (nI i) n) 0 6) ω)) ar9 sS 0 0 (fwA G)) (F0 mI 2 ls []) := by
    intro fu
    induction fu with
    | zero => intro j hfu; exact absurd hfu (Nat.not_lt_zero _)
    | succ fu ih =>
      intro j hfu hj hlk H locs ls hR hS hl
      refine lv_iload_n hx hb dX9_kindLacking_2 rfl (lv_at hl 0 rfl) ?_
      refine lv_bipush (v := 6) hx hb dX9_kindLacking_3 (by decide) ?_
      refine lv_icmp_ge (tgt := 31) hx hb dX9_kindLacking_5 (by decide) (fun c_2 => ?_) (fun c_2 => ?_)
      · skip
        have hj2 := lp_ge (n := 6) rfl c_2 (by omega) (by omega)
        have hjn : j = 6 := by omega
        refine lv_iconst (v := (-1)) hx hb dX9_kindLacking_31 (by decide) ?_
        refine fw_iret hx hb hr hlocks hR hS dX9_kindLacking_32 (rI_mk ?_)
        rw [hlk, hjn]; rfl
      · skip
        have hj2 := lp_lt (n := 6) rfl c_2 (by omega) (by omega)
        refine lv_aload_n hx hb dX9_kindLacking_8 rfl (lv_at hl 1 rfl) ?_
        refine fw_get (v := .ref (t + 1)) (C := RX9) (T := TX9) (N := 2) hx hb hts hin9 hown hK hR g0 rfl 0 (by decide) (hts (.fieldLink RX9 9 "UnreadLeaflets$Tin" "inside" "[I") (by decide +kernel)) rfl dX9_kindLacking_9 ?_
        refine lv_iload_n hx hb dX9_kindLacking_12 rfl (lv_at hl 0 rfl) ?_
        refine fw_iald hx hb hK hR g1 (vp_in_nI (by omega) (by omega)) dX9_kindLacking_13 ?_
        refine W.eq (g2 := F0 mI 14 ls [.int (f j)]) (by rw [nI_clamp (by omega)]) ?_
        refine lv_aload_n hx hb dX9_kindLacking_14 rfl (lv_at hl 2 rfl) ?_
        refine lv_iload_n hx hb dX9_kindLacking_15 rfl (lv_at hl 3 rfl) ?_
        refine lv_iload_n hx hb dX9_kindLacking_16 rfl (lv_at hl 0 rfl) ?_
        refine fw_call (va_runV (As := [.int set, .int (nI j)]) (rest := [.int (f j)]) ⟨hx, hb, hml, hown, hts⟩ (c_X5_needOf G hL l ω a k v hf n hn hn8 set (nI j)) (cwV 2 hts gX9_kindLacking_X5_needOf rfl rfl rfl (by decide +kernel) ⟨Nat.le_of_ble_eq_true rfl, Nat.le_of_ble_eq_true rfl⟩) (fw_preV hW hK hR h0 rfl) rfl rfl hl.1 rfl (lv_room (Nat.le_of_ble_eq_true rfl)) dX9_kindLacking_17 ⟨Nat.le_of_ble_eq_true rfl, Nat.le_of_ble_eq_true rfl⟩) hS (fun v_3 ω_4 H locs hq_5 hR hS => ?_)
        obtain ⟨rfl, hq_5⟩ := hq_5
        rw [hq_5] at hR
        refine W.eq (g2 := F0 mI 20 ls [.int (needJ v k set (nI j) n), .int (f j)]) rfl ?_
        refine lv_icmp_ge (tgt := 25) hx hb dX9_kindLacking_20 (by decide) (fun c_6 => ?_) (fun c_6 => ?_)
        · skip
          have hle := c_6
          obtain ⟨x_7, ex_7⟩ : ∃ y : Int32, y = (nI j) + 1 := ⟨_, rfl⟩
          refine lv_iinc (v := x_7) (lv' := [(3, .int x_7), (0, .ref t), (1, .ref a), (2, .int set)]) hx hb dX9_kindLacking_25 hl (k := 0) rfl (by rw [ex_7]; rfl) (by decide) rfl (fun ls hl => ?_)
          refine lv_goto (tgt := 2) hx hb dX9_kindLacking_28 (by decide) ?_
          have el_3 : x_7 = nI (j + 1) := by rw [ex_7]; exact nI_1 j
          have hl := lv_sub (l' := [(3, .int x_7), (0, .ref t), (1, .ref a), (2, .int set)]) hl [0, 1, 2, 3] rfl
          rw [el_3] at hl
          exact ih (j + 1) (by omega) (by omega) (by rw [hlk, show 6 - j = (6 - (j + 1)) + 1 by omega, lackJ, if_pos hle]) _ _ _ hR hS hl
        · skip
          have hle := c_6
          refine lv_iload_n hx hb dX9_kindLacking_23 rfl (lv_at hl 0 rfl) ?_
          refine fw_iret hx hb hr hlocks hR hS dX9_kindLacking_24 (rI_mk ?_)
          rw [hlk, show 6 - j = (6 - (j + 1)) + 1 by omega, lackJ, if_neg hle]
  exact loop_1 _ 0 (Nat.lt_succ_self _) (by first | rfl | assumption | omega | (simp; done)) (by first | rfl | assumption | omega | (simp; done)) _ _ _ hR hS (lv_sub hl [0, 1, 2, 3] rfl)
set_option maxHeartbeats 4000000 in
set_option maxRecDepth 100000 in
theorem c_X9_putIn (G : FG) (hL : FL G) (l : Launch) (ω : FWd) (t : Nat) (f h : Nat → Int32) (hT : TinS G ω.2 t f h) (a k : Nat) (v : Nat → Nat → Int32) (hf : LeafS G ω.2 a v k) (n : Nat) (hn : v 3 k = nI n) (hn8 : n ≤ 8) (set : Int32) (hd : a + 5 ≤ t ∨ t + 3 ≤ a) : FMet G l yX9_putIn wsX9_putIn ({ frames := 2, cells := 0, slots := 0, locals := 46 } : Room) [.ref t, .ref a, .int set] ω (fun vv9 τ9 => vv9 = none ∧ τ9.1 = ω.1 ∧ τ9.2 (t + 1) = some (.inl (G.2.1 0, 6, .inl (putJ f (fun i => needJ v k set (nI i) n) 6))) ∧ ∀ q : Nat, ¬ q = (t + 1) → τ9.2 q = ω.2 q) 0 0 := by
  refine fw_ofW (cc := cX9_putIn) (maxL := 4) (ret := none) (by decide) rfl (Nat.le_of_ble_eq_true rfl) ?_
  intro pP eE sS mI ar9 bl9 meth cD ls hx hb hr hlocks hml hts hown hnm hW hR hl
  have hK := hL.K hW
  have hS : va_S (fwA G) sS.heap sS.heap [] := va_S.rf
  have hin9 : ∀ w ∈ u_ws RX9 TX9 2, w ∈ wsX9_putIn := by decide +kernel
  have hl : lv_has ls 4 [(0, .ref t), (1, .ref a), (2, .int set)] := hl
  obtain ⟨g0, g1, g2⟩ := id hT
  obtain ⟨h0, h1, h2, h3, h4⟩ := id hf
  refine lv_iconst (v := 0) hx hb dX9_putIn_0 (by decide) ?_
  refine lv_istore_n (lv' := [(3, .int 0), (0, .ref t), (1, .ref a), (2, .int set)]) hx hb dX9_putIn_1 rfl hl (by decide) rfl (fun ls hl => ?_)
  have loop_1 : ∀ (fu : Nat) (j : Nat) (τ1 : FWd), (6 - j) < fu → (j ≤ 6) → τ1.1 = ω.1 → τ1.2 (t + 1) = some (.inl (G.2.1 0, 6, .inl (putJ f (fun i => needJ v k set (nI i) n) j))) → (∀ q : Nat, ¬ q = (t + 1) → τ1.2 q = ω.2 q) → ∀ (H : Heap) (locs : List Loc) (ls : Array Slot), fR G τ1 H → va_S (fwA G) sS.heap H locs → lv_has ls 4 [(3, .int (nI j)), (0, .ref t), (1, .ref a), (2, .int set)] → W pP l eE ({ frames := 2, cells := 0, slots := 0, locals := 46 } : Room) sS mI ar9 bl9 meth cD H locs 0 0 (MQ bl9 (fQ G (fun vv9 τ9 => vv9 = none ∧ τ9.1 = ω.1 ∧ τ9.2 (t + 1) = some (.inl (G.2.1 0, 6, .inl (putJ f (fun i => needJ v k set (nI i) n) 6))) ∧ ∀ q : Nat, ¬ q = (t + 1) → τ9.2 q = ω.2 q)) ar9 sS 0 0 (fwA G)) (F0 mI 2 ls []) := by
    intro fu
    induction fu with
    | zero => intro j τ1 hfu; exact absurd hfu (Nat.not_lt_zero _)
    | succ fu ih =>
      intro j τ1 hfu hj hzτ1 hw1 hfrτ1 H locs ls hR hS hl
      refine lv_iload_n hx hb dX9_putIn_2 rfl (lv_at hl 0 rfl) ?_
      refine lv_bipush (v := 6) hx hb dX9_putIn_3 (by decide) ?_
      refine lv_icmp_ge (tgt := 29) hx hb dX9_putIn_5 (by decide) (fun c_2 => ?_) (fun c_2 => ?_)
      · skip
        have hj2 := lp_ge (n := 6) rfl c_2 (by omega) (by omega)
        have hjn : j = 6 := by omega
        have fr_3 : ∀ q : Nat, ¬ q = (t + 1) → τ1.2 q = ω.2 q := by
          intro q h0
          rw [hfrτ1 q (by omega)]
        have z_4 : τ1.1 = ω.1 := by rw [hzτ1]
        refine fw_vret hx hb hr hlocks hR hS dX9_putIn_29 ⟨rfl, z_4, ?_, fr_3⟩
        · refine hw1.trans (congrArg some ?_)
          rw [hjn]
      · skip
        have hj2 := lp_lt (n := 6) rfl c_2 (by omega) (by omega)
        refine lv_aload_n hx hb dX9_putIn_8 rfl (lv_at hl 1 rfl) ?_
        have f_5 : τ1.2 t = some (.inr (11, [.ref (t + 1), .ref (t + 2)])) := (hfrτ1 t (by omega)).trans g0
        refine fw_get (v := .ref (t + 1)) (C := RX9) (T := TX9) (N := 2) hx hb hts hin9 hown hK hR f_5 rfl 0 (by decide) (hts (.fieldLink RX9 9 "UnreadLeaflets$Tin" "inside" "[I") (by decide +kernel)) rfl dX9_putIn_9 ?_
        refine lv_iload_n hx hb dX9_putIn_12 rfl (lv_at hl 0 rfl) ?_
        refine lv_dup2_11 hx hb dX9_putIn_13 rfl rfl ?_
        refine fw_iald hx hb hK hR hw1 (vp_in_nI (by omega) (by omega)) dX9_putIn_14 ?_
        refine W.eq (g2 := F0 mI 15 ls [.int ((putJ f (fun i => needJ v k set (nI i) n) j) j), .int (nI j), .ref (t + 1)]) (by rw [nI_clamp (by omega)]) ?_
        refine lv_aload_n hx hb dX9_putIn_15 rfl (lv_at hl 2 rfl) ?_
        refine lv_iload_n hx hb dX9_putIn_16 rfl (lv_at hl 3 rfl) ?_
        refine lv_iload_n hx hb dX9_putIn_17 rfl (lv_at hl 0 rfl) ?_
        have f_6 : τ1.2 a = some (.inr (7, [.int (v 3 k), .int (v 4 k), .int (v 5 k), .int (v 6 k - 1), .int (v 7 k), .ref (a + 1), .ref (a + 2), .ref (a + 3), .ref (a + 4)])) := (hfrτ1 a (by omega)).trans h0
        have f_7 : τ1.2 (a + 1) = some (.inl (G.2.1 0, 8, .inl (v (10 + k)))) := (hfrτ1 (a + 1) (by omega)).trans h1
        have f_8 : τ1.2 (a + 2) = some (.inl (G.2.1 0, 8, .inl (v (20 + k)))) := (hfrτ1 (a + 2) (by omega)).trans h2
        have f_9 : τ1.2 (a + 3) = some (.inl (G.2.1 0, 8, .inl (v (30 + k)))) := (hfrτ1 (a + 3) (by omega)).trans h3
        have f_10 : τ1.2 (a + 4) = some (.inl (G.2.1 0, 8, .inl (fun i9 => v (40 + k) i9 + 1))) := (hfrτ1 (a + 4) (by omega)).trans h4
        refine fw_call (va_runV (As := [.int set, .int (nI j)]) (rest := [.int ((putJ f (fun i => needJ v k set (nI i) n) j) j), .int (nI j), .ref (t + 1)]) ⟨hx, hb, hml, hown, hts⟩ (c_X5_needOf G hL l τ1 a k v (⟨f_6, f_7, f_8, f_9, f_10⟩) n hn hn8 set (nI j)) (cwV 2 hts gX9_putIn_X5_needOf rfl rfl rfl (by decide +kernel) ⟨Nat.le_of_ble_eq_true rfl, Nat.le_of_ble_eq_true rfl⟩) (fw_preV hW hK hR f_6 rfl) rfl rfl hl.1 rfl (lv_room (Nat.le_of_ble_eq_true rfl)) dX9_putIn_18 ⟨Nat.le_of_ble_eq_true rfl, Nat.le_of_ble_eq_true rfl⟩) hS (fun v_11 ω_12 H locs hq_13 hR hS => ?_)
        obtain ⟨rfl, hq_13⟩ := hq_13
        rw [hq_13] at hR
        refine W.eq (g2 := F0 mI 21 ls [.int (needJ v k set (nI j) n), .int ((putJ f (fun i => needJ v k set (nI i) n) j) j), .int (nI j), .ref (t + 1)]) rfl ?_
        refine lv_iadd hx hb dX9_putIn_21 ?_
        refine fw_iast hx hb hK hR hS hw1 (vp_in_nI (by omega) (by omega)) dX9_putIn_22 (fun H locs hR hS => ?_)
        rw [show (nI j).toNatClampNeg = j from nI_clamp (by omega)] at hR
        obtain ⟨ω_14, hw_15⟩ : ∃ τ : FWd, τ = (τ1.1, va_up τ1.2 (t + 1) (some (.inl (G.2.1 0, 6, .inl (upd (putJ f (fun i => needJ v k set (nI i) n) j) j (((putJ f (fun i => needJ v k set (nI i) n) j) j) + (needJ v k set (nI j) n))))))) := ⟨_, rfl⟩
        have hR : fR G ω_14 H := by rw [hw_15]; exact hR
        have f_16 : ω_14.2 (t + 1) = some (.inl (G.2.1 0, 6, .inl (upd (putJ f (fun i => needJ v k set (nI i) n) j) j (((putJ f (fun i => needJ v k set (nI i) n) j) j) + (needJ v k set (nI j) n))))) := by rw [hw_15]; exact va_up_at
        have fr_17 : ∀ q : Nat, ¬ q = (t + 1) → ω_14.2 q = τ1.2 q := fun q hq => by rw [hw_15]; exact va_up_off hq
        have z_18 : ω_14.1 = τ1.1 := by rw [hw_15]
        obtain ⟨x_19, ex_19⟩ : ∃ y : Int32, y = (nI j) + 1 := ⟨_, rfl⟩
        refine lv_iinc (v := x_19) (lv' := [(3, .int x_19), (0, .ref t), (1, .ref a), (2, .int set)]) hx hb dX9_putIn_23 hl (k := 0) rfl (by rw [ex_19]; rfl) (by decide) rfl (fun ls hl => ?_)
        refine lv_goto (tgt := 2) hx hb dX9_putIn_26 (by decide) ?_
        have el_3 : x_19 = nI (j + 1) := by rw [ex_19]; exact nI_1 j
        have hl := lv_sub (l' := [(3, .int x_19), (0, .ref t), (1, .ref a), (2, .int set)]) hl [0, 1, 2, 3] rfl
        rw [el_3] at hl
        have fr_20 : ∀ q : Nat, ¬ q = (t + 1) → ω_14.2 q = ω.2 q := by
          intro q h0
          rw [fr_17 q (by omega)]
          rw [hfrτ1 q (by omega)]
        have z_21 : ω_14.1 = ω.1 := by rw [z_18, hzτ1]
        exact ih (j + 1) ω_14 (by omega) (by first | assumption | omega | (simp; done)) z_21 (f_16.trans (congrArg some (by rfl))) fr_20 _ _ _ hR hS hl
  exact loop_1 _ 0 ω (Nat.lt_succ_self _) (by first | rfl | assumption | omega | (simp; done)) rfl g1 (fun _ _ => rfl) _ _ _ hR hS (lv_sub hl [0, 1, 2, 3] rfl)
set_option maxHeartbeats 4000000 in
set_option maxRecDepth 100000 in
theorem c_X9_takeOut (G : FG) (hL : FL G) (l : Launch) (ω : FWd) (t : Nat) (f h : Nat → Int32) (hT : TinS G ω.2 t f h) (a k : Nat) (v : Nat → Nat → Int32) (hf : LeafS G ω.2 a v k) (n : Nat) (hn : v 3 k = nI n) (hn8 : n ≤ 8) (set : Int32) (hd : a + 5 ≤ t ∨ t + 3 ≤ a) : FMet G l yX9_takeOut wsX9_takeOut ({ frames := 2, cells := 0, slots := 0, locals := 46 } : Room) [.ref t, .ref a, .int set] ω (fun vv9 τ9 => vv9 = none ∧ τ9.1 = ω.1 ∧ τ9.2 (t + 1) = some (.inl (G.2.1 0, 6, .inl (takeJ f (fun i => needJ v k set (nI i) n) 6))) ∧ ∀ q : Nat, ¬ q = (t + 1) → τ9.2 q = ω.2 q) 0 0 := by
  refine fw_ofW (cc := cX9_takeOut) (maxL := 4) (ret := none) (by decide) rfl (Nat.le_of_ble_eq_true rfl) ?_
  intro pP eE sS mI ar9 bl9 meth cD ls hx hb hr hlocks hml hts hown hnm hW hR hl
  have hK := hL.K hW
  have hS : va_S (fwA G) sS.heap sS.heap [] := va_S.rf
  have hin9 : ∀ w ∈ u_ws RX9 TX9 2, w ∈ wsX9_takeOut := by decide +kernel
  have hl : lv_has ls 4 [(0, .ref t), (1, .ref a), (2, .int set)] := hl
  obtain ⟨g0, g1, g2⟩ := id hT
  obtain ⟨h0, h1, h2, h3, h4⟩ := id hf
  refine lv_iconst (v := 0) hx hb dX9_takeOut_0 (by decide) ?_
  refine lv_istore_n (lv' := [(3, .int 0), (0, .ref t), (1, .ref a), (2, .int set)]) hx hb dX9_takeOut_1 rfl hl (by decide) rfl (fun ls hl => ?_)
  have loop_1 : ∀ (fu : Nat) (j : Nat) (τ1 : FWd), (6 - j) < fu → (j ≤ 6) → τ1.1 = ω.1 → τ1.2 (t + 1) = some (.inl (G.2.1 0, 6, .inl (takeJ f (fun i => needJ v k set (nI i) n) j))) → (∀ q : Nat, ¬ q = (t + 1) → τ1.2 q = ω.2 q) → ∀ (H : Heap) (locs : List Loc) (ls : Array Slot), fR G τ1 H → va_S (fwA G) sS.heap H locs → lv_has ls 4 [(3, .int (nI j)), (0, .ref t), (1, .ref a), (2, .int set)] → W pP l eE ({ frames := 2, cells := 0, slots := 0, locals := 46 } : Room) sS mI ar9 bl9 meth cD H locs 0 0 (MQ bl9 (fQ G (fun vv9 τ9 => vv9 = none ∧ τ9.1 = ω.1 ∧ τ9.2 (t + 1) = some (.inl (G.2.1 0, 6, .inl (takeJ f (fun i => needJ v k set (nI i) n) 6))) ∧ ∀ q : Nat, ¬ q = (t + 1) → τ9.2 q = ω.2 q)) ar9 sS 0 0 (fwA G)) (F0 mI 2 ls []) := by
    intro fu
    induction fu with
    | zero => intro j τ1 hfu; exact absurd hfu (Nat.not_lt_zero _)
    | succ fu ih =>
      intro j τ1 hfu hj hzτ1 hw1 hfrτ1 H locs ls hR hS hl
      refine lv_iload_n hx hb dX9_takeOut_2 rfl (lv_at hl 0 rfl) ?_
      refine lv_bipush (v := 6) hx hb dX9_takeOut_3 (by decide) ?_
      refine lv_icmp_ge (tgt := 29) hx hb dX9_takeOut_5 (by decide) (fun c_2 => ?_) (fun c_2 => ?_)
      · skip
        have hj2 := lp_ge (n := 6) rfl c_2 (by omega) (by omega)
        have hjn : j = 6 := by omega
        have fr_3 : ∀ q : Nat, ¬ q = (t + 1) → τ1.2 q = ω.2 q := by
          intro q h0
          rw [hfrτ1 q (by omega)]
        have z_4 : τ1.1 = ω.1 := by rw [hzτ1]
        refine fw_vret hx hb hr hlocks hR hS dX9_takeOut_29 ⟨rfl, z_4, ?_, fr_3⟩
        · refine hw1.trans (congrArg some ?_)
          rw [hjn]
      · skip
        have hj2 := lp_lt (n := 6) rfl c_2 (by omega) (by omega)
        refine lv_aload_n hx hb dX9_takeOut_8 rfl (lv_at hl 1 rfl) ?_
        have f_5 : τ1.2 t = some (.inr (11, [.ref (t + 1), .ref (t + 2)])) := (hfrτ1 t (by omega)).trans g0
        refine fw_get (v := .ref (t + 1)) (C := RX9) (T := TX9) (N := 2) hx hb hts hin9 hown hK hR f_5 rfl 0 (by decide) (hts (.fieldLink RX9 9 "UnreadLeaflets$Tin" "inside" "[I") (by decide +kernel)) rfl dX9_takeOut_9 ?_
        refine lv_iload_n hx hb dX9_takeOut_12 rfl (lv_at hl 0 rfl) ?_
        refine lv_dup2_11 hx hb dX9_takeOut_13 rfl rfl ?_
        refine fw_iald hx hb hK hR hw1 (vp_in_nI (by omega) (by omega)) dX9_takeOut_14 ?_
        refine W.eq (g2 := F0 mI 15 ls [.int ((takeJ f (fun i => needJ v k set (nI i) n) j) j), .int (nI j), .ref (t + 1)]) (by rw [nI_clamp (by omega)]) ?_
        refine lv_aload_n hx hb dX9_takeOut_15 rfl (lv_at hl 2 rfl) ?_
        refine lv_iload_n hx hb dX9_takeOut_16 rfl (lv_at hl 3 rfl) ?_
        refine lv_iload_n hx hb dX9_takeOut_17 rfl (lv_at hl 0 rfl) ?_
        have f_6 : τ1.2 a = some (.inr (7, [.int (v 3 k), .int (v 4 k), .int (v 5 k), .int (v 6 k - 1), .int (v 7 k), .ref (a + 1), .ref (a + 2), .ref (a + 3), .ref (a + 4)])) := (hfrτ1 a (by omega)).trans h0
        have f_7 : τ1.2 (a + 1) = some (.inl (G.2.1 0, 8, .inl (v (10 + k)))) := (hfrτ1 (a + 1) (by omega)).trans h1
        have f_8 : τ1.2 (a + 2) = some (.inl (G.2.1 0, 8, .inl (v (20 + k)))) := (hfrτ1 (a + 2) (by omega)).trans h2
        have f_9 : τ1.2 (a + 3) = some (.inl (G.2.1 0, 8, .inl (v (30 + k)))) := (hfrτ1 (a + 3) (by omega)).trans h3
        have f_10 : τ1.2 (a + 4) = some (.inl (G.2.1 0, 8, .inl (fun i9 => v (40 + k) i9 + 1))) := (hfrτ1 (a + 4) (by omega)).trans h4
        refine fw_call (va_runV (As := [.int set, .int (nI j)]) (rest := [.int ((takeJ f (fun i => needJ v k set (nI i) n) j) j), .int (nI j), .ref (t + 1)]) ⟨hx, hb, hml, hown, hts⟩ (c_X5_needOf G hL l τ1 a k v (⟨f_6, f_7, f_8, f_9, f_10⟩) n hn hn8 set (nI j)) (cwV 2 hts gX9_takeOut_X5_needOf rfl rfl rfl (by decide +kernel) ⟨Nat.le_of_ble_eq_true rfl, Nat.le_of_ble_eq_true rfl⟩) (fw_preV hW hK hR f_6 rfl) rfl rfl hl.1 rfl (lv_room (Nat.le_of_ble_eq_true rfl)) dX9_takeOut_18 ⟨Nat.le_of_ble_eq_true rfl, Nat.le_of_ble_eq_true rfl⟩) hS (fun v_11 ω_12 H locs hq_13 hR hS => ?_)
        obtain ⟨rfl, hq_13⟩ := hq_13
        rw [hq_13] at hR
        refine W.eq (g2 := F0 mI 21 ls [.int (needJ v k set (nI j) n), .int ((takeJ f (fun i => needJ v k set (nI i) n) j) j), .int (nI j), .ref (t + 1)]) rfl ?_
        refine lv_isub hx hb dX9_takeOut_21 ?_
        refine fw_iast hx hb hK hR hS hw1 (vp_in_nI (by omega) (by omega)) dX9_takeOut_22 (fun H locs hR hS => ?_)
        rw [show (nI j).toNatClampNeg = j from nI_clamp (by omega)] at hR
        obtain ⟨ω_14, hw_15⟩ : ∃ τ : FWd, τ = (τ1.1, va_up τ1.2 (t + 1) (some (.inl (G.2.1 0, 6, .inl (upd (takeJ f (fun i => needJ v k set (nI i) n) j) j (((takeJ f (fun i => needJ v k set (nI i) n) j) j) - (needJ v k set (nI j) n))))))) := ⟨_, rfl⟩
        have hR : fR G ω_14 H := by rw [hw_15]; exact hR
        have f_16 : ω_14.2 (t + 1) = some (.inl (G.2.1 0, 6, .inl (upd (takeJ f (fun i => needJ v k set (nI i) n) j) j (((takeJ f (fun i => needJ v k set (nI i) n) j) j) - (needJ v k set (nI j) n))))) := by rw [hw_15]; exact va_up_at
        have fr_17 : ∀ q : Nat, ¬ q = (t + 1) → ω_14.2 q = τ1.2 q := fun q hq => by rw [hw_15]; exact va_up_off hq
        have z_18 : ω_14.1 = τ1.1 := by rw [hw_15]
        obtain ⟨x_19, ex_19⟩ : ∃ y : Int32, y = (nI j) + 1 := ⟨_, rfl⟩
        refine lv_iinc (v := x_19) (lv' := [(3, .int x_19), (0, .ref t), (1, .ref a), (2, .int set)]) hx hb dX9_takeOut_23 hl (k := 0) rfl (by rw [ex_19]; rfl) (by decide) rfl (fun ls hl => ?_)
        refine lv_goto (tgt := 2) hx hb dX9_takeOut_26 (by decide) ?_
        have el_3 : x_19 = nI (j + 1) := by rw [ex_19]; exact nI_1 j
        have hl := lv_sub (l' := [(3, .int x_19), (0, .ref t), (1, .ref a), (2, .int set)]) hl [0, 1, 2, 3] rfl
        rw [el_3] at hl
        have fr_20 : ∀ q : Nat, ¬ q = (t + 1) → ω_14.2 q = ω.2 q := by
          intro q h0
          rw [fr_17 q (by omega)]
          rw [hfrτ1 q (by omega)]
        have z_21 : ω_14.1 = ω.1 := by rw [z_18, hzτ1]
        exact ih (j + 1) ω_14 (by omega) (by first | assumption | omega | (simp; done)) z_21 (f_16.trans (congrArg some (by rfl))) fr_20 _ _ _ hR hS hl
  exact loop_1 _ 0 ω (Nat.lt_succ_self _) (by first | rfl | assumption | omega | (simp; done)) rfl g1 (fun _ _ => rfl) _ _ _ hR hS (lv_sub hl [0, 1, 2, 3] rfl)
