/-! ===== printed by program (wip/whole/gen): the class's own methods ===== -/
def XA (x y a hs0 sn tx ln tt : Nat) : Prop := y = x + 1 ∧ a = x + 2 ∧ hs0 = x + 54 ∧ sn = x + 515 ∧ tx = x + 566 ∧ ln = x + 609 ∧ tt = x + 611
/-- which exception, by its number -/
def XC1 (e1 : String) (k : Int32) (E : String) : Prop := k = 1 ∧ E = e1
def XC2 (e1 e2 : String) (k : Int32) (E : String) : Prop := (k = 1 ∧ E = e1) ∨ (k = 2 ∧ E = e2)
def XC3 (e1 e2 e3 : String) (k : Int32) (E : String) : Prop := (k = 1 ∧ E = e1) ∨ (k = 2 ∧ E = e2) ∨ (k = 3 ∧ E = e3)
set_option maxHeartbeats 4000000 in
set_option maxRecDepth 100000 in
theorem c_X10_leafletAt (G : FG) (hL : FL G) (l : Launch) (hX0 : FX0 G l) (ω : FWd) (x y a hs0 sn tx ln tt : Nat) (v : Nat → Nat → Int32) (hsn : Int32) (hXA : XA x y a hs0 sn tx ln tt) (hx0 : ω.2 x = some (.inr (12, [.ref y, .ref a, .ref (a + 51), .ref hs0, .ref sn, .int hsn, .ref tx, .ref ln, .ref tt]))) (hA : ArcS G ω.2 a v) (hW0 : WF v) (lf : Int32) : FMetX G l yX10_leafletAt wsX10_leafletAt ({ frames := 6, cells := 1, slots := 6, locals := 100 } : Room) [.ref x, .int lf] ω (fun vv9 τ9 => inB lf 0 (v 0 0 - 1) ∧ vv9 = some (.ref (a + 6 + 5 * cN lf)) ∧ τ9 = ω) (fun E9 τ9 => E9 = "java/lang/IndexOutOfBoundsException" ∧ ¬ inB lf 0 (v 0 0 - 1) ∧ τ9.2 = ω.2) 1 6 := by
  refine fx_ofW (cc := cX10_leafletAt) (maxL := 2) (ret := (some (.object "UnreadLeaflets$Leaflet"))) (by decide) rfl (Nat.le_of_ble_eq_true rfl) ?_
  intro pP eE sS mI ar9 bl9 meth cD ls hx hb hr hlocks hml hts hown hnm hW hR ht9 hl
  have hK := hL.K hW
  have hR0 := hR
  have hS : va_S (fwA G) sS.heap sS.heap [] := va_S.rf
  have hin0 : ∀ w ∈ u_ws RX0 TX0 9, w ∈ wsX10_leafletAt := by decide +kernel
  have hin10 : ∀ w ∈ u_ws RX10 TX10 9, w ∈ wsX10_leafletAt := by decide +kernel
  have hl : lv_has ls 2 [(0, .ref x), (1, .int lf)] := hl
  obtain ⟨h0, h1, h2, h3, h4, h5, hLf, hCo⟩ := id hA
  obtain ⟨hxy, hxa, hxh, hxs, hxt, hxl, hxu⟩ := id hXA
  obtain ⟨c, hc8, hc, hcc⟩ := okN_of hW0.1
  obtain ⟨cc, hd5, hd, hdd⟩ := okN_of hW0.2.1
  have hs : ∀ j, j < c → v 3 j = nI (stN v j) ∧ stN v j ≤ 8 := fun j hj => (hW0.2.2 j (by rw [hcc]; exact hj)).1
  have hfo : ∀ j, j < c → v 4 j = nI (cN (v 4 j)) ∧ cN (v 4 j) ≤ 3 := fun j hj => (hW0.2.2 j (by rw [hcc]; exact hj)).2
  refine lv_aload_n hx hb dX10_leafletAt_0 rfl (lv_at hl 0 rfl) ?_
  refine fw_get (v := .ref a) (C := RX10) (T := TX10) (N := 9) hx hb hts hin10 hown hK hR hx0 rfl 1 (by decide) (hts (.fieldLink RX10 20 "UnreadLeaflets" "archive" "LUnreadLeaflets$Archive;") (by decide +kernel)) rfl dX10_leafletAt_1 ?_
  refine lv_iload_n hx hb dX10_leafletAt_4 rfl (lv_at hl 1 rfl) ?_
  refine fw_call (va_runV (As := [.int lf]) (rest := []) ⟨hx, hb, hml, hown, hts⟩ (c_X0_hasLeaflet G hL l ω a v hA  lf ) (cwV 1 hts gX10_leafletAt_X0_hasLeaflet rfl rfl rfl (by decide +kernel) ⟨Nat.le_of_ble_eq_true rfl, Nat.le_of_ble_eq_true rfl⟩) (fw_preV hW hK hR h0 rfl) rfl rfl hl.1 rfl (lv_room (Nat.le_of_ble_eq_true rfl)) dX10_leafletAt_5 ⟨Nat.le_of_ble_eq_true rfl, Nat.le_of_ble_eq_true rfl⟩) hS (fun v_1 ω_2 H locs hq_3 hR hS => ?_)
  obtain ⟨rfl, hq_3⟩ := hq_3
  rw [hq_3] at hR
  refine W.eq (g2 := F0 mI 8 ls [.int (bz (inB lf 0 (v 0 0 - 1)))]) rfl ?_
  refine lv_if_ne (tgt := 21) hx hb dX10_leafletAt_8 (by decide) (fun c_4 => ?_) (fun c_4 => ?_)
  · skip
    have c_4 := bz_ne c_4
    obtain ⟨j, hj2, hje⟩ := in_c hc hc8 c_4
    have hcj : cN lf = j := by rw [hje]; exact cN_nI (by omega)
    refine lv_aload_n hx hb dX10_leafletAt_21 rfl (lv_at hl 0 rfl) ?_
    refine fw_get (v := .ref a) (C := RX10) (T := TX10) (N := 9) hx hb hts hin10 hown hK hR hx0 rfl 1 (by decide) (hts (.fieldLink RX10 20 "UnreadLeaflets" "archive" "LUnreadLeaflets$Archive;") (by decide +kernel)) rfl dX10_leafletAt_22 ?_
    refine fw_get (v := .ref (a + 1)) (C := RX0) (T := TX0) (N := 9) hx hb hts hin0 hown hK hR h0 rfl 0 (by decide) (hts (.fieldLink RX10 208 "UnreadLeaflets$Archive" "leaflets" "[LUnreadLeaflets$Leaflet;") (by decide +kernel)) rfl dX10_leafletAt_25 ?_
    refine lv_iload_n hx hb dX10_leafletAt_28 rfl (lv_at hl 1 rfl) ?_
    refine W.eq (g2 := F0 mI 29 ls [.int (nI j), .ref (a + 1)]) (by rw [hje]) ?_
    refine fw_aald (b := a + 6 + 5 * j) hx hb hK hR h1 rfl (vp_in_nI (by omega) (by omega)) (by rw [nI_clamp (by omega)]) dX10_leafletAt_29 ?_
    refine W.widen (k := 1) (n := 6) (by first | omega | decide) (by first | omega | decide) ?_
    refine vx_ret ?_
    refine fw_aret hx hb hr (Or.inl ⟨_, rfl⟩) hlocks hR hS dX10_leafletAt_30 ?_
    exact ⟨c_4, by rw [hcj], rfl⟩
  · skip
    have c_4 := bz_eq c_4
    exact fx_throw (ω := ω) (τ := ω) (cls := "java/lang/IndexOutOfBoundsException") (text := "no such leaflet") (ws := wsX10_leafletAt) hx hb hX0 hW hts hown (by decide) (by decide) (by decide +kernel) (by decide +kernel) (by decide) (fun w9 h9 => List.mem_cons_of_mem _ (List.mem_append_right _ h9)) xn_207 xg_207 hR0 hR hS (hl.1.trans hml.symm) dX10_leafletAt_11 dX10_leafletAt_14 dX10_leafletAt_15 dX10_leafletAt_17 dX10_leafletAt_20 ht9 (by decide) (Nat.le_of_ble_eq_true rfl) (Nat.le_of_ble_eq_true rfl) (Nat.le_of_ble_eq_true rfl) hlocks (fun n9 => ⟨rfl, c_4, rfl⟩) (Nat.le_of_ble_eq_true rfl) (Nat.le_of_ble_eq_true rfl)
set_option maxHeartbeats 4000000 in
set_option maxRecDepth 100000 in
theorem c_X10_cousinAt (G : FG) (hL : FL G) (l : Launch) (hX0 : FX0 G l) (ω : FWd) (x y a hs0 sn tx ln tt : Nat) (v : Nat → Nat → Int32) (hsn : Int32) (hXA : XA x y a hs0 sn tx ln tt) (hx0 : ω.2 x = some (.inr (12, [.ref y, .ref a, .ref (a + 51), .ref hs0, .ref sn, .int hsn, .ref tx, .ref ln, .ref tt]))) (hA : ArcS G ω.2 a v) (hW0 : WF v) (co : Int32) : FMetX G l yX10_cousinAt wsX10_cousinAt ({ frames := 6, cells := 1, slots := 6, locals := 100 } : Room) [.ref x, .int co] ω (fun vv9 τ9 => inB co 0 (v 0 1 - 1) ∧ vv9 = some (.ref (a + 46 + cN co)) ∧ τ9 = ω) (fun E9 τ9 => E9 = "java/lang/IndexOutOfBoundsException" ∧ ¬ inB co 0 (v 0 1 - 1) ∧ τ9.2 = ω.2) 1 6 := by
  refine fx_ofW (cc := cX10_cousinAt) (maxL := 2) (ret := (some (.object "UnreadLeaflets$Cousin"))) (by decide) rfl (Nat.le_of_ble_eq_true rfl) ?_
  intro pP eE sS mI ar9 bl9 meth cD ls hx hb hr hlocks hml hts hown hnm hW hR ht9 hl
  have hK := hL.K hW
  have hR0 := hR
  have hS : va_S (fwA G) sS.heap sS.heap [] := va_S.rf
  have hin0 : ∀ w ∈ u_ws RX0 TX0 9, w ∈ wsX10_cousinAt := by decide +kernel
  have hin10 : ∀ w ∈ u_ws RX10 TX10 9, w ∈ wsX10_cousinAt := by decide +kernel
  have hl : lv_has ls 2 [(0, .ref x), (1, .int co)] := hl
  obtain ⟨h0, h1, h2, h3, h4, h5, hLf, hCo⟩ := id hA
  obtain ⟨hxy, hxa, hxh, hxs, hxt, hxl, hxu⟩ := id hXA
  obtain ⟨c, hc8, hc, hcc⟩ := okN_of hW0.1
  obtain ⟨cc, hd5, hd, hdd⟩ := okN_of hW0.2.1
  have hs : ∀ j, j < c → v 3 j = nI (stN v j) ∧ stN v j ≤ 8 := fun j hj => (hW0.2.2 j (by rw [hcc]; exact hj)).1
  have hfo : ∀ j, j < c → v 4 j = nI (cN (v 4 j)) ∧ cN (v 4 j) ≤ 3 := fun j hj => (hW0.2.2 j (by rw [hcc]; exact hj)).2
  refine lv_aload_n hx hb dX10_cousinAt_0 rfl (lv_at hl 0 rfl) ?_
  refine fw_get (v := .ref a) (C := RX10) (T := TX10) (N := 9) hx hb hts hin10 hown hK hR hx0 rfl 1 (by decide) (hts (.fieldLink RX10 20 "UnreadLeaflets" "archive" "LUnreadLeaflets$Archive;") (by decide +kernel)) rfl dX10_cousinAt_1 ?_
  refine lv_iload_n hx hb dX10_cousinAt_4 rfl (lv_at hl 1 rfl) ?_
  refine fw_call (va_runV (As := [.int co]) (rest := []) ⟨hx, hb, hml, hown, hts⟩ (c_X0_hasCousin G hL l ω a v hA  co ) (cwV 1 hts gX10_cousinAt_X0_hasCousin rfl rfl rfl (by decide +kernel) ⟨Nat.le_of_ble_eq_true rfl, Nat.le_of_ble_eq_true rfl⟩) (fw_preV hW hK hR h0 rfl) rfl rfl hl.1 rfl (lv_room (Nat.le_of_ble_eq_true rfl)) dX10_cousinAt_5 ⟨Nat.le_of_ble_eq_true rfl, Nat.le_of_ble_eq_true rfl⟩) hS (fun v_1 ω_2 H locs hq_3 hR hS => ?_)
  obtain ⟨rfl, hq_3⟩ := hq_3
  rw [hq_3] at hR
  refine W.eq (g2 := F0 mI 8 ls [.int (bz (inB co 0 (v 0 1 - 1)))]) rfl ?_
  refine lv_if_ne (tgt := 21) hx hb dX10_cousinAt_8 (by decide) (fun c_4 => ?_) (fun c_4 => ?_)
  · skip
    have c_4 := bz_ne c_4
    obtain ⟨i, hi2, hie⟩ := in_c hd (by omega) c_4
    have hci : cN co = i := by rw [hie]; exact cN_nI (by omega)
    refine lv_aload_n hx hb dX10_cousinAt_21 rfl (lv_at hl 0 rfl) ?_
    refine fw_get (v := .ref a) (C := RX10) (T := TX10) (N := 9) hx hb hts hin10 hown hK hR hx0 rfl 1 (by decide) (hts (.fieldLink RX10 20 "UnreadLeaflets" "archive" "LUnreadLeaflets$Archive;") (by decide +kernel)) rfl dX10_cousinAt_22 ?_
    refine fw_get (v := .ref (a + 2)) (C := RX0) (T := TX0) (N := 9) hx hb hts hin0 hown hK hR h0 rfl 2 (by decide) (hts (.fieldLink RX10 217 "UnreadLeaflets$Archive" "cousins" "[LUnreadLeaflets$Cousin;") (by decide +kernel)) rfl dX10_cousinAt_25 ?_
    refine lv_iload_n hx hb dX10_cousinAt_28 rfl (lv_at hl 1 rfl) ?_
    refine W.eq (g2 := F0 mI 29 ls [.int (nI i), .ref (a + 2)]) (by rw [hie]) ?_
    refine fw_aald (b := a + 46 + i) hx hb hK hR h2 rfl (vp_in_nI (by omega) (by omega)) (by rw [nI_clamp (by omega)]) dX10_cousinAt_29 ?_
    refine W.widen (k := 1) (n := 6) (by first | omega | decide) (by first | omega | decide) ?_
    refine vx_ret ?_
    refine fw_aret hx hb hr (Or.inl ⟨_, rfl⟩) hlocks hR hS dX10_cousinAt_30 ?_
    exact ⟨c_4, by rw [hci], rfl⟩
  · skip
    have c_4 := bz_eq c_4
    exact fx_throw (ω := ω) (τ := ω) (cls := "java/lang/IndexOutOfBoundsException") (text := "no such cousin") (ws := wsX10_cousinAt) hx hb hX0 hW hts hown (by decide) (by decide) (by decide +kernel) (by decide +kernel) (by decide) (fun w9 h9 => List.mem_cons_of_mem _ (List.mem_append_right _ h9)) xn_207 xg_207 hR0 hR hS (hl.1.trans hml.symm) dX10_cousinAt_11 dX10_cousinAt_14 dX10_cousinAt_15 dX10_cousinAt_17 dX10_cousinAt_20 ht9 (by decide) (Nat.le_of_ble_eq_true rfl) (Nat.le_of_ble_eq_true rfl) (Nat.le_of_ble_eq_true rfl) hlocks (fun n9 => ⟨rfl, c_4, rfl⟩) (Nat.le_of_ble_eq_true rfl) (Nat.le_of_ble_eq_true rfl)
set_option maxHeartbeats 4000000 in
set_option maxRecDepth 100000 in
theorem c_X10_requireStep (G : FG) (hL : FL G) (l : Launch) (hX0 : FX0 G l) (ω : FWd) (x a k : Nat) (v : Nat → Nat → Int32) (hf : LeafS G ω.2 a v k) (st : Int32) : FMetX G l yX10_requireStep wsX10_requireStep ({ frames := 6, cells := 1, slots := 6, locals := 100 } : Room) [.ref x, .ref a, .int st] ω (fun vv9 τ9 => inB st 0 (v 3 k - 1) ∧ vv9 = none ∧ τ9 = ω) (fun E9 τ9 => E9 = "java/util/NoSuchElementException" ∧ ¬ inB st 0 (v 3 k - 1) ∧ τ9.2 = ω.2) 1 6 := by
  refine fx_ofW (cc := cX10_requireStep) (maxL := 3) (ret := none) (by decide) rfl (Nat.le_of_ble_eq_true rfl) ?_
  intro pP eE sS mI ar9 bl9 meth cD ls hx hb hr hlocks hml hts hown hnm hW hR ht9 hl
  have hK := hL.K hW
  have hR0 := hR
  have hS : va_S (fwA G) sS.heap sS.heap [] := va_S.rf
  have hl : lv_has ls 3 [(0, .ref x), (1, .ref a), (2, .int st)] := hl
  obtain ⟨h0, h1, h2, h3, h4⟩ := id hf
  refine lv_aload_n hx hb dX10_requireStep_0 rfl (lv_at hl 1 rfl) ?_
  refine lv_iload_n hx hb dX10_requireStep_1 rfl (lv_at hl 2 rfl) ?_
  refine fw_call (va_runV (As := [.int st]) (rest := []) ⟨hx, hb, hml, hown, hts⟩ (c_X5_hasStep G hL l ω a k v hf  st) (cwV 1 hts gX10_requireStep_X5_hasStep rfl rfl rfl (by decide +kernel) ⟨Nat.le_of_ble_eq_true rfl, Nat.le_of_ble_eq_true rfl⟩) (fw_preV hW hK hR h0 rfl) rfl rfl hl.1 rfl (lv_room (Nat.le_of_ble_eq_true rfl)) dX10_requireStep_2 ⟨Nat.le_of_ble_eq_true rfl, Nat.le_of_ble_eq_true rfl⟩) hS (fun v_1 ω_2 H locs hq_3 hR hS => ?_)
  obtain ⟨rfl, hq_3⟩ := hq_3
  rw [hq_3] at hR
  refine W.eq (g2 := F0 mI 5 ls [.int (bz (inB st 0 (v 3 k - 1)))]) rfl ?_
  refine lv_if_ne (tgt := 18) hx hb dX10_requireStep_5 (by decide) (fun c_4 => ?_) (fun c_4 => ?_)
  · skip
    have c_4 := bz_ne c_4
    refine W.widen (k := 1) (n := 6) (by first | omega | decide) (by first | omega | decide) ?_
    refine vx_ret ?_
    refine fw_vret hx hb hr hlocks hR hS dX10_requireStep_18 ?_
    exact ⟨c_4, rfl, rfl⟩
  · skip
    have c_4 := bz_eq c_4
    exact fx_throwN (ω := ω) (τ := ω) (text := "no such step") (ws := wsX10_requireStep) hx hb hX0 hW hts hown (by decide) (by decide) (by decide +kernel) (by decide +kernel) (by decide) (fun w9 h9 => List.mem_cons_of_mem _ (List.mem_append_right _ h9)) xn_228 xg_228 hR0 hR hS (hl.1.trans hml.symm) dX10_requireStep_8 dX10_requireStep_11 dX10_requireStep_12 dX10_requireStep_14 dX10_requireStep_17 ht9 (by decide) (Nat.le_of_ble_eq_true rfl) (Nat.le_of_ble_eq_true rfl) (Nat.le_of_ble_eq_true rfl) hlocks (fun n9 => ⟨rfl, c_4, rfl⟩) (Nat.le_of_ble_eq_true rfl) (Nat.le_of_ble_eq_true rfl)
set_option maxHeartbeats 4000000 in
set_option maxRecDepth 100000 in
theorem c_X10_requireKind (G : FG) (hL : FL G) (l : Launch) (hX0 : FX0 G l) (ω : FWd) (x : Nat) (kd : Int32) : FMetX G l yX10_requireKind wsX10_requireKind ({ frames := 6, cells := 1, slots := 6, locals := 100 } : Room) [.ref x, .int kd] ω (fun vv9 τ9 => inB kd 0 5 ∧ vv9 = none ∧ τ9 = ω) (fun E9 τ9 => E9 = "java/lang/IllegalArgumentException" ∧ ¬ inB kd 0 5 ∧ τ9.2 = ω.2) 1 6 := by
  refine fx_ofW (cc := cX10_requireKind) (maxL := 2) (ret := none) (by decide) rfl (Nat.le_of_ble_eq_true rfl) ?_
  intro pP eE sS mI ar9 bl9 meth cD ls hx hb hr hlocks hml hts hown hnm hW hR ht9 hl
  have hK := hL.K hW
  have hR0 := hR
  have hS : va_S (fwA G) sS.heap sS.heap [] := va_S.rf
  have hl : lv_has ls 2 [(0, .ref x), (1, .int kd)] := hl
  skip
  refine lv_iload_n hx hb dX10_requireKind_0 rfl (lv_at hl 1 rfl) ?_
  refine lv_iconst (v := 0) hx hb dX10_requireKind_1 (by decide) ?_
  refine lv_iconst (v := 5) hx hb dX10_requireKind_2 (by decide) ?_
  refine fw_call (va_runS (As := [.int kd, .int 0, .int 5]) (rest := []) ⟨hx, hb, hml, hown, hts⟩ (c_X10_isWithin G hL l ω kd 0 5) (va_cwS 3 hts gX10_requireKind_X10_isWithin rfl rfl rfl (by decide +kernel) ⟨Nat.le_of_ble_eq_true rfl, Nat.le_of_ble_eq_true rfl⟩) (fw_preS hW hR) rfl rfl hl.1 rfl (lv_room (Nat.le_of_ble_eq_true rfl)) dX10_requireKind_3 ⟨Nat.le_of_ble_eq_true rfl, Nat.le_of_ble_eq_true rfl⟩) hS (fun v_1 ω_2 H locs hq_3 hR hS => ?_)
  obtain ⟨rfl, hq_3⟩ := hq_3
  rw [hq_3] at hR
  refine W.eq (g2 := F0 mI 6 ls [.int (bz (inB kd 0 5))]) rfl ?_
  refine lv_if_ne (tgt := 19) hx hb dX10_requireKind_6 (by decide) (fun c_4 => ?_) (fun c_4 => ?_)
  · skip
    have c_4 := bz_ne c_4
    refine W.widen (k := 1) (n := 6) (by first | omega | decide) (by first | omega | decide) ?_
    refine vx_ret ?_
    refine fw_vret hx hb hr hlocks hR hS dX10_requireKind_19 ?_
    exact ⟨c_4, rfl, rfl⟩
  · skip
    have c_4 := bz_eq c_4
    exact fx_throw (ω := ω) (τ := ω) (cls := "java/lang/IllegalArgumentException") (text := "no such kind") (ws := wsX10_requireKind) hx hb hX0 hW hts hown (by decide) (by decide) (by decide +kernel) (by decide +kernel) (by decide) (fun w9 h9 => List.mem_cons_of_mem _ (List.mem_append_right _ h9)) xn_152 xg_152 hR0 hR hS (hl.1.trans hml.symm) dX10_requireKind_9 dX10_requireKind_12 dX10_requireKind_13 dX10_requireKind_15 dX10_requireKind_18 ht9 (by decide) (Nat.le_of_ble_eq_true rfl) (Nat.le_of_ble_eq_true rfl) (Nat.le_of_ble_eq_true rfl) hlocks (fun n9 => ⟨rfl, c_4, rfl⟩) (Nat.le_of_ble_eq_true rfl) (Nat.le_of_ble_eq_true rfl)
def leafOfC (v : Nat → Nat → Int32) (lf : Int32) (wh : Int32) : Int32 × Int32 :=
  if inB lf 0 (v 0 0 - 1) then (if wh = 0 then ((v 3 (cN lf), 0)) else (if wh = 1 then ((v 4 (cN lf), 0)) else (if wh = 2 then ((openJ (v 3 (cN lf)) (cN (v 4 (cN lf))), 0)) else (if wh = 3 then ((v 5 (cN lf), 0)) else (if wh = 4 then ((v 6 (cN lf) - 1, 0)) else (if wh = 5 then ((popF (v 7 (cN lf)), 0)) else (if wh = 6 then ((partsJ v (cN lf) (1 <<< (v 3 (cN lf) &&& 31) - 1) (stN v (cN lf)), 0)) else (if wh = 7 then ((partsJ v (cN lf) (v 7 (cN lf)) (stN v (cN lf)), 0)) else ((0, 2)))))))))) else ((0, 1))
set_option maxHeartbeats 4000000 in
set_option maxRecDepth 100000 in
theorem c_X10_leafletOf (G : FG) (hL : FL G) (l : Launch) (hX0 : FX0 G l) (ω : FWd) (x y a hs0 sn tx ln tt : Nat) (v : Nat → Nat → Int32) (hsn : Int32) (hXA : XA x y a hs0 sn tx ln tt) (hx0 : ω.2 x = some (.inr (12, [.ref y, .ref a, .ref (a + 51), .ref hs0, .ref sn, .int hsn, .ref tx, .ref ln, .ref tt]))) (hA : ArcS G ω.2 a v) (hW0 : WF v) (lf : Int32) (wh : Int32) : FMetX G l yX10_leafletOf wsX10_leafletOf ({ frames := 7, cells := 2, slots := 12, locals := 121 } : Room) [.ref x, .int lf, .int wh] ω (fun vv9 τ9 => vv9 = some (.int (leafOfC v lf wh).1) ∧ (leafOfC v lf wh).2 = 0 ∧ τ9 = ω) (fun E9 τ9 => XC2 "java/lang/IndexOutOfBoundsException" "java/lang/IllegalArgumentException" (leafOfC v lf wh).2 E9 ∧ τ9.2 = ω.2) 2 12 := by
  refine fx_ofW (cc := cX10_leafletOf) (maxL := 4) (ret := (some .int)) (by decide) rfl (Nat.le_of_ble_eq_true rfl) ?_
  intro pP eE sS mI ar9 bl9 meth cD ls hx hb hr hlocks hml hts hown hnm hW hR ht9 hl
  have hK := hL.K hW
  have hR0 := hR
  have hS : va_S (fwA G) sS.heap sS.heap [] := va_S.rf
  have hin5 : ∀ w ∈ u_ws RX5 TX5 9, w ∈ wsX10_leafletOf := by decide +kernel
  have hl : lv_has ls 4 [(0, .ref x), (1, .int lf), (2, .int wh)] := hl
  obtain ⟨h0, h1, h2, h3, h4, h5, hLf, hCo⟩ := id hA
  obtain ⟨hxy, hxa, hxh, hxs, hxt, hxl, hxu⟩ := id hXA
  obtain ⟨c, hc8, hc, hcc⟩ := okN_of hW0.1
  obtain ⟨cc, hd5, hd, hdd⟩ := okN_of hW0.2.1
  have hs : ∀ j, j < c → v 3 j = nI (stN v j) ∧ stN v j ≤ 8 := fun j hj => (hW0.2.2 j (by rw [hcc]; exact hj)).1
  have hfo : ∀ j, j < c → v 4 j = nI (cN (v 4 j)) ∧ cN (v 4 j) ≤ 3 := fun j hj => (hW0.2.2 j (by rw [hcc]; exact hj)).2
  refine lv_aload_n hx hb dX10_leafletOf_0 rfl (lv_at hl 0 rfl) ?_
  refine lv_iload_n hx hb dX10_leafletOf_1 rfl (lv_at hl 1 rfl) ?_
  refine fx_call (vx_runV (As := [.int lf]) (rest := []) ⟨hx, hb, hml, hown, hts⟩ (c_X10_leafletAt G hL l hX0 ω x y a hs0 sn tx ln tt v hsn hXA hx0 hA hW0 lf) (cwV 1 hts gX10_leafletOf_X10_leafletAt rfl rfl rfl (by decide +kernel) ⟨Nat.le_of_ble_eq_true rfl, Nat.le_of_ble_eq_true rfl⟩) (fw_preV hW hK hR hx0 rfl) rfl rfl hl.1 rfl (lv_room (Nat.le_of_ble_eq_true rfl)) dX10_leafletOf_2 ⟨Nat.le_of_ble_eq_true rfl, Nat.le_of_ble_eq_true rfl⟩) hS (fun E_1 ce_1 q_1 τ_1 H locs hx_1 hR hS hce_1 hcv_1 hcl_1 => ?_) (fun v_1 ω_1 H locs hq_1 hR hS => ?_)
  · skip
    obtain ⟨rfl, hc_1, hw_1⟩ := hx_1
    have hr_2 : leafOfC v lf wh = ((0, 1) : Int32 × Int32) := by
      simp only [leafOfC, hcc, hdd]
      rw [if_neg hc_1]
    exact fx_out ht9 hlocks ⟨by rw [hr_2]; exact Or.inl ⟨rfl, rfl⟩, hw_1⟩ hR hS hce_1 hcv_1 hcl_1 (by first | omega | decide) (by first | omega | decide)
  · skip
    refine W.widen (k := 1) (n := 6) (by first | omega | decide) (by first | omega | decide) ?_
    obtain ⟨hc_1, rfl, hw_1⟩ := hq_1
    rw [hw_1] at hR
    obtain ⟨j, hj2, rfl⟩ := in_c hc hc8 hc_1
    have hcj : cN (nI j) = j := cN_nI (by omega)
    refine W.eq (g2 := F0 mI 5 ls [.ref (a + 6 + 5 * j)]) (by rw [hcj]; rfl) ?_
    refine lv_astore_n (lv' := [(3, .ref (a + 6 + 5 * j)), (0, .ref x), (1, .int (nI j)), (2, .int wh)]) hx hb dX10_leafletOf_5 rfl hl (by decide) rfl (fun ls hl => ?_)
    refine lv_iload_n hx hb dX10_leafletOf_6 rfl (lv_at hl 3 rfl) ?_
    by_cases c_3 : wh = 0
    · skip
      refine lv_tableIn (off := 45) (tgt := 52) hx hb dX10_leafletOf_7 (by rw [c_3]; decide) (by rw [c_3]; decide) (by rw [c_3]; rfl) (by decide) ?_
      refine lv_aload_n hx hb dX10_leafletOf_52 rfl (lv_at hl 0 rfl) ?_
      have f_4 : ω.2 (a + 6 + 5 * j) = some (.inr (7, [.int (v 3 j), .int (v 4 j), .int (v 5 j), .int (v 6 j - 1), .int (v 7 j), .ref (a + 6 + 5 * j + 1), .ref (a + 6 + 5 * j + 2), .ref (a + 6 + 5 * j + 3), .ref (a + 6 + 5 * j + 4)])) := (hLf j (by omega)).1
      refine fw_get (v := .int (v 3 j)) (C := RX5) (T := TX5) (N := 9) hx hb hts hin5 hown hK hR f_4 rfl 0 (by decide) (hts (.fieldLink RX10 117 "UnreadLeaflets$Leaflet" "steps" "I") (by decide +kernel)) rfl dX10_leafletOf_53 ?_
      refine W.widen (k := 2) (n := 12) (by first | omega | decide) (by first | omega | decide) ?_
      refine vx_ret ?_
      have hr_5 : leafOfC v (nI j) wh = ((v 3 j, 0) : Int32 × Int32) := by
        simp only [leafOfC, hcc, hdd, hcj]
        rw [if_pos hc_1, if_pos c_3]
      exact fw_iret hx hb hr hlocks hR hS dX10_leafletOf_56 ⟨by rw [hr_5], by rw [hr_5], rfl⟩
    by_cases c_6 : wh = 1
    · skip
      refine lv_tableIn (off := 50) (tgt := 57) hx hb dX10_leafletOf_7 (by rw [c_6]; decide) (by rw [c_6]; decide) (by rw [c_6]; rfl) (by decide) ?_
      refine lv_aload_n hx hb dX10_leafletOf_57 rfl (lv_at hl 0 rfl) ?_
      have f_7 : ω.2 (a + 6 + 5 * j) = some (.inr (7, [.int (v 3 j), .int (v 4 j), .int (v 5 j), .int (v 6 j - 1), .int (v 7 j), .ref (a + 6 + 5 * j + 1), .ref (a + 6 + 5 * j + 2), .ref (a + 6 + 5 * j + 3), .ref (a + 6 + 5 * j + 4)])) := (hLf j (by omega)).1
      refine fw_get (v := .int (v 4 j)) (C := RX5) (T := TX5) (N := 9) hx hb hts hin5 hown hK hR f_7 rfl 1 (by decide) (hts (.fieldLink RX10 123 "UnreadLeaflets$Leaflet" "folds" "I") (by decide +kernel)) rfl dX10_leafletOf_58 ?_
      refine W.widen (k := 2) (n := 12) (by first | omega | decide) (by first | omega | decide) ?_
      refine vx_ret ?_
      have hr_8 : leafOfC v (nI j) wh = ((v 4 j, 0) : Int32 × Int32) := by
        simp only [leafOfC, hcc, hdd, hcj]
        rw [if_pos hc_1, if_neg c_3, if_pos c_6]
      exact fw_iret hx hb hr hlocks hR hS dX10_leafletOf_61 ⟨by rw [hr_8], by rw [hr_8], rfl⟩
    by_cases c_9 : wh = 2
    · skip
      refine lv_tableIn (off := 55) (tgt := 62) hx hb dX10_leafletOf_7 (by rw [c_9]; decide) (by rw [c_9]; decide) (by rw [c_9]; rfl) (by decide) ?_
      refine lv_aload_n hx hb dX10_leafletOf_62 rfl (lv_at hl 0 rfl) ?_
      have f_10 : ω.2 (a + 6 + 5 * j) = some (.inr (7, [.int (v 3 j), .int (v 4 j), .int (v 5 j), .int (v 6 j - 1), .int (v 7 j), .ref (a + 6 + 5 * j + 1), .ref (a + 6 + 5 * j + 2), .ref (a + 6 + 5 * j + 3), .ref (a + 6 + 5 * j + 4)])) := (hLf j (by omega)).1
      refine fw_call (va_runV (As := []) (rest := []) ⟨hx, hb, hml, hown, hts⟩ (c_X5_open G hL l ω (a + 6 + 5 * j) j v (hLf j (by omega))  (cN (v 4 j)) (hfo j hj2).2 (hfo j hj2).1) (cwV 0 hts gX10_leafletOf_X5_open rfl rfl rfl (by decide +kernel) ⟨Nat.le_of_ble_eq_true rfl, Nat.le_of_ble_eq_true rfl⟩) (fw_preV hW hK hR f_10 rfl) rfl rfl hl.1 rfl (lv_room (Nat.le_of_ble_eq_true rfl)) dX10_leafletOf_63 ⟨Nat.le_of_ble_eq_true rfl, Nat.le_of_ble_eq_true rfl⟩) hS (fun v_11 ω_12 H locs hq_13 hR hS => ?_)
      obtain ⟨rfl, hq_13⟩ := hq_13
      rw [hq_13] at hR
      refine W.eq (g2 := F0 mI 66 ls [.int (openJ (v 3 j) (cN (v 4 j)))]) rfl ?_
      refine W.widen (k := 2) (n := 12) (by first | omega | decide) (by first | omega | decide) ?_
      refine vx_ret ?_
      have hr_14 : leafOfC v (nI j) wh = ((openJ (v 3 j) (cN (v 4 j)), 0) : Int32 × Int32) := by
        simp only [leafOfC, hcc, hdd, hcj]
        rw [if_pos hc_1, if_neg c_3, if_neg c_6, if_pos c_9]
      exact fw_iret hx hb hr hlocks hR hS dX10_leafletOf_66 ⟨by rw [hr_14], by rw [hr_14], rfl⟩
    by_cases c_15 : wh = 3
    · skip
      refine lv_tableIn (off := 60) (tgt := 67) hx hb dX10_leafletOf_7 (by rw [c_15]; decide) (by rw [c_15]; decide) (by rw [c_15]; rfl) (by decide) ?_
      refine lv_aload_n hx hb dX10_leafletOf_67 rfl (lv_at hl 0 rfl) ?_
      have f_16 : ω.2 (a + 6 + 5 * j) = some (.inr (7, [.int (v 3 j), .int (v 4 j), .int (v 5 j), .int (v 6 j - 1), .int (v 7 j), .ref (a + 6 + 5 * j + 1), .ref (a + 6 + 5 * j + 2), .ref (a + 6 + 5 * j + 3), .ref (a + 6 + 5 * j + 4)])) := (hLf j (by omega)).1
      refine fw_get (v := .int (v 5 j)) (C := RX5) (T := TX5) (N := 9) hx hb hts hin5 hown hK hR f_16 rfl 2 (by decide) (hts (.fieldLink RX10 130 "UnreadLeaflets$Leaflet" "shelf" "I") (by decide +kernel)) rfl dX10_leafletOf_68 ?_
      refine W.widen (k := 2) (n := 12) (by first | omega | decide) (by first | omega | decide) ?_
      refine vx_ret ?_
      have hr_17 : leafOfC v (nI j) wh = ((v 5 j, 0) : Int32 × Int32) := by
        simp only [leafOfC, hcc, hdd, hcj]
        rw [if_pos hc_1, if_neg c_3, if_neg c_6, if_neg c_9, if_pos c_15]
      exact fw_iret hx hb hr hlocks hR hS dX10_leafletOf_71 ⟨by rw [hr_17], by rw [hr_17], rfl⟩
    by_cases c_18 : wh = 4
    · skip
      refine lv_tableIn (off := 65) (tgt := 72) hx hb dX10_leafletOf_7 (by rw [c_18]; decide) (by rw [c_18]; decide) (by rw [c_18]; rfl) (by decide) ?_
      refine lv_aload_n hx hb dX10_leafletOf_72 rfl (lv_at hl 0 rfl) ?_
      have f_19 : ω.2 (a + 6 + 5 * j) = some (.inr (7, [.int (v 3 j), .int (v 4 j), .int (v 5 j), .int (v 6 j - 1), .int (v 7 j), .ref (a + 6 + 5 * j + 1), .ref (a + 6 + 5 * j + 2), .ref (a + 6 + 5 * j + 3), .ref (a + 6 + 5 * j + 4)])) := (hLf j (by omega)).1
      refine fw_get (v := .int (v 6 j - 1)) (C := RX5) (T := TX5) (N := 9) hx hb hts hin5 hown hK hR f_19 rfl 3 (by decide) (hts (.fieldLink RX10 133 "UnreadLeaflets$Leaflet" "builder" "I") (by decide +kernel)) rfl dX10_leafletOf_73 ?_
      refine W.widen (k := 2) (n := 12) (by first | omega | decide) (by first | omega | decide) ?_
      refine vx_ret ?_
      have hr_20 : leafOfC v (nI j) wh = ((v 6 j - 1, 0) : Int32 × Int32) := by
        simp only [leafOfC, hcc, hdd, hcj]
        rw [if_pos hc_1, if_neg c_3, if_neg c_6, if_neg c_9, if_neg c_15, if_pos c_18]
      exact fw_iret hx hb hr hlocks hR hS dX10_leafletOf_76 ⟨by rw [hr_20], by rw [hr_20], rfl⟩
    by_cases c_21 : wh = 5
    · skip
      refine lv_tableIn (off := 70) (tgt := 77) hx hb dX10_leafletOf_7 (by rw [c_21]; decide) (by rw [c_21]; decide) (by rw [c_21]; rfl) (by decide) ?_
      refine lv_aload_n hx hb dX10_leafletOf_77 rfl (lv_at hl 0 rfl) ?_
      have f_22 : ω.2 (a + 6 + 5 * j) = some (.inr (7, [.int (v 3 j), .int (v 4 j), .int (v 5 j), .int (v 6 j - 1), .int (v 7 j), .ref (a + 6 + 5 * j + 1), .ref (a + 6 + 5 * j + 2), .ref (a + 6 + 5 * j + 3), .ref (a + 6 + 5 * j + 4)])) := (hLf j (by omega)).1
      refine fw_call (va_runV (As := []) (rest := []) ⟨hx, hb, hml, hown, hts⟩ (c_X5_skippedSteps G hL l ω (a + 6 + 5 * j) j v (hLf j (by omega))  ) (cwV 0 hts gX10_leafletOf_X5_skippedSteps rfl rfl rfl (by decide +kernel) ⟨Nat.le_of_ble_eq_true rfl, Nat.le_of_ble_eq_true rfl⟩) (fw_preV hW hK hR f_22 rfl) rfl rfl hl.1 rfl (lv_room (Nat.le_of_ble_eq_true rfl)) dX10_leafletOf_78 ⟨Nat.le_of_ble_eq_true rfl, Nat.le_of_ble_eq_true rfl⟩) hS (fun v_23 ω_24 H locs hq_25 hR hS => ?_)
      obtain ⟨rfl, hq_25⟩ := hq_25
      rw [hq_25] at hR
      refine W.eq (g2 := F0 mI 81 ls [.int (popF (v 7 j))]) rfl ?_
      refine W.widen (k := 2) (n := 12) (by first | omega | decide) (by first | omega | decide) ?_
      refine vx_ret ?_
      have hr_26 : leafOfC v (nI j) wh = ((popF (v 7 j), 0) : Int32 × Int32) := by
        simp only [leafOfC, hcc, hdd, hcj]
        rw [if_pos hc_1, if_neg c_3, if_neg c_6, if_neg c_9, if_neg c_15, if_neg c_18, if_pos c_21]
      exact fw_iret hx hb hr hlocks hR hS dX10_leafletOf_81 ⟨by rw [hr_26], by rw [hr_26], rfl⟩
    by_cases c_27 : wh = 6
    · skip
      refine lv_tableIn (off := 75) (tgt := 82) hx hb dX10_leafletOf_7 (by rw [c_27]; decide) (by rw [c_27]; decide) (by rw [c_27]; rfl) (by decide) ?_
      refine lv_aload_n hx hb dX10_leafletOf_82 rfl (lv_at hl 0 rfl) ?_
      refine lv_aload_n hx hb dX10_leafletOf_83 rfl (lv_at hl 0 rfl) ?_
      have f_28 : ω.2 (a + 6 + 5 * j) = some (.inr (7, [.int (v 3 j), .int (v 4 j), .int (v 5 j), .int (v 6 j - 1), .int (v 7 j), .ref (a + 6 + 5 * j + 1), .ref (a + 6 + 5 * j + 2), .ref (a + 6 + 5 * j + 3), .ref (a + 6 + 5 * j + 4)])) := (hLf j (by omega)).1
      refine fw_call (va_runV (As := []) (rest := [.ref (a + 6 + 5 * j)]) ⟨hx, hb, hml, hown, hts⟩ (c_X5_allSteps G hL l ω (a + 6 + 5 * j) j v (hLf j (by omega))  ) (cwV 0 hts gX10_leafletOf_X5_allSteps rfl rfl rfl (by decide +kernel) ⟨Nat.le_of_ble_eq_true rfl, Nat.le_of_ble_eq_true rfl⟩) (fw_preV hW hK hR f_28 rfl) rfl rfl hl.1 rfl (lv_room (Nat.le_of_ble_eq_true rfl)) dX10_leafletOf_84 ⟨Nat.le_of_ble_eq_true rfl, Nat.le_of_ble_eq_true rfl⟩) hS (fun v_29 ω_30 H locs hq_31 hR hS => ?_)
      obtain ⟨rfl, hq_31⟩ := hq_31
      rw [hq_31] at hR
      refine W.eq (g2 := F0 mI 87 ls [.int (1 <<< (v 3 j &&& 31) - 1), .ref (a + 6 + 5 * j)]) rfl ?_
      refine fw_call (va_runV (As := [.int (1 <<< (v 3 j &&& 31) - 1)]) (rest := []) ⟨hx, hb, hml, hown, hts⟩ (c_X5_partsOf G hL l ω (a + 6 + 5 * j) j v (hLf j (by omega)) (stN v j) (hs j hj2).1 (hs j hj2).2 (1 <<< (v 3 j &&& 31) - 1)) (cwV 1 hts gX10_leafletOf_X5_partsOf rfl rfl rfl (by decide +kernel) ⟨Nat.le_of_ble_eq_true rfl, Nat.le_of_ble_eq_true rfl⟩) (fw_preV hW hK hR f_28 rfl) rfl rfl hl.1 rfl (lv_room (Nat.le_of_ble_eq_true rfl)) dX10_leafletOf_87 ⟨Nat.le_of_ble_eq_true rfl, Nat.le_of_ble_eq_true rfl⟩) hS (fun v_32 ω_33 H locs hq_34 hR hS => ?_)
      obtain ⟨rfl, hq_34⟩ := hq_34
      rw [hq_34] at hR
      refine W.eq (g2 := F0 mI 90 ls [.int (partsJ v j (1 <<< (v 3 j &&& 31) - 1) (stN v j))]) rfl ?_
      refine W.widen (k := 2) (n := 12) (by first | omega | decide) (by first | omega | decide) ?_
      refine vx_ret ?_
      have hr_35 : leafOfC v (nI j) wh = ((partsJ v j (1 <<< (v 3 j &&& 31) - 1) (stN v j), 0) : Int32 × Int32) := by
        simp only [leafOfC, hcc, hdd, hcj]
        rw [if_pos hc_1, if_neg c_3, if_neg c_6, if_neg c_9, if_neg c_15, if_neg c_18, if_neg c_21, if_pos c_27]
      exact fw_iret hx hb hr hlocks hR hS dX10_leafletOf_90 ⟨by rw [hr_35], by rw [hr_35], rfl⟩
    by_cases c_36 : wh = 7
    · skip
      refine lv_tableIn (off := 84) (tgt := 91) hx hb dX10_leafletOf_7 (by rw [c_36]; decide) (by rw [c_36]; decide) (by rw [c_36]; rfl) (by decide) ?_
      refine lv_aload_n hx hb dX10_leafletOf_91 rfl (lv_at hl 0 rfl) ?_
      refine lv_aload_n hx hb dX10_leafletOf_92 rfl (lv_at hl 0 rfl) ?_
      have f_37 : ω.2 (a + 6 + 5 * j) = some (.inr (7, [.int (v 3 j), .int (v 4 j), .int (v 5 j), .int (v 6 j - 1), .int (v 7 j), .ref (a + 6 + 5 * j + 1), .ref (a + 6 + 5 * j + 2), .ref (a + 6 + 5 * j + 3), .ref (a + 6 + 5 * j + 4)])) := (hLf j (by omega)).1
      refine fw_get (v := .int (v 7 j)) (C := RX5) (T := TX5) (N := 9) hx hb hts hin5 hown hK hR f_37 rfl 4 (by decide) (hts (.fieldLink RX10 145 "UnreadLeaflets$Leaflet" "skipped" "I") (by decide +kernel)) rfl dX10_leafletOf_93 ?_
      refine fw_call (va_runV (As := [.int (v 7 j)]) (rest := []) ⟨hx, hb, hml, hown, hts⟩ (c_X5_partsOf G hL l ω (a + 6 + 5 * j) j v (hLf j (by omega)) (stN v j) (hs j hj2).1 (hs j hj2).2 (v 7 j)) (cwV 1 hts gX10_leafletOf_X5_partsOf rfl rfl rfl (by decide +kernel) ⟨Nat.le_of_ble_eq_true rfl, Nat.le_of_ble_eq_true rfl⟩) (fw_preV hW hK hR f_37 rfl) rfl rfl hl.1 rfl (lv_room (Nat.le_of_ble_eq_true rfl)) dX10_leafletOf_96 ⟨Nat.le_of_ble_eq_true rfl, Nat.le_of_ble_eq_true rfl⟩) hS (fun v_38 ω_39 H locs hq_40 hR hS => ?_)
      obtain ⟨rfl, hq_40⟩ := hq_40
      rw [hq_40] at hR
      refine W.eq (g2 := F0 mI 99 ls [.int (partsJ v j (v 7 j) (stN v j))]) rfl ?_
      refine W.widen (k := 2) (n := 12) (by first | omega | decide) (by first | omega | decide) ?_
      refine vx_ret ?_
      have hr_41 : leafOfC v (nI j) wh = ((partsJ v j (v 7 j) (stN v j), 0) : Int32 × Int32) := by
        simp only [leafOfC, hcc, hdd, hcj]
        rw [if_pos hc_1, if_neg c_3, if_neg c_6, if_neg c_9, if_neg c_15, if_neg c_18, if_neg c_21, if_neg c_27, if_pos c_36]
      exact fw_iret hx hb hr hlocks hR hS dX10_leafletOf_99 ⟨by rw [hr_41], by rw [hr_41], rfl⟩
    have tc_3 := lv_neT c_3 (show (0 : Int32).toInt = 0 by decide)
    have tc_6 := lv_neT c_6 (show (1 : Int32).toInt = 1 by decide)
    have tc_9 := lv_neT c_9 (show (2 : Int32).toInt = 2 by decide)
    have tc_15 := lv_neT c_15 (show (3 : Int32).toInt = 3 by decide)
    have tc_18 := lv_neT c_18 (show (4 : Int32).toInt = 4 by decide)
    have tc_21 := lv_neT c_21 (show (5 : Int32).toInt = 5 by decide)
    have tc_27 := lv_neT c_27 (show (6 : Int32).toInt = 6 by decide)
    have tc_36 := lv_neT c_36 (show (7 : Int32).toInt = 7 by decide)
    refine lv_tableOut (tgt := 100) hx hb dX10_leafletOf_7 (by omega) (by decide) ?_
    have hr_42 : leafOfC v (nI j) wh = ((0, 2) : Int32 × Int32) := by
      simp only [leafOfC, hcc, hdd, hcj]
      rw [if_pos hc_1, if_neg c_3, if_neg c_6, if_neg c_9, if_neg c_15, if_neg c_18, if_neg c_21, if_neg c_27, if_neg c_36]
    exact fx_throw (ω := ω) (τ := ω) (cls := "java/lang/IllegalArgumentException") (text := "no such number of a leaflet") (ws := wsX10_leafletOf) hx hb hX0 hW hts hown (by decide) (by decide) (by decide +kernel) (by decide +kernel) (by decide) (fun w9 h9 => List.mem_cons_of_mem _ (List.mem_append_left _ (List.mem_append_right _ h9))) xn_152 xg_152 hR0 hR hS (hl.1.trans hml.symm) dX10_leafletOf_100 dX10_leafletOf_103 dX10_leafletOf_104 dX10_leafletOf_106 dX10_leafletOf_109 ht9 (by decide) (Nat.le_of_ble_eq_true rfl) (Nat.le_of_ble_eq_true rfl) (Nat.le_of_ble_eq_true rfl) hlocks (fun n9 => ⟨by rw [hr_42]; exact Or.inr (⟨rfl, rfl⟩), rfl⟩) (Nat.le_of_ble_eq_true rfl) (Nat.le_of_ble_eq_true rfl)
def stepOfC (v : Nat → Nat → Int32) (lf : Int32) (sp : Int32) (wh : Int32) : Int32 × Int32 :=
  if inB lf 0 (v 0 0 - 1) then (if inB sp 0 (v 3 (cN lf) - 1) then (if wh = 0 then (((v (10 + (cN lf))) (cN sp), 0)) else (if wh = 1 then ((psJ v (cN lf) (cN sp), 0)) else (if wh = 2 then (((v (30 + (cN lf))) (cN sp), 0)) else (if wh = 3 then (((v (40 + (cN lf)) (cN sp) + 1) - 1, 0)) else (if wh = 4 then (if hasB (v 7 (cN lf)) (sp) then ((1, 0)) else ((0, 0))) else ((0, 3))))))) else ((0, 2))) else ((0, 1))
set_option maxHeartbeats 4000000 in
set_option maxRecDepth 100000 in
theorem c_X10_stepOf (G : FG) (hL : FL G) (l : Launch) (hX0 : FX0 G l) (ω : FWd) (x y a hs0 sn tx ln tt : Nat) (v : Nat → Nat → Int32) (hsn : Int32) (hXA : XA x y a hs0 sn tx ln tt) (hx0 : ω.2 x = some (.inr (12, [.ref y, .ref a, .ref (a + 51), .ref hs0, .ref sn, .int hsn, .ref tx, .ref ln, .ref tt]))) (hA : ArcS G ω.2 a v) (hW0 : WF v) (lf : Int32) (sp : Int32) (wh : Int32) : FMetX G l yX10_stepOf wsX10_stepOf ({ frames := 7, cells := 3, slots := 18, locals := 122 } : Room) [.ref x, .int lf, .int sp, .int wh] ω (fun vv9 τ9 => vv9 = some (.int (stepOfC v lf sp wh).1) ∧ (stepOfC v lf sp wh).2 = 0 ∧ τ9 = ω) (fun E9 τ9 => XC3 "java/lang/IndexOutOfBoundsException" "java/util/NoSuchElementException" "java/lang/IllegalArgumentException" (stepOfC v lf sp wh).2 E9 ∧ τ9.2 = ω.2) 3 18 := by
  refine fx_ofW (cc := cX10_stepOf) (maxL := 5) (ret := (some .int)) (by decide) rfl (Nat.le_of_ble_eq_true rfl) ?_
  intro pP eE sS mI ar9 bl9 meth cD ls hx hb hr hlocks hml hts hown hnm hW hR ht9 hl
  have hK := hL.K hW
  have hR0 := hR
  have hS : va_S (fwA G) sS.heap sS.heap [] := va_S.rf
  have hin5 : ∀ w ∈ u_ws RX5 TX5 9, w ∈ wsX10_stepOf := by decide +kernel
  have hl : lv_has ls 5 [(0, .ref x), (1, .int lf), (2, .int sp), (3, .int wh)] := hl
  obtain ⟨h0, h1, h2, h3, h4, h5, hLf, hCo⟩ := id hA
  obtain ⟨hxy, hxa, hxh, hxs, hxt, hxl, hxu⟩ := id hXA
  obtain ⟨c, hc8, hc, hcc⟩ := okN_of hW0.1
  obtain ⟨cc, hd5, hd, hdd⟩ := okN_of hW0.2.1
  have hs : ∀ j, j < c → v 3 j = nI (stN v j) ∧ stN v j ≤ 8 := fun j hj => (hW0.2.2 j (by rw [hcc]; exact hj)).1
  have hfo : ∀ j, j < c → v 4 j = nI (cN (v 4 j)) ∧ cN (v 4 j) ≤ 3 := fun j hj => (hW0.2.2 j (by rw [hcc]; exact hj)).2
  refine lv_aload_n hx hb dX10_stepOf_0 rfl (lv_at hl 0 rfl) ?_
  refine lv_iload_n hx hb dX10_stepOf_1 rfl (lv_at hl 1 rfl) ?_
  refine fx_call (vx_runV (As := [.int lf]) (rest := []) ⟨hx, hb, hml, hown, hts⟩ (c_X10_leafletAt G hL l hX0 ω x y a hs0 sn tx ln tt v hsn hXA hx0 hA hW0 lf) (cwV 1 hts gX10_stepOf_X10_leafletAt rfl rfl rfl (by decide +kernel) ⟨Nat.le_of_ble_eq_true rfl, Nat.le_of_ble_eq_true rfl⟩) (fw_preV hW hK hR hx0 rfl) rfl rfl hl.1 rfl (lv_room (Nat.le_of_ble_eq_true rfl)) dX10_stepOf_2 ⟨Nat.le_of_ble_eq_true rfl, Nat.le_of_ble_eq_true rfl⟩) hS (fun E_1 ce_1 q_1 τ_1 H locs hx_1 hR hS hce_1 hcv_1 hcl_1 => ?_) (fun v_1 ω_1 H locs hq_1 hR hS => ?_)
  · skip
    obtain ⟨rfl, hc_1, hw_1⟩ := hx_1
    have hr_2 : stepOfC v lf sp wh = ((0, 1) : Int32 × Int32) := by
      simp only [stepOfC, hcc, hdd]
      rw [if_neg hc_1]
    exact fx_out ht9 hlocks ⟨by rw [hr_2]; exact Or.inl ⟨rfl, rfl⟩, hw_1⟩ hR hS hce_1 hcv_1 hcl_1 (by first | omega | decide) (by first | omega | decide)
  · skip
    refine W.widen (k := 1) (n := 6) (by first | omega | decide) (by first | omega | decide) ?_
    obtain ⟨hc_1, rfl, hw_1⟩ := hq_1
    rw [hw_1] at hR
    obtain ⟨j, hj2, rfl⟩ := in_c hc hc8 hc_1
    have hcj : cN (nI j) = j := cN_nI (by omega)
    refine W.eq (g2 := F0 mI 5 ls [.ref (a + 6 + 5 * j)]) (by rw [hcj]; rfl) ?_
    refine lv_astore (lv' := [(4, .ref (a + 6 + 5 * j)), (0, .ref x), (1, .int (nI j)), (2, .int sp), (3, .int wh)]) hx hb dX10_stepOf_5 hl (by decide) rfl (fun ls hl => ?_)
    refine lv_aload_n hx hb dX10_stepOf_7 rfl (lv_at hl 1 rfl) ?_
    refine lv_aload hx hb dX10_stepOf_8 (lv_at hl 0 rfl) ?_
    refine lv_iload_n hx hb dX10_stepOf_10 rfl (lv_at hl 3 rfl) ?_
    refine fx_call (vx_runV (As := [.ref (a + 6 + 5 * j), .int sp]) (rest := []) ⟨hx, hb, hml, hown, hts⟩ (c_X10_requireStep G hL l hX0 ω x (a + 6 + 5 * j) j v (hLf j (by omega)) sp) (cwV 2 hts gX10_stepOf_X10_requireStep rfl rfl rfl (by decide +kernel) ⟨Nat.le_of_ble_eq_true rfl, Nat.le_of_ble_eq_true rfl⟩) (fw_preV hW hK hR hx0 rfl) rfl rfl hl.1 rfl (lv_room (Nat.le_of_ble_eq_true rfl)) dX10_stepOf_11 ⟨Nat.le_of_ble_eq_true rfl, Nat.le_of_ble_eq_true rfl⟩) hS (fun E_3 ce_3 q_3 τ_3 H locs hx_3 hR hS hce_3 hcv_3 hcl_3 => ?_) (fun v_3 ω_3 H locs hq_3 hR hS => ?_)
    · skip
      obtain ⟨rfl, hc_3, hw_3⟩ := hx_3
      have hr_4 : stepOfC v (nI j) sp wh = ((0, 2) : Int32 × Int32) := by
        simp only [stepOfC, hcc, hdd, hcj]
        rw [if_pos hc_1, if_neg hc_3]
      exact fx_out ht9 hlocks ⟨by rw [hr_4]; exact Or.inr (Or.inl ⟨rfl, rfl⟩), hw_3⟩ hR hS hce_3 hcv_3 hcl_3 (by first | omega | decide) (by first | omega | decide)
    · skip
      refine W.widen (k := 2) (n := 12) (by first | omega | decide) (by first | omega | decide) ?_
      obtain ⟨hc_3, rfl, hw_3⟩ := hq_3
      rw [hw_3] at hR
      obtain ⟨q, hq2, rfl⟩ := in_c (hs j hj2).1 (hs j hj2).2 hc_3
      have hq8 : q < 8 := Nat.lt_of_lt_of_le hq2 (hs j hj2).2
      have hcq : cN (nI q) = q := cN_nI (by omega)
      refine W.eq (g2 := F0 mI 14 ls []) rfl ?_
      refine lv_iload_n hx hb dX10_stepOf_14 rfl (lv_at hl 4 rfl) ?_
      by_cases c_5 : wh = 0
      · skip
        refine lv_tableIn (off := 33) (tgt := 48) hx hb dX10_stepOf_15 (by rw [c_5]; decide) (by rw [c_5]; decide) (by rw [c_5]; rfl) (by decide) ?_
        refine lv_aload hx hb dX10_stepOf_48 (lv_at hl 0 rfl) ?_
        have f_6 : ω.2 (a + 6 + 5 * j) = some (.inr (7, [.int (v 3 j), .int (v 4 j), .int (v 5 j), .int (v 6 j - 1), .int (v 7 j), .ref (a + 6 + 5 * j + 1), .ref (a + 6 + 5 * j + 2), .ref (a + 6 + 5 * j + 3), .ref (a + 6 + 5 * j + 4)])) := (hLf j (by omega)).1
        refine fw_get (v := .ref (a + 6 + 5 * j + 1)) (C := RX5) (T := TX5) (N := 9) hx hb hts hin5 hown hK hR f_6 rfl 5 (by decide) (hts (.fieldLink RX10 157 "UnreadLeaflets$Leaflet" "kinds" "[I") (by decide +kernel)) rfl dX10_stepOf_50 ?_
        refine lv_iload_n hx hb dX10_stepOf_53 rfl (lv_at hl 3 rfl) ?_
        have f_7 : ω.2 (a + 6 + 5 * j + 1) = some (.inl (G.2.1 0, 8, .inl (v (10 + j)))) := (hLf j (by omega)).2.1
        refine fw_iald hx hb hK hR f_7 (vp_in_nI (by omega) (by omega)) dX10_stepOf_54 ?_
        refine W.eq (g2 := F0 mI 55 ls [.int ((v (10 + j)) q)]) (by rw [nI_clamp (by omega)]) ?_
        refine W.widen (k := 3) (n := 18) (by first | omega | decide) (by first | omega | decide) ?_
        refine vx_ret ?_
        have hr_8 : stepOfC v (nI j) (nI q) wh = (((v (10 + j)) q, 0) : Int32 × Int32) := by
          simp only [stepOfC, hcc, hdd, hcj, hcq]
          rw [if_pos hc_1, if_pos hc_3, if_pos c_5]
        exact fw_iret hx hb hr hlocks hR hS dX10_stepOf_55 ⟨by rw [hr_8], by rw [hr_8], rfl⟩
      by_cases c_9 : wh = 1
      · skip
        refine lv_tableIn (off := 41) (tgt := 56) hx hb dX10_stepOf_15 (by rw [c_9]; decide) (by rw [c_9]; decide) (by rw [c_9]; rfl) (by decide) ?_
        refine lv_aload hx hb dX10_stepOf_56 (lv_at hl 0 rfl) ?_
        refine lv_iload_n hx hb dX10_stepOf_58 rfl (lv_at hl 3 rfl) ?_
        have f_10 : ω.2 (a + 6 + 5 * j) = some (.inr (7, [.int (v 3 j), .int (v 4 j), .int (v 5 j), .int (v 6 j - 1), .int (v 7 j), .ref (a + 6 + 5 * j + 1), .ref (a + 6 + 5 * j + 2), .ref (a + 6 + 5 * j + 3), .ref (a + 6 + 5 * j + 4)])) := (hLf j (by omega)).1
        refine fw_call (va_runV (As := [.int (nI q)]) (rest := []) ⟨hx, hb, hml, hown, hts⟩ (c_X5_partsOfStep G hL l ω (a + 6 + 5 * j) j v (hLf j (by omega))  q (by omega)) (cwV 1 hts gX10_stepOf_X5_partsOfStep rfl rfl rfl (by decide +kernel) ⟨Nat.le_of_ble_eq_true rfl, Nat.le_of_ble_eq_true rfl⟩) (fw_preV hW hK hR f_10 rfl) rfl rfl hl.1 rfl (lv_room (Nat.le_of_ble_eq_true rfl)) dX10_stepOf_59 ⟨Nat.le_of_ble_eq_true rfl, Nat.le_of_ble_eq_true rfl⟩) hS (fun v_11 ω_12 H locs hq_13 hR hS => ?_)
        obtain ⟨rfl, hq_13⟩ := hq_13
        rw [hq_13] at hR
        refine W.eq (g2 := F0 mI 62 ls [.int (psJ v j q)]) rfl ?_
        refine W.widen (k := 3) (n := 18) (by first | omega | decide) (by first | omega | decide) ?_
        refine vx_ret ?_
        have hr_14 : stepOfC v (nI j) (nI q) wh = ((psJ v j q, 0) : Int32 × Int32) := by
          simp only [stepOfC, hcc, hdd, hcj, hcq]
          rw [if_pos hc_1, if_pos hc_3, if_neg c_5, if_pos c_9]
        exact fw_iret hx hb hr hlocks hR hS dX10_stepOf_62 ⟨by rw [hr_14], by rw [hr_14], rfl⟩
      by_cases c_15 : wh = 2
      · skip
        refine lv_tableIn (off := 48) (tgt := 63) hx hb dX10_stepOf_15 (by rw [c_15]; decide) (by rw [c_15]; decide) (by rw [c_15]; rfl) (by decide) ?_
        refine lv_aload hx hb dX10_stepOf_63 (lv_at hl 0 rfl) ?_
        have f_16 : ω.2 (a + 6 + 5 * j) = some (.inr (7, [.int (v 3 j), .int (v 4 j), .int (v 5 j), .int (v 6 j - 1), .int (v 7 j), .ref (a + 6 + 5 * j + 1), .ref (a + 6 + 5 * j + 2), .ref (a + 6 + 5 * j + 3), .ref (a + 6 + 5 * j + 4)])) := (hLf j (by omega)).1
        refine fw_get (v := .ref (a + 6 + 5 * j + 3)) (C := RX5) (T := TX5) (N := 9) hx hb hts hin5 hown hK hR f_16 rfl 7 (by decide) (hts (.fieldLink RX10 164 "UnreadLeaflets$Leaflet" "languages" "[I") (by decide +kernel)) rfl dX10_stepOf_65 ?_
        refine lv_iload_n hx hb dX10_stepOf_68 rfl (lv_at hl 3 rfl) ?_
        have f_17 : ω.2 (a + 6 + 5 * j + 3) = some (.inl (G.2.1 0, 8, .inl (v (30 + j)))) := (hLf j (by omega)).2.2.2.1
        refine fw_iald hx hb hK hR f_17 (vp_in_nI (by omega) (by omega)) dX10_stepOf_69 ?_
        refine W.eq (g2 := F0 mI 70 ls [.int ((v (30 + j)) q)]) (by rw [nI_clamp (by omega)]) ?_
        refine W.widen (k := 3) (n := 18) (by first | omega | decide) (by first | omega | decide) ?_
        refine vx_ret ?_
        have hr_18 : stepOfC v (nI j) (nI q) wh = (((v (30 + j)) q, 0) : Int32 × Int32) := by
          simp only [stepOfC, hcc, hdd, hcj, hcq]
          rw [if_pos hc_1, if_pos hc_3, if_neg c_5, if_neg c_9, if_pos c_15]
        exact fw_iret hx hb hr hlocks hR hS dX10_stepOf_70 ⟨by rw [hr_18], by rw [hr_18], rfl⟩
      by_cases c_19 : wh = 3
      · skip
        refine lv_tableIn (off := 56) (tgt := 71) hx hb dX10_stepOf_15 (by rw [c_19]; decide) (by rw [c_19]; decide) (by rw [c_19]; rfl) (by decide) ?_
        refine lv_aload hx hb dX10_stepOf_71 (lv_at hl 0 rfl) ?_
        have f_20 : ω.2 (a + 6 + 5 * j) = some (.inr (7, [.int (v 3 j), .int (v 4 j), .int (v 5 j), .int (v 6 j - 1), .int (v 7 j), .ref (a + 6 + 5 * j + 1), .ref (a + 6 + 5 * j + 2), .ref (a + 6 + 5 * j + 3), .ref (a + 6 + 5 * j + 4)])) := (hLf j (by omega)).1
        refine fw_get (v := .ref (a + 6 + 5 * j + 4)) (C := RX5) (T := TX5) (N := 9) hx hb hts hin5 hown hK hR f_20 rfl 8 (by decide) (hts (.fieldLink RX10 167 "UnreadLeaflets$Leaflet" "sides" "[I") (by decide +kernel)) rfl dX10_stepOf_73 ?_
        refine lv_iload_n hx hb dX10_stepOf_76 rfl (lv_at hl 3 rfl) ?_
        have f_21 : ω.2 (a + 6 + 5 * j + 4) = some (.inl (G.2.1 0, 8, .inl (fun i9 => v (40 + j) i9 + 1))) := (hLf j (by omega)).2.2.2.2
        refine fw_iald hx hb hK hR f_21 (vp_in_nI (by omega) (by omega)) dX10_stepOf_77 ?_
        refine W.eq (g2 := F0 mI 78 ls [.int (v (40 + j) q + 1)]) (by rw [nI_clamp (by omega)]) ?_
        refine lv_iconst (v := 1) hx hb dX10_stepOf_78 (by decide) ?_
        refine lv_isub hx hb dX10_stepOf_79 ?_
        refine W.widen (k := 3) (n := 18) (by first | omega | decide) (by first | omega | decide) ?_
        refine vx_ret ?_
        have hr_22 : stepOfC v (nI j) (nI q) wh = (((v (40 + j) q + 1) - 1, 0) : Int32 × Int32) := by
          simp only [stepOfC, hcc, hdd, hcj, hcq]
          rw [if_pos hc_1, if_pos hc_3, if_neg c_5, if_neg c_9, if_neg c_15, if_pos c_19]
        exact fw_iret hx hb hr hlocks hR hS dX10_stepOf_80 ⟨by rw [hr_22], by rw [hr_22], rfl⟩
      by_cases c_23 : wh = 4
      · skip
        refine lv_tableIn (off := 66) (tgt := 81) hx hb dX10_stepOf_15 (by rw [c_23]; decide) (by rw [c_23]; decide) (by rw [c_23]; rfl) (by decide) ?_
        refine lv_aload hx hb dX10_stepOf_81 (lv_at hl 0 rfl) ?_
        refine lv_iload_n hx hb dX10_stepOf_83 rfl (lv_at hl 3 rfl) ?_
        have f_24 : ω.2 (a + 6 + 5 * j) = some (.inr (7, [.int (v 3 j), .int (v 4 j), .int (v 5 j), .int (v 6 j - 1), .int (v 7 j), .ref (a + 6 + 5 * j + 1), .ref (a + 6 + 5 * j + 2), .ref (a + 6 + 5 * j + 3), .ref (a + 6 + 5 * j + 4)])) := (hLf j (by omega)).1
        refine fw_call (va_runV (As := [.int (nI q)]) (rest := []) ⟨hx, hb, hml, hown, hts⟩ (c_X5_isSkipped G hL l ω (a + 6 + 5 * j) j v (hLf j (by omega))  (nI q)) (cwV 1 hts gX10_stepOf_X5_isSkipped rfl rfl rfl (by decide +kernel) ⟨Nat.le_of_ble_eq_true rfl, Nat.le_of_ble_eq_true rfl⟩) (fw_preV hW hK hR f_24 rfl) rfl rfl hl.1 rfl (lv_room (Nat.le_of_ble_eq_true rfl)) dX10_stepOf_84 ⟨Nat.le_of_ble_eq_true rfl, Nat.le_of_ble_eq_true rfl⟩) hS (fun v_25 ω_26 H locs hq_27 hR hS => ?_)
        obtain ⟨rfl, hq_27⟩ := hq_27
        rw [hq_27] at hR
        refine W.eq (g2 := F0 mI 87 ls [.int (bz (hasB (v 7 j) (nI q)))]) rfl ?_
        refine lv_if_eq (tgt := 94) hx hb dX10_stepOf_87 (by decide) (fun c_28 => ?_) (fun c_28 => ?_)
        · skip
          have c_28 := bz_eq c_28
          refine lv_iconst (v := 0) hx hb dX10_stepOf_94 (by decide) ?_
          refine W.widen (k := 3) (n := 18) (by first | omega | decide) (by first | omega | decide) ?_
          refine vx_ret ?_
          have hr_29 : stepOfC v (nI j) (nI q) wh = ((0, 0) : Int32 × Int32) := by
            simp only [stepOfC, hcc, hdd, hcj, hcq]
            rw [if_pos hc_1, if_pos hc_3, if_neg c_5, if_neg c_9, if_neg c_15, if_neg c_19, if_pos c_23, if_neg c_28]
          exact fw_iret hx hb hr hlocks hR hS dX10_stepOf_95 ⟨by rw [hr_29], by rw [hr_29], rfl⟩
        · skip
          have c_28 := bz_ne c_28
          refine lv_iconst (v := 1) hx hb dX10_stepOf_90 (by decide) ?_
          refine lv_goto (tgt := 95) hx hb dX10_stepOf_91 (by decide) ?_
          refine W.widen (k := 3) (n := 18) (by first | omega | decide) (by first | omega | decide) ?_
          refine vx_ret ?_
          have hr_30 : stepOfC v (nI j) (nI q) wh = ((1, 0) : Int32 × Int32) := by
            simp only [stepOfC, hcc, hdd, hcj, hcq]
            rw [if_pos hc_1, if_pos hc_3, if_neg c_5, if_neg c_9, if_neg c_15, if_neg c_19, if_pos c_23, if_pos c_28]
          exact fw_iret hx hb hr hlocks hR hS dX10_stepOf_95 ⟨by rw [hr_30], by rw [hr_30], rfl⟩
      have tc_5 := lv_neT c_5 (show (0 : Int32).toInt = 0 by decide)
      have tc_9 := lv_neT c_9 (show (1 : Int32).toInt = 1 by decide)
      have tc_15 := lv_neT c_15 (show (2 : Int32).toInt = 2 by decide)
      have tc_19 := lv_neT c_19 (show (3 : Int32).toInt = 3 by decide)
      have tc_23 := lv_neT c_23 (show (4 : Int32).toInt = 4 by decide)
      refine lv_tableOut (tgt := 96) hx hb dX10_stepOf_15 (by omega) (by decide) ?_
      have hr_31 : stepOfC v (nI j) (nI q) wh = ((0, 3) : Int32 × Int32) := by
        simp only [stepOfC, hcc, hdd, hcj, hcq]
        rw [if_pos hc_1, if_pos hc_3, if_neg c_5, if_neg c_9, if_neg c_15, if_neg c_19, if_neg c_23]
      exact fx_throw (ω := ω) (τ := ω) (cls := "java/lang/IllegalArgumentException") (text := "no such number of a step") (ws := wsX10_stepOf) hx hb hX0 hW hts hown (by decide) (by decide) (by decide +kernel) (by decide +kernel) (by decide) (fun w9 h9 => List.mem_cons_of_mem _ (List.mem_append_left _ (List.mem_append_left _ (List.mem_append_right _ h9)))) xn_152 xg_152 hR0 hR hS (hl.1.trans hml.symm) dX10_stepOf_96 dX10_stepOf_99 dX10_stepOf_100 dX10_stepOf_102 dX10_stepOf_105 ht9 (by decide) (Nat.le_of_ble_eq_true rfl) (Nat.le_of_ble_eq_true rfl) (Nat.le_of_ble_eq_true rfl) hlocks (fun n9 => ⟨by rw [hr_31]; exact Or.inr (Or.inr ⟨rfl, rfl⟩), rfl⟩) (Nat.le_of_ble_eq_true rfl) (Nat.le_of_ble_eq_true rfl)
def cousOfC (v : Nat → Nat → Int32) (co : Int32) (wh : Int32) : Int32 × Int32 :=
  if inB co 0 (v 0 1 - 1) then (if wh = 0 then ((v 8 (cN co), 0)) else (if wh = 1 then ((v 9 (cN co), 0)) else (if wh = 2 then ((popF (v 9 (cN co)), 0)) else (if wh = 3 then ((sumJ (fun z9 => if v 6 z9 - 1 = (co) then 1 else 0) (cN (v 0 0)), 0)) else (if wh = 4 then ((sumJ (fun z9 => if v 6 z9 - 1 = (co) then popF (v 7 z9) else 0) (cN (v 0 0)), 0)) else ((0, 2))))))) else ((0, 1))
set_option maxHeartbeats 4000000 in
set_option maxRecDepth 100000 in
theorem c_X10_cousinOf (G : FG) (hL : FL G) (l : Launch) (hX0 : FX0 G l) (ω : FWd) (x y a hs0 sn tx ln tt : Nat) (v : Nat → Nat → Int32) (hsn : Int32) (hXA : XA x y a hs0 sn tx ln tt) (hx0 : ω.2 x = some (.inr (12, [.ref y, .ref a, .ref (a + 51), .ref hs0, .ref sn, .int hsn, .ref tx, .ref ln, .ref tt]))) (hA : ArcS G ω.2 a v) (hW0 : WF v) (co : Int32) (wh : Int32) : FMetX G l yX10_cousinOf wsX10_cousinOf ({ frames := 7, cells := 2, slots := 12, locals := 121 } : Room) [.ref x, .int co, .int wh] ω (fun vv9 τ9 => vv9 = some (.int (cousOfC v co wh).1) ∧ (cousOfC v co wh).2 = 0 ∧ τ9 = ω) (fun E9 τ9 => XC2 "java/lang/IndexOutOfBoundsException" "java/lang/IllegalArgumentException" (cousOfC v co wh).2 E9 ∧ τ9.2 = ω.2) 2 12 := by
  refine fx_ofW (cc := cX10_cousinOf) (maxL := 4) (ret := (some .int)) (by decide) rfl (Nat.le_of_ble_eq_true rfl) ?_
  intro pP eE sS mI ar9 bl9 meth cD ls hx hb hr hlocks hml hts hown hnm hW hR ht9 hl
  have hK := hL.K hW
  have hR0 := hR
  have hS : va_S (fwA G) sS.heap sS.heap [] := va_S.rf
  have hin3 : ∀ w ∈ u_ws RX3 TX3 2, w ∈ wsX10_cousinOf := by decide +kernel
  have hin10 : ∀ w ∈ u_ws RX10 TX10 9, w ∈ wsX10_cousinOf := by decide +kernel
  have hl : lv_has ls 4 [(0, .ref x), (1, .int co), (2, .int wh)] := hl
  obtain ⟨h0, h1, h2, h3, h4, h5, hLf, hCo⟩ := id hA
  obtain ⟨hxy, hxa, hxh, hxs, hxt, hxl, hxu⟩ := id hXA
  obtain ⟨c, hc8, hc, hcc⟩ := okN_of hW0.1
  obtain ⟨cc, hd5, hd, hdd⟩ := okN_of hW0.2.1
  have hs : ∀ j, j < c → v 3 j = nI (stN v j) ∧ stN v j ≤ 8 := fun j hj => (hW0.2.2 j (by rw [hcc]; exact hj)).1
  have hfo : ∀ j, j < c → v 4 j = nI (cN (v 4 j)) ∧ cN (v 4 j) ≤ 3 := fun j hj => (hW0.2.2 j (by rw [hcc]; exact hj)).2
  refine lv_aload_n hx hb dX10_cousinOf_0 rfl (lv_at hl 0 rfl) ?_
  refine lv_iload_n hx hb dX10_cousinOf_1 rfl (lv_at hl 1 rfl) ?_
  refine fx_call (vx_runV (As := [.int co]) (rest := []) ⟨hx, hb, hml, hown, hts⟩ (c_X10_cousinAt G hL l hX0 ω x y a hs0 sn tx ln tt v hsn hXA hx0 hA hW0 co) (cwV 1 hts gX10_cousinOf_X10_cousinAt rfl rfl rfl (by decide +kernel) ⟨Nat.le_of_ble_eq_true rfl, Nat.le_of_ble_eq_true rfl⟩) (fw_preV hW hK hR hx0 rfl) rfl rfl hl.1 rfl (lv_room (Nat.le_of_ble_eq_true rfl)) dX10_cousinOf_2 ⟨Nat.le_of_ble_eq_true rfl, Nat.le_of_ble_eq_true rfl⟩) hS (fun E_1 ce_1 q_1 τ_1 H locs hx_1 hR hS hce_1 hcv_1 hcl_1 => ?_) (fun v_1 ω_1 H locs hq_1 hR hS => ?_)
  · skip
    obtain ⟨rfl, hc_1, hw_1⟩ := hx_1
    have hr_2 : cousOfC v co wh = ((0, 1) : Int32 × Int32) := by
      simp only [cousOfC, hcc, hdd]
      rw [if_neg hc_1]
    exact fx_out ht9 hlocks ⟨by rw [hr_2]; exact Or.inl ⟨rfl, rfl⟩, hw_1⟩ hR hS hce_1 hcv_1 hcl_1 (by first | omega | decide) (by first | omega | decide)
  · skip
    refine W.widen (k := 1) (n := 6) (by first | omega | decide) (by first | omega | decide) ?_
    obtain ⟨hc_1, rfl, hw_1⟩ := hq_1
    rw [hw_1] at hR
    obtain ⟨i, hi2, rfl⟩ := in_c hd (by omega) hc_1
    have hci : cN (nI i) = i := cN_nI (by omega)
    refine W.eq (g2 := F0 mI 5 ls [.ref (a + 46 + i)]) (by rw [hci]; rfl) ?_
    refine lv_astore_n (lv' := [(3, .ref (a + 46 + i)), (0, .ref x), (1, .int (nI i)), (2, .int wh)]) hx hb dX10_cousinOf_5 rfl hl (by decide) rfl (fun ls hl => ?_)
    refine lv_iload_n hx hb dX10_cousinOf_6 rfl (lv_at hl 3 rfl) ?_
    by_cases c_3 : wh = 0
    · skip
      refine lv_tableIn (off := 33) (tgt := 40) hx hb dX10_cousinOf_7 (by rw [c_3]; decide) (by rw [c_3]; decide) (by rw [c_3]; rfl) (by decide) ?_
      refine lv_aload_n hx hb dX10_cousinOf_40 rfl (lv_at hl 0 rfl) ?_
      have f_4 : ω.2 (a + 46 + i) = some (.inr (5, [.int (v 8 i), .int (v 9 i)])) := hCo i (by omega)
      refine fw_get (v := .int (v 8 i)) (C := RX3) (T := TX3) (N := 2) hx hb hts hin3 hown hK hR f_4 rfl 0 (by decide) (hts (.fieldLink RX10 180 "UnreadLeaflets$Cousin" "boast" "I") (by decide +kernel)) rfl dX10_cousinOf_41 ?_
      refine W.widen (k := 2) (n := 12) (by first | omega | decide) (by first | omega | decide) ?_
      refine vx_ret ?_
      have hr_5 : cousOfC v (nI i) wh = ((v 8 i, 0) : Int32 × Int32) := by
        simp only [cousOfC, hcc, hdd, hci]
        rw [if_pos hc_1, if_pos c_3]
      exact fw_iret hx hb hr hlocks hR hS dX10_cousinOf_44 ⟨by rw [hr_5], by rw [hr_5], rfl⟩
    by_cases c_6 : wh = 1
    · skip
      refine lv_tableIn (off := 38) (tgt := 45) hx hb dX10_cousinOf_7 (by rw [c_6]; decide) (by rw [c_6]; decide) (by rw [c_6]; rfl) (by decide) ?_
      refine lv_aload_n hx hb dX10_cousinOf_45 rfl (lv_at hl 0 rfl) ?_
      have f_7 : ω.2 (a + 46 + i) = some (.inr (5, [.int (v 8 i), .int (v 9 i)])) := hCo i (by omega)
      refine fw_get (v := .int (v 9 i)) (C := RX3) (T := TX3) (N := 2) hx hb hts hin3 hown hK hR f_7 rfl 1 (by decide) (hts (.fieldLink RX10 185 "UnreadLeaflets$Cousin" "languages" "I") (by decide +kernel)) rfl dX10_cousinOf_46 ?_
      refine W.widen (k := 2) (n := 12) (by first | omega | decide) (by first | omega | decide) ?_
      refine vx_ret ?_
      have hr_8 : cousOfC v (nI i) wh = ((v 9 i, 0) : Int32 × Int32) := by
        simp only [cousOfC, hcc, hdd, hci]
        rw [if_pos hc_1, if_neg c_3, if_pos c_6]
      exact fw_iret hx hb hr hlocks hR hS dX10_cousinOf_49 ⟨by rw [hr_8], by rw [hr_8], rfl⟩
    by_cases c_9 : wh = 2
    · skip
      refine lv_tableIn (off := 43) (tgt := 50) hx hb dX10_cousinOf_7 (by rw [c_9]; decide) (by rw [c_9]; decide) (by rw [c_9]; rfl) (by decide) ?_
      refine lv_aload_n hx hb dX10_cousinOf_50 rfl (lv_at hl 0 rfl) ?_
      have f_10 : ω.2 (a + 46 + i) = some (.inr (5, [.int (v 8 i), .int (v 9 i)])) := hCo i (by omega)
      refine fw_get (v := .int (v 9 i)) (C := RX3) (T := TX3) (N := 2) hx hb hts hin3 hown hK hR f_10 rfl 1 (by decide) (hts (.fieldLink RX10 185 "UnreadLeaflets$Cousin" "languages" "I") (by decide +kernel)) rfl dX10_cousinOf_51 ?_
      refine fw_call (va_runS (As := [.int (v 9 i)]) (rest := []) ⟨hx, hb, hml, hown, hts⟩ (c_J6_bitCount_0f7a4 G hL l ω (v 9 i)) (va_cwS 1 hts gX10_cousinOf_J6_bitCount_0f7a4 rfl rfl rfl (by decide +kernel) ⟨Nat.le_of_ble_eq_true rfl, Nat.le_of_ble_eq_true rfl⟩) (fw_preS hW hR) rfl rfl hl.1 rfl (lv_room (Nat.le_of_ble_eq_true rfl)) dX10_cousinOf_54 ⟨Nat.le_of_ble_eq_true rfl, Nat.le_of_ble_eq_true rfl⟩) hS (fun v_11 ω_12 H locs hq_13 hR hS => ?_)
      obtain ⟨rfl, hq_13⟩ := hq_13
      rw [hq_13] at hR
      refine W.eq (g2 := F0 mI 57 ls [.int (popF (v 9 i))]) rfl ?_
      refine W.widen (k := 2) (n := 12) (by first | omega | decide) (by first | omega | decide) ?_
      refine vx_ret ?_
      have hr_14 : cousOfC v (nI i) wh = ((popF (v 9 i), 0) : Int32 × Int32) := by
        simp only [cousOfC, hcc, hdd, hci]
        rw [if_pos hc_1, if_neg c_3, if_neg c_6, if_pos c_9]
      exact fw_iret hx hb hr hlocks hR hS dX10_cousinOf_57 ⟨by rw [hr_14], by rw [hr_14], rfl⟩
    by_cases c_15 : wh = 3
    · skip
      refine lv_tableIn (off := 51) (tgt := 58) hx hb dX10_cousinOf_7 (by rw [c_15]; decide) (by rw [c_15]; decide) (by rw [c_15]; rfl) (by decide) ?_
      refine lv_aload_n hx hb dX10_cousinOf_58 rfl (lv_at hl 1 rfl) ?_
      refine fw_get (v := .ref a) (C := RX10) (T := TX10) (N := 9) hx hb hts hin10 hown hK hR hx0 rfl 1 (by decide) (hts (.fieldLink RX10 20 "UnreadLeaflets" "archive" "LUnreadLeaflets$Archive;") (by decide +kernel)) rfl dX10_cousinOf_59 ?_
      refine lv_iload_n hx hb dX10_cousinOf_62 rfl (lv_at hl 2 rfl) ?_
      refine fw_call (va_runV (As := [.int (nI i)]) (rest := []) ⟨hx, hb, hml, hown, hts⟩ (c_X0_leafletsBuiltBy G hL l ω a v hA c hc hc8 (nI i) ) (cwV 1 hts gX10_cousinOf_X0_leafletsBuiltBy rfl rfl rfl (by decide +kernel) ⟨Nat.le_of_ble_eq_true rfl, Nat.le_of_ble_eq_true rfl⟩) (fw_preV hW hK hR h0 rfl) rfl rfl hl.1 rfl (lv_room (Nat.le_of_ble_eq_true rfl)) dX10_cousinOf_63 ⟨Nat.le_of_ble_eq_true rfl, Nat.le_of_ble_eq_true rfl⟩) hS (fun v_16 ω_17 H locs hq_18 hR hS => ?_)
      obtain ⟨rfl, hq_18⟩ := hq_18
      rw [hq_18] at hR
      refine W.eq (g2 := F0 mI 66 ls [.int (sumJ (fun z9 => if v 6 z9 - 1 = (nI i) then 1 else 0) c)]) rfl ?_
      refine W.widen (k := 2) (n := 12) (by first | omega | decide) (by first | omega | decide) ?_
      refine vx_ret ?_
      have hr_19 : cousOfC v (nI i) wh = ((sumJ (fun z9 => if v 6 z9 - 1 = (nI i) then 1 else 0) c, 0) : Int32 × Int32) := by
        simp only [cousOfC, hcc, hdd, hci]
        rw [if_pos hc_1, if_neg c_3, if_neg c_6, if_neg c_9, if_pos c_15]
      exact fw_iret hx hb hr hlocks hR hS dX10_cousinOf_66 ⟨by rw [hr_19], by rw [hr_19], rfl⟩
    by_cases c_20 : wh = 4
    · skip
      refine lv_tableIn (off := 60) (tgt := 67) hx hb dX10_cousinOf_7 (by rw [c_20]; decide) (by rw [c_20]; decide) (by rw [c_20]; rfl) (by decide) ?_
      refine lv_aload_n hx hb dX10_cousinOf_67 rfl (lv_at hl 1 rfl) ?_
      refine fw_get (v := .ref a) (C := RX10) (T := TX10) (N := 9) hx hb hts hin10 hown hK hR hx0 rfl 1 (by decide) (hts (.fieldLink RX10 20 "UnreadLeaflets" "archive" "LUnreadLeaflets$Archive;") (by decide +kernel)) rfl dX10_cousinOf_68 ?_
      refine lv_iload_n hx hb dX10_cousinOf_71 rfl (lv_at hl 2 rfl) ?_
      refine fw_call (va_runV (As := [.int (nI i)]) (rest := []) ⟨hx, hb, hml, hown, hts⟩ (c_X0_stepsSkippedBy G hL l ω a v hA c hc hc8 (nI i) ) (cwV 1 hts gX10_cousinOf_X0_stepsSkippedBy rfl rfl rfl (by decide +kernel) ⟨Nat.le_of_ble_eq_true rfl, Nat.le_of_ble_eq_true rfl⟩) (fw_preV hW hK hR h0 rfl) rfl rfl hl.1 rfl (lv_room (Nat.le_of_ble_eq_true rfl)) dX10_cousinOf_72 ⟨Nat.le_of_ble_eq_true rfl, Nat.le_of_ble_eq_true rfl⟩) hS (fun v_21 ω_22 H locs hq_23 hR hS => ?_)
      obtain ⟨rfl, hq_23⟩ := hq_23
      rw [hq_23] at hR
      refine W.eq (g2 := F0 mI 75 ls [.int (sumJ (fun z9 => if v 6 z9 - 1 = (nI i) then popF (v 7 z9) else 0) c)]) rfl ?_
      refine W.widen (k := 2) (n := 12) (by first | omega | decide) (by first | omega | decide) ?_
      refine vx_ret ?_
      have hr_24 : cousOfC v (nI i) wh = ((sumJ (fun z9 => if v 6 z9 - 1 = (nI i) then popF (v 7 z9) else 0) c, 0) : Int32 × Int32) := by
        simp only [cousOfC, hcc, hdd, hci]
        rw [if_pos hc_1, if_neg c_3, if_neg c_6, if_neg c_9, if_neg c_15, if_pos c_20]
      exact fw_iret hx hb hr hlocks hR hS dX10_cousinOf_75 ⟨by rw [hr_24], by rw [hr_24], rfl⟩
    have tc_3 := lv_neT c_3 (show (0 : Int32).toInt = 0 by decide)
    have tc_6 := lv_neT c_6 (show (1 : Int32).toInt = 1 by decide)
    have tc_9 := lv_neT c_9 (show (2 : Int32).toInt = 2 by decide)
    have tc_15 := lv_neT c_15 (show (3 : Int32).toInt = 3 by decide)
    have tc_20 := lv_neT c_20 (show (4 : Int32).toInt = 4 by decide)
    refine lv_tableOut (tgt := 76) hx hb dX10_cousinOf_7 (by omega) (by decide) ?_
    have hr_25 : cousOfC v (nI i) wh = ((0, 2) : Int32 × Int32) := by
      simp only [cousOfC, hcc, hdd, hci]
      rw [if_pos hc_1, if_neg c_3, if_neg c_6, if_neg c_9, if_neg c_15, if_neg c_20]
    exact fx_throw (ω := ω) (τ := ω) (cls := "java/lang/IllegalArgumentException") (text := "no such number of a cousin") (ws := wsX10_cousinOf) hx hb hX0 hW hts hown (by decide) (by decide) (by decide +kernel) (by decide +kernel) (by decide) (fun w9 h9 => List.mem_cons_of_mem _ (List.mem_append_left _ (List.mem_append_right _ h9))) xn_152 xg_152 hR0 hR hS (hl.1.trans hml.symm) dX10_cousinOf_76 dX10_cousinOf_79 dX10_cousinOf_80 dX10_cousinOf_82 dX10_cousinOf_85 ht9 (by decide) (Nat.le_of_ble_eq_true rfl) (Nat.le_of_ble_eq_true rfl) (Nat.le_of_ble_eq_true rfl) hlocks (fun n9 => ⟨by rw [hr_25]; exact Or.inr (⟨rfl, rfl⟩), rfl⟩) (Nat.le_of_ble_eq_true rfl) (Nat.le_of_ble_eq_true rfl)
def whyC (v : Nat → Nat → Int32) (co : Int32) (lf : Int32) (sp : Int32) : Int32 × Int32 :=
  if inB co 0 (v 0 1 - 1) then (if inB lf 0 (v 0 0 - 1) then (if inB sp 0 (v 3 (cN lf) - 1) then (if (sp) < (openJ (v 3 (cN lf)) (cN (v 4 (cN lf)))) then (if (((v (30 + (cN lf))) (cN sp)) &&& (v 9 (cN co))) = 0 then ((2, 0)) else (if (v 8 (cN co)) ≤ (psJ v (cN lf) (cN sp)) then ((0, 0)) else ((3, 0)))) else ((1, 0))) else ((0, 2))) else ((0, 1))) else ((0, 1))
set_option maxHeartbeats 4000000 in
set_option maxRecDepth 100000 in
theorem c_X10_why (G : FG) (hL : FL G) (l : Launch) (hX0 : FX0 G l) (ω : FWd) (x y a hs0 sn tx ln tt : Nat) (v : Nat → Nat → Int32) (hsn : Int32) (hXA : XA x y a hs0 sn tx ln tt) (hx0 : ω.2 x = some (.inr (12, [.ref y, .ref a, .ref (a + 51), .ref hs0, .ref sn, .int hsn, .ref tx, .ref ln, .ref tt]))) (hA : ArcS G ω.2 a v) (hW0 : WF v) (co : Int32) (lf : Int32) (sp : Int32) : FMetX G l yX10_why wsX10_why ({ frames := 7, cells := 3, slots := 18, locals := 122 } : Room) [.ref x, .int co, .int lf, .int sp] ω (fun vv9 τ9 => vv9 = some (.int (whyC v co lf sp).1) ∧ (whyC v co lf sp).2 = 0 ∧ τ9 = ω) (fun E9 τ9 => XC2 "java/lang/IndexOutOfBoundsException" "java/util/NoSuchElementException" (whyC v co lf sp).2 E9 ∧ τ9.2 = ω.2) 3 18 := by
  refine fx_ofW (cc := cX10_why) (maxL := 6) (ret := (some .int)) (by decide) rfl (Nat.le_of_ble_eq_true rfl) ?_
  intro pP eE sS mI ar9 bl9 meth cD ls hx hb hr hlocks hml hts hown hnm hW hR ht9 hl
  have hK := hL.K hW
  have hR0 := hR
  have hS : va_S (fwA G) sS.heap sS.heap [] := va_S.rf
  have hin3 : ∀ w ∈ u_ws RX3 TX3 2, w ∈ wsX10_why := by decide +kernel
  have hin5 : ∀ w ∈ u_ws RX5 TX5 9, w ∈ wsX10_why := by decide +kernel
  have hl : lv_has ls 6 [(0, .ref x), (1, .int co), (2, .int lf), (3, .int sp)] := hl
  obtain ⟨h0, h1, h2, h3, h4, h5, hLf, hCo⟩ := id hA
  obtain ⟨hxy, hxa, hxh, hxs, hxt, hxl, hxu⟩ := id hXA
  obtain ⟨c, hc8, hc, hcc⟩ := okN_of hW0.1
  obtain ⟨cc, hd5, hd, hdd⟩ := okN_of hW0.2.1
  have hs : ∀ j, j < c → v 3 j = nI (stN v j) ∧ stN v j ≤ 8 := fun j hj => (hW0.2.2 j (by rw [hcc]; exact hj)).1
  have hfo : ∀ j, j < c → v 4 j = nI (cN (v 4 j)) ∧ cN (v 4 j) ≤ 3 := fun j hj => (hW0.2.2 j (by rw [hcc]; exact hj)).2
  refine lv_aload_n hx hb dX10_why_0 rfl (lv_at hl 0 rfl) ?_
  refine lv_iload_n hx hb dX10_why_1 rfl (lv_at hl 1 rfl) ?_
  refine fx_call (vx_runV (As := [.int co]) (rest := []) ⟨hx, hb, hml, hown, hts⟩ (c_X10_cousinAt G hL l hX0 ω x y a hs0 sn tx ln tt v hsn hXA hx0 hA hW0 co) (cwV 1 hts gX10_why_X10_cousinAt rfl rfl rfl (by decide +kernel) ⟨Nat.le_of_ble_eq_true rfl, Nat.le_of_ble_eq_true rfl⟩) (fw_preV hW hK hR hx0 rfl) rfl rfl hl.1 rfl (lv_room (Nat.le_of_ble_eq_true rfl)) dX10_why_2 ⟨Nat.le_of_ble_eq_true rfl, Nat.le_of_ble_eq_true rfl⟩) hS (fun E_1 ce_1 q_1 τ_1 H locs hx_1 hR hS hce_1 hcv_1 hcl_1 => ?_) (fun v_1 ω_1 H locs hq_1 hR hS => ?_)
  · skip
    obtain ⟨rfl, hc_1, hw_1⟩ := hx_1
    have hr_2 : whyC v co lf sp = ((0, 1) : Int32 × Int32) := by
      simp only [whyC, hcc, hdd]
      rw [if_neg hc_1]
    exact fx_out ht9 hlocks ⟨by rw [hr_2]; exact Or.inl ⟨rfl, rfl⟩, hw_1⟩ hR hS hce_1 hcv_1 hcl_1 (by first | omega | decide) (by first | omega | decide)
  · skip
    refine W.widen (k := 1) (n := 6) (by first | omega | decide) (by first | omega | decide) ?_
    obtain ⟨hc_1, rfl, hw_1⟩ := hq_1
    rw [hw_1] at hR
    obtain ⟨i, hi2, rfl⟩ := in_c hd (by omega) hc_1
    have hci : cN (nI i) = i := cN_nI (by omega)
    refine W.eq (g2 := F0 mI 5 ls [.ref (a + 46 + i)]) (by rw [hci]; rfl) ?_
    refine lv_astore (lv' := [(4, .ref (a + 46 + i)), (0, .ref x), (1, .int (nI i)), (2, .int lf), (3, .int sp)]) hx hb dX10_why_5 hl (by decide) rfl (fun ls hl => ?_)
    refine lv_aload_n hx hb dX10_why_7 rfl (lv_at hl 1 rfl) ?_
    refine lv_iload_n hx hb dX10_why_8 rfl (lv_at hl 3 rfl) ?_
    refine fx_call (vx_runV (As := [.int lf]) (rest := []) ⟨hx, hb, hml, hown, hts⟩ (c_X10_leafletAt G hL l hX0 ω x y a hs0 sn tx ln tt v hsn hXA hx0 hA hW0 lf) (cwV 1 hts gX10_why_X10_leafletAt rfl rfl rfl (by decide +kernel) ⟨Nat.le_of_ble_eq_true rfl, Nat.le_of_ble_eq_true rfl⟩) (fw_preV hW hK hR hx0 rfl) rfl rfl hl.1 rfl (lv_room (Nat.le_of_ble_eq_true rfl)) dX10_why_9 ⟨Nat.le_of_ble_eq_true rfl, Nat.le_of_ble_eq_true rfl⟩) hS (fun E_3 ce_3 q_3 τ_3 H locs hx_3 hR hS hce_3 hcv_3 hcl_3 => ?_) (fun v_3 ω_3 H locs hq_3 hR hS => ?_)
    · skip
      obtain ⟨rfl, hc_3, hw_3⟩ := hx_3
      have hr_4 : whyC v (nI i) lf sp = ((0, 1) : Int32 × Int32) := by
        simp only [whyC, hcc, hdd, hci]
        rw [if_pos hc_1, if_neg hc_3]
      exact fx_out ht9 hlocks ⟨by rw [hr_4]; exact Or.inl ⟨rfl, rfl⟩, hw_3⟩ hR hS hce_3 hcv_3 hcl_3 (by first | omega | decide) (by first | omega | decide)
    · skip
      refine W.widen (k := 2) (n := 12) (by first | omega | decide) (by first | omega | decide) ?_
      obtain ⟨hc_3, rfl, hw_3⟩ := hq_3
      rw [hw_3] at hR
      obtain ⟨j, hj2, rfl⟩ := in_c hc hc8 hc_3
      have hcj : cN (nI j) = j := cN_nI (by omega)
      refine W.eq (g2 := F0 mI 12 ls [.ref (a + 6 + 5 * j)]) (by rw [hcj]; rfl) ?_
      refine lv_astore (lv' := [(5, .ref (a + 6 + 5 * j)), (4, .ref (a + 46 + i)), (0, .ref x), (1, .int (nI i)), (2, .int (nI j)), (3, .int sp)]) hx hb dX10_why_12 hl (by decide) rfl (fun ls hl => ?_)
      refine lv_aload_n hx hb dX10_why_14 rfl (lv_at hl 2 rfl) ?_
      refine lv_aload hx hb dX10_why_15 (lv_at hl 0 rfl) ?_
      refine lv_iload_n hx hb dX10_why_17 rfl (lv_at hl 5 rfl) ?_
      refine fx_call (vx_runV (As := [.ref (a + 6 + 5 * j), .int sp]) (rest := []) ⟨hx, hb, hml, hown, hts⟩ (c_X10_requireStep G hL l hX0 ω x (a + 6 + 5 * j) j v (hLf j (by omega)) sp) (cwV 2 hts gX10_why_X10_requireStep rfl rfl rfl (by decide +kernel) ⟨Nat.le_of_ble_eq_true rfl, Nat.le_of_ble_eq_true rfl⟩) (fw_preV hW hK hR hx0 rfl) rfl rfl hl.1 rfl (lv_room (Nat.le_of_ble_eq_true rfl)) dX10_why_18 ⟨Nat.le_of_ble_eq_true rfl, Nat.le_of_ble_eq_true rfl⟩) hS (fun E_5 ce_5 q_5 τ_5 H locs hx_5 hR hS hce_5 hcv_5 hcl_5 => ?_) (fun v_5 ω_5 H locs hq_5 hR hS => ?_)
      · skip
        obtain ⟨rfl, hc_5, hw_5⟩ := hx_5
        have hr_6 : whyC v (nI i) (nI j) sp = ((0, 2) : Int32 × Int32) := by
          simp only [whyC, hcc, hdd, hci, hcj]
          rw [if_pos hc_1, if_pos hc_3, if_neg hc_5]
        exact fx_out ht9 hlocks ⟨by rw [hr_6]; exact Or.inr (⟨rfl, rfl⟩), hw_5⟩ hR hS hce_5 hcv_5 hcl_5 (by first | omega | decide) (by first | omega | decide)
      · skip
        refine W.widen (k := 3) (n := 18) (by first | omega | decide) (by first | omega | decide) ?_
        obtain ⟨hc_5, rfl, hw_5⟩ := hq_5
        rw [hw_5] at hR
        obtain ⟨q, hq2, rfl⟩ := in_c (hs j hj2).1 (hs j hj2).2 hc_5
        have hq8 : q < 8 := Nat.lt_of_lt_of_le hq2 (hs j hj2).2
        have hcq : cN (nI q) = q := cN_nI (by omega)
        refine W.eq (g2 := F0 mI 21 ls []) rfl ?_
        refine lv_iload_n hx hb dX10_why_21 rfl (lv_at hl 5 rfl) ?_
        refine lv_aload hx hb dX10_why_22 (lv_at hl 0 rfl) ?_
        have f_7 : ω.2 (a + 6 + 5 * j) = some (.inr (7, [.int (v 3 j), .int (v 4 j), .int (v 5 j), .int (v 6 j - 1), .int (v 7 j), .ref (a + 6 + 5 * j + 1), .ref (a + 6 + 5 * j + 2), .ref (a + 6 + 5 * j + 3), .ref (a + 6 + 5 * j + 4)])) := (hLf j (by omega)).1
        refine fw_call (va_runV (As := []) (rest := [.int (nI q)]) ⟨hx, hb, hml, hown, hts⟩ (c_X5_open G hL l ω (a + 6 + 5 * j) j v (hLf j (by omega))  (cN (v 4 j)) (hfo j hj2).2 (hfo j hj2).1) (cwV 0 hts gX10_why_X5_open rfl rfl rfl (by decide +kernel) ⟨Nat.le_of_ble_eq_true rfl, Nat.le_of_ble_eq_true rfl⟩) (fw_preV hW hK hR f_7 rfl) rfl rfl hl.1 rfl (lv_room (Nat.le_of_ble_eq_true rfl)) dX10_why_24 ⟨Nat.le_of_ble_eq_true rfl, Nat.le_of_ble_eq_true rfl⟩) hS (fun v_8 ω_9 H locs hq_10 hR hS => ?_)
        obtain ⟨rfl, hq_10⟩ := hq_10
        rw [hq_10] at hR
        refine W.eq (g2 := F0 mI 27 ls [.int (openJ (v 3 j) (cN (v 4 j))), .int (nI q)]) rfl ?_
        refine lv_icmp_lt (tgt := 32) hx hb dX10_why_27 (by decide) (fun c_11 => ?_) (fun c_11 => ?_)
        · skip
          refine lv_aload hx hb dX10_why_32 (lv_at hl 0 rfl) ?_
          refine fw_get (v := .ref (a + 6 + 5 * j + 3)) (C := RX5) (T := TX5) (N := 9) hx hb hts hin5 hown hK hR f_7 rfl 7 (by decide) (hts (.fieldLink RX10 164 "UnreadLeaflets$Leaflet" "languages" "[I") (by decide +kernel)) rfl dX10_why_34 ?_
          refine lv_iload_n hx hb dX10_why_37 rfl (lv_at hl 5 rfl) ?_
          have f_12 : ω.2 (a + 6 + 5 * j + 3) = some (.inl (G.2.1 0, 8, .inl (v (30 + j)))) := (hLf j (by omega)).2.2.2.1
          refine fw_iald hx hb hK hR f_12 (vp_in_nI (by omega) (by omega)) dX10_why_38 ?_
          refine W.eq (g2 := F0 mI 39 ls [.int ((v (30 + j)) q)]) (by rw [nI_clamp (by omega)]) ?_
          refine lv_aload hx hb dX10_why_39 (lv_at hl 1 rfl) ?_
          have f_13 : ω.2 (a + 46 + i) = some (.inr (5, [.int (v 8 i), .int (v 9 i)])) := hCo i (by omega)
          refine fw_get (v := .int (v 9 i)) (C := RX3) (T := TX3) (N := 2) hx hb hts hin3 hown hK hR f_13 rfl 1 (by decide) (hts (.fieldLink RX10 185 "UnreadLeaflets$Cousin" "languages" "I") (by decide +kernel)) rfl dX10_why_41 ?_
          refine lv_iand hx hb dX10_why_44 ?_
          refine lv_if_ne (tgt := 50) hx hb dX10_why_45 (by decide) (fun c_14 => ?_) (fun c_14 => ?_)
          · skip
            refine lv_aload hx hb dX10_why_50 (lv_at hl 0 rfl) ?_
            refine lv_iload_n hx hb dX10_why_52 rfl (lv_at hl 5 rfl) ?_
            refine fw_call (va_runV (As := [.int (nI q)]) (rest := []) ⟨hx, hb, hml, hown, hts⟩ (c_X5_partsOfStep G hL l ω (a + 6 + 5 * j) j v (hLf j (by omega))  q (by omega)) (cwV 1 hts gX10_why_X5_partsOfStep rfl rfl rfl (by decide +kernel) ⟨Nat.le_of_ble_eq_true rfl, Nat.le_of_ble_eq_true rfl⟩) (fw_preV hW hK hR f_7 rfl) rfl rfl hl.1 rfl (lv_room (Nat.le_of_ble_eq_true rfl)) dX10_why_53 ⟨Nat.le_of_ble_eq_true rfl, Nat.le_of_ble_eq_true rfl⟩) hS (fun v_15 ω_16 H locs hq_17 hR hS => ?_)
            obtain ⟨rfl, hq_17⟩ := hq_17
            rw [hq_17] at hR
            refine W.eq (g2 := F0 mI 56 ls [.int (psJ v j q)]) rfl ?_
            refine lv_aload hx hb dX10_why_56 (lv_at hl 1 rfl) ?_
            refine fw_get (v := .int (v 8 i)) (C := RX3) (T := TX3) (N := 2) hx hb hts hin3 hown hK hR f_13 rfl 0 (by decide) (hts (.fieldLink RX10 180 "UnreadLeaflets$Cousin" "boast" "I") (by decide +kernel)) rfl dX10_why_58 ?_
            refine lv_icmp_ge (tgt := 66) hx hb dX10_why_61 (by decide) (fun c_18 => ?_) (fun c_18 => ?_)
            · skip
              refine lv_iconst (v := 0) hx hb dX10_why_66 (by decide) ?_
              refine W.widen (k := 3) (n := 18) (by first | omega | decide) (by first | omega | decide) ?_
              refine vx_ret ?_
              have hr_19 : whyC v (nI i) (nI j) (nI q) = ((0, 0) : Int32 × Int32) := by
                simp only [whyC, hcc, hdd, hci, hcj, hcq]
                rw [if_pos hc_1, if_pos hc_3, if_pos hc_5, if_pos c_11, if_neg c_14, if_pos c_18]
              exact fw_iret hx hb hr hlocks hR hS dX10_why_67 ⟨by rw [hr_19], by rw [hr_19], rfl⟩
            · skip
              refine lv_iconst (v := 3) hx hb dX10_why_64 (by decide) ?_
              refine W.widen (k := 3) (n := 18) (by first | omega | decide) (by first | omega | decide) ?_
              refine vx_ret ?_
              have hr_20 : whyC v (nI i) (nI j) (nI q) = ((3, 0) : Int32 × Int32) := by
                simp only [whyC, hcc, hdd, hci, hcj, hcq]
                rw [if_pos hc_1, if_pos hc_3, if_pos hc_5, if_pos c_11, if_neg c_14, if_neg c_18]
              exact fw_iret hx hb hr hlocks hR hS dX10_why_65 ⟨by rw [hr_20], by rw [hr_20], rfl⟩
          · skip
            refine lv_iconst (v := 2) hx hb dX10_why_48 (by decide) ?_
            refine W.widen (k := 3) (n := 18) (by first | omega | decide) (by first | omega | decide) ?_
            refine vx_ret ?_
            have hr_21 : whyC v (nI i) (nI j) (nI q) = ((2, 0) : Int32 × Int32) := by
              simp only [whyC, hcc, hdd, hci, hcj, hcq]
              rw [if_pos hc_1, if_pos hc_3, if_pos hc_5, if_pos c_11, if_pos c_14]
            exact fw_iret hx hb hr hlocks hR hS dX10_why_49 ⟨by rw [hr_21], by rw [hr_21], rfl⟩
        · skip
          refine lv_iconst (v := 1) hx hb dX10_why_30 (by decide) ?_
          refine W.widen (k := 3) (n := 18) (by first | omega | decide) (by first | omega | decide) ?_
          refine vx_ret ?_
          have hr_22 : whyC v (nI i) (nI j) (nI q) = ((1, 0) : Int32 × Int32) := by
            simp only [whyC, hcc, hdd, hci, hcj, hcq]
            rw [if_pos hc_1, if_pos hc_3, if_pos hc_5, if_neg c_11]
          exact fw_iret hx hb hr hlocks hR hS dX10_why_31 ⟨by rw [hr_22], by rw [hr_22], rfl⟩
def whyAgC (v : Nat → Nat → Int32) (co : Int32) (lf : Int32) (sp : Int32) : Int32 × Int32 :=
  if inB co 0 (v 0 1 - 1) then (if inB lf 0 (v 0 0 - 1) then (if inB sp 0 (v 3 (cN lf) - 1) then (if hasB (underF v (cN lf) (cN (v 4 (cN lf)))) (sp) then ((1, 0)) else (if hasB (unreadJ v (cN lf) (v 9 (cN co)) (stN v (cN lf))) (sp) then ((2, 0)) else (if hasB (belowJ v (cN lf) (v 8 (cN co)) (stN v (cN lf))) (sp) then ((3, 0)) else ((0, 0))))) else ((0, 2))) else ((0, 1))) else ((0, 1))
set_option maxHeartbeats 4000000 in
set_option maxRecDepth 100000 in
theorem c_X10_whyAgain (G : FG) (hL : FL G) (l : Launch) (hX0 : FX0 G l) (ω : FWd) (x y a hs0 sn tx ln tt : Nat) (v : Nat → Nat → Int32) (hsn : Int32) (hXA : XA x y a hs0 sn tx ln tt) (hx0 : ω.2 x = some (.inr (12, [.ref y, .ref a, .ref (a + 51), .ref hs0, .ref sn, .int hsn, .ref tx, .ref ln, .ref tt]))) (hA : ArcS G ω.2 a v) (hW0 : WF v) (co : Int32) (lf : Int32) (sp : Int32) : FMetX G l yX10_whyAgain wsX10_whyAgain ({ frames := 7, cells := 3, slots := 18, locals := 122 } : Room) [.ref x, .int co, .int lf, .int sp] ω (fun vv9 τ9 => vv9 = some (.int (whyAgC v co lf sp).1) ∧ (whyAgC v co lf sp).2 = 0 ∧ τ9 = ω) (fun E9 τ9 => XC2 "java/lang/IndexOutOfBoundsException" "java/util/NoSuchElementException" (whyAgC v co lf sp).2 E9 ∧ τ9.2 = ω.2) 3 18 := by
  refine fx_ofW (cc := cX10_whyAgain) (maxL := 6) (ret := (some .int)) (by decide) rfl (Nat.le_of_ble_eq_true rfl) ?_
  intro pP eE sS mI ar9 bl9 meth cD ls hx hb hr hlocks hml hts hown hnm hW hR ht9 hl
  have hK := hL.K hW
  have hR0 := hR
  have hS : va_S (fwA G) sS.heap sS.heap [] := va_S.rf
  have hin3 : ∀ w ∈ u_ws RX3 TX3 2, w ∈ wsX10_whyAgain := by decide +kernel
  have hin5 : ∀ w ∈ u_ws RX5 TX5 9, w ∈ wsX10_whyAgain := by decide +kernel
  have hl : lv_has ls 6 [(0, .ref x), (1, .int co), (2, .int lf), (3, .int sp)] := hl
  obtain ⟨h0, h1, h2, h3, h4, h5, hLf, hCo⟩ := id hA
  obtain ⟨hxy, hxa, hxh, hxs, hxt, hxl, hxu⟩ := id hXA
  obtain ⟨c, hc8, hc, hcc⟩ := okN_of hW0.1
  obtain ⟨cc, hd5, hd, hdd⟩ := okN_of hW0.2.1
  have hs : ∀ j, j < c → v 3 j = nI (stN v j) ∧ stN v j ≤ 8 := fun j hj => (hW0.2.2 j (by rw [hcc]; exact hj)).1
  have hfo : ∀ j, j < c → v 4 j = nI (cN (v 4 j)) ∧ cN (v 4 j) ≤ 3 := fun j hj => (hW0.2.2 j (by rw [hcc]; exact hj)).2
  refine lv_aload_n hx hb dX10_whyAgain_0 rfl (lv_at hl 0 rfl) ?_
  refine lv_iload_n hx hb dX10_whyAgain_1 rfl (lv_at hl 1 rfl) ?_
  refine fx_call (vx_runV (As := [.int co]) (rest := []) ⟨hx, hb, hml, hown, hts⟩ (c_X10_cousinAt G hL l hX0 ω x y a hs0 sn tx ln tt v hsn hXA hx0 hA hW0 co) (cwV 1 hts gX10_whyAgain_X10_cousinAt rfl rfl rfl (by decide +kernel) ⟨Nat.le_of_ble_eq_true rfl, Nat.le_of_ble_eq_true rfl⟩) (fw_preV hW hK hR hx0 rfl) rfl rfl hl.1 rfl (lv_room (Nat.le_of_ble_eq_true rfl)) dX10_whyAgain_2 ⟨Nat.le_of_ble_eq_true rfl, Nat.le_of_ble_eq_true rfl⟩) hS (fun E_1 ce_1 q_1 τ_1 H locs hx_1 hR hS hce_1 hcv_1 hcl_1 => ?_) (fun v_1 ω_1 H locs hq_1 hR hS => ?_)
  · skip
    obtain ⟨rfl, hc_1, hw_1⟩ := hx_1
    have hr_2 : whyAgC v co lf sp = ((0, 1) : Int32 × Int32) := by
      simp only [whyAgC, hcc, hdd]
      rw [if_neg hc_1]
    exact fx_out ht9 hlocks ⟨by rw [hr_2]; exact Or.inl ⟨rfl, rfl⟩, hw_1⟩ hR hS hce_1 hcv_1 hcl_1 (by first | omega | decide) (by first | omega | decide)
  · skip
    refine W.widen (k := 1) (n := 6) (by first | omega | decide) (by first | omega | decide) ?_
    obtain ⟨hc_1, rfl, hw_1⟩ := hq_1
    rw [hw_1] at hR
    obtain ⟨i, hi2, rfl⟩ := in_c hd (by omega) hc_1
    have hci : cN (nI i) = i := cN_nI (by omega)
    refine W.eq (g2 := F0 mI 5 ls [.ref (a + 46 + i)]) (by rw [hci]; rfl) ?_
    refine lv_astore (lv' := [(4, .ref (a + 46 + i)), (0, .ref x), (1, .int (nI i)), (2, .int lf), (3, .int sp)]) hx hb dX10_whyAgain_5 hl (by decide) rfl (fun ls hl => ?_)
    refine lv_aload_n hx hb dX10_whyAgain_7 rfl (lv_at hl 1 rfl) ?_
    refine lv_iload_n hx hb dX10_whyAgain_8 rfl (lv_at hl 3 rfl) ?_
    refine fx_call (vx_runV (As := [.int lf]) (rest := []) ⟨hx, hb, hml, hown, hts⟩ (c_X10_leafletAt G hL l hX0 ω x y a hs0 sn tx ln tt v hsn hXA hx0 hA hW0 lf) (cwV 1 hts gX10_whyAgain_X10_leafletAt rfl rfl rfl (by decide +kernel) ⟨Nat.le_of_ble_eq_true rfl, Nat.le_of_ble_eq_true rfl⟩) (fw_preV hW hK hR hx0 rfl) rfl rfl hl.1 rfl (lv_room (Nat.le_of_ble_eq_true rfl)) dX10_whyAgain_9 ⟨Nat.le_of_ble_eq_true rfl, Nat.le_of_ble_eq_true rfl⟩) hS (fun E_3 ce_3 q_3 τ_3 H locs hx_3 hR hS hce_3 hcv_3 hcl_3 => ?_) (fun v_3 ω_3 H locs hq_3 hR hS => ?_)
    · skip
      obtain ⟨rfl, hc_3, hw_3⟩ := hx_3
      have hr_4 : whyAgC v (nI i) lf sp = ((0, 1) : Int32 × Int32) := by
        simp only [whyAgC, hcc, hdd, hci]
        rw [if_pos hc_1, if_neg hc_3]
      exact fx_out ht9 hlocks ⟨by rw [hr_4]; exact Or.inl ⟨rfl, rfl⟩, hw_3⟩ hR hS hce_3 hcv_3 hcl_3 (by first | omega | decide) (by first | omega | decide)
    · skip
      refine W.widen (k := 2) (n := 12) (by first | omega | decide) (by first | omega | decide) ?_
      obtain ⟨hc_3, rfl, hw_3⟩ := hq_3
      rw [hw_3] at hR
      obtain ⟨j, hj2, rfl⟩ := in_c hc hc8 hc_3
      have hcj : cN (nI j) = j := cN_nI (by omega)
      refine W.eq (g2 := F0 mI 12 ls [.ref (a + 6 + 5 * j)]) (by rw [hcj]; rfl) ?_
      refine lv_astore (lv' := [(5, .ref (a + 6 + 5 * j)), (4, .ref (a + 46 + i)), (0, .ref x), (1, .int (nI i)), (2, .int (nI j)), (3, .int sp)]) hx hb dX10_whyAgain_12 hl (by decide) rfl (fun ls hl => ?_)
      refine lv_aload_n hx hb dX10_whyAgain_14 rfl (lv_at hl 2 rfl) ?_
      refine lv_aload hx hb dX10_whyAgain_15 (lv_at hl 0 rfl) ?_
      refine lv_iload_n hx hb dX10_whyAgain_17 rfl (lv_at hl 5 rfl) ?_
      refine fx_call (vx_runV (As := [.ref (a + 6 + 5 * j), .int sp]) (rest := []) ⟨hx, hb, hml, hown, hts⟩ (c_X10_requireStep G hL l hX0 ω x (a + 6 + 5 * j) j v (hLf j (by omega)) sp) (cwV 2 hts gX10_whyAgain_X10_requireStep rfl rfl rfl (by decide +kernel) ⟨Nat.le_of_ble_eq_true rfl, Nat.le_of_ble_eq_true rfl⟩) (fw_preV hW hK hR hx0 rfl) rfl rfl hl.1 rfl (lv_room (Nat.le_of_ble_eq_true rfl)) dX10_whyAgain_18 ⟨Nat.le_of_ble_eq_true rfl, Nat.le_of_ble_eq_true rfl⟩) hS (fun E_5 ce_5 q_5 τ_5 H locs hx_5 hR hS hce_5 hcv_5 hcl_5 => ?_) (fun v_5 ω_5 H locs hq_5 hR hS => ?_)
      · skip
        obtain ⟨rfl, hc_5, hw_5⟩ := hx_5
        have hr_6 : whyAgC v (nI i) (nI j) sp = ((0, 2) : Int32 × Int32) := by
          simp only [whyAgC, hcc, hdd, hci, hcj]
          rw [if_pos hc_1, if_pos hc_3, if_neg hc_5]
        exact fx_out ht9 hlocks ⟨by rw [hr_6]; exact Or.inr (⟨rfl, rfl⟩), hw_5⟩ hR hS hce_5 hcv_5 hcl_5 (by first | omega | decide) (by first | omega | decide)
      · skip
        refine W.widen (k := 3) (n := 18) (by first | omega | decide) (by first | omega | decide) ?_
        obtain ⟨hc_5, rfl, hw_5⟩ := hq_5
        rw [hw_5] at hR
        obtain ⟨q, hq2, rfl⟩ := in_c (hs j hj2).1 (hs j hj2).2 hc_5
        have hq8 : q < 8 := Nat.lt_of_lt_of_le hq2 (hs j hj2).2
        have hcq : cN (nI q) = q := cN_nI (by omega)
        refine W.eq (g2 := F0 mI 21 ls []) rfl ?_
        refine lv_aload hx hb dX10_whyAgain_21 (lv_at hl 0 rfl) ?_
        refine lv_aload hx hb dX10_whyAgain_23 (lv_at hl 0 rfl) ?_
        have f_7 : ω.2 (a + 6 + 5 * j) = some (.inr (7, [.int (v 3 j), .int (v 4 j), .int (v 5 j), .int (v 6 j - 1), .int (v 7 j), .ref (a + 6 + 5 * j + 1), .ref (a + 6 + 5 * j + 2), .ref (a + 6 + 5 * j + 3), .ref (a + 6 + 5 * j + 4)])) := (hLf j (by omega)).1
        refine fw_get (v := .int (v 4 j)) (C := RX5) (T := TX5) (N := 9) hx hb hts hin5 hown hK hR f_7 rfl 1 (by decide) (hts (.fieldLink RX10 123 "UnreadLeaflets$Leaflet" "folds" "I") (by decide +kernel)) rfl dX10_whyAgain_25 ?_
        refine W.eq (g2 := F0 mI 28 ls [.int (nI (cN (v 4 j))), .ref (a + 6 + 5 * j)]) (congrArg (fun z => F0 mI 28 ls (.int z :: [.ref (a + 6 + 5 * j)])) (hfo j hj2).1) ?_
        refine fw_call (va_runV (As := [.int (nI (cN (v 4 j)))]) (rest := []) ⟨hx, hb, hml, hown, hts⟩ (c_X5_stepsUnder G hL l ω (a + 6 + 5 * j) j v (hLf j (by omega)) (cN (v 4 j)) (hfo j hj2).2) (cwV 1 hts gX10_whyAgain_X5_stepsUnder rfl rfl rfl (by decide +kernel) ⟨Nat.le_of_ble_eq_true rfl, Nat.le_of_ble_eq_true rfl⟩) (fw_preV hW hK hR f_7 rfl) rfl rfl hl.1 rfl (lv_room (Nat.le_of_ble_eq_true rfl)) dX10_whyAgain_28 ⟨Nat.le_of_ble_eq_true rfl, Nat.le_of_ble_eq_true rfl⟩) hS (fun v_8 ω_9 H locs hq_10 hR hS => ?_)
        obtain ⟨rfl, hq_10⟩ := hq_10
        rw [hq_10] at hR
        refine W.eq (g2 := F0 mI 31 ls [.int (underF v j (cN (v 4 j)))]) rfl ?_
        refine lv_iload_n hx hb dX10_whyAgain_31 rfl (lv_at hl 5 rfl) ?_
        refine fw_call (va_runS (As := [.int (underF v j (cN (v 4 j))), .int (nI q)]) (rest := []) ⟨hx, hb, hml, hown, hts⟩ (c_X10_contains G hL l ω (underF v j (cN (v 4 j))) (nI q)) (va_cwS 2 hts gX10_whyAgain_X10_contains rfl rfl rfl (by decide +kernel) ⟨Nat.le_of_ble_eq_true rfl, Nat.le_of_ble_eq_true rfl⟩) (fw_preS hW hR) rfl rfl hl.1 rfl (lv_room (Nat.le_of_ble_eq_true rfl)) dX10_whyAgain_32 ⟨Nat.le_of_ble_eq_true rfl, Nat.le_of_ble_eq_true rfl⟩) hS (fun v_11 ω_12 H locs hq_13 hR hS => ?_)
        obtain ⟨rfl, hq_13⟩ := hq_13
        rw [hq_13] at hR
        refine W.eq (g2 := F0 mI 35 ls [.int (bz (hasB (underF v j (cN (v 4 j))) (nI q)))]) rfl ?_
        refine lv_if_eq (tgt := 40) hx hb dX10_whyAgain_35 (by decide) (fun c_14 => ?_) (fun c_14 => ?_)
        · skip
          have c_14 := bz_eq c_14
          refine lv_aload hx hb dX10_whyAgain_40 (lv_at hl 0 rfl) ?_
          refine lv_aload hx hb dX10_whyAgain_42 (lv_at hl 1 rfl) ?_
          have f_15 : ω.2 (a + 46 + i) = some (.inr (5, [.int (v 8 i), .int (v 9 i)])) := hCo i (by omega)
          refine fw_get (v := .int (v 9 i)) (C := RX3) (T := TX3) (N := 2) hx hb hts hin3 hown hK hR f_15 rfl 1 (by decide) (hts (.fieldLink RX10 185 "UnreadLeaflets$Cousin" "languages" "I") (by decide +kernel)) rfl dX10_whyAgain_44 ?_
          refine fw_call (va_runV (As := [.int (v 9 i)]) (rest := []) ⟨hx, hb, hml, hown, hts⟩ (c_X5_stepsUnreadBy G hL l ω (a + 6 + 5 * j) j v (hLf j (by omega)) (stN v j) (hs j hj2).1 (hs j hj2).2 (v 9 i)) (cwV 1 hts gX10_whyAgain_X5_stepsUnreadBy rfl rfl rfl (by decide +kernel) ⟨Nat.le_of_ble_eq_true rfl, Nat.le_of_ble_eq_true rfl⟩) (fw_preV hW hK hR f_7 rfl) rfl rfl hl.1 rfl (lv_room (Nat.le_of_ble_eq_true rfl)) dX10_whyAgain_47 ⟨Nat.le_of_ble_eq_true rfl, Nat.le_of_ble_eq_true rfl⟩) hS (fun v_16 ω_17 H locs hq_18 hR hS => ?_)
          obtain ⟨rfl, hq_18⟩ := hq_18
          rw [hq_18] at hR
          refine W.eq (g2 := F0 mI 50 ls [.int (unreadJ v j (v 9 i) (stN v j))]) rfl ?_
          refine lv_iload_n hx hb dX10_whyAgain_50 rfl (lv_at hl 5 rfl) ?_
          refine fw_call (va_runS (As := [.int (unreadJ v j (v 9 i) (stN v j)), .int (nI q)]) (rest := []) ⟨hx, hb, hml, hown, hts⟩ (c_X10_contains G hL l ω (unreadJ v j (v 9 i) (stN v j)) (nI q)) (va_cwS 2 hts gX10_whyAgain_X10_contains rfl rfl rfl (by decide +kernel) ⟨Nat.le_of_ble_eq_true rfl, Nat.le_of_ble_eq_true rfl⟩) (fw_preS hW hR) rfl rfl hl.1 rfl (lv_room (Nat.le_of_ble_eq_true rfl)) dX10_whyAgain_51 ⟨Nat.le_of_ble_eq_true rfl, Nat.le_of_ble_eq_true rfl⟩) hS (fun v_19 ω_20 H locs hq_21 hR hS => ?_)
          obtain ⟨rfl, hq_21⟩ := hq_21
          rw [hq_21] at hR
          refine W.eq (g2 := F0 mI 54 ls [.int (bz (hasB (unreadJ v j (v 9 i) (stN v j)) (nI q)))]) rfl ?_
          refine lv_if_eq (tgt := 59) hx hb dX10_whyAgain_54 (by decide) (fun c_22 => ?_) (fun c_22 => ?_)
          · skip
            have c_22 := bz_eq c_22
            refine lv_aload hx hb dX10_whyAgain_59 (lv_at hl 0 rfl) ?_
            refine lv_aload hx hb dX10_whyAgain_61 (lv_at hl 1 rfl) ?_
            refine fw_get (v := .int (v 8 i)) (C := RX3) (T := TX3) (N := 2) hx hb hts hin3 hown hK hR f_15 rfl 0 (by decide) (hts (.fieldLink RX10 180 "UnreadLeaflets$Cousin" "boast" "I") (by decide +kernel)) rfl dX10_whyAgain_63 ?_
            refine fw_call (va_runV (As := [.int (v 8 i)]) (rest := []) ⟨hx, hb, hml, hown, hts⟩ (c_X5_stepsBelow G hL l ω (a + 6 + 5 * j) j v (hLf j (by omega)) (stN v j) (hs j hj2).1 (hs j hj2).2 (v 8 i)) (cwV 1 hts gX10_whyAgain_X5_stepsBelow rfl rfl rfl (by decide +kernel) ⟨Nat.le_of_ble_eq_true rfl, Nat.le_of_ble_eq_true rfl⟩) (fw_preV hW hK hR f_7 rfl) rfl rfl hl.1 rfl (lv_room (Nat.le_of_ble_eq_true rfl)) dX10_whyAgain_66 ⟨Nat.le_of_ble_eq_true rfl, Nat.le_of_ble_eq_true rfl⟩) hS (fun v_23 ω_24 H locs hq_25 hR hS => ?_)
            obtain ⟨rfl, hq_25⟩ := hq_25
            rw [hq_25] at hR
            refine W.eq (g2 := F0 mI 69 ls [.int (belowJ v j (v 8 i) (stN v j))]) rfl ?_
            refine lv_iload_n hx hb dX10_whyAgain_69 rfl (lv_at hl 5 rfl) ?_
            refine fw_call (va_runS (As := [.int (belowJ v j (v 8 i) (stN v j)), .int (nI q)]) (rest := []) ⟨hx, hb, hml, hown, hts⟩ (c_X10_contains G hL l ω (belowJ v j (v 8 i) (stN v j)) (nI q)) (va_cwS 2 hts gX10_whyAgain_X10_contains rfl rfl rfl (by decide +kernel) ⟨Nat.le_of_ble_eq_true rfl, Nat.le_of_ble_eq_true rfl⟩) (fw_preS hW hR) rfl rfl hl.1 rfl (lv_room (Nat.le_of_ble_eq_true rfl)) dX10_whyAgain_70 ⟨Nat.le_of_ble_eq_true rfl, Nat.le_of_ble_eq_true rfl⟩) hS (fun v_26 ω_27 H locs hq_28 hR hS => ?_)
            obtain ⟨rfl, hq_28⟩ := hq_28
            rw [hq_28] at hR
            refine W.eq (g2 := F0 mI 73 ls [.int (bz (hasB (belowJ v j (v 8 i) (stN v j)) (nI q)))]) rfl ?_
            refine lv_if_eq (tgt := 78) hx hb dX10_whyAgain_73 (by decide) (fun c_29 => ?_) (fun c_29 => ?_)
            · skip
              have c_29 := bz_eq c_29
              refine lv_iconst (v := 0) hx hb dX10_whyAgain_78 (by decide) ?_
              refine W.widen (k := 3) (n := 18) (by first | omega | decide) (by first | omega | decide) ?_
              refine vx_ret ?_
              have hr_30 : whyAgC v (nI i) (nI j) (nI q) = ((0, 0) : Int32 × Int32) := by
                simp only [whyAgC, hcc, hdd, hci, hcj, hcq]
                rw [if_pos hc_1, if_pos hc_3, if_pos hc_5, if_neg c_14, if_neg c_22, if_neg c_29]
              exact fw_iret hx hb hr hlocks hR hS dX10_whyAgain_79 ⟨by rw [hr_30], by rw [hr_30], rfl⟩
            · skip
              have c_29 := bz_ne c_29
              refine lv_iconst (v := 3) hx hb dX10_whyAgain_76 (by decide) ?_
              refine W.widen (k := 3) (n := 18) (by first | omega | decide) (by first | omega | decide) ?_
              refine vx_ret ?_
              have hr_31 : whyAgC v (nI i) (nI j) (nI q) = ((3, 0) : Int32 × Int32) := by
                simp only [whyAgC, hcc, hdd, hci, hcj, hcq]
                rw [if_pos hc_1, if_pos hc_3, if_pos hc_5, if_neg c_14, if_neg c_22, if_pos c_29]
              exact fw_iret hx hb hr hlocks hR hS dX10_whyAgain_77 ⟨by rw [hr_31], by rw [hr_31], rfl⟩
          · skip
            have c_22 := bz_ne c_22
            refine lv_iconst (v := 2) hx hb dX10_whyAgain_57 (by decide) ?_
            refine W.widen (k := 3) (n := 18) (by first | omega | decide) (by first | omega | decide) ?_
            refine vx_ret ?_
            have hr_32 : whyAgC v (nI i) (nI j) (nI q) = ((2, 0) : Int32 × Int32) := by
              simp only [whyAgC, hcc, hdd, hci, hcj, hcq]
              rw [if_pos hc_1, if_pos hc_3, if_pos hc_5, if_neg c_14, if_pos c_22]
            exact fw_iret hx hb hr hlocks hR hS dX10_whyAgain_58 ⟨by rw [hr_32], by rw [hr_32], rfl⟩
        · skip
          have c_14 := bz_ne c_14
          refine lv_iconst (v := 1) hx hb dX10_whyAgain_38 (by decide) ?_
          refine W.widen (k := 3) (n := 18) (by first | omega | decide) (by first | omega | decide) ?_
          refine vx_ret ?_
          have hr_33 : whyAgC v (nI i) (nI j) (nI q) = ((1, 0) : Int32 × Int32) := by
            simp only [whyAgC, hcc, hdd, hci, hcj, hcq]
            rw [if_pos hc_1, if_pos hc_3, if_pos hc_5, if_pos c_14]
          exact fw_iret hx hb hr hlocks hR hS dX10_whyAgain_39 ⟨by rw [hr_33], by rw [hr_33], rfl⟩
def wskipC (v : Nat → Nat → Int32) (co : Int32) (lf : Int32) : Int32 × Int32 :=
  if inB co 0 (v 0 1 - 1) then (if inB lf 0 (v 0 0 - 1) then ((skipF v (cN lf) (stN v (cN lf)) (v 9 (cN co)) (v 8 (cN co)) (cN (v 4 (cN lf))), 0)) else ((0, 1))) else ((0, 1))
set_option maxHeartbeats 4000000 in
set_option maxRecDepth 100000 in
theorem c_X10_wouldSkip (G : FG) (hL : FL G) (l : Launch) (hX0 : FX0 G l) (ω : FWd) (x y a hs0 sn tx ln tt : Nat) (v : Nat → Nat → Int32) (hsn : Int32) (hXA : XA x y a hs0 sn tx ln tt) (hx0 : ω.2 x = some (.inr (12, [.ref y, .ref a, .ref (a + 51), .ref hs0, .ref sn, .int hsn, .ref tx, .ref ln, .ref tt]))) (hA : ArcS G ω.2 a v) (hW0 : WF v) (co : Int32) (lf : Int32) : FMetX G l yX10_wouldSkip wsX10_wouldSkip ({ frames := 7, cells := 2, slots := 12, locals := 121 } : Room) [.ref x, .int co, .int lf] ω (fun vv9 τ9 => vv9 = some (.int (wskipC v co lf).1) ∧ (wskipC v co lf).2 = 0 ∧ τ9 = ω) (fun E9 τ9 => XC1 "java/lang/IndexOutOfBoundsException" (wskipC v co lf).2 E9 ∧ τ9.2 = ω.2) 2 12 := by
  refine fx_ofW (cc := cX10_wouldSkip) (maxL := 5) (ret := (some .int)) (by decide) rfl (Nat.le_of_ble_eq_true rfl) ?_
  intro pP eE sS mI ar9 bl9 meth cD ls hx hb hr hlocks hml hts hown hnm hW hR ht9 hl
  have hK := hL.K hW
  have hR0 := hR
  have hS : va_S (fwA G) sS.heap sS.heap [] := va_S.rf
  have hl : lv_has ls 5 [(0, .ref x), (1, .int co), (2, .int lf)] := hl
  obtain ⟨h0, h1, h2, h3, h4, h5, hLf, hCo⟩ := id hA
  obtain ⟨hxy, hxa, hxh, hxs, hxt, hxl, hxu⟩ := id hXA
  obtain ⟨c, hc8, hc, hcc⟩ := okN_of hW0.1
  obtain ⟨cc, hd5, hd, hdd⟩ := okN_of hW0.2.1
  have hs : ∀ j, j < c → v 3 j = nI (stN v j) ∧ stN v j ≤ 8 := fun j hj => (hW0.2.2 j (by rw [hcc]; exact hj)).1
  have hfo : ∀ j, j < c → v 4 j = nI (cN (v 4 j)) ∧ cN (v 4 j) ≤ 3 := fun j hj => (hW0.2.2 j (by rw [hcc]; exact hj)).2
  refine lv_aload_n hx hb dX10_wouldSkip_0 rfl (lv_at hl 0 rfl) ?_
  refine lv_iload_n hx hb dX10_wouldSkip_1 rfl (lv_at hl 1 rfl) ?_
  refine fx_call (vx_runV (As := [.int co]) (rest := []) ⟨hx, hb, hml, hown, hts⟩ (c_X10_cousinAt G hL l hX0 ω x y a hs0 sn tx ln tt v hsn hXA hx0 hA hW0 co) (cwV 1 hts gX10_wouldSkip_X10_cousinAt rfl rfl rfl (by decide +kernel) ⟨Nat.le_of_ble_eq_true rfl, Nat.le_of_ble_eq_true rfl⟩) (fw_preV hW hK hR hx0 rfl) rfl rfl hl.1 rfl (lv_room (Nat.le_of_ble_eq_true rfl)) dX10_wouldSkip_2 ⟨Nat.le_of_ble_eq_true rfl, Nat.le_of_ble_eq_true rfl⟩) hS (fun E_1 ce_1 q_1 τ_1 H locs hx_1 hR hS hce_1 hcv_1 hcl_1 => ?_) (fun v_1 ω_1 H locs hq_1 hR hS => ?_)
  · skip
    obtain ⟨rfl, hc_1, hw_1⟩ := hx_1
    have hr_2 : wskipC v co lf = ((0, 1) : Int32 × Int32) := by
      simp only [wskipC, hcc, hdd]
      rw [if_neg hc_1]
    exact fx_out ht9 hlocks ⟨by rw [hr_2]; exact ⟨rfl, rfl⟩, hw_1⟩ hR hS hce_1 hcv_1 hcl_1 (by first | omega | decide) (by first | omega | decide)
  · skip
    refine W.widen (k := 1) (n := 6) (by first | omega | decide) (by first | omega | decide) ?_
    obtain ⟨hc_1, rfl, hw_1⟩ := hq_1
    rw [hw_1] at hR
    obtain ⟨i, hi2, rfl⟩ := in_c hd (by omega) hc_1
    have hci : cN (nI i) = i := cN_nI (by omega)
    refine W.eq (g2 := F0 mI 5 ls [.ref (a + 46 + i)]) (by rw [hci]; rfl) ?_
    refine lv_astore_n (lv' := [(3, .ref (a + 46 + i)), (0, .ref x), (1, .int (nI i)), (2, .int lf)]) hx hb dX10_wouldSkip_5 rfl hl (by decide) rfl (fun ls hl => ?_)
    refine lv_aload_n hx hb dX10_wouldSkip_6 rfl (lv_at hl 1 rfl) ?_
    refine lv_iload_n hx hb dX10_wouldSkip_7 rfl (lv_at hl 3 rfl) ?_
    refine fx_call (vx_runV (As := [.int lf]) (rest := []) ⟨hx, hb, hml, hown, hts⟩ (c_X10_leafletAt G hL l hX0 ω x y a hs0 sn tx ln tt v hsn hXA hx0 hA hW0 lf) (cwV 1 hts gX10_wouldSkip_X10_leafletAt rfl rfl rfl (by decide +kernel) ⟨Nat.le_of_ble_eq_true rfl, Nat.le_of_ble_eq_true rfl⟩) (fw_preV hW hK hR hx0 rfl) rfl rfl hl.1 rfl (lv_room (Nat.le_of_ble_eq_true rfl)) dX10_wouldSkip_8 ⟨Nat.le_of_ble_eq_true rfl, Nat.le_of_ble_eq_true rfl⟩) hS (fun E_3 ce_3 q_3 τ_3 H locs hx_3 hR hS hce_3 hcv_3 hcl_3 => ?_) (fun v_3 ω_3 H locs hq_3 hR hS => ?_)
    · skip
      obtain ⟨rfl, hc_3, hw_3⟩ := hx_3
      have hr_4 : wskipC v (nI i) lf = ((0, 1) : Int32 × Int32) := by
        simp only [wskipC, hcc, hdd, hci]
        rw [if_pos hc_1, if_neg hc_3]
      exact fx_out ht9 hlocks ⟨by rw [hr_4]; exact ⟨rfl, rfl⟩, hw_3⟩ hR hS hce_3 hcv_3 hcl_3 (by first | omega | decide) (by first | omega | decide)
    · skip
      refine W.widen (k := 2) (n := 12) (by first | omega | decide) (by first | omega | decide) ?_
      obtain ⟨hc_3, rfl, hw_3⟩ := hq_3
      rw [hw_3] at hR
      obtain ⟨j, hj2, rfl⟩ := in_c hc hc8 hc_3
      have hcj : cN (nI j) = j := cN_nI (by omega)
      refine W.eq (g2 := F0 mI 11 ls [.ref (a + 6 + 5 * j)]) (by rw [hcj]; rfl) ?_
      refine lv_astore (lv' := [(4, .ref (a + 6 + 5 * j)), (3, .ref (a + 46 + i)), (0, .ref x), (1, .int (nI i)), (2, .int (nI j))]) hx hb dX10_wouldSkip_11 hl (by decide) rfl (fun ls hl => ?_)
      refine lv_aload hx hb dX10_wouldSkip_13 (lv_at hl 0 rfl) ?_
      refine lv_aload_n hx hb dX10_wouldSkip_15 rfl (lv_at hl 1 rfl) ?_
      have f_5 : ω.2 (a + 46 + i) = some (.inr (5, [.int (v 8 i), .int (v 9 i)])) := hCo i (by omega)
      have f_6 : ω.2 (a + 6 + 5 * j) = some (.inr (7, [.int (v 3 j), .int (v 4 j), .int (v 5 j), .int (v 6 j - 1), .int (v 7 j), .ref (a + 6 + 5 * j + 1), .ref (a + 6 + 5 * j + 2), .ref (a + 6 + 5 * j + 3), .ref (a + 6 + 5 * j + 4)])) := (hLf j (by omega)).1
      refine fw_call (va_runV (As := [.ref (a + 46 + i)]) (rest := []) ⟨hx, hb, hml, hown, hts⟩ (c_X5_stepsSkippedBy G hL l ω (a + 6 + 5 * j) j v (hLf j (by omega)) (stN v j) (hs j hj2).1 (hs j hj2).2 (cN (v 4 j)) (hfo j hj2).2 (hfo j hj2).1 (a + 46 + i) (v 8 i) (v 9 i) f_5) (cwV 1 hts gX10_wouldSkip_X5_stepsSkippedBy rfl rfl rfl (by decide +kernel) ⟨Nat.le_of_ble_eq_true rfl, Nat.le_of_ble_eq_true rfl⟩) (fw_preV hW hK hR f_6 rfl) rfl rfl hl.1 rfl (lv_room (Nat.le_of_ble_eq_true rfl)) dX10_wouldSkip_16 ⟨Nat.le_of_ble_eq_true rfl, Nat.le_of_ble_eq_true rfl⟩) hS (fun v_7 ω_8 H locs hq_9 hR hS => ?_)
      obtain ⟨rfl, hq_9⟩ := hq_9
      rw [hq_9] at hR
      refine W.eq (g2 := F0 mI 19 ls [.int (skipF v j (stN v j) (v 9 i) (v 8 i) (cN (v 4 j)))]) rfl ?_
      refine W.widen (k := 2) (n := 12) (by first | omega | decide) (by first | omega | decide) ?_
      refine vx_ret ?_
      have hr_10 : wskipC v (nI i) (nI j) = ((skipF v j (stN v j) (v 9 i) (v 8 i) (cN (v 4 j)), 0) : Int32 × Int32) := by
        simp only [wskipC, hcc, hdd, hci, hcj]
        rw [if_pos hc_1, if_pos hc_3]
      exact fw_iret hx hb hr hlocks hR hS dX10_wouldSkip_19 ⟨by rw [hr_10], by rw [hr_10], rfl⟩
def wleaveC (v : Nat → Nat → Int32) (co : Int32) (lf : Int32) (kd : Int32) : Int32 × Int32 :=
  if inB co 0 (v 0 1 - 1) then (if inB lf 0 (v 0 0 - 1) then (if inB kd 0 5 then ((needJ v (cN lf) (skipF v (cN lf) (stN v (cN lf)) (v 9 (cN co)) (v 8 (cN co)) (cN (v 4 (cN lf)))) (kd) (stN v (cN lf)), 0)) else ((0, 2))) else ((0, 1))) else ((0, 1))
set_option maxHeartbeats 4000000 in
set_option maxRecDepth 100000 in
theorem c_X10_wouldLeave (G : FG) (hL : FL G) (l : Launch) (hX0 : FX0 G l) (ω : FWd) (x y a hs0 sn tx ln tt : Nat) (v : Nat → Nat → Int32) (hsn : Int32) (hXA : XA x y a hs0 sn tx ln tt) (hx0 : ω.2 x = some (.inr (12, [.ref y, .ref a, .ref (a + 51), .ref hs0, .ref sn, .int hsn, .ref tx, .ref ln, .ref tt]))) (hA : ArcS G ω.2 a v) (hW0 : WF v) (co : Int32) (lf : Int32) (kd : Int32) : FMetX G l yX10_wouldLeave wsX10_wouldLeave ({ frames := 7, cells := 3, slots := 18, locals := 121 } : Room) [.ref x, .int co, .int lf, .int kd] ω (fun vv9 τ9 => vv9 = some (.int (wleaveC v co lf kd).1) ∧ (wleaveC v co lf kd).2 = 0 ∧ τ9 = ω) (fun E9 τ9 => XC2 "java/lang/IndexOutOfBoundsException" "java/lang/IllegalArgumentException" (wleaveC v co lf kd).2 E9 ∧ τ9.2 = ω.2) 3 18 := by
  refine fx_ofW (cc := cX10_wouldLeave) (maxL := 6) (ret := (some .int)) (by decide) rfl (Nat.le_of_ble_eq_true rfl) ?_
  intro pP eE sS mI ar9 bl9 meth cD ls hx hb hr hlocks hml hts hown hnm hW hR ht9 hl
  have hK := hL.K hW
  have hR0 := hR
  have hS : va_S (fwA G) sS.heap sS.heap [] := va_S.rf
  have hl : lv_has ls 6 [(0, .ref x), (1, .int co), (2, .int lf), (3, .int kd)] := hl
  obtain ⟨h0, h1, h2, h3, h4, h5, hLf, hCo⟩ := id hA
  obtain ⟨hxy, hxa, hxh, hxs, hxt, hxl, hxu⟩ := id hXA
  obtain ⟨c, hc8, hc, hcc⟩ := okN_of hW0.1
  obtain ⟨cc, hd5, hd, hdd⟩ := okN_of hW0.2.1
  have hs : ∀ j, j < c → v 3 j = nI (stN v j) ∧ stN v j ≤ 8 := fun j hj => (hW0.2.2 j (by rw [hcc]; exact hj)).1
  have hfo : ∀ j, j < c → v 4 j = nI (cN (v 4 j)) ∧ cN (v 4 j) ≤ 3 := fun j hj => (hW0.2.2 j (by rw [hcc]; exact hj)).2
  refine lv_aload_n hx hb dX10_wouldLeave_0 rfl (lv_at hl 0 rfl) ?_
  refine lv_iload_n hx hb dX10_wouldLeave_1 rfl (lv_at hl 1 rfl) ?_
  refine fx_call (vx_runV (As := [.int co]) (rest := []) ⟨hx, hb, hml, hown, hts⟩ (c_X10_cousinAt G hL l hX0 ω x y a hs0 sn tx ln tt v hsn hXA hx0 hA hW0 co) (cwV 1 hts gX10_wouldLeave_X10_cousinAt rfl rfl rfl (by decide +kernel) ⟨Nat.le_of_ble_eq_true rfl, Nat.le_of_ble_eq_true rfl⟩) (fw_preV hW hK hR hx0 rfl) rfl rfl hl.1 rfl (lv_room (Nat.le_of_ble_eq_true rfl)) dX10_wouldLeave_2 ⟨Nat.le_of_ble_eq_true rfl, Nat.le_of_ble_eq_true rfl⟩) hS (fun E_1 ce_1 q_1 τ_1 H locs hx_1 hR hS hce_1 hcv_1 hcl_1 => ?_) (fun v_1 ω_1 H locs hq_1 hR hS => ?_)
  · skip
    obtain ⟨rfl, hc_1, hw_1⟩ := hx_1
    have hr_2 : wleaveC v co lf kd = ((0, 1) : Int32 × Int32) := by
      simp only [wleaveC, hcc, hdd]
      rw [if_neg hc_1]
    exact fx_out ht9 hlocks ⟨by rw [hr_2]; exact Or.inl ⟨rfl, rfl⟩, hw_1⟩ hR hS hce_1 hcv_1 hcl_1 (by first | omega | decide) (by first | omega | decide)
  · skip
    refine W.widen (k := 1) (n := 6) (by first | omega | decide) (by first | omega | decide) ?_
    obtain ⟨hc_1, rfl, hw_1⟩ := hq_1
    rw [hw_1] at hR
    obtain ⟨i, hi2, rfl⟩ := in_c hd (by omega) hc_1
    have hci : cN (nI i) = i := cN_nI (by omega)
    refine W.eq (g2 := F0 mI 5 ls [.ref (a + 46 + i)]) (by rw [hci]; rfl) ?_
    refine lv_astore (lv' := [(4, .ref (a + 46 + i)), (0, .ref x), (1, .int (nI i)), (2, .int lf), (3, .int kd)]) hx hb dX10_wouldLeave_5 hl (by decide) rfl (fun ls hl => ?_)
    refine lv_aload_n hx hb dX10_wouldLeave_7 rfl (lv_at hl 1 rfl) ?_
    refine lv_iload_n hx hb dX10_wouldLeave_8 rfl (lv_at hl 3 rfl) ?_
    refine fx_call (vx_runV (As := [.int lf]) (rest := []) ⟨hx, hb, hml, hown, hts⟩ (c_X10_leafletAt G hL l hX0 ω x y a hs0 sn tx ln tt v hsn hXA hx0 hA hW0 lf) (cwV 1 hts gX10_wouldLeave_X10_leafletAt rfl rfl rfl (by decide +kernel) ⟨Nat.le_of_ble_eq_true rfl, Nat.le_of_ble_eq_true rfl⟩) (fw_preV hW hK hR hx0 rfl) rfl rfl hl.1 rfl (lv_room (Nat.le_of_ble_eq_true rfl)) dX10_wouldLeave_9 ⟨Nat.le_of_ble_eq_true rfl, Nat.le_of_ble_eq_true rfl⟩) hS (fun E_3 ce_3 q_3 τ_3 H locs hx_3 hR hS hce_3 hcv_3 hcl_3 => ?_) (fun v_3 ω_3 H locs hq_3 hR hS => ?_)
    · skip
      obtain ⟨rfl, hc_3, hw_3⟩ := hx_3
      have hr_4 : wleaveC v (nI i) lf kd = ((0, 1) : Int32 × Int32) := by
        simp only [wleaveC, hcc, hdd, hci]
        rw [if_pos hc_1, if_neg hc_3]
      exact fx_out ht9 hlocks ⟨by rw [hr_4]; exact Or.inl ⟨rfl, rfl⟩, hw_3⟩ hR hS hce_3 hcv_3 hcl_3 (by first | omega | decide) (by first | omega | decide)
    · skip
      refine W.widen (k := 2) (n := 12) (by first | omega | decide) (by first | omega | decide) ?_
      obtain ⟨hc_3, rfl, hw_3⟩ := hq_3
      rw [hw_3] at hR
      obtain ⟨j, hj2, rfl⟩ := in_c hc hc8 hc_3
      have hcj : cN (nI j) = j := cN_nI (by omega)
      refine W.eq (g2 := F0 mI 12 ls [.ref (a + 6 + 5 * j)]) (by rw [hcj]; rfl) ?_
      refine lv_astore (lv' := [(5, .ref (a + 6 + 5 * j)), (4, .ref (a + 46 + i)), (0, .ref x), (1, .int (nI i)), (2, .int (nI j)), (3, .int kd)]) hx hb dX10_wouldLeave_12 hl (by decide) rfl (fun ls hl => ?_)
      refine lv_aload_n hx hb dX10_wouldLeave_14 rfl (lv_at hl 2 rfl) ?_
      refine lv_iload_n hx hb dX10_wouldLeave_15 rfl (lv_at hl 5 rfl) ?_
      refine fx_call (vx_runV (As := [.int kd]) (rest := []) ⟨hx, hb, hml, hown, hts⟩ (c_X10_requireKind G hL l hX0 ω x kd) (cwV 1 hts gX10_wouldLeave_X10_requireKind rfl rfl rfl (by decide +kernel) ⟨Nat.le_of_ble_eq_true rfl, Nat.le_of_ble_eq_true rfl⟩) (fw_preV hW hK hR hx0 rfl) rfl rfl hl.1 rfl (lv_room (Nat.le_of_ble_eq_true rfl)) dX10_wouldLeave_16 ⟨Nat.le_of_ble_eq_true rfl, Nat.le_of_ble_eq_true rfl⟩) hS (fun E_5 ce_5 q_5 τ_5 H locs hx_5 hR hS hce_5 hcv_5 hcl_5 => ?_) (fun v_5 ω_5 H locs hq_5 hR hS => ?_)
      · skip
        obtain ⟨rfl, hc_5, hw_5⟩ := hx_5
        have hr_6 : wleaveC v (nI i) (nI j) kd = ((0, 2) : Int32 × Int32) := by
          simp only [wleaveC, hcc, hdd, hci, hcj]
          rw [if_pos hc_1, if_pos hc_3, if_neg hc_5]
        exact fx_out ht9 hlocks ⟨by rw [hr_6]; exact Or.inr (⟨rfl, rfl⟩), hw_5⟩ hR hS hce_5 hcv_5 hcl_5 (by first | omega | decide) (by first | omega | decide)
      · skip
        refine W.widen (k := 3) (n := 18) (by first | omega | decide) (by first | omega | decide) ?_
        obtain ⟨hc_5, rfl, hw_5⟩ := hq_5
        rw [hw_5] at hR
        obtain ⟨ki, hki5, rfl⟩ := in_n (n := 5) (by decide) hc_5
        have hcki : cN (nI ki) = ki := cN_nI (by omega)
        refine W.eq (g2 := F0 mI 19 ls []) rfl ?_
        refine lv_aload hx hb dX10_wouldLeave_19 (lv_at hl 0 rfl) ?_
        refine lv_aload hx hb dX10_wouldLeave_21 (lv_at hl 0 rfl) ?_
        refine lv_aload hx hb dX10_wouldLeave_23 (lv_at hl 1 rfl) ?_
        have f_7 : ω.2 (a + 46 + i) = some (.inr (5, [.int (v 8 i), .int (v 9 i)])) := hCo i (by omega)
        have f_8 : ω.2 (a + 6 + 5 * j) = some (.inr (7, [.int (v 3 j), .int (v 4 j), .int (v 5 j), .int (v 6 j - 1), .int (v 7 j), .ref (a + 6 + 5 * j + 1), .ref (a + 6 + 5 * j + 2), .ref (a + 6 + 5 * j + 3), .ref (a + 6 + 5 * j + 4)])) := (hLf j (by omega)).1
        refine fw_call (va_runV (As := [.ref (a + 46 + i)]) (rest := [.ref (a + 6 + 5 * j)]) ⟨hx, hb, hml, hown, hts⟩ (c_X5_stepsSkippedBy G hL l ω (a + 6 + 5 * j) j v (hLf j (by omega)) (stN v j) (hs j hj2).1 (hs j hj2).2 (cN (v 4 j)) (hfo j hj2).2 (hfo j hj2).1 (a + 46 + i) (v 8 i) (v 9 i) f_7) (cwV 1 hts gX10_wouldLeave_X5_stepsSkippedBy rfl rfl rfl (by decide +kernel) ⟨Nat.le_of_ble_eq_true rfl, Nat.le_of_ble_eq_true rfl⟩) (fw_preV hW hK hR f_8 rfl) rfl rfl hl.1 rfl (lv_room (Nat.le_of_ble_eq_true rfl)) dX10_wouldLeave_25 ⟨Nat.le_of_ble_eq_true rfl, Nat.le_of_ble_eq_true rfl⟩) hS (fun v_9 ω_10 H locs hq_11 hR hS => ?_)
        obtain ⟨rfl, hq_11⟩ := hq_11
        rw [hq_11] at hR
        refine W.eq (g2 := F0 mI 28 ls [.int (skipF v j (stN v j) (v 9 i) (v 8 i) (cN (v 4 j))), .ref (a + 6 + 5 * j)]) rfl ?_
        refine lv_iload_n hx hb dX10_wouldLeave_28 rfl (lv_at hl 5 rfl) ?_
        refine fw_call (va_runV (As := [.int (skipF v j (stN v j) (v 9 i) (v 8 i) (cN (v 4 j))), .int (nI ki)]) (rest := []) ⟨hx, hb, hml, hown, hts⟩ (c_X5_needOf G hL l ω (a + 6 + 5 * j) j v (hLf j (by omega)) (stN v j) (hs j hj2).1 (hs j hj2).2 (skipF v j (stN v j) (v 9 i) (v 8 i) (cN (v 4 j))) (nI ki)) (cwV 2 hts gX10_wouldLeave_X5_needOf rfl rfl rfl (by decide +kernel) ⟨Nat.le_of_ble_eq_true rfl, Nat.le_of_ble_eq_true rfl⟩) (fw_preV hW hK hR f_8 rfl) rfl rfl hl.1 rfl (lv_room (Nat.le_of_ble_eq_true rfl)) dX10_wouldLeave_29 ⟨Nat.le_of_ble_eq_true rfl, Nat.le_of_ble_eq_true rfl⟩) hS (fun v_12 ω_13 H locs hq_14 hR hS => ?_)
        obtain ⟨rfl, hq_14⟩ := hq_14
        rw [hq_14] at hR
        refine W.eq (g2 := F0 mI 32 ls [.int (needJ v j (skipF v j (stN v j) (v 9 i) (v 8 i) (cN (v 4 j))) (nI ki) (stN v j))]) rfl ?_
        refine W.widen (k := 3) (n := 18) (by first | omega | decide) (by first | omega | decide) ?_
        refine vx_ret ?_
        have hr_15 : wleaveC v (nI i) (nI j) (nI ki) = ((needJ v j (skipF v j (stN v j) (v 9 i) (v 8 i) (cN (v 4 j))) (nI ki) (stN v j), 0) : Int32 × Int32) := by
          simp only [wleaveC, hcc, hdd, hci, hcj, hcki]
          rw [if_pos hc_1, if_pos hc_3, if_pos hc_5]
        exact fw_iret hx hb hr hlocks hR hS dX10_wouldLeave_32 ⟨by rw [hr_15], by rw [hr_15], rfl⟩
def betC (v : Nat → Nat → Int32) (i : Nat) (i2 : Nat) (j : Nat) : Int32 := if (popF (skipF v j (stN v j) (v 9 i) (v 8 i) (cN (v 4 j)))) = (popF (skipF v j (stN v j) (v 9 i2) (v 8 i2) (cN (v 4 j)))) then (if (v 8 i2) ≤ (v 8 i) then (0) else (1)) else (if (popF (skipF v j (stN v j) (v 9 i2) (v 8 i2) (cN (v 4 j)))) ≤ (popF (skipF v j (stN v j) (v 9 i) (v 8 i) (cN (v 4 j)))) then (0) else (1))
set_option maxHeartbeats 4000000 in
set_option maxRecDepth 100000 in
theorem c_X10_isBetter (G : FG) (hL : FL G) (l : Launch) (ω : FWd) (x y a hs0 sn tx ln tt : Nat) (v : Nat → Nat → Int32) (hsn : Int32) (hXA : XA x y a hs0 sn tx ln tt) (hx0 : ω.2 x = some (.inr (12, [.ref y, .ref a, .ref (a + 51), .ref hs0, .ref sn, .int hsn, .ref tx, .ref ln, .ref tt]))) (hA : ArcS G ω.2 a v) (hW0 : WF v) (i : Nat) (hpi : i < cN (v 0 1)) (i2 : Nat) (hpi2 : i2 < cN (v 0 1)) (j : Nat) (hpj : j < cN (v 0 0)) : FMet G l yX10_isBetter wsX10_isBetter ({ frames := 4, cells := 0, slots := 0, locals := 88 } : Room) [.ref (a + 46 + i), .ref (a + 46 + i2), .ref (a + 6 + 5 * j)] ω (rI (betC v i i2 j) ω) 0 0 := by
  refine fw_ofW (cc := cX10_isBetter) (maxL := 5) (ret := (some .boolean)) (by decide) rfl (Nat.le_of_ble_eq_true rfl) ?_
  intro pP eE sS mI ar9 bl9 meth cD ls hx hb hr hlocks hml hts hown hnm hW hR hl
  have hK := hL.K hW
  have hS : va_S (fwA G) sS.heap sS.heap [] := va_S.rf
  have hin3 : ∀ w ∈ u_ws RX3 TX3 2, w ∈ wsX10_isBetter := by decide +kernel
  have hl : lv_has ls 5 [(0, .ref (a + 46 + i)), (1, .ref (a + 46 + i2)), (2, .ref (a + 6 + 5 * j))] := hl
  obtain ⟨h0, h1, h2, h3, h4, h5, hLf, hCo⟩ := id hA
  obtain ⟨hxy, hxa, hxh, hxs, hxt, hxl, hxu⟩ := id hXA
  obtain ⟨c, hc8, hc, hcc⟩ := okN_of hW0.1
  obtain ⟨cc, hd5, hd, hdd⟩ := okN_of hW0.2.1
  have hs : ∀ j, j < c → v 3 j = nI (stN v j) ∧ stN v j ≤ 8 := fun j hj => (hW0.2.2 j (by rw [hcc]; exact hj)).1
  have hfo : ∀ j, j < c → v 4 j = nI (cN (v 4 j)) ∧ cN (v 4 j) ≤ 3 := fun j hj => (hW0.2.2 j (by rw [hcc]; exact hj)).2
  have hi2 : i < cc := by rw [← hdd]; exact hpi
  have hi22 : i2 < cc := by rw [← hdd]; exact hpi2
  have hj2 : j < c := by rw [← hcc]; exact hpj
  refine lv_aload_n hx hb dX10_isBetter_0 rfl (lv_at hl 2 rfl) ?_
  refine lv_aload_n hx hb dX10_isBetter_1 rfl (lv_at hl 0 rfl) ?_
  have f_1 : ω.2 (a + 46 + i) = some (.inr (5, [.int (v 8 i), .int (v 9 i)])) := hCo i (by omega)
  have f_2 : ω.2 (a + 6 + 5 * j) = some (.inr (7, [.int (v 3 j), .int (v 4 j), .int (v 5 j), .int (v 6 j - 1), .int (v 7 j), .ref (a + 6 + 5 * j + 1), .ref (a + 6 + 5 * j + 2), .ref (a + 6 + 5 * j + 3), .ref (a + 6 + 5 * j + 4)])) := (hLf j (by omega)).1
  refine fw_call (va_runV (As := [.ref (a + 46 + i)]) (rest := []) ⟨hx, hb, hml, hown, hts⟩ (c_X5_stepsSkippedBy G hL l ω (a + 6 + 5 * j) j v (hLf j (by omega)) (stN v j) (hs j hj2).1 (hs j hj2).2 (cN (v 4 j)) (hfo j hj2).2 (hfo j hj2).1 (a + 46 + i) (v 8 i) (v 9 i) f_1) (cwV 1 hts gX10_isBetter_X5_stepsSkippedBy rfl rfl rfl (by decide +kernel) ⟨Nat.le_of_ble_eq_true rfl, Nat.le_of_ble_eq_true rfl⟩) (fw_preV hW hK hR f_2 rfl) rfl rfl hl.1 rfl (lv_room (Nat.le_of_ble_eq_true rfl)) dX10_isBetter_2 ⟨Nat.le_of_ble_eq_true rfl, Nat.le_of_ble_eq_true rfl⟩) hS (fun v_3 ω_4 H locs hq_5 hR hS => ?_)
  obtain ⟨rfl, hq_5⟩ := hq_5
  rw [hq_5] at hR
  refine W.eq (g2 := F0 mI 5 ls [.int (skipF v j (stN v j) (v 9 i) (v 8 i) (cN (v 4 j)))]) rfl ?_
  refine fw_call (va_runS (As := [.int (skipF v j (stN v j) (v 9 i) (v 8 i) (cN (v 4 j)))]) (rest := []) ⟨hx, hb, hml, hown, hts⟩ (c_J6_bitCount_0f7a4 G hL l ω (skipF v j (stN v j) (v 9 i) (v 8 i) (cN (v 4 j)))) (va_cwS 1 hts gX10_isBetter_J6_bitCount_0f7a4 rfl rfl rfl (by decide +kernel) ⟨Nat.le_of_ble_eq_true rfl, Nat.le_of_ble_eq_true rfl⟩) (fw_preS hW hR) rfl rfl hl.1 rfl (lv_room (Nat.le_of_ble_eq_true rfl)) dX10_isBetter_5 ⟨Nat.le_of_ble_eq_true rfl, Nat.le_of_ble_eq_true rfl⟩) hS (fun v_6 ω_7 H locs hq_8 hR hS => ?_)
  obtain ⟨rfl, hq_8⟩ := hq_8
  rw [hq_8] at hR
  refine W.eq (g2 := F0 mI 8 ls [.int (popF (skipF v j (stN v j) (v 9 i) (v 8 i) (cN (v 4 j))))]) rfl ?_
  refine lv_istore_n (lv' := [(3, .int (popF (skipF v j (stN v j) (v 9 i) (v 8 i) (cN (v 4 j))))), (0, .ref (a + 46 + i)), (1, .ref (a + 46 + i2)), (2, .ref (a + 6 + 5 * j))]) hx hb dX10_isBetter_8 rfl hl (by decide) rfl (fun ls hl => ?_)
  refine lv_aload_n hx hb dX10_isBetter_9 rfl (lv_at hl 3 rfl) ?_
  refine lv_aload_n hx hb dX10_isBetter_10 rfl (lv_at hl 2 rfl) ?_
  have f_9 : ω.2 (a + 46 + i2) = some (.inr (5, [.int (v 8 i2), .int (v 9 i2)])) := hCo i2 (by omega)
  refine fw_call (va_runV (As := [.ref (a + 46 + i2)]) (rest := []) ⟨hx, hb, hml, hown, hts⟩ (c_X5_stepsSkippedBy G hL l ω (a + 6 + 5 * j) j v (hLf j (by omega)) (stN v j) (hs j hj2).1 (hs j hj2).2 (cN (v 4 j)) (hfo j hj2).2 (hfo j hj2).1 (a + 46 + i2) (v 8 i2) (v 9 i2) f_9) (cwV 1 hts gX10_isBetter_X5_stepsSkippedBy rfl rfl rfl (by decide +kernel) ⟨Nat.le_of_ble_eq_true rfl, Nat.le_of_ble_eq_true rfl⟩) (fw_preV hW hK hR f_2 rfl) rfl rfl hl.1 rfl (lv_room (Nat.le_of_ble_eq_true rfl)) dX10_isBetter_11 ⟨Nat.le_of_ble_eq_true rfl, Nat.le_of_ble_eq_true rfl⟩) hS (fun v_10 ω_11 H locs hq_12 hR hS => ?_)
  obtain ⟨rfl, hq_12⟩ := hq_12
  rw [hq_12] at hR
  refine W.eq (g2 := F0 mI 14 ls [.int (skipF v j (stN v j) (v 9 i2) (v 8 i2) (cN (v 4 j)))]) rfl ?_
  refine fw_call (va_runS (As := [.int (skipF v j (stN v j) (v 9 i2) (v 8 i2) (cN (v 4 j)))]) (rest := []) ⟨hx, hb, hml, hown, hts⟩ (c_J6_bitCount_0f7a4 G hL l ω (skipF v j (stN v j) (v 9 i2) (v 8 i2) (cN (v 4 j)))) (va_cwS 1 hts gX10_isBetter_J6_bitCount_0f7a4 rfl rfl rfl (by decide +kernel) ⟨Nat.le_of_ble_eq_true rfl, Nat.le_of_ble_eq_true rfl⟩) (fw_preS hW hR) rfl rfl hl.1 rfl (lv_room (Nat.le_of_ble_eq_true rfl)) dX10_isBetter_14 ⟨Nat.le_of_ble_eq_true rfl, Nat.le_of_ble_eq_true rfl⟩) hS (fun v_13 ω_14 H locs hq_15 hR hS => ?_)
  obtain ⟨rfl, hq_15⟩ := hq_15
  rw [hq_15] at hR
  refine W.eq (g2 := F0 mI 17 ls [.int (popF (skipF v j (stN v j) (v 9 i2) (v 8 i2) (cN (v 4 j))))]) rfl ?_
  refine lv_istore (lv' := [(4, .int (popF (skipF v j (stN v j) (v 9 i2) (v 8 i2) (cN (v 4 j))))), (3, .int (popF (skipF v j (stN v j) (v 9 i) (v 8 i) (cN (v 4 j))))), (0, .ref (a + 46 + i)), (1, .ref (a + 46 + i2)), (2, .ref (a + 6 + 5 * j))]) hx hb dX10_isBetter_17 hl (by decide) rfl (fun ls hl => ?_)
  refine lv_iload_n hx hb dX10_isBetter_19 rfl (lv_at hl 1 rfl) ?_
  refine lv_iload hx hb dX10_isBetter_20 (lv_at hl 0 rfl) ?_
  refine lv_icmp_eq (tgt := 37) hx hb dX10_isBetter_22 (by decide) (fun c_16 => ?_) (fun c_16 => ?_)
  · skip
    refine lv_aload_n hx hb dX10_isBetter_37 rfl (lv_at hl 2 rfl) ?_
    refine fw_get (v := .int (v 8 i)) (C := RX3) (T := TX3) (N := 2) hx hb hts hin3 hown hK hR f_1 rfl 0 (by decide) (hts (.fieldLink RX10 180 "UnreadLeaflets$Cousin" "boast" "I") (by decide +kernel)) rfl dX10_isBetter_38 ?_
    refine lv_aload_n hx hb dX10_isBetter_41 rfl (lv_at hl 3 rfl) ?_
    refine fw_get (v := .int (v 8 i2)) (C := RX3) (T := TX3) (N := 2) hx hb hts hin3 hown hK hR f_9 rfl 0 (by decide) (hts (.fieldLink RX10 180 "UnreadLeaflets$Cousin" "boast" "I") (by decide +kernel)) rfl dX10_isBetter_42 ?_
    refine lv_icmp_ge (tgt := 52) hx hb dX10_isBetter_45 (by decide) (fun c_17 => ?_) (fun c_17 => ?_)
    · skip
      refine lv_iconst (v := 0) hx hb dX10_isBetter_52 (by decide) ?_
      have fr_18 : ∀ q : Nat, True → ω.2 q = ω.2 q := by
        intro q _
        rfl
      have z_19 : ω.1 = ω.1 := rfl
      have hr_20 : betC v i i2 j = (0 : Int32) := by
        simp only [betC, hcc, hdd]
        rw [if_pos c_16, if_pos c_17]
      refine fw_zret hx hb hr rfl hlocks hR hS dX10_isBetter_53 (rI_mk hr_20.symm)
    · skip
      refine lv_iconst (v := 1) hx hb dX10_isBetter_48 (by decide) ?_
      refine lv_goto (tgt := 53) hx hb dX10_isBetter_49 (by decide) ?_
      have fr_21 : ∀ q : Nat, True → ω.2 q = ω.2 q := by
        intro q _
        rfl
      have z_22 : ω.1 = ω.1 := rfl
      have hr_23 : betC v i i2 j = (1 : Int32) := by
        simp only [betC, hcc, hdd]
        rw [if_pos c_16, if_neg c_17]
      refine fw_zret hx hb hr rfl hlocks hR hS dX10_isBetter_53 (rI_mk hr_23.symm)
  · skip
    refine lv_iload_n hx hb dX10_isBetter_25 rfl (lv_at hl 1 rfl) ?_
    refine lv_iload hx hb dX10_isBetter_26 (lv_at hl 0 rfl) ?_
    refine lv_icmp_ge (tgt := 35) hx hb dX10_isBetter_28 (by decide) (fun c_24 => ?_) (fun c_24 => ?_)
    · skip
      refine lv_iconst (v := 0) hx hb dX10_isBetter_35 (by decide) ?_
      have fr_25 : ∀ q : Nat, True → ω.2 q = ω.2 q := by
        intro q _
        rfl
      have z_26 : ω.1 = ω.1 := rfl
      have hr_27 : betC v i i2 j = (0 : Int32) := by
        simp only [betC, hcc, hdd]
        rw [if_neg c_16, if_pos c_24]
      refine fw_zret hx hb hr rfl hlocks hR hS dX10_isBetter_36 (rI_mk hr_27.symm)
    · skip
      refine lv_iconst (v := 1) hx hb dX10_isBetter_31 (by decide) ?_
      refine lv_goto (tgt := 36) hx hb dX10_isBetter_32 (by decide) ?_
      have fr_28 : ∀ q : Nat, True → ω.2 q = ω.2 q := by
        intro q _
        rfl
      have z_29 : ω.1 = ω.1 := rfl
      have hr_30 : betC v i i2 j = (1 : Int32) := by
        simp only [betC, hcc, hdd]
        rw [if_neg c_16, if_neg c_24]
      refine fw_zret hx hb hr rfl hlocks hR hS dX10_isBetter_36 (rI_mk hr_30.symm)
def bcLC (v : Nat → Nat → Int32) (j : Nat) : Nat → Nat
  | 0 => 0
  | q + 1 => if betC v (q + 1) (bcLC v j q) j = 0 then bcLC v j q else q + 1
theorem bcLC_le {v : Nat → Nat → Int32} {j : Nat} : ∀ q, bcLC v j q ≤ q
  | 0 => Nat.le_refl _
  | q + 1 => by
    rw [bcLC]
    split
    · exact Nat.le_succ_of_le (bcLC_le q)
    · exact Nat.le_refl _
def bcouC (v : Nat → Nat → Int32) (lf : Int32) : Int32 × Int32 :=
  if inB lf 0 (v 0 0 - 1) then (if (v 0 1) = 0 then ((0, 2)) else ((nI (bcLC v (cN lf) ((cN (v 0 1)) - 1)), 0))) else ((0, 1))
set_option maxHeartbeats 4000000 in
set_option maxRecDepth 100000 in
theorem c_X10_bestCousin (G : FG) (hL : FL G) (l : Launch) (hX0 : FX0 G l) (ω : FWd) (x y a hs0 sn tx ln tt : Nat) (v : Nat → Nat → Int32) (hsn : Int32) (hXA : XA x y a hs0 sn tx ln tt) (hx0 : ω.2 x = some (.inr (12, [.ref y, .ref a, .ref (a + 51), .ref hs0, .ref sn, .int hsn, .ref tx, .ref ln, .ref tt]))) (hA : ArcS G ω.2 a v) (hW0 : WF v) (lf : Int32) : FMetX G l yX10_bestCousin wsX10_bestCousin ({ frames := 7, cells := 2, slots := 12, locals := 121 } : Room) [.ref x, .int lf] ω (fun vv9 τ9 => vv9 = some (.int (bcouC v lf).1) ∧ (bcouC v lf).2 = 0 ∧ τ9 = ω) (fun E9 τ9 => XC2 "java/lang/IndexOutOfBoundsException" "java/util/NoSuchElementException" (bcouC v lf).2 E9 ∧ τ9.2 = ω.2) 2 12 := by
  refine fx_ofW (cc := cX10_bestCousin) (maxL := 5) (ret := (some .int)) (by decide) rfl (Nat.le_of_ble_eq_true rfl) ?_
  intro pP eE sS mI ar9 bl9 meth cD ls hx hb hr hlocks hml hts hown hnm hW hR ht9 hl
  have hK := hL.K hW
  have hR0 := hR
  have hS : va_S (fwA G) sS.heap sS.heap [] := va_S.rf
  have hin0 : ∀ w ∈ u_ws RX0 TX0 9, w ∈ wsX10_bestCousin := by decide +kernel
  have hin10 : ∀ w ∈ u_ws RX10 TX10 9, w ∈ wsX10_bestCousin := by decide +kernel
  have hl : lv_has ls 5 [(0, .ref x), (1, .int lf)] := hl
  obtain ⟨h0, h1, h2, h3, h4, h5, hLf, hCo⟩ := id hA
  obtain ⟨hxy, hxa, hxh, hxs, hxt, hxl, hxu⟩ := id hXA
  obtain ⟨c, hc8, hc, hcc⟩ := okN_of hW0.1
  obtain ⟨cc, hd5, hd, hdd⟩ := okN_of hW0.2.1
  have hs : ∀ j, j < c → v 3 j = nI (stN v j) ∧ stN v j ≤ 8 := fun j hj => (hW0.2.2 j (by rw [hcc]; exact hj)).1
  have hfo : ∀ j, j < c → v 4 j = nI (cN (v 4 j)) ∧ cN (v 4 j) ≤ 3 := fun j hj => (hW0.2.2 j (by rw [hcc]; exact hj)).2
  refine lv_aload_n hx hb dX10_bestCousin_0 rfl (lv_at hl 0 rfl) ?_
  refine lv_iload_n hx hb dX10_bestCousin_1 rfl (lv_at hl 1 rfl) ?_
  refine fx_call (vx_runV (As := [.int lf]) (rest := []) ⟨hx, hb, hml, hown, hts⟩ (c_X10_leafletAt G hL l hX0 ω x y a hs0 sn tx ln tt v hsn hXA hx0 hA hW0 lf) (cwV 1 hts gX10_bestCousin_X10_leafletAt rfl rfl rfl (by decide +kernel) ⟨Nat.le_of_ble_eq_true rfl, Nat.le_of_ble_eq_true rfl⟩) (fw_preV hW hK hR hx0 rfl) rfl rfl hl.1 rfl (lv_room (Nat.le_of_ble_eq_true rfl)) dX10_bestCousin_2 ⟨Nat.le_of_ble_eq_true rfl, Nat.le_of_ble_eq_true rfl⟩) hS (fun E_1 ce_1 q_1 τ_1 H locs hx_1 hR hS hce_1 hcv_1 hcl_1 => ?_) (fun v_1 ω_1 H locs hq_1 hR hS => ?_)
  · skip
    obtain ⟨rfl, hc_1, hw_1⟩ := hx_1
    have hr_2 : bcouC v lf = ((0, 1) : Int32 × Int32) := by
      simp only [bcouC, hcc, hdd]
      rw [if_neg hc_1]
    exact fx_out ht9 hlocks ⟨by rw [hr_2]; exact Or.inl ⟨rfl, rfl⟩, hw_1⟩ hR hS hce_1 hcv_1 hcl_1 (by first | omega | decide) (by first | omega | decide)
  · skip
    refine W.widen (k := 1) (n := 6) (by first | omega | decide) (by first | omega | decide) ?_
    obtain ⟨hc_1, rfl, hw_1⟩ := hq_1
    rw [hw_1] at hR
    obtain ⟨j, hj2, rfl⟩ := in_c hc hc8 hc_1
    have hcj : cN (nI j) = j := cN_nI (by omega)
    refine W.eq (g2 := F0 mI 5 ls [.ref (a + 6 + 5 * j)]) (by rw [hcj]; rfl) ?_
    refine lv_astore_n (lv' := [(2, .ref (a + 6 + 5 * j)), (0, .ref x), (1, .int (nI j))]) hx hb dX10_bestCousin_5 rfl hl (by decide) rfl (fun ls hl => ?_)
    refine lv_aload_n hx hb dX10_bestCousin_6 rfl (lv_at hl 1 rfl) ?_
    refine fw_get (v := .ref a) (C := RX10) (T := TX10) (N := 9) hx hb hts hin10 hown hK hR hx0 rfl 1 (by decide) (hts (.fieldLink RX10 20 "UnreadLeaflets" "archive" "LUnreadLeaflets$Archive;") (by decide +kernel)) rfl dX10_bestCousin_7 ?_
    refine fw_get (v := .int (v 0 1)) (C := RX0) (T := TX0) (N := 9) hx hb hts hin0 hown hK hR h0 rfl 3 (by decide) (hts (.fieldLink RX10 258 "UnreadLeaflets$Archive" "cousinCount" "I") (by decide +kernel)) rfl dX10_bestCousin_10 ?_
    refine lv_if_ne (tgt := 27) hx hb dX10_bestCousin_13 (by decide) (fun c_3 => ?_) (fun c_3 => ?_)
    · skip
      refine lv_iconst (v := 0) hx hb dX10_bestCousin_27 (by decide) ?_
      refine lv_istore_n (lv' := [(3, .int 0), (2, .ref (a + 6 + 5 * j)), (0, .ref x), (1, .int (nI j))]) hx hb dX10_bestCousin_28 rfl hl (by decide) rfl (fun ls hl => ?_)
      refine lv_iconst (v := 1) hx hb dX10_bestCousin_29 (by decide) ?_
      refine lv_istore (lv' := [(4, .int 1), (3, .int 0), (2, .ref (a + 6 + 5 * j)), (0, .ref x), (1, .int (nI j))]) hx hb dX10_bestCousin_30 hl (by decide) rfl (fun ls hl => ?_)
      have loop_4 : ∀ (fu : Nat) (q : Nat), (cc - q) < fu → (q ≤ cc - 1) → ∀ (H : Heap) (locs : List Loc) (ls : Array Slot), fR G ω H → va_S (fwA G) sS.heap H locs → lv_has ls 5 [(4, .int (nI (q + 1))), (3, .int (nI (bcLC v j q))), (2, .ref (a + 6 + 5 * j)), (0, .ref x), (1, .int (nI j))] → W pP l eE ({ frames := 7, cells := 2, slots := 12, locals := 121 } : Room) sS mI ar9 bl9 meth cD H locs 1 6 (vx_MQ bl9 (fQ G (fun vv9 τ9 => vv9 = some (.int (bcouC v (nI j)).1) ∧ (bcouC v (nI j)).2 = 0 ∧ τ9 = ω)) (fXX G (fun E9 τ9 => XC2 "java/lang/IndexOutOfBoundsException" "java/util/NoSuchElementException" (bcouC v (nI j)).2 E9 ∧ τ9.2 = ω.2)) ar9 sS 2 12 (fwA G)) (F0 mI 32 ls []) := by
        intro fu
        induction fu with
        | zero => intro q hfu; exact absurd hfu (Nat.not_lt_zero _)
        | succ fu ih =>
          intro q hfu hq H locs ls hR hS hl
          refine lv_iload hx hb dX10_bestCousin_32 (lv_at hl 0 rfl) ?_
          refine lv_aload_n hx hb dX10_bestCousin_34 rfl (lv_at hl 3 rfl) ?_
          refine fw_get (v := .ref a) (C := RX10) (T := TX10) (N := 9) hx hb hts hin10 hown hK hR hx0 rfl 1 (by decide) (hts (.fieldLink RX10 20 "UnreadLeaflets" "archive" "LUnreadLeaflets$Archive;") (by decide +kernel)) rfl dX10_bestCousin_35 ?_
          refine fw_get (v := .int (v 0 1)) (C := RX0) (T := TX0) (N := 9) hx hb hts hin0 hown hK hR h0 rfl 3 (by decide) (hts (.fieldLink RX10 258 "UnreadLeaflets$Archive" "cousinCount" "I") (by decide +kernel)) rfl dX10_bestCousin_38 ?_
          refine lv_icmp_ge (tgt := 79) hx hb dX10_bestCousin_41 (by decide) (fun c_5 => ?_) (fun c_5 => ?_)
          · skip
            have hq9 : q = cc - 1 := by have h9 := c_5; rw [hd] at h9; have := (nI_leI (by omega) (by omega)).mp h9; omega
            subst hq9
            refine lv_iload_n hx hb dX10_bestCousin_79 rfl (lv_at hl 1 rfl) ?_
            refine W.widen (k := 2) (n := 12) (by first | omega | decide) (by first | omega | decide) ?_
            refine vx_ret ?_
            have hr_6 : bcouC v (nI j) = ((nI (bcLC v j (cc - 1)), 0) : Int32 × Int32) := by
              simp only [bcouC, hcc, hdd, hcj]
              rw [if_pos hc_1, if_neg c_3]
            exact fw_iret hx hb hr hlocks hR hS dX10_bestCousin_80 ⟨by rw [hr_6], by rw [hr_6], rfl⟩
          · skip
            have hq2 : q + 1 < cc := by have h9 := c_5; rw [hd] at h9; exact Nat.lt_of_not_le (fun z => h9 ((nI_leI (by omega) (by omega)).mpr z))
            have hb2 : bcLC v j q < cc := Nat.lt_of_le_of_lt (bcLC_le q) (by omega)
            refine lv_aload_n hx hb dX10_bestCousin_44 rfl (lv_at hl 3 rfl) ?_
            refine fw_get (v := .ref a) (C := RX10) (T := TX10) (N := 9) hx hb hts hin10 hown hK hR hx0 rfl 1 (by decide) (hts (.fieldLink RX10 20 "UnreadLeaflets" "archive" "LUnreadLeaflets$Archive;") (by decide +kernel)) rfl dX10_bestCousin_45 ?_
            refine fw_get (v := .ref (a + 2)) (C := RX0) (T := TX0) (N := 9) hx hb hts hin0 hown hK hR h0 rfl 2 (by decide) (hts (.fieldLink RX10 217 "UnreadLeaflets$Archive" "cousins" "[LUnreadLeaflets$Cousin;") (by decide +kernel)) rfl dX10_bestCousin_48 ?_
            refine lv_iload hx hb dX10_bestCousin_51 (lv_at hl 0 rfl) ?_
            refine fw_aald (b := a + 46 + (q + 1)) hx hb hK hR h2 rfl (vp_in_nI (by omega) (by omega)) (by rw [nI_clamp (by omega)]) dX10_bestCousin_53 ?_
            refine lv_aload_n hx hb dX10_bestCousin_54 rfl (lv_at hl 3 rfl) ?_
            refine fw_get (v := .ref a) (C := RX10) (T := TX10) (N := 9) hx hb hts hin10 hown hK hR hx0 rfl 1 (by decide) (hts (.fieldLink RX10 20 "UnreadLeaflets" "archive" "LUnreadLeaflets$Archive;") (by decide +kernel)) rfl dX10_bestCousin_55 ?_
            refine fw_get (v := .ref (a + 2)) (C := RX0) (T := TX0) (N := 9) hx hb hts hin0 hown hK hR h0 rfl 2 (by decide) (hts (.fieldLink RX10 217 "UnreadLeaflets$Archive" "cousins" "[LUnreadLeaflets$Cousin;") (by decide +kernel)) rfl dX10_bestCousin_58 ?_
            refine lv_iload_n hx hb dX10_bestCousin_61 rfl (lv_at hl 1 rfl) ?_
            refine fw_aald (b := a + 46 + (bcLC v j q)) hx hb hK hR h2 rfl (vp_in_nI (by omega) (by omega)) (by rw [nI_clamp (by omega)]) dX10_bestCousin_62 ?_
            refine lv_aload_n hx hb dX10_bestCousin_63 rfl (lv_at hl 2 rfl) ?_
            refine fw_call (va_runS (As := [.ref (a + 46 + (q + 1)), .ref (a + 46 + (bcLC v j q)), .ref (a + 6 + 5 * j)]) (rest := []) ⟨hx, hb, hml, hown, hts⟩ (c_X10_isBetter G hL l ω x y a hs0 sn tx ln tt v hsn hXA hx0 hA hW0 (q + 1) (by rw [hdd]; omega) (bcLC v j q) (by rw [hdd]; omega) j (by rw [hcc]; omega)) (va_cwS 3 hts gX10_bestCousin_X10_isBetter rfl rfl rfl (by decide +kernel) ⟨Nat.le_of_ble_eq_true rfl, Nat.le_of_ble_eq_true rfl⟩) (fw_preS hW hR) rfl rfl hl.1 rfl (lv_room (Nat.le_of_ble_eq_true rfl)) dX10_bestCousin_64 ⟨Nat.le_of_ble_eq_true rfl, Nat.le_of_ble_eq_true rfl⟩) hS (fun v_7 ω_8 H locs hq_9 hR hS => ?_)
            obtain ⟨rfl, hq_9⟩ := hq_9
            rw [hq_9] at hR
            refine W.eq (g2 := F0 mI 67 ls [.int (betC v (q + 1) (bcLC v j q) j)]) rfl ?_
            refine lv_if_eq (tgt := 73) hx hb dX10_bestCousin_67 (by decide) (fun c_10 => ?_) (fun c_10 => ?_)
            · skip
              obtain ⟨x_11, ex_11⟩ : ∃ y : Int32, y = (nI (q + 1)) + 1 := ⟨_, rfl⟩
              refine lv_iinc (v := x_11) (lv' := [(4, .int x_11), (3, .int (nI (bcLC v j q))), (2, .ref (a + 6 + 5 * j)), (0, .ref x), (1, .int (nI j))]) hx hb dX10_bestCousin_73 hl (k := 0) rfl (by rw [ex_11]; rfl) (by decide) rfl (fun ls hl => ?_)
              refine lv_goto (tgt := 32) hx hb dX10_bestCousin_76 (by decide) ?_
              have el_4 : x_11 = nI ((q + 1) + 1) := by rw [ex_11]; exact nI_1 (q + 1)
              have el_3 : nI (bcLC v j q) = nI (bcLC v j (q + 1)) := by first | (rw [bcLC, if_pos (by assumption)]; done) | (rw [bcLC, if_neg (by assumption)]; done) | (rw [bcLC, if_neg (fun z => absurd z (by assumption))])
              have hl := lv_sub (l' := [(4, .int x_11), (3, .int (nI (bcLC v j q))), (2, .ref (a + 6 + 5 * j)), (0, .ref x), (1, .int (nI j))]) hl [0, 1, 2, 3, 4] rfl
              rw [el_4, el_3] at hl
              exact ih (q + 1) (by omega) (by first | assumption | omega | (simp; done)) _ _ _ hR hS hl
            · skip
              refine lv_iload hx hb dX10_bestCousin_70 (lv_at hl 0 rfl) ?_
              refine lv_istore_n (lv' := [(3, .int (nI (q + 1))), (4, .int (nI (q + 1))), (2, .ref (a + 6 + 5 * j)), (0, .ref x), (1, .int (nI j))]) hx hb dX10_bestCousin_72 rfl hl (by decide) rfl (fun ls hl => ?_)
              obtain ⟨x_12, ex_12⟩ : ∃ y : Int32, y = (nI (q + 1)) + 1 := ⟨_, rfl⟩
              refine lv_iinc (v := x_12) (lv' := [(4, .int x_12), (3, .int (nI (q + 1))), (2, .ref (a + 6 + 5 * j)), (0, .ref x), (1, .int (nI j))]) hx hb dX10_bestCousin_73 hl (k := 1) rfl (by rw [ex_12]; rfl) (by decide) rfl (fun ls hl => ?_)
              refine lv_goto (tgt := 32) hx hb dX10_bestCousin_76 (by decide) ?_
              have el_4 : x_12 = nI ((q + 1) + 1) := by rw [ex_12]; exact nI_1 (q + 1)
              have el_3 : nI (q + 1) = nI (bcLC v j (q + 1)) := by first | (rw [bcLC, if_pos (by assumption)]; done) | (rw [bcLC, if_neg (by assumption)]; done) | (rw [bcLC, if_neg (fun z => absurd z (by assumption))])
              have hl := lv_sub (l' := [(4, .int x_12), (3, .int (nI (q + 1))), (2, .ref (a + 6 + 5 * j)), (0, .ref x), (1, .int (nI j))]) hl [0, 1, 2, 3, 4] rfl
              rw [el_4, el_3] at hl
              exact ih (q + 1) (by omega) (by first | assumption | omega | (simp; done)) _ _ _ hR hS hl
      exact loop_4 _ 0 (Nat.lt_succ_self _) (by first | rfl | assumption | omega | (simp; done)) _ _ _ hR hS (lv_sub hl [0, 1, 2, 3, 4] rfl)
    · skip
      have hr_13 : bcouC v (nI j) = ((0, 2) : Int32 × Int32) := by
        simp only [bcouC, hcc, hdd, hcj]
        rw [if_pos hc_1, if_pos c_3]
      exact fx_throwNW (ω := ω) (τ := ω) (text := "there are no cousins") (ws := wsX10_bestCousin) hx hb hX0 hW hts hown (by decide) (by decide) (by decide +kernel) (by decide +kernel) (by decide) (fun w9 h9 => List.mem_cons_of_mem _ (List.mem_append_left _ (List.mem_append_right _ h9))) xn_228 xg_228 hR0 hR hS (hl.1.trans hml.symm) dX10_bestCousin_16 dX10_bestCousin_19 dX10_bestCousin_20 dX10_bestCousin_23 dX10_bestCousin_26 ht9 (by decide) (Nat.le_of_ble_eq_true rfl) (Nat.le_of_ble_eq_true rfl) (Nat.le_of_ble_eq_true rfl) hlocks (fun n9 => ⟨by rw [hr_13]; exact Or.inr (⟨rfl, rfl⟩), rfl⟩) (Nat.le_of_ble_eq_true rfl) (Nat.le_of_ble_eq_true rfl)
