/-! ===== the class's own changes: what is known before and behind ===== -/
def updR (R : Nat → Nat → Nat → Int32) (p : Nat) (w : Nat → Nat → Int32) : Nat → Nat → Nat → Int32 := fun i => if i = p then w else R i
theorem HisS.keep {G : FG} {σ τ : Nat → Option va_E} {h p ct : Nat} {R : Nat → Nat → Nat → Int32} (hh : HisS G σ h R p ct) (hfr : ∀ q : Nat, h ≤ q → q < h + 461 → τ q = σ q) : HisS G τ h R p ct :=
  ⟨(hfr h (by omega) (by omega)).trans hh.1, (hfr (h + 1) (by omega) (by omega)).trans hh.2.1, fun i hi => (hh.2.2 i hi).keep (fun q q1 q2 => hfr q (by omega) (by omega))⟩
theorem HisS.set1 {G : FG} {σ τ : Nat → Option va_E} {h p ct : Nat} {R : Nat → Nat → Nat → Int32} {w : Nat → Nat → Int32} (hh : HisS G σ h R p ct) (hp : p < 9) (hA : ArcS G τ (h + 2 + 51 * p) w) (hfr : ∀ q : Nat, (q < h + 2 + 51 * p ∨ h + 2 + 51 * p + 51 ≤ q) → τ q = σ q) : HisS G τ h (updR R p w) p ct := by
  refine ⟨(hfr h (by omega)).trans hh.1, (hfr (h + 1) (by omega)).trans hh.2.1, fun i hi => ?_⟩
  by_cases hip : i = p
  · subst hip; unfold updR; rw [if_pos rfl]; exact hA
  · unfold updR; rw [if_neg hip]
    exact (hh.2.2 i hi).keep (fun q q1 q2 => hfr q (by omega))
theorem HisS.head {G : FG} {σ τ : Nat → Option va_E} {h p ct p2 ct2 : Nat} {R : Nat → Nat → Nat → Int32} (hh : HisS G σ h R p ct) (h9 : τ h = some (.inr (6, [.ref (h + 1), .int (nI p2), .int (nI ct2)]))) (hfr : ∀ q : Nat, ¬ q = h → τ q = σ q) : HisS G τ h R p2 ct2 :=
  ⟨h9, (hfr (h + 1) (by omega)).trans hh.2.1, fun i hi => (hh.2.2 i hi).keep (fun q q1 q2 => hfr q (by omega))⟩
def ChP (G : FG) (ω : FWd) (a hs0 : Nat) (v : Nat → Nat → Int32) (R : Nat → Nat → Nat → Int32) (p p2 ct2 : Nat) (C : CR) (τ : FWd) : Prop := ArcS G τ.2 a C.2.1 ∧ τ.2 (a + 51) = some (.inr (9, [.int C.2.2.1, .int C.2.2.2.1, .int C.2.2.2.2])) ∧ (∃ w9, HisS G τ.2 hs0 (updR R p w9) p2 ct2 ∧ Live w9 v) ∧ ∀ q : Nat, (q < a ∨ hs0 + 461 ≤ q) → τ.2 q = ω.2 q
set_option maxHeartbeats 4000000 in
set_option maxRecDepth 100000 in
theorem c_X10_settled (G : FG) (hL : FL G) (l : Launch) (hX0 : FX0 G l) (ω : FWd) (x y a hs0 sn tx ln tt : Nat) (hsn : Int32) (R : Nat → Nat → Nat → Int32) (p ct : Nat) (hx0 : ω.2 x = some (.inr (12, [.ref y, .ref a, .ref (a + 51), .ref hs0, .ref sn, .int hsn, .ref tx, .ref ln, .ref tt]))) (hH : HisS G ω.2 hs0 R p ct) (hp : p < 9) (hct : ct ≤ 8) (an : Int32) : FMetX G l yX10_settled wsX10_settled ({ frames := 6, cells := 1, slots := 6, locals := 100 } : Room) [.ref x, .int an] ω (fun vv9 τ9 => vv9 = some (.int an) ∧ ¬ an = (-1) ∧ HisS G τ9.2 hs0 R ((p + 1) % 9) (min (ct + 1) 8) ∧ ∀ q : Nat, ¬ q = hs0 → τ9.2 q = ω.2 q) (fun E9 τ9 => E9 = "java/lang/UnsupportedOperationException" ∧ an = (-1) ∧ τ9.2 = ω.2) 1 6 := by
  refine fx_ofW (cc := cX10_settled) (maxL := 2) (ret := (some .int)) (by decide) rfl (Nat.le_of_ble_eq_true rfl) ?_
  intro pP eE sS mI ar9 bl9 meth cD ls hx hb hr hlocks hml hts hown hnm hW hR ht9 hl
  have hK := hL.K hW
  have hR0 := hR
  have hS : va_S (fwA G) sS.heap sS.heap [] := va_S.rf
  have hin10 : ∀ w ∈ u_ws RX10 TX10 9, w ∈ wsX10_settled := by decide +kernel
  have hl : lv_has ls 2 [(0, .ref x), (1, .int an)] := hl
  obtain ⟨g0, g1, g2⟩ := id hH
  refine lv_iload_n hx hb dX10_settled_0 rfl (lv_at hl 1 rfl) ?_
  refine lv_iconst (v := (-1)) hx hb dX10_settled_1 (by decide) ?_
  refine lv_icmp_ne (tgt := 15) hx hb dX10_settled_2 (by decide) (fun c_1 => ?_) (fun c_1 => ?_)
  · skip
    refine lv_aload_n hx hb dX10_settled_15 rfl (lv_at hl 0 rfl) ?_
    refine fw_get (v := .ref hs0) (C := RX10) (T := TX10) (N := 9) hx hb hts hin10 hown hK hR hx0 rfl 3 (by decide) (hts (.fieldLink RX10 29 "UnreadLeaflets" "history" "LUnreadLeaflets$History;") (by decide +kernel)) rfl dX10_settled_16 ?_
    refine fw_call (va_runV (As := []) (rest := []) ⟨hx, hb, hml, hown, hts⟩ (c_X4_keep G hL l ω hs0 R p ct hH hp hct) (cwV 0 hts gX10_settled_X4_keep rfl rfl rfl (by decide +kernel) ⟨Nat.le_of_ble_eq_true rfl, Nat.le_of_ble_eq_true rfl⟩) (fw_preV hW hK hR g0 rfl) rfl rfl hl.1 rfl (lv_room (Nat.le_of_ble_eq_true rfl)) dX10_settled_19 ⟨Nat.le_of_ble_eq_true rfl, Nat.le_of_ble_eq_true rfl⟩) hS (fun v_2 ω_3 H locs hq_4 hR hS => ?_)
    obtain ⟨rfl, z_5, f_7, fr_6⟩ := hq_4
    refine W.eq (g2 := F0 mI 22 ls []) rfl ?_
    refine lv_iload_n hx hb dX10_settled_22 rfl (lv_at hl 1 rfl) ?_
    refine W.widen (k := 1) (n := 6) (by first | omega | decide) (by first | omega | decide) ?_
    refine vx_ret ?_
    refine fw_iret hx hb hr hlocks hR hS dX10_settled_23 ?_
    exact ⟨rfl, c_1, hH.head f_7 fr_6, fr_6⟩
  · skip
    exact fx_throw (ω := ω) (τ := ω) (cls := "java/lang/UnsupportedOperationException") (text := "refused") (ws := wsX10_settled) hx hb hX0 hW hts hown (by decide) (by decide) (by decide +kernel) (by decide +kernel) (by decide) (fun w9 h9 => List.mem_cons_of_mem _ (List.mem_append_right _ h9)) xn_107 xg_107 hR0 hR hS (hl.1.trans hml.symm) dX10_settled_5 dX10_settled_8 dX10_settled_9 dX10_settled_11 dX10_settled_14 ht9 (by decide) (Nat.le_of_ble_eq_true rfl) (Nat.le_of_ble_eq_true rfl) (Nat.le_of_ble_eq_true rfl) hlocks (fun n9 => ⟨rfl, c_1, rfl⟩) (Nat.le_of_ble_eq_true rfl) (Nat.le_of_ble_eq_true rfl)
set_option maxHeartbeats 4000000 in
set_option maxRecDepth 100000 in
theorem c_X10_leaflet (G : FG) (hL : FL G) (l : Launch) (hX0 : FX0 G l) (ω : FWd) (x y a hs0 sn tx ln tt : Nat) (v : Nat → Nat → Int32) (hsn k1 k2 k3 : Int32) (R : Nat → Nat → Nat → Int32) (p ct : Nat) (hXA : XA x y a hs0 sn tx ln tt) (hx0 : ω.2 x = some (.inr (12, [.ref y, .ref a, .ref (a + 51), .ref hs0, .ref sn, .int hsn, .ref tx, .ref ln, .ref tt]))) (hy : ω.2 y = some (.inr (3, [.ref a, .ref (a + 51)]))) (hA : ArcS G ω.2 a v) (hk : ω.2 (a + 51) = some (.inr (9, [.int k1, .int k2, .int k3]))) (hH : HisS G ω.2 hs0 R p ct) (hp : p < 9) (hct : ct ≤ 8) (hW0 : WF v) (sh : Int32) : FMetX G l yX10_leaflet wsX10_leaflet ({ frames := 7, cells := 1, slots := 6, locals := 124 } : Room) [.ref x, .int sh] ω (fun vv9 τ9 => vv9 = some (.int (layC v k1 k2 k3 sh).1) ∧ ¬ (layC v k1 k2 k3 sh).1 = (-1) ∧ ChP G ω a hs0 v R p ((p + 1) % 9) (min (ct + 1) 8) (layC v k1 k2 k3 sh) τ9) (fun E9 τ9 => E9 = "java/lang/UnsupportedOperationException" ∧ (layC v k1 k2 k3 sh).1 = (-1) ∧ ChP G ω a hs0 v R p p ct (layC v k1 k2 k3 sh) τ9) 1 6 := by
  refine fx_ofW (cc := cX10_leaflet) (maxL := 2) (ret := (some .int)) (by decide) rfl (Nat.le_of_ble_eq_true rfl) ?_
  intro pP eE sS mI ar9 bl9 meth cD ls hx hb hr hlocks hml hts hown hnm hW hR ht9 hl
  have hK := hL.K hW
  have hR0 := hR
  have hS : va_S (fwA G) sS.heap sS.heap [] := va_S.rf
  have hin10 : ∀ w ∈ u_ws RX10 TX10 9, w ∈ wsX10_leaflet := by decide +kernel
  have hl : lv_has ls 2 [(0, .ref x), (1, .int sh)] := hl
  obtain ⟨g0, g1, g2⟩ := id hH
  obtain ⟨h0, h1, h2, h3, h4, h5, hLf, hCo⟩ := id hA
  obtain ⟨hxy, hxa, hxh, hxs, hxt, hxl, hxu⟩ := id hXA
  refine lv_aload_n hx hb dX10_leaflet_0 rfl (lv_at hl 0 rfl) ?_
  refine fw_get (v := .ref hs0) (C := RX10) (T := TX10) (N := 9) hx hb hts hin10 hown hK hR hx0 rfl 3 (by decide) (hts (.fieldLink RX10 29 "UnreadLeaflets" "history" "LUnreadLeaflets$History;") (by decide +kernel)) rfl dX10_leaflet_1 ?_
  refine lv_aload_n hx hb dX10_leaflet_4 rfl (lv_at hl 0 rfl) ?_
  refine fw_get (v := .ref a) (C := RX10) (T := TX10) (N := 9) hx hb hts hin10 hown hK hR hx0 rfl 1 (by decide) (hts (.fieldLink RX10 20 "UnreadLeaflets" "archive" "LUnreadLeaflets$Archive;") (by decide +kernel)) rfl dX10_leaflet_5 ?_
  refine fw_call (va_runV (As := [.ref a]) (rest := []) ⟨hx, hb, hml, hown, hts⟩ (c_X4_note G hL l ω hs0 R p ct hH hp hct a v hA (by omega) hW0) (cwV 1 hts gX10_leaflet_X4_note rfl rfl rfl (by decide +kernel) ⟨Nat.le_of_ble_eq_true rfl, Nat.le_of_ble_eq_true rfl⟩) (fw_preV hW hK hR g0 rfl) rfl rfl hl.1 rfl (lv_room (Nat.le_of_ble_eq_true rfl)) dX10_leaflet_8 ⟨Nat.le_of_ble_eq_true rfl, Nat.le_of_ble_eq_true rfl⟩) hS (fun v_1 ω_2 H locs hq_3 hR hS => ?_)
  obtain ⟨rfl, z_4, ⟨t_6, hA_7, hv_8⟩, fr_5⟩ := hq_3
  have hHn : HisS G ω_2.2 hs0 (updR R p t_6) p ct := (hH).set1 hp hA_7 (fun q hq => fr_5 q hq)
  refine W.eq (g2 := F0 mI 11 ls []) rfl ?_
  refine lv_aload_n hx hb dX10_leaflet_11 rfl (lv_at hl 0 rfl) ?_
  refine lv_aload_n hx hb dX10_leaflet_12 rfl (lv_at hl 0 rfl) ?_
  have f_9 : ω_2.2 x = some (.inr (12, [.ref y, .ref a, .ref (a + 51), .ref hs0, .ref sn, .int hsn, .ref tx, .ref ln, .ref tt])) := (fr_5 x (by omega)).trans hx0
  refine fw_get (v := .ref y) (C := RX10) (T := TX10) (N := 9) hx hb hts hin10 hown hK hR f_9 rfl 0 (by decide) (hts (.fieldLink RX10 10 "UnreadLeaflets" "changes" "LUnreadLeaflets$Changes;") (by decide +kernel)) rfl dX10_leaflet_13 ?_
  refine lv_iload_n hx hb dX10_leaflet_16 rfl (lv_at hl 1 rfl) ?_
  have hAk : ArcS G ω_2.2 a v := (hA).keep (fun q q1 q2 => by
    rw [fr_5 q (by omega)])
  have f_10 : ω_2.2 y = some (.inr (3, [.ref a, .ref (a + 51)])) := (fr_5 y (by omega)).trans hy
  have f_11 : ω_2.2 (a + 51) = some (.inr (9, [.int k1, .int k2, .int k3])) := (fr_5 (a + 51) (by omega)).trans hk
  refine fw_call (va_runV (As := [.int sh]) (rest := [.ref x]) ⟨hx, hb, hml, hown, hts⟩ (c_X1_layLeaflet G hL l ω_2 y a v k1 k2 k3 f_10 (by omega) hAk f_11 hW0 sh) (cwV 1 hts gX10_leaflet_X1_layLeaflet rfl rfl rfl (by decide +kernel) ⟨Nat.le_of_ble_eq_true rfl, Nat.le_of_ble_eq_true rfl⟩) (fw_preV hW hK hR f_10 rfl) rfl rfl hl.1 rfl (lv_room (Nat.le_of_ble_eq_true rfl)) dX10_leaflet_17 ⟨Nat.le_of_ble_eq_true rfl, Nat.le_of_ble_eq_true rfl⟩) hS (fun v_12 ω_13 H locs hq_14 hR hS => ?_)
  obtain ⟨rfl, z_15, hA2, hk2, fr_16⟩ := hq_14
  refine W.eq (g2 := F0 mI 20 ls [.int ((layC v k1 k2 k3 sh).1), .ref x]) rfl ?_
  have f_17 : ω_13.2 x = some (.inr (12, [.ref y, .ref a, .ref (a + 51), .ref hs0, .ref sn, .int hsn, .ref tx, .ref ln, .ref tt])) := (fr_16 x (by omega)).trans f_9
  have hHk : HisS G ω_13.2 hs0 (updR R p t_6) p ct := (hHn).keep (fun q q1 q2 => by
    rw [fr_16 q (by omega)])
  refine fx_call (vx_runV (As := [.int ((layC v k1 k2 k3 sh).1)]) (rest := []) ⟨hx, hb, hml, hown, hts⟩ (c_X10_settled G hL l hX0 ω_13 x y a hs0 sn tx ln tt hsn (updR R p t_6) p ct f_17 hHk hp hct ((layC v k1 k2 k3 sh).1)) (cwV 1 hts gX10_leaflet_X10_settled rfl rfl rfl (by decide +kernel) ⟨Nat.le_of_ble_eq_true rfl, Nat.le_of_ble_eq_true rfl⟩) (fw_preV hW hK hR f_17 rfl) rfl rfl hl.1 rfl (lv_room (Nat.le_of_ble_eq_true rfl)) dX10_leaflet_20 ⟨Nat.le_of_ble_eq_true rfl, Nat.le_of_ble_eq_true rfl⟩) hS (fun E_18 ce_18 q_18 τ_18 H locs hx_18 hR hS hce_18 hcv_18 hcl_18 => ?_) (fun v_18 ω_18 H locs hq_18 hR hS => ?_)
  · skip
    obtain ⟨rfl, hc_18, hw_18⟩ := hx_18
    have hfr9 : ∀ q : Nat, (q < a ∨ hs0 + 461 ≤ q) → ω_13.2 q = ω.2 q := by
      intro q hq0
      rw [fr_16 q (by omega)]
      rw [fr_5 q (by omega)]
    exact fx_out ht9 hlocks ⟨rfl, hc_18, by rw [hw_18]; exact hA2, by rw [hw_18]; exact hk2, ⟨t_6, by rw [hw_18]; exact hHk, hv_8⟩, by rw [hw_18]; exact hfr9⟩ hR hS hce_18 hcv_18 hcl_18 (by first | omega | decide) (by first | omega | decide)
  · skip
    refine W.widen (k := 1) (n := 6) (by first | omega | decide) (by first | omega | decide) ?_
    obtain ⟨rfl, hc_18, hH_18, fr_19⟩ := hq_18
    refine W.eq (g2 := F0 mI 23 ls [.int ((layC v k1 k2 k3 sh).1)]) rfl ?_
    refine W.widen (k := 1) (n := 6) (by first | omega | decide) (by first | omega | decide) ?_
    refine vx_ret ?_
    refine fw_iret hx hb hr hlocks hR hS dX10_leaflet_23 ?_
    have hfr9 : ∀ q : Nat, (q < a ∨ hs0 + 461 ≤ q) → ω_18.2 q = ω.2 q := by
      intro q hq0
      rw [fr_19 q (by omega)]
      rw [fr_16 q (by omega)]
      rw [fr_5 q (by omega)]
    have hA3 : ArcS G ω_18.2 a (layC v k1 k2 k3 sh).2.1 := hA2.keep (fun q q1 q2 => by rw [fr_19 q (by omega)])
    exact ⟨rfl, hc_18, hA3, by rw [fr_19 _ (by omega)]; exact hk2, ⟨t_6, hH_18, hv_8⟩, hfr9⟩
set_option maxHeartbeats 4000000 in
set_option maxRecDepth 100000 in
theorem c_X10_step (G : FG) (hL : FL G) (l : Launch) (hX0 : FX0 G l) (ω : FWd) (x y a hs0 sn tx ln tt : Nat) (v : Nat → Nat → Int32) (hsn k1 k2 k3 : Int32) (R : Nat → Nat → Nat → Int32) (p ct : Nat) (hXA : XA x y a hs0 sn tx ln tt) (hx0 : ω.2 x = some (.inr (12, [.ref y, .ref a, .ref (a + 51), .ref hs0, .ref sn, .int hsn, .ref tx, .ref ln, .ref tt]))) (hy : ω.2 y = some (.inr (3, [.ref a, .ref (a + 51)]))) (hA : ArcS G ω.2 a v) (hk : ω.2 (a + 51) = some (.inr (9, [.int k1, .int k2, .int k3]))) (hH : HisS G ω.2 hs0 R p ct) (hp : p < 9) (hct : ct ≤ 8) (hW0 : WF v) (lf : Int32) (kd : Int32) (ps : Int32) (la : Int32) (two : Int32) : FMetX G l yX10_step wsX10_step ({ frames := 7, cells := 1, slots := 6, locals := 124 } : Room) [.ref x, .int lf, .int kd, .int ps, .int la, .int two] ω (fun vv9 τ9 => vv9 = some (.int (addC v k1 k2 k3 lf kd ps la two).1) ∧ ¬ (addC v k1 k2 k3 lf kd ps la two).1 = (-1) ∧ ChP G ω a hs0 v R p ((p + 1) % 9) (min (ct + 1) 8) (addC v k1 k2 k3 lf kd ps la two) τ9) (fun E9 τ9 => E9 = "java/lang/UnsupportedOperationException" ∧ (addC v k1 k2 k3 lf kd ps la two).1 = (-1) ∧ ChP G ω a hs0 v R p p ct (addC v k1 k2 k3 lf kd ps la two) τ9) 1 6 := by
  refine fx_ofW (cc := cX10_step) (maxL := 6) (ret := (some .int)) (by decide) rfl (Nat.le_of_ble_eq_true rfl) ?_
  intro pP eE sS mI ar9 bl9 meth cD ls hx hb hr hlocks hml hts hown hnm hW hR ht9 hl
  have hK := hL.K hW
  have hR0 := hR
  have hS : va_S (fwA G) sS.heap sS.heap [] := va_S.rf
  have hin10 : ∀ w ∈ u_ws RX10 TX10 9, w ∈ wsX10_step := by decide +kernel
  have hl : lv_has ls 6 [(0, .ref x), (1, .int lf), (2, .int kd), (3, .int ps), (4, .int la), (5, .int two)] := hl
  obtain ⟨g0, g1, g2⟩ := id hH
  obtain ⟨h0, h1, h2, h3, h4, h5, hLf, hCo⟩ := id hA
  obtain ⟨hxy, hxa, hxh, hxs, hxt, hxl, hxu⟩ := id hXA
  refine lv_aload_n hx hb dX10_step_0 rfl (lv_at hl 0 rfl) ?_
  refine fw_get (v := .ref hs0) (C := RX10) (T := TX10) (N := 9) hx hb hts hin10 hown hK hR hx0 rfl 3 (by decide) (hts (.fieldLink RX10 29 "UnreadLeaflets" "history" "LUnreadLeaflets$History;") (by decide +kernel)) rfl dX10_step_1 ?_
  refine lv_aload_n hx hb dX10_step_4 rfl (lv_at hl 0 rfl) ?_
  refine fw_get (v := .ref a) (C := RX10) (T := TX10) (N := 9) hx hb hts hin10 hown hK hR hx0 rfl 1 (by decide) (hts (.fieldLink RX10 20 "UnreadLeaflets" "archive" "LUnreadLeaflets$Archive;") (by decide +kernel)) rfl dX10_step_5 ?_
  refine fw_call (va_runV (As := [.ref a]) (rest := []) ⟨hx, hb, hml, hown, hts⟩ (c_X4_note G hL l ω hs0 R p ct hH hp hct a v hA (by omega) hW0) (cwV 1 hts gX10_step_X4_note rfl rfl rfl (by decide +kernel) ⟨Nat.le_of_ble_eq_true rfl, Nat.le_of_ble_eq_true rfl⟩) (fw_preV hW hK hR g0 rfl) rfl rfl hl.1 rfl (lv_room (Nat.le_of_ble_eq_true rfl)) dX10_step_8 ⟨Nat.le_of_ble_eq_true rfl, Nat.le_of_ble_eq_true rfl⟩) hS (fun v_1 ω_2 H locs hq_3 hR hS => ?_)
  obtain ⟨rfl, z_4, ⟨t_6, hA_7, hv_8⟩, fr_5⟩ := hq_3
  have hHn : HisS G ω_2.2 hs0 (updR R p t_6) p ct := (hH).set1 hp hA_7 (fun q hq => fr_5 q hq)
  refine W.eq (g2 := F0 mI 11 ls []) rfl ?_
  refine lv_aload_n hx hb dX10_step_11 rfl (lv_at hl 0 rfl) ?_
  refine lv_aload_n hx hb dX10_step_12 rfl (lv_at hl 0 rfl) ?_
  have f_9 : ω_2.2 x = some (.inr (12, [.ref y, .ref a, .ref (a + 51), .ref hs0, .ref sn, .int hsn, .ref tx, .ref ln, .ref tt])) := (fr_5 x (by omega)).trans hx0
  refine fw_get (v := .ref y) (C := RX10) (T := TX10) (N := 9) hx hb hts hin10 hown hK hR f_9 rfl 0 (by decide) (hts (.fieldLink RX10 10 "UnreadLeaflets" "changes" "LUnreadLeaflets$Changes;") (by decide +kernel)) rfl dX10_step_13 ?_
  refine lv_iload_n hx hb dX10_step_16 rfl (lv_at hl 1 rfl) ?_
  refine lv_iload_n hx hb dX10_step_17 rfl (lv_at hl 2 rfl) ?_
  refine lv_iload_n hx hb dX10_step_18 rfl (lv_at hl 3 rfl) ?_
  refine lv_iload hx hb dX10_step_19 (lv_at hl 4 rfl) ?_
  refine lv_iload hx hb dX10_step_21 (lv_at hl 5 rfl) ?_
  have hAk : ArcS G ω_2.2 a v := (hA).keep (fun q q1 q2 => by
    rw [fr_5 q (by omega)])
  have f_10 : ω_2.2 y = some (.inr (3, [.ref a, .ref (a + 51)])) := (fr_5 y (by omega)).trans hy
  have f_11 : ω_2.2 (a + 51) = some (.inr (9, [.int k1, .int k2, .int k3])) := (fr_5 (a + 51) (by omega)).trans hk
  refine fw_call (va_runV (As := [.int lf, .int kd, .int ps, .int la, .int two]) (rest := [.ref x]) ⟨hx, hb, hml, hown, hts⟩ (c_X1_addStep G hL l ω_2 y a v k1 k2 k3 f_10 (by omega) hAk f_11 hW0 lf kd ps la two) (cwV 5 hts gX10_step_X1_addStep rfl rfl rfl (by decide +kernel) ⟨Nat.le_of_ble_eq_true rfl, Nat.le_of_ble_eq_true rfl⟩) (fw_preV hW hK hR f_10 rfl) rfl rfl hl.1 rfl (lv_room (Nat.le_of_ble_eq_true rfl)) dX10_step_23 ⟨Nat.le_of_ble_eq_true rfl, Nat.le_of_ble_eq_true rfl⟩) hS (fun v_12 ω_13 H locs hq_14 hR hS => ?_)
  obtain ⟨rfl, z_15, hA2, hk2, fr_16⟩ := hq_14
  refine W.eq (g2 := F0 mI 26 ls [.int ((addC v k1 k2 k3 lf kd ps la two).1), .ref x]) rfl ?_
  have f_17 : ω_13.2 x = some (.inr (12, [.ref y, .ref a, .ref (a + 51), .ref hs0, .ref sn, .int hsn, .ref tx, .ref ln, .ref tt])) := (fr_16 x (by omega)).trans f_9
  have hHk : HisS G ω_13.2 hs0 (updR R p t_6) p ct := (hHn).keep (fun q q1 q2 => by
    rw [fr_16 q (by omega)])
  refine fx_call (vx_runV (As := [.int ((addC v k1 k2 k3 lf kd ps la two).1)]) (rest := []) ⟨hx, hb, hml, hown, hts⟩ (c_X10_settled G hL l hX0 ω_13 x y a hs0 sn tx ln tt hsn (updR R p t_6) p ct f_17 hHk hp hct ((addC v k1 k2 k3 lf kd ps la two).1)) (cwV 1 hts gX10_step_X10_settled rfl rfl rfl (by decide +kernel) ⟨Nat.le_of_ble_eq_true rfl, Nat.le_of_ble_eq_true rfl⟩) (fw_preV hW hK hR f_17 rfl) rfl rfl hl.1 rfl (lv_room (Nat.le_of_ble_eq_true rfl)) dX10_step_26 ⟨Nat.le_of_ble_eq_true rfl, Nat.le_of_ble_eq_true rfl⟩) hS (fun E_18 ce_18 q_18 τ_18 H locs hx_18 hR hS hce_18 hcv_18 hcl_18 => ?_) (fun v_18 ω_18 H locs hq_18 hR hS => ?_)
  · skip
    obtain ⟨rfl, hc_18, hw_18⟩ := hx_18
    have hfr9 : ∀ q : Nat, (q < a ∨ hs0 + 461 ≤ q) → ω_13.2 q = ω.2 q := by
      intro q hq0
      rw [fr_16 q (by omega)]
      rw [fr_5 q (by omega)]
    exact fx_out ht9 hlocks ⟨rfl, hc_18, by rw [hw_18]; exact hA2, by rw [hw_18]; exact hk2, ⟨t_6, by rw [hw_18]; exact hHk, hv_8⟩, by rw [hw_18]; exact hfr9⟩ hR hS hce_18 hcv_18 hcl_18 (by first | omega | decide) (by first | omega | decide)
  · skip
    refine W.widen (k := 1) (n := 6) (by first | omega | decide) (by first | omega | decide) ?_
    obtain ⟨rfl, hc_18, hH_18, fr_19⟩ := hq_18
    refine W.eq (g2 := F0 mI 29 ls [.int ((addC v k1 k2 k3 lf kd ps la two).1)]) rfl ?_
    refine W.widen (k := 1) (n := 6) (by first | omega | decide) (by first | omega | decide) ?_
    refine vx_ret ?_
    refine fw_iret hx hb hr hlocks hR hS dX10_step_29 ?_
    have hfr9 : ∀ q : Nat, (q < a ∨ hs0 + 461 ≤ q) → ω_18.2 q = ω.2 q := by
      intro q hq0
      rw [fr_19 q (by omega)]
      rw [fr_16 q (by omega)]
      rw [fr_5 q (by omega)]
    have hA3 : ArcS G ω_18.2 a (addC v k1 k2 k3 lf kd ps la two).2.1 := hA2.keep (fun q q1 q2 => by rw [fr_19 q (by omega)])
    exact ⟨rfl, hc_18, hA3, by rw [fr_19 _ (by omega)]; exact hk2, ⟨t_6, hH_18, hv_8⟩, hfr9⟩
set_option maxHeartbeats 4000000 in
set_option maxRecDepth 100000 in
theorem c_X10_fold (G : FG) (hL : FL G) (l : Launch) (hX0 : FX0 G l) (ω : FWd) (x y a hs0 sn tx ln tt : Nat) (v : Nat → Nat → Int32) (hsn k1 k2 k3 : Int32) (R : Nat → Nat → Nat → Int32) (p ct : Nat) (hXA : XA x y a hs0 sn tx ln tt) (hx0 : ω.2 x = some (.inr (12, [.ref y, .ref a, .ref (a + 51), .ref hs0, .ref sn, .int hsn, .ref tx, .ref ln, .ref tt]))) (hy : ω.2 y = some (.inr (3, [.ref a, .ref (a + 51)]))) (hA : ArcS G ω.2 a v) (hk : ω.2 (a + 51) = some (.inr (9, [.int k1, .int k2, .int k3]))) (hH : HisS G ω.2 hs0 R p ct) (hp : p < 9) (hct : ct ≤ 8) (hW0 : WF v) (lf : Int32) : FMetX G l yX10_fold wsX10_fold ({ frames := 7, cells := 1, slots := 6, locals := 124 } : Room) [.ref x, .int lf] ω (fun vv9 τ9 => vv9 = some (.int (foldC v k1 k2 k3 lf 1).1) ∧ ¬ (foldC v k1 k2 k3 lf 1).1 = (-1) ∧ ChP G ω a hs0 v R p ((p + 1) % 9) (min (ct + 1) 8) (foldC v k1 k2 k3 lf 1) τ9) (fun E9 τ9 => E9 = "java/lang/UnsupportedOperationException" ∧ (foldC v k1 k2 k3 lf 1).1 = (-1) ∧ ChP G ω a hs0 v R p p ct (foldC v k1 k2 k3 lf 1) τ9) 1 6 := by
  refine fx_ofW (cc := cX10_fold) (maxL := 2) (ret := (some .int)) (by decide) rfl (Nat.le_of_ble_eq_true rfl) ?_
  intro pP eE sS mI ar9 bl9 meth cD ls hx hb hr hlocks hml hts hown hnm hW hR ht9 hl
  have hK := hL.K hW
  have hR0 := hR
  have hS : va_S (fwA G) sS.heap sS.heap [] := va_S.rf
  have hin10 : ∀ w ∈ u_ws RX10 TX10 9, w ∈ wsX10_fold := by decide +kernel
  have hl : lv_has ls 2 [(0, .ref x), (1, .int lf)] := hl
  obtain ⟨g0, g1, g2⟩ := id hH
  obtain ⟨h0, h1, h2, h3, h4, h5, hLf, hCo⟩ := id hA
  obtain ⟨hxy, hxa, hxh, hxs, hxt, hxl, hxu⟩ := id hXA
  refine lv_aload_n hx hb dX10_fold_0 rfl (lv_at hl 0 rfl) ?_
  refine fw_get (v := .ref hs0) (C := RX10) (T := TX10) (N := 9) hx hb hts hin10 hown hK hR hx0 rfl 3 (by decide) (hts (.fieldLink RX10 29 "UnreadLeaflets" "history" "LUnreadLeaflets$History;") (by decide +kernel)) rfl dX10_fold_1 ?_
  refine lv_aload_n hx hb dX10_fold_4 rfl (lv_at hl 0 rfl) ?_
  refine fw_get (v := .ref a) (C := RX10) (T := TX10) (N := 9) hx hb hts hin10 hown hK hR hx0 rfl 1 (by decide) (hts (.fieldLink RX10 20 "UnreadLeaflets" "archive" "LUnreadLeaflets$Archive;") (by decide +kernel)) rfl dX10_fold_5 ?_
  refine fw_call (va_runV (As := [.ref a]) (rest := []) ⟨hx, hb, hml, hown, hts⟩ (c_X4_note G hL l ω hs0 R p ct hH hp hct a v hA (by omega) hW0) (cwV 1 hts gX10_fold_X4_note rfl rfl rfl (by decide +kernel) ⟨Nat.le_of_ble_eq_true rfl, Nat.le_of_ble_eq_true rfl⟩) (fw_preV hW hK hR g0 rfl) rfl rfl hl.1 rfl (lv_room (Nat.le_of_ble_eq_true rfl)) dX10_fold_8 ⟨Nat.le_of_ble_eq_true rfl, Nat.le_of_ble_eq_true rfl⟩) hS (fun v_1 ω_2 H locs hq_3 hR hS => ?_)
  obtain ⟨rfl, z_4, ⟨t_6, hA_7, hv_8⟩, fr_5⟩ := hq_3
  have hHn : HisS G ω_2.2 hs0 (updR R p t_6) p ct := (hH).set1 hp hA_7 (fun q hq => fr_5 q hq)
  refine W.eq (g2 := F0 mI 11 ls []) rfl ?_
  refine lv_aload_n hx hb dX10_fold_11 rfl (lv_at hl 0 rfl) ?_
  refine lv_aload_n hx hb dX10_fold_12 rfl (lv_at hl 0 rfl) ?_
  have f_9 : ω_2.2 x = some (.inr (12, [.ref y, .ref a, .ref (a + 51), .ref hs0, .ref sn, .int hsn, .ref tx, .ref ln, .ref tt])) := (fr_5 x (by omega)).trans hx0
  refine fw_get (v := .ref y) (C := RX10) (T := TX10) (N := 9) hx hb hts hin10 hown hK hR f_9 rfl 0 (by decide) (hts (.fieldLink RX10 10 "UnreadLeaflets" "changes" "LUnreadLeaflets$Changes;") (by decide +kernel)) rfl dX10_fold_13 ?_
  refine lv_iload_n hx hb dX10_fold_16 rfl (lv_at hl 1 rfl) ?_
  refine lv_iconst (v := 1) hx hb dX10_fold_17 (by decide) ?_
  have hAk : ArcS G ω_2.2 a v := (hA).keep (fun q q1 q2 => by
    rw [fr_5 q (by omega)])
  have f_10 : ω_2.2 y = some (.inr (3, [.ref a, .ref (a + 51)])) := (fr_5 y (by omega)).trans hy
  have f_11 : ω_2.2 (a + 51) = some (.inr (9, [.int k1, .int k2, .int k3])) := (fr_5 (a + 51) (by omega)).trans hk
  refine fw_call (va_runV (As := [.int lf, .int 1]) (rest := [.ref x]) ⟨hx, hb, hml, hown, hts⟩ (c_X1_changeFolds G hL l ω_2 y a v k1 k2 k3 f_10 (by omega) hAk f_11 hW0 lf 1) (cwV 2 hts gX10_fold_X1_changeFolds rfl rfl rfl (by decide +kernel) ⟨Nat.le_of_ble_eq_true rfl, Nat.le_of_ble_eq_true rfl⟩) (fw_preV hW hK hR f_10 rfl) rfl rfl hl.1 rfl (lv_room (Nat.le_of_ble_eq_true rfl)) dX10_fold_18 ⟨Nat.le_of_ble_eq_true rfl, Nat.le_of_ble_eq_true rfl⟩) hS (fun v_12 ω_13 H locs hq_14 hR hS => ?_)
  obtain ⟨rfl, z_15, hA2, hk2, fr_16⟩ := hq_14
  refine W.eq (g2 := F0 mI 21 ls [.int ((foldC v k1 k2 k3 lf 1).1), .ref x]) rfl ?_
  have f_17 : ω_13.2 x = some (.inr (12, [.ref y, .ref a, .ref (a + 51), .ref hs0, .ref sn, .int hsn, .ref tx, .ref ln, .ref tt])) := (fr_16 x (by omega)).trans f_9
  have hHk : HisS G ω_13.2 hs0 (updR R p t_6) p ct := (hHn).keep (fun q q1 q2 => by
    rw [fr_16 q (by omega)])
  refine fx_call (vx_runV (As := [.int ((foldC v k1 k2 k3 lf 1).1)]) (rest := []) ⟨hx, hb, hml, hown, hts⟩ (c_X10_settled G hL l hX0 ω_13 x y a hs0 sn tx ln tt hsn (updR R p t_6) p ct f_17 hHk hp hct ((foldC v k1 k2 k3 lf 1).1)) (cwV 1 hts gX10_fold_X10_settled rfl rfl rfl (by decide +kernel) ⟨Nat.le_of_ble_eq_true rfl, Nat.le_of_ble_eq_true rfl⟩) (fw_preV hW hK hR f_17 rfl) rfl rfl hl.1 rfl (lv_room (Nat.le_of_ble_eq_true rfl)) dX10_fold_21 ⟨Nat.le_of_ble_eq_true rfl, Nat.le_of_ble_eq_true rfl⟩) hS (fun E_18 ce_18 q_18 τ_18 H locs hx_18 hR hS hce_18 hcv_18 hcl_18 => ?_) (fun v_18 ω_18 H locs hq_18 hR hS => ?_)
  · skip
    obtain ⟨rfl, hc_18, hw_18⟩ := hx_18
    have hfr9 : ∀ q : Nat, (q < a ∨ hs0 + 461 ≤ q) → ω_13.2 q = ω.2 q := by
      intro q hq0
      rw [fr_16 q (by omega)]
      rw [fr_5 q (by omega)]
    exact fx_out ht9 hlocks ⟨rfl, hc_18, by rw [hw_18]; exact hA2, by rw [hw_18]; exact hk2, ⟨t_6, by rw [hw_18]; exact hHk, hv_8⟩, by rw [hw_18]; exact hfr9⟩ hR hS hce_18 hcv_18 hcl_18 (by first | omega | decide) (by first | omega | decide)
  · skip
    refine W.widen (k := 1) (n := 6) (by first | omega | decide) (by first | omega | decide) ?_
    obtain ⟨rfl, hc_18, hH_18, fr_19⟩ := hq_18
    refine W.eq (g2 := F0 mI 24 ls [.int ((foldC v k1 k2 k3 lf 1).1)]) rfl ?_
    refine W.widen (k := 1) (n := 6) (by first | omega | decide) (by first | omega | decide) ?_
    refine vx_ret ?_
    refine fw_iret hx hb hr hlocks hR hS dX10_fold_24 ?_
    have hfr9 : ∀ q : Nat, (q < a ∨ hs0 + 461 ≤ q) → ω_18.2 q = ω.2 q := by
      intro q hq0
      rw [fr_19 q (by omega)]
      rw [fr_16 q (by omega)]
      rw [fr_5 q (by omega)]
    have hA3 : ArcS G ω_18.2 a (foldC v k1 k2 k3 lf 1).2.1 := hA2.keep (fun q q1 q2 => by rw [fr_19 q (by omega)])
    exact ⟨rfl, hc_18, hA3, by rw [fr_19 _ (by omega)]; exact hk2, ⟨t_6, hH_18, hv_8⟩, hfr9⟩
set_option maxHeartbeats 4000000 in
set_option maxRecDepth 100000 in
theorem c_X10_unfold (G : FG) (hL : FL G) (l : Launch) (hX0 : FX0 G l) (ω : FWd) (x y a hs0 sn tx ln tt : Nat) (v : Nat → Nat → Int32) (hsn k1 k2 k3 : Int32) (R : Nat → Nat → Nat → Int32) (p ct : Nat) (hXA : XA x y a hs0 sn tx ln tt) (hx0 : ω.2 x = some (.inr (12, [.ref y, .ref a, .ref (a + 51), .ref hs0, .ref sn, .int hsn, .ref tx, .ref ln, .ref tt]))) (hy : ω.2 y = some (.inr (3, [.ref a, .ref (a + 51)]))) (hA : ArcS G ω.2 a v) (hk : ω.2 (a + 51) = some (.inr (9, [.int k1, .int k2, .int k3]))) (hH : HisS G ω.2 hs0 R p ct) (hp : p < 9) (hct : ct ≤ 8) (hW0 : WF v) (lf : Int32) : FMetX G l yX10_unfold wsX10_unfold ({ frames := 7, cells := 1, slots := 6, locals := 124 } : Room) [.ref x, .int lf] ω (fun vv9 τ9 => vv9 = some (.int (foldC v k1 k2 k3 lf (-1)).1) ∧ ¬ (foldC v k1 k2 k3 lf (-1)).1 = (-1) ∧ ChP G ω a hs0 v R p ((p + 1) % 9) (min (ct + 1) 8) (foldC v k1 k2 k3 lf (-1)) τ9) (fun E9 τ9 => E9 = "java/lang/UnsupportedOperationException" ∧ (foldC v k1 k2 k3 lf (-1)).1 = (-1) ∧ ChP G ω a hs0 v R p p ct (foldC v k1 k2 k3 lf (-1)) τ9) 1 6 := by
  refine fx_ofW (cc := cX10_unfold) (maxL := 2) (ret := (some .int)) (by decide) rfl (Nat.le_of_ble_eq_true rfl) ?_
  intro pP eE sS mI ar9 bl9 meth cD ls hx hb hr hlocks hml hts hown hnm hW hR ht9 hl
  have hK := hL.K hW
  have hR0 := hR
  have hS : va_S (fwA G) sS.heap sS.heap [] := va_S.rf
  have hin10 : ∀ w ∈ u_ws RX10 TX10 9, w ∈ wsX10_unfold := by decide +kernel
  have hl : lv_has ls 2 [(0, .ref x), (1, .int lf)] := hl
  obtain ⟨g0, g1, g2⟩ := id hH
  obtain ⟨h0, h1, h2, h3, h4, h5, hLf, hCo⟩ := id hA
  obtain ⟨hxy, hxa, hxh, hxs, hxt, hxl, hxu⟩ := id hXA
  refine lv_aload_n hx hb dX10_unfold_0 rfl (lv_at hl 0 rfl) ?_
  refine fw_get (v := .ref hs0) (C := RX10) (T := TX10) (N := 9) hx hb hts hin10 hown hK hR hx0 rfl 3 (by decide) (hts (.fieldLink RX10 29 "UnreadLeaflets" "history" "LUnreadLeaflets$History;") (by decide +kernel)) rfl dX10_unfold_1 ?_
  refine lv_aload_n hx hb dX10_unfold_4 rfl (lv_at hl 0 rfl) ?_
  refine fw_get (v := .ref a) (C := RX10) (T := TX10) (N := 9) hx hb hts hin10 hown hK hR hx0 rfl 1 (by decide) (hts (.fieldLink RX10 20 "UnreadLeaflets" "archive" "LUnreadLeaflets$Archive;") (by decide +kernel)) rfl dX10_unfold_5 ?_
  refine fw_call (va_runV (As := [.ref a]) (rest := []) ⟨hx, hb, hml, hown, hts⟩ (c_X4_note G hL l ω hs0 R p ct hH hp hct a v hA (by omega) hW0) (cwV 1 hts gX10_unfold_X4_note rfl rfl rfl (by decide +kernel) ⟨Nat.le_of_ble_eq_true rfl, Nat.le_of_ble_eq_true rfl⟩) (fw_preV hW hK hR g0 rfl) rfl rfl hl.1 rfl (lv_room (Nat.le_of_ble_eq_true rfl)) dX10_unfold_8 ⟨Nat.le_of_ble_eq_true rfl, Nat.le_of_ble_eq_true rfl⟩) hS (fun v_1 ω_2 H locs hq_3 hR hS => ?_)
  obtain ⟨rfl, z_4, ⟨t_6, hA_7, hv_8⟩, fr_5⟩ := hq_3
  have hHn : HisS G ω_2.2 hs0 (updR R p t_6) p ct := (hH).set1 hp hA_7 (fun q hq => fr_5 q hq)
  refine W.eq (g2 := F0 mI 11 ls []) rfl ?_
  refine lv_aload_n hx hb dX10_unfold_11 rfl (lv_at hl 0 rfl) ?_
  refine lv_aload_n hx hb dX10_unfold_12 rfl (lv_at hl 0 rfl) ?_
  have f_9 : ω_2.2 x = some (.inr (12, [.ref y, .ref a, .ref (a + 51), .ref hs0, .ref sn, .int hsn, .ref tx, .ref ln, .ref tt])) := (fr_5 x (by omega)).trans hx0
  refine fw_get (v := .ref y) (C := RX10) (T := TX10) (N := 9) hx hb hts hin10 hown hK hR f_9 rfl 0 (by decide) (hts (.fieldLink RX10 10 "UnreadLeaflets" "changes" "LUnreadLeaflets$Changes;") (by decide +kernel)) rfl dX10_unfold_13 ?_
  refine lv_iload_n hx hb dX10_unfold_16 rfl (lv_at hl 1 rfl) ?_
  refine lv_iconst (v := (-1)) hx hb dX10_unfold_17 (by decide) ?_
  have hAk : ArcS G ω_2.2 a v := (hA).keep (fun q q1 q2 => by
    rw [fr_5 q (by omega)])
  have f_10 : ω_2.2 y = some (.inr (3, [.ref a, .ref (a + 51)])) := (fr_5 y (by omega)).trans hy
  have f_11 : ω_2.2 (a + 51) = some (.inr (9, [.int k1, .int k2, .int k3])) := (fr_5 (a + 51) (by omega)).trans hk
  refine fw_call (va_runV (As := [.int lf, .int (-1)]) (rest := [.ref x]) ⟨hx, hb, hml, hown, hts⟩ (c_X1_changeFolds G hL l ω_2 y a v k1 k2 k3 f_10 (by omega) hAk f_11 hW0 lf (-1)) (cwV 2 hts gX10_unfold_X1_changeFolds rfl rfl rfl (by decide +kernel) ⟨Nat.le_of_ble_eq_true rfl, Nat.le_of_ble_eq_true rfl⟩) (fw_preV hW hK hR f_10 rfl) rfl rfl hl.1 rfl (lv_room (Nat.le_of_ble_eq_true rfl)) dX10_unfold_18 ⟨Nat.le_of_ble_eq_true rfl, Nat.le_of_ble_eq_true rfl⟩) hS (fun v_12 ω_13 H locs hq_14 hR hS => ?_)
  obtain ⟨rfl, z_15, hA2, hk2, fr_16⟩ := hq_14
  refine W.eq (g2 := F0 mI 21 ls [.int ((foldC v k1 k2 k3 lf (-1)).1), .ref x]) rfl ?_
  have f_17 : ω_13.2 x = some (.inr (12, [.ref y, .ref a, .ref (a + 51), .ref hs0, .ref sn, .int hsn, .ref tx, .ref ln, .ref tt])) := (fr_16 x (by omega)).trans f_9
  have hHk : HisS G ω_13.2 hs0 (updR R p t_6) p ct := (hHn).keep (fun q q1 q2 => by
    rw [fr_16 q (by omega)])
  refine fx_call (vx_runV (As := [.int ((foldC v k1 k2 k3 lf (-1)).1)]) (rest := []) ⟨hx, hb, hml, hown, hts⟩ (c_X10_settled G hL l hX0 ω_13 x y a hs0 sn tx ln tt hsn (updR R p t_6) p ct f_17 hHk hp hct ((foldC v k1 k2 k3 lf (-1)).1)) (cwV 1 hts gX10_unfold_X10_settled rfl rfl rfl (by decide +kernel) ⟨Nat.le_of_ble_eq_true rfl, Nat.le_of_ble_eq_true rfl⟩) (fw_preV hW hK hR f_17 rfl) rfl rfl hl.1 rfl (lv_room (Nat.le_of_ble_eq_true rfl)) dX10_unfold_21 ⟨Nat.le_of_ble_eq_true rfl, Nat.le_of_ble_eq_true rfl⟩) hS (fun E_18 ce_18 q_18 τ_18 H locs hx_18 hR hS hce_18 hcv_18 hcl_18 => ?_) (fun v_18 ω_18 H locs hq_18 hR hS => ?_)
  · skip
    obtain ⟨rfl, hc_18, hw_18⟩ := hx_18
    have hfr9 : ∀ q : Nat, (q < a ∨ hs0 + 461 ≤ q) → ω_13.2 q = ω.2 q := by
      intro q hq0
      rw [fr_16 q (by omega)]
      rw [fr_5 q (by omega)]
    exact fx_out ht9 hlocks ⟨rfl, hc_18, by rw [hw_18]; exact hA2, by rw [hw_18]; exact hk2, ⟨t_6, by rw [hw_18]; exact hHk, hv_8⟩, by rw [hw_18]; exact hfr9⟩ hR hS hce_18 hcv_18 hcl_18 (by first | omega | decide) (by first | omega | decide)
  · skip
    refine W.widen (k := 1) (n := 6) (by first | omega | decide) (by first | omega | decide) ?_
    obtain ⟨rfl, hc_18, hH_18, fr_19⟩ := hq_18
    refine W.eq (g2 := F0 mI 24 ls [.int ((foldC v k1 k2 k3 lf (-1)).1)]) rfl ?_
    refine W.widen (k := 1) (n := 6) (by first | omega | decide) (by first | omega | decide) ?_
    refine vx_ret ?_
    refine fw_iret hx hb hr hlocks hR hS dX10_unfold_24 ?_
    have hfr9 : ∀ q : Nat, (q < a ∨ hs0 + 461 ≤ q) → ω_18.2 q = ω.2 q := by
      intro q hq0
      rw [fr_19 q (by omega)]
      rw [fr_16 q (by omega)]
      rw [fr_5 q (by omega)]
    have hA3 : ArcS G ω_18.2 a (foldC v k1 k2 k3 lf (-1)).2.1 := hA2.keep (fun q q1 q2 => by rw [fr_19 q (by omega)])
    exact ⟨rfl, hc_18, hA3, by rw [fr_19 _ (by omega)]; exact hk2, ⟨t_6, hH_18, hv_8⟩, hfr9⟩
set_option maxHeartbeats 4000000 in
set_option maxRecDepth 100000 in
theorem c_X10_cousin (G : FG) (hL : FL G) (l : Launch) (hX0 : FX0 G l) (ω : FWd) (x y a hs0 sn tx ln tt : Nat) (v : Nat → Nat → Int32) (hsn k1 k2 k3 : Int32) (R : Nat → Nat → Nat → Int32) (p ct : Nat) (hXA : XA x y a hs0 sn tx ln tt) (hx0 : ω.2 x = some (.inr (12, [.ref y, .ref a, .ref (a + 51), .ref hs0, .ref sn, .int hsn, .ref tx, .ref ln, .ref tt]))) (hy : ω.2 y = some (.inr (3, [.ref a, .ref (a + 51)]))) (hA : ArcS G ω.2 a v) (hk : ω.2 (a + 51) = some (.inr (9, [.int k1, .int k2, .int k3]))) (hH : HisS G ω.2 hs0 R p ct) (hp : p < 9) (hct : ct ≤ 8) (hW0 : WF v) (bo : Int32) (la : Int32) : FMetX G l yX10_cousin wsX10_cousin ({ frames := 7, cells := 1, slots := 6, locals := 124 } : Room) [.ref x, .int bo, .int la] ω (fun vv9 τ9 => vv9 = some (.int (comeC v k1 k2 k3 bo la).1) ∧ ¬ (comeC v k1 k2 k3 bo la).1 = (-1) ∧ ChP G ω a hs0 v R p ((p + 1) % 9) (min (ct + 1) 8) (comeC v k1 k2 k3 bo la) τ9) (fun E9 τ9 => E9 = "java/lang/UnsupportedOperationException" ∧ (comeC v k1 k2 k3 bo la).1 = (-1) ∧ ChP G ω a hs0 v R p p ct (comeC v k1 k2 k3 bo la) τ9) 1 6 := by
  refine fx_ofW (cc := cX10_cousin) (maxL := 3) (ret := (some .int)) (by decide) rfl (Nat.le_of_ble_eq_true rfl) ?_
  intro pP eE sS mI ar9 bl9 meth cD ls hx hb hr hlocks hml hts hown hnm hW hR ht9 hl
  have hK := hL.K hW
  have hR0 := hR
  have hS : va_S (fwA G) sS.heap sS.heap [] := va_S.rf
  have hin10 : ∀ w ∈ u_ws RX10 TX10 9, w ∈ wsX10_cousin := by decide +kernel
  have hl : lv_has ls 3 [(0, .ref x), (1, .int bo), (2, .int la)] := hl
  obtain ⟨g0, g1, g2⟩ := id hH
  obtain ⟨h0, h1, h2, h3, h4, h5, hLf, hCo⟩ := id hA
  obtain ⟨hxy, hxa, hxh, hxs, hxt, hxl, hxu⟩ := id hXA
  refine lv_aload_n hx hb dX10_cousin_0 rfl (lv_at hl 0 rfl) ?_
  refine fw_get (v := .ref hs0) (C := RX10) (T := TX10) (N := 9) hx hb hts hin10 hown hK hR hx0 rfl 3 (by decide) (hts (.fieldLink RX10 29 "UnreadLeaflets" "history" "LUnreadLeaflets$History;") (by decide +kernel)) rfl dX10_cousin_1 ?_
  refine lv_aload_n hx hb dX10_cousin_4 rfl (lv_at hl 0 rfl) ?_
  refine fw_get (v := .ref a) (C := RX10) (T := TX10) (N := 9) hx hb hts hin10 hown hK hR hx0 rfl 1 (by decide) (hts (.fieldLink RX10 20 "UnreadLeaflets" "archive" "LUnreadLeaflets$Archive;") (by decide +kernel)) rfl dX10_cousin_5 ?_
  refine fw_call (va_runV (As := [.ref a]) (rest := []) ⟨hx, hb, hml, hown, hts⟩ (c_X4_note G hL l ω hs0 R p ct hH hp hct a v hA (by omega) hW0) (cwV 1 hts gX10_cousin_X4_note rfl rfl rfl (by decide +kernel) ⟨Nat.le_of_ble_eq_true rfl, Nat.le_of_ble_eq_true rfl⟩) (fw_preV hW hK hR g0 rfl) rfl rfl hl.1 rfl (lv_room (Nat.le_of_ble_eq_true rfl)) dX10_cousin_8 ⟨Nat.le_of_ble_eq_true rfl, Nat.le_of_ble_eq_true rfl⟩) hS (fun v_1 ω_2 H locs hq_3 hR hS => ?_)
  obtain ⟨rfl, z_4, ⟨t_6, hA_7, hv_8⟩, fr_5⟩ := hq_3
  have hHn : HisS G ω_2.2 hs0 (updR R p t_6) p ct := (hH).set1 hp hA_7 (fun q hq => fr_5 q hq)
  refine W.eq (g2 := F0 mI 11 ls []) rfl ?_
  refine lv_aload_n hx hb dX10_cousin_11 rfl (lv_at hl 0 rfl) ?_
  refine lv_aload_n hx hb dX10_cousin_12 rfl (lv_at hl 0 rfl) ?_
  have f_9 : ω_2.2 x = some (.inr (12, [.ref y, .ref a, .ref (a + 51), .ref hs0, .ref sn, .int hsn, .ref tx, .ref ln, .ref tt])) := (fr_5 x (by omega)).trans hx0
  refine fw_get (v := .ref y) (C := RX10) (T := TX10) (N := 9) hx hb hts hin10 hown hK hR f_9 rfl 0 (by decide) (hts (.fieldLink RX10 10 "UnreadLeaflets" "changes" "LUnreadLeaflets$Changes;") (by decide +kernel)) rfl dX10_cousin_13 ?_
  refine lv_iload_n hx hb dX10_cousin_16 rfl (lv_at hl 1 rfl) ?_
  refine lv_iload_n hx hb dX10_cousin_17 rfl (lv_at hl 2 rfl) ?_
  have hAk : ArcS G ω_2.2 a v := (hA).keep (fun q q1 q2 => by
    rw [fr_5 q (by omega)])
  have f_10 : ω_2.2 y = some (.inr (3, [.ref a, .ref (a + 51)])) := (fr_5 y (by omega)).trans hy
  have f_11 : ω_2.2 (a + 51) = some (.inr (9, [.int k1, .int k2, .int k3])) := (fr_5 (a + 51) (by omega)).trans hk
  refine fw_call (va_runV (As := [.int bo, .int la]) (rest := [.ref x]) ⟨hx, hb, hml, hown, hts⟩ (c_X1_letCome G hL l ω_2 y a v k1 k2 k3 f_10 (by omega) hAk f_11 hW0 bo la) (cwV 2 hts gX10_cousin_X1_letCome rfl rfl rfl (by decide +kernel) ⟨Nat.le_of_ble_eq_true rfl, Nat.le_of_ble_eq_true rfl⟩) (fw_preV hW hK hR f_10 rfl) rfl rfl hl.1 rfl (lv_room (Nat.le_of_ble_eq_true rfl)) dX10_cousin_18 ⟨Nat.le_of_ble_eq_true rfl, Nat.le_of_ble_eq_true rfl⟩) hS (fun v_12 ω_13 H locs hq_14 hR hS => ?_)
  obtain ⟨rfl, z_15, hA2, hk2, fr_16⟩ := hq_14
  refine W.eq (g2 := F0 mI 21 ls [.int ((comeC v k1 k2 k3 bo la).1), .ref x]) rfl ?_
  have f_17 : ω_13.2 x = some (.inr (12, [.ref y, .ref a, .ref (a + 51), .ref hs0, .ref sn, .int hsn, .ref tx, .ref ln, .ref tt])) := (fr_16 x (by omega)).trans f_9
  have hHk : HisS G ω_13.2 hs0 (updR R p t_6) p ct := (hHn).keep (fun q q1 q2 => by
    rw [fr_16 q (by omega)])
  refine fx_call (vx_runV (As := [.int ((comeC v k1 k2 k3 bo la).1)]) (rest := []) ⟨hx, hb, hml, hown, hts⟩ (c_X10_settled G hL l hX0 ω_13 x y a hs0 sn tx ln tt hsn (updR R p t_6) p ct f_17 hHk hp hct ((comeC v k1 k2 k3 bo la).1)) (cwV 1 hts gX10_cousin_X10_settled rfl rfl rfl (by decide +kernel) ⟨Nat.le_of_ble_eq_true rfl, Nat.le_of_ble_eq_true rfl⟩) (fw_preV hW hK hR f_17 rfl) rfl rfl hl.1 rfl (lv_room (Nat.le_of_ble_eq_true rfl)) dX10_cousin_21 ⟨Nat.le_of_ble_eq_true rfl, Nat.le_of_ble_eq_true rfl⟩) hS (fun E_18 ce_18 q_18 τ_18 H locs hx_18 hR hS hce_18 hcv_18 hcl_18 => ?_) (fun v_18 ω_18 H locs hq_18 hR hS => ?_)
  · skip
    obtain ⟨rfl, hc_18, hw_18⟩ := hx_18
    have hfr9 : ∀ q : Nat, (q < a ∨ hs0 + 461 ≤ q) → ω_13.2 q = ω.2 q := by
      intro q hq0
      rw [fr_16 q (by omega)]
      rw [fr_5 q (by omega)]
    exact fx_out ht9 hlocks ⟨rfl, hc_18, by rw [hw_18]; exact hA2, by rw [hw_18]; exact hk2, ⟨t_6, by rw [hw_18]; exact hHk, hv_8⟩, by rw [hw_18]; exact hfr9⟩ hR hS hce_18 hcv_18 hcl_18 (by first | omega | decide) (by first | omega | decide)
  · skip
    refine W.widen (k := 1) (n := 6) (by first | omega | decide) (by first | omega | decide) ?_
    obtain ⟨rfl, hc_18, hH_18, fr_19⟩ := hq_18
    refine W.eq (g2 := F0 mI 24 ls [.int ((comeC v k1 k2 k3 bo la).1)]) rfl ?_
    refine W.widen (k := 1) (n := 6) (by first | omega | decide) (by first | omega | decide) ?_
    refine vx_ret ?_
    refine fw_iret hx hb hr hlocks hR hS dX10_cousin_24 ?_
    have hfr9 : ∀ q : Nat, (q < a ∨ hs0 + 461 ≤ q) → ω_18.2 q = ω.2 q := by
      intro q hq0
      rw [fr_19 q (by omega)]
      rw [fr_16 q (by omega)]
      rw [fr_5 q (by omega)]
    have hA3 : ArcS G ω_18.2 a (comeC v k1 k2 k3 bo la).2.1 := hA2.keep (fun q q1 q2 => by rw [fr_19 q (by omega)])
    exact ⟨rfl, hc_18, hA3, by rw [fr_19 _ (by omega)]; exact hk2, ⟨t_6, hH_18, hv_8⟩, hfr9⟩
set_option maxHeartbeats 4000000 in
set_option maxRecDepth 100000 in
theorem c_X10_learn (G : FG) (hL : FL G) (l : Launch) (hX0 : FX0 G l) (ω : FWd) (x y a hs0 sn tx ln tt : Nat) (v : Nat → Nat → Int32) (hsn k1 k2 k3 : Int32) (R : Nat → Nat → Nat → Int32) (p ct : Nat) (hXA : XA x y a hs0 sn tx ln tt) (hx0 : ω.2 x = some (.inr (12, [.ref y, .ref a, .ref (a + 51), .ref hs0, .ref sn, .int hsn, .ref tx, .ref ln, .ref tt]))) (hy : ω.2 y = some (.inr (3, [.ref a, .ref (a + 51)]))) (hA : ArcS G ω.2 a v) (hk : ω.2 (a + 51) = some (.inr (9, [.int k1, .int k2, .int k3]))) (hH : HisS G ω.2 hs0 R p ct) (hp : p < 9) (hct : ct ≤ 8) (hW0 : WF v) (co : Int32) (la : Int32) : FMetX G l yX10_learn wsX10_learn ({ frames := 7, cells := 1, slots := 6, locals := 124 } : Room) [.ref x, .int co, .int la] ω (fun vv9 τ9 => vv9 = some (.int (learnC v k1 k2 k3 co la).1) ∧ ¬ (learnC v k1 k2 k3 co la).1 = (-1) ∧ ChP G ω a hs0 v R p ((p + 1) % 9) (min (ct + 1) 8) (learnC v k1 k2 k3 co la) τ9) (fun E9 τ9 => E9 = "java/lang/UnsupportedOperationException" ∧ (learnC v k1 k2 k3 co la).1 = (-1) ∧ ChP G ω a hs0 v R p p ct (learnC v k1 k2 k3 co la) τ9) 1 6 := by
  refine fx_ofW (cc := cX10_learn) (maxL := 3) (ret := (some .int)) (by decide) rfl (Nat.le_of_ble_eq_true rfl) ?_
  intro pP eE sS mI ar9 bl9 meth cD ls hx hb hr hlocks hml hts hown hnm hW hR ht9 hl
  have hK := hL.K hW
  have hR0 := hR
  have hS : va_S (fwA G) sS.heap sS.heap [] := va_S.rf
  have hin10 : ∀ w ∈ u_ws RX10 TX10 9, w ∈ wsX10_learn := by decide +kernel
  have hl : lv_has ls 3 [(0, .ref x), (1, .int co), (2, .int la)] := hl
  obtain ⟨g0, g1, g2⟩ := id hH
  obtain ⟨h0, h1, h2, h3, h4, h5, hLf, hCo⟩ := id hA
  obtain ⟨hxy, hxa, hxh, hxs, hxt, hxl, hxu⟩ := id hXA
  refine lv_aload_n hx hb dX10_learn_0 rfl (lv_at hl 0 rfl) ?_
  refine fw_get (v := .ref hs0) (C := RX10) (T := TX10) (N := 9) hx hb hts hin10 hown hK hR hx0 rfl 3 (by decide) (hts (.fieldLink RX10 29 "UnreadLeaflets" "history" "LUnreadLeaflets$History;") (by decide +kernel)) rfl dX10_learn_1 ?_
  refine lv_aload_n hx hb dX10_learn_4 rfl (lv_at hl 0 rfl) ?_
  refine fw_get (v := .ref a) (C := RX10) (T := TX10) (N := 9) hx hb hts hin10 hown hK hR hx0 rfl 1 (by decide) (hts (.fieldLink RX10 20 "UnreadLeaflets" "archive" "LUnreadLeaflets$Archive;") (by decide +kernel)) rfl dX10_learn_5 ?_
  refine fw_call (va_runV (As := [.ref a]) (rest := []) ⟨hx, hb, hml, hown, hts⟩ (c_X4_note G hL l ω hs0 R p ct hH hp hct a v hA (by omega) hW0) (cwV 1 hts gX10_learn_X4_note rfl rfl rfl (by decide +kernel) ⟨Nat.le_of_ble_eq_true rfl, Nat.le_of_ble_eq_true rfl⟩) (fw_preV hW hK hR g0 rfl) rfl rfl hl.1 rfl (lv_room (Nat.le_of_ble_eq_true rfl)) dX10_learn_8 ⟨Nat.le_of_ble_eq_true rfl, Nat.le_of_ble_eq_true rfl⟩) hS (fun v_1 ω_2 H locs hq_3 hR hS => ?_)
  obtain ⟨rfl, z_4, ⟨t_6, hA_7, hv_8⟩, fr_5⟩ := hq_3
  have hHn : HisS G ω_2.2 hs0 (updR R p t_6) p ct := (hH).set1 hp hA_7 (fun q hq => fr_5 q hq)
  refine W.eq (g2 := F0 mI 11 ls []) rfl ?_
  refine lv_aload_n hx hb dX10_learn_11 rfl (lv_at hl 0 rfl) ?_
  refine lv_aload_n hx hb dX10_learn_12 rfl (lv_at hl 0 rfl) ?_
  have f_9 : ω_2.2 x = some (.inr (12, [.ref y, .ref a, .ref (a + 51), .ref hs0, .ref sn, .int hsn, .ref tx, .ref ln, .ref tt])) := (fr_5 x (by omega)).trans hx0
  refine fw_get (v := .ref y) (C := RX10) (T := TX10) (N := 9) hx hb hts hin10 hown hK hR f_9 rfl 0 (by decide) (hts (.fieldLink RX10 10 "UnreadLeaflets" "changes" "LUnreadLeaflets$Changes;") (by decide +kernel)) rfl dX10_learn_13 ?_
  refine lv_iload_n hx hb dX10_learn_16 rfl (lv_at hl 1 rfl) ?_
  refine lv_iload_n hx hb dX10_learn_17 rfl (lv_at hl 2 rfl) ?_
  have hAk : ArcS G ω_2.2 a v := (hA).keep (fun q q1 q2 => by
    rw [fr_5 q (by omega)])
  have f_10 : ω_2.2 y = some (.inr (3, [.ref a, .ref (a + 51)])) := (fr_5 y (by omega)).trans hy
  have f_11 : ω_2.2 (a + 51) = some (.inr (9, [.int k1, .int k2, .int k3])) := (fr_5 (a + 51) (by omega)).trans hk
  refine fw_call (va_runV (As := [.int co, .int la]) (rest := [.ref x]) ⟨hx, hb, hml, hown, hts⟩ (c_X1_letLearn G hL l ω_2 y a v k1 k2 k3 f_10 (by omega) hAk f_11 hW0 co la) (cwV 2 hts gX10_learn_X1_letLearn rfl rfl rfl (by decide +kernel) ⟨Nat.le_of_ble_eq_true rfl, Nat.le_of_ble_eq_true rfl⟩) (fw_preV hW hK hR f_10 rfl) rfl rfl hl.1 rfl (lv_room (Nat.le_of_ble_eq_true rfl)) dX10_learn_18 ⟨Nat.le_of_ble_eq_true rfl, Nat.le_of_ble_eq_true rfl⟩) hS (fun v_12 ω_13 H locs hq_14 hR hS => ?_)
  obtain ⟨rfl, z_15, hA2, hk2, fr_16⟩ := hq_14
  refine W.eq (g2 := F0 mI 21 ls [.int ((learnC v k1 k2 k3 co la).1), .ref x]) rfl ?_
  have f_17 : ω_13.2 x = some (.inr (12, [.ref y, .ref a, .ref (a + 51), .ref hs0, .ref sn, .int hsn, .ref tx, .ref ln, .ref tt])) := (fr_16 x (by omega)).trans f_9
  have hHk : HisS G ω_13.2 hs0 (updR R p t_6) p ct := (hHn).keep (fun q q1 q2 => by
    rw [fr_16 q (by omega)])
  refine fx_call (vx_runV (As := [.int ((learnC v k1 k2 k3 co la).1)]) (rest := []) ⟨hx, hb, hml, hown, hts⟩ (c_X10_settled G hL l hX0 ω_13 x y a hs0 sn tx ln tt hsn (updR R p t_6) p ct f_17 hHk hp hct ((learnC v k1 k2 k3 co la).1)) (cwV 1 hts gX10_learn_X10_settled rfl rfl rfl (by decide +kernel) ⟨Nat.le_of_ble_eq_true rfl, Nat.le_of_ble_eq_true rfl⟩) (fw_preV hW hK hR f_17 rfl) rfl rfl hl.1 rfl (lv_room (Nat.le_of_ble_eq_true rfl)) dX10_learn_21 ⟨Nat.le_of_ble_eq_true rfl, Nat.le_of_ble_eq_true rfl⟩) hS (fun E_18 ce_18 q_18 τ_18 H locs hx_18 hR hS hce_18 hcv_18 hcl_18 => ?_) (fun v_18 ω_18 H locs hq_18 hR hS => ?_)
  · skip
    obtain ⟨rfl, hc_18, hw_18⟩ := hx_18
    have hfr9 : ∀ q : Nat, (q < a ∨ hs0 + 461 ≤ q) → ω_13.2 q = ω.2 q := by
      intro q hq0
      rw [fr_16 q (by omega)]
      rw [fr_5 q (by omega)]
    exact fx_out ht9 hlocks ⟨rfl, hc_18, by rw [hw_18]; exact hA2, by rw [hw_18]; exact hk2, ⟨t_6, by rw [hw_18]; exact hHk, hv_8⟩, by rw [hw_18]; exact hfr9⟩ hR hS hce_18 hcv_18 hcl_18 (by first | omega | decide) (by first | omega | decide)
  · skip
    refine W.widen (k := 1) (n := 6) (by first | omega | decide) (by first | omega | decide) ?_
    obtain ⟨rfl, hc_18, hH_18, fr_19⟩ := hq_18
    refine W.eq (g2 := F0 mI 24 ls [.int ((learnC v k1 k2 k3 co la).1)]) rfl ?_
    refine W.widen (k := 1) (n := 6) (by first | omega | decide) (by first | omega | decide) ?_
    refine vx_ret ?_
    refine fw_iret hx hb hr hlocks hR hS dX10_learn_24 ?_
    have hfr9 : ∀ q : Nat, (q < a ∨ hs0 + 461 ≤ q) → ω_18.2 q = ω.2 q := by
      intro q hq0
      rw [fr_19 q (by omega)]
      rw [fr_16 q (by omega)]
      rw [fr_5 q (by omega)]
    have hA3 : ArcS G ω_18.2 a (learnC v k1 k2 k3 co la).2.1 := hA2.keep (fun q q1 q2 => by rw [fr_19 q (by omega)])
    exact ⟨rfl, hc_18, hA3, by rw [fr_19 _ (by omega)]; exact hk2, ⟨t_6, hH_18, hv_8⟩, hfr9⟩
set_option maxHeartbeats 4000000 in
set_option maxRecDepth 100000 in
theorem c_X10_build (G : FG) (hL : FL G) (l : Launch) (hX0 : FX0 G l) (ω : FWd) (x y a hs0 sn tx ln tt : Nat) (v : Nat → Nat → Int32) (hsn k1 k2 k3 : Int32) (R : Nat → Nat → Nat → Int32) (p ct : Nat) (hXA : XA x y a hs0 sn tx ln tt) (hx0 : ω.2 x = some (.inr (12, [.ref y, .ref a, .ref (a + 51), .ref hs0, .ref sn, .int hsn, .ref tx, .ref ln, .ref tt]))) (hy : ω.2 y = some (.inr (3, [.ref a, .ref (a + 51)]))) (hA : ArcS G ω.2 a v) (hk : ω.2 (a + 51) = some (.inr (9, [.int k1, .int k2, .int k3]))) (hH : HisS G ω.2 hs0 R p ct) (hp : p < 9) (hct : ct ≤ 8) (hW0 : WF v) (co : Int32) (lf : Int32) : FMetX G l yX10_build wsX10_build ({ frames := 7, cells := 1, slots := 6, locals := 124 } : Room) [.ref x, .int co, .int lf] ω (fun vv9 τ9 => vv9 = some (.int (buildC v k1 k2 k3 co lf).1) ∧ ¬ (buildC v k1 k2 k3 co lf).1 = (-1) ∧ ChP G ω a hs0 v R p ((p + 1) % 9) (min (ct + 1) 8) (buildC v k1 k2 k3 co lf) τ9) (fun E9 τ9 => E9 = "java/lang/UnsupportedOperationException" ∧ (buildC v k1 k2 k3 co lf).1 = (-1) ∧ ChP G ω a hs0 v R p p ct (buildC v k1 k2 k3 co lf) τ9) 1 6 := by
  refine fx_ofW (cc := cX10_build) (maxL := 3) (ret := (some .int)) (by decide) rfl (Nat.le_of_ble_eq_true rfl) ?_
  intro pP eE sS mI ar9 bl9 meth cD ls hx hb hr hlocks hml hts hown hnm hW hR ht9 hl
  have hK := hL.K hW
  have hR0 := hR
  have hS : va_S (fwA G) sS.heap sS.heap [] := va_S.rf
  have hin10 : ∀ w ∈ u_ws RX10 TX10 9, w ∈ wsX10_build := by decide +kernel
  have hl : lv_has ls 3 [(0, .ref x), (1, .int co), (2, .int lf)] := hl
  obtain ⟨g0, g1, g2⟩ := id hH
  obtain ⟨h0, h1, h2, h3, h4, h5, hLf, hCo⟩ := id hA
  obtain ⟨hxy, hxa, hxh, hxs, hxt, hxl, hxu⟩ := id hXA
  refine lv_aload_n hx hb dX10_build_0 rfl (lv_at hl 0 rfl) ?_
  refine fw_get (v := .ref hs0) (C := RX10) (T := TX10) (N := 9) hx hb hts hin10 hown hK hR hx0 rfl 3 (by decide) (hts (.fieldLink RX10 29 "UnreadLeaflets" "history" "LUnreadLeaflets$History;") (by decide +kernel)) rfl dX10_build_1 ?_
  refine lv_aload_n hx hb dX10_build_4 rfl (lv_at hl 0 rfl) ?_
  refine fw_get (v := .ref a) (C := RX10) (T := TX10) (N := 9) hx hb hts hin10 hown hK hR hx0 rfl 1 (by decide) (hts (.fieldLink RX10 20 "UnreadLeaflets" "archive" "LUnreadLeaflets$Archive;") (by decide +kernel)) rfl dX10_build_5 ?_
  refine fw_call (va_runV (As := [.ref a]) (rest := []) ⟨hx, hb, hml, hown, hts⟩ (c_X4_note G hL l ω hs0 R p ct hH hp hct a v hA (by omega) hW0) (cwV 1 hts gX10_build_X4_note rfl rfl rfl (by decide +kernel) ⟨Nat.le_of_ble_eq_true rfl, Nat.le_of_ble_eq_true rfl⟩) (fw_preV hW hK hR g0 rfl) rfl rfl hl.1 rfl (lv_room (Nat.le_of_ble_eq_true rfl)) dX10_build_8 ⟨Nat.le_of_ble_eq_true rfl, Nat.le_of_ble_eq_true rfl⟩) hS (fun v_1 ω_2 H locs hq_3 hR hS => ?_)
  obtain ⟨rfl, z_4, ⟨t_6, hA_7, hv_8⟩, fr_5⟩ := hq_3
  have hHn : HisS G ω_2.2 hs0 (updR R p t_6) p ct := (hH).set1 hp hA_7 (fun q hq => fr_5 q hq)
  refine W.eq (g2 := F0 mI 11 ls []) rfl ?_
  refine lv_aload_n hx hb dX10_build_11 rfl (lv_at hl 0 rfl) ?_
  refine lv_aload_n hx hb dX10_build_12 rfl (lv_at hl 0 rfl) ?_
  have f_9 : ω_2.2 x = some (.inr (12, [.ref y, .ref a, .ref (a + 51), .ref hs0, .ref sn, .int hsn, .ref tx, .ref ln, .ref tt])) := (fr_5 x (by omega)).trans hx0
  refine fw_get (v := .ref y) (C := RX10) (T := TX10) (N := 9) hx hb hts hin10 hown hK hR f_9 rfl 0 (by decide) (hts (.fieldLink RX10 10 "UnreadLeaflets" "changes" "LUnreadLeaflets$Changes;") (by decide +kernel)) rfl dX10_build_13 ?_
  refine lv_iload_n hx hb dX10_build_16 rfl (lv_at hl 1 rfl) ?_
  refine lv_iload_n hx hb dX10_build_17 rfl (lv_at hl 2 rfl) ?_
  have hAk : ArcS G ω_2.2 a v := (hA).keep (fun q q1 q2 => by
    rw [fr_5 q (by omega)])
  have f_10 : ω_2.2 y = some (.inr (3, [.ref a, .ref (a + 51)])) := (fr_5 y (by omega)).trans hy
  have f_11 : ω_2.2 (a + 51) = some (.inr (9, [.int k1, .int k2, .int k3])) := (fr_5 (a + 51) (by omega)).trans hk
  refine fw_call (va_runV (As := [.int co, .int lf]) (rest := [.ref x]) ⟨hx, hb, hml, hown, hts⟩ (c_X1_letBuild G hL l ω_2 y a v k1 k2 k3 f_10 (by omega) hAk f_11 hW0 co lf) (cwV 2 hts gX10_build_X1_letBuild rfl rfl rfl (by decide +kernel) ⟨Nat.le_of_ble_eq_true rfl, Nat.le_of_ble_eq_true rfl⟩) (fw_preV hW hK hR f_10 rfl) rfl rfl hl.1 rfl (lv_room (Nat.le_of_ble_eq_true rfl)) dX10_build_18 ⟨Nat.le_of_ble_eq_true rfl, Nat.le_of_ble_eq_true rfl⟩) hS (fun v_12 ω_13 H locs hq_14 hR hS => ?_)
  obtain ⟨rfl, z_15, hA2, hk2, fr_16⟩ := hq_14
  refine W.eq (g2 := F0 mI 21 ls [.int ((buildC v k1 k2 k3 co lf).1), .ref x]) rfl ?_
  have f_17 : ω_13.2 x = some (.inr (12, [.ref y, .ref a, .ref (a + 51), .ref hs0, .ref sn, .int hsn, .ref tx, .ref ln, .ref tt])) := (fr_16 x (by omega)).trans f_9
  have hHk : HisS G ω_13.2 hs0 (updR R p t_6) p ct := (hHn).keep (fun q q1 q2 => by
    rw [fr_16 q (by omega)])
  refine fx_call (vx_runV (As := [.int ((buildC v k1 k2 k3 co lf).1)]) (rest := []) ⟨hx, hb, hml, hown, hts⟩ (c_X10_settled G hL l hX0 ω_13 x y a hs0 sn tx ln tt hsn (updR R p t_6) p ct f_17 hHk hp hct ((buildC v k1 k2 k3 co lf).1)) (cwV 1 hts gX10_build_X10_settled rfl rfl rfl (by decide +kernel) ⟨Nat.le_of_ble_eq_true rfl, Nat.le_of_ble_eq_true rfl⟩) (fw_preV hW hK hR f_17 rfl) rfl rfl hl.1 rfl (lv_room (Nat.le_of_ble_eq_true rfl)) dX10_build_21 ⟨Nat.le_of_ble_eq_true rfl, Nat.le_of_ble_eq_true rfl⟩) hS (fun E_18 ce_18 q_18 τ_18 H locs hx_18 hR hS hce_18 hcv_18 hcl_18 => ?_) (fun v_18 ω_18 H locs hq_18 hR hS => ?_)
  · skip
    obtain ⟨rfl, hc_18, hw_18⟩ := hx_18
    have hfr9 : ∀ q : Nat, (q < a ∨ hs0 + 461 ≤ q) → ω_13.2 q = ω.2 q := by
      intro q hq0
      rw [fr_16 q (by omega)]
      rw [fr_5 q (by omega)]
    exact fx_out ht9 hlocks ⟨rfl, hc_18, by rw [hw_18]; exact hA2, by rw [hw_18]; exact hk2, ⟨t_6, by rw [hw_18]; exact hHk, hv_8⟩, by rw [hw_18]; exact hfr9⟩ hR hS hce_18 hcv_18 hcl_18 (by first | omega | decide) (by first | omega | decide)
  · skip
    refine W.widen (k := 1) (n := 6) (by first | omega | decide) (by first | omega | decide) ?_
    obtain ⟨rfl, hc_18, hH_18, fr_19⟩ := hq_18
    refine W.eq (g2 := F0 mI 24 ls [.int ((buildC v k1 k2 k3 co lf).1)]) rfl ?_
    refine W.widen (k := 1) (n := 6) (by first | omega | decide) (by first | omega | decide) ?_
    refine vx_ret ?_
    refine fw_iret hx hb hr hlocks hR hS dX10_build_24 ?_
    have hfr9 : ∀ q : Nat, (q < a ∨ hs0 + 461 ≤ q) → ω_18.2 q = ω.2 q := by
      intro q hq0
      rw [fr_19 q (by omega)]
      rw [fr_16 q (by omega)]
      rw [fr_5 q (by omega)]
    have hA3 : ArcS G ω_18.2 a (buildC v k1 k2 k3 co lf).2.1 := hA2.keep (fun q q1 q2 => by rw [fr_19 q (by omega)])
    exact ⟨rfl, hc_18, hA3, by rw [fr_19 _ (by omega)]; exact hk2, ⟨t_6, hH_18, hv_8⟩, hfr9⟩
set_option maxHeartbeats 4000000 in
set_option maxRecDepth 100000 in
theorem c_X10_finish (G : FG) (hL : FL G) (l : Launch) (hX0 : FX0 G l) (ω : FWd) (x y a hs0 sn tx ln tt : Nat) (v : Nat → Nat → Int32) (hsn k1 k2 k3 : Int32) (R : Nat → Nat → Nat → Int32) (p ct : Nat) (hXA : XA x y a hs0 sn tx ln tt) (hx0 : ω.2 x = some (.inr (12, [.ref y, .ref a, .ref (a + 51), .ref hs0, .ref sn, .int hsn, .ref tx, .ref ln, .ref tt]))) (hy : ω.2 y = some (.inr (3, [.ref a, .ref (a + 51)]))) (hA : ArcS G ω.2 a v) (hk : ω.2 (a + 51) = some (.inr (9, [.int k1, .int k2, .int k3]))) (hH : HisS G ω.2 hs0 R p ct) (hp : p < 9) (hct : ct ≤ 8) (hW0 : WF v) (lf : Int32) (sp : Int32) : FMetX G l yX10_finish wsX10_finish ({ frames := 7, cells := 1, slots := 6, locals := 124 } : Room) [.ref x, .int lf, .int sp] ω (fun vv9 τ9 => vv9 = some (.int (finC v k1 k2 k3 lf sp).1) ∧ ¬ (finC v k1 k2 k3 lf sp).1 = (-1) ∧ ChP G ω a hs0 v R p ((p + 1) % 9) (min (ct + 1) 8) (finC v k1 k2 k3 lf sp) τ9) (fun E9 τ9 => E9 = "java/lang/UnsupportedOperationException" ∧ (finC v k1 k2 k3 lf sp).1 = (-1) ∧ ChP G ω a hs0 v R p p ct (finC v k1 k2 k3 lf sp) τ9) 1 6 := by
  refine fx_ofW (cc := cX10_finish) (maxL := 3) (ret := (some .int)) (by decide) rfl (Nat.le_of_ble_eq_true rfl) ?_
  intro pP eE sS mI ar9 bl9 meth cD ls hx hb hr hlocks hml hts hown hnm hW hR ht9 hl
  have hK := hL.K hW
  have hR0 := hR
  have hS : va_S (fwA G) sS.heap sS.heap [] := va_S.rf
  have hin10 : ∀ w ∈ u_ws RX10 TX10 9, w ∈ wsX10_finish := by decide +kernel
  have hl : lv_has ls 3 [(0, .ref x), (1, .int lf), (2, .int sp)] := hl
  obtain ⟨g0, g1, g2⟩ := id hH
  obtain ⟨h0, h1, h2, h3, h4, h5, hLf, hCo⟩ := id hA
  obtain ⟨hxy, hxa, hxh, hxs, hxt, hxl, hxu⟩ := id hXA
  refine lv_aload_n hx hb dX10_finish_0 rfl (lv_at hl 0 rfl) ?_
  refine fw_get (v := .ref hs0) (C := RX10) (T := TX10) (N := 9) hx hb hts hin10 hown hK hR hx0 rfl 3 (by decide) (hts (.fieldLink RX10 29 "UnreadLeaflets" "history" "LUnreadLeaflets$History;") (by decide +kernel)) rfl dX10_finish_1 ?_
  refine lv_aload_n hx hb dX10_finish_4 rfl (lv_at hl 0 rfl) ?_
  refine fw_get (v := .ref a) (C := RX10) (T := TX10) (N := 9) hx hb hts hin10 hown hK hR hx0 rfl 1 (by decide) (hts (.fieldLink RX10 20 "UnreadLeaflets" "archive" "LUnreadLeaflets$Archive;") (by decide +kernel)) rfl dX10_finish_5 ?_
  refine fw_call (va_runV (As := [.ref a]) (rest := []) ⟨hx, hb, hml, hown, hts⟩ (c_X4_note G hL l ω hs0 R p ct hH hp hct a v hA (by omega) hW0) (cwV 1 hts gX10_finish_X4_note rfl rfl rfl (by decide +kernel) ⟨Nat.le_of_ble_eq_true rfl, Nat.le_of_ble_eq_true rfl⟩) (fw_preV hW hK hR g0 rfl) rfl rfl hl.1 rfl (lv_room (Nat.le_of_ble_eq_true rfl)) dX10_finish_8 ⟨Nat.le_of_ble_eq_true rfl, Nat.le_of_ble_eq_true rfl⟩) hS (fun v_1 ω_2 H locs hq_3 hR hS => ?_)
  obtain ⟨rfl, z_4, ⟨t_6, hA_7, hv_8⟩, fr_5⟩ := hq_3
  have hHn : HisS G ω_2.2 hs0 (updR R p t_6) p ct := (hH).set1 hp hA_7 (fun q hq => fr_5 q hq)
  refine W.eq (g2 := F0 mI 11 ls []) rfl ?_
  refine lv_aload_n hx hb dX10_finish_11 rfl (lv_at hl 0 rfl) ?_
  refine lv_aload_n hx hb dX10_finish_12 rfl (lv_at hl 0 rfl) ?_
  have f_9 : ω_2.2 x = some (.inr (12, [.ref y, .ref a, .ref (a + 51), .ref hs0, .ref sn, .int hsn, .ref tx, .ref ln, .ref tt])) := (fr_5 x (by omega)).trans hx0
  refine fw_get (v := .ref y) (C := RX10) (T := TX10) (N := 9) hx hb hts hin10 hown hK hR f_9 rfl 0 (by decide) (hts (.fieldLink RX10 10 "UnreadLeaflets" "changes" "LUnreadLeaflets$Changes;") (by decide +kernel)) rfl dX10_finish_13 ?_
  refine lv_iload_n hx hb dX10_finish_16 rfl (lv_at hl 1 rfl) ?_
  refine lv_iload_n hx hb dX10_finish_17 rfl (lv_at hl 2 rfl) ?_
  have hAk : ArcS G ω_2.2 a v := (hA).keep (fun q q1 q2 => by
    rw [fr_5 q (by omega)])
  have f_10 : ω_2.2 y = some (.inr (3, [.ref a, .ref (a + 51)])) := (fr_5 y (by omega)).trans hy
  have f_11 : ω_2.2 (a + 51) = some (.inr (9, [.int k1, .int k2, .int k3])) := (fr_5 (a + 51) (by omega)).trans hk
  refine fw_call (va_runV (As := [.int lf, .int sp]) (rest := [.ref x]) ⟨hx, hb, hml, hown, hts⟩ (c_X1_doLater G hL l ω_2 y a v k1 k2 k3 f_10 (by omega) hAk f_11 hW0 lf sp) (cwV 2 hts gX10_finish_X1_doLater rfl rfl rfl (by decide +kernel) ⟨Nat.le_of_ble_eq_true rfl, Nat.le_of_ble_eq_true rfl⟩) (fw_preV hW hK hR f_10 rfl) rfl rfl hl.1 rfl (lv_room (Nat.le_of_ble_eq_true rfl)) dX10_finish_18 ⟨Nat.le_of_ble_eq_true rfl, Nat.le_of_ble_eq_true rfl⟩) hS (fun v_12 ω_13 H locs hq_14 hR hS => ?_)
  obtain ⟨rfl, z_15, hA2, hk2, fr_16⟩ := hq_14
  refine W.eq (g2 := F0 mI 21 ls [.int ((finC v k1 k2 k3 lf sp).1), .ref x]) rfl ?_
  have f_17 : ω_13.2 x = some (.inr (12, [.ref y, .ref a, .ref (a + 51), .ref hs0, .ref sn, .int hsn, .ref tx, .ref ln, .ref tt])) := (fr_16 x (by omega)).trans f_9
  have hHk : HisS G ω_13.2 hs0 (updR R p t_6) p ct := (hHn).keep (fun q q1 q2 => by
    rw [fr_16 q (by omega)])
  refine fx_call (vx_runV (As := [.int ((finC v k1 k2 k3 lf sp).1)]) (rest := []) ⟨hx, hb, hml, hown, hts⟩ (c_X10_settled G hL l hX0 ω_13 x y a hs0 sn tx ln tt hsn (updR R p t_6) p ct f_17 hHk hp hct ((finC v k1 k2 k3 lf sp).1)) (cwV 1 hts gX10_finish_X10_settled rfl rfl rfl (by decide +kernel) ⟨Nat.le_of_ble_eq_true rfl, Nat.le_of_ble_eq_true rfl⟩) (fw_preV hW hK hR f_17 rfl) rfl rfl hl.1 rfl (lv_room (Nat.le_of_ble_eq_true rfl)) dX10_finish_21 ⟨Nat.le_of_ble_eq_true rfl, Nat.le_of_ble_eq_true rfl⟩) hS (fun E_18 ce_18 q_18 τ_18 H locs hx_18 hR hS hce_18 hcv_18 hcl_18 => ?_) (fun v_18 ω_18 H locs hq_18 hR hS => ?_)
  · skip
    obtain ⟨rfl, hc_18, hw_18⟩ := hx_18
    have hfr9 : ∀ q : Nat, (q < a ∨ hs0 + 461 ≤ q) → ω_13.2 q = ω.2 q := by
      intro q hq0
      rw [fr_16 q (by omega)]
      rw [fr_5 q (by omega)]
    exact fx_out ht9 hlocks ⟨rfl, hc_18, by rw [hw_18]; exact hA2, by rw [hw_18]; exact hk2, ⟨t_6, by rw [hw_18]; exact hHk, hv_8⟩, by rw [hw_18]; exact hfr9⟩ hR hS hce_18 hcv_18 hcl_18 (by first | omega | decide) (by first | omega | decide)
  · skip
    refine W.widen (k := 1) (n := 6) (by first | omega | decide) (by first | omega | decide) ?_
    obtain ⟨rfl, hc_18, hH_18, fr_19⟩ := hq_18
    refine W.eq (g2 := F0 mI 24 ls [.int ((finC v k1 k2 k3 lf sp).1)]) rfl ?_
    refine W.widen (k := 1) (n := 6) (by first | omega | decide) (by first | omega | decide) ?_
    refine vx_ret ?_
    refine fw_iret hx hb hr hlocks hR hS dX10_finish_24 ?_
    have hfr9 : ∀ q : Nat, (q < a ∨ hs0 + 461 ≤ q) → ω_18.2 q = ω.2 q := by
      intro q hq0
      rw [fr_19 q (by omega)]
      rw [fr_16 q (by omega)]
      rw [fr_5 q (by omega)]
    have hA3 : ArcS G ω_18.2 a (finC v k1 k2 k3 lf sp).2.1 := hA2.keep (fun q q1 q2 => by rw [fr_19 q (by omega)])
    exact ⟨rfl, hc_18, hA3, by rw [fr_19 _ (by omega)]; exact hk2, ⟨t_6, hH_18, hv_8⟩, hfr9⟩
set_option maxHeartbeats 4000000 in
set_option maxRecDepth 100000 in
theorem c_X10_apart (G : FG) (hL : FL G) (l : Launch) (hX0 : FX0 G l) (ω : FWd) (x y a hs0 sn tx ln tt : Nat) (v : Nat → Nat → Int32) (hsn k1 k2 k3 : Int32) (R : Nat → Nat → Nat → Int32) (p ct : Nat) (hXA : XA x y a hs0 sn tx ln tt) (hx0 : ω.2 x = some (.inr (12, [.ref y, .ref a, .ref (a + 51), .ref hs0, .ref sn, .int hsn, .ref tx, .ref ln, .ref tt]))) (hy : ω.2 y = some (.inr (3, [.ref a, .ref (a + 51)]))) (hA : ArcS G ω.2 a v) (hk : ω.2 (a + 51) = some (.inr (9, [.int k1, .int k2, .int k3]))) (hH : HisS G ω.2 hs0 R p ct) (hp : p < 9) (hct : ct ≤ 8) (hW0 : WF v) (lf : Int32) : FMetX G l yX10_apart wsX10_apart ({ frames := 7, cells := 1, slots := 6, locals := 124 } : Room) [.ref x, .int lf] ω (fun vv9 τ9 => vv9 = some (.int (apaC v k1 k2 k3 lf).1) ∧ ¬ (apaC v k1 k2 k3 lf).1 = (-1) ∧ ChP G ω a hs0 v R p ((p + 1) % 9) (min (ct + 1) 8) (apaC v k1 k2 k3 lf) τ9) (fun E9 τ9 => E9 = "java/lang/UnsupportedOperationException" ∧ (apaC v k1 k2 k3 lf).1 = (-1) ∧ ChP G ω a hs0 v R p p ct (apaC v k1 k2 k3 lf) τ9) 1 6 := by
  refine fx_ofW (cc := cX10_apart) (maxL := 2) (ret := (some .int)) (by decide) rfl (Nat.le_of_ble_eq_true rfl) ?_
  intro pP eE sS mI ar9 bl9 meth cD ls hx hb hr hlocks hml hts hown hnm hW hR ht9 hl
  have hK := hL.K hW
  have hR0 := hR
  have hS : va_S (fwA G) sS.heap sS.heap [] := va_S.rf
  have hin10 : ∀ w ∈ u_ws RX10 TX10 9, w ∈ wsX10_apart := by decide +kernel
  have hl : lv_has ls 2 [(0, .ref x), (1, .int lf)] := hl
  obtain ⟨g0, g1, g2⟩ := id hH
  obtain ⟨h0, h1, h2, h3, h4, h5, hLf, hCo⟩ := id hA
  obtain ⟨hxy, hxa, hxh, hxs, hxt, hxl, hxu⟩ := id hXA
  refine lv_aload_n hx hb dX10_apart_0 rfl (lv_at hl 0 rfl) ?_
  refine fw_get (v := .ref hs0) (C := RX10) (T := TX10) (N := 9) hx hb hts hin10 hown hK hR hx0 rfl 3 (by decide) (hts (.fieldLink RX10 29 "UnreadLeaflets" "history" "LUnreadLeaflets$History;") (by decide +kernel)) rfl dX10_apart_1 ?_
  refine lv_aload_n hx hb dX10_apart_4 rfl (lv_at hl 0 rfl) ?_
  refine fw_get (v := .ref a) (C := RX10) (T := TX10) (N := 9) hx hb hts hin10 hown hK hR hx0 rfl 1 (by decide) (hts (.fieldLink RX10 20 "UnreadLeaflets" "archive" "LUnreadLeaflets$Archive;") (by decide +kernel)) rfl dX10_apart_5 ?_
  refine fw_call (va_runV (As := [.ref a]) (rest := []) ⟨hx, hb, hml, hown, hts⟩ (c_X4_note G hL l ω hs0 R p ct hH hp hct a v hA (by omega) hW0) (cwV 1 hts gX10_apart_X4_note rfl rfl rfl (by decide +kernel) ⟨Nat.le_of_ble_eq_true rfl, Nat.le_of_ble_eq_true rfl⟩) (fw_preV hW hK hR g0 rfl) rfl rfl hl.1 rfl (lv_room (Nat.le_of_ble_eq_true rfl)) dX10_apart_8 ⟨Nat.le_of_ble_eq_true rfl, Nat.le_of_ble_eq_true rfl⟩) hS (fun v_1 ω_2 H locs hq_3 hR hS => ?_)
  obtain ⟨rfl, z_4, ⟨t_6, hA_7, hv_8⟩, fr_5⟩ := hq_3
  have hHn : HisS G ω_2.2 hs0 (updR R p t_6) p ct := (hH).set1 hp hA_7 (fun q hq => fr_5 q hq)
  refine W.eq (g2 := F0 mI 11 ls []) rfl ?_
  refine lv_aload_n hx hb dX10_apart_11 rfl (lv_at hl 0 rfl) ?_
  refine lv_aload_n hx hb dX10_apart_12 rfl (lv_at hl 0 rfl) ?_
  have f_9 : ω_2.2 x = some (.inr (12, [.ref y, .ref a, .ref (a + 51), .ref hs0, .ref sn, .int hsn, .ref tx, .ref ln, .ref tt])) := (fr_5 x (by omega)).trans hx0
  refine fw_get (v := .ref y) (C := RX10) (T := TX10) (N := 9) hx hb hts hin10 hown hK hR f_9 rfl 0 (by decide) (hts (.fieldLink RX10 10 "UnreadLeaflets" "changes" "LUnreadLeaflets$Changes;") (by decide +kernel)) rfl dX10_apart_13 ?_
  refine lv_iload_n hx hb dX10_apart_16 rfl (lv_at hl 1 rfl) ?_
  have hAk : ArcS G ω_2.2 a v := (hA).keep (fun q q1 q2 => by
    rw [fr_5 q (by omega)])
  have f_10 : ω_2.2 y = some (.inr (3, [.ref a, .ref (a + 51)])) := (fr_5 y (by omega)).trans hy
  have f_11 : ω_2.2 (a + 51) = some (.inr (9, [.int k1, .int k2, .int k3])) := (fr_5 (a + 51) (by omega)).trans hk
  refine fw_call (va_runV (As := [.int lf]) (rest := [.ref x]) ⟨hx, hb, hml, hown, hts⟩ (c_X1_takeApart G hL l ω_2 y a v k1 k2 k3 f_10 (by omega) hAk f_11 hW0 lf) (cwV 1 hts gX10_apart_X1_takeApart rfl rfl rfl (by decide +kernel) ⟨Nat.le_of_ble_eq_true rfl, Nat.le_of_ble_eq_true rfl⟩) (fw_preV hW hK hR f_10 rfl) rfl rfl hl.1 rfl (lv_room (Nat.le_of_ble_eq_true rfl)) dX10_apart_17 ⟨Nat.le_of_ble_eq_true rfl, Nat.le_of_ble_eq_true rfl⟩) hS (fun v_12 ω_13 H locs hq_14 hR hS => ?_)
  obtain ⟨rfl, z_15, hA2, hk2, fr_16⟩ := hq_14
  refine W.eq (g2 := F0 mI 20 ls [.int ((apaC v k1 k2 k3 lf).1), .ref x]) rfl ?_
  have f_17 : ω_13.2 x = some (.inr (12, [.ref y, .ref a, .ref (a + 51), .ref hs0, .ref sn, .int hsn, .ref tx, .ref ln, .ref tt])) := (fr_16 x (by omega)).trans f_9
  have hHk : HisS G ω_13.2 hs0 (updR R p t_6) p ct := (hHn).keep (fun q q1 q2 => by
    rw [fr_16 q (by omega)])
  refine fx_call (vx_runV (As := [.int ((apaC v k1 k2 k3 lf).1)]) (rest := []) ⟨hx, hb, hml, hown, hts⟩ (c_X10_settled G hL l hX0 ω_13 x y a hs0 sn tx ln tt hsn (updR R p t_6) p ct f_17 hHk hp hct ((apaC v k1 k2 k3 lf).1)) (cwV 1 hts gX10_apart_X10_settled rfl rfl rfl (by decide +kernel) ⟨Nat.le_of_ble_eq_true rfl, Nat.le_of_ble_eq_true rfl⟩) (fw_preV hW hK hR f_17 rfl) rfl rfl hl.1 rfl (lv_room (Nat.le_of_ble_eq_true rfl)) dX10_apart_20 ⟨Nat.le_of_ble_eq_true rfl, Nat.le_of_ble_eq_true rfl⟩) hS (fun E_18 ce_18 q_18 τ_18 H locs hx_18 hR hS hce_18 hcv_18 hcl_18 => ?_) (fun v_18 ω_18 H locs hq_18 hR hS => ?_)
  · skip
    obtain ⟨rfl, hc_18, hw_18⟩ := hx_18
    have hfr9 : ∀ q : Nat, (q < a ∨ hs0 + 461 ≤ q) → ω_13.2 q = ω.2 q := by
      intro q hq0
      rw [fr_16 q (by omega)]
      rw [fr_5 q (by omega)]
    exact fx_out ht9 hlocks ⟨rfl, hc_18, by rw [hw_18]; exact hA2, by rw [hw_18]; exact hk2, ⟨t_6, by rw [hw_18]; exact hHk, hv_8⟩, by rw [hw_18]; exact hfr9⟩ hR hS hce_18 hcv_18 hcl_18 (by first | omega | decide) (by first | omega | decide)
  · skip
    refine W.widen (k := 1) (n := 6) (by first | omega | decide) (by first | omega | decide) ?_
    obtain ⟨rfl, hc_18, hH_18, fr_19⟩ := hq_18
    refine W.eq (g2 := F0 mI 23 ls [.int ((apaC v k1 k2 k3 lf).1)]) rfl ?_
    refine W.widen (k := 1) (n := 6) (by first | omega | decide) (by first | omega | decide) ?_
    refine vx_ret ?_
    refine fw_iret hx hb hr hlocks hR hS dX10_apart_23 ?_
    have hfr9 : ∀ q : Nat, (q < a ∨ hs0 + 461 ≤ q) → ω_18.2 q = ω.2 q := by
      intro q hq0
      rw [fr_19 q (by omega)]
      rw [fr_16 q (by omega)]
      rw [fr_5 q (by omega)]
    have hA3 : ArcS G ω_18.2 a (apaC v k1 k2 k3 lf).2.1 := hA2.keep (fun q q1 q2 => by rw [fr_19 q (by omega)])
    exact ⟨rfl, hc_18, hA3, by rw [fr_19 _ (by omega)]; exact hk2, ⟨t_6, hH_18, hv_8⟩, hfr9⟩
set_option maxHeartbeats 4000000 in
set_option maxRecDepth 100000 in
theorem c_X10_move (G : FG) (hL : FL G) (l : Launch) (hX0 : FX0 G l) (ω : FWd) (x y a hs0 sn tx ln tt : Nat) (v : Nat → Nat → Int32) (hsn k1 k2 k3 : Int32) (R : Nat → Nat → Nat → Int32) (p ct : Nat) (hXA : XA x y a hs0 sn tx ln tt) (hx0 : ω.2 x = some (.inr (12, [.ref y, .ref a, .ref (a + 51), .ref hs0, .ref sn, .int hsn, .ref tx, .ref ln, .ref tt]))) (hy : ω.2 y = some (.inr (3, [.ref a, .ref (a + 51)]))) (hA : ArcS G ω.2 a v) (hk : ω.2 (a + 51) = some (.inr (9, [.int k1, .int k2, .int k3]))) (hH : HisS G ω.2 hs0 R p ct) (hp : p < 9) (hct : ct ≤ 8) (hW0 : WF v) (lf : Int32) (sh : Int32) : FMetX G l yX10_move wsX10_move ({ frames := 7, cells := 1, slots := 6, locals := 124 } : Room) [.ref x, .int lf, .int sh] ω (fun vv9 τ9 => vv9 = some (.int (moveC v k1 k2 k3 lf sh).1) ∧ ¬ (moveC v k1 k2 k3 lf sh).1 = (-1) ∧ ChP G ω a hs0 v R p ((p + 1) % 9) (min (ct + 1) 8) (moveC v k1 k2 k3 lf sh) τ9) (fun E9 τ9 => E9 = "java/lang/UnsupportedOperationException" ∧ (moveC v k1 k2 k3 lf sh).1 = (-1) ∧ ChP G ω a hs0 v R p p ct (moveC v k1 k2 k3 lf sh) τ9) 1 6 := by
  refine fx_ofW (cc := cX10_move) (maxL := 3) (ret := (some .int)) (by decide) rfl (Nat.le_of_ble_eq_true rfl) ?_
  intro pP eE sS mI ar9 bl9 meth cD ls hx hb hr hlocks hml hts hown hnm hW hR ht9 hl
  have hK := hL.K hW
  have hR0 := hR
  have hS : va_S (fwA G) sS.heap sS.heap [] := va_S.rf
  have hin10 : ∀ w ∈ u_ws RX10 TX10 9, w ∈ wsX10_move := by decide +kernel
  have hl : lv_has ls 3 [(0, .ref x), (1, .int lf), (2, .int sh)] := hl
  obtain ⟨g0, g1, g2⟩ := id hH
  obtain ⟨h0, h1, h2, h3, h4, h5, hLf, hCo⟩ := id hA
  obtain ⟨hxy, hxa, hxh, hxs, hxt, hxl, hxu⟩ := id hXA
  refine lv_aload_n hx hb dX10_move_0 rfl (lv_at hl 0 rfl) ?_
  refine fw_get (v := .ref hs0) (C := RX10) (T := TX10) (N := 9) hx hb hts hin10 hown hK hR hx0 rfl 3 (by decide) (hts (.fieldLink RX10 29 "UnreadLeaflets" "history" "LUnreadLeaflets$History;") (by decide +kernel)) rfl dX10_move_1 ?_
  refine lv_aload_n hx hb dX10_move_4 rfl (lv_at hl 0 rfl) ?_
  refine fw_get (v := .ref a) (C := RX10) (T := TX10) (N := 9) hx hb hts hin10 hown hK hR hx0 rfl 1 (by decide) (hts (.fieldLink RX10 20 "UnreadLeaflets" "archive" "LUnreadLeaflets$Archive;") (by decide +kernel)) rfl dX10_move_5 ?_
  refine fw_call (va_runV (As := [.ref a]) (rest := []) ⟨hx, hb, hml, hown, hts⟩ (c_X4_note G hL l ω hs0 R p ct hH hp hct a v hA (by omega) hW0) (cwV 1 hts gX10_move_X4_note rfl rfl rfl (by decide +kernel) ⟨Nat.le_of_ble_eq_true rfl, Nat.le_of_ble_eq_true rfl⟩) (fw_preV hW hK hR g0 rfl) rfl rfl hl.1 rfl (lv_room (Nat.le_of_ble_eq_true rfl)) dX10_move_8 ⟨Nat.le_of_ble_eq_true rfl, Nat.le_of_ble_eq_true rfl⟩) hS (fun v_1 ω_2 H locs hq_3 hR hS => ?_)
  obtain ⟨rfl, z_4, ⟨t_6, hA_7, hv_8⟩, fr_5⟩ := hq_3
  have hHn : HisS G ω_2.2 hs0 (updR R p t_6) p ct := (hH).set1 hp hA_7 (fun q hq => fr_5 q hq)
  refine W.eq (g2 := F0 mI 11 ls []) rfl ?_
  refine lv_aload_n hx hb dX10_move_11 rfl (lv_at hl 0 rfl) ?_
  refine lv_aload_n hx hb dX10_move_12 rfl (lv_at hl 0 rfl) ?_
  have f_9 : ω_2.2 x = some (.inr (12, [.ref y, .ref a, .ref (a + 51), .ref hs0, .ref sn, .int hsn, .ref tx, .ref ln, .ref tt])) := (fr_5 x (by omega)).trans hx0
  refine fw_get (v := .ref y) (C := RX10) (T := TX10) (N := 9) hx hb hts hin10 hown hK hR f_9 rfl 0 (by decide) (hts (.fieldLink RX10 10 "UnreadLeaflets" "changes" "LUnreadLeaflets$Changes;") (by decide +kernel)) rfl dX10_move_13 ?_
  refine lv_iload_n hx hb dX10_move_16 rfl (lv_at hl 1 rfl) ?_
  refine lv_iload_n hx hb dX10_move_17 rfl (lv_at hl 2 rfl) ?_
  have hAk : ArcS G ω_2.2 a v := (hA).keep (fun q q1 q2 => by
    rw [fr_5 q (by omega)])
  have f_10 : ω_2.2 y = some (.inr (3, [.ref a, .ref (a + 51)])) := (fr_5 y (by omega)).trans hy
  have f_11 : ω_2.2 (a + 51) = some (.inr (9, [.int k1, .int k2, .int k3])) := (fr_5 (a + 51) (by omega)).trans hk
  refine fw_call (va_runV (As := [.int lf, .int sh]) (rest := [.ref x]) ⟨hx, hb, hml, hown, hts⟩ (c_X1_moveBox G hL l ω_2 y a v k1 k2 k3 f_10 (by omega) hAk f_11 hW0 lf sh) (cwV 2 hts gX10_move_X1_moveBox rfl rfl rfl (by decide +kernel) ⟨Nat.le_of_ble_eq_true rfl, Nat.le_of_ble_eq_true rfl⟩) (fw_preV hW hK hR f_10 rfl) rfl rfl hl.1 rfl (lv_room (Nat.le_of_ble_eq_true rfl)) dX10_move_18 ⟨Nat.le_of_ble_eq_true rfl, Nat.le_of_ble_eq_true rfl⟩) hS (fun v_12 ω_13 H locs hq_14 hR hS => ?_)
  obtain ⟨rfl, z_15, hA2, hk2, fr_16⟩ := hq_14
  refine W.eq (g2 := F0 mI 21 ls [.int ((moveC v k1 k2 k3 lf sh).1), .ref x]) rfl ?_
  have f_17 : ω_13.2 x = some (.inr (12, [.ref y, .ref a, .ref (a + 51), .ref hs0, .ref sn, .int hsn, .ref tx, .ref ln, .ref tt])) := (fr_16 x (by omega)).trans f_9
  have hHk : HisS G ω_13.2 hs0 (updR R p t_6) p ct := (hHn).keep (fun q q1 q2 => by
    rw [fr_16 q (by omega)])
  refine fx_call (vx_runV (As := [.int ((moveC v k1 k2 k3 lf sh).1)]) (rest := []) ⟨hx, hb, hml, hown, hts⟩ (c_X10_settled G hL l hX0 ω_13 x y a hs0 sn tx ln tt hsn (updR R p t_6) p ct f_17 hHk hp hct ((moveC v k1 k2 k3 lf sh).1)) (cwV 1 hts gX10_move_X10_settled rfl rfl rfl (by decide +kernel) ⟨Nat.le_of_ble_eq_true rfl, Nat.le_of_ble_eq_true rfl⟩) (fw_preV hW hK hR f_17 rfl) rfl rfl hl.1 rfl (lv_room (Nat.le_of_ble_eq_true rfl)) dX10_move_21 ⟨Nat.le_of_ble_eq_true rfl, Nat.le_of_ble_eq_true rfl⟩) hS (fun E_18 ce_18 q_18 τ_18 H locs hx_18 hR hS hce_18 hcv_18 hcl_18 => ?_) (fun v_18 ω_18 H locs hq_18 hR hS => ?_)
  · skip
    obtain ⟨rfl, hc_18, hw_18⟩ := hx_18
    have hfr9 : ∀ q : Nat, (q < a ∨ hs0 + 461 ≤ q) → ω_13.2 q = ω.2 q := by
      intro q hq0
      rw [fr_16 q (by omega)]
      rw [fr_5 q (by omega)]
    exact fx_out ht9 hlocks ⟨rfl, hc_18, by rw [hw_18]; exact hA2, by rw [hw_18]; exact hk2, ⟨t_6, by rw [hw_18]; exact hHk, hv_8⟩, by rw [hw_18]; exact hfr9⟩ hR hS hce_18 hcv_18 hcl_18 (by first | omega | decide) (by first | omega | decide)
  · skip
    refine W.widen (k := 1) (n := 6) (by first | omega | decide) (by first | omega | decide) ?_
    obtain ⟨rfl, hc_18, hH_18, fr_19⟩ := hq_18
    refine W.eq (g2 := F0 mI 24 ls [.int ((moveC v k1 k2 k3 lf sh).1)]) rfl ?_
    refine W.widen (k := 1) (n := 6) (by first | omega | decide) (by first | omega | decide) ?_
    refine vx_ret ?_
    refine fw_iret hx hb hr hlocks hR hS dX10_move_24 ?_
    have hfr9 : ∀ q : Nat, (q < a ∨ hs0 + 461 ≤ q) → ω_18.2 q = ω.2 q := by
      intro q hq0
      rw [fr_19 q (by omega)]
      rw [fr_16 q (by omega)]
      rw [fr_5 q (by omega)]
    have hA3 : ArcS G ω_18.2 a (moveC v k1 k2 k3 lf sh).2.1 := hA2.keep (fun q q1 q2 => by rw [fr_19 q (by omega)])
    exact ⟨rfl, hc_18, hA3, by rw [fr_19 _ (by omega)]; exact hk2, ⟨t_6, hH_18, hv_8⟩, hfr9⟩
set_option maxHeartbeats 4000000 in
set_option maxRecDepth 100000 in
theorem c_X10_lose (G : FG) (hL : FL G) (l : Launch) (hX0 : FX0 G l) (ω : FWd) (x y a hs0 sn tx ln tt : Nat) (v : Nat → Nat → Int32) (hsn k1 k2 k3 : Int32) (R : Nat → Nat → Nat → Int32) (p ct : Nat) (hXA : XA x y a hs0 sn tx ln tt) (hx0 : ω.2 x = some (.inr (12, [.ref y, .ref a, .ref (a + 51), .ref hs0, .ref sn, .int hsn, .ref tx, .ref ln, .ref tt]))) (hy : ω.2 y = some (.inr (3, [.ref a, .ref (a + 51)]))) (hA : ArcS G ω.2 a v) (hk : ω.2 (a + 51) = some (.inr (9, [.int k1, .int k2, .int k3]))) (hH : HisS G ω.2 hs0 R p ct) (hp : p < 9) (hct : ct ≤ 8) (hW0 : WF v) (kd : Int32) (ps : Int32) : FMetX G l yX10_lose wsX10_lose ({ frames := 7, cells := 1, slots := 6, locals := 124 } : Room) [.ref x, .int kd, .int ps] ω (fun vv9 τ9 => vv9 = some (.int (loseC v k1 k2 k3 kd ps).1) ∧ ¬ (loseC v k1 k2 k3 kd ps).1 = (-1) ∧ ChP G ω a hs0 v R p ((p + 1) % 9) (min (ct + 1) 8) (loseC v k1 k2 k3 kd ps) τ9) (fun E9 τ9 => E9 = "java/lang/UnsupportedOperationException" ∧ (loseC v k1 k2 k3 kd ps).1 = (-1) ∧ ChP G ω a hs0 v R p p ct (loseC v k1 k2 k3 kd ps) τ9) 1 6 := by
  refine fx_ofW (cc := cX10_lose) (maxL := 3) (ret := (some .int)) (by decide) rfl (Nat.le_of_ble_eq_true rfl) ?_
  intro pP eE sS mI ar9 bl9 meth cD ls hx hb hr hlocks hml hts hown hnm hW hR ht9 hl
  have hK := hL.K hW
  have hR0 := hR
  have hS : va_S (fwA G) sS.heap sS.heap [] := va_S.rf
  have hin10 : ∀ w ∈ u_ws RX10 TX10 9, w ∈ wsX10_lose := by decide +kernel
  have hl : lv_has ls 3 [(0, .ref x), (1, .int kd), (2, .int ps)] := hl
  obtain ⟨g0, g1, g2⟩ := id hH
  obtain ⟨h0, h1, h2, h3, h4, h5, hLf, hCo⟩ := id hA
  obtain ⟨hxy, hxa, hxh, hxs, hxt, hxl, hxu⟩ := id hXA
  refine lv_aload_n hx hb dX10_lose_0 rfl (lv_at hl 0 rfl) ?_
  refine fw_get (v := .ref hs0) (C := RX10) (T := TX10) (N := 9) hx hb hts hin10 hown hK hR hx0 rfl 3 (by decide) (hts (.fieldLink RX10 29 "UnreadLeaflets" "history" "LUnreadLeaflets$History;") (by decide +kernel)) rfl dX10_lose_1 ?_
  refine lv_aload_n hx hb dX10_lose_4 rfl (lv_at hl 0 rfl) ?_
  refine fw_get (v := .ref a) (C := RX10) (T := TX10) (N := 9) hx hb hts hin10 hown hK hR hx0 rfl 1 (by decide) (hts (.fieldLink RX10 20 "UnreadLeaflets" "archive" "LUnreadLeaflets$Archive;") (by decide +kernel)) rfl dX10_lose_5 ?_
  refine fw_call (va_runV (As := [.ref a]) (rest := []) ⟨hx, hb, hml, hown, hts⟩ (c_X4_note G hL l ω hs0 R p ct hH hp hct a v hA (by omega) hW0) (cwV 1 hts gX10_lose_X4_note rfl rfl rfl (by decide +kernel) ⟨Nat.le_of_ble_eq_true rfl, Nat.le_of_ble_eq_true rfl⟩) (fw_preV hW hK hR g0 rfl) rfl rfl hl.1 rfl (lv_room (Nat.le_of_ble_eq_true rfl)) dX10_lose_8 ⟨Nat.le_of_ble_eq_true rfl, Nat.le_of_ble_eq_true rfl⟩) hS (fun v_1 ω_2 H locs hq_3 hR hS => ?_)
  obtain ⟨rfl, z_4, ⟨t_6, hA_7, hv_8⟩, fr_5⟩ := hq_3
  have hHn : HisS G ω_2.2 hs0 (updR R p t_6) p ct := (hH).set1 hp hA_7 (fun q hq => fr_5 q hq)
  refine W.eq (g2 := F0 mI 11 ls []) rfl ?_
  refine lv_aload_n hx hb dX10_lose_11 rfl (lv_at hl 0 rfl) ?_
  refine lv_aload_n hx hb dX10_lose_12 rfl (lv_at hl 0 rfl) ?_
  have f_9 : ω_2.2 x = some (.inr (12, [.ref y, .ref a, .ref (a + 51), .ref hs0, .ref sn, .int hsn, .ref tx, .ref ln, .ref tt])) := (fr_5 x (by omega)).trans hx0
  refine fw_get (v := .ref y) (C := RX10) (T := TX10) (N := 9) hx hb hts hin10 hown hK hR f_9 rfl 0 (by decide) (hts (.fieldLink RX10 10 "UnreadLeaflets" "changes" "LUnreadLeaflets$Changes;") (by decide +kernel)) rfl dX10_lose_13 ?_
  refine lv_iload_n hx hb dX10_lose_16 rfl (lv_at hl 1 rfl) ?_
  refine lv_iload_n hx hb dX10_lose_17 rfl (lv_at hl 2 rfl) ?_
  have hAk : ArcS G ω_2.2 a v := (hA).keep (fun q q1 q2 => by
    rw [fr_5 q (by omega)])
  have f_10 : ω_2.2 y = some (.inr (3, [.ref a, .ref (a + 51)])) := (fr_5 y (by omega)).trans hy
  have f_11 : ω_2.2 (a + 51) = some (.inr (9, [.int k1, .int k2, .int k3])) := (fr_5 (a + 51) (by omega)).trans hk
  refine fw_call (va_runV (As := [.int kd, .int ps]) (rest := [.ref x]) ⟨hx, hb, hml, hown, hts⟩ (c_X1_loseParts G hL l ω_2 y a v k1 k2 k3 f_10 (by omega) hAk f_11 hW0 kd ps) (cwV 2 hts gX10_lose_X1_loseParts rfl rfl rfl (by decide +kernel) ⟨Nat.le_of_ble_eq_true rfl, Nat.le_of_ble_eq_true rfl⟩) (fw_preV hW hK hR f_10 rfl) rfl rfl hl.1 rfl (lv_room (Nat.le_of_ble_eq_true rfl)) dX10_lose_18 ⟨Nat.le_of_ble_eq_true rfl, Nat.le_of_ble_eq_true rfl⟩) hS (fun v_12 ω_13 H locs hq_14 hR hS => ?_)
  obtain ⟨rfl, z_15, hA2, hk2, fr_16⟩ := hq_14
  refine W.eq (g2 := F0 mI 21 ls [.int ((loseC v k1 k2 k3 kd ps).1), .ref x]) rfl ?_
  have f_17 : ω_13.2 x = some (.inr (12, [.ref y, .ref a, .ref (a + 51), .ref hs0, .ref sn, .int hsn, .ref tx, .ref ln, .ref tt])) := (fr_16 x (by omega)).trans f_9
  have hHk : HisS G ω_13.2 hs0 (updR R p t_6) p ct := (hHn).keep (fun q q1 q2 => by
    rw [fr_16 q (by omega)])
  refine fx_call (vx_runV (As := [.int ((loseC v k1 k2 k3 kd ps).1)]) (rest := []) ⟨hx, hb, hml, hown, hts⟩ (c_X10_settled G hL l hX0 ω_13 x y a hs0 sn tx ln tt hsn (updR R p t_6) p ct f_17 hHk hp hct ((loseC v k1 k2 k3 kd ps).1)) (cwV 1 hts gX10_lose_X10_settled rfl rfl rfl (by decide +kernel) ⟨Nat.le_of_ble_eq_true rfl, Nat.le_of_ble_eq_true rfl⟩) (fw_preV hW hK hR f_17 rfl) rfl rfl hl.1 rfl (lv_room (Nat.le_of_ble_eq_true rfl)) dX10_lose_21 ⟨Nat.le_of_ble_eq_true rfl, Nat.le_of_ble_eq_true rfl⟩) hS (fun E_18 ce_18 q_18 τ_18 H locs hx_18 hR hS hce_18 hcv_18 hcl_18 => ?_) (fun v_18 ω_18 H locs hq_18 hR hS => ?_)
  · skip
    obtain ⟨rfl, hc_18, hw_18⟩ := hx_18
    have hfr9 : ∀ q : Nat, (q < a ∨ hs0 + 461 ≤ q) → ω_13.2 q = ω.2 q := by
      intro q hq0
      rw [fr_16 q (by omega)]
      rw [fr_5 q (by omega)]
    exact fx_out ht9 hlocks ⟨rfl, hc_18, by rw [hw_18]; exact hA2, by rw [hw_18]; exact hk2, ⟨t_6, by rw [hw_18]; exact hHk, hv_8⟩, by rw [hw_18]; exact hfr9⟩ hR hS hce_18 hcv_18 hcl_18 (by first | omega | decide) (by first | omega | decide)
  · skip
    refine W.widen (k := 1) (n := 6) (by first | omega | decide) (by first | omega | decide) ?_
    obtain ⟨rfl, hc_18, hH_18, fr_19⟩ := hq_18
    refine W.eq (g2 := F0 mI 24 ls [.int ((loseC v k1 k2 k3 kd ps).1)]) rfl ?_
    refine W.widen (k := 1) (n := 6) (by first | omega | decide) (by first | omega | decide) ?_
    refine vx_ret ?_
    refine fw_iret hx hb hr hlocks hR hS dX10_lose_24 ?_
    have hfr9 : ∀ q : Nat, (q < a ∨ hs0 + 461 ≤ q) → ω_18.2 q = ω.2 q := by
      intro q hq0
      rw [fr_19 q (by omega)]
      rw [fr_16 q (by omega)]
      rw [fr_5 q (by omega)]
    have hA3 : ArcS G ω_18.2 a (loseC v k1 k2 k3 kd ps).2.1 := hA2.keep (fun q q1 q2 => by rw [fr_19 q (by omega)])
    exact ⟨rfl, hc_18, hA3, by rw [fr_19 _ (by omega)]; exact hk2, ⟨t_6, hH_18, hv_8⟩, hfr9⟩
set_option maxHeartbeats 4000000 in
set_option maxRecDepth 100000 in
theorem c_X10_find (G : FG) (hL : FL G) (l : Launch) (hX0 : FX0 G l) (ω : FWd) (x y a hs0 sn tx ln tt : Nat) (v : Nat → Nat → Int32) (hsn k1 k2 k3 : Int32) (R : Nat → Nat → Nat → Int32) (p ct : Nat) (hXA : XA x y a hs0 sn tx ln tt) (hx0 : ω.2 x = some (.inr (12, [.ref y, .ref a, .ref (a + 51), .ref hs0, .ref sn, .int hsn, .ref tx, .ref ln, .ref tt]))) (hy : ω.2 y = some (.inr (3, [.ref a, .ref (a + 51)]))) (hA : ArcS G ω.2 a v) (hk : ω.2 (a + 51) = some (.inr (9, [.int k1, .int k2, .int k3]))) (hH : HisS G ω.2 hs0 R p ct) (hp : p < 9) (hct : ct ≤ 8) (hW0 : WF v) (kd : Int32) (ps : Int32) : FMetX G l yX10_find wsX10_find ({ frames := 7, cells := 1, slots := 6, locals := 124 } : Room) [.ref x, .int kd, .int ps] ω (fun vv9 τ9 => vv9 = some (.int (findC v k1 k2 k3 kd ps).1) ∧ ¬ (findC v k1 k2 k3 kd ps).1 = (-1) ∧ ChP G ω a hs0 v R p ((p + 1) % 9) (min (ct + 1) 8) (findC v k1 k2 k3 kd ps) τ9) (fun E9 τ9 => E9 = "java/lang/UnsupportedOperationException" ∧ (findC v k1 k2 k3 kd ps).1 = (-1) ∧ ChP G ω a hs0 v R p p ct (findC v k1 k2 k3 kd ps) τ9) 1 6 := by
  refine fx_ofW (cc := cX10_find) (maxL := 3) (ret := (some .int)) (by decide) rfl (Nat.le_of_ble_eq_true rfl) ?_
  intro pP eE sS mI ar9 bl9 meth cD ls hx hb hr hlocks hml hts hown hnm hW hR ht9 hl
  have hK := hL.K hW
  have hR0 := hR
  have hS : va_S (fwA G) sS.heap sS.heap [] := va_S.rf
  have hin10 : ∀ w ∈ u_ws RX10 TX10 9, w ∈ wsX10_find := by decide +kernel
  have hl : lv_has ls 3 [(0, .ref x), (1, .int kd), (2, .int ps)] := hl
  obtain ⟨g0, g1, g2⟩ := id hH
  obtain ⟨h0, h1, h2, h3, h4, h5, hLf, hCo⟩ := id hA
  obtain ⟨hxy, hxa, hxh, hxs, hxt, hxl, hxu⟩ := id hXA
  refine lv_aload_n hx hb dX10_find_0 rfl (lv_at hl 0 rfl) ?_
  refine fw_get (v := .ref hs0) (C := RX10) (T := TX10) (N := 9) hx hb hts hin10 hown hK hR hx0 rfl 3 (by decide) (hts (.fieldLink RX10 29 "UnreadLeaflets" "history" "LUnreadLeaflets$History;") (by decide +kernel)) rfl dX10_find_1 ?_
  refine lv_aload_n hx hb dX10_find_4 rfl (lv_at hl 0 rfl) ?_
  refine fw_get (v := .ref a) (C := RX10) (T := TX10) (N := 9) hx hb hts hin10 hown hK hR hx0 rfl 1 (by decide) (hts (.fieldLink RX10 20 "UnreadLeaflets" "archive" "LUnreadLeaflets$Archive;") (by decide +kernel)) rfl dX10_find_5 ?_
  refine fw_call (va_runV (As := [.ref a]) (rest := []) ⟨hx, hb, hml, hown, hts⟩ (c_X4_note G hL l ω hs0 R p ct hH hp hct a v hA (by omega) hW0) (cwV 1 hts gX10_find_X4_note rfl rfl rfl (by decide +kernel) ⟨Nat.le_of_ble_eq_true rfl, Nat.le_of_ble_eq_true rfl⟩) (fw_preV hW hK hR g0 rfl) rfl rfl hl.1 rfl (lv_room (Nat.le_of_ble_eq_true rfl)) dX10_find_8 ⟨Nat.le_of_ble_eq_true rfl, Nat.le_of_ble_eq_true rfl⟩) hS (fun v_1 ω_2 H locs hq_3 hR hS => ?_)
  obtain ⟨rfl, z_4, ⟨t_6, hA_7, hv_8⟩, fr_5⟩ := hq_3
  have hHn : HisS G ω_2.2 hs0 (updR R p t_6) p ct := (hH).set1 hp hA_7 (fun q hq => fr_5 q hq)
  refine W.eq (g2 := F0 mI 11 ls []) rfl ?_
  refine lv_aload_n hx hb dX10_find_11 rfl (lv_at hl 0 rfl) ?_
  refine lv_aload_n hx hb dX10_find_12 rfl (lv_at hl 0 rfl) ?_
  have f_9 : ω_2.2 x = some (.inr (12, [.ref y, .ref a, .ref (a + 51), .ref hs0, .ref sn, .int hsn, .ref tx, .ref ln, .ref tt])) := (fr_5 x (by omega)).trans hx0
  refine fw_get (v := .ref y) (C := RX10) (T := TX10) (N := 9) hx hb hts hin10 hown hK hR f_9 rfl 0 (by decide) (hts (.fieldLink RX10 10 "UnreadLeaflets" "changes" "LUnreadLeaflets$Changes;") (by decide +kernel)) rfl dX10_find_13 ?_
  refine lv_iload_n hx hb dX10_find_16 rfl (lv_at hl 1 rfl) ?_
  refine lv_iload_n hx hb dX10_find_17 rfl (lv_at hl 2 rfl) ?_
  have hAk : ArcS G ω_2.2 a v := (hA).keep (fun q q1 q2 => by
    rw [fr_5 q (by omega)])
  have f_10 : ω_2.2 y = some (.inr (3, [.ref a, .ref (a + 51)])) := (fr_5 y (by omega)).trans hy
  have f_11 : ω_2.2 (a + 51) = some (.inr (9, [.int k1, .int k2, .int k3])) := (fr_5 (a + 51) (by omega)).trans hk
  refine fw_call (va_runV (As := [.int kd, .int ps]) (rest := [.ref x]) ⟨hx, hb, hml, hown, hts⟩ (c_X1_findParts G hL l ω_2 y a v k1 k2 k3 f_10 (by omega) hAk f_11 hW0 kd ps) (cwV 2 hts gX10_find_X1_findParts rfl rfl rfl (by decide +kernel) ⟨Nat.le_of_ble_eq_true rfl, Nat.le_of_ble_eq_true rfl⟩) (fw_preV hW hK hR f_10 rfl) rfl rfl hl.1 rfl (lv_room (Nat.le_of_ble_eq_true rfl)) dX10_find_18 ⟨Nat.le_of_ble_eq_true rfl, Nat.le_of_ble_eq_true rfl⟩) hS (fun v_12 ω_13 H locs hq_14 hR hS => ?_)
  obtain ⟨rfl, z_15, hA2, hk2, fr_16⟩ := hq_14
  refine W.eq (g2 := F0 mI 21 ls [.int ((findC v k1 k2 k3 kd ps).1), .ref x]) rfl ?_
  have f_17 : ω_13.2 x = some (.inr (12, [.ref y, .ref a, .ref (a + 51), .ref hs0, .ref sn, .int hsn, .ref tx, .ref ln, .ref tt])) := (fr_16 x (by omega)).trans f_9
  have hHk : HisS G ω_13.2 hs0 (updR R p t_6) p ct := (hHn).keep (fun q q1 q2 => by
    rw [fr_16 q (by omega)])
  refine fx_call (vx_runV (As := [.int ((findC v k1 k2 k3 kd ps).1)]) (rest := []) ⟨hx, hb, hml, hown, hts⟩ (c_X10_settled G hL l hX0 ω_13 x y a hs0 sn tx ln tt hsn (updR R p t_6) p ct f_17 hHk hp hct ((findC v k1 k2 k3 kd ps).1)) (cwV 1 hts gX10_find_X10_settled rfl rfl rfl (by decide +kernel) ⟨Nat.le_of_ble_eq_true rfl, Nat.le_of_ble_eq_true rfl⟩) (fw_preV hW hK hR f_17 rfl) rfl rfl hl.1 rfl (lv_room (Nat.le_of_ble_eq_true rfl)) dX10_find_21 ⟨Nat.le_of_ble_eq_true rfl, Nat.le_of_ble_eq_true rfl⟩) hS (fun E_18 ce_18 q_18 τ_18 H locs hx_18 hR hS hce_18 hcv_18 hcl_18 => ?_) (fun v_18 ω_18 H locs hq_18 hR hS => ?_)
  · skip
    obtain ⟨rfl, hc_18, hw_18⟩ := hx_18
    have hfr9 : ∀ q : Nat, (q < a ∨ hs0 + 461 ≤ q) → ω_13.2 q = ω.2 q := by
      intro q hq0
      rw [fr_16 q (by omega)]
      rw [fr_5 q (by omega)]
    exact fx_out ht9 hlocks ⟨rfl, hc_18, by rw [hw_18]; exact hA2, by rw [hw_18]; exact hk2, ⟨t_6, by rw [hw_18]; exact hHk, hv_8⟩, by rw [hw_18]; exact hfr9⟩ hR hS hce_18 hcv_18 hcl_18 (by first | omega | decide) (by first | omega | decide)
  · skip
    refine W.widen (k := 1) (n := 6) (by first | omega | decide) (by first | omega | decide) ?_
    obtain ⟨rfl, hc_18, hH_18, fr_19⟩ := hq_18
    refine W.eq (g2 := F0 mI 24 ls [.int ((findC v k1 k2 k3 kd ps).1)]) rfl ?_
    refine W.widen (k := 1) (n := 6) (by first | omega | decide) (by first | omega | decide) ?_
    refine vx_ret ?_
    refine fw_iret hx hb hr hlocks hR hS dX10_find_24 ?_
    have hfr9 : ∀ q : Nat, (q < a ∨ hs0 + 461 ≤ q) → ω_18.2 q = ω.2 q := by
      intro q hq0
      rw [fr_19 q (by omega)]
      rw [fr_16 q (by omega)]
      rw [fr_5 q (by omega)]
    have hA3 : ArcS G ω_18.2 a (findC v k1 k2 k3 kd ps).2.1 := hA2.keep (fun q q1 q2 => by rw [fr_19 q (by omega)])
    exact ⟨rfl, hc_18, hA3, by rw [fr_19 _ (by omega)]; exact hk2, ⟨t_6, hH_18, hv_8⟩, hfr9⟩
