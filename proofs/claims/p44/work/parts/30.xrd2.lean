/-! ===== printed by program (wip/whole/gen): the class's own methods ===== -/
def blaL (v : Nat → Nat → Int32) (co : Int32) (lf : Int32) : Nat → Int32 × Int32
  | 0 => (popF (skipF v (cN lf) (stN v (cN lf)) (v 9 (cN co)) (v 8 (cN co)) (cN (v 4 (cN lf)))), (-1))
  | k + 1 => if ((blaL v (co) (lf) k).1) ≤ (popF (skipF v (cN lf) (stN v (cN lf)) ((v 9 (cN co)) ||| (1 <<< ((nI k) &&& 31))) (v 8 (cN co)) (cN (v 4 (cN lf))))) then ((blaL v (co) (lf) k)) else ((popF (skipF v (cN lf) (stN v (cN lf)) ((v 9 (cN co)) ||| (1 <<< ((nI k) &&& 31))) (v 8 (cN co)) (cN (v 4 (cN lf)))), nI k))
def blanC (v : Nat → Nat → Int32) (co : Int32) (lf : Int32) : Int32 × Int32 :=
  if inB co 0 (v 0 1 - 1) then (if inB lf 0 (v 0 0 - 1) then (if ((blaL v (co) (lf) 5).2) = (-1) then ((0, 2)) else (((blaL v (co) (lf) 5).2, 0))) else ((0, 1))) else ((0, 1))
set_option maxHeartbeats 4000000 in
set_option maxRecDepth 100000 in
theorem c_X10_bestLanguage (G : FG) (hL : FL G) (l : Launch) (hX0 : FX0 G l) (ω : FWd) (x y a hs0 sn tx ln tt : Nat) (v : Nat → Nat → Int32) (hsn : Int32) (hXA : XA x y a hs0 sn tx ln tt) (hx0 : ω.2 x = some (.inr (12, [.ref y, .ref a, .ref (a + 51), .ref hs0, .ref sn, .int hsn, .ref tx, .ref ln, .ref tt]))) (hA : ArcS G ω.2 a v) (hW0 : WF v) (co : Int32) (lf : Int32) : FMetX G l yX10_bestLanguage wsX10_bestLanguage ({ frames := 7, cells := 3, slots := 18, locals := 121 } : Room) [.ref x, .int co, .int lf] ω (fun vv9 τ9 => vv9 = some (.int (blanC v co lf).1) ∧ (blanC v co lf).2 = 0 ∧ τ9 = ω) (fun E9 τ9 => XC2 "java/lang/IndexOutOfBoundsException" "java/util/NoSuchElementException" (blanC v co lf).2 E9 ∧ τ9.2 = ω.2) 3 18 := by
  refine fx_ofW (cc := cX10_bestLanguage) (maxL := 10) (ret := (some .int)) (by decide) rfl (Nat.le_of_ble_eq_true rfl) ?_
  intro pP eE sS mI ar9 bl9 meth cD ls hx hb hr hlocks hml hts hown hnm hW hR ht9 hl
  have hK := hL.K hW
  have hR0 := hR
  have hS : va_S (fwA G) sS.heap sS.heap [] := va_S.rf
  have hin3 : ∀ w ∈ u_ws RX3 TX3 2, w ∈ wsX10_bestLanguage := by decide +kernel
  have hin5 : ∀ w ∈ u_ws RX5 TX5 9, w ∈ wsX10_bestLanguage := by decide +kernel
  have hl : lv_has ls 10 [(0, .ref x), (1, .int co), (2, .int lf)] := hl
  obtain ⟨h0, h1, h2, h3, h4, h5, hLf, hCo⟩ := id hA
  obtain ⟨hxy, hxa, hxh, hxs, hxt, hxl, hxu⟩ := id hXA
  obtain ⟨c, hc8, hc, hcc⟩ := okN_of hW0.1
  obtain ⟨cc, hd5, hd, hdd⟩ := okN_of hW0.2.1
  have hs : ∀ j, j < c → v 3 j = nI (stN v j) ∧ stN v j ≤ 8 := fun j hj => (hW0.2.2 j (by rw [hcc]; exact hj)).1
  have hfo : ∀ j, j < c → v 4 j = nI (cN (v 4 j)) ∧ cN (v 4 j) ≤ 3 := fun j hj => (hW0.2.2 j (by rw [hcc]; exact hj)).2
  refine lv_aload_n hx hb dX10_bestLanguage_0 rfl (lv_at hl 0 rfl) ?_
  refine lv_iload_n hx hb dX10_bestLanguage_1 rfl (lv_at hl 1 rfl) ?_
  refine fx_call (vx_runV (As := [.int co]) (rest := []) ⟨hx, hb, hml, hown, hts⟩ (c_X10_cousinAt G hL l hX0 ω x y a hs0 sn tx ln tt v hsn hXA hx0 hA hW0 co) (cwV 1 hts gX10_bestLanguage_X10_cousinAt rfl rfl rfl (by decide +kernel) ⟨Nat.le_of_ble_eq_true rfl, Nat.le_of_ble_eq_true rfl⟩) (fw_preV hW hK hR hx0 rfl) rfl rfl hl.1 rfl (lv_room (Nat.le_of_ble_eq_true rfl)) dX10_bestLanguage_2 ⟨Nat.le_of_ble_eq_true rfl, Nat.le_of_ble_eq_true rfl⟩) hS (fun E_1 ce_1 q_1 τ_1 H locs hx_1 hR hS hce_1 hcv_1 hcl_1 => ?_) (fun v_1 ω_1 H locs hq_1 hR hS => ?_)
  · skip
    obtain ⟨rfl, hc_1, hw_1⟩ := hx_1
    have hr_2 : blanC v co lf = ((0, 1) : Int32 × Int32) := by
      simp only [blanC, hcc, hdd]
      rw [if_neg hc_1]
    exact fx_out ht9 hlocks ⟨by rw [hr_2]; exact Or.inl ⟨rfl, rfl⟩, hw_1⟩ hR hS hce_1 hcv_1 hcl_1 (by first | omega | decide) (by first | omega | decide)
  · skip
    refine W.widen (k := 1) (n := 6) (by first | omega | decide) (by first | omega | decide) ?_
    obtain ⟨hc_1, rfl, hw_1⟩ := hq_1
    rw [hw_1] at hR
    obtain ⟨i, hi2, rfl⟩ := in_c hd (by omega) hc_1
    have hci : cN (nI i) = i := cN_nI (by omega)
    refine W.eq (g2 := F0 mI 5 ls [.ref (a + 46 + i)]) (by rw [hci]; rfl) ?_
    refine lv_astore_n (lv' := [(3, .ref (a + 46 + i)), (0, .ref x), (1, .int (nI i)), (2, .int lf)]) hx hb dX10_bestLanguage_5 rfl hl (by decide) rfl (fun ls hl => ?_)
    refine lv_aload_n hx hb dX10_bestLanguage_6 rfl (lv_at hl 1 rfl) ?_
    refine lv_iload_n hx hb dX10_bestLanguage_7 rfl (lv_at hl 3 rfl) ?_
    refine fx_call (vx_runV (As := [.int lf]) (rest := []) ⟨hx, hb, hml, hown, hts⟩ (c_X10_leafletAt G hL l hX0 ω x y a hs0 sn tx ln tt v hsn hXA hx0 hA hW0 lf) (cwV 1 hts gX10_bestLanguage_X10_leafletAt rfl rfl rfl (by decide +kernel) ⟨Nat.le_of_ble_eq_true rfl, Nat.le_of_ble_eq_true rfl⟩) (fw_preV hW hK hR hx0 rfl) rfl rfl hl.1 rfl (lv_room (Nat.le_of_ble_eq_true rfl)) dX10_bestLanguage_8 ⟨Nat.le_of_ble_eq_true rfl, Nat.le_of_ble_eq_true rfl⟩) hS (fun E_3 ce_3 q_3 τ_3 H locs hx_3 hR hS hce_3 hcv_3 hcl_3 => ?_) (fun v_3 ω_3 H locs hq_3 hR hS => ?_)
    · skip
      obtain ⟨rfl, hc_3, hw_3⟩ := hx_3
      have hr_4 : blanC v (nI i) lf = ((0, 1) : Int32 × Int32) := by
        simp only [blanC, hcc, hdd, hci]
        rw [if_pos hc_1, if_neg hc_3]
      exact fx_out ht9 hlocks ⟨by rw [hr_4]; exact Or.inl ⟨rfl, rfl⟩, hw_3⟩ hR hS hce_3 hcv_3 hcl_3 (by first | omega | decide) (by first | omega | decide)
    · skip
      refine W.widen (k := 2) (n := 12) (by first | omega | decide) (by first | omega | decide) ?_
      obtain ⟨hc_3, rfl, hw_3⟩ := hq_3
      rw [hw_3] at hR
      obtain ⟨j, hj2, rfl⟩ := in_c hc hc8 hc_3
      have hcj : cN (nI j) = j := cN_nI (by omega)
      refine W.eq (g2 := F0 mI 11 ls [.ref (a + 6 + 5 * j)]) (by rw [hcj]; rfl) ?_
      refine lv_astore (lv' := [(4, .ref (a + 6 + 5 * j)), (3, .ref (a + 46 + i)), (0, .ref x), (1, .int (nI i)), (2, .int (nI j))]) hx hb dX10_bestLanguage_11 hl (by decide) rfl (fun ls hl => ?_)
      refine lv_aload hx hb dX10_bestLanguage_13 (lv_at hl 0 rfl) ?_
      refine lv_aload_n hx hb dX10_bestLanguage_15 rfl (lv_at hl 1 rfl) ?_
      have f_5 : ω.2 (a + 46 + i) = some (.inr (5, [.int (v 8 i), .int (v 9 i)])) := hCo i (by omega)
      have f_6 : ω.2 (a + 6 + 5 * j) = some (.inr (7, [.int (v 3 j), .int (v 4 j), .int (v 5 j), .int (v 6 j - 1), .int (v 7 j), .ref (a + 6 + 5 * j + 1), .ref (a + 6 + 5 * j + 2), .ref (a + 6 + 5 * j + 3), .ref (a + 6 + 5 * j + 4)])) := (hLf j (by omega)).1
      refine fw_call (va_runV (As := [.ref (a + 46 + i)]) (rest := []) ⟨hx, hb, hml, hown, hts⟩ (c_X5_stepsSkippedBy G hL l ω (a + 6 + 5 * j) j v (hLf j (by omega)) (stN v j) (hs j hj2).1 (hs j hj2).2 (cN (v 4 j)) (hfo j hj2).2 (hfo j hj2).1 (a + 46 + i) (v 8 i) (v 9 i) f_5) (cwV 1 hts gX10_bestLanguage_X5_stepsSkippedBy rfl rfl rfl (by decide +kernel) ⟨Nat.le_of_ble_eq_true rfl, Nat.le_of_ble_eq_true rfl⟩) (fw_preV hW hK hR f_6 rfl) rfl rfl hl.1 rfl (lv_room (Nat.le_of_ble_eq_true rfl)) dX10_bestLanguage_16 ⟨Nat.le_of_ble_eq_true rfl, Nat.le_of_ble_eq_true rfl⟩) hS (fun v_7 ω_8 H locs hq_9 hR hS => ?_)
      obtain ⟨rfl, hq_9⟩ := hq_9
      rw [hq_9] at hR
      refine W.eq (g2 := F0 mI 19 ls [.int (skipF v j (stN v j) (v 9 i) (v 8 i) (cN (v 4 j)))]) rfl ?_
      refine fw_call (va_runS (As := [.int (skipF v j (stN v j) (v 9 i) (v 8 i) (cN (v 4 j)))]) (rest := []) ⟨hx, hb, hml, hown, hts⟩ (c_J6_bitCount_0f7a4 G hL l ω (skipF v j (stN v j) (v 9 i) (v 8 i) (cN (v 4 j)))) (va_cwS 1 hts gX10_bestLanguage_J6_bitCount_0f7a4 rfl rfl rfl (by decide +kernel) ⟨Nat.le_of_ble_eq_true rfl, Nat.le_of_ble_eq_true rfl⟩) (fw_preS hW hR) rfl rfl hl.1 rfl (lv_room (Nat.le_of_ble_eq_true rfl)) dX10_bestLanguage_19 ⟨Nat.le_of_ble_eq_true rfl, Nat.le_of_ble_eq_true rfl⟩) hS (fun v_10 ω_11 H locs hq_12 hR hS => ?_)
      obtain ⟨rfl, hq_12⟩ := hq_12
      rw [hq_12] at hR
      refine W.eq (g2 := F0 mI 22 ls [.int (popF (skipF v j (stN v j) (v 9 i) (v 8 i) (cN (v 4 j))))]) rfl ?_
      refine lv_istore (lv' := [(5, .int (popF (skipF v j (stN v j) (v 9 i) (v 8 i) (cN (v 4 j))))), (4, .ref (a + 6 + 5 * j)), (3, .ref (a + 46 + i)), (0, .ref x), (1, .int (nI i)), (2, .int (nI j))]) hx hb dX10_bestLanguage_22 hl (by decide) rfl (fun ls hl => ?_)
      refine lv_iconst (v := (-1)) hx hb dX10_bestLanguage_24 (by decide) ?_
      refine lv_istore (lv' := [(6, .int (-1)), (5, .int (popF (skipF v j (stN v j) (v 9 i) (v 8 i) (cN (v 4 j))))), (4, .ref (a + 6 + 5 * j)), (3, .ref (a + 46 + i)), (0, .ref x), (1, .int (nI i)), (2, .int (nI j))]) hx hb dX10_bestLanguage_25 hl (by decide) rfl (fun ls hl => ?_)
      refine lv_iconst (v := 0) hx hb dX10_bestLanguage_27 (by decide) ?_
      refine lv_istore (lv' := [(7, .int 0), (6, .int (-1)), (5, .int (popF (skipF v j (stN v j) (v 9 i) (v 8 i) (cN (v 4 j))))), (4, .ref (a + 6 + 5 * j)), (3, .ref (a + 46 + i)), (0, .ref x), (1, .int (nI i)), (2, .int (nI j))]) hx hb dX10_bestLanguage_28 hl (by decide) rfl (fun ls hl => ?_)
      have hi_13 : blaL v (nI i) (nI j) 0 = ((popF (skipF v j (stN v j) (v 9 i) (v 8 i) (cN (v 4 j))), (-1)) : Int32 × Int32) := by simp only [blaL, hcc, hdd, hci, hcj]
      have loop_15 : ∀ (fu : Nat) (k : Nat), (5 - k) < fu → (k ≤ 5) → ∀ (H : Heap) (locs : List Loc) (ls : Array Slot), fR G ω H → va_S (fwA G) sS.heap H locs → lv_has ls 10 [(7, .int (nI k)), (6, .int ((blaL v (nI i) (nI j) k).2)), (5, .int ((blaL v (nI i) (nI j) k).1)), (4, .ref (a + 6 + 5 * j)), (3, .ref (a + 46 + i)), (0, .ref x), (1, .int (nI i)), (2, .int (nI j))] → W pP l eE ({ frames := 7, cells := 3, slots := 18, locals := 121 } : Room) sS mI ar9 bl9 meth cD H locs 2 12 (vx_MQ bl9 (fQ G (fun vv9 τ9 => vv9 = some (.int (blanC v (nI i) (nI j)).1) ∧ (blanC v (nI i) (nI j)).2 = 0 ∧ τ9 = ω)) (fXX G (fun E9 τ9 => XC2 "java/lang/IndexOutOfBoundsException" "java/util/NoSuchElementException" (blanC v (nI i) (nI j)).2 E9 ∧ τ9.2 = ω.2)) ar9 sS 3 18 (fwA G)) (F0 mI 30 ls []) := by
        intro fu
        induction fu with
        | zero => intro k hfu; exact absurd hfu (Nat.not_lt_zero _)
        | succ fu ih =>
          intro k hfu hkk H locs ls hR hS hl
          refine lv_iload hx hb dX10_bestLanguage_30 (lv_at hl 0 rfl) ?_
          refine lv_iconst (v := 5) hx hb dX10_bestLanguage_32 (by decide) ?_
          refine lv_icmp_ge (tgt := 89) hx hb dX10_bestLanguage_33 (by decide) (fun c_16 => ?_) (fun c_16 => ?_)
          · skip
            have hj9 := lp_ge (n := 5) rfl c_16 (by omega) (by omega)
            have hk9 : k = 5 := by omega
            subst hk9
            refine lv_iload hx hb dX10_bestLanguage_89 (lv_at hl 1 rfl) ?_
            refine lv_iconst (v := (-1)) hx hb dX10_bestLanguage_91 (by decide) ?_
            refine lv_icmp_ne (tgt := 106) hx hb dX10_bestLanguage_92 (by decide) (fun c_17 => ?_) (fun c_17 => ?_)
            · skip
              refine lv_iload hx hb dX10_bestLanguage_106 (lv_at hl 1 rfl) ?_
              refine W.widen (k := 3) (n := 18) (by first | omega | decide) (by first | omega | decide) ?_
              refine vx_ret ?_
              have hr_18 : blanC v (nI i) (nI j) = (((blaL v (nI i) (nI j) 5).2, 0) : Int32 × Int32) := by
                simp only [blanC, hcc, hdd, hci, hcj]
                rw [if_pos hc_1, if_pos hc_3, if_neg c_17]
              exact fw_iret hx hb hr hlocks hR hS dX10_bestLanguage_108 ⟨by rw [hr_18], by rw [hr_18], rfl⟩
            · skip
              have hr_19 : blanC v (nI i) (nI j) = ((0, 2) : Int32 × Int32) := by
                simp only [blanC, hcc, hdd, hci, hcj]
                rw [if_pos hc_1, if_pos hc_3, if_pos c_17]
              exact fx_throwNW (ω := ω) (τ := ω) (text := "no language would make the skipped steps fewer") (ws := wsX10_bestLanguage) hx hb hX0 hW hts hown (by decide) (by decide) (by decide +kernel) (by decide +kernel) (by decide) (fun w9 h9 => List.mem_cons_of_mem _ (List.mem_append_left _ (List.mem_append_right _ h9))) xn_228 xg_228 hR0 hR hS (hl.1.trans hml.symm) dX10_bestLanguage_95 dX10_bestLanguage_98 dX10_bestLanguage_99 dX10_bestLanguage_102 dX10_bestLanguage_105 ht9 (by decide) (Nat.le_of_ble_eq_true rfl) (Nat.le_of_ble_eq_true rfl) (Nat.le_of_ble_eq_true rfl) hlocks (fun n9 => ⟨by rw [hr_19]; exact Or.inr (⟨rfl, rfl⟩), rfl⟩) (Nat.le_of_ble_eq_true rfl) (Nat.le_of_ble_eq_true rfl)
          · skip
            have hk2 := lp_lt (n := 5) rfl c_16 (by omega) (by omega)
            refine lv_aload_n hx hb dX10_bestLanguage_36 rfl (lv_at hl 4 rfl) ?_
            refine fw_get (v := .int (v 9 i)) (C := RX3) (T := TX3) (N := 2) hx hb hts hin3 hown hK hR f_5 rfl 1 (by decide) (hts (.fieldLink RX10 185 "UnreadLeaflets$Cousin" "languages" "I") (by decide +kernel)) rfl dX10_bestLanguage_37 ?_
            refine lv_iconst (v := 1) hx hb dX10_bestLanguage_40 (by decide) ?_
            refine lv_iload hx hb dX10_bestLanguage_41 (lv_at hl 0 rfl) ?_
            refine lv_ishl hx hb dX10_bestLanguage_43 ?_
            refine lv_ior hx hb dX10_bestLanguage_44 ?_
            refine lv_topi (fun x_20 ex_20 => ?_)
            refine lv_istore (lv' := [(8, .int x_20), (7, .int (nI k)), (6, .int ((blaL v (nI i) (nI j) k).2)), (5, .int ((blaL v (nI i) (nI j) k).1)), (4, .ref (a + 6 + 5 * j)), (3, .ref (a + 46 + i)), (0, .ref x), (1, .int (nI i)), (2, .int (nI j))]) hx hb dX10_bestLanguage_45 hl (by decide) rfl (fun ls hl => ?_)
            refine lv_aload hx hb dX10_bestLanguage_47 (lv_at hl 4 rfl) ?_
            refine lv_iload hx hb dX10_bestLanguage_49 (lv_at hl 0 rfl) ?_
            refine lv_aload_n hx hb dX10_bestLanguage_51 rfl (lv_at hl 5 rfl) ?_
            refine fw_get (v := .int (v 8 i)) (C := RX3) (T := TX3) (N := 2) hx hb hts hin3 hown hK hR f_5 rfl 0 (by decide) (hts (.fieldLink RX10 180 "UnreadLeaflets$Cousin" "boast" "I") (by decide +kernel)) rfl dX10_bestLanguage_52 ?_
            refine lv_aload hx hb dX10_bestLanguage_55 (lv_at hl 4 rfl) ?_
            refine fw_get (v := .int (v 4 j)) (C := RX5) (T := TX5) (N := 9) hx hb hts hin5 hown hK hR f_6 rfl 1 (by decide) (hts (.fieldLink RX10 123 "UnreadLeaflets$Leaflet" "folds" "I") (by decide +kernel)) rfl dX10_bestLanguage_57 ?_
            refine W.eq (g2 := F0 mI 60 ls [.int (nI (cN (v 4 j))), .int (v 8 i), .int x_20, .ref (a + 6 + 5 * j)]) (congrArg (fun z => F0 mI 60 ls (.int z :: [.int (v 8 i), .int x_20, .ref (a + 6 + 5 * j)])) (hfo j hj2).1) ?_
            refine fw_call (va_runV (As := [.int x_20, .int (v 8 i), .int (nI (cN (v 4 j)))]) (rest := []) ⟨hx, hb, hml, hown, hts⟩ (c_X5_stepsSkippedWith G hL l ω (a + 6 + 5 * j) j v (hLf j (by omega)) (stN v j) (hs j hj2).1 (hs j hj2).2 x_20 (v 8 i) (cN (v 4 j)) (hfo j hj2).2) (cwV 3 hts gX10_bestLanguage_X5_stepsSkippedWith rfl rfl rfl (by decide +kernel) ⟨Nat.le_of_ble_eq_true rfl, Nat.le_of_ble_eq_true rfl⟩) (fw_preV hW hK hR f_6 rfl) rfl rfl hl.1 rfl (lv_room (Nat.le_of_ble_eq_true rfl)) dX10_bestLanguage_60 ⟨Nat.le_of_ble_eq_true rfl, Nat.le_of_ble_eq_true rfl⟩) hS (fun v_21 ω_22 H locs hq_23 hR hS => ?_)
            obtain ⟨rfl, hq_23⟩ := hq_23
            rw [hq_23] at hR
            refine W.eq (g2 := F0 mI 63 ls [.int (skipF v j (stN v j) x_20 (v 8 i) (cN (v 4 j)))]) rfl ?_
            refine fw_call (va_runS (As := [.int (skipF v j (stN v j) x_20 (v 8 i) (cN (v 4 j)))]) (rest := []) ⟨hx, hb, hml, hown, hts⟩ (c_J6_bitCount_0f7a4 G hL l ω (skipF v j (stN v j) x_20 (v 8 i) (cN (v 4 j)))) (va_cwS 1 hts gX10_bestLanguage_J6_bitCount_0f7a4 rfl rfl rfl (by decide +kernel) ⟨Nat.le_of_ble_eq_true rfl, Nat.le_of_ble_eq_true rfl⟩) (fw_preS hW hR) rfl rfl hl.1 rfl (lv_room (Nat.le_of_ble_eq_true rfl)) dX10_bestLanguage_63 ⟨Nat.le_of_ble_eq_true rfl, Nat.le_of_ble_eq_true rfl⟩) hS (fun v_24 ω_25 H locs hq_26 hR hS => ?_)
            obtain ⟨rfl, hq_26⟩ := hq_26
            rw [hq_26] at hR
            refine W.eq (g2 := F0 mI 66 ls [.int (popF (skipF v j (stN v j) x_20 (v 8 i) (cN (v 4 j))))]) rfl ?_
            refine lv_istore (lv' := [(9, .int (popF (skipF v j (stN v j) x_20 (v 8 i) (cN (v 4 j))))), (8, .int x_20), (7, .int (nI k)), (6, .int ((blaL v (nI i) (nI j) k).2)), (5, .int ((blaL v (nI i) (nI j) k).1)), (4, .ref (a + 6 + 5 * j)), (3, .ref (a + 46 + i)), (0, .ref x), (1, .int (nI i)), (2, .int (nI j))]) hx hb dX10_bestLanguage_66 hl (by decide) rfl (fun ls hl => ?_)
            refine lv_iload hx hb dX10_bestLanguage_68 (lv_at hl 0 rfl) ?_
            refine lv_iload hx hb dX10_bestLanguage_70 (lv_at hl 4 rfl) ?_
            refine lv_icmp_ge (tgt := 83) hx hb dX10_bestLanguage_72 (by decide) (fun c_27 => ?_) (fun c_27 => ?_)
            · skip
              obtain ⟨x_28, ex_28⟩ : ∃ y : Int32, y = (nI k) + 1 := ⟨_, rfl⟩
              refine lv_iinc (v := x_28) (lv' := [(7, .int x_28), (9, .int (popF (skipF v j (stN v j) x_20 (v 8 i) (cN (v 4 j))))), (8, .int x_20), (6, .int ((blaL v (nI i) (nI j) k).2)), (5, .int ((blaL v (nI i) (nI j) k).1)), (4, .ref (a + 6 + 5 * j)), (3, .ref (a + 46 + i)), (0, .ref x), (1, .int (nI i)), (2, .int (nI j))]) hx hb dX10_bestLanguage_83 hl (k := 2) rfl (by rw [ex_28]; rfl) (by decide) rfl (fun ls hl => ?_)
              refine lv_goto (tgt := 30) hx hb dX10_bestLanguage_86 (by decide) ?_
              have hr_29 : blaL v (nI i) (nI j) (k + 1) = ((blaL v (nI i) (nI j) k) : Int32 × Int32) := by
                simp only [blaL, hcc, hdd, hci, hcj, ex_20, ex_28]
                simp only [ex_20, ex_28] at c_27
                rw [if_pos c_27]
              have el_7 : x_28 = nI (k + 1) := by rw [ex_28]; exact nI_1 k
              have el_6 : (blaL v (nI i) (nI j) k).2 = (blaL v (nI i) (nI j) (k + 1)).2 := by rw [hr_29]
              have el_5 : (blaL v (nI i) (nI j) k).1 = (blaL v (nI i) (nI j) (k + 1)).1 := by rw [hr_29]
              have hl := lv_sub (l' := [(7, .int x_28), (6, .int ((blaL v (nI i) (nI j) k).2)), (5, .int ((blaL v (nI i) (nI j) k).1)), (4, .ref (a + 6 + 5 * j)), (3, .ref (a + 46 + i)), (0, .ref x), (1, .int (nI i)), (2, .int (nI j))]) hl [0, 3, 4, 5, 6, 7, 8, 9] rfl
              rw [el_7, el_6, el_5] at hl
              exact ih (k + 1) (by omega) (by first | assumption | omega | (simp; done)) _ _ _ hR hS hl
            · skip
              refine lv_iload hx hb dX10_bestLanguage_75 (lv_at hl 0 rfl) ?_
              refine lv_istore (lv' := [(5, .int (popF (skipF v j (stN v j) x_20 (v 8 i) (cN (v 4 j))))), (9, .int (popF (skipF v j (stN v j) x_20 (v 8 i) (cN (v 4 j))))), (8, .int x_20), (7, .int (nI k)), (6, .int ((blaL v (nI i) (nI j) k).2)), (4, .ref (a + 6 + 5 * j)), (3, .ref (a + 46 + i)), (0, .ref x), (1, .int (nI i)), (2, .int (nI j))]) hx hb dX10_bestLanguage_77 hl (by decide) rfl (fun ls hl => ?_)
              refine lv_iload hx hb dX10_bestLanguage_79 (lv_at hl 3 rfl) ?_
              refine lv_istore (lv' := [(6, .int (nI k)), (5, .int (popF (skipF v j (stN v j) x_20 (v 8 i) (cN (v 4 j))))), (9, .int (popF (skipF v j (stN v j) x_20 (v 8 i) (cN (v 4 j))))), (8, .int x_20), (7, .int (nI k)), (4, .ref (a + 6 + 5 * j)), (3, .ref (a + 46 + i)), (0, .ref x), (1, .int (nI i)), (2, .int (nI j))]) hx hb dX10_bestLanguage_81 hl (by decide) rfl (fun ls hl => ?_)
              obtain ⟨x_30, ex_30⟩ : ∃ y : Int32, y = (nI k) + 1 := ⟨_, rfl⟩
              refine lv_iinc (v := x_30) (lv' := [(7, .int x_30), (6, .int (nI k)), (5, .int (popF (skipF v j (stN v j) x_20 (v 8 i) (cN (v 4 j))))), (9, .int (popF (skipF v j (stN v j) x_20 (v 8 i) (cN (v 4 j))))), (8, .int x_20), (4, .ref (a + 6 + 5 * j)), (3, .ref (a + 46 + i)), (0, .ref x), (1, .int (nI i)), (2, .int (nI j))]) hx hb dX10_bestLanguage_83 hl (k := 4) rfl (by rw [ex_30]; rfl) (by decide) rfl (fun ls hl => ?_)
              refine lv_goto (tgt := 30) hx hb dX10_bestLanguage_86 (by decide) ?_
              have hr_31 : blaL v (nI i) (nI j) (k + 1) = ((popF (skipF v j (stN v j) x_20 (v 8 i) (cN (v 4 j))), nI k) : Int32 × Int32) := by
                simp only [blaL, hcc, hdd, hci, hcj, ex_20, ex_30]
                simp only [ex_20, ex_30] at c_27
                rw [if_neg c_27]
              have el_7 : x_30 = nI (k + 1) := by rw [ex_30]; exact nI_1 k
              have el_6 : nI k = (blaL v (nI i) (nI j) (k + 1)).2 := by rw [hr_31]
              have el_5 : popF (skipF v j (stN v j) x_20 (v 8 i) (cN (v 4 j))) = (blaL v (nI i) (nI j) (k + 1)).1 := by rw [hr_31]
              have hl := lv_sub (l' := [(7, .int x_30), (6, .int (nI k)), (5, .int (popF (skipF v j (stN v j) x_20 (v 8 i) (cN (v 4 j))))), (4, .ref (a + 6 + 5 * j)), (3, .ref (a + 46 + i)), (0, .ref x), (1, .int (nI i)), (2, .int (nI j))]) hl [0, 1, 2, 5, 6, 7, 8, 9] rfl
              rw [el_7, el_6, el_5] at hl
              exact ih (k + 1) (by omega) (by first | assumption | omega | (simp; done)) _ _ _ hR hS hl
      have h0_32 : popF (skipF v j (stN v j) (v 9 i) (v 8 i) (cN (v 4 j))) = (blaL v (nI i) (nI j) 0).1 := by rw [hi_13]
      have h0_33 : ((-1) : Int32) = (blaL v (nI i) (nI j) 0).2 := by rw [hi_13]
      have hl : lv_has ls 10 [(7, .int 0), (6, .int ((blaL v (nI i) (nI j) 0).2)), (5, .int ((blaL v (nI i) (nI j) 0).1)), (4, .ref (a + 6 + 5 * j)), (3, .ref (a + 46 + i)), (0, .ref x), (1, .int (nI i)), (2, .int (nI j))] := by rw [← h0_32, ← h0_33]; exact hl
      exact loop_15 _ 0 (Nat.lt_succ_self _) (by first | rfl | assumption | omega | (simp; done)) _ _ _ hR hS (lv_sub hl [0, 1, 2, 3, 4, 5, 6, 7] rfl)
def bfolC (v : Nat → Nat → Int32) (co : Int32) (lf : Int32) : Int32 × Int32 :=
  if inB co 0 (v 0 1 - 1) then (if inB lf 0 (v 0 0 - 1) then (if (popF (skipF v (cN lf) (stN v (cN lf)) (v 9 (cN co)) (v 8 (cN co)) 0)) < (popF (skipF v (cN lf) (stN v (cN lf)) (v 9 (cN co)) (v 8 (cN co)) 1)) then (if (popF (skipF v (cN lf) (stN v (cN lf)) (v 9 (cN co)) (v 8 (cN co)) 0)) < (popF (skipF v (cN lf) (stN v (cN lf)) (v 9 (cN co)) (v 8 (cN co)) 2)) then (if (popF (skipF v (cN lf) (stN v (cN lf)) (v 9 (cN co)) (v 8 (cN co)) 0)) < (popF (skipF v (cN lf) (stN v (cN lf)) (v 9 (cN co)) (v 8 (cN co)) 3)) then ((0, 0)) else ((3, 0))) else (if (popF (skipF v (cN lf) (stN v (cN lf)) (v 9 (cN co)) (v 8 (cN co)) 0)) < (popF (skipF v (cN lf) (stN v (cN lf)) (v 9 (cN co)) (v 8 (cN co)) 3)) then ((2, 0)) else ((3, 0)))) else (if (popF (skipF v (cN lf) (stN v (cN lf)) (v 9 (cN co)) (v 8 (cN co)) 0)) < (popF (skipF v (cN lf) (stN v (cN lf)) (v 9 (cN co)) (v 8 (cN co)) 2)) then (if (popF (skipF v (cN lf) (stN v (cN lf)) (v 9 (cN co)) (v 8 (cN co)) 0)) < (popF (skipF v (cN lf) (stN v (cN lf)) (v 9 (cN co)) (v 8 (cN co)) 3)) then ((1, 0)) else ((3, 0))) else (if (popF (skipF v (cN lf) (stN v (cN lf)) (v 9 (cN co)) (v 8 (cN co)) 0)) < (popF (skipF v (cN lf) (stN v (cN lf)) (v 9 (cN co)) (v 8 (cN co)) 3)) then ((2, 0)) else ((3, 0))))) else ((0, 1))) else ((0, 1))
set_option maxHeartbeats 4000000 in
set_option maxRecDepth 100000 in
theorem c_X10_bestFolds (G : FG) (hL : FL G) (l : Launch) (hX0 : FX0 G l) (ω : FWd) (x y a hs0 sn tx ln tt : Nat) (v : Nat → Nat → Int32) (hsn : Int32) (hXA : XA x y a hs0 sn tx ln tt) (hx0 : ω.2 x = some (.inr (12, [.ref y, .ref a, .ref (a + 51), .ref hs0, .ref sn, .int hsn, .ref tx, .ref ln, .ref tt]))) (hA : ArcS G ω.2 a v) (hW0 : WF v) (co : Int32) (lf : Int32) : FMetX G l yX10_bestFolds wsX10_bestFolds ({ frames := 7, cells := 2, slots := 12, locals := 121 } : Room) [.ref x, .int co, .int lf] ω (fun vv9 τ9 => vv9 = some (.int (bfolC v co lf).1) ∧ (bfolC v co lf).2 = 0 ∧ τ9 = ω) (fun E9 τ9 => XC1 "java/lang/IndexOutOfBoundsException" (bfolC v co lf).2 E9 ∧ τ9.2 = ω.2) 2 12 := by
  refine fx_ofW (cc := cX10_bestFolds) (maxL := 9) (ret := (some .int)) (by decide) rfl (Nat.le_of_ble_eq_true rfl) ?_
  intro pP eE sS mI ar9 bl9 meth cD ls hx hb hr hlocks hml hts hown hnm hW hR ht9 hl
  have hK := hL.K hW
  have hR0 := hR
  have hS : va_S (fwA G) sS.heap sS.heap [] := va_S.rf
  have hin3 : ∀ w ∈ u_ws RX3 TX3 2, w ∈ wsX10_bestFolds := by decide +kernel
  have hl : lv_has ls 9 [(0, .ref x), (1, .int co), (2, .int lf)] := hl
  obtain ⟨h0, h1, h2, h3, h4, h5, hLf, hCo⟩ := id hA
  obtain ⟨hxy, hxa, hxh, hxs, hxt, hxl, hxu⟩ := id hXA
  obtain ⟨c, hc8, hc, hcc⟩ := okN_of hW0.1
  obtain ⟨cc, hd5, hd, hdd⟩ := okN_of hW0.2.1
  have hs : ∀ j, j < c → v 3 j = nI (stN v j) ∧ stN v j ≤ 8 := fun j hj => (hW0.2.2 j (by rw [hcc]; exact hj)).1
  have hfo : ∀ j, j < c → v 4 j = nI (cN (v 4 j)) ∧ cN (v 4 j) ≤ 3 := fun j hj => (hW0.2.2 j (by rw [hcc]; exact hj)).2
  refine lv_aload_n hx hb dX10_bestFolds_0 rfl (lv_at hl 0 rfl) ?_
  refine lv_iload_n hx hb dX10_bestFolds_1 rfl (lv_at hl 1 rfl) ?_
  refine fx_call (vx_runV (As := [.int co]) (rest := []) ⟨hx, hb, hml, hown, hts⟩ (c_X10_cousinAt G hL l hX0 ω x y a hs0 sn tx ln tt v hsn hXA hx0 hA hW0 co) (cwV 1 hts gX10_bestFolds_X10_cousinAt rfl rfl rfl (by decide +kernel) ⟨Nat.le_of_ble_eq_true rfl, Nat.le_of_ble_eq_true rfl⟩) (fw_preV hW hK hR hx0 rfl) rfl rfl hl.1 rfl (lv_room (Nat.le_of_ble_eq_true rfl)) dX10_bestFolds_2 ⟨Nat.le_of_ble_eq_true rfl, Nat.le_of_ble_eq_true rfl⟩) hS (fun E_1 ce_1 q_1 τ_1 H locs hx_1 hR hS hce_1 hcv_1 hcl_1 => ?_) (fun v_1 ω_1 H locs hq_1 hR hS => ?_)
  · skip
    obtain ⟨rfl, hc_1, hw_1⟩ := hx_1
    have hr_2 : bfolC v co lf = ((0, 1) : Int32 × Int32) := by
      simp only [bfolC, hcc, hdd]
      rw [if_neg hc_1]
    exact fx_out ht9 hlocks ⟨by rw [hr_2]; exact ⟨rfl, rfl⟩, hw_1⟩ hR hS hce_1 hcv_1 hcl_1 (by first | omega | decide) (by first | omega | decide)
  · skip
    refine W.widen (k := 1) (n := 6) (by first | omega | decide) (by first | omega | decide) ?_
    obtain ⟨hc_1, rfl, hw_1⟩ := hq_1
    rw [hw_1] at hR
    obtain ⟨i, hi2, rfl⟩ := in_c hd (by omega) hc_1
    have hci : cN (nI i) = i := cN_nI (by omega)
    refine W.eq (g2 := F0 mI 5 ls [.ref (a + 46 + i)]) (by rw [hci]; rfl) ?_
    refine lv_astore_n (lv' := [(3, .ref (a + 46 + i)), (0, .ref x), (1, .int (nI i)), (2, .int lf)]) hx hb dX10_bestFolds_5 rfl hl (by decide) rfl (fun ls hl => ?_)
    refine lv_aload_n hx hb dX10_bestFolds_6 rfl (lv_at hl 1 rfl) ?_
    refine lv_iload_n hx hb dX10_bestFolds_7 rfl (lv_at hl 3 rfl) ?_
    refine fx_call (vx_runV (As := [.int lf]) (rest := []) ⟨hx, hb, hml, hown, hts⟩ (c_X10_leafletAt G hL l hX0 ω x y a hs0 sn tx ln tt v hsn hXA hx0 hA hW0 lf) (cwV 1 hts gX10_bestFolds_X10_leafletAt rfl rfl rfl (by decide +kernel) ⟨Nat.le_of_ble_eq_true rfl, Nat.le_of_ble_eq_true rfl⟩) (fw_preV hW hK hR hx0 rfl) rfl rfl hl.1 rfl (lv_room (Nat.le_of_ble_eq_true rfl)) dX10_bestFolds_8 ⟨Nat.le_of_ble_eq_true rfl, Nat.le_of_ble_eq_true rfl⟩) hS (fun E_3 ce_3 q_3 τ_3 H locs hx_3 hR hS hce_3 hcv_3 hcl_3 => ?_) (fun v_3 ω_3 H locs hq_3 hR hS => ?_)
    · skip
      obtain ⟨rfl, hc_3, hw_3⟩ := hx_3
      have hr_4 : bfolC v (nI i) lf = ((0, 1) : Int32 × Int32) := by
        simp only [bfolC, hcc, hdd, hci]
        rw [if_pos hc_1, if_neg hc_3]
      exact fx_out ht9 hlocks ⟨by rw [hr_4]; exact ⟨rfl, rfl⟩, hw_3⟩ hR hS hce_3 hcv_3 hcl_3 (by first | omega | decide) (by first | omega | decide)
    · skip
      refine W.widen (k := 2) (n := 12) (by first | omega | decide) (by first | omega | decide) ?_
      obtain ⟨hc_3, rfl, hw_3⟩ := hq_3
      rw [hw_3] at hR
      obtain ⟨j, hj2, rfl⟩ := in_c hc hc8 hc_3
      have hcj : cN (nI j) = j := cN_nI (by omega)
      refine W.eq (g2 := F0 mI 11 ls [.ref (a + 6 + 5 * j)]) (by rw [hcj]; rfl) ?_
      refine lv_astore (lv' := [(4, .ref (a + 6 + 5 * j)), (3, .ref (a + 46 + i)), (0, .ref x), (1, .int (nI i)), (2, .int (nI j))]) hx hb dX10_bestFolds_11 hl (by decide) rfl (fun ls hl => ?_)
      refine lv_aload hx hb dX10_bestFolds_13 (lv_at hl 0 rfl) ?_
      refine lv_aload_n hx hb dX10_bestFolds_15 rfl (lv_at hl 1 rfl) ?_
      have f_5 : ω.2 (a + 46 + i) = some (.inr (5, [.int (v 8 i), .int (v 9 i)])) := hCo i (by omega)
      refine fw_get (v := .int (v 9 i)) (C := RX3) (T := TX3) (N := 2) hx hb hts hin3 hown hK hR f_5 rfl 1 (by decide) (hts (.fieldLink RX10 185 "UnreadLeaflets$Cousin" "languages" "I") (by decide +kernel)) rfl dX10_bestFolds_16 ?_
      refine lv_aload_n hx hb dX10_bestFolds_19 rfl (lv_at hl 1 rfl) ?_
      refine fw_get (v := .int (v 8 i)) (C := RX3) (T := TX3) (N := 2) hx hb hts hin3 hown hK hR f_5 rfl 0 (by decide) (hts (.fieldLink RX10 180 "UnreadLeaflets$Cousin" "boast" "I") (by decide +kernel)) rfl dX10_bestFolds_20 ?_
      refine lv_iconst (v := 0) hx hb dX10_bestFolds_23 (by decide) ?_
      have f_6 : ω.2 (a + 6 + 5 * j) = some (.inr (7, [.int (v 3 j), .int (v 4 j), .int (v 5 j), .int (v 6 j - 1), .int (v 7 j), .ref (a + 6 + 5 * j + 1), .ref (a + 6 + 5 * j + 2), .ref (a + 6 + 5 * j + 3), .ref (a + 6 + 5 * j + 4)])) := (hLf j (by omega)).1
      refine fw_call (va_runV (As := [.int (v 9 i), .int (v 8 i), .int 0]) (rest := []) ⟨hx, hb, hml, hown, hts⟩ (c_X5_stepsSkippedWith G hL l ω (a + 6 + 5 * j) j v (hLf j (by omega)) (stN v j) (hs j hj2).1 (hs j hj2).2 (v 9 i) (v 8 i) 0 (by omega)) (cwV 3 hts gX10_bestFolds_X5_stepsSkippedWith rfl rfl rfl (by decide +kernel) ⟨Nat.le_of_ble_eq_true rfl, Nat.le_of_ble_eq_true rfl⟩) (fw_preV hW hK hR f_6 rfl) rfl rfl hl.1 rfl (lv_room (Nat.le_of_ble_eq_true rfl)) dX10_bestFolds_24 ⟨Nat.le_of_ble_eq_true rfl, Nat.le_of_ble_eq_true rfl⟩) hS (fun v_7 ω_8 H locs hq_9 hR hS => ?_)
      obtain ⟨rfl, hq_9⟩ := hq_9
      rw [hq_9] at hR
      refine W.eq (g2 := F0 mI 27 ls [.int (skipF v j (stN v j) (v 9 i) (v 8 i) 0)]) rfl ?_
      refine fw_call (va_runS (As := [.int (skipF v j (stN v j) (v 9 i) (v 8 i) 0)]) (rest := []) ⟨hx, hb, hml, hown, hts⟩ (c_J6_bitCount_0f7a4 G hL l ω (skipF v j (stN v j) (v 9 i) (v 8 i) 0)) (va_cwS 1 hts gX10_bestFolds_J6_bitCount_0f7a4 rfl rfl rfl (by decide +kernel) ⟨Nat.le_of_ble_eq_true rfl, Nat.le_of_ble_eq_true rfl⟩) (fw_preS hW hR) rfl rfl hl.1 rfl (lv_room (Nat.le_of_ble_eq_true rfl)) dX10_bestFolds_27 ⟨Nat.le_of_ble_eq_true rfl, Nat.le_of_ble_eq_true rfl⟩) hS (fun v_10 ω_11 H locs hq_12 hR hS => ?_)
      obtain ⟨rfl, hq_12⟩ := hq_12
      rw [hq_12] at hR
      refine W.eq (g2 := F0 mI 30 ls [.int (popF (skipF v j (stN v j) (v 9 i) (v 8 i) 0))]) rfl ?_
      refine lv_istore (lv' := [(5, .int (popF (skipF v j (stN v j) (v 9 i) (v 8 i) 0))), (4, .ref (a + 6 + 5 * j)), (3, .ref (a + 46 + i)), (0, .ref x), (1, .int (nI i)), (2, .int (nI j))]) hx hb dX10_bestFolds_30 hl (by decide) rfl (fun ls hl => ?_)
      refine lv_iconst (v := 0) hx hb dX10_bestFolds_32 (by decide) ?_
      refine lv_istore (lv' := [(6, .int 0), (5, .int (popF (skipF v j (stN v j) (v 9 i) (v 8 i) 0))), (4, .ref (a + 6 + 5 * j)), (3, .ref (a + 46 + i)), (0, .ref x), (1, .int (nI i)), (2, .int (nI j))]) hx hb dX10_bestFolds_33 hl (by decide) rfl (fun ls hl => ?_)
      refine lv_iconst (v := 1) hx hb dX10_bestFolds_35 (by decide) ?_
      refine lv_istore (lv' := [(7, .int 1), (6, .int 0), (5, .int (popF (skipF v j (stN v j) (v 9 i) (v 8 i) 0))), (4, .ref (a + 6 + 5 * j)), (3, .ref (a + 46 + i)), (0, .ref x), (1, .int (nI i)), (2, .int (nI j))]) hx hb dX10_bestFolds_36 hl (by decide) rfl (fun ls hl => ?_)
      refine lv_iload hx hb dX10_bestFolds_38 (lv_at hl 0 rfl) ?_
      refine lv_iconst (v := 3) hx hb dX10_bestFolds_40 (by decide) ?_
      refine lv_icmp_gt (tgt := 81) hx hb dX10_bestFolds_41 (by decide) (fun c_13 => ?_) (fun c_13 => ?_)
      · skip
        exact absurd c_13 (by decide)
      · skip
        refine lv_aload hx hb dX10_bestFolds_44 (lv_at hl 3 rfl) ?_
        refine lv_aload_n hx hb dX10_bestFolds_46 rfl (lv_at hl 4 rfl) ?_
        refine fw_get (v := .int (v 9 i)) (C := RX3) (T := TX3) (N := 2) hx hb hts hin3 hown hK hR f_5 rfl 1 (by decide) (hts (.fieldLink RX10 185 "UnreadLeaflets$Cousin" "languages" "I") (by decide +kernel)) rfl dX10_bestFolds_47 ?_
        refine lv_aload_n hx hb dX10_bestFolds_50 rfl (lv_at hl 4 rfl) ?_
        refine fw_get (v := .int (v 8 i)) (C := RX3) (T := TX3) (N := 2) hx hb hts hin3 hown hK hR f_5 rfl 0 (by decide) (hts (.fieldLink RX10 180 "UnreadLeaflets$Cousin" "boast" "I") (by decide +kernel)) rfl dX10_bestFolds_51 ?_
        refine lv_iload hx hb dX10_bestFolds_54 (lv_at hl 0 rfl) ?_
        refine fw_call (va_runV (As := [.int (v 9 i), .int (v 8 i), .int 1]) (rest := []) ⟨hx, hb, hml, hown, hts⟩ (c_X5_stepsSkippedWith G hL l ω (a + 6 + 5 * j) j v (hLf j (by omega)) (stN v j) (hs j hj2).1 (hs j hj2).2 (v 9 i) (v 8 i) 1 (by omega)) (cwV 3 hts gX10_bestFolds_X5_stepsSkippedWith rfl rfl rfl (by decide +kernel) ⟨Nat.le_of_ble_eq_true rfl, Nat.le_of_ble_eq_true rfl⟩) (fw_preV hW hK hR f_6 rfl) rfl rfl hl.1 rfl (lv_room (Nat.le_of_ble_eq_true rfl)) dX10_bestFolds_56 ⟨Nat.le_of_ble_eq_true rfl, Nat.le_of_ble_eq_true rfl⟩) hS (fun v_14 ω_15 H locs hq_16 hR hS => ?_)
        obtain ⟨rfl, hq_16⟩ := hq_16
        rw [hq_16] at hR
        refine W.eq (g2 := F0 mI 59 ls [.int (skipF v j (stN v j) (v 9 i) (v 8 i) 1)]) rfl ?_
        refine fw_call (va_runS (As := [.int (skipF v j (stN v j) (v 9 i) (v 8 i) 1)]) (rest := []) ⟨hx, hb, hml, hown, hts⟩ (c_J6_bitCount_0f7a4 G hL l ω (skipF v j (stN v j) (v 9 i) (v 8 i) 1)) (va_cwS 1 hts gX10_bestFolds_J6_bitCount_0f7a4 rfl rfl rfl (by decide +kernel) ⟨Nat.le_of_ble_eq_true rfl, Nat.le_of_ble_eq_true rfl⟩) (fw_preS hW hR) rfl rfl hl.1 rfl (lv_room (Nat.le_of_ble_eq_true rfl)) dX10_bestFolds_59 ⟨Nat.le_of_ble_eq_true rfl, Nat.le_of_ble_eq_true rfl⟩) hS (fun v_17 ω_18 H locs hq_19 hR hS => ?_)
        obtain ⟨rfl, hq_19⟩ := hq_19
        rw [hq_19] at hR
        refine W.eq (g2 := F0 mI 62 ls [.int (popF (skipF v j (stN v j) (v 9 i) (v 8 i) 1))]) rfl ?_
        refine lv_istore (lv' := [(8, .int (popF (skipF v j (stN v j) (v 9 i) (v 8 i) 1))), (7, .int 1), (6, .int 0), (5, .int (popF (skipF v j (stN v j) (v 9 i) (v 8 i) 0))), (4, .ref (a + 6 + 5 * j)), (3, .ref (a + 46 + i)), (0, .ref x), (1, .int (nI i)), (2, .int (nI j))]) hx hb dX10_bestFolds_62 hl (by decide) rfl (fun ls hl => ?_)
        refine lv_iload hx hb dX10_bestFolds_64 (lv_at hl 0 rfl) ?_
        refine lv_iload hx hb dX10_bestFolds_66 (lv_at hl 3 rfl) ?_
        refine lv_icmp_gt (tgt := 75) hx hb dX10_bestFolds_68 (by decide) (fun c_20 => ?_) (fun c_20 => ?_)
        · skip
          refine lv_iinc (v := 2) (lv' := [(7, .int 2), (8, .int (popF (skipF v j (stN v j) (v 9 i) (v 8 i) 1))), (6, .int 0), (5, .int (popF (skipF v j (stN v j) (v 9 i) (v 8 i) 0))), (4, .ref (a + 6 + 5 * j)), (3, .ref (a + 46 + i)), (0, .ref x), (1, .int (nI i)), (2, .int (nI j))]) hx hb dX10_bestFolds_75 hl (k := 1) rfl (by decide) (by decide) rfl (fun ls hl => ?_)
          refine lv_goto (tgt := 38) hx hb dX10_bestFolds_78 (by decide) ?_
          refine lv_iload hx hb dX10_bestFolds_38 (lv_at hl 0 rfl) ?_
          refine lv_iconst (v := 3) hx hb dX10_bestFolds_40 (by decide) ?_
          refine lv_icmp_gt (tgt := 81) hx hb dX10_bestFolds_41 (by decide) (fun c_21 => ?_) (fun c_21 => ?_)
          · skip
            exact absurd c_21 (by decide)
          · skip
            refine lv_aload hx hb dX10_bestFolds_44 (lv_at hl 4 rfl) ?_
            refine lv_aload_n hx hb dX10_bestFolds_46 rfl (lv_at hl 5 rfl) ?_
            refine fw_get (v := .int (v 9 i)) (C := RX3) (T := TX3) (N := 2) hx hb hts hin3 hown hK hR f_5 rfl 1 (by decide) (hts (.fieldLink RX10 185 "UnreadLeaflets$Cousin" "languages" "I") (by decide +kernel)) rfl dX10_bestFolds_47 ?_
            refine lv_aload_n hx hb dX10_bestFolds_50 rfl (lv_at hl 5 rfl) ?_
            refine fw_get (v := .int (v 8 i)) (C := RX3) (T := TX3) (N := 2) hx hb hts hin3 hown hK hR f_5 rfl 0 (by decide) (hts (.fieldLink RX10 180 "UnreadLeaflets$Cousin" "boast" "I") (by decide +kernel)) rfl dX10_bestFolds_51 ?_
            refine lv_iload hx hb dX10_bestFolds_54 (lv_at hl 0 rfl) ?_
            refine fw_call (va_runV (As := [.int (v 9 i), .int (v 8 i), .int 2]) (rest := []) ⟨hx, hb, hml, hown, hts⟩ (c_X5_stepsSkippedWith G hL l ω (a + 6 + 5 * j) j v (hLf j (by omega)) (stN v j) (hs j hj2).1 (hs j hj2).2 (v 9 i) (v 8 i) 2 (by omega)) (cwV 3 hts gX10_bestFolds_X5_stepsSkippedWith rfl rfl rfl (by decide +kernel) ⟨Nat.le_of_ble_eq_true rfl, Nat.le_of_ble_eq_true rfl⟩) (fw_preV hW hK hR f_6 rfl) rfl rfl hl.1 rfl (lv_room (Nat.le_of_ble_eq_true rfl)) dX10_bestFolds_56 ⟨Nat.le_of_ble_eq_true rfl, Nat.le_of_ble_eq_true rfl⟩) hS (fun v_22 ω_23 H locs hq_24 hR hS => ?_)
            obtain ⟨rfl, hq_24⟩ := hq_24
            rw [hq_24] at hR
            refine W.eq (g2 := F0 mI 59 ls [.int (skipF v j (stN v j) (v 9 i) (v 8 i) 2)]) rfl ?_
            refine fw_call (va_runS (As := [.int (skipF v j (stN v j) (v 9 i) (v 8 i) 2)]) (rest := []) ⟨hx, hb, hml, hown, hts⟩ (c_J6_bitCount_0f7a4 G hL l ω (skipF v j (stN v j) (v 9 i) (v 8 i) 2)) (va_cwS 1 hts gX10_bestFolds_J6_bitCount_0f7a4 rfl rfl rfl (by decide +kernel) ⟨Nat.le_of_ble_eq_true rfl, Nat.le_of_ble_eq_true rfl⟩) (fw_preS hW hR) rfl rfl hl.1 rfl (lv_room (Nat.le_of_ble_eq_true rfl)) dX10_bestFolds_59 ⟨Nat.le_of_ble_eq_true rfl, Nat.le_of_ble_eq_true rfl⟩) hS (fun v_25 ω_26 H locs hq_27 hR hS => ?_)
            obtain ⟨rfl, hq_27⟩ := hq_27
            rw [hq_27] at hR
            refine W.eq (g2 := F0 mI 62 ls [.int (popF (skipF v j (stN v j) (v 9 i) (v 8 i) 2))]) rfl ?_
            refine lv_istore (lv' := [(8, .int (popF (skipF v j (stN v j) (v 9 i) (v 8 i) 2))), (7, .int 2), (6, .int 0), (5, .int (popF (skipF v j (stN v j) (v 9 i) (v 8 i) 0))), (4, .ref (a + 6 + 5 * j)), (3, .ref (a + 46 + i)), (0, .ref x), (1, .int (nI i)), (2, .int (nI j))]) hx hb dX10_bestFolds_62 hl (by decide) rfl (fun ls hl => ?_)
            refine lv_iload hx hb dX10_bestFolds_64 (lv_at hl 0 rfl) ?_
            refine lv_iload hx hb dX10_bestFolds_66 (lv_at hl 3 rfl) ?_
            refine lv_icmp_gt (tgt := 75) hx hb dX10_bestFolds_68 (by decide) (fun c_28 => ?_) (fun c_28 => ?_)
            · skip
              refine lv_iinc (v := 3) (lv' := [(7, .int 3), (8, .int (popF (skipF v j (stN v j) (v 9 i) (v 8 i) 2))), (6, .int 0), (5, .int (popF (skipF v j (stN v j) (v 9 i) (v 8 i) 0))), (4, .ref (a + 6 + 5 * j)), (3, .ref (a + 46 + i)), (0, .ref x), (1, .int (nI i)), (2, .int (nI j))]) hx hb dX10_bestFolds_75 hl (k := 1) rfl (by decide) (by decide) rfl (fun ls hl => ?_)
              refine lv_goto (tgt := 38) hx hb dX10_bestFolds_78 (by decide) ?_
              refine lv_iload hx hb dX10_bestFolds_38 (lv_at hl 0 rfl) ?_
              refine lv_iconst (v := 3) hx hb dX10_bestFolds_40 (by decide) ?_
              refine lv_icmp_gt (tgt := 81) hx hb dX10_bestFolds_41 (by decide) (fun c_29 => ?_) (fun c_29 => ?_)
              · skip
                exact absurd c_29 (by decide)
              · skip
                refine lv_aload hx hb dX10_bestFolds_44 (lv_at hl 4 rfl) ?_
                refine lv_aload_n hx hb dX10_bestFolds_46 rfl (lv_at hl 5 rfl) ?_
                refine fw_get (v := .int (v 9 i)) (C := RX3) (T := TX3) (N := 2) hx hb hts hin3 hown hK hR f_5 rfl 1 (by decide) (hts (.fieldLink RX10 185 "UnreadLeaflets$Cousin" "languages" "I") (by decide +kernel)) rfl dX10_bestFolds_47 ?_
                refine lv_aload_n hx hb dX10_bestFolds_50 rfl (lv_at hl 5 rfl) ?_
                refine fw_get (v := .int (v 8 i)) (C := RX3) (T := TX3) (N := 2) hx hb hts hin3 hown hK hR f_5 rfl 0 (by decide) (hts (.fieldLink RX10 180 "UnreadLeaflets$Cousin" "boast" "I") (by decide +kernel)) rfl dX10_bestFolds_51 ?_
                refine lv_iload hx hb dX10_bestFolds_54 (lv_at hl 0 rfl) ?_
                refine fw_call (va_runV (As := [.int (v 9 i), .int (v 8 i), .int 3]) (rest := []) ⟨hx, hb, hml, hown, hts⟩ (c_X5_stepsSkippedWith G hL l ω (a + 6 + 5 * j) j v (hLf j (by omega)) (stN v j) (hs j hj2).1 (hs j hj2).2 (v 9 i) (v 8 i) 3 (by omega)) (cwV 3 hts gX10_bestFolds_X5_stepsSkippedWith rfl rfl rfl (by decide +kernel) ⟨Nat.le_of_ble_eq_true rfl, Nat.le_of_ble_eq_true rfl⟩) (fw_preV hW hK hR f_6 rfl) rfl rfl hl.1 rfl (lv_room (Nat.le_of_ble_eq_true rfl)) dX10_bestFolds_56 ⟨Nat.le_of_ble_eq_true rfl, Nat.le_of_ble_eq_true rfl⟩) hS (fun v_30 ω_31 H locs hq_32 hR hS => ?_)
                obtain ⟨rfl, hq_32⟩ := hq_32
                rw [hq_32] at hR
                refine W.eq (g2 := F0 mI 59 ls [.int (skipF v j (stN v j) (v 9 i) (v 8 i) 3)]) rfl ?_
                refine fw_call (va_runS (As := [.int (skipF v j (stN v j) (v 9 i) (v 8 i) 3)]) (rest := []) ⟨hx, hb, hml, hown, hts⟩ (c_J6_bitCount_0f7a4 G hL l ω (skipF v j (stN v j) (v 9 i) (v 8 i) 3)) (va_cwS 1 hts gX10_bestFolds_J6_bitCount_0f7a4 rfl rfl rfl (by decide +kernel) ⟨Nat.le_of_ble_eq_true rfl, Nat.le_of_ble_eq_true rfl⟩) (fw_preS hW hR) rfl rfl hl.1 rfl (lv_room (Nat.le_of_ble_eq_true rfl)) dX10_bestFolds_59 ⟨Nat.le_of_ble_eq_true rfl, Nat.le_of_ble_eq_true rfl⟩) hS (fun v_33 ω_34 H locs hq_35 hR hS => ?_)
                obtain ⟨rfl, hq_35⟩ := hq_35
                rw [hq_35] at hR
                refine W.eq (g2 := F0 mI 62 ls [.int (popF (skipF v j (stN v j) (v 9 i) (v 8 i) 3))]) rfl ?_
                refine lv_istore (lv' := [(8, .int (popF (skipF v j (stN v j) (v 9 i) (v 8 i) 3))), (7, .int 3), (6, .int 0), (5, .int (popF (skipF v j (stN v j) (v 9 i) (v 8 i) 0))), (4, .ref (a + 6 + 5 * j)), (3, .ref (a + 46 + i)), (0, .ref x), (1, .int (nI i)), (2, .int (nI j))]) hx hb dX10_bestFolds_62 hl (by decide) rfl (fun ls hl => ?_)
                refine lv_iload hx hb dX10_bestFolds_64 (lv_at hl 0 rfl) ?_
                refine lv_iload hx hb dX10_bestFolds_66 (lv_at hl 3 rfl) ?_
                refine lv_icmp_gt (tgt := 75) hx hb dX10_bestFolds_68 (by decide) (fun c_36 => ?_) (fun c_36 => ?_)
                · skip
                  refine lv_iinc (v := 4) (lv' := [(7, .int 4), (8, .int (popF (skipF v j (stN v j) (v 9 i) (v 8 i) 3))), (6, .int 0), (5, .int (popF (skipF v j (stN v j) (v 9 i) (v 8 i) 0))), (4, .ref (a + 6 + 5 * j)), (3, .ref (a + 46 + i)), (0, .ref x), (1, .int (nI i)), (2, .int (nI j))]) hx hb dX10_bestFolds_75 hl (k := 1) rfl (by decide) (by decide) rfl (fun ls hl => ?_)
                  refine lv_goto (tgt := 38) hx hb dX10_bestFolds_78 (by decide) ?_
                  refine lv_iload hx hb dX10_bestFolds_38 (lv_at hl 0 rfl) ?_
                  refine lv_iconst (v := 3) hx hb dX10_bestFolds_40 (by decide) ?_
                  refine lv_icmp_gt (tgt := 81) hx hb dX10_bestFolds_41 (by decide) (fun c_37 => ?_) (fun c_37 => ?_)
                  · skip
                    refine lv_iload hx hb dX10_bestFolds_81 (lv_at hl 2 rfl) ?_
                    refine W.widen (k := 2) (n := 12) (by first | omega | decide) (by first | omega | decide) ?_
                    refine vx_ret ?_
                    have hr_38 : bfolC v (nI i) (nI j) = ((0, 0) : Int32 × Int32) := by
                      simp only [bfolC, hcc, hdd, hci, hcj]
                      rw [if_pos hc_1, if_pos hc_3, if_pos c_20, if_pos c_28, if_pos c_36]
                    exact fw_iret hx hb hr hlocks hR hS dX10_bestFolds_83 ⟨by rw [hr_38], by rw [hr_38], rfl⟩
                  · skip
                    exact absurd c_37 (by decide)
                · skip
                  refine lv_iload hx hb dX10_bestFolds_71 (lv_at hl 1 rfl) ?_
                  refine lv_istore (lv' := [(6, .int 3), (8, .int (popF (skipF v j (stN v j) (v 9 i) (v 8 i) 3))), (7, .int 3), (5, .int (popF (skipF v j (stN v j) (v 9 i) (v 8 i) 0))), (4, .ref (a + 6 + 5 * j)), (3, .ref (a + 46 + i)), (0, .ref x), (1, .int (nI i)), (2, .int (nI j))]) hx hb dX10_bestFolds_73 hl (by decide) rfl (fun ls hl => ?_)
                  refine lv_iinc (v := 4) (lv' := [(7, .int 4), (6, .int 3), (8, .int (popF (skipF v j (stN v j) (v 9 i) (v 8 i) 3))), (5, .int (popF (skipF v j (stN v j) (v 9 i) (v 8 i) 0))), (4, .ref (a + 6 + 5 * j)), (3, .ref (a + 46 + i)), (0, .ref x), (1, .int (nI i)), (2, .int (nI j))]) hx hb dX10_bestFolds_75 hl (k := 2) rfl (by decide) (by decide) rfl (fun ls hl => ?_)
                  refine lv_goto (tgt := 38) hx hb dX10_bestFolds_78 (by decide) ?_
                  refine lv_iload hx hb dX10_bestFolds_38 (lv_at hl 0 rfl) ?_
                  refine lv_iconst (v := 3) hx hb dX10_bestFolds_40 (by decide) ?_
                  refine lv_icmp_gt (tgt := 81) hx hb dX10_bestFolds_41 (by decide) (fun c_39 => ?_) (fun c_39 => ?_)
                  · skip
                    refine lv_iload hx hb dX10_bestFolds_81 (lv_at hl 1 rfl) ?_
                    refine W.widen (k := 2) (n := 12) (by first | omega | decide) (by first | omega | decide) ?_
                    refine vx_ret ?_
                    have hr_40 : bfolC v (nI i) (nI j) = ((3, 0) : Int32 × Int32) := by
                      simp only [bfolC, hcc, hdd, hci, hcj]
                      rw [if_pos hc_1, if_pos hc_3, if_pos c_20, if_pos c_28, if_neg c_36]
                    exact fw_iret hx hb hr hlocks hR hS dX10_bestFolds_83 ⟨by rw [hr_40], by rw [hr_40], rfl⟩
                  · skip
                    exact absurd c_39 (by decide)
            · skip
              refine lv_iload hx hb dX10_bestFolds_71 (lv_at hl 1 rfl) ?_
              refine lv_istore (lv' := [(6, .int 2), (8, .int (popF (skipF v j (stN v j) (v 9 i) (v 8 i) 2))), (7, .int 2), (5, .int (popF (skipF v j (stN v j) (v 9 i) (v 8 i) 0))), (4, .ref (a + 6 + 5 * j)), (3, .ref (a + 46 + i)), (0, .ref x), (1, .int (nI i)), (2, .int (nI j))]) hx hb dX10_bestFolds_73 hl (by decide) rfl (fun ls hl => ?_)
              refine lv_iinc (v := 3) (lv' := [(7, .int 3), (6, .int 2), (8, .int (popF (skipF v j (stN v j) (v 9 i) (v 8 i) 2))), (5, .int (popF (skipF v j (stN v j) (v 9 i) (v 8 i) 0))), (4, .ref (a + 6 + 5 * j)), (3, .ref (a + 46 + i)), (0, .ref x), (1, .int (nI i)), (2, .int (nI j))]) hx hb dX10_bestFolds_75 hl (k := 2) rfl (by decide) (by decide) rfl (fun ls hl => ?_)
              refine lv_goto (tgt := 38) hx hb dX10_bestFolds_78 (by decide) ?_
              refine lv_iload hx hb dX10_bestFolds_38 (lv_at hl 0 rfl) ?_
              refine lv_iconst (v := 3) hx hb dX10_bestFolds_40 (by decide) ?_
              refine lv_icmp_gt (tgt := 81) hx hb dX10_bestFolds_41 (by decide) (fun c_41 => ?_) (fun c_41 => ?_)
              · skip
                exact absurd c_41 (by decide)
              · skip
                refine lv_aload hx hb dX10_bestFolds_44 (lv_at hl 4 rfl) ?_
                refine lv_aload_n hx hb dX10_bestFolds_46 rfl (lv_at hl 5 rfl) ?_
                refine fw_get (v := .int (v 9 i)) (C := RX3) (T := TX3) (N := 2) hx hb hts hin3 hown hK hR f_5 rfl 1 (by decide) (hts (.fieldLink RX10 185 "UnreadLeaflets$Cousin" "languages" "I") (by decide +kernel)) rfl dX10_bestFolds_47 ?_
                refine lv_aload_n hx hb dX10_bestFolds_50 rfl (lv_at hl 5 rfl) ?_
                refine fw_get (v := .int (v 8 i)) (C := RX3) (T := TX3) (N := 2) hx hb hts hin3 hown hK hR f_5 rfl 0 (by decide) (hts (.fieldLink RX10 180 "UnreadLeaflets$Cousin" "boast" "I") (by decide +kernel)) rfl dX10_bestFolds_51 ?_
                refine lv_iload hx hb dX10_bestFolds_54 (lv_at hl 0 rfl) ?_
                refine fw_call (va_runV (As := [.int (v 9 i), .int (v 8 i), .int 3]) (rest := []) ⟨hx, hb, hml, hown, hts⟩ (c_X5_stepsSkippedWith G hL l ω (a + 6 + 5 * j) j v (hLf j (by omega)) (stN v j) (hs j hj2).1 (hs j hj2).2 (v 9 i) (v 8 i) 3 (by omega)) (cwV 3 hts gX10_bestFolds_X5_stepsSkippedWith rfl rfl rfl (by decide +kernel) ⟨Nat.le_of_ble_eq_true rfl, Nat.le_of_ble_eq_true rfl⟩) (fw_preV hW hK hR f_6 rfl) rfl rfl hl.1 rfl (lv_room (Nat.le_of_ble_eq_true rfl)) dX10_bestFolds_56 ⟨Nat.le_of_ble_eq_true rfl, Nat.le_of_ble_eq_true rfl⟩) hS (fun v_42 ω_43 H locs hq_44 hR hS => ?_)
                obtain ⟨rfl, hq_44⟩ := hq_44
                rw [hq_44] at hR
                refine W.eq (g2 := F0 mI 59 ls [.int (skipF v j (stN v j) (v 9 i) (v 8 i) 3)]) rfl ?_
                refine fw_call (va_runS (As := [.int (skipF v j (stN v j) (v 9 i) (v 8 i) 3)]) (rest := []) ⟨hx, hb, hml, hown, hts⟩ (c_J6_bitCount_0f7a4 G hL l ω (skipF v j (stN v j) (v 9 i) (v 8 i) 3)) (va_cwS 1 hts gX10_bestFolds_J6_bitCount_0f7a4 rfl rfl rfl (by decide +kernel) ⟨Nat.le_of_ble_eq_true rfl, Nat.le_of_ble_eq_true rfl⟩) (fw_preS hW hR) rfl rfl hl.1 rfl (lv_room (Nat.le_of_ble_eq_true rfl)) dX10_bestFolds_59 ⟨Nat.le_of_ble_eq_true rfl, Nat.le_of_ble_eq_true rfl⟩) hS (fun v_45 ω_46 H locs hq_47 hR hS => ?_)
                obtain ⟨rfl, hq_47⟩ := hq_47
                rw [hq_47] at hR
                refine W.eq (g2 := F0 mI 62 ls [.int (popF (skipF v j (stN v j) (v 9 i) (v 8 i) 3))]) rfl ?_
                refine lv_istore (lv' := [(8, .int (popF (skipF v j (stN v j) (v 9 i) (v 8 i) 3))), (7, .int 3), (6, .int 2), (5, .int (popF (skipF v j (stN v j) (v 9 i) (v 8 i) 0))), (4, .ref (a + 6 + 5 * j)), (3, .ref (a + 46 + i)), (0, .ref x), (1, .int (nI i)), (2, .int (nI j))]) hx hb dX10_bestFolds_62 hl (by decide) rfl (fun ls hl => ?_)
                refine lv_iload hx hb dX10_bestFolds_64 (lv_at hl 0 rfl) ?_
                refine lv_iload hx hb dX10_bestFolds_66 (lv_at hl 3 rfl) ?_
                refine lv_icmp_gt (tgt := 75) hx hb dX10_bestFolds_68 (by decide) (fun c_48 => ?_) (fun c_48 => ?_)
                · skip
                  refine lv_iinc (v := 4) (lv' := [(7, .int 4), (8, .int (popF (skipF v j (stN v j) (v 9 i) (v 8 i) 3))), (6, .int 2), (5, .int (popF (skipF v j (stN v j) (v 9 i) (v 8 i) 0))), (4, .ref (a + 6 + 5 * j)), (3, .ref (a + 46 + i)), (0, .ref x), (1, .int (nI i)), (2, .int (nI j))]) hx hb dX10_bestFolds_75 hl (k := 1) rfl (by decide) (by decide) rfl (fun ls hl => ?_)
                  refine lv_goto (tgt := 38) hx hb dX10_bestFolds_78 (by decide) ?_
                  refine lv_iload hx hb dX10_bestFolds_38 (lv_at hl 0 rfl) ?_
                  refine lv_iconst (v := 3) hx hb dX10_bestFolds_40 (by decide) ?_
                  refine lv_icmp_gt (tgt := 81) hx hb dX10_bestFolds_41 (by decide) (fun c_49 => ?_) (fun c_49 => ?_)
                  · skip
                    refine lv_iload hx hb dX10_bestFolds_81 (lv_at hl 2 rfl) ?_
                    refine W.widen (k := 2) (n := 12) (by first | omega | decide) (by first | omega | decide) ?_
                    refine vx_ret ?_
                    have hr_50 : bfolC v (nI i) (nI j) = ((2, 0) : Int32 × Int32) := by
                      simp only [bfolC, hcc, hdd, hci, hcj]
                      rw [if_pos hc_1, if_pos hc_3, if_pos c_20, if_neg c_28, if_pos c_48]
                    exact fw_iret hx hb hr hlocks hR hS dX10_bestFolds_83 ⟨by rw [hr_50], by rw [hr_50], rfl⟩
                  · skip
                    exact absurd c_49 (by decide)
                · skip
                  refine lv_iload hx hb dX10_bestFolds_71 (lv_at hl 1 rfl) ?_
                  refine lv_istore (lv' := [(6, .int 3), (8, .int (popF (skipF v j (stN v j) (v 9 i) (v 8 i) 3))), (7, .int 3), (5, .int (popF (skipF v j (stN v j) (v 9 i) (v 8 i) 0))), (4, .ref (a + 6 + 5 * j)), (3, .ref (a + 46 + i)), (0, .ref x), (1, .int (nI i)), (2, .int (nI j))]) hx hb dX10_bestFolds_73 hl (by decide) rfl (fun ls hl => ?_)
                  refine lv_iinc (v := 4) (lv' := [(7, .int 4), (6, .int 3), (8, .int (popF (skipF v j (stN v j) (v 9 i) (v 8 i) 3))), (5, .int (popF (skipF v j (stN v j) (v 9 i) (v 8 i) 0))), (4, .ref (a + 6 + 5 * j)), (3, .ref (a + 46 + i)), (0, .ref x), (1, .int (nI i)), (2, .int (nI j))]) hx hb dX10_bestFolds_75 hl (k := 2) rfl (by decide) (by decide) rfl (fun ls hl => ?_)
                  refine lv_goto (tgt := 38) hx hb dX10_bestFolds_78 (by decide) ?_
                  refine lv_iload hx hb dX10_bestFolds_38 (lv_at hl 0 rfl) ?_
                  refine lv_iconst (v := 3) hx hb dX10_bestFolds_40 (by decide) ?_
                  refine lv_icmp_gt (tgt := 81) hx hb dX10_bestFolds_41 (by decide) (fun c_51 => ?_) (fun c_51 => ?_)
                  · skip
                    refine lv_iload hx hb dX10_bestFolds_81 (lv_at hl 1 rfl) ?_
                    refine W.widen (k := 2) (n := 12) (by first | omega | decide) (by first | omega | decide) ?_
                    refine vx_ret ?_
                    have hr_52 : bfolC v (nI i) (nI j) = ((3, 0) : Int32 × Int32) := by
                      simp only [bfolC, hcc, hdd, hci, hcj]
                      rw [if_pos hc_1, if_pos hc_3, if_pos c_20, if_neg c_28, if_neg c_48]
                    exact fw_iret hx hb hr hlocks hR hS dX10_bestFolds_83 ⟨by rw [hr_52], by rw [hr_52], rfl⟩
                  · skip
                    exact absurd c_51 (by decide)
        · skip
          refine lv_iload hx hb dX10_bestFolds_71 (lv_at hl 1 rfl) ?_
          refine lv_istore (lv' := [(6, .int 1), (8, .int (popF (skipF v j (stN v j) (v 9 i) (v 8 i) 1))), (7, .int 1), (5, .int (popF (skipF v j (stN v j) (v 9 i) (v 8 i) 0))), (4, .ref (a + 6 + 5 * j)), (3, .ref (a + 46 + i)), (0, .ref x), (1, .int (nI i)), (2, .int (nI j))]) hx hb dX10_bestFolds_73 hl (by decide) rfl (fun ls hl => ?_)
          refine lv_iinc (v := 2) (lv' := [(7, .int 2), (6, .int 1), (8, .int (popF (skipF v j (stN v j) (v 9 i) (v 8 i) 1))), (5, .int (popF (skipF v j (stN v j) (v 9 i) (v 8 i) 0))), (4, .ref (a + 6 + 5 * j)), (3, .ref (a + 46 + i)), (0, .ref x), (1, .int (nI i)), (2, .int (nI j))]) hx hb dX10_bestFolds_75 hl (k := 2) rfl (by decide) (by decide) rfl (fun ls hl => ?_)
          refine lv_goto (tgt := 38) hx hb dX10_bestFolds_78 (by decide) ?_
          refine lv_iload hx hb dX10_bestFolds_38 (lv_at hl 0 rfl) ?_
          refine lv_iconst (v := 3) hx hb dX10_bestFolds_40 (by decide) ?_
          refine lv_icmp_gt (tgt := 81) hx hb dX10_bestFolds_41 (by decide) (fun c_53 => ?_) (fun c_53 => ?_)
          · skip
            exact absurd c_53 (by decide)
          · skip
            refine lv_aload hx hb dX10_bestFolds_44 (lv_at hl 4 rfl) ?_
            refine lv_aload_n hx hb dX10_bestFolds_46 rfl (lv_at hl 5 rfl) ?_
            refine fw_get (v := .int (v 9 i)) (C := RX3) (T := TX3) (N := 2) hx hb hts hin3 hown hK hR f_5 rfl 1 (by decide) (hts (.fieldLink RX10 185 "UnreadLeaflets$Cousin" "languages" "I") (by decide +kernel)) rfl dX10_bestFolds_47 ?_
            refine lv_aload_n hx hb dX10_bestFolds_50 rfl (lv_at hl 5 rfl) ?_
            refine fw_get (v := .int (v 8 i)) (C := RX3) (T := TX3) (N := 2) hx hb hts hin3 hown hK hR f_5 rfl 0 (by decide) (hts (.fieldLink RX10 180 "UnreadLeaflets$Cousin" "boast" "I") (by decide +kernel)) rfl dX10_bestFolds_51 ?_
            refine lv_iload hx hb dX10_bestFolds_54 (lv_at hl 0 rfl) ?_
            refine fw_call (va_runV (As := [.int (v 9 i), .int (v 8 i), .int 2]) (rest := []) ⟨hx, hb, hml, hown, hts⟩ (c_X5_stepsSkippedWith G hL l ω (a + 6 + 5 * j) j v (hLf j (by omega)) (stN v j) (hs j hj2).1 (hs j hj2).2 (v 9 i) (v 8 i) 2 (by omega)) (cwV 3 hts gX10_bestFolds_X5_stepsSkippedWith rfl rfl rfl (by decide +kernel) ⟨Nat.le_of_ble_eq_true rfl, Nat.le_of_ble_eq_true rfl⟩) (fw_preV hW hK hR f_6 rfl) rfl rfl hl.1 rfl (lv_room (Nat.le_of_ble_eq_true rfl)) dX10_bestFolds_56 ⟨Nat.le_of_ble_eq_true rfl, Nat.le_of_ble_eq_true rfl⟩) hS (fun v_54 ω_55 H locs hq_56 hR hS => ?_)
            obtain ⟨rfl, hq_56⟩ := hq_56
            rw [hq_56] at hR
            refine W.eq (g2 := F0 mI 59 ls [.int (skipF v j (stN v j) (v 9 i) (v 8 i) 2)]) rfl ?_
            refine fw_call (va_runS (As := [.int (skipF v j (stN v j) (v 9 i) (v 8 i) 2)]) (rest := []) ⟨hx, hb, hml, hown, hts⟩ (c_J6_bitCount_0f7a4 G hL l ω (skipF v j (stN v j) (v 9 i) (v 8 i) 2)) (va_cwS 1 hts gX10_bestFolds_J6_bitCount_0f7a4 rfl rfl rfl (by decide +kernel) ⟨Nat.le_of_ble_eq_true rfl, Nat.le_of_ble_eq_true rfl⟩) (fw_preS hW hR) rfl rfl hl.1 rfl (lv_room (Nat.le_of_ble_eq_true rfl)) dX10_bestFolds_59 ⟨Nat.le_of_ble_eq_true rfl, Nat.le_of_ble_eq_true rfl⟩) hS (fun v_57 ω_58 H locs hq_59 hR hS => ?_)
            obtain ⟨rfl, hq_59⟩ := hq_59
            rw [hq_59] at hR
            refine W.eq (g2 := F0 mI 62 ls [.int (popF (skipF v j (stN v j) (v 9 i) (v 8 i) 2))]) rfl ?_
            refine lv_istore (lv' := [(8, .int (popF (skipF v j (stN v j) (v 9 i) (v 8 i) 2))), (7, .int 2), (6, .int 1), (5, .int (popF (skipF v j (stN v j) (v 9 i) (v 8 i) 0))), (4, .ref (a + 6 + 5 * j)), (3, .ref (a + 46 + i)), (0, .ref x), (1, .int (nI i)), (2, .int (nI j))]) hx hb dX10_bestFolds_62 hl (by decide) rfl (fun ls hl => ?_)
            refine lv_iload hx hb dX10_bestFolds_64 (lv_at hl 0 rfl) ?_
            refine lv_iload hx hb dX10_bestFolds_66 (lv_at hl 3 rfl) ?_
            refine lv_icmp_gt (tgt := 75) hx hb dX10_bestFolds_68 (by decide) (fun c_60 => ?_) (fun c_60 => ?_)
            · skip
              refine lv_iinc (v := 3) (lv' := [(7, .int 3), (8, .int (popF (skipF v j (stN v j) (v 9 i) (v 8 i) 2))), (6, .int 1), (5, .int (popF (skipF v j (stN v j) (v 9 i) (v 8 i) 0))), (4, .ref (a + 6 + 5 * j)), (3, .ref (a + 46 + i)), (0, .ref x), (1, .int (nI i)), (2, .int (nI j))]) hx hb dX10_bestFolds_75 hl (k := 1) rfl (by decide) (by decide) rfl (fun ls hl => ?_)
              refine lv_goto (tgt := 38) hx hb dX10_bestFolds_78 (by decide) ?_
              refine lv_iload hx hb dX10_bestFolds_38 (lv_at hl 0 rfl) ?_
              refine lv_iconst (v := 3) hx hb dX10_bestFolds_40 (by decide) ?_
              refine lv_icmp_gt (tgt := 81) hx hb dX10_bestFolds_41 (by decide) (fun c_61 => ?_) (fun c_61 => ?_)
              · skip
                exact absurd c_61 (by decide)
              · skip
                refine lv_aload hx hb dX10_bestFolds_44 (lv_at hl 4 rfl) ?_
                refine lv_aload_n hx hb dX10_bestFolds_46 rfl (lv_at hl 5 rfl) ?_
                refine fw_get (v := .int (v 9 i)) (C := RX3) (T := TX3) (N := 2) hx hb hts hin3 hown hK hR f_5 rfl 1 (by decide) (hts (.fieldLink RX10 185 "UnreadLeaflets$Cousin" "languages" "I") (by decide +kernel)) rfl dX10_bestFolds_47 ?_
                refine lv_aload_n hx hb dX10_bestFolds_50 rfl (lv_at hl 5 rfl) ?_
                refine fw_get (v := .int (v 8 i)) (C := RX3) (T := TX3) (N := 2) hx hb hts hin3 hown hK hR f_5 rfl 0 (by decide) (hts (.fieldLink RX10 180 "UnreadLeaflets$Cousin" "boast" "I") (by decide +kernel)) rfl dX10_bestFolds_51 ?_
                refine lv_iload hx hb dX10_bestFolds_54 (lv_at hl 0 rfl) ?_
                refine fw_call (va_runV (As := [.int (v 9 i), .int (v 8 i), .int 3]) (rest := []) ⟨hx, hb, hml, hown, hts⟩ (c_X5_stepsSkippedWith G hL l ω (a + 6 + 5 * j) j v (hLf j (by omega)) (stN v j) (hs j hj2).1 (hs j hj2).2 (v 9 i) (v 8 i) 3 (by omega)) (cwV 3 hts gX10_bestFolds_X5_stepsSkippedWith rfl rfl rfl (by decide +kernel) ⟨Nat.le_of_ble_eq_true rfl, Nat.le_of_ble_eq_true rfl⟩) (fw_preV hW hK hR f_6 rfl) rfl rfl hl.1 rfl (lv_room (Nat.le_of_ble_eq_true rfl)) dX10_bestFolds_56 ⟨Nat.le_of_ble_eq_true rfl, Nat.le_of_ble_eq_true rfl⟩) hS (fun v_62 ω_63 H locs hq_64 hR hS => ?_)
                obtain ⟨rfl, hq_64⟩ := hq_64
                rw [hq_64] at hR
                refine W.eq (g2 := F0 mI 59 ls [.int (skipF v j (stN v j) (v 9 i) (v 8 i) 3)]) rfl ?_
                refine fw_call (va_runS (As := [.int (skipF v j (stN v j) (v 9 i) (v 8 i) 3)]) (rest := []) ⟨hx, hb, hml, hown, hts⟩ (c_J6_bitCount_0f7a4 G hL l ω (skipF v j (stN v j) (v 9 i) (v 8 i) 3)) (va_cwS 1 hts gX10_bestFolds_J6_bitCount_0f7a4 rfl rfl rfl (by decide +kernel) ⟨Nat.le_of_ble_eq_true rfl, Nat.le_of_ble_eq_true rfl⟩) (fw_preS hW hR) rfl rfl hl.1 rfl (lv_room (Nat.le_of_ble_eq_true rfl)) dX10_bestFolds_59 ⟨Nat.le_of_ble_eq_true rfl, Nat.le_of_ble_eq_true rfl⟩) hS (fun v_65 ω_66 H locs hq_67 hR hS => ?_)
                obtain ⟨rfl, hq_67⟩ := hq_67
                rw [hq_67] at hR
                refine W.eq (g2 := F0 mI 62 ls [.int (popF (skipF v j (stN v j) (v 9 i) (v 8 i) 3))]) rfl ?_
                refine lv_istore (lv' := [(8, .int (popF (skipF v j (stN v j) (v 9 i) (v 8 i) 3))), (7, .int 3), (6, .int 1), (5, .int (popF (skipF v j (stN v j) (v 9 i) (v 8 i) 0))), (4, .ref (a + 6 + 5 * j)), (3, .ref (a + 46 + i)), (0, .ref x), (1, .int (nI i)), (2, .int (nI j))]) hx hb dX10_bestFolds_62 hl (by decide) rfl (fun ls hl => ?_)
                refine lv_iload hx hb dX10_bestFolds_64 (lv_at hl 0 rfl) ?_
                refine lv_iload hx hb dX10_bestFolds_66 (lv_at hl 3 rfl) ?_
                refine lv_icmp_gt (tgt := 75) hx hb dX10_bestFolds_68 (by decide) (fun c_68 => ?_) (fun c_68 => ?_)
                · skip
                  refine lv_iinc (v := 4) (lv' := [(7, .int 4), (8, .int (popF (skipF v j (stN v j) (v 9 i) (v 8 i) 3))), (6, .int 1), (5, .int (popF (skipF v j (stN v j) (v 9 i) (v 8 i) 0))), (4, .ref (a + 6 + 5 * j)), (3, .ref (a + 46 + i)), (0, .ref x), (1, .int (nI i)), (2, .int (nI j))]) hx hb dX10_bestFolds_75 hl (k := 1) rfl (by decide) (by decide) rfl (fun ls hl => ?_)
                  refine lv_goto (tgt := 38) hx hb dX10_bestFolds_78 (by decide) ?_
                  refine lv_iload hx hb dX10_bestFolds_38 (lv_at hl 0 rfl) ?_
                  refine lv_iconst (v := 3) hx hb dX10_bestFolds_40 (by decide) ?_
                  refine lv_icmp_gt (tgt := 81) hx hb dX10_bestFolds_41 (by decide) (fun c_69 => ?_) (fun c_69 => ?_)
                  · skip
                    refine lv_iload hx hb dX10_bestFolds_81 (lv_at hl 2 rfl) ?_
                    refine W.widen (k := 2) (n := 12) (by first | omega | decide) (by first | omega | decide) ?_
                    refine vx_ret ?_
                    have hr_70 : bfolC v (nI i) (nI j) = ((1, 0) : Int32 × Int32) := by
                      simp only [bfolC, hcc, hdd, hci, hcj]
                      rw [if_pos hc_1, if_pos hc_3, if_neg c_20, if_pos c_60, if_pos c_68]
                    exact fw_iret hx hb hr hlocks hR hS dX10_bestFolds_83 ⟨by rw [hr_70], by rw [hr_70], rfl⟩
                  · skip
                    exact absurd c_69 (by decide)
                · skip
                  refine lv_iload hx hb dX10_bestFolds_71 (lv_at hl 1 rfl) ?_
                  refine lv_istore (lv' := [(6, .int 3), (8, .int (popF (skipF v j (stN v j) (v 9 i) (v 8 i) 3))), (7, .int 3), (5, .int (popF (skipF v j (stN v j) (v 9 i) (v 8 i) 0))), (4, .ref (a + 6 + 5 * j)), (3, .ref (a + 46 + i)), (0, .ref x), (1, .int (nI i)), (2, .int (nI j))]) hx hb dX10_bestFolds_73 hl (by decide) rfl (fun ls hl => ?_)
                  refine lv_iinc (v := 4) (lv' := [(7, .int 4), (6, .int 3), (8, .int (popF (skipF v j (stN v j) (v 9 i) (v 8 i) 3))), (5, .int (popF (skipF v j (stN v j) (v 9 i) (v 8 i) 0))), (4, .ref (a + 6 + 5 * j)), (3, .ref (a + 46 + i)), (0, .ref x), (1, .int (nI i)), (2, .int (nI j))]) hx hb dX10_bestFolds_75 hl (k := 2) rfl (by decide) (by decide) rfl (fun ls hl => ?_)
                  refine lv_goto (tgt := 38) hx hb dX10_bestFolds_78 (by decide) ?_
                  refine lv_iload hx hb dX10_bestFolds_38 (lv_at hl 0 rfl) ?_
                  refine lv_iconst (v := 3) hx hb dX10_bestFolds_40 (by decide) ?_
                  refine lv_icmp_gt (tgt := 81) hx hb dX10_bestFolds_41 (by decide) (fun c_71 => ?_) (fun c_71 => ?_)
                  · skip
                    refine lv_iload hx hb dX10_bestFolds_81 (lv_at hl 1 rfl) ?_
                    refine W.widen (k := 2) (n := 12) (by first | omega | decide) (by first | omega | decide) ?_
                    refine vx_ret ?_
                    have hr_72 : bfolC v (nI i) (nI j) = ((3, 0) : Int32 × Int32) := by
                      simp only [bfolC, hcc, hdd, hci, hcj]
                      rw [if_pos hc_1, if_pos hc_3, if_neg c_20, if_pos c_60, if_neg c_68]
                    exact fw_iret hx hb hr hlocks hR hS dX10_bestFolds_83 ⟨by rw [hr_72], by rw [hr_72], rfl⟩
                  · skip
                    exact absurd c_71 (by decide)
            · skip
              refine lv_iload hx hb dX10_bestFolds_71 (lv_at hl 1 rfl) ?_
              refine lv_istore (lv' := [(6, .int 2), (8, .int (popF (skipF v j (stN v j) (v 9 i) (v 8 i) 2))), (7, .int 2), (5, .int (popF (skipF v j (stN v j) (v 9 i) (v 8 i) 0))), (4, .ref (a + 6 + 5 * j)), (3, .ref (a + 46 + i)), (0, .ref x), (1, .int (nI i)), (2, .int (nI j))]) hx hb dX10_bestFolds_73 hl (by decide) rfl (fun ls hl => ?_)
              refine lv_iinc (v := 3) (lv' := [(7, .int 3), (6, .int 2), (8, .int (popF (skipF v j (stN v j) (v 9 i) (v 8 i) 2))), (5, .int (popF (skipF v j (stN v j) (v 9 i) (v 8 i) 0))), (4, .ref (a + 6 + 5 * j)), (3, .ref (a + 46 + i)), (0, .ref x), (1, .int (nI i)), (2, .int (nI j))]) hx hb dX10_bestFolds_75 hl (k := 2) rfl (by decide) (by decide) rfl (fun ls hl => ?_)
              refine lv_goto (tgt := 38) hx hb dX10_bestFolds_78 (by decide) ?_
              refine lv_iload hx hb dX10_bestFolds_38 (lv_at hl 0 rfl) ?_
              refine lv_iconst (v := 3) hx hb dX10_bestFolds_40 (by decide) ?_
              refine lv_icmp_gt (tgt := 81) hx hb dX10_bestFolds_41 (by decide) (fun c_73 => ?_) (fun c_73 => ?_)
              · skip
                exact absurd c_73 (by decide)
              · skip
                refine lv_aload hx hb dX10_bestFolds_44 (lv_at hl 4 rfl) ?_
                refine lv_aload_n hx hb dX10_bestFolds_46 rfl (lv_at hl 5 rfl) ?_
                refine fw_get (v := .int (v 9 i)) (C := RX3) (T := TX3) (N := 2) hx hb hts hin3 hown hK hR f_5 rfl 1 (by decide) (hts (.fieldLink RX10 185 "UnreadLeaflets$Cousin" "languages" "I") (by decide +kernel)) rfl dX10_bestFolds_47 ?_
                refine lv_aload_n hx hb dX10_bestFolds_50 rfl (lv_at hl 5 rfl) ?_
                refine fw_get (v := .int (v 8 i)) (C := RX3) (T := TX3) (N := 2) hx hb hts hin3 hown hK hR f_5 rfl 0 (by decide) (hts (.fieldLink RX10 180 "UnreadLeaflets$Cousin" "boast" "I") (by decide +kernel)) rfl dX10_bestFolds_51 ?_
                refine lv_iload hx hb dX10_bestFolds_54 (lv_at hl 0 rfl) ?_
                refine fw_call (va_runV (As := [.int (v 9 i), .int (v 8 i), .int 3]) (rest := []) ⟨hx, hb, hml, hown, hts⟩ (c_X5_stepsSkippedWith G hL l ω (a + 6 + 5 * j) j v (hLf j (by omega)) (stN v j) (hs j hj2).1 (hs j hj2).2 (v 9 i) (v 8 i) 3 (by omega)) (cwV 3 hts gX10_bestFolds_X5_stepsSkippedWith rfl rfl rfl (by decide +kernel) ⟨Nat.le_of_ble_eq_true rfl, Nat.le_of_ble_eq_true rfl⟩) (fw_preV hW hK hR f_6 rfl) rfl rfl hl.1 rfl (lv_room (Nat.le_of_ble_eq_true rfl)) dX10_bestFolds_56 ⟨Nat.le_of_ble_eq_true rfl, Nat.le_of_ble_eq_true rfl⟩) hS (fun v_74 ω_75 H locs hq_76 hR hS => ?_)
                obtain ⟨rfl, hq_76⟩ := hq_76
                rw [hq_76] at hR
                refine W.eq (g2 := F0 mI 59 ls [.int (skipF v j (stN v j) (v 9 i) (v 8 i) 3)]) rfl ?_
                refine fw_call (va_runS (As := [.int (skipF v j (stN v j) (v 9 i) (v 8 i) 3)]) (rest := []) ⟨hx, hb, hml, hown, hts⟩ (c_J6_bitCount_0f7a4 G hL l ω (skipF v j (stN v j) (v 9 i) (v 8 i) 3)) (va_cwS 1 hts gX10_bestFolds_J6_bitCount_0f7a4 rfl rfl rfl (by decide +kernel) ⟨Nat.le_of_ble_eq_true rfl, Nat.le_of_ble_eq_true rfl⟩) (fw_preS hW hR) rfl rfl hl.1 rfl (lv_room (Nat.le_of_ble_eq_true rfl)) dX10_bestFolds_59 ⟨Nat.le_of_ble_eq_true rfl, Nat.le_of_ble_eq_true rfl⟩) hS (fun v_77 ω_78 H locs hq_79 hR hS => ?_)
                obtain ⟨rfl, hq_79⟩ := hq_79
                rw [hq_79] at hR
                refine W.eq (g2 := F0 mI 62 ls [.int (popF (skipF v j (stN v j) (v 9 i) (v 8 i) 3))]) rfl ?_
                refine lv_istore (lv' := [(8, .int (popF (skipF v j (stN v j) (v 9 i) (v 8 i) 3))), (7, .int 3), (6, .int 2), (5, .int (popF (skipF v j (stN v j) (v 9 i) (v 8 i) 0))), (4, .ref (a + 6 + 5 * j)), (3, .ref (a + 46 + i)), (0, .ref x), (1, .int (nI i)), (2, .int (nI j))]) hx hb dX10_bestFolds_62 hl (by decide) rfl (fun ls hl => ?_)
                refine lv_iload hx hb dX10_bestFolds_64 (lv_at hl 0 rfl) ?_
                refine lv_iload hx hb dX10_bestFolds_66 (lv_at hl 3 rfl) ?_
                refine lv_icmp_gt (tgt := 75) hx hb dX10_bestFolds_68 (by decide) (fun c_80 => ?_) (fun c_80 => ?_)
                · skip
                  refine lv_iinc (v := 4) (lv' := [(7, .int 4), (8, .int (popF (skipF v j (stN v j) (v 9 i) (v 8 i) 3))), (6, .int 2), (5, .int (popF (skipF v j (stN v j) (v 9 i) (v 8 i) 0))), (4, .ref (a + 6 + 5 * j)), (3, .ref (a + 46 + i)), (0, .ref x), (1, .int (nI i)), (2, .int (nI j))]) hx hb dX10_bestFolds_75 hl (k := 1) rfl (by decide) (by decide) rfl (fun ls hl => ?_)
                  refine lv_goto (tgt := 38) hx hb dX10_bestFolds_78 (by decide) ?_
                  refine lv_iload hx hb dX10_bestFolds_38 (lv_at hl 0 rfl) ?_
                  refine lv_iconst (v := 3) hx hb dX10_bestFolds_40 (by decide) ?_
                  refine lv_icmp_gt (tgt := 81) hx hb dX10_bestFolds_41 (by decide) (fun c_81 => ?_) (fun c_81 => ?_)
                  · skip
                    refine lv_iload hx hb dX10_bestFolds_81 (lv_at hl 2 rfl) ?_
                    refine W.widen (k := 2) (n := 12) (by first | omega | decide) (by first | omega | decide) ?_
                    refine vx_ret ?_
                    have hr_82 : bfolC v (nI i) (nI j) = ((2, 0) : Int32 × Int32) := by
                      simp only [bfolC, hcc, hdd, hci, hcj]
                      rw [if_pos hc_1, if_pos hc_3, if_neg c_20, if_neg c_60, if_pos c_80]
                    exact fw_iret hx hb hr hlocks hR hS dX10_bestFolds_83 ⟨by rw [hr_82], by rw [hr_82], rfl⟩
                  · skip
                    exact absurd c_81 (by decide)
                · skip
                  refine lv_iload hx hb dX10_bestFolds_71 (lv_at hl 1 rfl) ?_
                  refine lv_istore (lv' := [(6, .int 3), (8, .int (popF (skipF v j (stN v j) (v 9 i) (v 8 i) 3))), (7, .int 3), (5, .int (popF (skipF v j (stN v j) (v 9 i) (v 8 i) 0))), (4, .ref (a + 6 + 5 * j)), (3, .ref (a + 46 + i)), (0, .ref x), (1, .int (nI i)), (2, .int (nI j))]) hx hb dX10_bestFolds_73 hl (by decide) rfl (fun ls hl => ?_)
                  refine lv_iinc (v := 4) (lv' := [(7, .int 4), (6, .int 3), (8, .int (popF (skipF v j (stN v j) (v 9 i) (v 8 i) 3))), (5, .int (popF (skipF v j (stN v j) (v 9 i) (v 8 i) 0))), (4, .ref (a + 6 + 5 * j)), (3, .ref (a + 46 + i)), (0, .ref x), (1, .int (nI i)), (2, .int (nI j))]) hx hb dX10_bestFolds_75 hl (k := 2) rfl (by decide) (by decide) rfl (fun ls hl => ?_)
                  refine lv_goto (tgt := 38) hx hb dX10_bestFolds_78 (by decide) ?_
                  refine lv_iload hx hb dX10_bestFolds_38 (lv_at hl 0 rfl) ?_
                  refine lv_iconst (v := 3) hx hb dX10_bestFolds_40 (by decide) ?_
                  refine lv_icmp_gt (tgt := 81) hx hb dX10_bestFolds_41 (by decide) (fun c_83 => ?_) (fun c_83 => ?_)
                  · skip
                    refine lv_iload hx hb dX10_bestFolds_81 (lv_at hl 1 rfl) ?_
                    refine W.widen (k := 2) (n := 12) (by first | omega | decide) (by first | omega | decide) ?_
                    refine vx_ret ?_
                    have hr_84 : bfolC v (nI i) (nI j) = ((3, 0) : Int32 × Int32) := by
                      simp only [bfolC, hcc, hdd, hci, hcj]
                      rw [if_pos hc_1, if_pos hc_3, if_neg c_20, if_neg c_60, if_neg c_80]
                    exact fw_iret hx hb hr hlocks hR hS dX10_bestFolds_83 ⟨by rw [hr_84], by rw [hr_84], rfl⟩
                  · skip
                    exact absurd c_83 (by decide)
def canC (v : Nat → Nat → Int32) (lf : Int32) (sp : Int32) : Int32 × Int32 :=
  if inB lf 0 (v 0 0 - 1) then (if inB sp 0 (v 3 (cN lf) - 1) then (if hasB (v 7 (cN lf)) (sp) then (if (lackJ (v 1) (fun i9 => needJ v (cN lf) (1 <<< ((sp) &&& 31)) (nI i9) (stN v (cN lf))) 0 6) = (-1) then ((1, 0)) else ((0, 0))) else ((0, 0))) else ((0, 2))) else ((0, 1))
set_option maxHeartbeats 4000000 in
set_option maxRecDepth 100000 in
theorem c_X10_canFinish (G : FG) (hL : FL G) (l : Launch) (hX0 : FX0 G l) (ω : FWd) (x y a hs0 sn tx ln tt : Nat) (v : Nat → Nat → Int32) (hsn : Int32) (hXA : XA x y a hs0 sn tx ln tt) (hx0 : ω.2 x = some (.inr (12, [.ref y, .ref a, .ref (a + 51), .ref hs0, .ref sn, .int hsn, .ref tx, .ref ln, .ref tt]))) (hA : ArcS G ω.2 a v) (hW0 : WF v) (lf : Int32) (sp : Int32) : FMetX G l yX10_canFinish wsX10_canFinish ({ frames := 7, cells := 2, slots := 12, locals := 122 } : Room) [.ref x, .int lf, .int sp] ω (fun vv9 τ9 => vv9 = some (.int (canC v lf sp).1) ∧ (canC v lf sp).2 = 0 ∧ τ9 = ω) (fun E9 τ9 => XC2 "java/lang/IndexOutOfBoundsException" "java/util/NoSuchElementException" (canC v lf sp).2 E9 ∧ τ9.2 = ω.2) 2 12 := by
  refine fx_ofW (cc := cX10_canFinish) (maxL := 4) (ret := (some .boolean)) (by decide) rfl (Nat.le_of_ble_eq_true rfl) ?_
  intro pP eE sS mI ar9 bl9 meth cD ls hx hb hr hlocks hml hts hown hnm hW hR ht9 hl
  have hK := hL.K hW
  have hR0 := hR
  have hS : va_S (fwA G) sS.heap sS.heap [] := va_S.rf
  have hin0 : ∀ w ∈ u_ws RX0 TX0 9, w ∈ wsX10_canFinish := by decide +kernel
  have hin10 : ∀ w ∈ u_ws RX10 TX10 9, w ∈ wsX10_canFinish := by decide +kernel
  have hl : lv_has ls 4 [(0, .ref x), (1, .int lf), (2, .int sp)] := hl
  obtain ⟨h0, h1, h2, h3, h4, h5, hLf, hCo⟩ := id hA
  obtain ⟨hxy, hxa, hxh, hxs, hxt, hxl, hxu⟩ := id hXA
  obtain ⟨c, hc8, hc, hcc⟩ := okN_of hW0.1
  obtain ⟨cc, hd5, hd, hdd⟩ := okN_of hW0.2.1
  have hs : ∀ j, j < c → v 3 j = nI (stN v j) ∧ stN v j ≤ 8 := fun j hj => (hW0.2.2 j (by rw [hcc]; exact hj)).1
  have hfo : ∀ j, j < c → v 4 j = nI (cN (v 4 j)) ∧ cN (v 4 j) ≤ 3 := fun j hj => (hW0.2.2 j (by rw [hcc]; exact hj)).2
  refine lv_aload_n hx hb dX10_canFinish_0 rfl (lv_at hl 0 rfl) ?_
  refine lv_iload_n hx hb dX10_canFinish_1 rfl (lv_at hl 1 rfl) ?_
  refine fx_call (vx_runV (As := [.int lf]) (rest := []) ⟨hx, hb, hml, hown, hts⟩ (c_X10_leafletAt G hL l hX0 ω x y a hs0 sn tx ln tt v hsn hXA hx0 hA hW0 lf) (cwV 1 hts gX10_canFinish_X10_leafletAt rfl rfl rfl (by decide +kernel) ⟨Nat.le_of_ble_eq_true rfl, Nat.le_of_ble_eq_true rfl⟩) (fw_preV hW hK hR hx0 rfl) rfl rfl hl.1 rfl (lv_room (Nat.le_of_ble_eq_true rfl)) dX10_canFinish_2 ⟨Nat.le_of_ble_eq_true rfl, Nat.le_of_ble_eq_true rfl⟩) hS (fun E_1 ce_1 q_1 τ_1 H locs hx_1 hR hS hce_1 hcv_1 hcl_1 => ?_) (fun v_1 ω_1 H locs hq_1 hR hS => ?_)
  · skip
    obtain ⟨rfl, hc_1, hw_1⟩ := hx_1
    have hr_2 : canC v lf sp = ((0, 1) : Int32 × Int32) := by
      simp only [canC, hcc, hdd]
      rw [if_neg hc_1]
    exact fx_out ht9 hlocks ⟨by rw [hr_2]; exact Or.inl ⟨rfl, rfl⟩, hw_1⟩ hR hS hce_1 hcv_1 hcl_1 (by first | omega | decide) (by first | omega | decide)
  · skip
    refine W.widen (k := 1) (n := 6) (by first | omega | decide) (by first | omega | decide) ?_
    obtain ⟨hc_1, rfl, hw_1⟩ := hq_1
    rw [hw_1] at hR
    obtain ⟨j, hj2, rfl⟩ := in_c hc hc8 hc_1
    have hcj : cN (nI j) = j := cN_nI (by omega)
    refine W.eq (g2 := F0 mI 5 ls [.ref (a + 6 + 5 * j)]) (by rw [hcj]; rfl) ?_
    refine lv_astore_n (lv' := [(3, .ref (a + 6 + 5 * j)), (0, .ref x), (1, .int (nI j)), (2, .int sp)]) hx hb dX10_canFinish_5 rfl hl (by decide) rfl (fun ls hl => ?_)
    refine lv_aload_n hx hb dX10_canFinish_6 rfl (lv_at hl 1 rfl) ?_
    refine lv_aload_n hx hb dX10_canFinish_7 rfl (lv_at hl 0 rfl) ?_
    refine lv_iload_n hx hb dX10_canFinish_8 rfl (lv_at hl 3 rfl) ?_
    refine fx_call (vx_runV (As := [.ref (a + 6 + 5 * j), .int sp]) (rest := []) ⟨hx, hb, hml, hown, hts⟩ (c_X10_requireStep G hL l hX0 ω x (a + 6 + 5 * j) j v (hLf j (by omega)) sp) (cwV 2 hts gX10_canFinish_X10_requireStep rfl rfl rfl (by decide +kernel) ⟨Nat.le_of_ble_eq_true rfl, Nat.le_of_ble_eq_true rfl⟩) (fw_preV hW hK hR hx0 rfl) rfl rfl hl.1 rfl (lv_room (Nat.le_of_ble_eq_true rfl)) dX10_canFinish_9 ⟨Nat.le_of_ble_eq_true rfl, Nat.le_of_ble_eq_true rfl⟩) hS (fun E_3 ce_3 q_3 τ_3 H locs hx_3 hR hS hce_3 hcv_3 hcl_3 => ?_) (fun v_3 ω_3 H locs hq_3 hR hS => ?_)
    · skip
      obtain ⟨rfl, hc_3, hw_3⟩ := hx_3
      have hr_4 : canC v (nI j) sp = ((0, 2) : Int32 × Int32) := by
        simp only [canC, hcc, hdd, hcj]
        rw [if_pos hc_1, if_neg hc_3]
      exact fx_out ht9 hlocks ⟨by rw [hr_4]; exact Or.inr (⟨rfl, rfl⟩), hw_3⟩ hR hS hce_3 hcv_3 hcl_3 (by first | omega | decide) (by first | omega | decide)
    · skip
      refine W.widen (k := 2) (n := 12) (by first | omega | decide) (by first | omega | decide) ?_
      obtain ⟨hc_3, rfl, hw_3⟩ := hq_3
      rw [hw_3] at hR
      obtain ⟨q, hq2, rfl⟩ := in_c (hs j hj2).1 (hs j hj2).2 hc_3
      have hq8 : q < 8 := Nat.lt_of_lt_of_le hq2 (hs j hj2).2
      have hcq : cN (nI q) = q := cN_nI (by omega)
      refine W.eq (g2 := F0 mI 12 ls []) rfl ?_
      refine lv_aload_n hx hb dX10_canFinish_12 rfl (lv_at hl 0 rfl) ?_
      refine lv_iload_n hx hb dX10_canFinish_13 rfl (lv_at hl 3 rfl) ?_
      have f_5 : ω.2 (a + 6 + 5 * j) = some (.inr (7, [.int (v 3 j), .int (v 4 j), .int (v 5 j), .int (v 6 j - 1), .int (v 7 j), .ref (a + 6 + 5 * j + 1), .ref (a + 6 + 5 * j + 2), .ref (a + 6 + 5 * j + 3), .ref (a + 6 + 5 * j + 4)])) := (hLf j (by omega)).1
      refine fw_call (va_runV (As := [.int (nI q)]) (rest := []) ⟨hx, hb, hml, hown, hts⟩ (c_X5_isSkipped G hL l ω (a + 6 + 5 * j) j v (hLf j (by omega))  (nI q)) (cwV 1 hts gX10_canFinish_X5_isSkipped rfl rfl rfl (by decide +kernel) ⟨Nat.le_of_ble_eq_true rfl, Nat.le_of_ble_eq_true rfl⟩) (fw_preV hW hK hR f_5 rfl) rfl rfl hl.1 rfl (lv_room (Nat.le_of_ble_eq_true rfl)) dX10_canFinish_14 ⟨Nat.le_of_ble_eq_true rfl, Nat.le_of_ble_eq_true rfl⟩) hS (fun v_6 ω_7 H locs hq_8 hR hS => ?_)
      obtain ⟨rfl, hq_8⟩ := hq_8
      rw [hq_8] at hR
      refine W.eq (g2 := F0 mI 17 ls [.int (bz (hasB (v 7 j) (nI q)))]) rfl ?_
      refine lv_if_eq (tgt := 42) hx hb dX10_canFinish_17 (by decide) (fun c_9 => ?_) (fun c_9 => ?_)
      · skip
        have c_9 := bz_eq c_9
        refine lv_iconst (v := 0) hx hb dX10_canFinish_42 (by decide) ?_
        refine W.widen (k := 2) (n := 12) (by first | omega | decide) (by first | omega | decide) ?_
        refine vx_ret ?_
        have hr_10 : canC v (nI j) (nI q) = ((0, 0) : Int32 × Int32) := by
          simp only [canC, hcc, hdd, hcj, hcq]
          rw [if_pos hc_1, if_pos hc_3, if_neg c_9]
        exact fw_zret hx hb hr rfl hlocks hR hS dX10_canFinish_43 ⟨by rw [hr_10], by rw [hr_10], rfl⟩
      · skip
        have c_9 := bz_ne c_9
        refine lv_aload_n hx hb dX10_canFinish_20 rfl (lv_at hl 1 rfl) ?_
        refine fw_get (v := .ref a) (C := RX10) (T := TX10) (N := 9) hx hb hts hin10 hown hK hR hx0 rfl 1 (by decide) (hts (.fieldLink RX10 20 "UnreadLeaflets" "archive" "LUnreadLeaflets$Archive;") (by decide +kernel)) rfl dX10_canFinish_21 ?_
        refine fw_get (v := .ref (a + 3)) (C := RX0) (T := TX0) (N := 9) hx hb hts hin0 hown hK hR h0 rfl 4 (by decide) (hts (.fieldLink RX10 273 "UnreadLeaflets$Archive" "tin" "LUnreadLeaflets$Tin;") (by decide +kernel)) rfl dX10_canFinish_24 ?_
        refine lv_aload_n hx hb dX10_canFinish_27 rfl (lv_at hl 0 rfl) ?_
        refine lv_iconst (v := 1) hx hb dX10_canFinish_28 (by decide) ?_
        refine lv_iload_n hx hb dX10_canFinish_29 rfl (lv_at hl 3 rfl) ?_
        refine lv_ishl hx hb dX10_canFinish_30 ?_
        refine fw_call (va_runV (As := [.ref (a + 6 + 5 * j), .int (1 <<< ((nI q) &&& 31))]) (rest := []) ⟨hx, hb, hml, hown, hts⟩ (c_X9_kindLacking G hL l ω (a + 3) (v 1) (v 2) (⟨h3, h4, h5⟩) (a + 6 + 5 * j) j v (hLf j (by omega)) (stN v j) (hs j hj2).1 (hs j hj2).2 (1 <<< ((nI q) &&& 31))) (cwV 2 hts gX10_canFinish_X9_kindLacking rfl rfl rfl (by decide +kernel) ⟨Nat.le_of_ble_eq_true rfl, Nat.le_of_ble_eq_true rfl⟩) (fw_preV hW hK hR h3 rfl) rfl rfl hl.1 rfl (lv_room (Nat.le_of_ble_eq_true rfl)) dX10_canFinish_31 ⟨Nat.le_of_ble_eq_true rfl, Nat.le_of_ble_eq_true rfl⟩) hS (fun v_11 ω_12 H locs hq_13 hR hS => ?_)
        obtain ⟨rfl, hq_13⟩ := hq_13
        rw [hq_13] at hR
        refine W.eq (g2 := F0 mI 34 ls [.int (lackJ (v 1) (fun i9 => needJ v j (1 <<< ((nI q) &&& 31)) (nI i9) (stN v j)) 0 6)]) rfl ?_
        refine lv_iconst (v := (-1)) hx hb dX10_canFinish_34 (by decide) ?_
        refine lv_icmp_ne (tgt := 42) hx hb dX10_canFinish_35 (by decide) (fun c_14 => ?_) (fun c_14 => ?_)
        · skip
          refine lv_iconst (v := 0) hx hb dX10_canFinish_42 (by decide) ?_
          refine W.widen (k := 2) (n := 12) (by first | omega | decide) (by first | omega | decide) ?_
          refine vx_ret ?_
          have hr_15 : canC v (nI j) (nI q) = ((0, 0) : Int32 × Int32) := by
            simp only [canC, hcc, hdd, hcj, hcq]
            rw [if_pos hc_1, if_pos hc_3, if_pos c_9, if_neg c_14]
          exact fw_zret hx hb hr rfl hlocks hR hS dX10_canFinish_43 ⟨by rw [hr_15], by rw [hr_15], rfl⟩
        · skip
          refine lv_iconst (v := 1) hx hb dX10_canFinish_38 (by decide) ?_
          refine lv_goto (tgt := 43) hx hb dX10_canFinish_39 (by decide) ?_
          refine W.widen (k := 2) (n := 12) (by first | omega | decide) (by first | omega | decide) ?_
          refine vx_ret ?_
          have hr_16 : canC v (nI j) (nI q) = ((1, 0) : Int32 × Int32) := by
            simp only [canC, hcc, hdd, hcj, hcq]
            rw [if_pos hc_1, if_pos hc_3, if_pos c_9, if_pos c_14]
          exact fw_zret hx hb hr rfl hlocks hR hS dX10_canFinish_43 ⟨by rw [hr_16], by rw [hr_16], rfl⟩
def tinC (v : Nat → Nat → Int32) (kd : Int32) : Int32 × Int32 :=
  if inB kd 0 5 then (((v 1) (cN kd), 0)) else ((0, 1))
set_option maxHeartbeats 4000000 in
set_option maxRecDepth 100000 in
theorem c_X10_tin (G : FG) (hL : FL G) (l : Launch) (hX0 : FX0 G l) (ω : FWd) (x y a hs0 sn tx ln tt : Nat) (v : Nat → Nat → Int32) (hsn : Int32) (hXA : XA x y a hs0 sn tx ln tt) (hx0 : ω.2 x = some (.inr (12, [.ref y, .ref a, .ref (a + 51), .ref hs0, .ref sn, .int hsn, .ref tx, .ref ln, .ref tt]))) (hA : ArcS G ω.2 a v) (hW0 : WF v) (kd : Int32) : FMetX G l yX10_tin wsX10_tin ({ frames := 7, cells := 1, slots := 6, locals := 121 } : Room) [.ref x, .int kd] ω (fun vv9 τ9 => vv9 = some (.int (tinC v kd).1) ∧ (tinC v kd).2 = 0 ∧ τ9 = ω) (fun E9 τ9 => XC1 "java/lang/IllegalArgumentException" (tinC v kd).2 E9 ∧ τ9.2 = ω.2) 1 6 := by
  refine fx_ofW (cc := cX10_tin) (maxL := 2) (ret := (some .int)) (by decide) rfl (Nat.le_of_ble_eq_true rfl) ?_
  intro pP eE sS mI ar9 bl9 meth cD ls hx hb hr hlocks hml hts hown hnm hW hR ht9 hl
  have hK := hL.K hW
  have hR0 := hR
  have hS : va_S (fwA G) sS.heap sS.heap [] := va_S.rf
  have hin0 : ∀ w ∈ u_ws RX0 TX0 9, w ∈ wsX10_tin := by decide +kernel
  have hin9 : ∀ w ∈ u_ws RX9 TX9 2, w ∈ wsX10_tin := by decide +kernel
  have hin10 : ∀ w ∈ u_ws RX10 TX10 9, w ∈ wsX10_tin := by decide +kernel
  have hl : lv_has ls 2 [(0, .ref x), (1, .int kd)] := hl
  obtain ⟨h0, h1, h2, h3, h4, h5, hLf, hCo⟩ := id hA
  obtain ⟨hxy, hxa, hxh, hxs, hxt, hxl, hxu⟩ := id hXA
  obtain ⟨c, hc8, hc, hcc⟩ := okN_of hW0.1
  obtain ⟨cc, hd5, hd, hdd⟩ := okN_of hW0.2.1
  have hs : ∀ j, j < c → v 3 j = nI (stN v j) ∧ stN v j ≤ 8 := fun j hj => (hW0.2.2 j (by rw [hcc]; exact hj)).1
  have hfo : ∀ j, j < c → v 4 j = nI (cN (v 4 j)) ∧ cN (v 4 j) ≤ 3 := fun j hj => (hW0.2.2 j (by rw [hcc]; exact hj)).2
  refine lv_aload_n hx hb dX10_tin_0 rfl (lv_at hl 0 rfl) ?_
  refine lv_iload_n hx hb dX10_tin_1 rfl (lv_at hl 1 rfl) ?_
  refine fx_call (vx_runV (As := [.int kd]) (rest := []) ⟨hx, hb, hml, hown, hts⟩ (c_X10_requireKind G hL l hX0 ω x kd) (cwV 1 hts gX10_tin_X10_requireKind rfl rfl rfl (by decide +kernel) ⟨Nat.le_of_ble_eq_true rfl, Nat.le_of_ble_eq_true rfl⟩) (fw_preV hW hK hR hx0 rfl) rfl rfl hl.1 rfl (lv_room (Nat.le_of_ble_eq_true rfl)) dX10_tin_2 ⟨Nat.le_of_ble_eq_true rfl, Nat.le_of_ble_eq_true rfl⟩) hS (fun E_1 ce_1 q_1 τ_1 H locs hx_1 hR hS hce_1 hcv_1 hcl_1 => ?_) (fun v_1 ω_1 H locs hq_1 hR hS => ?_)
  · skip
    obtain ⟨rfl, hc_1, hw_1⟩ := hx_1
    have hr_2 : tinC v kd = ((0, 1) : Int32 × Int32) := by
      simp only [tinC, hcc, hdd]
      rw [if_neg hc_1]
    exact fx_out ht9 hlocks ⟨by rw [hr_2]; exact ⟨rfl, rfl⟩, hw_1⟩ hR hS hce_1 hcv_1 hcl_1 (by first | omega | decide) (by first | omega | decide)
  · skip
    refine W.widen (k := 1) (n := 6) (by first | omega | decide) (by first | omega | decide) ?_
    obtain ⟨hc_1, rfl, hw_1⟩ := hq_1
    rw [hw_1] at hR
    obtain ⟨ki, hki5, rfl⟩ := in_n (n := 5) (by decide) hc_1
    have hcki : cN (nI ki) = ki := cN_nI (by omega)
    refine W.eq (g2 := F0 mI 5 ls []) rfl ?_
    refine lv_aload_n hx hb dX10_tin_5 rfl (lv_at hl 0 rfl) ?_
    refine fw_get (v := .ref a) (C := RX10) (T := TX10) (N := 9) hx hb hts hin10 hown hK hR hx0 rfl 1 (by decide) (hts (.fieldLink RX10 20 "UnreadLeaflets" "archive" "LUnreadLeaflets$Archive;") (by decide +kernel)) rfl dX10_tin_6 ?_
    refine fw_get (v := .ref (a + 3)) (C := RX0) (T := TX0) (N := 9) hx hb hts hin0 hown hK hR h0 rfl 4 (by decide) (hts (.fieldLink RX10 273 "UnreadLeaflets$Archive" "tin" "LUnreadLeaflets$Tin;") (by decide +kernel)) rfl dX10_tin_9 ?_
    refine fw_get (v := .ref (a + 4)) (C := RX9) (T := TX9) (N := 2) hx hb hts hin9 hown hK hR h3 rfl 0 (by decide) (hts (.fieldLink RX10 287 "UnreadLeaflets$Tin" "inside" "[I") (by decide +kernel)) rfl dX10_tin_12 ?_
    refine lv_iload_n hx hb dX10_tin_15 rfl (lv_at hl 1 rfl) ?_
    refine fw_iald hx hb hK hR h4 (vp_in_nI (by omega) (by omega)) dX10_tin_16 ?_
    refine W.eq (g2 := F0 mI 17 ls [.int ((v 1) ki)]) (by rw [nI_clamp (by omega)]) ?_
    refine W.widen (k := 1) (n := 6) (by first | omega | decide) (by first | omega | decide) ?_
    refine vx_ret ?_
    have hr_3 : tinC v (nI ki) = (((v 1) ki, 0) : Int32 × Int32) := by
      simp only [tinC, hcc, hdd, hcki]
      rw [if_pos hc_1]
    exact fw_iret hx hb hr hlocks hR hS dX10_tin_17 ⟨by rw [hr_3], by rw [hr_3], rfl⟩
def lostC (v : Nat → Nat → Int32) (kd : Int32) : Int32 × Int32 :=
  if inB kd 0 5 then (((v 2) (cN kd), 0)) else ((0, 1))
set_option maxHeartbeats 4000000 in
set_option maxRecDepth 100000 in
theorem c_X10_lost (G : FG) (hL : FL G) (l : Launch) (hX0 : FX0 G l) (ω : FWd) (x y a hs0 sn tx ln tt : Nat) (v : Nat → Nat → Int32) (hsn : Int32) (hXA : XA x y a hs0 sn tx ln tt) (hx0 : ω.2 x = some (.inr (12, [.ref y, .ref a, .ref (a + 51), .ref hs0, .ref sn, .int hsn, .ref tx, .ref ln, .ref tt]))) (hA : ArcS G ω.2 a v) (hW0 : WF v) (kd : Int32) : FMetX G l yX10_lost wsX10_lost ({ frames := 7, cells := 1, slots := 6, locals := 121 } : Room) [.ref x, .int kd] ω (fun vv9 τ9 => vv9 = some (.int (lostC v kd).1) ∧ (lostC v kd).2 = 0 ∧ τ9 = ω) (fun E9 τ9 => XC1 "java/lang/IllegalArgumentException" (lostC v kd).2 E9 ∧ τ9.2 = ω.2) 1 6 := by
  refine fx_ofW (cc := cX10_lost) (maxL := 2) (ret := (some .int)) (by decide) rfl (Nat.le_of_ble_eq_true rfl) ?_
  intro pP eE sS mI ar9 bl9 meth cD ls hx hb hr hlocks hml hts hown hnm hW hR ht9 hl
  have hK := hL.K hW
  have hR0 := hR
  have hS : va_S (fwA G) sS.heap sS.heap [] := va_S.rf
  have hin0 : ∀ w ∈ u_ws RX0 TX0 9, w ∈ wsX10_lost := by decide +kernel
  have hin9 : ∀ w ∈ u_ws RX9 TX9 2, w ∈ wsX10_lost := by decide +kernel
  have hin10 : ∀ w ∈ u_ws RX10 TX10 9, w ∈ wsX10_lost := by decide +kernel
  have hl : lv_has ls 2 [(0, .ref x), (1, .int kd)] := hl
  obtain ⟨h0, h1, h2, h3, h4, h5, hLf, hCo⟩ := id hA
  obtain ⟨hxy, hxa, hxh, hxs, hxt, hxl, hxu⟩ := id hXA
  obtain ⟨c, hc8, hc, hcc⟩ := okN_of hW0.1
  obtain ⟨cc, hd5, hd, hdd⟩ := okN_of hW0.2.1
  have hs : ∀ j, j < c → v 3 j = nI (stN v j) ∧ stN v j ≤ 8 := fun j hj => (hW0.2.2 j (by rw [hcc]; exact hj)).1
  have hfo : ∀ j, j < c → v 4 j = nI (cN (v 4 j)) ∧ cN (v 4 j) ≤ 3 := fun j hj => (hW0.2.2 j (by rw [hcc]; exact hj)).2
  refine lv_aload_n hx hb dX10_lost_0 rfl (lv_at hl 0 rfl) ?_
  refine lv_iload_n hx hb dX10_lost_1 rfl (lv_at hl 1 rfl) ?_
  refine fx_call (vx_runV (As := [.int kd]) (rest := []) ⟨hx, hb, hml, hown, hts⟩ (c_X10_requireKind G hL l hX0 ω x kd) (cwV 1 hts gX10_lost_X10_requireKind rfl rfl rfl (by decide +kernel) ⟨Nat.le_of_ble_eq_true rfl, Nat.le_of_ble_eq_true rfl⟩) (fw_preV hW hK hR hx0 rfl) rfl rfl hl.1 rfl (lv_room (Nat.le_of_ble_eq_true rfl)) dX10_lost_2 ⟨Nat.le_of_ble_eq_true rfl, Nat.le_of_ble_eq_true rfl⟩) hS (fun E_1 ce_1 q_1 τ_1 H locs hx_1 hR hS hce_1 hcv_1 hcl_1 => ?_) (fun v_1 ω_1 H locs hq_1 hR hS => ?_)
  · skip
    obtain ⟨rfl, hc_1, hw_1⟩ := hx_1
    have hr_2 : lostC v kd = ((0, 1) : Int32 × Int32) := by
      simp only [lostC, hcc, hdd]
      rw [if_neg hc_1]
    exact fx_out ht9 hlocks ⟨by rw [hr_2]; exact ⟨rfl, rfl⟩, hw_1⟩ hR hS hce_1 hcv_1 hcl_1 (by first | omega | decide) (by first | omega | decide)
  · skip
    refine W.widen (k := 1) (n := 6) (by first | omega | decide) (by first | omega | decide) ?_
    obtain ⟨hc_1, rfl, hw_1⟩ := hq_1
    rw [hw_1] at hR
    obtain ⟨ki, hki5, rfl⟩ := in_n (n := 5) (by decide) hc_1
    have hcki : cN (nI ki) = ki := cN_nI (by omega)
    refine W.eq (g2 := F0 mI 5 ls []) rfl ?_
    refine lv_aload_n hx hb dX10_lost_5 rfl (lv_at hl 0 rfl) ?_
    refine fw_get (v := .ref a) (C := RX10) (T := TX10) (N := 9) hx hb hts hin10 hown hK hR hx0 rfl 1 (by decide) (hts (.fieldLink RX10 20 "UnreadLeaflets" "archive" "LUnreadLeaflets$Archive;") (by decide +kernel)) rfl dX10_lost_6 ?_
    refine fw_get (v := .ref (a + 3)) (C := RX0) (T := TX0) (N := 9) hx hb hts hin0 hown hK hR h0 rfl 4 (by decide) (hts (.fieldLink RX10 273 "UnreadLeaflets$Archive" "tin" "LUnreadLeaflets$Tin;") (by decide +kernel)) rfl dX10_lost_9 ?_
    refine fw_get (v := .ref (a + 5)) (C := RX9) (T := TX9) (N := 2) hx hb hts hin9 hown hK hR h3 rfl 1 (by decide) (hts (.fieldLink RX10 290 "UnreadLeaflets$Tin" "lost" "[I") (by decide +kernel)) rfl dX10_lost_12 ?_
    refine lv_iload_n hx hb dX10_lost_15 rfl (lv_at hl 1 rfl) ?_
    refine fw_iald hx hb hK hR h5 (vp_in_nI (by omega) (by omega)) dX10_lost_16 ?_
    refine W.eq (g2 := F0 mI 17 ls [.int ((v 2) ki)]) (by rw [nI_clamp (by omega)]) ?_
    refine W.widen (k := 1) (n := 6) (by first | omega | decide) (by first | omega | decide) ?_
    refine vx_ret ?_
    have hr_3 : lostC v (nI ki) = (((v 2) ki, 0) : Int32 × Int32) := by
      simp only [lostC, hcc, hdd, hcki]
      rw [if_pos hc_1]
    exact fw_iret hx hb hr hlocks hR hS dX10_lost_17 ⟨by rw [hr_3], by rw [hr_3], rfl⟩
def shelfC (v : Nat → Nat → Int32) (sh : Int32) : Int32 × Int32 :=
  if inB sh 0 3 then ((onJ v sh (cN (v 0 0)), 0)) else ((0, 1))
set_option maxHeartbeats 4000000 in
set_option maxRecDepth 100000 in
theorem c_X10_shelfOf (G : FG) (hL : FL G) (l : Launch) (hX0 : FX0 G l) (ω : FWd) (x y a hs0 sn tx ln tt : Nat) (v : Nat → Nat → Int32) (hsn : Int32) (hXA : XA x y a hs0 sn tx ln tt) (hx0 : ω.2 x = some (.inr (12, [.ref y, .ref a, .ref (a + 51), .ref hs0, .ref sn, .int hsn, .ref tx, .ref ln, .ref tt]))) (hA : ArcS G ω.2 a v) (hW0 : WF v) (sh : Int32) : FMetX G l yX10_shelfOf wsX10_shelfOf ({ frames := 6, cells := 1, slots := 6, locals := 100 } : Room) [.ref x, .int sh] ω (fun vv9 τ9 => vv9 = some (.int (shelfC v sh).1) ∧ (shelfC v sh).2 = 0 ∧ τ9 = ω) (fun E9 τ9 => XC1 "java/lang/IllegalArgumentException" (shelfC v sh).2 E9 ∧ τ9.2 = ω.2) 1 6 := by
  refine fx_ofW (cc := cX10_shelfOf) (maxL := 2) (ret := (some .int)) (by decide) rfl (Nat.le_of_ble_eq_true rfl) ?_
  intro pP eE sS mI ar9 bl9 meth cD ls hx hb hr hlocks hml hts hown hnm hW hR ht9 hl
  have hK := hL.K hW
  have hR0 := hR
  have hS : va_S (fwA G) sS.heap sS.heap [] := va_S.rf
  have hin10 : ∀ w ∈ u_ws RX10 TX10 9, w ∈ wsX10_shelfOf := by decide +kernel
  have hl : lv_has ls 2 [(0, .ref x), (1, .int sh)] := hl
  obtain ⟨h0, h1, h2, h3, h4, h5, hLf, hCo⟩ := id hA
  obtain ⟨hxy, hxa, hxh, hxs, hxt, hxl, hxu⟩ := id hXA
  obtain ⟨c, hc8, hc, hcc⟩ := okN_of hW0.1
  obtain ⟨cc, hd5, hd, hdd⟩ := okN_of hW0.2.1
  have hs : ∀ j, j < c → v 3 j = nI (stN v j) ∧ stN v j ≤ 8 := fun j hj => (hW0.2.2 j (by rw [hcc]; exact hj)).1
  have hfo : ∀ j, j < c → v 4 j = nI (cN (v 4 j)) ∧ cN (v 4 j) ≤ 3 := fun j hj => (hW0.2.2 j (by rw [hcc]; exact hj)).2
  refine lv_iload_n hx hb dX10_shelfOf_0 rfl (lv_at hl 1 rfl) ?_
  refine fw_call (va_runS (As := [.int sh]) (rest := []) ⟨hx, hb, hml, hown, hts⟩ (c_X10_isShelf G hL l ω sh) (va_cwS 1 hts gX10_shelfOf_X10_isShelf rfl rfl rfl (by decide +kernel) ⟨Nat.le_of_ble_eq_true rfl, Nat.le_of_ble_eq_true rfl⟩) (fw_preS hW hR) rfl rfl hl.1 rfl (lv_room (Nat.le_of_ble_eq_true rfl)) dX10_shelfOf_1 ⟨Nat.le_of_ble_eq_true rfl, Nat.le_of_ble_eq_true rfl⟩) hS (fun v_1 ω_2 H locs hq_3 hR hS => ?_)
  obtain ⟨rfl, hq_3⟩ := hq_3
  rw [hq_3] at hR
  refine W.eq (g2 := F0 mI 4 ls [.int (bz (inB sh 0 3))]) rfl ?_
  refine lv_if_ne (tgt := 18) hx hb dX10_shelfOf_4 (by decide) (fun c_4 => ?_) (fun c_4 => ?_)
  · skip
    have c_4 := bz_ne c_4
    refine lv_aload_n hx hb dX10_shelfOf_18 rfl (lv_at hl 0 rfl) ?_
    refine fw_get (v := .ref a) (C := RX10) (T := TX10) (N := 9) hx hb hts hin10 hown hK hR hx0 rfl 1 (by decide) (hts (.fieldLink RX10 20 "UnreadLeaflets" "archive" "LUnreadLeaflets$Archive;") (by decide +kernel)) rfl dX10_shelfOf_19 ?_
    refine lv_iload_n hx hb dX10_shelfOf_22 rfl (lv_at hl 1 rfl) ?_
    refine fw_call (va_runV (As := [.int sh]) (rest := []) ⟨hx, hb, hml, hown, hts⟩ (c_X0_leafletsOn G hL l ω a v hA c hc hc8 sh ) (cwV 1 hts gX10_shelfOf_X0_leafletsOn rfl rfl rfl (by decide +kernel) ⟨Nat.le_of_ble_eq_true rfl, Nat.le_of_ble_eq_true rfl⟩) (fw_preV hW hK hR h0 rfl) rfl rfl hl.1 rfl (lv_room (Nat.le_of_ble_eq_true rfl)) dX10_shelfOf_23 ⟨Nat.le_of_ble_eq_true rfl, Nat.le_of_ble_eq_true rfl⟩) hS (fun v_5 ω_6 H locs hq_7 hR hS => ?_)
    obtain ⟨rfl, hq_7⟩ := hq_7
    rw [hq_7] at hR
    refine W.eq (g2 := F0 mI 26 ls [.int (onJ v sh c)]) rfl ?_
    refine W.widen (k := 1) (n := 6) (by first | omega | decide) (by first | omega | decide) ?_
    refine vx_ret ?_
    have hr_8 : shelfC v sh = ((onJ v sh c, 0) : Int32 × Int32) := by
      simp only [shelfC, hcc, hdd]
      rw [if_pos c_4]
    exact fw_iret hx hb hr hlocks hR hS dX10_shelfOf_26 ⟨by rw [hr_8], by rw [hr_8], rfl⟩
  · skip
    have c_4 := bz_eq c_4
    have hr_9 : shelfC v sh = ((0, 1) : Int32 × Int32) := by
      simp only [shelfC, hcc, hdd]
      rw [if_neg c_4]
    exact fx_throwW (ω := ω) (τ := ω) (cls := "java/lang/IllegalArgumentException") (text := "no such shelf") (ws := wsX10_shelfOf) hx hb hX0 hW hts hown (by decide) (by decide) (by decide +kernel) (by decide +kernel) (by decide) (fun w9 h9 => List.mem_cons_of_mem _ (List.mem_append_right _ h9)) xn_152 xg_152 hR0 hR hS (hl.1.trans hml.symm) dX10_shelfOf_7 dX10_shelfOf_10 dX10_shelfOf_11 dX10_shelfOf_14 dX10_shelfOf_17 ht9 (by decide) (Nat.le_of_ble_eq_true rfl) (Nat.le_of_ble_eq_true rfl) (Nat.le_of_ble_eq_true rfl) hlocks (fun n9 => ⟨by rw [hr_9]; exact ⟨rfl, rfl⟩, rfl⟩) (Nat.le_of_ble_eq_true rfl) (Nat.le_of_ble_eq_true rfl)
def keyC (v : Nat → Nat → Int32) (j : Nat) (ms : Int32) : Int32 := if ms = 0 then (v 3 j) else (if ms = 1 then (v 4 j) else (if ms = 2 then (partsJ v j (1 <<< (v 3 j &&& 31) - 1) (stN v j)) else (popF (v 7 j))))
set_option maxHeartbeats 4000000 in
set_option maxRecDepth 100000 in
theorem c_X10_measured (G : FG) (hL : FL G) (l : Launch) (ω : FWd) (x y a hs0 sn tx ln tt : Nat) (v : Nat → Nat → Int32) (hsn : Int32) (hXA : XA x y a hs0 sn tx ln tt) (hx0 : ω.2 x = some (.inr (12, [.ref y, .ref a, .ref (a + 51), .ref hs0, .ref sn, .int hsn, .ref tx, .ref ln, .ref tt]))) (hA : ArcS G ω.2 a v) (hW0 : WF v) (j : Nat) (hpj : j < cN (v 0 0)) (ms : Int32) : FMet G l yX10_measured wsX10_measured ({ frames := 2, cells := 0, slots := 0, locals := 44 } : Room) [.ref x, .int (nI j), .int ms] ω (rI (keyC v j ms) ω) 0 0 := by
  refine fw_ofW (cc := cX10_measured) (maxL := 4) (ret := (some .int)) (by decide) rfl (Nat.le_of_ble_eq_true rfl) ?_
  intro pP eE sS mI ar9 bl9 meth cD ls hx hb hr hlocks hml hts hown hnm hW hR hl
  have hK := hL.K hW
  have hS : va_S (fwA G) sS.heap sS.heap [] := va_S.rf
  have hin0 : ∀ w ∈ u_ws RX0 TX0 9, w ∈ wsX10_measured := by decide +kernel
  have hin5 : ∀ w ∈ u_ws RX5 TX5 9, w ∈ wsX10_measured := by decide +kernel
  have hin10 : ∀ w ∈ u_ws RX10 TX10 9, w ∈ wsX10_measured := by decide +kernel
  have hl : lv_has ls 4 [(0, .ref x), (1, .int (nI j)), (2, .int ms)] := hl
  obtain ⟨h0, h1, h2, h3, h4, h5, hLf, hCo⟩ := id hA
  obtain ⟨hxy, hxa, hxh, hxs, hxt, hxl, hxu⟩ := id hXA
  obtain ⟨c, hc8, hc, hcc⟩ := okN_of hW0.1
  obtain ⟨cc, hd5, hd, hdd⟩ := okN_of hW0.2.1
  have hs : ∀ j, j < c → v 3 j = nI (stN v j) ∧ stN v j ≤ 8 := fun j hj => (hW0.2.2 j (by rw [hcc]; exact hj)).1
  have hfo : ∀ j, j < c → v 4 j = nI (cN (v 4 j)) ∧ cN (v 4 j) ≤ 3 := fun j hj => (hW0.2.2 j (by rw [hcc]; exact hj)).2
  have hj2 : j < c := by rw [← hcc]; exact hpj
  refine lv_aload_n hx hb dX10_measured_0 rfl (lv_at hl 0 rfl) ?_
  refine fw_get (v := .ref a) (C := RX10) (T := TX10) (N := 9) hx hb hts hin10 hown hK hR hx0 rfl 1 (by decide) (hts (.fieldLink RX10 20 "UnreadLeaflets" "archive" "LUnreadLeaflets$Archive;") (by decide +kernel)) rfl dX10_measured_1 ?_
  refine fw_get (v := .ref (a + 1)) (C := RX0) (T := TX0) (N := 9) hx hb hts hin0 hown hK hR h0 rfl 0 (by decide) (hts (.fieldLink RX10 208 "UnreadLeaflets$Archive" "leaflets" "[LUnreadLeaflets$Leaflet;") (by decide +kernel)) rfl dX10_measured_4 ?_
  refine lv_iload_n hx hb dX10_measured_7 rfl (lv_at hl 1 rfl) ?_
  refine fw_aald (b := a + 6 + 5 * j) hx hb hK hR h1 rfl (vp_in_nI (by omega) (by omega)) (by rw [nI_clamp (by omega)]) dX10_measured_8 ?_
  refine lv_astore_n (lv' := [(3, .ref (a + 6 + 5 * j)), (0, .ref x), (1, .int (nI j)), (2, .int ms)]) hx hb dX10_measured_9 rfl hl (by decide) rfl (fun ls hl => ?_)
  refine lv_iload_n hx hb dX10_measured_10 rfl (lv_at hl 3 rfl) ?_
  by_cases c_1 : ms = 0
  · skip
    refine lv_tableIn (off := 25) (tgt := 36) hx hb dX10_measured_11 (by rw [c_1]; decide) (by rw [c_1]; decide) (by rw [c_1]; rfl) (by decide) ?_
    refine lv_aload_n hx hb dX10_measured_36 rfl (lv_at hl 0 rfl) ?_
    have f_2 : ω.2 (a + 6 + 5 * j) = some (.inr (7, [.int (v 3 j), .int (v 4 j), .int (v 5 j), .int (v 6 j - 1), .int (v 7 j), .ref (a + 6 + 5 * j + 1), .ref (a + 6 + 5 * j + 2), .ref (a + 6 + 5 * j + 3), .ref (a + 6 + 5 * j + 4)])) := (hLf j (by omega)).1
    refine fw_get (v := .int (v 3 j)) (C := RX5) (T := TX5) (N := 9) hx hb hts hin5 hown hK hR f_2 rfl 0 (by decide) (hts (.fieldLink RX10 117 "UnreadLeaflets$Leaflet" "steps" "I") (by decide +kernel)) rfl dX10_measured_37 ?_
    have fr_3 : ∀ q : Nat, True → ω.2 q = ω.2 q := by
      intro q _
      rfl
    have z_4 : ω.1 = ω.1 := rfl
    have hr_5 : keyC v j ms = ((v 3 j) : Int32) := by
      simp only [keyC, hcc, hdd]
      rw [if_pos c_1]
    refine fw_iret hx hb hr hlocks hR hS dX10_measured_40 (rI_mk hr_5.symm)
  by_cases c_6 : ms = 1
  · skip
    refine lv_tableIn (off := 30) (tgt := 41) hx hb dX10_measured_11 (by rw [c_6]; decide) (by rw [c_6]; decide) (by rw [c_6]; rfl) (by decide) ?_
    refine lv_aload_n hx hb dX10_measured_41 rfl (lv_at hl 0 rfl) ?_
    have f_7 : ω.2 (a + 6 + 5 * j) = some (.inr (7, [.int (v 3 j), .int (v 4 j), .int (v 5 j), .int (v 6 j - 1), .int (v 7 j), .ref (a + 6 + 5 * j + 1), .ref (a + 6 + 5 * j + 2), .ref (a + 6 + 5 * j + 3), .ref (a + 6 + 5 * j + 4)])) := (hLf j (by omega)).1
    refine fw_get (v := .int (v 4 j)) (C := RX5) (T := TX5) (N := 9) hx hb hts hin5 hown hK hR f_7 rfl 1 (by decide) (hts (.fieldLink RX10 123 "UnreadLeaflets$Leaflet" "folds" "I") (by decide +kernel)) rfl dX10_measured_42 ?_
    have fr_8 : ∀ q : Nat, True → ω.2 q = ω.2 q := by
      intro q _
      rfl
    have z_9 : ω.1 = ω.1 := rfl
    have hr_10 : keyC v j ms = ((v 4 j) : Int32) := by
      simp only [keyC, hcc, hdd]
      rw [if_neg c_1, if_pos c_6]
    refine fw_iret hx hb hr hlocks hR hS dX10_measured_45 (rI_mk hr_10.symm)
  by_cases c_11 : ms = 2
  · skip
    refine lv_tableIn (off := 35) (tgt := 46) hx hb dX10_measured_11 (by rw [c_11]; decide) (by rw [c_11]; decide) (by rw [c_11]; rfl) (by decide) ?_
    refine lv_aload_n hx hb dX10_measured_46 rfl (lv_at hl 0 rfl) ?_
    refine lv_aload_n hx hb dX10_measured_47 rfl (lv_at hl 0 rfl) ?_
    have f_12 : ω.2 (a + 6 + 5 * j) = some (.inr (7, [.int (v 3 j), .int (v 4 j), .int (v 5 j), .int (v 6 j - 1), .int (v 7 j), .ref (a + 6 + 5 * j + 1), .ref (a + 6 + 5 * j + 2), .ref (a + 6 + 5 * j + 3), .ref (a + 6 + 5 * j + 4)])) := (hLf j (by omega)).1
    refine fw_call (va_runV (As := []) (rest := [.ref (a + 6 + 5 * j)]) ⟨hx, hb, hml, hown, hts⟩ (c_X5_allSteps G hL l ω (a + 6 + 5 * j) j v (hLf j (by omega))  ) (cwV 0 hts gX10_measured_X5_allSteps rfl rfl rfl (by decide +kernel) ⟨Nat.le_of_ble_eq_true rfl, Nat.le_of_ble_eq_true rfl⟩) (fw_preV hW hK hR f_12 rfl) rfl rfl hl.1 rfl (lv_room (Nat.le_of_ble_eq_true rfl)) dX10_measured_48 ⟨Nat.le_of_ble_eq_true rfl, Nat.le_of_ble_eq_true rfl⟩) hS (fun v_13 ω_14 H locs hq_15 hR hS => ?_)
    obtain ⟨rfl, hq_15⟩ := hq_15
    rw [hq_15] at hR
    refine W.eq (g2 := F0 mI 51 ls [.int (1 <<< (v 3 j &&& 31) - 1), .ref (a + 6 + 5 * j)]) rfl ?_
    refine fw_call (va_runV (As := [.int (1 <<< (v 3 j &&& 31) - 1)]) (rest := []) ⟨hx, hb, hml, hown, hts⟩ (c_X5_partsOf G hL l ω (a + 6 + 5 * j) j v (hLf j (by omega)) (stN v j) (hs j hj2).1 (hs j hj2).2 (1 <<< (v 3 j &&& 31) - 1)) (cwV 1 hts gX10_measured_X5_partsOf rfl rfl rfl (by decide +kernel) ⟨Nat.le_of_ble_eq_true rfl, Nat.le_of_ble_eq_true rfl⟩) (fw_preV hW hK hR f_12 rfl) rfl rfl hl.1 rfl (lv_room (Nat.le_of_ble_eq_true rfl)) dX10_measured_51 ⟨Nat.le_of_ble_eq_true rfl, Nat.le_of_ble_eq_true rfl⟩) hS (fun v_16 ω_17 H locs hq_18 hR hS => ?_)
    obtain ⟨rfl, hq_18⟩ := hq_18
    rw [hq_18] at hR
    refine W.eq (g2 := F0 mI 54 ls [.int (partsJ v j (1 <<< (v 3 j &&& 31) - 1) (stN v j))]) rfl ?_
    have fr_19 : ∀ q : Nat, True → ω.2 q = ω.2 q := by
      intro q _
      rfl
    have z_20 : ω.1 = ω.1 := rfl
    have hr_21 : keyC v j ms = ((partsJ v j (1 <<< (v 3 j &&& 31) - 1) (stN v j)) : Int32) := by
      simp only [keyC, hcc, hdd]
      rw [if_neg c_1, if_neg c_6, if_pos c_11]
    refine fw_iret hx hb hr hlocks hR hS dX10_measured_54 (rI_mk hr_21.symm)
  have tc_1 := lv_neT c_1 (show (0 : Int32).toInt = 0 by decide)
  have tc_6 := lv_neT c_6 (show (1 : Int32).toInt = 1 by decide)
  have tc_11 := lv_neT c_11 (show (2 : Int32).toInt = 2 by decide)
  refine lv_tableOut (tgt := 55) hx hb dX10_measured_11 (by omega) (by decide) ?_
  refine lv_aload_n hx hb dX10_measured_55 rfl (lv_at hl 0 rfl) ?_
  have f_22 : ω.2 (a + 6 + 5 * j) = some (.inr (7, [.int (v 3 j), .int (v 4 j), .int (v 5 j), .int (v 6 j - 1), .int (v 7 j), .ref (a + 6 + 5 * j + 1), .ref (a + 6 + 5 * j + 2), .ref (a + 6 + 5 * j + 3), .ref (a + 6 + 5 * j + 4)])) := (hLf j (by omega)).1
  refine fw_call (va_runV (As := []) (rest := []) ⟨hx, hb, hml, hown, hts⟩ (c_X5_skippedSteps G hL l ω (a + 6 + 5 * j) j v (hLf j (by omega))  ) (cwV 0 hts gX10_measured_X5_skippedSteps rfl rfl rfl (by decide +kernel) ⟨Nat.le_of_ble_eq_true rfl, Nat.le_of_ble_eq_true rfl⟩) (fw_preV hW hK hR f_22 rfl) rfl rfl hl.1 rfl (lv_room (Nat.le_of_ble_eq_true rfl)) dX10_measured_56 ⟨Nat.le_of_ble_eq_true rfl, Nat.le_of_ble_eq_true rfl⟩) hS (fun v_23 ω_24 H locs hq_25 hR hS => ?_)
  obtain ⟨rfl, hq_25⟩ := hq_25
  rw [hq_25] at hR
  refine W.eq (g2 := F0 mI 59 ls [.int (popF (v 7 j))]) rfl ?_
  have fr_26 : ∀ q : Nat, True → ω.2 q = ω.2 q := by
    intro q _
    rfl
  have z_27 : ω.1 = ω.1 := rfl
  have hr_28 : keyC v j ms = ((popF (v 7 j)) : Int32) := by
    simp only [keyC, hcc, hdd]
    rw [if_neg c_1, if_neg c_6, if_neg c_11]
  refine fw_iret hx hb hr hlocks hR hS dX10_measured_59 (rI_mk hr_28.symm)
def plcL (v : Nat → Nat → Int32) (j : Nat) (ms : Int32) : Nat → Int32
  | 0 => 0
  | k + 1 => if (keyC v j ms) < (keyC v k ms) then (((plcL v j ms k) + 1)) else (if (keyC v k ms) = (keyC v j ms) then (if (nI j) ≤ (nI k) then (plcL v j ms k) else (((plcL v j ms k) + 1))) else (plcL v j ms k))
def plcC (v : Nat → Nat → Int32) (j : Nat) (ms : Int32) : Int32 := plcL v j ms (cN (v 0 0))
set_option maxHeartbeats 4000000 in
set_option maxRecDepth 100000 in
theorem c_X10_placeOf (G : FG) (hL : FL G) (l : Launch) (ω : FWd) (x y a hs0 sn tx ln tt : Nat) (v : Nat → Nat → Int32) (hsn : Int32) (hXA : XA x y a hs0 sn tx ln tt) (hx0 : ω.2 x = some (.inr (12, [.ref y, .ref a, .ref (a + 51), .ref hs0, .ref sn, .int hsn, .ref tx, .ref ln, .ref tt]))) (hA : ArcS G ω.2 a v) (hW0 : WF v) (j : Nat) (hpj : j < cN (v 0 0)) (ms : Int32) : FMet G l yX10_placeOf wsX10_placeOf ({ frames := 3, cells := 0, slots := 0, locals := 67 } : Room) [.ref x, .int (nI j), .int ms] ω (rI (plcC v j ms) ω) 0 0 := by
  refine fw_ofW (cc := cX10_placeOf) (maxL := 7) (ret := (some .int)) (by decide) rfl (Nat.le_of_ble_eq_true rfl) ?_
  intro pP eE sS mI ar9 bl9 meth cD ls hx hb hr hlocks hml hts hown hnm hW hR hl
  have hK := hL.K hW
  have hS : va_S (fwA G) sS.heap sS.heap [] := va_S.rf
  have hin0 : ∀ w ∈ u_ws RX0 TX0 9, w ∈ wsX10_placeOf := by decide +kernel
  have hin10 : ∀ w ∈ u_ws RX10 TX10 9, w ∈ wsX10_placeOf := by decide +kernel
  have hl : lv_has ls 7 [(0, .ref x), (1, .int (nI j)), (2, .int ms)] := hl
  obtain ⟨h0, h1, h2, h3, h4, h5, hLf, hCo⟩ := id hA
  obtain ⟨hxy, hxa, hxh, hxs, hxt, hxl, hxu⟩ := id hXA
  obtain ⟨c, hc8, hc, hcc⟩ := okN_of hW0.1
  obtain ⟨cc, hd5, hd, hdd⟩ := okN_of hW0.2.1
  have hs : ∀ j, j < c → v 3 j = nI (stN v j) ∧ stN v j ≤ 8 := fun j hj => (hW0.2.2 j (by rw [hcc]; exact hj)).1
  have hfo : ∀ j, j < c → v 4 j = nI (cN (v 4 j)) ∧ cN (v 4 j) ≤ 3 := fun j hj => (hW0.2.2 j (by rw [hcc]; exact hj)).2
  have hj2 : j < c := by rw [← hcc]; exact hpj
  refine lv_aload_n hx hb dX10_placeOf_0 rfl (lv_at hl 0 rfl) ?_
  refine lv_iload_n hx hb dX10_placeOf_1 rfl (lv_at hl 1 rfl) ?_
  refine lv_iload_n hx hb dX10_placeOf_2 rfl (lv_at hl 2 rfl) ?_
  refine fw_call (va_runV (As := [.int (nI j), .int ms]) (rest := []) ⟨hx, hb, hml, hown, hts⟩ (c_X10_measured G hL l ω x y a hs0 sn tx ln tt v hsn hXA hx0 hA hW0 j (by rw [hcc]; omega) ms) (cwV 2 hts gX10_placeOf_X10_measured rfl rfl rfl (by decide +kernel) ⟨Nat.le_of_ble_eq_true rfl, Nat.le_of_ble_eq_true rfl⟩) (fw_preV hW hK hR hx0 rfl) rfl rfl hl.1 rfl (lv_room (Nat.le_of_ble_eq_true rfl)) dX10_placeOf_3 ⟨Nat.le_of_ble_eq_true rfl, Nat.le_of_ble_eq_true rfl⟩) hS (fun v_1 ω_2 H locs hq_3 hR hS => ?_)
  obtain ⟨rfl, hq_3⟩ := hq_3
  rw [hq_3] at hR
  refine W.eq (g2 := F0 mI 6 ls [.int (keyC v j ms)]) rfl ?_
  refine lv_istore_n (lv' := [(3, .int (keyC v j ms)), (0, .ref x), (1, .int (nI j)), (2, .int ms)]) hx hb dX10_placeOf_6 rfl hl (by decide) rfl (fun ls hl => ?_)
  refine lv_iconst (v := 0) hx hb dX10_placeOf_7 (by decide) ?_
  refine lv_istore (lv' := [(4, .int 0), (3, .int (keyC v j ms)), (0, .ref x), (1, .int (nI j)), (2, .int ms)]) hx hb dX10_placeOf_8 hl (by decide) rfl (fun ls hl => ?_)
  refine lv_iconst (v := 0) hx hb dX10_placeOf_10 (by decide) ?_
  refine lv_istore (lv' := [(5, .int 0), (4, .int 0), (3, .int (keyC v j ms)), (0, .ref x), (1, .int (nI j)), (2, .int ms)]) hx hb dX10_placeOf_11 hl (by decide) rfl (fun ls hl => ?_)
  have hi_4 : plcL v j ms 0 = (0 : Int32) := by simp only [plcL, hcc, hdd]
  have loop_6 : ∀ (fu : Nat) (k : Nat), (c - k) < fu → (k ≤ c) → ∀ (H : Heap) (locs : List Loc) (ls : Array Slot), fR G ω H → va_S (fwA G) sS.heap H locs → lv_has ls 7 [(5, .int (nI k)), (4, .int (plcL v j ms k)), (3, .int (keyC v j ms)), (0, .ref x), (1, .int (nI j)), (2, .int ms)] → W pP l eE ({ frames := 3, cells := 0, slots := 0, locals := 67 } : Room) sS mI ar9 bl9 meth cD H locs 0 0 (MQ bl9 (fQ G (rI (plcC v j ms) ω)) ar9 sS 0 0 (fwA G)) (F0 mI 13 ls []) := by
    intro fu
    induction fu with
    | zero => intro k hfu; exact absurd hfu (Nat.not_lt_zero _)
    | succ fu ih =>
      intro k hfu hkk H locs ls hR hS hl
      refine lv_iload hx hb dX10_placeOf_13 (lv_at hl 0 rfl) ?_
      refine lv_aload_n hx hb dX10_placeOf_15 rfl (lv_at hl 3 rfl) ?_
      refine fw_get (v := .ref a) (C := RX10) (T := TX10) (N := 9) hx hb hts hin10 hown hK hR hx0 rfl 1 (by decide) (hts (.fieldLink RX10 20 "UnreadLeaflets" "archive" "LUnreadLeaflets$Archive;") (by decide +kernel)) rfl dX10_placeOf_16 ?_
      refine fw_get (v := .int (v 0 0)) (C := RX0) (T := TX0) (N := 9) hx hb hts hin0 hown hK hR h0 rfl 1 (by decide) (hts (.fieldLink RX10 303 "UnreadLeaflets$Archive" "leafletCount" "I") (by decide +kernel)) rfl dX10_placeOf_19 ?_
      refine lv_icmp_ge (tgt := 61) hx hb dX10_placeOf_22 (by decide) (fun c_7 => ?_) (fun c_7 => ?_)
      · skip
        have hj9 := lp_ge (n := c) hc c_7 (by omega) (by omega)
        have hk9 : c = k := by omega
        subst hk9
        refine lv_iload hx hb dX10_placeOf_61 (lv_at hl 1 rfl) ?_
        have fr_8 : ∀ q : Nat, True → ω.2 q = ω.2 q := by
          intro q _
          rfl
        have z_9 : ω.1 = ω.1 := rfl
        have hr_10 : plcC v j ms = ((plcL v j ms c) : Int32) := by
          simp only [plcC, hcc, hdd]
        refine fw_iret hx hb hr hlocks hR hS dX10_placeOf_63 (rI_mk hr_10.symm)
      · skip
        have hk2 := lp_lt (n := c) hc c_7 (by omega) (by omega)
        refine lv_aload_n hx hb dX10_placeOf_25 rfl (lv_at hl 3 rfl) ?_
        refine lv_iload hx hb dX10_placeOf_26 (lv_at hl 0 rfl) ?_
        refine lv_iload_n hx hb dX10_placeOf_28 rfl (lv_at hl 5 rfl) ?_
        refine fw_call (va_runV (As := [.int (nI k), .int ms]) (rest := []) ⟨hx, hb, hml, hown, hts⟩ (c_X10_measured G hL l ω x y a hs0 sn tx ln tt v hsn hXA hx0 hA hW0 k (by rw [hcc]; omega) ms) (cwV 2 hts gX10_placeOf_X10_measured rfl rfl rfl (by decide +kernel) ⟨Nat.le_of_ble_eq_true rfl, Nat.le_of_ble_eq_true rfl⟩) (fw_preV hW hK hR hx0 rfl) rfl rfl hl.1 rfl (lv_room (Nat.le_of_ble_eq_true rfl)) dX10_placeOf_29 ⟨Nat.le_of_ble_eq_true rfl, Nat.le_of_ble_eq_true rfl⟩) hS (fun v_11 ω_12 H locs hq_13 hR hS => ?_)
        obtain ⟨rfl, hq_13⟩ := hq_13
        rw [hq_13] at hR
        refine W.eq (g2 := F0 mI 32 ls [.int (keyC v k ms)]) rfl ?_
        refine lv_istore (lv' := [(6, .int (keyC v k ms)), (5, .int (nI k)), (4, .int (plcL v j ms k)), (3, .int (keyC v j ms)), (0, .ref x), (1, .int (nI j)), (2, .int ms)]) hx hb dX10_placeOf_32 hl (by decide) rfl (fun ls hl => ?_)
        refine lv_iload hx hb dX10_placeOf_34 (lv_at hl 0 rfl) ?_
        refine lv_iload_n hx hb dX10_placeOf_36 rfl (lv_at hl 3 rfl) ?_
        refine lv_icmp_gt (tgt := 52) hx hb dX10_placeOf_37 (by decide) (fun c_14 => ?_) (fun c_14 => ?_)
        · skip
          obtain ⟨x_15, ex_15⟩ : ∃ y : Int32, y = (plcL v j ms k) + 1 := ⟨_, rfl⟩
          refine lv_iinc (v := x_15) (lv' := [(4, .int x_15), (6, .int (keyC v k ms)), (5, .int (nI k)), (3, .int (keyC v j ms)), (0, .ref x), (1, .int (nI j)), (2, .int ms)]) hx hb dX10_placeOf_52 hl (k := 2) rfl (by rw [ex_15]; rfl) (by decide) rfl (fun ls hl => ?_)
          obtain ⟨x_16, ex_16⟩ : ∃ y : Int32, y = (nI k) + 1 := ⟨_, rfl⟩
          refine lv_iinc (v := x_16) (lv' := [(5, .int x_16), (4, .int x_15), (6, .int (keyC v k ms)), (3, .int (keyC v j ms)), (0, .ref x), (1, .int (nI j)), (2, .int ms)]) hx hb dX10_placeOf_55 hl (k := 2) rfl (by rw [ex_16]; rfl) (by decide) rfl (fun ls hl => ?_)
          refine lv_goto (tgt := 13) hx hb dX10_placeOf_58 (by decide) ?_
          have hr_17 : plcL v j ms (k + 1) = (x_15 : Int32) := by
            simp only [plcL, hcc, hdd, ex_15, ex_16]
            rw [if_pos c_14]
          have el_5 : x_16 = nI (k + 1) := by rw [ex_16]; exact nI_1 k
          have el_4 : x_15 = plcL v j ms (k + 1) := by rw [hr_17]
          have hl := lv_sub (l' := [(5, .int x_16), (4, .int x_15), (3, .int (keyC v j ms)), (0, .ref x), (1, .int (nI j)), (2, .int ms)]) hl [0, 1, 3, 4, 5, 6] rfl
          rw [el_5, el_4] at hl
          exact ih (k + 1) (by omega) (by first | assumption | omega | (simp; done)) _ _ _ hR hS hl
        · skip
          refine lv_iload hx hb dX10_placeOf_40 (lv_at hl 0 rfl) ?_
          refine lv_iload_n hx hb dX10_placeOf_42 rfl (lv_at hl 3 rfl) ?_
          refine lv_icmp_ne (tgt := 55) hx hb dX10_placeOf_43 (by decide) (fun c_18 => ?_) (fun c_18 => ?_)
          · skip
            obtain ⟨x_19, ex_19⟩ : ∃ y : Int32, y = (nI k) + 1 := ⟨_, rfl⟩
            refine lv_iinc (v := x_19) (lv' := [(5, .int x_19), (6, .int (keyC v k ms)), (4, .int (plcL v j ms k)), (3, .int (keyC v j ms)), (0, .ref x), (1, .int (nI j)), (2, .int ms)]) hx hb dX10_placeOf_55 hl (k := 1) rfl (by rw [ex_19]; rfl) (by decide) rfl (fun ls hl => ?_)
            refine lv_goto (tgt := 13) hx hb dX10_placeOf_58 (by decide) ?_
            have hr_20 : plcL v j ms (k + 1) = ((plcL v j ms k) : Int32) := by
              simp only [plcL, hcc, hdd, ex_19]
              rw [if_neg c_14, if_neg c_18]
            have el_5 : x_19 = nI (k + 1) := by rw [ex_19]; exact nI_1 k
            have el_4 : plcL v j ms k = plcL v j ms (k + 1) := by rw [hr_20]
            have hl := lv_sub (l' := [(5, .int x_19), (4, .int (plcL v j ms k)), (3, .int (keyC v j ms)), (0, .ref x), (1, .int (nI j)), (2, .int ms)]) hl [0, 2, 3, 4, 5, 6] rfl
            rw [el_5, el_4] at hl
            exact ih (k + 1) (by omega) (by first | assumption | omega | (simp; done)) _ _ _ hR hS hl
          · skip
            refine lv_iload hx hb dX10_placeOf_46 (lv_at hl 1 rfl) ?_
            refine lv_iload_n hx hb dX10_placeOf_48 rfl (lv_at hl 5 rfl) ?_
            refine lv_icmp_ge (tgt := 55) hx hb dX10_placeOf_49 (by decide) (fun c_21 => ?_) (fun c_21 => ?_)
            · skip
              obtain ⟨x_22, ex_22⟩ : ∃ y : Int32, y = (nI k) + 1 := ⟨_, rfl⟩
              refine lv_iinc (v := x_22) (lv' := [(5, .int x_22), (6, .int (keyC v k ms)), (4, .int (plcL v j ms k)), (3, .int (keyC v j ms)), (0, .ref x), (1, .int (nI j)), (2, .int ms)]) hx hb dX10_placeOf_55 hl (k := 1) rfl (by rw [ex_22]; rfl) (by decide) rfl (fun ls hl => ?_)
              refine lv_goto (tgt := 13) hx hb dX10_placeOf_58 (by decide) ?_
              have hr_23 : plcL v j ms (k + 1) = ((plcL v j ms k) : Int32) := by
                simp only [plcL, hcc, hdd, ex_22]
                rw [if_neg c_14, if_pos c_18, if_pos c_21]
              have el_5 : x_22 = nI (k + 1) := by rw [ex_22]; exact nI_1 k
              have el_4 : plcL v j ms k = plcL v j ms (k + 1) := by rw [hr_23]
              have hl := lv_sub (l' := [(5, .int x_22), (4, .int (plcL v j ms k)), (3, .int (keyC v j ms)), (0, .ref x), (1, .int (nI j)), (2, .int ms)]) hl [0, 2, 3, 4, 5, 6] rfl
              rw [el_5, el_4] at hl
              exact ih (k + 1) (by omega) (by first | assumption | omega | (simp; done)) _ _ _ hR hS hl
            · skip
              obtain ⟨x_24, ex_24⟩ : ∃ y : Int32, y = (plcL v j ms k) + 1 := ⟨_, rfl⟩
              refine lv_iinc (v := x_24) (lv' := [(4, .int x_24), (6, .int (keyC v k ms)), (5, .int (nI k)), (3, .int (keyC v j ms)), (0, .ref x), (1, .int (nI j)), (2, .int ms)]) hx hb dX10_placeOf_52 hl (k := 2) rfl (by rw [ex_24]; rfl) (by decide) rfl (fun ls hl => ?_)
              obtain ⟨x_25, ex_25⟩ : ∃ y : Int32, y = (nI k) + 1 := ⟨_, rfl⟩
              refine lv_iinc (v := x_25) (lv' := [(5, .int x_25), (4, .int x_24), (6, .int (keyC v k ms)), (3, .int (keyC v j ms)), (0, .ref x), (1, .int (nI j)), (2, .int ms)]) hx hb dX10_placeOf_55 hl (k := 2) rfl (by rw [ex_25]; rfl) (by decide) rfl (fun ls hl => ?_)
              refine lv_goto (tgt := 13) hx hb dX10_placeOf_58 (by decide) ?_
              have hr_26 : plcL v j ms (k + 1) = (x_24 : Int32) := by
                simp only [plcL, hcc, hdd, ex_24, ex_25]
                rw [if_neg c_14, if_pos c_18, if_neg c_21]
              have el_5 : x_25 = nI (k + 1) := by rw [ex_25]; exact nI_1 k
              have el_4 : x_24 = plcL v j ms (k + 1) := by rw [hr_26]
              have hl := lv_sub (l' := [(5, .int x_25), (4, .int x_24), (3, .int (keyC v j ms)), (0, .ref x), (1, .int (nI j)), (2, .int ms)]) hl [0, 1, 3, 4, 5, 6] rfl
              rw [el_5, el_4] at hl
              exact ih (k + 1) (by omega) (by first | assumption | omega | (simp; done)) _ _ _ hR hS hl
  have h0_27 : (0 : Int32) = plcL v j ms 0 := by rw [hi_4]
  have hl : lv_has ls 7 [(5, .int 0), (4, .int (plcL v j ms 0)), (3, .int (keyC v j ms)), (0, .ref x), (1, .int (nI j)), (2, .int ms)] := by rw [← h0_27]; exact hl
  exact loop_6 _ 0 (Nat.lt_succ_self _) (by first | rfl | assumption | omega | (simp; done)) _ _ _ hR hS (lv_sub hl [0, 1, 2, 3, 4, 5] rfl)
def rankG (v : Nat → Nat → Int32) (ms pl : Int32) : Nat → Nat → Option Nat
  | 0, _ => none
  | n + 1, q => if plcC v q ms = pl then some q else rankG v ms pl n (q + 1)
def rankC (v : Nat → Nat → Int32) (ms pl : Int32) : Int32 × Int32 := if inB ms 0 3 then (match rankG v ms pl (cN (v 0 0)) 0 with
  | some q => (nI q, 0)
  | none => (0, 2)) else (0, 1)
set_option maxHeartbeats 4000000 in
set_option maxRecDepth 100000 in
theorem c_X10_ranked (G : FG) (hL : FL G) (l : Launch) (hX0 : FX0 G l) (ω : FWd) (x y a hs0 sn tx ln tt : Nat) (v : Nat → Nat → Int32) (hsn : Int32) (hXA : XA x y a hs0 sn tx ln tt) (hx0 : ω.2 x = some (.inr (12, [.ref y, .ref a, .ref (a + 51), .ref hs0, .ref sn, .int hsn, .ref tx, .ref ln, .ref tt]))) (hA : ArcS G ω.2 a v) (hW0 : WF v) (ms : Int32) (pl : Int32) : FMetX G l yX10_ranked wsX10_ranked ({ frames := 6, cells := 1, slots := 6, locals := 100 } : Room) [.ref x, .int ms, .int pl] ω (fun vv9 τ9 => vv9 = some (.int (rankC v ms pl).1) ∧ (rankC v ms pl).2 = 0 ∧ τ9 = ω) (fun E9 τ9 => XC2 "java/lang/IllegalArgumentException" "java/util/NoSuchElementException" (rankC v ms pl).2 E9 ∧ τ9.2 = ω.2) 1 6 := by
  refine fx_ofW (cc := cX10_ranked) (maxL := 4) (ret := (some .int)) (by decide) rfl (Nat.le_of_ble_eq_true rfl) ?_
  intro pP eE sS mI ar9 bl9 meth cD ls hx hb hr hlocks hml hts hown hnm hW hR ht9 hl
  have hK := hL.K hW
  have hR0 := hR
  have hS : va_S (fwA G) sS.heap sS.heap [] := va_S.rf
  have hin0 : ∀ w ∈ u_ws RX0 TX0 9, w ∈ wsX10_ranked := by decide +kernel
  have hin10 : ∀ w ∈ u_ws RX10 TX10 9, w ∈ wsX10_ranked := by decide +kernel
  have hl : lv_has ls 4 [(0, .ref x), (1, .int ms), (2, .int pl)] := hl
  obtain ⟨h0, h1, h2, h3, h4, h5, hLf, hCo⟩ := id hA
  obtain ⟨hxy, hxa, hxh, hxs, hxt, hxl, hxu⟩ := id hXA
  obtain ⟨c, hc8, hc, hcc⟩ := okN_of hW0.1
  obtain ⟨cc, hd5, hd, hdd⟩ := okN_of hW0.2.1
  have hs : ∀ j, j < c → v 3 j = nI (stN v j) ∧ stN v j ≤ 8 := fun j hj => (hW0.2.2 j (by rw [hcc]; exact hj)).1
  have hfo : ∀ j, j < c → v 4 j = nI (cN (v 4 j)) ∧ cN (v 4 j) ≤ 3 := fun j hj => (hW0.2.2 j (by rw [hcc]; exact hj)).2
  refine lv_iload_n hx hb dX10_ranked_0 rfl (lv_at hl 1 rfl) ?_
  refine lv_iconst (v := 0) hx hb dX10_ranked_1 (by decide) ?_
  refine lv_iconst (v := 3) hx hb dX10_ranked_2 (by decide) ?_
  refine fw_call (va_runS (As := [.int ms, .int 0, .int 3]) (rest := []) ⟨hx, hb, hml, hown, hts⟩ (c_X10_isWithin G hL l ω ms 0 3) (va_cwS 3 hts gX10_ranked_X10_isWithin rfl rfl rfl (by decide +kernel) ⟨Nat.le_of_ble_eq_true rfl, Nat.le_of_ble_eq_true rfl⟩) (fw_preS hW hR) rfl rfl hl.1 rfl (lv_room (Nat.le_of_ble_eq_true rfl)) dX10_ranked_3 ⟨Nat.le_of_ble_eq_true rfl, Nat.le_of_ble_eq_true rfl⟩) hS (fun v_1 ω_2 H locs hq_3 hR hS => ?_)
  obtain ⟨rfl, hq_3⟩ := hq_3
  rw [hq_3] at hR
  refine W.eq (g2 := F0 mI 6 ls [.int (bz (inB ms 0 3))]) rfl ?_
  refine lv_if_ne (tgt := 20) hx hb dX10_ranked_6 (by decide) (fun c_4 => ?_) (fun c_4 => ?_)
  · skip
    have c_4 := bz_ne c_4
    refine lv_iconst (v := 0) hx hb dX10_ranked_20 (by decide) ?_
    refine lv_istore_n (lv' := [(3, .int 0), (0, .ref x), (1, .int ms), (2, .int pl)]) hx hb dX10_ranked_21 rfl hl (by decide) rfl (fun ls hl => ?_)
    have loop_5 : ∀ (fu : Nat) (lq : Nat), (c - lq) < fu → (lq ≤ c) → (rankG v ms pl c 0 = rankG v ms pl (c - lq) lq) → ∀ (H : Heap) (locs : List Loc) (ls : Array Slot), fR G ω H → va_S (fwA G) sS.heap H locs → lv_has ls 4 [(3, .int (nI lq)), (0, .ref x), (1, .int ms), (2, .int pl)] → W pP l eE ({ frames := 6, cells := 1, slots := 6, locals := 100 } : Room) sS mI ar9 bl9 meth cD H locs 0 0 (vx_MQ bl9 (fQ G (fun vv9 τ9 => vv9 = some (.int (rankC v ms pl).1) ∧ (rankC v ms pl).2 = 0 ∧ τ9 = ω)) (fXX G (fun E9 τ9 => XC2 "java/lang/IllegalArgumentException" "java/util/NoSuchElementException" (rankC v ms pl).2 E9 ∧ τ9.2 = ω.2)) ar9 sS 1 6 (fwA G)) (F0 mI 22 ls []) := by
      intro fu
      induction fu with
      | zero => intro lq hfu; exact absurd hfu (Nat.not_lt_zero _)
      | succ fu ih =>
        intro lq hfu hlq hrk H locs ls hR hS hl
        refine lv_iload_n hx hb dX10_ranked_22 rfl (lv_at hl 0 rfl) ?_
        refine lv_aload_n hx hb dX10_ranked_23 rfl (lv_at hl 1 rfl) ?_
        refine fw_get (v := .ref a) (C := RX10) (T := TX10) (N := 9) hx hb hts hin10 hown hK hR hx0 rfl 1 (by decide) (hts (.fieldLink RX10 20 "UnreadLeaflets" "archive" "LUnreadLeaflets$Archive;") (by decide +kernel)) rfl dX10_ranked_24 ?_
        refine fw_get (v := .int (v 0 0)) (C := RX0) (T := TX0) (N := 9) hx hb hts hin0 hown hK hR h0 rfl 1 (by decide) (hts (.fieldLink RX10 303 "UnreadLeaflets$Archive" "leafletCount" "I") (by decide +kernel)) rfl dX10_ranked_27 ?_
        refine lv_icmp_ge (tgt := 51) hx hb dX10_ranked_30 (by decide) (fun c_6 => ?_) (fun c_6 => ?_)
        · skip
          have hlq9 : c = lq := by have h9 := lp_ge hc c_6 (by omega) (by omega); omega
          subst hlq9
          have hr_7 : rankC v ms pl = ((0, 2) : Int32 × Int32) := by
            have hf9 : rankG v ms pl c 0 = none := by rw [hrk, Nat.sub_self, rankG]
            simp only [rankC, hcc]
            rw [if_pos c_4, hf9]
          exact fx_throwNW (ω := ω) (τ := ω) (text := "no such place") (ws := wsX10_ranked) hx hb hX0 hW hts hown (by decide) (by decide) (by decide +kernel) (by decide +kernel) (by decide) (fun w9 h9 => List.mem_cons_of_mem _ (List.mem_append_right _ h9)) xn_228 xg_228 hR0 hR hS (hl.1.trans hml.symm) dX10_ranked_51 dX10_ranked_54 dX10_ranked_55 dX10_ranked_58 dX10_ranked_61 ht9 (by decide) (Nat.le_of_ble_eq_true rfl) (Nat.le_of_ble_eq_true rfl) (Nat.le_of_ble_eq_true rfl) hlocks (fun n9 => ⟨by rw [hr_7]; exact Or.inr (⟨rfl, rfl⟩), rfl⟩) (Nat.le_of_ble_eq_true rfl) (Nat.le_of_ble_eq_true rfl)
        · skip
          have hlq2 : lq < c := lp_lt hc c_6 (by omega) (by omega)
          refine lv_aload_n hx hb dX10_ranked_33 rfl (lv_at hl 1 rfl) ?_
          refine lv_iload_n hx hb dX10_ranked_34 rfl (lv_at hl 0 rfl) ?_
          refine lv_iload_n hx hb dX10_ranked_35 rfl (lv_at hl 2 rfl) ?_
          refine fw_call (va_runV (As := [.int (nI lq), .int ms]) (rest := []) ⟨hx, hb, hml, hown, hts⟩ (c_X10_placeOf G hL l ω x y a hs0 sn tx ln tt v hsn hXA hx0 hA hW0 lq (by rw [hcc]; omega) ms) (cwV 2 hts gX10_ranked_X10_placeOf rfl rfl rfl (by decide +kernel) ⟨Nat.le_of_ble_eq_true rfl, Nat.le_of_ble_eq_true rfl⟩) (fw_preV hW hK hR hx0 rfl) rfl rfl hl.1 rfl (lv_room (Nat.le_of_ble_eq_true rfl)) dX10_ranked_36 ⟨Nat.le_of_ble_eq_true rfl, Nat.le_of_ble_eq_true rfl⟩) hS (fun v_8 ω_9 H locs hq_10 hR hS => ?_)
          obtain ⟨rfl, hq_10⟩ := hq_10
          rw [hq_10] at hR
          refine W.eq (g2 := F0 mI 39 ls [.int (plcC v lq ms)]) rfl ?_
          refine lv_iload_n hx hb dX10_ranked_39 rfl (lv_at hl 3 rfl) ?_
          refine lv_icmp_ne (tgt := 45) hx hb dX10_ranked_40 (by decide) (fun c_11 => ?_) (fun c_11 => ?_)
          · skip
            obtain ⟨x_12, ex_12⟩ : ∃ y : Int32, y = (nI lq) + 1 := ⟨_, rfl⟩
            refine lv_iinc (v := x_12) (lv' := [(3, .int x_12), (0, .ref x), (1, .int ms), (2, .int pl)]) hx hb dX10_ranked_45 hl (k := 0) rfl (by rw [ex_12]; rfl) (by decide) rfl (fun ls hl => ?_)
            refine lv_goto (tgt := 22) hx hb dX10_ranked_48 (by decide) ?_
            have el_3 : x_12 = nI (lq + 1) := by rw [ex_12]; exact nI_1 lq
            have hl := lv_sub (l' := [(3, .int x_12), (0, .ref x), (1, .int ms), (2, .int pl)]) hl [0, 1, 2, 3] rfl
            rw [el_3] at hl
            exact ih (lq + 1) (by omega) (by omega) (by rw [hrk, show c - lq = (c - (lq + 1)) + 1 by omega, rankG, if_neg c_11]) _ _ _ hR hS hl
          · skip
            refine lv_iload_n hx hb dX10_ranked_43 rfl (lv_at hl 0 rfl) ?_
            refine W.widen (k := 1) (n := 6) (by first | omega | decide) (by first | omega | decide) ?_
            refine vx_ret ?_
            have hr_13 : rankC v ms pl = ((nI lq, 0) : Int32 × Int32) := by
              have hf9 : rankG v ms pl c 0 = some lq := by rw [hrk, show c - lq = (c - (lq + 1)) + 1 by omega, rankG, if_pos c_11]
              simp only [rankC, hcc]
              rw [if_pos c_4, hf9]
            exact fw_iret hx hb hr hlocks hR hS dX10_ranked_44 ⟨by rw [hr_13], by rw [hr_13], rfl⟩
    exact loop_5 _ 0 (Nat.lt_succ_self _) (by first | rfl | assumption | omega | (simp; done)) (by first | rfl | assumption | omega | (simp; done)) _ _ _ hR hS (lv_sub hl [0, 1, 2, 3] rfl)
  · skip
    have c_4 := bz_eq c_4
    have hr_14 : rankC v ms pl = ((0, 1) : Int32 × Int32) := by
      simp only [rankC]
      rw [if_neg c_4]
    exact fx_throwW (ω := ω) (τ := ω) (cls := "java/lang/IllegalArgumentException") (text := "no such measure") (ws := wsX10_ranked) hx hb hX0 hW hts hown (by decide) (by decide) (by decide +kernel) (by decide +kernel) (by decide) (fun w9 h9 => List.mem_cons_of_mem _ (List.mem_append_left _ (List.mem_append_right _ h9))) xn_152 xg_152 hR0 hR hS (hl.1.trans hml.symm) dX10_ranked_9 dX10_ranked_12 dX10_ranked_13 dX10_ranked_16 dX10_ranked_19 ht9 (by decide) (Nat.le_of_ble_eq_true rfl) (Nat.le_of_ble_eq_true rfl) (Nat.le_of_ble_eq_true rfl) hlocks (fun n9 => ⟨by rw [hr_14]; exact Or.inl ⟨rfl, rfl⟩, rfl⟩) (Nat.le_of_ble_eq_true rfl) (Nat.le_of_ble_eq_true rfl)
def evenC (v : Nat → Nat → Int32) : Int32 := if (((v 1) 0) + ((v 2) 0)) = (sumJ (fun z9 => needJ v z9 (v 7 z9) 0 (stN v z9)) (cN (v 0 0))) then (if (((v 1) 1) + ((v 2) 1)) = (sumJ (fun z9 => needJ v z9 (v 7 z9) 1 (stN v z9)) (cN (v 0 0))) then (if (((v 1) 2) + ((v 2) 2)) = (sumJ (fun z9 => needJ v z9 (v 7 z9) 2 (stN v z9)) (cN (v 0 0))) then (if (((v 1) 3) + ((v 2) 3)) = (sumJ (fun z9 => needJ v z9 (v 7 z9) 3 (stN v z9)) (cN (v 0 0))) then (if (((v 1) 4) + ((v 2) 4)) = (sumJ (fun z9 => needJ v z9 (v 7 z9) 4 (stN v z9)) (cN (v 0 0))) then (if (((v 1) 5) + ((v 2) 5)) = (sumJ (fun z9 => needJ v z9 (v 7 z9) 5 (stN v z9)) (cN (v 0 0))) then (1) else (0)) else (0)) else (0)) else (0)) else (0)) else (0)
set_option maxHeartbeats 4000000 in
set_option maxRecDepth 100000 in
theorem c_X10_isEven (G : FG) (hL : FL G) (l : Launch) (ω : FWd) (x y a hs0 sn tx ln tt : Nat) (v : Nat → Nat → Int32) (hsn : Int32) (hXA : XA x y a hs0 sn tx ln tt) (hx0 : ω.2 x = some (.inr (12, [.ref y, .ref a, .ref (a + 51), .ref hs0, .ref sn, .int hsn, .ref tx, .ref ln, .ref tt]))) (hA : ArcS G ω.2 a v) (hW0 : WF v) : FMet G l yX10_isEven wsX10_isEven ({ frames := 3, cells := 0, slots := 0, locals := 69 } : Room) [.ref x] ω (rI (evenC v) ω) 0 0 := by
  refine fw_ofW (cc := cX10_isEven) (maxL := 2) (ret := (some .boolean)) (by decide) rfl (Nat.le_of_ble_eq_true rfl) ?_
  intro pP eE sS mI ar9 bl9 meth cD ls hx hb hr hlocks hml hts hown hnm hW hR hl
  have hK := hL.K hW
  have hS : va_S (fwA G) sS.heap sS.heap [] := va_S.rf
  have hin0 : ∀ w ∈ u_ws RX0 TX0 9, w ∈ wsX10_isEven := by decide +kernel
  have hin9 : ∀ w ∈ u_ws RX9 TX9 2, w ∈ wsX10_isEven := by decide +kernel
  have hin10 : ∀ w ∈ u_ws RX10 TX10 9, w ∈ wsX10_isEven := by decide +kernel
  have hl : lv_has ls 2 [(0, .ref x)] := hl
  obtain ⟨h0, h1, h2, h3, h4, h5, hLf, hCo⟩ := id hA
  obtain ⟨hxy, hxa, hxh, hxs, hxt, hxl, hxu⟩ := id hXA
  obtain ⟨c, hc8, hc, hcc⟩ := okN_of hW0.1
  obtain ⟨cc, hd5, hd, hdd⟩ := okN_of hW0.2.1
  have hs : ∀ j, j < c → v 3 j = nI (stN v j) ∧ stN v j ≤ 8 := fun j hj => (hW0.2.2 j (by rw [hcc]; exact hj)).1
  have hfo : ∀ j, j < c → v 4 j = nI (cN (v 4 j)) ∧ cN (v 4 j) ≤ 3 := fun j hj => (hW0.2.2 j (by rw [hcc]; exact hj)).2
  refine lv_iconst (v := 0) hx hb dX10_isEven_0 (by decide) ?_
  refine lv_istore_n (lv' := [(1, .int 0), (0, .ref x)]) hx hb dX10_isEven_1 rfl hl (by decide) rfl (fun ls hl => ?_)
  refine lv_iload_n hx hb dX10_isEven_2 rfl (lv_at hl 0 rfl) ?_
  refine lv_bipush (v := 6) hx hb dX10_isEven_3 (by decide) ?_
  refine lv_icmp_ge (tgt := 52) hx hb dX10_isEven_5 (by decide) (fun c_1 => ?_) (fun c_1 => ?_)
  · skip
    exact absurd c_1 (by decide)
  · skip
    refine lv_aload_n hx hb dX10_isEven_8 rfl (lv_at hl 1 rfl) ?_
    refine fw_get (v := .ref a) (C := RX10) (T := TX10) (N := 9) hx hb hts hin10 hown hK hR hx0 rfl 1 (by decide) (hts (.fieldLink RX10 20 "UnreadLeaflets" "archive" "LUnreadLeaflets$Archive;") (by decide +kernel)) rfl dX10_isEven_9 ?_
    refine fw_get (v := .ref (a + 3)) (C := RX0) (T := TX0) (N := 9) hx hb hts hin0 hown hK hR h0 rfl 4 (by decide) (hts (.fieldLink RX10 273 "UnreadLeaflets$Archive" "tin" "LUnreadLeaflets$Tin;") (by decide +kernel)) rfl dX10_isEven_12 ?_
    refine fw_get (v := .ref (a + 4)) (C := RX9) (T := TX9) (N := 2) hx hb hts hin9 hown hK hR h3 rfl 0 (by decide) (hts (.fieldLink RX10 287 "UnreadLeaflets$Tin" "inside" "[I") (by decide +kernel)) rfl dX10_isEven_15 ?_
    refine lv_iload_n hx hb dX10_isEven_18 rfl (lv_at hl 0 rfl) ?_
    refine fw_iald hx hb hK hR h4 (vp_in_nI (n := 0) (by omega) (by omega)) dX10_isEven_19 ?_
    refine W.eq (g2 := F0 mI 20 ls [.int ((v 1) 0)]) (by rw [show (0 : Int32).toNatClampNeg = 0 from rfl]) ?_
    refine lv_aload_n hx hb dX10_isEven_20 rfl (lv_at hl 1 rfl) ?_
    refine fw_get (v := .ref a) (C := RX10) (T := TX10) (N := 9) hx hb hts hin10 hown hK hR hx0 rfl 1 (by decide) (hts (.fieldLink RX10 20 "UnreadLeaflets" "archive" "LUnreadLeaflets$Archive;") (by decide +kernel)) rfl dX10_isEven_21 ?_
    refine fw_get (v := .ref (a + 3)) (C := RX0) (T := TX0) (N := 9) hx hb hts hin0 hown hK hR h0 rfl 4 (by decide) (hts (.fieldLink RX10 273 "UnreadLeaflets$Archive" "tin" "LUnreadLeaflets$Tin;") (by decide +kernel)) rfl dX10_isEven_24 ?_
    refine fw_get (v := .ref (a + 5)) (C := RX9) (T := TX9) (N := 2) hx hb hts hin9 hown hK hR h3 rfl 1 (by decide) (hts (.fieldLink RX10 290 "UnreadLeaflets$Tin" "lost" "[I") (by decide +kernel)) rfl dX10_isEven_27 ?_
    refine lv_iload_n hx hb dX10_isEven_30 rfl (lv_at hl 0 rfl) ?_
    refine fw_iald hx hb hK hR h5 (vp_in_nI (n := 0) (by omega) (by omega)) dX10_isEven_31 ?_
    refine W.eq (g2 := F0 mI 32 ls [.int ((v 2) 0), .int ((v 1) 0)]) (by rw [show (0 : Int32).toNatClampNeg = 0 from rfl]) ?_
    refine lv_iadd hx hb dX10_isEven_32 ?_
    refine lv_aload_n hx hb dX10_isEven_33 rfl (lv_at hl 1 rfl) ?_
    refine fw_get (v := .ref a) (C := RX10) (T := TX10) (N := 9) hx hb hts hin10 hown hK hR hx0 rfl 1 (by decide) (hts (.fieldLink RX10 20 "UnreadLeaflets" "archive" "LUnreadLeaflets$Archive;") (by decide +kernel)) rfl dX10_isEven_34 ?_
    refine lv_iload_n hx hb dX10_isEven_37 rfl (lv_at hl 0 rfl) ?_
    refine fw_call (va_runV (As := [.int 0]) (rest := [.int (((v 1) 0) + ((v 2) 0))]) ⟨hx, hb, hml, hown, hts⟩ (c_X0_needOfSkipped G hL l ω a v hA c hc hc8 0 hs) (cwV 1 hts gX10_isEven_X0_needOfSkipped rfl rfl rfl (by decide +kernel) ⟨Nat.le_of_ble_eq_true rfl, Nat.le_of_ble_eq_true rfl⟩) (fw_preV hW hK hR h0 rfl) rfl rfl hl.1 rfl (lv_room (Nat.le_of_ble_eq_true rfl)) dX10_isEven_38 ⟨Nat.le_of_ble_eq_true rfl, Nat.le_of_ble_eq_true rfl⟩) hS (fun v_2 ω_3 H locs hq_4 hR hS => ?_)
    obtain ⟨rfl, hq_4⟩ := hq_4
    rw [hq_4] at hR
    refine W.eq (g2 := F0 mI 41 ls [.int (sumJ (fun z9 => needJ v z9 (v 7 z9) 0 (stN v z9)) c), .int (((v 1) 0) + ((v 2) 0))]) rfl ?_
    refine lv_icmp_eq (tgt := 46) hx hb dX10_isEven_41 (by decide) (fun c_5 => ?_) (fun c_5 => ?_)
    · skip
      refine lv_iinc (v := 1) (lv' := [(1, .int 1), (0, .ref x)]) hx hb dX10_isEven_46 hl (k := 0) rfl (by decide) (by decide) rfl (fun ls hl => ?_)
      refine lv_goto (tgt := 2) hx hb dX10_isEven_49 (by decide) ?_
      refine lv_iload_n hx hb dX10_isEven_2 rfl (lv_at hl 0 rfl) ?_
      refine lv_bipush (v := 6) hx hb dX10_isEven_3 (by decide) ?_
      refine lv_icmp_ge (tgt := 52) hx hb dX10_isEven_5 (by decide) (fun c_6 => ?_) (fun c_6 => ?_)
      · skip
        exact absurd c_6 (by decide)
      · skip
        refine lv_aload_n hx hb dX10_isEven_8 rfl (lv_at hl 1 rfl) ?_
        refine fw_get (v := .ref a) (C := RX10) (T := TX10) (N := 9) hx hb hts hin10 hown hK hR hx0 rfl 1 (by decide) (hts (.fieldLink RX10 20 "UnreadLeaflets" "archive" "LUnreadLeaflets$Archive;") (by decide +kernel)) rfl dX10_isEven_9 ?_
        refine fw_get (v := .ref (a + 3)) (C := RX0) (T := TX0) (N := 9) hx hb hts hin0 hown hK hR h0 rfl 4 (by decide) (hts (.fieldLink RX10 273 "UnreadLeaflets$Archive" "tin" "LUnreadLeaflets$Tin;") (by decide +kernel)) rfl dX10_isEven_12 ?_
        refine fw_get (v := .ref (a + 4)) (C := RX9) (T := TX9) (N := 2) hx hb hts hin9 hown hK hR h3 rfl 0 (by decide) (hts (.fieldLink RX10 287 "UnreadLeaflets$Tin" "inside" "[I") (by decide +kernel)) rfl dX10_isEven_15 ?_
        refine lv_iload_n hx hb dX10_isEven_18 rfl (lv_at hl 0 rfl) ?_
        refine fw_iald hx hb hK hR h4 (vp_in_nI (n := 1) (by omega) (by omega)) dX10_isEven_19 ?_
        refine W.eq (g2 := F0 mI 20 ls [.int ((v 1) 1)]) (by rw [show (1 : Int32).toNatClampNeg = 1 from rfl]) ?_
        refine lv_aload_n hx hb dX10_isEven_20 rfl (lv_at hl 1 rfl) ?_
        refine fw_get (v := .ref a) (C := RX10) (T := TX10) (N := 9) hx hb hts hin10 hown hK hR hx0 rfl 1 (by decide) (hts (.fieldLink RX10 20 "UnreadLeaflets" "archive" "LUnreadLeaflets$Archive;") (by decide +kernel)) rfl dX10_isEven_21 ?_
        refine fw_get (v := .ref (a + 3)) (C := RX0) (T := TX0) (N := 9) hx hb hts hin0 hown hK hR h0 rfl 4 (by decide) (hts (.fieldLink RX10 273 "UnreadLeaflets$Archive" "tin" "LUnreadLeaflets$Tin;") (by decide +kernel)) rfl dX10_isEven_24 ?_
        refine fw_get (v := .ref (a + 5)) (C := RX9) (T := TX9) (N := 2) hx hb hts hin9 hown hK hR h3 rfl 1 (by decide) (hts (.fieldLink RX10 290 "UnreadLeaflets$Tin" "lost" "[I") (by decide +kernel)) rfl dX10_isEven_27 ?_
        refine lv_iload_n hx hb dX10_isEven_30 rfl (lv_at hl 0 rfl) ?_
        refine fw_iald hx hb hK hR h5 (vp_in_nI (n := 1) (by omega) (by omega)) dX10_isEven_31 ?_
        refine W.eq (g2 := F0 mI 32 ls [.int ((v 2) 1), .int ((v 1) 1)]) (by rw [show (1 : Int32).toNatClampNeg = 1 from rfl]) ?_
        refine lv_iadd hx hb dX10_isEven_32 ?_
        refine lv_aload_n hx hb dX10_isEven_33 rfl (lv_at hl 1 rfl) ?_
        refine fw_get (v := .ref a) (C := RX10) (T := TX10) (N := 9) hx hb hts hin10 hown hK hR hx0 rfl 1 (by decide) (hts (.fieldLink RX10 20 "UnreadLeaflets" "archive" "LUnreadLeaflets$Archive;") (by decide +kernel)) rfl dX10_isEven_34 ?_
        refine lv_iload_n hx hb dX10_isEven_37 rfl (lv_at hl 0 rfl) ?_
        refine fw_call (va_runV (As := [.int 1]) (rest := [.int (((v 1) 1) + ((v 2) 1))]) ⟨hx, hb, hml, hown, hts⟩ (c_X0_needOfSkipped G hL l ω a v hA c hc hc8 1 hs) (cwV 1 hts gX10_isEven_X0_needOfSkipped rfl rfl rfl (by decide +kernel) ⟨Nat.le_of_ble_eq_true rfl, Nat.le_of_ble_eq_true rfl⟩) (fw_preV hW hK hR h0 rfl) rfl rfl hl.1 rfl (lv_room (Nat.le_of_ble_eq_true rfl)) dX10_isEven_38 ⟨Nat.le_of_ble_eq_true rfl, Nat.le_of_ble_eq_true rfl⟩) hS (fun v_7 ω_8 H locs hq_9 hR hS => ?_)
        obtain ⟨rfl, hq_9⟩ := hq_9
        rw [hq_9] at hR
        refine W.eq (g2 := F0 mI 41 ls [.int (sumJ (fun z9 => needJ v z9 (v 7 z9) 1 (stN v z9)) c), .int (((v 1) 1) + ((v 2) 1))]) rfl ?_
        refine lv_icmp_eq (tgt := 46) hx hb dX10_isEven_41 (by decide) (fun c_10 => ?_) (fun c_10 => ?_)
        · skip
          refine lv_iinc (v := 2) (lv' := [(1, .int 2), (0, .ref x)]) hx hb dX10_isEven_46 hl (k := 0) rfl (by decide) (by decide) rfl (fun ls hl => ?_)
          refine lv_goto (tgt := 2) hx hb dX10_isEven_49 (by decide) ?_
          refine lv_iload_n hx hb dX10_isEven_2 rfl (lv_at hl 0 rfl) ?_
          refine lv_bipush (v := 6) hx hb dX10_isEven_3 (by decide) ?_
          refine lv_icmp_ge (tgt := 52) hx hb dX10_isEven_5 (by decide) (fun c_11 => ?_) (fun c_11 => ?_)
          · skip
            exact absurd c_11 (by decide)
          · skip
            refine lv_aload_n hx hb dX10_isEven_8 rfl (lv_at hl 1 rfl) ?_
            refine fw_get (v := .ref a) (C := RX10) (T := TX10) (N := 9) hx hb hts hin10 hown hK hR hx0 rfl 1 (by decide) (hts (.fieldLink RX10 20 "UnreadLeaflets" "archive" "LUnreadLeaflets$Archive;") (by decide +kernel)) rfl dX10_isEven_9 ?_
            refine fw_get (v := .ref (a + 3)) (C := RX0) (T := TX0) (N := 9) hx hb hts hin0 hown hK hR h0 rfl 4 (by decide) (hts (.fieldLink RX10 273 "UnreadLeaflets$Archive" "tin" "LUnreadLeaflets$Tin;") (by decide +kernel)) rfl dX10_isEven_12 ?_
            refine fw_get (v := .ref (a + 4)) (C := RX9) (T := TX9) (N := 2) hx hb hts hin9 hown hK hR h3 rfl 0 (by decide) (hts (.fieldLink RX10 287 "UnreadLeaflets$Tin" "inside" "[I") (by decide +kernel)) rfl dX10_isEven_15 ?_
            refine lv_iload_n hx hb dX10_isEven_18 rfl (lv_at hl 0 rfl) ?_
            refine fw_iald hx hb hK hR h4 (vp_in_nI (n := 2) (by omega) (by omega)) dX10_isEven_19 ?_
            refine W.eq (g2 := F0 mI 20 ls [.int ((v 1) 2)]) (by rw [show (2 : Int32).toNatClampNeg = 2 from rfl]) ?_
            refine lv_aload_n hx hb dX10_isEven_20 rfl (lv_at hl 1 rfl) ?_
            refine fw_get (v := .ref a) (C := RX10) (T := TX10) (N := 9) hx hb hts hin10 hown hK hR hx0 rfl 1 (by decide) (hts (.fieldLink RX10 20 "UnreadLeaflets" "archive" "LUnreadLeaflets$Archive;") (by decide +kernel)) rfl dX10_isEven_21 ?_
            refine fw_get (v := .ref (a + 3)) (C := RX0) (T := TX0) (N := 9) hx hb hts hin0 hown hK hR h0 rfl 4 (by decide) (hts (.fieldLink RX10 273 "UnreadLeaflets$Archive" "tin" "LUnreadLeaflets$Tin;") (by decide +kernel)) rfl dX10_isEven_24 ?_
            refine fw_get (v := .ref (a + 5)) (C := RX9) (T := TX9) (N := 2) hx hb hts hin9 hown hK hR h3 rfl 1 (by decide) (hts (.fieldLink RX10 290 "UnreadLeaflets$Tin" "lost" "[I") (by decide +kernel)) rfl dX10_isEven_27 ?_
            refine lv_iload_n hx hb dX10_isEven_30 rfl (lv_at hl 0 rfl) ?_
            refine fw_iald hx hb hK hR h5 (vp_in_nI (n := 2) (by omega) (by omega)) dX10_isEven_31 ?_
            refine W.eq (g2 := F0 mI 32 ls [.int ((v 2) 2), .int ((v 1) 2)]) (by rw [show (2 : Int32).toNatClampNeg = 2 from rfl]) ?_
            refine lv_iadd hx hb dX10_isEven_32 ?_
            refine lv_aload_n hx hb dX10_isEven_33 rfl (lv_at hl 1 rfl) ?_
            refine fw_get (v := .ref a) (C := RX10) (T := TX10) (N := 9) hx hb hts hin10 hown hK hR hx0 rfl 1 (by decide) (hts (.fieldLink RX10 20 "UnreadLeaflets" "archive" "LUnreadLeaflets$Archive;") (by decide +kernel)) rfl dX10_isEven_34 ?_
            refine lv_iload_n hx hb dX10_isEven_37 rfl (lv_at hl 0 rfl) ?_
            refine fw_call (va_runV (As := [.int 2]) (rest := [.int (((v 1) 2) + ((v 2) 2))]) ⟨hx, hb, hml, hown, hts⟩ (c_X0_needOfSkipped G hL l ω a v hA c hc hc8 2 hs) (cwV 1 hts gX10_isEven_X0_needOfSkipped rfl rfl rfl (by decide +kernel) ⟨Nat.le_of_ble_eq_true rfl, Nat.le_of_ble_eq_true rfl⟩) (fw_preV hW hK hR h0 rfl) rfl rfl hl.1 rfl (lv_room (Nat.le_of_ble_eq_true rfl)) dX10_isEven_38 ⟨Nat.le_of_ble_eq_true rfl, Nat.le_of_ble_eq_true rfl⟩) hS (fun v_12 ω_13 H locs hq_14 hR hS => ?_)
            obtain ⟨rfl, hq_14⟩ := hq_14
            rw [hq_14] at hR
            refine W.eq (g2 := F0 mI 41 ls [.int (sumJ (fun z9 => needJ v z9 (v 7 z9) 2 (stN v z9)) c), .int (((v 1) 2) + ((v 2) 2))]) rfl ?_
            refine lv_icmp_eq (tgt := 46) hx hb dX10_isEven_41 (by decide) (fun c_15 => ?_) (fun c_15 => ?_)
            · skip
              refine lv_iinc (v := 3) (lv' := [(1, .int 3), (0, .ref x)]) hx hb dX10_isEven_46 hl (k := 0) rfl (by decide) (by decide) rfl (fun ls hl => ?_)
              refine lv_goto (tgt := 2) hx hb dX10_isEven_49 (by decide) ?_
              refine lv_iload_n hx hb dX10_isEven_2 rfl (lv_at hl 0 rfl) ?_
              refine lv_bipush (v := 6) hx hb dX10_isEven_3 (by decide) ?_
              refine lv_icmp_ge (tgt := 52) hx hb dX10_isEven_5 (by decide) (fun c_16 => ?_) (fun c_16 => ?_)
              · skip
                exact absurd c_16 (by decide)
              · skip
                refine lv_aload_n hx hb dX10_isEven_8 rfl (lv_at hl 1 rfl) ?_
                refine fw_get (v := .ref a) (C := RX10) (T := TX10) (N := 9) hx hb hts hin10 hown hK hR hx0 rfl 1 (by decide) (hts (.fieldLink RX10 20 "UnreadLeaflets" "archive" "LUnreadLeaflets$Archive;") (by decide +kernel)) rfl dX10_isEven_9 ?_
                refine fw_get (v := .ref (a + 3)) (C := RX0) (T := TX0) (N := 9) hx hb hts hin0 hown hK hR h0 rfl 4 (by decide) (hts (.fieldLink RX10 273 "UnreadLeaflets$Archive" "tin" "LUnreadLeaflets$Tin;") (by decide +kernel)) rfl dX10_isEven_12 ?_
                refine fw_get (v := .ref (a + 4)) (C := RX9) (T := TX9) (N := 2) hx hb hts hin9 hown hK hR h3 rfl 0 (by decide) (hts (.fieldLink RX10 287 "UnreadLeaflets$Tin" "inside" "[I") (by decide +kernel)) rfl dX10_isEven_15 ?_
                refine lv_iload_n hx hb dX10_isEven_18 rfl (lv_at hl 0 rfl) ?_
                refine fw_iald hx hb hK hR h4 (vp_in_nI (n := 3) (by omega) (by omega)) dX10_isEven_19 ?_
                refine W.eq (g2 := F0 mI 20 ls [.int ((v 1) 3)]) (by rw [show (3 : Int32).toNatClampNeg = 3 from rfl]) ?_
                refine lv_aload_n hx hb dX10_isEven_20 rfl (lv_at hl 1 rfl) ?_
                refine fw_get (v := .ref a) (C := RX10) (T := TX10) (N := 9) hx hb hts hin10 hown hK hR hx0 rfl 1 (by decide) (hts (.fieldLink RX10 20 "UnreadLeaflets" "archive" "LUnreadLeaflets$Archive;") (by decide +kernel)) rfl dX10_isEven_21 ?_
                refine fw_get (v := .ref (a + 3)) (C := RX0) (T := TX0) (N := 9) hx hb hts hin0 hown hK hR h0 rfl 4 (by decide) (hts (.fieldLink RX10 273 "UnreadLeaflets$Archive" "tin" "LUnreadLeaflets$Tin;") (by decide +kernel)) rfl dX10_isEven_24 ?_
                refine fw_get (v := .ref (a + 5)) (C := RX9) (T := TX9) (N := 2) hx hb hts hin9 hown hK hR h3 rfl 1 (by decide) (hts (.fieldLink RX10 290 "UnreadLeaflets$Tin" "lost" "[I") (by decide +kernel)) rfl dX10_isEven_27 ?_
                refine lv_iload_n hx hb dX10_isEven_30 rfl (lv_at hl 0 rfl) ?_
                refine fw_iald hx hb hK hR h5 (vp_in_nI (n := 3) (by omega) (by omega)) dX10_isEven_31 ?_
                refine W.eq (g2 := F0 mI 32 ls [.int ((v 2) 3), .int ((v 1) 3)]) (by rw [show (3 : Int32).toNatClampNeg = 3 from rfl]) ?_
                refine lv_iadd hx hb dX10_isEven_32 ?_
                refine lv_aload_n hx hb dX10_isEven_33 rfl (lv_at hl 1 rfl) ?_
                refine fw_get (v := .ref a) (C := RX10) (T := TX10) (N := 9) hx hb hts hin10 hown hK hR hx0 rfl 1 (by decide) (hts (.fieldLink RX10 20 "UnreadLeaflets" "archive" "LUnreadLeaflets$Archive;") (by decide +kernel)) rfl dX10_isEven_34 ?_
                refine lv_iload_n hx hb dX10_isEven_37 rfl (lv_at hl 0 rfl) ?_
                refine fw_call (va_runV (As := [.int 3]) (rest := [.int (((v 1) 3) + ((v 2) 3))]) ⟨hx, hb, hml, hown, hts⟩ (c_X0_needOfSkipped G hL l ω a v hA c hc hc8 3 hs) (cwV 1 hts gX10_isEven_X0_needOfSkipped rfl rfl rfl (by decide +kernel) ⟨Nat.le_of_ble_eq_true rfl, Nat.le_of_ble_eq_true rfl⟩) (fw_preV hW hK hR h0 rfl) rfl rfl hl.1 rfl (lv_room (Nat.le_of_ble_eq_true rfl)) dX10_isEven_38 ⟨Nat.le_of_ble_eq_true rfl, Nat.le_of_ble_eq_true rfl⟩) hS (fun v_17 ω_18 H locs hq_19 hR hS => ?_)
                obtain ⟨rfl, hq_19⟩ := hq_19
                rw [hq_19] at hR
                refine W.eq (g2 := F0 mI 41 ls [.int (sumJ (fun z9 => needJ v z9 (v 7 z9) 3 (stN v z9)) c), .int (((v 1) 3) + ((v 2) 3))]) rfl ?_
                refine lv_icmp_eq (tgt := 46) hx hb dX10_isEven_41 (by decide) (fun c_20 => ?_) (fun c_20 => ?_)
                · skip
                  refine lv_iinc (v := 4) (lv' := [(1, .int 4), (0, .ref x)]) hx hb dX10_isEven_46 hl (k := 0) rfl (by decide) (by decide) rfl (fun ls hl => ?_)
                  refine lv_goto (tgt := 2) hx hb dX10_isEven_49 (by decide) ?_
                  refine lv_iload_n hx hb dX10_isEven_2 rfl (lv_at hl 0 rfl) ?_
                  refine lv_bipush (v := 6) hx hb dX10_isEven_3 (by decide) ?_
                  refine lv_icmp_ge (tgt := 52) hx hb dX10_isEven_5 (by decide) (fun c_21 => ?_) (fun c_21 => ?_)
                  · skip
                    exact absurd c_21 (by decide)
                  · skip
                    refine lv_aload_n hx hb dX10_isEven_8 rfl (lv_at hl 1 rfl) ?_
                    refine fw_get (v := .ref a) (C := RX10) (T := TX10) (N := 9) hx hb hts hin10 hown hK hR hx0 rfl 1 (by decide) (hts (.fieldLink RX10 20 "UnreadLeaflets" "archive" "LUnreadLeaflets$Archive;") (by decide +kernel)) rfl dX10_isEven_9 ?_
                    refine fw_get (v := .ref (a + 3)) (C := RX0) (T := TX0) (N := 9) hx hb hts hin0 hown hK hR h0 rfl 4 (by decide) (hts (.fieldLink RX10 273 "UnreadLeaflets$Archive" "tin" "LUnreadLeaflets$Tin;") (by decide +kernel)) rfl dX10_isEven_12 ?_
                    refine fw_get (v := .ref (a + 4)) (C := RX9) (T := TX9) (N := 2) hx hb hts hin9 hown hK hR h3 rfl 0 (by decide) (hts (.fieldLink RX10 287 "UnreadLeaflets$Tin" "inside" "[I") (by decide +kernel)) rfl dX10_isEven_15 ?_
                    refine lv_iload_n hx hb dX10_isEven_18 rfl (lv_at hl 0 rfl) ?_
                    refine fw_iald hx hb hK hR h4 (vp_in_nI (n := 4) (by omega) (by omega)) dX10_isEven_19 ?_
                    refine W.eq (g2 := F0 mI 20 ls [.int ((v 1) 4)]) (by rw [show (4 : Int32).toNatClampNeg = 4 from rfl]) ?_
                    refine lv_aload_n hx hb dX10_isEven_20 rfl (lv_at hl 1 rfl) ?_
                    refine fw_get (v := .ref a) (C := RX10) (T := TX10) (N := 9) hx hb hts hin10 hown hK hR hx0 rfl 1 (by decide) (hts (.fieldLink RX10 20 "UnreadLeaflets" "archive" "LUnreadLeaflets$Archive;") (by decide +kernel)) rfl dX10_isEven_21 ?_
                    refine fw_get (v := .ref (a + 3)) (C := RX0) (T := TX0) (N := 9) hx hb hts hin0 hown hK hR h0 rfl 4 (by decide) (hts (.fieldLink RX10 273 "UnreadLeaflets$Archive" "tin" "LUnreadLeaflets$Tin;") (by decide +kernel)) rfl dX10_isEven_24 ?_
                    refine fw_get (v := .ref (a + 5)) (C := RX9) (T := TX9) (N := 2) hx hb hts hin9 hown hK hR h3 rfl 1 (by decide) (hts (.fieldLink RX10 290 "UnreadLeaflets$Tin" "lost" "[I") (by decide +kernel)) rfl dX10_isEven_27 ?_
                    refine lv_iload_n hx hb dX10_isEven_30 rfl (lv_at hl 0 rfl) ?_
                    refine fw_iald hx hb hK hR h5 (vp_in_nI (n := 4) (by omega) (by omega)) dX10_isEven_31 ?_
                    refine W.eq (g2 := F0 mI 32 ls [.int ((v 2) 4), .int ((v 1) 4)]) (by rw [show (4 : Int32).toNatClampNeg = 4 from rfl]) ?_
                    refine lv_iadd hx hb dX10_isEven_32 ?_
                    refine lv_aload_n hx hb dX10_isEven_33 rfl (lv_at hl 1 rfl) ?_
                    refine fw_get (v := .ref a) (C := RX10) (T := TX10) (N := 9) hx hb hts hin10 hown hK hR hx0 rfl 1 (by decide) (hts (.fieldLink RX10 20 "UnreadLeaflets" "archive" "LUnreadLeaflets$Archive;") (by decide +kernel)) rfl dX10_isEven_34 ?_
                    refine lv_iload_n hx hb dX10_isEven_37 rfl (lv_at hl 0 rfl) ?_
                    refine fw_call (va_runV (As := [.int 4]) (rest := [.int (((v 1) 4) + ((v 2) 4))]) ⟨hx, hb, hml, hown, hts⟩ (c_X0_needOfSkipped G hL l ω a v hA c hc hc8 4 hs) (cwV 1 hts gX10_isEven_X0_needOfSkipped rfl rfl rfl (by decide +kernel) ⟨Nat.le_of_ble_eq_true rfl, Nat.le_of_ble_eq_true rfl⟩) (fw_preV hW hK hR h0 rfl) rfl rfl hl.1 rfl (lv_room (Nat.le_of_ble_eq_true rfl)) dX10_isEven_38 ⟨Nat.le_of_ble_eq_true rfl, Nat.le_of_ble_eq_true rfl⟩) hS (fun v_22 ω_23 H locs hq_24 hR hS => ?_)
                    obtain ⟨rfl, hq_24⟩ := hq_24
                    rw [hq_24] at hR
                    refine W.eq (g2 := F0 mI 41 ls [.int (sumJ (fun z9 => needJ v z9 (v 7 z9) 4 (stN v z9)) c), .int (((v 1) 4) + ((v 2) 4))]) rfl ?_
                    refine lv_icmp_eq (tgt := 46) hx hb dX10_isEven_41 (by decide) (fun c_25 => ?_) (fun c_25 => ?_)
                    · skip
                      refine lv_iinc (v := 5) (lv' := [(1, .int 5), (0, .ref x)]) hx hb dX10_isEven_46 hl (k := 0) rfl (by decide) (by decide) rfl (fun ls hl => ?_)
                      refine lv_goto (tgt := 2) hx hb dX10_isEven_49 (by decide) ?_
                      refine lv_iload_n hx hb dX10_isEven_2 rfl (lv_at hl 0 rfl) ?_
                      refine lv_bipush (v := 6) hx hb dX10_isEven_3 (by decide) ?_
                      refine lv_icmp_ge (tgt := 52) hx hb dX10_isEven_5 (by decide) (fun c_26 => ?_) (fun c_26 => ?_)
                      · skip
                        exact absurd c_26 (by decide)
                      · skip
                        refine lv_aload_n hx hb dX10_isEven_8 rfl (lv_at hl 1 rfl) ?_
                        refine fw_get (v := .ref a) (C := RX10) (T := TX10) (N := 9) hx hb hts hin10 hown hK hR hx0 rfl 1 (by decide) (hts (.fieldLink RX10 20 "UnreadLeaflets" "archive" "LUnreadLeaflets$Archive;") (by decide +kernel)) rfl dX10_isEven_9 ?_
                        refine fw_get (v := .ref (a + 3)) (C := RX0) (T := TX0) (N := 9) hx hb hts hin0 hown hK hR h0 rfl 4 (by decide) (hts (.fieldLink RX10 273 "UnreadLeaflets$Archive" "tin" "LUnreadLeaflets$Tin;") (by decide +kernel)) rfl dX10_isEven_12 ?_
                        refine fw_get (v := .ref (a + 4)) (C := RX9) (T := TX9) (N := 2) hx hb hts hin9 hown hK hR h3 rfl 0 (by decide) (hts (.fieldLink RX10 287 "UnreadLeaflets$Tin" "inside" "[I") (by decide +kernel)) rfl dX10_isEven_15 ?_
                        refine lv_iload_n hx hb dX10_isEven_18 rfl (lv_at hl 0 rfl) ?_
                        refine fw_iald hx hb hK hR h4 (vp_in_nI (n := 5) (by omega) (by omega)) dX10_isEven_19 ?_
                        refine W.eq (g2 := F0 mI 20 ls [.int ((v 1) 5)]) (by rw [show (5 : Int32).toNatClampNeg = 5 from rfl]) ?_
                        refine lv_aload_n hx hb dX10_isEven_20 rfl (lv_at hl 1 rfl) ?_
                        refine fw_get (v := .ref a) (C := RX10) (T := TX10) (N := 9) hx hb hts hin10 hown hK hR hx0 rfl 1 (by decide) (hts (.fieldLink RX10 20 "UnreadLeaflets" "archive" "LUnreadLeaflets$Archive;") (by decide +kernel)) rfl dX10_isEven_21 ?_
                        refine fw_get (v := .ref (a + 3)) (C := RX0) (T := TX0) (N := 9) hx hb hts hin0 hown hK hR h0 rfl 4 (by decide) (hts (.fieldLink RX10 273 "UnreadLeaflets$Archive" "tin" "LUnreadLeaflets$Tin;") (by decide +kernel)) rfl dX10_isEven_24 ?_
                        refine fw_get (v := .ref (a + 5)) (C := RX9) (T := TX9) (N := 2) hx hb hts hin9 hown hK hR h3 rfl 1 (by decide) (hts (.fieldLink RX10 290 "UnreadLeaflets$Tin" "lost" "[I") (by decide +kernel)) rfl dX10_isEven_27 ?_
                        refine lv_iload_n hx hb dX10_isEven_30 rfl (lv_at hl 0 rfl) ?_
                        refine fw_iald hx hb hK hR h5 (vp_in_nI (n := 5) (by omega) (by omega)) dX10_isEven_31 ?_
                        refine W.eq (g2 := F0 mI 32 ls [.int ((v 2) 5), .int ((v 1) 5)]) (by rw [show (5 : Int32).toNatClampNeg = 5 from rfl]) ?_
                        refine lv_iadd hx hb dX10_isEven_32 ?_
                        refine lv_aload_n hx hb dX10_isEven_33 rfl (lv_at hl 1 rfl) ?_
                        refine fw_get (v := .ref a) (C := RX10) (T := TX10) (N := 9) hx hb hts hin10 hown hK hR hx0 rfl 1 (by decide) (hts (.fieldLink RX10 20 "UnreadLeaflets" "archive" "LUnreadLeaflets$Archive;") (by decide +kernel)) rfl dX10_isEven_34 ?_
                        refine lv_iload_n hx hb dX10_isEven_37 rfl (lv_at hl 0 rfl) ?_
                        refine fw_call (va_runV (As := [.int 5]) (rest := [.int (((v 1) 5) + ((v 2) 5))]) ⟨hx, hb, hml, hown, hts⟩ (c_X0_needOfSkipped G hL l ω a v hA c hc hc8 5 hs) (cwV 1 hts gX10_isEven_X0_needOfSkipped rfl rfl rfl (by decide +kernel) ⟨Nat.le_of_ble_eq_true rfl, Nat.le_of_ble_eq_true rfl⟩) (fw_preV hW hK hR h0 rfl) rfl rfl hl.1 rfl (lv_room (Nat.le_of_ble_eq_true rfl)) dX10_isEven_38 ⟨Nat.le_of_ble_eq_true rfl, Nat.le_of_ble_eq_true rfl⟩) hS (fun v_27 ω_28 H locs hq_29 hR hS => ?_)
                        obtain ⟨rfl, hq_29⟩ := hq_29
                        rw [hq_29] at hR
                        refine W.eq (g2 := F0 mI 41 ls [.int (sumJ (fun z9 => needJ v z9 (v 7 z9) 5 (stN v z9)) c), .int (((v 1) 5) + ((v 2) 5))]) rfl ?_
                        refine lv_icmp_eq (tgt := 46) hx hb dX10_isEven_41 (by decide) (fun c_30 => ?_) (fun c_30 => ?_)
                        · skip
                          refine lv_iinc (v := 6) (lv' := [(1, .int 6), (0, .ref x)]) hx hb dX10_isEven_46 hl (k := 0) rfl (by decide) (by decide) rfl (fun ls hl => ?_)
                          refine lv_goto (tgt := 2) hx hb dX10_isEven_49 (by decide) ?_
                          refine lv_iload_n hx hb dX10_isEven_2 rfl (lv_at hl 0 rfl) ?_
                          refine lv_bipush (v := 6) hx hb dX10_isEven_3 (by decide) ?_
                          refine lv_icmp_ge (tgt := 52) hx hb dX10_isEven_5 (by decide) (fun c_31 => ?_) (fun c_31 => ?_)
                          · skip
                            refine lv_iconst (v := 1) hx hb dX10_isEven_52 (by decide) ?_
                            have fr_32 : ∀ q : Nat, True → ω.2 q = ω.2 q := by
                              intro q _
                              rfl
                            have z_33 : ω.1 = ω.1 := rfl
                            have hr_34 : evenC v = (1 : Int32) := by
                              simp only [evenC, hcc, hdd]
                              rw [if_pos c_5, if_pos c_10, if_pos c_15, if_pos c_20, if_pos c_25, if_pos c_30]
                            refine fw_zret hx hb hr rfl hlocks hR hS dX10_isEven_53 (rI_mk hr_34.symm)
                          · skip
                            exact absurd c_31 (by decide)
                        · skip
                          refine lv_iconst (v := 0) hx hb dX10_isEven_44 (by decide) ?_
                          have fr_35 : ∀ q : Nat, True → ω.2 q = ω.2 q := by
                            intro q _
                            rfl
                          have z_36 : ω.1 = ω.1 := rfl
                          have hr_37 : evenC v = (0 : Int32) := by
                            simp only [evenC, hcc, hdd]
                            rw [if_pos c_5, if_pos c_10, if_pos c_15, if_pos c_20, if_pos c_25, if_neg c_30]
                          refine fw_zret hx hb hr rfl hlocks hR hS dX10_isEven_45 (rI_mk hr_37.symm)
                    · skip
                      refine lv_iconst (v := 0) hx hb dX10_isEven_44 (by decide) ?_
                      have fr_38 : ∀ q : Nat, True → ω.2 q = ω.2 q := by
                        intro q _
                        rfl
                      have z_39 : ω.1 = ω.1 := rfl
                      have hr_40 : evenC v = (0 : Int32) := by
                        simp only [evenC, hcc, hdd]
                        rw [if_pos c_5, if_pos c_10, if_pos c_15, if_pos c_20, if_neg c_25]
                      refine fw_zret hx hb hr rfl hlocks hR hS dX10_isEven_45 (rI_mk hr_40.symm)
                · skip
                  refine lv_iconst (v := 0) hx hb dX10_isEven_44 (by decide) ?_
                  have fr_41 : ∀ q : Nat, True → ω.2 q = ω.2 q := by
                    intro q _
                    rfl
                  have z_42 : ω.1 = ω.1 := rfl
                  have hr_43 : evenC v = (0 : Int32) := by
                    simp only [evenC, hcc, hdd]
                    rw [if_pos c_5, if_pos c_10, if_pos c_15, if_neg c_20]
                  refine fw_zret hx hb hr rfl hlocks hR hS dX10_isEven_45 (rI_mk hr_43.symm)
            · skip
              refine lv_iconst (v := 0) hx hb dX10_isEven_44 (by decide) ?_
              have fr_44 : ∀ q : Nat, True → ω.2 q = ω.2 q := by
                intro q _
                rfl
              have z_45 : ω.1 = ω.1 := rfl
              have hr_46 : evenC v = (0 : Int32) := by
                simp only [evenC, hcc, hdd]
                rw [if_pos c_5, if_pos c_10, if_neg c_15]
              refine fw_zret hx hb hr rfl hlocks hR hS dX10_isEven_45 (rI_mk hr_46.symm)
        · skip
          refine lv_iconst (v := 0) hx hb dX10_isEven_44 (by decide) ?_
          have fr_47 : ∀ q : Nat, True → ω.2 q = ω.2 q := by
            intro q _
            rfl
          have z_48 : ω.1 = ω.1 := rfl
          have hr_49 : evenC v = (0 : Int32) := by
            simp only [evenC, hcc, hdd]
            rw [if_pos c_5, if_neg c_10]
          refine fw_zret hx hb hr rfl hlocks hR hS dX10_isEven_45 (rI_mk hr_49.symm)
    · skip
      refine lv_iconst (v := 0) hx hb dX10_isEven_44 (by decide) ?_
      have fr_50 : ∀ q : Nat, True → ω.2 q = ω.2 q := by
        intro q _
        rfl
      have z_51 : ω.1 = ω.1 := rfl
      have hr_52 : evenC v = (0 : Int32) := by
        simp only [evenC, hcc, hdd]
        rw [if_neg c_5]
      refine fw_zret hx hb hr rfl hlocks hR hS dX10_isEven_45 (rI_mk hr_52.symm)
def fposC (v : Nat → Nat → Int32) (tft : Int32) : Int32 := tft
set_option maxHeartbeats 4000000 in
set_option maxRecDepth 100000 in
theorem c_X10_faultPosition (G : FG) (hL : FL G) (l : Launch) (ω : FWd) (x y a hs0 sn tx ln tt : Nat) (v : Nat → Nat → Int32) (hsn : Int32) (hXA : XA x y a hs0 sn tx ln tt) (hx0 : ω.2 x = some (.inr (12, [.ref y, .ref a, .ref (a + 51), .ref hs0, .ref sn, .int hsn, .ref tx, .ref ln, .ref tt]))) (hA : ArcS G ω.2 a v) (hW0 : WF v) (tl tp tc tft : Int32) (ht0 : ω.2 tx = some (.inr (10, [.ref (tx + 1), .int tl, .int tp, .ref (tx + 2), .int tc, .int tft]))) : FMet G l yX10_faultPosition wsX10_faultPosition ({ frames := 0, cells := 0, slots := 0, locals := 0 } : Room) [.ref x] ω (rI (fposC v tft) ω) 0 0 := by
  refine fw_ofW (cc := cX10_faultPosition) (maxL := 1) (ret := (some .int)) (by decide) rfl (Nat.le_of_ble_eq_true rfl) ?_
  intro pP eE sS mI ar9 bl9 meth cD ls hx hb hr hlocks hml hts hown hnm hW hR hl
  have hK := hL.K hW
  have hS : va_S (fwA G) sS.heap sS.heap [] := va_S.rf
  have hin8 : ∀ w ∈ u_ws RX8 TX8 6, w ∈ wsX10_faultPosition := by decide +kernel
  have hin10 : ∀ w ∈ u_ws RX10 TX10 9, w ∈ wsX10_faultPosition := by decide +kernel
  have hl : lv_has ls 1 [(0, .ref x)] := hl
  obtain ⟨h0, h1, h2, h3, h4, h5, hLf, hCo⟩ := id hA
  obtain ⟨hxy, hxa, hxh, hxs, hxt, hxl, hxu⟩ := id hXA
  obtain ⟨c, hc8, hc, hcc⟩ := okN_of hW0.1
  obtain ⟨cc, hd5, hd, hdd⟩ := okN_of hW0.2.1
  have hs : ∀ j, j < c → v 3 j = nI (stN v j) ∧ stN v j ≤ 8 := fun j hj => (hW0.2.2 j (by rw [hcc]; exact hj)).1
  have hfo : ∀ j, j < c → v 4 j = nI (cN (v 4 j)) ∧ cN (v 4 j) ≤ 3 := fun j hj => (hW0.2.2 j (by rw [hcc]; exact hj)).2
  refine lv_aload_n hx hb dX10_faultPosition_0 rfl (lv_at hl 0 rfl) ?_
  refine fw_get (v := .ref tx) (C := RX10) (T := TX10) (N := 9) hx hb hts hin10 hown hK hR hx0 rfl 6 (by decide) (hts (.fieldLink RX10 42 "UnreadLeaflets" "text" "LUnreadLeaflets$Text;") (by decide +kernel)) rfl dX10_faultPosition_1 ?_
  refine fw_get (v := .int tft) (C := RX8) (T := TX8) (N := 6) hx hb hts hin8 hown hK hR ht0 rfl 5 (by decide) (hts (.fieldLink RX10 333 "UnreadLeaflets$Text" "fault" "I") (by decide +kernel)) rfl dX10_faultPosition_4 ?_
  have fr_1 : ∀ q : Nat, True → ω.2 q = ω.2 q := by
    intro q _
    rfl
  have z_2 : ω.1 = ω.1 := rfl
  have hr_3 : fposC v tft = (tft : Int32) := by
    simp only [fposC, hcc, hdd]
  refine fw_iret hx hb hr hlocks hR hS dX10_faultPosition_7 (rI_mk hr_3.symm)
def reasC (v : Nat → Nat → Int32) (k1 : Int32) (k2 : Int32) (k3 : Int32) (wh : Int32) : Int32 × Int32 :=
  if inB wh 0 2 then (if k1 = 0 then ((0, 2)) else (if wh = 0 then ((k1, 0)) else (if wh = 1 then ((k2, 0)) else ((k3, 0))))) else ((0, 1))
set_option maxHeartbeats 4000000 in
set_option maxRecDepth 100000 in
theorem c_X10_reason (G : FG) (hL : FL G) (l : Launch) (hX0 : FX0 G l) (ω : FWd) (x y a hs0 sn tx ln tt : Nat) (v : Nat → Nat → Int32) (hsn : Int32) (hXA : XA x y a hs0 sn tx ln tt) (hx0 : ω.2 x = some (.inr (12, [.ref y, .ref a, .ref (a + 51), .ref hs0, .ref sn, .int hsn, .ref tx, .ref ln, .ref tt]))) (hA : ArcS G ω.2 a v) (hW0 : WF v) (k1 k2 k3 : Int32) (hk0 : ω.2 (a + 51) = some (.inr (9, [.int k1, .int k2, .int k3]))) (wh : Int32) : FMetX G l yX10_reason wsX10_reason ({ frames := 6, cells := 1, slots := 6, locals := 100 } : Room) [.ref x, .int wh] ω (fun vv9 τ9 => vv9 = some (.int (reasC v k1 k2 k3 wh).1) ∧ (reasC v k1 k2 k3 wh).2 = 0 ∧ τ9 = ω) (fun E9 τ9 => XC2 "java/lang/IllegalArgumentException" "java/util/NoSuchElementException" (reasC v k1 k2 k3 wh).2 E9 ∧ τ9.2 = ω.2) 1 6 := by
  refine fx_ofW (cc := cX10_reason) (maxL := 2) (ret := (some .int)) (by decide) rfl (Nat.le_of_ble_eq_true rfl) ?_
  intro pP eE sS mI ar9 bl9 meth cD ls hx hb hr hlocks hml hts hown hnm hW hR ht9 hl
  have hK := hL.K hW
  have hR0 := hR
  have hS : va_S (fwA G) sS.heap sS.heap [] := va_S.rf
  have hin7 : ∀ w ∈ u_ws RX7 TX7 3, w ∈ wsX10_reason := by decide +kernel
  have hin10 : ∀ w ∈ u_ws RX10 TX10 9, w ∈ wsX10_reason := by decide +kernel
  have hl : lv_has ls 2 [(0, .ref x), (1, .int wh)] := hl
  obtain ⟨h0, h1, h2, h3, h4, h5, hLf, hCo⟩ := id hA
  obtain ⟨hxy, hxa, hxh, hxs, hxt, hxl, hxu⟩ := id hXA
  obtain ⟨c, hc8, hc, hcc⟩ := okN_of hW0.1
  obtain ⟨cc, hd5, hd, hdd⟩ := okN_of hW0.2.1
  have hs : ∀ j, j < c → v 3 j = nI (stN v j) ∧ stN v j ≤ 8 := fun j hj => (hW0.2.2 j (by rw [hcc]; exact hj)).1
  have hfo : ∀ j, j < c → v 4 j = nI (cN (v 4 j)) ∧ cN (v 4 j) ≤ 3 := fun j hj => (hW0.2.2 j (by rw [hcc]; exact hj)).2
  refine lv_iload_n hx hb dX10_reason_0 rfl (lv_at hl 1 rfl) ?_
  refine lv_iconst (v := 0) hx hb dX10_reason_1 (by decide) ?_
  refine lv_iconst (v := 2) hx hb dX10_reason_2 (by decide) ?_
  refine fw_call (va_runS (As := [.int wh, .int 0, .int 2]) (rest := []) ⟨hx, hb, hml, hown, hts⟩ (c_X10_isWithin G hL l ω wh 0 2) (va_cwS 3 hts gX10_reason_X10_isWithin rfl rfl rfl (by decide +kernel) ⟨Nat.le_of_ble_eq_true rfl, Nat.le_of_ble_eq_true rfl⟩) (fw_preS hW hR) rfl rfl hl.1 rfl (lv_room (Nat.le_of_ble_eq_true rfl)) dX10_reason_3 ⟨Nat.le_of_ble_eq_true rfl, Nat.le_of_ble_eq_true rfl⟩) hS (fun v_1 ω_2 H locs hq_3 hR hS => ?_)
  obtain ⟨rfl, hq_3⟩ := hq_3
  rw [hq_3] at hR
  refine W.eq (g2 := F0 mI 6 ls [.int (bz (inB wh 0 2))]) rfl ?_
  refine lv_if_ne (tgt := 20) hx hb dX10_reason_6 (by decide) (fun c_4 => ?_) (fun c_4 => ?_)
  · skip
    have c_4 := bz_ne c_4
    refine lv_aload_n hx hb dX10_reason_20 rfl (lv_at hl 0 rfl) ?_
    refine fw_get (v := .ref (a + 51)) (C := RX10) (T := TX10) (N := 9) hx hb hts hin10 hown hK hR hx0 rfl 2 (by decide) (hts (.fieldLink RX10 25 "UnreadLeaflets" "kept" "LUnreadLeaflets$Reason;") (by decide +kernel)) rfl dX10_reason_21 ?_
    refine fw_get (v := .int k1) (C := RX7) (T := TX7) (N := 3) hx hb hts hin7 hown hK hR hk0 rfl 0 (by decide) (hts (.fieldLink RX10 374 "UnreadLeaflets$Reason" "number" "I") (by decide +kernel)) rfl dX10_reason_24 ?_
    refine lv_if_ne (tgt := 41) hx hb dX10_reason_27 (by decide) (fun c_5 => ?_) (fun c_5 => ?_)
    · skip
      refine lv_iload_n hx hb dX10_reason_41 rfl (lv_at hl 1 rfl) ?_
      by_cases c_6 : wh = 0
      · skip
        refine lv_lookup (off := 26) (tgt := 68) hx hb dX10_reason_42 (by decide) (by rw [c_6]; decide) (by decide) ?_
        refine lv_aload_n hx hb dX10_reason_68 rfl (lv_at hl 0 rfl) ?_
        refine fw_get (v := .ref (a + 51)) (C := RX10) (T := TX10) (N := 9) hx hb hts hin10 hown hK hR hx0 rfl 2 (by decide) (hts (.fieldLink RX10 25 "UnreadLeaflets" "kept" "LUnreadLeaflets$Reason;") (by decide +kernel)) rfl dX10_reason_69 ?_
        refine fw_get (v := .int k1) (C := RX7) (T := TX7) (N := 3) hx hb hts hin7 hown hK hR hk0 rfl 0 (by decide) (hts (.fieldLink RX10 374 "UnreadLeaflets$Reason" "number" "I") (by decide +kernel)) rfl dX10_reason_72 ?_
        refine W.widen (k := 1) (n := 6) (by first | omega | decide) (by first | omega | decide) ?_
        refine vx_ret ?_
        have hr_7 : reasC v k1 k2 k3 wh = ((k1, 0) : Int32 × Int32) := by
          simp only [reasC, hcc, hdd]
          rw [if_pos c_4, if_neg c_5, if_pos c_6]
        exact fw_iret hx hb hr hlocks hR hS dX10_reason_75 ⟨by rw [hr_7], by rw [hr_7], rfl⟩
      by_cases c_8 : wh = 1
      · skip
        refine lv_lookup (off := 34) (tgt := 76) hx hb dX10_reason_42 (by decide) (by rw [c_8]; decide) (by decide) ?_
        refine lv_aload_n hx hb dX10_reason_76 rfl (lv_at hl 0 rfl) ?_
        refine fw_get (v := .ref (a + 51)) (C := RX10) (T := TX10) (N := 9) hx hb hts hin10 hown hK hR hx0 rfl 2 (by decide) (hts (.fieldLink RX10 25 "UnreadLeaflets" "kept" "LUnreadLeaflets$Reason;") (by decide +kernel)) rfl dX10_reason_77 ?_
        refine fw_get (v := .int k2) (C := RX7) (T := TX7) (N := 3) hx hb hts hin7 hown hK hR hk0 rfl 1 (by decide) (hts (.fieldLink RX10 379 "UnreadLeaflets$Reason" "detail" "I") (by decide +kernel)) rfl dX10_reason_80 ?_
        refine W.widen (k := 1) (n := 6) (by first | omega | decide) (by first | omega | decide) ?_
        refine vx_ret ?_
        have hr_9 : reasC v k1 k2 k3 wh = ((k2, 0) : Int32 × Int32) := by
          simp only [reasC, hcc, hdd]
          rw [if_pos c_4, if_neg c_5, if_neg c_6, if_pos c_8]
        exact fw_iret hx hb hr hlocks hR hS dX10_reason_83 ⟨by rw [hr_9], by rw [hr_9], rfl⟩
      refine lv_lookup (off := 42) (tgt := 84) hx hb dX10_reason_42 (by decide) (by first | exact (lv_osw c_6 (by decide)).trans ((lv_osw c_8 (by decide))) | (rw [lv_osw c_6 (by decide), lv_osw c_8 (by decide)]; rfl)) (by decide) ?_
      refine lv_aload_n hx hb dX10_reason_84 rfl (lv_at hl 0 rfl) ?_
      refine fw_get (v := .ref (a + 51)) (C := RX10) (T := TX10) (N := 9) hx hb hts hin10 hown hK hR hx0 rfl 2 (by decide) (hts (.fieldLink RX10 25 "UnreadLeaflets" "kept" "LUnreadLeaflets$Reason;") (by decide +kernel)) rfl dX10_reason_85 ?_
      refine fw_get (v := .int k3) (C := RX7) (T := TX7) (N := 3) hx hb hts hin7 hown hK hR hk0 rfl 2 (by decide) (hts (.fieldLink RX10 344 "UnreadLeaflets$Reason" "command" "I") (by decide +kernel)) rfl dX10_reason_88 ?_
      refine W.widen (k := 1) (n := 6) (by first | omega | decide) (by first | omega | decide) ?_
      refine vx_ret ?_
      have hr_10 : reasC v k1 k2 k3 wh = ((k3, 0) : Int32 × Int32) := by
        simp only [reasC, hcc, hdd]
        rw [if_pos c_4, if_neg c_5, if_neg c_6, if_neg c_8]
      exact fw_iret hx hb hr hlocks hR hS dX10_reason_91 ⟨by rw [hr_10], by rw [hr_10], rfl⟩
    · skip
      have hr_11 : reasC v k1 k2 k3 wh = ((0, 2) : Int32 × Int32) := by
        simp only [reasC, hcc, hdd]
        rw [if_pos c_4, if_pos c_5]
      exact fx_throwNW (ω := ω) (τ := ω) (text := "nothing was refused") (ws := wsX10_reason) hx hb hX0 hW hts hown (by decide) (by decide) (by decide +kernel) (by decide +kernel) (by decide) (fun w9 h9 => List.mem_cons_of_mem _ (List.mem_append_right _ h9)) xn_228 xg_228 hR0 hR hS (hl.1.trans hml.symm) dX10_reason_30 dX10_reason_33 dX10_reason_34 dX10_reason_37 dX10_reason_40 ht9 (by decide) (Nat.le_of_ble_eq_true rfl) (Nat.le_of_ble_eq_true rfl) (Nat.le_of_ble_eq_true rfl) hlocks (fun n9 => ⟨by rw [hr_11]; exact Or.inr (⟨rfl, rfl⟩), rfl⟩) (Nat.le_of_ble_eq_true rfl) (Nat.le_of_ble_eq_true rfl)
  · skip
    have c_4 := bz_eq c_4
    have hr_12 : reasC v k1 k2 k3 wh = ((0, 1) : Int32 × Int32) := by
      simp only [reasC, hcc, hdd]
      rw [if_neg c_4]
    exact fx_throwW (ω := ω) (τ := ω) (cls := "java/lang/IllegalArgumentException") (text := "no such number of a reason") (ws := wsX10_reason) hx hb hX0 hW hts hown (by decide) (by decide) (by decide +kernel) (by decide +kernel) (by decide) (fun w9 h9 => List.mem_cons_of_mem _ (List.mem_append_left _ (List.mem_append_right _ h9))) xn_152 xg_152 hR0 hR hS (hl.1.trans hml.symm) dX10_reason_9 dX10_reason_12 dX10_reason_13 dX10_reason_16 dX10_reason_19 ht9 (by decide) (Nat.le_of_ble_eq_true rfl) (Nat.le_of_ble_eq_true rfl) (Nat.le_of_ble_eq_true rfl) hlocks (fun n9 => ⟨by rw [hr_12]; exact Or.inl ⟨rfl, rfl⟩, rfl⟩) (Nat.le_of_ble_eq_true rfl) (Nat.le_of_ble_eq_true rfl)
def accC (v : Nat → Nat → Int32) (ct : Nat) (tl : Int32) (wh : Int32) : Int32 × Int32 :=
  if wh = 0 then ((v 0 0, 0)) else (if wh = 1 then ((v 0 1, 0)) else (if wh = 2 then ((sumJ (fun z9 => v 3 z9) (cN (v 0 0)), 0)) else (if wh = 3 then ((sumJ (fun z9 => if builtB v z9 then 1 else 0) (cN (v 0 0)), 0)) else (if wh = 4 then ((sumJ (v 1) 6, 0)) else (if wh = 5 then ((v 0 2, 0)) else (if wh = 6 then ((v 0 3, 0)) else (if wh = 7 then ((v 0 4, 0)) else (if wh = 8 then ((v 0 5, 0)) else (if wh = 9 then ((nI ct, 0)) else (if wh = 10 then ((tl, 0)) else ((0, 1))))))))))))
set_option maxHeartbeats 4000000 in
set_option maxRecDepth 100000 in
theorem c_X10_account (G : FG) (hL : FL G) (l : Launch) (hX0 : FX0 G l) (ω : FWd) (x y a hs0 sn tx ln tt : Nat) (v : Nat → Nat → Int32) (hsn : Int32) (hXA : XA x y a hs0 sn tx ln tt) (hx0 : ω.2 x = some (.inr (12, [.ref y, .ref a, .ref (a + 51), .ref hs0, .ref sn, .int hsn, .ref tx, .ref ln, .ref tt]))) (hA : ArcS G ω.2 a v) (hW0 : WF v) (p ct : Nat) (hh0 : ω.2 hs0 = some (.inr (6, [.ref (hs0 + 1), .int (nI p), .int (nI ct)]))) (tl tp tc tft : Int32) (ht0 : ω.2 tx = some (.inr (10, [.ref (tx + 1), .int tl, .int tp, .ref (tx + 2), .int tc, .int tft]))) (wh : Int32) : FMetX G l yX10_account wsX10_account ({ frames := 6, cells := 1, slots := 6, locals := 100 } : Room) [.ref x, .int wh] ω (fun vv9 τ9 => vv9 = some (.int (accC v ct tl wh).1) ∧ (accC v ct tl wh).2 = 0 ∧ τ9 = ω) (fun E9 τ9 => XC1 "java/lang/IllegalArgumentException" (accC v ct tl wh).2 E9 ∧ τ9.2 = ω.2) 1 6 := by
  refine fx_ofW (cc := cX10_account) (maxL := 2) (ret := (some .int)) (by decide) rfl (Nat.le_of_ble_eq_true rfl) ?_
  intro pP eE sS mI ar9 bl9 meth cD ls hx hb hr hlocks hml hts hown hnm hW hR ht9 hl
  have hK := hL.K hW
  have hR0 := hR
  have hS : va_S (fwA G) sS.heap sS.heap [] := va_S.rf
  have hin0 : ∀ w ∈ u_ws RX0 TX0 9, w ∈ wsX10_account := by decide +kernel
  have hin4 : ∀ w ∈ u_ws RX4 TX4 3, w ∈ wsX10_account := by decide +kernel
  have hin8 : ∀ w ∈ u_ws RX8 TX8 6, w ∈ wsX10_account := by decide +kernel
  have hin10 : ∀ w ∈ u_ws RX10 TX10 9, w ∈ wsX10_account := by decide +kernel
  have hl : lv_has ls 2 [(0, .ref x), (1, .int wh)] := hl
  obtain ⟨h0, h1, h2, h3, h4, h5, hLf, hCo⟩ := id hA
  obtain ⟨hxy, hxa, hxh, hxs, hxt, hxl, hxu⟩ := id hXA
  obtain ⟨c, hc8, hc, hcc⟩ := okN_of hW0.1
  obtain ⟨cc, hd5, hd, hdd⟩ := okN_of hW0.2.1
  have hs : ∀ j, j < c → v 3 j = nI (stN v j) ∧ stN v j ≤ 8 := fun j hj => (hW0.2.2 j (by rw [hcc]; exact hj)).1
  have hfo : ∀ j, j < c → v 4 j = nI (cN (v 4 j)) ∧ cN (v 4 j) ≤ 3 := fun j hj => (hW0.2.2 j (by rw [hcc]; exact hj)).2
  refine lv_iload_n hx hb dX10_account_0 rfl (lv_at hl 1 rfl) ?_
  by_cases c_1 : wh = 0
  · skip
    refine lv_tableIn (off := 59) (tgt := 60) hx hb dX10_account_1 (by rw [c_1]; decide) (by rw [c_1]; decide) (by rw [c_1]; rfl) (by decide) ?_
    refine lv_aload_n hx hb dX10_account_60 rfl (lv_at hl 0 rfl) ?_
    refine fw_get (v := .ref a) (C := RX10) (T := TX10) (N := 9) hx hb hts hin10 hown hK hR hx0 rfl 1 (by decide) (hts (.fieldLink RX10 20 "UnreadLeaflets" "archive" "LUnreadLeaflets$Archive;") (by decide +kernel)) rfl dX10_account_61 ?_
    refine fw_get (v := .int (v 0 0)) (C := RX0) (T := TX0) (N := 9) hx hb hts hin0 hown hK hR h0 rfl 1 (by decide) (hts (.fieldLink RX10 303 "UnreadLeaflets$Archive" "leafletCount" "I") (by decide +kernel)) rfl dX10_account_64 ?_
    refine W.widen (k := 1) (n := 6) (by first | omega | decide) (by first | omega | decide) ?_
    refine vx_ret ?_
    have hr_2 : accC v ct tl wh = ((v 0 0, 0) : Int32 × Int32) := by
      simp only [accC, hcc, hdd]
      rw [if_pos c_1]
    exact fw_iret hx hb hr hlocks hR hS dX10_account_67 ⟨by rw [hr_2], by rw [hr_2], rfl⟩
  by_cases c_3 : wh = 1
  · skip
    refine lv_tableIn (off := 67) (tgt := 68) hx hb dX10_account_1 (by rw [c_3]; decide) (by rw [c_3]; decide) (by rw [c_3]; rfl) (by decide) ?_
    refine lv_aload_n hx hb dX10_account_68 rfl (lv_at hl 0 rfl) ?_
    refine fw_get (v := .ref a) (C := RX10) (T := TX10) (N := 9) hx hb hts hin10 hown hK hR hx0 rfl 1 (by decide) (hts (.fieldLink RX10 20 "UnreadLeaflets" "archive" "LUnreadLeaflets$Archive;") (by decide +kernel)) rfl dX10_account_69 ?_
    refine fw_get (v := .int (v 0 1)) (C := RX0) (T := TX0) (N := 9) hx hb hts hin0 hown hK hR h0 rfl 3 (by decide) (hts (.fieldLink RX10 258 "UnreadLeaflets$Archive" "cousinCount" "I") (by decide +kernel)) rfl dX10_account_72 ?_
    refine W.widen (k := 1) (n := 6) (by first | omega | decide) (by first | omega | decide) ?_
    refine vx_ret ?_
    have hr_4 : accC v ct tl wh = ((v 0 1, 0) : Int32 × Int32) := by
      simp only [accC, hcc, hdd]
      rw [if_neg c_1, if_pos c_3]
    exact fw_iret hx hb hr hlocks hR hS dX10_account_75 ⟨by rw [hr_4], by rw [hr_4], rfl⟩
  by_cases c_5 : wh = 2
  · skip
    refine lv_tableIn (off := 75) (tgt := 76) hx hb dX10_account_1 (by rw [c_5]; decide) (by rw [c_5]; decide) (by rw [c_5]; rfl) (by decide) ?_
    refine lv_aload_n hx hb dX10_account_76 rfl (lv_at hl 0 rfl) ?_
    refine fw_get (v := .ref a) (C := RX10) (T := TX10) (N := 9) hx hb hts hin10 hown hK hR hx0 rfl 1 (by decide) (hts (.fieldLink RX10 20 "UnreadLeaflets" "archive" "LUnreadLeaflets$Archive;") (by decide +kernel)) rfl dX10_account_77 ?_
    refine fw_call (va_runV (As := []) (rest := []) ⟨hx, hb, hml, hown, hts⟩ (c_X0_stepsOfAll G hL l ω a v hA c hc hc8  ) (cwV 0 hts gX10_account_X0_stepsOfAll rfl rfl rfl (by decide +kernel) ⟨Nat.le_of_ble_eq_true rfl, Nat.le_of_ble_eq_true rfl⟩) (fw_preV hW hK hR h0 rfl) rfl rfl hl.1 rfl (lv_room (Nat.le_of_ble_eq_true rfl)) dX10_account_80 ⟨Nat.le_of_ble_eq_true rfl, Nat.le_of_ble_eq_true rfl⟩) hS (fun v_6 ω_7 H locs hq_8 hR hS => ?_)
    obtain ⟨rfl, hq_8⟩ := hq_8
    rw [hq_8] at hR
    refine W.eq (g2 := F0 mI 83 ls [.int (sumJ (fun z9 => v 3 z9) c)]) rfl ?_
    refine W.widen (k := 1) (n := 6) (by first | omega | decide) (by first | omega | decide) ?_
    refine vx_ret ?_
    have hr_9 : accC v ct tl wh = ((sumJ (fun z9 => v 3 z9) c, 0) : Int32 × Int32) := by
      simp only [accC, hcc, hdd]
      rw [if_neg c_1, if_neg c_3, if_pos c_5]
    exact fw_iret hx hb hr hlocks hR hS dX10_account_83 ⟨by rw [hr_9], by rw [hr_9], rfl⟩
  by_cases c_10 : wh = 3
  · skip
    refine lv_tableIn (off := 83) (tgt := 84) hx hb dX10_account_1 (by rw [c_10]; decide) (by rw [c_10]; decide) (by rw [c_10]; rfl) (by decide) ?_
    refine lv_aload_n hx hb dX10_account_84 rfl (lv_at hl 0 rfl) ?_
    refine fw_get (v := .ref a) (C := RX10) (T := TX10) (N := 9) hx hb hts hin10 hown hK hR hx0 rfl 1 (by decide) (hts (.fieldLink RX10 20 "UnreadLeaflets" "archive" "LUnreadLeaflets$Archive;") (by decide +kernel)) rfl dX10_account_85 ?_
    refine fw_call (va_runV (As := []) (rest := []) ⟨hx, hb, hml, hown, hts⟩ (c_X0_leafletsBuilt G hL l ω a v hA c hc hc8  ) (cwV 0 hts gX10_account_X0_leafletsBuilt rfl rfl rfl (by decide +kernel) ⟨Nat.le_of_ble_eq_true rfl, Nat.le_of_ble_eq_true rfl⟩) (fw_preV hW hK hR h0 rfl) rfl rfl hl.1 rfl (lv_room (Nat.le_of_ble_eq_true rfl)) dX10_account_88 ⟨Nat.le_of_ble_eq_true rfl, Nat.le_of_ble_eq_true rfl⟩) hS (fun v_11 ω_12 H locs hq_13 hR hS => ?_)
    obtain ⟨rfl, hq_13⟩ := hq_13
    rw [hq_13] at hR
    refine W.eq (g2 := F0 mI 91 ls [.int (sumJ (fun z9 => if builtB v z9 then 1 else 0) c)]) rfl ?_
    refine W.widen (k := 1) (n := 6) (by first | omega | decide) (by first | omega | decide) ?_
    refine vx_ret ?_
    have hr_14 : accC v ct tl wh = ((sumJ (fun z9 => if builtB v z9 then 1 else 0) c, 0) : Int32 × Int32) := by
      simp only [accC, hcc, hdd]
      rw [if_neg c_1, if_neg c_3, if_neg c_5, if_pos c_10]
    exact fw_iret hx hb hr hlocks hR hS dX10_account_91 ⟨by rw [hr_14], by rw [hr_14], rfl⟩
  by_cases c_15 : wh = 4
  · skip
    refine lv_tableIn (off := 91) (tgt := 92) hx hb dX10_account_1 (by rw [c_15]; decide) (by rw [c_15]; decide) (by rw [c_15]; rfl) (by decide) ?_
    refine lv_aload_n hx hb dX10_account_92 rfl (lv_at hl 0 rfl) ?_
    refine fw_get (v := .ref a) (C := RX10) (T := TX10) (N := 9) hx hb hts hin10 hown hK hR hx0 rfl 1 (by decide) (hts (.fieldLink RX10 20 "UnreadLeaflets" "archive" "LUnreadLeaflets$Archive;") (by decide +kernel)) rfl dX10_account_93 ?_
    refine fw_get (v := .ref (a + 3)) (C := RX0) (T := TX0) (N := 9) hx hb hts hin0 hown hK hR h0 rfl 4 (by decide) (hts (.fieldLink RX10 273 "UnreadLeaflets$Archive" "tin" "LUnreadLeaflets$Tin;") (by decide +kernel)) rfl dX10_account_96 ?_
    refine fw_call (va_runV (As := []) (rest := []) ⟨hx, hb, hml, hown, hts⟩ (c_X9_allInside G hL l ω (a + 3) (v 1) (v 2) (⟨h3, h4, h5⟩) ) (cwV 0 hts gX10_account_X9_allInside rfl rfl rfl (by decide +kernel) ⟨Nat.le_of_ble_eq_true rfl, Nat.le_of_ble_eq_true rfl⟩) (fw_preV hW hK hR h3 rfl) rfl rfl hl.1 rfl (lv_room (Nat.le_of_ble_eq_true rfl)) dX10_account_99 ⟨Nat.le_of_ble_eq_true rfl, Nat.le_of_ble_eq_true rfl⟩) hS (fun v_16 ω_17 H locs hq_18 hR hS => ?_)
    obtain ⟨rfl, hq_18⟩ := hq_18
    rw [hq_18] at hR
    refine W.eq (g2 := F0 mI 102 ls [.int (sumJ (v 1) 6)]) rfl ?_
    refine W.widen (k := 1) (n := 6) (by first | omega | decide) (by first | omega | decide) ?_
    refine vx_ret ?_
    have hr_19 : accC v ct tl wh = ((sumJ (v 1) 6, 0) : Int32 × Int32) := by
      simp only [accC, hcc, hdd]
      rw [if_neg c_1, if_neg c_3, if_neg c_5, if_neg c_10, if_pos c_15]
    exact fw_iret hx hb hr hlocks hR hS dX10_account_102 ⟨by rw [hr_19], by rw [hr_19], rfl⟩
  by_cases c_20 : wh = 5
  · skip
    refine lv_tableIn (off := 102) (tgt := 103) hx hb dX10_account_1 (by rw [c_20]; decide) (by rw [c_20]; decide) (by rw [c_20]; rfl) (by decide) ?_
    refine lv_aload_n hx hb dX10_account_103 rfl (lv_at hl 0 rfl) ?_
    refine fw_get (v := .ref a) (C := RX10) (T := TX10) (N := 9) hx hb hts hin10 hown hK hR hx0 rfl 1 (by decide) (hts (.fieldLink RX10 20 "UnreadLeaflets" "archive" "LUnreadLeaflets$Archive;") (by decide +kernel)) rfl dX10_account_104 ?_
    refine fw_get (v := .int (v 0 2)) (C := RX0) (T := TX0) (N := 9) hx hb hts hin0 hown hK hR h0 rfl 5 (by decide) (hts (.fieldLink RX10 417 "UnreadLeaflets$Archive" "buildingsSoFar" "I") (by decide +kernel)) rfl dX10_account_107 ?_
    refine W.widen (k := 1) (n := 6) (by first | omega | decide) (by first | omega | decide) ?_
    refine vx_ret ?_
    have hr_21 : accC v ct tl wh = ((v 0 2, 0) : Int32 × Int32) := by
      simp only [accC, hcc, hdd]
      rw [if_neg c_1, if_neg c_3, if_neg c_5, if_neg c_10, if_neg c_15, if_pos c_20]
    exact fw_iret hx hb hr hlocks hR hS dX10_account_110 ⟨by rw [hr_21], by rw [hr_21], rfl⟩
  by_cases c_22 : wh = 6
  · skip
    refine lv_tableIn (off := 110) (tgt := 111) hx hb dX10_account_1 (by rw [c_22]; decide) (by rw [c_22]; decide) (by rw [c_22]; rfl) (by decide) ?_
    refine lv_aload_n hx hb dX10_account_111 rfl (lv_at hl 0 rfl) ?_
    refine fw_get (v := .ref a) (C := RX10) (T := TX10) (N := 9) hx hb hts hin10 hown hK hR hx0 rfl 1 (by decide) (hts (.fieldLink RX10 20 "UnreadLeaflets" "archive" "LUnreadLeaflets$Archive;") (by decide +kernel)) rfl dX10_account_112 ?_
    refine fw_get (v := .int (v 0 3)) (C := RX0) (T := TX0) (N := 9) hx hb hts hin0 hown hK hR h0 rfl 6 (by decide) (hts (.fieldLink RX10 420 "UnreadLeaflets$Archive" "skippedSoFar" "I") (by decide +kernel)) rfl dX10_account_115 ?_
    refine W.widen (k := 1) (n := 6) (by first | omega | decide) (by first | omega | decide) ?_
    refine vx_ret ?_
    have hr_23 : accC v ct tl wh = ((v 0 3, 0) : Int32 × Int32) := by
      simp only [accC, hcc, hdd]
      rw [if_neg c_1, if_neg c_3, if_neg c_5, if_neg c_10, if_neg c_15, if_neg c_20, if_pos c_22]
    exact fw_iret hx hb hr hlocks hR hS dX10_account_118 ⟨by rw [hr_23], by rw [hr_23], rfl⟩
  by_cases c_24 : wh = 7
  · skip
    refine lv_tableIn (off := 118) (tgt := 119) hx hb dX10_account_1 (by rw [c_24]; decide) (by rw [c_24]; decide) (by rw [c_24]; rfl) (by decide) ?_
    refine lv_aload_n hx hb dX10_account_119 rfl (lv_at hl 0 rfl) ?_
    refine fw_get (v := .ref a) (C := RX10) (T := TX10) (N := 9) hx hb hts hin10 hown hK hR hx0 rfl 1 (by decide) (hts (.fieldLink RX10 20 "UnreadLeaflets" "archive" "LUnreadLeaflets$Archive;") (by decide +kernel)) rfl dX10_account_120 ?_
    refine fw_get (v := .int (v 0 4)) (C := RX0) (T := TX0) (N := 9) hx hb hts hin0 hown hK hR h0 rfl 7 (by decide) (hts (.fieldLink RX10 423 "UnreadLeaflets$Archive" "doneLaterSoFar" "I") (by decide +kernel)) rfl dX10_account_123 ?_
    refine W.widen (k := 1) (n := 6) (by first | omega | decide) (by first | omega | decide) ?_
    refine vx_ret ?_
    have hr_25 : accC v ct tl wh = ((v 0 4, 0) : Int32 × Int32) := by
      simp only [accC, hcc, hdd]
      rw [if_neg c_1, if_neg c_3, if_neg c_5, if_neg c_10, if_neg c_15, if_neg c_20, if_neg c_22, if_pos c_24]
    exact fw_iret hx hb hr hlocks hR hS dX10_account_126 ⟨by rw [hr_25], by rw [hr_25], rfl⟩
  by_cases c_26 : wh = 8
  · skip
    refine lv_tableIn (off := 126) (tgt := 127) hx hb dX10_account_1 (by rw [c_26]; decide) (by rw [c_26]; decide) (by rw [c_26]; rfl) (by decide) ?_
    refine lv_aload_n hx hb dX10_account_127 rfl (lv_at hl 0 rfl) ?_
    refine fw_get (v := .ref a) (C := RX10) (T := TX10) (N := 9) hx hb hts hin10 hown hK hR hx0 rfl 1 (by decide) (hts (.fieldLink RX10 20 "UnreadLeaflets" "archive" "LUnreadLeaflets$Archive;") (by decide +kernel)) rfl dX10_account_128 ?_
    refine fw_get (v := .int (v 0 5)) (C := RX0) (T := TX0) (N := 9) hx hb hts hin0 hown hK hR h0 rfl 8 (by decide) (hts (.fieldLink RX10 426 "UnreadLeaflets$Archive" "takenApartSoFar" "I") (by decide +kernel)) rfl dX10_account_131 ?_
    refine W.widen (k := 1) (n := 6) (by first | omega | decide) (by first | omega | decide) ?_
    refine vx_ret ?_
    have hr_27 : accC v ct tl wh = ((v 0 5, 0) : Int32 × Int32) := by
      simp only [accC, hcc, hdd]
      rw [if_neg c_1, if_neg c_3, if_neg c_5, if_neg c_10, if_neg c_15, if_neg c_20, if_neg c_22, if_neg c_24, if_pos c_26]
    exact fw_iret hx hb hr hlocks hR hS dX10_account_134 ⟨by rw [hr_27], by rw [hr_27], rfl⟩
  by_cases c_28 : wh = 9
  · skip
    refine lv_tableIn (off := 134) (tgt := 135) hx hb dX10_account_1 (by rw [c_28]; decide) (by rw [c_28]; decide) (by rw [c_28]; rfl) (by decide) ?_
    refine lv_aload_n hx hb dX10_account_135 rfl (lv_at hl 0 rfl) ?_
    refine fw_get (v := .ref hs0) (C := RX10) (T := TX10) (N := 9) hx hb hts hin10 hown hK hR hx0 rfl 3 (by decide) (hts (.fieldLink RX10 29 "UnreadLeaflets" "history" "LUnreadLeaflets$History;") (by decide +kernel)) rfl dX10_account_136 ?_
    refine fw_get (v := .int (nI ct)) (C := RX4) (T := TX4) (N := 3) hx hb hts hin4 hown hK hR hh0 rfl 2 (by decide) (hts (.fieldLink RX10 429 "UnreadLeaflets$History" "count" "I") (by decide +kernel)) rfl dX10_account_139 ?_
    refine W.widen (k := 1) (n := 6) (by first | omega | decide) (by first | omega | decide) ?_
    refine vx_ret ?_
    have hr_29 : accC v ct tl wh = ((nI ct, 0) : Int32 × Int32) := by
      simp only [accC, hcc, hdd]
      rw [if_neg c_1, if_neg c_3, if_neg c_5, if_neg c_10, if_neg c_15, if_neg c_20, if_neg c_22, if_neg c_24, if_neg c_26, if_pos c_28]
    exact fw_iret hx hb hr hlocks hR hS dX10_account_142 ⟨by rw [hr_29], by rw [hr_29], rfl⟩
  by_cases c_30 : wh = 10
  · skip
    refine lv_tableIn (off := 142) (tgt := 143) hx hb dX10_account_1 (by rw [c_30]; decide) (by rw [c_30]; decide) (by rw [c_30]; rfl) (by decide) ?_
    refine lv_aload_n hx hb dX10_account_143 rfl (lv_at hl 0 rfl) ?_
    refine fw_get (v := .ref tx) (C := RX10) (T := TX10) (N := 9) hx hb hts hin10 hown hK hR hx0 rfl 6 (by decide) (hts (.fieldLink RX10 42 "UnreadLeaflets" "text" "LUnreadLeaflets$Text;") (by decide +kernel)) rfl dX10_account_144 ?_
    refine fw_get (v := .int tl) (C := RX8) (T := TX8) (N := 6) hx hb hts hin8 hown hK hR ht0 rfl 1 (by decide) (hts (.fieldLink RX10 432 "UnreadLeaflets$Text" "length" "I") (by decide +kernel)) rfl dX10_account_147 ?_
    refine W.widen (k := 1) (n := 6) (by first | omega | decide) (by first | omega | decide) ?_
    refine vx_ret ?_
    have hr_31 : accC v ct tl wh = ((tl, 0) : Int32 × Int32) := by
      simp only [accC, hcc, hdd]
      rw [if_neg c_1, if_neg c_3, if_neg c_5, if_neg c_10, if_neg c_15, if_neg c_20, if_neg c_22, if_neg c_24, if_neg c_26, if_neg c_28, if_pos c_30]
    exact fw_iret hx hb hr hlocks hR hS dX10_account_150 ⟨by rw [hr_31], by rw [hr_31], rfl⟩
  have tc_1 := lv_neT c_1 (show (0 : Int32).toInt = 0 by decide)
  have tc_3 := lv_neT c_3 (show (1 : Int32).toInt = 1 by decide)
  have tc_5 := lv_neT c_5 (show (2 : Int32).toInt = 2 by decide)
  have tc_10 := lv_neT c_10 (show (3 : Int32).toInt = 3 by decide)
  have tc_15 := lv_neT c_15 (show (4 : Int32).toInt = 4 by decide)
  have tc_20 := lv_neT c_20 (show (5 : Int32).toInt = 5 by decide)
  have tc_22 := lv_neT c_22 (show (6 : Int32).toInt = 6 by decide)
  have tc_24 := lv_neT c_24 (show (7 : Int32).toInt = 7 by decide)
  have tc_26 := lv_neT c_26 (show (8 : Int32).toInt = 8 by decide)
  have tc_28 := lv_neT c_28 (show (9 : Int32).toInt = 9 by decide)
  have tc_30 := lv_neT c_30 (show (10 : Int32).toInt = 10 by decide)
  refine lv_tableOut (tgt := 151) hx hb dX10_account_1 (by omega) (by decide) ?_
  have hr_32 : accC v ct tl wh = ((0, 1) : Int32 × Int32) := by
    simp only [accC, hcc, hdd]
    rw [if_neg c_1, if_neg c_3, if_neg c_5, if_neg c_10, if_neg c_15, if_neg c_20, if_neg c_22, if_neg c_24, if_neg c_26, if_neg c_28, if_neg c_30]
  exact fx_throwW (ω := ω) (τ := ω) (cls := "java/lang/IllegalArgumentException") (text := "no such account") (ws := wsX10_account) hx hb hX0 hW hts hown (by decide) (by decide) (by decide +kernel) (by decide +kernel) (by decide) (fun w9 h9 => List.mem_cons_of_mem _ (List.mem_append_right _ h9)) xn_152 xg_152 hR0 hR hS (hl.1.trans hml.symm) dX10_account_151 dX10_account_154 dX10_account_155 dX10_account_158 dX10_account_161 ht9 (by decide) (Nat.le_of_ble_eq_true rfl) (Nat.le_of_ble_eq_true rfl) (Nat.le_of_ble_eq_true rfl) hlocks (fun n9 => ⟨by rw [hr_32]; exact ⟨rfl, rfl⟩, rfl⟩) (Nat.le_of_ble_eq_true rfl) (Nat.le_of_ble_eq_true rfl)
def meanC (v : Nat → Nat → Int32) : UInt64 × Int32 :=
  if (v 0 0) = 0 then ((FP.dconst0, 1)) else ((FP.ddiv (FP.i2d (sumJ (fun z9 => v 3 z9) (cN (v 0 0)))) (FP.i2d (v 0 0)), 0))
def shareC (v : Nat → Nat → Int32) : UInt32 × Int32 :=
  if (sumJ (fun z9 => if builtB v z9 then v 3 z9 else 0) (cN (v 0 0))) = 0 then ((FP.fconst0, 1)) else ((FP.fdiv (FP.i2f (sumJ (fun z9 => popF (v 7 z9)) (cN (v 0 0)))) (FP.i2f (sumJ (fun z9 => if builtB v z9 then v 3 z9 else 0) (cN (v 0 0)))), 0))
set_option maxHeartbeats 4000000 in
set_option maxRecDepth 100000 in
theorem c_X10_skippedShare (G : FG) (hL : FL G) (l : Launch) (hX0 : FX0 G l) (ω : FWd) (x y a hs0 sn tx ln tt : Nat) (v : Nat → Nat → Int32) (hsn : Int32) (hXA : XA x y a hs0 sn tx ln tt) (hx0 : ω.2 x = some (.inr (12, [.ref y, .ref a, .ref (a + 51), .ref hs0, .ref sn, .int hsn, .ref tx, .ref ln, .ref tt]))) (hA : ArcS G ω.2 a v) (hW0 : WF v) (hD : ¬ sumJ (fun z9 => if builtB v z9 then v 3 z9 else 0) (cN (v 0 0)) = 0 → vf_n32 (FP.fdiv (FP.i2f (sumJ (fun z9 => popF (v 7 z9)) (cN (v 0 0)))) (FP.i2f (sumJ (fun z9 => if builtB v z9 then v 3 z9 else 0) (cN (v 0 0)))))) : FMetX G l yX10_skippedShare wsX10_skippedShare ({ frames := 6, cells := 1, slots := 6, locals := 100 } : Room) [.ref x] ω (fun vv9 τ9 => vv9 = some (.float (shareC v).1) ∧ (shareC v).2 = 0 ∧ τ9 = ω) (fun E9 τ9 => XC1 "java/lang/ArithmeticException" (shareC v).2 E9 ∧ τ9.2 = ω.2) 1 6 := by
  refine fx_ofW (cc := cX10_skippedShare) (maxL := 2) (ret := (some .float)) (by decide) rfl (Nat.le_of_ble_eq_true rfl) ?_
  intro pP eE sS mI ar9 bl9 meth cD ls hx hb hr hlocks hml hts hown hnm hW hR ht9 hl
  have hK := hL.K hW
  have hR0 := hR
  have hS : va_S (fwA G) sS.heap sS.heap [] := va_S.rf
  have hin10 : ∀ w ∈ u_ws RX10 TX10 9, w ∈ wsX10_skippedShare := by decide +kernel
  have hl : lv_has ls 2 [(0, .ref x)] := hl
  obtain ⟨h0, h1, h2, h3, h4, h5, hLf, hCo⟩ := id hA
  obtain ⟨hxy, hxa, hxh, hxs, hxt, hxl, hxu⟩ := id hXA
  obtain ⟨c, hc8, hc, hcc⟩ := okN_of hW0.1
  obtain ⟨cc, hd5, hd, hdd⟩ := okN_of hW0.2.1
  have hs : ∀ j, j < c → v 3 j = nI (stN v j) ∧ stN v j ≤ 8 := fun j hj => (hW0.2.2 j (by rw [hcc]; exact hj)).1
  have hfo : ∀ j, j < c → v 4 j = nI (cN (v 4 j)) ∧ cN (v 4 j) ≤ 3 := fun j hj => (hW0.2.2 j (by rw [hcc]; exact hj)).2
  refine lv_aload_n hx hb dX10_skippedShare_0 rfl (lv_at hl 0 rfl) ?_
  refine fw_get (v := .ref a) (C := RX10) (T := TX10) (N := 9) hx hb hts hin10 hown hK hR hx0 rfl 1 (by decide) (hts (.fieldLink RX10 20 "UnreadLeaflets" "archive" "LUnreadLeaflets$Archive;") (by decide +kernel)) rfl dX10_skippedShare_1 ?_
  refine fw_call (va_runV (As := []) (rest := []) ⟨hx, hb, hml, hown, hts⟩ (c_X0_stepsOfBuilt G hL l ω a v hA c hc hc8  ) (cwV 0 hts gX10_skippedShare_X0_stepsOfBuilt rfl rfl rfl (by decide +kernel) ⟨Nat.le_of_ble_eq_true rfl, Nat.le_of_ble_eq_true rfl⟩) (fw_preV hW hK hR h0 rfl) rfl rfl hl.1 rfl (lv_room (Nat.le_of_ble_eq_true rfl)) dX10_skippedShare_4 ⟨Nat.le_of_ble_eq_true rfl, Nat.le_of_ble_eq_true rfl⟩) hS (fun v_1 ω_2 H locs hq_3 hR hS => ?_)
  obtain ⟨rfl, hq_3⟩ := hq_3
  rw [hq_3] at hR
  refine W.eq (g2 := F0 mI 7 ls [.int (sumJ (fun z9 => if builtB v z9 then v 3 z9 else 0) c)]) rfl ?_
  refine lv_istore_n (lv' := [(1, .int (sumJ (fun z9 => if builtB v z9 then v 3 z9 else 0) c)), (0, .ref x)]) hx hb dX10_skippedShare_7 rfl hl (by decide) rfl (fun ls hl => ?_)
  refine lv_iload_n hx hb dX10_skippedShare_8 rfl (lv_at hl 0 rfl) ?_
  refine lv_if_ne (tgt := 23) hx hb dX10_skippedShare_9 (by decide) (fun c_4 => ?_) (fun c_4 => ?_)
  · skip
    refine lv_aload_n hx hb dX10_skippedShare_23 rfl (lv_at hl 1 rfl) ?_
    refine fw_get (v := .ref a) (C := RX10) (T := TX10) (N := 9) hx hb hts hin10 hown hK hR hx0 rfl 1 (by decide) (hts (.fieldLink RX10 20 "UnreadLeaflets" "archive" "LUnreadLeaflets$Archive;") (by decide +kernel)) rfl dX10_skippedShare_24 ?_
    refine fw_call (va_runV (As := []) (rest := []) ⟨hx, hb, hml, hown, hts⟩ (c_X0_stepsSkipped G hL l ω a v hA c hc hc8  ) (cwV 0 hts gX10_skippedShare_X0_stepsSkipped rfl rfl rfl (by decide +kernel) ⟨Nat.le_of_ble_eq_true rfl, Nat.le_of_ble_eq_true rfl⟩) (fw_preV hW hK hR h0 rfl) rfl rfl hl.1 rfl (lv_room (Nat.le_of_ble_eq_true rfl)) dX10_skippedShare_27 ⟨Nat.le_of_ble_eq_true rfl, Nat.le_of_ble_eq_true rfl⟩) hS (fun v_5 ω_6 H locs hq_7 hR hS => ?_)
    obtain ⟨rfl, hq_7⟩ := hq_7
    rw [hq_7] at hR
    refine W.eq (g2 := F0 mI 30 ls [.int (sumJ (fun z9 => popF (v 7 z9)) c)]) rfl ?_
    refine lv_i2f hx hb dX10_skippedShare_30 ?_
    refine lv_iload_n hx hb dX10_skippedShare_31 rfl (lv_at hl 0 rfl) ?_
    refine lv_i2f hx hb dX10_skippedShare_32 ?_
    refine lv_fdiv hx hb dX10_skippedShare_33 (by rw [hcc] at hD; exact hD c_4) ?_
    refine W.widen (k := 1) (n := 6) (by first | omega | decide) (by first | omega | decide) ?_
    refine vx_ret ?_
    have hr_8 : shareC v = ((FP.fdiv (FP.i2f (sumJ (fun z9 => popF (v 7 z9)) c)) (FP.i2f (sumJ (fun z9 => if builtB v z9 then v 3 z9 else 0) c)), 0) : UInt32 × Int32) := by
      simp only [shareC, hcc, hdd]
      rw [if_neg c_4]
    exact fw_fret hx hb hr hlocks hR hS dX10_skippedShare_34 ⟨by rw [hr_8], by rw [hr_8], rfl⟩
  · skip
    have hr_9 : shareC v = ((FP.fconst0, 1) : UInt32 × Int32) := by
      simp only [shareC, hcc, hdd]
      rw [if_pos c_4]
    exact fx_throwW (ω := ω) (τ := ω) (cls := "java/lang/ArithmeticException") (text := "no leaflet with steps is built") (ws := wsX10_skippedShare) hx hb hX0 hW hts hown (by decide) (by decide) (by decide +kernel) (by decide +kernel) (by decide) (fun w9 h9 => List.mem_cons_of_mem _ (List.mem_append_right _ h9)) xn_399 xg_399 hR0 hR hS (hl.1.trans hml.symm) dX10_skippedShare_12 dX10_skippedShare_15 dX10_skippedShare_16 dX10_skippedShare_19 dX10_skippedShare_22 ht9 (by decide) (Nat.le_of_ble_eq_true rfl) (Nat.le_of_ble_eq_true rfl) (Nat.le_of_ble_eq_true rfl) hlocks (fun n9 => ⟨by rw [hr_9]; exact ⟨rfl, rfl⟩, rfl⟩) (Nat.le_of_ble_eq_true rfl) (Nat.le_of_ble_eq_true rfl)
