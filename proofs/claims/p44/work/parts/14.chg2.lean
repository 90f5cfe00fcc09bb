/-! ===== printed by program (wip/whole/gen): the changes, the longer ones ===== -/
set_option maxHeartbeats 4000000 in
set_option maxRecDepth 100000 in
theorem c_X1_changeFolds (G : FG) (hL : FL G) (l : Launch) (ω : FWd) (y a : Nat) (v : Nat → Nat → Int32) (k1 k2 k3 : Int32) (hy : ω.2 y = some (.inr (3, [.ref a, .ref (a + 51)]))) (hay : a = y + 1) (hA : ArcS G ω.2 a v) (hk : ω.2 (a + 51) = some (.inr (9, [.int k1, .int k2, .int k3]))) (hW0 : WF v) (m by_ : Int32) : FMet G l yX1_changeFolds wsX1_changeFolds ({ frames := 2, cells := 0, slots := 0, locals := 43 } : Room) [.ref y, .int m, .int by_] ω (CQ G a ω (foldC v k1 k2 k3 m by_)) 0 0 := by
  refine fw_ofW (cc := cX1_changeFolds) (maxL := 5) (ret := (some .int)) (by decide) rfl (Nat.le_of_ble_eq_true rfl) ?_
  intro pP eE sS mI ar9 bl9 meth cD ls hx hb hr hlocks hml hts hown hnm hW hR hl
  have hK := hL.K hW
  have hS : va_S (fwA G) sS.heap sS.heap [] := va_S.rf
  have hin0 : ∀ w ∈ u_ws RX0 TX0 9, w ∈ wsX1_changeFolds := by decide +kernel
  have hin1 : ∀ w ∈ u_ws RX1 TX1 2, w ∈ wsX1_changeFolds := by decide +kernel
  have hin5 : ∀ w ∈ u_ws RX5 TX5 9, w ∈ wsX1_changeFolds := by decide +kernel
  have hl : lv_has ls 5 [(0, .ref y), (1, .int m), (2, .int by_)] := hl
  obtain ⟨h0, h1, h2, h3, h4, h5, hLf, hCo⟩ := id hA
  obtain ⟨c, hc8, hc, hcc⟩ := okN_of hW0.1
  obtain ⟨cc, hd5, hd, hdd⟩ := okN_of hW0.2.1
  have hs : ∀ j, j < c → v 3 j = nI (stN v j) ∧ stN v j ≤ 8 := fun j hj => (hW0.2.2 j (by rw [hcc]; exact hj)).1
  have hfo : ∀ j, j < c → v 4 j = nI (cN (v 4 j)) ∧ cN (v 4 j) ≤ 3 := fun j hj => (hW0.2.2 j (by rw [hcc]; exact hj)).2
  refine lv_aload_n hx hb dX1_changeFolds_0 rfl (lv_at hl 0 rfl) ?_
  refine fw_get (v := .ref a) (C := RX1) (T := TX1) (N := 2) hx hb hts hin1 hown hK hR hy rfl 0 (by decide) (hts (.fieldLink RX1 12 "UnreadLeaflets$Changes" "archive" "LUnreadLeaflets$Archive;") (by decide +kernel)) rfl dX1_changeFolds_1 ?_
  refine lv_iload_n hx hb dX1_changeFolds_4 rfl (lv_at hl 1 rfl) ?_
  refine fw_call (va_runV (As := [.int m]) (rest := []) ⟨hx, hb, hml, hown, hts⟩ (c_X0_hasLeaflet G hL l ω a v hA  m ) (cwV 1 hts gX1_changeFolds_X0_hasLeaflet rfl rfl rfl (by decide +kernel) ⟨Nat.le_of_ble_eq_true rfl, Nat.le_of_ble_eq_true rfl⟩) (fw_preV hW hK hR h0 rfl) rfl rfl hl.1 rfl (lv_room (Nat.le_of_ble_eq_true rfl)) dX1_changeFolds_5 ⟨Nat.le_of_ble_eq_true rfl, Nat.le_of_ble_eq_true rfl⟩) hS (fun v_1 ω_2 H locs hq_3 hR hS => ?_)
  obtain ⟨rfl, hq_3⟩ := hq_3
  rw [hq_3] at hR
  refine W.eq (g2 := F0 mI 8 ls [.int (bz (inB m 0 (v 0 0 - 1)))]) rfl ?_
  refine lv_if_ne (tgt := 16) hx hb dX1_changeFolds_8 (by decide) (fun c_4 => ?_) (fun c_4 => ?_)
  · skip
    have c_4 := bz_ne c_4
    obtain ⟨j, hj2, rfl⟩ := in_c hc hc8 c_4
    have hcj : cN (nI j) = j := cN_nI (by omega)
    refine lv_aload_n hx hb dX1_changeFolds_16 rfl (lv_at hl 0 rfl) ?_
    refine fw_get (v := .ref a) (C := RX1) (T := TX1) (N := 2) hx hb hts hin1 hown hK hR hy rfl 0 (by decide) (hts (.fieldLink RX1 12 "UnreadLeaflets$Changes" "archive" "LUnreadLeaflets$Archive;") (by decide +kernel)) rfl dX1_changeFolds_17 ?_
    refine fw_get (v := .ref (a + 1)) (C := RX0) (T := TX0) (N := 9) hx hb hts hin0 hown hK hR h0 rfl 0 (by decide) (hts (.fieldLink RX1 43 "UnreadLeaflets$Archive" "leaflets" "[LUnreadLeaflets$Leaflet;") (by decide +kernel)) rfl dX1_changeFolds_20 ?_
    refine lv_iload_n hx hb dX1_changeFolds_23 rfl (lv_at hl 1 rfl) ?_
    refine fw_aald (b := a + 6 + 5 * j) hx hb hK hR h1 rfl (vp_in_nI (by omega) (by omega)) (by rw [nI_clamp (by omega)]) dX1_changeFolds_24 ?_
    refine lv_astore_n (lv' := [(3, .ref (a + 6 + 5 * j)), (0, .ref y), (1, .int (nI j)), (2, .int by_)]) hx hb dX1_changeFolds_25 rfl hl (by decide) rfl (fun ls hl => ?_)
    refine lv_aload_n hx hb dX1_changeFolds_26 rfl (lv_at hl 0 rfl) ?_
    have f_5 : ω.2 (a + 6 + 5 * j) = some (.inr (7, [.int (v 3 j), .int (v 4 j), .int (v 5 j), .int (v 6 j - 1), .int (v 7 j), .ref (a + 6 + 5 * j + 1), .ref (a + 6 + 5 * j + 2), .ref (a + 6 + 5 * j + 3), .ref (a + 6 + 5 * j + 4)])) := (hLf j (by omega)).1
    refine fw_call (va_runV (As := []) (rest := []) ⟨hx, hb, hml, hown, hts⟩ (c_X5_isBuilt G hL l ω (a + 6 + 5 * j) j v (hLf j (by omega))  ) (cwV 0 hts gX1_changeFolds_X5_isBuilt rfl rfl rfl (by decide +kernel) ⟨Nat.le_of_ble_eq_true rfl, Nat.le_of_ble_eq_true rfl⟩) (fw_preV hW hK hR f_5 rfl) rfl rfl hl.1 rfl (lv_room (Nat.le_of_ble_eq_true rfl)) dX1_changeFolds_27 ⟨Nat.le_of_ble_eq_true rfl, Nat.le_of_ble_eq_true rfl⟩) hS (fun v_6 ω_7 H locs hq_8 hR hS => ?_)
    obtain ⟨rfl, hq_8⟩ := hq_8
    rw [hq_8] at hR
    refine W.eq (g2 := F0 mI 30 ls [.int (bz (¬ v 6 j - 1 = (-1)))]) rfl ?_
    refine lv_if_eq (tgt := 47) hx hb dX1_changeFolds_30 (by decide) (fun c_9 => ?_) (fun c_9 => ?_)
    · skip
      have c_9 := bz_eq c_9
      refine lv_aload_n hx hb dX1_changeFolds_47 rfl (lv_at hl 0 rfl) ?_
      refine fw_get (v := .int (v 4 j)) (C := RX5) (T := TX5) (N := 9) hx hb hts hin5 hown hK hR f_5 rfl 1 (by decide) (hts (.fieldLink RX1 87 "UnreadLeaflets$Leaflet" "folds" "I") (by decide +kernel)) rfl dX1_changeFolds_48 ?_
      refine lv_iload_n hx hb dX1_changeFolds_51 rfl (lv_at hl 3 rfl) ?_
      refine lv_iadd hx hb dX1_changeFolds_52 ?_
      refine lv_topi (fun x_10 ex_10 => ?_)
      refine lv_istore (lv' := [(4, .int x_10), (3, .ref (a + 6 + 5 * j)), (0, .ref y), (1, .int (nI j)), (2, .int by_)]) hx hb dX1_changeFolds_53 hl (by decide) rfl (fun ls hl => ?_)
      refine lv_iload hx hb dX1_changeFolds_55 (lv_at hl 0 rfl) ?_
      refine lv_iconst (v := 0) hx hb dX1_changeFolds_57 (by decide) ?_
      refine lv_iconst (v := 3) hx hb dX1_changeFolds_58 (by decide) ?_
      refine fw_call (va_runSN (As := [.int x_10, .int 0, .int 3]) (rest := []) ⟨hx, hb, hml, hown, hts⟩ (c_X10_isWithin G hL l ω x_10 0 3) ⟨va_cnB 3 hts gX1_changeFolds_X10_isWithin_n60 rfl rfl rfl (hL.N hW (hh := RX10) (by decide +kernel)) (hts (.initialized RX10) (by decide +kernel)) (by decide +kernel) ⟨Nat.le_of_ble_eq_true rfl, Nat.le_of_ble_eq_true rfl⟩, hts (.static yX10_isWithin) (by decide +kernel), trivial⟩ (fw_preS hW hR) rfl rfl hl.1 rfl (lv_room (Nat.le_of_ble_eq_true rfl)) dX1_changeFolds_59 ⟨Nat.le_of_ble_eq_true rfl, Nat.le_of_ble_eq_true rfl⟩) hS (fun v_11 ω_12 H locs hq_13 hR hS => ?_)
      obtain ⟨rfl, hq_13⟩ := hq_13
      rw [hq_13] at hR
      refine W.eq (g2 := F0 mI 62 ls [.int (bz (inB x_10 0 3))]) rfl ?_
      refine lv_if_ne (tgt := 79) hx hb dX1_changeFolds_62 (by decide) (fun c_14 => ?_) (fun c_14 => ?_)
      · skip
        have c_14 := bz_ne c_14
        obtain ⟨f0, hf03, hff⟩ := in_n (n := 3) (by decide) c_14
        have hcf : cN x_10 = f0 := by rw [hff]; exact cN_nI (by omega)
        refine lv_aload_n hx hb dX1_changeFolds_79 rfl (lv_at hl 1 rfl) ?_
        refine lv_iload hx hb dX1_changeFolds_80 (lv_at hl 0 rfl) ?_
        refine fw_put (v := .int x_10) (C := RX5) (T := TX5) (N := 9) hx hb hts hin5 tyX5 tyX5_ok nmX5 hown hK hR hS f_5 rfl 1 (by decide) (hts (.fieldLink RX1 87 "UnreadLeaflets$Leaflet" "folds" "I") (by decide +kernel)) rfl rfl rfl (Nat.le_of_ble_eq_true rfl) dX1_changeFolds_82 (fun H locs hR hS => ?_)
        obtain ⟨ω_15, hw_16⟩ : ∃ τ : FWd, τ = (ω.1, va_up ω.2 (a + 6 + 5 * j) (some (.inr (7, [.int (v 3 j), .int x_10, .int (v 5 j), .int (v 6 j - 1), .int (v 7 j), .ref (a + 6 + 5 * j + 1), .ref (a + 6 + 5 * j + 2), .ref (a + 6 + 5 * j + 3), .ref (a + 6 + 5 * j + 4)])))) := ⟨_, rfl⟩
        have hR : fR G ω_15 H := by rw [hw_16]; exact hR
        have f_17 : ω_15.2 (a + 6 + 5 * j) = some (.inr (7, [.int (v 3 j), .int x_10, .int (v 5 j), .int (v 6 j - 1), .int (v 7 j), .ref (a + 6 + 5 * j + 1), .ref (a + 6 + 5 * j + 2), .ref (a + 6 + 5 * j + 3), .ref (a + 6 + 5 * j + 4)])) := by rw [hw_16]; exact va_up_at
        have fr_18 : ∀ q : Nat, ¬ q = (a + 6 + 5 * j) → ω_15.2 q = ω.2 q := fun q hq => by rw [hw_16]; exact va_up_off hq
        have z_19 : ω_15.1 = ω.1 := by rw [hw_16]
        refine lv_aload_n hx hb dX1_changeFolds_85 rfl (lv_at hl 1 rfl) ?_
        have f_21 : ω.2 (a + 6 + 5 * j + 1) = some (.inl (G.2.1 0, 8, .inl (v (10 + j)))) := (hLf j (by omega)).2.1
        have f_22 : ω_15.2 (a + 6 + 5 * j + 1) = some (.inl (G.2.1 0, 8, .inl (v (10 + j)))) := (fr_18 (a + 6 + 5 * j + 1) (by omega)).trans f_21
        have f_23 : ω.2 (a + 6 + 5 * j + 2) = some (.inl (G.2.1 0, 8, .inl (v (20 + j)))) := (hLf j (by omega)).2.2.1
        have f_24 : ω_15.2 (a + 6 + 5 * j + 2) = some (.inl (G.2.1 0, 8, .inl (v (20 + j)))) := (fr_18 (a + 6 + 5 * j + 2) (by omega)).trans f_23
        have f_25 : ω.2 (a + 6 + 5 * j + 3) = some (.inl (G.2.1 0, 8, .inl (v (30 + j)))) := (hLf j (by omega)).2.2.2.1
        have f_26 : ω_15.2 (a + 6 + 5 * j + 3) = some (.inl (G.2.1 0, 8, .inl (v (30 + j)))) := (fr_18 (a + 6 + 5 * j + 3) (by omega)).trans f_25
        have f_27 : ω.2 (a + 6 + 5 * j + 4) = some (.inl (G.2.1 0, 8, .inl (fun i9 => v (40 + j) i9 + 1))) := (hLf j (by omega)).2.2.2.2
        have f_28 : ω_15.2 (a + 6 + 5 * j + 4) = some (.inl (G.2.1 0, 8, .inl (fun i9 => v (40 + j) i9 + 1))) := (fr_18 (a + 6 + 5 * j + 4) (by omega)).trans f_27
        have hlf_20 : LeafS G ω_15.2 (a + 6 + 5 * j) (set1 v 4 j x_10) j := by
          refine ⟨f_17.trans (congrArg some ?_), f_22.trans (congrArg some ?_), f_24.trans (congrArg some ?_), f_26.trans (congrArg some ?_), f_28.trans (congrArg some ?_)⟩
          all_goals first | rfl | (simp [set1, setR, upd, ne_big, ne_big']; done)
        refine fw_call (va_runV (As := []) (rest := []) ⟨hx, hb, hml, hown, hts⟩ (c_X5_open G hL l ω_15 (a + 6 + 5 * j) j (set1 v 4 j x_10) hlf_20  f0 hf03 (by simp [set1, upd]; exact hff)) (cwV 0 hts gX1_changeFolds_X5_open rfl rfl rfl (by decide +kernel) ⟨Nat.le_of_ble_eq_true rfl, Nat.le_of_ble_eq_true rfl⟩) (fw_preV hW hK hR f_17 rfl) rfl rfl hl.1 rfl (lv_room (Nat.le_of_ble_eq_true rfl)) dX1_changeFolds_86 ⟨Nat.le_of_ble_eq_true rfl, Nat.le_of_ble_eq_true rfl⟩) hS (fun v_29 ω_30 H locs hq_31 hR hS => ?_)
        obtain ⟨rfl, hq_31⟩ := hq_31
        rw [hq_31] at hR
        refine W.eq (g2 := F0 mI 89 ls [.int (openJ ((set1 v 4 j x_10) 3 j) f0)]) rfl ?_
        refine fw_iret hx hb hr hlocks hR hS dX1_changeFolds_89 ?_
        subst ex_10
        have z_32 : ω_15.1 = ω.1 := by rw [z_19]
        have fr_33 : ∀ q : Nat, ¬ (a ≤ q ∧ q < a + 52) → ω_15.2 q = ω.2 q := by
          intro q hq0
          rw [fr_18 q (by omega)]
        have f_35 : ω_15.2 (a + 51) = some (.inr (9, [.int k1, .int k2, .int k3])) := (fr_18 (a + 51) (by omega)).trans hk
        have f_36 : ω_15.2 a = some (.inr (2, [.ref (a + 1), .int (v 0 0), .ref (a + 2), .int (v 0 1), .ref (a + 3), .int (v 0 2), .int (v 0 3), .int (v 0 4), .int (v 0 5)])) := (fr_18 a (by omega)).trans h0
        have f_37 : ω_15.2 (a + 4) = some (.inl (G.2.1 0, 6, .inl (v 1))) := (fr_18 (a + 4) (by omega)).trans h4
        have f_38 : ω_15.2 (a + 5) = some (.inl (G.2.1 0, 6, .inl (v 2))) := (fr_18 (a + 5) (by omega)).trans h5
        have hlf_39 : LeafS G ω_15.2 (a + 6 + 5 * j) (set1 v 4 j (v 4 j + by_)) j := by
          refine ⟨f_17.trans (congrArg some ?_), f_22.trans (congrArg some ?_), f_24.trans (congrArg some ?_), f_26.trans (congrArg some ?_), f_28.trans (congrArg some ?_)⟩
          all_goals first | rfl | (simp [set1, setR, upd, ne_big, ne_big']; done)
        have hA_34 : ArcS G ω_15.2 a (set1 v 4 j (v 4 j + by_)) := by
          refine hA.gen _ (j) (5) (f_36.trans (congrArg some ?_)) (f_37.trans (congrArg some ?_)) (f_38.trans (congrArg some ?_)) (fun hk9 => ?_) (fun hc9 => ?_) (fun q q1 q2 q3 q4 q5 q6 => ?_) (fun j9 h9 n9 => ?_) (fun j9 h9 n9 => ?_) (by omega) (by omega)
          · first | rfl | (simp [set1, setR, upd, ne_big, ne_big']; done)
          · first | rfl | (simp [set1, setR, upd, ne_big, ne_big']; done)
          · first | rfl | (simp [set1, setR, upd, ne_big, ne_big']; done)
          · exact hlf_39
          · exact absurd hc9 (by decide)
          · skip
            rw [fr_18 q (by omega)]
          · exact LeafEq.rf.s1 (by decide) n9
          · constructor <;> first | rfl | (simp [set1, setR, upd, n9, ne_big, ne_big']; done)
        have hr_40 : foldC v k1 k2 k3 (nI j) by_ = ((openJ ((set1 v 4 j ((v 4 j) + by_)) 3 j) f0, (set1 v 4 j (v 4 j + by_)), k1, k2, k3) : CR) := by
          simp only [foldC, hcc, hdd, hcj, hcf]
          rw [if_pos c_4, if_neg c_9, if_pos c_14]
          rfl
        rw [hr_40]
        exact ⟨rfl, z_32, hA_34, f_35, fr_33⟩
      · skip
        have c_14 := bz_eq c_14
        refine lv_aload_n hx hb dX1_changeFolds_65 rfl (lv_at hl 2 rfl) ?_
        refine fw_get (v := .ref (a + 51)) (C := RX1) (T := TX1) (N := 2) hx hb hts hin1 hown hK hR hy rfl 1 (by decide) (hts (.fieldLink RX1 21 "UnreadLeaflets$Changes" "kept" "LUnreadLeaflets$Reason;") (by decide +kernel)) rfl dX1_changeFolds_66 ?_
        refine lv_bipush (v := 11) hx hb dX1_changeFolds_69 (by decide) ?_
        refine lv_aload_n hx hb dX1_changeFolds_71 rfl (lv_at hl 1 rfl) ?_
        refine fw_get (v := .int (v 4 j)) (C := RX5) (T := TX5) (N := 9) hx hb hts hin5 hown hK hR f_5 rfl 1 (by decide) (hts (.fieldLink RX1 87 "UnreadLeaflets$Leaflet" "folds" "I") (by decide +kernel)) rfl dX1_changeFolds_72 ?_
        refine fw_call (va_runV (As := [.int 11, .int (v 4 j)]) (rest := []) ⟨hx, hb, hml, hown, hts⟩ (c_X7_refuse G hL l ω (a + 51) k1 k2 k3 11 (v 4 j) hk) (cwV 2 hts gX1_changeFolds_X7_refuse rfl rfl rfl (by decide +kernel) ⟨Nat.le_of_ble_eq_true rfl, Nat.le_of_ble_eq_true rfl⟩) (fw_preV hW hK hR hk rfl) rfl rfl hl.1 rfl (lv_room (Nat.le_of_ble_eq_true rfl)) dX1_changeFolds_75 ⟨Nat.le_of_ble_eq_true rfl, Nat.le_of_ble_eq_true rfl⟩) hS (fun v_41 ω_42 H locs hq_43 hR hS => ?_)
        obtain ⟨rfl, z_44, f_46, fr_45⟩ := hq_43
        refine W.eq (g2 := F0 mI 78 ls [.int (-1)]) rfl ?_
        refine fw_iret hx hb hr hlocks hR hS dX1_changeFolds_78 ?_
        subst ex_10
        have z_47 : ω_42.1 = ω.1 := by rw [z_44]
        have fr_48 : ∀ q : Nat, ¬ (a ≤ q ∧ q < a + 52) → ω_42.2 q = ω.2 q := by
          intro q hq0
          rw [fr_45 q (by omega)]
        have hA_49 : ArcS G ω_42.2 a v := hA.keep (fun q q1 q2 => by
          rw [fr_45 q (by omega)])
        have hr_50 : foldC v k1 k2 k3 (nI j) by_ = (((-1), v, 11, (v 4 j), 0) : CR) := by
          simp only [foldC, hcc, hdd, hcj]
          rw [if_pos c_4, if_neg c_9, if_neg c_14]
        rw [hr_50]
        exact ⟨rfl, z_47, hA_49, f_46, fr_48⟩
    · skip
      have c_9 := bz_ne c_9
      refine lv_aload_n hx hb dX1_changeFolds_33 rfl (lv_at hl 1 rfl) ?_
      refine fw_get (v := .ref (a + 51)) (C := RX1) (T := TX1) (N := 2) hx hb hts hin1 hown hK hR hy rfl 1 (by decide) (hts (.fieldLink RX1 21 "UnreadLeaflets$Changes" "kept" "LUnreadLeaflets$Reason;") (by decide +kernel)) rfl dX1_changeFolds_34 ?_
      refine lv_bipush (v := 6) hx hb dX1_changeFolds_37 (by decide) ?_
      refine lv_aload_n hx hb dX1_changeFolds_39 rfl (lv_at hl 0 rfl) ?_
      refine fw_get (v := .int (v 6 j - 1)) (C := RX5) (T := TX5) (N := 9) hx hb hts hin5 hown hK hR f_5 rfl 3 (by decide) (hts (.fieldLink RX1 68 "UnreadLeaflets$Leaflet" "builder" "I") (by decide +kernel)) rfl dX1_changeFolds_40 ?_
      refine fw_call (va_runV (As := [.int 6, .int (v 6 j - 1)]) (rest := []) ⟨hx, hb, hml, hown, hts⟩ (c_X7_refuse G hL l ω (a + 51) k1 k2 k3 6 (v 6 j - 1) hk) (cwV 2 hts gX1_changeFolds_X7_refuse rfl rfl rfl (by decide +kernel) ⟨Nat.le_of_ble_eq_true rfl, Nat.le_of_ble_eq_true rfl⟩) (fw_preV hW hK hR hk rfl) rfl rfl hl.1 rfl (lv_room (Nat.le_of_ble_eq_true rfl)) dX1_changeFolds_43 ⟨Nat.le_of_ble_eq_true rfl, Nat.le_of_ble_eq_true rfl⟩) hS (fun v_51 ω_52 H locs hq_53 hR hS => ?_)
      obtain ⟨rfl, z_54, f_56, fr_55⟩ := hq_53
      refine W.eq (g2 := F0 mI 46 ls [.int (-1)]) rfl ?_
      refine fw_iret hx hb hr hlocks hR hS dX1_changeFolds_46 ?_
      have z_57 : ω_52.1 = ω.1 := by rw [z_54]
      have fr_58 : ∀ q : Nat, ¬ (a ≤ q ∧ q < a + 52) → ω_52.2 q = ω.2 q := by
        intro q hq0
        rw [fr_55 q (by omega)]
      have hA_59 : ArcS G ω_52.2 a v := hA.keep (fun q q1 q2 => by
        rw [fr_55 q (by omega)])
      have hr_60 : foldC v k1 k2 k3 (nI j) by_ = (((-1), v, 6, (v 6 j - 1), 0) : CR) := by
        simp only [foldC, hcc, hdd, hcj]
        rw [if_pos c_4, if_pos c_9]
      rw [hr_60]
      exact ⟨rfl, z_57, hA_59, f_56, fr_58⟩
  · skip
    have c_4 := bz_eq c_4
    refine lv_aload_n hx hb dX1_changeFolds_11 rfl (lv_at hl 0 rfl) ?_
    refine fw_call (va_runV (As := []) (rest := []) ⟨hx, hb, hml, hown, hts⟩ (c_X1_refuseNoLeaflet G hL l ω y a v k1 k2 k3 hy hay hA hk hW0) (cwV 0 hts gX1_changeFolds_X1_refuseNoLeaflet rfl rfl rfl (by decide +kernel) ⟨Nat.le_of_ble_eq_true rfl, Nat.le_of_ble_eq_true rfl⟩) (fw_preV hW hK hR hy rfl) rfl rfl hl.1 rfl (lv_room (Nat.le_of_ble_eq_true rfl)) dX1_changeFolds_12 ⟨Nat.le_of_ble_eq_true rfl, Nat.le_of_ble_eq_true rfl⟩) hS (fun v_61 ω_62 H locs hq_63 hR hS => ?_)
    obtain ⟨rfl, z_64, f_66, fr_65⟩ := hq_63
    refine W.eq (g2 := F0 mI 15 ls [.int (-1)]) rfl ?_
    refine fw_iret hx hb hr hlocks hR hS dX1_changeFolds_15 ?_
    have z_67 : ω_62.1 = ω.1 := by rw [z_64]
    have fr_68 : ∀ q : Nat, ¬ (a ≤ q ∧ q < a + 52) → ω_62.2 q = ω.2 q := by
      intro q hq0
      rw [fr_65 q (by omega)]
    have hA_69 : ArcS G ω_62.2 a v := hA.keep (fun q q1 q2 => by
      rw [fr_65 q (by omega)])
    have hr_70 : foldC v k1 k2 k3 m by_ = (((-1), v, 3, (v 0 0), 0) : CR) := by
      simp only [foldC, hcc, hdd]
      rw [if_neg c_4]
    rw [hr_70]
    exact ⟨rfl, z_67, hA_69, f_66, fr_68⟩
set_option maxHeartbeats 4000000 in
set_option maxRecDepth 100000 in
theorem c_X1_letBuild (G : FG) (hL : FL G) (l : Launch) (ω : FWd) (y a : Nat) (v : Nat → Nat → Int32) (k1 k2 k3 : Int32) (hy : ω.2 y = some (.inr (3, [.ref a, .ref (a + 51)]))) (hay : a = y + 1) (hA : ArcS G ω.2 a v) (hk : ω.2 (a + 51) = some (.inr (9, [.int k1, .int k2, .int k3]))) (hW0 : WF v) (m1 m : Int32) : FMet G l yX1_letBuild wsX1_letBuild ({ frames := 3, cells := 0, slots := 0, locals := 69 } : Room) [.ref y, .int m1, .int m] ω (CQ G a ω (buildC v k1 k2 k3 m1 m)) 0 0 := by
  refine fw_ofW (cc := cX1_letBuild) (maxL := 5) (ret := (some .int)) (by decide) rfl (Nat.le_of_ble_eq_true rfl) ?_
  intro pP eE sS mI ar9 bl9 meth cD ls hx hb hr hlocks hml hts hown hnm hW hR hl
  have hK := hL.K hW
  have hS : va_S (fwA G) sS.heap sS.heap [] := va_S.rf
  have hin0 : ∀ w ∈ u_ws RX0 TX0 9, w ∈ wsX1_letBuild := by decide +kernel
  have hin1 : ∀ w ∈ u_ws RX1 TX1 2, w ∈ wsX1_letBuild := by decide +kernel
  have hin3 : ∀ w ∈ u_ws RX3 TX3 2, w ∈ wsX1_letBuild := by decide +kernel
  have hin5 : ∀ w ∈ u_ws RX5 TX5 9, w ∈ wsX1_letBuild := by decide +kernel
  have hl : lv_has ls 5 [(0, .ref y), (1, .int m1), (2, .int m)] := hl
  obtain ⟨h0, h1, h2, h3, h4, h5, hLf, hCo⟩ := id hA
  obtain ⟨c, hc8, hc, hcc⟩ := okN_of hW0.1
  obtain ⟨cc, hd5, hd, hdd⟩ := okN_of hW0.2.1
  have hs : ∀ j, j < c → v 3 j = nI (stN v j) ∧ stN v j ≤ 8 := fun j hj => (hW0.2.2 j (by rw [hcc]; exact hj)).1
  have hfo : ∀ j, j < c → v 4 j = nI (cN (v 4 j)) ∧ cN (v 4 j) ≤ 3 := fun j hj => (hW0.2.2 j (by rw [hcc]; exact hj)).2
  refine lv_aload_n hx hb dX1_letBuild_0 rfl (lv_at hl 0 rfl) ?_
  refine fw_get (v := .ref a) (C := RX1) (T := TX1) (N := 2) hx hb hts hin1 hown hK hR hy rfl 0 (by decide) (hts (.fieldLink RX1 12 "UnreadLeaflets$Changes" "archive" "LUnreadLeaflets$Archive;") (by decide +kernel)) rfl dX1_letBuild_1 ?_
  refine lv_iload_n hx hb dX1_letBuild_4 rfl (lv_at hl 1 rfl) ?_
  refine fw_call (va_runV (As := [.int m1]) (rest := []) ⟨hx, hb, hml, hown, hts⟩ (c_X0_hasCousin G hL l ω a v hA  m1 ) (cwV 1 hts gX1_letBuild_X0_hasCousin rfl rfl rfl (by decide +kernel) ⟨Nat.le_of_ble_eq_true rfl, Nat.le_of_ble_eq_true rfl⟩) (fw_preV hW hK hR h0 rfl) rfl rfl hl.1 rfl (lv_room (Nat.le_of_ble_eq_true rfl)) dX1_letBuild_5 ⟨Nat.le_of_ble_eq_true rfl, Nat.le_of_ble_eq_true rfl⟩) hS (fun v_1 ω_2 H locs hq_3 hR hS => ?_)
  obtain ⟨rfl, hq_3⟩ := hq_3
  rw [hq_3] at hR
  refine W.eq (g2 := F0 mI 8 ls [.int (bz (inB m1 0 (v 0 1 - 1)))]) rfl ?_
  refine lv_if_ne (tgt := 16) hx hb dX1_letBuild_8 (by decide) (fun c_4 => ?_) (fun c_4 => ?_)
  · skip
    have c_4 := bz_ne c_4
    obtain ⟨i, hi2, rfl⟩ := in_c hd (by omega) c_4
    have hci : cN (nI i) = i := cN_nI (by omega)
    refine lv_aload_n hx hb dX1_letBuild_16 rfl (lv_at hl 0 rfl) ?_
    refine fw_get (v := .ref a) (C := RX1) (T := TX1) (N := 2) hx hb hts hin1 hown hK hR hy rfl 0 (by decide) (hts (.fieldLink RX1 12 "UnreadLeaflets$Changes" "archive" "LUnreadLeaflets$Archive;") (by decide +kernel)) rfl dX1_letBuild_17 ?_
    refine lv_iload_n hx hb dX1_letBuild_20 rfl (lv_at hl 2 rfl) ?_
    refine fw_call (va_runV (As := [.int m]) (rest := []) ⟨hx, hb, hml, hown, hts⟩ (c_X0_hasLeaflet G hL l ω a v hA  m ) (cwV 1 hts gX1_letBuild_X0_hasLeaflet rfl rfl rfl (by decide +kernel) ⟨Nat.le_of_ble_eq_true rfl, Nat.le_of_ble_eq_true rfl⟩) (fw_preV hW hK hR h0 rfl) rfl rfl hl.1 rfl (lv_room (Nat.le_of_ble_eq_true rfl)) dX1_letBuild_21 ⟨Nat.le_of_ble_eq_true rfl, Nat.le_of_ble_eq_true rfl⟩) hS (fun v_5 ω_6 H locs hq_7 hR hS => ?_)
    obtain ⟨rfl, hq_7⟩ := hq_7
    rw [hq_7] at hR
    refine W.eq (g2 := F0 mI 24 ls [.int (bz (inB m 0 (v 0 0 - 1)))]) rfl ?_
    refine lv_if_ne (tgt := 32) hx hb dX1_letBuild_24 (by decide) (fun c_8 => ?_) (fun c_8 => ?_)
    · skip
      have c_8 := bz_ne c_8
      obtain ⟨j, hj2, rfl⟩ := in_c hc hc8 c_8
      have hcj : cN (nI j) = j := cN_nI (by omega)
      refine lv_aload_n hx hb dX1_letBuild_32 rfl (lv_at hl 0 rfl) ?_
      refine fw_get (v := .ref a) (C := RX1) (T := TX1) (N := 2) hx hb hts hin1 hown hK hR hy rfl 0 (by decide) (hts (.fieldLink RX1 12 "UnreadLeaflets$Changes" "archive" "LUnreadLeaflets$Archive;") (by decide +kernel)) rfl dX1_letBuild_33 ?_
      refine fw_get (v := .ref (a + 1)) (C := RX0) (T := TX0) (N := 9) hx hb hts hin0 hown hK hR h0 rfl 0 (by decide) (hts (.fieldLink RX1 43 "UnreadLeaflets$Archive" "leaflets" "[LUnreadLeaflets$Leaflet;") (by decide +kernel)) rfl dX1_letBuild_36 ?_
      refine lv_iload_n hx hb dX1_letBuild_39 rfl (lv_at hl 2 rfl) ?_
      refine fw_aald (b := a + 6 + 5 * j) hx hb hK hR h1 rfl (vp_in_nI (by omega) (by omega)) (by rw [nI_clamp (by omega)]) dX1_letBuild_40 ?_
      refine lv_astore_n (lv' := [(3, .ref (a + 6 + 5 * j)), (0, .ref y), (1, .int (nI i)), (2, .int (nI j))]) hx hb dX1_letBuild_41 rfl hl (by decide) rfl (fun ls hl => ?_)
      refine lv_aload_n hx hb dX1_letBuild_42 rfl (lv_at hl 0 rfl) ?_
      have f_9 : ω.2 (a + 6 + 5 * j) = some (.inr (7, [.int (v 3 j), .int (v 4 j), .int (v 5 j), .int (v 6 j - 1), .int (v 7 j), .ref (a + 6 + 5 * j + 1), .ref (a + 6 + 5 * j + 2), .ref (a + 6 + 5 * j + 3), .ref (a + 6 + 5 * j + 4)])) := (hLf j (by omega)).1
      refine fw_call (va_runV (As := []) (rest := []) ⟨hx, hb, hml, hown, hts⟩ (c_X5_isBuilt G hL l ω (a + 6 + 5 * j) j v (hLf j (by omega))  ) (cwV 0 hts gX1_letBuild_X5_isBuilt rfl rfl rfl (by decide +kernel) ⟨Nat.le_of_ble_eq_true rfl, Nat.le_of_ble_eq_true rfl⟩) (fw_preV hW hK hR f_9 rfl) rfl rfl hl.1 rfl (lv_room (Nat.le_of_ble_eq_true rfl)) dX1_letBuild_43 ⟨Nat.le_of_ble_eq_true rfl, Nat.le_of_ble_eq_true rfl⟩) hS (fun v_10 ω_11 H locs hq_12 hR hS => ?_)
      obtain ⟨rfl, hq_12⟩ := hq_12
      rw [hq_12] at hR
      refine W.eq (g2 := F0 mI 46 ls [.int (bz (¬ v 6 j - 1 = (-1)))]) rfl ?_
      refine lv_if_eq (tgt := 63) hx hb dX1_letBuild_46 (by decide) (fun c_13 => ?_) (fun c_13 => ?_)
      · skip
        have c_13 := bz_eq c_13
        refine lv_aload_n hx hb dX1_letBuild_63 rfl (lv_at hl 1 rfl) ?_
        refine fw_get (v := .ref a) (C := RX1) (T := TX1) (N := 2) hx hb hts hin1 hown hK hR hy rfl 0 (by decide) (hts (.fieldLink RX1 12 "UnreadLeaflets$Changes" "archive" "LUnreadLeaflets$Archive;") (by decide +kernel)) rfl dX1_letBuild_64 ?_
        refine fw_get (v := .ref (a + 2)) (C := RX0) (T := TX0) (N := 9) hx hb hts hin0 hown hK hR h0 rfl 2 (by decide) (hts (.fieldLink RX1 93 "UnreadLeaflets$Archive" "cousins" "[LUnreadLeaflets$Cousin;") (by decide +kernel)) rfl dX1_letBuild_67 ?_
        refine lv_iload_n hx hb dX1_letBuild_70 rfl (lv_at hl 2 rfl) ?_
        refine fw_aald (b := a + 46 + i) hx hb hK hR h2 rfl (vp_in_nI (by omega) (by omega)) (by rw [nI_clamp (by omega)]) dX1_letBuild_71 ?_
        refine lv_astore (lv' := [(4, .ref (a + 46 + i)), (3, .ref (a + 6 + 5 * j)), (0, .ref y), (1, .int (nI i)), (2, .int (nI j))]) hx hb dX1_letBuild_72 hl (by decide) rfl (fun ls hl => ?_)
        refine lv_aload_n hx hb dX1_letBuild_74 rfl (lv_at hl 1 rfl) ?_
        refine lv_iload_n hx hb dX1_letBuild_75 rfl (lv_at hl 3 rfl) ?_
        refine fw_put (v := .int (nI i)) (C := RX5) (T := TX5) (N := 9) hx hb hts hin5 tyX5 tyX5_ok nmX5 hown hK hR hS f_9 rfl 3 (by decide) (hts (.fieldLink RX1 68 "UnreadLeaflets$Leaflet" "builder" "I") (by decide +kernel)) rfl rfl rfl (Nat.le_of_ble_eq_true rfl) dX1_letBuild_76 (fun H locs hR hS => ?_)
        obtain ⟨ω_14, hw_15⟩ : ∃ τ : FWd, τ = (ω.1, va_up ω.2 (a + 6 + 5 * j) (some (.inr (7, [.int (v 3 j), .int (v 4 j), .int (v 5 j), .int (nI i), .int (v 7 j), .ref (a + 6 + 5 * j + 1), .ref (a + 6 + 5 * j + 2), .ref (a + 6 + 5 * j + 3), .ref (a + 6 + 5 * j + 4)])))) := ⟨_, rfl⟩
        have hR : fR G ω_14 H := by rw [hw_15]; exact hR
        have f_16 : ω_14.2 (a + 6 + 5 * j) = some (.inr (7, [.int (v 3 j), .int (v 4 j), .int (v 5 j), .int (nI i), .int (v 7 j), .ref (a + 6 + 5 * j + 1), .ref (a + 6 + 5 * j + 2), .ref (a + 6 + 5 * j + 3), .ref (a + 6 + 5 * j + 4)])) := by rw [hw_15]; exact va_up_at
        have fr_17 : ∀ q : Nat, ¬ q = (a + 6 + 5 * j) → ω_14.2 q = ω.2 q := fun q hq => by rw [hw_15]; exact va_up_off hq
        have z_18 : ω_14.1 = ω.1 := by rw [hw_15]
        refine lv_aload_n hx hb dX1_letBuild_79 rfl (lv_at hl 1 rfl) ?_
        refine lv_aload_n hx hb dX1_letBuild_80 rfl (lv_at hl 1 rfl) ?_
        refine lv_aload hx hb dX1_letBuild_81 (lv_at hl 0 rfl) ?_
        have f_19 : ω.2 (a + 46 + i) = some (.inr (5, [.int (v 8 i), .int (v 9 i)])) := hCo i (by omega)
        have f_20 : ω_14.2 (a + 46 + i) = some (.inr (5, [.int (v 8 i), .int (v 9 i)])) := (fr_17 (a + 46 + i) (by omega)).trans f_19
        refine fw_get (v := .int (v 9 i)) (C := RX3) (T := TX3) (N := 2) hx hb hts hin3 hown hK hR f_20 rfl 1 (by decide) (hts (.fieldLink RX1 102 "UnreadLeaflets$Cousin" "languages" "I") (by decide +kernel)) rfl dX1_letBuild_83 ?_
        refine lv_aload hx hb dX1_letBuild_86 (lv_at hl 0 rfl) ?_
        refine fw_get (v := .int (v 8 i)) (C := RX3) (T := TX3) (N := 2) hx hb hts hin3 hown hK hR f_20 rfl 0 (by decide) (hts (.fieldLink RX1 97 "UnreadLeaflets$Cousin" "boast" "I") (by decide +kernel)) rfl dX1_letBuild_88 ?_
        refine lv_aload_n hx hb dX1_letBuild_91 rfl (lv_at hl 1 rfl) ?_
        refine fw_get (v := .int (v 4 j)) (C := RX5) (T := TX5) (N := 9) hx hb hts hin5 hown hK hR f_16 rfl 1 (by decide) (hts (.fieldLink RX1 87 "UnreadLeaflets$Leaflet" "folds" "I") (by decide +kernel)) rfl dX1_letBuild_92 ?_
        obtain ⟨f0, hf03, hff, hcf⟩ := okN_of (hW0.2.2 j (by rw [hcc]; exact hj2)).2
        refine W.eq (g2 := F0 mI 95 ls [.int (nI f0), .int (v 8 i), .int (v 9 i), .ref (a + 6 + 5 * j), .ref (a + 6 + 5 * j)]) (by rw [hff]) ?_
        have f_22 : ω.2 (a + 6 + 5 * j + 1) = some (.inl (G.2.1 0, 8, .inl (v (10 + j)))) := (hLf j (by omega)).2.1
        have f_23 : ω_14.2 (a + 6 + 5 * j + 1) = some (.inl (G.2.1 0, 8, .inl (v (10 + j)))) := (fr_17 (a + 6 + 5 * j + 1) (by omega)).trans f_22
        have f_24 : ω.2 (a + 6 + 5 * j + 2) = some (.inl (G.2.1 0, 8, .inl (v (20 + j)))) := (hLf j (by omega)).2.2.1
        have f_25 : ω_14.2 (a + 6 + 5 * j + 2) = some (.inl (G.2.1 0, 8, .inl (v (20 + j)))) := (fr_17 (a + 6 + 5 * j + 2) (by omega)).trans f_24
        have f_26 : ω.2 (a + 6 + 5 * j + 3) = some (.inl (G.2.1 0, 8, .inl (v (30 + j)))) := (hLf j (by omega)).2.2.2.1
        have f_27 : ω_14.2 (a + 6 + 5 * j + 3) = some (.inl (G.2.1 0, 8, .inl (v (30 + j)))) := (fr_17 (a + 6 + 5 * j + 3) (by omega)).trans f_26
        have f_28 : ω.2 (a + 6 + 5 * j + 4) = some (.inl (G.2.1 0, 8, .inl (fun i9 => v (40 + j) i9 + 1))) := (hLf j (by omega)).2.2.2.2
        have f_29 : ω_14.2 (a + 6 + 5 * j + 4) = some (.inl (G.2.1 0, 8, .inl (fun i9 => v (40 + j) i9 + 1))) := (fr_17 (a + 6 + 5 * j + 4) (by omega)).trans f_28
        have hlf_21 : LeafS G ω_14.2 (a + 6 + 5 * j) (set1 v 6 j (nI i + 1)) j := by
          refine ⟨f_16.trans (congrArg some ?_), f_23.trans (congrArg some ?_), f_25.trans (congrArg some ?_), f_27.trans (congrArg some ?_), f_29.trans (congrArg some ?_)⟩
          all_goals first | rfl | (simp [set1, setR, upd, buildV, needW_eq, needJ_6, needJ_7, skipF_6, ne_big, ne_big']; done)
        refine fw_call (va_runV (As := [.int (v 9 i), .int (v 8 i), .int (nI f0)]) (rest := [.ref (a + 6 + 5 * j)]) ⟨hx, hb, hml, hown, hts⟩ (c_X5_stepsSkippedWith G hL l ω_14 (a + 6 + 5 * j) j (set1 v 6 j (nI i + 1)) hlf_21 (stN v j) (by simpa [set1, setR, upd, buildV, needW_eq, needJ_6, needJ_7, skipF_6] using (hs j hj2).1) (hs j hj2).2 (v 9 i) (v 8 i) f0 (by omega)) (cwV 3 hts gX1_letBuild_X5_stepsSkippedWith rfl rfl rfl (by decide +kernel) ⟨Nat.le_of_ble_eq_true rfl, Nat.le_of_ble_eq_true rfl⟩) (fw_preV hW hK hR f_16 rfl) rfl rfl hl.1 rfl (lv_room (Nat.le_of_ble_eq_true rfl)) dX1_letBuild_95 ⟨Nat.le_of_ble_eq_true rfl, Nat.le_of_ble_eq_true rfl⟩) hS (fun v_30 ω_31 H locs hq_32 hR hS => ?_)
        obtain ⟨rfl, hq_32⟩ := hq_32
        rw [hq_32] at hR
        refine W.eq (g2 := F0 mI 98 ls [.int (skipF (set1 v 6 j (nI i + 1)) j (stN v j) (v 9 i) (v 8 i) f0), .ref (a + 6 + 5 * j)]) rfl ?_
        refine W.eq (g2 := F0 mI 98 ls [.int (skipF v j (stN v j) (v 9 i) (v 8 i) f0), .ref (a + 6 + 5 * j)]) (by rw [skipF_6]) ?_
        refine fw_put (v := .int (skipF v j (stN v j) (v 9 i) (v 8 i) f0)) (C := RX5) (T := TX5) (N := 9) hx hb hts hin5 tyX5 tyX5_ok nmX5 hown hK hR hS f_16 rfl 4 (by decide) (hts (.fieldLink RX1 124 "UnreadLeaflets$Leaflet" "skipped" "I") (by decide +kernel)) rfl rfl rfl (Nat.le_of_ble_eq_true rfl) dX1_letBuild_98 (fun H locs hR hS => ?_)
        obtain ⟨ω_33, hw_34⟩ : ∃ τ : FWd, τ = (ω_14.1, va_up ω_14.2 (a + 6 + 5 * j) (some (.inr (7, [.int (v 3 j), .int (v 4 j), .int (v 5 j), .int (nI i), .int (skipF v j (stN v j) (v 9 i) (v 8 i) f0), .ref (a + 6 + 5 * j + 1), .ref (a + 6 + 5 * j + 2), .ref (a + 6 + 5 * j + 3), .ref (a + 6 + 5 * j + 4)])))) := ⟨_, rfl⟩
        have hR : fR G ω_33 H := by rw [hw_34]; exact hR
        have f_35 : ω_33.2 (a + 6 + 5 * j) = some (.inr (7, [.int (v 3 j), .int (v 4 j), .int (v 5 j), .int (nI i), .int (skipF v j (stN v j) (v 9 i) (v 8 i) f0), .ref (a + 6 + 5 * j + 1), .ref (a + 6 + 5 * j + 2), .ref (a + 6 + 5 * j + 3), .ref (a + 6 + 5 * j + 4)])) := by rw [hw_34]; exact va_up_at
        have fr_36 : ∀ q : Nat, ¬ q = (a + 6 + 5 * j) → ω_33.2 q = ω_14.2 q := fun q hq => by rw [hw_34]; exact va_up_off hq
        have z_37 : ω_33.1 = ω_14.1 := by rw [hw_34]
        refine lv_aload_n hx hb dX1_letBuild_101 rfl (lv_at hl 2 rfl) ?_
        have f_38 : ω_14.2 y = some (.inr (3, [.ref a, .ref (a + 51)])) := (fr_17 y (by omega)).trans hy
        have f_39 : ω_33.2 y = some (.inr (3, [.ref a, .ref (a + 51)])) := (fr_36 y (by omega)).trans f_38
        refine fw_get (v := .ref a) (C := RX1) (T := TX1) (N := 2) hx hb hts hin1 hown hK hR f_39 rfl 0 (by decide) (hts (.fieldLink RX1 12 "UnreadLeaflets$Changes" "archive" "LUnreadLeaflets$Archive;") (by decide +kernel)) rfl dX1_letBuild_102 ?_
        have f_40 : ω_14.2 a = some (.inr (2, [.ref (a + 1), .int (v 0 0), .ref (a + 2), .int (v 0 1), .ref (a + 3), .int (v 0 2), .int (v 0 3), .int (v 0 4), .int (v 0 5)])) := (fr_17 a (by omega)).trans h0
        have f_41 : ω_33.2 a = some (.inr (2, [.ref (a + 1), .int (v 0 0), .ref (a + 2), .int (v 0 1), .ref (a + 3), .int (v 0 2), .int (v 0 3), .int (v 0 4), .int (v 0 5)])) := (fr_36 a (by omega)).trans f_40
        refine fw_get (v := .ref (a + 3)) (C := RX0) (T := TX0) (N := 9) hx hb hts hin0 hown hK hR f_41 rfl 4 (by decide) (hts (.fieldLink RX1 127 "UnreadLeaflets$Archive" "tin" "LUnreadLeaflets$Tin;") (by decide +kernel)) rfl dX1_letBuild_105 ?_
        refine lv_aload_n hx hb dX1_letBuild_108 rfl (lv_at hl 1 rfl) ?_
        refine lv_aload_n hx hb dX1_letBuild_109 rfl (lv_at hl 1 rfl) ?_
        refine fw_get (v := .int (skipF v j (stN v j) (v 9 i) (v 8 i) f0)) (C := RX5) (T := TX5) (N := 9) hx hb hts hin5 hown hK hR f_35 rfl 4 (by decide) (hts (.fieldLink RX1 124 "UnreadLeaflets$Leaflet" "skipped" "I") (by decide +kernel)) rfl dX1_letBuild_110 ?_
        have f_42 : ω_14.2 (a + 3) = some (.inr (11, [.ref (a + 4), .ref (a + 5)])) := (fr_17 (a + 3) (by omega)).trans h3
        have f_43 : ω_33.2 (a + 3) = some (.inr (11, [.ref (a + 4), .ref (a + 5)])) := (fr_36 (a + 3) (by omega)).trans f_42
        have f_44 : ω_14.2 (a + 4) = some (.inl (G.2.1 0, 6, .inl (v 1))) := (fr_17 (a + 4) (by omega)).trans h4
        have f_45 : ω_33.2 (a + 4) = some (.inl (G.2.1 0, 6, .inl (v 1))) := (fr_36 (a + 4) (by omega)).trans f_44
        have f_46 : ω_14.2 (a + 5) = some (.inl (G.2.1 0, 6, .inl (v 2))) := (fr_17 (a + 5) (by omega)).trans h5
        have f_47 : ω_33.2 (a + 5) = some (.inl (G.2.1 0, 6, .inl (v 2))) := (fr_36 (a + 5) (by omega)).trans f_46
        have f_49 : ω_33.2 (a + 6 + 5 * j + 1) = some (.inl (G.2.1 0, 8, .inl (v (10 + j)))) := (fr_36 (a + 6 + 5 * j + 1) (by omega)).trans f_23
        have f_50 : ω_33.2 (a + 6 + 5 * j + 2) = some (.inl (G.2.1 0, 8, .inl (v (20 + j)))) := (fr_36 (a + 6 + 5 * j + 2) (by omega)).trans f_25
        have f_51 : ω_33.2 (a + 6 + 5 * j + 3) = some (.inl (G.2.1 0, 8, .inl (v (30 + j)))) := (fr_36 (a + 6 + 5 * j + 3) (by omega)).trans f_27
        have f_52 : ω_33.2 (a + 6 + 5 * j + 4) = some (.inl (G.2.1 0, 8, .inl (fun i9 => v (40 + j) i9 + 1))) := (fr_36 (a + 6 + 5 * j + 4) (by omega)).trans f_29
        have hlf_48 : LeafS G ω_33.2 (a + 6 + 5 * j) (set1 (set1 v 6 j (nI i + 1)) 7 j (skipF v j (stN v j) (v 9 i) (v 8 i) f0)) j := by
          refine ⟨f_35.trans (congrArg some ?_), f_49.trans (congrArg some ?_), f_50.trans (congrArg some ?_), f_51.trans (congrArg some ?_), f_52.trans (congrArg some ?_)⟩
          all_goals first | rfl | (simp [set1, setR, upd, buildV, needW_eq, needJ_6, needJ_7, skipF_6, ne_big, ne_big']; done)
        refine fw_call (va_runV (As := [.ref (a + 6 + 5 * j), .int (skipF v j (stN v j) (v 9 i) (v 8 i) f0)]) (rest := []) ⟨hx, hb, hml, hown, hts⟩ (c_X9_putIn G hL l ω_33 (a + 3) (v 1) (v 2) (⟨f_43, f_45, f_47⟩) (a + 6 + 5 * j) j (set1 (set1 v 6 j (nI i + 1)) 7 j (skipF v j (stN v j) (v 9 i) (v 8 i) f0)) hlf_48 (stN v j) (by simpa [set1, setR, upd, buildV, needW_eq, needJ_6, needJ_7, skipF_6] using (hs j hj2).1) (hs j hj2).2 (skipF v j (stN v j) (v 9 i) (v 8 i) f0) (by omega)) (cwV 2 hts gX1_letBuild_X9_putIn rfl rfl rfl (by decide +kernel) ⟨Nat.le_of_ble_eq_true rfl, Nat.le_of_ble_eq_true rfl⟩) (fw_preV hW hK hR f_43 rfl) rfl rfl hl.1 rfl (lv_room (Nat.le_of_ble_eq_true rfl)) dX1_letBuild_113 ⟨Nat.le_of_ble_eq_true rfl, Nat.le_of_ble_eq_true rfl⟩) hS (fun v_53 ω_54 H locs hq_55 hR hS => ?_)
        obtain ⟨rfl, z_56, f_58, fr_57⟩ := hq_55
        refine W.eq (g2 := F0 mI 116 ls []) rfl ?_
        refine lv_aload_n hx hb dX1_letBuild_116 rfl (lv_at hl 2 rfl) ?_
        have f_59 : ω_54.2 y = some (.inr (3, [.ref a, .ref (a + 51)])) := (fr_57 y (by omega)).trans f_39
        refine fw_get (v := .ref a) (C := RX1) (T := TX1) (N := 2) hx hb hts hin1 hown hK hR f_59 rfl 0 (by decide) (hts (.fieldLink RX1 12 "UnreadLeaflets$Changes" "archive" "LUnreadLeaflets$Archive;") (by decide +kernel)) rfl dX1_letBuild_117 ?_
        refine lv_dup hx hb dX1_letBuild_120 rfl ?_
        have f_60 : ω_54.2 a = some (.inr (2, [.ref (a + 1), .int (v 0 0), .ref (a + 2), .int (v 0 1), .ref (a + 3), .int (v 0 2), .int (v 0 3), .int (v 0 4), .int (v 0 5)])) := (fr_57 a (by omega)).trans f_41
        refine fw_get (v := .int (v 0 2)) (C := RX0) (T := TX0) (N := 9) hx hb hts hin0 hown hK hR f_60 rfl 5 (by decide) (hts (.fieldLink RX1 137 "UnreadLeaflets$Archive" "buildingsSoFar" "I") (by decide +kernel)) rfl dX1_letBuild_121 ?_
        refine lv_iconst (v := 1) hx hb dX1_letBuild_124 (by decide) ?_
        refine lv_iadd hx hb dX1_letBuild_125 ?_
        refine fw_put (v := .int ((v 0 2) + 1)) (C := RX0) (T := TX0) (N := 9) hx hb hts hin0 tyX0 tyX0_ok nmX0 hown hK hR hS f_60 rfl 5 (by decide) (hts (.fieldLink RX1 137 "UnreadLeaflets$Archive" "buildingsSoFar" "I") (by decide +kernel)) rfl rfl rfl (Nat.le_of_ble_eq_true rfl) dX1_letBuild_126 (fun H locs hR hS => ?_)
        obtain ⟨ω_61, hw_62⟩ : ∃ τ : FWd, τ = (ω_54.1, va_up ω_54.2 a (some (.inr (2, [.ref (a + 1), .int (v 0 0), .ref (a + 2), .int (v 0 1), .ref (a + 3), .int ((v 0 2) + 1), .int (v 0 3), .int (v 0 4), .int (v 0 5)])))) := ⟨_, rfl⟩
        have hR : fR G ω_61 H := by rw [hw_62]; exact hR
        have f_63 : ω_61.2 a = some (.inr (2, [.ref (a + 1), .int (v 0 0), .ref (a + 2), .int (v 0 1), .ref (a + 3), .int ((v 0 2) + 1), .int (v 0 3), .int (v 0 4), .int (v 0 5)])) := by rw [hw_62]; exact va_up_at
        have fr_64 : ∀ q : Nat, ¬ q = a → ω_61.2 q = ω_54.2 q := fun q hq => by rw [hw_62]; exact va_up_off hq
        have z_65 : ω_61.1 = ω_54.1 := by rw [hw_62]
        refine lv_aload_n hx hb dX1_letBuild_129 rfl (lv_at hl 2 rfl) ?_
        have f_66 : ω_61.2 y = some (.inr (3, [.ref a, .ref (a + 51)])) := (fr_64 y (by omega)).trans f_59
        refine fw_get (v := .ref a) (C := RX1) (T := TX1) (N := 2) hx hb hts hin1 hown hK hR f_66 rfl 0 (by decide) (hts (.fieldLink RX1 12 "UnreadLeaflets$Changes" "archive" "LUnreadLeaflets$Archive;") (by decide +kernel)) rfl dX1_letBuild_130 ?_
        refine lv_dup hx hb dX1_letBuild_133 rfl ?_
        refine fw_get (v := .int (v 0 3)) (C := RX0) (T := TX0) (N := 9) hx hb hts hin0 hown hK hR f_63 rfl 6 (by decide) (hts (.fieldLink RX1 140 "UnreadLeaflets$Archive" "skippedSoFar" "I") (by decide +kernel)) rfl dX1_letBuild_134 ?_
        refine lv_aload_n hx hb dX1_letBuild_137 rfl (lv_at hl 1 rfl) ?_
        have f_68 : ω_54.2 (a + 6 + 5 * j) = some (.inr (7, [.int (v 3 j), .int (v 4 j), .int (v 5 j), .int (nI i), .int (skipF v j (stN v j) (v 9 i) (v 8 i) f0), .ref (a + 6 + 5 * j + 1), .ref (a + 6 + 5 * j + 2), .ref (a + 6 + 5 * j + 3), .ref (a + 6 + 5 * j + 4)])) := (fr_57 (a + 6 + 5 * j) (by omega)).trans f_35
        have f_69 : ω_61.2 (a + 6 + 5 * j) = some (.inr (7, [.int (v 3 j), .int (v 4 j), .int (v 5 j), .int (nI i), .int (skipF v j (stN v j) (v 9 i) (v 8 i) f0), .ref (a + 6 + 5 * j + 1), .ref (a + 6 + 5 * j + 2), .ref (a + 6 + 5 * j + 3), .ref (a + 6 + 5 * j + 4)])) := (fr_64 (a + 6 + 5 * j) (by omega)).trans f_68
        have f_70 : ω_54.2 (a + 6 + 5 * j + 1) = some (.inl (G.2.1 0, 8, .inl (v (10 + j)))) := (fr_57 (a + 6 + 5 * j + 1) (by omega)).trans f_49
        have f_71 : ω_61.2 (a + 6 + 5 * j + 1) = some (.inl (G.2.1 0, 8, .inl (v (10 + j)))) := (fr_64 (a + 6 + 5 * j + 1) (by omega)).trans f_70
        have f_72 : ω_54.2 (a + 6 + 5 * j + 2) = some (.inl (G.2.1 0, 8, .inl (v (20 + j)))) := (fr_57 (a + 6 + 5 * j + 2) (by omega)).trans f_50
        have f_73 : ω_61.2 (a + 6 + 5 * j + 2) = some (.inl (G.2.1 0, 8, .inl (v (20 + j)))) := (fr_64 (a + 6 + 5 * j + 2) (by omega)).trans f_72
        have f_74 : ω_54.2 (a + 6 + 5 * j + 3) = some (.inl (G.2.1 0, 8, .inl (v (30 + j)))) := (fr_57 (a + 6 + 5 * j + 3) (by omega)).trans f_51
        have f_75 : ω_61.2 (a + 6 + 5 * j + 3) = some (.inl (G.2.1 0, 8, .inl (v (30 + j)))) := (fr_64 (a + 6 + 5 * j + 3) (by omega)).trans f_74
        have f_76 : ω_54.2 (a + 6 + 5 * j + 4) = some (.inl (G.2.1 0, 8, .inl (fun i9 => v (40 + j) i9 + 1))) := (fr_57 (a + 6 + 5 * j + 4) (by omega)).trans f_52
        have f_77 : ω_61.2 (a + 6 + 5 * j + 4) = some (.inl (G.2.1 0, 8, .inl (fun i9 => v (40 + j) i9 + 1))) := (fr_64 (a + 6 + 5 * j + 4) (by omega)).trans f_76
        have hlf_67 : LeafS G ω_61.2 (a + 6 + 5 * j) (set1 (set1 v 6 j (nI i + 1)) 7 j (skipF v j (stN v j) (v 9 i) (v 8 i) f0)) j := by
          refine ⟨f_69.trans (congrArg some ?_), f_71.trans (congrArg some ?_), f_73.trans (congrArg some ?_), f_75.trans (congrArg some ?_), f_77.trans (congrArg some ?_)⟩
          all_goals first | rfl | (simp [set1, setR, upd, buildV, needW_eq, needJ_6, needJ_7, skipF_6, ne_big, ne_big']; done)
        refine fw_call (va_runV (As := []) (rest := [.int (v 0 3), .ref a]) ⟨hx, hb, hml, hown, hts⟩ (c_X5_skippedSteps G hL l ω_61 (a + 6 + 5 * j) j (set1 (set1 v 6 j (nI i + 1)) 7 j (skipF v j (stN v j) (v 9 i) (v 8 i) f0)) hlf_67  ) (cwV 0 hts gX1_letBuild_X5_skippedSteps rfl rfl rfl (by decide +kernel) ⟨Nat.le_of_ble_eq_true rfl, Nat.le_of_ble_eq_true rfl⟩) (fw_preV hW hK hR f_69 rfl) rfl rfl hl.1 rfl (lv_room (Nat.le_of_ble_eq_true rfl)) dX1_letBuild_138 ⟨Nat.le_of_ble_eq_true rfl, Nat.le_of_ble_eq_true rfl⟩) hS (fun v_78 ω_79 H locs hq_80 hR hS => ?_)
        obtain ⟨rfl, hq_80⟩ := hq_80
        rw [hq_80] at hR
        refine W.eq (g2 := F0 mI 141 ls [.int (popF ((set1 (set1 v 6 j (nI i + 1)) 7 j (skipF v j (stN v j) (v 9 i) (v 8 i) f0)) 7 j)), .int (v 0 3), .ref a]) rfl ?_
        refine W.eq (g2 := F0 mI 141 ls [.int (popF (skipF v j (stN v j) (v 9 i) (v 8 i) f0)), .int (v 0 3), .ref a]) (by rw [set1_at]) ?_
        refine lv_iadd hx hb dX1_letBuild_141 ?_
        refine fw_put (v := .int ((v 0 3) + (popF (skipF v j (stN v j) (v 9 i) (v 8 i) f0)))) (C := RX0) (T := TX0) (N := 9) hx hb hts hin0 tyX0 tyX0_ok nmX0 hown hK hR hS f_63 rfl 6 (by decide) (hts (.fieldLink RX1 140 "UnreadLeaflets$Archive" "skippedSoFar" "I") (by decide +kernel)) rfl rfl rfl (Nat.le_of_ble_eq_true rfl) dX1_letBuild_142 (fun H locs hR hS => ?_)
        obtain ⟨ω_81, hw_82⟩ : ∃ τ : FWd, τ = (ω_61.1, va_up ω_61.2 a (some (.inr (2, [.ref (a + 1), .int (v 0 0), .ref (a + 2), .int (v 0 1), .ref (a + 3), .int ((v 0 2) + 1), .int ((v 0 3) + (popF (skipF v j (stN v j) (v 9 i) (v 8 i) f0))), .int (v 0 4), .int (v 0 5)])))) := ⟨_, rfl⟩
        have hR : fR G ω_81 H := by rw [hw_82]; exact hR
        have f_83 : ω_81.2 a = some (.inr (2, [.ref (a + 1), .int (v 0 0), .ref (a + 2), .int (v 0 1), .ref (a + 3), .int ((v 0 2) + 1), .int ((v 0 3) + (popF (skipF v j (stN v j) (v 9 i) (v 8 i) f0))), .int (v 0 4), .int (v 0 5)])) := by rw [hw_82]; exact va_up_at
        have fr_84 : ∀ q : Nat, ¬ q = a → ω_81.2 q = ω_61.2 q := fun q hq => by rw [hw_82]; exact va_up_off hq
        have z_85 : ω_81.1 = ω_61.1 := by rw [hw_82]
        refine lv_aload_n hx hb dX1_letBuild_145 rfl (lv_at hl 1 rfl) ?_
        have f_86 : ω_81.2 (a + 6 + 5 * j) = some (.inr (7, [.int (v 3 j), .int (v 4 j), .int (v 5 j), .int (nI i), .int (skipF v j (stN v j) (v 9 i) (v 8 i) f0), .ref (a + 6 + 5 * j + 1), .ref (a + 6 + 5 * j + 2), .ref (a + 6 + 5 * j + 3), .ref (a + 6 + 5 * j + 4)])) := (fr_84 (a + 6 + 5 * j) (by omega)).trans f_69
        refine fw_get (v := .int (v 3 j)) (C := RX5) (T := TX5) (N := 9) hx hb hts hin5 hown hK hR f_86 rfl 0 (by decide) (hts (.fieldLink RX1 71 "UnreadLeaflets$Leaflet" "steps" "I") (by decide +kernel)) rfl dX1_letBuild_146 ?_
        refine lv_aload_n hx hb dX1_letBuild_149 rfl (lv_at hl 1 rfl) ?_
        have f_88 : ω_81.2 (a + 6 + 5 * j + 1) = some (.inl (G.2.1 0, 8, .inl (v (10 + j)))) := (fr_84 (a + 6 + 5 * j + 1) (by omega)).trans f_71
        have f_89 : ω_81.2 (a + 6 + 5 * j + 2) = some (.inl (G.2.1 0, 8, .inl (v (20 + j)))) := (fr_84 (a + 6 + 5 * j + 2) (by omega)).trans f_73
        have f_90 : ω_81.2 (a + 6 + 5 * j + 3) = some (.inl (G.2.1 0, 8, .inl (v (30 + j)))) := (fr_84 (a + 6 + 5 * j + 3) (by omega)).trans f_75
        have f_91 : ω_81.2 (a + 6 + 5 * j + 4) = some (.inl (G.2.1 0, 8, .inl (fun i9 => v (40 + j) i9 + 1))) := (fr_84 (a + 6 + 5 * j + 4) (by omega)).trans f_77
        have hlf_87 : LeafS G ω_81.2 (a + 6 + 5 * j) (set1 (set1 v 6 j (nI i + 1)) 7 j (skipF v j (stN v j) (v 9 i) (v 8 i) f0)) j := by
          refine ⟨f_86.trans (congrArg some ?_), f_88.trans (congrArg some ?_), f_89.trans (congrArg some ?_), f_90.trans (congrArg some ?_), f_91.trans (congrArg some ?_)⟩
          all_goals first | rfl | (simp [set1, setR, upd, buildV, needW_eq, needJ_6, needJ_7, skipF_6, ne_big, ne_big']; done)
        refine fw_call (va_runV (As := []) (rest := [.int (v 3 j)]) ⟨hx, hb, hml, hown, hts⟩ (c_X5_skippedSteps G hL l ω_81 (a + 6 + 5 * j) j (set1 (set1 v 6 j (nI i + 1)) 7 j (skipF v j (stN v j) (v 9 i) (v 8 i) f0)) hlf_87  ) (cwV 0 hts gX1_letBuild_X5_skippedSteps rfl rfl rfl (by decide +kernel) ⟨Nat.le_of_ble_eq_true rfl, Nat.le_of_ble_eq_true rfl⟩) (fw_preV hW hK hR f_86 rfl) rfl rfl hl.1 rfl (lv_room (Nat.le_of_ble_eq_true rfl)) dX1_letBuild_150 ⟨Nat.le_of_ble_eq_true rfl, Nat.le_of_ble_eq_true rfl⟩) hS (fun v_92 ω_93 H locs hq_94 hR hS => ?_)
        obtain ⟨rfl, hq_94⟩ := hq_94
        rw [hq_94] at hR
        refine W.eq (g2 := F0 mI 153 ls [.int (popF ((set1 (set1 v 6 j (nI i + 1)) 7 j (skipF v j (stN v j) (v 9 i) (v 8 i) f0)) 7 j)), .int (v 3 j)]) rfl ?_
        refine W.eq (g2 := F0 mI 153 ls [.int (popF (skipF v j (stN v j) (v 9 i) (v 8 i) f0)), .int (v 3 j)]) (by rw [set1_at]) ?_
        refine lv_isub hx hb dX1_letBuild_153 ?_
        refine fw_iret hx hb hr hlocks hR hS dX1_letBuild_154 ?_
        have z_95 : ω_81.1 = ω.1 := by rw [z_85, z_65, z_56, z_37, z_18]
        have fr_96 : ∀ q : Nat, ¬ (a ≤ q ∧ q < a + 52) → ω_81.2 q = ω.2 q := by
          intro q hq0
          rw [fr_84 q (by omega)]
          rw [fr_64 q (by omega)]
          rw [fr_57 q (by omega)]
          rw [fr_36 q (by omega)]
          rw [fr_17 q (by omega)]
        have f_98 : ω_14.2 (a + 51) = some (.inr (9, [.int k1, .int k2, .int k3])) := (fr_17 (a + 51) (by omega)).trans hk
        have f_99 : ω_33.2 (a + 51) = some (.inr (9, [.int k1, .int k2, .int k3])) := (fr_36 (a + 51) (by omega)).trans f_98
        have f_100 : ω_54.2 (a + 51) = some (.inr (9, [.int k1, .int k2, .int k3])) := (fr_57 (a + 51) (by omega)).trans f_99
        have f_101 : ω_61.2 (a + 51) = some (.inr (9, [.int k1, .int k2, .int k3])) := (fr_64 (a + 51) (by omega)).trans f_100
        have f_102 : ω_81.2 (a + 51) = some (.inr (9, [.int k1, .int k2, .int k3])) := (fr_84 (a + 51) (by omega)).trans f_101
        have f_103 : ω_61.2 (a + 4) = some (.inl (G.2.1 0, 6, .inl (putJ (v 1) (fun i9 => needJ (set1 (set1 v 6 j (nI i + 1)) 7 j (skipF v j (stN v j) (v 9 i) (v 8 i) f0)) j (skipF v j (stN v j) (v 9 i) (v 8 i) f0) (nI i9) (stN v j)) 6))) := (fr_64 (a + 4) (by omega)).trans f_58
        have f_104 : ω_81.2 (a + 4) = some (.inl (G.2.1 0, 6, .inl (putJ (v 1) (fun i9 => needJ (set1 (set1 v 6 j (nI i + 1)) 7 j (skipF v j (stN v j) (v 9 i) (v 8 i) f0)) j (skipF v j (stN v j) (v 9 i) (v 8 i) f0) (nI i9) (stN v j)) 6))) := (fr_84 (a + 4) (by omega)).trans f_103
        have f_105 : ω_54.2 (a + 5) = some (.inl (G.2.1 0, 6, .inl (v 2))) := (fr_57 (a + 5) (by omega)).trans f_47
        have f_106 : ω_61.2 (a + 5) = some (.inl (G.2.1 0, 6, .inl (v 2))) := (fr_64 (a + 5) (by omega)).trans f_105
        have f_107 : ω_81.2 (a + 5) = some (.inl (G.2.1 0, 6, .inl (v 2))) := (fr_84 (a + 5) (by omega)).trans f_106
        have hlf_108 : LeafS G ω_81.2 (a + 6 + 5 * j) (buildV v j (nI i) (skipF v j (stN v j) (v 9 i) (v 8 i) f0)) j := by
          refine ⟨f_86.trans (congrArg some ?_), f_88.trans (congrArg some ?_), f_89.trans (congrArg some ?_), f_90.trans (congrArg some ?_), f_91.trans (congrArg some ?_)⟩
          all_goals first | rfl | (simp [set1, setR, upd, buildV, needW_eq, needJ_6, needJ_7, skipF_6, ne_big, ne_big']; done)
        have hA_97 : ArcS G ω_81.2 a (buildV v j (nI i) (skipF v j (stN v j) (v 9 i) (v 8 i) f0)) := by
          refine hA.gen _ (j) (5) (f_83.trans (congrArg some ?_)) (f_104.trans (congrArg some ?_)) (f_107.trans (congrArg some ?_)) (fun hk9 => ?_) (fun hc9 => ?_) (fun q q1 q2 q3 q4 q5 q6 => ?_) (fun j9 h9 n9 => ?_) (fun j9 h9 n9 => ?_) (by omega) (by omega)
          · first | rfl | (simp [set1, setR, upd, buildV, needW_eq, needJ_6, needJ_7, skipF_6, ne_big, ne_big']; done)
          · first | rfl | (simp [set1, setR, upd, buildV, needW_eq, needJ_6, needJ_7, skipF_6, ne_big, ne_big']; done)
          · first | rfl | (simp [set1, setR, upd, buildV, needW_eq, needJ_6, needJ_7, skipF_6, ne_big, ne_big']; done)
          · exact hlf_108
          · exact absurd hc9 (by decide)
          · skip
            rw [fr_84 q (by omega)]
            rw [fr_64 q (by omega)]
            rw [fr_57 q (by omega)]
            rw [fr_36 q (by omega)]
            rw [fr_17 q (by omega)]
          · exact buildV_le n9
          · constructor <;> first | rfl | (simp [set1, setR, upd, buildV, needW_eq, needJ_6, needJ_7, skipF_6, n9, ne_big, ne_big']; done)
        have hr_109 : buildC v k1 k2 k3 (nI i) (nI j) = (((v 3 j) - (popF (skipF v j (stN v j) (v 9 i) (v 8 i) f0)), (buildV v j (nI i) (skipF v j (stN v j) (v 9 i) (v 8 i) f0)), k1, k2, k3) : CR) := by
          simp only [buildC, hcc, hdd, hci, hcj, hcf, skipL]
          rw [if_pos c_4, if_pos c_8, if_neg c_13]
        rw [hr_109]
        exact ⟨rfl, z_95, hA_97, f_102, fr_96⟩
      · skip
        have c_13 := bz_ne c_13
        refine lv_aload_n hx hb dX1_letBuild_49 rfl (lv_at hl 1 rfl) ?_
        refine fw_get (v := .ref (a + 51)) (C := RX1) (T := TX1) (N := 2) hx hb hts hin1 hown hK hR hy rfl 1 (by decide) (hts (.fieldLink RX1 21 "UnreadLeaflets$Changes" "kept" "LUnreadLeaflets$Reason;") (by decide +kernel)) rfl dX1_letBuild_50 ?_
        refine lv_bipush (v := 6) hx hb dX1_letBuild_53 (by decide) ?_
        refine lv_aload_n hx hb dX1_letBuild_55 rfl (lv_at hl 0 rfl) ?_
        refine fw_get (v := .int (v 6 j - 1)) (C := RX5) (T := TX5) (N := 9) hx hb hts hin5 hown hK hR f_9 rfl 3 (by decide) (hts (.fieldLink RX1 68 "UnreadLeaflets$Leaflet" "builder" "I") (by decide +kernel)) rfl dX1_letBuild_56 ?_
        refine fw_call (va_runV (As := [.int 6, .int (v 6 j - 1)]) (rest := []) ⟨hx, hb, hml, hown, hts⟩ (c_X7_refuse G hL l ω (a + 51) k1 k2 k3 6 (v 6 j - 1) hk) (cwV 2 hts gX1_letBuild_X7_refuse rfl rfl rfl (by decide +kernel) ⟨Nat.le_of_ble_eq_true rfl, Nat.le_of_ble_eq_true rfl⟩) (fw_preV hW hK hR hk rfl) rfl rfl hl.1 rfl (lv_room (Nat.le_of_ble_eq_true rfl)) dX1_letBuild_59 ⟨Nat.le_of_ble_eq_true rfl, Nat.le_of_ble_eq_true rfl⟩) hS (fun v_110 ω_111 H locs hq_112 hR hS => ?_)
        obtain ⟨rfl, z_113, f_115, fr_114⟩ := hq_112
        refine W.eq (g2 := F0 mI 62 ls [.int (-1)]) rfl ?_
        refine fw_iret hx hb hr hlocks hR hS dX1_letBuild_62 ?_
        have z_116 : ω_111.1 = ω.1 := by rw [z_113]
        have fr_117 : ∀ q : Nat, ¬ (a ≤ q ∧ q < a + 52) → ω_111.2 q = ω.2 q := by
          intro q hq0
          rw [fr_114 q (by omega)]
        have hA_118 : ArcS G ω_111.2 a v := hA.keep (fun q q1 q2 => by
          rw [fr_114 q (by omega)])
        have hr_119 : buildC v k1 k2 k3 (nI i) (nI j) = (((-1), v, 6, (v 6 j - 1), 0) : CR) := by
          simp only [buildC, hcc, hdd, hci, hcj]
          rw [if_pos c_4, if_pos c_8, if_pos c_13]
        rw [hr_119]
        exact ⟨rfl, z_116, hA_118, f_115, fr_117⟩
    · skip
      have c_8 := bz_eq c_8
      refine lv_aload_n hx hb dX1_letBuild_27 rfl (lv_at hl 0 rfl) ?_
      refine fw_call (va_runV (As := []) (rest := []) ⟨hx, hb, hml, hown, hts⟩ (c_X1_refuseNoLeaflet G hL l ω y a v k1 k2 k3 hy hay hA hk hW0) (cwV 0 hts gX1_letBuild_X1_refuseNoLeaflet rfl rfl rfl (by decide +kernel) ⟨Nat.le_of_ble_eq_true rfl, Nat.le_of_ble_eq_true rfl⟩) (fw_preV hW hK hR hy rfl) rfl rfl hl.1 rfl (lv_room (Nat.le_of_ble_eq_true rfl)) dX1_letBuild_28 ⟨Nat.le_of_ble_eq_true rfl, Nat.le_of_ble_eq_true rfl⟩) hS (fun v_120 ω_121 H locs hq_122 hR hS => ?_)
      obtain ⟨rfl, z_123, f_125, fr_124⟩ := hq_122
      refine W.eq (g2 := F0 mI 31 ls [.int (-1)]) rfl ?_
      refine fw_iret hx hb hr hlocks hR hS dX1_letBuild_31 ?_
      have z_126 : ω_121.1 = ω.1 := by rw [z_123]
      have fr_127 : ∀ q : Nat, ¬ (a ≤ q ∧ q < a + 52) → ω_121.2 q = ω.2 q := by
        intro q hq0
        rw [fr_124 q (by omega)]
      have hA_128 : ArcS G ω_121.2 a v := hA.keep (fun q q1 q2 => by
        rw [fr_124 q (by omega)])
      have hr_129 : buildC v k1 k2 k3 (nI i) m = (((-1), v, 3, (v 0 0), 0) : CR) := by
        simp only [buildC, hcc, hdd, hci]
        rw [if_pos c_4, if_neg c_8]
      rw [hr_129]
      exact ⟨rfl, z_126, hA_128, f_125, fr_127⟩
  · skip
    have c_4 := bz_eq c_4
    refine lv_aload_n hx hb dX1_letBuild_11 rfl (lv_at hl 0 rfl) ?_
    refine fw_call (va_runV (As := []) (rest := []) ⟨hx, hb, hml, hown, hts⟩ (c_X1_refuseNoCousin G hL l ω y a v k1 k2 k3 hy hay hA hk hW0) (cwV 0 hts gX1_letBuild_X1_refuseNoCousin rfl rfl rfl (by decide +kernel) ⟨Nat.le_of_ble_eq_true rfl, Nat.le_of_ble_eq_true rfl⟩) (fw_preV hW hK hR hy rfl) rfl rfl hl.1 rfl (lv_room (Nat.le_of_ble_eq_true rfl)) dX1_letBuild_12 ⟨Nat.le_of_ble_eq_true rfl, Nat.le_of_ble_eq_true rfl⟩) hS (fun v_130 ω_131 H locs hq_132 hR hS => ?_)
    obtain ⟨rfl, z_133, f_135, fr_134⟩ := hq_132
    refine W.eq (g2 := F0 mI 15 ls [.int (-1)]) rfl ?_
    refine fw_iret hx hb hr hlocks hR hS dX1_letBuild_15 ?_
    have z_136 : ω_131.1 = ω.1 := by rw [z_133]
    have fr_137 : ∀ q : Nat, ¬ (a ≤ q ∧ q < a + 52) → ω_131.2 q = ω.2 q := by
      intro q hq0
      rw [fr_134 q (by omega)]
    have hA_138 : ArcS G ω_131.2 a v := hA.keep (fun q q1 q2 => by
      rw [fr_134 q (by omega)])
    have hr_139 : buildC v k1 k2 k3 m1 m = (((-1), v, 4, (v 0 1), 0) : CR) := by
      simp only [buildC, hcc, hdd]
      rw [if_neg c_4]
    rw [hr_139]
    exact ⟨rfl, z_136, hA_138, f_135, fr_137⟩
set_option maxHeartbeats 4000000 in
set_option maxRecDepth 100000 in
theorem c_X1_doLater (G : FG) (hL : FL G) (l : Launch) (ω : FWd) (y a : Nat) (v : Nat → Nat → Int32) (k1 k2 k3 : Int32) (hy : ω.2 y = some (.inr (3, [.ref a, .ref (a + 51)]))) (hay : a = y + 1) (hA : ArcS G ω.2 a v) (hk : ω.2 (a + 51) = some (.inr (9, [.int k1, .int k2, .int k3]))) (hW0 : WF v) (m sp : Int32) : FMet G l yX1_doLater wsX1_doLater ({ frames := 3, cells := 0, slots := 0, locals := 69 } : Room) [.ref y, .int m, .int sp] ω (CQ G a ω (finC v k1 k2 k3 m sp)) 0 0 := by
  refine fw_ofW (cc := cX1_doLater) (maxL := 5) (ret := (some .int)) (by decide) rfl (Nat.le_of_ble_eq_true rfl) ?_
  intro pP eE sS mI ar9 bl9 meth cD ls hx hb hr hlocks hml hts hown hnm hW hR hl
  have hK := hL.K hW
  have hS : va_S (fwA G) sS.heap sS.heap [] := va_S.rf
  have hin0 : ∀ w ∈ u_ws RX0 TX0 9, w ∈ wsX1_doLater := by decide +kernel
  have hin1 : ∀ w ∈ u_ws RX1 TX1 2, w ∈ wsX1_doLater := by decide +kernel
  have hin5 : ∀ w ∈ u_ws RX5 TX5 9, w ∈ wsX1_doLater := by decide +kernel
  have hl : lv_has ls 5 [(0, .ref y), (1, .int m), (2, .int sp)] := hl
  obtain ⟨h0, h1, h2, h3, h4, h5, hLf, hCo⟩ := id hA
  obtain ⟨c, hc8, hc, hcc⟩ := okN_of hW0.1
  obtain ⟨cc, hd5, hd, hdd⟩ := okN_of hW0.2.1
  have hs : ∀ j, j < c → v 3 j = nI (stN v j) ∧ stN v j ≤ 8 := fun j hj => (hW0.2.2 j (by rw [hcc]; exact hj)).1
  have hfo : ∀ j, j < c → v 4 j = nI (cN (v 4 j)) ∧ cN (v 4 j) ≤ 3 := fun j hj => (hW0.2.2 j (by rw [hcc]; exact hj)).2
  refine lv_aload_n hx hb dX1_doLater_0 rfl (lv_at hl 0 rfl) ?_
  refine fw_get (v := .ref a) (C := RX1) (T := TX1) (N := 2) hx hb hts hin1 hown hK hR hy rfl 0 (by decide) (hts (.fieldLink RX1 12 "UnreadLeaflets$Changes" "archive" "LUnreadLeaflets$Archive;") (by decide +kernel)) rfl dX1_doLater_1 ?_
  refine lv_iload_n hx hb dX1_doLater_4 rfl (lv_at hl 1 rfl) ?_
  refine fw_call (va_runV (As := [.int m]) (rest := []) ⟨hx, hb, hml, hown, hts⟩ (c_X0_hasLeaflet G hL l ω a v hA  m ) (cwV 1 hts gX1_doLater_X0_hasLeaflet rfl rfl rfl (by decide +kernel) ⟨Nat.le_of_ble_eq_true rfl, Nat.le_of_ble_eq_true rfl⟩) (fw_preV hW hK hR h0 rfl) rfl rfl hl.1 rfl (lv_room (Nat.le_of_ble_eq_true rfl)) dX1_doLater_5 ⟨Nat.le_of_ble_eq_true rfl, Nat.le_of_ble_eq_true rfl⟩) hS (fun v_1 ω_2 H locs hq_3 hR hS => ?_)
  obtain ⟨rfl, hq_3⟩ := hq_3
  rw [hq_3] at hR
  refine W.eq (g2 := F0 mI 8 ls [.int (bz (inB m 0 (v 0 0 - 1)))]) rfl ?_
  refine lv_if_ne (tgt := 16) hx hb dX1_doLater_8 (by decide) (fun c_4 => ?_) (fun c_4 => ?_)
  · skip
    have c_4 := bz_ne c_4
    obtain ⟨j, hj2, rfl⟩ := in_c hc hc8 c_4
    have hcj : cN (nI j) = j := cN_nI (by omega)
    refine lv_aload_n hx hb dX1_doLater_16 rfl (lv_at hl 0 rfl) ?_
    refine fw_get (v := .ref a) (C := RX1) (T := TX1) (N := 2) hx hb hts hin1 hown hK hR hy rfl 0 (by decide) (hts (.fieldLink RX1 12 "UnreadLeaflets$Changes" "archive" "LUnreadLeaflets$Archive;") (by decide +kernel)) rfl dX1_doLater_17 ?_
    refine fw_get (v := .ref (a + 1)) (C := RX0) (T := TX0) (N := 9) hx hb hts hin0 hown hK hR h0 rfl 0 (by decide) (hts (.fieldLink RX1 43 "UnreadLeaflets$Archive" "leaflets" "[LUnreadLeaflets$Leaflet;") (by decide +kernel)) rfl dX1_doLater_20 ?_
    refine lv_iload_n hx hb dX1_doLater_23 rfl (lv_at hl 1 rfl) ?_
    refine fw_aald (b := a + 6 + 5 * j) hx hb hK hR h1 rfl (vp_in_nI (by omega) (by omega)) (by rw [nI_clamp (by omega)]) dX1_doLater_24 ?_
    refine lv_astore_n (lv' := [(3, .ref (a + 6 + 5 * j)), (0, .ref y), (1, .int (nI j)), (2, .int sp)]) hx hb dX1_doLater_25 rfl hl (by decide) rfl (fun ls hl => ?_)
    refine lv_aload_n hx hb dX1_doLater_26 rfl (lv_at hl 0 rfl) ?_
    have f_5 : ω.2 (a + 6 + 5 * j) = some (.inr (7, [.int (v 3 j), .int (v 4 j), .int (v 5 j), .int (v 6 j - 1), .int (v 7 j), .ref (a + 6 + 5 * j + 1), .ref (a + 6 + 5 * j + 2), .ref (a + 6 + 5 * j + 3), .ref (a + 6 + 5 * j + 4)])) := (hLf j (by omega)).1
    refine fw_call (va_runV (As := []) (rest := []) ⟨hx, hb, hml, hown, hts⟩ (c_X5_isBuilt G hL l ω (a + 6 + 5 * j) j v (hLf j (by omega))  ) (cwV 0 hts gX1_doLater_X5_isBuilt rfl rfl rfl (by decide +kernel) ⟨Nat.le_of_ble_eq_true rfl, Nat.le_of_ble_eq_true rfl⟩) (fw_preV hW hK hR f_5 rfl) rfl rfl hl.1 rfl (lv_room (Nat.le_of_ble_eq_true rfl)) dX1_doLater_27 ⟨Nat.le_of_ble_eq_true rfl, Nat.le_of_ble_eq_true rfl⟩) hS (fun v_6 ω_7 H locs hq_8 hR hS => ?_)
    obtain ⟨rfl, hq_8⟩ := hq_8
    rw [hq_8] at hR
    refine W.eq (g2 := F0 mI 30 ls [.int (bz (¬ v 6 j - 1 = (-1)))]) rfl ?_
    refine lv_if_ne (tgt := 44) hx hb dX1_doLater_30 (by decide) (fun c_9 => ?_) (fun c_9 => ?_)
    · skip
      have c_9 := bz_ne c_9
      refine lv_aload_n hx hb dX1_doLater_44 rfl (lv_at hl 0 rfl) ?_
      refine lv_iload_n hx hb dX1_doLater_45 rfl (lv_at hl 3 rfl) ?_
      refine fw_call (va_runV (As := [.int sp]) (rest := []) ⟨hx, hb, hml, hown, hts⟩ (c_X5_hasStep G hL l ω (a + 6 + 5 * j) j v (hLf j (by omega))  sp) (cwV 1 hts gX1_doLater_X5_hasStep rfl rfl rfl (by decide +kernel) ⟨Nat.le_of_ble_eq_true rfl, Nat.le_of_ble_eq_true rfl⟩) (fw_preV hW hK hR f_5 rfl) rfl rfl hl.1 rfl (lv_room (Nat.le_of_ble_eq_true rfl)) dX1_doLater_46 ⟨Nat.le_of_ble_eq_true rfl, Nat.le_of_ble_eq_true rfl⟩) hS (fun v_10 ω_11 H locs hq_12 hR hS => ?_)
      obtain ⟨rfl, hq_12⟩ := hq_12
      rw [hq_12] at hR
      refine W.eq (g2 := F0 mI 49 ls [.int (bz (inB sp 0 (v 3 j - 1)))]) rfl ?_
      refine lv_if_ne (tgt := 66) hx hb dX1_doLater_49 (by decide) (fun c_13 => ?_) (fun c_13 => ?_)
      · skip
        have c_13 := bz_ne c_13
        refine lv_aload_n hx hb dX1_doLater_66 rfl (lv_at hl 0 rfl) ?_
        refine lv_iload_n hx hb dX1_doLater_67 rfl (lv_at hl 3 rfl) ?_
        refine fw_call (va_runV (As := [.int sp]) (rest := []) ⟨hx, hb, hml, hown, hts⟩ (c_X5_isSkipped G hL l ω (a + 6 + 5 * j) j v (hLf j (by omega))  sp) (cwV 1 hts gX1_doLater_X5_isSkipped rfl rfl rfl (by decide +kernel) ⟨Nat.le_of_ble_eq_true rfl, Nat.le_of_ble_eq_true rfl⟩) (fw_preV hW hK hR f_5 rfl) rfl rfl hl.1 rfl (lv_room (Nat.le_of_ble_eq_true rfl)) dX1_doLater_68 ⟨Nat.le_of_ble_eq_true rfl, Nat.le_of_ble_eq_true rfl⟩) hS (fun v_14 ω_15 H locs hq_16 hR hS => ?_)
        obtain ⟨rfl, hq_16⟩ := hq_16
        rw [hq_16] at hR
        refine W.eq (g2 := F0 mI 71 ls [.int (bz (hasB (v 7 j) sp))]) rfl ?_
        refine lv_if_ne (tgt := 85) hx hb dX1_doLater_71 (by decide) (fun c_17 => ?_) (fun c_17 => ?_)
        · skip
          have c_17 := bz_ne c_17
          refine lv_aload_n hx hb dX1_doLater_85 rfl (lv_at hl 1 rfl) ?_
          refine fw_get (v := .ref a) (C := RX1) (T := TX1) (N := 2) hx hb hts hin1 hown hK hR hy rfl 0 (by decide) (hts (.fieldLink RX1 12 "UnreadLeaflets$Changes" "archive" "LUnreadLeaflets$Archive;") (by decide +kernel)) rfl dX1_doLater_86 ?_
          refine fw_get (v := .ref (a + 3)) (C := RX0) (T := TX0) (N := 9) hx hb hts hin0 hown hK hR h0 rfl 4 (by decide) (hts (.fieldLink RX1 127 "UnreadLeaflets$Archive" "tin" "LUnreadLeaflets$Tin;") (by decide +kernel)) rfl dX1_doLater_89 ?_
          refine lv_aload_n hx hb dX1_doLater_92 rfl (lv_at hl 0 rfl) ?_
          refine lv_iconst (v := 1) hx hb dX1_doLater_93 (by decide) ?_
          refine lv_iload_n hx hb dX1_doLater_94 rfl (lv_at hl 3 rfl) ?_
          refine lv_ishl hx hb dX1_doLater_95 ?_
          refine fw_call (va_runV (As := [.ref (a + 6 + 5 * j), .int (1 <<< (sp &&& 31))]) (rest := []) ⟨hx, hb, hml, hown, hts⟩ (c_X9_kindLacking G hL l ω (a + 3) (v 1) (v 2) (⟨h3, h4, h5⟩) (a + 6 + 5 * j) j v (hLf j (by omega)) (stN v j) (hs j hj2).1 (hs j hj2).2 (1 <<< (sp &&& 31))) (cwV 2 hts gX1_doLater_X9_kindLacking rfl rfl rfl (by decide +kernel) ⟨Nat.le_of_ble_eq_true rfl, Nat.le_of_ble_eq_true rfl⟩) (fw_preV hW hK hR h3 rfl) rfl rfl hl.1 rfl (lv_room (Nat.le_of_ble_eq_true rfl)) dX1_doLater_96 ⟨Nat.le_of_ble_eq_true rfl, Nat.le_of_ble_eq_true rfl⟩) hS (fun v_18 ω_19 H locs hq_20 hR hS => ?_)
          obtain ⟨rfl, hq_20⟩ := hq_20
          rw [hq_20] at hR
          refine W.eq (g2 := F0 mI 99 ls [.int (lackJ (v 1) (fun i9 => needJ v j (1 <<< (sp &&& 31)) (nI i9) (stN v j)) 0 6)]) rfl ?_
          refine lv_istore (lv' := [(4, .int (lackJ (v 1) (fun i9 => needJ v j (1 <<< (sp &&& 31)) (nI i9) (stN v j)) 0 6)), (3, .ref (a + 6 + 5 * j)), (0, .ref y), (1, .int (nI j)), (2, .int sp)]) hx hb dX1_doLater_99 hl (by decide) rfl (fun ls hl => ?_)
          refine lv_iload hx hb dX1_doLater_101 (lv_at hl 0 rfl) ?_
          refine lv_iconst (v := (-1)) hx hb dX1_doLater_103 (by decide) ?_
          refine lv_icmp_eq (tgt := 119) hx hb dX1_doLater_104 (by decide) (fun c_21 => ?_) (fun c_21 => ?_)
          · skip
            refine lv_aload_n hx hb dX1_doLater_119 rfl (lv_at hl 2 rfl) ?_
            refine fw_get (v := .ref a) (C := RX1) (T := TX1) (N := 2) hx hb hts hin1 hown hK hR hy rfl 0 (by decide) (hts (.fieldLink RX1 12 "UnreadLeaflets$Changes" "archive" "LUnreadLeaflets$Archive;") (by decide +kernel)) rfl dX1_doLater_120 ?_
            refine fw_get (v := .ref (a + 3)) (C := RX0) (T := TX0) (N := 9) hx hb hts hin0 hown hK hR h0 rfl 4 (by decide) (hts (.fieldLink RX1 127 "UnreadLeaflets$Archive" "tin" "LUnreadLeaflets$Tin;") (by decide +kernel)) rfl dX1_doLater_123 ?_
            refine lv_aload_n hx hb dX1_doLater_126 rfl (lv_at hl 1 rfl) ?_
            refine lv_iconst (v := 1) hx hb dX1_doLater_127 (by decide) ?_
            refine lv_iload_n hx hb dX1_doLater_128 rfl (lv_at hl 4 rfl) ?_
            refine lv_ishl hx hb dX1_doLater_129 ?_
            refine fw_call (va_runV (As := [.ref (a + 6 + 5 * j), .int (1 <<< (sp &&& 31))]) (rest := []) ⟨hx, hb, hml, hown, hts⟩ (c_X9_takeOut G hL l ω (a + 3) (v 1) (v 2) (⟨h3, h4, h5⟩) (a + 6 + 5 * j) j v (hLf j (by omega)) (stN v j) (hs j hj2).1 (hs j hj2).2 (1 <<< (sp &&& 31)) (by omega)) (cwV 2 hts gX1_doLater_X9_takeOut rfl rfl rfl (by decide +kernel) ⟨Nat.le_of_ble_eq_true rfl, Nat.le_of_ble_eq_true rfl⟩) (fw_preV hW hK hR h3 rfl) rfl rfl hl.1 rfl (lv_room (Nat.le_of_ble_eq_true rfl)) dX1_doLater_130 ⟨Nat.le_of_ble_eq_true rfl, Nat.le_of_ble_eq_true rfl⟩) hS (fun v_22 ω_23 H locs hq_24 hR hS => ?_)
            obtain ⟨rfl, z_25, f_27, fr_26⟩ := hq_24
            refine W.eq (g2 := F0 mI 133 ls []) rfl ?_
            refine lv_aload_n hx hb dX1_doLater_133 rfl (lv_at hl 1 rfl) ?_
            refine lv_dup hx hb dX1_doLater_134 rfl ?_
            have f_28 : ω_23.2 (a + 6 + 5 * j) = some (.inr (7, [.int (v 3 j), .int (v 4 j), .int (v 5 j), .int (v 6 j - 1), .int (v 7 j), .ref (a + 6 + 5 * j + 1), .ref (a + 6 + 5 * j + 2), .ref (a + 6 + 5 * j + 3), .ref (a + 6 + 5 * j + 4)])) := (fr_26 (a + 6 + 5 * j) (by omega)).trans f_5
            refine fw_get (v := .int (v 7 j)) (C := RX5) (T := TX5) (N := 9) hx hb hts hin5 hown hK hR f_28 rfl 4 (by decide) (hts (.fieldLink RX1 124 "UnreadLeaflets$Leaflet" "skipped" "I") (by decide +kernel)) rfl dX1_doLater_135 ?_
            refine lv_iconst (v := 1) hx hb dX1_doLater_138 (by decide) ?_
            refine lv_iload_n hx hb dX1_doLater_139 rfl (lv_at hl 4 rfl) ?_
            refine lv_ishl hx hb dX1_doLater_140 ?_
            refine lv_iconst (v := (-1)) hx hb dX1_doLater_141 (by decide) ?_
            refine lv_ixor hx hb dX1_doLater_142 ?_
            refine lv_iand hx hb dX1_doLater_143 ?_
            refine fw_put (v := .int ((v 7 j) &&& ((1 <<< (sp &&& 31)) ^^^ (-1)))) (C := RX5) (T := TX5) (N := 9) hx hb hts hin5 tyX5 tyX5_ok nmX5 hown hK hR hS f_28 rfl 4 (by decide) (hts (.fieldLink RX1 124 "UnreadLeaflets$Leaflet" "skipped" "I") (by decide +kernel)) rfl rfl rfl (Nat.le_of_ble_eq_true rfl) dX1_doLater_144 (fun H locs hR hS => ?_)
            obtain ⟨ω_29, hw_30⟩ : ∃ τ : FWd, τ = (ω_23.1, va_up ω_23.2 (a + 6 + 5 * j) (some (.inr (7, [.int (v 3 j), .int (v 4 j), .int (v 5 j), .int (v 6 j - 1), .int ((v 7 j) &&& ((1 <<< (sp &&& 31)) ^^^ (-1))), .ref (a + 6 + 5 * j + 1), .ref (a + 6 + 5 * j + 2), .ref (a + 6 + 5 * j + 3), .ref (a + 6 + 5 * j + 4)])))) := ⟨_, rfl⟩
            have hR : fR G ω_29 H := by rw [hw_30]; exact hR
            have f_31 : ω_29.2 (a + 6 + 5 * j) = some (.inr (7, [.int (v 3 j), .int (v 4 j), .int (v 5 j), .int (v 6 j - 1), .int ((v 7 j) &&& ((1 <<< (sp &&& 31)) ^^^ (-1))), .ref (a + 6 + 5 * j + 1), .ref (a + 6 + 5 * j + 2), .ref (a + 6 + 5 * j + 3), .ref (a + 6 + 5 * j + 4)])) := by rw [hw_30]; exact va_up_at
            have fr_32 : ∀ q : Nat, ¬ q = (a + 6 + 5 * j) → ω_29.2 q = ω_23.2 q := fun q hq => by rw [hw_30]; exact va_up_off hq
            have z_33 : ω_29.1 = ω_23.1 := by rw [hw_30]
            refine lv_aload_n hx hb dX1_doLater_147 rfl (lv_at hl 2 rfl) ?_
            have f_34 : ω_23.2 y = some (.inr (3, [.ref a, .ref (a + 51)])) := (fr_26 y (by omega)).trans hy
            have f_35 : ω_29.2 y = some (.inr (3, [.ref a, .ref (a + 51)])) := (fr_32 y (by omega)).trans f_34
            refine fw_get (v := .ref a) (C := RX1) (T := TX1) (N := 2) hx hb hts hin1 hown hK hR f_35 rfl 0 (by decide) (hts (.fieldLink RX1 12 "UnreadLeaflets$Changes" "archive" "LUnreadLeaflets$Archive;") (by decide +kernel)) rfl dX1_doLater_148 ?_
            refine lv_dup hx hb dX1_doLater_151 rfl ?_
            have f_36 : ω_23.2 a = some (.inr (2, [.ref (a + 1), .int (v 0 0), .ref (a + 2), .int (v 0 1), .ref (a + 3), .int (v 0 2), .int (v 0 3), .int (v 0 4), .int (v 0 5)])) := (fr_26 a (by omega)).trans h0
            have f_37 : ω_29.2 a = some (.inr (2, [.ref (a + 1), .int (v 0 0), .ref (a + 2), .int (v 0 1), .ref (a + 3), .int (v 0 2), .int (v 0 3), .int (v 0 4), .int (v 0 5)])) := (fr_32 a (by omega)).trans f_36
            refine fw_get (v := .int (v 0 4)) (C := RX0) (T := TX0) (N := 9) hx hb hts hin0 hown hK hR f_37 rfl 7 (by decide) (hts (.fieldLink RX1 159 "UnreadLeaflets$Archive" "doneLaterSoFar" "I") (by decide +kernel)) rfl dX1_doLater_152 ?_
            refine lv_iconst (v := 1) hx hb dX1_doLater_155 (by decide) ?_
            refine lv_iadd hx hb dX1_doLater_156 ?_
            refine fw_put (v := .int ((v 0 4) + 1)) (C := RX0) (T := TX0) (N := 9) hx hb hts hin0 tyX0 tyX0_ok nmX0 hown hK hR hS f_37 rfl 7 (by decide) (hts (.fieldLink RX1 159 "UnreadLeaflets$Archive" "doneLaterSoFar" "I") (by decide +kernel)) rfl rfl rfl (Nat.le_of_ble_eq_true rfl) dX1_doLater_157 (fun H locs hR hS => ?_)
            obtain ⟨ω_38, hw_39⟩ : ∃ τ : FWd, τ = (ω_29.1, va_up ω_29.2 a (some (.inr (2, [.ref (a + 1), .int (v 0 0), .ref (a + 2), .int (v 0 1), .ref (a + 3), .int (v 0 2), .int (v 0 3), .int ((v 0 4) + 1), .int (v 0 5)])))) := ⟨_, rfl⟩
            have hR : fR G ω_38 H := by rw [hw_39]; exact hR
            have f_40 : ω_38.2 a = some (.inr (2, [.ref (a + 1), .int (v 0 0), .ref (a + 2), .int (v 0 1), .ref (a + 3), .int (v 0 2), .int (v 0 3), .int ((v 0 4) + 1), .int (v 0 5)])) := by rw [hw_39]; exact va_up_at
            have fr_41 : ∀ q : Nat, ¬ q = a → ω_38.2 q = ω_29.2 q := fun q hq => by rw [hw_39]; exact va_up_off hq
            have z_42 : ω_38.1 = ω_29.1 := by rw [hw_39]
            refine lv_aload_n hx hb dX1_doLater_160 rfl (lv_at hl 1 rfl) ?_
            have f_44 : ω_38.2 (a + 6 + 5 * j) = some (.inr (7, [.int (v 3 j), .int (v 4 j), .int (v 5 j), .int (v 6 j - 1), .int ((v 7 j) &&& ((1 <<< (sp &&& 31)) ^^^ (-1))), .ref (a + 6 + 5 * j + 1), .ref (a + 6 + 5 * j + 2), .ref (a + 6 + 5 * j + 3), .ref (a + 6 + 5 * j + 4)])) := (fr_41 (a + 6 + 5 * j) (by omega)).trans f_31
            have f_45 : ω.2 (a + 6 + 5 * j + 1) = some (.inl (G.2.1 0, 8, .inl (v (10 + j)))) := (hLf j (by omega)).2.1
            have f_46 : ω_23.2 (a + 6 + 5 * j + 1) = some (.inl (G.2.1 0, 8, .inl (v (10 + j)))) := (fr_26 (a + 6 + 5 * j + 1) (by omega)).trans f_45
            have f_47 : ω_29.2 (a + 6 + 5 * j + 1) = some (.inl (G.2.1 0, 8, .inl (v (10 + j)))) := (fr_32 (a + 6 + 5 * j + 1) (by omega)).trans f_46
            have f_48 : ω_38.2 (a + 6 + 5 * j + 1) = some (.inl (G.2.1 0, 8, .inl (v (10 + j)))) := (fr_41 (a + 6 + 5 * j + 1) (by omega)).trans f_47
            have f_49 : ω.2 (a + 6 + 5 * j + 2) = some (.inl (G.2.1 0, 8, .inl (v (20 + j)))) := (hLf j (by omega)).2.2.1
            have f_50 : ω_23.2 (a + 6 + 5 * j + 2) = some (.inl (G.2.1 0, 8, .inl (v (20 + j)))) := (fr_26 (a + 6 + 5 * j + 2) (by omega)).trans f_49
            have f_51 : ω_29.2 (a + 6 + 5 * j + 2) = some (.inl (G.2.1 0, 8, .inl (v (20 + j)))) := (fr_32 (a + 6 + 5 * j + 2) (by omega)).trans f_50
            have f_52 : ω_38.2 (a + 6 + 5 * j + 2) = some (.inl (G.2.1 0, 8, .inl (v (20 + j)))) := (fr_41 (a + 6 + 5 * j + 2) (by omega)).trans f_51
            have f_53 : ω.2 (a + 6 + 5 * j + 3) = some (.inl (G.2.1 0, 8, .inl (v (30 + j)))) := (hLf j (by omega)).2.2.2.1
            have f_54 : ω_23.2 (a + 6 + 5 * j + 3) = some (.inl (G.2.1 0, 8, .inl (v (30 + j)))) := (fr_26 (a + 6 + 5 * j + 3) (by omega)).trans f_53
            have f_55 : ω_29.2 (a + 6 + 5 * j + 3) = some (.inl (G.2.1 0, 8, .inl (v (30 + j)))) := (fr_32 (a + 6 + 5 * j + 3) (by omega)).trans f_54
            have f_56 : ω_38.2 (a + 6 + 5 * j + 3) = some (.inl (G.2.1 0, 8, .inl (v (30 + j)))) := (fr_41 (a + 6 + 5 * j + 3) (by omega)).trans f_55
            have f_57 : ω.2 (a + 6 + 5 * j + 4) = some (.inl (G.2.1 0, 8, .inl (fun i9 => v (40 + j) i9 + 1))) := (hLf j (by omega)).2.2.2.2
            have f_58 : ω_23.2 (a + 6 + 5 * j + 4) = some (.inl (G.2.1 0, 8, .inl (fun i9 => v (40 + j) i9 + 1))) := (fr_26 (a + 6 + 5 * j + 4) (by omega)).trans f_57
            have f_59 : ω_29.2 (a + 6 + 5 * j + 4) = some (.inl (G.2.1 0, 8, .inl (fun i9 => v (40 + j) i9 + 1))) := (fr_32 (a + 6 + 5 * j + 4) (by omega)).trans f_58
            have f_60 : ω_38.2 (a + 6 + 5 * j + 4) = some (.inl (G.2.1 0, 8, .inl (fun i9 => v (40 + j) i9 + 1))) := (fr_41 (a + 6 + 5 * j + 4) (by omega)).trans f_59
            have hlf_43 : LeafS G ω_38.2 (a + 6 + 5 * j) (set1 v 7 j (v 7 j &&& (1 <<< (sp &&& 31) ^^^ (-1)))) j := by
              refine ⟨f_44.trans (congrArg some ?_), f_48.trans (congrArg some ?_), f_52.trans (congrArg some ?_), f_56.trans (congrArg some ?_), f_60.trans (congrArg some ?_)⟩
              all_goals first | rfl | (simp [set1, setR, upd, finV, needW_eq, needJ_6, needJ_7, ne_big, ne_big']; done)
            refine fw_call (va_runV (As := []) (rest := []) ⟨hx, hb, hml, hown, hts⟩ (c_X5_skippedSteps G hL l ω_38 (a + 6 + 5 * j) j (set1 v 7 j (v 7 j &&& (1 <<< (sp &&& 31) ^^^ (-1)))) hlf_43  ) (cwV 0 hts gX1_doLater_X5_skippedSteps rfl rfl rfl (by decide +kernel) ⟨Nat.le_of_ble_eq_true rfl, Nat.le_of_ble_eq_true rfl⟩) (fw_preV hW hK hR f_44 rfl) rfl rfl hl.1 rfl (lv_room (Nat.le_of_ble_eq_true rfl)) dX1_doLater_161 ⟨Nat.le_of_ble_eq_true rfl, Nat.le_of_ble_eq_true rfl⟩) hS (fun v_61 ω_62 H locs hq_63 hR hS => ?_)
            obtain ⟨rfl, hq_63⟩ := hq_63
            rw [hq_63] at hR
            refine W.eq (g2 := F0 mI 164 ls [.int (popF ((set1 v 7 j (v 7 j &&& (1 <<< (sp &&& 31) ^^^ (-1)))) 7 j))]) rfl ?_
            refine W.eq (g2 := F0 mI 164 ls [.int (popF (v 7 j &&& (1 <<< (sp &&& 31) ^^^ (-1))))]) (by rw [set1_at]) ?_
            refine fw_iret hx hb hr hlocks hR hS dX1_doLater_164 ?_
            have z_64 : ω_38.1 = ω.1 := by rw [z_42, z_33, z_25]
            have fr_65 : ∀ q : Nat, ¬ (a ≤ q ∧ q < a + 52) → ω_38.2 q = ω.2 q := by
              intro q hq0
              rw [fr_41 q (by omega)]
              rw [fr_32 q (by omega)]
              rw [fr_26 q (by omega)]
            have f_67 : ω_23.2 (a + 51) = some (.inr (9, [.int k1, .int k2, .int k3])) := (fr_26 (a + 51) (by omega)).trans hk
            have f_68 : ω_29.2 (a + 51) = some (.inr (9, [.int k1, .int k2, .int k3])) := (fr_32 (a + 51) (by omega)).trans f_67
            have f_69 : ω_38.2 (a + 51) = some (.inr (9, [.int k1, .int k2, .int k3])) := (fr_41 (a + 51) (by omega)).trans f_68
            have f_70 : ω_29.2 (a + 4) = some (.inl (G.2.1 0, 6, .inl (takeJ (v 1) (fun i9 => needJ v j (1 <<< (sp &&& 31)) (nI i9) (stN v j)) 6))) := (fr_32 (a + 4) (by omega)).trans f_27
            have f_71 : ω_38.2 (a + 4) = some (.inl (G.2.1 0, 6, .inl (takeJ (v 1) (fun i9 => needJ v j (1 <<< (sp &&& 31)) (nI i9) (stN v j)) 6))) := (fr_41 (a + 4) (by omega)).trans f_70
            have f_72 : ω_23.2 (a + 5) = some (.inl (G.2.1 0, 6, .inl (v 2))) := (fr_26 (a + 5) (by omega)).trans h5
            have f_73 : ω_29.2 (a + 5) = some (.inl (G.2.1 0, 6, .inl (v 2))) := (fr_32 (a + 5) (by omega)).trans f_72
            have f_74 : ω_38.2 (a + 5) = some (.inl (G.2.1 0, 6, .inl (v 2))) := (fr_41 (a + 5) (by omega)).trans f_73
            have hlf_75 : LeafS G ω_38.2 (a + 6 + 5 * j) (finV v j sp) j := by
              refine ⟨f_44.trans (congrArg some ?_), f_48.trans (congrArg some ?_), f_52.trans (congrArg some ?_), f_56.trans (congrArg some ?_), f_60.trans (congrArg some ?_)⟩
              all_goals first | rfl | (simp [set1, setR, upd, finV, needW_eq, needJ_6, needJ_7, ne_big, ne_big']; done)
            have hA_66 : ArcS G ω_38.2 a (finV v j sp) := by
              refine hA.gen _ (j) (5) (f_40.trans (congrArg some ?_)) (f_71.trans (congrArg some ?_)) (f_74.trans (congrArg some ?_)) (fun hk9 => ?_) (fun hc9 => ?_) (fun q q1 q2 q3 q4 q5 q6 => ?_) (fun j9 h9 n9 => ?_) (fun j9 h9 n9 => ?_) (by omega) (by omega)
              · first | rfl | (simp [set1, setR, upd, finV, needW_eq, needJ_6, needJ_7, ne_big, ne_big']; done)
              · first | rfl | (simp [set1, setR, upd, finV, needW_eq, needJ_6, needJ_7, ne_big, ne_big']; done)
              · first | rfl | (simp [set1, setR, upd, finV, needW_eq, needJ_6, needJ_7, ne_big, ne_big']; done)
              · exact hlf_75
              · exact absurd hc9 (by decide)
              · skip
                rw [fr_41 q (by omega)]
                rw [fr_32 q (by omega)]
                rw [fr_26 q (by omega)]
              · exact finV_le n9
              · constructor <;> first | rfl | (simp [set1, setR, upd, finV, needW_eq, needJ_6, needJ_7, n9, ne_big, ne_big']; done)
            have hr_76 : finC v k1 k2 k3 (nI j) sp = ((popF (v 7 j &&& (1 <<< (sp &&& 31) ^^^ (-1))), (finV v j sp), k1, k2, k3) : CR) := by
              simp only [finC, hcc, hdd, hcj, needW_eq]
              rw [if_pos c_4, if_pos c_9, if_pos c_13, if_pos c_17, if_pos c_21]
            rw [hr_76]
            exact ⟨rfl, z_64, hA_66, f_69, fr_65⟩
          · skip
            refine lv_aload_n hx hb dX1_doLater_107 rfl (lv_at hl 2 rfl) ?_
            refine fw_get (v := .ref (a + 51)) (C := RX1) (T := TX1) (N := 2) hx hb hts hin1 hown hK hR hy rfl 1 (by decide) (hts (.fieldLink RX1 21 "UnreadLeaflets$Changes" "kept" "LUnreadLeaflets$Reason;") (by decide +kernel)) rfl dX1_doLater_108 ?_
            refine lv_bipush (v := 10) hx hb dX1_doLater_111 (by decide) ?_
            refine lv_iload hx hb dX1_doLater_113 (lv_at hl 0 rfl) ?_
            refine fw_call (va_runV (As := [.int 10, .int (lackJ (v 1) (fun i9 => needJ v j (1 <<< (sp &&& 31)) (nI i9) (stN v j)) 0 6)]) (rest := []) ⟨hx, hb, hml, hown, hts⟩ (c_X7_refuse G hL l ω (a + 51) k1 k2 k3 10 (lackJ (v 1) (fun i9 => needJ v j (1 <<< (sp &&& 31)) (nI i9) (stN v j)) 0 6) hk) (cwV 2 hts gX1_doLater_X7_refuse rfl rfl rfl (by decide +kernel) ⟨Nat.le_of_ble_eq_true rfl, Nat.le_of_ble_eq_true rfl⟩) (fw_preV hW hK hR hk rfl) rfl rfl hl.1 rfl (lv_room (Nat.le_of_ble_eq_true rfl)) dX1_doLater_115 ⟨Nat.le_of_ble_eq_true rfl, Nat.le_of_ble_eq_true rfl⟩) hS (fun v_77 ω_78 H locs hq_79 hR hS => ?_)
            obtain ⟨rfl, z_80, f_82, fr_81⟩ := hq_79
            refine W.eq (g2 := F0 mI 118 ls [.int (-1)]) rfl ?_
            refine fw_iret hx hb hr hlocks hR hS dX1_doLater_118 ?_
            have z_83 : ω_78.1 = ω.1 := by rw [z_80]
            have fr_84 : ∀ q : Nat, ¬ (a ≤ q ∧ q < a + 52) → ω_78.2 q = ω.2 q := by
              intro q hq0
              rw [fr_81 q (by omega)]
            have hA_85 : ArcS G ω_78.2 a v := hA.keep (fun q q1 q2 => by
              rw [fr_81 q (by omega)])
            have hr_86 : finC v k1 k2 k3 (nI j) sp = (((-1), v, 10, (lackJ (v 1) (fun i9 => needJ v j (1 <<< (sp &&& 31)) (nI i9) (stN v j)) 0 6), 0) : CR) := by
              simp only [finC, hcc, hdd, hcj, needW_eq]
              rw [if_pos c_4, if_pos c_9, if_pos c_13, if_pos c_17, if_neg c_21]
            rw [hr_86]
            exact ⟨rfl, z_83, hA_85, f_82, fr_84⟩
        · skip
          have c_17 := bz_eq c_17
          refine lv_aload_n hx hb dX1_doLater_74 rfl (lv_at hl 1 rfl) ?_
          refine fw_get (v := .ref (a + 51)) (C := RX1) (T := TX1) (N := 2) hx hb hts hin1 hown hK hR hy rfl 1 (by decide) (hts (.fieldLink RX1 21 "UnreadLeaflets$Changes" "kept" "LUnreadLeaflets$Reason;") (by decide +kernel)) rfl dX1_doLater_75 ?_
          refine lv_bipush (v := 9) hx hb dX1_doLater_78 (by decide) ?_
          refine lv_iload_n hx hb dX1_doLater_80 rfl (lv_at hl 3 rfl) ?_
          refine fw_call (va_runV (As := [.int 9, .int sp]) (rest := []) ⟨hx, hb, hml, hown, hts⟩ (c_X7_refuse G hL l ω (a + 51) k1 k2 k3 9 sp hk) (cwV 2 hts gX1_doLater_X7_refuse rfl rfl rfl (by decide +kernel) ⟨Nat.le_of_ble_eq_true rfl, Nat.le_of_ble_eq_true rfl⟩) (fw_preV hW hK hR hk rfl) rfl rfl hl.1 rfl (lv_room (Nat.le_of_ble_eq_true rfl)) dX1_doLater_81 ⟨Nat.le_of_ble_eq_true rfl, Nat.le_of_ble_eq_true rfl⟩) hS (fun v_87 ω_88 H locs hq_89 hR hS => ?_)
          obtain ⟨rfl, z_90, f_92, fr_91⟩ := hq_89
          refine W.eq (g2 := F0 mI 84 ls [.int (-1)]) rfl ?_
          refine fw_iret hx hb hr hlocks hR hS dX1_doLater_84 ?_
          have z_93 : ω_88.1 = ω.1 := by rw [z_90]
          have fr_94 : ∀ q : Nat, ¬ (a ≤ q ∧ q < a + 52) → ω_88.2 q = ω.2 q := by
            intro q hq0
            rw [fr_91 q (by omega)]
          have hA_95 : ArcS G ω_88.2 a v := hA.keep (fun q q1 q2 => by
            rw [fr_91 q (by omega)])
          have hr_96 : finC v k1 k2 k3 (nI j) sp = (((-1), v, 9, sp, 0) : CR) := by
            simp only [finC, hcc, hdd, hcj]
            rw [if_pos c_4, if_pos c_9, if_pos c_13, if_neg c_17]
          rw [hr_96]
          exact ⟨rfl, z_93, hA_95, f_92, fr_94⟩
      · skip
        have c_13 := bz_eq c_13
        refine lv_aload_n hx hb dX1_doLater_52 rfl (lv_at hl 1 rfl) ?_
        refine fw_get (v := .ref (a + 51)) (C := RX1) (T := TX1) (N := 2) hx hb hts hin1 hown hK hR hy rfl 1 (by decide) (hts (.fieldLink RX1 21 "UnreadLeaflets$Changes" "kept" "LUnreadLeaflets$Reason;") (by decide +kernel)) rfl dX1_doLater_53 ?_
        refine lv_bipush (v := 8) hx hb dX1_doLater_56 (by decide) ?_
        refine lv_aload_n hx hb dX1_doLater_58 rfl (lv_at hl 0 rfl) ?_
        refine fw_get (v := .int (v 3 j)) (C := RX5) (T := TX5) (N := 9) hx hb hts hin5 hown hK hR f_5 rfl 0 (by decide) (hts (.fieldLink RX1 71 "UnreadLeaflets$Leaflet" "steps" "I") (by decide +kernel)) rfl dX1_doLater_59 ?_
        refine fw_call (va_runV (As := [.int 8, .int (v 3 j)]) (rest := []) ⟨hx, hb, hml, hown, hts⟩ (c_X7_refuse G hL l ω (a + 51) k1 k2 k3 8 (v 3 j) hk) (cwV 2 hts gX1_doLater_X7_refuse rfl rfl rfl (by decide +kernel) ⟨Nat.le_of_ble_eq_true rfl, Nat.le_of_ble_eq_true rfl⟩) (fw_preV hW hK hR hk rfl) rfl rfl hl.1 rfl (lv_room (Nat.le_of_ble_eq_true rfl)) dX1_doLater_62 ⟨Nat.le_of_ble_eq_true rfl, Nat.le_of_ble_eq_true rfl⟩) hS (fun v_97 ω_98 H locs hq_99 hR hS => ?_)
        obtain ⟨rfl, z_100, f_102, fr_101⟩ := hq_99
        refine W.eq (g2 := F0 mI 65 ls [.int (-1)]) rfl ?_
        refine fw_iret hx hb hr hlocks hR hS dX1_doLater_65 ?_
        have z_103 : ω_98.1 = ω.1 := by rw [z_100]
        have fr_104 : ∀ q : Nat, ¬ (a ≤ q ∧ q < a + 52) → ω_98.2 q = ω.2 q := by
          intro q hq0
          rw [fr_101 q (by omega)]
        have hA_105 : ArcS G ω_98.2 a v := hA.keep (fun q q1 q2 => by
          rw [fr_101 q (by omega)])
        have hr_106 : finC v k1 k2 k3 (nI j) sp = (((-1), v, 8, (v 3 j), 0) : CR) := by
          simp only [finC, hcc, hdd, hcj]
          rw [if_pos c_4, if_pos c_9, if_neg c_13]
        rw [hr_106]
        exact ⟨rfl, z_103, hA_105, f_102, fr_104⟩
    · skip
      have c_9 := bz_eq c_9
      refine lv_aload_n hx hb dX1_doLater_33 rfl (lv_at hl 1 rfl) ?_
      refine fw_get (v := .ref (a + 51)) (C := RX1) (T := TX1) (N := 2) hx hb hts hin1 hown hK hR hy rfl 1 (by decide) (hts (.fieldLink RX1 21 "UnreadLeaflets$Changes" "kept" "LUnreadLeaflets$Reason;") (by decide +kernel)) rfl dX1_doLater_34 ?_
      refine lv_bipush (v := 7) hx hb dX1_doLater_37 (by decide) ?_
      refine lv_iconst (v := 0) hx hb dX1_doLater_39 (by decide) ?_
      refine fw_call (va_runV (As := [.int 7, .int 0]) (rest := []) ⟨hx, hb, hml, hown, hts⟩ (c_X7_refuse G hL l ω (a + 51) k1 k2 k3 7 0 hk) (cwV 2 hts gX1_doLater_X7_refuse rfl rfl rfl (by decide +kernel) ⟨Nat.le_of_ble_eq_true rfl, Nat.le_of_ble_eq_true rfl⟩) (fw_preV hW hK hR hk rfl) rfl rfl hl.1 rfl (lv_room (Nat.le_of_ble_eq_true rfl)) dX1_doLater_40 ⟨Nat.le_of_ble_eq_true rfl, Nat.le_of_ble_eq_true rfl⟩) hS (fun v_107 ω_108 H locs hq_109 hR hS => ?_)
      obtain ⟨rfl, z_110, f_112, fr_111⟩ := hq_109
      refine W.eq (g2 := F0 mI 43 ls [.int (-1)]) rfl ?_
      refine fw_iret hx hb hr hlocks hR hS dX1_doLater_43 ?_
      have z_113 : ω_108.1 = ω.1 := by rw [z_110]
      have fr_114 : ∀ q : Nat, ¬ (a ≤ q ∧ q < a + 52) → ω_108.2 q = ω.2 q := by
        intro q hq0
        rw [fr_111 q (by omega)]
      have hA_115 : ArcS G ω_108.2 a v := hA.keep (fun q q1 q2 => by
        rw [fr_111 q (by omega)])
      have hr_116 : finC v k1 k2 k3 (nI j) sp = (((-1), v, 7, 0, 0) : CR) := by
        simp only [finC, hcc, hdd, hcj]
        rw [if_pos c_4, if_neg c_9]
      rw [hr_116]
      exact ⟨rfl, z_113, hA_115, f_112, fr_114⟩
  · skip
    have c_4 := bz_eq c_4
    refine lv_aload_n hx hb dX1_doLater_11 rfl (lv_at hl 0 rfl) ?_
    refine fw_call (va_runV (As := []) (rest := []) ⟨hx, hb, hml, hown, hts⟩ (c_X1_refuseNoLeaflet G hL l ω y a v k1 k2 k3 hy hay hA hk hW0) (cwV 0 hts gX1_doLater_X1_refuseNoLeaflet rfl rfl rfl (by decide +kernel) ⟨Nat.le_of_ble_eq_true rfl, Nat.le_of_ble_eq_true rfl⟩) (fw_preV hW hK hR hy rfl) rfl rfl hl.1 rfl (lv_room (Nat.le_of_ble_eq_true rfl)) dX1_doLater_12 ⟨Nat.le_of_ble_eq_true rfl, Nat.le_of_ble_eq_true rfl⟩) hS (fun v_117 ω_118 H locs hq_119 hR hS => ?_)
    obtain ⟨rfl, z_120, f_122, fr_121⟩ := hq_119
    refine W.eq (g2 := F0 mI 15 ls [.int (-1)]) rfl ?_
    refine fw_iret hx hb hr hlocks hR hS dX1_doLater_15 ?_
    have z_123 : ω_118.1 = ω.1 := by rw [z_120]
    have fr_124 : ∀ q : Nat, ¬ (a ≤ q ∧ q < a + 52) → ω_118.2 q = ω.2 q := by
      intro q hq0
      rw [fr_121 q (by omega)]
    have hA_125 : ArcS G ω_118.2 a v := hA.keep (fun q q1 q2 => by
      rw [fr_121 q (by omega)])
    have hr_126 : finC v k1 k2 k3 m sp = (((-1), v, 3, (v 0 0), 0) : CR) := by
      simp only [finC, hcc, hdd]
      rw [if_neg c_4]
    rw [hr_126]
    exact ⟨rfl, z_123, hA_125, f_122, fr_124⟩
set_option maxHeartbeats 4000000 in
set_option maxRecDepth 100000 in
theorem c_X1_takeApart (G : FG) (hL : FL G) (l : Launch) (ω : FWd) (y a : Nat) (v : Nat → Nat → Int32) (k1 k2 k3 : Int32) (hy : ω.2 y = some (.inr (3, [.ref a, .ref (a + 51)]))) (hay : a = y + 1) (hA : ArcS G ω.2 a v) (hk : ω.2 (a + 51) = some (.inr (9, [.int k1, .int k2, .int k3]))) (hW0 : WF v) (m : Int32) : FMet G l yX1_takeApart wsX1_takeApart ({ frames := 3, cells := 0, slots := 0, locals := 69 } : Room) [.ref y, .int m] ω (CQ G a ω (apaC v k1 k2 k3 m)) 0 0 := by
  refine fw_ofW (cc := cX1_takeApart) (maxL := 5) (ret := (some .int)) (by decide) rfl (Nat.le_of_ble_eq_true rfl) ?_
  intro pP eE sS mI ar9 bl9 meth cD ls hx hb hr hlocks hml hts hown hnm hW hR hl
  have hK := hL.K hW
  have hS : va_S (fwA G) sS.heap sS.heap [] := va_S.rf
  have hin0 : ∀ w ∈ u_ws RX0 TX0 9, w ∈ wsX1_takeApart := by decide +kernel
  have hin1 : ∀ w ∈ u_ws RX1 TX1 2, w ∈ wsX1_takeApart := by decide +kernel
  have hin5 : ∀ w ∈ u_ws RX5 TX5 9, w ∈ wsX1_takeApart := by decide +kernel
  have hl : lv_has ls 5 [(0, .ref y), (1, .int m)] := hl
  obtain ⟨h0, h1, h2, h3, h4, h5, hLf, hCo⟩ := id hA
  obtain ⟨c, hc8, hc, hcc⟩ := okN_of hW0.1
  obtain ⟨cc, hd5, hd, hdd⟩ := okN_of hW0.2.1
  have hs : ∀ j, j < c → v 3 j = nI (stN v j) ∧ stN v j ≤ 8 := fun j hj => (hW0.2.2 j (by rw [hcc]; exact hj)).1
  have hfo : ∀ j, j < c → v 4 j = nI (cN (v 4 j)) ∧ cN (v 4 j) ≤ 3 := fun j hj => (hW0.2.2 j (by rw [hcc]; exact hj)).2
  refine lv_aload_n hx hb dX1_takeApart_0 rfl (lv_at hl 0 rfl) ?_
  refine fw_get (v := .ref a) (C := RX1) (T := TX1) (N := 2) hx hb hts hin1 hown hK hR hy rfl 0 (by decide) (hts (.fieldLink RX1 12 "UnreadLeaflets$Changes" "archive" "LUnreadLeaflets$Archive;") (by decide +kernel)) rfl dX1_takeApart_1 ?_
  refine lv_iload_n hx hb dX1_takeApart_4 rfl (lv_at hl 1 rfl) ?_
  refine fw_call (va_runV (As := [.int m]) (rest := []) ⟨hx, hb, hml, hown, hts⟩ (c_X0_hasLeaflet G hL l ω a v hA  m ) (cwV 1 hts gX1_takeApart_X0_hasLeaflet rfl rfl rfl (by decide +kernel) ⟨Nat.le_of_ble_eq_true rfl, Nat.le_of_ble_eq_true rfl⟩) (fw_preV hW hK hR h0 rfl) rfl rfl hl.1 rfl (lv_room (Nat.le_of_ble_eq_true rfl)) dX1_takeApart_5 ⟨Nat.le_of_ble_eq_true rfl, Nat.le_of_ble_eq_true rfl⟩) hS (fun v_1 ω_2 H locs hq_3 hR hS => ?_)
  obtain ⟨rfl, hq_3⟩ := hq_3
  rw [hq_3] at hR
  refine W.eq (g2 := F0 mI 8 ls [.int (bz (inB m 0 (v 0 0 - 1)))]) rfl ?_
  refine lv_if_ne (tgt := 16) hx hb dX1_takeApart_8 (by decide) (fun c_4 => ?_) (fun c_4 => ?_)
  · skip
    have c_4 := bz_ne c_4
    obtain ⟨j, hj2, rfl⟩ := in_c hc hc8 c_4
    have hcj : cN (nI j) = j := cN_nI (by omega)
    refine lv_aload_n hx hb dX1_takeApart_16 rfl (lv_at hl 0 rfl) ?_
    refine fw_get (v := .ref a) (C := RX1) (T := TX1) (N := 2) hx hb hts hin1 hown hK hR hy rfl 0 (by decide) (hts (.fieldLink RX1 12 "UnreadLeaflets$Changes" "archive" "LUnreadLeaflets$Archive;") (by decide +kernel)) rfl dX1_takeApart_17 ?_
    refine fw_get (v := .ref (a + 1)) (C := RX0) (T := TX0) (N := 9) hx hb hts hin0 hown hK hR h0 rfl 0 (by decide) (hts (.fieldLink RX1 43 "UnreadLeaflets$Archive" "leaflets" "[LUnreadLeaflets$Leaflet;") (by decide +kernel)) rfl dX1_takeApart_20 ?_
    refine lv_iload_n hx hb dX1_takeApart_23 rfl (lv_at hl 1 rfl) ?_
    refine fw_aald (b := a + 6 + 5 * j) hx hb hK hR h1 rfl (vp_in_nI (by omega) (by omega)) (by rw [nI_clamp (by omega)]) dX1_takeApart_24 ?_
    refine lv_astore_n (lv' := [(2, .ref (a + 6 + 5 * j)), (0, .ref y), (1, .int (nI j))]) hx hb dX1_takeApart_25 rfl hl (by decide) rfl (fun ls hl => ?_)
    refine lv_aload_n hx hb dX1_takeApart_26 rfl (lv_at hl 0 rfl) ?_
    have f_5 : ω.2 (a + 6 + 5 * j) = some (.inr (7, [.int (v 3 j), .int (v 4 j), .int (v 5 j), .int (v 6 j - 1), .int (v 7 j), .ref (a + 6 + 5 * j + 1), .ref (a + 6 + 5 * j + 2), .ref (a + 6 + 5 * j + 3), .ref (a + 6 + 5 * j + 4)])) := (hLf j (by omega)).1
    refine fw_call (va_runV (As := []) (rest := []) ⟨hx, hb, hml, hown, hts⟩ (c_X5_isBuilt G hL l ω (a + 6 + 5 * j) j v (hLf j (by omega))  ) (cwV 0 hts gX1_takeApart_X5_isBuilt rfl rfl rfl (by decide +kernel) ⟨Nat.le_of_ble_eq_true rfl, Nat.le_of_ble_eq_true rfl⟩) (fw_preV hW hK hR f_5 rfl) rfl rfl hl.1 rfl (lv_room (Nat.le_of_ble_eq_true rfl)) dX1_takeApart_27 ⟨Nat.le_of_ble_eq_true rfl, Nat.le_of_ble_eq_true rfl⟩) hS (fun v_6 ω_7 H locs hq_8 hR hS => ?_)
    obtain ⟨rfl, hq_8⟩ := hq_8
    rw [hq_8] at hR
    refine W.eq (g2 := F0 mI 30 ls [.int (bz (¬ v 6 j - 1 = (-1)))]) rfl ?_
    refine lv_if_ne (tgt := 44) hx hb dX1_takeApart_30 (by decide) (fun c_9 => ?_) (fun c_9 => ?_)
    · skip
      have c_9 := bz_ne c_9
      refine lv_aload_n hx hb dX1_takeApart_44 rfl (lv_at hl 1 rfl) ?_
      refine fw_get (v := .ref a) (C := RX1) (T := TX1) (N := 2) hx hb hts hin1 hown hK hR hy rfl 0 (by decide) (hts (.fieldLink RX1 12 "UnreadLeaflets$Changes" "archive" "LUnreadLeaflets$Archive;") (by decide +kernel)) rfl dX1_takeApart_45 ?_
      refine fw_get (v := .ref (a + 3)) (C := RX0) (T := TX0) (N := 9) hx hb hts hin0 hown hK hR h0 rfl 4 (by decide) (hts (.fieldLink RX1 127 "UnreadLeaflets$Archive" "tin" "LUnreadLeaflets$Tin;") (by decide +kernel)) rfl dX1_takeApart_48 ?_
      refine lv_aload_n hx hb dX1_takeApart_51 rfl (lv_at hl 0 rfl) ?_
      refine lv_aload_n hx hb dX1_takeApart_52 rfl (lv_at hl 0 rfl) ?_
      refine fw_get (v := .int (v 7 j)) (C := RX5) (T := TX5) (N := 9) hx hb hts hin5 hown hK hR f_5 rfl 4 (by decide) (hts (.fieldLink RX1 124 "UnreadLeaflets$Leaflet" "skipped" "I") (by decide +kernel)) rfl dX1_takeApart_53 ?_
      refine fw_call (va_runV (As := [.ref (a + 6 + 5 * j), .int (v 7 j)]) (rest := []) ⟨hx, hb, hml, hown, hts⟩ (c_X9_kindLacking G hL l ω (a + 3) (v 1) (v 2) (⟨h3, h4, h5⟩) (a + 6 + 5 * j) j v (hLf j (by omega)) (stN v j) (hs j hj2).1 (hs j hj2).2 (v 7 j)) (cwV 2 hts gX1_takeApart_X9_kindLacking rfl rfl rfl (by decide +kernel) ⟨Nat.le_of_ble_eq_true rfl, Nat.le_of_ble_eq_true rfl⟩) (fw_preV hW hK hR h3 rfl) rfl rfl hl.1 rfl (lv_room (Nat.le_of_ble_eq_true rfl)) dX1_takeApart_56 ⟨Nat.le_of_ble_eq_true rfl, Nat.le_of_ble_eq_true rfl⟩) hS (fun v_10 ω_11 H locs hq_12 hR hS => ?_)
      obtain ⟨rfl, hq_12⟩ := hq_12
      rw [hq_12] at hR
      refine W.eq (g2 := F0 mI 59 ls [.int (lackJ (v 1) (fun i9 => needJ v j (v 7 j) (nI i9) (stN v j)) 0 6)]) rfl ?_
      refine lv_istore_n (lv' := [(3, .int (lackJ (v 1) (fun i9 => needJ v j (v 7 j) (nI i9) (stN v j)) 0 6)), (2, .ref (a + 6 + 5 * j)), (0, .ref y), (1, .int (nI j))]) hx hb dX1_takeApart_59 rfl hl (by decide) rfl (fun ls hl => ?_)
      refine lv_iload_n hx hb dX1_takeApart_60 rfl (lv_at hl 0 rfl) ?_
      refine lv_iconst (v := (-1)) hx hb dX1_takeApart_61 (by decide) ?_
      refine lv_icmp_eq (tgt := 76) hx hb dX1_takeApart_62 (by decide) (fun c_13 => ?_) (fun c_13 => ?_)
      · skip
        refine lv_aload_n hx hb dX1_takeApart_76 rfl (lv_at hl 1 rfl) ?_
        refine lv_aload_n hx hb dX1_takeApart_77 rfl (lv_at hl 1 rfl) ?_
        refine fw_get (v := .int (v 7 j)) (C := RX5) (T := TX5) (N := 9) hx hb hts hin5 hown hK hR f_5 rfl 4 (by decide) (hts (.fieldLink RX1 124 "UnreadLeaflets$Leaflet" "skipped" "I") (by decide +kernel)) rfl dX1_takeApart_78 ?_
        refine fw_call (va_runV (As := [.int (v 7 j)]) (rest := []) ⟨hx, hb, hml, hown, hts⟩ (c_X5_partsOf G hL l ω (a + 6 + 5 * j) j v (hLf j (by omega)) (stN v j) (hs j hj2).1 (hs j hj2).2 (v 7 j)) (cwV 1 hts gX1_takeApart_X5_partsOf rfl rfl rfl (by decide +kernel) ⟨Nat.le_of_ble_eq_true rfl, Nat.le_of_ble_eq_true rfl⟩) (fw_preV hW hK hR f_5 rfl) rfl rfl hl.1 rfl (lv_room (Nat.le_of_ble_eq_true rfl)) dX1_takeApart_81 ⟨Nat.le_of_ble_eq_true rfl, Nat.le_of_ble_eq_true rfl⟩) hS (fun v_14 ω_15 H locs hq_16 hR hS => ?_)
        obtain ⟨rfl, hq_16⟩ := hq_16
        rw [hq_16] at hR
        refine W.eq (g2 := F0 mI 84 ls [.int (partsJ v j (v 7 j) (stN v j))]) rfl ?_
        refine lv_istore (lv' := [(4, .int (partsJ v j (v 7 j) (stN v j))), (3, .int (lackJ (v 1) (fun i9 => needJ v j (v 7 j) (nI i9) (stN v j)) 0 6)), (2, .ref (a + 6 + 5 * j)), (0, .ref y), (1, .int (nI j))]) hx hb dX1_takeApart_84 hl (by decide) rfl (fun ls hl => ?_)
        refine lv_aload_n hx hb dX1_takeApart_86 rfl (lv_at hl 3 rfl) ?_
        refine fw_get (v := .ref a) (C := RX1) (T := TX1) (N := 2) hx hb hts hin1 hown hK hR hy rfl 0 (by decide) (hts (.fieldLink RX1 12 "UnreadLeaflets$Changes" "archive" "LUnreadLeaflets$Archive;") (by decide +kernel)) rfl dX1_takeApart_87 ?_
        refine fw_get (v := .ref (a + 3)) (C := RX0) (T := TX0) (N := 9) hx hb hts hin0 hown hK hR h0 rfl 4 (by decide) (hts (.fieldLink RX1 127 "UnreadLeaflets$Archive" "tin" "LUnreadLeaflets$Tin;") (by decide +kernel)) rfl dX1_takeApart_90 ?_
        refine lv_aload_n hx hb dX1_takeApart_93 rfl (lv_at hl 2 rfl) ?_
        refine lv_aload_n hx hb dX1_takeApart_94 rfl (lv_at hl 2 rfl) ?_
        refine fw_get (v := .int (v 7 j)) (C := RX5) (T := TX5) (N := 9) hx hb hts hin5 hown hK hR f_5 rfl 4 (by decide) (hts (.fieldLink RX1 124 "UnreadLeaflets$Leaflet" "skipped" "I") (by decide +kernel)) rfl dX1_takeApart_95 ?_
        refine fw_call (va_runV (As := [.ref (a + 6 + 5 * j), .int (v 7 j)]) (rest := []) ⟨hx, hb, hml, hown, hts⟩ (c_X9_takeOut G hL l ω (a + 3) (v 1) (v 2) (⟨h3, h4, h5⟩) (a + 6 + 5 * j) j v (hLf j (by omega)) (stN v j) (hs j hj2).1 (hs j hj2).2 (v 7 j) (by omega)) (cwV 2 hts gX1_takeApart_X9_takeOut rfl rfl rfl (by decide +kernel) ⟨Nat.le_of_ble_eq_true rfl, Nat.le_of_ble_eq_true rfl⟩) (fw_preV hW hK hR h3 rfl) rfl rfl hl.1 rfl (lv_room (Nat.le_of_ble_eq_true rfl)) dX1_takeApart_98 ⟨Nat.le_of_ble_eq_true rfl, Nat.le_of_ble_eq_true rfl⟩) hS (fun v_17 ω_18 H locs hq_19 hR hS => ?_)
        obtain ⟨rfl, z_20, f_22, fr_21⟩ := hq_19
        refine W.eq (g2 := F0 mI 101 ls []) rfl ?_
        refine lv_aload_n hx hb dX1_takeApart_101 rfl (lv_at hl 2 rfl) ?_
        refine lv_iconst (v := (-1)) hx hb dX1_takeApart_102 (by decide) ?_
        have f_23 : ω_18.2 (a + 6 + 5 * j) = some (.inr (7, [.int (v 3 j), .int (v 4 j), .int (v 5 j), .int (v 6 j - 1), .int (v 7 j), .ref (a + 6 + 5 * j + 1), .ref (a + 6 + 5 * j + 2), .ref (a + 6 + 5 * j + 3), .ref (a + 6 + 5 * j + 4)])) := (fr_21 (a + 6 + 5 * j) (by omega)).trans f_5
        refine fw_put (v := .int (-1)) (C := RX5) (T := TX5) (N := 9) hx hb hts hin5 tyX5 tyX5_ok nmX5 hown hK hR hS f_23 rfl 3 (by decide) (hts (.fieldLink RX1 68 "UnreadLeaflets$Leaflet" "builder" "I") (by decide +kernel)) rfl rfl rfl (Nat.le_of_ble_eq_true rfl) dX1_takeApart_103 (fun H locs hR hS => ?_)
        obtain ⟨ω_24, hw_25⟩ : ∃ τ : FWd, τ = (ω_18.1, va_up ω_18.2 (a + 6 + 5 * j) (some (.inr (7, [.int (v 3 j), .int (v 4 j), .int (v 5 j), .int (-1), .int (v 7 j), .ref (a + 6 + 5 * j + 1), .ref (a + 6 + 5 * j + 2), .ref (a + 6 + 5 * j + 3), .ref (a + 6 + 5 * j + 4)])))) := ⟨_, rfl⟩
        have hR : fR G ω_24 H := by rw [hw_25]; exact hR
        have f_26 : ω_24.2 (a + 6 + 5 * j) = some (.inr (7, [.int (v 3 j), .int (v 4 j), .int (v 5 j), .int (-1), .int (v 7 j), .ref (a + 6 + 5 * j + 1), .ref (a + 6 + 5 * j + 2), .ref (a + 6 + 5 * j + 3), .ref (a + 6 + 5 * j + 4)])) := by rw [hw_25]; exact va_up_at
        have fr_27 : ∀ q : Nat, ¬ q = (a + 6 + 5 * j) → ω_24.2 q = ω_18.2 q := fun q hq => by rw [hw_25]; exact va_up_off hq
        have z_28 : ω_24.1 = ω_18.1 := by rw [hw_25]
        refine lv_aload_n hx hb dX1_takeApart_106 rfl (lv_at hl 2 rfl) ?_
        refine lv_iconst (v := 0) hx hb dX1_takeApart_107 (by decide) ?_
        refine fw_put (v := .int 0) (C := RX5) (T := TX5) (N := 9) hx hb hts hin5 tyX5 tyX5_ok nmX5 hown hK hR hS f_26 rfl 4 (by decide) (hts (.fieldLink RX1 124 "UnreadLeaflets$Leaflet" "skipped" "I") (by decide +kernel)) rfl rfl rfl (Nat.le_of_ble_eq_true rfl) dX1_takeApart_108 (fun H locs hR hS => ?_)
        obtain ⟨ω_29, hw_30⟩ : ∃ τ : FWd, τ = (ω_24.1, va_up ω_24.2 (a + 6 + 5 * j) (some (.inr (7, [.int (v 3 j), .int (v 4 j), .int (v 5 j), .int (-1), .int 0, .ref (a + 6 + 5 * j + 1), .ref (a + 6 + 5 * j + 2), .ref (a + 6 + 5 * j + 3), .ref (a + 6 + 5 * j + 4)])))) := ⟨_, rfl⟩
        have hR : fR G ω_29 H := by rw [hw_30]; exact hR
        have f_31 : ω_29.2 (a + 6 + 5 * j) = some (.inr (7, [.int (v 3 j), .int (v 4 j), .int (v 5 j), .int (-1), .int 0, .ref (a + 6 + 5 * j + 1), .ref (a + 6 + 5 * j + 2), .ref (a + 6 + 5 * j + 3), .ref (a + 6 + 5 * j + 4)])) := by rw [hw_30]; exact va_up_at
        have fr_32 : ∀ q : Nat, ¬ q = (a + 6 + 5 * j) → ω_29.2 q = ω_24.2 q := fun q hq => by rw [hw_30]; exact va_up_off hq
        have z_33 : ω_29.1 = ω_24.1 := by rw [hw_30]
        refine lv_aload_n hx hb dX1_takeApart_111 rfl (lv_at hl 3 rfl) ?_
        have f_34 : ω_18.2 y = some (.inr (3, [.ref a, .ref (a + 51)])) := (fr_21 y (by omega)).trans hy
        have f_35 : ω_24.2 y = some (.inr (3, [.ref a, .ref (a + 51)])) := (fr_27 y (by omega)).trans f_34
        have f_36 : ω_29.2 y = some (.inr (3, [.ref a, .ref (a + 51)])) := (fr_32 y (by omega)).trans f_35
        refine fw_get (v := .ref a) (C := RX1) (T := TX1) (N := 2) hx hb hts hin1 hown hK hR f_36 rfl 0 (by decide) (hts (.fieldLink RX1 12 "UnreadLeaflets$Changes" "archive" "LUnreadLeaflets$Archive;") (by decide +kernel)) rfl dX1_takeApart_112 ?_
        refine lv_dup hx hb dX1_takeApart_115 rfl ?_
        have f_37 : ω_18.2 a = some (.inr (2, [.ref (a + 1), .int (v 0 0), .ref (a + 2), .int (v 0 1), .ref (a + 3), .int (v 0 2), .int (v 0 3), .int (v 0 4), .int (v 0 5)])) := (fr_21 a (by omega)).trans h0
        have f_38 : ω_24.2 a = some (.inr (2, [.ref (a + 1), .int (v 0 0), .ref (a + 2), .int (v 0 1), .ref (a + 3), .int (v 0 2), .int (v 0 3), .int (v 0 4), .int (v 0 5)])) := (fr_27 a (by omega)).trans f_37
        have f_39 : ω_29.2 a = some (.inr (2, [.ref (a + 1), .int (v 0 0), .ref (a + 2), .int (v 0 1), .ref (a + 3), .int (v 0 2), .int (v 0 3), .int (v 0 4), .int (v 0 5)])) := (fr_32 a (by omega)).trans f_38
        refine fw_get (v := .int (v 0 5)) (C := RX0) (T := TX0) (N := 9) hx hb hts hin0 hown hK hR f_39 rfl 8 (by decide) (hts (.fieldLink RX1 165 "UnreadLeaflets$Archive" "takenApartSoFar" "I") (by decide +kernel)) rfl dX1_takeApart_116 ?_
        refine lv_iconst (v := 1) hx hb dX1_takeApart_119 (by decide) ?_
        refine lv_iadd hx hb dX1_takeApart_120 ?_
        refine fw_put (v := .int ((v 0 5) + 1)) (C := RX0) (T := TX0) (N := 9) hx hb hts hin0 tyX0 tyX0_ok nmX0 hown hK hR hS f_39 rfl 8 (by decide) (hts (.fieldLink RX1 165 "UnreadLeaflets$Archive" "takenApartSoFar" "I") (by decide +kernel)) rfl rfl rfl (Nat.le_of_ble_eq_true rfl) dX1_takeApart_121 (fun H locs hR hS => ?_)
        obtain ⟨ω_40, hw_41⟩ : ∃ τ : FWd, τ = (ω_29.1, va_up ω_29.2 a (some (.inr (2, [.ref (a + 1), .int (v 0 0), .ref (a + 2), .int (v 0 1), .ref (a + 3), .int (v 0 2), .int (v 0 3), .int (v 0 4), .int ((v 0 5) + 1)])))) := ⟨_, rfl⟩
        have hR : fR G ω_40 H := by rw [hw_41]; exact hR
        have f_42 : ω_40.2 a = some (.inr (2, [.ref (a + 1), .int (v 0 0), .ref (a + 2), .int (v 0 1), .ref (a + 3), .int (v 0 2), .int (v 0 3), .int (v 0 4), .int ((v 0 5) + 1)])) := by rw [hw_41]; exact va_up_at
        have fr_43 : ∀ q : Nat, ¬ q = a → ω_40.2 q = ω_29.2 q := fun q hq => by rw [hw_41]; exact va_up_off hq
        have z_44 : ω_40.1 = ω_29.1 := by rw [hw_41]
        refine lv_iload hx hb dX1_takeApart_124 (lv_at hl 0 rfl) ?_
        refine fw_iret hx hb hr hlocks hR hS dX1_takeApart_126 ?_
        have z_45 : ω_40.1 = ω.1 := by rw [z_44, z_33, z_28, z_20]
        have fr_46 : ∀ q : Nat, ¬ (a ≤ q ∧ q < a + 52) → ω_40.2 q = ω.2 q := by
          intro q hq0
          rw [fr_43 q (by omega)]
          rw [fr_32 q (by omega)]
          rw [fr_27 q (by omega)]
          rw [fr_21 q (by omega)]
        have f_48 : ω_18.2 (a + 51) = some (.inr (9, [.int k1, .int k2, .int k3])) := (fr_21 (a + 51) (by omega)).trans hk
        have f_49 : ω_24.2 (a + 51) = some (.inr (9, [.int k1, .int k2, .int k3])) := (fr_27 (a + 51) (by omega)).trans f_48
        have f_50 : ω_29.2 (a + 51) = some (.inr (9, [.int k1, .int k2, .int k3])) := (fr_32 (a + 51) (by omega)).trans f_49
        have f_51 : ω_40.2 (a + 51) = some (.inr (9, [.int k1, .int k2, .int k3])) := (fr_43 (a + 51) (by omega)).trans f_50
        have f_52 : ω_24.2 (a + 4) = some (.inl (G.2.1 0, 6, .inl (takeJ (v 1) (fun i9 => needJ v j (v 7 j) (nI i9) (stN v j)) 6))) := (fr_27 (a + 4) (by omega)).trans f_22
        have f_53 : ω_29.2 (a + 4) = some (.inl (G.2.1 0, 6, .inl (takeJ (v 1) (fun i9 => needJ v j (v 7 j) (nI i9) (stN v j)) 6))) := (fr_32 (a + 4) (by omega)).trans f_52
        have f_54 : ω_40.2 (a + 4) = some (.inl (G.2.1 0, 6, .inl (takeJ (v 1) (fun i9 => needJ v j (v 7 j) (nI i9) (stN v j)) 6))) := (fr_43 (a + 4) (by omega)).trans f_53
        have f_55 : ω_18.2 (a + 5) = some (.inl (G.2.1 0, 6, .inl (v 2))) := (fr_21 (a + 5) (by omega)).trans h5
        have f_56 : ω_24.2 (a + 5) = some (.inl (G.2.1 0, 6, .inl (v 2))) := (fr_27 (a + 5) (by omega)).trans f_55
        have f_57 : ω_29.2 (a + 5) = some (.inl (G.2.1 0, 6, .inl (v 2))) := (fr_32 (a + 5) (by omega)).trans f_56
        have f_58 : ω_40.2 (a + 5) = some (.inl (G.2.1 0, 6, .inl (v 2))) := (fr_43 (a + 5) (by omega)).trans f_57
        have f_60 : ω_40.2 (a + 6 + 5 * j) = some (.inr (7, [.int (v 3 j), .int (v 4 j), .int (v 5 j), .int (-1), .int 0, .ref (a + 6 + 5 * j + 1), .ref (a + 6 + 5 * j + 2), .ref (a + 6 + 5 * j + 3), .ref (a + 6 + 5 * j + 4)])) := (fr_43 (a + 6 + 5 * j) (by omega)).trans f_31
        have f_61 : ω.2 (a + 6 + 5 * j + 1) = some (.inl (G.2.1 0, 8, .inl (v (10 + j)))) := (hLf j (by omega)).2.1
        have f_62 : ω_18.2 (a + 6 + 5 * j + 1) = some (.inl (G.2.1 0, 8, .inl (v (10 + j)))) := (fr_21 (a + 6 + 5 * j + 1) (by omega)).trans f_61
        have f_63 : ω_24.2 (a + 6 + 5 * j + 1) = some (.inl (G.2.1 0, 8, .inl (v (10 + j)))) := (fr_27 (a + 6 + 5 * j + 1) (by omega)).trans f_62
        have f_64 : ω_29.2 (a + 6 + 5 * j + 1) = some (.inl (G.2.1 0, 8, .inl (v (10 + j)))) := (fr_32 (a + 6 + 5 * j + 1) (by omega)).trans f_63
        have f_65 : ω_40.2 (a + 6 + 5 * j + 1) = some (.inl (G.2.1 0, 8, .inl (v (10 + j)))) := (fr_43 (a + 6 + 5 * j + 1) (by omega)).trans f_64
        have f_66 : ω.2 (a + 6 + 5 * j + 2) = some (.inl (G.2.1 0, 8, .inl (v (20 + j)))) := (hLf j (by omega)).2.2.1
        have f_67 : ω_18.2 (a + 6 + 5 * j + 2) = some (.inl (G.2.1 0, 8, .inl (v (20 + j)))) := (fr_21 (a + 6 + 5 * j + 2) (by omega)).trans f_66
        have f_68 : ω_24.2 (a + 6 + 5 * j + 2) = some (.inl (G.2.1 0, 8, .inl (v (20 + j)))) := (fr_27 (a + 6 + 5 * j + 2) (by omega)).trans f_67
        have f_69 : ω_29.2 (a + 6 + 5 * j + 2) = some (.inl (G.2.1 0, 8, .inl (v (20 + j)))) := (fr_32 (a + 6 + 5 * j + 2) (by omega)).trans f_68
        have f_70 : ω_40.2 (a + 6 + 5 * j + 2) = some (.inl (G.2.1 0, 8, .inl (v (20 + j)))) := (fr_43 (a + 6 + 5 * j + 2) (by omega)).trans f_69
        have f_71 : ω.2 (a + 6 + 5 * j + 3) = some (.inl (G.2.1 0, 8, .inl (v (30 + j)))) := (hLf j (by omega)).2.2.2.1
        have f_72 : ω_18.2 (a + 6 + 5 * j + 3) = some (.inl (G.2.1 0, 8, .inl (v (30 + j)))) := (fr_21 (a + 6 + 5 * j + 3) (by omega)).trans f_71
        have f_73 : ω_24.2 (a + 6 + 5 * j + 3) = some (.inl (G.2.1 0, 8, .inl (v (30 + j)))) := (fr_27 (a + 6 + 5 * j + 3) (by omega)).trans f_72
        have f_74 : ω_29.2 (a + 6 + 5 * j + 3) = some (.inl (G.2.1 0, 8, .inl (v (30 + j)))) := (fr_32 (a + 6 + 5 * j + 3) (by omega)).trans f_73
        have f_75 : ω_40.2 (a + 6 + 5 * j + 3) = some (.inl (G.2.1 0, 8, .inl (v (30 + j)))) := (fr_43 (a + 6 + 5 * j + 3) (by omega)).trans f_74
        have f_76 : ω.2 (a + 6 + 5 * j + 4) = some (.inl (G.2.1 0, 8, .inl (fun i9 => v (40 + j) i9 + 1))) := (hLf j (by omega)).2.2.2.2
        have f_77 : ω_18.2 (a + 6 + 5 * j + 4) = some (.inl (G.2.1 0, 8, .inl (fun i9 => v (40 + j) i9 + 1))) := (fr_21 (a + 6 + 5 * j + 4) (by omega)).trans f_76
        have f_78 : ω_24.2 (a + 6 + 5 * j + 4) = some (.inl (G.2.1 0, 8, .inl (fun i9 => v (40 + j) i9 + 1))) := (fr_27 (a + 6 + 5 * j + 4) (by omega)).trans f_77
        have f_79 : ω_29.2 (a + 6 + 5 * j + 4) = some (.inl (G.2.1 0, 8, .inl (fun i9 => v (40 + j) i9 + 1))) := (fr_32 (a + 6 + 5 * j + 4) (by omega)).trans f_78
        have f_80 : ω_40.2 (a + 6 + 5 * j + 4) = some (.inl (G.2.1 0, 8, .inl (fun i9 => v (40 + j) i9 + 1))) := (fr_43 (a + 6 + 5 * j + 4) (by omega)).trans f_79
        have hlf_59 : LeafS G ω_40.2 (a + 6 + 5 * j) (apaV v j) j := by
          refine ⟨f_60.trans (congrArg some ?_), f_65.trans (congrArg some ?_), f_70.trans (congrArg some ?_), f_75.trans (congrArg some ?_), f_80.trans (congrArg some ?_)⟩
          all_goals first | rfl | (simp [set1, setR, upd, apaV, needW_eq, ne_big, ne_big']; done)
        have hA_47 : ArcS G ω_40.2 a (apaV v j) := by
          refine hA.gen _ (j) (5) (f_42.trans (congrArg some ?_)) (f_54.trans (congrArg some ?_)) (f_58.trans (congrArg some ?_)) (fun hk9 => ?_) (fun hc9 => ?_) (fun q q1 q2 q3 q4 q5 q6 => ?_) (fun j9 h9 n9 => ?_) (fun j9 h9 n9 => ?_) (by omega) (by omega)
          · first | rfl | (simp [set1, setR, upd, apaV, needW_eq, ne_big, ne_big']; done)
          · first | rfl | (simp [set1, setR, upd, apaV, needW_eq, ne_big, ne_big']; done)
          · first | rfl | (simp [set1, setR, upd, apaV, needW_eq, ne_big, ne_big']; done)
          · exact hlf_59
          · exact absurd hc9 (by decide)
          · skip
            rw [fr_43 q (by omega)]
            rw [fr_32 q (by omega)]
            rw [fr_27 q (by omega)]
            rw [fr_21 q (by omega)]
          · exact apaV_le n9
          · constructor <;> first | rfl | (simp [set1, setR, upd, apaV, needW_eq, n9, ne_big, ne_big']; done)
        have hr_81 : apaC v k1 k2 k3 (nI j) = ((partsJ v j (v 7 j) (stN v j), (apaV v j), k1, k2, k3) : CR) := by
          simp only [apaC, hcc, hdd, hcj, needW_eq]
          rw [if_pos c_4, if_pos c_9, if_pos c_13]
        rw [hr_81]
        exact ⟨rfl, z_45, hA_47, f_51, fr_46⟩
      · skip
        refine lv_aload_n hx hb dX1_takeApart_65 rfl (lv_at hl 2 rfl) ?_
        refine fw_get (v := .ref (a + 51)) (C := RX1) (T := TX1) (N := 2) hx hb hts hin1 hown hK hR hy rfl 1 (by decide) (hts (.fieldLink RX1 21 "UnreadLeaflets$Changes" "kept" "LUnreadLeaflets$Reason;") (by decide +kernel)) rfl dX1_takeApart_66 ?_
        refine lv_bipush (v := 10) hx hb dX1_takeApart_69 (by decide) ?_
        refine lv_iload_n hx hb dX1_takeApart_71 rfl (lv_at hl 0 rfl) ?_
        refine fw_call (va_runV (As := [.int 10, .int (lackJ (v 1) (fun i9 => needJ v j (v 7 j) (nI i9) (stN v j)) 0 6)]) (rest := []) ⟨hx, hb, hml, hown, hts⟩ (c_X7_refuse G hL l ω (a + 51) k1 k2 k3 10 (lackJ (v 1) (fun i9 => needJ v j (v 7 j) (nI i9) (stN v j)) 0 6) hk) (cwV 2 hts gX1_takeApart_X7_refuse rfl rfl rfl (by decide +kernel) ⟨Nat.le_of_ble_eq_true rfl, Nat.le_of_ble_eq_true rfl⟩) (fw_preV hW hK hR hk rfl) rfl rfl hl.1 rfl (lv_room (Nat.le_of_ble_eq_true rfl)) dX1_takeApart_72 ⟨Nat.le_of_ble_eq_true rfl, Nat.le_of_ble_eq_true rfl⟩) hS (fun v_82 ω_83 H locs hq_84 hR hS => ?_)
        obtain ⟨rfl, z_85, f_87, fr_86⟩ := hq_84
        refine W.eq (g2 := F0 mI 75 ls [.int (-1)]) rfl ?_
        refine fw_iret hx hb hr hlocks hR hS dX1_takeApart_75 ?_
        have z_88 : ω_83.1 = ω.1 := by rw [z_85]
        have fr_89 : ∀ q : Nat, ¬ (a ≤ q ∧ q < a + 52) → ω_83.2 q = ω.2 q := by
          intro q hq0
          rw [fr_86 q (by omega)]
        have hA_90 : ArcS G ω_83.2 a v := hA.keep (fun q q1 q2 => by
          rw [fr_86 q (by omega)])
        have hr_91 : apaC v k1 k2 k3 (nI j) = (((-1), v, 10, (lackJ (v 1) (fun i9 => needJ v j (v 7 j) (nI i9) (stN v j)) 0 6), 0) : CR) := by
          simp only [apaC, hcc, hdd, hcj, needW_eq]
          rw [if_pos c_4, if_pos c_9, if_neg c_13]
        rw [hr_91]
        exact ⟨rfl, z_88, hA_90, f_87, fr_89⟩
    · skip
      have c_9 := bz_eq c_9
      refine lv_aload_n hx hb dX1_takeApart_33 rfl (lv_at hl 1 rfl) ?_
      refine fw_get (v := .ref (a + 51)) (C := RX1) (T := TX1) (N := 2) hx hb hts hin1 hown hK hR hy rfl 1 (by decide) (hts (.fieldLink RX1 21 "UnreadLeaflets$Changes" "kept" "LUnreadLeaflets$Reason;") (by decide +kernel)) rfl dX1_takeApart_34 ?_
      refine lv_bipush (v := 7) hx hb dX1_takeApart_37 (by decide) ?_
      refine lv_iconst (v := 0) hx hb dX1_takeApart_39 (by decide) ?_
      refine fw_call (va_runV (As := [.int 7, .int 0]) (rest := []) ⟨hx, hb, hml, hown, hts⟩ (c_X7_refuse G hL l ω (a + 51) k1 k2 k3 7 0 hk) (cwV 2 hts gX1_takeApart_X7_refuse rfl rfl rfl (by decide +kernel) ⟨Nat.le_of_ble_eq_true rfl, Nat.le_of_ble_eq_true rfl⟩) (fw_preV hW hK hR hk rfl) rfl rfl hl.1 rfl (lv_room (Nat.le_of_ble_eq_true rfl)) dX1_takeApart_40 ⟨Nat.le_of_ble_eq_true rfl, Nat.le_of_ble_eq_true rfl⟩) hS (fun v_92 ω_93 H locs hq_94 hR hS => ?_)
      obtain ⟨rfl, z_95, f_97, fr_96⟩ := hq_94
      refine W.eq (g2 := F0 mI 43 ls [.int (-1)]) rfl ?_
      refine fw_iret hx hb hr hlocks hR hS dX1_takeApart_43 ?_
      have z_98 : ω_93.1 = ω.1 := by rw [z_95]
      have fr_99 : ∀ q : Nat, ¬ (a ≤ q ∧ q < a + 52) → ω_93.2 q = ω.2 q := by
        intro q hq0
        rw [fr_96 q (by omega)]
      have hA_100 : ArcS G ω_93.2 a v := hA.keep (fun q q1 q2 => by
        rw [fr_96 q (by omega)])
      have hr_101 : apaC v k1 k2 k3 (nI j) = (((-1), v, 7, 0, 0) : CR) := by
        simp only [apaC, hcc, hdd, hcj]
        rw [if_pos c_4, if_neg c_9]
      rw [hr_101]
      exact ⟨rfl, z_98, hA_100, f_97, fr_99⟩
  · skip
    have c_4 := bz_eq c_4
    refine lv_aload_n hx hb dX1_takeApart_11 rfl (lv_at hl 0 rfl) ?_
    refine fw_call (va_runV (As := []) (rest := []) ⟨hx, hb, hml, hown, hts⟩ (c_X1_refuseNoLeaflet G hL l ω y a v k1 k2 k3 hy hay hA hk hW0) (cwV 0 hts gX1_takeApart_X1_refuseNoLeaflet rfl rfl rfl (by decide +kernel) ⟨Nat.le_of_ble_eq_true rfl, Nat.le_of_ble_eq_true rfl⟩) (fw_preV hW hK hR hy rfl) rfl rfl hl.1 rfl (lv_room (Nat.le_of_ble_eq_true rfl)) dX1_takeApart_12 ⟨Nat.le_of_ble_eq_true rfl, Nat.le_of_ble_eq_true rfl⟩) hS (fun v_102 ω_103 H locs hq_104 hR hS => ?_)
    obtain ⟨rfl, z_105, f_107, fr_106⟩ := hq_104
    refine W.eq (g2 := F0 mI 15 ls [.int (-1)]) rfl ?_
    refine fw_iret hx hb hr hlocks hR hS dX1_takeApart_15 ?_
    have z_108 : ω_103.1 = ω.1 := by rw [z_105]
    have fr_109 : ∀ q : Nat, ¬ (a ≤ q ∧ q < a + 52) → ω_103.2 q = ω.2 q := by
      intro q hq0
      rw [fr_106 q (by omega)]
    have hA_110 : ArcS G ω_103.2 a v := hA.keep (fun q q1 q2 => by
      rw [fr_106 q (by omega)])
    have hr_111 : apaC v k1 k2 k3 m = (((-1), v, 3, (v 0 0), 0) : CR) := by
      simp only [apaC, hcc, hdd]
      rw [if_neg c_4]
    rw [hr_111]
    exact ⟨rfl, z_108, hA_110, f_107, fr_109⟩
