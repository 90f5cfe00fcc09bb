/-! ===== printed by program (wip/whole/gen): the reference's commands ===== -/
def doesM (s g nd td : Nat → Int32) (k : Nat) : Int32 × (Nat → Int32) × (Nat → Int32) × (Nat → Int32) := if (td k) = 83 then (((addsM s g (td (k + 1)) (td (k + 2)) (td (k + 3)) (td (k + 4)) 1).1, ((addsM s g (td (k + 1)) (td (k + 2)) (td (k + 3)) (td (k + 4)) 1).2.1), ((addsM s g (td (k + 1)) (td (k + 2)) (td (k + 3)) (td (k + 4)) 1).2.2), nd)) else (if (td k) = 98 then (((buildsM s g nd (td (k + 1)) (td (k + 2))).1, ((buildsM s g nd (td (k + 1)) (td (k + 2))).2.1), ((buildsM s g nd (td (k + 1)) (td (k + 2))).2.2.1), ((buildsM s g nd (td (k + 1)) (td (k + 2))).2.2.2))) else (if (td k) = 99 then (((comesM s g (td (k + 1)) (td (k + 2))).1, ((comesM s g (td (k + 1)) (td (k + 2))).2.1), ((comesM s g (td (k + 1)) (td (k + 2))).2.2), nd)) else (if (td k) = 100 then (((finishesM s g nd (td (k + 1)) (td (k + 2))).1, ((finishesM s g nd (td (k + 1)) (td (k + 2))).2.1), ((finishesM s g nd (td (k + 1)) (td (k + 2))).2.2.1), ((finishesM s g nd (td (k + 1)) (td (k + 2))).2.2.2))) else (if (td k) = 102 then (((foldsM s g (td (k + 1)) 1).1, ((foldsM s g (td (k + 1)) 1).2.1), ((foldsM s g (td (k + 1)) 1).2.2), nd)) else (if (td k) = 108 then (((laysM s g (td (k + 1))).1, ((laysM s g (td (k + 1))).2.1), ((laysM s g (td (k + 1))).2.2), nd)) else (if (td k) = 109 then (((movesM s g (td (k + 1)) (td (k + 2))).1, ((movesM s g (td (k + 1)) (td (k + 2))).2.1), ((movesM s g (td (k + 1)) (td (k + 2))).2.2), nd)) else (if (td k) = 115 then (((addsM s g (td (k + 1)) (td (k + 2)) (td (k + 3)) (td (k + 4)) 0).1, ((addsM s g (td (k + 1)) (td (k + 2)) (td (k + 3)) (td (k + 4)) 0).2.1), ((addsM s g (td (k + 1)) (td (k + 2)) (td (k + 3)) (td (k + 4)) 0).2.2), nd)) else (if (td k) = 116 then (((apartM s g nd (td (k + 1))).1, ((apartM s g nd (td (k + 1))).2.1), ((apartM s g nd (td (k + 1))).2.2.1), ((apartM s g nd (td (k + 1))).2.2.2))) else (if (td k) = 117 then (((foldsM s g (td (k + 1)) (-1)).1, ((foldsM s g (td (k + 1)) (-1)).2.1), ((foldsM s g (td (k + 1)) (-1)).2.2), nd)) else (if (td k) = 120 then (((losesM s g (td (k + 1)) (td (k + 2))).1, ((losesM s g (td (k + 1)) (td (k + 2))).2.1), ((losesM s g (td (k + 1)) (td (k + 2))).2.2), nd)) else (((findsM s g (td (k + 1)) (td (k + 2))).1, ((findsM s g (td (k + 1)) (td (k + 2))).2.1), ((findsM s g (td (k + 1)) (td (k + 2))).2.2), nd))))))))))))
theorem doesM_3 {s g nd td : Nat → Int32} {k : Nat} : (doesM s g nd td k).2.1 3 = s 3 := by
  unfold doesM
  refine ite_M (M := fun r : M4 => r.2.1 3 = s 3) (fun _ => by dsimp only; exact addsM_3) (fun _ => ?_)
  refine ite_M (M := fun r : M4 => r.2.1 3 = s 3) (fun _ => by dsimp only; exact buildsM_3) (fun _ => ?_)
  refine ite_M (M := fun r : M4 => r.2.1 3 = s 3) (fun _ => by dsimp only; exact comesM_3) (fun _ => ?_)
  refine ite_M (M := fun r : M4 => r.2.1 3 = s 3) (fun _ => by dsimp only; exact finishesM_3) (fun _ => ?_)
  refine ite_M (M := fun r : M4 => r.2.1 3 = s 3) (fun _ => by dsimp only; exact foldsM_3) (fun _ => ?_)
  refine ite_M (M := fun r : M4 => r.2.1 3 = s 3) (fun _ => by dsimp only; exact laysM_3) (fun _ => ?_)
  refine ite_M (M := fun r : M4 => r.2.1 3 = s 3) (fun _ => by dsimp only; exact movesM_3) (fun _ => ?_)
  refine ite_M (M := fun r : M4 => r.2.1 3 = s 3) (fun _ => by dsimp only; exact addsM_3) (fun _ => ?_)
  refine ite_M (M := fun r : M4 => r.2.1 3 = s 3) (fun _ => by dsimp only; exact apartM_3) (fun _ => ?_)
  refine ite_M (M := fun r : M4 => r.2.1 3 = s 3) (fun _ => by dsimp only; exact foldsM_3) (fun _ => ?_)
  refine ite_M (M := fun r : M4 => r.2.1 3 = s 3) (fun _ => by dsimp only; exact losesM_3) (fun _ => ?_)
  dsimp only; exact findsM_3
theorem doesM_wf {s g nd td : Nat → Int32} {k : Nat} (hz : WFZ g) : WFZ (doesM s g nd td k).2.2.1 := by
  unfold doesM
  refine ite_M (M := fun r : M4 => WFZ r.2.2.1) (fun _ => by dsimp only; exact addsM_wf hz) (fun _ => ?_)
  refine ite_M (M := fun r : M4 => WFZ r.2.2.1) (fun _ => by dsimp only; exact buildsM_wf hz) (fun _ => ?_)
  refine ite_M (M := fun r : M4 => WFZ r.2.2.1) (fun _ => by dsimp only; exact comesM_wf hz) (fun _ => ?_)
  refine ite_M (M := fun r : M4 => WFZ r.2.2.1) (fun _ => by dsimp only; exact finishesM_wf hz) (fun _ => ?_)
  refine ite_M (M := fun r : M4 => WFZ r.2.2.1) (fun _ => by dsimp only; exact foldsM_wf hz) (fun _ => ?_)
  refine ite_M (M := fun r : M4 => WFZ r.2.2.1) (fun _ => by dsimp only; exact laysM_wf hz) (fun _ => ?_)
  refine ite_M (M := fun r : M4 => WFZ r.2.2.1) (fun _ => by dsimp only; exact movesM_wf hz) (fun _ => ?_)
  refine ite_M (M := fun r : M4 => WFZ r.2.2.1) (fun _ => by dsimp only; exact addsM_wf hz) (fun _ => ?_)
  refine ite_M (M := fun r : M4 => WFZ r.2.2.1) (fun _ => by dsimp only; exact apartM_wf hz) (fun _ => ?_)
  refine ite_M (M := fun r : M4 => WFZ r.2.2.1) (fun _ => by dsimp only; exact foldsM_wf hz) (fun _ => ?_)
  refine ite_M (M := fun r : M4 => WFZ r.2.2.1) (fun _ => by dsimp only; exact losesM_wf hz) (fun _ => ?_)
  dsimp only; exact findsM_wf hz
set_option maxHeartbeats 4000000 in
set_option maxRecDepth 100000 in
theorem c_X11_does (G : FG) (hL : FL G) (l : Launch) (ω : FWd) (m : Nat) (s g : Nat → Int32) (m0 : ω.2 m = some (.inr (13, [.ref (m + 1), .ref (m + 2), .ref (m + 3), .int (s 3), .ref (m + 4), .int (s 5), .ref (m + 5), .int (s 7), .int (s 8), .int (s 9), .int (s 10), .int (s 11), .ref (m + 6), .int (s 13), .int (s 14), .ref (m + 7), .int (s 16), .int (s 17), .ref (m + 8)]))) (m1 : ω.2 (m + 1) = some (.inl (G.2.1 0, 324, .inl g))) (nd : Nat → Int32) (m7 : ω.2 (m + 7) = some (.inl (G.2.1 0, 6, .inl nd))) (td : Nat → Int32) (m8 : ω.2 (m + 8) = some (.inl (G.2.1 0, 300, .inl td))) (hM : WFM g) (k : Nat) (hk5 : k + 5 ≤ 300) : FMet G l yX11_does wsX11_does ({ frames := 5, cells := 0, slots := 0, locals := 121 } : Room) [.ref m, .int (nI k)] ω (fun vv9 τ9 => vv9 = some (.int ((doesM s g nd td k).1)) ∧ τ9.1 = ω.1 ∧ τ9.2 m = some (.inr (13, [.ref (m + 1), .ref (m + 2), .ref (m + 3), .int (((doesM s g nd td k).2.1) 3), .ref (m + 4), .int (((doesM s g nd td k).2.1) 5), .ref (m + 5), .int (((doesM s g nd td k).2.1) 7), .int (((doesM s g nd td k).2.1) 8), .int (((doesM s g nd td k).2.1) 9), .int (((doesM s g nd td k).2.1) 10), .int (((doesM s g nd td k).2.1) 11), .ref (m + 6), .int (((doesM s g nd td k).2.1) 13), .int (((doesM s g nd td k).2.1) 14), .ref (m + 7), .int (((doesM s g nd td k).2.1) 16), .int (((doesM s g nd td k).2.1) 17), .ref (m + 8)])) ∧ τ9.2 (m + 1) = some (.inl (G.2.1 0, 324, .inl ((doesM s g nd td k).2.2.1))) ∧ τ9.2 (m + 7) = some (.inl (G.2.1 0, 6, .inl ((doesM s g nd td k).2.2.2))) ∧ ∀ q : Nat, ¬ q = m → ¬ q = (m + 1) → ¬ q = (m + 7) → τ9.2 q = ω.2 q) 0 0 := by
  refine fw_ofW (cc := cX11_does) (maxL := 4) (ret := (some .int)) (by decide) rfl (Nat.le_of_ble_eq_true rfl) ?_
  intro pP eE sS mI ar9 bl9 meth cD ls hx hb hr hlocks hml hts hown hnm hW hR hl
  have hK := hL.K hW
  have hS : va_S (fwA G) sS.heap sS.heap [] := va_S.rf
  have hin11 : ∀ w ∈ u_ws RX11 TX11 19, w ∈ wsX11_does := by decide +kernel
  have hl : lv_has ls 4 [(0, .ref m), (1, .int (nI k))] := hl
  obtain ⟨c, hc8, hc, hcc⟩ := okN_of hM.1
  obtain ⟨cc, hd5, hd, hdd⟩ := okN_of hM.2.1
  skip
  refine lv_aload_n hx hb dX11_does_0 rfl (lv_at hl 0 rfl) ?_
  refine fw_get (v := .ref (m + 8)) (C := RX11) (T := TX11) (N := 19) hx hb hts hin11 hown hK hR m0 rfl 18 (by decide) (hts (.fieldLink RX11 36 "UnreadLeafletsModel" "told" "[I") (by decide +kernel)) rfl dX11_does_1 ?_
  refine lv_iload_n hx hb dX11_does_4 rfl (lv_at hl 1 rfl) ?_
  refine lv_iconst (v := 1) hx hb dX11_does_5 (by decide) ?_
  refine lv_iadd hx hb dX11_does_6 ?_
  have hi_1 : (nI k) + 1 = nI (k + 1) := by
    show (nI k) + (nI 1) = _
    simp only [pk_mul, nI_add, Nat.add_assoc, hc, hd]
  refine W.eq (g2 := F0 mI 7 ls [.int (nI (k + 1)), .ref (m + 8)]) (by rw [hi_1]) ?_
  refine fw_iald hx hb hK hR m8 (vp_in_nI (by omega) (by omega)) dX11_does_7 ?_
  refine W.eq (g2 := F0 mI 8 ls [.int (td (k + 1))]) (by rw [nI_clamp (by omega)]) ?_
  refine lv_istore_n (lv' := [(2, .int (td (k + 1))), (0, .ref m), (1, .int (nI k))]) hx hb dX11_does_8 rfl hl (by decide) rfl (fun ls hl => ?_)
  refine lv_aload_n hx hb dX11_does_9 rfl (lv_at hl 1 rfl) ?_
  refine fw_get (v := .ref (m + 8)) (C := RX11) (T := TX11) (N := 19) hx hb hts hin11 hown hK hR m0 rfl 18 (by decide) (hts (.fieldLink RX11 36 "UnreadLeafletsModel" "told" "[I") (by decide +kernel)) rfl dX11_does_10 ?_
  refine lv_iload_n hx hb dX11_does_13 rfl (lv_at hl 2 rfl) ?_
  refine lv_iconst (v := 2) hx hb dX11_does_14 (by decide) ?_
  refine lv_iadd hx hb dX11_does_15 ?_
  have hi_2 : (nI k) + 2 = nI (k + 2) := by
    show (nI k) + (nI 2) = _
    simp only [pk_mul, nI_add, Nat.add_assoc, hc, hd]
  refine W.eq (g2 := F0 mI 16 ls [.int (nI (k + 2)), .ref (m + 8)]) (by rw [hi_2]) ?_
  refine fw_iald hx hb hK hR m8 (vp_in_nI (by omega) (by omega)) dX11_does_16 ?_
  refine W.eq (g2 := F0 mI 17 ls [.int (td (k + 2))]) (by rw [nI_clamp (by omega)]) ?_
  refine lv_istore_n (lv' := [(3, .int (td (k + 2))), (2, .int (td (k + 1))), (0, .ref m), (1, .int (nI k))]) hx hb dX11_does_17 rfl hl (by decide) rfl (fun ls hl => ?_)
  refine lv_aload_n hx hb dX11_does_18 rfl (lv_at hl 2 rfl) ?_
  refine fw_get (v := .ref (m + 8)) (C := RX11) (T := TX11) (N := 19) hx hb hts hin11 hown hK hR m0 rfl 18 (by decide) (hts (.fieldLink RX11 36 "UnreadLeafletsModel" "told" "[I") (by decide +kernel)) rfl dX11_does_19 ?_
  refine lv_iload_n hx hb dX11_does_22 rfl (lv_at hl 3 rfl) ?_
  refine fw_iald hx hb hK hR m8 (vp_in_nI (by omega) (by omega)) dX11_does_23 ?_
  refine W.eq (g2 := F0 mI 24 ls [.int (td k)]) (by rw [nI_clamp (by omega)]) ?_
  by_cases c_3 : (td k) = 83
  · skip
    refine lv_tableIn (off := 198) (tgt := 222) hx hb dX11_does_24 (by rw [c_3]; decide) (by rw [c_3]; decide) (by rw [c_3]; rfl) (by decide) ?_
    refine lv_aload_n hx hb dX11_does_222 rfl (lv_at hl 2 rfl) ?_
    refine lv_iload_n hx hb dX11_does_223 rfl (lv_at hl 1 rfl) ?_
    refine lv_iload_n hx hb dX11_does_224 rfl (lv_at hl 0 rfl) ?_
    refine lv_aload_n hx hb dX11_does_225 rfl (lv_at hl 2 rfl) ?_
    refine fw_get (v := .ref (m + 8)) (C := RX11) (T := TX11) (N := 19) hx hb hts hin11 hown hK hR m0 rfl 18 (by decide) (hts (.fieldLink RX11 36 "UnreadLeafletsModel" "told" "[I") (by decide +kernel)) rfl dX11_does_226 ?_
    refine lv_iload_n hx hb dX11_does_229 rfl (lv_at hl 3 rfl) ?_
    refine lv_iconst (v := 3) hx hb dX11_does_230 (by decide) ?_
    refine lv_iadd hx hb dX11_does_231 ?_
    have hi_4 : (nI k) + 3 = nI (k + 3) := by
      show (nI k) + (nI 3) = _
      simp only [pk_mul, nI_add, Nat.add_assoc, hc, hd]
    refine W.eq (g2 := F0 mI 232 ls [.int (nI (k + 3)), .ref (m + 8), .int (td (k + 2)), .int (td (k + 1)), .ref m]) (by rw [hi_4]) ?_
    refine fw_iald hx hb hK hR m8 (vp_in_nI (by omega) (by omega)) dX11_does_232 ?_
    refine W.eq (g2 := F0 mI 233 ls [.int (td (k + 3)), .int (td (k + 2)), .int (td (k + 1)), .ref m]) (by rw [nI_clamp (by omega)]) ?_
    refine lv_aload_n hx hb dX11_does_233 rfl (lv_at hl 2 rfl) ?_
    refine fw_get (v := .ref (m + 8)) (C := RX11) (T := TX11) (N := 19) hx hb hts hin11 hown hK hR m0 rfl 18 (by decide) (hts (.fieldLink RX11 36 "UnreadLeafletsModel" "told" "[I") (by decide +kernel)) rfl dX11_does_234 ?_
    refine lv_iload_n hx hb dX11_does_237 rfl (lv_at hl 3 rfl) ?_
    refine lv_iconst (v := 4) hx hb dX11_does_238 (by decide) ?_
    refine lv_iadd hx hb dX11_does_239 ?_
    have hi_5 : (nI k) + 4 = nI (k + 4) := by
      show (nI k) + (nI 4) = _
      simp only [pk_mul, nI_add, Nat.add_assoc, hc, hd]
    refine W.eq (g2 := F0 mI 240 ls [.int (nI (k + 4)), .ref (m + 8), .int (td (k + 3)), .int (td (k + 2)), .int (td (k + 1)), .ref m]) (by rw [hi_5]) ?_
    refine fw_iald hx hb hK hR m8 (vp_in_nI (by omega) (by omega)) dX11_does_240 ?_
    refine W.eq (g2 := F0 mI 241 ls [.int (td (k + 4)), .int (td (k + 3)), .int (td (k + 2)), .int (td (k + 1)), .ref m]) (by rw [nI_clamp (by omega)]) ?_
    refine lv_iconst (v := 1) hx hb dX11_does_241 (by decide) ?_
    refine fw_call (va_runV (As := [.int (td (k + 1)), .int (td (k + 2)), .int (td (k + 3)), .int (td (k + 4)), .int 1]) (rest := []) ⟨hx, hb, hml, hown, hts⟩ (c_X11_adds G hL l ω m s g m0 m1 hM (td (k + 1)) (td (k + 2)) (td (k + 3)) (td (k + 4)) 1 ) (cwV 5 hts gX11_does_X11_adds rfl rfl rfl (by decide +kernel) ⟨Nat.le_of_ble_eq_true rfl, Nat.le_of_ble_eq_true rfl⟩) (fw_preV hW hK hR m0 rfl) rfl rfl hl.1 rfl (lv_room (Nat.le_of_ble_eq_true rfl)) dX11_does_242 ⟨Nat.le_of_ble_eq_true rfl, Nat.le_of_ble_eq_true rfl⟩) hS (fun v_6 ω_7 H locs hq_8 hR hS => ?_)
    obtain ⟨rfl, z_9, f_11, f_12, fr_10⟩ := hq_8
    refine W.eq (g2 := F0 mI 245 ls [.int ((addsM s g (td (k + 1)) (td (k + 2)) (td (k + 3)) (td (k + 4)) 1).1)]) rfl ?_
    have f_13 : ω_7.2 (m + 7) = some (.inl (G.2.1 0, 6, .inl nd)) := (fr_10 (m + 7) (by omega) (by omega)).trans m7
    have fr_14 : ∀ q : Nat, ¬ q = m → ¬ q = (m + 1) → ¬ q = (m + 7) → ω_7.2 q = ω.2 q := by
      intro q h0 h1 h2
      rw [fr_10 q (by omega) (by omega)]
    have z_15 : ω_7.1 = ω.1 := by rw [z_9]
    have hr_16 : doesM s g nd td k = (((addsM s g (td (k + 1)) (td (k + 2)) (td (k + 3)) (td (k + 4)) 1).1, ((addsM s g (td (k + 1)) (td (k + 2)) (td (k + 3)) (td (k + 4)) 1).2.1), ((addsM s g (td (k + 1)) (td (k + 2)) (td (k + 3)) (td (k + 4)) 1).2.2), nd) : Int32 × (Nat → Int32) × (Nat → Int32) × (Nat → Int32)) := by
      simp only [doesM, hcc, hdd]
      rw [if_pos c_3]
    refine fw_iret hx hb hr hlocks hR hS dX11_does_245 ?_
    rw [hr_16]
    exact ⟨rfl, z_15, f_11, f_12, f_13, fr_14⟩
  by_cases c_17 : (td k) = 98
  · skip
    refine lv_tableIn (off := 243) (tgt := 267) hx hb dX11_does_24 (by rw [c_17]; decide) (by rw [c_17]; decide) (by rw [c_17]; rfl) (by decide) ?_
    refine lv_aload_n hx hb dX11_does_267 rfl (lv_at hl 2 rfl) ?_
    refine lv_iload_n hx hb dX11_does_268 rfl (lv_at hl 1 rfl) ?_
    refine lv_iload_n hx hb dX11_does_269 rfl (lv_at hl 0 rfl) ?_
    refine fw_call (va_runV (As := [.int (td (k + 1)), .int (td (k + 2))]) (rest := []) ⟨hx, hb, hml, hown, hts⟩ (c_X11_builds G hL l ω m s g m0 m1 nd m7 hM (td (k + 1)) (td (k + 2)) ) (cwV 2 hts gX11_does_X11_builds rfl rfl rfl (by decide +kernel) ⟨Nat.le_of_ble_eq_true rfl, Nat.le_of_ble_eq_true rfl⟩) (fw_preV hW hK hR m0 rfl) rfl rfl hl.1 rfl (lv_room (Nat.le_of_ble_eq_true rfl)) dX11_does_270 ⟨Nat.le_of_ble_eq_true rfl, Nat.le_of_ble_eq_true rfl⟩) hS (fun v_18 ω_19 H locs hq_20 hR hS => ?_)
    obtain ⟨rfl, z_21, f_23, f_24, f_25, fr_22⟩ := hq_20
    refine W.eq (g2 := F0 mI 273 ls [.int ((buildsM s g nd (td (k + 1)) (td (k + 2))).1)]) rfl ?_
    have fr_26 : ∀ q : Nat, ¬ q = m → ¬ q = (m + 1) → ¬ q = (m + 7) → ω_19.2 q = ω.2 q := by
      intro q h0 h1 h2
      rw [fr_22 q (by omega) (by omega) (by omega)]
    have z_27 : ω_19.1 = ω.1 := by rw [z_21]
    have hr_28 : doesM s g nd td k = (((buildsM s g nd (td (k + 1)) (td (k + 2))).1, ((buildsM s g nd (td (k + 1)) (td (k + 2))).2.1), ((buildsM s g nd (td (k + 1)) (td (k + 2))).2.2.1), ((buildsM s g nd (td (k + 1)) (td (k + 2))).2.2.2)) : Int32 × (Nat → Int32) × (Nat → Int32) × (Nat → Int32)) := by
      simp only [doesM, hcc, hdd]
      rw [if_neg c_3, if_pos c_17]
    refine fw_iret hx hb hr hlocks hR hS dX11_does_273 ?_
    rw [hr_28]
    exact ⟨rfl, z_27, f_23, f_24, f_25, fr_26⟩
  by_cases c_29 : (td k) = 99
  · skip
    refine lv_tableIn (off := 236) (tgt := 260) hx hb dX11_does_24 (by rw [c_29]; decide) (by rw [c_29]; decide) (by rw [c_29]; rfl) (by decide) ?_
    refine lv_aload_n hx hb dX11_does_260 rfl (lv_at hl 2 rfl) ?_
    refine lv_iload_n hx hb dX11_does_261 rfl (lv_at hl 1 rfl) ?_
    refine lv_iload_n hx hb dX11_does_262 rfl (lv_at hl 0 rfl) ?_
    refine fw_call (va_runV (As := [.int (td (k + 1)), .int (td (k + 2))]) (rest := []) ⟨hx, hb, hml, hown, hts⟩ (c_X11_comes G hL l ω m s g m0 m1 hM (td (k + 1)) (td (k + 2)) ) (cwV 2 hts gX11_does_X11_comes rfl rfl rfl (by decide +kernel) ⟨Nat.le_of_ble_eq_true rfl, Nat.le_of_ble_eq_true rfl⟩) (fw_preV hW hK hR m0 rfl) rfl rfl hl.1 rfl (lv_room (Nat.le_of_ble_eq_true rfl)) dX11_does_263 ⟨Nat.le_of_ble_eq_true rfl, Nat.le_of_ble_eq_true rfl⟩) hS (fun v_30 ω_31 H locs hq_32 hR hS => ?_)
    obtain ⟨rfl, z_33, f_35, f_36, fr_34⟩ := hq_32
    refine W.eq (g2 := F0 mI 266 ls [.int ((comesM s g (td (k + 1)) (td (k + 2))).1)]) rfl ?_
    have f_37 : ω_31.2 (m + 7) = some (.inl (G.2.1 0, 6, .inl nd)) := (fr_34 (m + 7) (by omega) (by omega)).trans m7
    have fr_38 : ∀ q : Nat, ¬ q = m → ¬ q = (m + 1) → ¬ q = (m + 7) → ω_31.2 q = ω.2 q := by
      intro q h0 h1 h2
      rw [fr_34 q (by omega) (by omega)]
    have z_39 : ω_31.1 = ω.1 := by rw [z_33]
    have hr_40 : doesM s g nd td k = (((comesM s g (td (k + 1)) (td (k + 2))).1, ((comesM s g (td (k + 1)) (td (k + 2))).2.1), ((comesM s g (td (k + 1)) (td (k + 2))).2.2), nd) : Int32 × (Nat → Int32) × (Nat → Int32) × (Nat → Int32)) := by
      simp only [doesM, hcc, hdd]
      rw [if_neg c_3, if_neg c_17, if_pos c_29]
    refine fw_iret hx hb hr hlocks hR hS dX11_does_266 ?_
    rw [hr_40]
    exact ⟨rfl, z_39, f_35, f_36, f_37, fr_38⟩
  by_cases c_41 : (td k) = 100
  · skip
    refine lv_tableIn (off := 250) (tgt := 274) hx hb dX11_does_24 (by rw [c_41]; decide) (by rw [c_41]; decide) (by rw [c_41]; rfl) (by decide) ?_
    refine lv_aload_n hx hb dX11_does_274 rfl (lv_at hl 2 rfl) ?_
    refine lv_iload_n hx hb dX11_does_275 rfl (lv_at hl 1 rfl) ?_
    refine lv_iload_n hx hb dX11_does_276 rfl (lv_at hl 0 rfl) ?_
    refine fw_call (va_runV (As := [.int (td (k + 1)), .int (td (k + 2))]) (rest := []) ⟨hx, hb, hml, hown, hts⟩ (c_X11_finishes G hL l ω m s g m0 m1 nd m7 hM (td (k + 1)) (td (k + 2)) ) (cwV 2 hts gX11_does_X11_finishes rfl rfl rfl (by decide +kernel) ⟨Nat.le_of_ble_eq_true rfl, Nat.le_of_ble_eq_true rfl⟩) (fw_preV hW hK hR m0 rfl) rfl rfl hl.1 rfl (lv_room (Nat.le_of_ble_eq_true rfl)) dX11_does_277 ⟨Nat.le_of_ble_eq_true rfl, Nat.le_of_ble_eq_true rfl⟩) hS (fun v_42 ω_43 H locs hq_44 hR hS => ?_)
    obtain ⟨rfl, z_45, f_47, f_48, f_49, fr_46⟩ := hq_44
    refine W.eq (g2 := F0 mI 280 ls [.int ((finishesM s g nd (td (k + 1)) (td (k + 2))).1)]) rfl ?_
    have fr_50 : ∀ q : Nat, ¬ q = m → ¬ q = (m + 1) → ¬ q = (m + 7) → ω_43.2 q = ω.2 q := by
      intro q h0 h1 h2
      rw [fr_46 q (by omega) (by omega) (by omega)]
    have z_51 : ω_43.1 = ω.1 := by rw [z_45]
    have hr_52 : doesM s g nd td k = (((finishesM s g nd (td (k + 1)) (td (k + 2))).1, ((finishesM s g nd (td (k + 1)) (td (k + 2))).2.1), ((finishesM s g nd (td (k + 1)) (td (k + 2))).2.2.1), ((finishesM s g nd (td (k + 1)) (td (k + 2))).2.2.2)) : Int32 × (Nat → Int32) × (Nat → Int32) × (Nat → Int32)) := by
      simp only [doesM, hcc, hdd]
      rw [if_neg c_3, if_neg c_17, if_neg c_29, if_pos c_41]
    refine fw_iret hx hb hr hlocks hR hS dX11_does_280 ?_
    rw [hr_52]
    exact ⟨rfl, z_51, f_47, f_48, f_49, fr_50⟩
  by_cases c_53 : (td k) = 102
  · skip
    refine lv_tableIn (off := 222) (tgt := 246) hx hb dX11_does_24 (by rw [c_53]; decide) (by rw [c_53]; decide) (by rw [c_53]; rfl) (by decide) ?_
    refine lv_aload_n hx hb dX11_does_246 rfl (lv_at hl 2 rfl) ?_
    refine lv_iload_n hx hb dX11_does_247 rfl (lv_at hl 1 rfl) ?_
    refine lv_iconst (v := 1) hx hb dX11_does_248 (by decide) ?_
    refine fw_call (va_runV (As := [.int (td (k + 1)), .int 1]) (rest := []) ⟨hx, hb, hml, hown, hts⟩ (c_X11_foldsBy G hL l ω m s g m0 m1 hM (td (k + 1)) 1 ) (cwV 2 hts gX11_does_X11_foldsBy rfl rfl rfl (by decide +kernel) ⟨Nat.le_of_ble_eq_true rfl, Nat.le_of_ble_eq_true rfl⟩) (fw_preV hW hK hR m0 rfl) rfl rfl hl.1 rfl (lv_room (Nat.le_of_ble_eq_true rfl)) dX11_does_249 ⟨Nat.le_of_ble_eq_true rfl, Nat.le_of_ble_eq_true rfl⟩) hS (fun v_54 ω_55 H locs hq_56 hR hS => ?_)
    obtain ⟨rfl, z_57, f_59, f_60, fr_58⟩ := hq_56
    refine W.eq (g2 := F0 mI 252 ls [.int ((foldsM s g (td (k + 1)) 1).1)]) rfl ?_
    have f_61 : ω_55.2 (m + 7) = some (.inl (G.2.1 0, 6, .inl nd)) := (fr_58 (m + 7) (by omega) (by omega)).trans m7
    have fr_62 : ∀ q : Nat, ¬ q = m → ¬ q = (m + 1) → ¬ q = (m + 7) → ω_55.2 q = ω.2 q := by
      intro q h0 h1 h2
      rw [fr_58 q (by omega) (by omega)]
    have z_63 : ω_55.1 = ω.1 := by rw [z_57]
    have hr_64 : doesM s g nd td k = (((foldsM s g (td (k + 1)) 1).1, ((foldsM s g (td (k + 1)) 1).2.1), ((foldsM s g (td (k + 1)) 1).2.2), nd) : Int32 × (Nat → Int32) × (Nat → Int32) × (Nat → Int32)) := by
      simp only [doesM, hcc, hdd]
      rw [if_neg c_3, if_neg c_17, if_neg c_29, if_neg c_41, if_pos c_53]
    refine fw_iret hx hb hr hlocks hR hS dX11_does_252 ?_
    rw [hr_64]
    exact ⟨rfl, z_63, f_59, f_60, f_61, fr_62⟩
  by_cases c_65 : (td k) = 108
  · skip
    refine lv_tableIn (off := 168) (tgt := 192) hx hb dX11_does_24 (by rw [c_65]; decide) (by rw [c_65]; decide) (by rw [c_65]; rfl) (by decide) ?_
    refine lv_aload_n hx hb dX11_does_192 rfl (lv_at hl 2 rfl) ?_
    refine lv_iload_n hx hb dX11_does_193 rfl (lv_at hl 1 rfl) ?_
    refine fw_call (va_runV (As := [.int (td (k + 1))]) (rest := []) ⟨hx, hb, hml, hown, hts⟩ (c_X11_lays G hL l ω m s g m0 m1 hM (td (k + 1)) ) (cwV 1 hts gX11_does_X11_lays rfl rfl rfl (by decide +kernel) ⟨Nat.le_of_ble_eq_true rfl, Nat.le_of_ble_eq_true rfl⟩) (fw_preV hW hK hR m0 rfl) rfl rfl hl.1 rfl (lv_room (Nat.le_of_ble_eq_true rfl)) dX11_does_194 ⟨Nat.le_of_ble_eq_true rfl, Nat.le_of_ble_eq_true rfl⟩) hS (fun v_66 ω_67 H locs hq_68 hR hS => ?_)
    obtain ⟨rfl, z_69, f_71, f_72, fr_70⟩ := hq_68
    refine W.eq (g2 := F0 mI 197 ls [.int ((laysM s g (td (k + 1))).1)]) rfl ?_
    have f_73 : ω_67.2 (m + 7) = some (.inl (G.2.1 0, 6, .inl nd)) := (fr_70 (m + 7) (by omega) (by omega)).trans m7
    have fr_74 : ∀ q : Nat, ¬ q = m → ¬ q = (m + 1) → ¬ q = (m + 7) → ω_67.2 q = ω.2 q := by
      intro q h0 h1 h2
      rw [fr_70 q (by omega) (by omega)]
    have z_75 : ω_67.1 = ω.1 := by rw [z_69]
    have hr_76 : doesM s g nd td k = (((laysM s g (td (k + 1))).1, ((laysM s g (td (k + 1))).2.1), ((laysM s g (td (k + 1))).2.2), nd) : Int32 × (Nat → Int32) × (Nat → Int32) × (Nat → Int32)) := by
      simp only [doesM, hcc, hdd]
      rw [if_neg c_3, if_neg c_17, if_neg c_29, if_neg c_41, if_neg c_53, if_pos c_65]
    refine fw_iret hx hb hr hlocks hR hS dX11_does_197 ?_
    rw [hr_76]
    exact ⟨rfl, z_75, f_71, f_72, f_73, fr_74⟩
  by_cases c_77 : (td k) = 109
  · skip
    refine lv_tableIn (off := 263) (tgt := 287) hx hb dX11_does_24 (by rw [c_77]; decide) (by rw [c_77]; decide) (by rw [c_77]; rfl) (by decide) ?_
    refine lv_aload_n hx hb dX11_does_287 rfl (lv_at hl 2 rfl) ?_
    refine lv_iload_n hx hb dX11_does_288 rfl (lv_at hl 1 rfl) ?_
    refine lv_iload_n hx hb dX11_does_289 rfl (lv_at hl 0 rfl) ?_
    refine fw_call (va_runV (As := [.int (td (k + 1)), .int (td (k + 2))]) (rest := []) ⟨hx, hb, hml, hown, hts⟩ (c_X11_moves G hL l ω m s g m0 m1 hM (td (k + 1)) (td (k + 2)) ) (cwV 2 hts gX11_does_X11_moves rfl rfl rfl (by decide +kernel) ⟨Nat.le_of_ble_eq_true rfl, Nat.le_of_ble_eq_true rfl⟩) (fw_preV hW hK hR m0 rfl) rfl rfl hl.1 rfl (lv_room (Nat.le_of_ble_eq_true rfl)) dX11_does_290 ⟨Nat.le_of_ble_eq_true rfl, Nat.le_of_ble_eq_true rfl⟩) hS (fun v_78 ω_79 H locs hq_80 hR hS => ?_)
    obtain ⟨rfl, z_81, f_83, f_84, fr_82⟩ := hq_80
    refine W.eq (g2 := F0 mI 293 ls [.int ((movesM s g (td (k + 1)) (td (k + 2))).1)]) rfl ?_
    have f_85 : ω_79.2 (m + 7) = some (.inl (G.2.1 0, 6, .inl nd)) := (fr_82 (m + 7) (by omega) (by omega)).trans m7
    have fr_86 : ∀ q : Nat, ¬ q = m → ¬ q = (m + 1) → ¬ q = (m + 7) → ω_79.2 q = ω.2 q := by
      intro q h0 h1 h2
      rw [fr_82 q (by omega) (by omega)]
    have z_87 : ω_79.1 = ω.1 := by rw [z_81]
    have hr_88 : doesM s g nd td k = (((movesM s g (td (k + 1)) (td (k + 2))).1, ((movesM s g (td (k + 1)) (td (k + 2))).2.1), ((movesM s g (td (k + 1)) (td (k + 2))).2.2), nd) : Int32 × (Nat → Int32) × (Nat → Int32) × (Nat → Int32)) := by
      simp only [doesM, hcc, hdd]
      rw [if_neg c_3, if_neg c_17, if_neg c_29, if_neg c_41, if_neg c_53, if_neg c_65, if_pos c_77]
    refine fw_iret hx hb hr hlocks hR hS dX11_does_293 ?_
    rw [hr_88]
    exact ⟨rfl, z_87, f_83, f_84, f_85, fr_86⟩
  by_cases c_89 : (td k) = 115
  · skip
    refine lv_tableIn (off := 174) (tgt := 198) hx hb dX11_does_24 (by rw [c_89]; decide) (by rw [c_89]; decide) (by rw [c_89]; rfl) (by decide) ?_
    refine lv_aload_n hx hb dX11_does_198 rfl (lv_at hl 2 rfl) ?_
    refine lv_iload_n hx hb dX11_does_199 rfl (lv_at hl 1 rfl) ?_
    refine lv_iload_n hx hb dX11_does_200 rfl (lv_at hl 0 rfl) ?_
    refine lv_aload_n hx hb dX11_does_201 rfl (lv_at hl 2 rfl) ?_
    refine fw_get (v := .ref (m + 8)) (C := RX11) (T := TX11) (N := 19) hx hb hts hin11 hown hK hR m0 rfl 18 (by decide) (hts (.fieldLink RX11 36 "UnreadLeafletsModel" "told" "[I") (by decide +kernel)) rfl dX11_does_202 ?_
    refine lv_iload_n hx hb dX11_does_205 rfl (lv_at hl 3 rfl) ?_
    refine lv_iconst (v := 3) hx hb dX11_does_206 (by decide) ?_
    refine lv_iadd hx hb dX11_does_207 ?_
    have hi_90 : (nI k) + 3 = nI (k + 3) := by
      show (nI k) + (nI 3) = _
      simp only [pk_mul, nI_add, Nat.add_assoc, hc, hd]
    refine W.eq (g2 := F0 mI 208 ls [.int (nI (k + 3)), .ref (m + 8), .int (td (k + 2)), .int (td (k + 1)), .ref m]) (by rw [hi_90]) ?_
    refine fw_iald hx hb hK hR m8 (vp_in_nI (by omega) (by omega)) dX11_does_208 ?_
    refine W.eq (g2 := F0 mI 209 ls [.int (td (k + 3)), .int (td (k + 2)), .int (td (k + 1)), .ref m]) (by rw [nI_clamp (by omega)]) ?_
    refine lv_aload_n hx hb dX11_does_209 rfl (lv_at hl 2 rfl) ?_
    refine fw_get (v := .ref (m + 8)) (C := RX11) (T := TX11) (N := 19) hx hb hts hin11 hown hK hR m0 rfl 18 (by decide) (hts (.fieldLink RX11 36 "UnreadLeafletsModel" "told" "[I") (by decide +kernel)) rfl dX11_does_210 ?_
    refine lv_iload_n hx hb dX11_does_213 rfl (lv_at hl 3 rfl) ?_
    refine lv_iconst (v := 4) hx hb dX11_does_214 (by decide) ?_
    refine lv_iadd hx hb dX11_does_215 ?_
    have hi_91 : (nI k) + 4 = nI (k + 4) := by
      show (nI k) + (nI 4) = _
      simp only [pk_mul, nI_add, Nat.add_assoc, hc, hd]
    refine W.eq (g2 := F0 mI 216 ls [.int (nI (k + 4)), .ref (m + 8), .int (td (k + 3)), .int (td (k + 2)), .int (td (k + 1)), .ref m]) (by rw [hi_91]) ?_
    refine fw_iald hx hb hK hR m8 (vp_in_nI (by omega) (by omega)) dX11_does_216 ?_
    refine W.eq (g2 := F0 mI 217 ls [.int (td (k + 4)), .int (td (k + 3)), .int (td (k + 2)), .int (td (k + 1)), .ref m]) (by rw [nI_clamp (by omega)]) ?_
    refine lv_iconst (v := 0) hx hb dX11_does_217 (by decide) ?_
    refine fw_call (va_runV (As := [.int (td (k + 1)), .int (td (k + 2)), .int (td (k + 3)), .int (td (k + 4)), .int 0]) (rest := []) ⟨hx, hb, hml, hown, hts⟩ (c_X11_adds G hL l ω m s g m0 m1 hM (td (k + 1)) (td (k + 2)) (td (k + 3)) (td (k + 4)) 0 ) (cwV 5 hts gX11_does_X11_adds rfl rfl rfl (by decide +kernel) ⟨Nat.le_of_ble_eq_true rfl, Nat.le_of_ble_eq_true rfl⟩) (fw_preV hW hK hR m0 rfl) rfl rfl hl.1 rfl (lv_room (Nat.le_of_ble_eq_true rfl)) dX11_does_218 ⟨Nat.le_of_ble_eq_true rfl, Nat.le_of_ble_eq_true rfl⟩) hS (fun v_92 ω_93 H locs hq_94 hR hS => ?_)
    obtain ⟨rfl, z_95, f_97, f_98, fr_96⟩ := hq_94
    refine W.eq (g2 := F0 mI 221 ls [.int ((addsM s g (td (k + 1)) (td (k + 2)) (td (k + 3)) (td (k + 4)) 0).1)]) rfl ?_
    have f_99 : ω_93.2 (m + 7) = some (.inl (G.2.1 0, 6, .inl nd)) := (fr_96 (m + 7) (by omega) (by omega)).trans m7
    have fr_100 : ∀ q : Nat, ¬ q = m → ¬ q = (m + 1) → ¬ q = (m + 7) → ω_93.2 q = ω.2 q := by
      intro q h0 h1 h2
      rw [fr_96 q (by omega) (by omega)]
    have z_101 : ω_93.1 = ω.1 := by rw [z_95]
    have hr_102 : doesM s g nd td k = (((addsM s g (td (k + 1)) (td (k + 2)) (td (k + 3)) (td (k + 4)) 0).1, ((addsM s g (td (k + 1)) (td (k + 2)) (td (k + 3)) (td (k + 4)) 0).2.1), ((addsM s g (td (k + 1)) (td (k + 2)) (td (k + 3)) (td (k + 4)) 0).2.2), nd) : Int32 × (Nat → Int32) × (Nat → Int32) × (Nat → Int32)) := by
      simp only [doesM, hcc, hdd]
      rw [if_neg c_3, if_neg c_17, if_neg c_29, if_neg c_41, if_neg c_53, if_neg c_65, if_neg c_77, if_pos c_89]
    refine fw_iret hx hb hr hlocks hR hS dX11_does_221 ?_
    rw [hr_102]
    exact ⟨rfl, z_101, f_97, f_98, f_99, fr_100⟩
  by_cases c_103 : (td k) = 116
  · skip
    refine lv_tableIn (off := 257) (tgt := 281) hx hb dX11_does_24 (by rw [c_103]; decide) (by rw [c_103]; decide) (by rw [c_103]; rfl) (by decide) ?_
    refine lv_aload_n hx hb dX11_does_281 rfl (lv_at hl 2 rfl) ?_
    refine lv_iload_n hx hb dX11_does_282 rfl (lv_at hl 1 rfl) ?_
    refine fw_call (va_runV (As := [.int (td (k + 1))]) (rest := []) ⟨hx, hb, hml, hown, hts⟩ (c_X11_takesApart G hL l ω m s g m0 m1 nd m7 hM (td (k + 1)) ) (cwV 1 hts gX11_does_X11_takesApart rfl rfl rfl (by decide +kernel) ⟨Nat.le_of_ble_eq_true rfl, Nat.le_of_ble_eq_true rfl⟩) (fw_preV hW hK hR m0 rfl) rfl rfl hl.1 rfl (lv_room (Nat.le_of_ble_eq_true rfl)) dX11_does_283 ⟨Nat.le_of_ble_eq_true rfl, Nat.le_of_ble_eq_true rfl⟩) hS (fun v_104 ω_105 H locs hq_106 hR hS => ?_)
    obtain ⟨rfl, z_107, f_109, f_110, f_111, fr_108⟩ := hq_106
    refine W.eq (g2 := F0 mI 286 ls [.int ((apartM s g nd (td (k + 1))).1)]) rfl ?_
    have fr_112 : ∀ q : Nat, ¬ q = m → ¬ q = (m + 1) → ¬ q = (m + 7) → ω_105.2 q = ω.2 q := by
      intro q h0 h1 h2
      rw [fr_108 q (by omega) (by omega) (by omega)]
    have z_113 : ω_105.1 = ω.1 := by rw [z_107]
    have hr_114 : doesM s g nd td k = (((apartM s g nd (td (k + 1))).1, ((apartM s g nd (td (k + 1))).2.1), ((apartM s g nd (td (k + 1))).2.2.1), ((apartM s g nd (td (k + 1))).2.2.2)) : Int32 × (Nat → Int32) × (Nat → Int32) × (Nat → Int32)) := by
      simp only [doesM, hcc, hdd]
      rw [if_neg c_3, if_neg c_17, if_neg c_29, if_neg c_41, if_neg c_53, if_neg c_65, if_neg c_77, if_neg c_89, if_pos c_103]
    refine fw_iret hx hb hr hlocks hR hS dX11_does_286 ?_
    rw [hr_114]
    exact ⟨rfl, z_113, f_109, f_110, f_111, fr_112⟩
  by_cases c_115 : (td k) = 117
  · skip
    refine lv_tableIn (off := 229) (tgt := 253) hx hb dX11_does_24 (by rw [c_115]; decide) (by rw [c_115]; decide) (by rw [c_115]; rfl) (by decide) ?_
    refine lv_aload_n hx hb dX11_does_253 rfl (lv_at hl 2 rfl) ?_
    refine lv_iload_n hx hb dX11_does_254 rfl (lv_at hl 1 rfl) ?_
    refine lv_iconst (v := (-1)) hx hb dX11_does_255 (by decide) ?_
    refine fw_call (va_runV (As := [.int (td (k + 1)), .int (-1)]) (rest := []) ⟨hx, hb, hml, hown, hts⟩ (c_X11_foldsBy G hL l ω m s g m0 m1 hM (td (k + 1)) (-1) ) (cwV 2 hts gX11_does_X11_foldsBy rfl rfl rfl (by decide +kernel) ⟨Nat.le_of_ble_eq_true rfl, Nat.le_of_ble_eq_true rfl⟩) (fw_preV hW hK hR m0 rfl) rfl rfl hl.1 rfl (lv_room (Nat.le_of_ble_eq_true rfl)) dX11_does_256 ⟨Nat.le_of_ble_eq_true rfl, Nat.le_of_ble_eq_true rfl⟩) hS (fun v_116 ω_117 H locs hq_118 hR hS => ?_)
    obtain ⟨rfl, z_119, f_121, f_122, fr_120⟩ := hq_118
    refine W.eq (g2 := F0 mI 259 ls [.int ((foldsM s g (td (k + 1)) (-1)).1)]) rfl ?_
    have f_123 : ω_117.2 (m + 7) = some (.inl (G.2.1 0, 6, .inl nd)) := (fr_120 (m + 7) (by omega) (by omega)).trans m7
    have fr_124 : ∀ q : Nat, ¬ q = m → ¬ q = (m + 1) → ¬ q = (m + 7) → ω_117.2 q = ω.2 q := by
      intro q h0 h1 h2
      rw [fr_120 q (by omega) (by omega)]
    have z_125 : ω_117.1 = ω.1 := by rw [z_119]
    have hr_126 : doesM s g nd td k = (((foldsM s g (td (k + 1)) (-1)).1, ((foldsM s g (td (k + 1)) (-1)).2.1), ((foldsM s g (td (k + 1)) (-1)).2.2), nd) : Int32 × (Nat → Int32) × (Nat → Int32) × (Nat → Int32)) := by
      simp only [doesM, hcc, hdd]
      rw [if_neg c_3, if_neg c_17, if_neg c_29, if_neg c_41, if_neg c_53, if_neg c_65, if_neg c_77, if_neg c_89, if_neg c_103, if_pos c_115]
    refine fw_iret hx hb hr hlocks hR hS dX11_does_259 ?_
    rw [hr_126]
    exact ⟨rfl, z_125, f_121, f_122, f_123, fr_124⟩
  by_cases c_127 : (td k) = 120
  · skip
    refine lv_tableIn (off := 270) (tgt := 294) hx hb dX11_does_24 (by rw [c_127]; decide) (by rw [c_127]; decide) (by rw [c_127]; rfl) (by decide) ?_
    refine lv_aload_n hx hb dX11_does_294 rfl (lv_at hl 2 rfl) ?_
    refine lv_iload_n hx hb dX11_does_295 rfl (lv_at hl 1 rfl) ?_
    refine lv_iload_n hx hb dX11_does_296 rfl (lv_at hl 0 rfl) ?_
    refine fw_call (va_runV (As := [.int (td (k + 1)), .int (td (k + 2))]) (rest := []) ⟨hx, hb, hml, hown, hts⟩ (c_X11_loses G hL l ω m s g m0 m1 hM (td (k + 1)) (td (k + 2)) ) (cwV 2 hts gX11_does_X11_loses rfl rfl rfl (by decide +kernel) ⟨Nat.le_of_ble_eq_true rfl, Nat.le_of_ble_eq_true rfl⟩) (fw_preV hW hK hR m0 rfl) rfl rfl hl.1 rfl (lv_room (Nat.le_of_ble_eq_true rfl)) dX11_does_297 ⟨Nat.le_of_ble_eq_true rfl, Nat.le_of_ble_eq_true rfl⟩) hS (fun v_128 ω_129 H locs hq_130 hR hS => ?_)
    obtain ⟨rfl, z_131, f_133, f_134, fr_132⟩ := hq_130
    refine W.eq (g2 := F0 mI 300 ls [.int ((losesM s g (td (k + 1)) (td (k + 2))).1)]) rfl ?_
    have f_135 : ω_129.2 (m + 7) = some (.inl (G.2.1 0, 6, .inl nd)) := (fr_132 (m + 7) (by omega) (by omega)).trans m7
    have fr_136 : ∀ q : Nat, ¬ q = m → ¬ q = (m + 1) → ¬ q = (m + 7) → ω_129.2 q = ω.2 q := by
      intro q h0 h1 h2
      rw [fr_132 q (by omega) (by omega)]
    have z_137 : ω_129.1 = ω.1 := by rw [z_131]
    have hr_138 : doesM s g nd td k = (((losesM s g (td (k + 1)) (td (k + 2))).1, ((losesM s g (td (k + 1)) (td (k + 2))).2.1), ((losesM s g (td (k + 1)) (td (k + 2))).2.2), nd) : Int32 × (Nat → Int32) × (Nat → Int32) × (Nat → Int32)) := by
      simp only [doesM, hcc, hdd]
      rw [if_neg c_3, if_neg c_17, if_neg c_29, if_neg c_41, if_neg c_53, if_neg c_65, if_neg c_77, if_neg c_89, if_neg c_103, if_neg c_115, if_pos c_127]
    refine fw_iret hx hb hr hlocks hR hS dX11_does_300 ?_
    rw [hr_138]
    exact ⟨rfl, z_137, f_133, f_134, f_135, fr_136⟩
  have tc_3 := lv_neT c_3 (show (83 : Int32).toInt = 83 by decide)
  have tc_17 := lv_neT c_17 (show (98 : Int32).toInt = 98 by decide)
  have tc_29 := lv_neT c_29 (show (99 : Int32).toInt = 99 by decide)
  have tc_41 := lv_neT c_41 (show (100 : Int32).toInt = 100 by decide)
  have tc_53 := lv_neT c_53 (show (102 : Int32).toInt = 102 by decide)
  have tc_65 := lv_neT c_65 (show (108 : Int32).toInt = 108 by decide)
  have tc_77 := lv_neT c_77 (show (109 : Int32).toInt = 109 by decide)
  have tc_89 := lv_neT c_89 (show (115 : Int32).toInt = 115 by decide)
  have tc_103 := lv_neT c_103 (show (116 : Int32).toInt = 116 by decide)
  have tc_115 := lv_neT c_115 (show (117 : Int32).toInt = 117 by decide)
  have tc_127 := lv_neT c_127 (show (120 : Int32).toInt = 120 by decide)
  have hg_139 : ∀ n9 : Nat, n9 < 38 → (decide (n9 ∈ [0, 15, 16, 17, 19, 25, 26, 32, 33, 34, 37]) || (#[198, 277, 277, 277, 277, 277, 277, 277, 277, 277, 277, 277, 277, 277, 277, 243, 236, 250, 277, 222, 277, 277, 277, 277, 277, 168, 263, 277, 277, 277, 277, 277, 174, 257, 229, 277, 277, 270] : Array Int)[n9]? == some (277 : Int)) = true := by decide
  have hgd_140 : (td k).toInt < 83 ∨ 120 < (td k).toInt ∨ (#[198, 277, 277, 277, 277, 277, 277, 277, 277, 277, 277, 277, 277, 277, 277, 243, 236, 250, 277, 222, 277, 277, 277, 277, 277, 168, 263, 277, 277, 277, 277, 277, 174, 257, 229, 277, 277, 270] : Array Int)[((td k).toInt - 83).toNat]? = some (277 : Int) := by
    by_cases h8 : (td k).toInt < 83 ∨ 120 < (td k).toInt
    · exact h8.elim Or.inl (fun z => Or.inr (Or.inl z))
    · rcases (Bool.or_eq_true _ _).mp (hg_139 ((td k).toInt - 83).toNat (by omega)) with h6 | h6
      · exfalso
        have h5 := of_decide_eq_true h6
        simp only [List.mem_cons, List.not_mem_nil, or_false] at h5
        omega
      · exact Or.inr (Or.inr (eq_of_beq h6))
  refine lv_tableD (tgt := 301) hx hb dX11_does_24 hgd_140 (by decide) ?_
  refine lv_aload_n hx hb dX11_does_301 rfl (lv_at hl 2 rfl) ?_
  refine lv_iload_n hx hb dX11_does_302 rfl (lv_at hl 1 rfl) ?_
  refine lv_iload_n hx hb dX11_does_303 rfl (lv_at hl 0 rfl) ?_
  refine fw_call (va_runV (As := [.int (td (k + 1)), .int (td (k + 2))]) (rest := []) ⟨hx, hb, hml, hown, hts⟩ (c_X11_findsAgain G hL l ω m s g m0 m1 hM (td (k + 1)) (td (k + 2)) ) (cwV 2 hts gX11_does_X11_findsAgain rfl rfl rfl (by decide +kernel) ⟨Nat.le_of_ble_eq_true rfl, Nat.le_of_ble_eq_true rfl⟩) (fw_preV hW hK hR m0 rfl) rfl rfl hl.1 rfl (lv_room (Nat.le_of_ble_eq_true rfl)) dX11_does_304 ⟨Nat.le_of_ble_eq_true rfl, Nat.le_of_ble_eq_true rfl⟩) hS (fun v_141 ω_142 H locs hq_143 hR hS => ?_)
  obtain ⟨rfl, z_144, f_146, f_147, fr_145⟩ := hq_143
  refine W.eq (g2 := F0 mI 307 ls [.int ((findsM s g (td (k + 1)) (td (k + 2))).1)]) rfl ?_
  have f_148 : ω_142.2 (m + 7) = some (.inl (G.2.1 0, 6, .inl nd)) := (fr_145 (m + 7) (by omega) (by omega)).trans m7
  have fr_149 : ∀ q : Nat, ¬ q = m → ¬ q = (m + 1) → ¬ q = (m + 7) → ω_142.2 q = ω.2 q := by
    intro q h0 h1 h2
    rw [fr_145 q (by omega) (by omega)]
  have z_150 : ω_142.1 = ω.1 := by rw [z_144]
  have hr_151 : doesM s g nd td k = (((findsM s g (td (k + 1)) (td (k + 2))).1, ((findsM s g (td (k + 1)) (td (k + 2))).2.1), ((findsM s g (td (k + 1)) (td (k + 2))).2.2), nd) : Int32 × (Nat → Int32) × (Nat → Int32) × (Nat → Int32)) := by
    simp only [doesM, hcc, hdd]
    rw [if_neg c_3, if_neg c_17, if_neg c_29, if_neg c_41, if_neg c_53, if_neg c_65, if_neg c_77, if_neg c_89, if_neg c_103, if_neg c_115, if_neg c_127]
  refine fw_iret hx hb hr hlocks hR hS dX11_does_307 ?_
  rw [hr_151]
  exact ⟨rfl, z_150, f_146, f_147, f_148, fr_149⟩
/-- the orders read, from the n-th on, fu of them at most -/
def rdL (g ip : Nat → Int32) : Nat → (Nat → Int32) → (Nat → Int32) → Nat → (Nat → Int32) × (Nat → Int32) × Nat
  | 0, s, td, n => (s, td, n)
  | fu + 1, s, td, n =>
    if (ordM s g ip td (5 * n)).1 17 = 0 ∧ hereM (ordM s g ip td (5 * n)).1 g ip = 59 then rdL g ip fu (upd (ordM s g ip td (5 * n)).1 16 ((ordM s g ip td (5 * n)).1 16 + 1)) (ordM s g ip td (5 * n)).2 (n + 1)
    else (upd (ordM s g ip td (5 * n)).1 16 ((ordM s g ip td (5 * n)).1 16 + 0), (ordM s g ip td (5 * n)).2, n + 1)
abbrev DS : Type := (Nat → Int32) × (Nat → Int32) × (Nat → Int32)
/-- the orders done, from the k-th on, fu of them: the place behind the one that failed or 0, the answer, what is left -/
def doL (td : Nat → Int32) : Nat → Nat → DS → Nat × Int32 × DS
  | 0, _, z => (0, 0, z)
  | fu + 1, k, z => if (doesM z.1 z.2.1 z.2.2 td (5 * k)).2.1 14 = 0 then doL td fu (k + 1) (doesM z.1 z.2.1 z.2.2 td (5 * k)).2 else (k + 1, (doesM z.1 z.2.1 z.2.2 td (5 * k)).1, (doesM z.1 z.2.1 z.2.2 td (5 * k)).2)
/-- the change kept, or all as before: D tells how the orders went, n how many they are -/
def comK (g bf hs td : Nat → Int32) (n : Nat) (D : Nat × Int32 × DS) : Int32 × (Nat → Int32) × (Nat → Int32) × (Nat → Int32) × (Nat → Int32) × (Nat → Int32) × (Nat → Int32) :=
  if D.1 = 0 then ((keptM (upd D.2.2.1 14 0) D.2.2.2.1 g hs (nI n)).1, (keptM (upd D.2.2.1 14 0) D.2.2.2.1 g hs (nI n)).2.1, (keptM (upd D.2.2.1 14 0) D.2.2.2.1 g hs (nI n)).2.2.1, D.2.2.2.2, g, (keptM (upd D.2.2.1 14 0) D.2.2.2.1 g hs (nI n)).2.2.2, td)
  else ((keptM (upd (upd D.2.2.1 11 (nI (D.1 - 1))) 14 2) D.2.2.2.1 g hs D.2.1).1, (keptM (upd (upd D.2.2.1 11 (nI (D.1 - 1))) 14 2) D.2.2.2.1 g hs D.2.1).2.1, (keptM (upd (upd D.2.2.1 11 (nI (D.1 - 1))) 14 2) D.2.2.2.1 g hs D.2.1).2.2.1, D.2.2.2.2, g, (keptM (upd (upd D.2.2.1 11 (nI (D.1 - 1))) 14 2) D.2.2.2.1 g hs D.2.1).2.2.2, td)
def comM (s g nd bf hs ip td : Nat → Int32) : Int32 × (Nat → Int32) × (Nat → Int32) × (Nat → Int32) × (Nat → Int32) × (Nat → Int32) × (Nat → Int32) :=
  if ¬ (rdL g ip 21 (upd (upd s 16 0) 17 0) td 0).1 17 = 0 ∨ (rdL g ip 21 (upd (upd s 16 0) 17 0) td 0).1 16 < (rdL g ip 21 (upd (upd s 16 0) 17 0) td 0).1 7 then
    (0, upd (upd (upd (upd (rdL g ip 21 (upd (upd s 16 0) 17 0) td 0).1 17 1) 7 0) 8 ((rdL g ip 21 (upd (upd s 16 0) 17 0) td 0).1 16)) 14 1, g, nd, bf, hs, (rdL g ip 21 (upd (upd s 16 0) 17 0) td 0).2.1)
  else comK g bf hs (rdL g ip 21 (upd (upd s 16 0) 17 0) td 0).2.1 (rdL g ip 21 (upd (upd s 16 0) 17 0) td 0).2.2 (doL (rdL g ip 21 (upd (upd s 16 0) 17 0) td 0).2.1 (rdL g ip 21 (upd (upd s 16 0) 17 0) td 0).2.2 0 (upd (upd (upd (rdL g ip 21 (upd (upd s 16 0) 17 0) td 0).1 17 0) 7 0) 8 (-1), g, nd))
set_option maxHeartbeats 4000000 in
set_option maxRecDepth 100000 in
theorem c_X11_commands (G : FG) (hL : FL G) (l : Launch) (ω : FWd) (m : Nat) (s g : Nat → Int32) (m0 : ω.2 m = some (.inr (13, [.ref (m + 1), .ref (m + 2), .ref (m + 3), .int (s 3), .ref (m + 4), .int (s 5), .ref (m + 5), .int (s 7), .int (s 8), .int (s 9), .int (s 10), .int (s 11), .ref (m + 6), .int (s 13), .int (s 14), .ref (m + 7), .int (s 16), .int (s 17), .ref (m + 8)]))) (m1 : ω.2 (m + 1) = some (.inl (G.2.1 0, 324, .inl g))) (nd : Nat → Int32) (m7 : ω.2 (m + 7) = some (.inl (G.2.1 0, 6, .inl nd))) (bf : Nat → Int32) (m2 : ω.2 (m + 2) = some (.inl (G.2.1 0, 324, .inl bf))) (hs : Nat → Int32) (m3 : ω.2 (m + 3) = some (.inl (G.2.1 0, 2592, .inl hs))) (ip : Nat → Int32) (m5 : ω.2 (m + 5) = some (.inl (G.2.1 1, 60, .inl ip))) (td : Nat → Int32) (m8 : ω.2 (m + 8) = some (.inl (G.2.1 0, 300, .inl td))) (hM : WFM g) (hk : okN (s 3) 8) (hZ : WFZ g) (ht : okN (s 7) 60) : FMet G l yX11_commands wsX11_commands ({ frames := 6, cells := 0, slots := 0, locals := 144 } : Room) [.ref m] ω (fun vv9 τ9 => vv9 = some (.int ((comM s g nd bf hs ip td).1)) ∧ τ9.1 = ω.1 ∧ τ9.2 m = some (.inr (13, [.ref (m + 1), .ref (m + 2), .ref (m + 3), .int (((comM s g nd bf hs ip td).2.1) 3), .ref (m + 4), .int (((comM s g nd bf hs ip td).2.1) 5), .ref (m + 5), .int (((comM s g nd bf hs ip td).2.1) 7), .int (((comM s g nd bf hs ip td).2.1) 8), .int (((comM s g nd bf hs ip td).2.1) 9), .int (((comM s g nd bf hs ip td).2.1) 10), .int (((comM s g nd bf hs ip td).2.1) 11), .ref (m + 6), .int (((comM s g nd bf hs ip td).2.1) 13), .int (((comM s g nd bf hs ip td).2.1) 14), .ref (m + 7), .int (((comM s g nd bf hs ip td).2.1) 16), .int (((comM s g nd bf hs ip td).2.1) 17), .ref (m + 8)])) ∧ τ9.2 (m + 1) = some (.inl (G.2.1 0, 324, .inl ((comM s g nd bf hs ip td).2.2.1))) ∧ τ9.2 (m + 7) = some (.inl (G.2.1 0, 6, .inl ((comM s g nd bf hs ip td).2.2.2.1))) ∧ τ9.2 (m + 2) = some (.inl (G.2.1 0, 324, .inl ((comM s g nd bf hs ip td).2.2.2.2.1))) ∧ τ9.2 (m + 3) = some (.inl (G.2.1 0, 2592, .inl ((comM s g nd bf hs ip td).2.2.2.2.2.1))) ∧ τ9.2 (m + 8) = some (.inl (G.2.1 0, 300, .inl ((comM s g nd bf hs ip td).2.2.2.2.2.2))) ∧ ∀ q : Nat, ¬ q = m → ¬ q = (m + 1) → ¬ q = (m + 7) → ¬ q = (m + 2) → ¬ q = (m + 3) → ¬ q = (m + 8) → τ9.2 q = ω.2 q) 0 0 := by
  refine fw_ofW (cc := cX11_commands) (maxL := 5) (ret := (some .int)) (by decide) rfl (Nat.le_of_ble_eq_true rfl) ?_
  intro pP eE sS mI ar9 bl9 meth cD ls hx hb hr hlocks hml hts hown hnm hW hR hl
  have hK := hL.K hW
  have hS : va_S (fwA G) sS.heap sS.heap [] := va_S.rf
  have hin11 : ∀ w ∈ u_ws RX11 TX11 19, w ∈ wsX11_commands := by decide +kernel
  have hl : lv_has ls 5 [(0, .ref m)] := hl
  obtain ⟨c, hc8, hc, hcc⟩ := okN_of hM.1
  obtain ⟨cc, hd5, hd, hdd⟩ := okN_of hM.2.1
  obtain ⟨ch, hch8, hch, hchc⟩ := okN_of hk
  obtain ⟨R, hRd⟩ : ∃ R, R = rdL g ip 21 (upd (upd s 16 0) 17 0) td 0 := ⟨_, rfl⟩
  have hp0 : PK (upd (upd s 16 0) 17 0) 60 := ⟨ht, okN_le okN_0 (by omega)⟩
  refine lv_aload_n hx hb dX11_commands_0 rfl (lv_at hl 0 rfl) ?_
  refine lv_iconst (v := 0) hx hb dX11_commands_1 (by decide) ?_
  refine fw_put (v := .int 0) (C := RX11) (T := TX11) (N := 19) hx hb hts hin11 tyX11 tyX11_ok nmX11 hown hK hR hS m0 rfl 16 (by decide) (hts (.fieldLink RX11 192 "UnreadLeafletsModel" "spot" "I") (by decide +kernel)) rfl rfl rfl (Nat.le_of_ble_eq_true rfl) dX11_commands_2 (fun H locs hR hS => ?_)
  obtain ⟨ω_1, hw_2⟩ : ∃ τ : FWd, τ = (ω.1, va_up ω.2 m (some (.inr (13, [.ref (m + 1), .ref (m + 2), .ref (m + 3), .int ((upd s 16 0) 3), .ref (m + 4), .int ((upd s 16 0) 5), .ref (m + 5), .int ((upd s 16 0) 7), .int ((upd s 16 0) 8), .int ((upd s 16 0) 9), .int ((upd s 16 0) 10), .int ((upd s 16 0) 11), .ref (m + 6), .int ((upd s 16 0) 13), .int ((upd s 16 0) 14), .ref (m + 7), .int ((upd s 16 0) 16), .int ((upd s 16 0) 17), .ref (m + 8)])))) := ⟨_, rfl⟩
  have hR : fR G ω_1 H := by rw [hw_2]; exact hR
  have f_3 : ω_1.2 m = some (.inr (13, [.ref (m + 1), .ref (m + 2), .ref (m + 3), .int ((upd s 16 0) 3), .ref (m + 4), .int ((upd s 16 0) 5), .ref (m + 5), .int ((upd s 16 0) 7), .int ((upd s 16 0) 8), .int ((upd s 16 0) 9), .int ((upd s 16 0) 10), .int ((upd s 16 0) 11), .ref (m + 6), .int ((upd s 16 0) 13), .int ((upd s 16 0) 14), .ref (m + 7), .int ((upd s 16 0) 16), .int ((upd s 16 0) 17), .ref (m + 8)])) := by rw [hw_2]; exact va_up_at
  have fr_4 : ∀ q : Nat, ¬ q = m → ω_1.2 q = ω.2 q := fun q hq => by rw [hw_2]; exact va_up_off hq
  have z_5 : ω_1.1 = ω.1 := by rw [hw_2]
  refine lv_aload_n hx hb dX11_commands_5 rfl (lv_at hl 0 rfl) ?_
  refine lv_iconst (v := 0) hx hb dX11_commands_6 (by decide) ?_
  refine fw_put (v := .int 0) (C := RX11) (T := TX11) (N := 19) hx hb hts hin11 tyX11 tyX11_ok nmX11 hown hK hR hS f_3 rfl 17 (by decide) (hts (.fieldLink RX11 195 "UnreadLeafletsModel" "isWrong" "Z") (by decide +kernel)) rfl rfl rfl (Nat.le_of_ble_eq_true rfl) dX11_commands_7 (fun H locs hR hS => ?_)
  obtain ⟨ω_6, hw_7⟩ : ∃ τ : FWd, τ = (ω_1.1, va_up ω_1.2 m (some (.inr (13, [.ref (m + 1), .ref (m + 2), .ref (m + 3), .int ((upd (upd s 16 0) 17 0) 3), .ref (m + 4), .int ((upd (upd s 16 0) 17 0) 5), .ref (m + 5), .int ((upd (upd s 16 0) 17 0) 7), .int ((upd (upd s 16 0) 17 0) 8), .int ((upd (upd s 16 0) 17 0) 9), .int ((upd (upd s 16 0) 17 0) 10), .int ((upd (upd s 16 0) 17 0) 11), .ref (m + 6), .int ((upd (upd s 16 0) 17 0) 13), .int ((upd (upd s 16 0) 17 0) 14), .ref (m + 7), .int ((upd (upd s 16 0) 17 0) 16), .int ((upd (upd s 16 0) 17 0) 17), .ref (m + 8)])))) := ⟨_, rfl⟩
  have hR : fR G ω_6 H := by rw [hw_7]; exact hR
  have f_8 : ω_6.2 m = some (.inr (13, [.ref (m + 1), .ref (m + 2), .ref (m + 3), .int ((upd (upd s 16 0) 17 0) 3), .ref (m + 4), .int ((upd (upd s 16 0) 17 0) 5), .ref (m + 5), .int ((upd (upd s 16 0) 17 0) 7), .int ((upd (upd s 16 0) 17 0) 8), .int ((upd (upd s 16 0) 17 0) 9), .int ((upd (upd s 16 0) 17 0) 10), .int ((upd (upd s 16 0) 17 0) 11), .ref (m + 6), .int ((upd (upd s 16 0) 17 0) 13), .int ((upd (upd s 16 0) 17 0) 14), .ref (m + 7), .int ((upd (upd s 16 0) 17 0) 16), .int ((upd (upd s 16 0) 17 0) 17), .ref (m + 8)])) := by rw [hw_7]; exact va_up_at
  have fr_9 : ∀ q : Nat, ¬ q = m → ω_6.2 q = ω_1.2 q := fun q hq => by rw [hw_7]; exact va_up_off hq
  have z_10 : ω_6.1 = ω_1.1 := by rw [hw_7]
  refine lv_iconst (v := 0) hx hb dX11_commands_10 (by decide) ?_
  refine lv_istore_n (lv' := [(1, .int 0), (0, .ref m)]) hx hb dX11_commands_11 rfl hl (by decide) rfl (fun ls hl => ?_)
  refine lv_iconst (v := 1) hx hb dX11_commands_12 (by decide) ?_
  refine lv_istore_n (lv' := [(2, .int 1), (1, .int 0), (0, .ref m)]) hx hb dX11_commands_13 rfl hl (by decide) rfl (fun ls hl => ?_)
  have loop_11 : ∀ (fu : Nat) (n : Nat) (zz : Nat → Int32) (tt : Nat → Int32) (p : Nat) (τ1 : FWd), (61 - p) < fu → (zz 16 = nI p) → (p ≤ 60) → (3 * n ≤ p) → (PK zz 60) → (R = rdL g ip (21 - n) zz tt n) → (zz 3 = s 3) → τ1.1 = ω_6.1 → τ1.2 m = some (.inr (13, [.ref (m + 1), .ref (m + 2), .ref (m + 3), .int (zz 3), .ref (m + 4), .int (zz 5), .ref (m + 5), .int (zz 7), .int (zz 8), .int (zz 9), .int (zz 10), .int (zz 11), .ref (m + 6), .int (zz 13), .int (zz 14), .ref (m + 7), .int (zz 16), .int (zz 17), .ref (m + 8)])) → τ1.2 (m + 8) = some (.inl (G.2.1 0, 300, .inl tt)) → (∀ q : Nat, ¬ q = m → ¬ q = (m + 8) → τ1.2 q = ω_6.2 q) → ∀ (H : Heap) (locs : List Loc) (ls : Array Slot), fR G τ1 H → va_S (fwA G) sS.heap H locs → lv_has ls 5 [(2, .int 1), (1, .int (nI n)), (0, .ref m)] → W pP l eE ({ frames := 6, cells := 0, slots := 0, locals := 144 } : Room) sS mI ar9 bl9 meth cD H locs 0 0 (MQ bl9 (fQ G (fun vv9 τ9 => vv9 = some (.int ((comM s g nd bf hs ip td).1)) ∧ τ9.1 = ω.1 ∧ τ9.2 m = some (.inr (13, [.ref (m + 1), .ref (m + 2), .ref (m + 3), .int (((comM s g nd bf hs ip td).2.1) 3), .ref (m + 4), .int (((comM s g nd bf hs ip td).2.1) 5), .ref (m + 5), .int (((comM s g nd bf hs ip td).2.1) 7), .int (((comM s g nd bf hs ip td).2.1) 8), .int (((comM s g nd bf hs ip td).2.1) 9), .int (((comM s g nd bf hs ip td).2.1) 10), .int (((comM s g nd bf hs ip td).2.1) 11), .ref (m + 6), .int (((comM s g nd bf hs ip td).2.1) 13), .int (((comM s g nd bf hs ip td).2.1) 14), .ref (m + 7), .int (((comM s g nd bf hs ip td).2.1) 16), .int (((comM s g nd bf hs ip td).2.1) 17), .ref (m + 8)])) ∧ τ9.2 (m + 1) = some (.inl (G.2.1 0, 324, .inl ((comM s g nd bf hs ip td).2.2.1))) ∧ τ9.2 (m + 7) = some (.inl (G.2.1 0, 6, .inl ((comM s g nd bf hs ip td).2.2.2.1))) ∧ τ9.2 (m + 2) = some (.inl (G.2.1 0, 324, .inl ((comM s g nd bf hs ip td).2.2.2.2.1))) ∧ τ9.2 (m + 3) = some (.inl (G.2.1 0, 2592, .inl ((comM s g nd bf hs ip td).2.2.2.2.2.1))) ∧ τ9.2 (m + 8) = some (.inl (G.2.1 0, 300, .inl ((comM s g nd bf hs ip td).2.2.2.2.2.2))) ∧ ∀ q : Nat, ¬ q = m → ¬ q = (m + 1) → ¬ q = (m + 7) → ¬ q = (m + 2) → ¬ q = (m + 3) → ¬ q = (m + 8) → τ9.2 q = ω.2 q)) ar9 sS 0 0 (fwA G)) (F0 mI 14 ls []) := by
    intro fu
    induction fu with
    | zero => intro n zz tt p τ1 hfu; exact absurd hfu (Nat.not_lt_zero _)
    | succ fu ih =>
      intro n zz tt p τ1 hfu hzs hp6 hn3 hzk hRz hz3 hzτ1 w0 w8 hfrτ1 H locs ls hR hS hl
      refine lv_iload_n hx hb dX11_commands_14 rfl (lv_at hl 0 rfl) ?_
      refine lv_if_eq (tgt := 71) hx hb dX11_commands_15 (by decide) (fun c_12 => ?_) (fun c_12 => ?_)
      · skip
        exact absurd c_12 (by decide)
      · skip
        refine lv_aload_n hx hb dX11_commands_18 rfl (lv_at hl 2 rfl) ?_
        refine lv_iconst (v := 5) hx hb dX11_commands_19 (by decide) ?_
        refine lv_iload_n hx hb dX11_commands_20 rfl (lv_at hl 1 rfl) ?_
        refine lv_imul hx hb dX11_commands_21 ?_
        have hi_13 : 5 * (nI n) = nI (5 * n) := by
          show (nI 5) * (nI n) = _
          simp only [pk_mul, nI_add, Nat.add_assoc, hc, hd, hch]
        refine W.eq (g2 := F0 mI 22 ls [.int (nI (5 * n)), .ref m]) (by rw [hi_13]) ?_
        have f_14 : ω_1.2 (m + 1) = some (.inl (G.2.1 0, 324, .inl g)) := (fr_4 (m + 1) (by omega)).trans m1
        have f_15 : ω_6.2 (m + 1) = some (.inl (G.2.1 0, 324, .inl g)) := (fr_9 (m + 1) (by omega)).trans f_14
        have f_16 : τ1.2 (m + 1) = some (.inl (G.2.1 0, 324, .inl g)) := (hfrτ1 (m + 1) (by omega) (by omega)).trans f_15
        have f_17 : ω_1.2 (m + 5) = some (.inl (G.2.1 1, 60, .inl ip)) := (fr_4 (m + 5) (by omega)).trans m5
        have f_18 : ω_6.2 (m + 5) = some (.inl (G.2.1 1, 60, .inl ip)) := (fr_9 (m + 5) (by omega)).trans f_17
        have f_19 : τ1.2 (m + 5) = some (.inl (G.2.1 1, 60, .inl ip)) := (hfrτ1 (m + 5) (by omega) (by omega)).trans f_18
        refine fw_call (va_runV (As := [.int (nI (5 * n))]) (rest := []) ⟨hx, hb, hml, hown, hts⟩ (c_X11_readsOrder G hL l τ1 m zz g w0 f_16 ip f_19 tt w8 (PK_le hzk (by omega)) (5 * n) (by omega)) (cwV 1 hts gX11_commands_X11_readsOrder rfl rfl rfl (by decide +kernel) ⟨Nat.le_of_ble_eq_true rfl, Nat.le_of_ble_eq_true rfl⟩) (fw_preV hW hK hR w0 rfl) rfl rfl hl.1 rfl (lv_room (Nat.le_of_ble_eq_true rfl)) dX11_commands_22 ⟨Nat.le_of_ble_eq_true rfl, Nat.le_of_ble_eq_true rfl⟩) hS (fun v_20 ω_21 H locs hq_22 hR hS => ?_)
        obtain ⟨rfl, z_23, f_25, f_26, fr_24⟩ := hq_22
        refine W.eq (g2 := F0 mI 25 ls []) rfl ?_
        obtain ⟨x_27, ex_27⟩ : ∃ y : Int32, y = (nI n) + 1 := ⟨_, rfl⟩
        refine lv_iinc (v := x_27) (lv' := [(1, .int x_27), (2, .int 1), (0, .ref m)]) hx hb dX11_commands_25 hl (k := 1) rfl (by rw [ex_27]; rfl) (by decide) rfl (fun ls hl => ?_)
        refine lv_aload_n hx hb dX11_commands_28 rfl (lv_at hl 2 rfl) ?_
        refine fw_get (v := .int ((ordM zz g ip tt (5 * n)).1 17)) (C := RX11) (T := TX11) (N := 19) hx hb hts hin11 hown hK hR f_25 rfl 17 (by decide) (hts (.fieldLink RX11 195 "UnreadLeafletsModel" "isWrong" "Z") (by decide +kernel)) rfl dX11_commands_29 ?_
        refine lv_if_ne (tgt := 48) hx hb dX11_commands_32 (by decide) (fun c_28 => ?_) (fun c_28 => ?_)
        · skip
          refine lv_iconst (v := 0) hx hb dX11_commands_48 (by decide) ?_
          refine lv_istore_n (lv' := [(2, .int 0), (1, .int x_27), (0, .ref m)]) hx hb dX11_commands_49 rfl hl (by decide) rfl (fun ls hl => ?_)
          refine lv_aload_n hx hb dX11_commands_50 rfl (lv_at hl 2 rfl) ?_
          refine lv_dup hx hb dX11_commands_51 rfl ?_
          refine fw_get (v := .int ((ordM zz g ip tt (5 * n)).1 16)) (C := RX11) (T := TX11) (N := 19) hx hb hts hin11 hown hK hR f_25 rfl 16 (by decide) (hts (.fieldLink RX11 192 "UnreadLeafletsModel" "spot" "I") (by decide +kernel)) rfl dX11_commands_52 ?_
          refine lv_iload_n hx hb dX11_commands_55 rfl (lv_at hl 0 rfl) ?_
          refine lv_if_eq (tgt := 63) hx hb dX11_commands_56 (by decide) (fun c_29 => ?_) (fun c_29 => ?_)
          · skip
            refine lv_iconst (v := 0) hx hb dX11_commands_63 (by decide) ?_
            refine lv_iadd hx hb dX11_commands_64 ?_
            refine fw_put (v := .int (((ordM zz g ip tt (5 * n)).1 16) + 0)) (C := RX11) (T := TX11) (N := 19) hx hb hts hin11 tyX11 tyX11_ok nmX11 hown hK hR hS f_25 rfl 16 (by decide) (hts (.fieldLink RX11 192 "UnreadLeafletsModel" "spot" "I") (by decide +kernel)) rfl rfl rfl (Nat.le_of_ble_eq_true rfl) dX11_commands_65 (fun H locs hR hS => ?_)
            obtain ⟨ω_30, hw_31⟩ : ∃ τ : FWd, τ = (ω_21.1, va_up ω_21.2 m (some (.inr (13, [.ref (m + 1), .ref (m + 2), .ref (m + 3), .int ((upd ((ordM zz g ip tt (5 * n)).1) 16 (((ordM zz g ip tt (5 * n)).1 16) + 0)) 3), .ref (m + 4), .int ((upd ((ordM zz g ip tt (5 * n)).1) 16 (((ordM zz g ip tt (5 * n)).1 16) + 0)) 5), .ref (m + 5), .int ((upd ((ordM zz g ip tt (5 * n)).1) 16 (((ordM zz g ip tt (5 * n)).1 16) + 0)) 7), .int ((upd ((ordM zz g ip tt (5 * n)).1) 16 (((ordM zz g ip tt (5 * n)).1 16) + 0)) 8), .int ((upd ((ordM zz g ip tt (5 * n)).1) 16 (((ordM zz g ip tt (5 * n)).1 16) + 0)) 9), .int ((upd ((ordM zz g ip tt (5 * n)).1) 16 (((ordM zz g ip tt (5 * n)).1 16) + 0)) 10), .int ((upd ((ordM zz g ip tt (5 * n)).1) 16 (((ordM zz g ip tt (5 * n)).1 16) + 0)) 11), .ref (m + 6), .int ((upd ((ordM zz g ip tt (5 * n)).1) 16 (((ordM zz g ip tt (5 * n)).1 16) + 0)) 13), .int ((upd ((ordM zz g ip tt (5 * n)).1) 16 (((ordM zz g ip tt (5 * n)).1 16) + 0)) 14), .ref (m + 7), .int ((upd ((ordM zz g ip tt (5 * n)).1) 16 (((ordM zz g ip tt (5 * n)).1 16) + 0)) 16), .int ((upd ((ordM zz g ip tt (5 * n)).1) 16 (((ordM zz g ip tt (5 * n)).1 16) + 0)) 17), .ref (m + 8)])))) := ⟨_, rfl⟩
            have hR : fR G ω_30 H := by rw [hw_31]; exact hR
            have f_32 : ω_30.2 m = some (.inr (13, [.ref (m + 1), .ref (m + 2), .ref (m + 3), .int ((upd ((ordM zz g ip tt (5 * n)).1) 16 (((ordM zz g ip tt (5 * n)).1 16) + 0)) 3), .ref (m + 4), .int ((upd ((ordM zz g ip tt (5 * n)).1) 16 (((ordM zz g ip tt (5 * n)).1 16) + 0)) 5), .ref (m + 5), .int ((upd ((ordM zz g ip tt (5 * n)).1) 16 (((ordM zz g ip tt (5 * n)).1 16) + 0)) 7), .int ((upd ((ordM zz g ip tt (5 * n)).1) 16 (((ordM zz g ip tt (5 * n)).1 16) + 0)) 8), .int ((upd ((ordM zz g ip tt (5 * n)).1) 16 (((ordM zz g ip tt (5 * n)).1 16) + 0)) 9), .int ((upd ((ordM zz g ip tt (5 * n)).1) 16 (((ordM zz g ip tt (5 * n)).1 16) + 0)) 10), .int ((upd ((ordM zz g ip tt (5 * n)).1) 16 (((ordM zz g ip tt (5 * n)).1 16) + 0)) 11), .ref (m + 6), .int ((upd ((ordM zz g ip tt (5 * n)).1) 16 (((ordM zz g ip tt (5 * n)).1 16) + 0)) 13), .int ((upd ((ordM zz g ip tt (5 * n)).1) 16 (((ordM zz g ip tt (5 * n)).1 16) + 0)) 14), .ref (m + 7), .int ((upd ((ordM zz g ip tt (5 * n)).1) 16 (((ordM zz g ip tt (5 * n)).1 16) + 0)) 16), .int ((upd ((ordM zz g ip tt (5 * n)).1) 16 (((ordM zz g ip tt (5 * n)).1 16) + 0)) 17), .ref (m + 8)])) := by rw [hw_31]; exact va_up_at
            have fr_33 : ∀ q : Nat, ¬ q = m → ω_30.2 q = ω_21.2 q := fun q hq => by rw [hw_31]; exact va_up_off hq
            have z_34 : ω_30.1 = ω_21.1 := by rw [hw_31]
            refine lv_goto (tgt := 14) hx hb dX11_commands_68 (by decide) ?_
            refine lv_iload_n hx hb dX11_commands_14 rfl (lv_at hl 0 rfl) ?_
            refine lv_if_eq (tgt := 71) hx hb dX11_commands_15 (by decide) (fun c_35 => ?_) (fun c_35 => ?_)
            · skip
              have f_36 : ω_30.2 (m + 8) = some (.inl (G.2.1 0, 300, .inl ((ordM zz g ip tt (5 * n)).2))) := (fr_33 (m + 8) (by omega)).trans f_26
              have hRx_37 : R = ((upd ((ordM zz g ip tt (5 * n)).1) 16 (((ordM zz g ip tt (5 * n)).1 16) + 0)), ((ordM zz g ip tt (5 * n)).2), n + 1) := by rw [hRz, show 21 - n = (21 - (n + 1)) + 1 by omega, rdL, if_neg (fun z => c_28 z.1)]
              have hR21 : R.2.2 ≤ 21 := by rw [hRx_37]; show n + 1 ≤ 21; omega
              have hRp : PK R.1 200 := by rw [hRx_37]; exact ⟨(ordM_pk (k := 5 * n) hzk (by omega)).1, okN_le (okN_p0 (ordM_pk (k := 5 * n) hzk (by omega)).2) (by omega)⟩
              have hR3 : R.1 3 = s 3 := by rw [hRx_37]; show (ordM zz g ip tt (5 * n)).1 3 = s 3; rw [ordM_3]; exact hz3
              have f_38 : ω_30.2 m = some (.inr (13, [.ref (m + 1), .ref (m + 2), .ref (m + 3), .int (R.1 3), .ref (m + 4), .int (R.1 5), .ref (m + 5), .int (R.1 7), .int (R.1 8), .int (R.1 9), .int (R.1 10), .int (R.1 11), .ref (m + 6), .int (R.1 13), .int (R.1 14), .ref (m + 7), .int (R.1 16), .int (R.1 17), .ref (m + 8)])) := by rw [hRx_37]; exact f_32
              have f_39 : ω_30.2 (m + 8) = some (.inl (G.2.1 0, 300, .inl R.2.1)) := by rw [hRx_37]; exact f_36
              have hx_40 : x_27 = nI R.2.2 := by rw [hRx_37, ex_27]; exact nI_1 n
              rw [hx_40] at hl
              refine lv_aload_n hx hb dX11_commands_71 rfl (lv_at hl 2 rfl) ?_
              refine lv_aload_n hx hb dX11_commands_72 rfl (lv_at hl 2 rfl) ?_
              refine fw_get (v := .int (R.1 17)) (C := RX11) (T := TX11) (N := 19) hx hb hts hin11 hown hK hR f_38 rfl 17 (by decide) (hts (.fieldLink RX11 195 "UnreadLeafletsModel" "isWrong" "Z") (by decide +kernel)) rfl dX11_commands_73 ?_
              refine lv_if_ne (tgt := 90) hx hb dX11_commands_76 (by decide) (fun c_41 => ?_) (fun c_41 => ?_)
              · skip
                refine lv_iconst (v := 1) hx hb dX11_commands_90 (by decide) ?_
                refine lv_goto (tgt := 95) hx hb dX11_commands_91 (by decide) ?_
                refine fw_put (v := .int 1) (C := RX11) (T := TX11) (N := 19) hx hb hts hin11 tyX11 tyX11_ok nmX11 hown hK hR hS f_38 rfl 17 (by decide) (hts (.fieldLink RX11 195 "UnreadLeafletsModel" "isWrong" "Z") (by decide +kernel)) rfl rfl rfl (Nat.le_of_ble_eq_true rfl) dX11_commands_95 (fun H locs hR hS => ?_)
                obtain ⟨ω_42, hw_43⟩ : ∃ τ : FWd, τ = (ω_30.1, va_up ω_30.2 m (some (.inr (13, [.ref (m + 1), .ref (m + 2), .ref (m + 3), .int ((upd R.1 17 1) 3), .ref (m + 4), .int ((upd R.1 17 1) 5), .ref (m + 5), .int ((upd R.1 17 1) 7), .int ((upd R.1 17 1) 8), .int ((upd R.1 17 1) 9), .int ((upd R.1 17 1) 10), .int ((upd R.1 17 1) 11), .ref (m + 6), .int ((upd R.1 17 1) 13), .int ((upd R.1 17 1) 14), .ref (m + 7), .int ((upd R.1 17 1) 16), .int ((upd R.1 17 1) 17), .ref (m + 8)])))) := ⟨_, rfl⟩
                have hR : fR G ω_42 H := by rw [hw_43]; exact hR
                have f_44 : ω_42.2 m = some (.inr (13, [.ref (m + 1), .ref (m + 2), .ref (m + 3), .int ((upd R.1 17 1) 3), .ref (m + 4), .int ((upd R.1 17 1) 5), .ref (m + 5), .int ((upd R.1 17 1) 7), .int ((upd R.1 17 1) 8), .int ((upd R.1 17 1) 9), .int ((upd R.1 17 1) 10), .int ((upd R.1 17 1) 11), .ref (m + 6), .int ((upd R.1 17 1) 13), .int ((upd R.1 17 1) 14), .ref (m + 7), .int ((upd R.1 17 1) 16), .int ((upd R.1 17 1) 17), .ref (m + 8)])) := by rw [hw_43]; exact va_up_at
                have fr_45 : ∀ q : Nat, ¬ q = m → ω_42.2 q = ω_30.2 q := fun q hq => by rw [hw_43]; exact va_up_off hq
                have z_46 : ω_42.1 = ω_30.1 := by rw [hw_43]
                refine lv_aload_n hx hb dX11_commands_98 rfl (lv_at hl 2 rfl) ?_
                refine lv_iconst (v := 0) hx hb dX11_commands_99 (by decide) ?_
                refine fw_put (v := .int 0) (C := RX11) (T := TX11) (N := 19) hx hb hts hin11 tyX11 tyX11_ok nmX11 hown hK hR hS f_44 rfl 7 (by decide) (hts (.fieldLink RX11 189 "UnreadLeafletsModel" "typed" "I") (by decide +kernel)) rfl rfl rfl (Nat.le_of_ble_eq_true rfl) dX11_commands_100 (fun H locs hR hS => ?_)
                obtain ⟨ω_47, hw_48⟩ : ∃ τ : FWd, τ = (ω_42.1, va_up ω_42.2 m (some (.inr (13, [.ref (m + 1), .ref (m + 2), .ref (m + 3), .int ((upd (upd R.1 17 1) 7 0) 3), .ref (m + 4), .int ((upd (upd R.1 17 1) 7 0) 5), .ref (m + 5), .int ((upd (upd R.1 17 1) 7 0) 7), .int ((upd (upd R.1 17 1) 7 0) 8), .int ((upd (upd R.1 17 1) 7 0) 9), .int ((upd (upd R.1 17 1) 7 0) 10), .int ((upd (upd R.1 17 1) 7 0) 11), .ref (m + 6), .int ((upd (upd R.1 17 1) 7 0) 13), .int ((upd (upd R.1 17 1) 7 0) 14), .ref (m + 7), .int ((upd (upd R.1 17 1) 7 0) 16), .int ((upd (upd R.1 17 1) 7 0) 17), .ref (m + 8)])))) := ⟨_, rfl⟩
                have hR : fR G ω_47 H := by rw [hw_48]; exact hR
                have f_49 : ω_47.2 m = some (.inr (13, [.ref (m + 1), .ref (m + 2), .ref (m + 3), .int ((upd (upd R.1 17 1) 7 0) 3), .ref (m + 4), .int ((upd (upd R.1 17 1) 7 0) 5), .ref (m + 5), .int ((upd (upd R.1 17 1) 7 0) 7), .int ((upd (upd R.1 17 1) 7 0) 8), .int ((upd (upd R.1 17 1) 7 0) 9), .int ((upd (upd R.1 17 1) 7 0) 10), .int ((upd (upd R.1 17 1) 7 0) 11), .ref (m + 6), .int ((upd (upd R.1 17 1) 7 0) 13), .int ((upd (upd R.1 17 1) 7 0) 14), .ref (m + 7), .int ((upd (upd R.1 17 1) 7 0) 16), .int ((upd (upd R.1 17 1) 7 0) 17), .ref (m + 8)])) := by rw [hw_48]; exact va_up_at
                have fr_50 : ∀ q : Nat, ¬ q = m → ω_47.2 q = ω_42.2 q := fun q hq => by rw [hw_48]; exact va_up_off hq
                have z_51 : ω_47.1 = ω_42.1 := by rw [hw_48]
                refine lv_aload_n hx hb dX11_commands_103 rfl (lv_at hl 2 rfl) ?_
                refine lv_aload_n hx hb dX11_commands_104 rfl (lv_at hl 2 rfl) ?_
                refine fw_get (v := .int 1) (C := RX11) (T := TX11) (N := 19) hx hb hts hin11 hown hK hR f_49 rfl 17 (by decide) (hts (.fieldLink RX11 195 "UnreadLeafletsModel" "isWrong" "Z") (by decide +kernel)) rfl dX11_commands_105 ?_
                refine lv_if_eq (tgt := 118) hx hb dX11_commands_108 (by decide) (fun c_52 => ?_) (fun c_52 => ?_)
                · skip
                  exact absurd c_52 (by decide)
                · skip
                  refine lv_aload_n hx hb dX11_commands_111 rfl (lv_at hl 2 rfl) ?_
                  refine fw_get (v := .int (R.1 16)) (C := RX11) (T := TX11) (N := 19) hx hb hts hin11 hown hK hR f_49 rfl 16 (by decide) (hts (.fieldLink RX11 192 "UnreadLeafletsModel" "spot" "I") (by decide +kernel)) rfl dX11_commands_112 ?_
                  refine lv_goto (tgt := 119) hx hb dX11_commands_115 (by decide) ?_
                  refine fw_put (v := .int (R.1 16)) (C := RX11) (T := TX11) (N := 19) hx hb hts hin11 tyX11 tyX11_ok nmX11 hown hK hR hS f_49 rfl 8 (by decide) (hts (.fieldLink RX11 26 "UnreadLeafletsModel" "faultAt" "I") (by decide +kernel)) rfl rfl rfl (Nat.le_of_ble_eq_true rfl) dX11_commands_119 (fun H locs hR hS => ?_)
                  obtain ⟨ω_53, hw_54⟩ : ∃ τ : FWd, τ = (ω_47.1, va_up ω_47.2 m (some (.inr (13, [.ref (m + 1), .ref (m + 2), .ref (m + 3), .int ((upd (upd (upd R.1 17 1) 7 0) 8 (R.1 16)) 3), .ref (m + 4), .int ((upd (upd (upd R.1 17 1) 7 0) 8 (R.1 16)) 5), .ref (m + 5), .int ((upd (upd (upd R.1 17 1) 7 0) 8 (R.1 16)) 7), .int ((upd (upd (upd R.1 17 1) 7 0) 8 (R.1 16)) 8), .int ((upd (upd (upd R.1 17 1) 7 0) 8 (R.1 16)) 9), .int ((upd (upd (upd R.1 17 1) 7 0) 8 (R.1 16)) 10), .int ((upd (upd (upd R.1 17 1) 7 0) 8 (R.1 16)) 11), .ref (m + 6), .int ((upd (upd (upd R.1 17 1) 7 0) 8 (R.1 16)) 13), .int ((upd (upd (upd R.1 17 1) 7 0) 8 (R.1 16)) 14), .ref (m + 7), .int ((upd (upd (upd R.1 17 1) 7 0) 8 (R.1 16)) 16), .int ((upd (upd (upd R.1 17 1) 7 0) 8 (R.1 16)) 17), .ref (m + 8)])))) := ⟨_, rfl⟩
                  have hR : fR G ω_53 H := by rw [hw_54]; exact hR
                  have f_55 : ω_53.2 m = some (.inr (13, [.ref (m + 1), .ref (m + 2), .ref (m + 3), .int ((upd (upd (upd R.1 17 1) 7 0) 8 (R.1 16)) 3), .ref (m + 4), .int ((upd (upd (upd R.1 17 1) 7 0) 8 (R.1 16)) 5), .ref (m + 5), .int ((upd (upd (upd R.1 17 1) 7 0) 8 (R.1 16)) 7), .int ((upd (upd (upd R.1 17 1) 7 0) 8 (R.1 16)) 8), .int ((upd (upd (upd R.1 17 1) 7 0) 8 (R.1 16)) 9), .int ((upd (upd (upd R.1 17 1) 7 0) 8 (R.1 16)) 10), .int ((upd (upd (upd R.1 17 1) 7 0) 8 (R.1 16)) 11), .ref (m + 6), .int ((upd (upd (upd R.1 17 1) 7 0) 8 (R.1 16)) 13), .int ((upd (upd (upd R.1 17 1) 7 0) 8 (R.1 16)) 14), .ref (m + 7), .int ((upd (upd (upd R.1 17 1) 7 0) 8 (R.1 16)) 16), .int ((upd (upd (upd R.1 17 1) 7 0) 8 (R.1 16)) 17), .ref (m + 8)])) := by rw [hw_54]; exact va_up_at
                  have fr_56 : ∀ q : Nat, ¬ q = m → ω_53.2 q = ω_47.2 q := fun q hq => by rw [hw_54]; exact va_up_off hq
                  have z_57 : ω_53.1 = ω_47.1 := by rw [hw_54]
                  refine lv_aload_n hx hb dX11_commands_122 rfl (lv_at hl 2 rfl) ?_
                  refine fw_get (v := .int 1) (C := RX11) (T := TX11) (N := 19) hx hb hts hin11 hown hK hR f_55 rfl 17 (by decide) (hts (.fieldLink RX11 195 "UnreadLeafletsModel" "isWrong" "Z") (by decide +kernel)) rfl dX11_commands_123 ?_
                  refine lv_if_eq (tgt := 135) hx hb dX11_commands_126 (by decide) (fun c_58 => ?_) (fun c_58 => ?_)
                  · skip
                    exact absurd c_58 (by decide)
                  · skip
                    refine lv_aload_n hx hb dX11_commands_129 rfl (lv_at hl 2 rfl) ?_
                    refine lv_iconst (v := 1) hx hb dX11_commands_130 (by decide) ?_
                    have f_59 : ω_21.2 (m + 1) = some (.inl (G.2.1 0, 324, .inl g)) := (fr_24 (m + 1) (by omega) (by omega)).trans f_16
                    have f_60 : ω_30.2 (m + 1) = some (.inl (G.2.1 0, 324, .inl g)) := (fr_33 (m + 1) (by omega)).trans f_59
                    have f_61 : ω_42.2 (m + 1) = some (.inl (G.2.1 0, 324, .inl g)) := (fr_45 (m + 1) (by omega)).trans f_60
                    have f_62 : ω_47.2 (m + 1) = some (.inl (G.2.1 0, 324, .inl g)) := (fr_50 (m + 1) (by omega)).trans f_61
                    have f_63 : ω_53.2 (m + 1) = some (.inl (G.2.1 0, 324, .inl g)) := (fr_56 (m + 1) (by omega)).trans f_62
                    refine fw_call (va_runV (As := [.int 1]) (rest := []) ⟨hx, hb, hml, hown, hts⟩ (c_X11_fails G hL l ω_53 m (upd (upd (upd R.1 17 1) 7 0) 8 (R.1 16)) g f_55 f_63 1) (cwV 1 hts gX11_commands_X11_fails rfl rfl rfl (by decide +kernel) ⟨Nat.le_of_ble_eq_true rfl, Nat.le_of_ble_eq_true rfl⟩) (fw_preV hW hK hR f_55 rfl) rfl rfl hl.1 rfl (lv_room (Nat.le_of_ble_eq_true rfl)) dX11_commands_131 ⟨Nat.le_of_ble_eq_true rfl, Nat.le_of_ble_eq_true rfl⟩) hS (fun v_64 ω_65 H locs hq_66 hR hS => ?_)
                    obtain ⟨rfl, z_67, f_69, fr_68⟩ := hq_66
                    refine W.eq (g2 := F0 mI 134 ls [.int 0]) rfl ?_
                    subst ex_27
                    have f_70 : ω_65.2 (m + 1) = some (.inl (G.2.1 0, 324, .inl g)) := (fr_68 (m + 1) (by omega)).trans f_63
                    have f_71 : ω_1.2 (m + 7) = some (.inl (G.2.1 0, 6, .inl nd)) := (fr_4 (m + 7) (by omega)).trans m7
                    have f_72 : ω_6.2 (m + 7) = some (.inl (G.2.1 0, 6, .inl nd)) := (fr_9 (m + 7) (by omega)).trans f_71
                    have f_73 : τ1.2 (m + 7) = some (.inl (G.2.1 0, 6, .inl nd)) := (hfrτ1 (m + 7) (by omega) (by omega)).trans f_72
                    have f_74 : ω_21.2 (m + 7) = some (.inl (G.2.1 0, 6, .inl nd)) := (fr_24 (m + 7) (by omega) (by omega)).trans f_73
                    have f_75 : ω_30.2 (m + 7) = some (.inl (G.2.1 0, 6, .inl nd)) := (fr_33 (m + 7) (by omega)).trans f_74
                    have f_76 : ω_42.2 (m + 7) = some (.inl (G.2.1 0, 6, .inl nd)) := (fr_45 (m + 7) (by omega)).trans f_75
                    have f_77 : ω_47.2 (m + 7) = some (.inl (G.2.1 0, 6, .inl nd)) := (fr_50 (m + 7) (by omega)).trans f_76
                    have f_78 : ω_53.2 (m + 7) = some (.inl (G.2.1 0, 6, .inl nd)) := (fr_56 (m + 7) (by omega)).trans f_77
                    have f_79 : ω_65.2 (m + 7) = some (.inl (G.2.1 0, 6, .inl nd)) := (fr_68 (m + 7) (by omega)).trans f_78
                    have f_80 : ω_1.2 (m + 2) = some (.inl (G.2.1 0, 324, .inl bf)) := (fr_4 (m + 2) (by omega)).trans m2
                    have f_81 : ω_6.2 (m + 2) = some (.inl (G.2.1 0, 324, .inl bf)) := (fr_9 (m + 2) (by omega)).trans f_80
                    have f_82 : τ1.2 (m + 2) = some (.inl (G.2.1 0, 324, .inl bf)) := (hfrτ1 (m + 2) (by omega) (by omega)).trans f_81
                    have f_83 : ω_21.2 (m + 2) = some (.inl (G.2.1 0, 324, .inl bf)) := (fr_24 (m + 2) (by omega) (by omega)).trans f_82
                    have f_84 : ω_30.2 (m + 2) = some (.inl (G.2.1 0, 324, .inl bf)) := (fr_33 (m + 2) (by omega)).trans f_83
                    have f_85 : ω_42.2 (m + 2) = some (.inl (G.2.1 0, 324, .inl bf)) := (fr_45 (m + 2) (by omega)).trans f_84
                    have f_86 : ω_47.2 (m + 2) = some (.inl (G.2.1 0, 324, .inl bf)) := (fr_50 (m + 2) (by omega)).trans f_85
                    have f_87 : ω_53.2 (m + 2) = some (.inl (G.2.1 0, 324, .inl bf)) := (fr_56 (m + 2) (by omega)).trans f_86
                    have f_88 : ω_65.2 (m + 2) = some (.inl (G.2.1 0, 324, .inl bf)) := (fr_68 (m + 2) (by omega)).trans f_87
                    have f_89 : ω_1.2 (m + 3) = some (.inl (G.2.1 0, 2592, .inl hs)) := (fr_4 (m + 3) (by omega)).trans m3
                    have f_90 : ω_6.2 (m + 3) = some (.inl (G.2.1 0, 2592, .inl hs)) := (fr_9 (m + 3) (by omega)).trans f_89
                    have f_91 : τ1.2 (m + 3) = some (.inl (G.2.1 0, 2592, .inl hs)) := (hfrτ1 (m + 3) (by omega) (by omega)).trans f_90
                    have f_92 : ω_21.2 (m + 3) = some (.inl (G.2.1 0, 2592, .inl hs)) := (fr_24 (m + 3) (by omega) (by omega)).trans f_91
                    have f_93 : ω_30.2 (m + 3) = some (.inl (G.2.1 0, 2592, .inl hs)) := (fr_33 (m + 3) (by omega)).trans f_92
                    have f_94 : ω_42.2 (m + 3) = some (.inl (G.2.1 0, 2592, .inl hs)) := (fr_45 (m + 3) (by omega)).trans f_93
                    have f_95 : ω_47.2 (m + 3) = some (.inl (G.2.1 0, 2592, .inl hs)) := (fr_50 (m + 3) (by omega)).trans f_94
                    have f_96 : ω_53.2 (m + 3) = some (.inl (G.2.1 0, 2592, .inl hs)) := (fr_56 (m + 3) (by omega)).trans f_95
                    have f_97 : ω_65.2 (m + 3) = some (.inl (G.2.1 0, 2592, .inl hs)) := (fr_68 (m + 3) (by omega)).trans f_96
                    have f_98 : ω_42.2 (m + 8) = some (.inl (G.2.1 0, 300, .inl R.2.1)) := (fr_45 (m + 8) (by omega)).trans f_39
                    have f_99 : ω_47.2 (m + 8) = some (.inl (G.2.1 0, 300, .inl R.2.1)) := (fr_50 (m + 8) (by omega)).trans f_98
                    have f_100 : ω_53.2 (m + 8) = some (.inl (G.2.1 0, 300, .inl R.2.1)) := (fr_56 (m + 8) (by omega)).trans f_99
                    have f_101 : ω_65.2 (m + 8) = some (.inl (G.2.1 0, 300, .inl R.2.1)) := (fr_68 (m + 8) (by omega)).trans f_100
                    have fr_102 : ∀ q : Nat, ¬ q = m → ¬ q = (m + 1) → ¬ q = (m + 7) → ¬ q = (m + 2) → ¬ q = (m + 3) → ¬ q = (m + 8) → ω_65.2 q = ω.2 q := by
                      intro q h0 h1 h2 h3 h4 h5
                      rw [fr_68 q (by omega)]
                      rw [fr_56 q (by omega)]
                      rw [fr_50 q (by omega)]
                      rw [fr_45 q (by omega)]
                      rw [fr_33 q (by omega)]
                      rw [fr_24 q (by omega) (by omega)]
                      rw [hfrτ1 q (by omega) (by omega)]
                      rw [fr_9 q (by omega)]
                      rw [fr_4 q (by omega)]
                    have z_103 : ω_65.1 = ω.1 := by rw [z_67, z_57, z_51, z_46, z_34, z_23, hzτ1, z_10, z_5]
                    have hr_104 : comM s g nd bf hs ip td = ((0, (upd (upd (upd (upd R.1 17 1) 7 0) 8 (R.1 16)) 14 1), g, nd, bf, hs, R.2.1) : Int32 × (Nat → Int32) × (Nat → Int32) × (Nat → Int32) × (Nat → Int32) × (Nat → Int32) × (Nat → Int32)) := by
                      simp only [comM]
                      rw [← hRd]
                      rw [if_pos (Or.inl c_41)]
                    refine fw_iret hx hb hr hlocks hR hS dX11_commands_134 ?_
                    rw [hr_104]
                    exact ⟨rfl, z_103, f_69, f_70, f_79, f_88, f_97, f_101, fr_102⟩
              · skip
                refine lv_aload_n hx hb dX11_commands_79 rfl (lv_at hl 2 rfl) ?_
                refine fw_get (v := .int (R.1 16)) (C := RX11) (T := TX11) (N := 19) hx hb hts hin11 hown hK hR f_38 rfl 16 (by decide) (hts (.fieldLink RX11 192 "UnreadLeafletsModel" "spot" "I") (by decide +kernel)) rfl dX11_commands_80 ?_
                refine lv_aload_n hx hb dX11_commands_83 rfl (lv_at hl 2 rfl) ?_
                refine fw_get (v := .int (R.1 7)) (C := RX11) (T := TX11) (N := 19) hx hb hts hin11 hown hK hR f_38 rfl 7 (by decide) (hts (.fieldLink RX11 189 "UnreadLeafletsModel" "typed" "I") (by decide +kernel)) rfl dX11_commands_84 ?_
                refine lv_icmp_ge (tgt := 94) hx hb dX11_commands_87 (by decide) (fun c_105 => ?_) (fun c_105 => ?_)
                · skip
                  refine lv_iconst (v := 0) hx hb dX11_commands_94 (by decide) ?_
                  refine fw_put (v := .int 0) (C := RX11) (T := TX11) (N := 19) hx hb hts hin11 tyX11 tyX11_ok nmX11 hown hK hR hS f_38 rfl 17 (by decide) (hts (.fieldLink RX11 195 "UnreadLeafletsModel" "isWrong" "Z") (by decide +kernel)) rfl rfl rfl (Nat.le_of_ble_eq_true rfl) dX11_commands_95 (fun H locs hR hS => ?_)
                  obtain ⟨ω_106, hw_107⟩ : ∃ τ : FWd, τ = (ω_30.1, va_up ω_30.2 m (some (.inr (13, [.ref (m + 1), .ref (m + 2), .ref (m + 3), .int ((upd R.1 17 0) 3), .ref (m + 4), .int ((upd R.1 17 0) 5), .ref (m + 5), .int ((upd R.1 17 0) 7), .int ((upd R.1 17 0) 8), .int ((upd R.1 17 0) 9), .int ((upd R.1 17 0) 10), .int ((upd R.1 17 0) 11), .ref (m + 6), .int ((upd R.1 17 0) 13), .int ((upd R.1 17 0) 14), .ref (m + 7), .int ((upd R.1 17 0) 16), .int ((upd R.1 17 0) 17), .ref (m + 8)])))) := ⟨_, rfl⟩
                  have hR : fR G ω_106 H := by rw [hw_107]; exact hR
                  have f_108 : ω_106.2 m = some (.inr (13, [.ref (m + 1), .ref (m + 2), .ref (m + 3), .int ((upd R.1 17 0) 3), .ref (m + 4), .int ((upd R.1 17 0) 5), .ref (m + 5), .int ((upd R.1 17 0) 7), .int ((upd R.1 17 0) 8), .int ((upd R.1 17 0) 9), .int ((upd R.1 17 0) 10), .int ((upd R.1 17 0) 11), .ref (m + 6), .int ((upd R.1 17 0) 13), .int ((upd R.1 17 0) 14), .ref (m + 7), .int ((upd R.1 17 0) 16), .int ((upd R.1 17 0) 17), .ref (m + 8)])) := by rw [hw_107]; exact va_up_at
                  have fr_109 : ∀ q : Nat, ¬ q = m → ω_106.2 q = ω_30.2 q := fun q hq => by rw [hw_107]; exact va_up_off hq
                  have z_110 : ω_106.1 = ω_30.1 := by rw [hw_107]
                  refine lv_aload_n hx hb dX11_commands_98 rfl (lv_at hl 2 rfl) ?_
                  refine lv_iconst (v := 0) hx hb dX11_commands_99 (by decide) ?_
                  refine fw_put (v := .int 0) (C := RX11) (T := TX11) (N := 19) hx hb hts hin11 tyX11 tyX11_ok nmX11 hown hK hR hS f_108 rfl 7 (by decide) (hts (.fieldLink RX11 189 "UnreadLeafletsModel" "typed" "I") (by decide +kernel)) rfl rfl rfl (Nat.le_of_ble_eq_true rfl) dX11_commands_100 (fun H locs hR hS => ?_)
                  obtain ⟨ω_111, hw_112⟩ : ∃ τ : FWd, τ = (ω_106.1, va_up ω_106.2 m (some (.inr (13, [.ref (m + 1), .ref (m + 2), .ref (m + 3), .int ((upd (upd R.1 17 0) 7 0) 3), .ref (m + 4), .int ((upd (upd R.1 17 0) 7 0) 5), .ref (m + 5), .int ((upd (upd R.1 17 0) 7 0) 7), .int ((upd (upd R.1 17 0) 7 0) 8), .int ((upd (upd R.1 17 0) 7 0) 9), .int ((upd (upd R.1 17 0) 7 0) 10), .int ((upd (upd R.1 17 0) 7 0) 11), .ref (m + 6), .int ((upd (upd R.1 17 0) 7 0) 13), .int ((upd (upd R.1 17 0) 7 0) 14), .ref (m + 7), .int ((upd (upd R.1 17 0) 7 0) 16), .int ((upd (upd R.1 17 0) 7 0) 17), .ref (m + 8)])))) := ⟨_, rfl⟩
                  have hR : fR G ω_111 H := by rw [hw_112]; exact hR
                  have f_113 : ω_111.2 m = some (.inr (13, [.ref (m + 1), .ref (m + 2), .ref (m + 3), .int ((upd (upd R.1 17 0) 7 0) 3), .ref (m + 4), .int ((upd (upd R.1 17 0) 7 0) 5), .ref (m + 5), .int ((upd (upd R.1 17 0) 7 0) 7), .int ((upd (upd R.1 17 0) 7 0) 8), .int ((upd (upd R.1 17 0) 7 0) 9), .int ((upd (upd R.1 17 0) 7 0) 10), .int ((upd (upd R.1 17 0) 7 0) 11), .ref (m + 6), .int ((upd (upd R.1 17 0) 7 0) 13), .int ((upd (upd R.1 17 0) 7 0) 14), .ref (m + 7), .int ((upd (upd R.1 17 0) 7 0) 16), .int ((upd (upd R.1 17 0) 7 0) 17), .ref (m + 8)])) := by rw [hw_112]; exact va_up_at
                  have fr_114 : ∀ q : Nat, ¬ q = m → ω_111.2 q = ω_106.2 q := fun q hq => by rw [hw_112]; exact va_up_off hq
                  have z_115 : ω_111.1 = ω_106.1 := by rw [hw_112]
                  refine lv_aload_n hx hb dX11_commands_103 rfl (lv_at hl 2 rfl) ?_
                  refine lv_aload_n hx hb dX11_commands_104 rfl (lv_at hl 2 rfl) ?_
                  refine fw_get (v := .int 0) (C := RX11) (T := TX11) (N := 19) hx hb hts hin11 hown hK hR f_113 rfl 17 (by decide) (hts (.fieldLink RX11 195 "UnreadLeafletsModel" "isWrong" "Z") (by decide +kernel)) rfl dX11_commands_105 ?_
                  refine lv_if_eq (tgt := 118) hx hb dX11_commands_108 (by decide) (fun c_116 => ?_) (fun c_116 => ?_)
                  · skip
                    refine lv_iconst (v := (-1)) hx hb dX11_commands_118 (by decide) ?_
                    refine fw_put (v := .int (-1)) (C := RX11) (T := TX11) (N := 19) hx hb hts hin11 tyX11 tyX11_ok nmX11 hown hK hR hS f_113 rfl 8 (by decide) (hts (.fieldLink RX11 26 "UnreadLeafletsModel" "faultAt" "I") (by decide +kernel)) rfl rfl rfl (Nat.le_of_ble_eq_true rfl) dX11_commands_119 (fun H locs hR hS => ?_)
                    obtain ⟨ω_117, hw_118⟩ : ∃ τ : FWd, τ = (ω_111.1, va_up ω_111.2 m (some (.inr (13, [.ref (m + 1), .ref (m + 2), .ref (m + 3), .int ((upd (upd (upd R.1 17 0) 7 0) 8 (-1)) 3), .ref (m + 4), .int ((upd (upd (upd R.1 17 0) 7 0) 8 (-1)) 5), .ref (m + 5), .int ((upd (upd (upd R.1 17 0) 7 0) 8 (-1)) 7), .int ((upd (upd (upd R.1 17 0) 7 0) 8 (-1)) 8), .int ((upd (upd (upd R.1 17 0) 7 0) 8 (-1)) 9), .int ((upd (upd (upd R.1 17 0) 7 0) 8 (-1)) 10), .int ((upd (upd (upd R.1 17 0) 7 0) 8 (-1)) 11), .ref (m + 6), .int ((upd (upd (upd R.1 17 0) 7 0) 8 (-1)) 13), .int ((upd (upd (upd R.1 17 0) 7 0) 8 (-1)) 14), .ref (m + 7), .int ((upd (upd (upd R.1 17 0) 7 0) 8 (-1)) 16), .int ((upd (upd (upd R.1 17 0) 7 0) 8 (-1)) 17), .ref (m + 8)])))) := ⟨_, rfl⟩
                    have hR : fR G ω_117 H := by rw [hw_118]; exact hR
                    have f_119 : ω_117.2 m = some (.inr (13, [.ref (m + 1), .ref (m + 2), .ref (m + 3), .int ((upd (upd (upd R.1 17 0) 7 0) 8 (-1)) 3), .ref (m + 4), .int ((upd (upd (upd R.1 17 0) 7 0) 8 (-1)) 5), .ref (m + 5), .int ((upd (upd (upd R.1 17 0) 7 0) 8 (-1)) 7), .int ((upd (upd (upd R.1 17 0) 7 0) 8 (-1)) 8), .int ((upd (upd (upd R.1 17 0) 7 0) 8 (-1)) 9), .int ((upd (upd (upd R.1 17 0) 7 0) 8 (-1)) 10), .int ((upd (upd (upd R.1 17 0) 7 0) 8 (-1)) 11), .ref (m + 6), .int ((upd (upd (upd R.1 17 0) 7 0) 8 (-1)) 13), .int ((upd (upd (upd R.1 17 0) 7 0) 8 (-1)) 14), .ref (m + 7), .int ((upd (upd (upd R.1 17 0) 7 0) 8 (-1)) 16), .int ((upd (upd (upd R.1 17 0) 7 0) 8 (-1)) 17), .ref (m + 8)])) := by rw [hw_118]; exact va_up_at
                    have fr_120 : ∀ q : Nat, ¬ q = m → ω_117.2 q = ω_111.2 q := fun q hq => by rw [hw_118]; exact va_up_off hq
                    have z_121 : ω_117.1 = ω_111.1 := by rw [hw_118]
                    refine lv_aload_n hx hb dX11_commands_122 rfl (lv_at hl 2 rfl) ?_
                    refine fw_get (v := .int 0) (C := RX11) (T := TX11) (N := 19) hx hb hts hin11 hown hK hR f_119 rfl 17 (by decide) (hts (.fieldLink RX11 195 "UnreadLeafletsModel" "isWrong" "Z") (by decide +kernel)) rfl dX11_commands_123 ?_
                    refine lv_if_eq (tgt := 135) hx hb dX11_commands_126 (by decide) (fun c_122 => ?_) (fun c_122 => ?_)
                    · skip
                      refine lv_aload_n hx hb dX11_commands_135 rfl (lv_at hl 2 rfl) ?_
                      have f_123 : ω_21.2 (m + 1) = some (.inl (G.2.1 0, 324, .inl g)) := (fr_24 (m + 1) (by omega) (by omega)).trans f_16
                      have f_124 : ω_30.2 (m + 1) = some (.inl (G.2.1 0, 324, .inl g)) := (fr_33 (m + 1) (by omega)).trans f_123
                      have f_125 : ω_106.2 (m + 1) = some (.inl (G.2.1 0, 324, .inl g)) := (fr_109 (m + 1) (by omega)).trans f_124
                      have f_126 : ω_111.2 (m + 1) = some (.inl (G.2.1 0, 324, .inl g)) := (fr_114 (m + 1) (by omega)).trans f_125
                      have f_127 : ω_117.2 (m + 1) = some (.inl (G.2.1 0, 324, .inl g)) := (fr_120 (m + 1) (by omega)).trans f_126
                      have f_128 : ω_1.2 (m + 2) = some (.inl (G.2.1 0, 324, .inl bf)) := (fr_4 (m + 2) (by omega)).trans m2
                      have f_129 : ω_6.2 (m + 2) = some (.inl (G.2.1 0, 324, .inl bf)) := (fr_9 (m + 2) (by omega)).trans f_128
                      have f_130 : τ1.2 (m + 2) = some (.inl (G.2.1 0, 324, .inl bf)) := (hfrτ1 (m + 2) (by omega) (by omega)).trans f_129
                      have f_131 : ω_21.2 (m + 2) = some (.inl (G.2.1 0, 324, .inl bf)) := (fr_24 (m + 2) (by omega) (by omega)).trans f_130
                      have f_132 : ω_30.2 (m + 2) = some (.inl (G.2.1 0, 324, .inl bf)) := (fr_33 (m + 2) (by omega)).trans f_131
                      have f_133 : ω_106.2 (m + 2) = some (.inl (G.2.1 0, 324, .inl bf)) := (fr_109 (m + 2) (by omega)).trans f_132
                      have f_134 : ω_111.2 (m + 2) = some (.inl (G.2.1 0, 324, .inl bf)) := (fr_114 (m + 2) (by omega)).trans f_133
                      have f_135 : ω_117.2 (m + 2) = some (.inl (G.2.1 0, 324, .inl bf)) := (fr_120 (m + 2) (by omega)).trans f_134
                      refine fw_call (va_runV (As := []) (rest := []) ⟨hx, hb, hml, hown, hts⟩ (c_X11_looksBack G hL l ω_117 m (upd (upd (upd R.1 17 0) 7 0) 8 (-1)) g f_119 f_127 bf f_135   ) (cwV 0 hts gX11_commands_X11_looksBack rfl rfl rfl (by decide +kernel) ⟨Nat.le_of_ble_eq_true rfl, Nat.le_of_ble_eq_true rfl⟩) (fw_preV hW hK hR f_119 rfl) rfl rfl hl.1 rfl (lv_room (Nat.le_of_ble_eq_true rfl)) dX11_commands_136 ⟨Nat.le_of_ble_eq_true rfl, Nat.le_of_ble_eq_true rfl⟩) hS (fun v_136 ω_137 H locs hq_138 hR hS => ?_)
                      obtain ⟨rfl, z_139, f_141, fr_140⟩ := hq_138
                      refine W.eq (g2 := F0 mI 139 ls []) rfl ?_
                      have f_142 : ω_137.2 m = some (.inr (13, [.ref (m + 1), .ref (m + 2), .ref (m + 3), .int ((upd (upd (upd R.1 17 0) 7 0) 8 (-1)) 3), .ref (m + 4), .int ((upd (upd (upd R.1 17 0) 7 0) 8 (-1)) 5), .ref (m + 5), .int ((upd (upd (upd R.1 17 0) 7 0) 8 (-1)) 7), .int ((upd (upd (upd R.1 17 0) 7 0) 8 (-1)) 8), .int ((upd (upd (upd R.1 17 0) 7 0) 8 (-1)) 9), .int ((upd (upd (upd R.1 17 0) 7 0) 8 (-1)) 10), .int ((upd (upd (upd R.1 17 0) 7 0) 8 (-1)) 11), .ref (m + 6), .int ((upd (upd (upd R.1 17 0) 7 0) 8 (-1)) 13), .int ((upd (upd (upd R.1 17 0) 7 0) 8 (-1)) 14), .ref (m + 7), .int ((upd (upd (upd R.1 17 0) 7 0) 8 (-1)) 16), .int ((upd (upd (upd R.1 17 0) 7 0) 8 (-1)) 17), .ref (m + 8)])) := (fr_140 m (by omega)).trans f_119
                      obtain ⟨S2, hS2⟩ : ∃ S2, S2 = (upd (upd (upd R.1 17 0) 7 0) 8 (-1)) := ⟨_, rfl⟩
                      have hS23 : S2 3 = s 3 := by rw [hS2]; exact hR3
                      have f_143 : ω_137.2 m = some (.inr (13, [.ref (m + 1), .ref (m + 2), .ref (m + 3), .int (S2 3), .ref (m + 4), .int (S2 5), .ref (m + 5), .int (S2 7), .int (S2 8), .int (S2 9), .int (S2 10), .int (S2 11), .ref (m + 6), .int (S2 13), .int (S2 14), .ref (m + 7), .int (S2 16), .int (S2 17), .ref (m + 8)])) := by rw [hS2]; exact f_142
                      have f_144 : ω_137.2 (m + 2) = some (.inl (G.2.1 0, 324, .inl g)) := f_141
                      refine lv_iconst (v := 0) hx hb dX11_commands_139 (by decide) ?_
                      refine lv_istore_n (lv' := [(3, .int 0), (2, .int 0), (1, .int (nI R.2.2)), (0, .ref m)]) hx hb dX11_commands_140 rfl hl (by decide) rfl (fun ls hl => ?_)
                      have loop_145 : ∀ (fu : Nat) (k : Nat) (zs : Nat → Int32) (zg : Nat → Int32) (zn : Nat → Int32) (τ2 : FWd), (R.2.2 - k) < fu → (k ≤ R.2.2) → (WFZ zg) → (zs 3 = s 3) → (doL R.2.1 R.2.2 0 (S2, g, nd) = doL R.2.1 (R.2.2 - k) k (zs, zg, zn)) → τ2.1 = ω_137.1 → τ2.2 m = some (.inr (13, [.ref (m + 1), .ref (m + 2), .ref (m + 3), .int (zs 3), .ref (m + 4), .int (zs 5), .ref (m + 5), .int (zs 7), .int (zs 8), .int (zs 9), .int (zs 10), .int (zs 11), .ref (m + 6), .int (zs 13), .int (zs 14), .ref (m + 7), .int (zs 16), .int (zs 17), .ref (m + 8)])) → τ2.2 (m + 1) = some (.inl (G.2.1 0, 324, .inl zg)) → τ2.2 (m + 7) = some (.inl (G.2.1 0, 6, .inl zn)) → (∀ q : Nat, ¬ q = m → ¬ q = (m + 1) → ¬ q = (m + 7) → τ2.2 q = ω_137.2 q) → ∀ (H : Heap) (locs : List Loc) (ls : Array Slot), fR G τ2 H → va_S (fwA G) sS.heap H locs → lv_has ls 5 [(3, .int (nI k)), (1, .int (nI R.2.2)), (0, .ref m)] → W pP l eE ({ frames := 6, cells := 0, slots := 0, locals := 144 } : Room) sS mI ar9 bl9 meth cD H locs 0 0 (MQ bl9 (fQ G (fun vv9 τ9 => vv9 = some (.int ((comM s g nd bf hs ip td).1)) ∧ τ9.1 = ω.1 ∧ τ9.2 m = some (.inr (13, [.ref (m + 1), .ref (m + 2), .ref (m + 3), .int (((comM s g nd bf hs ip td).2.1) 3), .ref (m + 4), .int (((comM s g nd bf hs ip td).2.1) 5), .ref (m + 5), .int (((comM s g nd bf hs ip td).2.1) 7), .int (((comM s g nd bf hs ip td).2.1) 8), .int (((comM s g nd bf hs ip td).2.1) 9), .int (((comM s g nd bf hs ip td).2.1) 10), .int (((comM s g nd bf hs ip td).2.1) 11), .ref (m + 6), .int (((comM s g nd bf hs ip td).2.1) 13), .int (((comM s g nd bf hs ip td).2.1) 14), .ref (m + 7), .int (((comM s g nd bf hs ip td).2.1) 16), .int (((comM s g nd bf hs ip td).2.1) 17), .ref (m + 8)])) ∧ τ9.2 (m + 1) = some (.inl (G.2.1 0, 324, .inl ((comM s g nd bf hs ip td).2.2.1))) ∧ τ9.2 (m + 7) = some (.inl (G.2.1 0, 6, .inl ((comM s g nd bf hs ip td).2.2.2.1))) ∧ τ9.2 (m + 2) = some (.inl (G.2.1 0, 324, .inl ((comM s g nd bf hs ip td).2.2.2.2.1))) ∧ τ9.2 (m + 3) = some (.inl (G.2.1 0, 2592, .inl ((comM s g nd bf hs ip td).2.2.2.2.2.1))) ∧ τ9.2 (m + 8) = some (.inl (G.2.1 0, 300, .inl ((comM s g nd bf hs ip td).2.2.2.2.2.2))) ∧ ∀ q : Nat, ¬ q = m → ¬ q = (m + 1) → ¬ q = (m + 7) → ¬ q = (m + 2) → ¬ q = (m + 3) → ¬ q = (m + 8) → τ9.2 q = ω.2 q)) ar9 sS 0 0 (fwA G)) (F0 mI 141 ls []) := by
                        intro fu
                        induction fu with
                        | zero => intro k zs zg zn τ2 hfu; exact absurd hfu (Nat.not_lt_zero _)
                        | succ fu ih =>
                          intro k zs zg zn τ2 hfu hk9 hzw hz4 hD hzτ2 v0 v1 v7 hfrτ2 H locs ls hR hS hl
                          refine lv_iload_n hx hb dX11_commands_141 rfl (lv_at hl 0 rfl) ?_
                          refine lv_iload_n hx hb dX11_commands_142 rfl (lv_at hl 1 rfl) ?_
                          refine lv_icmp_ge (tgt := 185) hx hb dX11_commands_143 (by decide) (fun c_146 => ?_) (fun c_146 => ?_)
                          · skip
                            have hk4 : k = R.2.2 := by have := lp_ge (n := R.2.2) rfl c_146 (by omega) (by omega); omega
                            refine lv_aload_n hx hb dX11_commands_185 rfl (lv_at hl 2 rfl) ?_
                            refine lv_aload_n hx hb dX11_commands_186 rfl (lv_at hl 2 rfl) ?_
                            refine lv_iload_n hx hb dX11_commands_187 rfl (lv_at hl 1 rfl) ?_
                            refine fw_call (va_runV (As := [.int (nI R.2.2)]) (rest := [.ref m]) ⟨hx, hb, hml, hown, hts⟩ (c_X11_done G hL l τ2 m zs zg v0 v1 (nI R.2.2)) (cwV 1 hts gX11_commands_X11_done rfl rfl rfl (by decide +kernel) ⟨Nat.le_of_ble_eq_true rfl, Nat.le_of_ble_eq_true rfl⟩) (fw_preV hW hK hR v0 rfl) rfl rfl hl.1 rfl (lv_room (Nat.le_of_ble_eq_true rfl)) dX11_commands_188 ⟨Nat.le_of_ble_eq_true rfl, Nat.le_of_ble_eq_true rfl⟩) hS (fun v_147 ω_148 H locs hq_149 hR hS => ?_)
                            obtain ⟨rfl, z_150, f_152, fr_151⟩ := hq_149
                            refine W.eq (g2 := F0 mI 191 ls [.int (nI R.2.2), .ref m]) rfl ?_
                            have f_153 : ω_148.2 (m + 1) = some (.inl (G.2.1 0, 324, .inl zg)) := (fr_151 (m + 1) (by omega)).trans v1
                            have f_154 : τ2.2 (m + 2) = some (.inl (G.2.1 0, 324, .inl g)) := (hfrτ2 (m + 2) (by omega) (by omega) (by omega)).trans f_144
                            have f_155 : ω_148.2 (m + 2) = some (.inl (G.2.1 0, 324, .inl g)) := (fr_151 (m + 2) (by omega)).trans f_154
                            have f_156 : ω_1.2 (m + 3) = some (.inl (G.2.1 0, 2592, .inl hs)) := (fr_4 (m + 3) (by omega)).trans m3
                            have f_157 : ω_6.2 (m + 3) = some (.inl (G.2.1 0, 2592, .inl hs)) := (fr_9 (m + 3) (by omega)).trans f_156
                            have f_158 : τ1.2 (m + 3) = some (.inl (G.2.1 0, 2592, .inl hs)) := (hfrτ1 (m + 3) (by omega) (by omega)).trans f_157
                            have f_159 : ω_21.2 (m + 3) = some (.inl (G.2.1 0, 2592, .inl hs)) := (fr_24 (m + 3) (by omega) (by omega)).trans f_158
                            have f_160 : ω_30.2 (m + 3) = some (.inl (G.2.1 0, 2592, .inl hs)) := (fr_33 (m + 3) (by omega)).trans f_159
                            have f_161 : ω_106.2 (m + 3) = some (.inl (G.2.1 0, 2592, .inl hs)) := (fr_109 (m + 3) (by omega)).trans f_160
                            have f_162 : ω_111.2 (m + 3) = some (.inl (G.2.1 0, 2592, .inl hs)) := (fr_114 (m + 3) (by omega)).trans f_161
                            have f_163 : ω_117.2 (m + 3) = some (.inl (G.2.1 0, 2592, .inl hs)) := (fr_120 (m + 3) (by omega)).trans f_162
                            have f_164 : ω_137.2 (m + 3) = some (.inl (G.2.1 0, 2592, .inl hs)) := (fr_140 (m + 3) (by omega)).trans f_163
                            have f_165 : τ2.2 (m + 3) = some (.inl (G.2.1 0, 2592, .inl hs)) := (hfrτ2 (m + 3) (by omega) (by omega) (by omega)).trans f_164
                            have f_166 : ω_148.2 (m + 3) = some (.inl (G.2.1 0, 2592, .inl hs)) := (fr_151 (m + 3) (by omega)).trans f_165
                            refine fw_call (va_runV (As := [.int (nI R.2.2)]) (rest := []) ⟨hx, hb, hml, hown, hts⟩ (c_X11_kept G hL l ω_148 m (upd zs 14 0) zg f_152 f_153 g f_155 hs f_166 (by show okN (zs 3) 8; first | (rw [hz4]; exact hk) | (rw [doesM_3, hz4]; exact hk)) (nI R.2.2) ) (cwV 1 hts gX11_commands_X11_kept rfl rfl rfl (by decide +kernel) ⟨Nat.le_of_ble_eq_true rfl, Nat.le_of_ble_eq_true rfl⟩) (fw_preV hW hK hR f_152 rfl) rfl rfl hl.1 rfl (lv_room (Nat.le_of_ble_eq_true rfl)) dX11_commands_191 ⟨Nat.le_of_ble_eq_true rfl, Nat.le_of_ble_eq_true rfl⟩) hS (fun v_167 ω_168 H locs hq_169 hR hS => ?_)
                            obtain ⟨rfl, z_170, f_172, f_173, f_174, fr_171⟩ := hq_169
                            refine W.eq (g2 := F0 mI 194 ls [.int ((keptM (upd zs 14 0) zg g hs (nI R.2.2)).1)]) rfl ?_
                            subst ex_27
                            have f_175 : ω_148.2 (m + 7) = some (.inl (G.2.1 0, 6, .inl zn)) := (fr_151 (m + 7) (by omega)).trans v7
                            have f_176 : ω_168.2 (m + 7) = some (.inl (G.2.1 0, 6, .inl zn)) := (fr_171 (m + 7) (by omega) (by omega) (by omega)).trans f_175
                            have f_177 : ω_168.2 (m + 2) = some (.inl (G.2.1 0, 324, .inl g)) := (fr_171 (m + 2) (by omega) (by omega) (by omega)).trans f_155
                            have f_178 : ω_106.2 (m + 8) = some (.inl (G.2.1 0, 300, .inl R.2.1)) := (fr_109 (m + 8) (by omega)).trans f_39
                            have f_179 : ω_111.2 (m + 8) = some (.inl (G.2.1 0, 300, .inl R.2.1)) := (fr_114 (m + 8) (by omega)).trans f_178
                            have f_180 : ω_117.2 (m + 8) = some (.inl (G.2.1 0, 300, .inl R.2.1)) := (fr_120 (m + 8) (by omega)).trans f_179
                            have f_181 : ω_137.2 (m + 8) = some (.inl (G.2.1 0, 300, .inl R.2.1)) := (fr_140 (m + 8) (by omega)).trans f_180
                            have f_182 : τ2.2 (m + 8) = some (.inl (G.2.1 0, 300, .inl R.2.1)) := (hfrτ2 (m + 8) (by omega) (by omega) (by omega)).trans f_181
                            have f_183 : ω_148.2 (m + 8) = some (.inl (G.2.1 0, 300, .inl R.2.1)) := (fr_151 (m + 8) (by omega)).trans f_182
                            have f_184 : ω_168.2 (m + 8) = some (.inl (G.2.1 0, 300, .inl R.2.1)) := (fr_171 (m + 8) (by omega) (by omega) (by omega)).trans f_183
                            have fr_185 : ∀ q : Nat, ¬ q = m → ¬ q = (m + 1) → ¬ q = (m + 7) → ¬ q = (m + 2) → ¬ q = (m + 3) → ¬ q = (m + 8) → ω_168.2 q = ω.2 q := by
                              intro q h0 h1 h2 h3 h4 h5
                              rw [fr_171 q (by omega) (by omega) (by omega)]
                              rw [fr_151 q (by omega)]
                              rw [hfrτ2 q (by omega) (by omega) (by omega)]
                              rw [fr_140 q (by omega)]
                              rw [fr_120 q (by omega)]
                              rw [fr_114 q (by omega)]
                              rw [fr_109 q (by omega)]
                              rw [fr_33 q (by omega)]
                              rw [fr_24 q (by omega) (by omega)]
                              rw [hfrτ1 q (by omega) (by omega)]
                              rw [fr_9 q (by omega)]
                              rw [fr_4 q (by omega)]
                            have z_186 : ω_168.1 = ω.1 := by rw [z_170, z_150, hzτ2, z_139, z_121, z_115, z_110, z_34, z_23, hzτ1, z_10, z_5]
                            have hr_187 : comM s g nd bf hs ip td = (((keptM (upd zs 14 0) zg g hs (nI R.2.2)).1, ((keptM (upd zs 14 0) zg g hs (nI R.2.2)).2.1), ((keptM (upd zs 14 0) zg g hs (nI R.2.2)).2.2.1), zn, g, ((keptM (upd zs 14 0) zg g hs (nI R.2.2)).2.2.2), R.2.1) : Int32 × (Nat → Int32) × (Nat → Int32) × (Nat → Int32) × (Nat → Int32) × (Nat → Int32) × (Nat → Int32)) := by
                              simp only [comM]
                              rw [← hRd]
                              rw [if_neg (fun z => z.elim (fun y => y c_41) (fun y => absurd y (Int32.not_lt.mpr c_105))), ← hS2]
                              rw [hD, hk4, Nat.sub_self]
                              rfl
                            refine fw_iret hx hb hr hlocks hR hS dX11_commands_194 ?_
                            rw [hr_187]
                            exact ⟨rfl, z_186, f_172, f_173, f_176, f_177, f_174, f_184, fr_185⟩
                          · skip
                            have hk3 : k < R.2.2 := lp_lt rfl c_146 (by omega) (by omega)
                            refine lv_aload_n hx hb dX11_commands_146 rfl (lv_at hl 2 rfl) ?_
                            refine lv_iconst (v := 5) hx hb dX11_commands_147 (by decide) ?_
                            refine lv_iload_n hx hb dX11_commands_148 rfl (lv_at hl 0 rfl) ?_
                            refine lv_imul hx hb dX11_commands_149 ?_
                            have hi_188 : 5 * (nI k) = nI (5 * k) := by
                              show (nI 5) * (nI k) = _
                              simp only [pk_mul, nI_add, Nat.add_assoc, hc, hd, hch]
                            refine W.eq (g2 := F0 mI 150 ls [.int (nI (5 * k)), .ref m]) (by rw [hi_188]) ?_
                            have f_189 : ω_106.2 (m + 8) = some (.inl (G.2.1 0, 300, .inl R.2.1)) := (fr_109 (m + 8) (by omega)).trans f_39
                            have f_190 : ω_111.2 (m + 8) = some (.inl (G.2.1 0, 300, .inl R.2.1)) := (fr_114 (m + 8) (by omega)).trans f_189
                            have f_191 : ω_117.2 (m + 8) = some (.inl (G.2.1 0, 300, .inl R.2.1)) := (fr_120 (m + 8) (by omega)).trans f_190
                            have f_192 : ω_137.2 (m + 8) = some (.inl (G.2.1 0, 300, .inl R.2.1)) := (fr_140 (m + 8) (by omega)).trans f_191
                            have f_193 : τ2.2 (m + 8) = some (.inl (G.2.1 0, 300, .inl R.2.1)) := (hfrτ2 (m + 8) (by omega) (by omega) (by omega)).trans f_192
                            refine fw_call (va_runV (As := [.int (nI (5 * k))]) (rest := []) ⟨hx, hb, hml, hown, hts⟩ (c_X11_does G hL l τ2 m zs zg v0 v1 zn v7 R.2.1 f_193 hzw.1 (5 * k) (by omega)) (cwV 1 hts gX11_commands_X11_does rfl rfl rfl (by decide +kernel) ⟨Nat.le_of_ble_eq_true rfl, Nat.le_of_ble_eq_true rfl⟩) (fw_preV hW hK hR v0 rfl) rfl rfl hl.1 rfl (lv_room (Nat.le_of_ble_eq_true rfl)) dX11_commands_150 ⟨Nat.le_of_ble_eq_true rfl, Nat.le_of_ble_eq_true rfl⟩) hS (fun v_194 ω_195 H locs hq_196 hR hS => ?_)
                            obtain ⟨rfl, z_197, f_199, f_200, f_201, fr_198⟩ := hq_196
                            refine W.eq (g2 := F0 mI 153 ls [.int ((doesM zs zg zn R.2.1 (5 * k)).1)]) rfl ?_
                            refine lv_topi (fun x_202 ex_202 => ?_)
                            refine lv_istore (lv' := [(4, .int x_202), (3, .int (nI k)), (1, .int (nI R.2.2)), (0, .ref m)]) hx hb dX11_commands_153 hl (by decide) rfl (fun ls hl => ?_)
                            refine lv_aload_n hx hb dX11_commands_155 rfl (lv_at hl 3 rfl) ?_
                            refine fw_get (v := .int ((doesM zs zg zn R.2.1 (5 * k)).2.1 14)) (C := RX11) (T := TX11) (N := 19) hx hb hts hin11 hown hK hR f_199 rfl 14 (by decide) (hts (.fieldLink RX11 39 "UnreadLeafletsModel" "thrown" "I") (by decide +kernel)) rfl dX11_commands_156 ?_
                            refine lv_if_eq (tgt := 179) hx hb dX11_commands_159 (by decide) (fun c_203 => ?_) (fun c_203 => ?_)
                            · skip
                              obtain ⟨x_204, ex_204⟩ : ∃ y : Int32, y = (nI k) + 1 := ⟨_, rfl⟩
                              refine lv_iinc (v := x_204) (lv' := [(3, .int x_204), (4, .int x_202), (1, .int (nI R.2.2)), (0, .ref m)]) hx hb dX11_commands_179 hl (k := 1) rfl (by rw [ex_204]; rfl) (by decide) rfl (fun ls hl => ?_)
                              refine lv_goto (tgt := 141) hx hb dX11_commands_182 (by decide) ?_
                              have el_3 : x_204 = nI (k + 1) := by rw [ex_204]; exact nI_1 k
                              have hl := lv_sub (l' := [(3, .int x_204), (1, .int (nI R.2.2)), (0, .ref m)]) hl [0, 2, 3] rfl
                              rw [el_3] at hl
                              have fr_205 : ∀ q : Nat, ¬ q = m → ¬ q = (m + 1) → ¬ q = (m + 7) → ω_195.2 q = ω_137.2 q := by
                                intro q h0 h1 h2
                                rw [fr_198 q (by omega) (by omega) (by omega)]
                                rw [hfrτ2 q (by omega) (by omega) (by omega)]
                              have z_206 : ω_195.1 = ω_137.1 := by rw [z_197, hzτ2]
                              exact ih (k + 1) ((doesM zs zg zn R.2.1 (5 * k)).2.1) ((doesM zs zg zn R.2.1 (5 * k)).2.2.1) ((doesM zs zg zn R.2.1 (5 * k)).2.2.2) ω_195 (by omega) (by omega) (by exact doesM_wf hzw) (by rw [doesM_3]; exact hz4) (by rw [hD, show R.2.2 - k = (R.2.2 - (k + 1)) + 1 by omega]; simp only [doL]; rw [if_pos c_203]) z_206 f_199 f_200 f_201 fr_205 _ _ _ hR hS hl
                            · skip
                              refine lv_aload_n hx hb dX11_commands_162 rfl (lv_at hl 3 rfl) ?_
                              refine lv_iload_n hx hb dX11_commands_163 rfl (lv_at hl 1 rfl) ?_
                              refine fw_put (v := .int (nI k)) (C := RX11) (T := TX11) (N := 19) hx hb hts hin11 tyX11 tyX11_ok nmX11 hown hK hR hS f_199 rfl 11 (by decide) (hts (.fieldLink RX11 48 "UnreadLeafletsModel" "whyOrder" "I") (by decide +kernel)) rfl rfl rfl (Nat.le_of_ble_eq_true rfl) dX11_commands_164 (fun H locs hR hS => ?_)
                              obtain ⟨ω_207, hw_208⟩ : ∃ τ : FWd, τ = (ω_195.1, va_up ω_195.2 m (some (.inr (13, [.ref (m + 1), .ref (m + 2), .ref (m + 3), .int ((upd ((doesM zs zg zn R.2.1 (5 * k)).2.1) 11 (nI k)) 3), .ref (m + 4), .int ((upd ((doesM zs zg zn R.2.1 (5 * k)).2.1) 11 (nI k)) 5), .ref (m + 5), .int ((upd ((doesM zs zg zn R.2.1 (5 * k)).2.1) 11 (nI k)) 7), .int ((upd ((doesM zs zg zn R.2.1 (5 * k)).2.1) 11 (nI k)) 8), .int ((upd ((doesM zs zg zn R.2.1 (5 * k)).2.1) 11 (nI k)) 9), .int ((upd ((doesM zs zg zn R.2.1 (5 * k)).2.1) 11 (nI k)) 10), .int ((upd ((doesM zs zg zn R.2.1 (5 * k)).2.1) 11 (nI k)) 11), .ref (m + 6), .int ((upd ((doesM zs zg zn R.2.1 (5 * k)).2.1) 11 (nI k)) 13), .int ((upd ((doesM zs zg zn R.2.1 (5 * k)).2.1) 11 (nI k)) 14), .ref (m + 7), .int ((upd ((doesM zs zg zn R.2.1 (5 * k)).2.1) 11 (nI k)) 16), .int ((upd ((doesM zs zg zn R.2.1 (5 * k)).2.1) 11 (nI k)) 17), .ref (m + 8)])))) := ⟨_, rfl⟩
                              have hR : fR G ω_207 H := by rw [hw_208]; exact hR
                              have f_209 : ω_207.2 m = some (.inr (13, [.ref (m + 1), .ref (m + 2), .ref (m + 3), .int ((upd ((doesM zs zg zn R.2.1 (5 * k)).2.1) 11 (nI k)) 3), .ref (m + 4), .int ((upd ((doesM zs zg zn R.2.1 (5 * k)).2.1) 11 (nI k)) 5), .ref (m + 5), .int ((upd ((doesM zs zg zn R.2.1 (5 * k)).2.1) 11 (nI k)) 7), .int ((upd ((doesM zs zg zn R.2.1 (5 * k)).2.1) 11 (nI k)) 8), .int ((upd ((doesM zs zg zn R.2.1 (5 * k)).2.1) 11 (nI k)) 9), .int ((upd ((doesM zs zg zn R.2.1 (5 * k)).2.1) 11 (nI k)) 10), .int ((upd ((doesM zs zg zn R.2.1 (5 * k)).2.1) 11 (nI k)) 11), .ref (m + 6), .int ((upd ((doesM zs zg zn R.2.1 (5 * k)).2.1) 11 (nI k)) 13), .int ((upd ((doesM zs zg zn R.2.1 (5 * k)).2.1) 11 (nI k)) 14), .ref (m + 7), .int ((upd ((doesM zs zg zn R.2.1 (5 * k)).2.1) 11 (nI k)) 16), .int ((upd ((doesM zs zg zn R.2.1 (5 * k)).2.1) 11 (nI k)) 17), .ref (m + 8)])) := by rw [hw_208]; exact va_up_at
                              have fr_210 : ∀ q : Nat, ¬ q = m → ω_207.2 q = ω_195.2 q := fun q hq => by rw [hw_208]; exact va_up_off hq
                              have z_211 : ω_207.1 = ω_195.1 := by rw [hw_208]
                              refine lv_aload_n hx hb dX11_commands_167 rfl (lv_at hl 3 rfl) ?_
                              refine lv_iconst (v := 2) hx hb dX11_commands_168 (by decide) ?_
                              refine fw_put (v := .int 2) (C := RX11) (T := TX11) (N := 19) hx hb hts hin11 tyX11 tyX11_ok nmX11 hown hK hR hS f_209 rfl 14 (by decide) (hts (.fieldLink RX11 39 "UnreadLeafletsModel" "thrown" "I") (by decide +kernel)) rfl rfl rfl (Nat.le_of_ble_eq_true rfl) dX11_commands_169 (fun H locs hR hS => ?_)
                              obtain ⟨ω_212, hw_213⟩ : ∃ τ : FWd, τ = (ω_207.1, va_up ω_207.2 m (some (.inr (13, [.ref (m + 1), .ref (m + 2), .ref (m + 3), .int ((upd (upd ((doesM zs zg zn R.2.1 (5 * k)).2.1) 11 (nI k)) 14 2) 3), .ref (m + 4), .int ((upd (upd ((doesM zs zg zn R.2.1 (5 * k)).2.1) 11 (nI k)) 14 2) 5), .ref (m + 5), .int ((upd (upd ((doesM zs zg zn R.2.1 (5 * k)).2.1) 11 (nI k)) 14 2) 7), .int ((upd (upd ((doesM zs zg zn R.2.1 (5 * k)).2.1) 11 (nI k)) 14 2) 8), .int ((upd (upd ((doesM zs zg zn R.2.1 (5 * k)).2.1) 11 (nI k)) 14 2) 9), .int ((upd (upd ((doesM zs zg zn R.2.1 (5 * k)).2.1) 11 (nI k)) 14 2) 10), .int ((upd (upd ((doesM zs zg zn R.2.1 (5 * k)).2.1) 11 (nI k)) 14 2) 11), .ref (m + 6), .int ((upd (upd ((doesM zs zg zn R.2.1 (5 * k)).2.1) 11 (nI k)) 14 2) 13), .int ((upd (upd ((doesM zs zg zn R.2.1 (5 * k)).2.1) 11 (nI k)) 14 2) 14), .ref (m + 7), .int ((upd (upd ((doesM zs zg zn R.2.1 (5 * k)).2.1) 11 (nI k)) 14 2) 16), .int ((upd (upd ((doesM zs zg zn R.2.1 (5 * k)).2.1) 11 (nI k)) 14 2) 17), .ref (m + 8)])))) := ⟨_, rfl⟩
                              have hR : fR G ω_212 H := by rw [hw_213]; exact hR
                              have f_214 : ω_212.2 m = some (.inr (13, [.ref (m + 1), .ref (m + 2), .ref (m + 3), .int ((upd (upd ((doesM zs zg zn R.2.1 (5 * k)).2.1) 11 (nI k)) 14 2) 3), .ref (m + 4), .int ((upd (upd ((doesM zs zg zn R.2.1 (5 * k)).2.1) 11 (nI k)) 14 2) 5), .ref (m + 5), .int ((upd (upd ((doesM zs zg zn R.2.1 (5 * k)).2.1) 11 (nI k)) 14 2) 7), .int ((upd (upd ((doesM zs zg zn R.2.1 (5 * k)).2.1) 11 (nI k)) 14 2) 8), .int ((upd (upd ((doesM zs zg zn R.2.1 (5 * k)).2.1) 11 (nI k)) 14 2) 9), .int ((upd (upd ((doesM zs zg zn R.2.1 (5 * k)).2.1) 11 (nI k)) 14 2) 10), .int ((upd (upd ((doesM zs zg zn R.2.1 (5 * k)).2.1) 11 (nI k)) 14 2) 11), .ref (m + 6), .int ((upd (upd ((doesM zs zg zn R.2.1 (5 * k)).2.1) 11 (nI k)) 14 2) 13), .int ((upd (upd ((doesM zs zg zn R.2.1 (5 * k)).2.1) 11 (nI k)) 14 2) 14), .ref (m + 7), .int ((upd (upd ((doesM zs zg zn R.2.1 (5 * k)).2.1) 11 (nI k)) 14 2) 16), .int ((upd (upd ((doesM zs zg zn R.2.1 (5 * k)).2.1) 11 (nI k)) 14 2) 17), .ref (m + 8)])) := by rw [hw_213]; exact va_up_at
                              have fr_215 : ∀ q : Nat, ¬ q = m → ω_212.2 q = ω_207.2 q := fun q hq => by rw [hw_213]; exact va_up_off hq
                              have z_216 : ω_212.1 = ω_207.1 := by rw [hw_213]
                              refine lv_aload_n hx hb dX11_commands_172 rfl (lv_at hl 3 rfl) ?_
                              refine lv_iload hx hb dX11_commands_173 (lv_at hl 0 rfl) ?_
                              have f_217 : ω_207.2 (m + 1) = some (.inl (G.2.1 0, 324, .inl ((doesM zs zg zn R.2.1 (5 * k)).2.2.1))) := (fr_210 (m + 1) (by omega)).trans f_200
                              have f_218 : ω_212.2 (m + 1) = some (.inl (G.2.1 0, 324, .inl ((doesM zs zg zn R.2.1 (5 * k)).2.2.1))) := (fr_215 (m + 1) (by omega)).trans f_217
                              have f_219 : τ2.2 (m + 2) = some (.inl (G.2.1 0, 324, .inl g)) := (hfrτ2 (m + 2) (by omega) (by omega) (by omega)).trans f_144
                              have f_220 : ω_195.2 (m + 2) = some (.inl (G.2.1 0, 324, .inl g)) := (fr_198 (m + 2) (by omega) (by omega) (by omega)).trans f_219
                              have f_221 : ω_207.2 (m + 2) = some (.inl (G.2.1 0, 324, .inl g)) := (fr_210 (m + 2) (by omega)).trans f_220
                              have f_222 : ω_212.2 (m + 2) = some (.inl (G.2.1 0, 324, .inl g)) := (fr_215 (m + 2) (by omega)).trans f_221
                              have f_223 : ω_1.2 (m + 3) = some (.inl (G.2.1 0, 2592, .inl hs)) := (fr_4 (m + 3) (by omega)).trans m3
                              have f_224 : ω_6.2 (m + 3) = some (.inl (G.2.1 0, 2592, .inl hs)) := (fr_9 (m + 3) (by omega)).trans f_223
                              have f_225 : τ1.2 (m + 3) = some (.inl (G.2.1 0, 2592, .inl hs)) := (hfrτ1 (m + 3) (by omega) (by omega)).trans f_224
                              have f_226 : ω_21.2 (m + 3) = some (.inl (G.2.1 0, 2592, .inl hs)) := (fr_24 (m + 3) (by omega) (by omega)).trans f_225
                              have f_227 : ω_30.2 (m + 3) = some (.inl (G.2.1 0, 2592, .inl hs)) := (fr_33 (m + 3) (by omega)).trans f_226
                              have f_228 : ω_106.2 (m + 3) = some (.inl (G.2.1 0, 2592, .inl hs)) := (fr_109 (m + 3) (by omega)).trans f_227
                              have f_229 : ω_111.2 (m + 3) = some (.inl (G.2.1 0, 2592, .inl hs)) := (fr_114 (m + 3) (by omega)).trans f_228
                              have f_230 : ω_117.2 (m + 3) = some (.inl (G.2.1 0, 2592, .inl hs)) := (fr_120 (m + 3) (by omega)).trans f_229
                              have f_231 : ω_137.2 (m + 3) = some (.inl (G.2.1 0, 2592, .inl hs)) := (fr_140 (m + 3) (by omega)).trans f_230
                              have f_232 : τ2.2 (m + 3) = some (.inl (G.2.1 0, 2592, .inl hs)) := (hfrτ2 (m + 3) (by omega) (by omega) (by omega)).trans f_231
                              have f_233 : ω_195.2 (m + 3) = some (.inl (G.2.1 0, 2592, .inl hs)) := (fr_198 (m + 3) (by omega) (by omega) (by omega)).trans f_232
                              have f_234 : ω_207.2 (m + 3) = some (.inl (G.2.1 0, 2592, .inl hs)) := (fr_210 (m + 3) (by omega)).trans f_233
                              have f_235 : ω_212.2 (m + 3) = some (.inl (G.2.1 0, 2592, .inl hs)) := (fr_215 (m + 3) (by omega)).trans f_234
                              refine fw_call (va_runV (As := [.int x_202]) (rest := []) ⟨hx, hb, hml, hown, hts⟩ (c_X11_kept G hL l ω_212 m (upd (upd ((doesM zs zg zn R.2.1 (5 * k)).2.1) 11 (nI k)) 14 2) ((doesM zs zg zn R.2.1 (5 * k)).2.2.1) f_214 f_218 g f_222 hs f_235 (by show okN ((doesM zs zg zn R.2.1 (5 * k)).2.1 3) 8; first | (rw [hz4]; exact hk) | (rw [doesM_3, hz4]; exact hk)) x_202 ) (cwV 1 hts gX11_commands_X11_kept rfl rfl rfl (by decide +kernel) ⟨Nat.le_of_ble_eq_true rfl, Nat.le_of_ble_eq_true rfl⟩) (fw_preV hW hK hR f_214 rfl) rfl rfl hl.1 rfl (lv_room (Nat.le_of_ble_eq_true rfl)) dX11_commands_175 ⟨Nat.le_of_ble_eq_true rfl, Nat.le_of_ble_eq_true rfl⟩) hS (fun v_236 ω_237 H locs hq_238 hR hS => ?_)
                              obtain ⟨rfl, z_239, f_241, f_242, f_243, fr_240⟩ := hq_238
                              refine W.eq (g2 := F0 mI 178 ls [.int ((keptM (upd (upd ((doesM zs zg zn R.2.1 (5 * k)).2.1) 11 (nI k)) 14 2) ((doesM zs zg zn R.2.1 (5 * k)).2.2.1) g hs x_202).1)]) rfl ?_
                              subst ex_202 ex_27
                              have f_244 : ω_207.2 (m + 7) = some (.inl (G.2.1 0, 6, .inl ((doesM zs zg zn R.2.1 (5 * k)).2.2.2))) := (fr_210 (m + 7) (by omega)).trans f_201
                              have f_245 : ω_212.2 (m + 7) = some (.inl (G.2.1 0, 6, .inl ((doesM zs zg zn R.2.1 (5 * k)).2.2.2))) := (fr_215 (m + 7) (by omega)).trans f_244
                              have f_246 : ω_237.2 (m + 7) = some (.inl (G.2.1 0, 6, .inl ((doesM zs zg zn R.2.1 (5 * k)).2.2.2))) := (fr_240 (m + 7) (by omega) (by omega) (by omega)).trans f_245
                              have f_247 : ω_237.2 (m + 2) = some (.inl (G.2.1 0, 324, .inl g)) := (fr_240 (m + 2) (by omega) (by omega) (by omega)).trans f_222
                              have f_248 : ω_195.2 (m + 8) = some (.inl (G.2.1 0, 300, .inl R.2.1)) := (fr_198 (m + 8) (by omega) (by omega) (by omega)).trans f_193
                              have f_249 : ω_207.2 (m + 8) = some (.inl (G.2.1 0, 300, .inl R.2.1)) := (fr_210 (m + 8) (by omega)).trans f_248
                              have f_250 : ω_212.2 (m + 8) = some (.inl (G.2.1 0, 300, .inl R.2.1)) := (fr_215 (m + 8) (by omega)).trans f_249
                              have f_251 : ω_237.2 (m + 8) = some (.inl (G.2.1 0, 300, .inl R.2.1)) := (fr_240 (m + 8) (by omega) (by omega) (by omega)).trans f_250
                              have fr_252 : ∀ q : Nat, ¬ q = m → ¬ q = (m + 1) → ¬ q = (m + 7) → ¬ q = (m + 2) → ¬ q = (m + 3) → ¬ q = (m + 8) → ω_237.2 q = ω.2 q := by
                                intro q h0 h1 h2 h3 h4 h5
                                rw [fr_240 q (by omega) (by omega) (by omega)]
                                rw [fr_215 q (by omega)]
                                rw [fr_210 q (by omega)]
                                rw [fr_198 q (by omega) (by omega) (by omega)]
                                rw [hfrτ2 q (by omega) (by omega) (by omega)]
                                rw [fr_140 q (by omega)]
                                rw [fr_120 q (by omega)]
                                rw [fr_114 q (by omega)]
                                rw [fr_109 q (by omega)]
                                rw [fr_33 q (by omega)]
                                rw [fr_24 q (by omega) (by omega)]
                                rw [hfrτ1 q (by omega) (by omega)]
                                rw [fr_9 q (by omega)]
                                rw [fr_4 q (by omega)]
                              have z_253 : ω_237.1 = ω.1 := by rw [z_239, z_216, z_211, z_197, hzτ2, z_139, z_121, z_115, z_110, z_34, z_23, hzτ1, z_10, z_5]
                              have hr_254 : comM s g nd bf hs ip td = (((keptM (upd (upd ((doesM zs zg zn R.2.1 (5 * k)).2.1) 11 (nI k)) 14 2) ((doesM zs zg zn R.2.1 (5 * k)).2.2.1) g hs ((doesM zs zg zn R.2.1 (5 * k)).1)).1, ((keptM (upd (upd ((doesM zs zg zn R.2.1 (5 * k)).2.1) 11 (nI k)) 14 2) ((doesM zs zg zn R.2.1 (5 * k)).2.2.1) g hs ((doesM zs zg zn R.2.1 (5 * k)).1)).2.1), ((keptM (upd (upd ((doesM zs zg zn R.2.1 (5 * k)).2.1) 11 (nI k)) 14 2) ((doesM zs zg zn R.2.1 (5 * k)).2.2.1) g hs ((doesM zs zg zn R.2.1 (5 * k)).1)).2.2.1), ((doesM zs zg zn R.2.1 (5 * k)).2.2.2), g, ((keptM (upd (upd ((doesM zs zg zn R.2.1 (5 * k)).2.1) 11 (nI k)) 14 2) ((doesM zs zg zn R.2.1 (5 * k)).2.2.1) g hs ((doesM zs zg zn R.2.1 (5 * k)).1)).2.2.2), R.2.1) : Int32 × (Nat → Int32) × (Nat → Int32) × (Nat → Int32) × (Nat → Int32) × (Nat → Int32) × (Nat → Int32)) := by
                                simp only [comM]
                                rw [← hRd]
                                rw [if_neg (fun z => z.elim (fun y => y c_41) (fun y => absurd y (Int32.not_lt.mpr c_105))), ← hS2]
                                rw [hD, show R.2.2 - k = (R.2.2 - (k + 1)) + 1 by omega]
                                simp only [doL]
                                rw [if_neg c_203]
                                rfl
                              refine fw_iret hx hb hr hlocks hR hS dX11_commands_178 ?_
                              rw [hr_254]
                              exact ⟨rfl, z_253, f_241, f_242, f_246, f_247, f_243, f_251, fr_252⟩
                      have f_255 : ω_137.2 (m + 1) = some (.inl (G.2.1 0, 324, .inl g)) := (fr_140 (m + 1) (by omega)).trans f_127
                      have f_256 : ω_1.2 (m + 7) = some (.inl (G.2.1 0, 6, .inl nd)) := (fr_4 (m + 7) (by omega)).trans m7
                      have f_257 : ω_6.2 (m + 7) = some (.inl (G.2.1 0, 6, .inl nd)) := (fr_9 (m + 7) (by omega)).trans f_256
                      have f_258 : τ1.2 (m + 7) = some (.inl (G.2.1 0, 6, .inl nd)) := (hfrτ1 (m + 7) (by omega) (by omega)).trans f_257
                      have f_259 : ω_21.2 (m + 7) = some (.inl (G.2.1 0, 6, .inl nd)) := (fr_24 (m + 7) (by omega) (by omega)).trans f_258
                      have f_260 : ω_30.2 (m + 7) = some (.inl (G.2.1 0, 6, .inl nd)) := (fr_33 (m + 7) (by omega)).trans f_259
                      have f_261 : ω_106.2 (m + 7) = some (.inl (G.2.1 0, 6, .inl nd)) := (fr_109 (m + 7) (by omega)).trans f_260
                      have f_262 : ω_111.2 (m + 7) = some (.inl (G.2.1 0, 6, .inl nd)) := (fr_114 (m + 7) (by omega)).trans f_261
                      have f_263 : ω_117.2 (m + 7) = some (.inl (G.2.1 0, 6, .inl nd)) := (fr_120 (m + 7) (by omega)).trans f_262
                      have f_264 : ω_137.2 (m + 7) = some (.inl (G.2.1 0, 6, .inl nd)) := (fr_140 (m + 7) (by omega)).trans f_263
                      exact loop_145 _ 0 S2 g nd ω_137 (Nat.lt_succ_self _) (by first | rfl | assumption | omega | (simp; done)) (by exact hZ) (by exact hS23) (by rfl) rfl f_143 f_255 f_264 (fun _ _ _ _ => rfl) _ _ _ hR hS (lv_sub hl [0, 2, 3] rfl)
                    · skip
                      exact absurd c_122 (by decide)
                  · skip
                    exact absurd c_116 (by decide)
                · skip
                  refine lv_iconst (v := 1) hx hb dX11_commands_90 (by decide) ?_
                  refine lv_goto (tgt := 95) hx hb dX11_commands_91 (by decide) ?_
                  refine fw_put (v := .int 1) (C := RX11) (T := TX11) (N := 19) hx hb hts hin11 tyX11 tyX11_ok nmX11 hown hK hR hS f_38 rfl 17 (by decide) (hts (.fieldLink RX11 195 "UnreadLeafletsModel" "isWrong" "Z") (by decide +kernel)) rfl rfl rfl (Nat.le_of_ble_eq_true rfl) dX11_commands_95 (fun H locs hR hS => ?_)
                  obtain ⟨ω_265, hw_266⟩ : ∃ τ : FWd, τ = (ω_30.1, va_up ω_30.2 m (some (.inr (13, [.ref (m + 1), .ref (m + 2), .ref (m + 3), .int ((upd R.1 17 1) 3), .ref (m + 4), .int ((upd R.1 17 1) 5), .ref (m + 5), .int ((upd R.1 17 1) 7), .int ((upd R.1 17 1) 8), .int ((upd R.1 17 1) 9), .int ((upd R.1 17 1) 10), .int ((upd R.1 17 1) 11), .ref (m + 6), .int ((upd R.1 17 1) 13), .int ((upd R.1 17 1) 14), .ref (m + 7), .int ((upd R.1 17 1) 16), .int ((upd R.1 17 1) 17), .ref (m + 8)])))) := ⟨_, rfl⟩
                  have hR : fR G ω_265 H := by rw [hw_266]; exact hR
                  have f_267 : ω_265.2 m = some (.inr (13, [.ref (m + 1), .ref (m + 2), .ref (m + 3), .int ((upd R.1 17 1) 3), .ref (m + 4), .int ((upd R.1 17 1) 5), .ref (m + 5), .int ((upd R.1 17 1) 7), .int ((upd R.1 17 1) 8), .int ((upd R.1 17 1) 9), .int ((upd R.1 17 1) 10), .int ((upd R.1 17 1) 11), .ref (m + 6), .int ((upd R.1 17 1) 13), .int ((upd R.1 17 1) 14), .ref (m + 7), .int ((upd R.1 17 1) 16), .int ((upd R.1 17 1) 17), .ref (m + 8)])) := by rw [hw_266]; exact va_up_at
                  have fr_268 : ∀ q : Nat, ¬ q = m → ω_265.2 q = ω_30.2 q := fun q hq => by rw [hw_266]; exact va_up_off hq
                  have z_269 : ω_265.1 = ω_30.1 := by rw [hw_266]
                  refine lv_aload_n hx hb dX11_commands_98 rfl (lv_at hl 2 rfl) ?_
                  refine lv_iconst (v := 0) hx hb dX11_commands_99 (by decide) ?_
                  refine fw_put (v := .int 0) (C := RX11) (T := TX11) (N := 19) hx hb hts hin11 tyX11 tyX11_ok nmX11 hown hK hR hS f_267 rfl 7 (by decide) (hts (.fieldLink RX11 189 "UnreadLeafletsModel" "typed" "I") (by decide +kernel)) rfl rfl rfl (Nat.le_of_ble_eq_true rfl) dX11_commands_100 (fun H locs hR hS => ?_)
                  obtain ⟨ω_270, hw_271⟩ : ∃ τ : FWd, τ = (ω_265.1, va_up ω_265.2 m (some (.inr (13, [.ref (m + 1), .ref (m + 2), .ref (m + 3), .int ((upd (upd R.1 17 1) 7 0) 3), .ref (m + 4), .int ((upd (upd R.1 17 1) 7 0) 5), .ref (m + 5), .int ((upd (upd R.1 17 1) 7 0) 7), .int ((upd (upd R.1 17 1) 7 0) 8), .int ((upd (upd R.1 17 1) 7 0) 9), .int ((upd (upd R.1 17 1) 7 0) 10), .int ((upd (upd R.1 17 1) 7 0) 11), .ref (m + 6), .int ((upd (upd R.1 17 1) 7 0) 13), .int ((upd (upd R.1 17 1) 7 0) 14), .ref (m + 7), .int ((upd (upd R.1 17 1) 7 0) 16), .int ((upd (upd R.1 17 1) 7 0) 17), .ref (m + 8)])))) := ⟨_, rfl⟩
                  have hR : fR G ω_270 H := by rw [hw_271]; exact hR
                  have f_272 : ω_270.2 m = some (.inr (13, [.ref (m + 1), .ref (m + 2), .ref (m + 3), .int ((upd (upd R.1 17 1) 7 0) 3), .ref (m + 4), .int ((upd (upd R.1 17 1) 7 0) 5), .ref (m + 5), .int ((upd (upd R.1 17 1) 7 0) 7), .int ((upd (upd R.1 17 1) 7 0) 8), .int ((upd (upd R.1 17 1) 7 0) 9), .int ((upd (upd R.1 17 1) 7 0) 10), .int ((upd (upd R.1 17 1) 7 0) 11), .ref (m + 6), .int ((upd (upd R.1 17 1) 7 0) 13), .int ((upd (upd R.1 17 1) 7 0) 14), .ref (m + 7), .int ((upd (upd R.1 17 1) 7 0) 16), .int ((upd (upd R.1 17 1) 7 0) 17), .ref (m + 8)])) := by rw [hw_271]; exact va_up_at
                  have fr_273 : ∀ q : Nat, ¬ q = m → ω_270.2 q = ω_265.2 q := fun q hq => by rw [hw_271]; exact va_up_off hq
                  have z_274 : ω_270.1 = ω_265.1 := by rw [hw_271]
                  refine lv_aload_n hx hb dX11_commands_103 rfl (lv_at hl 2 rfl) ?_
                  refine lv_aload_n hx hb dX11_commands_104 rfl (lv_at hl 2 rfl) ?_
                  refine fw_get (v := .int 1) (C := RX11) (T := TX11) (N := 19) hx hb hts hin11 hown hK hR f_272 rfl 17 (by decide) (hts (.fieldLink RX11 195 "UnreadLeafletsModel" "isWrong" "Z") (by decide +kernel)) rfl dX11_commands_105 ?_
                  refine lv_if_eq (tgt := 118) hx hb dX11_commands_108 (by decide) (fun c_275 => ?_) (fun c_275 => ?_)
                  · skip
                    exact absurd c_275 (by decide)
                  · skip
                    refine lv_aload_n hx hb dX11_commands_111 rfl (lv_at hl 2 rfl) ?_
                    refine fw_get (v := .int (R.1 16)) (C := RX11) (T := TX11) (N := 19) hx hb hts hin11 hown hK hR f_272 rfl 16 (by decide) (hts (.fieldLink RX11 192 "UnreadLeafletsModel" "spot" "I") (by decide +kernel)) rfl dX11_commands_112 ?_
                    refine lv_goto (tgt := 119) hx hb dX11_commands_115 (by decide) ?_
                    refine fw_put (v := .int (R.1 16)) (C := RX11) (T := TX11) (N := 19) hx hb hts hin11 tyX11 tyX11_ok nmX11 hown hK hR hS f_272 rfl 8 (by decide) (hts (.fieldLink RX11 26 "UnreadLeafletsModel" "faultAt" "I") (by decide +kernel)) rfl rfl rfl (Nat.le_of_ble_eq_true rfl) dX11_commands_119 (fun H locs hR hS => ?_)
                    obtain ⟨ω_276, hw_277⟩ : ∃ τ : FWd, τ = (ω_270.1, va_up ω_270.2 m (some (.inr (13, [.ref (m + 1), .ref (m + 2), .ref (m + 3), .int ((upd (upd (upd R.1 17 1) 7 0) 8 (R.1 16)) 3), .ref (m + 4), .int ((upd (upd (upd R.1 17 1) 7 0) 8 (R.1 16)) 5), .ref (m + 5), .int ((upd (upd (upd R.1 17 1) 7 0) 8 (R.1 16)) 7), .int ((upd (upd (upd R.1 17 1) 7 0) 8 (R.1 16)) 8), .int ((upd (upd (upd R.1 17 1) 7 0) 8 (R.1 16)) 9), .int ((upd (upd (upd R.1 17 1) 7 0) 8 (R.1 16)) 10), .int ((upd (upd (upd R.1 17 1) 7 0) 8 (R.1 16)) 11), .ref (m + 6), .int ((upd (upd (upd R.1 17 1) 7 0) 8 (R.1 16)) 13), .int ((upd (upd (upd R.1 17 1) 7 0) 8 (R.1 16)) 14), .ref (m + 7), .int ((upd (upd (upd R.1 17 1) 7 0) 8 (R.1 16)) 16), .int ((upd (upd (upd R.1 17 1) 7 0) 8 (R.1 16)) 17), .ref (m + 8)])))) := ⟨_, rfl⟩
                    have hR : fR G ω_276 H := by rw [hw_277]; exact hR
                    have f_278 : ω_276.2 m = some (.inr (13, [.ref (m + 1), .ref (m + 2), .ref (m + 3), .int ((upd (upd (upd R.1 17 1) 7 0) 8 (R.1 16)) 3), .ref (m + 4), .int ((upd (upd (upd R.1 17 1) 7 0) 8 (R.1 16)) 5), .ref (m + 5), .int ((upd (upd (upd R.1 17 1) 7 0) 8 (R.1 16)) 7), .int ((upd (upd (upd R.1 17 1) 7 0) 8 (R.1 16)) 8), .int ((upd (upd (upd R.1 17 1) 7 0) 8 (R.1 16)) 9), .int ((upd (upd (upd R.1 17 1) 7 0) 8 (R.1 16)) 10), .int ((upd (upd (upd R.1 17 1) 7 0) 8 (R.1 16)) 11), .ref (m + 6), .int ((upd (upd (upd R.1 17 1) 7 0) 8 (R.1 16)) 13), .int ((upd (upd (upd R.1 17 1) 7 0) 8 (R.1 16)) 14), .ref (m + 7), .int ((upd (upd (upd R.1 17 1) 7 0) 8 (R.1 16)) 16), .int ((upd (upd (upd R.1 17 1) 7 0) 8 (R.1 16)) 17), .ref (m + 8)])) := by rw [hw_277]; exact va_up_at
                    have fr_279 : ∀ q : Nat, ¬ q = m → ω_276.2 q = ω_270.2 q := fun q hq => by rw [hw_277]; exact va_up_off hq
                    have z_280 : ω_276.1 = ω_270.1 := by rw [hw_277]
                    refine lv_aload_n hx hb dX11_commands_122 rfl (lv_at hl 2 rfl) ?_
                    refine fw_get (v := .int 1) (C := RX11) (T := TX11) (N := 19) hx hb hts hin11 hown hK hR f_278 rfl 17 (by decide) (hts (.fieldLink RX11 195 "UnreadLeafletsModel" "isWrong" "Z") (by decide +kernel)) rfl dX11_commands_123 ?_
                    refine lv_if_eq (tgt := 135) hx hb dX11_commands_126 (by decide) (fun c_281 => ?_) (fun c_281 => ?_)
                    · skip
                      exact absurd c_281 (by decide)
                    · skip
                      refine lv_aload_n hx hb dX11_commands_129 rfl (lv_at hl 2 rfl) ?_
                      refine lv_iconst (v := 1) hx hb dX11_commands_130 (by decide) ?_
                      have f_282 : ω_21.2 (m + 1) = some (.inl (G.2.1 0, 324, .inl g)) := (fr_24 (m + 1) (by omega) (by omega)).trans f_16
                      have f_283 : ω_30.2 (m + 1) = some (.inl (G.2.1 0, 324, .inl g)) := (fr_33 (m + 1) (by omega)).trans f_282
                      have f_284 : ω_265.2 (m + 1) = some (.inl (G.2.1 0, 324, .inl g)) := (fr_268 (m + 1) (by omega)).trans f_283
                      have f_285 : ω_270.2 (m + 1) = some (.inl (G.2.1 0, 324, .inl g)) := (fr_273 (m + 1) (by omega)).trans f_284
                      have f_286 : ω_276.2 (m + 1) = some (.inl (G.2.1 0, 324, .inl g)) := (fr_279 (m + 1) (by omega)).trans f_285
                      refine fw_call (va_runV (As := [.int 1]) (rest := []) ⟨hx, hb, hml, hown, hts⟩ (c_X11_fails G hL l ω_276 m (upd (upd (upd R.1 17 1) 7 0) 8 (R.1 16)) g f_278 f_286 1) (cwV 1 hts gX11_commands_X11_fails rfl rfl rfl (by decide +kernel) ⟨Nat.le_of_ble_eq_true rfl, Nat.le_of_ble_eq_true rfl⟩) (fw_preV hW hK hR f_278 rfl) rfl rfl hl.1 rfl (lv_room (Nat.le_of_ble_eq_true rfl)) dX11_commands_131 ⟨Nat.le_of_ble_eq_true rfl, Nat.le_of_ble_eq_true rfl⟩) hS (fun v_287 ω_288 H locs hq_289 hR hS => ?_)
                      obtain ⟨rfl, z_290, f_292, fr_291⟩ := hq_289
                      refine W.eq (g2 := F0 mI 134 ls [.int 0]) rfl ?_
                      subst ex_27
                      have f_293 : ω_288.2 (m + 1) = some (.inl (G.2.1 0, 324, .inl g)) := (fr_291 (m + 1) (by omega)).trans f_286
                      have f_294 : ω_1.2 (m + 7) = some (.inl (G.2.1 0, 6, .inl nd)) := (fr_4 (m + 7) (by omega)).trans m7
                      have f_295 : ω_6.2 (m + 7) = some (.inl (G.2.1 0, 6, .inl nd)) := (fr_9 (m + 7) (by omega)).trans f_294
                      have f_296 : τ1.2 (m + 7) = some (.inl (G.2.1 0, 6, .inl nd)) := (hfrτ1 (m + 7) (by omega) (by omega)).trans f_295
                      have f_297 : ω_21.2 (m + 7) = some (.inl (G.2.1 0, 6, .inl nd)) := (fr_24 (m + 7) (by omega) (by omega)).trans f_296
                      have f_298 : ω_30.2 (m + 7) = some (.inl (G.2.1 0, 6, .inl nd)) := (fr_33 (m + 7) (by omega)).trans f_297
                      have f_299 : ω_265.2 (m + 7) = some (.inl (G.2.1 0, 6, .inl nd)) := (fr_268 (m + 7) (by omega)).trans f_298
                      have f_300 : ω_270.2 (m + 7) = some (.inl (G.2.1 0, 6, .inl nd)) := (fr_273 (m + 7) (by omega)).trans f_299
                      have f_301 : ω_276.2 (m + 7) = some (.inl (G.2.1 0, 6, .inl nd)) := (fr_279 (m + 7) (by omega)).trans f_300
                      have f_302 : ω_288.2 (m + 7) = some (.inl (G.2.1 0, 6, .inl nd)) := (fr_291 (m + 7) (by omega)).trans f_301
                      have f_303 : ω_1.2 (m + 2) = some (.inl (G.2.1 0, 324, .inl bf)) := (fr_4 (m + 2) (by omega)).trans m2
                      have f_304 : ω_6.2 (m + 2) = some (.inl (G.2.1 0, 324, .inl bf)) := (fr_9 (m + 2) (by omega)).trans f_303
                      have f_305 : τ1.2 (m + 2) = some (.inl (G.2.1 0, 324, .inl bf)) := (hfrτ1 (m + 2) (by omega) (by omega)).trans f_304
                      have f_306 : ω_21.2 (m + 2) = some (.inl (G.2.1 0, 324, .inl bf)) := (fr_24 (m + 2) (by omega) (by omega)).trans f_305
                      have f_307 : ω_30.2 (m + 2) = some (.inl (G.2.1 0, 324, .inl bf)) := (fr_33 (m + 2) (by omega)).trans f_306
                      have f_308 : ω_265.2 (m + 2) = some (.inl (G.2.1 0, 324, .inl bf)) := (fr_268 (m + 2) (by omega)).trans f_307
                      have f_309 : ω_270.2 (m + 2) = some (.inl (G.2.1 0, 324, .inl bf)) := (fr_273 (m + 2) (by omega)).trans f_308
                      have f_310 : ω_276.2 (m + 2) = some (.inl (G.2.1 0, 324, .inl bf)) := (fr_279 (m + 2) (by omega)).trans f_309
                      have f_311 : ω_288.2 (m + 2) = some (.inl (G.2.1 0, 324, .inl bf)) := (fr_291 (m + 2) (by omega)).trans f_310
                      have f_312 : ω_1.2 (m + 3) = some (.inl (G.2.1 0, 2592, .inl hs)) := (fr_4 (m + 3) (by omega)).trans m3
                      have f_313 : ω_6.2 (m + 3) = some (.inl (G.2.1 0, 2592, .inl hs)) := (fr_9 (m + 3) (by omega)).trans f_312
                      have f_314 : τ1.2 (m + 3) = some (.inl (G.2.1 0, 2592, .inl hs)) := (hfrτ1 (m + 3) (by omega) (by omega)).trans f_313
                      have f_315 : ω_21.2 (m + 3) = some (.inl (G.2.1 0, 2592, .inl hs)) := (fr_24 (m + 3) (by omega) (by omega)).trans f_314
                      have f_316 : ω_30.2 (m + 3) = some (.inl (G.2.1 0, 2592, .inl hs)) := (fr_33 (m + 3) (by omega)).trans f_315
                      have f_317 : ω_265.2 (m + 3) = some (.inl (G.2.1 0, 2592, .inl hs)) := (fr_268 (m + 3) (by omega)).trans f_316
                      have f_318 : ω_270.2 (m + 3) = some (.inl (G.2.1 0, 2592, .inl hs)) := (fr_273 (m + 3) (by omega)).trans f_317
                      have f_319 : ω_276.2 (m + 3) = some (.inl (G.2.1 0, 2592, .inl hs)) := (fr_279 (m + 3) (by omega)).trans f_318
                      have f_320 : ω_288.2 (m + 3) = some (.inl (G.2.1 0, 2592, .inl hs)) := (fr_291 (m + 3) (by omega)).trans f_319
                      have f_321 : ω_265.2 (m + 8) = some (.inl (G.2.1 0, 300, .inl R.2.1)) := (fr_268 (m + 8) (by omega)).trans f_39
                      have f_322 : ω_270.2 (m + 8) = some (.inl (G.2.1 0, 300, .inl R.2.1)) := (fr_273 (m + 8) (by omega)).trans f_321
                      have f_323 : ω_276.2 (m + 8) = some (.inl (G.2.1 0, 300, .inl R.2.1)) := (fr_279 (m + 8) (by omega)).trans f_322
                      have f_324 : ω_288.2 (m + 8) = some (.inl (G.2.1 0, 300, .inl R.2.1)) := (fr_291 (m + 8) (by omega)).trans f_323
                      have fr_325 : ∀ q : Nat, ¬ q = m → ¬ q = (m + 1) → ¬ q = (m + 7) → ¬ q = (m + 2) → ¬ q = (m + 3) → ¬ q = (m + 8) → ω_288.2 q = ω.2 q := by
                        intro q h0 h1 h2 h3 h4 h5
                        rw [fr_291 q (by omega)]
                        rw [fr_279 q (by omega)]
                        rw [fr_273 q (by omega)]
                        rw [fr_268 q (by omega)]
                        rw [fr_33 q (by omega)]
                        rw [fr_24 q (by omega) (by omega)]
                        rw [hfrτ1 q (by omega) (by omega)]
                        rw [fr_9 q (by omega)]
                        rw [fr_4 q (by omega)]
                      have z_326 : ω_288.1 = ω.1 := by rw [z_290, z_280, z_274, z_269, z_34, z_23, hzτ1, z_10, z_5]
                      have hr_327 : comM s g nd bf hs ip td = ((0, (upd (upd (upd (upd R.1 17 1) 7 0) 8 (R.1 16)) 14 1), g, nd, bf, hs, R.2.1) : Int32 × (Nat → Int32) × (Nat → Int32) × (Nat → Int32) × (Nat → Int32) × (Nat → Int32) × (Nat → Int32)) := by
                        simp only [comM]
                        rw [← hRd]
                        rw [if_pos (Or.inr (Int32.not_le.mp c_105))]
                      refine fw_iret hx hb hr hlocks hR hS dX11_commands_134 ?_
                      rw [hr_327]
                      exact ⟨rfl, z_326, f_292, f_293, f_302, f_311, f_320, f_324, fr_325⟩
            · skip
              exact absurd c_35 (by decide)
          · skip
            exact absurd c_29 (by decide)
        · skip
          refine lv_aload_n hx hb dX11_commands_35 rfl (lv_at hl 2 rfl) ?_
          have f_328 : ω_21.2 (m + 1) = some (.inl (G.2.1 0, 324, .inl g)) := (fr_24 (m + 1) (by omega) (by omega)).trans f_16
          have f_329 : ω_21.2 (m + 5) = some (.inl (G.2.1 1, 60, .inl ip)) := (fr_24 (m + 5) (by omega) (by omega)).trans f_19
          refine fw_call (va_runV (As := []) (rest := []) ⟨hx, hb, hml, hown, hts⟩ (c_X11_here G hL l ω_21 m ((ordM zz g ip tt (5 * n)).1) g f_25 f_328 ip f_329 (PK_le (ordM_pk (k := 5 * n) hzk (by omega)) (by omega))  ) (cwV 0 hts gX11_commands_X11_here rfl rfl rfl (by decide +kernel) ⟨Nat.le_of_ble_eq_true rfl, Nat.le_of_ble_eq_true rfl⟩) (fw_preV hW hK hR f_25 rfl) rfl rfl hl.1 rfl (lv_room (Nat.le_of_ble_eq_true rfl)) dX11_commands_36 ⟨Nat.le_of_ble_eq_true rfl, Nat.le_of_ble_eq_true rfl⟩) hS (fun v_330 ω_331 H locs hq_332 hR hS => ?_)
          obtain ⟨rfl, hq_332⟩ := hq_332
          rw [hq_332] at hR
          refine W.eq (g2 := F0 mI 39 ls [.int (hereM ((ordM zz g ip tt (5 * n)).1) g ip)]) rfl ?_
          refine lv_bipush (v := 59) hx hb dX11_commands_39 (by decide) ?_
          refine lv_icmp_ne (tgt := 48) hx hb dX11_commands_41 (by decide) (fun c_333 => ?_) (fun c_333 => ?_)
          · skip
            refine lv_iconst (v := 0) hx hb dX11_commands_48 (by decide) ?_
            refine lv_istore_n (lv' := [(2, .int 0), (1, .int x_27), (0, .ref m)]) hx hb dX11_commands_49 rfl hl (by decide) rfl (fun ls hl => ?_)
            refine lv_aload_n hx hb dX11_commands_50 rfl (lv_at hl 2 rfl) ?_
            refine lv_dup hx hb dX11_commands_51 rfl ?_
            refine fw_get (v := .int ((ordM zz g ip tt (5 * n)).1 16)) (C := RX11) (T := TX11) (N := 19) hx hb hts hin11 hown hK hR f_25 rfl 16 (by decide) (hts (.fieldLink RX11 192 "UnreadLeafletsModel" "spot" "I") (by decide +kernel)) rfl dX11_commands_52 ?_
            refine lv_iload_n hx hb dX11_commands_55 rfl (lv_at hl 0 rfl) ?_
            refine lv_if_eq (tgt := 63) hx hb dX11_commands_56 (by decide) (fun c_334 => ?_) (fun c_334 => ?_)
            · skip
              refine lv_iconst (v := 0) hx hb dX11_commands_63 (by decide) ?_
              refine lv_iadd hx hb dX11_commands_64 ?_
              refine fw_put (v := .int (((ordM zz g ip tt (5 * n)).1 16) + 0)) (C := RX11) (T := TX11) (N := 19) hx hb hts hin11 tyX11 tyX11_ok nmX11 hown hK hR hS f_25 rfl 16 (by decide) (hts (.fieldLink RX11 192 "UnreadLeafletsModel" "spot" "I") (by decide +kernel)) rfl rfl rfl (Nat.le_of_ble_eq_true rfl) dX11_commands_65 (fun H locs hR hS => ?_)
              obtain ⟨ω_335, hw_336⟩ : ∃ τ : FWd, τ = (ω_21.1, va_up ω_21.2 m (some (.inr (13, [.ref (m + 1), .ref (m + 2), .ref (m + 3), .int ((upd ((ordM zz g ip tt (5 * n)).1) 16 (((ordM zz g ip tt (5 * n)).1 16) + 0)) 3), .ref (m + 4), .int ((upd ((ordM zz g ip tt (5 * n)).1) 16 (((ordM zz g ip tt (5 * n)).1 16) + 0)) 5), .ref (m + 5), .int ((upd ((ordM zz g ip tt (5 * n)).1) 16 (((ordM zz g ip tt (5 * n)).1 16) + 0)) 7), .int ((upd ((ordM zz g ip tt (5 * n)).1) 16 (((ordM zz g ip tt (5 * n)).1 16) + 0)) 8), .int ((upd ((ordM zz g ip tt (5 * n)).1) 16 (((ordM zz g ip tt (5 * n)).1 16) + 0)) 9), .int ((upd ((ordM zz g ip tt (5 * n)).1) 16 (((ordM zz g ip tt (5 * n)).1 16) + 0)) 10), .int ((upd ((ordM zz g ip tt (5 * n)).1) 16 (((ordM zz g ip tt (5 * n)).1 16) + 0)) 11), .ref (m + 6), .int ((upd ((ordM zz g ip tt (5 * n)).1) 16 (((ordM zz g ip tt (5 * n)).1 16) + 0)) 13), .int ((upd ((ordM zz g ip tt (5 * n)).1) 16 (((ordM zz g ip tt (5 * n)).1 16) + 0)) 14), .ref (m + 7), .int ((upd ((ordM zz g ip tt (5 * n)).1) 16 (((ordM zz g ip tt (5 * n)).1 16) + 0)) 16), .int ((upd ((ordM zz g ip tt (5 * n)).1) 16 (((ordM zz g ip tt (5 * n)).1 16) + 0)) 17), .ref (m + 8)])))) := ⟨_, rfl⟩
              have hR : fR G ω_335 H := by rw [hw_336]; exact hR
              have f_337 : ω_335.2 m = some (.inr (13, [.ref (m + 1), .ref (m + 2), .ref (m + 3), .int ((upd ((ordM zz g ip tt (5 * n)).1) 16 (((ordM zz g ip tt (5 * n)).1 16) + 0)) 3), .ref (m + 4), .int ((upd ((ordM zz g ip tt (5 * n)).1) 16 (((ordM zz g ip tt (5 * n)).1 16) + 0)) 5), .ref (m + 5), .int ((upd ((ordM zz g ip tt (5 * n)).1) 16 (((ordM zz g ip tt (5 * n)).1 16) + 0)) 7), .int ((upd ((ordM zz g ip tt (5 * n)).1) 16 (((ordM zz g ip tt (5 * n)).1 16) + 0)) 8), .int ((upd ((ordM zz g ip tt (5 * n)).1) 16 (((ordM zz g ip tt (5 * n)).1 16) + 0)) 9), .int ((upd ((ordM zz g ip tt (5 * n)).1) 16 (((ordM zz g ip tt (5 * n)).1 16) + 0)) 10), .int ((upd ((ordM zz g ip tt (5 * n)).1) 16 (((ordM zz g ip tt (5 * n)).1 16) + 0)) 11), .ref (m + 6), .int ((upd ((ordM zz g ip tt (5 * n)).1) 16 (((ordM zz g ip tt (5 * n)).1 16) + 0)) 13), .int ((upd ((ordM zz g ip tt (5 * n)).1) 16 (((ordM zz g ip tt (5 * n)).1 16) + 0)) 14), .ref (m + 7), .int ((upd ((ordM zz g ip tt (5 * n)).1) 16 (((ordM zz g ip tt (5 * n)).1 16) + 0)) 16), .int ((upd ((ordM zz g ip tt (5 * n)).1) 16 (((ordM zz g ip tt (5 * n)).1 16) + 0)) 17), .ref (m + 8)])) := by rw [hw_336]; exact va_up_at
              have fr_338 : ∀ q : Nat, ¬ q = m → ω_335.2 q = ω_21.2 q := fun q hq => by rw [hw_336]; exact va_up_off hq
              have z_339 : ω_335.1 = ω_21.1 := by rw [hw_336]
              refine lv_goto (tgt := 14) hx hb dX11_commands_68 (by decide) ?_
              refine lv_iload_n hx hb dX11_commands_14 rfl (lv_at hl 0 rfl) ?_
              refine lv_if_eq (tgt := 71) hx hb dX11_commands_15 (by decide) (fun c_340 => ?_) (fun c_340 => ?_)
              · skip
                have f_341 : ω_335.2 (m + 8) = some (.inl (G.2.1 0, 300, .inl ((ordM zz g ip tt (5 * n)).2))) := (fr_338 (m + 8) (by omega)).trans f_26
                have hRx_342 : R = ((upd ((ordM zz g ip tt (5 * n)).1) 16 (((ordM zz g ip tt (5 * n)).1 16) + 0)), ((ordM zz g ip tt (5 * n)).2), n + 1) := by rw [hRz, show 21 - n = (21 - (n + 1)) + 1 by omega, rdL, if_neg (fun z => c_333 z.2)]
                have hR21 : R.2.2 ≤ 21 := by rw [hRx_342]; show n + 1 ≤ 21; omega
                have hRp : PK R.1 200 := by rw [hRx_342]; exact ⟨(ordM_pk (k := 5 * n) hzk (by omega)).1, okN_le (okN_p0 (ordM_pk (k := 5 * n) hzk (by omega)).2) (by omega)⟩
                have hR3 : R.1 3 = s 3 := by rw [hRx_342]; show (ordM zz g ip tt (5 * n)).1 3 = s 3; rw [ordM_3]; exact hz3
                have f_343 : ω_335.2 m = some (.inr (13, [.ref (m + 1), .ref (m + 2), .ref (m + 3), .int (R.1 3), .ref (m + 4), .int (R.1 5), .ref (m + 5), .int (R.1 7), .int (R.1 8), .int (R.1 9), .int (R.1 10), .int (R.1 11), .ref (m + 6), .int (R.1 13), .int (R.1 14), .ref (m + 7), .int (R.1 16), .int (R.1 17), .ref (m + 8)])) := by rw [hRx_342]; exact f_337
                have f_344 : ω_335.2 (m + 8) = some (.inl (G.2.1 0, 300, .inl R.2.1)) := by rw [hRx_342]; exact f_341
                have hx_345 : x_27 = nI R.2.2 := by rw [hRx_342, ex_27]; exact nI_1 n
                rw [hx_345] at hl
                refine lv_aload_n hx hb dX11_commands_71 rfl (lv_at hl 2 rfl) ?_
                refine lv_aload_n hx hb dX11_commands_72 rfl (lv_at hl 2 rfl) ?_
                refine fw_get (v := .int (R.1 17)) (C := RX11) (T := TX11) (N := 19) hx hb hts hin11 hown hK hR f_343 rfl 17 (by decide) (hts (.fieldLink RX11 195 "UnreadLeafletsModel" "isWrong" "Z") (by decide +kernel)) rfl dX11_commands_73 ?_
                refine lv_if_ne (tgt := 90) hx hb dX11_commands_76 (by decide) (fun c_346 => ?_) (fun c_346 => ?_)
                · skip
                  refine lv_iconst (v := 1) hx hb dX11_commands_90 (by decide) ?_
                  refine lv_goto (tgt := 95) hx hb dX11_commands_91 (by decide) ?_
                  refine fw_put (v := .int 1) (C := RX11) (T := TX11) (N := 19) hx hb hts hin11 tyX11 tyX11_ok nmX11 hown hK hR hS f_343 rfl 17 (by decide) (hts (.fieldLink RX11 195 "UnreadLeafletsModel" "isWrong" "Z") (by decide +kernel)) rfl rfl rfl (Nat.le_of_ble_eq_true rfl) dX11_commands_95 (fun H locs hR hS => ?_)
                  obtain ⟨ω_347, hw_348⟩ : ∃ τ : FWd, τ = (ω_335.1, va_up ω_335.2 m (some (.inr (13, [.ref (m + 1), .ref (m + 2), .ref (m + 3), .int ((upd R.1 17 1) 3), .ref (m + 4), .int ((upd R.1 17 1) 5), .ref (m + 5), .int ((upd R.1 17 1) 7), .int ((upd R.1 17 1) 8), .int ((upd R.1 17 1) 9), .int ((upd R.1 17 1) 10), .int ((upd R.1 17 1) 11), .ref (m + 6), .int ((upd R.1 17 1) 13), .int ((upd R.1 17 1) 14), .ref (m + 7), .int ((upd R.1 17 1) 16), .int ((upd R.1 17 1) 17), .ref (m + 8)])))) := ⟨_, rfl⟩
                  have hR : fR G ω_347 H := by rw [hw_348]; exact hR
                  have f_349 : ω_347.2 m = some (.inr (13, [.ref (m + 1), .ref (m + 2), .ref (m + 3), .int ((upd R.1 17 1) 3), .ref (m + 4), .int ((upd R.1 17 1) 5), .ref (m + 5), .int ((upd R.1 17 1) 7), .int ((upd R.1 17 1) 8), .int ((upd R.1 17 1) 9), .int ((upd R.1 17 1) 10), .int ((upd R.1 17 1) 11), .ref (m + 6), .int ((upd R.1 17 1) 13), .int ((upd R.1 17 1) 14), .ref (m + 7), .int ((upd R.1 17 1) 16), .int ((upd R.1 17 1) 17), .ref (m + 8)])) := by rw [hw_348]; exact va_up_at
                  have fr_350 : ∀ q : Nat, ¬ q = m → ω_347.2 q = ω_335.2 q := fun q hq => by rw [hw_348]; exact va_up_off hq
                  have z_351 : ω_347.1 = ω_335.1 := by rw [hw_348]
                  refine lv_aload_n hx hb dX11_commands_98 rfl (lv_at hl 2 rfl) ?_
                  refine lv_iconst (v := 0) hx hb dX11_commands_99 (by decide) ?_
                  refine fw_put (v := .int 0) (C := RX11) (T := TX11) (N := 19) hx hb hts hin11 tyX11 tyX11_ok nmX11 hown hK hR hS f_349 rfl 7 (by decide) (hts (.fieldLink RX11 189 "UnreadLeafletsModel" "typed" "I") (by decide +kernel)) rfl rfl rfl (Nat.le_of_ble_eq_true rfl) dX11_commands_100 (fun H locs hR hS => ?_)
                  obtain ⟨ω_352, hw_353⟩ : ∃ τ : FWd, τ = (ω_347.1, va_up ω_347.2 m (some (.inr (13, [.ref (m + 1), .ref (m + 2), .ref (m + 3), .int ((upd (upd R.1 17 1) 7 0) 3), .ref (m + 4), .int ((upd (upd R.1 17 1) 7 0) 5), .ref (m + 5), .int ((upd (upd R.1 17 1) 7 0) 7), .int ((upd (upd R.1 17 1) 7 0) 8), .int ((upd (upd R.1 17 1) 7 0) 9), .int ((upd (upd R.1 17 1) 7 0) 10), .int ((upd (upd R.1 17 1) 7 0) 11), .ref (m + 6), .int ((upd (upd R.1 17 1) 7 0) 13), .int ((upd (upd R.1 17 1) 7 0) 14), .ref (m + 7), .int ((upd (upd R.1 17 1) 7 0) 16), .int ((upd (upd R.1 17 1) 7 0) 17), .ref (m + 8)])))) := ⟨_, rfl⟩
                  have hR : fR G ω_352 H := by rw [hw_353]; exact hR
                  have f_354 : ω_352.2 m = some (.inr (13, [.ref (m + 1), .ref (m + 2), .ref (m + 3), .int ((upd (upd R.1 17 1) 7 0) 3), .ref (m + 4), .int ((upd (upd R.1 17 1) 7 0) 5), .ref (m + 5), .int ((upd (upd R.1 17 1) 7 0) 7), .int ((upd (upd R.1 17 1) 7 0) 8), .int ((upd (upd R.1 17 1) 7 0) 9), .int ((upd (upd R.1 17 1) 7 0) 10), .int ((upd (upd R.1 17 1) 7 0) 11), .ref (m + 6), .int ((upd (upd R.1 17 1) 7 0) 13), .int ((upd (upd R.1 17 1) 7 0) 14), .ref (m + 7), .int ((upd (upd R.1 17 1) 7 0) 16), .int ((upd (upd R.1 17 1) 7 0) 17), .ref (m + 8)])) := by rw [hw_353]; exact va_up_at
                  have fr_355 : ∀ q : Nat, ¬ q = m → ω_352.2 q = ω_347.2 q := fun q hq => by rw [hw_353]; exact va_up_off hq
                  have z_356 : ω_352.1 = ω_347.1 := by rw [hw_353]
                  refine lv_aload_n hx hb dX11_commands_103 rfl (lv_at hl 2 rfl) ?_
                  refine lv_aload_n hx hb dX11_commands_104 rfl (lv_at hl 2 rfl) ?_
                  refine fw_get (v := .int 1) (C := RX11) (T := TX11) (N := 19) hx hb hts hin11 hown hK hR f_354 rfl 17 (by decide) (hts (.fieldLink RX11 195 "UnreadLeafletsModel" "isWrong" "Z") (by decide +kernel)) rfl dX11_commands_105 ?_
                  refine lv_if_eq (tgt := 118) hx hb dX11_commands_108 (by decide) (fun c_357 => ?_) (fun c_357 => ?_)
                  · skip
                    exact absurd c_357 (by decide)
                  · skip
                    refine lv_aload_n hx hb dX11_commands_111 rfl (lv_at hl 2 rfl) ?_
                    refine fw_get (v := .int (R.1 16)) (C := RX11) (T := TX11) (N := 19) hx hb hts hin11 hown hK hR f_354 rfl 16 (by decide) (hts (.fieldLink RX11 192 "UnreadLeafletsModel" "spot" "I") (by decide +kernel)) rfl dX11_commands_112 ?_
                    refine lv_goto (tgt := 119) hx hb dX11_commands_115 (by decide) ?_
                    refine fw_put (v := .int (R.1 16)) (C := RX11) (T := TX11) (N := 19) hx hb hts hin11 tyX11 tyX11_ok nmX11 hown hK hR hS f_354 rfl 8 (by decide) (hts (.fieldLink RX11 26 "UnreadLeafletsModel" "faultAt" "I") (by decide +kernel)) rfl rfl rfl (Nat.le_of_ble_eq_true rfl) dX11_commands_119 (fun H locs hR hS => ?_)
                    obtain ⟨ω_358, hw_359⟩ : ∃ τ : FWd, τ = (ω_352.1, va_up ω_352.2 m (some (.inr (13, [.ref (m + 1), .ref (m + 2), .ref (m + 3), .int ((upd (upd (upd R.1 17 1) 7 0) 8 (R.1 16)) 3), .ref (m + 4), .int ((upd (upd (upd R.1 17 1) 7 0) 8 (R.1 16)) 5), .ref (m + 5), .int ((upd (upd (upd R.1 17 1) 7 0) 8 (R.1 16)) 7), .int ((upd (upd (upd R.1 17 1) 7 0) 8 (R.1 16)) 8), .int ((upd (upd (upd R.1 17 1) 7 0) 8 (R.1 16)) 9), .int ((upd (upd (upd R.1 17 1) 7 0) 8 (R.1 16)) 10), .int ((upd (upd (upd R.1 17 1) 7 0) 8 (R.1 16)) 11), .ref (m + 6), .int ((upd (upd (upd R.1 17 1) 7 0) 8 (R.1 16)) 13), .int ((upd (upd (upd R.1 17 1) 7 0) 8 (R.1 16)) 14), .ref (m + 7), .int ((upd (upd (upd R.1 17 1) 7 0) 8 (R.1 16)) 16), .int ((upd (upd (upd R.1 17 1) 7 0) 8 (R.1 16)) 17), .ref (m + 8)])))) := ⟨_, rfl⟩
                    have hR : fR G ω_358 H := by rw [hw_359]; exact hR
                    have f_360 : ω_358.2 m = some (.inr (13, [.ref (m + 1), .ref (m + 2), .ref (m + 3), .int ((upd (upd (upd R.1 17 1) 7 0) 8 (R.1 16)) 3), .ref (m + 4), .int ((upd (upd (upd R.1 17 1) 7 0) 8 (R.1 16)) 5), .ref (m + 5), .int ((upd (upd (upd R.1 17 1) 7 0) 8 (R.1 16)) 7), .int ((upd (upd (upd R.1 17 1) 7 0) 8 (R.1 16)) 8), .int ((upd (upd (upd R.1 17 1) 7 0) 8 (R.1 16)) 9), .int ((upd (upd (upd R.1 17 1) 7 0) 8 (R.1 16)) 10), .int ((upd (upd (upd R.1 17 1) 7 0) 8 (R.1 16)) 11), .ref (m + 6), .int ((upd (upd (upd R.1 17 1) 7 0) 8 (R.1 16)) 13), .int ((upd (upd (upd R.1 17 1) 7 0) 8 (R.1 16)) 14), .ref (m + 7), .int ((upd (upd (upd R.1 17 1) 7 0) 8 (R.1 16)) 16), .int ((upd (upd (upd R.1 17 1) 7 0) 8 (R.1 16)) 17), .ref (m + 8)])) := by rw [hw_359]; exact va_up_at
                    have fr_361 : ∀ q : Nat, ¬ q = m → ω_358.2 q = ω_352.2 q := fun q hq => by rw [hw_359]; exact va_up_off hq
                    have z_362 : ω_358.1 = ω_352.1 := by rw [hw_359]
                    refine lv_aload_n hx hb dX11_commands_122 rfl (lv_at hl 2 rfl) ?_
                    refine fw_get (v := .int 1) (C := RX11) (T := TX11) (N := 19) hx hb hts hin11 hown hK hR f_360 rfl 17 (by decide) (hts (.fieldLink RX11 195 "UnreadLeafletsModel" "isWrong" "Z") (by decide +kernel)) rfl dX11_commands_123 ?_
                    refine lv_if_eq (tgt := 135) hx hb dX11_commands_126 (by decide) (fun c_363 => ?_) (fun c_363 => ?_)
                    · skip
                      exact absurd c_363 (by decide)
                    · skip
                      refine lv_aload_n hx hb dX11_commands_129 rfl (lv_at hl 2 rfl) ?_
                      refine lv_iconst (v := 1) hx hb dX11_commands_130 (by decide) ?_
                      have f_364 : ω_335.2 (m + 1) = some (.inl (G.2.1 0, 324, .inl g)) := (fr_338 (m + 1) (by omega)).trans f_328
                      have f_365 : ω_347.2 (m + 1) = some (.inl (G.2.1 0, 324, .inl g)) := (fr_350 (m + 1) (by omega)).trans f_364
                      have f_366 : ω_352.2 (m + 1) = some (.inl (G.2.1 0, 324, .inl g)) := (fr_355 (m + 1) (by omega)).trans f_365
                      have f_367 : ω_358.2 (m + 1) = some (.inl (G.2.1 0, 324, .inl g)) := (fr_361 (m + 1) (by omega)).trans f_366
                      refine fw_call (va_runV (As := [.int 1]) (rest := []) ⟨hx, hb, hml, hown, hts⟩ (c_X11_fails G hL l ω_358 m (upd (upd (upd R.1 17 1) 7 0) 8 (R.1 16)) g f_360 f_367 1) (cwV 1 hts gX11_commands_X11_fails rfl rfl rfl (by decide +kernel) ⟨Nat.le_of_ble_eq_true rfl, Nat.le_of_ble_eq_true rfl⟩) (fw_preV hW hK hR f_360 rfl) rfl rfl hl.1 rfl (lv_room (Nat.le_of_ble_eq_true rfl)) dX11_commands_131 ⟨Nat.le_of_ble_eq_true rfl, Nat.le_of_ble_eq_true rfl⟩) hS (fun v_368 ω_369 H locs hq_370 hR hS => ?_)
                      obtain ⟨rfl, z_371, f_373, fr_372⟩ := hq_370
                      refine W.eq (g2 := F0 mI 134 ls [.int 0]) rfl ?_
                      subst ex_27
                      have f_374 : ω_369.2 (m + 1) = some (.inl (G.2.1 0, 324, .inl g)) := (fr_372 (m + 1) (by omega)).trans f_367
                      have f_375 : ω_1.2 (m + 7) = some (.inl (G.2.1 0, 6, .inl nd)) := (fr_4 (m + 7) (by omega)).trans m7
                      have f_376 : ω_6.2 (m + 7) = some (.inl (G.2.1 0, 6, .inl nd)) := (fr_9 (m + 7) (by omega)).trans f_375
                      have f_377 : τ1.2 (m + 7) = some (.inl (G.2.1 0, 6, .inl nd)) := (hfrτ1 (m + 7) (by omega) (by omega)).trans f_376
                      have f_378 : ω_21.2 (m + 7) = some (.inl (G.2.1 0, 6, .inl nd)) := (fr_24 (m + 7) (by omega) (by omega)).trans f_377
                      have f_379 : ω_335.2 (m + 7) = some (.inl (G.2.1 0, 6, .inl nd)) := (fr_338 (m + 7) (by omega)).trans f_378
                      have f_380 : ω_347.2 (m + 7) = some (.inl (G.2.1 0, 6, .inl nd)) := (fr_350 (m + 7) (by omega)).trans f_379
                      have f_381 : ω_352.2 (m + 7) = some (.inl (G.2.1 0, 6, .inl nd)) := (fr_355 (m + 7) (by omega)).trans f_380
                      have f_382 : ω_358.2 (m + 7) = some (.inl (G.2.1 0, 6, .inl nd)) := (fr_361 (m + 7) (by omega)).trans f_381
                      have f_383 : ω_369.2 (m + 7) = some (.inl (G.2.1 0, 6, .inl nd)) := (fr_372 (m + 7) (by omega)).trans f_382
                      have f_384 : ω_1.2 (m + 2) = some (.inl (G.2.1 0, 324, .inl bf)) := (fr_4 (m + 2) (by omega)).trans m2
                      have f_385 : ω_6.2 (m + 2) = some (.inl (G.2.1 0, 324, .inl bf)) := (fr_9 (m + 2) (by omega)).trans f_384
                      have f_386 : τ1.2 (m + 2) = some (.inl (G.2.1 0, 324, .inl bf)) := (hfrτ1 (m + 2) (by omega) (by omega)).trans f_385
                      have f_387 : ω_21.2 (m + 2) = some (.inl (G.2.1 0, 324, .inl bf)) := (fr_24 (m + 2) (by omega) (by omega)).trans f_386
                      have f_388 : ω_335.2 (m + 2) = some (.inl (G.2.1 0, 324, .inl bf)) := (fr_338 (m + 2) (by omega)).trans f_387
                      have f_389 : ω_347.2 (m + 2) = some (.inl (G.2.1 0, 324, .inl bf)) := (fr_350 (m + 2) (by omega)).trans f_388
                      have f_390 : ω_352.2 (m + 2) = some (.inl (G.2.1 0, 324, .inl bf)) := (fr_355 (m + 2) (by omega)).trans f_389
                      have f_391 : ω_358.2 (m + 2) = some (.inl (G.2.1 0, 324, .inl bf)) := (fr_361 (m + 2) (by omega)).trans f_390
                      have f_392 : ω_369.2 (m + 2) = some (.inl (G.2.1 0, 324, .inl bf)) := (fr_372 (m + 2) (by omega)).trans f_391
                      have f_393 : ω_1.2 (m + 3) = some (.inl (G.2.1 0, 2592, .inl hs)) := (fr_4 (m + 3) (by omega)).trans m3
                      have f_394 : ω_6.2 (m + 3) = some (.inl (G.2.1 0, 2592, .inl hs)) := (fr_9 (m + 3) (by omega)).trans f_393
                      have f_395 : τ1.2 (m + 3) = some (.inl (G.2.1 0, 2592, .inl hs)) := (hfrτ1 (m + 3) (by omega) (by omega)).trans f_394
                      have f_396 : ω_21.2 (m + 3) = some (.inl (G.2.1 0, 2592, .inl hs)) := (fr_24 (m + 3) (by omega) (by omega)).trans f_395
                      have f_397 : ω_335.2 (m + 3) = some (.inl (G.2.1 0, 2592, .inl hs)) := (fr_338 (m + 3) (by omega)).trans f_396
                      have f_398 : ω_347.2 (m + 3) = some (.inl (G.2.1 0, 2592, .inl hs)) := (fr_350 (m + 3) (by omega)).trans f_397
                      have f_399 : ω_352.2 (m + 3) = some (.inl (G.2.1 0, 2592, .inl hs)) := (fr_355 (m + 3) (by omega)).trans f_398
                      have f_400 : ω_358.2 (m + 3) = some (.inl (G.2.1 0, 2592, .inl hs)) := (fr_361 (m + 3) (by omega)).trans f_399
                      have f_401 : ω_369.2 (m + 3) = some (.inl (G.2.1 0, 2592, .inl hs)) := (fr_372 (m + 3) (by omega)).trans f_400
                      have f_402 : ω_347.2 (m + 8) = some (.inl (G.2.1 0, 300, .inl R.2.1)) := (fr_350 (m + 8) (by omega)).trans f_344
                      have f_403 : ω_352.2 (m + 8) = some (.inl (G.2.1 0, 300, .inl R.2.1)) := (fr_355 (m + 8) (by omega)).trans f_402
                      have f_404 : ω_358.2 (m + 8) = some (.inl (G.2.1 0, 300, .inl R.2.1)) := (fr_361 (m + 8) (by omega)).trans f_403
                      have f_405 : ω_369.2 (m + 8) = some (.inl (G.2.1 0, 300, .inl R.2.1)) := (fr_372 (m + 8) (by omega)).trans f_404
                      have fr_406 : ∀ q : Nat, ¬ q = m → ¬ q = (m + 1) → ¬ q = (m + 7) → ¬ q = (m + 2) → ¬ q = (m + 3) → ¬ q = (m + 8) → ω_369.2 q = ω.2 q := by
                        intro q h0 h1 h2 h3 h4 h5
                        rw [fr_372 q (by omega)]
                        rw [fr_361 q (by omega)]
                        rw [fr_355 q (by omega)]
                        rw [fr_350 q (by omega)]
                        rw [fr_338 q (by omega)]
                        rw [fr_24 q (by omega) (by omega)]
                        rw [hfrτ1 q (by omega) (by omega)]
                        rw [fr_9 q (by omega)]
                        rw [fr_4 q (by omega)]
                      have z_407 : ω_369.1 = ω.1 := by rw [z_371, z_362, z_356, z_351, z_339, z_23, hzτ1, z_10, z_5]
                      have hr_408 : comM s g nd bf hs ip td = ((0, (upd (upd (upd (upd R.1 17 1) 7 0) 8 (R.1 16)) 14 1), g, nd, bf, hs, R.2.1) : Int32 × (Nat → Int32) × (Nat → Int32) × (Nat → Int32) × (Nat → Int32) × (Nat → Int32) × (Nat → Int32)) := by
                        simp only [comM]
                        rw [← hRd]
                        rw [if_pos (Or.inl c_346)]
                      refine fw_iret hx hb hr hlocks hR hS dX11_commands_134 ?_
                      rw [hr_408]
                      exact ⟨rfl, z_407, f_373, f_374, f_383, f_392, f_401, f_405, fr_406⟩
                · skip
                  refine lv_aload_n hx hb dX11_commands_79 rfl (lv_at hl 2 rfl) ?_
                  refine fw_get (v := .int (R.1 16)) (C := RX11) (T := TX11) (N := 19) hx hb hts hin11 hown hK hR f_343 rfl 16 (by decide) (hts (.fieldLink RX11 192 "UnreadLeafletsModel" "spot" "I") (by decide +kernel)) rfl dX11_commands_80 ?_
                  refine lv_aload_n hx hb dX11_commands_83 rfl (lv_at hl 2 rfl) ?_
                  refine fw_get (v := .int (R.1 7)) (C := RX11) (T := TX11) (N := 19) hx hb hts hin11 hown hK hR f_343 rfl 7 (by decide) (hts (.fieldLink RX11 189 "UnreadLeafletsModel" "typed" "I") (by decide +kernel)) rfl dX11_commands_84 ?_
                  refine lv_icmp_ge (tgt := 94) hx hb dX11_commands_87 (by decide) (fun c_409 => ?_) (fun c_409 => ?_)
                  · skip
                    refine lv_iconst (v := 0) hx hb dX11_commands_94 (by decide) ?_
                    refine fw_put (v := .int 0) (C := RX11) (T := TX11) (N := 19) hx hb hts hin11 tyX11 tyX11_ok nmX11 hown hK hR hS f_343 rfl 17 (by decide) (hts (.fieldLink RX11 195 "UnreadLeafletsModel" "isWrong" "Z") (by decide +kernel)) rfl rfl rfl (Nat.le_of_ble_eq_true rfl) dX11_commands_95 (fun H locs hR hS => ?_)
                    obtain ⟨ω_410, hw_411⟩ : ∃ τ : FWd, τ = (ω_335.1, va_up ω_335.2 m (some (.inr (13, [.ref (m + 1), .ref (m + 2), .ref (m + 3), .int ((upd R.1 17 0) 3), .ref (m + 4), .int ((upd R.1 17 0) 5), .ref (m + 5), .int ((upd R.1 17 0) 7), .int ((upd R.1 17 0) 8), .int ((upd R.1 17 0) 9), .int ((upd R.1 17 0) 10), .int ((upd R.1 17 0) 11), .ref (m + 6), .int ((upd R.1 17 0) 13), .int ((upd R.1 17 0) 14), .ref (m + 7), .int ((upd R.1 17 0) 16), .int ((upd R.1 17 0) 17), .ref (m + 8)])))) := ⟨_, rfl⟩
                    have hR : fR G ω_410 H := by rw [hw_411]; exact hR
                    have f_412 : ω_410.2 m = some (.inr (13, [.ref (m + 1), .ref (m + 2), .ref (m + 3), .int ((upd R.1 17 0) 3), .ref (m + 4), .int ((upd R.1 17 0) 5), .ref (m + 5), .int ((upd R.1 17 0) 7), .int ((upd R.1 17 0) 8), .int ((upd R.1 17 0) 9), .int ((upd R.1 17 0) 10), .int ((upd R.1 17 0) 11), .ref (m + 6), .int ((upd R.1 17 0) 13), .int ((upd R.1 17 0) 14), .ref (m + 7), .int ((upd R.1 17 0) 16), .int ((upd R.1 17 0) 17), .ref (m + 8)])) := by rw [hw_411]; exact va_up_at
                    have fr_413 : ∀ q : Nat, ¬ q = m → ω_410.2 q = ω_335.2 q := fun q hq => by rw [hw_411]; exact va_up_off hq
                    have z_414 : ω_410.1 = ω_335.1 := by rw [hw_411]
                    refine lv_aload_n hx hb dX11_commands_98 rfl (lv_at hl 2 rfl) ?_
                    refine lv_iconst (v := 0) hx hb dX11_commands_99 (by decide) ?_
                    refine fw_put (v := .int 0) (C := RX11) (T := TX11) (N := 19) hx hb hts hin11 tyX11 tyX11_ok nmX11 hown hK hR hS f_412 rfl 7 (by decide) (hts (.fieldLink RX11 189 "UnreadLeafletsModel" "typed" "I") (by decide +kernel)) rfl rfl rfl (Nat.le_of_ble_eq_true rfl) dX11_commands_100 (fun H locs hR hS => ?_)
                    obtain ⟨ω_415, hw_416⟩ : ∃ τ : FWd, τ = (ω_410.1, va_up ω_410.2 m (some (.inr (13, [.ref (m + 1), .ref (m + 2), .ref (m + 3), .int ((upd (upd R.1 17 0) 7 0) 3), .ref (m + 4), .int ((upd (upd R.1 17 0) 7 0) 5), .ref (m + 5), .int ((upd (upd R.1 17 0) 7 0) 7), .int ((upd (upd R.1 17 0) 7 0) 8), .int ((upd (upd R.1 17 0) 7 0) 9), .int ((upd (upd R.1 17 0) 7 0) 10), .int ((upd (upd R.1 17 0) 7 0) 11), .ref (m + 6), .int ((upd (upd R.1 17 0) 7 0) 13), .int ((upd (upd R.1 17 0) 7 0) 14), .ref (m + 7), .int ((upd (upd R.1 17 0) 7 0) 16), .int ((upd (upd R.1 17 0) 7 0) 17), .ref (m + 8)])))) := ⟨_, rfl⟩
                    have hR : fR G ω_415 H := by rw [hw_416]; exact hR
                    have f_417 : ω_415.2 m = some (.inr (13, [.ref (m + 1), .ref (m + 2), .ref (m + 3), .int ((upd (upd R.1 17 0) 7 0) 3), .ref (m + 4), .int ((upd (upd R.1 17 0) 7 0) 5), .ref (m + 5), .int ((upd (upd R.1 17 0) 7 0) 7), .int ((upd (upd R.1 17 0) 7 0) 8), .int ((upd (upd R.1 17 0) 7 0) 9), .int ((upd (upd R.1 17 0) 7 0) 10), .int ((upd (upd R.1 17 0) 7 0) 11), .ref (m + 6), .int ((upd (upd R.1 17 0) 7 0) 13), .int ((upd (upd R.1 17 0) 7 0) 14), .ref (m + 7), .int ((upd (upd R.1 17 0) 7 0) 16), .int ((upd (upd R.1 17 0) 7 0) 17), .ref (m + 8)])) := by rw [hw_416]; exact va_up_at
                    have fr_418 : ∀ q : Nat, ¬ q = m → ω_415.2 q = ω_410.2 q := fun q hq => by rw [hw_416]; exact va_up_off hq
                    have z_419 : ω_415.1 = ω_410.1 := by rw [hw_416]
                    refine lv_aload_n hx hb dX11_commands_103 rfl (lv_at hl 2 rfl) ?_
                    refine lv_aload_n hx hb dX11_commands_104 rfl (lv_at hl 2 rfl) ?_
                    refine fw_get (v := .int 0) (C := RX11) (T := TX11) (N := 19) hx hb hts hin11 hown hK hR f_417 rfl 17 (by decide) (hts (.fieldLink RX11 195 "UnreadLeafletsModel" "isWrong" "Z") (by decide +kernel)) rfl dX11_commands_105 ?_
                    refine lv_if_eq (tgt := 118) hx hb dX11_commands_108 (by decide) (fun c_420 => ?_) (fun c_420 => ?_)
                    · skip
                      refine lv_iconst (v := (-1)) hx hb dX11_commands_118 (by decide) ?_
                      refine fw_put (v := .int (-1)) (C := RX11) (T := TX11) (N := 19) hx hb hts hin11 tyX11 tyX11_ok nmX11 hown hK hR hS f_417 rfl 8 (by decide) (hts (.fieldLink RX11 26 "UnreadLeafletsModel" "faultAt" "I") (by decide +kernel)) rfl rfl rfl (Nat.le_of_ble_eq_true rfl) dX11_commands_119 (fun H locs hR hS => ?_)
                      obtain ⟨ω_421, hw_422⟩ : ∃ τ : FWd, τ = (ω_415.1, va_up ω_415.2 m (some (.inr (13, [.ref (m + 1), .ref (m + 2), .ref (m + 3), .int ((upd (upd (upd R.1 17 0) 7 0) 8 (-1)) 3), .ref (m + 4), .int ((upd (upd (upd R.1 17 0) 7 0) 8 (-1)) 5), .ref (m + 5), .int ((upd (upd (upd R.1 17 0) 7 0) 8 (-1)) 7), .int ((upd (upd (upd R.1 17 0) 7 0) 8 (-1)) 8), .int ((upd (upd (upd R.1 17 0) 7 0) 8 (-1)) 9), .int ((upd (upd (upd R.1 17 0) 7 0) 8 (-1)) 10), .int ((upd (upd (upd R.1 17 0) 7 0) 8 (-1)) 11), .ref (m + 6), .int ((upd (upd (upd R.1 17 0) 7 0) 8 (-1)) 13), .int ((upd (upd (upd R.1 17 0) 7 0) 8 (-1)) 14), .ref (m + 7), .int ((upd (upd (upd R.1 17 0) 7 0) 8 (-1)) 16), .int ((upd (upd (upd R.1 17 0) 7 0) 8 (-1)) 17), .ref (m + 8)])))) := ⟨_, rfl⟩
                      have hR : fR G ω_421 H := by rw [hw_422]; exact hR
                      have f_423 : ω_421.2 m = some (.inr (13, [.ref (m + 1), .ref (m + 2), .ref (m + 3), .int ((upd (upd (upd R.1 17 0) 7 0) 8 (-1)) 3), .ref (m + 4), .int ((upd (upd (upd R.1 17 0) 7 0) 8 (-1)) 5), .ref (m + 5), .int ((upd (upd (upd R.1 17 0) 7 0) 8 (-1)) 7), .int ((upd (upd (upd R.1 17 0) 7 0) 8 (-1)) 8), .int ((upd (upd (upd R.1 17 0) 7 0) 8 (-1)) 9), .int ((upd (upd (upd R.1 17 0) 7 0) 8 (-1)) 10), .int ((upd (upd (upd R.1 17 0) 7 0) 8 (-1)) 11), .ref (m + 6), .int ((upd (upd (upd R.1 17 0) 7 0) 8 (-1)) 13), .int ((upd (upd (upd R.1 17 0) 7 0) 8 (-1)) 14), .ref (m + 7), .int ((upd (upd (upd R.1 17 0) 7 0) 8 (-1)) 16), .int ((upd (upd (upd R.1 17 0) 7 0) 8 (-1)) 17), .ref (m + 8)])) := by rw [hw_422]; exact va_up_at
                      have fr_424 : ∀ q : Nat, ¬ q = m → ω_421.2 q = ω_415.2 q := fun q hq => by rw [hw_422]; exact va_up_off hq
                      have z_425 : ω_421.1 = ω_415.1 := by rw [hw_422]
                      refine lv_aload_n hx hb dX11_commands_122 rfl (lv_at hl 2 rfl) ?_
                      refine fw_get (v := .int 0) (C := RX11) (T := TX11) (N := 19) hx hb hts hin11 hown hK hR f_423 rfl 17 (by decide) (hts (.fieldLink RX11 195 "UnreadLeafletsModel" "isWrong" "Z") (by decide +kernel)) rfl dX11_commands_123 ?_
                      refine lv_if_eq (tgt := 135) hx hb dX11_commands_126 (by decide) (fun c_426 => ?_) (fun c_426 => ?_)
                      · skip
                        refine lv_aload_n hx hb dX11_commands_135 rfl (lv_at hl 2 rfl) ?_
                        have f_427 : ω_335.2 (m + 1) = some (.inl (G.2.1 0, 324, .inl g)) := (fr_338 (m + 1) (by omega)).trans f_328
                        have f_428 : ω_410.2 (m + 1) = some (.inl (G.2.1 0, 324, .inl g)) := (fr_413 (m + 1) (by omega)).trans f_427
                        have f_429 : ω_415.2 (m + 1) = some (.inl (G.2.1 0, 324, .inl g)) := (fr_418 (m + 1) (by omega)).trans f_428
                        have f_430 : ω_421.2 (m + 1) = some (.inl (G.2.1 0, 324, .inl g)) := (fr_424 (m + 1) (by omega)).trans f_429
                        have f_431 : ω_1.2 (m + 2) = some (.inl (G.2.1 0, 324, .inl bf)) := (fr_4 (m + 2) (by omega)).trans m2
                        have f_432 : ω_6.2 (m + 2) = some (.inl (G.2.1 0, 324, .inl bf)) := (fr_9 (m + 2) (by omega)).trans f_431
                        have f_433 : τ1.2 (m + 2) = some (.inl (G.2.1 0, 324, .inl bf)) := (hfrτ1 (m + 2) (by omega) (by omega)).trans f_432
                        have f_434 : ω_21.2 (m + 2) = some (.inl (G.2.1 0, 324, .inl bf)) := (fr_24 (m + 2) (by omega) (by omega)).trans f_433
                        have f_435 : ω_335.2 (m + 2) = some (.inl (G.2.1 0, 324, .inl bf)) := (fr_338 (m + 2) (by omega)).trans f_434
                        have f_436 : ω_410.2 (m + 2) = some (.inl (G.2.1 0, 324, .inl bf)) := (fr_413 (m + 2) (by omega)).trans f_435
                        have f_437 : ω_415.2 (m + 2) = some (.inl (G.2.1 0, 324, .inl bf)) := (fr_418 (m + 2) (by omega)).trans f_436
                        have f_438 : ω_421.2 (m + 2) = some (.inl (G.2.1 0, 324, .inl bf)) := (fr_424 (m + 2) (by omega)).trans f_437
                        refine fw_call (va_runV (As := []) (rest := []) ⟨hx, hb, hml, hown, hts⟩ (c_X11_looksBack G hL l ω_421 m (upd (upd (upd R.1 17 0) 7 0) 8 (-1)) g f_423 f_430 bf f_438   ) (cwV 0 hts gX11_commands_X11_looksBack rfl rfl rfl (by decide +kernel) ⟨Nat.le_of_ble_eq_true rfl, Nat.le_of_ble_eq_true rfl⟩) (fw_preV hW hK hR f_423 rfl) rfl rfl hl.1 rfl (lv_room (Nat.le_of_ble_eq_true rfl)) dX11_commands_136 ⟨Nat.le_of_ble_eq_true rfl, Nat.le_of_ble_eq_true rfl⟩) hS (fun v_439 ω_440 H locs hq_441 hR hS => ?_)
                        obtain ⟨rfl, z_442, f_444, fr_443⟩ := hq_441
                        refine W.eq (g2 := F0 mI 139 ls []) rfl ?_
                        have f_445 : ω_440.2 m = some (.inr (13, [.ref (m + 1), .ref (m + 2), .ref (m + 3), .int ((upd (upd (upd R.1 17 0) 7 0) 8 (-1)) 3), .ref (m + 4), .int ((upd (upd (upd R.1 17 0) 7 0) 8 (-1)) 5), .ref (m + 5), .int ((upd (upd (upd R.1 17 0) 7 0) 8 (-1)) 7), .int ((upd (upd (upd R.1 17 0) 7 0) 8 (-1)) 8), .int ((upd (upd (upd R.1 17 0) 7 0) 8 (-1)) 9), .int ((upd (upd (upd R.1 17 0) 7 0) 8 (-1)) 10), .int ((upd (upd (upd R.1 17 0) 7 0) 8 (-1)) 11), .ref (m + 6), .int ((upd (upd (upd R.1 17 0) 7 0) 8 (-1)) 13), .int ((upd (upd (upd R.1 17 0) 7 0) 8 (-1)) 14), .ref (m + 7), .int ((upd (upd (upd R.1 17 0) 7 0) 8 (-1)) 16), .int ((upd (upd (upd R.1 17 0) 7 0) 8 (-1)) 17), .ref (m + 8)])) := (fr_443 m (by omega)).trans f_423
                        obtain ⟨S2, hS2⟩ : ∃ S2, S2 = (upd (upd (upd R.1 17 0) 7 0) 8 (-1)) := ⟨_, rfl⟩
                        have hS23 : S2 3 = s 3 := by rw [hS2]; exact hR3
                        have f_446 : ω_440.2 m = some (.inr (13, [.ref (m + 1), .ref (m + 2), .ref (m + 3), .int (S2 3), .ref (m + 4), .int (S2 5), .ref (m + 5), .int (S2 7), .int (S2 8), .int (S2 9), .int (S2 10), .int (S2 11), .ref (m + 6), .int (S2 13), .int (S2 14), .ref (m + 7), .int (S2 16), .int (S2 17), .ref (m + 8)])) := by rw [hS2]; exact f_445
                        have f_447 : ω_440.2 (m + 2) = some (.inl (G.2.1 0, 324, .inl g)) := f_444
                        refine lv_iconst (v := 0) hx hb dX11_commands_139 (by decide) ?_
                        refine lv_istore_n (lv' := [(3, .int 0), (2, .int 0), (1, .int (nI R.2.2)), (0, .ref m)]) hx hb dX11_commands_140 rfl hl (by decide) rfl (fun ls hl => ?_)
                        have loop_448 : ∀ (fu : Nat) (k : Nat) (zs : Nat → Int32) (zg : Nat → Int32) (zn : Nat → Int32) (τ2 : FWd), (R.2.2 - k) < fu → (k ≤ R.2.2) → (WFZ zg) → (zs 3 = s 3) → (doL R.2.1 R.2.2 0 (S2, g, nd) = doL R.2.1 (R.2.2 - k) k (zs, zg, zn)) → τ2.1 = ω_440.1 → τ2.2 m = some (.inr (13, [.ref (m + 1), .ref (m + 2), .ref (m + 3), .int (zs 3), .ref (m + 4), .int (zs 5), .ref (m + 5), .int (zs 7), .int (zs 8), .int (zs 9), .int (zs 10), .int (zs 11), .ref (m + 6), .int (zs 13), .int (zs 14), .ref (m + 7), .int (zs 16), .int (zs 17), .ref (m + 8)])) → τ2.2 (m + 1) = some (.inl (G.2.1 0, 324, .inl zg)) → τ2.2 (m + 7) = some (.inl (G.2.1 0, 6, .inl zn)) → (∀ q : Nat, ¬ q = m → ¬ q = (m + 1) → ¬ q = (m + 7) → τ2.2 q = ω_440.2 q) → ∀ (H : Heap) (locs : List Loc) (ls : Array Slot), fR G τ2 H → va_S (fwA G) sS.heap H locs → lv_has ls 5 [(3, .int (nI k)), (1, .int (nI R.2.2)), (0, .ref m)] → W pP l eE ({ frames := 6, cells := 0, slots := 0, locals := 144 } : Room) sS mI ar9 bl9 meth cD H locs 0 0 (MQ bl9 (fQ G (fun vv9 τ9 => vv9 = some (.int ((comM s g nd bf hs ip td).1)) ∧ τ9.1 = ω.1 ∧ τ9.2 m = some (.inr (13, [.ref (m + 1), .ref (m + 2), .ref (m + 3), .int (((comM s g nd bf hs ip td).2.1) 3), .ref (m + 4), .int (((comM s g nd bf hs ip td).2.1) 5), .ref (m + 5), .int (((comM s g nd bf hs ip td).2.1) 7), .int (((comM s g nd bf hs ip td).2.1) 8), .int (((comM s g nd bf hs ip td).2.1) 9), .int (((comM s g nd bf hs ip td).2.1) 10), .int (((comM s g nd bf hs ip td).2.1) 11), .ref (m + 6), .int (((comM s g nd bf hs ip td).2.1) 13), .int (((comM s g nd bf hs ip td).2.1) 14), .ref (m + 7), .int (((comM s g nd bf hs ip td).2.1) 16), .int (((comM s g nd bf hs ip td).2.1) 17), .ref (m + 8)])) ∧ τ9.2 (m + 1) = some (.inl (G.2.1 0, 324, .inl ((comM s g nd bf hs ip td).2.2.1))) ∧ τ9.2 (m + 7) = some (.inl (G.2.1 0, 6, .inl ((comM s g nd bf hs ip td).2.2.2.1))) ∧ τ9.2 (m + 2) = some (.inl (G.2.1 0, 324, .inl ((comM s g nd bf hs ip td).2.2.2.2.1))) ∧ τ9.2 (m + 3) = some (.inl (G.2.1 0, 2592, .inl ((comM s g nd bf hs ip td).2.2.2.2.2.1))) ∧ τ9.2 (m + 8) = some (.inl (G.2.1 0, 300, .inl ((comM s g nd bf hs ip td).2.2.2.2.2.2))) ∧ ∀ q : Nat, ¬ q = m → ¬ q = (m + 1) → ¬ q = (m + 7) → ¬ q = (m + 2) → ¬ q = (m + 3) → ¬ q = (m + 8) → τ9.2 q = ω.2 q)) ar9 sS 0 0 (fwA G)) (F0 mI 141 ls []) := by
                          intro fu
                          induction fu with
                          | zero => intro k zs zg zn τ2 hfu; exact absurd hfu (Nat.not_lt_zero _)
                          | succ fu ih =>
                            intro k zs zg zn τ2 hfu hk9 hzw hz4 hD hzτ2 v0 v1 v7 hfrτ2 H locs ls hR hS hl
                            refine lv_iload_n hx hb dX11_commands_141 rfl (lv_at hl 0 rfl) ?_
                            refine lv_iload_n hx hb dX11_commands_142 rfl (lv_at hl 1 rfl) ?_
                            refine lv_icmp_ge (tgt := 185) hx hb dX11_commands_143 (by decide) (fun c_449 => ?_) (fun c_449 => ?_)
                            · skip
                              have hk4 : k = R.2.2 := by have := lp_ge (n := R.2.2) rfl c_449 (by omega) (by omega); omega
                              refine lv_aload_n hx hb dX11_commands_185 rfl (lv_at hl 2 rfl) ?_
                              refine lv_aload_n hx hb dX11_commands_186 rfl (lv_at hl 2 rfl) ?_
                              refine lv_iload_n hx hb dX11_commands_187 rfl (lv_at hl 1 rfl) ?_
                              refine fw_call (va_runV (As := [.int (nI R.2.2)]) (rest := [.ref m]) ⟨hx, hb, hml, hown, hts⟩ (c_X11_done G hL l τ2 m zs zg v0 v1 (nI R.2.2)) (cwV 1 hts gX11_commands_X11_done rfl rfl rfl (by decide +kernel) ⟨Nat.le_of_ble_eq_true rfl, Nat.le_of_ble_eq_true rfl⟩) (fw_preV hW hK hR v0 rfl) rfl rfl hl.1 rfl (lv_room (Nat.le_of_ble_eq_true rfl)) dX11_commands_188 ⟨Nat.le_of_ble_eq_true rfl, Nat.le_of_ble_eq_true rfl⟩) hS (fun v_450 ω_451 H locs hq_452 hR hS => ?_)
                              obtain ⟨rfl, z_453, f_455, fr_454⟩ := hq_452
                              refine W.eq (g2 := F0 mI 191 ls [.int (nI R.2.2), .ref m]) rfl ?_
                              have f_456 : ω_451.2 (m + 1) = some (.inl (G.2.1 0, 324, .inl zg)) := (fr_454 (m + 1) (by omega)).trans v1
                              have f_457 : τ2.2 (m + 2) = some (.inl (G.2.1 0, 324, .inl g)) := (hfrτ2 (m + 2) (by omega) (by omega) (by omega)).trans f_447
                              have f_458 : ω_451.2 (m + 2) = some (.inl (G.2.1 0, 324, .inl g)) := (fr_454 (m + 2) (by omega)).trans f_457
                              have f_459 : ω_1.2 (m + 3) = some (.inl (G.2.1 0, 2592, .inl hs)) := (fr_4 (m + 3) (by omega)).trans m3
                              have f_460 : ω_6.2 (m + 3) = some (.inl (G.2.1 0, 2592, .inl hs)) := (fr_9 (m + 3) (by omega)).trans f_459
                              have f_461 : τ1.2 (m + 3) = some (.inl (G.2.1 0, 2592, .inl hs)) := (hfrτ1 (m + 3) (by omega) (by omega)).trans f_460
                              have f_462 : ω_21.2 (m + 3) = some (.inl (G.2.1 0, 2592, .inl hs)) := (fr_24 (m + 3) (by omega) (by omega)).trans f_461
                              have f_463 : ω_335.2 (m + 3) = some (.inl (G.2.1 0, 2592, .inl hs)) := (fr_338 (m + 3) (by omega)).trans f_462
                              have f_464 : ω_410.2 (m + 3) = some (.inl (G.2.1 0, 2592, .inl hs)) := (fr_413 (m + 3) (by omega)).trans f_463
                              have f_465 : ω_415.2 (m + 3) = some (.inl (G.2.1 0, 2592, .inl hs)) := (fr_418 (m + 3) (by omega)).trans f_464
                              have f_466 : ω_421.2 (m + 3) = some (.inl (G.2.1 0, 2592, .inl hs)) := (fr_424 (m + 3) (by omega)).trans f_465
                              have f_467 : ω_440.2 (m + 3) = some (.inl (G.2.1 0, 2592, .inl hs)) := (fr_443 (m + 3) (by omega)).trans f_466
                              have f_468 : τ2.2 (m + 3) = some (.inl (G.2.1 0, 2592, .inl hs)) := (hfrτ2 (m + 3) (by omega) (by omega) (by omega)).trans f_467
                              have f_469 : ω_451.2 (m + 3) = some (.inl (G.2.1 0, 2592, .inl hs)) := (fr_454 (m + 3) (by omega)).trans f_468
                              refine fw_call (va_runV (As := [.int (nI R.2.2)]) (rest := []) ⟨hx, hb, hml, hown, hts⟩ (c_X11_kept G hL l ω_451 m (upd zs 14 0) zg f_455 f_456 g f_458 hs f_469 (by show okN (zs 3) 8; first | (rw [hz4]; exact hk) | (rw [doesM_3, hz4]; exact hk)) (nI R.2.2) ) (cwV 1 hts gX11_commands_X11_kept rfl rfl rfl (by decide +kernel) ⟨Nat.le_of_ble_eq_true rfl, Nat.le_of_ble_eq_true rfl⟩) (fw_preV hW hK hR f_455 rfl) rfl rfl hl.1 rfl (lv_room (Nat.le_of_ble_eq_true rfl)) dX11_commands_191 ⟨Nat.le_of_ble_eq_true rfl, Nat.le_of_ble_eq_true rfl⟩) hS (fun v_470 ω_471 H locs hq_472 hR hS => ?_)
                              obtain ⟨rfl, z_473, f_475, f_476, f_477, fr_474⟩ := hq_472
                              refine W.eq (g2 := F0 mI 194 ls [.int ((keptM (upd zs 14 0) zg g hs (nI R.2.2)).1)]) rfl ?_
                              subst ex_27
                              have f_478 : ω_451.2 (m + 7) = some (.inl (G.2.1 0, 6, .inl zn)) := (fr_454 (m + 7) (by omega)).trans v7
                              have f_479 : ω_471.2 (m + 7) = some (.inl (G.2.1 0, 6, .inl zn)) := (fr_474 (m + 7) (by omega) (by omega) (by omega)).trans f_478
                              have f_480 : ω_471.2 (m + 2) = some (.inl (G.2.1 0, 324, .inl g)) := (fr_474 (m + 2) (by omega) (by omega) (by omega)).trans f_458
                              have f_481 : ω_410.2 (m + 8) = some (.inl (G.2.1 0, 300, .inl R.2.1)) := (fr_413 (m + 8) (by omega)).trans f_344
                              have f_482 : ω_415.2 (m + 8) = some (.inl (G.2.1 0, 300, .inl R.2.1)) := (fr_418 (m + 8) (by omega)).trans f_481
                              have f_483 : ω_421.2 (m + 8) = some (.inl (G.2.1 0, 300, .inl R.2.1)) := (fr_424 (m + 8) (by omega)).trans f_482
                              have f_484 : ω_440.2 (m + 8) = some (.inl (G.2.1 0, 300, .inl R.2.1)) := (fr_443 (m + 8) (by omega)).trans f_483
                              have f_485 : τ2.2 (m + 8) = some (.inl (G.2.1 0, 300, .inl R.2.1)) := (hfrτ2 (m + 8) (by omega) (by omega) (by omega)).trans f_484
                              have f_486 : ω_451.2 (m + 8) = some (.inl (G.2.1 0, 300, .inl R.2.1)) := (fr_454 (m + 8) (by omega)).trans f_485
                              have f_487 : ω_471.2 (m + 8) = some (.inl (G.2.1 0, 300, .inl R.2.1)) := (fr_474 (m + 8) (by omega) (by omega) (by omega)).trans f_486
                              have fr_488 : ∀ q : Nat, ¬ q = m → ¬ q = (m + 1) → ¬ q = (m + 7) → ¬ q = (m + 2) → ¬ q = (m + 3) → ¬ q = (m + 8) → ω_471.2 q = ω.2 q := by
                                intro q h0 h1 h2 h3 h4 h5
                                rw [fr_474 q (by omega) (by omega) (by omega)]
                                rw [fr_454 q (by omega)]
                                rw [hfrτ2 q (by omega) (by omega) (by omega)]
                                rw [fr_443 q (by omega)]
                                rw [fr_424 q (by omega)]
                                rw [fr_418 q (by omega)]
                                rw [fr_413 q (by omega)]
                                rw [fr_338 q (by omega)]
                                rw [fr_24 q (by omega) (by omega)]
                                rw [hfrτ1 q (by omega) (by omega)]
                                rw [fr_9 q (by omega)]
                                rw [fr_4 q (by omega)]
                              have z_489 : ω_471.1 = ω.1 := by rw [z_473, z_453, hzτ2, z_442, z_425, z_419, z_414, z_339, z_23, hzτ1, z_10, z_5]
                              have hr_490 : comM s g nd bf hs ip td = (((keptM (upd zs 14 0) zg g hs (nI R.2.2)).1, ((keptM (upd zs 14 0) zg g hs (nI R.2.2)).2.1), ((keptM (upd zs 14 0) zg g hs (nI R.2.2)).2.2.1), zn, g, ((keptM (upd zs 14 0) zg g hs (nI R.2.2)).2.2.2), R.2.1) : Int32 × (Nat → Int32) × (Nat → Int32) × (Nat → Int32) × (Nat → Int32) × (Nat → Int32) × (Nat → Int32)) := by
                                simp only [comM]
                                rw [← hRd]
                                rw [if_neg (fun z => z.elim (fun y => y c_346) (fun y => absurd y (Int32.not_lt.mpr c_409))), ← hS2]
                                rw [hD, hk4, Nat.sub_self]
                                rfl
                              refine fw_iret hx hb hr hlocks hR hS dX11_commands_194 ?_
                              rw [hr_490]
                              exact ⟨rfl, z_489, f_475, f_476, f_479, f_480, f_477, f_487, fr_488⟩
                            · skip
                              have hk3 : k < R.2.2 := lp_lt rfl c_449 (by omega) (by omega)
                              refine lv_aload_n hx hb dX11_commands_146 rfl (lv_at hl 2 rfl) ?_
                              refine lv_iconst (v := 5) hx hb dX11_commands_147 (by decide) ?_
                              refine lv_iload_n hx hb dX11_commands_148 rfl (lv_at hl 0 rfl) ?_
                              refine lv_imul hx hb dX11_commands_149 ?_
                              have hi_491 : 5 * (nI k) = nI (5 * k) := by
                                show (nI 5) * (nI k) = _
                                simp only [pk_mul, nI_add, Nat.add_assoc, hc, hd, hch]
                              refine W.eq (g2 := F0 mI 150 ls [.int (nI (5 * k)), .ref m]) (by rw [hi_491]) ?_
                              have f_492 : ω_410.2 (m + 8) = some (.inl (G.2.1 0, 300, .inl R.2.1)) := (fr_413 (m + 8) (by omega)).trans f_344
                              have f_493 : ω_415.2 (m + 8) = some (.inl (G.2.1 0, 300, .inl R.2.1)) := (fr_418 (m + 8) (by omega)).trans f_492
                              have f_494 : ω_421.2 (m + 8) = some (.inl (G.2.1 0, 300, .inl R.2.1)) := (fr_424 (m + 8) (by omega)).trans f_493
                              have f_495 : ω_440.2 (m + 8) = some (.inl (G.2.1 0, 300, .inl R.2.1)) := (fr_443 (m + 8) (by omega)).trans f_494
                              have f_496 : τ2.2 (m + 8) = some (.inl (G.2.1 0, 300, .inl R.2.1)) := (hfrτ2 (m + 8) (by omega) (by omega) (by omega)).trans f_495
                              refine fw_call (va_runV (As := [.int (nI (5 * k))]) (rest := []) ⟨hx, hb, hml, hown, hts⟩ (c_X11_does G hL l τ2 m zs zg v0 v1 zn v7 R.2.1 f_496 hzw.1 (5 * k) (by omega)) (cwV 1 hts gX11_commands_X11_does rfl rfl rfl (by decide +kernel) ⟨Nat.le_of_ble_eq_true rfl, Nat.le_of_ble_eq_true rfl⟩) (fw_preV hW hK hR v0 rfl) rfl rfl hl.1 rfl (lv_room (Nat.le_of_ble_eq_true rfl)) dX11_commands_150 ⟨Nat.le_of_ble_eq_true rfl, Nat.le_of_ble_eq_true rfl⟩) hS (fun v_497 ω_498 H locs hq_499 hR hS => ?_)
                              obtain ⟨rfl, z_500, f_502, f_503, f_504, fr_501⟩ := hq_499
                              refine W.eq (g2 := F0 mI 153 ls [.int ((doesM zs zg zn R.2.1 (5 * k)).1)]) rfl ?_
                              refine lv_topi (fun x_505 ex_505 => ?_)
                              refine lv_istore (lv' := [(4, .int x_505), (3, .int (nI k)), (1, .int (nI R.2.2)), (0, .ref m)]) hx hb dX11_commands_153 hl (by decide) rfl (fun ls hl => ?_)
                              refine lv_aload_n hx hb dX11_commands_155 rfl (lv_at hl 3 rfl) ?_
                              refine fw_get (v := .int ((doesM zs zg zn R.2.1 (5 * k)).2.1 14)) (C := RX11) (T := TX11) (N := 19) hx hb hts hin11 hown hK hR f_502 rfl 14 (by decide) (hts (.fieldLink RX11 39 "UnreadLeafletsModel" "thrown" "I") (by decide +kernel)) rfl dX11_commands_156 ?_
                              refine lv_if_eq (tgt := 179) hx hb dX11_commands_159 (by decide) (fun c_506 => ?_) (fun c_506 => ?_)
                              · skip
                                obtain ⟨x_507, ex_507⟩ : ∃ y : Int32, y = (nI k) + 1 := ⟨_, rfl⟩
                                refine lv_iinc (v := x_507) (lv' := [(3, .int x_507), (4, .int x_505), (1, .int (nI R.2.2)), (0, .ref m)]) hx hb dX11_commands_179 hl (k := 1) rfl (by rw [ex_507]; rfl) (by decide) rfl (fun ls hl => ?_)
                                refine lv_goto (tgt := 141) hx hb dX11_commands_182 (by decide) ?_
                                have el_3 : x_507 = nI (k + 1) := by rw [ex_507]; exact nI_1 k
                                have hl := lv_sub (l' := [(3, .int x_507), (1, .int (nI R.2.2)), (0, .ref m)]) hl [0, 2, 3] rfl
                                rw [el_3] at hl
                                have fr_508 : ∀ q : Nat, ¬ q = m → ¬ q = (m + 1) → ¬ q = (m + 7) → ω_498.2 q = ω_440.2 q := by
                                  intro q h0 h1 h2
                                  rw [fr_501 q (by omega) (by omega) (by omega)]
                                  rw [hfrτ2 q (by omega) (by omega) (by omega)]
                                have z_509 : ω_498.1 = ω_440.1 := by rw [z_500, hzτ2]
                                exact ih (k + 1) ((doesM zs zg zn R.2.1 (5 * k)).2.1) ((doesM zs zg zn R.2.1 (5 * k)).2.2.1) ((doesM zs zg zn R.2.1 (5 * k)).2.2.2) ω_498 (by omega) (by omega) (by exact doesM_wf hzw) (by rw [doesM_3]; exact hz4) (by rw [hD, show R.2.2 - k = (R.2.2 - (k + 1)) + 1 by omega]; simp only [doL]; rw [if_pos c_506]) z_509 f_502 f_503 f_504 fr_508 _ _ _ hR hS hl
                              · skip
                                refine lv_aload_n hx hb dX11_commands_162 rfl (lv_at hl 3 rfl) ?_
                                refine lv_iload_n hx hb dX11_commands_163 rfl (lv_at hl 1 rfl) ?_
                                refine fw_put (v := .int (nI k)) (C := RX11) (T := TX11) (N := 19) hx hb hts hin11 tyX11 tyX11_ok nmX11 hown hK hR hS f_502 rfl 11 (by decide) (hts (.fieldLink RX11 48 "UnreadLeafletsModel" "whyOrder" "I") (by decide +kernel)) rfl rfl rfl (Nat.le_of_ble_eq_true rfl) dX11_commands_164 (fun H locs hR hS => ?_)
                                obtain ⟨ω_510, hw_511⟩ : ∃ τ : FWd, τ = (ω_498.1, va_up ω_498.2 m (some (.inr (13, [.ref (m + 1), .ref (m + 2), .ref (m + 3), .int ((upd ((doesM zs zg zn R.2.1 (5 * k)).2.1) 11 (nI k)) 3), .ref (m + 4), .int ((upd ((doesM zs zg zn R.2.1 (5 * k)).2.1) 11 (nI k)) 5), .ref (m + 5), .int ((upd ((doesM zs zg zn R.2.1 (5 * k)).2.1) 11 (nI k)) 7), .int ((upd ((doesM zs zg zn R.2.1 (5 * k)).2.1) 11 (nI k)) 8), .int ((upd ((doesM zs zg zn R.2.1 (5 * k)).2.1) 11 (nI k)) 9), .int ((upd ((doesM zs zg zn R.2.1 (5 * k)).2.1) 11 (nI k)) 10), .int ((upd ((doesM zs zg zn R.2.1 (5 * k)).2.1) 11 (nI k)) 11), .ref (m + 6), .int ((upd ((doesM zs zg zn R.2.1 (5 * k)).2.1) 11 (nI k)) 13), .int ((upd ((doesM zs zg zn R.2.1 (5 * k)).2.1) 11 (nI k)) 14), .ref (m + 7), .int ((upd ((doesM zs zg zn R.2.1 (5 * k)).2.1) 11 (nI k)) 16), .int ((upd ((doesM zs zg zn R.2.1 (5 * k)).2.1) 11 (nI k)) 17), .ref (m + 8)])))) := ⟨_, rfl⟩
                                have hR : fR G ω_510 H := by rw [hw_511]; exact hR
                                have f_512 : ω_510.2 m = some (.inr (13, [.ref (m + 1), .ref (m + 2), .ref (m + 3), .int ((upd ((doesM zs zg zn R.2.1 (5 * k)).2.1) 11 (nI k)) 3), .ref (m + 4), .int ((upd ((doesM zs zg zn R.2.1 (5 * k)).2.1) 11 (nI k)) 5), .ref (m + 5), .int ((upd ((doesM zs zg zn R.2.1 (5 * k)).2.1) 11 (nI k)) 7), .int ((upd ((doesM zs zg zn R.2.1 (5 * k)).2.1) 11 (nI k)) 8), .int ((upd ((doesM zs zg zn R.2.1 (5 * k)).2.1) 11 (nI k)) 9), .int ((upd ((doesM zs zg zn R.2.1 (5 * k)).2.1) 11 (nI k)) 10), .int ((upd ((doesM zs zg zn R.2.1 (5 * k)).2.1) 11 (nI k)) 11), .ref (m + 6), .int ((upd ((doesM zs zg zn R.2.1 (5 * k)).2.1) 11 (nI k)) 13), .int ((upd ((doesM zs zg zn R.2.1 (5 * k)).2.1) 11 (nI k)) 14), .ref (m + 7), .int ((upd ((doesM zs zg zn R.2.1 (5 * k)).2.1) 11 (nI k)) 16), .int ((upd ((doesM zs zg zn R.2.1 (5 * k)).2.1) 11 (nI k)) 17), .ref (m + 8)])) := by rw [hw_511]; exact va_up_at
                                have fr_513 : ∀ q : Nat, ¬ q = m → ω_510.2 q = ω_498.2 q := fun q hq => by rw [hw_511]; exact va_up_off hq
                                have z_514 : ω_510.1 = ω_498.1 := by rw [hw_511]
                                refine lv_aload_n hx hb dX11_commands_167 rfl (lv_at hl 3 rfl) ?_
                                refine lv_iconst (v := 2) hx hb dX11_commands_168 (by decide) ?_
                                refine fw_put (v := .int 2) (C := RX11) (T := TX11) (N := 19) hx hb hts hin11 tyX11 tyX11_ok nmX11 hown hK hR hS f_512 rfl 14 (by decide) (hts (.fieldLink RX11 39 "UnreadLeafletsModel" "thrown" "I") (by decide +kernel)) rfl rfl rfl (Nat.le_of_ble_eq_true rfl) dX11_commands_169 (fun H locs hR hS => ?_)
                                obtain ⟨ω_515, hw_516⟩ : ∃ τ : FWd, τ = (ω_510.1, va_up ω_510.2 m (some (.inr (13, [.ref (m + 1), .ref (m + 2), .ref (m + 3), .int ((upd (upd ((doesM zs zg zn R.2.1 (5 * k)).2.1) 11 (nI k)) 14 2) 3), .ref (m + 4), .int ((upd (upd ((doesM zs zg zn R.2.1 (5 * k)).2.1) 11 (nI k)) 14 2) 5), .ref (m + 5), .int ((upd (upd ((doesM zs zg zn R.2.1 (5 * k)).2.1) 11 (nI k)) 14 2) 7), .int ((upd (upd ((doesM zs zg zn R.2.1 (5 * k)).2.1) 11 (nI k)) 14 2) 8), .int ((upd (upd ((doesM zs zg zn R.2.1 (5 * k)).2.1) 11 (nI k)) 14 2) 9), .int ((upd (upd ((doesM zs zg zn R.2.1 (5 * k)).2.1) 11 (nI k)) 14 2) 10), .int ((upd (upd ((doesM zs zg zn R.2.1 (5 * k)).2.1) 11 (nI k)) 14 2) 11), .ref (m + 6), .int ((upd (upd ((doesM zs zg zn R.2.1 (5 * k)).2.1) 11 (nI k)) 14 2) 13), .int ((upd (upd ((doesM zs zg zn R.2.1 (5 * k)).2.1) 11 (nI k)) 14 2) 14), .ref (m + 7), .int ((upd (upd ((doesM zs zg zn R.2.1 (5 * k)).2.1) 11 (nI k)) 14 2) 16), .int ((upd (upd ((doesM zs zg zn R.2.1 (5 * k)).2.1) 11 (nI k)) 14 2) 17), .ref (m + 8)])))) := ⟨_, rfl⟩
                                have hR : fR G ω_515 H := by rw [hw_516]; exact hR
                                have f_517 : ω_515.2 m = some (.inr (13, [.ref (m + 1), .ref (m + 2), .ref (m + 3), .int ((upd (upd ((doesM zs zg zn R.2.1 (5 * k)).2.1) 11 (nI k)) 14 2) 3), .ref (m + 4), .int ((upd (upd ((doesM zs zg zn R.2.1 (5 * k)).2.1) 11 (nI k)) 14 2) 5), .ref (m + 5), .int ((upd (upd ((doesM zs zg zn R.2.1 (5 * k)).2.1) 11 (nI k)) 14 2) 7), .int ((upd (upd ((doesM zs zg zn R.2.1 (5 * k)).2.1) 11 (nI k)) 14 2) 8), .int ((upd (upd ((doesM zs zg zn R.2.1 (5 * k)).2.1) 11 (nI k)) 14 2) 9), .int ((upd (upd ((doesM zs zg zn R.2.1 (5 * k)).2.1) 11 (nI k)) 14 2) 10), .int ((upd (upd ((doesM zs zg zn R.2.1 (5 * k)).2.1) 11 (nI k)) 14 2) 11), .ref (m + 6), .int ((upd (upd ((doesM zs zg zn R.2.1 (5 * k)).2.1) 11 (nI k)) 14 2) 13), .int ((upd (upd ((doesM zs zg zn R.2.1 (5 * k)).2.1) 11 (nI k)) 14 2) 14), .ref (m + 7), .int ((upd (upd ((doesM zs zg zn R.2.1 (5 * k)).2.1) 11 (nI k)) 14 2) 16), .int ((upd (upd ((doesM zs zg zn R.2.1 (5 * k)).2.1) 11 (nI k)) 14 2) 17), .ref (m + 8)])) := by rw [hw_516]; exact va_up_at
                                have fr_518 : ∀ q : Nat, ¬ q = m → ω_515.2 q = ω_510.2 q := fun q hq => by rw [hw_516]; exact va_up_off hq
                                have z_519 : ω_515.1 = ω_510.1 := by rw [hw_516]
                                refine lv_aload_n hx hb dX11_commands_172 rfl (lv_at hl 3 rfl) ?_
                                refine lv_iload hx hb dX11_commands_173 (lv_at hl 0 rfl) ?_
                                have f_520 : ω_510.2 (m + 1) = some (.inl (G.2.1 0, 324, .inl ((doesM zs zg zn R.2.1 (5 * k)).2.2.1))) := (fr_513 (m + 1) (by omega)).trans f_503
                                have f_521 : ω_515.2 (m + 1) = some (.inl (G.2.1 0, 324, .inl ((doesM zs zg zn R.2.1 (5 * k)).2.2.1))) := (fr_518 (m + 1) (by omega)).trans f_520
                                have f_522 : τ2.2 (m + 2) = some (.inl (G.2.1 0, 324, .inl g)) := (hfrτ2 (m + 2) (by omega) (by omega) (by omega)).trans f_447
                                have f_523 : ω_498.2 (m + 2) = some (.inl (G.2.1 0, 324, .inl g)) := (fr_501 (m + 2) (by omega) (by omega) (by omega)).trans f_522
                                have f_524 : ω_510.2 (m + 2) = some (.inl (G.2.1 0, 324, .inl g)) := (fr_513 (m + 2) (by omega)).trans f_523
                                have f_525 : ω_515.2 (m + 2) = some (.inl (G.2.1 0, 324, .inl g)) := (fr_518 (m + 2) (by omega)).trans f_524
                                have f_526 : ω_1.2 (m + 3) = some (.inl (G.2.1 0, 2592, .inl hs)) := (fr_4 (m + 3) (by omega)).trans m3
                                have f_527 : ω_6.2 (m + 3) = some (.inl (G.2.1 0, 2592, .inl hs)) := (fr_9 (m + 3) (by omega)).trans f_526
                                have f_528 : τ1.2 (m + 3) = some (.inl (G.2.1 0, 2592, .inl hs)) := (hfrτ1 (m + 3) (by omega) (by omega)).trans f_527
                                have f_529 : ω_21.2 (m + 3) = some (.inl (G.2.1 0, 2592, .inl hs)) := (fr_24 (m + 3) (by omega) (by omega)).trans f_528
                                have f_530 : ω_335.2 (m + 3) = some (.inl (G.2.1 0, 2592, .inl hs)) := (fr_338 (m + 3) (by omega)).trans f_529
                                have f_531 : ω_410.2 (m + 3) = some (.inl (G.2.1 0, 2592, .inl hs)) := (fr_413 (m + 3) (by omega)).trans f_530
                                have f_532 : ω_415.2 (m + 3) = some (.inl (G.2.1 0, 2592, .inl hs)) := (fr_418 (m + 3) (by omega)).trans f_531
                                have f_533 : ω_421.2 (m + 3) = some (.inl (G.2.1 0, 2592, .inl hs)) := (fr_424 (m + 3) (by omega)).trans f_532
                                have f_534 : ω_440.2 (m + 3) = some (.inl (G.2.1 0, 2592, .inl hs)) := (fr_443 (m + 3) (by omega)).trans f_533
                                have f_535 : τ2.2 (m + 3) = some (.inl (G.2.1 0, 2592, .inl hs)) := (hfrτ2 (m + 3) (by omega) (by omega) (by omega)).trans f_534
                                have f_536 : ω_498.2 (m + 3) = some (.inl (G.2.1 0, 2592, .inl hs)) := (fr_501 (m + 3) (by omega) (by omega) (by omega)).trans f_535
                                have f_537 : ω_510.2 (m + 3) = some (.inl (G.2.1 0, 2592, .inl hs)) := (fr_513 (m + 3) (by omega)).trans f_536
                                have f_538 : ω_515.2 (m + 3) = some (.inl (G.2.1 0, 2592, .inl hs)) := (fr_518 (m + 3) (by omega)).trans f_537
                                refine fw_call (va_runV (As := [.int x_505]) (rest := []) ⟨hx, hb, hml, hown, hts⟩ (c_X11_kept G hL l ω_515 m (upd (upd ((doesM zs zg zn R.2.1 (5 * k)).2.1) 11 (nI k)) 14 2) ((doesM zs zg zn R.2.1 (5 * k)).2.2.1) f_517 f_521 g f_525 hs f_538 (by show okN ((doesM zs zg zn R.2.1 (5 * k)).2.1 3) 8; first | (rw [hz4]; exact hk) | (rw [doesM_3, hz4]; exact hk)) x_505 ) (cwV 1 hts gX11_commands_X11_kept rfl rfl rfl (by decide +kernel) ⟨Nat.le_of_ble_eq_true rfl, Nat.le_of_ble_eq_true rfl⟩) (fw_preV hW hK hR f_517 rfl) rfl rfl hl.1 rfl (lv_room (Nat.le_of_ble_eq_true rfl)) dX11_commands_175 ⟨Nat.le_of_ble_eq_true rfl, Nat.le_of_ble_eq_true rfl⟩) hS (fun v_539 ω_540 H locs hq_541 hR hS => ?_)
                                obtain ⟨rfl, z_542, f_544, f_545, f_546, fr_543⟩ := hq_541
                                refine W.eq (g2 := F0 mI 178 ls [.int ((keptM (upd (upd ((doesM zs zg zn R.2.1 (5 * k)).2.1) 11 (nI k)) 14 2) ((doesM zs zg zn R.2.1 (5 * k)).2.2.1) g hs x_505).1)]) rfl ?_
                                subst ex_505 ex_27
                                have f_547 : ω_510.2 (m + 7) = some (.inl (G.2.1 0, 6, .inl ((doesM zs zg zn R.2.1 (5 * k)).2.2.2))) := (fr_513 (m + 7) (by omega)).trans f_504
                                have f_548 : ω_515.2 (m + 7) = some (.inl (G.2.1 0, 6, .inl ((doesM zs zg zn R.2.1 (5 * k)).2.2.2))) := (fr_518 (m + 7) (by omega)).trans f_547
                                have f_549 : ω_540.2 (m + 7) = some (.inl (G.2.1 0, 6, .inl ((doesM zs zg zn R.2.1 (5 * k)).2.2.2))) := (fr_543 (m + 7) (by omega) (by omega) (by omega)).trans f_548
                                have f_550 : ω_540.2 (m + 2) = some (.inl (G.2.1 0, 324, .inl g)) := (fr_543 (m + 2) (by omega) (by omega) (by omega)).trans f_525
                                have f_551 : ω_498.2 (m + 8) = some (.inl (G.2.1 0, 300, .inl R.2.1)) := (fr_501 (m + 8) (by omega) (by omega) (by omega)).trans f_496
                                have f_552 : ω_510.2 (m + 8) = some (.inl (G.2.1 0, 300, .inl R.2.1)) := (fr_513 (m + 8) (by omega)).trans f_551
                                have f_553 : ω_515.2 (m + 8) = some (.inl (G.2.1 0, 300, .inl R.2.1)) := (fr_518 (m + 8) (by omega)).trans f_552
                                have f_554 : ω_540.2 (m + 8) = some (.inl (G.2.1 0, 300, .inl R.2.1)) := (fr_543 (m + 8) (by omega) (by omega) (by omega)).trans f_553
                                have fr_555 : ∀ q : Nat, ¬ q = m → ¬ q = (m + 1) → ¬ q = (m + 7) → ¬ q = (m + 2) → ¬ q = (m + 3) → ¬ q = (m + 8) → ω_540.2 q = ω.2 q := by
                                  intro q h0 h1 h2 h3 h4 h5
                                  rw [fr_543 q (by omega) (by omega) (by omega)]
                                  rw [fr_518 q (by omega)]
                                  rw [fr_513 q (by omega)]
                                  rw [fr_501 q (by omega) (by omega) (by omega)]
                                  rw [hfrτ2 q (by omega) (by omega) (by omega)]
                                  rw [fr_443 q (by omega)]
                                  rw [fr_424 q (by omega)]
                                  rw [fr_418 q (by omega)]
                                  rw [fr_413 q (by omega)]
                                  rw [fr_338 q (by omega)]
                                  rw [fr_24 q (by omega) (by omega)]
                                  rw [hfrτ1 q (by omega) (by omega)]
                                  rw [fr_9 q (by omega)]
                                  rw [fr_4 q (by omega)]
                                have z_556 : ω_540.1 = ω.1 := by rw [z_542, z_519, z_514, z_500, hzτ2, z_442, z_425, z_419, z_414, z_339, z_23, hzτ1, z_10, z_5]
                                have hr_557 : comM s g nd bf hs ip td = (((keptM (upd (upd ((doesM zs zg zn R.2.1 (5 * k)).2.1) 11 (nI k)) 14 2) ((doesM zs zg zn R.2.1 (5 * k)).2.2.1) g hs ((doesM zs zg zn R.2.1 (5 * k)).1)).1, ((keptM (upd (upd ((doesM zs zg zn R.2.1 (5 * k)).2.1) 11 (nI k)) 14 2) ((doesM zs zg zn R.2.1 (5 * k)).2.2.1) g hs ((doesM zs zg zn R.2.1 (5 * k)).1)).2.1), ((keptM (upd (upd ((doesM zs zg zn R.2.1 (5 * k)).2.1) 11 (nI k)) 14 2) ((doesM zs zg zn R.2.1 (5 * k)).2.2.1) g hs ((doesM zs zg zn R.2.1 (5 * k)).1)).2.2.1), ((doesM zs zg zn R.2.1 (5 * k)).2.2.2), g, ((keptM (upd (upd ((doesM zs zg zn R.2.1 (5 * k)).2.1) 11 (nI k)) 14 2) ((doesM zs zg zn R.2.1 (5 * k)).2.2.1) g hs ((doesM zs zg zn R.2.1 (5 * k)).1)).2.2.2), R.2.1) : Int32 × (Nat → Int32) × (Nat → Int32) × (Nat → Int32) × (Nat → Int32) × (Nat → Int32) × (Nat → Int32)) := by
                                  simp only [comM]
                                  rw [← hRd]
                                  rw [if_neg (fun z => z.elim (fun y => y c_346) (fun y => absurd y (Int32.not_lt.mpr c_409))), ← hS2]
                                  rw [hD, show R.2.2 - k = (R.2.2 - (k + 1)) + 1 by omega]
                                  simp only [doL]
                                  rw [if_neg c_506]
                                  rfl
                                refine fw_iret hx hb hr hlocks hR hS dX11_commands_178 ?_
                                rw [hr_557]
                                exact ⟨rfl, z_556, f_544, f_545, f_549, f_550, f_546, f_554, fr_555⟩
                        have f_558 : ω_440.2 (m + 1) = some (.inl (G.2.1 0, 324, .inl g)) := (fr_443 (m + 1) (by omega)).trans f_430
                        have f_559 : ω_1.2 (m + 7) = some (.inl (G.2.1 0, 6, .inl nd)) := (fr_4 (m + 7) (by omega)).trans m7
                        have f_560 : ω_6.2 (m + 7) = some (.inl (G.2.1 0, 6, .inl nd)) := (fr_9 (m + 7) (by omega)).trans f_559
                        have f_561 : τ1.2 (m + 7) = some (.inl (G.2.1 0, 6, .inl nd)) := (hfrτ1 (m + 7) (by omega) (by omega)).trans f_560
                        have f_562 : ω_21.2 (m + 7) = some (.inl (G.2.1 0, 6, .inl nd)) := (fr_24 (m + 7) (by omega) (by omega)).trans f_561
                        have f_563 : ω_335.2 (m + 7) = some (.inl (G.2.1 0, 6, .inl nd)) := (fr_338 (m + 7) (by omega)).trans f_562
                        have f_564 : ω_410.2 (m + 7) = some (.inl (G.2.1 0, 6, .inl nd)) := (fr_413 (m + 7) (by omega)).trans f_563
                        have f_565 : ω_415.2 (m + 7) = some (.inl (G.2.1 0, 6, .inl nd)) := (fr_418 (m + 7) (by omega)).trans f_564
                        have f_566 : ω_421.2 (m + 7) = some (.inl (G.2.1 0, 6, .inl nd)) := (fr_424 (m + 7) (by omega)).trans f_565
                        have f_567 : ω_440.2 (m + 7) = some (.inl (G.2.1 0, 6, .inl nd)) := (fr_443 (m + 7) (by omega)).trans f_566
                        exact loop_448 _ 0 S2 g nd ω_440 (Nat.lt_succ_self _) (by first | rfl | assumption | omega | (simp; done)) (by exact hZ) (by exact hS23) (by rfl) rfl f_446 f_558 f_567 (fun _ _ _ _ => rfl) _ _ _ hR hS (lv_sub hl [0, 2, 3] rfl)
                      · skip
                        exact absurd c_426 (by decide)
                    · skip
                      exact absurd c_420 (by decide)
                  · skip
                    refine lv_iconst (v := 1) hx hb dX11_commands_90 (by decide) ?_
                    refine lv_goto (tgt := 95) hx hb dX11_commands_91 (by decide) ?_
                    refine fw_put (v := .int 1) (C := RX11) (T := TX11) (N := 19) hx hb hts hin11 tyX11 tyX11_ok nmX11 hown hK hR hS f_343 rfl 17 (by decide) (hts (.fieldLink RX11 195 "UnreadLeafletsModel" "isWrong" "Z") (by decide +kernel)) rfl rfl rfl (Nat.le_of_ble_eq_true rfl) dX11_commands_95 (fun H locs hR hS => ?_)
                    obtain ⟨ω_568, hw_569⟩ : ∃ τ : FWd, τ = (ω_335.1, va_up ω_335.2 m (some (.inr (13, [.ref (m + 1), .ref (m + 2), .ref (m + 3), .int ((upd R.1 17 1) 3), .ref (m + 4), .int ((upd R.1 17 1) 5), .ref (m + 5), .int ((upd R.1 17 1) 7), .int ((upd R.1 17 1) 8), .int ((upd R.1 17 1) 9), .int ((upd R.1 17 1) 10), .int ((upd R.1 17 1) 11), .ref (m + 6), .int ((upd R.1 17 1) 13), .int ((upd R.1 17 1) 14), .ref (m + 7), .int ((upd R.1 17 1) 16), .int ((upd R.1 17 1) 17), .ref (m + 8)])))) := ⟨_, rfl⟩
                    have hR : fR G ω_568 H := by rw [hw_569]; exact hR
                    have f_570 : ω_568.2 m = some (.inr (13, [.ref (m + 1), .ref (m + 2), .ref (m + 3), .int ((upd R.1 17 1) 3), .ref (m + 4), .int ((upd R.1 17 1) 5), .ref (m + 5), .int ((upd R.1 17 1) 7), .int ((upd R.1 17 1) 8), .int ((upd R.1 17 1) 9), .int ((upd R.1 17 1) 10), .int ((upd R.1 17 1) 11), .ref (m + 6), .int ((upd R.1 17 1) 13), .int ((upd R.1 17 1) 14), .ref (m + 7), .int ((upd R.1 17 1) 16), .int ((upd R.1 17 1) 17), .ref (m + 8)])) := by rw [hw_569]; exact va_up_at
                    have fr_571 : ∀ q : Nat, ¬ q = m → ω_568.2 q = ω_335.2 q := fun q hq => by rw [hw_569]; exact va_up_off hq
                    have z_572 : ω_568.1 = ω_335.1 := by rw [hw_569]
                    refine lv_aload_n hx hb dX11_commands_98 rfl (lv_at hl 2 rfl) ?_
                    refine lv_iconst (v := 0) hx hb dX11_commands_99 (by decide) ?_
                    refine fw_put (v := .int 0) (C := RX11) (T := TX11) (N := 19) hx hb hts hin11 tyX11 tyX11_ok nmX11 hown hK hR hS f_570 rfl 7 (by decide) (hts (.fieldLink RX11 189 "UnreadLeafletsModel" "typed" "I") (by decide +kernel)) rfl rfl rfl (Nat.le_of_ble_eq_true rfl) dX11_commands_100 (fun H locs hR hS => ?_)
                    obtain ⟨ω_573, hw_574⟩ : ∃ τ : FWd, τ = (ω_568.1, va_up ω_568.2 m (some (.inr (13, [.ref (m + 1), .ref (m + 2), .ref (m + 3), .int ((upd (upd R.1 17 1) 7 0) 3), .ref (m + 4), .int ((upd (upd R.1 17 1) 7 0) 5), .ref (m + 5), .int ((upd (upd R.1 17 1) 7 0) 7), .int ((upd (upd R.1 17 1) 7 0) 8), .int ((upd (upd R.1 17 1) 7 0) 9), .int ((upd (upd R.1 17 1) 7 0) 10), .int ((upd (upd R.1 17 1) 7 0) 11), .ref (m + 6), .int ((upd (upd R.1 17 1) 7 0) 13), .int ((upd (upd R.1 17 1) 7 0) 14), .ref (m + 7), .int ((upd (upd R.1 17 1) 7 0) 16), .int ((upd (upd R.1 17 1) 7 0) 17), .ref (m + 8)])))) := ⟨_, rfl⟩
                    have hR : fR G ω_573 H := by rw [hw_574]; exact hR
                    have f_575 : ω_573.2 m = some (.inr (13, [.ref (m + 1), .ref (m + 2), .ref (m + 3), .int ((upd (upd R.1 17 1) 7 0) 3), .ref (m + 4), .int ((upd (upd R.1 17 1) 7 0) 5), .ref (m + 5), .int ((upd (upd R.1 17 1) 7 0) 7), .int ((upd (upd R.1 17 1) 7 0) 8), .int ((upd (upd R.1 17 1) 7 0) 9), .int ((upd (upd R.1 17 1) 7 0) 10), .int ((upd (upd R.1 17 1) 7 0) 11), .ref (m + 6), .int ((upd (upd R.1 17 1) 7 0) 13), .int ((upd (upd R.1 17 1) 7 0) 14), .ref (m + 7), .int ((upd (upd R.1 17 1) 7 0) 16), .int ((upd (upd R.1 17 1) 7 0) 17), .ref (m + 8)])) := by rw [hw_574]; exact va_up_at
                    have fr_576 : ∀ q : Nat, ¬ q = m → ω_573.2 q = ω_568.2 q := fun q hq => by rw [hw_574]; exact va_up_off hq
                    have z_577 : ω_573.1 = ω_568.1 := by rw [hw_574]
                    refine lv_aload_n hx hb dX11_commands_103 rfl (lv_at hl 2 rfl) ?_
                    refine lv_aload_n hx hb dX11_commands_104 rfl (lv_at hl 2 rfl) ?_
                    refine fw_get (v := .int 1) (C := RX11) (T := TX11) (N := 19) hx hb hts hin11 hown hK hR f_575 rfl 17 (by decide) (hts (.fieldLink RX11 195 "UnreadLeafletsModel" "isWrong" "Z") (by decide +kernel)) rfl dX11_commands_105 ?_
                    refine lv_if_eq (tgt := 118) hx hb dX11_commands_108 (by decide) (fun c_578 => ?_) (fun c_578 => ?_)
                    · skip
                      exact absurd c_578 (by decide)
                    · skip
                      refine lv_aload_n hx hb dX11_commands_111 rfl (lv_at hl 2 rfl) ?_
                      refine fw_get (v := .int (R.1 16)) (C := RX11) (T := TX11) (N := 19) hx hb hts hin11 hown hK hR f_575 rfl 16 (by decide) (hts (.fieldLink RX11 192 "UnreadLeafletsModel" "spot" "I") (by decide +kernel)) rfl dX11_commands_112 ?_
                      refine lv_goto (tgt := 119) hx hb dX11_commands_115 (by decide) ?_
                      refine fw_put (v := .int (R.1 16)) (C := RX11) (T := TX11) (N := 19) hx hb hts hin11 tyX11 tyX11_ok nmX11 hown hK hR hS f_575 rfl 8 (by decide) (hts (.fieldLink RX11 26 "UnreadLeafletsModel" "faultAt" "I") (by decide +kernel)) rfl rfl rfl (Nat.le_of_ble_eq_true rfl) dX11_commands_119 (fun H locs hR hS => ?_)
                      obtain ⟨ω_579, hw_580⟩ : ∃ τ : FWd, τ = (ω_573.1, va_up ω_573.2 m (some (.inr (13, [.ref (m + 1), .ref (m + 2), .ref (m + 3), .int ((upd (upd (upd R.1 17 1) 7 0) 8 (R.1 16)) 3), .ref (m + 4), .int ((upd (upd (upd R.1 17 1) 7 0) 8 (R.1 16)) 5), .ref (m + 5), .int ((upd (upd (upd R.1 17 1) 7 0) 8 (R.1 16)) 7), .int ((upd (upd (upd R.1 17 1) 7 0) 8 (R.1 16)) 8), .int ((upd (upd (upd R.1 17 1) 7 0) 8 (R.1 16)) 9), .int ((upd (upd (upd R.1 17 1) 7 0) 8 (R.1 16)) 10), .int ((upd (upd (upd R.1 17 1) 7 0) 8 (R.1 16)) 11), .ref (m + 6), .int ((upd (upd (upd R.1 17 1) 7 0) 8 (R.1 16)) 13), .int ((upd (upd (upd R.1 17 1) 7 0) 8 (R.1 16)) 14), .ref (m + 7), .int ((upd (upd (upd R.1 17 1) 7 0) 8 (R.1 16)) 16), .int ((upd (upd (upd R.1 17 1) 7 0) 8 (R.1 16)) 17), .ref (m + 8)])))) := ⟨_, rfl⟩
                      have hR : fR G ω_579 H := by rw [hw_580]; exact hR
                      have f_581 : ω_579.2 m = some (.inr (13, [.ref (m + 1), .ref (m + 2), .ref (m + 3), .int ((upd (upd (upd R.1 17 1) 7 0) 8 (R.1 16)) 3), .ref (m + 4), .int ((upd (upd (upd R.1 17 1) 7 0) 8 (R.1 16)) 5), .ref (m + 5), .int ((upd (upd (upd R.1 17 1) 7 0) 8 (R.1 16)) 7), .int ((upd (upd (upd R.1 17 1) 7 0) 8 (R.1 16)) 8), .int ((upd (upd (upd R.1 17 1) 7 0) 8 (R.1 16)) 9), .int ((upd (upd (upd R.1 17 1) 7 0) 8 (R.1 16)) 10), .int ((upd (upd (upd R.1 17 1) 7 0) 8 (R.1 16)) 11), .ref (m + 6), .int ((upd (upd (upd R.1 17 1) 7 0) 8 (R.1 16)) 13), .int ((upd (upd (upd R.1 17 1) 7 0) 8 (R.1 16)) 14), .ref (m + 7), .int ((upd (upd (upd R.1 17 1) 7 0) 8 (R.1 16)) 16), .int ((upd (upd (upd R.1 17 1) 7 0) 8 (R.1 16)) 17), .ref (m + 8)])) := by rw [hw_580]; exact va_up_at
                      have fr_582 : ∀ q : Nat, ¬ q = m → ω_579.2 q = ω_573.2 q := fun q hq => by rw [hw_580]; exact va_up_off hq
                      have z_583 : ω_579.1 = ω_573.1 := by rw [hw_580]
                      refine lv_aload_n hx hb dX11_commands_122 rfl (lv_at hl 2 rfl) ?_
                      refine fw_get (v := .int 1) (C := RX11) (T := TX11) (N := 19) hx hb hts hin11 hown hK hR f_581 rfl 17 (by decide) (hts (.fieldLink RX11 195 "UnreadLeafletsModel" "isWrong" "Z") (by decide +kernel)) rfl dX11_commands_123 ?_
                      refine lv_if_eq (tgt := 135) hx hb dX11_commands_126 (by decide) (fun c_584 => ?_) (fun c_584 => ?_)
                      · skip
                        exact absurd c_584 (by decide)
                      · skip
                        refine lv_aload_n hx hb dX11_commands_129 rfl (lv_at hl 2 rfl) ?_
                        refine lv_iconst (v := 1) hx hb dX11_commands_130 (by decide) ?_
                        have f_585 : ω_335.2 (m + 1) = some (.inl (G.2.1 0, 324, .inl g)) := (fr_338 (m + 1) (by omega)).trans f_328
                        have f_586 : ω_568.2 (m + 1) = some (.inl (G.2.1 0, 324, .inl g)) := (fr_571 (m + 1) (by omega)).trans f_585
                        have f_587 : ω_573.2 (m + 1) = some (.inl (G.2.1 0, 324, .inl g)) := (fr_576 (m + 1) (by omega)).trans f_586
                        have f_588 : ω_579.2 (m + 1) = some (.inl (G.2.1 0, 324, .inl g)) := (fr_582 (m + 1) (by omega)).trans f_587
                        refine fw_call (va_runV (As := [.int 1]) (rest := []) ⟨hx, hb, hml, hown, hts⟩ (c_X11_fails G hL l ω_579 m (upd (upd (upd R.1 17 1) 7 0) 8 (R.1 16)) g f_581 f_588 1) (cwV 1 hts gX11_commands_X11_fails rfl rfl rfl (by decide +kernel) ⟨Nat.le_of_ble_eq_true rfl, Nat.le_of_ble_eq_true rfl⟩) (fw_preV hW hK hR f_581 rfl) rfl rfl hl.1 rfl (lv_room (Nat.le_of_ble_eq_true rfl)) dX11_commands_131 ⟨Nat.le_of_ble_eq_true rfl, Nat.le_of_ble_eq_true rfl⟩) hS (fun v_589 ω_590 H locs hq_591 hR hS => ?_)
                        obtain ⟨rfl, z_592, f_594, fr_593⟩ := hq_591
                        refine W.eq (g2 := F0 mI 134 ls [.int 0]) rfl ?_
                        subst ex_27
                        have f_595 : ω_590.2 (m + 1) = some (.inl (G.2.1 0, 324, .inl g)) := (fr_593 (m + 1) (by omega)).trans f_588
                        have f_596 : ω_1.2 (m + 7) = some (.inl (G.2.1 0, 6, .inl nd)) := (fr_4 (m + 7) (by omega)).trans m7
                        have f_597 : ω_6.2 (m + 7) = some (.inl (G.2.1 0, 6, .inl nd)) := (fr_9 (m + 7) (by omega)).trans f_596
                        have f_598 : τ1.2 (m + 7) = some (.inl (G.2.1 0, 6, .inl nd)) := (hfrτ1 (m + 7) (by omega) (by omega)).trans f_597
                        have f_599 : ω_21.2 (m + 7) = some (.inl (G.2.1 0, 6, .inl nd)) := (fr_24 (m + 7) (by omega) (by omega)).trans f_598
                        have f_600 : ω_335.2 (m + 7) = some (.inl (G.2.1 0, 6, .inl nd)) := (fr_338 (m + 7) (by omega)).trans f_599
                        have f_601 : ω_568.2 (m + 7) = some (.inl (G.2.1 0, 6, .inl nd)) := (fr_571 (m + 7) (by omega)).trans f_600
                        have f_602 : ω_573.2 (m + 7) = some (.inl (G.2.1 0, 6, .inl nd)) := (fr_576 (m + 7) (by omega)).trans f_601
                        have f_603 : ω_579.2 (m + 7) = some (.inl (G.2.1 0, 6, .inl nd)) := (fr_582 (m + 7) (by omega)).trans f_602
                        have f_604 : ω_590.2 (m + 7) = some (.inl (G.2.1 0, 6, .inl nd)) := (fr_593 (m + 7) (by omega)).trans f_603
                        have f_605 : ω_1.2 (m + 2) = some (.inl (G.2.1 0, 324, .inl bf)) := (fr_4 (m + 2) (by omega)).trans m2
                        have f_606 : ω_6.2 (m + 2) = some (.inl (G.2.1 0, 324, .inl bf)) := (fr_9 (m + 2) (by omega)).trans f_605
                        have f_607 : τ1.2 (m + 2) = some (.inl (G.2.1 0, 324, .inl bf)) := (hfrτ1 (m + 2) (by omega) (by omega)).trans f_606
                        have f_608 : ω_21.2 (m + 2) = some (.inl (G.2.1 0, 324, .inl bf)) := (fr_24 (m + 2) (by omega) (by omega)).trans f_607
                        have f_609 : ω_335.2 (m + 2) = some (.inl (G.2.1 0, 324, .inl bf)) := (fr_338 (m + 2) (by omega)).trans f_608
                        have f_610 : ω_568.2 (m + 2) = some (.inl (G.2.1 0, 324, .inl bf)) := (fr_571 (m + 2) (by omega)).trans f_609
                        have f_611 : ω_573.2 (m + 2) = some (.inl (G.2.1 0, 324, .inl bf)) := (fr_576 (m + 2) (by omega)).trans f_610
                        have f_612 : ω_579.2 (m + 2) = some (.inl (G.2.1 0, 324, .inl bf)) := (fr_582 (m + 2) (by omega)).trans f_611
                        have f_613 : ω_590.2 (m + 2) = some (.inl (G.2.1 0, 324, .inl bf)) := (fr_593 (m + 2) (by omega)).trans f_612
                        have f_614 : ω_1.2 (m + 3) = some (.inl (G.2.1 0, 2592, .inl hs)) := (fr_4 (m + 3) (by omega)).trans m3
                        have f_615 : ω_6.2 (m + 3) = some (.inl (G.2.1 0, 2592, .inl hs)) := (fr_9 (m + 3) (by omega)).trans f_614
                        have f_616 : τ1.2 (m + 3) = some (.inl (G.2.1 0, 2592, .inl hs)) := (hfrτ1 (m + 3) (by omega) (by omega)).trans f_615
                        have f_617 : ω_21.2 (m + 3) = some (.inl (G.2.1 0, 2592, .inl hs)) := (fr_24 (m + 3) (by omega) (by omega)).trans f_616
                        have f_618 : ω_335.2 (m + 3) = some (.inl (G.2.1 0, 2592, .inl hs)) := (fr_338 (m + 3) (by omega)).trans f_617
                        have f_619 : ω_568.2 (m + 3) = some (.inl (G.2.1 0, 2592, .inl hs)) := (fr_571 (m + 3) (by omega)).trans f_618
                        have f_620 : ω_573.2 (m + 3) = some (.inl (G.2.1 0, 2592, .inl hs)) := (fr_576 (m + 3) (by omega)).trans f_619
                        have f_621 : ω_579.2 (m + 3) = some (.inl (G.2.1 0, 2592, .inl hs)) := (fr_582 (m + 3) (by omega)).trans f_620
                        have f_622 : ω_590.2 (m + 3) = some (.inl (G.2.1 0, 2592, .inl hs)) := (fr_593 (m + 3) (by omega)).trans f_621
                        have f_623 : ω_568.2 (m + 8) = some (.inl (G.2.1 0, 300, .inl R.2.1)) := (fr_571 (m + 8) (by omega)).trans f_344
                        have f_624 : ω_573.2 (m + 8) = some (.inl (G.2.1 0, 300, .inl R.2.1)) := (fr_576 (m + 8) (by omega)).trans f_623
                        have f_625 : ω_579.2 (m + 8) = some (.inl (G.2.1 0, 300, .inl R.2.1)) := (fr_582 (m + 8) (by omega)).trans f_624
                        have f_626 : ω_590.2 (m + 8) = some (.inl (G.2.1 0, 300, .inl R.2.1)) := (fr_593 (m + 8) (by omega)).trans f_625
                        have fr_627 : ∀ q : Nat, ¬ q = m → ¬ q = (m + 1) → ¬ q = (m + 7) → ¬ q = (m + 2) → ¬ q = (m + 3) → ¬ q = (m + 8) → ω_590.2 q = ω.2 q := by
                          intro q h0 h1 h2 h3 h4 h5
                          rw [fr_593 q (by omega)]
                          rw [fr_582 q (by omega)]
                          rw [fr_576 q (by omega)]
                          rw [fr_571 q (by omega)]
                          rw [fr_338 q (by omega)]
                          rw [fr_24 q (by omega) (by omega)]
                          rw [hfrτ1 q (by omega) (by omega)]
                          rw [fr_9 q (by omega)]
                          rw [fr_4 q (by omega)]
                        have z_628 : ω_590.1 = ω.1 := by rw [z_592, z_583, z_577, z_572, z_339, z_23, hzτ1, z_10, z_5]
                        have hr_629 : comM s g nd bf hs ip td = ((0, (upd (upd (upd (upd R.1 17 1) 7 0) 8 (R.1 16)) 14 1), g, nd, bf, hs, R.2.1) : Int32 × (Nat → Int32) × (Nat → Int32) × (Nat → Int32) × (Nat → Int32) × (Nat → Int32) × (Nat → Int32)) := by
                          simp only [comM]
                          rw [← hRd]
                          rw [if_pos (Or.inr (Int32.not_le.mp c_409))]
                        refine fw_iret hx hb hr hlocks hR hS dX11_commands_134 ?_
                        rw [hr_629]
                        exact ⟨rfl, z_628, f_594, f_595, f_604, f_613, f_622, f_626, fr_627⟩
              · skip
                exact absurd c_340 (by decide)
            · skip
              exact absurd c_334 (by decide)
          · skip
            obtain ⟨p2, hp2, hp3, hp4⟩ := ordM_next hzs hp6 hzk c_28 c_333
            refine lv_iconst (v := 1) hx hb dX11_commands_44 (by decide) ?_
            refine lv_goto (tgt := 49) hx hb dX11_commands_45 (by decide) ?_
            refine lv_istore_n (lv' := [(2, .int 1), (1, .int x_27), (0, .ref m)]) hx hb dX11_commands_49 rfl hl (by decide) rfl (fun ls hl => ?_)
            refine lv_aload_n hx hb dX11_commands_50 rfl (lv_at hl 2 rfl) ?_
            refine lv_dup hx hb dX11_commands_51 rfl ?_
            refine fw_get (v := .int ((ordM zz g ip tt (5 * n)).1 16)) (C := RX11) (T := TX11) (N := 19) hx hb hts hin11 hown hK hR f_25 rfl 16 (by decide) (hts (.fieldLink RX11 192 "UnreadLeafletsModel" "spot" "I") (by decide +kernel)) rfl dX11_commands_52 ?_
            refine lv_iload_n hx hb dX11_commands_55 rfl (lv_at hl 0 rfl) ?_
            refine lv_if_eq (tgt := 63) hx hb dX11_commands_56 (by decide) (fun c_630 => ?_) (fun c_630 => ?_)
            · skip
              exact absurd c_630 (by decide)
            · skip
              refine lv_iconst (v := 1) hx hb dX11_commands_59 (by decide) ?_
              refine lv_goto (tgt := 64) hx hb dX11_commands_60 (by decide) ?_
              refine lv_iadd hx hb dX11_commands_64 ?_
              refine fw_put (v := .int (((ordM zz g ip tt (5 * n)).1 16) + 1)) (C := RX11) (T := TX11) (N := 19) hx hb hts hin11 tyX11 tyX11_ok nmX11 hown hK hR hS f_25 rfl 16 (by decide) (hts (.fieldLink RX11 192 "UnreadLeafletsModel" "spot" "I") (by decide +kernel)) rfl rfl rfl (Nat.le_of_ble_eq_true rfl) dX11_commands_65 (fun H locs hR hS => ?_)
              obtain ⟨ω_631, hw_632⟩ : ∃ τ : FWd, τ = (ω_21.1, va_up ω_21.2 m (some (.inr (13, [.ref (m + 1), .ref (m + 2), .ref (m + 3), .int ((upd ((ordM zz g ip tt (5 * n)).1) 16 (((ordM zz g ip tt (5 * n)).1 16) + 1)) 3), .ref (m + 4), .int ((upd ((ordM zz g ip tt (5 * n)).1) 16 (((ordM zz g ip tt (5 * n)).1 16) + 1)) 5), .ref (m + 5), .int ((upd ((ordM zz g ip tt (5 * n)).1) 16 (((ordM zz g ip tt (5 * n)).1 16) + 1)) 7), .int ((upd ((ordM zz g ip tt (5 * n)).1) 16 (((ordM zz g ip tt (5 * n)).1 16) + 1)) 8), .int ((upd ((ordM zz g ip tt (5 * n)).1) 16 (((ordM zz g ip tt (5 * n)).1 16) + 1)) 9), .int ((upd ((ordM zz g ip tt (5 * n)).1) 16 (((ordM zz g ip tt (5 * n)).1 16) + 1)) 10), .int ((upd ((ordM zz g ip tt (5 * n)).1) 16 (((ordM zz g ip tt (5 * n)).1 16) + 1)) 11), .ref (m + 6), .int ((upd ((ordM zz g ip tt (5 * n)).1) 16 (((ordM zz g ip tt (5 * n)).1 16) + 1)) 13), .int ((upd ((ordM zz g ip tt (5 * n)).1) 16 (((ordM zz g ip tt (5 * n)).1 16) + 1)) 14), .ref (m + 7), .int ((upd ((ordM zz g ip tt (5 * n)).1) 16 (((ordM zz g ip tt (5 * n)).1 16) + 1)) 16), .int ((upd ((ordM zz g ip tt (5 * n)).1) 16 (((ordM zz g ip tt (5 * n)).1 16) + 1)) 17), .ref (m + 8)])))) := ⟨_, rfl⟩
              have hR : fR G ω_631 H := by rw [hw_632]; exact hR
              have f_633 : ω_631.2 m = some (.inr (13, [.ref (m + 1), .ref (m + 2), .ref (m + 3), .int ((upd ((ordM zz g ip tt (5 * n)).1) 16 (((ordM zz g ip tt (5 * n)).1 16) + 1)) 3), .ref (m + 4), .int ((upd ((ordM zz g ip tt (5 * n)).1) 16 (((ordM zz g ip tt (5 * n)).1 16) + 1)) 5), .ref (m + 5), .int ((upd ((ordM zz g ip tt (5 * n)).1) 16 (((ordM zz g ip tt (5 * n)).1 16) + 1)) 7), .int ((upd ((ordM zz g ip tt (5 * n)).1) 16 (((ordM zz g ip tt (5 * n)).1 16) + 1)) 8), .int ((upd ((ordM zz g ip tt (5 * n)).1) 16 (((ordM zz g ip tt (5 * n)).1 16) + 1)) 9), .int ((upd ((ordM zz g ip tt (5 * n)).1) 16 (((ordM zz g ip tt (5 * n)).1 16) + 1)) 10), .int ((upd ((ordM zz g ip tt (5 * n)).1) 16 (((ordM zz g ip tt (5 * n)).1 16) + 1)) 11), .ref (m + 6), .int ((upd ((ordM zz g ip tt (5 * n)).1) 16 (((ordM zz g ip tt (5 * n)).1 16) + 1)) 13), .int ((upd ((ordM zz g ip tt (5 * n)).1) 16 (((ordM zz g ip tt (5 * n)).1 16) + 1)) 14), .ref (m + 7), .int ((upd ((ordM zz g ip tt (5 * n)).1) 16 (((ordM zz g ip tt (5 * n)).1 16) + 1)) 16), .int ((upd ((ordM zz g ip tt (5 * n)).1) 16 (((ordM zz g ip tt (5 * n)).1 16) + 1)) 17), .ref (m + 8)])) := by rw [hw_632]; exact va_up_at
              have fr_634 : ∀ q : Nat, ¬ q = m → ω_631.2 q = ω_21.2 q := fun q hq => by rw [hw_632]; exact va_up_off hq
              have z_635 : ω_631.1 = ω_21.1 := by rw [hw_632]
              refine lv_goto (tgt := 14) hx hb dX11_commands_68 (by decide) ?_
              have f_636 : ω_631.2 (m + 8) = some (.inl (G.2.1 0, 300, .inl ((ordM zz g ip tt (5 * n)).2))) := (fr_634 (m + 8) (by omega)).trans f_26
              have el_1 : x_27 = nI (n + 1) := by rw [ex_27]; exact nI_1 n
              have hl := lv_sub (l' := [(2, .int 1), (1, .int x_27), (0, .ref m)]) hl [0, 1, 2] rfl
              rw [el_1] at hl
              have fr_637 : ∀ q : Nat, ¬ q = m → ¬ q = (m + 8) → ω_631.2 q = ω_6.2 q := by
                intro q h0 h1
                rw [fr_634 q (by omega)]
                rw [fr_24 q (by omega) (by omega)]
                rw [hfrτ1 q (by omega) (by omega)]
              have z_638 : ω_631.1 = ω_6.1 := by rw [z_635, z_23, hzτ1]
              exact ih (n + 1) (upd ((ordM zz g ip tt (5 * n)).1) 16 (((ordM zz g ip tt (5 * n)).1 16) + 1)) ((ordM zz g ip tt (5 * n)).2) (p2 + 1) ω_631 (by omega) (by show (ordM zz g ip tt (5 * n)).1 16 + 1 = _; rw [hp2, nI_1]) (by omega) (by omega) (by exact ⟨(ordM_pk (k := 5 * n) hzk (by omega)).1, okN_mk (n := p2 + 1) (by show (ordM zz g ip tt (5 * n)).1 16 + 1 = _; rw [hp2, nI_1]) (by omega) (by decide)⟩) (by rw [hRz, show 21 - n = (21 - (n + 1)) + 1 by omega, rdL, if_pos ⟨c_28, c_333⟩]) (by show (ordM zz g ip tt (5 * n)).1 3 = s 3; rw [ordM_3]; exact hz3) z_638 f_633 f_636 fr_637 _ _ _ hR hS hl
  have f_639 : ω_1.2 (m + 8) = some (.inl (G.2.1 0, 300, .inl td)) := (fr_4 (m + 8) (by omega)).trans m8
  have f_640 : ω_6.2 (m + 8) = some (.inl (G.2.1 0, 300, .inl td)) := (fr_9 (m + 8) (by omega)).trans f_639
  exact loop_11 _ 0 (upd (upd s 16 0) 17 0) td 0 ω_6 (Nat.lt_succ_self _) (by rfl) (by first | rfl | assumption | omega | (simp; done)) (by first | rfl | assumption | omega | (simp; done)) (by exact hp0) (by exact hRd) (by rfl) rfl f_8 f_640 (fun _ _ _ => rfl) _ _ _ hR hS (lv_sub hl [0, 1, 2] rfl)
