/-! ===== printed by program (wip/whole/gen): the reference's order and lines ===== -/
theorem in_cL {m x : Int32} {c : Nat} (hx : x = nI c) (hc : c ≤ 1000) (h : inB m 0 (x - 1)) : ∃ j : Nat, j < c ∧ m = nI j := by
  subst hx
  obtain ⟨h0, h1⟩ := h
  obtain ⟨j, hj, rfl⟩ := nI_of h0
  refine ⟨j, ?_, rfl⟩
  rcases c with _ | c
  · exact absurd (show nI 0 - 1 < nI j by rw [i_lt, show (nI 0 - 1).toInt = -1 by decide, nI_toInt hj]; omega) h1
  · rw [nI_pred] at h1
    have := Nat.lt_of_not_le (fun z : c + 1 ≤ j => h1 ((nI_ltI (by omega) hj).mpr (by omega)))
    exact this
def keyV (g : Nat → Int32) (ms : Int32) (j : Nat) : Int32 := if ms = 0 then g (18 + j) else (if ms = 1 then g (26 + j) else (if ms = 2 then sumM g j (1 <<< (g (18 + j) &&& 31) - 1) (cN (g (18 + j))) else bitsJ (g (50 + j)) 8))
theorem keyM_v {s g nd : Nat → Int32} {ms : Int32} {j : Nat} : (keyM s g nd ms j).1 = keyV g ms j := by
  unfold keyM keyV
  (repeat' split) <;> rfl
/-- how many come before the leaflet q, of the first o -/
def cntL (g : Nat → Int32) (ms : Int32) (q : Nat) : Nat → Int32
  | 0 => 0
  | o + 1 => if 0 < keyV g ms o - keyV g ms q then cntL g ms q o + 1 else (if keyV g ms o - keyV g ms q = 0 then (if nI q ≤ nI o then cntL g ms q o + 0 else cntL g ms q o + 1) else cntL g ms q o + 0)
def rankF (g : Nat → Int32) (ms pl : Int32) (c : Nat) : Nat → Nat → Option Nat
  | 0, _ => none
  | n + 1, q => if cntL g ms q c = pl then some q else rankF g ms pl c n (q + 1)
def rankM (s g : Nat → Int32) (ms pl : Int32) : Int32 × (Nat → Int32) := if inB ms 0 3 then (match rankF g ms pl (cN (g 0)) (cN (g 0)) 0 with
  | some q => (nI q, upd s 14 0)
  | none => (0, upd s 14 2)) else (0, upd s 14 1)
set_option maxHeartbeats 4000000 in
set_option maxRecDepth 100000 in
theorem c_X11_ranked (G : FG) (hL : FL G) (l : Launch) (ω : FWd) (m : Nat) (s g : Nat → Int32) (m0 : ω.2 m = some (.inr (13, [.ref (m + 1), .ref (m + 2), .ref (m + 3), .int (s 3), .ref (m + 4), .int (s 5), .ref (m + 5), .int (s 7), .int (s 8), .int (s 9), .int (s 10), .int (s 11), .ref (m + 6), .int (s 13), .int (s 14), .ref (m + 7), .int (s 16), .int (s 17), .ref (m + 8)]))) (m1 : ω.2 (m + 1) = some (.inl (G.2.1 0, 324, .inl g))) (nd : Nat → Int32) (m7 : ω.2 (m + 7) = some (.inl (G.2.1 0, 6, .inl nd))) (hM : WFM g) (ms : Int32) (pl : Int32) : FMet G l yX11_ranked wsX11_ranked ({ frames := 3, cells := 0, slots := 0, locals := 70 } : Room) [.ref m, .int ms, .int pl] ω (fun vv9 τ9 => vv9 = some (.int ((rankM s g ms pl).1)) ∧ τ9.1 = ω.1 ∧ τ9.2 m = some (.inr (13, [.ref (m + 1), .ref (m + 2), .ref (m + 3), .int (((rankM s g ms pl).2) 3), .ref (m + 4), .int (((rankM s g ms pl).2) 5), .ref (m + 5), .int (((rankM s g ms pl).2) 7), .int (((rankM s g ms pl).2) 8), .int (((rankM s g ms pl).2) 9), .int (((rankM s g ms pl).2) 10), .int (((rankM s g ms pl).2) 11), .ref (m + 6), .int (((rankM s g ms pl).2) 13), .int (((rankM s g ms pl).2) 14), .ref (m + 7), .int (((rankM s g ms pl).2) 16), .int (((rankM s g ms pl).2) 17), .ref (m + 8)])) ∧ (∀ q : Nat, ¬ q = m → ¬ q = (m + 7) → τ9.2 q = ω.2 q) ∧ ∃ x9 : Nat → Int32, τ9.2 (m + 7) = some (.inl (G.2.1 0, 6, .inl x9))) 0 0 := by
  refine fw_ofW (cc := cX11_ranked) (maxL := 7) (ret := (some .int)) (by decide) rfl (Nat.le_of_ble_eq_true rfl) ?_
  intro pP eE sS mI ar9 bl9 meth cD ls hx hb hr hlocks hml hts hown hnm hW hR hl
  have hK := hL.K hW
  have hS : va_S (fwA G) sS.heap sS.heap [] := va_S.rf
  have hin11 : ∀ w ∈ u_ws RX11 TX11 19, w ∈ wsX11_ranked := by decide +kernel
  have hl : lv_has ls 7 [(0, .ref m), (1, .int ms), (2, .int pl)] := hl
  obtain ⟨c, hc8, hc, hcc⟩ := okN_of hM.1
  obtain ⟨cc, hd5, hd, hdd⟩ := okN_of hM.2.1
  refine lv_iload_n hx hb dX11_ranked_0 rfl (lv_at hl 1 rfl) ?_
  refine lv_iconst (v := 0) hx hb dX11_ranked_1 (by decide) ?_
  refine lv_iconst (v := 3) hx hb dX11_ranked_2 (by decide) ?_
  refine fw_call (va_runS (As := [.int ms, .int 0, .int 3]) (rest := []) ⟨hx, hb, hml, hown, hts⟩ (c_X11_in G hL l ω ms 0 3) (va_cwS 3 hts gX11_ranked_X11_in rfl rfl rfl (by decide +kernel) ⟨Nat.le_of_ble_eq_true rfl, Nat.le_of_ble_eq_true rfl⟩) (fw_preS hW hR) rfl rfl hl.1 rfl (lv_room (Nat.le_of_ble_eq_true rfl)) dX11_ranked_3 ⟨Nat.le_of_ble_eq_true rfl, Nat.le_of_ble_eq_true rfl⟩) hS (fun v_1 ω_2 H locs hq_3 hR hS => ?_)
  obtain ⟨rfl, hq_3⟩ := hq_3
  rw [hq_3] at hR
  refine W.eq (g2 := F0 mI 6 ls [.int (bz (inB ms 0 3))]) rfl ?_
  refine lv_if_ne (tgt := 15) hx hb dX11_ranked_6 (by decide) (fun c_4 => ?_) (fun c_4 => ?_)
  · skip
    have c_4 := bz_ne c_4
    refine lv_iconst (v := 0) hx hb dX11_ranked_15 (by decide) ?_
    refine lv_istore_n (lv' := [(3, .int 0), (0, .ref m), (1, .int ms), (2, .int pl)]) hx hb dX11_ranked_16 rfl hl (by decide) rfl (fun ls hl => ?_)
    have loop_5 : ∀ (fu : Nat) (lq : Nat) (nd2 : Nat → Int32) (τ1 : FWd), (c - lq) < fu → (lq ≤ c) → (rankF g ms pl c c 0 = rankF g ms pl c (c - lq) lq) → τ1.1 = ω.1 → τ1.2 (m + 7) = some (.inl (G.2.1 0, 6, .inl nd2)) → (∀ q : Nat, ¬ q = (m + 7) → τ1.2 q = ω.2 q) → ∀ (H : Heap) (locs : List Loc) (ls : Array Slot), fR G τ1 H → va_S (fwA G) sS.heap H locs → lv_has ls 7 [(3, .int (nI lq)), (0, .ref m), (1, .int ms), (2, .int pl)] → W pP l eE ({ frames := 3, cells := 0, slots := 0, locals := 70 } : Room) sS mI ar9 bl9 meth cD H locs 0 0 (MQ bl9 (fQ G (fun vv9 τ9 => vv9 = some (.int ((rankM s g ms pl).1)) ∧ τ9.1 = ω.1 ∧ τ9.2 m = some (.inr (13, [.ref (m + 1), .ref (m + 2), .ref (m + 3), .int (((rankM s g ms pl).2) 3), .ref (m + 4), .int (((rankM s g ms pl).2) 5), .ref (m + 5), .int (((rankM s g ms pl).2) 7), .int (((rankM s g ms pl).2) 8), .int (((rankM s g ms pl).2) 9), .int (((rankM s g ms pl).2) 10), .int (((rankM s g ms pl).2) 11), .ref (m + 6), .int (((rankM s g ms pl).2) 13), .int (((rankM s g ms pl).2) 14), .ref (m + 7), .int (((rankM s g ms pl).2) 16), .int (((rankM s g ms pl).2) 17), .ref (m + 8)])) ∧ (∀ q : Nat, ¬ q = m → ¬ q = (m + 7) → τ9.2 q = ω.2 q) ∧ ∃ x9 : Nat → Int32, τ9.2 (m + 7) = some (.inl (G.2.1 0, 6, .inl x9)))) ar9 sS 0 0 (fwA G)) (F0 mI 17 ls []) := by
      intro fu
      induction fu with
      | zero => intro lq nd2 τ1 hfu; exact absurd hfu (Nat.not_lt_zero _)
      | succ fu ihq =>
        intro lq nd2 τ1 hfu hlq hrk hzτ1 w7 hfrτ1 H locs ls hR hS hl
        refine lv_iload_n hx hb dX11_ranked_17 rfl (lv_at hl 0 rfl) ?_
        refine lv_aload_n hx hb dX11_ranked_18 rfl (lv_at hl 1 rfl) ?_
        have f_6 : τ1.2 m = some (.inr (13, [.ref (m + 1), .ref (m + 2), .ref (m + 3), .int (s 3), .ref (m + 4), .int (s 5), .ref (m + 5), .int (s 7), .int (s 8), .int (s 9), .int (s 10), .int (s 11), .ref (m + 6), .int (s 13), .int (s 14), .ref (m + 7), .int (s 16), .int (s 17), .ref (m + 8)])) := (hfrτ1 m (by omega)).trans m0
        refine fw_get (v := .ref (m + 1)) (C := RX11) (T := TX11) (N := 19) hx hb hts hin11 hown hK hR f_6 rfl 0 (by decide) (hts (.fieldLink RX11 7 "UnreadLeafletsModel" "g" "[I") (by decide +kernel)) rfl dX11_ranked_19 ?_
        refine lv_iconst (v := 0) hx hb dX11_ranked_22 (by decide) ?_
        have f_7 : τ1.2 (m + 1) = some (.inl (G.2.1 0, 324, .inl g)) := (hfrτ1 (m + 1) (by omega)).trans m1
        refine fw_iald hx hb hK hR f_7 (vp_in_nI (n := 0) (by omega) (by omega)) dX11_ranked_23 ?_
        refine W.eq (g2 := F0 mI 24 ls [.int (g 0), .int (nI lq)]) (by rw [show (0 : Int32).toNatClampNeg = 0 from rfl]) ?_
        refine lv_icmp_ge (tgt := 110) hx hb dX11_ranked_24 (by decide) (fun c_8 => ?_) (fun c_8 => ?_)
        · skip
          have hlq9 : c = lq := by have h9 := lp_ge hc c_8 (by omega) (by omega); omega
          subst hlq9
          refine lv_aload_n hx hb dX11_ranked_110 rfl (lv_at hl 1 rfl) ?_
          refine lv_iconst (v := 2) hx hb dX11_ranked_111 (by decide) ?_
          refine fw_call (va_runV (As := [.int 2]) (rest := []) ⟨hx, hb, hml, hown, hts⟩ (c_X11_fails G hL l τ1 m s g f_6 f_7 2) (cwV 1 hts gX11_ranked_X11_fails rfl rfl rfl (by decide +kernel) ⟨Nat.le_of_ble_eq_true rfl, Nat.le_of_ble_eq_true rfl⟩) (fw_preV hW hK hR f_6 rfl) rfl rfl hl.1 rfl (lv_room (Nat.le_of_ble_eq_true rfl)) dX11_ranked_112 ⟨Nat.le_of_ble_eq_true rfl, Nat.le_of_ble_eq_true rfl⟩) hS (fun v_9 ω_10 H locs hq_11 hR hS => ?_)
          obtain ⟨rfl, z_12, f_14, fr_13⟩ := hq_11
          refine W.eq (g2 := F0 mI 115 ls [.int 0]) rfl ?_
          have fr_15 : ∀ q : Nat, ¬ q = m → ¬ q = (m + 7) → ω_10.2 q = ω.2 q := by
            intro q h0 h1
            rw [fr_13 q (by omega)]
            rw [hfrτ1 q (by omega)]
          have z_16 : ω_10.1 = ω.1 := by rw [z_12, hzτ1]
          have hr_17 : rankM s g ms pl = ((0, (upd s 14 2)) : Int32 × (Nat → Int32)) := by
            have hf9 : rankF g ms pl c c 0 = none := by rw [hrk, Nat.sub_self, rankF]
            simp only [rankM, hcc]
            rw [if_pos c_4, hf9]
          refine fw_iret hx hb hr hlocks hR hS dX11_ranked_115 ?_
          rw [hr_17]
          have f_18 : ω_10.2 (m + 7) = some (.inl (G.2.1 0, 6, .inl nd2)) := (fr_13 (m + 7) (by omega)).trans w7
          exact ⟨rfl, z_16, f_14, fr_15, ⟨_, f_18⟩⟩
        · skip
          have hlq2 : lq < c := lp_lt hc c_8 (by omega) (by omega)
          refine lv_iconst (v := 0) hx hb dX11_ranked_27 (by decide) ?_
          refine lv_istore (lv' := [(4, .int 0), (3, .int (nI lq)), (0, .ref m), (1, .int ms), (2, .int pl)]) hx hb dX11_ranked_28 hl (by decide) rfl (fun ls hl => ?_)
          refine lv_iconst (v := 0) hx hb dX11_ranked_30 (by decide) ?_
          refine lv_istore (lv' := [(5, .int 0), (4, .int 0), (3, .int (nI lq)), (0, .ref m), (1, .int ms), (2, .int pl)]) hx hb dX11_ranked_31 hl (by decide) rfl (fun ls hl => ?_)
          have loop_19 : ∀ (fu : Nat) (o : Nat) (nd3 : Nat → Int32) (τ2 : FWd), (c - o) < fu → (o ≤ c) → τ2.1 = τ1.1 → τ2.2 (m + 7) = some (.inl (G.2.1 0, 6, .inl nd3)) → (∀ q : Nat, ¬ q = (m + 7) → τ2.2 q = τ1.2 q) → ∀ (H : Heap) (locs : List Loc) (ls : Array Slot), fR G τ2 H → va_S (fwA G) sS.heap H locs → lv_has ls 7 [(5, .int (nI o)), (4, .int (cntL g ms lq o)), (3, .int (nI lq)), (0, .ref m), (1, .int ms), (2, .int pl)] → W pP l eE ({ frames := 3, cells := 0, slots := 0, locals := 70 } : Room) sS mI ar9 bl9 meth cD H locs 0 0 (MQ bl9 (fQ G (fun vv9 τ9 => vv9 = some (.int ((rankM s g ms pl).1)) ∧ τ9.1 = ω.1 ∧ τ9.2 m = some (.inr (13, [.ref (m + 1), .ref (m + 2), .ref (m + 3), .int (((rankM s g ms pl).2) 3), .ref (m + 4), .int (((rankM s g ms pl).2) 5), .ref (m + 5), .int (((rankM s g ms pl).2) 7), .int (((rankM s g ms pl).2) 8), .int (((rankM s g ms pl).2) 9), .int (((rankM s g ms pl).2) 10), .int (((rankM s g ms pl).2) 11), .ref (m + 6), .int (((rankM s g ms pl).2) 13), .int (((rankM s g ms pl).2) 14), .ref (m + 7), .int (((rankM s g ms pl).2) 16), .int (((rankM s g ms pl).2) 17), .ref (m + 8)])) ∧ (∀ q : Nat, ¬ q = m → ¬ q = (m + 7) → τ9.2 q = ω.2 q) ∧ ∃ x9 : Nat → Int32, τ9.2 (m + 7) = some (.inl (G.2.1 0, 6, .inl x9)))) ar9 sS 0 0 (fwA G)) (F0 mI 33 ls []) := by
            intro fu
            induction fu with
            | zero => intro o nd3 τ2 hfu; exact absurd hfu (Nat.not_lt_zero _)
            | succ fu ih =>
              intro o nd3 τ2 hfu ho hzτ2 v7 hfrτ2 H locs ls hR hS hl
              refine lv_iload hx hb dX11_ranked_33 (lv_at hl 0 rfl) ?_
              refine lv_aload_n hx hb dX11_ranked_35 rfl (lv_at hl 3 rfl) ?_
              have f_20 : τ2.2 m = some (.inr (13, [.ref (m + 1), .ref (m + 2), .ref (m + 3), .int (s 3), .ref (m + 4), .int (s 5), .ref (m + 5), .int (s 7), .int (s 8), .int (s 9), .int (s 10), .int (s 11), .ref (m + 6), .int (s 13), .int (s 14), .ref (m + 7), .int (s 16), .int (s 17), .ref (m + 8)])) := (hfrτ2 m (by omega)).trans f_6
              refine fw_get (v := .ref (m + 1)) (C := RX11) (T := TX11) (N := 19) hx hb hts hin11 hown hK hR f_20 rfl 0 (by decide) (hts (.fieldLink RX11 7 "UnreadLeafletsModel" "g" "[I") (by decide +kernel)) rfl dX11_ranked_36 ?_
              refine lv_iconst (v := 0) hx hb dX11_ranked_39 (by decide) ?_
              have f_21 : τ2.2 (m + 1) = some (.inl (G.2.1 0, 324, .inl g)) := (hfrτ2 (m + 1) (by omega)).trans f_7
              refine fw_iald hx hb hK hR f_21 (vp_in_nI (n := 0) (by omega) (by omega)) dX11_ranked_40 ?_
              refine W.eq (g2 := F0 mI 41 ls [.int (g 0), .int (nI o)]) (by rw [show (0 : Int32).toNatClampNeg = 0 from rfl]) ?_
              refine lv_icmp_ge (tgt := 92) hx hb dX11_ranked_41 (by decide) (fun c_22 => ?_) (fun c_22 => ?_)
              · skip
                have ho9 : c = o := by have h9 := lp_ge hc c_22 (by omega) (by omega); omega
                subst ho9
                refine lv_iload hx hb dX11_ranked_92 (lv_at hl 1 rfl) ?_
                refine lv_iload_n hx hb dX11_ranked_94 rfl (lv_at hl 5 rfl) ?_
                refine lv_icmp_ne (tgt := 104) hx hb dX11_ranked_95 (by decide) (fun c_23 => ?_) (fun c_23 => ?_)
                · skip
                  obtain ⟨x_24, ex_24⟩ : ∃ y : Int32, y = (nI lq) + 1 := ⟨_, rfl⟩
                  refine lv_iinc (v := x_24) (lv' := [(3, .int x_24), (5, .int (nI c)), (4, .int (cntL g ms lq c)), (0, .ref m), (1, .int ms), (2, .int pl)]) hx hb dX11_ranked_104 hl (k := 2) rfl (by rw [ex_24]; rfl) (by decide) rfl (fun ls hl => ?_)
                  refine lv_goto (tgt := 17) hx hb dX11_ranked_107 (by decide) ?_
                  have el_3 : x_24 = nI (lq + 1) := by rw [ex_24]; exact nI_1 lq
                  have hl := lv_sub (l' := [(3, .int x_24), (0, .ref m), (1, .int ms), (2, .int pl)]) hl [0, 3, 4, 5] rfl
                  rw [el_3] at hl
                  have fr_25 : ∀ q : Nat, ¬ q = (m + 7) → τ2.2 q = ω.2 q := by
                    intro q h0
                    rw [hfrτ2 q (by omega)]
                    rw [hfrτ1 q (by omega)]
                  have z_26 : τ2.1 = ω.1 := by rw [hzτ2, hzτ1]
                  exact ihq (lq + 1) nd3 τ2 (by omega) (by omega) (by rw [hrk, show c - lq = (c - (lq + 1)) + 1 by omega, rankF, if_neg c_23]) z_26 v7 fr_25 _ _ _ hR hS hl
                · skip
                  refine lv_aload_n hx hb dX11_ranked_98 rfl (lv_at hl 3 rfl) ?_
                  refine lv_iload_n hx hb dX11_ranked_99 rfl (lv_at hl 2 rfl) ?_
                  refine fw_call (va_runV (As := [.int (nI lq)]) (rest := []) ⟨hx, hb, hml, hown, hts⟩ (c_X11_done G hL l τ2 m s g f_20 f_21 (nI lq)) (cwV 1 hts gX11_ranked_X11_done rfl rfl rfl (by decide +kernel) ⟨Nat.le_of_ble_eq_true rfl, Nat.le_of_ble_eq_true rfl⟩) (fw_preV hW hK hR f_20 rfl) rfl rfl hl.1 rfl (lv_room (Nat.le_of_ble_eq_true rfl)) dX11_ranked_100 ⟨Nat.le_of_ble_eq_true rfl, Nat.le_of_ble_eq_true rfl⟩) hS (fun v_27 ω_28 H locs hq_29 hR hS => ?_)
                  obtain ⟨rfl, z_30, f_32, fr_31⟩ := hq_29
                  refine W.eq (g2 := F0 mI 103 ls [.int (nI lq)]) rfl ?_
                  have fr_33 : ∀ q : Nat, ¬ q = m → ¬ q = (m + 7) → ω_28.2 q = ω.2 q := by
                    intro q h0 h1
                    rw [fr_31 q (by omega)]
                    rw [hfrτ2 q (by omega)]
                    rw [hfrτ1 q (by omega)]
                  have z_34 : ω_28.1 = ω.1 := by rw [z_30, hzτ2, hzτ1]
                  have hr_35 : rankM s g ms pl = (((nI lq), (upd s 14 0)) : Int32 × (Nat → Int32)) := by
                    have hf9 : rankF g ms pl c c 0 = some lq := by rw [hrk, show c - lq = (c - (lq + 1)) + 1 by omega, rankF, if_pos c_23]
                    simp only [rankM, hcc]
                    rw [if_pos c_4, hf9]
                  refine fw_iret hx hb hr hlocks hR hS dX11_ranked_103 ?_
                  rw [hr_35]
                  have f_36 : ω_28.2 (m + 7) = some (.inl (G.2.1 0, 6, .inl nd3)) := (fr_31 (m + 7) (by omega)).trans v7
                  exact ⟨rfl, z_34, f_32, fr_33, ⟨_, f_36⟩⟩
              · skip
                have ho2 : o < c := lp_lt hc c_22 (by omega) (by omega)
                refine lv_aload_n hx hb dX11_ranked_44 rfl (lv_at hl 3 rfl) ?_
                refine lv_iload_n hx hb dX11_ranked_45 rfl (lv_at hl 4 rfl) ?_
                refine lv_iload hx hb dX11_ranked_46 (lv_at hl 0 rfl) ?_
                refine fw_call (va_runV (As := [.int ms, .int (nI o)]) (rest := []) ⟨hx, hb, hml, hown, hts⟩ (c_X11_keyOf G hL l τ2 m s g f_20 f_21 nd3 v7 hM ms o (by rw [hcc]; omega)) (cwV 2 hts gX11_ranked_X11_keyOf rfl rfl rfl (by decide +kernel) ⟨Nat.le_of_ble_eq_true rfl, Nat.le_of_ble_eq_true rfl⟩) (fw_preV hW hK hR f_20 rfl) rfl rfl hl.1 rfl (lv_room (Nat.le_of_ble_eq_true rfl)) dX11_ranked_48 ⟨Nat.le_of_ble_eq_true rfl, Nat.le_of_ble_eq_true rfl⟩) hS (fun v_37 ω_38 H locs hq_39 hR hS => ?_)
                obtain ⟨rfl, z_40, f_42, fr_41⟩ := hq_39
                refine W.eq (g2 := F0 mI 51 ls [.int ((keyM s g nd3 ms o).1)]) rfl ?_
                refine W.eq (g2 := F0 mI 51 ls [.int (keyV g ms o)]) (by rw [keyM_v]) ?_
                refine lv_aload_n hx hb dX11_ranked_51 rfl (lv_at hl 3 rfl) ?_
                refine lv_iload_n hx hb dX11_ranked_52 rfl (lv_at hl 4 rfl) ?_
                refine lv_iload_n hx hb dX11_ranked_53 rfl (lv_at hl 2 rfl) ?_
                have f_43 : ω_38.2 m = some (.inr (13, [.ref (m + 1), .ref (m + 2), .ref (m + 3), .int (s 3), .ref (m + 4), .int (s 5), .ref (m + 5), .int (s 7), .int (s 8), .int (s 9), .int (s 10), .int (s 11), .ref (m + 6), .int (s 13), .int (s 14), .ref (m + 7), .int (s 16), .int (s 17), .ref (m + 8)])) := (fr_41 m (by omega)).trans f_20
                have f_44 : ω_38.2 (m + 1) = some (.inl (G.2.1 0, 324, .inl g)) := (fr_41 (m + 1) (by omega)).trans f_21
                refine fw_call (va_runV (As := [.int ms, .int (nI lq)]) (rest := [.int (keyV g ms o)]) ⟨hx, hb, hml, hown, hts⟩ (c_X11_keyOf G hL l ω_38 m s g f_43 f_44 ((keyM s g nd3 ms o).2) f_42 hM ms lq (by rw [hcc]; omega)) (cwV 2 hts gX11_ranked_X11_keyOf rfl rfl rfl (by decide +kernel) ⟨Nat.le_of_ble_eq_true rfl, Nat.le_of_ble_eq_true rfl⟩) (fw_preV hW hK hR f_43 rfl) rfl rfl hl.1 rfl (lv_room (Nat.le_of_ble_eq_true rfl)) dX11_ranked_54 ⟨Nat.le_of_ble_eq_true rfl, Nat.le_of_ble_eq_true rfl⟩) hS (fun v_45 ω_46 H locs hq_47 hR hS => ?_)
                obtain ⟨rfl, z_48, f_50, fr_49⟩ := hq_47
                refine W.eq (g2 := F0 mI 57 ls [.int ((keyM s g ((keyM s g nd3 ms o).2) ms lq).1), .int (keyV g ms o)]) rfl ?_
                refine W.eq (g2 := F0 mI 57 ls [.int (keyV g ms lq), .int (keyV g ms o)]) (by rw [keyM_v]) ?_
                refine lv_isub hx hb dX11_ranked_57 ?_
                refine lv_topi (fun x_51 ex_51 => ?_)
                refine lv_istore (lv' := [(6, .int x_51), (5, .int (nI o)), (4, .int (cntL g ms lq o)), (3, .int (nI lq)), (0, .ref m), (1, .int ms), (2, .int pl)]) hx hb dX11_ranked_58 hl (by decide) rfl (fun ls hl => ?_)
                refine lv_iload hx hb dX11_ranked_60 (lv_at hl 2 rfl) ?_
                refine lv_iload hx hb dX11_ranked_62 (lv_at hl 0 rfl) ?_
                refine lv_if_gt (tgt := 78) hx hb dX11_ranked_64 (by decide) (fun c_52 => ?_) (fun c_52 => ?_)
                · skip
                  refine lv_iconst (v := 1) hx hb dX11_ranked_78 (by decide) ?_
                  refine lv_goto (tgt := 83) hx hb dX11_ranked_79 (by decide) ?_
                  refine lv_iadd hx hb dX11_ranked_83 ?_
                  refine lv_topi (fun x_53 ex_53 => ?_)
                  refine lv_istore (lv' := [(4, .int x_53), (6, .int x_51), (5, .int (nI o)), (3, .int (nI lq)), (0, .ref m), (1, .int ms), (2, .int pl)]) hx hb dX11_ranked_84 hl (by decide) rfl (fun ls hl => ?_)
                  obtain ⟨x_54, ex_54⟩ : ∃ y : Int32, y = (nI o) + 1 := ⟨_, rfl⟩
                  refine lv_iinc (v := x_54) (lv' := [(5, .int x_54), (4, .int x_53), (6, .int x_51), (3, .int (nI lq)), (0, .ref m), (1, .int ms), (2, .int pl)]) hx hb dX11_ranked_86 hl (k := 2) rfl (by rw [ex_54]; rfl) (by decide) rfl (fun ls hl => ?_)
                  refine lv_goto (tgt := 33) hx hb dX11_ranked_89 (by decide) ?_
                  have el_5 : x_54 = nI (o + 1) := by rw [ex_54]; exact nI_1 o
                  have el_4 : x_53 = cntL g ms lq (o + 1) := by rw [ex_53, cntL, if_pos (by rw [← ex_51]; exact c_52)]
                  have hl := lv_sub (l' := [(5, .int x_54), (4, .int x_53), (3, .int (nI lq)), (0, .ref m), (1, .int ms), (2, .int pl)]) hl [0, 1, 3, 4, 5, 6] rfl
                  rw [el_5, el_4] at hl
                  have fr_55 : ∀ q : Nat, ¬ q = (m + 7) → ω_46.2 q = τ1.2 q := by
                    intro q h0
                    rw [fr_49 q (by omega)]
                    rw [fr_41 q (by omega)]
                    rw [hfrτ2 q (by omega)]
                  have z_56 : ω_46.1 = τ1.1 := by rw [z_48, z_40, hzτ2]
                  exact ih (o + 1) ((keyM s g ((keyM s g nd3 ms o).2) ms lq).2) ω_46 (by omega) (by first | assumption | omega | (simp; done)) z_56 f_50 fr_55 _ _ _ hR hS hl
                · skip
                  refine lv_iload hx hb dX11_ranked_67 (lv_at hl 0 rfl) ?_
                  refine lv_if_ne (tgt := 82) hx hb dX11_ranked_69 (by decide) (fun c_57 => ?_) (fun c_57 => ?_)
                  · skip
                    refine lv_iconst (v := 0) hx hb dX11_ranked_82 (by decide) ?_
                    refine lv_iadd hx hb dX11_ranked_83 ?_
                    refine lv_topi (fun x_58 ex_58 => ?_)
                    refine lv_istore (lv' := [(4, .int x_58), (6, .int x_51), (5, .int (nI o)), (3, .int (nI lq)), (0, .ref m), (1, .int ms), (2, .int pl)]) hx hb dX11_ranked_84 hl (by decide) rfl (fun ls hl => ?_)
                    obtain ⟨x_59, ex_59⟩ : ∃ y : Int32, y = (nI o) + 1 := ⟨_, rfl⟩
                    refine lv_iinc (v := x_59) (lv' := [(5, .int x_59), (4, .int x_58), (6, .int x_51), (3, .int (nI lq)), (0, .ref m), (1, .int ms), (2, .int pl)]) hx hb dX11_ranked_86 hl (k := 2) rfl (by rw [ex_59]; rfl) (by decide) rfl (fun ls hl => ?_)
                    refine lv_goto (tgt := 33) hx hb dX11_ranked_89 (by decide) ?_
                    have el_5 : x_59 = nI (o + 1) := by rw [ex_59]; exact nI_1 o
                    have el_4 : x_58 = cntL g ms lq (o + 1) := by rw [ex_58, cntL, if_neg (by rw [← ex_51]; exact c_52), if_neg (by rw [← ex_51]; exact c_57)]
                    have hl := lv_sub (l' := [(5, .int x_59), (4, .int x_58), (3, .int (nI lq)), (0, .ref m), (1, .int ms), (2, .int pl)]) hl [0, 1, 3, 4, 5, 6] rfl
                    rw [el_5, el_4] at hl
                    have fr_60 : ∀ q : Nat, ¬ q = (m + 7) → ω_46.2 q = τ1.2 q := by
                      intro q h0
                      rw [fr_49 q (by omega)]
                      rw [fr_41 q (by omega)]
                      rw [hfrτ2 q (by omega)]
                    have z_61 : ω_46.1 = τ1.1 := by rw [z_48, z_40, hzτ2]
                    exact ih (o + 1) ((keyM s g ((keyM s g nd3 ms o).2) ms lq).2) ω_46 (by omega) (by first | assumption | omega | (simp; done)) z_61 f_50 fr_60 _ _ _ hR hS hl
                  · skip
                    refine lv_iload hx hb dX11_ranked_72 (lv_at hl 1 rfl) ?_
                    refine lv_iload_n hx hb dX11_ranked_74 rfl (lv_at hl 3 rfl) ?_
                    refine lv_icmp_ge (tgt := 82) hx hb dX11_ranked_75 (by decide) (fun c_62 => ?_) (fun c_62 => ?_)
                    · skip
                      refine lv_iconst (v := 0) hx hb dX11_ranked_82 (by decide) ?_
                      refine lv_iadd hx hb dX11_ranked_83 ?_
                      refine lv_topi (fun x_63 ex_63 => ?_)
                      refine lv_istore (lv' := [(4, .int x_63), (6, .int x_51), (5, .int (nI o)), (3, .int (nI lq)), (0, .ref m), (1, .int ms), (2, .int pl)]) hx hb dX11_ranked_84 hl (by decide) rfl (fun ls hl => ?_)
                      obtain ⟨x_64, ex_64⟩ : ∃ y : Int32, y = (nI o) + 1 := ⟨_, rfl⟩
                      refine lv_iinc (v := x_64) (lv' := [(5, .int x_64), (4, .int x_63), (6, .int x_51), (3, .int (nI lq)), (0, .ref m), (1, .int ms), (2, .int pl)]) hx hb dX11_ranked_86 hl (k := 2) rfl (by rw [ex_64]; rfl) (by decide) rfl (fun ls hl => ?_)
                      refine lv_goto (tgt := 33) hx hb dX11_ranked_89 (by decide) ?_
                      have el_5 : x_64 = nI (o + 1) := by rw [ex_64]; exact nI_1 o
                      have el_4 : x_63 = cntL g ms lq (o + 1) := by rw [ex_63, cntL, if_neg (by rw [← ex_51]; exact c_52), if_pos (by rw [← ex_51]; exact c_57), if_pos c_62]
                      have hl := lv_sub (l' := [(5, .int x_64), (4, .int x_63), (3, .int (nI lq)), (0, .ref m), (1, .int ms), (2, .int pl)]) hl [0, 1, 3, 4, 5, 6] rfl
                      rw [el_5, el_4] at hl
                      have fr_65 : ∀ q : Nat, ¬ q = (m + 7) → ω_46.2 q = τ1.2 q := by
                        intro q h0
                        rw [fr_49 q (by omega)]
                        rw [fr_41 q (by omega)]
                        rw [hfrτ2 q (by omega)]
                      have z_66 : ω_46.1 = τ1.1 := by rw [z_48, z_40, hzτ2]
                      exact ih (o + 1) ((keyM s g ((keyM s g nd3 ms o).2) ms lq).2) ω_46 (by omega) (by first | assumption | omega | (simp; done)) z_66 f_50 fr_65 _ _ _ hR hS hl
                    · skip
                      refine lv_iconst (v := 1) hx hb dX11_ranked_78 (by decide) ?_
                      refine lv_goto (tgt := 83) hx hb dX11_ranked_79 (by decide) ?_
                      refine lv_iadd hx hb dX11_ranked_83 ?_
                      refine lv_topi (fun x_67 ex_67 => ?_)
                      refine lv_istore (lv' := [(4, .int x_67), (6, .int x_51), (5, .int (nI o)), (3, .int (nI lq)), (0, .ref m), (1, .int ms), (2, .int pl)]) hx hb dX11_ranked_84 hl (by decide) rfl (fun ls hl => ?_)
                      obtain ⟨x_68, ex_68⟩ : ∃ y : Int32, y = (nI o) + 1 := ⟨_, rfl⟩
                      refine lv_iinc (v := x_68) (lv' := [(5, .int x_68), (4, .int x_67), (6, .int x_51), (3, .int (nI lq)), (0, .ref m), (1, .int ms), (2, .int pl)]) hx hb dX11_ranked_86 hl (k := 2) rfl (by rw [ex_68]; rfl) (by decide) rfl (fun ls hl => ?_)
                      refine lv_goto (tgt := 33) hx hb dX11_ranked_89 (by decide) ?_
                      have el_5 : x_68 = nI (o + 1) := by rw [ex_68]; exact nI_1 o
                      have el_4 : x_67 = cntL g ms lq (o + 1) := by rw [ex_67, cntL, if_neg (by rw [← ex_51]; exact c_52), if_pos (by rw [← ex_51]; exact c_57), if_neg c_62]
                      have hl := lv_sub (l' := [(5, .int x_68), (4, .int x_67), (3, .int (nI lq)), (0, .ref m), (1, .int ms), (2, .int pl)]) hl [0, 1, 3, 4, 5, 6] rfl
                      rw [el_5, el_4] at hl
                      have fr_69 : ∀ q : Nat, ¬ q = (m + 7) → ω_46.2 q = τ1.2 q := by
                        intro q h0
                        rw [fr_49 q (by omega)]
                        rw [fr_41 q (by omega)]
                        rw [hfrτ2 q (by omega)]
                      have z_70 : ω_46.1 = τ1.1 := by rw [z_48, z_40, hzτ2]
                      exact ih (o + 1) ((keyM s g ((keyM s g nd3 ms o).2) ms lq).2) ω_46 (by omega) (by first | assumption | omega | (simp; done)) z_70 f_50 fr_69 _ _ _ hR hS hl
          exact loop_19 _ 0 nd2 τ1 (Nat.lt_succ_self _) (by first | rfl | assumption | omega | (simp; done)) rfl w7 (fun _ _ => rfl) _ _ _ hR hS (lv_sub hl [0, 1, 2, 3, 4, 5] rfl)
    exact loop_5 _ 0 nd ω (Nat.lt_succ_self _) (by first | rfl | assumption | omega | (simp; done)) (by first | rfl | assumption | omega | (simp; done)) rfl m7 (fun _ _ => rfl) _ _ _ hR hS (lv_sub hl [0, 1, 2, 3] rfl)
  · skip
    have c_4 := bz_eq c_4
    refine lv_aload_n hx hb dX11_ranked_9 rfl (lv_at hl 0 rfl) ?_
    refine lv_iconst (v := 1) hx hb dX11_ranked_10 (by decide) ?_
    refine fw_call (va_runV (As := [.int 1]) (rest := []) ⟨hx, hb, hml, hown, hts⟩ (c_X11_fails G hL l ω m s g m0 m1 1) (cwV 1 hts gX11_ranked_X11_fails rfl rfl rfl (by decide +kernel) ⟨Nat.le_of_ble_eq_true rfl, Nat.le_of_ble_eq_true rfl⟩) (fw_preV hW hK hR m0 rfl) rfl rfl hl.1 rfl (lv_room (Nat.le_of_ble_eq_true rfl)) dX11_ranked_11 ⟨Nat.le_of_ble_eq_true rfl, Nat.le_of_ble_eq_true rfl⟩) hS (fun v_71 ω_72 H locs hq_73 hR hS => ?_)
    obtain ⟨rfl, z_74, f_76, fr_75⟩ := hq_73
    refine W.eq (g2 := F0 mI 14 ls [.int 0]) rfl ?_
    have fr_77 : ∀ q : Nat, ¬ q = m → ¬ q = (m + 7) → ω_72.2 q = ω.2 q := by
      intro q h0 h1
      rw [fr_75 q (by omega)]
    have z_78 : ω_72.1 = ω.1 := by rw [z_74]
    have hr_79 : rankM s g ms pl = ((0, (upd s 14 1)) : Int32 × (Nat → Int32)) := by
      simp only [rankM]
      rw [if_neg c_4]
    refine fw_iret hx hb hr hlocks hR hS dX11_ranked_14 ?_
    rw [hr_79]
    have f_80 : ω_72.2 (m + 7) = some (.inl (G.2.1 0, 6, .inl nd)) := (fr_75 (m + 7) (by omega)).trans m7
    exact ⟨rfl, z_78, f_76, fr_77, ⟨_, f_80⟩⟩
/-- a sign written behind the line -/
def wrM (P : (Nat → Int32) × (Nat → Int32)) (c9 : Int32) : (Nat → Int32) × (Nat → Int32) := (upd P.1 13 (P.1 13 + 1), upd P.2 (cN (P.1 13)) (chC c9))
theorem wrM_ok {P : (Nat → Int32) × (Nat → Int32)} {c9 : Int32} {b : Nat} (h : okN (P.1 13) b) (hb : b < 10000) : okN ((wrM P c9).1 13) (b + 1) := okN_1 (x := P.1 13) h (by omega)
set_option maxHeartbeats 4000000 in
set_option maxRecDepth 100000 in
theorem c_X11_writes (G : FG) (hL : FL G) (l : Launch) (ω : FWd) (m : Nat) (P : (Nat → Int32) × (Nat → Int32)) (m0 : ω.2 m = some (.inr (13, [.ref (m + 1), .ref (m + 2), .ref (m + 3), .int (P.1 3), .ref (m + 4), .int (P.1 5), .ref (m + 5), .int (P.1 7), .int (P.1 8), .int (P.1 9), .int (P.1 10), .int (P.1 11), .ref (m + 6), .int (P.1 13), .int (P.1 14), .ref (m + 7), .int (P.1 16), .int (P.1 17), .ref (m + 8)]))) (m6 : ω.2 (m + 6) = some (.inl (G.2.1 1, 60, .inl P.2))) (hln : okN (P.1 13) 59) (c9 : Int32) : FMet G l yX11_writes wsX11_writes ({ frames := 0, cells := 0, slots := 0, locals := 0 } : Room) [.ref m, .int c9] ω (fun vv9 τ9 => vv9 = none ∧ τ9.1 = ω.1 ∧ τ9.2 m = some (.inr (13, [.ref (m + 1), .ref (m + 2), .ref (m + 3), .int (((wrM P c9).1) 3), .ref (m + 4), .int (((wrM P c9).1) 5), .ref (m + 5), .int (((wrM P c9).1) 7), .int (((wrM P c9).1) 8), .int (((wrM P c9).1) 9), .int (((wrM P c9).1) 10), .int (((wrM P c9).1) 11), .ref (m + 6), .int (((wrM P c9).1) 13), .int (((wrM P c9).1) 14), .ref (m + 7), .int (((wrM P c9).1) 16), .int (((wrM P c9).1) 17), .ref (m + 8)])) ∧ τ9.2 (m + 6) = some (.inl (G.2.1 1, 60, .inl ((wrM P c9).2))) ∧ ∀ q : Nat, ¬ q = m → ¬ q = (m + 6) → τ9.2 q = ω.2 q) 0 0 := by
  refine fw_ofW (cc := cX11_writes) (maxL := 2) (ret := none) (by decide) rfl (Nat.le_of_ble_eq_true rfl) ?_
  intro pP eE sS mI ar9 bl9 meth cD ls hx hb hr hlocks hml hts hown hnm hW hR hl
  have hK := hL.K hW
  have hS : va_S (fwA G) sS.heap sS.heap [] := va_S.rf
  have hin11 : ∀ w ∈ u_ws RX11 TX11 19, w ∈ wsX11_writes := by decide +kernel
  have hl : lv_has ls 2 [(0, .ref m), (1, .int c9)] := hl
  obtain ⟨ln, hln6, hlne, hlnc⟩ := okN_of hln
  refine lv_aload_n hx hb dX11_writes_0 rfl (lv_at hl 0 rfl) ?_
  refine fw_get (v := .ref (m + 6)) (C := RX11) (T := TX11) (N := 19) hx hb hts hin11 hown hK hR m0 rfl 12 (by decide) (hts (.fieldLink RX11 30 "UnreadLeafletsModel" "letters" "[C") (by decide +kernel)) rfl dX11_writes_1 ?_
  refine lv_aload_n hx hb dX11_writes_4 rfl (lv_at hl 0 rfl) ?_
  refine fw_get (v := .int (P.1 13)) (C := RX11) (T := TX11) (N := 19) hx hb hts hin11 hown hK hR m0 rfl 13 (by decide) (hts (.fieldLink RX11 221 "UnreadLeafletsModel" "lined" "I") (by decide +kernel)) rfl dX11_writes_5 ?_
  refine lv_iload_n hx hb dX11_writes_8 rfl (lv_at hl 1 rfl) ?_
  refine lv_i2c hx hb dX11_writes_9 rfl ?_
  have hi_1 : P.1 13 = nI (ln) := by
    show P.1 13 = _
    simp only [pk_mul, nI_add, Nat.add_assoc, hlne]
  refine W.eq (g2 := F0 mI 10 ls [.int ((c9.toUInt32 % 65536).toInt32), .int (nI (ln)), .ref (m + 6)]) (by rw [hi_1]) ?_
  refine fw_cast hx hb hK hR hS m6 (vp_in_nI (by omega) (by omega)) dX11_writes_10 (fun H locs hR hS => ?_)
  rw [show (nI (ln)).toNatClampNeg = ln from nI_clamp (by omega), nar_chC] at hR
  obtain ⟨ω_2, hw_3⟩ : ∃ τ : FWd, τ = (ω.1, va_up ω.2 (m + 6) (some (.inl (G.2.1 1, 60, .inl (upd P.2 ln ((c9.toUInt32 % 65536).toInt32)))))) := ⟨_, rfl⟩
  have hR : fR G ω_2 H := by rw [hw_3]; exact hR
  have f_4 : ω_2.2 (m + 6) = some (.inl (G.2.1 1, 60, .inl (upd P.2 ln ((c9.toUInt32 % 65536).toInt32)))) := by rw [hw_3]; exact va_up_at
  have fr_5 : ∀ q : Nat, ¬ q = (m + 6) → ω_2.2 q = ω.2 q := fun q hq => by rw [hw_3]; exact va_up_off hq
  have z_6 : ω_2.1 = ω.1 := by rw [hw_3]
  refine lv_aload_n hx hb dX11_writes_11 rfl (lv_at hl 0 rfl) ?_
  refine lv_dup hx hb dX11_writes_12 rfl ?_
  have f_7 : ω_2.2 m = some (.inr (13, [.ref (m + 1), .ref (m + 2), .ref (m + 3), .int (P.1 3), .ref (m + 4), .int (P.1 5), .ref (m + 5), .int (P.1 7), .int (P.1 8), .int (P.1 9), .int (P.1 10), .int (P.1 11), .ref (m + 6), .int (P.1 13), .int (P.1 14), .ref (m + 7), .int (P.1 16), .int (P.1 17), .ref (m + 8)])) := (fr_5 m (by omega)).trans m0
  refine fw_get (v := .int (P.1 13)) (C := RX11) (T := TX11) (N := 19) hx hb hts hin11 hown hK hR f_7 rfl 13 (by decide) (hts (.fieldLink RX11 221 "UnreadLeafletsModel" "lined" "I") (by decide +kernel)) rfl dX11_writes_13 ?_
  refine lv_iconst (v := 1) hx hb dX11_writes_16 (by decide) ?_
  refine lv_iadd hx hb dX11_writes_17 ?_
  refine fw_put (v := .int ((P.1 13) + 1)) (C := RX11) (T := TX11) (N := 19) hx hb hts hin11 tyX11 tyX11_ok nmX11 hown hK hR hS f_7 rfl 13 (by decide) (hts (.fieldLink RX11 221 "UnreadLeafletsModel" "lined" "I") (by decide +kernel)) rfl rfl rfl (Nat.le_of_ble_eq_true rfl) dX11_writes_18 (fun H locs hR hS => ?_)
  obtain ⟨ω_8, hw_9⟩ : ∃ τ : FWd, τ = (ω_2.1, va_up ω_2.2 m (some (.inr (13, [.ref (m + 1), .ref (m + 2), .ref (m + 3), .int ((upd P.1 13 ((P.1 13) + 1)) 3), .ref (m + 4), .int ((upd P.1 13 ((P.1 13) + 1)) 5), .ref (m + 5), .int ((upd P.1 13 ((P.1 13) + 1)) 7), .int ((upd P.1 13 ((P.1 13) + 1)) 8), .int ((upd P.1 13 ((P.1 13) + 1)) 9), .int ((upd P.1 13 ((P.1 13) + 1)) 10), .int ((upd P.1 13 ((P.1 13) + 1)) 11), .ref (m + 6), .int ((upd P.1 13 ((P.1 13) + 1)) 13), .int ((upd P.1 13 ((P.1 13) + 1)) 14), .ref (m + 7), .int ((upd P.1 13 ((P.1 13) + 1)) 16), .int ((upd P.1 13 ((P.1 13) + 1)) 17), .ref (m + 8)])))) := ⟨_, rfl⟩
  have hR : fR G ω_8 H := by rw [hw_9]; exact hR
  have f_10 : ω_8.2 m = some (.inr (13, [.ref (m + 1), .ref (m + 2), .ref (m + 3), .int ((upd P.1 13 ((P.1 13) + 1)) 3), .ref (m + 4), .int ((upd P.1 13 ((P.1 13) + 1)) 5), .ref (m + 5), .int ((upd P.1 13 ((P.1 13) + 1)) 7), .int ((upd P.1 13 ((P.1 13) + 1)) 8), .int ((upd P.1 13 ((P.1 13) + 1)) 9), .int ((upd P.1 13 ((P.1 13) + 1)) 10), .int ((upd P.1 13 ((P.1 13) + 1)) 11), .ref (m + 6), .int ((upd P.1 13 ((P.1 13) + 1)) 13), .int ((upd P.1 13 ((P.1 13) + 1)) 14), .ref (m + 7), .int ((upd P.1 13 ((P.1 13) + 1)) 16), .int ((upd P.1 13 ((P.1 13) + 1)) 17), .ref (m + 8)])) := by rw [hw_9]; exact va_up_at
  have fr_11 : ∀ q : Nat, ¬ q = m → ω_8.2 q = ω_2.2 q := fun q hq => by rw [hw_9]; exact va_up_off hq
  have z_12 : ω_8.1 = ω_2.1 := by rw [hw_9]
  have f_13 : ω_8.2 (m + 6) = some (.inl (G.2.1 1, 60, .inl (upd P.2 ln ((c9.toUInt32 % 65536).toInt32)))) := (fr_11 (m + 6) (by omega)).trans f_4
  have fr_14 : ∀ q : Nat, ¬ q = m → ¬ q = (m + 6) → ω_8.2 q = ω.2 q := by
    intro q h0 h1
    rw [fr_11 q (by omega)]
    rw [fr_5 q (by omega)]
  have z_15 : ω_8.1 = ω.1 := by rw [z_12, z_6]
  refine fw_vret hx hb hr hlocks hR hS dX11_writes_21 ⟨rfl, z_15, ?_, ?_, fr_14⟩
  · refine f_10.trans (congrArg some ?_)
    simp only [wrM, hlnc]
  · refine f_13.trans (congrArg some ?_)
    simp only [wrM, hlnc]
def linL (s g lt : Nat → Int32) (lf : Int32) : Nat → (Nat → Int32) × (Nat → Int32)
  | 0 => ((upd s 13 0), lt)
  | k + 1 => if (nI k) ≤ 0 then (if (g (260 + 8 * (cN lf) + k)) = 1 then (if (((g (50 + (cN lf))) >>> ((nI k) &&& 31)) &&& 1) = 1 then (if (nI k) = ((openJ (g (18 + (cN lf))) (cN (g (26 + (cN lf))))) - 1) then (if ((g (18 + (cN lf))) - 1) ≤ (nI k) then ((wrM (wrM (wrM (wrM (wrM (linL s g lt (lf) k) (48 + (g (68 + 8 * (cN lf) + k)))) 42) (48 + (g (132 + 8 * (cN lf) + k)))) 43) 63)) else ((wrM (wrM (wrM (wrM (wrM (wrM (linL s g lt (lf) k) (48 + (g (68 + 8 * (cN lf) + k)))) 42) (48 + (g (132 + 8 * (cN lf) + k)))) 43) 63) 47))) else ((wrM (wrM (wrM (wrM (wrM (linL s g lt (lf) k) (48 + (g (68 + 8 * (cN lf) + k)))) 42) (48 + (g (132 + 8 * (cN lf) + k)))) 43) 63))) else (if (nI k) = ((openJ (g (18 + (cN lf))) (cN (g (26 + (cN lf))))) - 1) then (if ((g (18 + (cN lf))) - 1) ≤ (nI k) then ((wrM (wrM (wrM (wrM (linL s g lt (lf) k) (48 + (g (68 + 8 * (cN lf) + k)))) 42) (48 + (g (132 + 8 * (cN lf) + k)))) 43)) else ((wrM (wrM (wrM (wrM (wrM (linL s g lt (lf) k) (48 + (g (68 + 8 * (cN lf) + k)))) 42) (48 + (g (132 + 8 * (cN lf) + k)))) 43) 47))) else ((wrM (wrM (wrM (wrM (linL s g lt (lf) k) (48 + (g (68 + 8 * (cN lf) + k)))) 42) (48 + (g (132 + 8 * (cN lf) + k)))) 43)))) else (if (((g (50 + (cN lf))) >>> ((nI k) &&& 31)) &&& 1) = 1 then (if (nI k) = ((openJ (g (18 + (cN lf))) (cN (g (26 + (cN lf))))) - 1) then (if ((g (18 + (cN lf))) - 1) ≤ (nI k) then ((wrM (wrM (wrM (wrM (linL s g lt (lf) k) (48 + (g (68 + 8 * (cN lf) + k)))) 42) (48 + (g (132 + 8 * (cN lf) + k)))) 63)) else ((wrM (wrM (wrM (wrM (wrM (linL s g lt (lf) k) (48 + (g (68 + 8 * (cN lf) + k)))) 42) (48 + (g (132 + 8 * (cN lf) + k)))) 63) 47))) else ((wrM (wrM (wrM (wrM (linL s g lt (lf) k) (48 + (g (68 + 8 * (cN lf) + k)))) 42) (48 + (g (132 + 8 * (cN lf) + k)))) 63))) else (if (nI k) = ((openJ (g (18 + (cN lf))) (cN (g (26 + (cN lf))))) - 1) then (if ((g (18 + (cN lf))) - 1) ≤ (nI k) then ((wrM (wrM (wrM (linL s g lt (lf) k) (48 + (g (68 + 8 * (cN lf) + k)))) 42) (48 + (g (132 + 8 * (cN lf) + k))))) else ((wrM (wrM (wrM (wrM (linL s g lt (lf) k) (48 + (g (68 + 8 * (cN lf) + k)))) 42) (48 + (g (132 + 8 * (cN lf) + k)))) 47))) else ((wrM (wrM (wrM (linL s g lt (lf) k) (48 + (g (68 + 8 * (cN lf) + k)))) 42) (48 + (g (132 + 8 * (cN lf) + k)))))))) else (if (g (260 + 8 * (cN lf) + k)) = 1 then (if (((g (50 + (cN lf))) >>> ((nI k) &&& 31)) &&& 1) = 1 then (if (nI k) = ((openJ (g (18 + (cN lf))) (cN (g (26 + (cN lf))))) - 1) then (if ((g (18 + (cN lf))) - 1) ≤ (nI k) then ((wrM (wrM (wrM (wrM (wrM (wrM (linL s g lt (lf) k) 32) (48 + (g (68 + 8 * (cN lf) + k)))) 42) (48 + (g (132 + 8 * (cN lf) + k)))) 43) 63)) else ((wrM (wrM (wrM (wrM (wrM (wrM (wrM (linL s g lt (lf) k) 32) (48 + (g (68 + 8 * (cN lf) + k)))) 42) (48 + (g (132 + 8 * (cN lf) + k)))) 43) 63) 47))) else ((wrM (wrM (wrM (wrM (wrM (wrM (linL s g lt (lf) k) 32) (48 + (g (68 + 8 * (cN lf) + k)))) 42) (48 + (g (132 + 8 * (cN lf) + k)))) 43) 63))) else (if (nI k) = ((openJ (g (18 + (cN lf))) (cN (g (26 + (cN lf))))) - 1) then (if ((g (18 + (cN lf))) - 1) ≤ (nI k) then ((wrM (wrM (wrM (wrM (wrM (linL s g lt (lf) k) 32) (48 + (g (68 + 8 * (cN lf) + k)))) 42) (48 + (g (132 + 8 * (cN lf) + k)))) 43)) else ((wrM (wrM (wrM (wrM (wrM (wrM (linL s g lt (lf) k) 32) (48 + (g (68 + 8 * (cN lf) + k)))) 42) (48 + (g (132 + 8 * (cN lf) + k)))) 43) 47))) else ((wrM (wrM (wrM (wrM (wrM (linL s g lt (lf) k) 32) (48 + (g (68 + 8 * (cN lf) + k)))) 42) (48 + (g (132 + 8 * (cN lf) + k)))) 43)))) else (if (((g (50 + (cN lf))) >>> ((nI k) &&& 31)) &&& 1) = 1 then (if (nI k) = ((openJ (g (18 + (cN lf))) (cN (g (26 + (cN lf))))) - 1) then (if ((g (18 + (cN lf))) - 1) ≤ (nI k) then ((wrM (wrM (wrM (wrM (wrM (linL s g lt (lf) k) 32) (48 + (g (68 + 8 * (cN lf) + k)))) 42) (48 + (g (132 + 8 * (cN lf) + k)))) 63)) else ((wrM (wrM (wrM (wrM (wrM (wrM (linL s g lt (lf) k) 32) (48 + (g (68 + 8 * (cN lf) + k)))) 42) (48 + (g (132 + 8 * (cN lf) + k)))) 63) 47))) else ((wrM (wrM (wrM (wrM (wrM (linL s g lt (lf) k) 32) (48 + (g (68 + 8 * (cN lf) + k)))) 42) (48 + (g (132 + 8 * (cN lf) + k)))) 63))) else (if (nI k) = ((openJ (g (18 + (cN lf))) (cN (g (26 + (cN lf))))) - 1) then (if ((g (18 + (cN lf))) - 1) ≤ (nI k) then ((wrM (wrM (wrM (wrM (linL s g lt (lf) k) 32) (48 + (g (68 + 8 * (cN lf) + k)))) 42) (48 + (g (132 + 8 * (cN lf) + k))))) else ((wrM (wrM (wrM (wrM (wrM (linL s g lt (lf) k) 32) (48 + (g (68 + 8 * (cN lf) + k)))) 42) (48 + (g (132 + 8 * (cN lf) + k)))) 47))) else ((wrM (wrM (wrM (wrM (linL s g lt (lf) k) 32) (48 + (g (68 + 8 * (cN lf) + k)))) 42) (48 + (g (132 + 8 * (cN lf) + k))))))))
def lineM (s g lt : Nat → Int32) (lf : Int32) : Int32 × (Nat → Int32) × (Nat → Int32) := if inB lf 0 (g 0 - 1) then ((((linL s g lt (lf) (cN (g (18 + (cN lf))))).1 13), (upd ((linL s g lt (lf) (cN (g (18 + (cN lf))))).1) 14 0), ((linL s g lt (lf) (cN (g (18 + (cN lf))))).2))) else ((0, (upd s 14 1), lt))
theorem linL_ok (s g lt : Nat → Int32) (lf : Int32) : ∀ k, k < 100 → okN ((linL s g lt lf k).1 13) (7 * k)
  | 0, _ => okN_0
  | k + 1, hk => by
    have h0 := linL_ok s g lt lf k (by omega)
    unfold linL
    repeat' split
    all_goals first
      | exact okN_le (wrM_ok (wrM_ok (wrM_ok h0 (by omega)) (by omega)) (by omega)) (by omega)
      | exact okN_le (wrM_ok (wrM_ok (wrM_ok (wrM_ok h0 (by omega)) (by omega)) (by omega)) (by omega)) (by omega)
      | exact okN_le (wrM_ok (wrM_ok (wrM_ok (wrM_ok (wrM_ok h0 (by omega)) (by omega)) (by omega)) (by omega)) (by omega)) (by omega)
      | exact okN_le (wrM_ok (wrM_ok (wrM_ok (wrM_ok (wrM_ok (wrM_ok h0 (by omega)) (by omega)) (by omega)) (by omega)) (by omega)) (by omega)) (by omega)
      | exact okN_le (wrM_ok (wrM_ok (wrM_ok (wrM_ok (wrM_ok (wrM_ok (wrM_ok h0 (by omega)) (by omega)) (by omega)) (by omega)) (by omega)) (by omega)) (by omega)) (by omega)
set_option maxHeartbeats 4000000 in
set_option maxRecDepth 100000 in
theorem c_X11_line (G : FG) (hL : FL G) (l : Launch) (ω : FWd) (m : Nat) (s g : Nat → Int32) (m0 : ω.2 m = some (.inr (13, [.ref (m + 1), .ref (m + 2), .ref (m + 3), .int (s 3), .ref (m + 4), .int (s 5), .ref (m + 5), .int (s 7), .int (s 8), .int (s 9), .int (s 10), .int (s 11), .ref (m + 6), .int (s 13), .int (s 14), .ref (m + 7), .int (s 16), .int (s 17), .ref (m + 8)]))) (m1 : ω.2 (m + 1) = some (.inl (G.2.1 0, 324, .inl g))) (lt : Nat → Int32) (m6 : ω.2 (m + 6) = some (.inl (G.2.1 1, 60, .inl lt))) (hM : WFM g) (lf : Int32) : FMet G l yX11_line wsX11_line ({ frames := 2, cells := 0, slots := 0, locals := 45 } : Room) [.ref m, .int lf] ω (fun vv9 τ9 => vv9 = some (.int ((lineM s g lt lf).1)) ∧ τ9.1 = ω.1 ∧ τ9.2 m = some (.inr (13, [.ref (m + 1), .ref (m + 2), .ref (m + 3), .int (((lineM s g lt lf).2.1) 3), .ref (m + 4), .int (((lineM s g lt lf).2.1) 5), .ref (m + 5), .int (((lineM s g lt lf).2.1) 7), .int (((lineM s g lt lf).2.1) 8), .int (((lineM s g lt lf).2.1) 9), .int (((lineM s g lt lf).2.1) 10), .int (((lineM s g lt lf).2.1) 11), .ref (m + 6), .int (((lineM s g lt lf).2.1) 13), .int (((lineM s g lt lf).2.1) 14), .ref (m + 7), .int (((lineM s g lt lf).2.1) 16), .int (((lineM s g lt lf).2.1) 17), .ref (m + 8)])) ∧ τ9.2 (m + 6) = some (.inl (G.2.1 1, 60, .inl ((lineM s g lt lf).2.2))) ∧ ∀ q : Nat, ¬ q = m → ¬ q = (m + 6) → τ9.2 q = ω.2 q) 0 0 := by
  refine fw_ofW (cc := cX11_line) (maxL := 4) (ret := (some .int)) (by decide) rfl (Nat.le_of_ble_eq_true rfl) ?_
  intro pP eE sS mI ar9 bl9 meth cD ls hx hb hr hlocks hml hts hown hnm hW hR hl
  have hK := hL.K hW
  have hS : va_S (fwA G) sS.heap sS.heap [] := va_S.rf
  have hin11 : ∀ w ∈ u_ws RX11 TX11 19, w ∈ wsX11_line := by decide +kernel
  have hl : lv_has ls 4 [(0, .ref m), (1, .int lf)] := hl
  obtain ⟨c, hc8, hc, hcc⟩ := okN_of hM.1
  obtain ⟨cc, hd5, hd, hdd⟩ := okN_of hM.2.1
  refine lv_aload_n hx hb dX11_line_0 rfl (lv_at hl 0 rfl) ?_
  refine lv_iload_n hx hb dX11_line_1 rfl (lv_at hl 1 rfl) ?_
  refine fw_call (va_runV (As := [.int lf]) (rest := []) ⟨hx, hb, hml, hown, hts⟩ (c_X11_isLeaflet G hL l ω m s g m0 m1 lf) (cwV 1 hts gX11_line_X11_isLeaflet rfl rfl rfl (by decide +kernel) ⟨Nat.le_of_ble_eq_true rfl, Nat.le_of_ble_eq_true rfl⟩) (fw_preV hW hK hR m0 rfl) rfl rfl hl.1 rfl (lv_room (Nat.le_of_ble_eq_true rfl)) dX11_line_2 ⟨Nat.le_of_ble_eq_true rfl, Nat.le_of_ble_eq_true rfl⟩) hS (fun v_1 ω_2 H locs hq_3 hR hS => ?_)
  obtain ⟨rfl, hq_3⟩ := hq_3
  rw [hq_3] at hR
  refine W.eq (g2 := F0 mI 5 ls [.int (bz (inB lf 0 (g 0 - 1)))]) rfl ?_
  refine lv_if_ne (tgt := 14) hx hb dX11_line_5 (by decide) (fun c_4 => ?_) (fun c_4 => ?_)
  · skip
    have c_4 := bz_ne c_4
    obtain ⟨j, hj2, rfl⟩ := in_c hc hc8 c_4
    have hcj : cN (nI j) = j := cN_nI (by omega)
    obtain ⟨n, hn8, hn, hnn⟩ := okN_of (hM.2.2 j (by rw [hcc]; exact hj2)).1
    obtain ⟨f, hf3, hff, hfn⟩ := okN_of (hM.2.2 j (by rw [hcc]; exact hj2)).2.1
    have hkd : ∀ q, q < n → g (68 + 8 * j + q) = nI (cN (g (68 + 8 * j + q))) ∧ cN (g (68 + 8 * j + q)) < 6 := fun q hq => by have h9 := (hM.2.2 j (by rw [hcc]; exact hj2)).2.2 q (by rw [hnn]; exact hq); exact ⟨h9.1, Nat.lt_succ_of_le h9.2⟩
    refine lv_aload_n hx hb dX11_line_14 rfl (lv_at hl 0 rfl) ?_
    refine lv_iconst (v := 0) hx hb dX11_line_15 (by decide) ?_
    refine fw_put (v := .int 0) (C := RX11) (T := TX11) (N := 19) hx hb hts hin11 tyX11 tyX11_ok nmX11 hown hK hR hS m0 rfl 13 (by decide) (hts (.fieldLink RX11 221 "UnreadLeafletsModel" "lined" "I") (by decide +kernel)) rfl rfl rfl (Nat.le_of_ble_eq_true rfl) dX11_line_16 (fun H locs hR hS => ?_)
    obtain ⟨ω_5, hw_6⟩ : ∃ τ : FWd, τ = (ω.1, va_up ω.2 m (some (.inr (13, [.ref (m + 1), .ref (m + 2), .ref (m + 3), .int ((upd s 13 0) 3), .ref (m + 4), .int ((upd s 13 0) 5), .ref (m + 5), .int ((upd s 13 0) 7), .int ((upd s 13 0) 8), .int ((upd s 13 0) 9), .int ((upd s 13 0) 10), .int ((upd s 13 0) 11), .ref (m + 6), .int ((upd s 13 0) 13), .int ((upd s 13 0) 14), .ref (m + 7), .int ((upd s 13 0) 16), .int ((upd s 13 0) 17), .ref (m + 8)])))) := ⟨_, rfl⟩
    have hR : fR G ω_5 H := by rw [hw_6]; exact hR
    have f_7 : ω_5.2 m = some (.inr (13, [.ref (m + 1), .ref (m + 2), .ref (m + 3), .int ((upd s 13 0) 3), .ref (m + 4), .int ((upd s 13 0) 5), .ref (m + 5), .int ((upd s 13 0) 7), .int ((upd s 13 0) 8), .int ((upd s 13 0) 9), .int ((upd s 13 0) 10), .int ((upd s 13 0) 11), .ref (m + 6), .int ((upd s 13 0) 13), .int ((upd s 13 0) 14), .ref (m + 7), .int ((upd s 13 0) 16), .int ((upd s 13 0) 17), .ref (m + 8)])) := by rw [hw_6]; exact va_up_at
    have fr_8 : ∀ q : Nat, ¬ q = m → ω_5.2 q = ω.2 q := fun q hq => by rw [hw_6]; exact va_up_off hq
    have z_9 : ω_5.1 = ω.1 := by rw [hw_6]
    refine lv_iconst (v := 0) hx hb dX11_line_19 (by decide) ?_
    refine lv_istore_n (lv' := [(2, .int 0), (0, .ref m), (1, .int (nI j))]) hx hb dX11_line_20 rfl hl (by decide) rfl (fun ls hl => ?_)
    have f_10 : ω_5.2 (m + 6) = some (.inl (G.2.1 1, 60, .inl lt)) := (fr_8 (m + 6) (by omega)).trans m6
    have hi_11 : linL s g lt (nI j) 0 = (((upd s 13 0), lt) : (Nat → Int32) × (Nat → Int32)) := by simp only [linL, hcc, hdd, hcj, hnn, hfn]
    have loop_12 : ∀ (fu : Nat) (k : Nat) (τk : FWd), (n - k) < fu → (k ≤ n) → τk.1 = ω_5.1 → τk.2 m = some (.inr (13, [.ref (m + 1), .ref (m + 2), .ref (m + 3), .int (((linL s g lt (nI j) k).1) 3), .ref (m + 4), .int (((linL s g lt (nI j) k).1) 5), .ref (m + 5), .int (((linL s g lt (nI j) k).1) 7), .int (((linL s g lt (nI j) k).1) 8), .int (((linL s g lt (nI j) k).1) 9), .int (((linL s g lt (nI j) k).1) 10), .int (((linL s g lt (nI j) k).1) 11), .ref (m + 6), .int (((linL s g lt (nI j) k).1) 13), .int (((linL s g lt (nI j) k).1) 14), .ref (m + 7), .int (((linL s g lt (nI j) k).1) 16), .int (((linL s g lt (nI j) k).1) 17), .ref (m + 8)])) → τk.2 (m + 6) = some (.inl (G.2.1 1, 60, .inl ((linL s g lt (nI j) k).2))) → (∀ q : Nat, ¬ q = m → ¬ q = (m + 6) → τk.2 q = ω_5.2 q) → ∀ (H : Heap) (locs : List Loc) (ls : Array Slot), fR G τk H → va_S (fwA G) sS.heap H locs → lv_has ls 4 [(2, .int (nI k)), (0, .ref m), (1, .int (nI j))] → W pP l eE ({ frames := 2, cells := 0, slots := 0, locals := 45 } : Room) sS mI ar9 bl9 meth cD H locs 0 0 (MQ bl9 (fQ G (fun vv9 τ9 => vv9 = some (.int ((lineM s g lt (nI j)).1)) ∧ τ9.1 = ω.1 ∧ τ9.2 m = some (.inr (13, [.ref (m + 1), .ref (m + 2), .ref (m + 3), .int (((lineM s g lt (nI j)).2.1) 3), .ref (m + 4), .int (((lineM s g lt (nI j)).2.1) 5), .ref (m + 5), .int (((lineM s g lt (nI j)).2.1) 7), .int (((lineM s g lt (nI j)).2.1) 8), .int (((lineM s g lt (nI j)).2.1) 9), .int (((lineM s g lt (nI j)).2.1) 10), .int (((lineM s g lt (nI j)).2.1) 11), .ref (m + 6), .int (((lineM s g lt (nI j)).2.1) 13), .int (((lineM s g lt (nI j)).2.1) 14), .ref (m + 7), .int (((lineM s g lt (nI j)).2.1) 16), .int (((lineM s g lt (nI j)).2.1) 17), .ref (m + 8)])) ∧ τ9.2 (m + 6) = some (.inl (G.2.1 1, 60, .inl ((lineM s g lt (nI j)).2.2))) ∧ ∀ q : Nat, ¬ q = m → ¬ q = (m + 6) → τ9.2 q = ω.2 q)) ar9 sS 0 0 (fwA G)) (F0 mI 21 ls []) := by
      intro fu
      induction fu with
      | zero => intro k τk hfu; exact absurd hfu (Nat.not_lt_zero _)
      | succ fu ih =>
        intro k τk hfu hkk hzτk wk0 wk1 hfrτk H locs ls hR hS hl
        refine lv_iload_n hx hb dX11_line_21 rfl (lv_at hl 0 rfl) ?_
        refine lv_aload_n hx hb dX11_line_22 rfl (lv_at hl 1 rfl) ?_
        refine fw_get (v := .ref (m + 1)) (C := RX11) (T := TX11) (N := 19) hx hb hts hin11 hown hK hR wk0 rfl 0 (by decide) (hts (.fieldLink RX11 7 "UnreadLeafletsModel" "g" "[I") (by decide +kernel)) rfl dX11_line_23 ?_
        refine lv_bipush (v := 18) hx hb dX11_line_26 (by decide) ?_
        refine lv_iload_n hx hb dX11_line_28 rfl (lv_at hl 2 rfl) ?_
        refine lv_iadd hx hb dX11_line_29 ?_
        have hi_13 : 18 + (nI j) = nI (18 + j) := by
          show (nI 18) + (nI j) = _
          simp only [pk_mul, nI_add, Nat.add_assoc, hc, hd, hn, hff]
        refine W.eq (g2 := F0 mI 30 ls [.int (nI (18 + j)), .ref (m + 1), .int (nI k)]) (by rw [hi_13]) ?_
        have f_14 : ω_5.2 (m + 1) = some (.inl (G.2.1 0, 324, .inl g)) := (fr_8 (m + 1) (by omega)).trans m1
        have f_15 : τk.2 (m + 1) = some (.inl (G.2.1 0, 324, .inl g)) := (hfrτk (m + 1) (by omega) (by omega)).trans f_14
        refine fw_iald hx hb hK hR f_15 (vp_in_nI (by omega) (by omega)) dX11_line_30 ?_
        refine W.eq (g2 := F0 mI 31 ls [.int (g (18 + j)), .int (nI k)]) (by rw [nI_clamp (by omega)]) ?_
        refine lv_icmp_ge (tgt := 171) hx hb dX11_line_31 (by decide) (fun c_16 => ?_) (fun c_16 => ?_)
        · skip
          have hj9 := lp_ge (n := n) hn c_16 (by omega) (by omega)
          have hk9 : n = k := by omega
          subst hk9
          refine lv_aload_n hx hb dX11_line_171 rfl (lv_at hl 1 rfl) ?_
          refine lv_aload_n hx hb dX11_line_172 rfl (lv_at hl 1 rfl) ?_
          refine fw_get (v := .int ((linL s g lt (nI j) n).1 13)) (C := RX11) (T := TX11) (N := 19) hx hb hts hin11 hown hK hR wk0 rfl 13 (by decide) (hts (.fieldLink RX11 221 "UnreadLeafletsModel" "lined" "I") (by decide +kernel)) rfl dX11_line_173 ?_
          refine fw_call (va_runV (As := [.int ((linL s g lt (nI j) n).1 13)]) (rest := []) ⟨hx, hb, hml, hown, hts⟩ (c_X11_done G hL l τk m ((linL s g lt (nI j) n).1) g wk0 f_15 ((linL s g lt (nI j) n).1 13)) (cwV 1 hts gX11_line_X11_done rfl rfl rfl (by decide +kernel) ⟨Nat.le_of_ble_eq_true rfl, Nat.le_of_ble_eq_true rfl⟩) (fw_preV hW hK hR wk0 rfl) rfl rfl hl.1 rfl (lv_room (Nat.le_of_ble_eq_true rfl)) dX11_line_176 ⟨Nat.le_of_ble_eq_true rfl, Nat.le_of_ble_eq_true rfl⟩) hS (fun v_17 ω_18 H locs hq_19 hR hS => ?_)
          obtain ⟨rfl, z_20, f_22, fr_21⟩ := hq_19
          refine W.eq (g2 := F0 mI 179 ls [.int ((linL s g lt (nI j) n).1 13)]) rfl ?_
          have f_23 : ω_18.2 (m + 6) = some (.inl (G.2.1 1, 60, .inl ((linL s g lt (nI j) n).2))) := (fr_21 (m + 6) (by omega)).trans wk1
          have fr_24 : ∀ q : Nat, ¬ q = m → ¬ q = (m + 6) → ω_18.2 q = ω.2 q := by
            intro q h0 h1
            rw [fr_21 q (by omega)]
            rw [hfrτk q (by omega) (by omega)]
            rw [fr_8 q (by omega)]
          have z_25 : ω_18.1 = ω.1 := by rw [z_20, hzτk, z_9]
          have hr_26 : lineM s g lt (nI j) = ((((linL s g lt (nI j) n).1 13), (upd ((linL s g lt (nI j) n).1) 14 0), ((linL s g lt (nI j) n).2)) : Int32 × (Nat → Int32) × (Nat → Int32)) := by
            simp only [lineM, hcc, hdd, hcj, hnn, hfn]
            rw [if_pos c_4]
          refine fw_iret hx hb hr hlocks hR hS dX11_line_179 ?_
          rw [hr_26]
          exact ⟨rfl, z_25, f_22, f_23, fr_24⟩
        · skip
          have hk2 := lp_lt (n := n) hn c_16 (by omega) (by omega)
          refine lv_bipush (v := 8) hx hb dX11_line_34 (by decide) ?_
          refine lv_iload_n hx hb dX11_line_36 rfl (lv_at hl 2 rfl) ?_
          refine lv_imul hx hb dX11_line_37 ?_
          refine lv_iload_n hx hb dX11_line_38 rfl (lv_at hl 0 rfl) ?_
          refine lv_iadd hx hb dX11_line_39 ?_
          have hi_27 : (8 * (nI j)) + (nI k) = nI (8 * j + k) := by
            show ((nI 8) * (nI j)) + (nI k) = _
            simp only [pk_mul, nI_add, Nat.add_assoc, hc, hd, hn, hff]
          refine W.eq (g2 := F0 mI 40 ls [.int (nI (8 * j + k))]) (by rw [hi_27]) ?_
          refine lv_istore_n (lv' := [(3, .int (nI (8 * j + k))), (2, .int (nI k)), (0, .ref m), (1, .int (nI j))]) hx hb dX11_line_40 rfl hl (by decide) rfl (fun ls hl => ?_)
          refine lv_iload_n hx hb dX11_line_41 rfl (lv_at hl 1 rfl) ?_
          refine lv_if_le (tgt := 51) hx hb dX11_line_42 (by decide) (fun c_28 => ?_) (fun c_28 => ?_)
          · skip
            refine lv_aload_n hx hb dX11_line_51 rfl (lv_at hl 2 rfl) ?_
            refine lv_bipush (v := 48) hx hb dX11_line_52 (by decide) ?_
            refine lv_aload_n hx hb dX11_line_54 rfl (lv_at hl 2 rfl) ?_
            refine fw_get (v := .ref (m + 1)) (C := RX11) (T := TX11) (N := 19) hx hb hts hin11 hown hK hR wk0 rfl 0 (by decide) (hts (.fieldLink RX11 7 "UnreadLeafletsModel" "g" "[I") (by decide +kernel)) rfl dX11_line_55 ?_
            refine lv_bipush (v := 68) hx hb dX11_line_58 (by decide) ?_
            refine lv_iload_n hx hb dX11_line_60 rfl (lv_at hl 0 rfl) ?_
            refine lv_iadd hx hb dX11_line_61 ?_
            have hi_29 : 68 + (nI (8 * j + k)) = nI (68 + 8 * j + k) := by
              show (nI 68) + (nI (8 * j + k)) = _
              simp only [pk_mul, nI_add, Nat.add_assoc, hc, hd, hn, hff]
            refine W.eq (g2 := F0 mI 62 ls [.int (nI (68 + 8 * j + k)), .ref (m + 1), .int 48, .ref m]) (by rw [hi_29]) ?_
            refine fw_iald hx hb hK hR f_15 (vp_in_nI (by omega) (by omega)) dX11_line_62 ?_
            refine W.eq (g2 := F0 mI 63 ls [.int (g (68 + 8 * j + k)), .int 48, .ref m]) (by rw [nI_clamp (by omega)]) ?_
            refine lv_iadd hx hb dX11_line_63 ?_
            refine fw_call (va_runV (As := [.int (48 + (g (68 + 8 * j + k)))]) (rest := []) ⟨hx, hb, hml, hown, hts⟩ (c_X11_writes G hL l τk m (linL s g lt (nI j) k) wk0 wk1 (okN_le (linL_ok s g lt (nI j) k (by omega)) (by omega)) (48 + (g (68 + 8 * j + k)))) (cwV 1 hts gX11_line_X11_writes rfl rfl rfl (by decide +kernel) ⟨Nat.le_of_ble_eq_true rfl, Nat.le_of_ble_eq_true rfl⟩) (fw_preV hW hK hR wk0 rfl) rfl rfl hl.1 rfl (lv_room (Nat.le_of_ble_eq_true rfl)) dX11_line_64 ⟨Nat.le_of_ble_eq_true rfl, Nat.le_of_ble_eq_true rfl⟩) hS (fun v_30 ω_31 H locs hq_32 hR hS => ?_)
            obtain ⟨rfl, z_33, f_35, f_36, fr_34⟩ := hq_32
            refine W.eq (g2 := F0 mI 67 ls []) rfl ?_
            refine lv_aload_n hx hb dX11_line_67 rfl (lv_at hl 2 rfl) ?_
            refine lv_bipush (v := 42) hx hb dX11_line_68 (by decide) ?_
            refine fw_call (va_runV (As := [.int 42]) (rest := []) ⟨hx, hb, hml, hown, hts⟩ (c_X11_writes G hL l ω_31 m (wrM (linL s g lt (nI j) k) (48 + (g (68 + 8 * j + k)))) f_35 f_36 (okN_le (wrM_ok (linL_ok s g lt (nI j) k (by omega)) (by omega)) (by omega)) 42) (cwV 1 hts gX11_line_X11_writes rfl rfl rfl (by decide +kernel) ⟨Nat.le_of_ble_eq_true rfl, Nat.le_of_ble_eq_true rfl⟩) (fw_preV hW hK hR f_35 rfl) rfl rfl hl.1 rfl (lv_room (Nat.le_of_ble_eq_true rfl)) dX11_line_70 ⟨Nat.le_of_ble_eq_true rfl, Nat.le_of_ble_eq_true rfl⟩) hS (fun v_37 ω_38 H locs hq_39 hR hS => ?_)
            obtain ⟨rfl, z_40, f_42, f_43, fr_41⟩ := hq_39
            refine W.eq (g2 := F0 mI 73 ls []) rfl ?_
            refine lv_aload_n hx hb dX11_line_73 rfl (lv_at hl 2 rfl) ?_
            refine lv_bipush (v := 48) hx hb dX11_line_74 (by decide) ?_
            refine lv_aload_n hx hb dX11_line_76 rfl (lv_at hl 2 rfl) ?_
            refine fw_get (v := .ref (m + 1)) (C := RX11) (T := TX11) (N := 19) hx hb hts hin11 hown hK hR f_42 rfl 0 (by decide) (hts (.fieldLink RX11 7 "UnreadLeafletsModel" "g" "[I") (by decide +kernel)) rfl dX11_line_77 ?_
            refine lv_sipush (v := 132) hx hb dX11_line_80 (by decide) ?_
            refine lv_iload_n hx hb dX11_line_83 rfl (lv_at hl 0 rfl) ?_
            refine lv_iadd hx hb dX11_line_84 ?_
            have hi_44 : 132 + (nI (8 * j + k)) = nI (132 + 8 * j + k) := by
              show (nI 132) + (nI (8 * j + k)) = _
              simp only [pk_mul, nI_add, Nat.add_assoc, hc, hd, hn, hff]
            refine W.eq (g2 := F0 mI 85 ls [.int (nI (132 + 8 * j + k)), .ref (m + 1), .int 48, .ref m]) (by rw [hi_44]) ?_
            have f_45 : ω_31.2 (m + 1) = some (.inl (G.2.1 0, 324, .inl g)) := (fr_34 (m + 1) (by omega) (by omega)).trans f_15
            have f_46 : ω_38.2 (m + 1) = some (.inl (G.2.1 0, 324, .inl g)) := (fr_41 (m + 1) (by omega) (by omega)).trans f_45
            refine fw_iald hx hb hK hR f_46 (vp_in_nI (by omega) (by omega)) dX11_line_85 ?_
            refine W.eq (g2 := F0 mI 86 ls [.int (g (132 + 8 * j + k)), .int 48, .ref m]) (by rw [nI_clamp (by omega)]) ?_
            refine lv_iadd hx hb dX11_line_86 ?_
            refine fw_call (va_runV (As := [.int (48 + (g (132 + 8 * j + k)))]) (rest := []) ⟨hx, hb, hml, hown, hts⟩ (c_X11_writes G hL l ω_38 m (wrM (wrM (linL s g lt (nI j) k) (48 + (g (68 + 8 * j + k)))) 42) f_42 f_43 (okN_le (wrM_ok (wrM_ok (linL_ok s g lt (nI j) k (by omega)) (by omega)) (by omega)) (by omega)) (48 + (g (132 + 8 * j + k)))) (cwV 1 hts gX11_line_X11_writes rfl rfl rfl (by decide +kernel) ⟨Nat.le_of_ble_eq_true rfl, Nat.le_of_ble_eq_true rfl⟩) (fw_preV hW hK hR f_42 rfl) rfl rfl hl.1 rfl (lv_room (Nat.le_of_ble_eq_true rfl)) dX11_line_87 ⟨Nat.le_of_ble_eq_true rfl, Nat.le_of_ble_eq_true rfl⟩) hS (fun v_47 ω_48 H locs hq_49 hR hS => ?_)
            obtain ⟨rfl, z_50, f_52, f_53, fr_51⟩ := hq_49
            refine W.eq (g2 := F0 mI 90 ls []) rfl ?_
            refine lv_aload_n hx hb dX11_line_90 rfl (lv_at hl 2 rfl) ?_
            refine fw_get (v := .ref (m + 1)) (C := RX11) (T := TX11) (N := 19) hx hb hts hin11 hown hK hR f_52 rfl 0 (by decide) (hts (.fieldLink RX11 7 "UnreadLeafletsModel" "g" "[I") (by decide +kernel)) rfl dX11_line_91 ?_
            refine lv_sipush (v := 260) hx hb dX11_line_94 (by decide) ?_
            refine lv_iload_n hx hb dX11_line_97 rfl (lv_at hl 0 rfl) ?_
            refine lv_iadd hx hb dX11_line_98 ?_
            have hi_54 : 260 + (nI (8 * j + k)) = nI (260 + 8 * j + k) := by
              show (nI 260) + (nI (8 * j + k)) = _
              simp only [pk_mul, nI_add, Nat.add_assoc, hc, hd, hn, hff]
            refine W.eq (g2 := F0 mI 99 ls [.int (nI (260 + 8 * j + k)), .ref (m + 1)]) (by rw [hi_54]) ?_
            have f_55 : ω_48.2 (m + 1) = some (.inl (G.2.1 0, 324, .inl g)) := (fr_51 (m + 1) (by omega) (by omega)).trans f_46
            refine fw_iald hx hb hK hR f_55 (vp_in_nI (by omega) (by omega)) dX11_line_99 ?_
            refine W.eq (g2 := F0 mI 100 ls [.int (g (260 + 8 * j + k))]) (by rw [nI_clamp (by omega)]) ?_
            refine lv_iconst (v := 1) hx hb dX11_line_100 (by decide) ?_
            refine lv_icmp_ne (tgt := 110) hx hb dX11_line_101 (by decide) (fun c_56 => ?_) (fun c_56 => ?_)
            · skip
              refine lv_aload_n hx hb dX11_line_110 rfl (lv_at hl 2 rfl) ?_
              refine fw_get (v := .ref (m + 1)) (C := RX11) (T := TX11) (N := 19) hx hb hts hin11 hown hK hR f_52 rfl 0 (by decide) (hts (.fieldLink RX11 7 "UnreadLeafletsModel" "g" "[I") (by decide +kernel)) rfl dX11_line_111 ?_
              refine lv_bipush (v := 50) hx hb dX11_line_114 (by decide) ?_
              refine lv_iload_n hx hb dX11_line_116 rfl (lv_at hl 3 rfl) ?_
              refine lv_iadd hx hb dX11_line_117 ?_
              have hi_57 : 50 + (nI j) = nI (50 + j) := by
                show (nI 50) + (nI j) = _
                simp only [pk_mul, nI_add, Nat.add_assoc, hc, hd, hn, hff]
              refine W.eq (g2 := F0 mI 118 ls [.int (nI (50 + j)), .ref (m + 1)]) (by rw [hi_57]) ?_
              refine fw_iald hx hb hK hR f_55 (vp_in_nI (by omega) (by omega)) dX11_line_118 ?_
              refine W.eq (g2 := F0 mI 119 ls [.int (g (50 + j))]) (by rw [nI_clamp (by omega)]) ?_
              refine lv_iload_n hx hb dX11_line_119 rfl (lv_at hl 1 rfl) ?_
              refine lv_ishr hx hb dX11_line_120 ?_
              refine lv_iconst (v := 1) hx hb dX11_line_121 (by decide) ?_
              refine lv_iand hx hb dX11_line_122 ?_
              refine lv_iconst (v := 1) hx hb dX11_line_123 (by decide) ?_
              refine lv_icmp_ne (tgt := 133) hx hb dX11_line_124 (by decide) (fun c_58 => ?_) (fun c_58 => ?_)
              · skip
                refine lv_iload_n hx hb dX11_line_133 rfl (lv_at hl 1 rfl) ?_
                refine lv_aload_n hx hb dX11_line_134 rfl (lv_at hl 2 rfl) ?_
                refine lv_iload_n hx hb dX11_line_135 rfl (lv_at hl 3 rfl) ?_
                refine fw_call (va_runV (As := [.int (nI j)]) (rest := [.int (nI k)]) ⟨hx, hb, hml, hown, hts⟩ (c_X11_open G hL l ω_48 m ((wrM (wrM (wrM (linL s g lt (nI j) k) (48 + (g (68 + 8 * j + k)))) 42) (48 + (g (132 + 8 * j + k)))).1) g f_52 f_55 j (by omega) f hf3 hff) (cwV 1 hts gX11_line_X11_open rfl rfl rfl (by decide +kernel) ⟨Nat.le_of_ble_eq_true rfl, Nat.le_of_ble_eq_true rfl⟩) (fw_preV hW hK hR f_52 rfl) rfl rfl hl.1 rfl (lv_room (Nat.le_of_ble_eq_true rfl)) dX11_line_136 ⟨Nat.le_of_ble_eq_true rfl, Nat.le_of_ble_eq_true rfl⟩) hS (fun v_59 ω_60 H locs hq_61 hR hS => ?_)
                obtain ⟨rfl, hq_61⟩ := hq_61
                rw [hq_61] at hR
                refine W.eq (g2 := F0 mI 139 ls [.int (openJ (g (18 + j)) f), .int (nI k)]) rfl ?_
                refine lv_iconst (v := 1) hx hb dX11_line_139 (by decide) ?_
                refine lv_isub hx hb dX11_line_140 ?_
                refine lv_icmp_ne (tgt := 165) hx hb dX11_line_141 (by decide) (fun c_62 => ?_) (fun c_62 => ?_)
                · skip
                  obtain ⟨x_63, ex_63⟩ : ∃ y : Int32, y = (nI k) + 1 := ⟨_, rfl⟩
                  refine lv_iinc (v := x_63) (lv' := [(2, .int x_63), (3, .int (nI (8 * j + k))), (0, .ref m), (1, .int (nI j))]) hx hb dX11_line_165 hl (k := 1) rfl (by rw [ex_63]; rfl) (by decide) rfl (fun ls hl => ?_)
                  refine lv_goto (tgt := 21) hx hb dX11_line_168 (by decide) ?_
                  have hr_64 : linL s g lt (nI j) (k + 1) = ((wrM (wrM (wrM (linL s g lt (nI j) k) (48 + (g (68 + 8 * j + k)))) 42) (48 + (g (132 + 8 * j + k)))) : (Nat → Int32) × (Nat → Int32)) := by
                    simp only [linL, hcc, hdd, hcj, hnn, hfn, ex_63]
                    rw [if_pos c_28, if_neg c_56, if_neg c_58, if_neg c_62]
                  have el_2 : x_63 = nI (k + 1) := by rw [ex_63]; exact nI_1 k
                  have hl := lv_sub (l' := [(2, .int x_63), (0, .ref m), (1, .int (nI j))]) hl [0, 2, 3] rfl
                  rw [el_2] at hl
                  have wf_65 : ω_48.2 m = some (.inr (13, [.ref (m + 1), .ref (m + 2), .ref (m + 3), .int (((linL s g lt (nI j) (k + 1)).1) 3), .ref (m + 4), .int (((linL s g lt (nI j) (k + 1)).1) 5), .ref (m + 5), .int (((linL s g lt (nI j) (k + 1)).1) 7), .int (((linL s g lt (nI j) (k + 1)).1) 8), .int (((linL s g lt (nI j) (k + 1)).1) 9), .int (((linL s g lt (nI j) (k + 1)).1) 10), .int (((linL s g lt (nI j) (k + 1)).1) 11), .ref (m + 6), .int (((linL s g lt (nI j) (k + 1)).1) 13), .int (((linL s g lt (nI j) (k + 1)).1) 14), .ref (m + 7), .int (((linL s g lt (nI j) (k + 1)).1) 16), .int (((linL s g lt (nI j) (k + 1)).1) 17), .ref (m + 8)])) := f_52.trans (congrArg some (by rw [hr_64]))
                  have wf_66 : ω_48.2 (m + 6) = some (.inl (G.2.1 1, 60, .inl ((linL s g lt (nI j) (k + 1)).2))) := f_53.trans (congrArg some (by rw [hr_64]))
                  have fr_67 : ∀ q : Nat, ¬ q = m → ¬ q = (m + 6) → ω_48.2 q = ω_5.2 q := by
                    intro q h0 h1
                    rw [fr_51 q (by omega) (by omega)]
                    rw [fr_41 q (by omega) (by omega)]
                    rw [fr_34 q (by omega) (by omega)]
                    rw [hfrτk q (by omega) (by omega)]
                  have z_68 : ω_48.1 = ω_5.1 := by rw [z_50, z_40, z_33, hzτk]
                  exact ih (k + 1) ω_48 (by omega) (by first | assumption | omega | (simp; done)) z_68 wf_65 wf_66 fr_67 _ _ _ hR hS hl
                · skip
                  refine lv_iload_n hx hb dX11_line_144 rfl (lv_at hl 1 rfl) ?_
                  refine lv_aload_n hx hb dX11_line_145 rfl (lv_at hl 2 rfl) ?_
                  refine fw_get (v := .ref (m + 1)) (C := RX11) (T := TX11) (N := 19) hx hb hts hin11 hown hK hR f_52 rfl 0 (by decide) (hts (.fieldLink RX11 7 "UnreadLeafletsModel" "g" "[I") (by decide +kernel)) rfl dX11_line_146 ?_
                  refine lv_bipush (v := 18) hx hb dX11_line_149 (by decide) ?_
                  refine lv_iload_n hx hb dX11_line_151 rfl (lv_at hl 3 rfl) ?_
                  refine lv_iadd hx hb dX11_line_152 ?_
                  have hi_69 : 18 + (nI j) = nI (18 + j) := by
                    show (nI 18) + (nI j) = _
                    simp only [pk_mul, nI_add, Nat.add_assoc, hc, hd, hn, hff]
                  refine W.eq (g2 := F0 mI 153 ls [.int (nI (18 + j)), .ref (m + 1), .int (nI k)]) (by rw [hi_69]) ?_
                  refine fw_iald hx hb hK hR f_55 (vp_in_nI (by omega) (by omega)) dX11_line_153 ?_
                  refine W.eq (g2 := F0 mI 154 ls [.int (g (18 + j)), .int (nI k)]) (by rw [nI_clamp (by omega)]) ?_
                  refine lv_iconst (v := 1) hx hb dX11_line_154 (by decide) ?_
                  refine lv_isub hx hb dX11_line_155 ?_
                  refine lv_icmp_ge (tgt := 165) hx hb dX11_line_156 (by decide) (fun c_70 => ?_) (fun c_70 => ?_)
                  · skip
                    obtain ⟨x_71, ex_71⟩ : ∃ y : Int32, y = (nI k) + 1 := ⟨_, rfl⟩
                    refine lv_iinc (v := x_71) (lv' := [(2, .int x_71), (3, .int (nI (8 * j + k))), (0, .ref m), (1, .int (nI j))]) hx hb dX11_line_165 hl (k := 1) rfl (by rw [ex_71]; rfl) (by decide) rfl (fun ls hl => ?_)
                    refine lv_goto (tgt := 21) hx hb dX11_line_168 (by decide) ?_
                    have hr_72 : linL s g lt (nI j) (k + 1) = ((wrM (wrM (wrM (linL s g lt (nI j) k) (48 + (g (68 + 8 * j + k)))) 42) (48 + (g (132 + 8 * j + k)))) : (Nat → Int32) × (Nat → Int32)) := by
                      simp only [linL, hcc, hdd, hcj, hnn, hfn, ex_71]
                      rw [if_pos c_28, if_neg c_56, if_neg c_58, if_pos c_62, if_pos c_70]
                    have el_2 : x_71 = nI (k + 1) := by rw [ex_71]; exact nI_1 k
                    have hl := lv_sub (l' := [(2, .int x_71), (0, .ref m), (1, .int (nI j))]) hl [0, 2, 3] rfl
                    rw [el_2] at hl
                    have wf_73 : ω_48.2 m = some (.inr (13, [.ref (m + 1), .ref (m + 2), .ref (m + 3), .int (((linL s g lt (nI j) (k + 1)).1) 3), .ref (m + 4), .int (((linL s g lt (nI j) (k + 1)).1) 5), .ref (m + 5), .int (((linL s g lt (nI j) (k + 1)).1) 7), .int (((linL s g lt (nI j) (k + 1)).1) 8), .int (((linL s g lt (nI j) (k + 1)).1) 9), .int (((linL s g lt (nI j) (k + 1)).1) 10), .int (((linL s g lt (nI j) (k + 1)).1) 11), .ref (m + 6), .int (((linL s g lt (nI j) (k + 1)).1) 13), .int (((linL s g lt (nI j) (k + 1)).1) 14), .ref (m + 7), .int (((linL s g lt (nI j) (k + 1)).1) 16), .int (((linL s g lt (nI j) (k + 1)).1) 17), .ref (m + 8)])) := f_52.trans (congrArg some (by rw [hr_72]))
                    have wf_74 : ω_48.2 (m + 6) = some (.inl (G.2.1 1, 60, .inl ((linL s g lt (nI j) (k + 1)).2))) := f_53.trans (congrArg some (by rw [hr_72]))
                    have fr_75 : ∀ q : Nat, ¬ q = m → ¬ q = (m + 6) → ω_48.2 q = ω_5.2 q := by
                      intro q h0 h1
                      rw [fr_51 q (by omega) (by omega)]
                      rw [fr_41 q (by omega) (by omega)]
                      rw [fr_34 q (by omega) (by omega)]
                      rw [hfrτk q (by omega) (by omega)]
                    have z_76 : ω_48.1 = ω_5.1 := by rw [z_50, z_40, z_33, hzτk]
                    exact ih (k + 1) ω_48 (by omega) (by first | assumption | omega | (simp; done)) z_76 wf_73 wf_74 fr_75 _ _ _ hR hS hl
                  · skip
                    refine lv_aload_n hx hb dX11_line_159 rfl (lv_at hl 2 rfl) ?_
                    refine lv_bipush (v := 47) hx hb dX11_line_160 (by decide) ?_
                    refine fw_call (va_runV (As := [.int 47]) (rest := []) ⟨hx, hb, hml, hown, hts⟩ (c_X11_writes G hL l ω_48 m (wrM (wrM (wrM (linL s g lt (nI j) k) (48 + (g (68 + 8 * j + k)))) 42) (48 + (g (132 + 8 * j + k)))) f_52 f_53 (okN_le (wrM_ok (wrM_ok (wrM_ok (linL_ok s g lt (nI j) k (by omega)) (by omega)) (by omega)) (by omega)) (by omega)) 47) (cwV 1 hts gX11_line_X11_writes rfl rfl rfl (by decide +kernel) ⟨Nat.le_of_ble_eq_true rfl, Nat.le_of_ble_eq_true rfl⟩) (fw_preV hW hK hR f_52 rfl) rfl rfl hl.1 rfl (lv_room (Nat.le_of_ble_eq_true rfl)) dX11_line_162 ⟨Nat.le_of_ble_eq_true rfl, Nat.le_of_ble_eq_true rfl⟩) hS (fun v_77 ω_78 H locs hq_79 hR hS => ?_)
                    obtain ⟨rfl, z_80, f_82, f_83, fr_81⟩ := hq_79
                    refine W.eq (g2 := F0 mI 165 ls []) rfl ?_
                    obtain ⟨x_84, ex_84⟩ : ∃ y : Int32, y = (nI k) + 1 := ⟨_, rfl⟩
                    refine lv_iinc (v := x_84) (lv' := [(2, .int x_84), (3, .int (nI (8 * j + k))), (0, .ref m), (1, .int (nI j))]) hx hb dX11_line_165 hl (k := 1) rfl (by rw [ex_84]; rfl) (by decide) rfl (fun ls hl => ?_)
                    refine lv_goto (tgt := 21) hx hb dX11_line_168 (by decide) ?_
                    have hr_85 : linL s g lt (nI j) (k + 1) = ((wrM (wrM (wrM (wrM (linL s g lt (nI j) k) (48 + (g (68 + 8 * j + k)))) 42) (48 + (g (132 + 8 * j + k)))) 47) : (Nat → Int32) × (Nat → Int32)) := by
                      simp only [linL, hcc, hdd, hcj, hnn, hfn, ex_84]
                      rw [if_pos c_28, if_neg c_56, if_neg c_58, if_pos c_62, if_neg c_70]
                    have el_2 : x_84 = nI (k + 1) := by rw [ex_84]; exact nI_1 k
                    have hl := lv_sub (l' := [(2, .int x_84), (0, .ref m), (1, .int (nI j))]) hl [0, 2, 3] rfl
                    rw [el_2] at hl
                    have wf_86 : ω_78.2 m = some (.inr (13, [.ref (m + 1), .ref (m + 2), .ref (m + 3), .int (((linL s g lt (nI j) (k + 1)).1) 3), .ref (m + 4), .int (((linL s g lt (nI j) (k + 1)).1) 5), .ref (m + 5), .int (((linL s g lt (nI j) (k + 1)).1) 7), .int (((linL s g lt (nI j) (k + 1)).1) 8), .int (((linL s g lt (nI j) (k + 1)).1) 9), .int (((linL s g lt (nI j) (k + 1)).1) 10), .int (((linL s g lt (nI j) (k + 1)).1) 11), .ref (m + 6), .int (((linL s g lt (nI j) (k + 1)).1) 13), .int (((linL s g lt (nI j) (k + 1)).1) 14), .ref (m + 7), .int (((linL s g lt (nI j) (k + 1)).1) 16), .int (((linL s g lt (nI j) (k + 1)).1) 17), .ref (m + 8)])) := f_82.trans (congrArg some (by rw [hr_85]))
                    have wf_87 : ω_78.2 (m + 6) = some (.inl (G.2.1 1, 60, .inl ((linL s g lt (nI j) (k + 1)).2))) := f_83.trans (congrArg some (by rw [hr_85]))
                    have fr_88 : ∀ q : Nat, ¬ q = m → ¬ q = (m + 6) → ω_78.2 q = ω_5.2 q := by
                      intro q h0 h1
                      rw [fr_81 q (by omega) (by omega)]
                      rw [fr_51 q (by omega) (by omega)]
                      rw [fr_41 q (by omega) (by omega)]
                      rw [fr_34 q (by omega) (by omega)]
                      rw [hfrτk q (by omega) (by omega)]
                    have z_89 : ω_78.1 = ω_5.1 := by rw [z_80, z_50, z_40, z_33, hzτk]
                    exact ih (k + 1) ω_78 (by omega) (by first | assumption | omega | (simp; done)) z_89 wf_86 wf_87 fr_88 _ _ _ hR hS hl
              · skip
                refine lv_aload_n hx hb dX11_line_127 rfl (lv_at hl 2 rfl) ?_
                refine lv_bipush (v := 63) hx hb dX11_line_128 (by decide) ?_
                refine fw_call (va_runV (As := [.int 63]) (rest := []) ⟨hx, hb, hml, hown, hts⟩ (c_X11_writes G hL l ω_48 m (wrM (wrM (wrM (linL s g lt (nI j) k) (48 + (g (68 + 8 * j + k)))) 42) (48 + (g (132 + 8 * j + k)))) f_52 f_53 (okN_le (wrM_ok (wrM_ok (wrM_ok (linL_ok s g lt (nI j) k (by omega)) (by omega)) (by omega)) (by omega)) (by omega)) 63) (cwV 1 hts gX11_line_X11_writes rfl rfl rfl (by decide +kernel) ⟨Nat.le_of_ble_eq_true rfl, Nat.le_of_ble_eq_true rfl⟩) (fw_preV hW hK hR f_52 rfl) rfl rfl hl.1 rfl (lv_room (Nat.le_of_ble_eq_true rfl)) dX11_line_130 ⟨Nat.le_of_ble_eq_true rfl, Nat.le_of_ble_eq_true rfl⟩) hS (fun v_90 ω_91 H locs hq_92 hR hS => ?_)
                obtain ⟨rfl, z_93, f_95, f_96, fr_94⟩ := hq_92
                refine W.eq (g2 := F0 mI 133 ls []) rfl ?_
                refine lv_iload_n hx hb dX11_line_133 rfl (lv_at hl 1 rfl) ?_
                refine lv_aload_n hx hb dX11_line_134 rfl (lv_at hl 2 rfl) ?_
                refine lv_iload_n hx hb dX11_line_135 rfl (lv_at hl 3 rfl) ?_
                have f_97 : ω_91.2 (m + 1) = some (.inl (G.2.1 0, 324, .inl g)) := (fr_94 (m + 1) (by omega) (by omega)).trans f_55
                refine fw_call (va_runV (As := [.int (nI j)]) (rest := [.int (nI k)]) ⟨hx, hb, hml, hown, hts⟩ (c_X11_open G hL l ω_91 m ((wrM (wrM (wrM (wrM (linL s g lt (nI j) k) (48 + (g (68 + 8 * j + k)))) 42) (48 + (g (132 + 8 * j + k)))) 63).1) g f_95 f_97 j (by omega) f hf3 hff) (cwV 1 hts gX11_line_X11_open rfl rfl rfl (by decide +kernel) ⟨Nat.le_of_ble_eq_true rfl, Nat.le_of_ble_eq_true rfl⟩) (fw_preV hW hK hR f_95 rfl) rfl rfl hl.1 rfl (lv_room (Nat.le_of_ble_eq_true rfl)) dX11_line_136 ⟨Nat.le_of_ble_eq_true rfl, Nat.le_of_ble_eq_true rfl⟩) hS (fun v_98 ω_99 H locs hq_100 hR hS => ?_)
                obtain ⟨rfl, hq_100⟩ := hq_100
                rw [hq_100] at hR
                refine W.eq (g2 := F0 mI 139 ls [.int (openJ (g (18 + j)) f), .int (nI k)]) rfl ?_
                refine lv_iconst (v := 1) hx hb dX11_line_139 (by decide) ?_
                refine lv_isub hx hb dX11_line_140 ?_
                refine lv_icmp_ne (tgt := 165) hx hb dX11_line_141 (by decide) (fun c_101 => ?_) (fun c_101 => ?_)
                · skip
                  obtain ⟨x_102, ex_102⟩ : ∃ y : Int32, y = (nI k) + 1 := ⟨_, rfl⟩
                  refine lv_iinc (v := x_102) (lv' := [(2, .int x_102), (3, .int (nI (8 * j + k))), (0, .ref m), (1, .int (nI j))]) hx hb dX11_line_165 hl (k := 1) rfl (by rw [ex_102]; rfl) (by decide) rfl (fun ls hl => ?_)
                  refine lv_goto (tgt := 21) hx hb dX11_line_168 (by decide) ?_
                  have hr_103 : linL s g lt (nI j) (k + 1) = ((wrM (wrM (wrM (wrM (linL s g lt (nI j) k) (48 + (g (68 + 8 * j + k)))) 42) (48 + (g (132 + 8 * j + k)))) 63) : (Nat → Int32) × (Nat → Int32)) := by
                    simp only [linL, hcc, hdd, hcj, hnn, hfn, ex_102]
                    rw [if_pos c_28, if_neg c_56, if_pos c_58, if_neg c_101]
                  have el_2 : x_102 = nI (k + 1) := by rw [ex_102]; exact nI_1 k
                  have hl := lv_sub (l' := [(2, .int x_102), (0, .ref m), (1, .int (nI j))]) hl [0, 2, 3] rfl
                  rw [el_2] at hl
                  have wf_104 : ω_91.2 m = some (.inr (13, [.ref (m + 1), .ref (m + 2), .ref (m + 3), .int (((linL s g lt (nI j) (k + 1)).1) 3), .ref (m + 4), .int (((linL s g lt (nI j) (k + 1)).1) 5), .ref (m + 5), .int (((linL s g lt (nI j) (k + 1)).1) 7), .int (((linL s g lt (nI j) (k + 1)).1) 8), .int (((linL s g lt (nI j) (k + 1)).1) 9), .int (((linL s g lt (nI j) (k + 1)).1) 10), .int (((linL s g lt (nI j) (k + 1)).1) 11), .ref (m + 6), .int (((linL s g lt (nI j) (k + 1)).1) 13), .int (((linL s g lt (nI j) (k + 1)).1) 14), .ref (m + 7), .int (((linL s g lt (nI j) (k + 1)).1) 16), .int (((linL s g lt (nI j) (k + 1)).1) 17), .ref (m + 8)])) := f_95.trans (congrArg some (by rw [hr_103]))
                  have wf_105 : ω_91.2 (m + 6) = some (.inl (G.2.1 1, 60, .inl ((linL s g lt (nI j) (k + 1)).2))) := f_96.trans (congrArg some (by rw [hr_103]))
                  have fr_106 : ∀ q : Nat, ¬ q = m → ¬ q = (m + 6) → ω_91.2 q = ω_5.2 q := by
                    intro q h0 h1
                    rw [fr_94 q (by omega) (by omega)]
                    rw [fr_51 q (by omega) (by omega)]
                    rw [fr_41 q (by omega) (by omega)]
                    rw [fr_34 q (by omega) (by omega)]
                    rw [hfrτk q (by omega) (by omega)]
                  have z_107 : ω_91.1 = ω_5.1 := by rw [z_93, z_50, z_40, z_33, hzτk]
                  exact ih (k + 1) ω_91 (by omega) (by first | assumption | omega | (simp; done)) z_107 wf_104 wf_105 fr_106 _ _ _ hR hS hl
                · skip
                  refine lv_iload_n hx hb dX11_line_144 rfl (lv_at hl 1 rfl) ?_
                  refine lv_aload_n hx hb dX11_line_145 rfl (lv_at hl 2 rfl) ?_
                  refine fw_get (v := .ref (m + 1)) (C := RX11) (T := TX11) (N := 19) hx hb hts hin11 hown hK hR f_95 rfl 0 (by decide) (hts (.fieldLink RX11 7 "UnreadLeafletsModel" "g" "[I") (by decide +kernel)) rfl dX11_line_146 ?_
                  refine lv_bipush (v := 18) hx hb dX11_line_149 (by decide) ?_
                  refine lv_iload_n hx hb dX11_line_151 rfl (lv_at hl 3 rfl) ?_
                  refine lv_iadd hx hb dX11_line_152 ?_
                  have hi_108 : 18 + (nI j) = nI (18 + j) := by
                    show (nI 18) + (nI j) = _
                    simp only [pk_mul, nI_add, Nat.add_assoc, hc, hd, hn, hff]
                  refine W.eq (g2 := F0 mI 153 ls [.int (nI (18 + j)), .ref (m + 1), .int (nI k)]) (by rw [hi_108]) ?_
                  refine fw_iald hx hb hK hR f_97 (vp_in_nI (by omega) (by omega)) dX11_line_153 ?_
                  refine W.eq (g2 := F0 mI 154 ls [.int (g (18 + j)), .int (nI k)]) (by rw [nI_clamp (by omega)]) ?_
                  refine lv_iconst (v := 1) hx hb dX11_line_154 (by decide) ?_
                  refine lv_isub hx hb dX11_line_155 ?_
                  refine lv_icmp_ge (tgt := 165) hx hb dX11_line_156 (by decide) (fun c_109 => ?_) (fun c_109 => ?_)
                  · skip
                    obtain ⟨x_110, ex_110⟩ : ∃ y : Int32, y = (nI k) + 1 := ⟨_, rfl⟩
                    refine lv_iinc (v := x_110) (lv' := [(2, .int x_110), (3, .int (nI (8 * j + k))), (0, .ref m), (1, .int (nI j))]) hx hb dX11_line_165 hl (k := 1) rfl (by rw [ex_110]; rfl) (by decide) rfl (fun ls hl => ?_)
                    refine lv_goto (tgt := 21) hx hb dX11_line_168 (by decide) ?_
                    have hr_111 : linL s g lt (nI j) (k + 1) = ((wrM (wrM (wrM (wrM (linL s g lt (nI j) k) (48 + (g (68 + 8 * j + k)))) 42) (48 + (g (132 + 8 * j + k)))) 63) : (Nat → Int32) × (Nat → Int32)) := by
                      simp only [linL, hcc, hdd, hcj, hnn, hfn, ex_110]
                      rw [if_pos c_28, if_neg c_56, if_pos c_58, if_pos c_101, if_pos c_109]
                    have el_2 : x_110 = nI (k + 1) := by rw [ex_110]; exact nI_1 k
                    have hl := lv_sub (l' := [(2, .int x_110), (0, .ref m), (1, .int (nI j))]) hl [0, 2, 3] rfl
                    rw [el_2] at hl
                    have wf_112 : ω_91.2 m = some (.inr (13, [.ref (m + 1), .ref (m + 2), .ref (m + 3), .int (((linL s g lt (nI j) (k + 1)).1) 3), .ref (m + 4), .int (((linL s g lt (nI j) (k + 1)).1) 5), .ref (m + 5), .int (((linL s g lt (nI j) (k + 1)).1) 7), .int (((linL s g lt (nI j) (k + 1)).1) 8), .int (((linL s g lt (nI j) (k + 1)).1) 9), .int (((linL s g lt (nI j) (k + 1)).1) 10), .int (((linL s g lt (nI j) (k + 1)).1) 11), .ref (m + 6), .int (((linL s g lt (nI j) (k + 1)).1) 13), .int (((linL s g lt (nI j) (k + 1)).1) 14), .ref (m + 7), .int (((linL s g lt (nI j) (k + 1)).1) 16), .int (((linL s g lt (nI j) (k + 1)).1) 17), .ref (m + 8)])) := f_95.trans (congrArg some (by rw [hr_111]))
                    have wf_113 : ω_91.2 (m + 6) = some (.inl (G.2.1 1, 60, .inl ((linL s g lt (nI j) (k + 1)).2))) := f_96.trans (congrArg some (by rw [hr_111]))
                    have fr_114 : ∀ q : Nat, ¬ q = m → ¬ q = (m + 6) → ω_91.2 q = ω_5.2 q := by
                      intro q h0 h1
                      rw [fr_94 q (by omega) (by omega)]
                      rw [fr_51 q (by omega) (by omega)]
                      rw [fr_41 q (by omega) (by omega)]
                      rw [fr_34 q (by omega) (by omega)]
                      rw [hfrτk q (by omega) (by omega)]
                    have z_115 : ω_91.1 = ω_5.1 := by rw [z_93, z_50, z_40, z_33, hzτk]
                    exact ih (k + 1) ω_91 (by omega) (by first | assumption | omega | (simp; done)) z_115 wf_112 wf_113 fr_114 _ _ _ hR hS hl
                  · skip
                    refine lv_aload_n hx hb dX11_line_159 rfl (lv_at hl 2 rfl) ?_
                    refine lv_bipush (v := 47) hx hb dX11_line_160 (by decide) ?_
                    refine fw_call (va_runV (As := [.int 47]) (rest := []) ⟨hx, hb, hml, hown, hts⟩ (c_X11_writes G hL l ω_91 m (wrM (wrM (wrM (wrM (linL s g lt (nI j) k) (48 + (g (68 + 8 * j + k)))) 42) (48 + (g (132 + 8 * j + k)))) 63) f_95 f_96 (okN_le (wrM_ok (wrM_ok (wrM_ok (wrM_ok (linL_ok s g lt (nI j) k (by omega)) (by omega)) (by omega)) (by omega)) (by omega)) (by omega)) 47) (cwV 1 hts gX11_line_X11_writes rfl rfl rfl (by decide +kernel) ⟨Nat.le_of_ble_eq_true rfl, Nat.le_of_ble_eq_true rfl⟩) (fw_preV hW hK hR f_95 rfl) rfl rfl hl.1 rfl (lv_room (Nat.le_of_ble_eq_true rfl)) dX11_line_162 ⟨Nat.le_of_ble_eq_true rfl, Nat.le_of_ble_eq_true rfl⟩) hS (fun v_116 ω_117 H locs hq_118 hR hS => ?_)
                    obtain ⟨rfl, z_119, f_121, f_122, fr_120⟩ := hq_118
                    refine W.eq (g2 := F0 mI 165 ls []) rfl ?_
                    obtain ⟨x_123, ex_123⟩ : ∃ y : Int32, y = (nI k) + 1 := ⟨_, rfl⟩
                    refine lv_iinc (v := x_123) (lv' := [(2, .int x_123), (3, .int (nI (8 * j + k))), (0, .ref m), (1, .int (nI j))]) hx hb dX11_line_165 hl (k := 1) rfl (by rw [ex_123]; rfl) (by decide) rfl (fun ls hl => ?_)
                    refine lv_goto (tgt := 21) hx hb dX11_line_168 (by decide) ?_
                    have hr_124 : linL s g lt (nI j) (k + 1) = ((wrM (wrM (wrM (wrM (wrM (linL s g lt (nI j) k) (48 + (g (68 + 8 * j + k)))) 42) (48 + (g (132 + 8 * j + k)))) 63) 47) : (Nat → Int32) × (Nat → Int32)) := by
                      simp only [linL, hcc, hdd, hcj, hnn, hfn, ex_123]
                      rw [if_pos c_28, if_neg c_56, if_pos c_58, if_pos c_101, if_neg c_109]
                    have el_2 : x_123 = nI (k + 1) := by rw [ex_123]; exact nI_1 k
                    have hl := lv_sub (l' := [(2, .int x_123), (0, .ref m), (1, .int (nI j))]) hl [0, 2, 3] rfl
                    rw [el_2] at hl
                    have wf_125 : ω_117.2 m = some (.inr (13, [.ref (m + 1), .ref (m + 2), .ref (m + 3), .int (((linL s g lt (nI j) (k + 1)).1) 3), .ref (m + 4), .int (((linL s g lt (nI j) (k + 1)).1) 5), .ref (m + 5), .int (((linL s g lt (nI j) (k + 1)).1) 7), .int (((linL s g lt (nI j) (k + 1)).1) 8), .int (((linL s g lt (nI j) (k + 1)).1) 9), .int (((linL s g lt (nI j) (k + 1)).1) 10), .int (((linL s g lt (nI j) (k + 1)).1) 11), .ref (m + 6), .int (((linL s g lt (nI j) (k + 1)).1) 13), .int (((linL s g lt (nI j) (k + 1)).1) 14), .ref (m + 7), .int (((linL s g lt (nI j) (k + 1)).1) 16), .int (((linL s g lt (nI j) (k + 1)).1) 17), .ref (m + 8)])) := f_121.trans (congrArg some (by rw [hr_124]))
                    have wf_126 : ω_117.2 (m + 6) = some (.inl (G.2.1 1, 60, .inl ((linL s g lt (nI j) (k + 1)).2))) := f_122.trans (congrArg some (by rw [hr_124]))
                    have fr_127 : ∀ q : Nat, ¬ q = m → ¬ q = (m + 6) → ω_117.2 q = ω_5.2 q := by
                      intro q h0 h1
                      rw [fr_120 q (by omega) (by omega)]
                      rw [fr_94 q (by omega) (by omega)]
                      rw [fr_51 q (by omega) (by omega)]
                      rw [fr_41 q (by omega) (by omega)]
                      rw [fr_34 q (by omega) (by omega)]
                      rw [hfrτk q (by omega) (by omega)]
                    have z_128 : ω_117.1 = ω_5.1 := by rw [z_119, z_93, z_50, z_40, z_33, hzτk]
                    exact ih (k + 1) ω_117 (by omega) (by first | assumption | omega | (simp; done)) z_128 wf_125 wf_126 fr_127 _ _ _ hR hS hl
            · skip
              refine lv_aload_n hx hb dX11_line_104 rfl (lv_at hl 2 rfl) ?_
              refine lv_bipush (v := 43) hx hb dX11_line_105 (by decide) ?_
              refine fw_call (va_runV (As := [.int 43]) (rest := []) ⟨hx, hb, hml, hown, hts⟩ (c_X11_writes G hL l ω_48 m (wrM (wrM (wrM (linL s g lt (nI j) k) (48 + (g (68 + 8 * j + k)))) 42) (48 + (g (132 + 8 * j + k)))) f_52 f_53 (okN_le (wrM_ok (wrM_ok (wrM_ok (linL_ok s g lt (nI j) k (by omega)) (by omega)) (by omega)) (by omega)) (by omega)) 43) (cwV 1 hts gX11_line_X11_writes rfl rfl rfl (by decide +kernel) ⟨Nat.le_of_ble_eq_true rfl, Nat.le_of_ble_eq_true rfl⟩) (fw_preV hW hK hR f_52 rfl) rfl rfl hl.1 rfl (lv_room (Nat.le_of_ble_eq_true rfl)) dX11_line_107 ⟨Nat.le_of_ble_eq_true rfl, Nat.le_of_ble_eq_true rfl⟩) hS (fun v_129 ω_130 H locs hq_131 hR hS => ?_)
              obtain ⟨rfl, z_132, f_134, f_135, fr_133⟩ := hq_131
              refine W.eq (g2 := F0 mI 110 ls []) rfl ?_
              refine lv_aload_n hx hb dX11_line_110 rfl (lv_at hl 2 rfl) ?_
              refine fw_get (v := .ref (m + 1)) (C := RX11) (T := TX11) (N := 19) hx hb hts hin11 hown hK hR f_134 rfl 0 (by decide) (hts (.fieldLink RX11 7 "UnreadLeafletsModel" "g" "[I") (by decide +kernel)) rfl dX11_line_111 ?_
              refine lv_bipush (v := 50) hx hb dX11_line_114 (by decide) ?_
              refine lv_iload_n hx hb dX11_line_116 rfl (lv_at hl 3 rfl) ?_
              refine lv_iadd hx hb dX11_line_117 ?_
              have hi_136 : 50 + (nI j) = nI (50 + j) := by
                show (nI 50) + (nI j) = _
                simp only [pk_mul, nI_add, Nat.add_assoc, hc, hd, hn, hff]
              refine W.eq (g2 := F0 mI 118 ls [.int (nI (50 + j)), .ref (m + 1)]) (by rw [hi_136]) ?_
              have f_137 : ω_130.2 (m + 1) = some (.inl (G.2.1 0, 324, .inl g)) := (fr_133 (m + 1) (by omega) (by omega)).trans f_55
              refine fw_iald hx hb hK hR f_137 (vp_in_nI (by omega) (by omega)) dX11_line_118 ?_
              refine W.eq (g2 := F0 mI 119 ls [.int (g (50 + j))]) (by rw [nI_clamp (by omega)]) ?_
              refine lv_iload_n hx hb dX11_line_119 rfl (lv_at hl 1 rfl) ?_
              refine lv_ishr hx hb dX11_line_120 ?_
              refine lv_iconst (v := 1) hx hb dX11_line_121 (by decide) ?_
              refine lv_iand hx hb dX11_line_122 ?_
              refine lv_iconst (v := 1) hx hb dX11_line_123 (by decide) ?_
              refine lv_icmp_ne (tgt := 133) hx hb dX11_line_124 (by decide) (fun c_138 => ?_) (fun c_138 => ?_)
              · skip
                refine lv_iload_n hx hb dX11_line_133 rfl (lv_at hl 1 rfl) ?_
                refine lv_aload_n hx hb dX11_line_134 rfl (lv_at hl 2 rfl) ?_
                refine lv_iload_n hx hb dX11_line_135 rfl (lv_at hl 3 rfl) ?_
                refine fw_call (va_runV (As := [.int (nI j)]) (rest := [.int (nI k)]) ⟨hx, hb, hml, hown, hts⟩ (c_X11_open G hL l ω_130 m ((wrM (wrM (wrM (wrM (linL s g lt (nI j) k) (48 + (g (68 + 8 * j + k)))) 42) (48 + (g (132 + 8 * j + k)))) 43).1) g f_134 f_137 j (by omega) f hf3 hff) (cwV 1 hts gX11_line_X11_open rfl rfl rfl (by decide +kernel) ⟨Nat.le_of_ble_eq_true rfl, Nat.le_of_ble_eq_true rfl⟩) (fw_preV hW hK hR f_134 rfl) rfl rfl hl.1 rfl (lv_room (Nat.le_of_ble_eq_true rfl)) dX11_line_136 ⟨Nat.le_of_ble_eq_true rfl, Nat.le_of_ble_eq_true rfl⟩) hS (fun v_139 ω_140 H locs hq_141 hR hS => ?_)
                obtain ⟨rfl, hq_141⟩ := hq_141
                rw [hq_141] at hR
                refine W.eq (g2 := F0 mI 139 ls [.int (openJ (g (18 + j)) f), .int (nI k)]) rfl ?_
                refine lv_iconst (v := 1) hx hb dX11_line_139 (by decide) ?_
                refine lv_isub hx hb dX11_line_140 ?_
                refine lv_icmp_ne (tgt := 165) hx hb dX11_line_141 (by decide) (fun c_142 => ?_) (fun c_142 => ?_)
                · skip
                  obtain ⟨x_143, ex_143⟩ : ∃ y : Int32, y = (nI k) + 1 := ⟨_, rfl⟩
                  refine lv_iinc (v := x_143) (lv' := [(2, .int x_143), (3, .int (nI (8 * j + k))), (0, .ref m), (1, .int (nI j))]) hx hb dX11_line_165 hl (k := 1) rfl (by rw [ex_143]; rfl) (by decide) rfl (fun ls hl => ?_)
                  refine lv_goto (tgt := 21) hx hb dX11_line_168 (by decide) ?_
                  have hr_144 : linL s g lt (nI j) (k + 1) = ((wrM (wrM (wrM (wrM (linL s g lt (nI j) k) (48 + (g (68 + 8 * j + k)))) 42) (48 + (g (132 + 8 * j + k)))) 43) : (Nat → Int32) × (Nat → Int32)) := by
                    simp only [linL, hcc, hdd, hcj, hnn, hfn, ex_143]
                    rw [if_pos c_28, if_pos c_56, if_neg c_138, if_neg c_142]
                  have el_2 : x_143 = nI (k + 1) := by rw [ex_143]; exact nI_1 k
                  have hl := lv_sub (l' := [(2, .int x_143), (0, .ref m), (1, .int (nI j))]) hl [0, 2, 3] rfl
                  rw [el_2] at hl
                  have wf_145 : ω_130.2 m = some (.inr (13, [.ref (m + 1), .ref (m + 2), .ref (m + 3), .int (((linL s g lt (nI j) (k + 1)).1) 3), .ref (m + 4), .int (((linL s g lt (nI j) (k + 1)).1) 5), .ref (m + 5), .int (((linL s g lt (nI j) (k + 1)).1) 7), .int (((linL s g lt (nI j) (k + 1)).1) 8), .int (((linL s g lt (nI j) (k + 1)).1) 9), .int (((linL s g lt (nI j) (k + 1)).1) 10), .int (((linL s g lt (nI j) (k + 1)).1) 11), .ref (m + 6), .int (((linL s g lt (nI j) (k + 1)).1) 13), .int (((linL s g lt (nI j) (k + 1)).1) 14), .ref (m + 7), .int (((linL s g lt (nI j) (k + 1)).1) 16), .int (((linL s g lt (nI j) (k + 1)).1) 17), .ref (m + 8)])) := f_134.trans (congrArg some (by rw [hr_144]))
                  have wf_146 : ω_130.2 (m + 6) = some (.inl (G.2.1 1, 60, .inl ((linL s g lt (nI j) (k + 1)).2))) := f_135.trans (congrArg some (by rw [hr_144]))
                  have fr_147 : ∀ q : Nat, ¬ q = m → ¬ q = (m + 6) → ω_130.2 q = ω_5.2 q := by
                    intro q h0 h1
                    rw [fr_133 q (by omega) (by omega)]
                    rw [fr_51 q (by omega) (by omega)]
                    rw [fr_41 q (by omega) (by omega)]
                    rw [fr_34 q (by omega) (by omega)]
                    rw [hfrτk q (by omega) (by omega)]
                  have z_148 : ω_130.1 = ω_5.1 := by rw [z_132, z_50, z_40, z_33, hzτk]
                  exact ih (k + 1) ω_130 (by omega) (by first | assumption | omega | (simp; done)) z_148 wf_145 wf_146 fr_147 _ _ _ hR hS hl
                · skip
                  refine lv_iload_n hx hb dX11_line_144 rfl (lv_at hl 1 rfl) ?_
                  refine lv_aload_n hx hb dX11_line_145 rfl (lv_at hl 2 rfl) ?_
                  refine fw_get (v := .ref (m + 1)) (C := RX11) (T := TX11) (N := 19) hx hb hts hin11 hown hK hR f_134 rfl 0 (by decide) (hts (.fieldLink RX11 7 "UnreadLeafletsModel" "g" "[I") (by decide +kernel)) rfl dX11_line_146 ?_
                  refine lv_bipush (v := 18) hx hb dX11_line_149 (by decide) ?_
                  refine lv_iload_n hx hb dX11_line_151 rfl (lv_at hl 3 rfl) ?_
                  refine lv_iadd hx hb dX11_line_152 ?_
                  have hi_149 : 18 + (nI j) = nI (18 + j) := by
                    show (nI 18) + (nI j) = _
                    simp only [pk_mul, nI_add, Nat.add_assoc, hc, hd, hn, hff]
                  refine W.eq (g2 := F0 mI 153 ls [.int (nI (18 + j)), .ref (m + 1), .int (nI k)]) (by rw [hi_149]) ?_
                  refine fw_iald hx hb hK hR f_137 (vp_in_nI (by omega) (by omega)) dX11_line_153 ?_
                  refine W.eq (g2 := F0 mI 154 ls [.int (g (18 + j)), .int (nI k)]) (by rw [nI_clamp (by omega)]) ?_
                  refine lv_iconst (v := 1) hx hb dX11_line_154 (by decide) ?_
                  refine lv_isub hx hb dX11_line_155 ?_
                  refine lv_icmp_ge (tgt := 165) hx hb dX11_line_156 (by decide) (fun c_150 => ?_) (fun c_150 => ?_)
                  · skip
                    obtain ⟨x_151, ex_151⟩ : ∃ y : Int32, y = (nI k) + 1 := ⟨_, rfl⟩
                    refine lv_iinc (v := x_151) (lv' := [(2, .int x_151), (3, .int (nI (8 * j + k))), (0, .ref m), (1, .int (nI j))]) hx hb dX11_line_165 hl (k := 1) rfl (by rw [ex_151]; rfl) (by decide) rfl (fun ls hl => ?_)
                    refine lv_goto (tgt := 21) hx hb dX11_line_168 (by decide) ?_
                    have hr_152 : linL s g lt (nI j) (k + 1) = ((wrM (wrM (wrM (wrM (linL s g lt (nI j) k) (48 + (g (68 + 8 * j + k)))) 42) (48 + (g (132 + 8 * j + k)))) 43) : (Nat → Int32) × (Nat → Int32)) := by
                      simp only [linL, hcc, hdd, hcj, hnn, hfn, ex_151]
                      rw [if_pos c_28, if_pos c_56, if_neg c_138, if_pos c_142, if_pos c_150]
                    have el_2 : x_151 = nI (k + 1) := by rw [ex_151]; exact nI_1 k
                    have hl := lv_sub (l' := [(2, .int x_151), (0, .ref m), (1, .int (nI j))]) hl [0, 2, 3] rfl
                    rw [el_2] at hl
                    have wf_153 : ω_130.2 m = some (.inr (13, [.ref (m + 1), .ref (m + 2), .ref (m + 3), .int (((linL s g lt (nI j) (k + 1)).1) 3), .ref (m + 4), .int (((linL s g lt (nI j) (k + 1)).1) 5), .ref (m + 5), .int (((linL s g lt (nI j) (k + 1)).1) 7), .int (((linL s g lt (nI j) (k + 1)).1) 8), .int (((linL s g lt (nI j) (k + 1)).1) 9), .int (((linL s g lt (nI j) (k + 1)).1) 10), .int (((linL s g lt (nI j) (k + 1)).1) 11), .ref (m + 6), .int (((linL s g lt (nI j) (k + 1)).1) 13), .int (((linL s g lt (nI j) (k + 1)).1) 14), .ref (m + 7), .int (((linL s g lt (nI j) (k + 1)).1) 16), .int (((linL s g lt (nI j) (k + 1)).1) 17), .ref (m + 8)])) := f_134.trans (congrArg some (by rw [hr_152]))
                    have wf_154 : ω_130.2 (m + 6) = some (.inl (G.2.1 1, 60, .inl ((linL s g lt (nI j) (k + 1)).2))) := f_135.trans (congrArg some (by rw [hr_152]))
                    have fr_155 : ∀ q : Nat, ¬ q = m → ¬ q = (m + 6) → ω_130.2 q = ω_5.2 q := by
                      intro q h0 h1
                      rw [fr_133 q (by omega) (by omega)]
                      rw [fr_51 q (by omega) (by omega)]
                      rw [fr_41 q (by omega) (by omega)]
                      rw [fr_34 q (by omega) (by omega)]
                      rw [hfrτk q (by omega) (by omega)]
                    have z_156 : ω_130.1 = ω_5.1 := by rw [z_132, z_50, z_40, z_33, hzτk]
                    exact ih (k + 1) ω_130 (by omega) (by first | assumption | omega | (simp; done)) z_156 wf_153 wf_154 fr_155 _ _ _ hR hS hl
                  · skip
                    refine lv_aload_n hx hb dX11_line_159 rfl (lv_at hl 2 rfl) ?_
                    refine lv_bipush (v := 47) hx hb dX11_line_160 (by decide) ?_
                    refine fw_call (va_runV (As := [.int 47]) (rest := []) ⟨hx, hb, hml, hown, hts⟩ (c_X11_writes G hL l ω_130 m (wrM (wrM (wrM (wrM (linL s g lt (nI j) k) (48 + (g (68 + 8 * j + k)))) 42) (48 + (g (132 + 8 * j + k)))) 43) f_134 f_135 (okN_le (wrM_ok (wrM_ok (wrM_ok (wrM_ok (linL_ok s g lt (nI j) k (by omega)) (by omega)) (by omega)) (by omega)) (by omega)) (by omega)) 47) (cwV 1 hts gX11_line_X11_writes rfl rfl rfl (by decide +kernel) ⟨Nat.le_of_ble_eq_true rfl, Nat.le_of_ble_eq_true rfl⟩) (fw_preV hW hK hR f_134 rfl) rfl rfl hl.1 rfl (lv_room (Nat.le_of_ble_eq_true rfl)) dX11_line_162 ⟨Nat.le_of_ble_eq_true rfl, Nat.le_of_ble_eq_true rfl⟩) hS (fun v_157 ω_158 H locs hq_159 hR hS => ?_)
                    obtain ⟨rfl, z_160, f_162, f_163, fr_161⟩ := hq_159
                    refine W.eq (g2 := F0 mI 165 ls []) rfl ?_
                    obtain ⟨x_164, ex_164⟩ : ∃ y : Int32, y = (nI k) + 1 := ⟨_, rfl⟩
                    refine lv_iinc (v := x_164) (lv' := [(2, .int x_164), (3, .int (nI (8 * j + k))), (0, .ref m), (1, .int (nI j))]) hx hb dX11_line_165 hl (k := 1) rfl (by rw [ex_164]; rfl) (by decide) rfl (fun ls hl => ?_)
                    refine lv_goto (tgt := 21) hx hb dX11_line_168 (by decide) ?_
                    have hr_165 : linL s g lt (nI j) (k + 1) = ((wrM (wrM (wrM (wrM (wrM (linL s g lt (nI j) k) (48 + (g (68 + 8 * j + k)))) 42) (48 + (g (132 + 8 * j + k)))) 43) 47) : (Nat → Int32) × (Nat → Int32)) := by
                      simp only [linL, hcc, hdd, hcj, hnn, hfn, ex_164]
                      rw [if_pos c_28, if_pos c_56, if_neg c_138, if_pos c_142, if_neg c_150]
                    have el_2 : x_164 = nI (k + 1) := by rw [ex_164]; exact nI_1 k
                    have hl := lv_sub (l' := [(2, .int x_164), (0, .ref m), (1, .int (nI j))]) hl [0, 2, 3] rfl
                    rw [el_2] at hl
                    have wf_166 : ω_158.2 m = some (.inr (13, [.ref (m + 1), .ref (m + 2), .ref (m + 3), .int (((linL s g lt (nI j) (k + 1)).1) 3), .ref (m + 4), .int (((linL s g lt (nI j) (k + 1)).1) 5), .ref (m + 5), .int (((linL s g lt (nI j) (k + 1)).1) 7), .int (((linL s g lt (nI j) (k + 1)).1) 8), .int (((linL s g lt (nI j) (k + 1)).1) 9), .int (((linL s g lt (nI j) (k + 1)).1) 10), .int (((linL s g lt (nI j) (k + 1)).1) 11), .ref (m + 6), .int (((linL s g lt (nI j) (k + 1)).1) 13), .int (((linL s g lt (nI j) (k + 1)).1) 14), .ref (m + 7), .int (((linL s g lt (nI j) (k + 1)).1) 16), .int (((linL s g lt (nI j) (k + 1)).1) 17), .ref (m + 8)])) := f_162.trans (congrArg some (by rw [hr_165]))
                    have wf_167 : ω_158.2 (m + 6) = some (.inl (G.2.1 1, 60, .inl ((linL s g lt (nI j) (k + 1)).2))) := f_163.trans (congrArg some (by rw [hr_165]))
                    have fr_168 : ∀ q : Nat, ¬ q = m → ¬ q = (m + 6) → ω_158.2 q = ω_5.2 q := by
                      intro q h0 h1
                      rw [fr_161 q (by omega) (by omega)]
                      rw [fr_133 q (by omega) (by omega)]
                      rw [fr_51 q (by omega) (by omega)]
                      rw [fr_41 q (by omega) (by omega)]
                      rw [fr_34 q (by omega) (by omega)]
                      rw [hfrτk q (by omega) (by omega)]
                    have z_169 : ω_158.1 = ω_5.1 := by rw [z_160, z_132, z_50, z_40, z_33, hzτk]
                    exact ih (k + 1) ω_158 (by omega) (by first | assumption | omega | (simp; done)) z_169 wf_166 wf_167 fr_168 _ _ _ hR hS hl
              · skip
                refine lv_aload_n hx hb dX11_line_127 rfl (lv_at hl 2 rfl) ?_
                refine lv_bipush (v := 63) hx hb dX11_line_128 (by decide) ?_
                refine fw_call (va_runV (As := [.int 63]) (rest := []) ⟨hx, hb, hml, hown, hts⟩ (c_X11_writes G hL l ω_130 m (wrM (wrM (wrM (wrM (linL s g lt (nI j) k) (48 + (g (68 + 8 * j + k)))) 42) (48 + (g (132 + 8 * j + k)))) 43) f_134 f_135 (okN_le (wrM_ok (wrM_ok (wrM_ok (wrM_ok (linL_ok s g lt (nI j) k (by omega)) (by omega)) (by omega)) (by omega)) (by omega)) (by omega)) 63) (cwV 1 hts gX11_line_X11_writes rfl rfl rfl (by decide +kernel) ⟨Nat.le_of_ble_eq_true rfl, Nat.le_of_ble_eq_true rfl⟩) (fw_preV hW hK hR f_134 rfl) rfl rfl hl.1 rfl (lv_room (Nat.le_of_ble_eq_true rfl)) dX11_line_130 ⟨Nat.le_of_ble_eq_true rfl, Nat.le_of_ble_eq_true rfl⟩) hS (fun v_170 ω_171 H locs hq_172 hR hS => ?_)
                obtain ⟨rfl, z_173, f_175, f_176, fr_174⟩ := hq_172
                refine W.eq (g2 := F0 mI 133 ls []) rfl ?_
                refine lv_iload_n hx hb dX11_line_133 rfl (lv_at hl 1 rfl) ?_
                refine lv_aload_n hx hb dX11_line_134 rfl (lv_at hl 2 rfl) ?_
                refine lv_iload_n hx hb dX11_line_135 rfl (lv_at hl 3 rfl) ?_
                have f_177 : ω_171.2 (m + 1) = some (.inl (G.2.1 0, 324, .inl g)) := (fr_174 (m + 1) (by omega) (by omega)).trans f_137
                refine fw_call (va_runV (As := [.int (nI j)]) (rest := [.int (nI k)]) ⟨hx, hb, hml, hown, hts⟩ (c_X11_open G hL l ω_171 m ((wrM (wrM (wrM (wrM (wrM (linL s g lt (nI j) k) (48 + (g (68 + 8 * j + k)))) 42) (48 + (g (132 + 8 * j + k)))) 43) 63).1) g f_175 f_177 j (by omega) f hf3 hff) (cwV 1 hts gX11_line_X11_open rfl rfl rfl (by decide +kernel) ⟨Nat.le_of_ble_eq_true rfl, Nat.le_of_ble_eq_true rfl⟩) (fw_preV hW hK hR f_175 rfl) rfl rfl hl.1 rfl (lv_room (Nat.le_of_ble_eq_true rfl)) dX11_line_136 ⟨Nat.le_of_ble_eq_true rfl, Nat.le_of_ble_eq_true rfl⟩) hS (fun v_178 ω_179 H locs hq_180 hR hS => ?_)
                obtain ⟨rfl, hq_180⟩ := hq_180
                rw [hq_180] at hR
                refine W.eq (g2 := F0 mI 139 ls [.int (openJ (g (18 + j)) f), .int (nI k)]) rfl ?_
                refine lv_iconst (v := 1) hx hb dX11_line_139 (by decide) ?_
                refine lv_isub hx hb dX11_line_140 ?_
                refine lv_icmp_ne (tgt := 165) hx hb dX11_line_141 (by decide) (fun c_181 => ?_) (fun c_181 => ?_)
                · skip
                  obtain ⟨x_182, ex_182⟩ : ∃ y : Int32, y = (nI k) + 1 := ⟨_, rfl⟩
                  refine lv_iinc (v := x_182) (lv' := [(2, .int x_182), (3, .int (nI (8 * j + k))), (0, .ref m), (1, .int (nI j))]) hx hb dX11_line_165 hl (k := 1) rfl (by rw [ex_182]; rfl) (by decide) rfl (fun ls hl => ?_)
                  refine lv_goto (tgt := 21) hx hb dX11_line_168 (by decide) ?_
                  have hr_183 : linL s g lt (nI j) (k + 1) = ((wrM (wrM (wrM (wrM (wrM (linL s g lt (nI j) k) (48 + (g (68 + 8 * j + k)))) 42) (48 + (g (132 + 8 * j + k)))) 43) 63) : (Nat → Int32) × (Nat → Int32)) := by
                    simp only [linL, hcc, hdd, hcj, hnn, hfn, ex_182]
                    rw [if_pos c_28, if_pos c_56, if_pos c_138, if_neg c_181]
                  have el_2 : x_182 = nI (k + 1) := by rw [ex_182]; exact nI_1 k
                  have hl := lv_sub (l' := [(2, .int x_182), (0, .ref m), (1, .int (nI j))]) hl [0, 2, 3] rfl
                  rw [el_2] at hl
                  have wf_184 : ω_171.2 m = some (.inr (13, [.ref (m + 1), .ref (m + 2), .ref (m + 3), .int (((linL s g lt (nI j) (k + 1)).1) 3), .ref (m + 4), .int (((linL s g lt (nI j) (k + 1)).1) 5), .ref (m + 5), .int (((linL s g lt (nI j) (k + 1)).1) 7), .int (((linL s g lt (nI j) (k + 1)).1) 8), .int (((linL s g lt (nI j) (k + 1)).1) 9), .int (((linL s g lt (nI j) (k + 1)).1) 10), .int (((linL s g lt (nI j) (k + 1)).1) 11), .ref (m + 6), .int (((linL s g lt (nI j) (k + 1)).1) 13), .int (((linL s g lt (nI j) (k + 1)).1) 14), .ref (m + 7), .int (((linL s g lt (nI j) (k + 1)).1) 16), .int (((linL s g lt (nI j) (k + 1)).1) 17), .ref (m + 8)])) := f_175.trans (congrArg some (by rw [hr_183]))
                  have wf_185 : ω_171.2 (m + 6) = some (.inl (G.2.1 1, 60, .inl ((linL s g lt (nI j) (k + 1)).2))) := f_176.trans (congrArg some (by rw [hr_183]))
                  have fr_186 : ∀ q : Nat, ¬ q = m → ¬ q = (m + 6) → ω_171.2 q = ω_5.2 q := by
                    intro q h0 h1
                    rw [fr_174 q (by omega) (by omega)]
                    rw [fr_133 q (by omega) (by omega)]
                    rw [fr_51 q (by omega) (by omega)]
                    rw [fr_41 q (by omega) (by omega)]
                    rw [fr_34 q (by omega) (by omega)]
                    rw [hfrτk q (by omega) (by omega)]
                  have z_187 : ω_171.1 = ω_5.1 := by rw [z_173, z_132, z_50, z_40, z_33, hzτk]
                  exact ih (k + 1) ω_171 (by omega) (by first | assumption | omega | (simp; done)) z_187 wf_184 wf_185 fr_186 _ _ _ hR hS hl
                · skip
                  refine lv_iload_n hx hb dX11_line_144 rfl (lv_at hl 1 rfl) ?_
                  refine lv_aload_n hx hb dX11_line_145 rfl (lv_at hl 2 rfl) ?_
                  refine fw_get (v := .ref (m + 1)) (C := RX11) (T := TX11) (N := 19) hx hb hts hin11 hown hK hR f_175 rfl 0 (by decide) (hts (.fieldLink RX11 7 "UnreadLeafletsModel" "g" "[I") (by decide +kernel)) rfl dX11_line_146 ?_
                  refine lv_bipush (v := 18) hx hb dX11_line_149 (by decide) ?_
                  refine lv_iload_n hx hb dX11_line_151 rfl (lv_at hl 3 rfl) ?_
                  refine lv_iadd hx hb dX11_line_152 ?_
                  have hi_188 : 18 + (nI j) = nI (18 + j) := by
                    show (nI 18) + (nI j) = _
                    simp only [pk_mul, nI_add, Nat.add_assoc, hc, hd, hn, hff]
                  refine W.eq (g2 := F0 mI 153 ls [.int (nI (18 + j)), .ref (m + 1), .int (nI k)]) (by rw [hi_188]) ?_
                  refine fw_iald hx hb hK hR f_177 (vp_in_nI (by omega) (by omega)) dX11_line_153 ?_
                  refine W.eq (g2 := F0 mI 154 ls [.int (g (18 + j)), .int (nI k)]) (by rw [nI_clamp (by omega)]) ?_
                  refine lv_iconst (v := 1) hx hb dX11_line_154 (by decide) ?_
                  refine lv_isub hx hb dX11_line_155 ?_
                  refine lv_icmp_ge (tgt := 165) hx hb dX11_line_156 (by decide) (fun c_189 => ?_) (fun c_189 => ?_)
                  · skip
                    obtain ⟨x_190, ex_190⟩ : ∃ y : Int32, y = (nI k) + 1 := ⟨_, rfl⟩
                    refine lv_iinc (v := x_190) (lv' := [(2, .int x_190), (3, .int (nI (8 * j + k))), (0, .ref m), (1, .int (nI j))]) hx hb dX11_line_165 hl (k := 1) rfl (by rw [ex_190]; rfl) (by decide) rfl (fun ls hl => ?_)
                    refine lv_goto (tgt := 21) hx hb dX11_line_168 (by decide) ?_
                    have hr_191 : linL s g lt (nI j) (k + 1) = ((wrM (wrM (wrM (wrM (wrM (linL s g lt (nI j) k) (48 + (g (68 + 8 * j + k)))) 42) (48 + (g (132 + 8 * j + k)))) 43) 63) : (Nat → Int32) × (Nat → Int32)) := by
                      simp only [linL, hcc, hdd, hcj, hnn, hfn, ex_190]
                      rw [if_pos c_28, if_pos c_56, if_pos c_138, if_pos c_181, if_pos c_189]
                    have el_2 : x_190 = nI (k + 1) := by rw [ex_190]; exact nI_1 k
                    have hl := lv_sub (l' := [(2, .int x_190), (0, .ref m), (1, .int (nI j))]) hl [0, 2, 3] rfl
                    rw [el_2] at hl
                    have wf_192 : ω_171.2 m = some (.inr (13, [.ref (m + 1), .ref (m + 2), .ref (m + 3), .int (((linL s g lt (nI j) (k + 1)).1) 3), .ref (m + 4), .int (((linL s g lt (nI j) (k + 1)).1) 5), .ref (m + 5), .int (((linL s g lt (nI j) (k + 1)).1) 7), .int (((linL s g lt (nI j) (k + 1)).1) 8), .int (((linL s g lt (nI j) (k + 1)).1) 9), .int (((linL s g lt (nI j) (k + 1)).1) 10), .int (((linL s g lt (nI j) (k + 1)).1) 11), .ref (m + 6), .int (((linL s g lt (nI j) (k + 1)).1) 13), .int (((linL s g lt (nI j) (k + 1)).1) 14), .ref (m + 7), .int (((linL s g lt (nI j) (k + 1)).1) 16), .int (((linL s g lt (nI j) (k + 1)).1) 17), .ref (m + 8)])) := f_175.trans (congrArg some (by rw [hr_191]))
                    have wf_193 : ω_171.2 (m + 6) = some (.inl (G.2.1 1, 60, .inl ((linL s g lt (nI j) (k + 1)).2))) := f_176.trans (congrArg some (by rw [hr_191]))
                    have fr_194 : ∀ q : Nat, ¬ q = m → ¬ q = (m + 6) → ω_171.2 q = ω_5.2 q := by
                      intro q h0 h1
                      rw [fr_174 q (by omega) (by omega)]
                      rw [fr_133 q (by omega) (by omega)]
                      rw [fr_51 q (by omega) (by omega)]
                      rw [fr_41 q (by omega) (by omega)]
                      rw [fr_34 q (by omega) (by omega)]
                      rw [hfrτk q (by omega) (by omega)]
                    have z_195 : ω_171.1 = ω_5.1 := by rw [z_173, z_132, z_50, z_40, z_33, hzτk]
                    exact ih (k + 1) ω_171 (by omega) (by first | assumption | omega | (simp; done)) z_195 wf_192 wf_193 fr_194 _ _ _ hR hS hl
                  · skip
                    refine lv_aload_n hx hb dX11_line_159 rfl (lv_at hl 2 rfl) ?_
                    refine lv_bipush (v := 47) hx hb dX11_line_160 (by decide) ?_
                    refine fw_call (va_runV (As := [.int 47]) (rest := []) ⟨hx, hb, hml, hown, hts⟩ (c_X11_writes G hL l ω_171 m (wrM (wrM (wrM (wrM (wrM (linL s g lt (nI j) k) (48 + (g (68 + 8 * j + k)))) 42) (48 + (g (132 + 8 * j + k)))) 43) 63) f_175 f_176 (okN_le (wrM_ok (wrM_ok (wrM_ok (wrM_ok (wrM_ok (linL_ok s g lt (nI j) k (by omega)) (by omega)) (by omega)) (by omega)) (by omega)) (by omega)) (by omega)) 47) (cwV 1 hts gX11_line_X11_writes rfl rfl rfl (by decide +kernel) ⟨Nat.le_of_ble_eq_true rfl, Nat.le_of_ble_eq_true rfl⟩) (fw_preV hW hK hR f_175 rfl) rfl rfl hl.1 rfl (lv_room (Nat.le_of_ble_eq_true rfl)) dX11_line_162 ⟨Nat.le_of_ble_eq_true rfl, Nat.le_of_ble_eq_true rfl⟩) hS (fun v_196 ω_197 H locs hq_198 hR hS => ?_)
                    obtain ⟨rfl, z_199, f_201, f_202, fr_200⟩ := hq_198
                    refine W.eq (g2 := F0 mI 165 ls []) rfl ?_
                    obtain ⟨x_203, ex_203⟩ : ∃ y : Int32, y = (nI k) + 1 := ⟨_, rfl⟩
                    refine lv_iinc (v := x_203) (lv' := [(2, .int x_203), (3, .int (nI (8 * j + k))), (0, .ref m), (1, .int (nI j))]) hx hb dX11_line_165 hl (k := 1) rfl (by rw [ex_203]; rfl) (by decide) rfl (fun ls hl => ?_)
                    refine lv_goto (tgt := 21) hx hb dX11_line_168 (by decide) ?_
                    have hr_204 : linL s g lt (nI j) (k + 1) = ((wrM (wrM (wrM (wrM (wrM (wrM (linL s g lt (nI j) k) (48 + (g (68 + 8 * j + k)))) 42) (48 + (g (132 + 8 * j + k)))) 43) 63) 47) : (Nat → Int32) × (Nat → Int32)) := by
                      simp only [linL, hcc, hdd, hcj, hnn, hfn, ex_203]
                      rw [if_pos c_28, if_pos c_56, if_pos c_138, if_pos c_181, if_neg c_189]
                    have el_2 : x_203 = nI (k + 1) := by rw [ex_203]; exact nI_1 k
                    have hl := lv_sub (l' := [(2, .int x_203), (0, .ref m), (1, .int (nI j))]) hl [0, 2, 3] rfl
                    rw [el_2] at hl
                    have wf_205 : ω_197.2 m = some (.inr (13, [.ref (m + 1), .ref (m + 2), .ref (m + 3), .int (((linL s g lt (nI j) (k + 1)).1) 3), .ref (m + 4), .int (((linL s g lt (nI j) (k + 1)).1) 5), .ref (m + 5), .int (((linL s g lt (nI j) (k + 1)).1) 7), .int (((linL s g lt (nI j) (k + 1)).1) 8), .int (((linL s g lt (nI j) (k + 1)).1) 9), .int (((linL s g lt (nI j) (k + 1)).1) 10), .int (((linL s g lt (nI j) (k + 1)).1) 11), .ref (m + 6), .int (((linL s g lt (nI j) (k + 1)).1) 13), .int (((linL s g lt (nI j) (k + 1)).1) 14), .ref (m + 7), .int (((linL s g lt (nI j) (k + 1)).1) 16), .int (((linL s g lt (nI j) (k + 1)).1) 17), .ref (m + 8)])) := f_201.trans (congrArg some (by rw [hr_204]))
                    have wf_206 : ω_197.2 (m + 6) = some (.inl (G.2.1 1, 60, .inl ((linL s g lt (nI j) (k + 1)).2))) := f_202.trans (congrArg some (by rw [hr_204]))
                    have fr_207 : ∀ q : Nat, ¬ q = m → ¬ q = (m + 6) → ω_197.2 q = ω_5.2 q := by
                      intro q h0 h1
                      rw [fr_200 q (by omega) (by omega)]
                      rw [fr_174 q (by omega) (by omega)]
                      rw [fr_133 q (by omega) (by omega)]
                      rw [fr_51 q (by omega) (by omega)]
                      rw [fr_41 q (by omega) (by omega)]
                      rw [fr_34 q (by omega) (by omega)]
                      rw [hfrτk q (by omega) (by omega)]
                    have z_208 : ω_197.1 = ω_5.1 := by rw [z_199, z_173, z_132, z_50, z_40, z_33, hzτk]
                    exact ih (k + 1) ω_197 (by omega) (by first | assumption | omega | (simp; done)) z_208 wf_205 wf_206 fr_207 _ _ _ hR hS hl
          · skip
            refine lv_aload_n hx hb dX11_line_45 rfl (lv_at hl 2 rfl) ?_
            refine lv_bipush (v := 32) hx hb dX11_line_46 (by decide) ?_
            refine fw_call (va_runV (As := [.int 32]) (rest := []) ⟨hx, hb, hml, hown, hts⟩ (c_X11_writes G hL l τk m (linL s g lt (nI j) k) wk0 wk1 (okN_le (linL_ok s g lt (nI j) k (by omega)) (by omega)) 32) (cwV 1 hts gX11_line_X11_writes rfl rfl rfl (by decide +kernel) ⟨Nat.le_of_ble_eq_true rfl, Nat.le_of_ble_eq_true rfl⟩) (fw_preV hW hK hR wk0 rfl) rfl rfl hl.1 rfl (lv_room (Nat.le_of_ble_eq_true rfl)) dX11_line_48 ⟨Nat.le_of_ble_eq_true rfl, Nat.le_of_ble_eq_true rfl⟩) hS (fun v_209 ω_210 H locs hq_211 hR hS => ?_)
            obtain ⟨rfl, z_212, f_214, f_215, fr_213⟩ := hq_211
            refine W.eq (g2 := F0 mI 51 ls []) rfl ?_
            refine lv_aload_n hx hb dX11_line_51 rfl (lv_at hl 2 rfl) ?_
            refine lv_bipush (v := 48) hx hb dX11_line_52 (by decide) ?_
            refine lv_aload_n hx hb dX11_line_54 rfl (lv_at hl 2 rfl) ?_
            refine fw_get (v := .ref (m + 1)) (C := RX11) (T := TX11) (N := 19) hx hb hts hin11 hown hK hR f_214 rfl 0 (by decide) (hts (.fieldLink RX11 7 "UnreadLeafletsModel" "g" "[I") (by decide +kernel)) rfl dX11_line_55 ?_
            refine lv_bipush (v := 68) hx hb dX11_line_58 (by decide) ?_
            refine lv_iload_n hx hb dX11_line_60 rfl (lv_at hl 0 rfl) ?_
            refine lv_iadd hx hb dX11_line_61 ?_
            have hi_216 : 68 + (nI (8 * j + k)) = nI (68 + 8 * j + k) := by
              show (nI 68) + (nI (8 * j + k)) = _
              simp only [pk_mul, nI_add, Nat.add_assoc, hc, hd, hn, hff]
            refine W.eq (g2 := F0 mI 62 ls [.int (nI (68 + 8 * j + k)), .ref (m + 1), .int 48, .ref m]) (by rw [hi_216]) ?_
            have f_217 : ω_210.2 (m + 1) = some (.inl (G.2.1 0, 324, .inl g)) := (fr_213 (m + 1) (by omega) (by omega)).trans f_15
            refine fw_iald hx hb hK hR f_217 (vp_in_nI (by omega) (by omega)) dX11_line_62 ?_
            refine W.eq (g2 := F0 mI 63 ls [.int (g (68 + 8 * j + k)), .int 48, .ref m]) (by rw [nI_clamp (by omega)]) ?_
            refine lv_iadd hx hb dX11_line_63 ?_
            refine fw_call (va_runV (As := [.int (48 + (g (68 + 8 * j + k)))]) (rest := []) ⟨hx, hb, hml, hown, hts⟩ (c_X11_writes G hL l ω_210 m (wrM (linL s g lt (nI j) k) 32) f_214 f_215 (okN_le (wrM_ok (linL_ok s g lt (nI j) k (by omega)) (by omega)) (by omega)) (48 + (g (68 + 8 * j + k)))) (cwV 1 hts gX11_line_X11_writes rfl rfl rfl (by decide +kernel) ⟨Nat.le_of_ble_eq_true rfl, Nat.le_of_ble_eq_true rfl⟩) (fw_preV hW hK hR f_214 rfl) rfl rfl hl.1 rfl (lv_room (Nat.le_of_ble_eq_true rfl)) dX11_line_64 ⟨Nat.le_of_ble_eq_true rfl, Nat.le_of_ble_eq_true rfl⟩) hS (fun v_218 ω_219 H locs hq_220 hR hS => ?_)
            obtain ⟨rfl, z_221, f_223, f_224, fr_222⟩ := hq_220
            refine W.eq (g2 := F0 mI 67 ls []) rfl ?_
            refine lv_aload_n hx hb dX11_line_67 rfl (lv_at hl 2 rfl) ?_
            refine lv_bipush (v := 42) hx hb dX11_line_68 (by decide) ?_
            refine fw_call (va_runV (As := [.int 42]) (rest := []) ⟨hx, hb, hml, hown, hts⟩ (c_X11_writes G hL l ω_219 m (wrM (wrM (linL s g lt (nI j) k) 32) (48 + (g (68 + 8 * j + k)))) f_223 f_224 (okN_le (wrM_ok (wrM_ok (linL_ok s g lt (nI j) k (by omega)) (by omega)) (by omega)) (by omega)) 42) (cwV 1 hts gX11_line_X11_writes rfl rfl rfl (by decide +kernel) ⟨Nat.le_of_ble_eq_true rfl, Nat.le_of_ble_eq_true rfl⟩) (fw_preV hW hK hR f_223 rfl) rfl rfl hl.1 rfl (lv_room (Nat.le_of_ble_eq_true rfl)) dX11_line_70 ⟨Nat.le_of_ble_eq_true rfl, Nat.le_of_ble_eq_true rfl⟩) hS (fun v_225 ω_226 H locs hq_227 hR hS => ?_)
            obtain ⟨rfl, z_228, f_230, f_231, fr_229⟩ := hq_227
            refine W.eq (g2 := F0 mI 73 ls []) rfl ?_
            refine lv_aload_n hx hb dX11_line_73 rfl (lv_at hl 2 rfl) ?_
            refine lv_bipush (v := 48) hx hb dX11_line_74 (by decide) ?_
            refine lv_aload_n hx hb dX11_line_76 rfl (lv_at hl 2 rfl) ?_
            refine fw_get (v := .ref (m + 1)) (C := RX11) (T := TX11) (N := 19) hx hb hts hin11 hown hK hR f_230 rfl 0 (by decide) (hts (.fieldLink RX11 7 "UnreadLeafletsModel" "g" "[I") (by decide +kernel)) rfl dX11_line_77 ?_
            refine lv_sipush (v := 132) hx hb dX11_line_80 (by decide) ?_
            refine lv_iload_n hx hb dX11_line_83 rfl (lv_at hl 0 rfl) ?_
            refine lv_iadd hx hb dX11_line_84 ?_
            have hi_232 : 132 + (nI (8 * j + k)) = nI (132 + 8 * j + k) := by
              show (nI 132) + (nI (8 * j + k)) = _
              simp only [pk_mul, nI_add, Nat.add_assoc, hc, hd, hn, hff]
            refine W.eq (g2 := F0 mI 85 ls [.int (nI (132 + 8 * j + k)), .ref (m + 1), .int 48, .ref m]) (by rw [hi_232]) ?_
            have f_233 : ω_219.2 (m + 1) = some (.inl (G.2.1 0, 324, .inl g)) := (fr_222 (m + 1) (by omega) (by omega)).trans f_217
            have f_234 : ω_226.2 (m + 1) = some (.inl (G.2.1 0, 324, .inl g)) := (fr_229 (m + 1) (by omega) (by omega)).trans f_233
            refine fw_iald hx hb hK hR f_234 (vp_in_nI (by omega) (by omega)) dX11_line_85 ?_
            refine W.eq (g2 := F0 mI 86 ls [.int (g (132 + 8 * j + k)), .int 48, .ref m]) (by rw [nI_clamp (by omega)]) ?_
            refine lv_iadd hx hb dX11_line_86 ?_
            refine fw_call (va_runV (As := [.int (48 + (g (132 + 8 * j + k)))]) (rest := []) ⟨hx, hb, hml, hown, hts⟩ (c_X11_writes G hL l ω_226 m (wrM (wrM (wrM (linL s g lt (nI j) k) 32) (48 + (g (68 + 8 * j + k)))) 42) f_230 f_231 (okN_le (wrM_ok (wrM_ok (wrM_ok (linL_ok s g lt (nI j) k (by omega)) (by omega)) (by omega)) (by omega)) (by omega)) (48 + (g (132 + 8 * j + k)))) (cwV 1 hts gX11_line_X11_writes rfl rfl rfl (by decide +kernel) ⟨Nat.le_of_ble_eq_true rfl, Nat.le_of_ble_eq_true rfl⟩) (fw_preV hW hK hR f_230 rfl) rfl rfl hl.1 rfl (lv_room (Nat.le_of_ble_eq_true rfl)) dX11_line_87 ⟨Nat.le_of_ble_eq_true rfl, Nat.le_of_ble_eq_true rfl⟩) hS (fun v_235 ω_236 H locs hq_237 hR hS => ?_)
            obtain ⟨rfl, z_238, f_240, f_241, fr_239⟩ := hq_237
            refine W.eq (g2 := F0 mI 90 ls []) rfl ?_
            refine lv_aload_n hx hb dX11_line_90 rfl (lv_at hl 2 rfl) ?_
            refine fw_get (v := .ref (m + 1)) (C := RX11) (T := TX11) (N := 19) hx hb hts hin11 hown hK hR f_240 rfl 0 (by decide) (hts (.fieldLink RX11 7 "UnreadLeafletsModel" "g" "[I") (by decide +kernel)) rfl dX11_line_91 ?_
            refine lv_sipush (v := 260) hx hb dX11_line_94 (by decide) ?_
            refine lv_iload_n hx hb dX11_line_97 rfl (lv_at hl 0 rfl) ?_
            refine lv_iadd hx hb dX11_line_98 ?_
            have hi_242 : 260 + (nI (8 * j + k)) = nI (260 + 8 * j + k) := by
              show (nI 260) + (nI (8 * j + k)) = _
              simp only [pk_mul, nI_add, Nat.add_assoc, hc, hd, hn, hff]
            refine W.eq (g2 := F0 mI 99 ls [.int (nI (260 + 8 * j + k)), .ref (m + 1)]) (by rw [hi_242]) ?_
            have f_243 : ω_236.2 (m + 1) = some (.inl (G.2.1 0, 324, .inl g)) := (fr_239 (m + 1) (by omega) (by omega)).trans f_234
            refine fw_iald hx hb hK hR f_243 (vp_in_nI (by omega) (by omega)) dX11_line_99 ?_
            refine W.eq (g2 := F0 mI 100 ls [.int (g (260 + 8 * j + k))]) (by rw [nI_clamp (by omega)]) ?_
            refine lv_iconst (v := 1) hx hb dX11_line_100 (by decide) ?_
            refine lv_icmp_ne (tgt := 110) hx hb dX11_line_101 (by decide) (fun c_244 => ?_) (fun c_244 => ?_)
            · skip
              refine lv_aload_n hx hb dX11_line_110 rfl (lv_at hl 2 rfl) ?_
              refine fw_get (v := .ref (m + 1)) (C := RX11) (T := TX11) (N := 19) hx hb hts hin11 hown hK hR f_240 rfl 0 (by decide) (hts (.fieldLink RX11 7 "UnreadLeafletsModel" "g" "[I") (by decide +kernel)) rfl dX11_line_111 ?_
              refine lv_bipush (v := 50) hx hb dX11_line_114 (by decide) ?_
              refine lv_iload_n hx hb dX11_line_116 rfl (lv_at hl 3 rfl) ?_
              refine lv_iadd hx hb dX11_line_117 ?_
              have hi_245 : 50 + (nI j) = nI (50 + j) := by
                show (nI 50) + (nI j) = _
                simp only [pk_mul, nI_add, Nat.add_assoc, hc, hd, hn, hff]
              refine W.eq (g2 := F0 mI 118 ls [.int (nI (50 + j)), .ref (m + 1)]) (by rw [hi_245]) ?_
              refine fw_iald hx hb hK hR f_243 (vp_in_nI (by omega) (by omega)) dX11_line_118 ?_
              refine W.eq (g2 := F0 mI 119 ls [.int (g (50 + j))]) (by rw [nI_clamp (by omega)]) ?_
              refine lv_iload_n hx hb dX11_line_119 rfl (lv_at hl 1 rfl) ?_
              refine lv_ishr hx hb dX11_line_120 ?_
              refine lv_iconst (v := 1) hx hb dX11_line_121 (by decide) ?_
              refine lv_iand hx hb dX11_line_122 ?_
              refine lv_iconst (v := 1) hx hb dX11_line_123 (by decide) ?_
              refine lv_icmp_ne (tgt := 133) hx hb dX11_line_124 (by decide) (fun c_246 => ?_) (fun c_246 => ?_)
              · skip
                refine lv_iload_n hx hb dX11_line_133 rfl (lv_at hl 1 rfl) ?_
                refine lv_aload_n hx hb dX11_line_134 rfl (lv_at hl 2 rfl) ?_
                refine lv_iload_n hx hb dX11_line_135 rfl (lv_at hl 3 rfl) ?_
                refine fw_call (va_runV (As := [.int (nI j)]) (rest := [.int (nI k)]) ⟨hx, hb, hml, hown, hts⟩ (c_X11_open G hL l ω_236 m ((wrM (wrM (wrM (wrM (linL s g lt (nI j) k) 32) (48 + (g (68 + 8 * j + k)))) 42) (48 + (g (132 + 8 * j + k)))).1) g f_240 f_243 j (by omega) f hf3 hff) (cwV 1 hts gX11_line_X11_open rfl rfl rfl (by decide +kernel) ⟨Nat.le_of_ble_eq_true rfl, Nat.le_of_ble_eq_true rfl⟩) (fw_preV hW hK hR f_240 rfl) rfl rfl hl.1 rfl (lv_room (Nat.le_of_ble_eq_true rfl)) dX11_line_136 ⟨Nat.le_of_ble_eq_true rfl, Nat.le_of_ble_eq_true rfl⟩) hS (fun v_247 ω_248 H locs hq_249 hR hS => ?_)
                obtain ⟨rfl, hq_249⟩ := hq_249
                rw [hq_249] at hR
                refine W.eq (g2 := F0 mI 139 ls [.int (openJ (g (18 + j)) f), .int (nI k)]) rfl ?_
                refine lv_iconst (v := 1) hx hb dX11_line_139 (by decide) ?_
                refine lv_isub hx hb dX11_line_140 ?_
                refine lv_icmp_ne (tgt := 165) hx hb dX11_line_141 (by decide) (fun c_250 => ?_) (fun c_250 => ?_)
                · skip
                  obtain ⟨x_251, ex_251⟩ : ∃ y : Int32, y = (nI k) + 1 := ⟨_, rfl⟩
                  refine lv_iinc (v := x_251) (lv' := [(2, .int x_251), (3, .int (nI (8 * j + k))), (0, .ref m), (1, .int (nI j))]) hx hb dX11_line_165 hl (k := 1) rfl (by rw [ex_251]; rfl) (by decide) rfl (fun ls hl => ?_)
                  refine lv_goto (tgt := 21) hx hb dX11_line_168 (by decide) ?_
                  have hr_252 : linL s g lt (nI j) (k + 1) = ((wrM (wrM (wrM (wrM (linL s g lt (nI j) k) 32) (48 + (g (68 + 8 * j + k)))) 42) (48 + (g (132 + 8 * j + k)))) : (Nat → Int32) × (Nat → Int32)) := by
                    simp only [linL, hcc, hdd, hcj, hnn, hfn, ex_251]
                    rw [if_neg c_28, if_neg c_244, if_neg c_246, if_neg c_250]
                  have el_2 : x_251 = nI (k + 1) := by rw [ex_251]; exact nI_1 k
                  have hl := lv_sub (l' := [(2, .int x_251), (0, .ref m), (1, .int (nI j))]) hl [0, 2, 3] rfl
                  rw [el_2] at hl
                  have wf_253 : ω_236.2 m = some (.inr (13, [.ref (m + 1), .ref (m + 2), .ref (m + 3), .int (((linL s g lt (nI j) (k + 1)).1) 3), .ref (m + 4), .int (((linL s g lt (nI j) (k + 1)).1) 5), .ref (m + 5), .int (((linL s g lt (nI j) (k + 1)).1) 7), .int (((linL s g lt (nI j) (k + 1)).1) 8), .int (((linL s g lt (nI j) (k + 1)).1) 9), .int (((linL s g lt (nI j) (k + 1)).1) 10), .int (((linL s g lt (nI j) (k + 1)).1) 11), .ref (m + 6), .int (((linL s g lt (nI j) (k + 1)).1) 13), .int (((linL s g lt (nI j) (k + 1)).1) 14), .ref (m + 7), .int (((linL s g lt (nI j) (k + 1)).1) 16), .int (((linL s g lt (nI j) (k + 1)).1) 17), .ref (m + 8)])) := f_240.trans (congrArg some (by rw [hr_252]))
                  have wf_254 : ω_236.2 (m + 6) = some (.inl (G.2.1 1, 60, .inl ((linL s g lt (nI j) (k + 1)).2))) := f_241.trans (congrArg some (by rw [hr_252]))
                  have fr_255 : ∀ q : Nat, ¬ q = m → ¬ q = (m + 6) → ω_236.2 q = ω_5.2 q := by
                    intro q h0 h1
                    rw [fr_239 q (by omega) (by omega)]
                    rw [fr_229 q (by omega) (by omega)]
                    rw [fr_222 q (by omega) (by omega)]
                    rw [fr_213 q (by omega) (by omega)]
                    rw [hfrτk q (by omega) (by omega)]
                  have z_256 : ω_236.1 = ω_5.1 := by rw [z_238, z_228, z_221, z_212, hzτk]
                  exact ih (k + 1) ω_236 (by omega) (by first | assumption | omega | (simp; done)) z_256 wf_253 wf_254 fr_255 _ _ _ hR hS hl
                · skip
                  refine lv_iload_n hx hb dX11_line_144 rfl (lv_at hl 1 rfl) ?_
                  refine lv_aload_n hx hb dX11_line_145 rfl (lv_at hl 2 rfl) ?_
                  refine fw_get (v := .ref (m + 1)) (C := RX11) (T := TX11) (N := 19) hx hb hts hin11 hown hK hR f_240 rfl 0 (by decide) (hts (.fieldLink RX11 7 "UnreadLeafletsModel" "g" "[I") (by decide +kernel)) rfl dX11_line_146 ?_
                  refine lv_bipush (v := 18) hx hb dX11_line_149 (by decide) ?_
                  refine lv_iload_n hx hb dX11_line_151 rfl (lv_at hl 3 rfl) ?_
                  refine lv_iadd hx hb dX11_line_152 ?_
                  have hi_257 : 18 + (nI j) = nI (18 + j) := by
                    show (nI 18) + (nI j) = _
                    simp only [pk_mul, nI_add, Nat.add_assoc, hc, hd, hn, hff]
                  refine W.eq (g2 := F0 mI 153 ls [.int (nI (18 + j)), .ref (m + 1), .int (nI k)]) (by rw [hi_257]) ?_
                  refine fw_iald hx hb hK hR f_243 (vp_in_nI (by omega) (by omega)) dX11_line_153 ?_
                  refine W.eq (g2 := F0 mI 154 ls [.int (g (18 + j)), .int (nI k)]) (by rw [nI_clamp (by omega)]) ?_
                  refine lv_iconst (v := 1) hx hb dX11_line_154 (by decide) ?_
                  refine lv_isub hx hb dX11_line_155 ?_
                  refine lv_icmp_ge (tgt := 165) hx hb dX11_line_156 (by decide) (fun c_258 => ?_) (fun c_258 => ?_)
                  · skip
                    obtain ⟨x_259, ex_259⟩ : ∃ y : Int32, y = (nI k) + 1 := ⟨_, rfl⟩
                    refine lv_iinc (v := x_259) (lv' := [(2, .int x_259), (3, .int (nI (8 * j + k))), (0, .ref m), (1, .int (nI j))]) hx hb dX11_line_165 hl (k := 1) rfl (by rw [ex_259]; rfl) (by decide) rfl (fun ls hl => ?_)
                    refine lv_goto (tgt := 21) hx hb dX11_line_168 (by decide) ?_
                    have hr_260 : linL s g lt (nI j) (k + 1) = ((wrM (wrM (wrM (wrM (linL s g lt (nI j) k) 32) (48 + (g (68 + 8 * j + k)))) 42) (48 + (g (132 + 8 * j + k)))) : (Nat → Int32) × (Nat → Int32)) := by
                      simp only [linL, hcc, hdd, hcj, hnn, hfn, ex_259]
                      rw [if_neg c_28, if_neg c_244, if_neg c_246, if_pos c_250, if_pos c_258]
                    have el_2 : x_259 = nI (k + 1) := by rw [ex_259]; exact nI_1 k
                    have hl := lv_sub (l' := [(2, .int x_259), (0, .ref m), (1, .int (nI j))]) hl [0, 2, 3] rfl
                    rw [el_2] at hl
                    have wf_261 : ω_236.2 m = some (.inr (13, [.ref (m + 1), .ref (m + 2), .ref (m + 3), .int (((linL s g lt (nI j) (k + 1)).1) 3), .ref (m + 4), .int (((linL s g lt (nI j) (k + 1)).1) 5), .ref (m + 5), .int (((linL s g lt (nI j) (k + 1)).1) 7), .int (((linL s g lt (nI j) (k + 1)).1) 8), .int (((linL s g lt (nI j) (k + 1)).1) 9), .int (((linL s g lt (nI j) (k + 1)).1) 10), .int (((linL s g lt (nI j) (k + 1)).1) 11), .ref (m + 6), .int (((linL s g lt (nI j) (k + 1)).1) 13), .int (((linL s g lt (nI j) (k + 1)).1) 14), .ref (m + 7), .int (((linL s g lt (nI j) (k + 1)).1) 16), .int (((linL s g lt (nI j) (k + 1)).1) 17), .ref (m + 8)])) := f_240.trans (congrArg some (by rw [hr_260]))
                    have wf_262 : ω_236.2 (m + 6) = some (.inl (G.2.1 1, 60, .inl ((linL s g lt (nI j) (k + 1)).2))) := f_241.trans (congrArg some (by rw [hr_260]))
                    have fr_263 : ∀ q : Nat, ¬ q = m → ¬ q = (m + 6) → ω_236.2 q = ω_5.2 q := by
                      intro q h0 h1
                      rw [fr_239 q (by omega) (by omega)]
                      rw [fr_229 q (by omega) (by omega)]
                      rw [fr_222 q (by omega) (by omega)]
                      rw [fr_213 q (by omega) (by omega)]
                      rw [hfrτk q (by omega) (by omega)]
                    have z_264 : ω_236.1 = ω_5.1 := by rw [z_238, z_228, z_221, z_212, hzτk]
                    exact ih (k + 1) ω_236 (by omega) (by first | assumption | omega | (simp; done)) z_264 wf_261 wf_262 fr_263 _ _ _ hR hS hl
                  · skip
                    refine lv_aload_n hx hb dX11_line_159 rfl (lv_at hl 2 rfl) ?_
                    refine lv_bipush (v := 47) hx hb dX11_line_160 (by decide) ?_
                    refine fw_call (va_runV (As := [.int 47]) (rest := []) ⟨hx, hb, hml, hown, hts⟩ (c_X11_writes G hL l ω_236 m (wrM (wrM (wrM (wrM (linL s g lt (nI j) k) 32) (48 + (g (68 + 8 * j + k)))) 42) (48 + (g (132 + 8 * j + k)))) f_240 f_241 (okN_le (wrM_ok (wrM_ok (wrM_ok (wrM_ok (linL_ok s g lt (nI j) k (by omega)) (by omega)) (by omega)) (by omega)) (by omega)) (by omega)) 47) (cwV 1 hts gX11_line_X11_writes rfl rfl rfl (by decide +kernel) ⟨Nat.le_of_ble_eq_true rfl, Nat.le_of_ble_eq_true rfl⟩) (fw_preV hW hK hR f_240 rfl) rfl rfl hl.1 rfl (lv_room (Nat.le_of_ble_eq_true rfl)) dX11_line_162 ⟨Nat.le_of_ble_eq_true rfl, Nat.le_of_ble_eq_true rfl⟩) hS (fun v_265 ω_266 H locs hq_267 hR hS => ?_)
                    obtain ⟨rfl, z_268, f_270, f_271, fr_269⟩ := hq_267
                    refine W.eq (g2 := F0 mI 165 ls []) rfl ?_
                    obtain ⟨x_272, ex_272⟩ : ∃ y : Int32, y = (nI k) + 1 := ⟨_, rfl⟩
                    refine lv_iinc (v := x_272) (lv' := [(2, .int x_272), (3, .int (nI (8 * j + k))), (0, .ref m), (1, .int (nI j))]) hx hb dX11_line_165 hl (k := 1) rfl (by rw [ex_272]; rfl) (by decide) rfl (fun ls hl => ?_)
                    refine lv_goto (tgt := 21) hx hb dX11_line_168 (by decide) ?_
                    have hr_273 : linL s g lt (nI j) (k + 1) = ((wrM (wrM (wrM (wrM (wrM (linL s g lt (nI j) k) 32) (48 + (g (68 + 8 * j + k)))) 42) (48 + (g (132 + 8 * j + k)))) 47) : (Nat → Int32) × (Nat → Int32)) := by
                      simp only [linL, hcc, hdd, hcj, hnn, hfn, ex_272]
                      rw [if_neg c_28, if_neg c_244, if_neg c_246, if_pos c_250, if_neg c_258]
                    have el_2 : x_272 = nI (k + 1) := by rw [ex_272]; exact nI_1 k
                    have hl := lv_sub (l' := [(2, .int x_272), (0, .ref m), (1, .int (nI j))]) hl [0, 2, 3] rfl
                    rw [el_2] at hl
                    have wf_274 : ω_266.2 m = some (.inr (13, [.ref (m + 1), .ref (m + 2), .ref (m + 3), .int (((linL s g lt (nI j) (k + 1)).1) 3), .ref (m + 4), .int (((linL s g lt (nI j) (k + 1)).1) 5), .ref (m + 5), .int (((linL s g lt (nI j) (k + 1)).1) 7), .int (((linL s g lt (nI j) (k + 1)).1) 8), .int (((linL s g lt (nI j) (k + 1)).1) 9), .int (((linL s g lt (nI j) (k + 1)).1) 10), .int (((linL s g lt (nI j) (k + 1)).1) 11), .ref (m + 6), .int (((linL s g lt (nI j) (k + 1)).1) 13), .int (((linL s g lt (nI j) (k + 1)).1) 14), .ref (m + 7), .int (((linL s g lt (nI j) (k + 1)).1) 16), .int (((linL s g lt (nI j) (k + 1)).1) 17), .ref (m + 8)])) := f_270.trans (congrArg some (by rw [hr_273]))
                    have wf_275 : ω_266.2 (m + 6) = some (.inl (G.2.1 1, 60, .inl ((linL s g lt (nI j) (k + 1)).2))) := f_271.trans (congrArg some (by rw [hr_273]))
                    have fr_276 : ∀ q : Nat, ¬ q = m → ¬ q = (m + 6) → ω_266.2 q = ω_5.2 q := by
                      intro q h0 h1
                      rw [fr_269 q (by omega) (by omega)]
                      rw [fr_239 q (by omega) (by omega)]
                      rw [fr_229 q (by omega) (by omega)]
                      rw [fr_222 q (by omega) (by omega)]
                      rw [fr_213 q (by omega) (by omega)]
                      rw [hfrτk q (by omega) (by omega)]
                    have z_277 : ω_266.1 = ω_5.1 := by rw [z_268, z_238, z_228, z_221, z_212, hzτk]
                    exact ih (k + 1) ω_266 (by omega) (by first | assumption | omega | (simp; done)) z_277 wf_274 wf_275 fr_276 _ _ _ hR hS hl
              · skip
                refine lv_aload_n hx hb dX11_line_127 rfl (lv_at hl 2 rfl) ?_
                refine lv_bipush (v := 63) hx hb dX11_line_128 (by decide) ?_
                refine fw_call (va_runV (As := [.int 63]) (rest := []) ⟨hx, hb, hml, hown, hts⟩ (c_X11_writes G hL l ω_236 m (wrM (wrM (wrM (wrM (linL s g lt (nI j) k) 32) (48 + (g (68 + 8 * j + k)))) 42) (48 + (g (132 + 8 * j + k)))) f_240 f_241 (okN_le (wrM_ok (wrM_ok (wrM_ok (wrM_ok (linL_ok s g lt (nI j) k (by omega)) (by omega)) (by omega)) (by omega)) (by omega)) (by omega)) 63) (cwV 1 hts gX11_line_X11_writes rfl rfl rfl (by decide +kernel) ⟨Nat.le_of_ble_eq_true rfl, Nat.le_of_ble_eq_true rfl⟩) (fw_preV hW hK hR f_240 rfl) rfl rfl hl.1 rfl (lv_room (Nat.le_of_ble_eq_true rfl)) dX11_line_130 ⟨Nat.le_of_ble_eq_true rfl, Nat.le_of_ble_eq_true rfl⟩) hS (fun v_278 ω_279 H locs hq_280 hR hS => ?_)
                obtain ⟨rfl, z_281, f_283, f_284, fr_282⟩ := hq_280
                refine W.eq (g2 := F0 mI 133 ls []) rfl ?_
                refine lv_iload_n hx hb dX11_line_133 rfl (lv_at hl 1 rfl) ?_
                refine lv_aload_n hx hb dX11_line_134 rfl (lv_at hl 2 rfl) ?_
                refine lv_iload_n hx hb dX11_line_135 rfl (lv_at hl 3 rfl) ?_
                have f_285 : ω_279.2 (m + 1) = some (.inl (G.2.1 0, 324, .inl g)) := (fr_282 (m + 1) (by omega) (by omega)).trans f_243
                refine fw_call (va_runV (As := [.int (nI j)]) (rest := [.int (nI k)]) ⟨hx, hb, hml, hown, hts⟩ (c_X11_open G hL l ω_279 m ((wrM (wrM (wrM (wrM (wrM (linL s g lt (nI j) k) 32) (48 + (g (68 + 8 * j + k)))) 42) (48 + (g (132 + 8 * j + k)))) 63).1) g f_283 f_285 j (by omega) f hf3 hff) (cwV 1 hts gX11_line_X11_open rfl rfl rfl (by decide +kernel) ⟨Nat.le_of_ble_eq_true rfl, Nat.le_of_ble_eq_true rfl⟩) (fw_preV hW hK hR f_283 rfl) rfl rfl hl.1 rfl (lv_room (Nat.le_of_ble_eq_true rfl)) dX11_line_136 ⟨Nat.le_of_ble_eq_true rfl, Nat.le_of_ble_eq_true rfl⟩) hS (fun v_286 ω_287 H locs hq_288 hR hS => ?_)
                obtain ⟨rfl, hq_288⟩ := hq_288
                rw [hq_288] at hR
                refine W.eq (g2 := F0 mI 139 ls [.int (openJ (g (18 + j)) f), .int (nI k)]) rfl ?_
                refine lv_iconst (v := 1) hx hb dX11_line_139 (by decide) ?_
                refine lv_isub hx hb dX11_line_140 ?_
                refine lv_icmp_ne (tgt := 165) hx hb dX11_line_141 (by decide) (fun c_289 => ?_) (fun c_289 => ?_)
                · skip
                  obtain ⟨x_290, ex_290⟩ : ∃ y : Int32, y = (nI k) + 1 := ⟨_, rfl⟩
                  refine lv_iinc (v := x_290) (lv' := [(2, .int x_290), (3, .int (nI (8 * j + k))), (0, .ref m), (1, .int (nI j))]) hx hb dX11_line_165 hl (k := 1) rfl (by rw [ex_290]; rfl) (by decide) rfl (fun ls hl => ?_)
                  refine lv_goto (tgt := 21) hx hb dX11_line_168 (by decide) ?_
                  have hr_291 : linL s g lt (nI j) (k + 1) = ((wrM (wrM (wrM (wrM (wrM (linL s g lt (nI j) k) 32) (48 + (g (68 + 8 * j + k)))) 42) (48 + (g (132 + 8 * j + k)))) 63) : (Nat → Int32) × (Nat → Int32)) := by
                    simp only [linL, hcc, hdd, hcj, hnn, hfn, ex_290]
                    rw [if_neg c_28, if_neg c_244, if_pos c_246, if_neg c_289]
                  have el_2 : x_290 = nI (k + 1) := by rw [ex_290]; exact nI_1 k
                  have hl := lv_sub (l' := [(2, .int x_290), (0, .ref m), (1, .int (nI j))]) hl [0, 2, 3] rfl
                  rw [el_2] at hl
                  have wf_292 : ω_279.2 m = some (.inr (13, [.ref (m + 1), .ref (m + 2), .ref (m + 3), .int (((linL s g lt (nI j) (k + 1)).1) 3), .ref (m + 4), .int (((linL s g lt (nI j) (k + 1)).1) 5), .ref (m + 5), .int (((linL s g lt (nI j) (k + 1)).1) 7), .int (((linL s g lt (nI j) (k + 1)).1) 8), .int (((linL s g lt (nI j) (k + 1)).1) 9), .int (((linL s g lt (nI j) (k + 1)).1) 10), .int (((linL s g lt (nI j) (k + 1)).1) 11), .ref (m + 6), .int (((linL s g lt (nI j) (k + 1)).1) 13), .int (((linL s g lt (nI j) (k + 1)).1) 14), .ref (m + 7), .int (((linL s g lt (nI j) (k + 1)).1) 16), .int (((linL s g lt (nI j) (k + 1)).1) 17), .ref (m + 8)])) := f_283.trans (congrArg some (by rw [hr_291]))
                  have wf_293 : ω_279.2 (m + 6) = some (.inl (G.2.1 1, 60, .inl ((linL s g lt (nI j) (k + 1)).2))) := f_284.trans (congrArg some (by rw [hr_291]))
                  have fr_294 : ∀ q : Nat, ¬ q = m → ¬ q = (m + 6) → ω_279.2 q = ω_5.2 q := by
                    intro q h0 h1
                    rw [fr_282 q (by omega) (by omega)]
                    rw [fr_239 q (by omega) (by omega)]
                    rw [fr_229 q (by omega) (by omega)]
                    rw [fr_222 q (by omega) (by omega)]
                    rw [fr_213 q (by omega) (by omega)]
                    rw [hfrτk q (by omega) (by omega)]
                  have z_295 : ω_279.1 = ω_5.1 := by rw [z_281, z_238, z_228, z_221, z_212, hzτk]
                  exact ih (k + 1) ω_279 (by omega) (by first | assumption | omega | (simp; done)) z_295 wf_292 wf_293 fr_294 _ _ _ hR hS hl
                · skip
                  refine lv_iload_n hx hb dX11_line_144 rfl (lv_at hl 1 rfl) ?_
                  refine lv_aload_n hx hb dX11_line_145 rfl (lv_at hl 2 rfl) ?_
                  refine fw_get (v := .ref (m + 1)) (C := RX11) (T := TX11) (N := 19) hx hb hts hin11 hown hK hR f_283 rfl 0 (by decide) (hts (.fieldLink RX11 7 "UnreadLeafletsModel" "g" "[I") (by decide +kernel)) rfl dX11_line_146 ?_
                  refine lv_bipush (v := 18) hx hb dX11_line_149 (by decide) ?_
                  refine lv_iload_n hx hb dX11_line_151 rfl (lv_at hl 3 rfl) ?_
                  refine lv_iadd hx hb dX11_line_152 ?_
                  have hi_296 : 18 + (nI j) = nI (18 + j) := by
                    show (nI 18) + (nI j) = _
                    simp only [pk_mul, nI_add, Nat.add_assoc, hc, hd, hn, hff]
                  refine W.eq (g2 := F0 mI 153 ls [.int (nI (18 + j)), .ref (m + 1), .int (nI k)]) (by rw [hi_296]) ?_
                  refine fw_iald hx hb hK hR f_285 (vp_in_nI (by omega) (by omega)) dX11_line_153 ?_
                  refine W.eq (g2 := F0 mI 154 ls [.int (g (18 + j)), .int (nI k)]) (by rw [nI_clamp (by omega)]) ?_
                  refine lv_iconst (v := 1) hx hb dX11_line_154 (by decide) ?_
                  refine lv_isub hx hb dX11_line_155 ?_
                  refine lv_icmp_ge (tgt := 165) hx hb dX11_line_156 (by decide) (fun c_297 => ?_) (fun c_297 => ?_)
                  · skip
                    obtain ⟨x_298, ex_298⟩ : ∃ y : Int32, y = (nI k) + 1 := ⟨_, rfl⟩
                    refine lv_iinc (v := x_298) (lv' := [(2, .int x_298), (3, .int (nI (8 * j + k))), (0, .ref m), (1, .int (nI j))]) hx hb dX11_line_165 hl (k := 1) rfl (by rw [ex_298]; rfl) (by decide) rfl (fun ls hl => ?_)
                    refine lv_goto (tgt := 21) hx hb dX11_line_168 (by decide) ?_
                    have hr_299 : linL s g lt (nI j) (k + 1) = ((wrM (wrM (wrM (wrM (wrM (linL s g lt (nI j) k) 32) (48 + (g (68 + 8 * j + k)))) 42) (48 + (g (132 + 8 * j + k)))) 63) : (Nat → Int32) × (Nat → Int32)) := by
                      simp only [linL, hcc, hdd, hcj, hnn, hfn, ex_298]
                      rw [if_neg c_28, if_neg c_244, if_pos c_246, if_pos c_289, if_pos c_297]
                    have el_2 : x_298 = nI (k + 1) := by rw [ex_298]; exact nI_1 k
                    have hl := lv_sub (l' := [(2, .int x_298), (0, .ref m), (1, .int (nI j))]) hl [0, 2, 3] rfl
                    rw [el_2] at hl
                    have wf_300 : ω_279.2 m = some (.inr (13, [.ref (m + 1), .ref (m + 2), .ref (m + 3), .int (((linL s g lt (nI j) (k + 1)).1) 3), .ref (m + 4), .int (((linL s g lt (nI j) (k + 1)).1) 5), .ref (m + 5), .int (((linL s g lt (nI j) (k + 1)).1) 7), .int (((linL s g lt (nI j) (k + 1)).1) 8), .int (((linL s g lt (nI j) (k + 1)).1) 9), .int (((linL s g lt (nI j) (k + 1)).1) 10), .int (((linL s g lt (nI j) (k + 1)).1) 11), .ref (m + 6), .int (((linL s g lt (nI j) (k + 1)).1) 13), .int (((linL s g lt (nI j) (k + 1)).1) 14), .ref (m + 7), .int (((linL s g lt (nI j) (k + 1)).1) 16), .int (((linL s g lt (nI j) (k + 1)).1) 17), .ref (m + 8)])) := f_283.trans (congrArg some (by rw [hr_299]))
                    have wf_301 : ω_279.2 (m + 6) = some (.inl (G.2.1 1, 60, .inl ((linL s g lt (nI j) (k + 1)).2))) := f_284.trans (congrArg some (by rw [hr_299]))
                    have fr_302 : ∀ q : Nat, ¬ q = m → ¬ q = (m + 6) → ω_279.2 q = ω_5.2 q := by
                      intro q h0 h1
                      rw [fr_282 q (by omega) (by omega)]
                      rw [fr_239 q (by omega) (by omega)]
                      rw [fr_229 q (by omega) (by omega)]
                      rw [fr_222 q (by omega) (by omega)]
                      rw [fr_213 q (by omega) (by omega)]
                      rw [hfrτk q (by omega) (by omega)]
                    have z_303 : ω_279.1 = ω_5.1 := by rw [z_281, z_238, z_228, z_221, z_212, hzτk]
                    exact ih (k + 1) ω_279 (by omega) (by first | assumption | omega | (simp; done)) z_303 wf_300 wf_301 fr_302 _ _ _ hR hS hl
                  · skip
                    refine lv_aload_n hx hb dX11_line_159 rfl (lv_at hl 2 rfl) ?_
                    refine lv_bipush (v := 47) hx hb dX11_line_160 (by decide) ?_
                    refine fw_call (va_runV (As := [.int 47]) (rest := []) ⟨hx, hb, hml, hown, hts⟩ (c_X11_writes G hL l ω_279 m (wrM (wrM (wrM (wrM (wrM (linL s g lt (nI j) k) 32) (48 + (g (68 + 8 * j + k)))) 42) (48 + (g (132 + 8 * j + k)))) 63) f_283 f_284 (okN_le (wrM_ok (wrM_ok (wrM_ok (wrM_ok (wrM_ok (linL_ok s g lt (nI j) k (by omega)) (by omega)) (by omega)) (by omega)) (by omega)) (by omega)) (by omega)) 47) (cwV 1 hts gX11_line_X11_writes rfl rfl rfl (by decide +kernel) ⟨Nat.le_of_ble_eq_true rfl, Nat.le_of_ble_eq_true rfl⟩) (fw_preV hW hK hR f_283 rfl) rfl rfl hl.1 rfl (lv_room (Nat.le_of_ble_eq_true rfl)) dX11_line_162 ⟨Nat.le_of_ble_eq_true rfl, Nat.le_of_ble_eq_true rfl⟩) hS (fun v_304 ω_305 H locs hq_306 hR hS => ?_)
                    obtain ⟨rfl, z_307, f_309, f_310, fr_308⟩ := hq_306
                    refine W.eq (g2 := F0 mI 165 ls []) rfl ?_
                    obtain ⟨x_311, ex_311⟩ : ∃ y : Int32, y = (nI k) + 1 := ⟨_, rfl⟩
                    refine lv_iinc (v := x_311) (lv' := [(2, .int x_311), (3, .int (nI (8 * j + k))), (0, .ref m), (1, .int (nI j))]) hx hb dX11_line_165 hl (k := 1) rfl (by rw [ex_311]; rfl) (by decide) rfl (fun ls hl => ?_)
                    refine lv_goto (tgt := 21) hx hb dX11_line_168 (by decide) ?_
                    have hr_312 : linL s g lt (nI j) (k + 1) = ((wrM (wrM (wrM (wrM (wrM (wrM (linL s g lt (nI j) k) 32) (48 + (g (68 + 8 * j + k)))) 42) (48 + (g (132 + 8 * j + k)))) 63) 47) : (Nat → Int32) × (Nat → Int32)) := by
                      simp only [linL, hcc, hdd, hcj, hnn, hfn, ex_311]
                      rw [if_neg c_28, if_neg c_244, if_pos c_246, if_pos c_289, if_neg c_297]
                    have el_2 : x_311 = nI (k + 1) := by rw [ex_311]; exact nI_1 k
                    have hl := lv_sub (l' := [(2, .int x_311), (0, .ref m), (1, .int (nI j))]) hl [0, 2, 3] rfl
                    rw [el_2] at hl
                    have wf_313 : ω_305.2 m = some (.inr (13, [.ref (m + 1), .ref (m + 2), .ref (m + 3), .int (((linL s g lt (nI j) (k + 1)).1) 3), .ref (m + 4), .int (((linL s g lt (nI j) (k + 1)).1) 5), .ref (m + 5), .int (((linL s g lt (nI j) (k + 1)).1) 7), .int (((linL s g lt (nI j) (k + 1)).1) 8), .int (((linL s g lt (nI j) (k + 1)).1) 9), .int (((linL s g lt (nI j) (k + 1)).1) 10), .int (((linL s g lt (nI j) (k + 1)).1) 11), .ref (m + 6), .int (((linL s g lt (nI j) (k + 1)).1) 13), .int (((linL s g lt (nI j) (k + 1)).1) 14), .ref (m + 7), .int (((linL s g lt (nI j) (k + 1)).1) 16), .int (((linL s g lt (nI j) (k + 1)).1) 17), .ref (m + 8)])) := f_309.trans (congrArg some (by rw [hr_312]))
                    have wf_314 : ω_305.2 (m + 6) = some (.inl (G.2.1 1, 60, .inl ((linL s g lt (nI j) (k + 1)).2))) := f_310.trans (congrArg some (by rw [hr_312]))
                    have fr_315 : ∀ q : Nat, ¬ q = m → ¬ q = (m + 6) → ω_305.2 q = ω_5.2 q := by
                      intro q h0 h1
                      rw [fr_308 q (by omega) (by omega)]
                      rw [fr_282 q (by omega) (by omega)]
                      rw [fr_239 q (by omega) (by omega)]
                      rw [fr_229 q (by omega) (by omega)]
                      rw [fr_222 q (by omega) (by omega)]
                      rw [fr_213 q (by omega) (by omega)]
                      rw [hfrτk q (by omega) (by omega)]
                    have z_316 : ω_305.1 = ω_5.1 := by rw [z_307, z_281, z_238, z_228, z_221, z_212, hzτk]
                    exact ih (k + 1) ω_305 (by omega) (by first | assumption | omega | (simp; done)) z_316 wf_313 wf_314 fr_315 _ _ _ hR hS hl
            · skip
              refine lv_aload_n hx hb dX11_line_104 rfl (lv_at hl 2 rfl) ?_
              refine lv_bipush (v := 43) hx hb dX11_line_105 (by decide) ?_
              refine fw_call (va_runV (As := [.int 43]) (rest := []) ⟨hx, hb, hml, hown, hts⟩ (c_X11_writes G hL l ω_236 m (wrM (wrM (wrM (wrM (linL s g lt (nI j) k) 32) (48 + (g (68 + 8 * j + k)))) 42) (48 + (g (132 + 8 * j + k)))) f_240 f_241 (okN_le (wrM_ok (wrM_ok (wrM_ok (wrM_ok (linL_ok s g lt (nI j) k (by omega)) (by omega)) (by omega)) (by omega)) (by omega)) (by omega)) 43) (cwV 1 hts gX11_line_X11_writes rfl rfl rfl (by decide +kernel) ⟨Nat.le_of_ble_eq_true rfl, Nat.le_of_ble_eq_true rfl⟩) (fw_preV hW hK hR f_240 rfl) rfl rfl hl.1 rfl (lv_room (Nat.le_of_ble_eq_true rfl)) dX11_line_107 ⟨Nat.le_of_ble_eq_true rfl, Nat.le_of_ble_eq_true rfl⟩) hS (fun v_317 ω_318 H locs hq_319 hR hS => ?_)
              obtain ⟨rfl, z_320, f_322, f_323, fr_321⟩ := hq_319
              refine W.eq (g2 := F0 mI 110 ls []) rfl ?_
              refine lv_aload_n hx hb dX11_line_110 rfl (lv_at hl 2 rfl) ?_
              refine fw_get (v := .ref (m + 1)) (C := RX11) (T := TX11) (N := 19) hx hb hts hin11 hown hK hR f_322 rfl 0 (by decide) (hts (.fieldLink RX11 7 "UnreadLeafletsModel" "g" "[I") (by decide +kernel)) rfl dX11_line_111 ?_
              refine lv_bipush (v := 50) hx hb dX11_line_114 (by decide) ?_
              refine lv_iload_n hx hb dX11_line_116 rfl (lv_at hl 3 rfl) ?_
              refine lv_iadd hx hb dX11_line_117 ?_
              have hi_324 : 50 + (nI j) = nI (50 + j) := by
                show (nI 50) + (nI j) = _
                simp only [pk_mul, nI_add, Nat.add_assoc, hc, hd, hn, hff]
              refine W.eq (g2 := F0 mI 118 ls [.int (nI (50 + j)), .ref (m + 1)]) (by rw [hi_324]) ?_
              have f_325 : ω_318.2 (m + 1) = some (.inl (G.2.1 0, 324, .inl g)) := (fr_321 (m + 1) (by omega) (by omega)).trans f_243
              refine fw_iald hx hb hK hR f_325 (vp_in_nI (by omega) (by omega)) dX11_line_118 ?_
              refine W.eq (g2 := F0 mI 119 ls [.int (g (50 + j))]) (by rw [nI_clamp (by omega)]) ?_
              refine lv_iload_n hx hb dX11_line_119 rfl (lv_at hl 1 rfl) ?_
              refine lv_ishr hx hb dX11_line_120 ?_
              refine lv_iconst (v := 1) hx hb dX11_line_121 (by decide) ?_
              refine lv_iand hx hb dX11_line_122 ?_
              refine lv_iconst (v := 1) hx hb dX11_line_123 (by decide) ?_
              refine lv_icmp_ne (tgt := 133) hx hb dX11_line_124 (by decide) (fun c_326 => ?_) (fun c_326 => ?_)
              · skip
                refine lv_iload_n hx hb dX11_line_133 rfl (lv_at hl 1 rfl) ?_
                refine lv_aload_n hx hb dX11_line_134 rfl (lv_at hl 2 rfl) ?_
                refine lv_iload_n hx hb dX11_line_135 rfl (lv_at hl 3 rfl) ?_
                refine fw_call (va_runV (As := [.int (nI j)]) (rest := [.int (nI k)]) ⟨hx, hb, hml, hown, hts⟩ (c_X11_open G hL l ω_318 m ((wrM (wrM (wrM (wrM (wrM (linL s g lt (nI j) k) 32) (48 + (g (68 + 8 * j + k)))) 42) (48 + (g (132 + 8 * j + k)))) 43).1) g f_322 f_325 j (by omega) f hf3 hff) (cwV 1 hts gX11_line_X11_open rfl rfl rfl (by decide +kernel) ⟨Nat.le_of_ble_eq_true rfl, Nat.le_of_ble_eq_true rfl⟩) (fw_preV hW hK hR f_322 rfl) rfl rfl hl.1 rfl (lv_room (Nat.le_of_ble_eq_true rfl)) dX11_line_136 ⟨Nat.le_of_ble_eq_true rfl, Nat.le_of_ble_eq_true rfl⟩) hS (fun v_327 ω_328 H locs hq_329 hR hS => ?_)
                obtain ⟨rfl, hq_329⟩ := hq_329
                rw [hq_329] at hR
                refine W.eq (g2 := F0 mI 139 ls [.int (openJ (g (18 + j)) f), .int (nI k)]) rfl ?_
                refine lv_iconst (v := 1) hx hb dX11_line_139 (by decide) ?_
                refine lv_isub hx hb dX11_line_140 ?_
                refine lv_icmp_ne (tgt := 165) hx hb dX11_line_141 (by decide) (fun c_330 => ?_) (fun c_330 => ?_)
                · skip
                  obtain ⟨x_331, ex_331⟩ : ∃ y : Int32, y = (nI k) + 1 := ⟨_, rfl⟩
                  refine lv_iinc (v := x_331) (lv' := [(2, .int x_331), (3, .int (nI (8 * j + k))), (0, .ref m), (1, .int (nI j))]) hx hb dX11_line_165 hl (k := 1) rfl (by rw [ex_331]; rfl) (by decide) rfl (fun ls hl => ?_)
                  refine lv_goto (tgt := 21) hx hb dX11_line_168 (by decide) ?_
                  have hr_332 : linL s g lt (nI j) (k + 1) = ((wrM (wrM (wrM (wrM (wrM (linL s g lt (nI j) k) 32) (48 + (g (68 + 8 * j + k)))) 42) (48 + (g (132 + 8 * j + k)))) 43) : (Nat → Int32) × (Nat → Int32)) := by
                    simp only [linL, hcc, hdd, hcj, hnn, hfn, ex_331]
                    rw [if_neg c_28, if_pos c_244, if_neg c_326, if_neg c_330]
                  have el_2 : x_331 = nI (k + 1) := by rw [ex_331]; exact nI_1 k
                  have hl := lv_sub (l' := [(2, .int x_331), (0, .ref m), (1, .int (nI j))]) hl [0, 2, 3] rfl
                  rw [el_2] at hl
                  have wf_333 : ω_318.2 m = some (.inr (13, [.ref (m + 1), .ref (m + 2), .ref (m + 3), .int (((linL s g lt (nI j) (k + 1)).1) 3), .ref (m + 4), .int (((linL s g lt (nI j) (k + 1)).1) 5), .ref (m + 5), .int (((linL s g lt (nI j) (k + 1)).1) 7), .int (((linL s g lt (nI j) (k + 1)).1) 8), .int (((linL s g lt (nI j) (k + 1)).1) 9), .int (((linL s g lt (nI j) (k + 1)).1) 10), .int (((linL s g lt (nI j) (k + 1)).1) 11), .ref (m + 6), .int (((linL s g lt (nI j) (k + 1)).1) 13), .int (((linL s g lt (nI j) (k + 1)).1) 14), .ref (m + 7), .int (((linL s g lt (nI j) (k + 1)).1) 16), .int (((linL s g lt (nI j) (k + 1)).1) 17), .ref (m + 8)])) := f_322.trans (congrArg some (by rw [hr_332]))
                  have wf_334 : ω_318.2 (m + 6) = some (.inl (G.2.1 1, 60, .inl ((linL s g lt (nI j) (k + 1)).2))) := f_323.trans (congrArg some (by rw [hr_332]))
                  have fr_335 : ∀ q : Nat, ¬ q = m → ¬ q = (m + 6) → ω_318.2 q = ω_5.2 q := by
                    intro q h0 h1
                    rw [fr_321 q (by omega) (by omega)]
                    rw [fr_239 q (by omega) (by omega)]
                    rw [fr_229 q (by omega) (by omega)]
                    rw [fr_222 q (by omega) (by omega)]
                    rw [fr_213 q (by omega) (by omega)]
                    rw [hfrτk q (by omega) (by omega)]
                  have z_336 : ω_318.1 = ω_5.1 := by rw [z_320, z_238, z_228, z_221, z_212, hzτk]
                  exact ih (k + 1) ω_318 (by omega) (by first | assumption | omega | (simp; done)) z_336 wf_333 wf_334 fr_335 _ _ _ hR hS hl
                · skip
                  refine lv_iload_n hx hb dX11_line_144 rfl (lv_at hl 1 rfl) ?_
                  refine lv_aload_n hx hb dX11_line_145 rfl (lv_at hl 2 rfl) ?_
                  refine fw_get (v := .ref (m + 1)) (C := RX11) (T := TX11) (N := 19) hx hb hts hin11 hown hK hR f_322 rfl 0 (by decide) (hts (.fieldLink RX11 7 "UnreadLeafletsModel" "g" "[I") (by decide +kernel)) rfl dX11_line_146 ?_
                  refine lv_bipush (v := 18) hx hb dX11_line_149 (by decide) ?_
                  refine lv_iload_n hx hb dX11_line_151 rfl (lv_at hl 3 rfl) ?_
                  refine lv_iadd hx hb dX11_line_152 ?_
                  have hi_337 : 18 + (nI j) = nI (18 + j) := by
                    show (nI 18) + (nI j) = _
                    simp only [pk_mul, nI_add, Nat.add_assoc, hc, hd, hn, hff]
                  refine W.eq (g2 := F0 mI 153 ls [.int (nI (18 + j)), .ref (m + 1), .int (nI k)]) (by rw [hi_337]) ?_
                  refine fw_iald hx hb hK hR f_325 (vp_in_nI (by omega) (by omega)) dX11_line_153 ?_
                  refine W.eq (g2 := F0 mI 154 ls [.int (g (18 + j)), .int (nI k)]) (by rw [nI_clamp (by omega)]) ?_
                  refine lv_iconst (v := 1) hx hb dX11_line_154 (by decide) ?_
                  refine lv_isub hx hb dX11_line_155 ?_
                  refine lv_icmp_ge (tgt := 165) hx hb dX11_line_156 (by decide) (fun c_338 => ?_) (fun c_338 => ?_)
                  · skip
                    obtain ⟨x_339, ex_339⟩ : ∃ y : Int32, y = (nI k) + 1 := ⟨_, rfl⟩
                    refine lv_iinc (v := x_339) (lv' := [(2, .int x_339), (3, .int (nI (8 * j + k))), (0, .ref m), (1, .int (nI j))]) hx hb dX11_line_165 hl (k := 1) rfl (by rw [ex_339]; rfl) (by decide) rfl (fun ls hl => ?_)
                    refine lv_goto (tgt := 21) hx hb dX11_line_168 (by decide) ?_
                    have hr_340 : linL s g lt (nI j) (k + 1) = ((wrM (wrM (wrM (wrM (wrM (linL s g lt (nI j) k) 32) (48 + (g (68 + 8 * j + k)))) 42) (48 + (g (132 + 8 * j + k)))) 43) : (Nat → Int32) × (Nat → Int32)) := by
                      simp only [linL, hcc, hdd, hcj, hnn, hfn, ex_339]
                      rw [if_neg c_28, if_pos c_244, if_neg c_326, if_pos c_330, if_pos c_338]
                    have el_2 : x_339 = nI (k + 1) := by rw [ex_339]; exact nI_1 k
                    have hl := lv_sub (l' := [(2, .int x_339), (0, .ref m), (1, .int (nI j))]) hl [0, 2, 3] rfl
                    rw [el_2] at hl
                    have wf_341 : ω_318.2 m = some (.inr (13, [.ref (m + 1), .ref (m + 2), .ref (m + 3), .int (((linL s g lt (nI j) (k + 1)).1) 3), .ref (m + 4), .int (((linL s g lt (nI j) (k + 1)).1) 5), .ref (m + 5), .int (((linL s g lt (nI j) (k + 1)).1) 7), .int (((linL s g lt (nI j) (k + 1)).1) 8), .int (((linL s g lt (nI j) (k + 1)).1) 9), .int (((linL s g lt (nI j) (k + 1)).1) 10), .int (((linL s g lt (nI j) (k + 1)).1) 11), .ref (m + 6), .int (((linL s g lt (nI j) (k + 1)).1) 13), .int (((linL s g lt (nI j) (k + 1)).1) 14), .ref (m + 7), .int (((linL s g lt (nI j) (k + 1)).1) 16), .int (((linL s g lt (nI j) (k + 1)).1) 17), .ref (m + 8)])) := f_322.trans (congrArg some (by rw [hr_340]))
                    have wf_342 : ω_318.2 (m + 6) = some (.inl (G.2.1 1, 60, .inl ((linL s g lt (nI j) (k + 1)).2))) := f_323.trans (congrArg some (by rw [hr_340]))
                    have fr_343 : ∀ q : Nat, ¬ q = m → ¬ q = (m + 6) → ω_318.2 q = ω_5.2 q := by
                      intro q h0 h1
                      rw [fr_321 q (by omega) (by omega)]
                      rw [fr_239 q (by omega) (by omega)]
                      rw [fr_229 q (by omega) (by omega)]
                      rw [fr_222 q (by omega) (by omega)]
                      rw [fr_213 q (by omega) (by omega)]
                      rw [hfrτk q (by omega) (by omega)]
                    have z_344 : ω_318.1 = ω_5.1 := by rw [z_320, z_238, z_228, z_221, z_212, hzτk]
                    exact ih (k + 1) ω_318 (by omega) (by first | assumption | omega | (simp; done)) z_344 wf_341 wf_342 fr_343 _ _ _ hR hS hl
                  · skip
                    refine lv_aload_n hx hb dX11_line_159 rfl (lv_at hl 2 rfl) ?_
                    refine lv_bipush (v := 47) hx hb dX11_line_160 (by decide) ?_
                    refine fw_call (va_runV (As := [.int 47]) (rest := []) ⟨hx, hb, hml, hown, hts⟩ (c_X11_writes G hL l ω_318 m (wrM (wrM (wrM (wrM (wrM (linL s g lt (nI j) k) 32) (48 + (g (68 + 8 * j + k)))) 42) (48 + (g (132 + 8 * j + k)))) 43) f_322 f_323 (okN_le (wrM_ok (wrM_ok (wrM_ok (wrM_ok (wrM_ok (linL_ok s g lt (nI j) k (by omega)) (by omega)) (by omega)) (by omega)) (by omega)) (by omega)) (by omega)) 47) (cwV 1 hts gX11_line_X11_writes rfl rfl rfl (by decide +kernel) ⟨Nat.le_of_ble_eq_true rfl, Nat.le_of_ble_eq_true rfl⟩) (fw_preV hW hK hR f_322 rfl) rfl rfl hl.1 rfl (lv_room (Nat.le_of_ble_eq_true rfl)) dX11_line_162 ⟨Nat.le_of_ble_eq_true rfl, Nat.le_of_ble_eq_true rfl⟩) hS (fun v_345 ω_346 H locs hq_347 hR hS => ?_)
                    obtain ⟨rfl, z_348, f_350, f_351, fr_349⟩ := hq_347
                    refine W.eq (g2 := F0 mI 165 ls []) rfl ?_
                    obtain ⟨x_352, ex_352⟩ : ∃ y : Int32, y = (nI k) + 1 := ⟨_, rfl⟩
                    refine lv_iinc (v := x_352) (lv' := [(2, .int x_352), (3, .int (nI (8 * j + k))), (0, .ref m), (1, .int (nI j))]) hx hb dX11_line_165 hl (k := 1) rfl (by rw [ex_352]; rfl) (by decide) rfl (fun ls hl => ?_)
                    refine lv_goto (tgt := 21) hx hb dX11_line_168 (by decide) ?_
                    have hr_353 : linL s g lt (nI j) (k + 1) = ((wrM (wrM (wrM (wrM (wrM (wrM (linL s g lt (nI j) k) 32) (48 + (g (68 + 8 * j + k)))) 42) (48 + (g (132 + 8 * j + k)))) 43) 47) : (Nat → Int32) × (Nat → Int32)) := by
                      simp only [linL, hcc, hdd, hcj, hnn, hfn, ex_352]
                      rw [if_neg c_28, if_pos c_244, if_neg c_326, if_pos c_330, if_neg c_338]
                    have el_2 : x_352 = nI (k + 1) := by rw [ex_352]; exact nI_1 k
                    have hl := lv_sub (l' := [(2, .int x_352), (0, .ref m), (1, .int (nI j))]) hl [0, 2, 3] rfl
                    rw [el_2] at hl
                    have wf_354 : ω_346.2 m = some (.inr (13, [.ref (m + 1), .ref (m + 2), .ref (m + 3), .int (((linL s g lt (nI j) (k + 1)).1) 3), .ref (m + 4), .int (((linL s g lt (nI j) (k + 1)).1) 5), .ref (m + 5), .int (((linL s g lt (nI j) (k + 1)).1) 7), .int (((linL s g lt (nI j) (k + 1)).1) 8), .int (((linL s g lt (nI j) (k + 1)).1) 9), .int (((linL s g lt (nI j) (k + 1)).1) 10), .int (((linL s g lt (nI j) (k + 1)).1) 11), .ref (m + 6), .int (((linL s g lt (nI j) (k + 1)).1) 13), .int (((linL s g lt (nI j) (k + 1)).1) 14), .ref (m + 7), .int (((linL s g lt (nI j) (k + 1)).1) 16), .int (((linL s g lt (nI j) (k + 1)).1) 17), .ref (m + 8)])) := f_350.trans (congrArg some (by rw [hr_353]))
                    have wf_355 : ω_346.2 (m + 6) = some (.inl (G.2.1 1, 60, .inl ((linL s g lt (nI j) (k + 1)).2))) := f_351.trans (congrArg some (by rw [hr_353]))
                    have fr_356 : ∀ q : Nat, ¬ q = m → ¬ q = (m + 6) → ω_346.2 q = ω_5.2 q := by
                      intro q h0 h1
                      rw [fr_349 q (by omega) (by omega)]
                      rw [fr_321 q (by omega) (by omega)]
                      rw [fr_239 q (by omega) (by omega)]
                      rw [fr_229 q (by omega) (by omega)]
                      rw [fr_222 q (by omega) (by omega)]
                      rw [fr_213 q (by omega) (by omega)]
                      rw [hfrτk q (by omega) (by omega)]
                    have z_357 : ω_346.1 = ω_5.1 := by rw [z_348, z_320, z_238, z_228, z_221, z_212, hzτk]
                    exact ih (k + 1) ω_346 (by omega) (by first | assumption | omega | (simp; done)) z_357 wf_354 wf_355 fr_356 _ _ _ hR hS hl
              · skip
                refine lv_aload_n hx hb dX11_line_127 rfl (lv_at hl 2 rfl) ?_
                refine lv_bipush (v := 63) hx hb dX11_line_128 (by decide) ?_
                refine fw_call (va_runV (As := [.int 63]) (rest := []) ⟨hx, hb, hml, hown, hts⟩ (c_X11_writes G hL l ω_318 m (wrM (wrM (wrM (wrM (wrM (linL s g lt (nI j) k) 32) (48 + (g (68 + 8 * j + k)))) 42) (48 + (g (132 + 8 * j + k)))) 43) f_322 f_323 (okN_le (wrM_ok (wrM_ok (wrM_ok (wrM_ok (wrM_ok (linL_ok s g lt (nI j) k (by omega)) (by omega)) (by omega)) (by omega)) (by omega)) (by omega)) (by omega)) 63) (cwV 1 hts gX11_line_X11_writes rfl rfl rfl (by decide +kernel) ⟨Nat.le_of_ble_eq_true rfl, Nat.le_of_ble_eq_true rfl⟩) (fw_preV hW hK hR f_322 rfl) rfl rfl hl.1 rfl (lv_room (Nat.le_of_ble_eq_true rfl)) dX11_line_130 ⟨Nat.le_of_ble_eq_true rfl, Nat.le_of_ble_eq_true rfl⟩) hS (fun v_358 ω_359 H locs hq_360 hR hS => ?_)
                obtain ⟨rfl, z_361, f_363, f_364, fr_362⟩ := hq_360
                refine W.eq (g2 := F0 mI 133 ls []) rfl ?_
                refine lv_iload_n hx hb dX11_line_133 rfl (lv_at hl 1 rfl) ?_
                refine lv_aload_n hx hb dX11_line_134 rfl (lv_at hl 2 rfl) ?_
                refine lv_iload_n hx hb dX11_line_135 rfl (lv_at hl 3 rfl) ?_
                have f_365 : ω_359.2 (m + 1) = some (.inl (G.2.1 0, 324, .inl g)) := (fr_362 (m + 1) (by omega) (by omega)).trans f_325
                refine fw_call (va_runV (As := [.int (nI j)]) (rest := [.int (nI k)]) ⟨hx, hb, hml, hown, hts⟩ (c_X11_open G hL l ω_359 m ((wrM (wrM (wrM (wrM (wrM (wrM (linL s g lt (nI j) k) 32) (48 + (g (68 + 8 * j + k)))) 42) (48 + (g (132 + 8 * j + k)))) 43) 63).1) g f_363 f_365 j (by omega) f hf3 hff) (cwV 1 hts gX11_line_X11_open rfl rfl rfl (by decide +kernel) ⟨Nat.le_of_ble_eq_true rfl, Nat.le_of_ble_eq_true rfl⟩) (fw_preV hW hK hR f_363 rfl) rfl rfl hl.1 rfl (lv_room (Nat.le_of_ble_eq_true rfl)) dX11_line_136 ⟨Nat.le_of_ble_eq_true rfl, Nat.le_of_ble_eq_true rfl⟩) hS (fun v_366 ω_367 H locs hq_368 hR hS => ?_)
                obtain ⟨rfl, hq_368⟩ := hq_368
                rw [hq_368] at hR
                refine W.eq (g2 := F0 mI 139 ls [.int (openJ (g (18 + j)) f), .int (nI k)]) rfl ?_
                refine lv_iconst (v := 1) hx hb dX11_line_139 (by decide) ?_
                refine lv_isub hx hb dX11_line_140 ?_
                refine lv_icmp_ne (tgt := 165) hx hb dX11_line_141 (by decide) (fun c_369 => ?_) (fun c_369 => ?_)
                · skip
                  obtain ⟨x_370, ex_370⟩ : ∃ y : Int32, y = (nI k) + 1 := ⟨_, rfl⟩
                  refine lv_iinc (v := x_370) (lv' := [(2, .int x_370), (3, .int (nI (8 * j + k))), (0, .ref m), (1, .int (nI j))]) hx hb dX11_line_165 hl (k := 1) rfl (by rw [ex_370]; rfl) (by decide) rfl (fun ls hl => ?_)
                  refine lv_goto (tgt := 21) hx hb dX11_line_168 (by decide) ?_
                  have hr_371 : linL s g lt (nI j) (k + 1) = ((wrM (wrM (wrM (wrM (wrM (wrM (linL s g lt (nI j) k) 32) (48 + (g (68 + 8 * j + k)))) 42) (48 + (g (132 + 8 * j + k)))) 43) 63) : (Nat → Int32) × (Nat → Int32)) := by
                    simp only [linL, hcc, hdd, hcj, hnn, hfn, ex_370]
                    rw [if_neg c_28, if_pos c_244, if_pos c_326, if_neg c_369]
                  have el_2 : x_370 = nI (k + 1) := by rw [ex_370]; exact nI_1 k
                  have hl := lv_sub (l' := [(2, .int x_370), (0, .ref m), (1, .int (nI j))]) hl [0, 2, 3] rfl
                  rw [el_2] at hl
                  have wf_372 : ω_359.2 m = some (.inr (13, [.ref (m + 1), .ref (m + 2), .ref (m + 3), .int (((linL s g lt (nI j) (k + 1)).1) 3), .ref (m + 4), .int (((linL s g lt (nI j) (k + 1)).1) 5), .ref (m + 5), .int (((linL s g lt (nI j) (k + 1)).1) 7), .int (((linL s g lt (nI j) (k + 1)).1) 8), .int (((linL s g lt (nI j) (k + 1)).1) 9), .int (((linL s g lt (nI j) (k + 1)).1) 10), .int (((linL s g lt (nI j) (k + 1)).1) 11), .ref (m + 6), .int (((linL s g lt (nI j) (k + 1)).1) 13), .int (((linL s g lt (nI j) (k + 1)).1) 14), .ref (m + 7), .int (((linL s g lt (nI j) (k + 1)).1) 16), .int (((linL s g lt (nI j) (k + 1)).1) 17), .ref (m + 8)])) := f_363.trans (congrArg some (by rw [hr_371]))
                  have wf_373 : ω_359.2 (m + 6) = some (.inl (G.2.1 1, 60, .inl ((linL s g lt (nI j) (k + 1)).2))) := f_364.trans (congrArg some (by rw [hr_371]))
                  have fr_374 : ∀ q : Nat, ¬ q = m → ¬ q = (m + 6) → ω_359.2 q = ω_5.2 q := by
                    intro q h0 h1
                    rw [fr_362 q (by omega) (by omega)]
                    rw [fr_321 q (by omega) (by omega)]
                    rw [fr_239 q (by omega) (by omega)]
                    rw [fr_229 q (by omega) (by omega)]
                    rw [fr_222 q (by omega) (by omega)]
                    rw [fr_213 q (by omega) (by omega)]
                    rw [hfrτk q (by omega) (by omega)]
                  have z_375 : ω_359.1 = ω_5.1 := by rw [z_361, z_320, z_238, z_228, z_221, z_212, hzτk]
                  exact ih (k + 1) ω_359 (by omega) (by first | assumption | omega | (simp; done)) z_375 wf_372 wf_373 fr_374 _ _ _ hR hS hl
                · skip
                  refine lv_iload_n hx hb dX11_line_144 rfl (lv_at hl 1 rfl) ?_
                  refine lv_aload_n hx hb dX11_line_145 rfl (lv_at hl 2 rfl) ?_
                  refine fw_get (v := .ref (m + 1)) (C := RX11) (T := TX11) (N := 19) hx hb hts hin11 hown hK hR f_363 rfl 0 (by decide) (hts (.fieldLink RX11 7 "UnreadLeafletsModel" "g" "[I") (by decide +kernel)) rfl dX11_line_146 ?_
                  refine lv_bipush (v := 18) hx hb dX11_line_149 (by decide) ?_
                  refine lv_iload_n hx hb dX11_line_151 rfl (lv_at hl 3 rfl) ?_
                  refine lv_iadd hx hb dX11_line_152 ?_
                  have hi_376 : 18 + (nI j) = nI (18 + j) := by
                    show (nI 18) + (nI j) = _
                    simp only [pk_mul, nI_add, Nat.add_assoc, hc, hd, hn, hff]
                  refine W.eq (g2 := F0 mI 153 ls [.int (nI (18 + j)), .ref (m + 1), .int (nI k)]) (by rw [hi_376]) ?_
                  refine fw_iald hx hb hK hR f_365 (vp_in_nI (by omega) (by omega)) dX11_line_153 ?_
                  refine W.eq (g2 := F0 mI 154 ls [.int (g (18 + j)), .int (nI k)]) (by rw [nI_clamp (by omega)]) ?_
                  refine lv_iconst (v := 1) hx hb dX11_line_154 (by decide) ?_
                  refine lv_isub hx hb dX11_line_155 ?_
                  refine lv_icmp_ge (tgt := 165) hx hb dX11_line_156 (by decide) (fun c_377 => ?_) (fun c_377 => ?_)
                  · skip
                    obtain ⟨x_378, ex_378⟩ : ∃ y : Int32, y = (nI k) + 1 := ⟨_, rfl⟩
                    refine lv_iinc (v := x_378) (lv' := [(2, .int x_378), (3, .int (nI (8 * j + k))), (0, .ref m), (1, .int (nI j))]) hx hb dX11_line_165 hl (k := 1) rfl (by rw [ex_378]; rfl) (by decide) rfl (fun ls hl => ?_)
                    refine lv_goto (tgt := 21) hx hb dX11_line_168 (by decide) ?_
                    have hr_379 : linL s g lt (nI j) (k + 1) = ((wrM (wrM (wrM (wrM (wrM (wrM (linL s g lt (nI j) k) 32) (48 + (g (68 + 8 * j + k)))) 42) (48 + (g (132 + 8 * j + k)))) 43) 63) : (Nat → Int32) × (Nat → Int32)) := by
                      simp only [linL, hcc, hdd, hcj, hnn, hfn, ex_378]
                      rw [if_neg c_28, if_pos c_244, if_pos c_326, if_pos c_369, if_pos c_377]
                    have el_2 : x_378 = nI (k + 1) := by rw [ex_378]; exact nI_1 k
                    have hl := lv_sub (l' := [(2, .int x_378), (0, .ref m), (1, .int (nI j))]) hl [0, 2, 3] rfl
                    rw [el_2] at hl
                    have wf_380 : ω_359.2 m = some (.inr (13, [.ref (m + 1), .ref (m + 2), .ref (m + 3), .int (((linL s g lt (nI j) (k + 1)).1) 3), .ref (m + 4), .int (((linL s g lt (nI j) (k + 1)).1) 5), .ref (m + 5), .int (((linL s g lt (nI j) (k + 1)).1) 7), .int (((linL s g lt (nI j) (k + 1)).1) 8), .int (((linL s g lt (nI j) (k + 1)).1) 9), .int (((linL s g lt (nI j) (k + 1)).1) 10), .int (((linL s g lt (nI j) (k + 1)).1) 11), .ref (m + 6), .int (((linL s g lt (nI j) (k + 1)).1) 13), .int (((linL s g lt (nI j) (k + 1)).1) 14), .ref (m + 7), .int (((linL s g lt (nI j) (k + 1)).1) 16), .int (((linL s g lt (nI j) (k + 1)).1) 17), .ref (m + 8)])) := f_363.trans (congrArg some (by rw [hr_379]))
                    have wf_381 : ω_359.2 (m + 6) = some (.inl (G.2.1 1, 60, .inl ((linL s g lt (nI j) (k + 1)).2))) := f_364.trans (congrArg some (by rw [hr_379]))
                    have fr_382 : ∀ q : Nat, ¬ q = m → ¬ q = (m + 6) → ω_359.2 q = ω_5.2 q := by
                      intro q h0 h1
                      rw [fr_362 q (by omega) (by omega)]
                      rw [fr_321 q (by omega) (by omega)]
                      rw [fr_239 q (by omega) (by omega)]
                      rw [fr_229 q (by omega) (by omega)]
                      rw [fr_222 q (by omega) (by omega)]
                      rw [fr_213 q (by omega) (by omega)]
                      rw [hfrτk q (by omega) (by omega)]
                    have z_383 : ω_359.1 = ω_5.1 := by rw [z_361, z_320, z_238, z_228, z_221, z_212, hzτk]
                    exact ih (k + 1) ω_359 (by omega) (by first | assumption | omega | (simp; done)) z_383 wf_380 wf_381 fr_382 _ _ _ hR hS hl
                  · skip
                    refine lv_aload_n hx hb dX11_line_159 rfl (lv_at hl 2 rfl) ?_
                    refine lv_bipush (v := 47) hx hb dX11_line_160 (by decide) ?_
                    refine fw_call (va_runV (As := [.int 47]) (rest := []) ⟨hx, hb, hml, hown, hts⟩ (c_X11_writes G hL l ω_359 m (wrM (wrM (wrM (wrM (wrM (wrM (linL s g lt (nI j) k) 32) (48 + (g (68 + 8 * j + k)))) 42) (48 + (g (132 + 8 * j + k)))) 43) 63) f_363 f_364 (okN_le (wrM_ok (wrM_ok (wrM_ok (wrM_ok (wrM_ok (wrM_ok (linL_ok s g lt (nI j) k (by omega)) (by omega)) (by omega)) (by omega)) (by omega)) (by omega)) (by omega)) (by omega)) 47) (cwV 1 hts gX11_line_X11_writes rfl rfl rfl (by decide +kernel) ⟨Nat.le_of_ble_eq_true rfl, Nat.le_of_ble_eq_true rfl⟩) (fw_preV hW hK hR f_363 rfl) rfl rfl hl.1 rfl (lv_room (Nat.le_of_ble_eq_true rfl)) dX11_line_162 ⟨Nat.le_of_ble_eq_true rfl, Nat.le_of_ble_eq_true rfl⟩) hS (fun v_384 ω_385 H locs hq_386 hR hS => ?_)
                    obtain ⟨rfl, z_387, f_389, f_390, fr_388⟩ := hq_386
                    refine W.eq (g2 := F0 mI 165 ls []) rfl ?_
                    obtain ⟨x_391, ex_391⟩ : ∃ y : Int32, y = (nI k) + 1 := ⟨_, rfl⟩
                    refine lv_iinc (v := x_391) (lv' := [(2, .int x_391), (3, .int (nI (8 * j + k))), (0, .ref m), (1, .int (nI j))]) hx hb dX11_line_165 hl (k := 1) rfl (by rw [ex_391]; rfl) (by decide) rfl (fun ls hl => ?_)
                    refine lv_goto (tgt := 21) hx hb dX11_line_168 (by decide) ?_
                    have hr_392 : linL s g lt (nI j) (k + 1) = ((wrM (wrM (wrM (wrM (wrM (wrM (wrM (linL s g lt (nI j) k) 32) (48 + (g (68 + 8 * j + k)))) 42) (48 + (g (132 + 8 * j + k)))) 43) 63) 47) : (Nat → Int32) × (Nat → Int32)) := by
                      simp only [linL, hcc, hdd, hcj, hnn, hfn, ex_391]
                      rw [if_neg c_28, if_pos c_244, if_pos c_326, if_pos c_369, if_neg c_377]
                    have el_2 : x_391 = nI (k + 1) := by rw [ex_391]; exact nI_1 k
                    have hl := lv_sub (l' := [(2, .int x_391), (0, .ref m), (1, .int (nI j))]) hl [0, 2, 3] rfl
                    rw [el_2] at hl
                    have wf_393 : ω_385.2 m = some (.inr (13, [.ref (m + 1), .ref (m + 2), .ref (m + 3), .int (((linL s g lt (nI j) (k + 1)).1) 3), .ref (m + 4), .int (((linL s g lt (nI j) (k + 1)).1) 5), .ref (m + 5), .int (((linL s g lt (nI j) (k + 1)).1) 7), .int (((linL s g lt (nI j) (k + 1)).1) 8), .int (((linL s g lt (nI j) (k + 1)).1) 9), .int (((linL s g lt (nI j) (k + 1)).1) 10), .int (((linL s g lt (nI j) (k + 1)).1) 11), .ref (m + 6), .int (((linL s g lt (nI j) (k + 1)).1) 13), .int (((linL s g lt (nI j) (k + 1)).1) 14), .ref (m + 7), .int (((linL s g lt (nI j) (k + 1)).1) 16), .int (((linL s g lt (nI j) (k + 1)).1) 17), .ref (m + 8)])) := f_389.trans (congrArg some (by rw [hr_392]))
                    have wf_394 : ω_385.2 (m + 6) = some (.inl (G.2.1 1, 60, .inl ((linL s g lt (nI j) (k + 1)).2))) := f_390.trans (congrArg some (by rw [hr_392]))
                    have fr_395 : ∀ q : Nat, ¬ q = m → ¬ q = (m + 6) → ω_385.2 q = ω_5.2 q := by
                      intro q h0 h1
                      rw [fr_388 q (by omega) (by omega)]
                      rw [fr_362 q (by omega) (by omega)]
                      rw [fr_321 q (by omega) (by omega)]
                      rw [fr_239 q (by omega) (by omega)]
                      rw [fr_229 q (by omega) (by omega)]
                      rw [fr_222 q (by omega) (by omega)]
                      rw [fr_213 q (by omega) (by omega)]
                      rw [hfrτk q (by omega) (by omega)]
                    have z_396 : ω_385.1 = ω_5.1 := by rw [z_387, z_361, z_320, z_238, z_228, z_221, z_212, hzτk]
                    exact ih (k + 1) ω_385 (by omega) (by first | assumption | omega | (simp; done)) z_396 wf_393 wf_394 fr_395 _ _ _ hR hS hl
    have w0_397 : ω_5.2 m = some (.inr (13, [.ref (m + 1), .ref (m + 2), .ref (m + 3), .int (((linL s g lt (nI j) 0).1) 3), .ref (m + 4), .int (((linL s g lt (nI j) 0).1) 5), .ref (m + 5), .int (((linL s g lt (nI j) 0).1) 7), .int (((linL s g lt (nI j) 0).1) 8), .int (((linL s g lt (nI j) 0).1) 9), .int (((linL s g lt (nI j) 0).1) 10), .int (((linL s g lt (nI j) 0).1) 11), .ref (m + 6), .int (((linL s g lt (nI j) 0).1) 13), .int (((linL s g lt (nI j) 0).1) 14), .ref (m + 7), .int (((linL s g lt (nI j) 0).1) 16), .int (((linL s g lt (nI j) 0).1) 17), .ref (m + 8)])) := f_7.trans (congrArg some (by rw [hi_11]))
    have w0_398 : ω_5.2 (m + 6) = some (.inl (G.2.1 1, 60, .inl ((linL s g lt (nI j) 0).2))) := f_10.trans (congrArg some (by rw [hi_11]))
    exact loop_12 _ 0 ω_5 (Nat.lt_succ_self _) (by first | rfl | assumption | omega | (simp; done)) rfl w0_397 w0_398 (fun _ _ _ => rfl) _ _ _ hR hS (lv_sub hl [0, 1, 2] rfl)
  · skip
    have c_4 := bz_eq c_4
    refine lv_aload_n hx hb dX11_line_8 rfl (lv_at hl 0 rfl) ?_
    refine lv_iconst (v := 1) hx hb dX11_line_9 (by decide) ?_
    refine fw_call (va_runV (As := [.int 1]) (rest := []) ⟨hx, hb, hml, hown, hts⟩ (c_X11_fails G hL l ω m s g m0 m1 1) (cwV 1 hts gX11_line_X11_fails rfl rfl rfl (by decide +kernel) ⟨Nat.le_of_ble_eq_true rfl, Nat.le_of_ble_eq_true rfl⟩) (fw_preV hW hK hR m0 rfl) rfl rfl hl.1 rfl (lv_room (Nat.le_of_ble_eq_true rfl)) dX11_line_10 ⟨Nat.le_of_ble_eq_true rfl, Nat.le_of_ble_eq_true rfl⟩) hS (fun v_399 ω_400 H locs hq_401 hR hS => ?_)
    obtain ⟨rfl, z_402, f_404, fr_403⟩ := hq_401
    refine W.eq (g2 := F0 mI 13 ls [.int 0]) rfl ?_
    have f_405 : ω_400.2 (m + 6) = some (.inl (G.2.1 1, 60, .inl lt)) := (fr_403 (m + 6) (by omega)).trans m6
    have fr_406 : ∀ q : Nat, ¬ q = m → ¬ q = (m + 6) → ω_400.2 q = ω.2 q := by
      intro q h0 h1
      rw [fr_403 q (by omega)]
    have z_407 : ω_400.1 = ω.1 := by rw [z_402]
    have hr_408 : lineM s g lt lf = ((0, (upd s 14 1), lt) : Int32 × (Nat → Int32) × (Nat → Int32)) := by
      simp only [lineM, hcc, hdd]
      rw [if_neg c_4]
    refine fw_iret hx hb hr hlocks hR hS dX11_line_13 ?_
    rw [hr_408]
    exact ⟨rfl, z_407, f_404, f_405, fr_406⟩
def charM (s g lt : Nat → Int32) (ix : Int32) : Int32 × (Nat → Int32) := if inB ix 0 ((s 13) - 1) then ((lt (cN ix), (upd s 14 0))) else ((0, (upd s 14 1)))
set_option maxHeartbeats 4000000 in
set_option maxRecDepth 100000 in
theorem c_X11_character (G : FG) (hL : FL G) (l : Launch) (ω : FWd) (m : Nat) (s g : Nat → Int32) (m0 : ω.2 m = some (.inr (13, [.ref (m + 1), .ref (m + 2), .ref (m + 3), .int (s 3), .ref (m + 4), .int (s 5), .ref (m + 5), .int (s 7), .int (s 8), .int (s 9), .int (s 10), .int (s 11), .ref (m + 6), .int (s 13), .int (s 14), .ref (m + 7), .int (s 16), .int (s 17), .ref (m + 8)]))) (m1 : ω.2 (m + 1) = some (.inl (G.2.1 0, 324, .inl g))) (lt : Nat → Int32) (m6 : ω.2 (m + 6) = some (.inl (G.2.1 1, 60, .inl lt))) (hln : okN (s 13) 60) (ix : Int32) (hlt : ∀ i, i < 60 → narrow .char (.int (lt i)) = .int (lt i)) : FMet G l yX11_character wsX11_character ({ frames := 1, cells := 0, slots := 0, locals := 22 } : Room) [.ref m, .int ix] ω (fun vv9 τ9 => vv9 = some (.int ((charM s g lt ix).1)) ∧ τ9.1 = ω.1 ∧ τ9.2 m = some (.inr (13, [.ref (m + 1), .ref (m + 2), .ref (m + 3), .int (((charM s g lt ix).2) 3), .ref (m + 4), .int (((charM s g lt ix).2) 5), .ref (m + 5), .int (((charM s g lt ix).2) 7), .int (((charM s g lt ix).2) 8), .int (((charM s g lt ix).2) 9), .int (((charM s g lt ix).2) 10), .int (((charM s g lt ix).2) 11), .ref (m + 6), .int (((charM s g lt ix).2) 13), .int (((charM s g lt ix).2) 14), .ref (m + 7), .int (((charM s g lt ix).2) 16), .int (((charM s g lt ix).2) 17), .ref (m + 8)])) ∧ ∀ q : Nat, ¬ q = m → τ9.2 q = ω.2 q) 0 0 := by
  refine fw_ofW (cc := cX11_character) (maxL := 2) (ret := (some .char)) (by decide) rfl (Nat.le_of_ble_eq_true rfl) ?_
  intro pP eE sS mI ar9 bl9 meth cD ls hx hb hr hlocks hml hts hown hnm hW hR hl
  have hK := hL.K hW
  have hS : va_S (fwA G) sS.heap sS.heap [] := va_S.rf
  have hin11 : ∀ w ∈ u_ws RX11 TX11 19, w ∈ wsX11_character := by decide +kernel
  have hl : lv_has ls 2 [(0, .ref m), (1, .int ix)] := hl
  obtain ⟨ln, hln6, hlne, hlnc⟩ := okN_of hln
  refine lv_aload_n hx hb dX11_character_0 rfl (lv_at hl 0 rfl) ?_
  refine lv_iload_n hx hb dX11_character_1 rfl (lv_at hl 1 rfl) ?_
  refine lv_iconst (v := 0) hx hb dX11_character_2 (by decide) ?_
  refine lv_aload_n hx hb dX11_character_3 rfl (lv_at hl 0 rfl) ?_
  refine fw_get (v := .int (s 13)) (C := RX11) (T := TX11) (N := 19) hx hb hts hin11 hown hK hR m0 rfl 13 (by decide) (hts (.fieldLink RX11 221 "UnreadLeafletsModel" "lined" "I") (by decide +kernel)) rfl dX11_character_4 ?_
  refine lv_iconst (v := 1) hx hb dX11_character_7 (by decide) ?_
  refine lv_isub hx hb dX11_character_8 ?_
  refine fw_call (va_runS (As := [.int ix, .int 0, .int ((s 13) - 1)]) (rest := [.ref m]) ⟨hx, hb, hml, hown, hts⟩ (c_X11_in G hL l ω ix 0 ((s 13) - 1)) (va_cwS 3 hts gX11_character_X11_in rfl rfl rfl (by decide +kernel) ⟨Nat.le_of_ble_eq_true rfl, Nat.le_of_ble_eq_true rfl⟩) (fw_preS hW hR) rfl rfl hl.1 rfl (lv_room (Nat.le_of_ble_eq_true rfl)) dX11_character_9 ⟨Nat.le_of_ble_eq_true rfl, Nat.le_of_ble_eq_true rfl⟩) hS (fun v_1 ω_2 H locs hq_3 hR hS => ?_)
  obtain ⟨rfl, hq_3⟩ := hq_3
  rw [hq_3] at hR
  refine W.eq (g2 := F0 mI 12 ls [.int (bz (inB ix 0 ((s 13) - 1))), .ref m]) rfl ?_
  refine lv_if_eq (tgt := 19) hx hb dX11_character_12 (by decide) (fun c_4 => ?_) (fun c_4 => ?_)
  · skip
    have c_4 := bz_eq c_4
    refine lv_iconst (v := 1) hx hb dX11_character_19 (by decide) ?_
    refine fw_put (v := .int 1) (C := RX11) (T := TX11) (N := 19) hx hb hts hin11 tyX11 tyX11_ok nmX11 hown hK hR hS m0 rfl 14 (by decide) (hts (.fieldLink RX11 39 "UnreadLeafletsModel" "thrown" "I") (by decide +kernel)) rfl rfl rfl (Nat.le_of_ble_eq_true rfl) dX11_character_20 (fun H locs hR hS => ?_)
    obtain ⟨ω_5, hw_6⟩ : ∃ τ : FWd, τ = (ω.1, va_up ω.2 m (some (.inr (13, [.ref (m + 1), .ref (m + 2), .ref (m + 3), .int ((upd s 14 1) 3), .ref (m + 4), .int ((upd s 14 1) 5), .ref (m + 5), .int ((upd s 14 1) 7), .int ((upd s 14 1) 8), .int ((upd s 14 1) 9), .int ((upd s 14 1) 10), .int ((upd s 14 1) 11), .ref (m + 6), .int ((upd s 14 1) 13), .int ((upd s 14 1) 14), .ref (m + 7), .int ((upd s 14 1) 16), .int ((upd s 14 1) 17), .ref (m + 8)])))) := ⟨_, rfl⟩
    have hR : fR G ω_5 H := by rw [hw_6]; exact hR
    have f_7 : ω_5.2 m = some (.inr (13, [.ref (m + 1), .ref (m + 2), .ref (m + 3), .int ((upd s 14 1) 3), .ref (m + 4), .int ((upd s 14 1) 5), .ref (m + 5), .int ((upd s 14 1) 7), .int ((upd s 14 1) 8), .int ((upd s 14 1) 9), .int ((upd s 14 1) 10), .int ((upd s 14 1) 11), .ref (m + 6), .int ((upd s 14 1) 13), .int ((upd s 14 1) 14), .ref (m + 7), .int ((upd s 14 1) 16), .int ((upd s 14 1) 17), .ref (m + 8)])) := by rw [hw_6]; exact va_up_at
    have fr_8 : ∀ q : Nat, ¬ q = m → ω_5.2 q = ω.2 q := fun q hq => by rw [hw_6]; exact va_up_off hq
    have z_9 : ω_5.1 = ω.1 := by rw [hw_6]
    refine lv_aload_n hx hb dX11_character_23 rfl (lv_at hl 0 rfl) ?_
    refine fw_get (v := .int 1) (C := RX11) (T := TX11) (N := 19) hx hb hts hin11 hown hK hR f_7 rfl 14 (by decide) (hts (.fieldLink RX11 39 "UnreadLeafletsModel" "thrown" "I") (by decide +kernel)) rfl dX11_character_24 ?_
    refine lv_if_ne (tgt := 39) hx hb dX11_character_27 (by decide) (fun c_10 => ?_) (fun c_10 => ?_)
    · skip
      refine lv_iconst (v := 0) hx hb dX11_character_39 (by decide) ?_
      have fr_11 : ∀ q : Nat, ¬ q = m → ω_5.2 q = ω.2 q := by
        intro q h0
        rw [fr_8 q (by omega)]
      have z_12 : ω_5.1 = ω.1 := by rw [z_9]
      have hr_13 : charM s g lt ix = ((0, (upd s 14 1)) : Int32 × (Nat → Int32)) := by
        simp only [charM, hlnc]
        rw [if_neg c_4]
      refine fw_zret hx hb hr rfl hlocks hR hS dX11_character_40 ?_
      rw [hr_13]
      exact ⟨rfl, z_12, f_7, fr_11⟩
    · skip
      exact absurd c_10 (by decide)
  · skip
    have c_4 := bz_ne c_4
    obtain ⟨i9, hi9, rfl⟩ := in_cL hlne (by omega) c_4
    have hci9 : cN (nI i9) = i9 := cN_nI (by omega)
    refine lv_iconst (v := 0) hx hb dX11_character_15 (by decide) ?_
    refine lv_goto (tgt := 20) hx hb dX11_character_16 (by decide) ?_
    refine fw_put (v := .int 0) (C := RX11) (T := TX11) (N := 19) hx hb hts hin11 tyX11 tyX11_ok nmX11 hown hK hR hS m0 rfl 14 (by decide) (hts (.fieldLink RX11 39 "UnreadLeafletsModel" "thrown" "I") (by decide +kernel)) rfl rfl rfl (Nat.le_of_ble_eq_true rfl) dX11_character_20 (fun H locs hR hS => ?_)
    obtain ⟨ω_14, hw_15⟩ : ∃ τ : FWd, τ = (ω.1, va_up ω.2 m (some (.inr (13, [.ref (m + 1), .ref (m + 2), .ref (m + 3), .int ((upd s 14 0) 3), .ref (m + 4), .int ((upd s 14 0) 5), .ref (m + 5), .int ((upd s 14 0) 7), .int ((upd s 14 0) 8), .int ((upd s 14 0) 9), .int ((upd s 14 0) 10), .int ((upd s 14 0) 11), .ref (m + 6), .int ((upd s 14 0) 13), .int ((upd s 14 0) 14), .ref (m + 7), .int ((upd s 14 0) 16), .int ((upd s 14 0) 17), .ref (m + 8)])))) := ⟨_, rfl⟩
    have hR : fR G ω_14 H := by rw [hw_15]; exact hR
    have f_16 : ω_14.2 m = some (.inr (13, [.ref (m + 1), .ref (m + 2), .ref (m + 3), .int ((upd s 14 0) 3), .ref (m + 4), .int ((upd s 14 0) 5), .ref (m + 5), .int ((upd s 14 0) 7), .int ((upd s 14 0) 8), .int ((upd s 14 0) 9), .int ((upd s 14 0) 10), .int ((upd s 14 0) 11), .ref (m + 6), .int ((upd s 14 0) 13), .int ((upd s 14 0) 14), .ref (m + 7), .int ((upd s 14 0) 16), .int ((upd s 14 0) 17), .ref (m + 8)])) := by rw [hw_15]; exact va_up_at
    have fr_17 : ∀ q : Nat, ¬ q = m → ω_14.2 q = ω.2 q := fun q hq => by rw [hw_15]; exact va_up_off hq
    have z_18 : ω_14.1 = ω.1 := by rw [hw_15]
    refine lv_aload_n hx hb dX11_character_23 rfl (lv_at hl 0 rfl) ?_
    refine fw_get (v := .int 0) (C := RX11) (T := TX11) (N := 19) hx hb hts hin11 hown hK hR f_16 rfl 14 (by decide) (hts (.fieldLink RX11 39 "UnreadLeafletsModel" "thrown" "I") (by decide +kernel)) rfl dX11_character_24 ?_
    refine lv_if_ne (tgt := 39) hx hb dX11_character_27 (by decide) (fun c_19 => ?_) (fun c_19 => ?_)
    · skip
      exact absurd c_19 (by decide)
    · skip
      refine lv_aload_n hx hb dX11_character_30 rfl (lv_at hl 0 rfl) ?_
      refine fw_get (v := .ref (m + 6)) (C := RX11) (T := TX11) (N := 19) hx hb hts hin11 hown hK hR f_16 rfl 12 (by decide) (hts (.fieldLink RX11 30 "UnreadLeafletsModel" "letters" "[C") (by decide +kernel)) rfl dX11_character_31 ?_
      refine lv_iload_n hx hb dX11_character_34 rfl (lv_at hl 1 rfl) ?_
      have f_20 : ω_14.2 (m + 6) = some (.inl (G.2.1 1, 60, .inl lt)) := (fr_17 (m + 6) (by omega)).trans m6
      refine fw_cald hx hb hK hR f_20 (vp_in_nI (by omega) (by omega)) dX11_character_35 ?_
      refine W.eq (g2 := F0 mI 36 ls [.int (lt i9)]) (by rw [nI_clamp (by omega)]) ?_
      refine lv_goto (tgt := 40) hx hb dX11_character_36 (by decide) ?_
      have fr_21 : ∀ q : Nat, ¬ q = m → ω_14.2 q = ω.2 q := by
        intro q h0
        rw [fr_17 q (by omega)]
      have z_22 : ω_14.1 = ω.1 := by rw [z_18]
      have hr_23 : charM s g lt (nI i9) = ((lt i9, (upd s 14 0)) : Int32 × (Nat → Int32)) := by
        simp only [charM, hlnc, hci9]
        rw [if_pos c_4]
      refine fw_zret hx hb hr (hlt _ (by omega)) hlocks hR hS dX11_character_40 ?_
      rw [hr_23]
      exact ⟨rfl, z_22, f_16, fr_21⟩
