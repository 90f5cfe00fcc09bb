/-! ===== printed by program (wip/p44/lay_hlp2.py): the law's helpers at, put, isLine, faults ===== -/
/-- the characters of a text are such as a byte holds -/
def AscT (cs : List Int32) : Prop := ∀ i, i < cs.length → chC (cs.getD i 0 &&& 255) = cs.getD i 0
theorem app_ok {s g ip : PR} {k : Nat} {ch : Int32} (h7 : s 7 = nI k) (hk : k < 60) : appM s g ip ch = (nI k + 1, upd (upd s 7 (nI k + 1)) 14 0, upd ip k ch) := by
  unfold appM
  rw [if_neg (by rw [h7]; exact fun z => by have := (nI_eq (a := k) (b := 60) (by omega) (by omega)).mp z; omega), h7, cN_nI (by omega)]
theorem getD_upd {cs : List Int32} {k : Nat} : upd (fun i => cs.getD i 0) k (cs.getD k 0) = fun i => cs.getD i 0 := by
  funext i
  by_cases h : i = k
  · rw [h, upd_at]
  · rw [upd_off h]
/-- behind k characters of a text -/
abbrev putK (S : StZ) (cs : List Int32) (k : Nat) : StZ := (upd S.1 7 (nI k), S.2.1, S.2.2.1, S.2.2.2.1, (fun i => cs.getD i 0), S.2.2.2.2.2)
theorem put_st {s : PR} {k : Nat} (q : Nat) (hq : q = 3 ∨ q = 5 ∨ (7 ≤ q ∧ q < 12) ∨ q = 13) : upd s 7 (nI (k + 1)) q = upd (upd (upd s 7 (nI k)) 7 (nI k + 1)) 14 0 q := by
  rw [upd_off (show ¬ q = 14 by omega)]
  by_cases h : q = 7
  · rw [h, upd_at, upd_at, nI_1]
  · rw [upd_off h, upd_off h, upd_off h]
theorem char_st {s : PR} {c : Int32} (q : Nat) (hq : q = 3 ∨ q = 5 ∨ (7 ≤ q ∧ q < 12) ∨ q = 13) : s q = upd s 14 c q := by
  rw [upd_off (show ¬ q = 14 by omega)]
theorem charM_2 {s g lt : PR} {ix : Int32} : ∃ c, (charM s g lt ix).2 = upd s 14 c := by
  unfold charM
  split
  · exact ⟨0, rfl⟩
  · exact ⟨1, rfl⟩
set_option maxHeartbeats 4000000 in
set_option maxRecDepth 100000 in
theorem h_at (G : FG) (hL : FL G) (l : Launch) (hX0 : FX0 G l) (ω : FWd) (b L : Nat) (xs : Nat → Int32) (hX : va_X b L xs G.2.2 G.2.2.heap) (hbl : b < G.2.2.heap.size) (hbA : ¬ fwA G b) (hL9 : L ≤ 260) (k : Nat) (hk : k < 1000) : FMet G l yL_at wsL_at ({ frames := 0, cells := 0, slots := 0, locals := 0 } : Room) [.ref b, .int (nI k)] ω (rI (if k < L then xs k else 0) ω) 0 0 := by
  refine fw_ofW (cc := cL_at) (maxL := 2) (ret := (some .int)) (by decide) rfl (Nat.le_of_ble_eq_true rfl) ?_
  intro pP eE sS mI ar9 bl9 meth cD ls hx hb hr hlocks hml hts hown hnm hW hR hl
  have hK := hL.K hW
  have hS : va_S (fwA G) sS.heap sS.heap [] := va_S.rf
  have hl : lv_has ls 2 [(0, .ref b), (1, .int (nI k))] := hl
  have hX2 : va_X b L xs sS sS.heap := (va_X.moved hW.alike hX).kept (hR.2.1.2.1 b hbl hbA)
  have hbl2 : b < sS.heap.size := Nat.lt_of_lt_of_le hbl hR.2.1.1
  refine lv_iload_n hx hb dL_at_0 rfl (lv_at hl 1 rfl) ?_
  refine lv_aload_n hx hb dL_at_1 rfl (lv_at hl 0 rfl) ?_
  refine va_slen hx hb hX2 hbl2 hbA hS dL_at_2 ?_
  refine lv_icmp_ge (tgt := 12) hx hb dL_at_3 (by decide) (fun c => ?_) (fun c => ?_)
  · have hlt : ¬ k < L := fun z => by have := (nI_leI (a := L) (b := k) (by omega) (by omega)).mp c; omega
    refine lv_iconst (v := 0) hx hb dL_at_12 (by decide) ?_
    exact fw_iret hx hb hr hlocks hR hS dL_at_13 (rI_mk (if_neg hlt).symm)
  · have hlt : k < L := Nat.lt_of_not_le (fun z => c ((nI_leI (a := L) (b := k) (by omega) (by omega)).mpr z))
    refine lv_aload_n hx hb dL_at_6 rfl (lv_at hl 0 rfl) ?_
    refine lv_iload_n hx hb dL_at_7 rfl (lv_at hl 1 rfl) ?_
    refine va_sld hx hb hX2 hbl2 hbA hS (vp_in_nI hlt (by omega)) dL_at_8 ?_
    refine W.eq (g2 := F0 mI 9 ls [.int (xs k)]) (by rw [nI_clamp (by omega)]) ?_
    refine lv_goto (tgt := 13) hx hb dL_at_9 (by decide) ?_
    exact fw_iret hx hb hr hlocks hR hS dL_at_13 (rI_mk (if_pos hlt).symm)

set_option maxHeartbeats 4000000 in
set_option maxRecDepth 100000 in
theorem h_put (G : FG) (hL : FL G) (l : Launch) (hX0 : FX0 G l) (hJ : FJ G) (ω : FWd) (x q : Nat) (S : StZ) (h : CI G ω.2 x S) (cs : List Int32) (hT : TxR G ω.2 x q cs) (hA : AscT cs) (hn : cs.length ≤ 60) (h7 : S.1 7 = 0) : FMet G l yL_put wsL_put ({ frames := 7, cells := 60, slots := 360, locals := 136 } : Room) [.ref x, .ref q] ω (fun vv9 τ9 => vv9 = none ∧ CI G τ9.2 x (putS S cs) ∧ FrX x ω.2 τ9.2) 60 360 := by
  refine fw_ofW (cc := cL_put) (maxL := 3) (ret := none) (by decide) rfl (Nat.le_of_ble_eq_true rfl) ?_
  intro pP eE sS mI ar9 bl9 meth cD ls hx hb hr hlocks hml hts hown hnm hW hR hl
  have hK := hL.K hW
  have hS : va_S (fwA G) sS.heap sS.heap [] := va_S.rf
  have hl : lv_has ls 3 [(0, .ref x), (1, .ref q)] := hl
  have hR0 : va_S (fwA G) G.2.2.heap sS.heap [] := hR.2.1
  have h0 : CI G ω.2 x (putK S cs 0) := (h.ip (n := 0) h7 (Nat.zero_le _) (ip2 := fun i => cs.getD i 0) (fun i hi => absurd hi (Nat.not_lt_zero i))).st (fun q9 hq9 => by by_cases e9 : q9 = 7; (rw [e9]; show upd S.1 7 (nI 0) 7 = S.1 7; rw [upd_at, h7]; rfl); (show upd S.1 7 (nI 0) q9 = S.1 q9; rw [upd_off e9]))
  have loop : ∀ (fu k : Nat) (τ : FWd) (cells slots : Nat), cs.length - k < fu → k ≤ cs.length → CI G τ.2 x (putK S cs k) → FrX x ω.2 τ.2 → cells + (cs.length - k) ≤ 60 → slots + 6 * (cs.length - k) ≤ 360 → ∀ (H : Heap) (locs : List Loc) (ls : Array Slot), fR G τ H → va_S (fwA G) sS.heap H locs → lv_has ls 3 [(2, .int (nI k)), (0, .ref x), (1, .ref q)] → W pP l eE ({ frames := 7, cells := 60, slots := 360, locals := 136 } : Room) sS mI ar9 bl9 meth cD H locs cells slots (MQ bl9 (fQ G (fun vv9 τ9 => vv9 = none ∧ CI G τ9.2 x (putS S cs) ∧ FrX x ω.2 τ9.2)) ar9 sS 60 360 (fwA G)) (F0 mI 2 ls []) := by
    intro fu
    induction fu with
    | zero => intro k τ cells slots hfu; exact absurd hfu (Nat.not_lt_zero _)
    | succ fu ih =>
      intro k τ cells slots hfu hk hC hF hc hs H locs ls hR hS hl
      have hT := hT.fr hF
      refine lv_iload_n hx hb dL_put_2 rfl (lv_at hl 0 rfl) ?_
      refine lv_aload_n hx hb dL_put_3 rfl (lv_at hl 2 rfl) ?_
      refine fw_call (va_runV (As := []) (rest := [.int (nI k)]) ⟨hx, hb, hml, hown, hts⟩ (tx_len G hL l τ hJ x q cs hT (by omega)) (cwV 0 hts gL_put_J0_length_8abf5 rfl rfl rfl (by decide +kernel) ⟨Nat.le_of_ble_eq_true rfl, Nat.le_of_ble_eq_true rfl⟩) (tx_pre hT hL hW hR0 hR hS) rfl rfl hl.1 rfl (lv_room (Nat.le_of_ble_eq_true rfl)) dL_put_4 ⟨by show _ + 0 ≤ 60; omega, by show _ + 0 ≤ 360; omega⟩) hS (fun v_1 τ_1 H locs hq_1 hR hS => ?_)
      obtain ⟨rfl, hq_1⟩ := hq_1
      rw [hq_1] at hR
      refine W.eq (g2 := F0 mI 7 ls [.int (nI cs.length), .int (nI k)]) rfl ?_
      refine lv_icmp_ge (tgt := 26) hx hb dL_put_7 (by decide) (fun c => ?_) (fun c => ?_)
      · have hk9 : k = cs.length := by have := (nI_leI (a := cs.length) (b := k) (by omega) (by omega)).mp c; omega
        subst hk9
        refine W.widen (k := 60) (n := 360) (by omega) (by omega) ?_
        refine fw_vret hx hb hr hlocks hR hS dL_put_26 ?_
        exact ⟨rfl, hC, hF⟩
      · have hk9 : k < cs.length := Nat.lt_of_not_le (fun z => c ((nI_leI (a := cs.length) (b := k) (by omega) (by omega)).mpr z))
        refine lv_aload_n hx hb dL_put_10 rfl (lv_at hl 1 rfl) ?_
        refine lv_aload_n hx hb dL_put_11 rfl (lv_at hl 2 rfl) ?_
        refine lv_iload_n hx hb dL_put_12 rfl (lv_at hl 0 rfl) ?_
        refine fw_call (va_runV (As := [.int (nI k)]) (rest := [.ref x]) ⟨hx, hb, hml, hown, hts⟩ (tx_char G hL l τ hJ x q cs hT (by omega) k hk9) (cwV 1 hts gL_put_J0_charAt_5068e rfl rfl rfl (by decide +kernel) ⟨Nat.le_of_ble_eq_true rfl, Nat.le_of_ble_eq_true rfl⟩) (tx_pre hT hL hW hR0 hR hS) rfl rfl hl.1 rfl (lv_room (Nat.le_of_ble_eq_true rfl)) dL_put_13 ⟨by show _ + 0 ≤ 60; omega, by show _ + 0 ≤ 360; omega⟩) hS (fun v_2 τ_2 H locs hq_2 hR hS => ?_)
        obtain ⟨rfl, hq_2⟩ := hq_2
        rw [hq_2] at hR
        refine W.eq (g2 := F0 mI 16 ls [.int (chC (cs.getD k 0 &&& 255)), .ref x]) rfl ?_
        refine W.eq (g2 := F0 mI 16 ls [.int (cs.getD k 0), .ref x]) (by rw [hA k hk9]) ?_
        have hch : vp_nar .char (cs.getD k 0) = cs.getD k 0 := by rw [← hA k hk9]; exact nar_chC
        have hap := app_ok (s := (putK S cs k).1) (g := S.2.1) (ip := fun i => cs.getD i 0) (k := k) (ch := cs.getD k 0) (show upd S.1 7 (nI k) 7 = nI k from upd_at) (by omega)
        refine fx_call (vx_runV (As := [.int (cs.getD k 0)]) (rest := []) ⟨hx, hb, hml, hown, hts⟩ (i_append G hL l hX0 τ x (putK S cs k).1 S.2.1 S.2.2.1 S.2.2.2.1 (fun i => cs.getD i 0) S.2.2.2.2.2 hC (cs.getD k 0) hch) (cwV 1 hts gL_put_X10_append rfl rfl rfl (by decide +kernel) ⟨Nat.le_of_ble_eq_true rfl, Nat.le_of_ble_eq_true rfl⟩) (fw_preV hW hK hR hC.at0 rfl) rfl rfl hl.1 rfl (lv_room (Nat.le_of_ble_eq_true rfl)) dL_put_16 ⟨by show cells + 1 ≤ 60; omega, by show slots + 6 ≤ 360; omega⟩) hS (fun E ce q9 τ_3 H locs hx_3 hR hS hce hcv hcl => ?_) (fun v_3 τ_3 H locs hq_3 hR hS => ?_)
        · obtain ⟨⟨k1, -⟩, -⟩ := hx_3
          rw [hap] at k1
          have k2 : upd (upd (putK S cs k).1 7 (nI k + 1)) 14 0 14 = 1 := k1
          rw [upd_at] at k2
          exact absurd k2 (by decide)
        · obtain ⟨rfl, -, hI, hF2⟩ := hq_3
          rw [hap] at hI
          have hC2 : CI G τ_3.2 x (putK S cs (k + 1)) := by
            have h9 : CI G τ_3.2 x (upd (upd (putK S cs k).1 7 (nI k + 1)) 14 0, S.2.1, S.2.2.1, S.2.2.2.1, upd (fun i => cs.getD i 0) k (cs.getD k 0), S.2.2.2.2.2) := hI
            rw [getD_upd] at h9
            exact h9.st (fun q9 hq9 => put_st q9 hq9)
          refine W.eq (g2 := F0 mI 19 ls [.int ((appM (putK S cs k).1 S.2.1 (fun i => cs.getD i 0) (cs.getD k 0)).1)]) rfl ?_
          refine lv_pop hx hb dL_put_19 rfl ?_
          refine lv_iinc (v := nI (k + 1)) (lv' := [(2, .int (nI (k + 1))), (0, .ref x), (1, .ref q)]) hx hb dL_put_20 hl (k := 0) rfl (by rw [← nI_1]; rfl) (by decide) rfl (fun ls hl => ?_)
          refine lv_goto (tgt := 2) hx hb dL_put_23 (by decide) ?_
          exact ih (k + 1) τ_3 _ _ (by omega) (by omega) hC2 (hF.trans hF2) (by omega) (by omega) H locs ls hR hS hl
  refine lv_iconst (v := 0) hx hb dL_put_0 (by decide) ?_
  refine lv_istore_n (lv' := [(2, .int 0), (0, .ref x), (1, .ref q)]) hx hb dL_put_1 rfl hl (by decide) rfl (fun ls hl => ?_)
  exact loop _ 0 ω 0 0 (Nat.lt_succ_self _) (Nat.zero_le _) h0 FrX.rf (by omega) (by omega) _ _ _ hR hS hl

set_option maxHeartbeats 4000000 in
set_option maxRecDepth 100000 in
theorem h_isLine (G : FG) (hL : FL G) (l : Launch) (hX0 : FX0 G l) (hJ : FJ G) (ω : FWd) (x q : Nat) (S : StZ) (h : CI G ω.2 x S) (cs : List Int32) (hT : TxR G ω.2 x q cs) (hA : AscT cs) (hn : cs.length ≤ 60) (n : Int32) (hI9 : isL S n cs = true) : FMet G l yL_isLine wsL_isLine ({ frames := 7, cells := 60, slots := 360, locals := 136 } : Room) [.ref x, .int n, .ref q] ω (fun vv9 τ9 => vv9 = some (.int 1) ∧ CI G τ9.2 x S ∧ FrX x ω.2 τ9.2) 60 360 := by
  refine fw_ofW (cc := cL_isLine) (maxL := 4) (ret := (some .boolean)) (by decide) rfl (Nat.le_of_ble_eq_true rfl) ?_
  intro pP eE sS mI ar9 bl9 meth cD ls hx hb hr hlocks hml hts hown hnm hW hR hl
  have hK := hL.K hW
  have hS : va_S (fwA G) sS.heap sS.heap [] := va_S.rf
  have hl : lv_has ls 4 [(0, .ref x), (1, .int n), (2, .ref q)] := hl
  have hR0 : va_S (fwA G) G.2.2.heap sS.heap [] := hR.2.1
  obtain ⟨hi1, hi2⟩ := (Bool.and_eq_true _ _).mp hI9
  have hi1 : n = nI cs.length := of_decide_eq_true hi1
  have hi2 : ∀ k, k < cs.length → (ob_char S (nI k)).1 = cs.getD k 0 ∧ (ob_char S (nI k)).2 = 0 := fun k hk => of_decide_eq_true (List.all_eq_true.mp hi2 k (List.mem_range.mpr hk))
  subst hi1
  have loop : ∀ (fu k : Nat) (τ : FWd) (cells slots : Nat), cs.length - k < fu → k ≤ cs.length → CI G τ.2 x S → FrX x ω.2 τ.2 → cells + (cs.length - k) ≤ 60 → slots + 6 * (cs.length - k) ≤ 360 → ∀ (H : Heap) (locs : List Loc) (ls : Array Slot), fR G τ H → va_S (fwA G) sS.heap H locs → lv_has ls 4 [(3, .int (nI k)), (0, .ref x), (1, .int (nI cs.length)), (2, .ref q)] → W pP l eE ({ frames := 7, cells := 60, slots := 360, locals := 136 } : Room) sS mI ar9 bl9 meth cD H locs cells slots (MQ bl9 (fQ G (fun vv9 τ9 => vv9 = some (.int 1) ∧ CI G τ9.2 x S ∧ FrX x ω.2 τ9.2)) ar9 sS 60 360 (fwA G)) (F0 mI 12 ls []) := by
    intro fu
    induction fu with
    | zero => intro k τ cells slots hfu; exact absurd hfu (Nat.not_lt_zero _)
    | succ fu ih =>
      intro k τ cells slots hfu hk hC hF hc hs H locs ls hR hS hl
      have hT := hT.fr hF
      refine lv_iload_n hx hb dL_isLine_12 rfl (lv_at hl 0 rfl) ?_
      refine lv_iload_n hx hb dL_isLine_13 rfl (lv_at hl 2 rfl) ?_
      refine lv_icmp_ge (tgt := 38) hx hb dL_isLine_14 (by decide) (fun c => ?_) (fun c => ?_)
      · skip
        refine lv_iconst (v := 1) hx hb dL_isLine_38 (by decide) ?_
        refine W.widen (k := 60) (n := 360) (by omega) (by omega) ?_
        refine fw_zret hx hb hr rfl hlocks hR hS dL_isLine_39 ?_
        exact ⟨rfl, hC, hF⟩
      · have hk9 : k < cs.length := Nat.lt_of_not_le (fun z => c ((nI_leI (a := cs.length) (b := k) (by omega) (by omega)).mpr z))
        refine lv_aload_n hx hb dL_isLine_17 rfl (lv_at hl 1 rfl) ?_
        refine lv_iload_n hx hb dL_isLine_18 rfl (lv_at hl 0 rfl) ?_
        obtain ⟨j1, j2⟩ := hi2 k hk9
        refine fx_call (vx_runV (As := [.int (nI k)]) (rest := []) ⟨hx, hb, hml, hown, hts⟩ (i_character G hL l hX0 τ x S.1 S.2.1 S.2.2.1 S.2.2.2.1 S.2.2.2.2.1 S.2.2.2.2.2 hC (nI k)) (cwV 1 hts gL_isLine_X10_character rfl rfl rfl (by decide +kernel) ⟨Nat.le_of_ble_eq_true rfl, Nat.le_of_ble_eq_true rfl⟩) (fw_preV hW hK hR hC.at0 rfl) rfl rfl hl.1 rfl (lv_room (Nat.le_of_ble_eq_true rfl)) dL_isLine_19 ⟨by show cells + 1 ≤ 60; omega, by show slots + 6 ≤ 360; omega⟩) hS (fun E ce q9 τ_1 H locs hx_1 hR hS hce hcv hcl => ?_) (fun v_1 τ_1 H locs hq_1 hR hS => ?_)
        · obtain ⟨⟨k1, -⟩, -⟩ := hx_1
          exact absurd (k1.symm.trans j2) (by decide)
        · obtain ⟨rfl, -, hI, hF2⟩ := hq_1
          have hC2 : CI G τ_1.2 x S := by
            obtain ⟨c9, e9⟩ := charM_2 (s := S.1) (g := S.2.1) (lt := S.2.2.2.2.2) (ix := nI k)
            rw [e9] at hI
            exact CI.st (S := (upd S.1 14 c9, S.2)) hI (fun q9 hq9 => char_st q9 hq9)
          have hT := hT.fr hF2
          refine W.eq (g2 := F0 mI 22 ls [.int (ob_char S (nI k)).1]) rfl ?_
          refine W.eq (g2 := F0 mI 22 ls [.int (cs.getD k 0)]) (by rw [j1]) ?_
          refine lv_aload_n hx hb dL_isLine_22 rfl (lv_at hl 3 rfl) ?_
          refine lv_iload_n hx hb dL_isLine_23 rfl (lv_at hl 0 rfl) ?_
          refine fw_call (va_runV (As := [.int (nI k)]) (rest := [.int (cs.getD k 0)]) ⟨hx, hb, hml, hown, hts⟩ (tx_char G hL l τ_1 hJ x q cs hT (by omega) k hk9) (cwV 1 hts gL_isLine_J0_charAt_5068e rfl rfl rfl (by decide +kernel) ⟨Nat.le_of_ble_eq_true rfl, Nat.le_of_ble_eq_true rfl⟩) (tx_pre hT hL hW hR0 hR hS) rfl rfl hl.1 rfl (lv_room (Nat.le_of_ble_eq_true rfl)) dL_isLine_24 ⟨by show _ + 0 ≤ 60; omega, by show _ + 0 ≤ 360; omega⟩) hS (fun v_2 τ_2 H locs hq_2 hR hS => ?_)
          obtain ⟨rfl, hq_2⟩ := hq_2
          rw [hq_2] at hR
          refine W.eq (g2 := F0 mI 27 ls [.int (chC (cs.getD k 0 &&& 255)), .int (cs.getD k 0)]) rfl ?_
          refine W.eq (g2 := F0 mI 27 ls [.int (cs.getD k 0), .int (cs.getD k 0)]) (by rw [hA k hk9]) ?_
          refine lv_icmp_eq (tgt := 32) hx hb dL_isLine_27 (by decide) (fun c => ?_) (fun c => absurd rfl c)
          refine lv_iinc (v := nI (k + 1)) (lv' := [(3, .int (nI (k + 1))), (0, .ref x), (1, .int (nI cs.length)), (2, .ref q)]) hx hb dL_isLine_32 hl (k := 0) rfl (by rw [← nI_1]; rfl) (by decide) rfl (fun ls hl => ?_)
          refine lv_goto (tgt := 12) hx hb dL_isLine_35 (by decide) ?_
          exact ih (k + 1) τ_1 _ _ (by omega) (by omega) hC2 (hF.trans hF2) (by omega) (by omega) H locs ls hR hS hl
  refine lv_iload_n hx hb dL_isLine_0 rfl (lv_at hl 1 rfl) ?_
  refine lv_aload_n hx hb dL_isLine_1 rfl (lv_at hl 2 rfl) ?_
  refine fw_call (va_runV (As := []) (rest := [.int (nI cs.length)]) ⟨hx, hb, hml, hown, hts⟩ (tx_len G hL l ω hJ x q cs hT (by omega)) (cwV 0 hts gL_isLine_J0_length_8abf5 rfl rfl rfl (by decide +kernel) ⟨Nat.le_of_ble_eq_true rfl, Nat.le_of_ble_eq_true rfl⟩) (tx_pre hT hL hW hR0 hR hS) rfl rfl hl.1 rfl (lv_room (Nat.le_of_ble_eq_true rfl)) dL_isLine_2 ⟨by show _ + 0 ≤ 60; omega, by show _ + 0 ≤ 360; omega⟩) hS (fun v_3 τ_3 H locs hq_3 hR hS => ?_)
  obtain ⟨rfl, hq_3⟩ := hq_3
  rw [hq_3] at hR
  refine W.eq (g2 := F0 mI 5 ls [.int (nI cs.length), .int (nI cs.length)]) rfl ?_
  refine lv_icmp_eq (tgt := 10) hx hb dL_isLine_5 (by decide) (fun c => ?_) (fun c => absurd rfl c)
  refine lv_iconst (v := 0) hx hb dL_isLine_10 (by decide) ?_
  refine lv_istore_n (lv' := [(3, .int 0), (0, .ref x), (1, .int (nI cs.length)), (2, .ref q)]) hx hb dL_isLine_11 rfl hl (by decide) rfl (fun ls hl => ?_)
  exact loop _ 0 ω 0 0 (Nat.lt_succ_self _) (Nat.zero_le _) h FrX.rf (by omega) (by omega) _ _ _ hR hS hl

set_option maxHeartbeats 4000000 in
set_option maxRecDepth 100000 in
theorem h_faults (G : FG) (hL : FL G) (l : Launch) (hX0 : FX0 G l) (hN : va_Nc "java/lang/UnsupportedOperationException" "java/lang/IllegalArgumentException" G.2.2) (adr : Nat → Nat) (hFT : FTx G adr) (hJ : FJ G) (ω : FWd) (x q : Nat) (S : StZ) (h : CI G ω.2 x S) (cs : List Int32) (hT : TxR G ω.2 x q cs) (hA : AscT cs) (hn : cs.length ≤ 60) (h7 : S.1 7 = 0) (pl : Int32) (h1 : (ob_runs (putS S cs)).1 = -1) (h2 : (ob_runs (putS S cs)).2.1 8 = pl) (h14 : (ob_com (putS S cs)).2.1 14 = 1) : FMet G l yL_faults wsL_faults ({ frames := 9, cells := 61, slots := 366, locals := 210 } : Room) [.ref x, .ref q, .int pl] ω (fun vv9 τ9 => vv9 = some (.int 1) ∧ CI G τ9.2 x (ob_runs (putS S cs)).2 ∧ FrX x ω.2 τ9.2) 61 366 := by
  refine fw_ofW (cc := cL_faults) (maxL := 3) (ret := (some .boolean)) (by decide) rfl (Nat.le_of_ble_eq_true rfl) ?_
  intro pP eE sS mI ar9 bl9 meth cD ls hx hb hr hlocks hml hts hown hnm hW hR hl
  have hK := hL.K hW
  have hS : va_S (fwA G) sS.heap sS.heap [] := va_S.rf
  have hl : lv_has ls 3 [(0, .ref x), (1, .ref q), (2, .int pl)] := hl
  refine lv_aload_n hx hb dL_faults_0 rfl (lv_at hl 0 rfl) ?_
  refine lv_aload_n hx hb dL_faults_1 rfl (lv_at hl 1 rfl) ?_
  refine fw_call (va_runS (As := [.ref x, .ref q]) (rest := []) ⟨hx, hb, hml, hown, hts⟩ (h_put G hL l hX0 hJ ω x q S h cs hT hA hn h7) (va_cwS 2 hts gL_faults_L_put rfl rfl rfl (by decide +kernel) ⟨Nat.le_of_ble_eq_true rfl, Nat.le_of_ble_eq_true rfl⟩) (fw_preS hW hR) rfl rfl hl.1 rfl (lv_room (Nat.le_of_ble_eq_true rfl)) dL_faults_2 ⟨Nat.le_of_ble_eq_true rfl, Nat.le_of_ble_eq_true rfl⟩) hS (fun v_1 τ_1 H locs hq_1 hR hS => ?_)
  obtain ⟨rfl, hC1, hF1⟩ := hq_1
  refine W.eq (g2 := F0 mI 5 ls []) rfl ?_
  refine lv_aload_n hx hb dL_faults_5 rfl (lv_at hl 0 rfl) ?_
  refine fx_call (vx_runSX (As := [.ref x]) (rest := []) ⟨hx, hb, hml, hown, hts⟩ (h_runsA G hL l hX0 hN adr hFT hJ τ_1 x (putS S cs) hC1 h14) (vx_cwSW 1 hts gL_faults_L_runs rfl rfl rfl (by decide +kernel) ⟨Nat.le_of_ble_eq_true rfl, Nat.le_of_ble_eq_true rfl⟩) (fw_preS hW hR) rfl rfl hl.1 rfl (lv_room (Nat.le_of_ble_eq_true rfl)) dL_faults_6 ⟨Nat.le_of_ble_eq_true rfl, Nat.le_of_ble_eq_true rfl⟩) hS (fun E ce q9 τ H locs hx_2 hR hS hce hcv hcl => hx_2.elim) (fun v_2 τ_2 H locs hq_2 hR hS => ?_)
  obtain ⟨rfl, hC2, hF2⟩ := hq_2
  refine W.eq (g2 := F0 mI 9 ls [.int (ob_runs (putS S cs)).1]) rfl ?_
  refine W.eq (g2 := F0 mI 9 ls [.int (-1)]) (by rw [h1]) ?_
  refine lv_iconst (v := (-1)) hx hb dL_faults_9 (by decide) ?_
  refine lv_icmp_ne (tgt := 25) hx hb dL_faults_10 (by decide) (fun c => absurd rfl c) (fun c => ?_)
  refine lv_aload_n hx hb dL_faults_13 rfl (lv_at hl 0 rfl) ?_
  refine fw_call (va_runV (As := []) (rest := []) ⟨hx, hb, hml, hown, hts⟩ (i_faultPosition G hL l τ_2 x (ob_runs (putS S cs)).2.1 (ob_runs (putS S cs)).2.2.1 (ob_runs (putS S cs)).2.2.2.1 (ob_runs (putS S cs)).2.2.2.2.1 (ob_runs (putS S cs)).2.2.2.2.2.1 (ob_runs (putS S cs)).2.2.2.2.2.2 hC2) (cwV 0 hts gL_faults_X10_faultPosition rfl rfl rfl (by decide +kernel) ⟨Nat.le_of_ble_eq_true rfl, Nat.le_of_ble_eq_true rfl⟩) (fw_preV hW hK hR hC2.at0 rfl) rfl rfl hl.1 rfl (lv_room (Nat.le_of_ble_eq_true rfl)) dL_faults_14 ⟨Nat.le_of_ble_eq_true rfl, Nat.le_of_ble_eq_true rfl⟩) hS (fun v_3 τ_3 H locs hq_3 hR hS => ?_)
  obtain ⟨rfl, -, hI3, hF3⟩ := hq_3
  have hC3 : CI G τ_3.2 x (ob_runs (putS S cs)).2 := CI.st (S := (upd (ob_runs (putS S cs)).2.1 14 0, (ob_runs (putS S cs)).2.2)) hI3 (fun q9 hq9 => char_st q9 hq9)
  refine W.eq (g2 := F0 mI 17 ls [.int ((ob_runs (putS S cs)).2.1 8)]) rfl ?_
  refine W.eq (g2 := F0 mI 17 ls [.int pl]) (by rw [h2]) ?_
  refine lv_iload_n hx hb dL_faults_17 rfl (lv_at hl 2 rfl) ?_
  refine lv_icmp_ne (tgt := 25) hx hb dL_faults_18 (by decide) (fun c => absurd rfl c) (fun c => ?_)
  refine lv_iconst (v := 1) hx hb dL_faults_21 (by decide) ?_
  refine lv_goto (tgt := 26) hx hb dL_faults_22 (by decide) ?_
  refine fw_zret hx hb hr rfl hlocks hR hS dL_faults_26 ?_
  exact ⟨rfl, hC3, (hF1.trans hF2).trans hF3⟩
