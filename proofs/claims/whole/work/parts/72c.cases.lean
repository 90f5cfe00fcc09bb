/-! ===== printed by program (wip/whole/gen/lay_law.py cases): the law, call by call ===== -/
theorem lc_isEven {G : FG} {l : Launch} {pP : Program} {eE : Env} {sS : State} {mI : MethodId} {ar9 : Array Value} {bl9 : List Frame} {meth : Method} {cD : Code} {adr : Nat → Nat} {b L : Nat} {xs : Nat → Int32} {Q : State → Prop} (C : LCx G l pP sS mI ar9 cD adr b L xs) {ω : FWd} {x i cells slots : Nat} {H : Heap} {locs : List Loc} {ls : Array Slot} (hi : i + 6 ≤ L) (hL3 : L ≤ 3072) (hI : LI G ω x) (hR : fR G ω H) (hS : va_S (fwA G) sS.heap H locs) (hl : lv_has ls 9 (LV b x i)) (hc : cells + 3 ≤ 603072) (hs : slots + 18 ≤ 7198826)
    (kk : ∀ (τ : FWd) (H : Heap) (locs : List Loc) (ls : Array Slot), LI G τ x → fR G τ H → va_S (fwA G) sS.heap H locs → lv_has ls 9 (LV b x i) → W pP l eE room_1 sS mI ar9 bl9 meth cD H locs (cells + 3) (slots + 18) Q (F0 mI 2711 ls [])) : W pP l eE room_1 sS mI ar9 bl9 meth cD H locs cells slots Q (F0 mI 2127 ls []) := by
  obtain ⟨s, g, hs9, sv, ip, lt, f9, fd, hC, ⟨bf, nd, td, hM⟩, ho, hd⟩ := hI
  obtain ⟨hx, hb, hml, hown, hts, hW, hL, hX0, hN, hFT, hJ, hX, hbl, hbA⟩ := id C
  have hK := hL.K hW
  obtain ⟨hWG, hk3, hk7, hk13, hlt9, v9, hte⟩ := li_f hC
  refine lv_aload_n hx hb dL_law_2127 rfl (lv_at hl 1 rfl) ?_
  refine fw_call (va_runV (As := []) (rest := []) ⟨hx, hb, hml, hown, hts⟩ (i_isEven G hL l ω x s g hs9 sv ip lt hC) (cwV 0 hts gL_law_X10_isEven rfl rfl rfl (by decide +kernel) ⟨Nat.le_of_ble_eq_true rfl, Nat.le_of_ble_eq_true rfl⟩) (fw_preV hW hK hR hC.1.1 rfl) rfl rfl hl.1 rfl (lv_room (Nat.le_of_ble_eq_true rfl)) dL_law_2128 ⟨by show cells + 0 ≤ 603072; omega, by show slots + 0 ≤ 7198826; omega⟩) hS (fun v τ H locs hq hR hS => ?_)
  obtain ⟨rfl, -, hC', hF⟩ := hq
  refine W.eq (g2 := F0 mI 2131 ls [.int (evenM s g).1]) rfl ?_
  have hM' := hM.fr (τ := τ.2) (fun q q1 q2 => hF q (by omega))
  refine lv_aload_n hx hb dL_law_2131 rfl (lv_at hl 2 rfl) ?_
  refine fw_call (va_runV (As := []) (rest := [.int (evenM s g).1]) ⟨hx, hb, hml, hown, hts⟩ (j_isEven G hL l τ (x + 614) s g bf hs9 sv ip lt nd td hM' ) (cwV 0 hts gL_law_X11_isEven rfl rfl rfl (by decide +kernel) ⟨Nat.le_of_ble_eq_true rfl, Nat.le_of_ble_eq_true rfl⟩) (fw_preV hW hK hR hM'.1 rfl) rfl rfl hl.1 rfl (lv_room (Nat.le_of_ble_eq_true rfl)) dL_law_2132 ⟨by show cells + 0 + 0 ≤ 603072; omega, by show slots + 0 + 0 ≤ 7198826; omega⟩) hS (fun v τ2 H locs hq hR hS => ?_)
  obtain ⟨rfl, ⟨bf2, nd2, td2, hM2⟩, hF2⟩ := hq
  refine W.eq (g2 := F0 mI 2135 ls [.int ((evenM s g).1), .int (evenM s g).1]) rfl ?_
  refine lv_icmp_eq (tgt := 2711) hx hb dL_law_2135 (by decide) (fun _ => ?_) (fun z => absurd rfl z)
  refine W.widen (k := cells + 3) (n := slots + 18) (by omega) (by omega) ?_
  exact kk τ2 H locs ls ⟨_, _, _, _, _, _, f9, fd, hC'.fr (fun q q1 q2 => hF2 q (by omega)), ⟨bf2, nd2, td2, hM2⟩, (hF2 _ (by omega)).trans ((hF _ (by omega)).trans ho), (hF2 _ (by omega)).trans ((hF _ (by omega)).trans hd)⟩ hR hS hl
theorem lc_append {G : FG} {l : Launch} {pP : Program} {eE : Env} {sS : State} {mI : MethodId} {ar9 : Array Value} {bl9 : List Frame} {meth : Method} {cD : Code} {adr : Nat → Nat} {b L : Nat} {xs : Nat → Int32} {Q : State → Prop} (C : LCx G l pP sS mI ar9 cD adr b L xs) {ω : FWd} {x i cells slots : Nat} {H : Heap} {locs : List Loc} {ls : Array Slot} (hi : i + 6 ≤ L) (hL3 : L ≤ 3072) (hI : LI G ω x) (hR : fR G ω H) (hS : va_S (fwA G) sS.heap H locs) (hl : lv_has ls 9 (LV b x i)) (hc : cells + 3 ≤ 603072) (hs : slots + 18 ≤ 7198826)
    (kk : ∀ (τ : FWd) (H : Heap) (locs : List Loc) (ls : Array Slot), LI G τ x → fR G τ H → va_S (fwA G) sS.heap H locs → lv_has ls 9 (LV b x i) → W pP l eE room_1 sS mI ar9 bl9 meth cD H locs (cells + 3) (slots + 18) Q (F0 mI 2711 ls [])) : W pP l eE room_1 sS mI ar9 bl9 meth cD H locs cells slots Q (F0 mI 2140 ls []) := by
  obtain ⟨s, g, hs9, sv, ip, lt, f9, fd, hC, ⟨bf, nd, td, hM⟩, ho, hd⟩ := hI
  obtain ⟨hx, hb, hml, hown, hts, hW, hL, hX0, hN, hFT, hJ, hX, hbl, hbA⟩ := id C
  have hK := hL.K hW
  obtain ⟨hWG, hk3, hk7, hk13, hlt9, v9, hte⟩ := li_f hC
  refine lv_aload_n hx hb dL_law_2140 rfl (lv_at hl 1 rfl) ?_
  refine lw_arg C hl (k0 := 0) (k5 := 5) (n := 1) rfl rfl (by decide) (by decide) hi hL3 hS dL_law_2141 dL_law_2142 dL_law_2144 dL_law_2145 dL_law_2146 ?_
  refine lv_i2c (v := chC (xs (i + 1))) hx hb dL_law_2147 rfl ?_
  refine lv_aload_n hx hb dL_law_2148 rfl (lv_at hl 3 rfl) ?_
  refine fx_call (vx_runSX (As := [.ref x, .int (chC (xs (i + 1))), .ref (x + 623)]) (rest := []) ⟨hx, hb, hml, hown, hts⟩ (h_append G hL l hX0 ω x s g hs9 sv ip lt hC (x + 623) f9 ho (Or.inr (by omega)) (chC (xs (i + 1))) nar_chC) (vx_cwSW 3 hts gL_law_L_append rfl rfl rfl (by decide +kernel) ⟨Nat.le_of_ble_eq_true rfl, Nat.le_of_ble_eq_true rfl⟩) (fw_preS hW hR) rfl rfl hl.1 rfl (lv_room (Nat.le_of_ble_eq_true rfl)) dL_law_2149 ⟨by show cells + 1 ≤ 603072; omega, by show slots + 6 ≤ 7198826; omega⟩) hS (fun E ce q9 τ H locs hx_1 hR hS hce hcv hcl => hx_1.elim) (fun v τ H locs hq hR hS => ?_)
  obtain ⟨k, f8, rfl, hk, hB, ho', hC', hF⟩ := hq
  refine W.widen (k := cells + 3) (n := slots + 18) (by omega) (by omega) ?_
  refine W.eq (g2 := F0 mI 2152 ls [.int k]) rfl ?_
  refine lv_istore (lv' := (6, .int k) :: LV b x i) hx hb dL_law_2152 hl (by decide) rfl (fun ls hl => ?_)
  have hM' := hM.fr (τ := τ.2) (fun q q1 q2 => hF q (by omega) (by omega))
  have hd9 := (hF (x + 624) (by omega) (by omega)).trans hd
  refine lv_aload_n hx hb dL_law_2154 rfl (lv_at hl 3 rfl) ?_
  refine lw_arg C hl (k0 := 1) (k5 := 6) (n := 1) rfl rfl (by decide) (by decide) hi hL3 hS dL_law_2155 dL_law_2156 dL_law_2158 dL_law_2159 dL_law_2160 ?_
  refine lv_i2c (v := chC (xs (i + 1))) hx hb dL_law_2161 rfl ?_
  refine fw_call (va_runV (As := [.int (chC (xs (i + 1)))]) (rest := []) ⟨hx, hb, hml, hown, hts⟩ (j_append G hL l τ (x + 614) s g bf hs9 sv ip lt nd td hM' hk7 (chC (xs (i + 1))) nar_chC) (cwV 1 hts gL_law_X11_append rfl rfl rfl (by decide +kernel) ⟨Nat.le_of_ble_eq_true rfl, Nat.le_of_ble_eq_true rfl⟩) (fw_preV hW hK hR hM'.1 rfl) rfl rfl hl.1 rfl (lv_room (Nat.le_of_ble_eq_true rfl)) dL_law_2162 ⟨by show cells + 3 + 0 ≤ 603072; omega, by show slots + 18 + 0 ≤ 7198826; omega⟩) hS (fun v τ2 H locs hq hR hS => ?_)
  obtain ⟨rfl, ⟨bf2, nd2, td2, hM2⟩, hF2⟩ := hq
  refine W.eq (g2 := F0 mI 2165 ls [.int ((appM s g ip (chC (xs (i + 1)))).1)]) rfl ?_
  refine lv_istore (lv' := (7, .int ((appM s g ip (chC (xs (i + 1)))).1)) :: (6, .int k) :: LV b x i) hx hb dL_law_2165 hl (by decide) rfl (fun ls hl => ?_)
  exact lw_tail C hk hB hM2 (hC'.fr (fun q q1 q2 => hF2 q (by omega))) ((hF2 _ (by omega)).trans ho') ((hF2 _ (by omega)).trans hd9) hR hS hl (by omega) (by omega) dL_law_2167 dL_law_2168 dL_law_2171 dL_law_2173 dL_law_2178 dL_law_2180 dL_law_2183 dL_law_2184 dL_law_2185 dL_law_2186 dL_law_2188 dL_law_2189 dL_law_2190 dL_law_2195 (by decide) (kk τ2)
theorem lc_commands {G : FG} {l : Launch} {pP : Program} {eE : Env} {sS : State} {mI : MethodId} {ar9 : Array Value} {bl9 : List Frame} {meth : Method} {cD : Code} {adr : Nat → Nat} {b L : Nat} {xs : Nat → Int32} {Q : State → Prop} (C : LCx G l pP sS mI ar9 cD adr b L xs) {ω : FWd} {x i cells slots : Nat} {H : Heap} {locs : List Loc} {ls : Array Slot} (hi : i + 6 ≤ L) (hL3 : L ≤ 3072) (hI : LI G ω x) (hR : fR G ω H) (hS : va_S (fwA G) sS.heap H locs) (hl : lv_has ls 9 (LV b x i)) (hc : cells + 3 ≤ 603072) (hs : slots + 18 ≤ 7198826)
    (kk : ∀ (τ : FWd) (H : Heap) (locs : List Loc) (ls : Array Slot), LI G τ x → fR G τ H → va_S (fwA G) sS.heap H locs → lv_has ls 9 (LV b x i) → W pP l eE room_1 sS mI ar9 bl9 meth cD H locs (cells + 3) (slots + 18) Q (F0 mI 2711 ls [])) : W pP l eE room_1 sS mI ar9 bl9 meth cD H locs cells slots Q (F0 mI 2198 ls []) := by
  obtain ⟨s, g, hs9, sv, ip, lt, f9, fd, hC, ⟨bf, nd, td, hM⟩, ho, hd⟩ := hI
  obtain ⟨hx, hb, hml, hown, hts, hW, hL, hX0, hN, hFT, hJ, hX, hbl, hbA⟩ := id C
  have hK := hL.K hW
  obtain ⟨hWG, hk3, hk7, hk13, hlt9, v9, hte⟩ := li_f hC
  refine lv_aload_n hx hb dL_law_2198 rfl (lv_at hl 1 rfl) ?_
  refine lv_aload_n hx hb dL_law_2199 rfl (lv_at hl 3 rfl) ?_
  refine fx_call (vx_runSX (As := [.ref x, .ref (x + 623)]) (rest := []) ⟨hx, hb, hml, hown, hts⟩ (h_commands G hL l hX0 hN adr hFT hJ ω x s g hs9 sv ip lt nd bf td hC (x + 623) f9 ho (Or.inr (by omega)) ) (vx_cwSW 2 hts gL_law_L_commands rfl rfl rfl (by decide +kernel) ⟨Nat.le_of_ble_eq_true rfl, Nat.le_of_ble_eq_true rfl⟩) (fw_preS hW hR) rfl rfl hl.1 rfl (lv_room (Nat.le_of_ble_eq_true rfl)) dL_law_2200 ⟨by show cells + 1 ≤ 603072; omega, by show slots + 6 ≤ 7198826; omega⟩) hS (fun E ce q9 τ H locs hx_1 hR hS hce hcv hcl => hx_1.elim) (fun v τ H locs hq hR hS => ?_)
  obtain ⟨k, f8, rfl, hk, hB, ho', hC', hF⟩ := hq
  refine W.widen (k := cells + 3) (n := slots + 18) (by omega) (by omega) ?_
  refine W.eq (g2 := F0 mI 2203 ls [.int k]) rfl ?_
  refine lv_istore (lv' := (6, .int k) :: LV b x i) hx hb dL_law_2203 hl (by decide) rfl (fun ls hl => ?_)
  have hM' := hM.fr (τ := τ.2) (fun q q1 q2 => hF q (by omega) (by omega))
  have hd9 := (hF (x + 624) (by omega) (by omega)).trans hd
  refine lv_aload_n hx hb dL_law_2205 rfl (lv_at hl 3 rfl) ?_
  refine fw_call (va_runV (As := []) (rest := []) ⟨hx, hb, hml, hown, hts⟩ (j_commands G hL l τ (x + 614) s g bf hs9 sv ip lt nd td hM' hWG.1.1 hk3 hWG.1 hk7) (cwV 0 hts gL_law_X11_commands rfl rfl rfl (by decide +kernel) ⟨Nat.le_of_ble_eq_true rfl, Nat.le_of_ble_eq_true rfl⟩) (fw_preV hW hK hR hM'.1 rfl) rfl rfl hl.1 rfl (lv_room (Nat.le_of_ble_eq_true rfl)) dL_law_2206 ⟨by show cells + 3 + 0 ≤ 603072; omega, by show slots + 18 + 0 ≤ 7198826; omega⟩) hS (fun v τ2 H locs hq hR hS => ?_)
  obtain ⟨rfl, ⟨bf2, nd2, td2, hM2⟩, hF2⟩ := hq
  refine W.eq (g2 := F0 mI 2209 ls [.int ((comM s g nd bf hs9 ip td).1)]) rfl ?_
  refine lv_istore (lv' := (7, .int ((comM s g nd bf hs9 ip td).1)) :: (6, .int k) :: LV b x i) hx hb dL_law_2209 hl (by decide) rfl (fun ls hl => ?_)
  exact lw_tail C hk hB hM2 (hC'.fr (fun q q1 q2 => hF2 q (by omega))) ((hF2 _ (by omega)).trans ho') ((hF2 _ (by omega)).trans hd9) hR hS hl (by omega) (by omega) dL_law_2211 dL_law_2212 dL_law_2215 dL_law_2217 dL_law_2222 dL_law_2224 dL_law_2227 dL_law_2228 dL_law_2229 dL_law_2230 dL_law_2232 dL_law_2233 dL_law_2234 dL_law_2239 (by decide) (kk τ2)
theorem lc_faultPosition {G : FG} {l : Launch} {pP : Program} {eE : Env} {sS : State} {mI : MethodId} {ar9 : Array Value} {bl9 : List Frame} {meth : Method} {cD : Code} {adr : Nat → Nat} {b L : Nat} {xs : Nat → Int32} {Q : State → Prop} (C : LCx G l pP sS mI ar9 cD adr b L xs) {ω : FWd} {x i cells slots : Nat} {H : Heap} {locs : List Loc} {ls : Array Slot} (hi : i + 6 ≤ L) (hL3 : L ≤ 3072) (hI : LI G ω x) (hR : fR G ω H) (hS : va_S (fwA G) sS.heap H locs) (hl : lv_has ls 9 (LV b x i)) (hc : cells + 3 ≤ 603072) (hs : slots + 18 ≤ 7198826)
    (kk : ∀ (τ : FWd) (H : Heap) (locs : List Loc) (ls : Array Slot), LI G τ x → fR G τ H → va_S (fwA G) sS.heap H locs → lv_has ls 9 (LV b x i) → W pP l eE room_1 sS mI ar9 bl9 meth cD H locs (cells + 3) (slots + 18) Q (F0 mI 2711 ls [])) : W pP l eE room_1 sS mI ar9 bl9 meth cD H locs cells slots Q (F0 mI 2242 ls []) := by
  obtain ⟨s, g, hs9, sv, ip, lt, f9, fd, hC, ⟨bf, nd, td, hM⟩, ho, hd⟩ := hI
  obtain ⟨hx, hb, hml, hown, hts, hW, hL, hX0, hN, hFT, hJ, hX, hbl, hbA⟩ := id C
  have hK := hL.K hW
  obtain ⟨hWG, hk3, hk7, hk13, hlt9, v9, hte⟩ := li_f hC
  refine lv_aload_n hx hb dL_law_2242 rfl (lv_at hl 1 rfl) ?_
  refine fw_call (va_runV (As := []) (rest := []) ⟨hx, hb, hml, hown, hts⟩ (i_faultPosition G hL l ω x s g hs9 sv ip lt hC) (cwV 0 hts gL_law_X10_faultPosition rfl rfl rfl (by decide +kernel) ⟨Nat.le_of_ble_eq_true rfl, Nat.le_of_ble_eq_true rfl⟩) (fw_preV hW hK hR hC.1.1 rfl) rfl rfl hl.1 rfl (lv_room (Nat.le_of_ble_eq_true rfl)) dL_law_2243 ⟨by show cells + 0 ≤ 603072; omega, by show slots + 0 ≤ 7198826; omega⟩) hS (fun v τ H locs hq hR hS => ?_)
  obtain ⟨rfl, -, hC', hF⟩ := hq
  refine W.eq (g2 := F0 mI 2246 ls [.int (fposM s g).1]) rfl ?_
  have hM' := hM.fr (τ := τ.2) (fun q q1 q2 => hF q (by omega))
  refine lv_aload_n hx hb dL_law_2246 rfl (lv_at hl 2 rfl) ?_
  refine fw_call (va_runV (As := []) (rest := [.int (fposM s g).1]) ⟨hx, hb, hml, hown, hts⟩ (j_faultPosition G hL l τ (x + 614) s g bf hs9 sv ip lt nd td hM' ) (cwV 0 hts gL_law_X11_faultPosition rfl rfl rfl (by decide +kernel) ⟨Nat.le_of_ble_eq_true rfl, Nat.le_of_ble_eq_true rfl⟩) (fw_preV hW hK hR hM'.1 rfl) rfl rfl hl.1 rfl (lv_room (Nat.le_of_ble_eq_true rfl)) dL_law_2247 ⟨by show cells + 0 + 0 ≤ 603072; omega, by show slots + 0 + 0 ≤ 7198826; omega⟩) hS (fun v τ2 H locs hq hR hS => ?_)
  obtain ⟨rfl, ⟨bf2, nd2, td2, hM2⟩, hF2⟩ := hq
  refine W.eq (g2 := F0 mI 2250 ls [.int ((fposM s g).1), .int (fposM s g).1]) rfl ?_
  refine lv_icmp_eq (tgt := 2711) hx hb dL_law_2250 (by decide) (fun _ => ?_) (fun z => absurd rfl z)
  refine W.widen (k := cells + 3) (n := slots + 18) (by omega) (by omega) ?_
  exact kk τ2 H locs ls ⟨_, _, _, _, _, _, f9, fd, hC'.fr (fun q q1 q2 => hF2 q (by omega)), ⟨bf2, nd2, td2, hM2⟩, (hF2 _ (by omega)).trans ((hF _ (by omega)).trans ho), (hF2 _ (by omega)).trans ((hF _ (by omega)).trans hd)⟩ hR hS hl
theorem lc_reason {G : FG} {l : Launch} {pP : Program} {eE : Env} {sS : State} {mI : MethodId} {ar9 : Array Value} {bl9 : List Frame} {meth : Method} {cD : Code} {adr : Nat → Nat} {b L : Nat} {xs : Nat → Int32} {Q : State → Prop} (C : LCx G l pP sS mI ar9 cD adr b L xs) {ω : FWd} {x i cells slots : Nat} {H : Heap} {locs : List Loc} {ls : Array Slot} (hi : i + 6 ≤ L) (hL3 : L ≤ 3072) (hI : LI G ω x) (hR : fR G ω H) (hS : va_S (fwA G) sS.heap H locs) (hl : lv_has ls 9 (LV b x i)) (hc : cells + 3 ≤ 603072) (hs : slots + 18 ≤ 7198826)
    (kk : ∀ (τ : FWd) (H : Heap) (locs : List Loc) (ls : Array Slot), LI G τ x → fR G τ H → va_S (fwA G) sS.heap H locs → lv_has ls 9 (LV b x i) → W pP l eE room_1 sS mI ar9 bl9 meth cD H locs (cells + 3) (slots + 18) Q (F0 mI 2711 ls [])) : W pP l eE room_1 sS mI ar9 bl9 meth cD H locs cells slots Q (F0 mI 2255 ls []) := by
  obtain ⟨s, g, hs9, sv, ip, lt, f9, fd, hC, ⟨bf, nd, td, hM⟩, ho, hd⟩ := hI
  obtain ⟨hx, hb, hml, hown, hts, hW, hL, hX0, hN, hFT, hJ, hX, hbl, hbA⟩ := id C
  have hK := hL.K hW
  obtain ⟨hWG, hk3, hk7, hk13, hlt9, v9, hte⟩ := li_f hC
  refine lv_aload_n hx hb dL_law_2255 rfl (lv_at hl 1 rfl) ?_
  refine lw_arg C hl (k0 := 0) (k5 := 5) (n := 1) rfl rfl (by decide) (by decide) hi hL3 hS dL_law_2256 dL_law_2257 dL_law_2259 dL_law_2260 dL_law_2261 ?_
  refine lv_aload_n hx hb dL_law_2262 rfl (lv_at hl 3 rfl) ?_
  refine fx_call (vx_runSX (As := [.ref x, .int (xs (i + 1)), .ref (x + 623)]) (rest := []) ⟨hx, hb, hml, hown, hts⟩ (h_reason G hL l hX0 hN ω x s g hs9 sv ip lt hC (x + 623) f9 ho (Or.inr (by omega)) (xs (i + 1))) (vx_cwSW 3 hts gL_law_L_reason rfl rfl rfl (by decide +kernel) ⟨Nat.le_of_ble_eq_true rfl, Nat.le_of_ble_eq_true rfl⟩) (fw_preS hW hR) rfl rfl hl.1 rfl (lv_room (Nat.le_of_ble_eq_true rfl)) dL_law_2263 ⟨by show cells + 1 ≤ 603072; omega, by show slots + 6 ≤ 7198826; omega⟩) hS (fun E ce q9 τ H locs hx_1 hR hS hce hcv hcl => hx_1.elim) (fun v τ H locs hq hR hS => ?_)
  obtain ⟨k, f8, rfl, hk, hB, ho', hC', hF⟩ := hq
  refine W.widen (k := cells + 3) (n := slots + 18) (by omega) (by omega) ?_
  refine W.eq (g2 := F0 mI 2266 ls [.int k]) rfl ?_
  refine lv_istore (lv' := (6, .int k) :: LV b x i) hx hb dL_law_2266 hl (by decide) rfl (fun ls hl => ?_)
  have hM' := hM.fr (τ := τ.2) (fun q q1 q2 => hF q (by omega) (by omega))
  have hd9 := (hF (x + 624) (by omega) (by omega)).trans hd
  refine lv_aload_n hx hb dL_law_2268 rfl (lv_at hl 3 rfl) ?_
  refine lw_arg C hl (k0 := 1) (k5 := 6) (n := 1) rfl rfl (by decide) (by decide) hi hL3 hS dL_law_2269 dL_law_2270 dL_law_2272 dL_law_2273 dL_law_2274 ?_
  refine fw_call (va_runV (As := [.int (xs (i + 1))]) (rest := []) ⟨hx, hb, hml, hown, hts⟩ (j_reason G hL l τ (x + 614) s g bf hs9 sv ip lt nd td hM' (xs (i + 1))) (cwV 1 hts gL_law_X11_reason rfl rfl rfl (by decide +kernel) ⟨Nat.le_of_ble_eq_true rfl, Nat.le_of_ble_eq_true rfl⟩) (fw_preV hW hK hR hM'.1 rfl) rfl rfl hl.1 rfl (lv_room (Nat.le_of_ble_eq_true rfl)) dL_law_2275 ⟨by show cells + 3 + 0 ≤ 603072; omega, by show slots + 18 + 0 ≤ 7198826; omega⟩) hS (fun v τ2 H locs hq hR hS => ?_)
  obtain ⟨rfl, ⟨bf2, nd2, td2, hM2⟩, hF2⟩ := hq
  refine W.eq (g2 := F0 mI 2278 ls [.int ((reasM s g (xs (i + 1))).1)]) rfl ?_
  refine lv_istore (lv' := (7, .int ((reasM s g (xs (i + 1))).1)) :: (6, .int k) :: LV b x i) hx hb dL_law_2278 hl (by decide) rfl (fun ls hl => ?_)
  exact lw_tail C hk hB hM2 (hC'.fr (fun q q1 q2 => hF2 q (by omega))) ((hF2 _ (by omega)).trans ho') ((hF2 _ (by omega)).trans hd9) hR hS hl (by omega) (by omega) dL_law_2280 dL_law_2281 dL_law_2284 dL_law_2286 dL_law_2291 dL_law_2293 dL_law_2296 dL_law_2297 dL_law_2298 dL_law_2299 dL_law_2301 dL_law_2302 dL_law_2303 dL_law_2308 (by decide) (kk τ2)
theorem lc_line {G : FG} {l : Launch} {pP : Program} {eE : Env} {sS : State} {mI : MethodId} {ar9 : Array Value} {bl9 : List Frame} {meth : Method} {cD : Code} {adr : Nat → Nat} {b L : Nat} {xs : Nat → Int32} {Q : State → Prop} (C : LCx G l pP sS mI ar9 cD adr b L xs) {ω : FWd} {x i cells slots : Nat} {H : Heap} {locs : List Loc} {ls : Array Slot} (hi : i + 6 ≤ L) (hL3 : L ≤ 3072) (hI : LI G ω x) (hR : fR G ω H) (hS : va_S (fwA G) sS.heap H locs) (hl : lv_has ls 9 (LV b x i)) (hc : cells + 3 ≤ 603072) (hs : slots + 18 ≤ 7198826)
    (kk : ∀ (τ : FWd) (H : Heap) (locs : List Loc) (ls : Array Slot), LI G τ x → fR G τ H → va_S (fwA G) sS.heap H locs → lv_has ls 9 (LV b x i) → W pP l eE room_1 sS mI ar9 bl9 meth cD H locs (cells + 3) (slots + 18) Q (F0 mI 2711 ls [])) : W pP l eE room_1 sS mI ar9 bl9 meth cD H locs cells slots Q (F0 mI 2311 ls []) := by
  obtain ⟨s, g, hs9, sv, ip, lt, f9, fd, hC, ⟨bf, nd, td, hM⟩, ho, hd⟩ := hI
  obtain ⟨hx, hb, hml, hown, hts, hW, hL, hX0, hN, hFT, hJ, hX, hbl, hbA⟩ := id C
  have hK := hL.K hW
  obtain ⟨hWG, hk3, hk7, hk13, hlt9, v9, hte⟩ := li_f hC
  refine lv_aload_n hx hb dL_law_2311 rfl (lv_at hl 1 rfl) ?_
  refine lw_arg C hl (k0 := 0) (k5 := 5) (n := 1) rfl rfl (by decide) (by decide) hi hL3 hS dL_law_2312 dL_law_2313 dL_law_2315 dL_law_2316 dL_law_2317 ?_
  refine lv_aload_n hx hb dL_law_2318 rfl (lv_at hl 3 rfl) ?_
  refine fx_call (vx_runSX (As := [.ref x, .int (xs (i + 1)), .ref (x + 623)]) (rest := []) ⟨hx, hb, hml, hown, hts⟩ (h_line G hL l hX0 ω x s g hs9 sv ip lt hC (x + 623) f9 ho (Or.inr (by omega)) (xs (i + 1))) (vx_cwSW 3 hts gL_law_L_line rfl rfl rfl (by decide +kernel) ⟨Nat.le_of_ble_eq_true rfl, Nat.le_of_ble_eq_true rfl⟩) (fw_preS hW hR) rfl rfl hl.1 rfl (lv_room (Nat.le_of_ble_eq_true rfl)) dL_law_2319 ⟨by show cells + 1 ≤ 603072; omega, by show slots + 6 ≤ 7198826; omega⟩) hS (fun E ce q9 τ H locs hx_1 hR hS hce hcv hcl => hx_1.elim) (fun v τ H locs hq hR hS => ?_)
  obtain ⟨k, f8, rfl, hk, hB, ho', hC', hF⟩ := hq
  refine W.widen (k := cells + 3) (n := slots + 18) (by omega) (by omega) ?_
  refine W.eq (g2 := F0 mI 2322 ls [.int k]) rfl ?_
  refine lv_istore (lv' := (6, .int k) :: LV b x i) hx hb dL_law_2322 hl (by decide) rfl (fun ls hl => ?_)
  have hM' := hM.fr (τ := τ.2) (fun q q1 q2 => hF q (by omega) (by omega))
  have hd9 := (hF (x + 624) (by omega) (by omega)).trans hd
  refine lv_aload_n hx hb dL_law_2324 rfl (lv_at hl 3 rfl) ?_
  refine lw_arg C hl (k0 := 1) (k5 := 6) (n := 1) rfl rfl (by decide) (by decide) hi hL3 hS dL_law_2325 dL_law_2326 dL_law_2328 dL_law_2329 dL_law_2330 ?_
  refine fw_call (va_runV (As := [.int (xs (i + 1))]) (rest := []) ⟨hx, hb, hml, hown, hts⟩ (j_line G hL l τ (x + 614) s g bf hs9 sv ip lt nd td hM' hWG.1.1 (xs (i + 1))) (cwV 1 hts gL_law_X11_line rfl rfl rfl (by decide +kernel) ⟨Nat.le_of_ble_eq_true rfl, Nat.le_of_ble_eq_true rfl⟩) (fw_preV hW hK hR hM'.1 rfl) rfl rfl hl.1 rfl (lv_room (Nat.le_of_ble_eq_true rfl)) dL_law_2331 ⟨by show cells + 3 + 0 ≤ 603072; omega, by show slots + 18 + 0 ≤ 7198826; omega⟩) hS (fun v τ2 H locs hq hR hS => ?_)
  obtain ⟨rfl, ⟨bf2, nd2, td2, hM2⟩, hF2⟩ := hq
  refine W.eq (g2 := F0 mI 2334 ls [.int ((lineM s g lt (xs (i + 1))).1)]) rfl ?_
  refine lv_istore (lv' := (7, .int ((lineM s g lt (xs (i + 1))).1)) :: (6, .int k) :: LV b x i) hx hb dL_law_2334 hl (by decide) rfl (fun ls hl => ?_)
  exact lw_tail C hk hB hM2 (hC'.fr (fun q q1 q2 => hF2 q (by omega))) ((hF2 _ (by omega)).trans ho') ((hF2 _ (by omega)).trans hd9) hR hS hl (by omega) (by omega) dL_law_2336 dL_law_2337 dL_law_2340 dL_law_2342 dL_law_2347 dL_law_2349 dL_law_2352 dL_law_2353 dL_law_2354 dL_law_2355 dL_law_2357 dL_law_2358 dL_law_2359 dL_law_2364 (by decide) (kk τ2)
theorem lc_character {G : FG} {l : Launch} {pP : Program} {eE : Env} {sS : State} {mI : MethodId} {ar9 : Array Value} {bl9 : List Frame} {meth : Method} {cD : Code} {adr : Nat → Nat} {b L : Nat} {xs : Nat → Int32} {Q : State → Prop} (C : LCx G l pP sS mI ar9 cD adr b L xs) {ω : FWd} {x i cells slots : Nat} {H : Heap} {locs : List Loc} {ls : Array Slot} (hi : i + 6 ≤ L) (hL3 : L ≤ 3072) (hI : LI G ω x) (hR : fR G ω H) (hS : va_S (fwA G) sS.heap H locs) (hl : lv_has ls 9 (LV b x i)) (hc : cells + 3 ≤ 603072) (hs : slots + 18 ≤ 7198826)
    (kk : ∀ (τ : FWd) (H : Heap) (locs : List Loc) (ls : Array Slot), LI G τ x → fR G τ H → va_S (fwA G) sS.heap H locs → lv_has ls 9 (LV b x i) → W pP l eE room_1 sS mI ar9 bl9 meth cD H locs (cells + 3) (slots + 18) Q (F0 mI 2711 ls [])) : W pP l eE room_1 sS mI ar9 bl9 meth cD H locs cells slots Q (F0 mI 2367 ls []) := by
  obtain ⟨s, g, hs9, sv, ip, lt, f9, fd, hC, ⟨bf, nd, td, hM⟩, ho, hd⟩ := hI
  obtain ⟨hx, hb, hml, hown, hts, hW, hL, hX0, hN, hFT, hJ, hX, hbl, hbA⟩ := id C
  have hK := hL.K hW
  obtain ⟨hWG, hk3, hk7, hk13, hlt9, v9, hte⟩ := li_f hC
  refine lv_aload_n hx hb dL_law_2367 rfl (lv_at hl 1 rfl) ?_
  refine lw_arg C hl (k0 := 0) (k5 := 5) (n := 1) rfl rfl (by decide) (by decide) hi hL3 hS dL_law_2368 dL_law_2369 dL_law_2371 dL_law_2372 dL_law_2373 ?_
  refine lv_aload_n hx hb dL_law_2374 rfl (lv_at hl 3 rfl) ?_
  refine fx_call (vx_runSX (As := [.ref x, .int (xs (i + 1)), .ref (x + 623)]) (rest := []) ⟨hx, hb, hml, hown, hts⟩ (h_character G hL l hX0 ω x s g hs9 sv ip lt hC (x + 623) f9 ho (Or.inr (by omega)) (xs (i + 1))) (vx_cwSW 3 hts gL_law_L_character rfl rfl rfl (by decide +kernel) ⟨Nat.le_of_ble_eq_true rfl, Nat.le_of_ble_eq_true rfl⟩) (fw_preS hW hR) rfl rfl hl.1 rfl (lv_room (Nat.le_of_ble_eq_true rfl)) dL_law_2375 ⟨by show cells + 1 ≤ 603072; omega, by show slots + 6 ≤ 7198826; omega⟩) hS (fun E ce q9 τ H locs hx_1 hR hS hce hcv hcl => hx_1.elim) (fun v τ H locs hq hR hS => ?_)
  obtain ⟨k, f8, rfl, hk, hB, ho', hC', hF⟩ := hq
  refine W.widen (k := cells + 3) (n := slots + 18) (by omega) (by omega) ?_
  refine W.eq (g2 := F0 mI 2378 ls [.int k]) rfl ?_
  refine lv_istore (lv' := (6, .int k) :: LV b x i) hx hb dL_law_2378 hl (by decide) rfl (fun ls hl => ?_)
  have hM' := hM.fr (τ := τ.2) (fun q q1 q2 => hF q (by omega) (by omega))
  have hd9 := (hF (x + 624) (by omega) (by omega)).trans hd
  refine lv_aload_n hx hb dL_law_2380 rfl (lv_at hl 3 rfl) ?_
  refine lw_arg C hl (k0 := 1) (k5 := 6) (n := 1) rfl rfl (by decide) (by decide) hi hL3 hS dL_law_2381 dL_law_2382 dL_law_2384 dL_law_2385 dL_law_2386 ?_
  refine fw_call (va_runV (As := [.int (xs (i + 1))]) (rest := []) ⟨hx, hb, hml, hown, hts⟩ (j_character G hL l τ (x + 614) s g bf hs9 sv ip lt nd td hM' hk13 (xs (i + 1)) hlt9) (cwV 1 hts gL_law_X11_character rfl rfl rfl (by decide +kernel) ⟨Nat.le_of_ble_eq_true rfl, Nat.le_of_ble_eq_true rfl⟩) (fw_preV hW hK hR hM'.1 rfl) rfl rfl hl.1 rfl (lv_room (Nat.le_of_ble_eq_true rfl)) dL_law_2387 ⟨by show cells + 3 + 0 ≤ 603072; omega, by show slots + 18 + 0 ≤ 7198826; omega⟩) hS (fun v τ2 H locs hq hR hS => ?_)
  obtain ⟨rfl, ⟨bf2, nd2, td2, hM2⟩, hF2⟩ := hq
  refine W.eq (g2 := F0 mI 2390 ls [.int ((charM s g lt (xs (i + 1))).1)]) rfl ?_
  refine lv_istore (lv' := (7, .int ((charM s g lt (xs (i + 1))).1)) :: (6, .int k) :: LV b x i) hx hb dL_law_2390 hl (by decide) rfl (fun ls hl => ?_)
  exact lw_tail C hk hB hM2 (hC'.fr (fun q q1 q2 => hF2 q (by omega))) ((hF2 _ (by omega)).trans ho') ((hF2 _ (by omega)).trans hd9) hR hS hl (by omega) (by omega) dL_law_2392 dL_law_2393 dL_law_2396 dL_law_2398 dL_law_2403 dL_law_2405 dL_law_2408 dL_law_2409 dL_law_2410 dL_law_2411 dL_law_2413 dL_law_2414 dL_law_2415 dL_law_2420 (by decide) (kk τ2)
theorem lc_meanSteps {G : FG} {l : Launch} {pP : Program} {eE : Env} {sS : State} {mI : MethodId} {ar9 : Array Value} {bl9 : List Frame} {meth : Method} {cD : Code} {adr : Nat → Nat} {b L : Nat} {xs : Nat → Int32} {Q : State → Prop} (C : LCx G l pP sS mI ar9 cD adr b L xs) {ω : FWd} {x i cells slots : Nat} {H : Heap} {locs : List Loc} {ls : Array Slot} (hi : i + 6 ≤ L) (hL3 : L ≤ 3072) (hI : LI G ω x) (hR : fR G ω H) (hS : va_S (fwA G) sS.heap H locs) (hl : lv_has ls 9 (LV b x i)) (hc : cells + 3 ≤ 603072) (hs : slots + 18 ≤ 7198826)
    (kk : ∀ (τ : FWd) (H : Heap) (locs : List Loc) (ls : Array Slot), LI G τ x → fR G τ H → va_S (fwA G) sS.heap H locs → lv_has ls 9 (LV b x i) → W pP l eE room_1 sS mI ar9 bl9 meth cD H locs (cells + 3) (slots + 18) Q (F0 mI 2711 ls [])) : W pP l eE room_1 sS mI ar9 bl9 meth cD H locs cells slots Q (F0 mI 2423 ls []) := by
  obtain ⟨s, g, hs9, sv, ip, lt, f9, fd, hC, ⟨bf, nd, td, hM⟩, ho, hd⟩ := hI
  obtain ⟨hx, hb, hml, hown, hts, hW, hL, hX0, hN, hFT, hJ, hX, hbl, hbA⟩ := id C
  have hK := hL.K hW
  obtain ⟨hWG, hk3, hk7, hk13, hlt9, v9, hte⟩ := li_f hC
  refine lv_aload_n hx hb dL_law_2423 rfl (lv_at hl 1 rfl) ?_
  refine lv_aload hx hb dL_law_2424 (lv_at hl 4 rfl) ?_
  refine fx_call (vx_runSX (As := [.ref x, .ref (x + 624)]) (rest := []) ⟨hx, hb, hml, hown, hts⟩ (h_meanSteps G hL l hX0 ω x s g hs9 sv ip lt hC (x + 624) fd hd (Or.inr (by omega)) ) (vx_cwSW 2 hts gL_law_L_meanSteps rfl rfl rfl (by decide +kernel) ⟨Nat.le_of_ble_eq_true rfl, Nat.le_of_ble_eq_true rfl⟩) (fw_preS hW hR) rfl rfl hl.1 rfl (lv_room (Nat.le_of_ble_eq_true rfl)) dL_law_2426 ⟨by show cells + 1 ≤ 603072; omega, by show slots + 6 ≤ 7198826; omega⟩) hS (fun E ce q9 τ H locs hx_1 hR hS hce hcv hcl => hx_1.elim) (fun v τ H locs hq hR hS => ?_)
  obtain ⟨k, f8, rfl, hk, hB, ho', hC', hF⟩ := hq
  refine W.widen (k := cells + 3) (n := slots + 18) (by omega) (by omega) ?_
  refine W.eq (g2 := F0 mI 2429 ls [.int k]) rfl ?_
  refine lv_istore (lv' := (6, .int k) :: LV b x i) hx hb dL_law_2429 hl (by decide) rfl (fun ls hl => ?_)
  have hM' := hM.fr (τ := τ.2) (fun q q1 q2 => hF q (by omega) (by omega))
  have ho9 := (hF (x + 623) (by omega) (by omega)).trans ho
  have hD9 : ¬ g 0 = 0 → vf_n64 (FP.ddiv (FP.i2d (sumaM (upd s 14 0) g 18 8)) (FP.i2d (g 0))) := fun z => by rw [steps_eq hte hWG]; exact mean_nan hte hWG z
  refine lv_aload_n hx hb dL_law_2431 rfl (lv_at hl 3 rfl) ?_
  refine fw_call (va_runV (As := []) (rest := []) ⟨hx, hb, hml, hown, hts⟩ (j_meanSteps G hL l τ (x + 614) s g bf hs9 sv ip lt nd td hM' hWG.1.1 hD9) (cwV 0 hts gL_law_X11_meanSteps rfl rfl rfl (by decide +kernel) ⟨Nat.le_of_ble_eq_true rfl, Nat.le_of_ble_eq_true rfl⟩) (fw_preV hW hK hR hM'.1 rfl) rfl rfl hl.1 rfl (lv_room (Nat.le_of_ble_eq_true rfl)) dL_law_2432 ⟨by show cells + 3 + 0 ≤ 603072; omega, by show slots + 18 + 0 ≤ 7198826; omega⟩) hS (fun v τ2 H locs hq hR hS => ?_)
  obtain ⟨rfl, ⟨bf2, nd2, td2, hM2⟩, hF2⟩ := hq
  refine W.eq (g2 := F0 mI 2435 ls [.double ((meanM s g).1)]) rfl ?_
  refine lv_dstore (lv' := (7, .double ((meanM s g).1)) :: (6, .int k) :: LV b x i) hx hb dL_law_2435 hl (by decide) rfl (fun ls hl => ?_)
  refine lv_aload_n hx hb dL_law_2437 rfl (lv_at hl 4 rfl) ?_
  refine fw_call (va_runV (As := []) (rest := []) ⟨hx, hb, hml, hown, hts⟩ (c_X11_thrown G hL l τ2 (x + 614) _ g hM2.1 hM2.2.1) (cwV 0 hts gL_law_X11_thrown rfl rfl rfl (by decide +kernel) ⟨Nat.le_of_ble_eq_true rfl, Nat.le_of_ble_eq_true rfl⟩) (fw_preV hW hK hR hM2.1 rfl) rfl rfl hl.1 rfl (lv_room (Nat.le_of_ble_eq_true rfl)) dL_law_2438 ⟨by show cells + 3 + 0 + 0 ≤ 603072; omega, by show slots + 18 + 0 + 0 ≤ 7198826; omega⟩) hS (fun v τ3 H locs hq hR hS => ?_)
  obtain ⟨rfl, e9⟩ := hq
  rw [e9] at hR
  refine W.eq (g2 := F0 mI 2441 ls [.int ((meanM s g).2 14)]) rfl ?_
  refine lv_iload hx hb dL_law_2441 (lv_at hl 1 rfl) ?_
  refine lv_icmp_eq (tgt := 2448) hx hb dL_law_2443 (by decide) (fun _ => ?_) (fun z => absurd hk.symm z)
  have fin : ∀ (ls : Array Slot), lv_has ls 9 (LV b x i) → W pP l eE room_1 sS mI ar9 bl9 meth cD H locs (cells + 3) (slots + 18) Q (F0 mI 2485 ls []) := fun ls hl => lv_goto (tgt := 2711) hx hb dL_law_2485 (by decide) (kk τ2 H locs ls ⟨_, _, _, _, _, _, f9, f8, hC'.fr (fun q q1 q2 => hF2 q (by omega)), ⟨bf2, nd2, td2, hM2⟩, (hF2 _ (by omega)).trans ho9, (hF2 _ (by omega)).trans ho'⟩ hR hS hl)
  have hl0 : lv_has ls 9 (LV b x i) := lv_sub hl [2, 3, 4, 5, 6, 7] rfl
  have hf := (hF2 (x + 624) (by omega)).trans ho'
  have hv0 : vp_in 0 1 := by unfold vp_in; decide
  refine lv_iload hx hb dL_law_2448 (lv_at hl 1 rfl) ?_
  refine lv_if_ne (tgt := 2485) hx hb dL_law_2450 (by decide) (fun _ => fin ls hl0) (fun c2 => ?_)
  refine lv_aload hx hb dL_law_2453 (lv_at hl 6 rfl) ?_
  refine lv_iconst (v := 0) hx hb dL_law_2455 (by decide) ?_
  refine fw_dald hx hb hK hR hf hv0 dL_law_2456 ?_
  refine W.eq (g2 := F0 mI 2457 ls [.double ((meanM s g).1)]) (by rw [show f8 (0 : Int32).toNatClampNeg = (meanM s g).1 from hB c2]) ?_
  refine lv_dload hx hb dL_law_2457 (lv_at hl 0 rfl) ?_
  refine lv_dcmp hx hb dL_law_2459 ?_
  refine lv_if_eq (tgt := 2485) hx hb dL_law_2460 (by decide) (fun _ => fin ls hl0) (fun c3 => ?_)
  refine lv_aload hx hb dL_law_2463 (lv_at hl 6 rfl) ?_
  refine lv_iconst (v := 0) hx hb dL_law_2465 (by decide) ?_
  refine fw_dald hx hb hK hR hf hv0 dL_law_2466 ?_
  refine lv_aload hx hb dL_law_2467 (lv_at hl 6 rfl) ?_
  refine lv_iconst (v := 0) hx hb dL_law_2469 (by decide) ?_
  refine fw_dald hx hb hK hR hf hv0 dL_law_2470 ?_
  refine W.eq (g2 := F0 mI 2471 ls [.double ((meanM s g).1), .double ((meanM s g).1)]) (by rw [show f8 (0 : Int32).toNatClampNeg = (meanM s g).1 from hB c2]) ?_
  refine lv_dcmp hx hb dL_law_2471 ?_
  refine lv_if_eq (tgt := 2483) hx hb dL_law_2472 (by decide) (fun z => absurd z c3) (fun _ => ?_)
  refine lv_dload hx hb dL_law_2475 (lv_at hl 0 rfl) ?_
  refine lv_dload hx hb dL_law_2477 (lv_at hl 0 rfl) ?_
  refine lv_dcmp hx hb dL_law_2479 ?_
  exact lv_if_ne (tgt := 2485) hx hb dL_law_2480 (by decide) (fun _ => fin ls hl0) (fun z => absurd z c3)
theorem lc_skippedShare {G : FG} {l : Launch} {pP : Program} {eE : Env} {sS : State} {mI : MethodId} {ar9 : Array Value} {bl9 : List Frame} {meth : Method} {cD : Code} {adr : Nat → Nat} {b L : Nat} {xs : Nat → Int32} {Q : State → Prop} (C : LCx G l pP sS mI ar9 cD adr b L xs) {ω : FWd} {x i cells slots : Nat} {H : Heap} {locs : List Loc} {ls : Array Slot} (hi : i + 6 ≤ L) (hL3 : L ≤ 3072) (hI : LI G ω x) (hR : fR G ω H) (hS : va_S (fwA G) sS.heap H locs) (hl : lv_has ls 9 (LV b x i)) (hc : cells + 3 ≤ 603072) (hs : slots + 18 ≤ 7198826)
    (kk : ∀ (τ : FWd) (H : Heap) (locs : List Loc) (ls : Array Slot), LI G τ x → fR G τ H → va_S (fwA G) sS.heap H locs → lv_has ls 9 (LV b x i) → W pP l eE room_1 sS mI ar9 bl9 meth cD H locs (cells + 3) (slots + 18) Q (F0 mI 2711 ls [])) : W pP l eE room_1 sS mI ar9 bl9 meth cD H locs cells slots Q (F0 mI 2488 ls []) := by
  obtain ⟨s, g, hs9, sv, ip, lt, f9, fd, hC, ⟨bf, nd, td, hM⟩, ho, hd⟩ := hI
  obtain ⟨hx, hb, hml, hown, hts, hW, hL, hX0, hN, hFT, hJ, hX, hbl, hbA⟩ := id C
  have hK := hL.K hW
  obtain ⟨hWG, hk3, hk7, hk13, hlt9, v9, hte⟩ := li_f hC
  refine lv_aload_n hx hb dL_law_2488 rfl (lv_at hl 1 rfl) ?_
  refine lv_aload hx hb dL_law_2489 (lv_at hl 4 rfl) ?_
  refine fx_call (vx_runSX (As := [.ref x, .ref (x + 624)]) (rest := []) ⟨hx, hb, hml, hown, hts⟩ (h_skippedShare G hL l hX0 ω x s g hs9 sv ip lt hC (x + 624) fd hd (Or.inr (by omega)) ) (vx_cwSW 2 hts gL_law_L_skippedShare rfl rfl rfl (by decide +kernel) ⟨Nat.le_of_ble_eq_true rfl, Nat.le_of_ble_eq_true rfl⟩) (fw_preS hW hR) rfl rfl hl.1 rfl (lv_room (Nat.le_of_ble_eq_true rfl)) dL_law_2491 ⟨by show cells + 1 ≤ 603072; omega, by show slots + 6 ≤ 7198826; omega⟩) hS (fun E ce q9 τ H locs hx_1 hR hS hce hcv hcl => hx_1.elim) (fun v τ H locs hq hR hS => ?_)
  obtain ⟨k, f8, rfl, hk, hB, ho', hC', hF⟩ := hq
  refine W.widen (k := cells + 3) (n := slots + 18) (by omega) (by omega) ?_
  refine W.eq (g2 := F0 mI 2494 ls [.int k]) rfl ?_
  refine lv_istore (lv' := (6, .int k) :: LV b x i) hx hb dL_law_2494 hl (by decide) rfl (fun ls hl => ?_)
  have hM' := hM.fr (τ := τ.2) (fun q q1 q2 => hF q (by omega) (by omega))
  have ho9 := (hF (x + 623) (by omega) (by omega)).trans ho
  have hD9 : ¬ (shareL s g (cN (g 0))).1 = 0 → vf_n32 (FP.fdiv (FP.i2f (shareL s g (cN (g 0))).2) (FP.i2f (shareL s g (cN (g 0))).1)) := fun z => by
    obtain ⟨⟨a, ha, e1⟩, b9, hb9, e2⟩ := share_nn hte hWG
    rw [share_eq hte hWG] at z ⊢
    dsimp only at z ⊢
    rw [e1] at z ⊢
    rw [e2]
    exact ff_ok b9 hb9 a ha (fun y => z (by rw [y]; rfl))
  refine lv_aload_n hx hb dL_law_2496 rfl (lv_at hl 3 rfl) ?_
  refine fw_call (va_runV (As := []) (rest := []) ⟨hx, hb, hml, hown, hts⟩ (j_skippedShare G hL l τ (x + 614) s g bf hs9 sv ip lt nd td hM' hWG.1.1 hD9) (cwV 0 hts gL_law_X11_skippedShare rfl rfl rfl (by decide +kernel) ⟨Nat.le_of_ble_eq_true rfl, Nat.le_of_ble_eq_true rfl⟩) (fw_preV hW hK hR hM'.1 rfl) rfl rfl hl.1 rfl (lv_room (Nat.le_of_ble_eq_true rfl)) dL_law_2497 ⟨by show cells + 3 + 0 ≤ 603072; omega, by show slots + 18 + 0 ≤ 7198826; omega⟩) hS (fun v τ2 H locs hq hR hS => ?_)
  obtain ⟨rfl, ⟨bf2, nd2, td2, hM2⟩, hF2⟩ := hq
  refine W.eq (g2 := F0 mI 2500 ls [.float ((shareM s g).1)]) rfl ?_
  refine lv_fstore (lv' := (7, .float ((shareM s g).1)) :: (6, .int k) :: LV b x i) hx hb dL_law_2500 hl (by decide) rfl (fun ls hl => ?_)
  refine lv_aload_n hx hb dL_law_2502 rfl (lv_at hl 4 rfl) ?_
  refine fw_call (va_runV (As := []) (rest := []) ⟨hx, hb, hml, hown, hts⟩ (c_X11_thrown G hL l τ2 (x + 614) _ g hM2.1 hM2.2.1) (cwV 0 hts gL_law_X11_thrown rfl rfl rfl (by decide +kernel) ⟨Nat.le_of_ble_eq_true rfl, Nat.le_of_ble_eq_true rfl⟩) (fw_preV hW hK hR hM2.1 rfl) rfl rfl hl.1 rfl (lv_room (Nat.le_of_ble_eq_true rfl)) dL_law_2503 ⟨by show cells + 3 + 0 + 0 ≤ 603072; omega, by show slots + 18 + 0 + 0 ≤ 7198826; omega⟩) hS (fun v τ3 H locs hq hR hS => ?_)
  obtain ⟨rfl, e9⟩ := hq
  rw [e9] at hR
  refine W.eq (g2 := F0 mI 2506 ls [.int ((shareM s g).2 14)]) rfl ?_
  refine lv_iload hx hb dL_law_2506 (lv_at hl 1 rfl) ?_
  refine lv_icmp_eq (tgt := 2513) hx hb dL_law_2508 (by decide) (fun _ => ?_) (fun z => absurd hk.symm z)
  have fin : ∀ (ls : Array Slot), lv_has ls 9 (LV b x i) → W pP l eE room_1 sS mI ar9 bl9 meth cD H locs (cells + 3) (slots + 18) Q (F0 mI 2551 ls []) := fun ls hl => lv_goto (tgt := 2711) hx hb dL_law_2551 (by decide) (kk τ2 H locs ls ⟨_, _, _, _, _, _, f9, f8, hC'.fr (fun q q1 q2 => hF2 q (by omega)), ⟨bf2, nd2, td2, hM2⟩, (hF2 _ (by omega)).trans ho9, (hF2 _ (by omega)).trans ho'⟩ hR hS hl)
  have hl0 : lv_has ls 9 (LV b x i) := lv_sub hl [2, 3, 4, 5, 6, 7] rfl
  have hf := (hF2 (x + 624) (by omega)).trans ho'
  have hv0 : vp_in 0 1 := by unfold vp_in; decide
  refine lv_iload hx hb dL_law_2513 (lv_at hl 1 rfl) ?_
  refine lv_if_ne (tgt := 2551) hx hb dL_law_2515 (by decide) (fun _ => fin ls hl0) (fun c2 => ?_)
  refine lv_aload hx hb dL_law_2518 (lv_at hl 6 rfl) ?_
  refine lv_iconst (v := 0) hx hb dL_law_2520 (by decide) ?_
  refine fw_dald hx hb hK hR hf hv0 dL_law_2521 ?_
  have k0 : (shareM s g).2 14 = 0 := hk.symm.trans c2
  obtain ⟨hn9, a9, b9, ha9, hb9, hb0, e9⟩ := share_f2d hte hWG k0
  refine W.eq (g2 := F0 mI 2522 ls [.double (FP.f2d (shareM s g).1)]) (by rw [show f8 (0 : Int32).toNatClampNeg = FP.f2d (shareM s g).1 from hB c2]) ?_
  refine lv_fload hx hb dL_law_2522 (lv_at hl 0 rfl) ?_
  refine lv_f2d hx hb dL_law_2524 hn9 ?_
  refine lv_dcmp hx hb dL_law_2525 ?_
  exact lv_if_eq (tgt := 2551) hx hb dL_law_2526 (by decide) (fun _ => fin ls hl0) (fun c3 => absurd (by rw [e9]; exact f2d_same a9 ha9 b9 hb9 hb0) c3)
theorem lc_account {G : FG} {l : Launch} {pP : Program} {eE : Env} {sS : State} {mI : MethodId} {ar9 : Array Value} {bl9 : List Frame} {meth : Method} {cD : Code} {adr : Nat → Nat} {b L : Nat} {xs : Nat → Int32} {Q : State → Prop} (C : LCx G l pP sS mI ar9 cD adr b L xs) {ω : FWd} {x i cells slots : Nat} {H : Heap} {locs : List Loc} {ls : Array Slot} (hi : i + 6 ≤ L) (hL3 : L ≤ 3072) (hI : LI G ω x) (hR : fR G ω H) (hS : va_S (fwA G) sS.heap H locs) (hl : lv_has ls 9 (LV b x i)) (hc : cells + 3 ≤ 603072) (hs : slots + 18 ≤ 7198826)
    (kk : ∀ (τ : FWd) (H : Heap) (locs : List Loc) (ls : Array Slot), LI G τ x → fR G τ H → va_S (fwA G) sS.heap H locs → lv_has ls 9 (LV b x i) → W pP l eE room_1 sS mI ar9 bl9 meth cD H locs (cells + 3) (slots + 18) Q (F0 mI 2711 ls [])) : W pP l eE room_1 sS mI ar9 bl9 meth cD H locs cells slots Q (F0 mI 2554 ls []) := by
  obtain ⟨s, g, hs9, sv, ip, lt, f9, fd, hC, ⟨bf, nd, td, hM⟩, ho, hd⟩ := hI
  obtain ⟨hx, hb, hml, hown, hts, hW, hL, hX0, hN, hFT, hJ, hX, hbl, hbA⟩ := id C
  have hK := hL.K hW
  obtain ⟨hWG, hk3, hk7, hk13, hlt9, v9, hte⟩ := li_f hC
  refine lv_aload_n hx hb dL_law_2554 rfl (lv_at hl 1 rfl) ?_
  refine lw_arg C hl (k0 := 0) (k5 := 5) (n := 1) rfl rfl (by decide) (by decide) hi hL3 hS dL_law_2555 dL_law_2556 dL_law_2558 dL_law_2559 dL_law_2560 ?_
  refine lv_aload_n hx hb dL_law_2561 rfl (lv_at hl 3 rfl) ?_
  refine fx_call (vx_runSX (As := [.ref x, .int (xs (i + 1)), .ref (x + 623)]) (rest := []) ⟨hx, hb, hml, hown, hts⟩ (h_account G hL l hX0 ω x s g hs9 sv ip lt hC (x + 623) f9 ho (Or.inr (by omega)) (xs (i + 1))) (vx_cwSW 3 hts gL_law_L_account rfl rfl rfl (by decide +kernel) ⟨Nat.le_of_ble_eq_true rfl, Nat.le_of_ble_eq_true rfl⟩) (fw_preS hW hR) rfl rfl hl.1 rfl (lv_room (Nat.le_of_ble_eq_true rfl)) dL_law_2562 ⟨by show cells + 1 ≤ 603072; omega, by show slots + 6 ≤ 7198826; omega⟩) hS (fun E ce q9 τ H locs hx_1 hR hS hce hcv hcl => hx_1.elim) (fun v τ H locs hq hR hS => ?_)
  obtain ⟨k, f8, rfl, hk, hB, ho', hC', hF⟩ := hq
  refine W.widen (k := cells + 3) (n := slots + 18) (by omega) (by omega) ?_
  refine W.eq (g2 := F0 mI 2565 ls [.int k]) rfl ?_
  refine lv_istore (lv' := (6, .int k) :: LV b x i) hx hb dL_law_2565 hl (by decide) rfl (fun ls hl => ?_)
  have hM' := hM.fr (τ := τ.2) (fun q q1 q2 => hF q (by omega) (by omega))
  have hd9 := (hF (x + 624) (by omega) (by omega)).trans hd
  refine lv_aload_n hx hb dL_law_2567 rfl (lv_at hl 3 rfl) ?_
  refine lw_arg C hl (k0 := 1) (k5 := 6) (n := 1) rfl rfl (by decide) (by decide) hi hL3 hS dL_law_2568 dL_law_2569 dL_law_2571 dL_law_2572 dL_law_2573 ?_
  refine fw_call (va_runV (As := [.int (xs (i + 1))]) (rest := []) ⟨hx, hb, hml, hown, hts⟩ (j_account G hL l τ (x + 614) s g bf hs9 sv ip lt nd td hM' hWG.1.1 (xs (i + 1))) (cwV 1 hts gL_law_X11_account rfl rfl rfl (by decide +kernel) ⟨Nat.le_of_ble_eq_true rfl, Nat.le_of_ble_eq_true rfl⟩) (fw_preV hW hK hR hM'.1 rfl) rfl rfl hl.1 rfl (lv_room (Nat.le_of_ble_eq_true rfl)) dL_law_2574 ⟨by show cells + 3 + 0 ≤ 603072; omega, by show slots + 18 + 0 ≤ 7198826; omega⟩) hS (fun v τ2 H locs hq hR hS => ?_)
  obtain ⟨rfl, ⟨bf2, nd2, td2, hM2⟩, hF2⟩ := hq
  refine W.eq (g2 := F0 mI 2577 ls [.int ((accM s g (xs (i + 1))).1)]) rfl ?_
  refine lv_istore (lv' := (7, .int ((accM s g (xs (i + 1))).1)) :: (6, .int k) :: LV b x i) hx hb dL_law_2577 hl (by decide) rfl (fun ls hl => ?_)
  exact lw_tail C hk hB hM2 (hC'.fr (fun q q1 q2 => hF2 q (by omega))) ((hF2 _ (by omega)).trans ho') ((hF2 _ (by omega)).trans hd9) hR hS hl (by omega) (by omega) dL_law_2579 dL_law_2580 dL_law_2583 dL_law_2585 dL_law_2590 dL_law_2592 dL_law_2595 dL_law_2596 dL_law_2597 dL_law_2598 dL_law_2600 dL_law_2601 dL_law_2602 dL_law_2607 (by decide) (kk τ2)
theorem lc_undo {G : FG} {l : Launch} {pP : Program} {eE : Env} {sS : State} {mI : MethodId} {ar9 : Array Value} {bl9 : List Frame} {meth : Method} {cD : Code} {adr : Nat → Nat} {b L : Nat} {xs : Nat → Int32} {Q : State → Prop} (C : LCx G l pP sS mI ar9 cD adr b L xs) {ω : FWd} {x i cells slots : Nat} {H : Heap} {locs : List Loc} {ls : Array Slot} (hi : i + 6 ≤ L) (hL3 : L ≤ 3072) (hI : LI G ω x) (hR : fR G ω H) (hS : va_S (fwA G) sS.heap H locs) (hl : lv_has ls 9 (LV b x i)) (hc : cells + 3 ≤ 603072) (hs : slots + 18 ≤ 7198826)
    (kk : ∀ (τ : FWd) (H : Heap) (locs : List Loc) (ls : Array Slot), LI G τ x → fR G τ H → va_S (fwA G) sS.heap H locs → lv_has ls 9 (LV b x i) → W pP l eE room_1 sS mI ar9 bl9 meth cD H locs (cells + 3) (slots + 18) Q (F0 mI 2711 ls [])) : W pP l eE room_1 sS mI ar9 bl9 meth cD H locs cells slots Q (F0 mI 2610 ls []) := by
  obtain ⟨s, g, hs9, sv, ip, lt, f9, fd, hC, ⟨bf, nd, td, hM⟩, ho, hd⟩ := hI
  obtain ⟨hx, hb, hml, hown, hts, hW, hL, hX0, hN, hFT, hJ, hX, hbl, hbA⟩ := id C
  have hK := hL.K hW
  obtain ⟨hWG, hk3, hk7, hk13, hlt9, v9, hte⟩ := li_f hC
  refine lv_aload_n hx hb dL_law_2610 rfl (lv_at hl 1 rfl) ?_
  refine lv_aload_n hx hb dL_law_2611 rfl (lv_at hl 3 rfl) ?_
  refine fx_call (vx_runSX (As := [.ref x, .ref (x + 623)]) (rest := []) ⟨hx, hb, hml, hown, hts⟩ (h_undo G hL l hX0 ω x s g hs9 sv ip lt hC (x + 623) f9 ho (Or.inr (by omega)) ) (vx_cwSW 2 hts gL_law_L_undo rfl rfl rfl (by decide +kernel) ⟨Nat.le_of_ble_eq_true rfl, Nat.le_of_ble_eq_true rfl⟩) (fw_preS hW hR) rfl rfl hl.1 rfl (lv_room (Nat.le_of_ble_eq_true rfl)) dL_law_2612 ⟨by show cells + 1 ≤ 603072; omega, by show slots + 6 ≤ 7198826; omega⟩) hS (fun E ce q9 τ H locs hx_1 hR hS hce hcv hcl => hx_1.elim) (fun v τ H locs hq hR hS => ?_)
  obtain ⟨k, f8, rfl, hk, hB, ho', hC', hF⟩ := hq
  refine W.widen (k := cells + 3) (n := slots + 18) (by omega) (by omega) ?_
  refine W.eq (g2 := F0 mI 2615 ls [.int k]) rfl ?_
  refine lv_istore (lv' := (6, .int k) :: LV b x i) hx hb dL_law_2615 hl (by decide) rfl (fun ls hl => ?_)
  have hM' := hM.fr (τ := τ.2) (fun q q1 q2 => hF q (by omega) (by omega))
  have hd9 := (hF (x + 624) (by omega) (by omega)).trans hd
  refine lv_aload_n hx hb dL_law_2617 rfl (lv_at hl 3 rfl) ?_
  refine fw_call (va_runV (As := []) (rest := []) ⟨hx, hb, hml, hown, hts⟩ (j_undo G hL l τ (x + 614) s g bf hs9 sv ip lt nd td hM' hk3) (cwV 0 hts gL_law_X11_undo rfl rfl rfl (by decide +kernel) ⟨Nat.le_of_ble_eq_true rfl, Nat.le_of_ble_eq_true rfl⟩) (fw_preV hW hK hR hM'.1 rfl) rfl rfl hl.1 rfl (lv_room (Nat.le_of_ble_eq_true rfl)) dL_law_2618 ⟨by show cells + 3 + 0 ≤ 603072; omega, by show slots + 18 + 0 ≤ 7198826; omega⟩) hS (fun v τ2 H locs hq hR hS => ?_)
  obtain ⟨rfl, ⟨bf2, nd2, td2, hM2⟩, hF2⟩ := hq
  refine W.eq (g2 := F0 mI 2621 ls [.int ((undoM s g hs9).1)]) rfl ?_
  refine lv_istore (lv' := (7, .int ((undoM s g hs9).1)) :: (6, .int k) :: LV b x i) hx hb dL_law_2621 hl (by decide) rfl (fun ls hl => ?_)
  exact lw_tail C hk hB hM2 (hC'.fr (fun q q1 q2 => hF2 q (by omega))) ((hF2 _ (by omega)).trans ho') ((hF2 _ (by omega)).trans hd9) hR hS hl (by omega) (by omega) dL_law_2623 dL_law_2624 dL_law_2627 dL_law_2629 dL_law_2634 dL_law_2636 dL_law_2639 dL_law_2640 dL_law_2641 dL_law_2642 dL_law_2644 dL_law_2645 dL_law_2646 dL_law_2651 (by decide) (kk τ2)
theorem lc_save {G : FG} {l : Launch} {pP : Program} {eE : Env} {sS : State} {mI : MethodId} {ar9 : Array Value} {bl9 : List Frame} {meth : Method} {cD : Code} {adr : Nat → Nat} {b L : Nat} {xs : Nat → Int32} {Q : State → Prop} (C : LCx G l pP sS mI ar9 cD adr b L xs) {ω : FWd} {x i cells slots : Nat} {H : Heap} {locs : List Loc} {ls : Array Slot} (hi : i + 6 ≤ L) (hL3 : L ≤ 3072) (hI : LI G ω x) (hR : fR G ω H) (hS : va_S (fwA G) sS.heap H locs) (hl : lv_has ls 9 (LV b x i)) (hc : cells + 3 ≤ 603072) (hs : slots + 18 ≤ 7198826)
    (kk : ∀ (τ : FWd) (H : Heap) (locs : List Loc) (ls : Array Slot), LI G τ x → fR G τ H → va_S (fwA G) sS.heap H locs → lv_has ls 9 (LV b x i) → W pP l eE room_1 sS mI ar9 bl9 meth cD H locs (cells + 3) (slots + 18) Q (F0 mI 2711 ls [])) : W pP l eE room_1 sS mI ar9 bl9 meth cD H locs cells slots Q (F0 mI 2654 ls []) := by
  obtain ⟨s, g, hs9, sv, ip, lt, f9, fd, hC, ⟨bf, nd, td, hM⟩, ho, hd⟩ := hI
  obtain ⟨hx, hb, hml, hown, hts, hW, hL, hX0, hN, hFT, hJ, hX, hbl, hbA⟩ := id C
  have hK := hL.K hW
  obtain ⟨hWG, hk3, hk7, hk13, hlt9, v9, hte⟩ := li_f hC
  refine lv_aload_n hx hb dL_law_2654 rfl (lv_at hl 1 rfl) ?_
  refine fw_call (va_runV (As := []) (rest := []) ⟨hx, hb, hml, hown, hts⟩ (i_save G hL l ω x s g hs9 sv ip lt hC) (cwV 0 hts gL_law_X10_save rfl rfl rfl (by decide +kernel) ⟨Nat.le_of_ble_eq_true rfl, Nat.le_of_ble_eq_true rfl⟩) (fw_preV hW hK hR hC.1.1 rfl) rfl rfl hl.1 rfl (lv_room (Nat.le_of_ble_eq_true rfl)) dL_law_2655 ⟨by show cells + 0 ≤ 603072; omega, by show slots + 0 ≤ 7198826; omega⟩) hS (fun v τ H locs hq hR hS => ?_)
  obtain ⟨rfl, -, hC', hF⟩ := hq
  refine W.eq (g2 := F0 mI 2658 ls [.int (saveM s g sv).1]) rfl ?_
  have hM' := hM.fr (τ := τ.2) (fun q q1 q2 => hF q (by omega))
  refine lv_aload_n hx hb dL_law_2658 rfl (lv_at hl 2 rfl) ?_
  refine fw_call (va_runV (As := []) (rest := [.int (saveM s g sv).1]) ⟨hx, hb, hml, hown, hts⟩ (j_save G hL l τ (x + 614) s g bf hs9 sv ip lt nd td hM' hWG.1.1) (cwV 0 hts gL_law_X11_save rfl rfl rfl (by decide +kernel) ⟨Nat.le_of_ble_eq_true rfl, Nat.le_of_ble_eq_true rfl⟩) (fw_preV hW hK hR hM'.1 rfl) rfl rfl hl.1 rfl (lv_room (Nat.le_of_ble_eq_true rfl)) dL_law_2659 ⟨by show cells + 0 + 0 ≤ 603072; omega, by show slots + 0 + 0 ≤ 7198826; omega⟩) hS (fun v τ2 H locs hq hR hS => ?_)
  obtain ⟨rfl, ⟨bf2, nd2, td2, hM2⟩, hF2⟩ := hq
  refine W.eq (g2 := F0 mI 2662 ls [.int ((saveM s g sv).1), .int (saveM s g sv).1]) rfl ?_
  refine lv_icmp_eq (tgt := 2711) hx hb dL_law_2662 (by decide) (fun _ => ?_) (fun z => absurd rfl z)
  refine W.widen (k := cells + 3) (n := slots + 18) (by omega) (by omega) ?_
  exact kk τ2 H locs ls ⟨_, _, _, _, _, _, f9, fd, hC'.fr (fun q q1 q2 => hF2 q (by omega)), ⟨bf2, nd2, td2, hM2⟩, (hF2 _ (by omega)).trans ((hF _ (by omega)).trans ho), (hF2 _ (by omega)).trans ((hF _ (by omega)).trans hd)⟩ hR hS hl
theorem lc_restore {G : FG} {l : Launch} {pP : Program} {eE : Env} {sS : State} {mI : MethodId} {ar9 : Array Value} {bl9 : List Frame} {meth : Method} {cD : Code} {adr : Nat → Nat} {b L : Nat} {xs : Nat → Int32} {Q : State → Prop} (C : LCx G l pP sS mI ar9 cD adr b L xs) {ω : FWd} {x i cells slots : Nat} {H : Heap} {locs : List Loc} {ls : Array Slot} (hi : i + 6 ≤ L) (hL3 : L ≤ 3072) (hI : LI G ω x) (hR : fR G ω H) (hS : va_S (fwA G) sS.heap H locs) (hl : lv_has ls 9 (LV b x i)) (hc : cells + 3 ≤ 603072) (hs : slots + 18 ≤ 7198826)
    (kk : ∀ (τ : FWd) (H : Heap) (locs : List Loc) (ls : Array Slot), LI G τ x → fR G τ H → va_S (fwA G) sS.heap H locs → lv_has ls 9 (LV b x i) → W pP l eE room_1 sS mI ar9 bl9 meth cD H locs (cells + 3) (slots + 18) Q (F0 mI 2711 ls [])) : W pP l eE room_1 sS mI ar9 bl9 meth cD H locs cells slots Q (F0 mI 2667 ls []) := by
  obtain ⟨s, g, hs9, sv, ip, lt, f9, fd, hC, ⟨bf, nd, td, hM⟩, ho, hd⟩ := hI
  obtain ⟨hx, hb, hml, hown, hts, hW, hL, hX0, hN, hFT, hJ, hX, hbl, hbA⟩ := id C
  have hK := hL.K hW
  obtain ⟨hWG, hk3, hk7, hk13, hlt9, v9, hte⟩ := li_f hC
  refine lv_aload_n hx hb dL_law_2667 rfl (lv_at hl 1 rfl) ?_
  refine lv_aload_n hx hb dL_law_2668 rfl (lv_at hl 3 rfl) ?_
  refine fx_call (vx_runSX (As := [.ref x, .ref (x + 623)]) (rest := []) ⟨hx, hb, hml, hown, hts⟩ (h_restore G hL l hX0 ω x s g hs9 sv ip lt hC (x + 623) f9 ho (Or.inr (by omega)) ) (vx_cwSW 2 hts gL_law_L_restore rfl rfl rfl (by decide +kernel) ⟨Nat.le_of_ble_eq_true rfl, Nat.le_of_ble_eq_true rfl⟩) (fw_preS hW hR) rfl rfl hl.1 rfl (lv_room (Nat.le_of_ble_eq_true rfl)) dL_law_2669 ⟨by show cells + 1 ≤ 603072; omega, by show slots + 6 ≤ 7198826; omega⟩) hS (fun E ce q9 τ H locs hx_1 hR hS hce hcv hcl => hx_1.elim) (fun v τ H locs hq hR hS => ?_)
  obtain ⟨k, f8, rfl, hk, hB, ho', hC', hF⟩ := hq
  refine W.widen (k := cells + 3) (n := slots + 18) (by omega) (by omega) ?_
  refine W.eq (g2 := F0 mI 2672 ls [.int k]) rfl ?_
  refine lv_istore (lv' := (6, .int k) :: LV b x i) hx hb dL_law_2672 hl (by decide) rfl (fun ls hl => ?_)
  have hM' := hM.fr (τ := τ.2) (fun q q1 q2 => hF q (by omega) (by omega))
  have hd9 := (hF (x + 624) (by omega) (by omega)).trans hd
  refine lv_aload_n hx hb dL_law_2674 rfl (lv_at hl 3 rfl) ?_
  refine fw_call (va_runV (As := []) (rest := []) ⟨hx, hb, hml, hown, hts⟩ (j_restore G hL l τ (x + 614) s g bf hs9 sv ip lt nd td hM' hWG.1.1) (cwV 0 hts gL_law_X11_restore rfl rfl rfl (by decide +kernel) ⟨Nat.le_of_ble_eq_true rfl, Nat.le_of_ble_eq_true rfl⟩) (fw_preV hW hK hR hM'.1 rfl) rfl rfl hl.1 rfl (lv_room (Nat.le_of_ble_eq_true rfl)) dL_law_2675 ⟨by show cells + 3 + 0 ≤ 603072; omega, by show slots + 18 + 0 ≤ 7198826; omega⟩) hS (fun v τ2 H locs hq hR hS => ?_)
  obtain ⟨rfl, ⟨bf2, nd2, td2, hM2⟩, hF2⟩ := hq
  refine W.eq (g2 := F0 mI 2678 ls [.int ((restM s g sv).1)]) rfl ?_
  refine lv_istore (lv' := (7, .int ((restM s g sv).1)) :: (6, .int k) :: LV b x i) hx hb dL_law_2678 hl (by decide) rfl (fun ls hl => ?_)
  exact lw_tail C hk hB hM2 (hC'.fr (fun q q1 q2 => hF2 q (by omega))) ((hF2 _ (by omega)).trans ho') ((hF2 _ (by omega)).trans hd9) hR hS hl (by omega) (by omega) dL_law_2680 dL_law_2681 dL_law_2684 dL_law_2686 dL_law_2691 dL_law_2693 dL_law_2696 dL_law_2697 dL_law_2698 dL_law_2699 dL_law_2701 dL_law_2702 dL_law_2703 dL_law_2708 (by decide) (kk τ2)
