/-! ===== printed by program (wip/whole/gen/lay_law.py cases): the law, call by call ===== -/
theorem lc_cousinOf {G : FG} {l : Launch} {pP : Program} {eE : Env} {sS : State} {mI : MethodId} {ar9 : Array Value} {bl9 : List Frame} {meth : Method} {cD : Code} {adr : Nat → Nat} {b L : Nat} {xs : Nat → Int32} {Q : State → Prop} (C : LCx G l pP sS mI ar9 cD adr b L xs) {ω : FWd} {x i cells slots : Nat} {H : Heap} {locs : List Loc} {ls : Array Slot} (hi : i + 6 ≤ L) (hL3 : L ≤ 3072) (hI : LI G ω x) (hR : fR G ω H) (hS : va_S (fwA G) sS.heap H locs) (hl : lv_has ls 9 (LV b x i)) (hc : cells + 3 ≤ 603072) (hs : slots + 18 ≤ 7198826)
    (kk : ∀ (τ : FWd) (H : Heap) (locs : List Loc) (ls : Array Slot), LI G τ x → fR G τ H → va_S (fwA G) sS.heap H locs → lv_has ls 9 (LV b x i) → W pP l eE room_1 sS mI ar9 bl9 meth cD H locs (cells + 3) (slots + 18) Q (F0 mI 2711 ls [])) : W pP l eE room_1 sS mI ar9 bl9 meth cD H locs cells slots Q (F0 mI 1192 ls []) := by
  obtain ⟨s, g, hs9, sv, ip, lt, f9, fd, hC, ⟨bf, nd, td, hM⟩, ho, hd⟩ := hI
  obtain ⟨hx, hb, hml, hown, hts, hW, hL, hX0, hN, hFT, hJ, hX, hbl, hbA⟩ := id C
  have hK := hL.K hW
  obtain ⟨hWG, hk3, hk7, hk13, hlt9, v9, hte⟩ := li_f hC
  refine lv_aload_n hx hb dL_law_1192 rfl (lv_at hl 1 rfl) ?_
  refine lw_arg C hl (k0 := 0) (k5 := 5) (n := 1) rfl rfl (by decide) (by decide) hi hL3 hS dL_law_1193 dL_law_1194 dL_law_1196 dL_law_1197 dL_law_1198 ?_
  refine lw_arg C hl (k0 := 0) (k5 := 5) (n := 2) rfl rfl (by decide) (by decide) hi hL3 hS dL_law_1199 dL_law_1200 dL_law_1202 dL_law_1203 dL_law_1204 ?_
  refine lv_aload_n hx hb dL_law_1205 rfl (lv_at hl 3 rfl) ?_
  refine fx_call (vx_runSX (As := [.ref x, .int (xs (i + 1)), .int (xs (i + 2)), .ref (x + 623)]) (rest := []) ⟨hx, hb, hml, hown, hts⟩ (h_cousinOf G hL l hX0 hN ω x s g hs9 sv ip lt hC (x + 623) f9 ho (Or.inr (by omega)) (xs (i + 1)) (xs (i + 2))) (vx_cwSW 4 hts gL_law_L_cousinOf rfl rfl rfl (by decide +kernel) ⟨Nat.le_of_ble_eq_true rfl, Nat.le_of_ble_eq_true rfl⟩) (fw_preS hW hR) rfl rfl hl.1 rfl (lv_room (Nat.le_of_ble_eq_true rfl)) dL_law_1206 ⟨by show cells + 2 ≤ 603072; omega, by show slots + 12 ≤ 7198826; omega⟩) hS (fun E ce q9 τ H locs hx_1 hR hS hce hcv hcl => hx_1.elim) (fun v τ H locs hq hR hS => ?_)
  obtain ⟨k, f8, rfl, hk, hB, ho', hC', hF⟩ := hq
  refine W.widen (k := cells + 3) (n := slots + 18) (by omega) (by omega) ?_
  refine W.eq (g2 := F0 mI 1209 ls [.int k]) rfl ?_
  refine lv_istore (lv' := (6, .int k) :: LV b x i) hx hb dL_law_1209 hl (by decide) rfl (fun ls hl => ?_)
  have hM' := hM.fr (τ := τ.2) (fun q q1 q2 => hF q (by omega) (by omega))
  have hd9 := (hF (x + 624) (by omega) (by omega)).trans hd
  refine lv_aload_n hx hb dL_law_1211 rfl (lv_at hl 3 rfl) ?_
  refine lw_arg C hl (k0 := 1) (k5 := 6) (n := 1) rfl rfl (by decide) (by decide) hi hL3 hS dL_law_1212 dL_law_1213 dL_law_1215 dL_law_1216 dL_law_1217 ?_
  refine lw_arg C hl (k0 := 1) (k5 := 6) (n := 2) rfl rfl (by decide) (by decide) hi hL3 hS dL_law_1218 dL_law_1219 dL_law_1221 dL_law_1222 dL_law_1223 ?_
  refine fw_call (va_runV (As := [.int (xs (i + 1)), .int (xs (i + 2))]) (rest := []) ⟨hx, hb, hml, hown, hts⟩ (j_cousinOf G hL l τ (x + 614) s g bf hs9 sv ip lt nd td hM' hWG.1.1 (xs (i + 1)) (xs (i + 2))) (cwV 2 hts gL_law_X11_cousinOf rfl rfl rfl (by decide +kernel) ⟨Nat.le_of_ble_eq_true rfl, Nat.le_of_ble_eq_true rfl⟩) (fw_preV hW hK hR hM'.1 rfl) rfl rfl hl.1 rfl (lv_room (Nat.le_of_ble_eq_true rfl)) dL_law_1224 ⟨by show cells + 3 + 0 ≤ 603072; omega, by show slots + 18 + 0 ≤ 7198826; omega⟩) hS (fun v τ2 H locs hq hR hS => ?_)
  obtain ⟨rfl, ⟨bf2, nd2, td2, hM2⟩, hF2⟩ := hq
  refine W.eq (g2 := F0 mI 1227 ls [.int ((cousOfM s g (xs (i + 1)) (xs (i + 2))).1)]) rfl ?_
  refine lv_istore (lv' := (7, .int ((cousOfM s g (xs (i + 1)) (xs (i + 2))).1)) :: (6, .int k) :: LV b x i) hx hb dL_law_1227 hl (by decide) rfl (fun ls hl => ?_)
  exact lw_tail C hk hB hM2 (hC'.fr (fun q q1 q2 => hF2 q (by omega))) ((hF2 _ (by omega)).trans ho') ((hF2 _ (by omega)).trans hd9) hR hS hl (by omega) (by omega) dL_law_1229 dL_law_1230 dL_law_1233 dL_law_1235 dL_law_1240 dL_law_1242 dL_law_1245 dL_law_1246 dL_law_1247 dL_law_1248 dL_law_1250 dL_law_1251 dL_law_1252 dL_law_1257 (by decide) (kk τ2)
theorem lc_why {G : FG} {l : Launch} {pP : Program} {eE : Env} {sS : State} {mI : MethodId} {ar9 : Array Value} {bl9 : List Frame} {meth : Method} {cD : Code} {adr : Nat → Nat} {b L : Nat} {xs : Nat → Int32} {Q : State → Prop} (C : LCx G l pP sS mI ar9 cD adr b L xs) {ω : FWd} {x i cells slots : Nat} {H : Heap} {locs : List Loc} {ls : Array Slot} (hi : i + 6 ≤ L) (hL3 : L ≤ 3072) (hI : LI G ω x) (hR : fR G ω H) (hS : va_S (fwA G) sS.heap H locs) (hl : lv_has ls 9 (LV b x i)) (hc : cells + 3 ≤ 603072) (hs : slots + 18 ≤ 7198826)
    (kk : ∀ (τ : FWd) (H : Heap) (locs : List Loc) (ls : Array Slot), LI G τ x → fR G τ H → va_S (fwA G) sS.heap H locs → lv_has ls 9 (LV b x i) → W pP l eE room_1 sS mI ar9 bl9 meth cD H locs (cells + 3) (slots + 18) Q (F0 mI 2711 ls [])) : W pP l eE room_1 sS mI ar9 bl9 meth cD H locs cells slots Q (F0 mI 1260 ls []) := by
  obtain ⟨s, g, hs9, sv, ip, lt, f9, fd, hC, ⟨bf, nd, td, hM⟩, ho, hd⟩ := hI
  obtain ⟨hx, hb, hml, hown, hts, hW, hL, hX0, hN, hFT, hJ, hX, hbl, hbA⟩ := id C
  have hK := hL.K hW
  obtain ⟨hWG, hk3, hk7, hk13, hlt9, v9, hte⟩ := li_f hC
  refine lv_aload_n hx hb dL_law_1260 rfl (lv_at hl 1 rfl) ?_
  refine lw_arg C hl (k0 := 0) (k5 := 5) (n := 1) rfl rfl (by decide) (by decide) hi hL3 hS dL_law_1261 dL_law_1262 dL_law_1264 dL_law_1265 dL_law_1266 ?_
  refine lw_arg C hl (k0 := 0) (k5 := 5) (n := 2) rfl rfl (by decide) (by decide) hi hL3 hS dL_law_1267 dL_law_1268 dL_law_1270 dL_law_1271 dL_law_1272 ?_
  refine lw_arg C hl (k0 := 0) (k5 := 5) (n := 3) rfl rfl (by decide) (by decide) hi hL3 hS dL_law_1273 dL_law_1274 dL_law_1276 dL_law_1277 dL_law_1278 ?_
  refine lv_aload_n hx hb dL_law_1279 rfl (lv_at hl 3 rfl) ?_
  refine fx_call (vx_runSX (As := [.ref x, .int (xs (i + 1)), .int (xs (i + 2)), .int (xs (i + 3)), .ref (x + 623)]) (rest := []) ⟨hx, hb, hml, hown, hts⟩ (h_why G hL l hX0 hN ω x s g hs9 sv ip lt hC (x + 623) f9 ho (Or.inr (by omega)) (xs (i + 1)) (xs (i + 2)) (xs (i + 3))) (vx_cwSW 5 hts gL_law_L_why rfl rfl rfl (by decide +kernel) ⟨Nat.le_of_ble_eq_true rfl, Nat.le_of_ble_eq_true rfl⟩) (fw_preS hW hR) rfl rfl hl.1 rfl (lv_room (Nat.le_of_ble_eq_true rfl)) dL_law_1280 ⟨by show cells + 3 ≤ 603072; omega, by show slots + 18 ≤ 7198826; omega⟩) hS (fun E ce q9 τ H locs hx_1 hR hS hce hcv hcl => hx_1.elim) (fun v τ H locs hq hR hS => ?_)
  obtain ⟨k, f8, rfl, hk, hB, ho', hC', hF⟩ := hq
  refine W.widen (k := cells + 3) (n := slots + 18) (by omega) (by omega) ?_
  refine W.eq (g2 := F0 mI 1283 ls [.int k]) rfl ?_
  refine lv_istore (lv' := (6, .int k) :: LV b x i) hx hb dL_law_1283 hl (by decide) rfl (fun ls hl => ?_)
  have hM' := hM.fr (τ := τ.2) (fun q q1 q2 => hF q (by omega) (by omega))
  have hd9 := (hF (x + 624) (by omega) (by omega)).trans hd
  refine lv_aload_n hx hb dL_law_1285 rfl (lv_at hl 3 rfl) ?_
  refine lw_arg C hl (k0 := 1) (k5 := 6) (n := 1) rfl rfl (by decide) (by decide) hi hL3 hS dL_law_1286 dL_law_1287 dL_law_1289 dL_law_1290 dL_law_1291 ?_
  refine lw_arg C hl (k0 := 1) (k5 := 6) (n := 2) rfl rfl (by decide) (by decide) hi hL3 hS dL_law_1292 dL_law_1293 dL_law_1295 dL_law_1296 dL_law_1297 ?_
  refine lw_arg C hl (k0 := 1) (k5 := 6) (n := 3) rfl rfl (by decide) (by decide) hi hL3 hS dL_law_1298 dL_law_1299 dL_law_1301 dL_law_1302 dL_law_1303 ?_
  refine fw_call (va_runV (As := [.int (xs (i + 1)), .int (xs (i + 2)), .int (xs (i + 3))]) (rest := []) ⟨hx, hb, hml, hown, hts⟩ (j_why G hL l τ (x + 614) s g bf hs9 sv ip lt nd td hM' hWG.1.1 (xs (i + 1)) (xs (i + 2)) (xs (i + 3))) (cwV 3 hts gL_law_X11_why rfl rfl rfl (by decide +kernel) ⟨Nat.le_of_ble_eq_true rfl, Nat.le_of_ble_eq_true rfl⟩) (fw_preV hW hK hR hM'.1 rfl) rfl rfl hl.1 rfl (lv_room (Nat.le_of_ble_eq_true rfl)) dL_law_1304 ⟨by show cells + 3 + 0 ≤ 603072; omega, by show slots + 18 + 0 ≤ 7198826; omega⟩) hS (fun v τ2 H locs hq hR hS => ?_)
  obtain ⟨rfl, ⟨bf2, nd2, td2, hM2⟩, hF2⟩ := hq
  refine W.eq (g2 := F0 mI 1307 ls [.int ((whyM s g (xs (i + 1)) (xs (i + 2)) (xs (i + 3))).1)]) rfl ?_
  refine lv_istore (lv' := (7, .int ((whyM s g (xs (i + 1)) (xs (i + 2)) (xs (i + 3))).1)) :: (6, .int k) :: LV b x i) hx hb dL_law_1307 hl (by decide) rfl (fun ls hl => ?_)
  exact lw_tail C hk hB hM2 (hC'.fr (fun q q1 q2 => hF2 q (by omega))) ((hF2 _ (by omega)).trans ho') ((hF2 _ (by omega)).trans hd9) hR hS hl (by omega) (by omega) dL_law_1309 dL_law_1310 dL_law_1313 dL_law_1315 dL_law_1320 dL_law_1322 dL_law_1325 dL_law_1326 dL_law_1327 dL_law_1328 dL_law_1330 dL_law_1331 dL_law_1332 dL_law_1337 (by decide) (kk τ2)
theorem lc_whyAgain {G : FG} {l : Launch} {pP : Program} {eE : Env} {sS : State} {mI : MethodId} {ar9 : Array Value} {bl9 : List Frame} {meth : Method} {cD : Code} {adr : Nat → Nat} {b L : Nat} {xs : Nat → Int32} {Q : State → Prop} (C : LCx G l pP sS mI ar9 cD adr b L xs) {ω : FWd} {x i cells slots : Nat} {H : Heap} {locs : List Loc} {ls : Array Slot} (hi : i + 6 ≤ L) (hL3 : L ≤ 3072) (hI : LI G ω x) (hR : fR G ω H) (hS : va_S (fwA G) sS.heap H locs) (hl : lv_has ls 9 (LV b x i)) (hc : cells + 3 ≤ 603072) (hs : slots + 18 ≤ 7198826)
    (kk : ∀ (τ : FWd) (H : Heap) (locs : List Loc) (ls : Array Slot), LI G τ x → fR G τ H → va_S (fwA G) sS.heap H locs → lv_has ls 9 (LV b x i) → W pP l eE room_1 sS mI ar9 bl9 meth cD H locs (cells + 3) (slots + 18) Q (F0 mI 2711 ls [])) : W pP l eE room_1 sS mI ar9 bl9 meth cD H locs cells slots Q (F0 mI 1340 ls []) := by
  obtain ⟨s, g, hs9, sv, ip, lt, f9, fd, hC, ⟨bf, nd, td, hM⟩, ho, hd⟩ := hI
  obtain ⟨hx, hb, hml, hown, hts, hW, hL, hX0, hN, hFT, hJ, hX, hbl, hbA⟩ := id C
  have hK := hL.K hW
  obtain ⟨hWG, hk3, hk7, hk13, hlt9, v9, hte⟩ := li_f hC
  refine lv_aload_n hx hb dL_law_1340 rfl (lv_at hl 1 rfl) ?_
  refine lw_arg C hl (k0 := 0) (k5 := 5) (n := 1) rfl rfl (by decide) (by decide) hi hL3 hS dL_law_1341 dL_law_1342 dL_law_1344 dL_law_1345 dL_law_1346 ?_
  refine lw_arg C hl (k0 := 0) (k5 := 5) (n := 2) rfl rfl (by decide) (by decide) hi hL3 hS dL_law_1347 dL_law_1348 dL_law_1350 dL_law_1351 dL_law_1352 ?_
  refine lw_arg C hl (k0 := 0) (k5 := 5) (n := 3) rfl rfl (by decide) (by decide) hi hL3 hS dL_law_1353 dL_law_1354 dL_law_1356 dL_law_1357 dL_law_1358 ?_
  refine lv_aload_n hx hb dL_law_1359 rfl (lv_at hl 3 rfl) ?_
  refine fx_call (vx_runSX (As := [.ref x, .int (xs (i + 1)), .int (xs (i + 2)), .int (xs (i + 3)), .ref (x + 623)]) (rest := []) ⟨hx, hb, hml, hown, hts⟩ (h_whyAgain G hL l hX0 hN ω x s g hs9 sv ip lt hC (x + 623) f9 ho (Or.inr (by omega)) (xs (i + 1)) (xs (i + 2)) (xs (i + 3))) (vx_cwSW 5 hts gL_law_L_whyAgain rfl rfl rfl (by decide +kernel) ⟨Nat.le_of_ble_eq_true rfl, Nat.le_of_ble_eq_true rfl⟩) (fw_preS hW hR) rfl rfl hl.1 rfl (lv_room (Nat.le_of_ble_eq_true rfl)) dL_law_1360 ⟨by show cells + 3 ≤ 603072; omega, by show slots + 18 ≤ 7198826; omega⟩) hS (fun E ce q9 τ H locs hx_1 hR hS hce hcv hcl => hx_1.elim) (fun v τ H locs hq hR hS => ?_)
  obtain ⟨k, f8, rfl, hk, hB, ho', hC', hF⟩ := hq
  refine W.widen (k := cells + 3) (n := slots + 18) (by omega) (by omega) ?_
  refine W.eq (g2 := F0 mI 1363 ls [.int k]) rfl ?_
  refine lv_istore (lv' := (6, .int k) :: LV b x i) hx hb dL_law_1363 hl (by decide) rfl (fun ls hl => ?_)
  have hM' := hM.fr (τ := τ.2) (fun q q1 q2 => hF q (by omega) (by omega))
  have hd9 := (hF (x + 624) (by omega) (by omega)).trans hd
  refine lv_aload_n hx hb dL_law_1365 rfl (lv_at hl 3 rfl) ?_
  refine lw_arg C hl (k0 := 1) (k5 := 6) (n := 1) rfl rfl (by decide) (by decide) hi hL3 hS dL_law_1366 dL_law_1367 dL_law_1369 dL_law_1370 dL_law_1371 ?_
  refine lw_arg C hl (k0 := 1) (k5 := 6) (n := 2) rfl rfl (by decide) (by decide) hi hL3 hS dL_law_1372 dL_law_1373 dL_law_1375 dL_law_1376 dL_law_1377 ?_
  refine lw_arg C hl (k0 := 1) (k5 := 6) (n := 3) rfl rfl (by decide) (by decide) hi hL3 hS dL_law_1378 dL_law_1379 dL_law_1381 dL_law_1382 dL_law_1383 ?_
  refine fw_call (va_runV (As := [.int (xs (i + 1)), .int (xs (i + 2)), .int (xs (i + 3))]) (rest := []) ⟨hx, hb, hml, hown, hts⟩ (j_whyAgain G hL l τ (x + 614) s g bf hs9 sv ip lt nd td hM' hWG.1.1 (xs (i + 1)) (xs (i + 2)) (xs (i + 3))) (cwV 3 hts gL_law_X11_whyAgain rfl rfl rfl (by decide +kernel) ⟨Nat.le_of_ble_eq_true rfl, Nat.le_of_ble_eq_true rfl⟩) (fw_preV hW hK hR hM'.1 rfl) rfl rfl hl.1 rfl (lv_room (Nat.le_of_ble_eq_true rfl)) dL_law_1384 ⟨by show cells + 3 + 0 ≤ 603072; omega, by show slots + 18 + 0 ≤ 7198826; omega⟩) hS (fun v τ2 H locs hq hR hS => ?_)
  obtain ⟨rfl, ⟨bf2, nd2, td2, hM2⟩, hF2⟩ := hq
  refine W.eq (g2 := F0 mI 1387 ls [.int ((whyAgM s g (xs (i + 1)) (xs (i + 2)) (xs (i + 3))).1)]) rfl ?_
  refine lv_istore (lv' := (7, .int ((whyAgM s g (xs (i + 1)) (xs (i + 2)) (xs (i + 3))).1)) :: (6, .int k) :: LV b x i) hx hb dL_law_1387 hl (by decide) rfl (fun ls hl => ?_)
  exact lw_tail C hk hB hM2 (hC'.fr (fun q q1 q2 => hF2 q (by omega))) ((hF2 _ (by omega)).trans ho') ((hF2 _ (by omega)).trans hd9) hR hS hl (by omega) (by omega) dL_law_1389 dL_law_1390 dL_law_1393 dL_law_1395 dL_law_1400 dL_law_1402 dL_law_1405 dL_law_1406 dL_law_1407 dL_law_1408 dL_law_1410 dL_law_1411 dL_law_1412 dL_law_1417 (by decide) (kk τ2)
theorem lc_wouldSkip {G : FG} {l : Launch} {pP : Program} {eE : Env} {sS : State} {mI : MethodId} {ar9 : Array Value} {bl9 : List Frame} {meth : Method} {cD : Code} {adr : Nat → Nat} {b L : Nat} {xs : Nat → Int32} {Q : State → Prop} (C : LCx G l pP sS mI ar9 cD adr b L xs) {ω : FWd} {x i cells slots : Nat} {H : Heap} {locs : List Loc} {ls : Array Slot} (hi : i + 6 ≤ L) (hL3 : L ≤ 3072) (hI : LI G ω x) (hR : fR G ω H) (hS : va_S (fwA G) sS.heap H locs) (hl : lv_has ls 9 (LV b x i)) (hc : cells + 3 ≤ 603072) (hs : slots + 18 ≤ 7198826)
    (kk : ∀ (τ : FWd) (H : Heap) (locs : List Loc) (ls : Array Slot), LI G τ x → fR G τ H → va_S (fwA G) sS.heap H locs → lv_has ls 9 (LV b x i) → W pP l eE room_1 sS mI ar9 bl9 meth cD H locs (cells + 3) (slots + 18) Q (F0 mI 2711 ls [])) : W pP l eE room_1 sS mI ar9 bl9 meth cD H locs cells slots Q (F0 mI 1420 ls []) := by
  obtain ⟨s, g, hs9, sv, ip, lt, f9, fd, hC, ⟨bf, nd, td, hM⟩, ho, hd⟩ := hI
  obtain ⟨hx, hb, hml, hown, hts, hW, hL, hX0, hN, hFT, hJ, hX, hbl, hbA⟩ := id C
  have hK := hL.K hW
  obtain ⟨hWG, hk3, hk7, hk13, hlt9, v9, hte⟩ := li_f hC
  refine lv_aload_n hx hb dL_law_1420 rfl (lv_at hl 1 rfl) ?_
  refine lw_arg C hl (k0 := 0) (k5 := 5) (n := 1) rfl rfl (by decide) (by decide) hi hL3 hS dL_law_1421 dL_law_1422 dL_law_1424 dL_law_1425 dL_law_1426 ?_
  refine lw_arg C hl (k0 := 0) (k5 := 5) (n := 2) rfl rfl (by decide) (by decide) hi hL3 hS dL_law_1427 dL_law_1428 dL_law_1430 dL_law_1431 dL_law_1432 ?_
  refine lv_aload_n hx hb dL_law_1433 rfl (lv_at hl 3 rfl) ?_
  refine fx_call (vx_runSX (As := [.ref x, .int (xs (i + 1)), .int (xs (i + 2)), .ref (x + 623)]) (rest := []) ⟨hx, hb, hml, hown, hts⟩ (h_wouldSkip G hL l hX0 ω x s g hs9 sv ip lt hC (x + 623) f9 ho (Or.inr (by omega)) (xs (i + 1)) (xs (i + 2))) (vx_cwSW 4 hts gL_law_L_wouldSkip rfl rfl rfl (by decide +kernel) ⟨Nat.le_of_ble_eq_true rfl, Nat.le_of_ble_eq_true rfl⟩) (fw_preS hW hR) rfl rfl hl.1 rfl (lv_room (Nat.le_of_ble_eq_true rfl)) dL_law_1434 ⟨by show cells + 2 ≤ 603072; omega, by show slots + 12 ≤ 7198826; omega⟩) hS (fun E ce q9 τ H locs hx_1 hR hS hce hcv hcl => hx_1.elim) (fun v τ H locs hq hR hS => ?_)
  obtain ⟨k, f8, rfl, hk, hB, ho', hC', hF⟩ := hq
  refine W.widen (k := cells + 3) (n := slots + 18) (by omega) (by omega) ?_
  refine W.eq (g2 := F0 mI 1437 ls [.int k]) rfl ?_
  refine lv_istore (lv' := (6, .int k) :: LV b x i) hx hb dL_law_1437 hl (by decide) rfl (fun ls hl => ?_)
  have hM' := hM.fr (τ := τ.2) (fun q q1 q2 => hF q (by omega) (by omega))
  have hd9 := (hF (x + 624) (by omega) (by omega)).trans hd
  refine lv_aload_n hx hb dL_law_1439 rfl (lv_at hl 3 rfl) ?_
  refine lw_arg C hl (k0 := 1) (k5 := 6) (n := 1) rfl rfl (by decide) (by decide) hi hL3 hS dL_law_1440 dL_law_1441 dL_law_1443 dL_law_1444 dL_law_1445 ?_
  refine lw_arg C hl (k0 := 1) (k5 := 6) (n := 2) rfl rfl (by decide) (by decide) hi hL3 hS dL_law_1446 dL_law_1447 dL_law_1449 dL_law_1450 dL_law_1451 ?_
  refine fw_call (va_runV (As := [.int (xs (i + 1)), .int (xs (i + 2))]) (rest := []) ⟨hx, hb, hml, hown, hts⟩ (j_wouldSkip G hL l τ (x + 614) s g bf hs9 sv ip lt nd td hM' hWG.1.1 (xs (i + 1)) (xs (i + 2))) (cwV 2 hts gL_law_X11_wouldSkip rfl rfl rfl (by decide +kernel) ⟨Nat.le_of_ble_eq_true rfl, Nat.le_of_ble_eq_true rfl⟩) (fw_preV hW hK hR hM'.1 rfl) rfl rfl hl.1 rfl (lv_room (Nat.le_of_ble_eq_true rfl)) dL_law_1452 ⟨by show cells + 3 + 0 ≤ 603072; omega, by show slots + 18 + 0 ≤ 7198826; omega⟩) hS (fun v τ2 H locs hq hR hS => ?_)
  obtain ⟨rfl, ⟨bf2, nd2, td2, hM2⟩, hF2⟩ := hq
  refine W.eq (g2 := F0 mI 1455 ls [.int ((wskipM s g (xs (i + 1)) (xs (i + 2))).1)]) rfl ?_
  refine lv_istore (lv' := (7, .int ((wskipM s g (xs (i + 1)) (xs (i + 2))).1)) :: (6, .int k) :: LV b x i) hx hb dL_law_1455 hl (by decide) rfl (fun ls hl => ?_)
  exact lw_tail C hk hB hM2 (hC'.fr (fun q q1 q2 => hF2 q (by omega))) ((hF2 _ (by omega)).trans ho') ((hF2 _ (by omega)).trans hd9) hR hS hl (by omega) (by omega) dL_law_1457 dL_law_1458 dL_law_1461 dL_law_1463 dL_law_1468 dL_law_1470 dL_law_1473 dL_law_1474 dL_law_1475 dL_law_1476 dL_law_1478 dL_law_1479 dL_law_1480 dL_law_1485 (by decide) (kk τ2)
theorem lc_wouldLeave {G : FG} {l : Launch} {pP : Program} {eE : Env} {sS : State} {mI : MethodId} {ar9 : Array Value} {bl9 : List Frame} {meth : Method} {cD : Code} {adr : Nat → Nat} {b L : Nat} {xs : Nat → Int32} {Q : State → Prop} (C : LCx G l pP sS mI ar9 cD adr b L xs) {ω : FWd} {x i cells slots : Nat} {H : Heap} {locs : List Loc} {ls : Array Slot} (hi : i + 6 ≤ L) (hL3 : L ≤ 3072) (hI : LI G ω x) (hR : fR G ω H) (hS : va_S (fwA G) sS.heap H locs) (hl : lv_has ls 9 (LV b x i)) (hc : cells + 3 ≤ 603072) (hs : slots + 18 ≤ 7198826)
    (kk : ∀ (τ : FWd) (H : Heap) (locs : List Loc) (ls : Array Slot), LI G τ x → fR G τ H → va_S (fwA G) sS.heap H locs → lv_has ls 9 (LV b x i) → W pP l eE room_1 sS mI ar9 bl9 meth cD H locs (cells + 3) (slots + 18) Q (F0 mI 2711 ls [])) : W pP l eE room_1 sS mI ar9 bl9 meth cD H locs cells slots Q (F0 mI 1488 ls []) := by
  obtain ⟨s, g, hs9, sv, ip, lt, f9, fd, hC, ⟨bf, nd, td, hM⟩, ho, hd⟩ := hI
  obtain ⟨hx, hb, hml, hown, hts, hW, hL, hX0, hN, hFT, hJ, hX, hbl, hbA⟩ := id C
  have hK := hL.K hW
  obtain ⟨hWG, hk3, hk7, hk13, hlt9, v9, hte⟩ := li_f hC
  refine lv_aload_n hx hb dL_law_1488 rfl (lv_at hl 1 rfl) ?_
  refine lw_arg C hl (k0 := 0) (k5 := 5) (n := 1) rfl rfl (by decide) (by decide) hi hL3 hS dL_law_1489 dL_law_1490 dL_law_1492 dL_law_1493 dL_law_1494 ?_
  refine lw_arg C hl (k0 := 0) (k5 := 5) (n := 2) rfl rfl (by decide) (by decide) hi hL3 hS dL_law_1495 dL_law_1496 dL_law_1498 dL_law_1499 dL_law_1500 ?_
  refine lw_arg C hl (k0 := 0) (k5 := 5) (n := 3) rfl rfl (by decide) (by decide) hi hL3 hS dL_law_1501 dL_law_1502 dL_law_1504 dL_law_1505 dL_law_1506 ?_
  refine lv_aload_n hx hb dL_law_1507 rfl (lv_at hl 3 rfl) ?_
  refine fx_call (vx_runSX (As := [.ref x, .int (xs (i + 1)), .int (xs (i + 2)), .int (xs (i + 3)), .ref (x + 623)]) (rest := []) ⟨hx, hb, hml, hown, hts⟩ (h_wouldLeave G hL l hX0 hN ω x s g hs9 sv ip lt nd hC (x + 623) f9 ho (Or.inr (by omega)) (xs (i + 1)) (xs (i + 2)) (xs (i + 3))) (vx_cwSW 5 hts gL_law_L_wouldLeave rfl rfl rfl (by decide +kernel) ⟨Nat.le_of_ble_eq_true rfl, Nat.le_of_ble_eq_true rfl⟩) (fw_preS hW hR) rfl rfl hl.1 rfl (lv_room (Nat.le_of_ble_eq_true rfl)) dL_law_1508 ⟨by show cells + 3 ≤ 603072; omega, by show slots + 18 ≤ 7198826; omega⟩) hS (fun E ce q9 τ H locs hx_1 hR hS hce hcv hcl => hx_1.elim) (fun v τ H locs hq hR hS => ?_)
  obtain ⟨k, f8, rfl, hk, hB, ho', hC', hF⟩ := hq
  refine W.widen (k := cells + 3) (n := slots + 18) (by omega) (by omega) ?_
  refine W.eq (g2 := F0 mI 1511 ls [.int k]) rfl ?_
  refine lv_istore (lv' := (6, .int k) :: LV b x i) hx hb dL_law_1511 hl (by decide) rfl (fun ls hl => ?_)
  have hM' := hM.fr (τ := τ.2) (fun q q1 q2 => hF q (by omega) (by omega))
  have hd9 := (hF (x + 624) (by omega) (by omega)).trans hd
  refine lv_aload_n hx hb dL_law_1513 rfl (lv_at hl 3 rfl) ?_
  refine lw_arg C hl (k0 := 1) (k5 := 6) (n := 1) rfl rfl (by decide) (by decide) hi hL3 hS dL_law_1514 dL_law_1515 dL_law_1517 dL_law_1518 dL_law_1519 ?_
  refine lw_arg C hl (k0 := 1) (k5 := 6) (n := 2) rfl rfl (by decide) (by decide) hi hL3 hS dL_law_1520 dL_law_1521 dL_law_1523 dL_law_1524 dL_law_1525 ?_
  refine lw_arg C hl (k0 := 1) (k5 := 6) (n := 3) rfl rfl (by decide) (by decide) hi hL3 hS dL_law_1526 dL_law_1527 dL_law_1529 dL_law_1530 dL_law_1531 ?_
  refine fw_call (va_runV (As := [.int (xs (i + 1)), .int (xs (i + 2)), .int (xs (i + 3))]) (rest := []) ⟨hx, hb, hml, hown, hts⟩ (j_wouldLeave G hL l τ (x + 614) s g bf hs9 sv ip lt nd td hM' hWG.1.1 (xs (i + 1)) (xs (i + 2)) (xs (i + 3))) (cwV 3 hts gL_law_X11_wouldLeave rfl rfl rfl (by decide +kernel) ⟨Nat.le_of_ble_eq_true rfl, Nat.le_of_ble_eq_true rfl⟩) (fw_preV hW hK hR hM'.1 rfl) rfl rfl hl.1 rfl (lv_room (Nat.le_of_ble_eq_true rfl)) dL_law_1532 ⟨by show cells + 3 + 0 ≤ 603072; omega, by show slots + 18 + 0 ≤ 7198826; omega⟩) hS (fun v τ2 H locs hq hR hS => ?_)
  obtain ⟨rfl, ⟨bf2, nd2, td2, hM2⟩, hF2⟩ := hq
  refine W.eq (g2 := F0 mI 1535 ls [.int ((wleaveM s g nd (xs (i + 1)) (xs (i + 2)) (xs (i + 3))).1)]) rfl ?_
  refine lv_istore (lv' := (7, .int ((wleaveM s g nd (xs (i + 1)) (xs (i + 2)) (xs (i + 3))).1)) :: (6, .int k) :: LV b x i) hx hb dL_law_1535 hl (by decide) rfl (fun ls hl => ?_)
  exact lw_tail C hk hB hM2 (hC'.fr (fun q q1 q2 => hF2 q (by omega))) ((hF2 _ (by omega)).trans ho') ((hF2 _ (by omega)).trans hd9) hR hS hl (by omega) (by omega) dL_law_1537 dL_law_1538 dL_law_1541 dL_law_1543 dL_law_1548 dL_law_1550 dL_law_1553 dL_law_1554 dL_law_1555 dL_law_1556 dL_law_1558 dL_law_1559 dL_law_1560 dL_law_1565 (by decide) (kk τ2)
theorem lc_bestCousin {G : FG} {l : Launch} {pP : Program} {eE : Env} {sS : State} {mI : MethodId} {ar9 : Array Value} {bl9 : List Frame} {meth : Method} {cD : Code} {adr : Nat → Nat} {b L : Nat} {xs : Nat → Int32} {Q : State → Prop} (C : LCx G l pP sS mI ar9 cD adr b L xs) {ω : FWd} {x i cells slots : Nat} {H : Heap} {locs : List Loc} {ls : Array Slot} (hi : i + 6 ≤ L) (hL3 : L ≤ 3072) (hI : LI G ω x) (hR : fR G ω H) (hS : va_S (fwA G) sS.heap H locs) (hl : lv_has ls 9 (LV b x i)) (hc : cells + 3 ≤ 603072) (hs : slots + 18 ≤ 7198826)
    (kk : ∀ (τ : FWd) (H : Heap) (locs : List Loc) (ls : Array Slot), LI G τ x → fR G τ H → va_S (fwA G) sS.heap H locs → lv_has ls 9 (LV b x i) → W pP l eE room_1 sS mI ar9 bl9 meth cD H locs (cells + 3) (slots + 18) Q (F0 mI 2711 ls [])) : W pP l eE room_1 sS mI ar9 bl9 meth cD H locs cells slots Q (F0 mI 1568 ls []) := by
  obtain ⟨s, g, hs9, sv, ip, lt, f9, fd, hC, ⟨bf, nd, td, hM⟩, ho, hd⟩ := hI
  obtain ⟨hx, hb, hml, hown, hts, hW, hL, hX0, hN, hFT, hJ, hX, hbl, hbA⟩ := id C
  have hK := hL.K hW
  obtain ⟨hWG, hk3, hk7, hk13, hlt9, v9, hte⟩ := li_f hC
  refine lv_aload_n hx hb dL_law_1568 rfl (lv_at hl 1 rfl) ?_
  refine lw_arg C hl (k0 := 0) (k5 := 5) (n := 1) rfl rfl (by decide) (by decide) hi hL3 hS dL_law_1569 dL_law_1570 dL_law_1572 dL_law_1573 dL_law_1574 ?_
  refine lv_aload_n hx hb dL_law_1575 rfl (lv_at hl 3 rfl) ?_
  refine fx_call (vx_runSX (As := [.ref x, .int (xs (i + 1)), .ref (x + 623)]) (rest := []) ⟨hx, hb, hml, hown, hts⟩ (h_bestCousin G hL l hX0 hN ω x s g hs9 sv ip lt hC (x + 623) f9 ho (Or.inr (by omega)) (xs (i + 1))) (vx_cwSW 3 hts gL_law_L_bestCousin rfl rfl rfl (by decide +kernel) ⟨Nat.le_of_ble_eq_true rfl, Nat.le_of_ble_eq_true rfl⟩) (fw_preS hW hR) rfl rfl hl.1 rfl (lv_room (Nat.le_of_ble_eq_true rfl)) dL_law_1576 ⟨by show cells + 2 ≤ 603072; omega, by show slots + 12 ≤ 7198826; omega⟩) hS (fun E ce q9 τ H locs hx_1 hR hS hce hcv hcl => hx_1.elim) (fun v τ H locs hq hR hS => ?_)
  obtain ⟨k, f8, rfl, hk, hB, ho', hC', hF⟩ := hq
  refine W.widen (k := cells + 3) (n := slots + 18) (by omega) (by omega) ?_
  refine W.eq (g2 := F0 mI 1579 ls [.int k]) rfl ?_
  refine lv_istore (lv' := (6, .int k) :: LV b x i) hx hb dL_law_1579 hl (by decide) rfl (fun ls hl => ?_)
  have hM' := hM.fr (τ := τ.2) (fun q q1 q2 => hF q (by omega) (by omega))
  have hd9 := (hF (x + 624) (by omega) (by omega)).trans hd
  refine lv_aload_n hx hb dL_law_1581 rfl (lv_at hl 3 rfl) ?_
  refine lw_arg C hl (k0 := 1) (k5 := 6) (n := 1) rfl rfl (by decide) (by decide) hi hL3 hS dL_law_1582 dL_law_1583 dL_law_1585 dL_law_1586 dL_law_1587 ?_
  refine fw_call (va_runV (As := [.int (xs (i + 1))]) (rest := []) ⟨hx, hb, hml, hown, hts⟩ (j_bestCousin G hL l τ (x + 614) s g bf hs9 sv ip lt nd td hM' hWG.1.1 (xs (i + 1))) (cwV 1 hts gL_law_X11_bestCousin rfl rfl rfl (by decide +kernel) ⟨Nat.le_of_ble_eq_true rfl, Nat.le_of_ble_eq_true rfl⟩) (fw_preV hW hK hR hM'.1 rfl) rfl rfl hl.1 rfl (lv_room (Nat.le_of_ble_eq_true rfl)) dL_law_1588 ⟨by show cells + 3 + 0 ≤ 603072; omega, by show slots + 18 + 0 ≤ 7198826; omega⟩) hS (fun v τ2 H locs hq hR hS => ?_)
  obtain ⟨rfl, ⟨bf2, nd2, td2, hM2⟩, hF2⟩ := hq
  refine W.eq (g2 := F0 mI 1591 ls [.int ((bcouM s g (xs (i + 1))).1)]) rfl ?_
  refine lv_istore (lv' := (7, .int ((bcouM s g (xs (i + 1))).1)) :: (6, .int k) :: LV b x i) hx hb dL_law_1591 hl (by decide) rfl (fun ls hl => ?_)
  exact lw_tail C hk hB hM2 (hC'.fr (fun q q1 q2 => hF2 q (by omega))) ((hF2 _ (by omega)).trans ho') ((hF2 _ (by omega)).trans hd9) hR hS hl (by omega) (by omega) dL_law_1593 dL_law_1594 dL_law_1597 dL_law_1599 dL_law_1604 dL_law_1606 dL_law_1609 dL_law_1610 dL_law_1611 dL_law_1612 dL_law_1614 dL_law_1615 dL_law_1616 dL_law_1621 (by decide) (kk τ2)
theorem lc_bestLanguage {G : FG} {l : Launch} {pP : Program} {eE : Env} {sS : State} {mI : MethodId} {ar9 : Array Value} {bl9 : List Frame} {meth : Method} {cD : Code} {adr : Nat → Nat} {b L : Nat} {xs : Nat → Int32} {Q : State → Prop} (C : LCx G l pP sS mI ar9 cD adr b L xs) {ω : FWd} {x i cells slots : Nat} {H : Heap} {locs : List Loc} {ls : Array Slot} (hi : i + 6 ≤ L) (hL3 : L ≤ 3072) (hI : LI G ω x) (hR : fR G ω H) (hS : va_S (fwA G) sS.heap H locs) (hl : lv_has ls 9 (LV b x i)) (hc : cells + 3 ≤ 603072) (hs : slots + 18 ≤ 7198826)
    (kk : ∀ (τ : FWd) (H : Heap) (locs : List Loc) (ls : Array Slot), LI G τ x → fR G τ H → va_S (fwA G) sS.heap H locs → lv_has ls 9 (LV b x i) → W pP l eE room_1 sS mI ar9 bl9 meth cD H locs (cells + 3) (slots + 18) Q (F0 mI 2711 ls [])) : W pP l eE room_1 sS mI ar9 bl9 meth cD H locs cells slots Q (F0 mI 1624 ls []) := by
  obtain ⟨s, g, hs9, sv, ip, lt, f9, fd, hC, ⟨bf, nd, td, hM⟩, ho, hd⟩ := hI
  obtain ⟨hx, hb, hml, hown, hts, hW, hL, hX0, hN, hFT, hJ, hX, hbl, hbA⟩ := id C
  have hK := hL.K hW
  obtain ⟨hWG, hk3, hk7, hk13, hlt9, v9, hte⟩ := li_f hC
  refine lv_aload_n hx hb dL_law_1624 rfl (lv_at hl 1 rfl) ?_
  refine lw_arg C hl (k0 := 0) (k5 := 5) (n := 1) rfl rfl (by decide) (by decide) hi hL3 hS dL_law_1625 dL_law_1626 dL_law_1628 dL_law_1629 dL_law_1630 ?_
  refine lw_arg C hl (k0 := 0) (k5 := 5) (n := 2) rfl rfl (by decide) (by decide) hi hL3 hS dL_law_1631 dL_law_1632 dL_law_1634 dL_law_1635 dL_law_1636 ?_
  refine lv_aload_n hx hb dL_law_1637 rfl (lv_at hl 3 rfl) ?_
  refine fx_call (vx_runSX (As := [.ref x, .int (xs (i + 1)), .int (xs (i + 2)), .ref (x + 623)]) (rest := []) ⟨hx, hb, hml, hown, hts⟩ (h_bestLanguage G hL l hX0 hN ω x s g hs9 sv ip lt hC (x + 623) f9 ho (Or.inr (by omega)) (xs (i + 1)) (xs (i + 2))) (vx_cwSW 4 hts gL_law_L_bestLanguage rfl rfl rfl (by decide +kernel) ⟨Nat.le_of_ble_eq_true rfl, Nat.le_of_ble_eq_true rfl⟩) (fw_preS hW hR) rfl rfl hl.1 rfl (lv_room (Nat.le_of_ble_eq_true rfl)) dL_law_1638 ⟨by show cells + 3 ≤ 603072; omega, by show slots + 18 ≤ 7198826; omega⟩) hS (fun E ce q9 τ H locs hx_1 hR hS hce hcv hcl => hx_1.elim) (fun v τ H locs hq hR hS => ?_)
  obtain ⟨k, f8, rfl, hk, hB, ho', hC', hF⟩ := hq
  refine W.widen (k := cells + 3) (n := slots + 18) (by omega) (by omega) ?_
  refine W.eq (g2 := F0 mI 1641 ls [.int k]) rfl ?_
  refine lv_istore (lv' := (6, .int k) :: LV b x i) hx hb dL_law_1641 hl (by decide) rfl (fun ls hl => ?_)
  have hM' := hM.fr (τ := τ.2) (fun q q1 q2 => hF q (by omega) (by omega))
  have hd9 := (hF (x + 624) (by omega) (by omega)).trans hd
  refine lv_aload_n hx hb dL_law_1643 rfl (lv_at hl 3 rfl) ?_
  refine lw_arg C hl (k0 := 1) (k5 := 6) (n := 1) rfl rfl (by decide) (by decide) hi hL3 hS dL_law_1644 dL_law_1645 dL_law_1647 dL_law_1648 dL_law_1649 ?_
  refine lw_arg C hl (k0 := 1) (k5 := 6) (n := 2) rfl rfl (by decide) (by decide) hi hL3 hS dL_law_1650 dL_law_1651 dL_law_1653 dL_law_1654 dL_law_1655 ?_
  refine fw_call (va_runV (As := [.int (xs (i + 1)), .int (xs (i + 2))]) (rest := []) ⟨hx, hb, hml, hown, hts⟩ (j_bestLanguage G hL l τ (x + 614) s g bf hs9 sv ip lt nd td hM' hWG.1.1 (xs (i + 1)) (xs (i + 2))) (cwV 2 hts gL_law_X11_bestLanguage rfl rfl rfl (by decide +kernel) ⟨Nat.le_of_ble_eq_true rfl, Nat.le_of_ble_eq_true rfl⟩) (fw_preV hW hK hR hM'.1 rfl) rfl rfl hl.1 rfl (lv_room (Nat.le_of_ble_eq_true rfl)) dL_law_1656 ⟨by show cells + 3 + 0 ≤ 603072; omega, by show slots + 18 + 0 ≤ 7198826; omega⟩) hS (fun v τ2 H locs hq hR hS => ?_)
  obtain ⟨rfl, ⟨bf2, nd2, td2, hM2⟩, hF2⟩ := hq
  refine W.eq (g2 := F0 mI 1659 ls [.int ((blanM s g (xs (i + 1)) (xs (i + 2))).1)]) rfl ?_
  refine lv_istore (lv' := (7, .int ((blanM s g (xs (i + 1)) (xs (i + 2))).1)) :: (6, .int k) :: LV b x i) hx hb dL_law_1659 hl (by decide) rfl (fun ls hl => ?_)
  exact lw_tail C hk hB hM2 (hC'.fr (fun q q1 q2 => hF2 q (by omega))) ((hF2 _ (by omega)).trans ho') ((hF2 _ (by omega)).trans hd9) hR hS hl (by omega) (by omega) dL_law_1661 dL_law_1662 dL_law_1665 dL_law_1667 dL_law_1672 dL_law_1674 dL_law_1677 dL_law_1678 dL_law_1679 dL_law_1680 dL_law_1682 dL_law_1683 dL_law_1684 dL_law_1689 (by decide) (kk τ2)
theorem lc_bestFolds {G : FG} {l : Launch} {pP : Program} {eE : Env} {sS : State} {mI : MethodId} {ar9 : Array Value} {bl9 : List Frame} {meth : Method} {cD : Code} {adr : Nat → Nat} {b L : Nat} {xs : Nat → Int32} {Q : State → Prop} (C : LCx G l pP sS mI ar9 cD adr b L xs) {ω : FWd} {x i cells slots : Nat} {H : Heap} {locs : List Loc} {ls : Array Slot} (hi : i + 6 ≤ L) (hL3 : L ≤ 3072) (hI : LI G ω x) (hR : fR G ω H) (hS : va_S (fwA G) sS.heap H locs) (hl : lv_has ls 9 (LV b x i)) (hc : cells + 3 ≤ 603072) (hs : slots + 18 ≤ 7198826)
    (kk : ∀ (τ : FWd) (H : Heap) (locs : List Loc) (ls : Array Slot), LI G τ x → fR G τ H → va_S (fwA G) sS.heap H locs → lv_has ls 9 (LV b x i) → W pP l eE room_1 sS mI ar9 bl9 meth cD H locs (cells + 3) (slots + 18) Q (F0 mI 2711 ls [])) : W pP l eE room_1 sS mI ar9 bl9 meth cD H locs cells slots Q (F0 mI 1692 ls []) := by
  obtain ⟨s, g, hs9, sv, ip, lt, f9, fd, hC, ⟨bf, nd, td, hM⟩, ho, hd⟩ := hI
  obtain ⟨hx, hb, hml, hown, hts, hW, hL, hX0, hN, hFT, hJ, hX, hbl, hbA⟩ := id C
  have hK := hL.K hW
  obtain ⟨hWG, hk3, hk7, hk13, hlt9, v9, hte⟩ := li_f hC
  refine lv_aload_n hx hb dL_law_1692 rfl (lv_at hl 1 rfl) ?_
  refine lw_arg C hl (k0 := 0) (k5 := 5) (n := 1) rfl rfl (by decide) (by decide) hi hL3 hS dL_law_1693 dL_law_1694 dL_law_1696 dL_law_1697 dL_law_1698 ?_
  refine lw_arg C hl (k0 := 0) (k5 := 5) (n := 2) rfl rfl (by decide) (by decide) hi hL3 hS dL_law_1699 dL_law_1700 dL_law_1702 dL_law_1703 dL_law_1704 ?_
  refine lv_aload_n hx hb dL_law_1705 rfl (lv_at hl 3 rfl) ?_
  refine fx_call (vx_runSX (As := [.ref x, .int (xs (i + 1)), .int (xs (i + 2)), .ref (x + 623)]) (rest := []) ⟨hx, hb, hml, hown, hts⟩ (h_bestFolds G hL l hX0 ω x s g hs9 sv ip lt hC (x + 623) f9 ho (Or.inr (by omega)) (xs (i + 1)) (xs (i + 2))) (vx_cwSW 4 hts gL_law_L_bestFolds rfl rfl rfl (by decide +kernel) ⟨Nat.le_of_ble_eq_true rfl, Nat.le_of_ble_eq_true rfl⟩) (fw_preS hW hR) rfl rfl hl.1 rfl (lv_room (Nat.le_of_ble_eq_true rfl)) dL_law_1706 ⟨by show cells + 2 ≤ 603072; omega, by show slots + 12 ≤ 7198826; omega⟩) hS (fun E ce q9 τ H locs hx_1 hR hS hce hcv hcl => hx_1.elim) (fun v τ H locs hq hR hS => ?_)
  obtain ⟨k, f8, rfl, hk, hB, ho', hC', hF⟩ := hq
  refine W.widen (k := cells + 3) (n := slots + 18) (by omega) (by omega) ?_
  refine W.eq (g2 := F0 mI 1709 ls [.int k]) rfl ?_
  refine lv_istore (lv' := (6, .int k) :: LV b x i) hx hb dL_law_1709 hl (by decide) rfl (fun ls hl => ?_)
  have hM' := hM.fr (τ := τ.2) (fun q q1 q2 => hF q (by omega) (by omega))
  have hd9 := (hF (x + 624) (by omega) (by omega)).trans hd
  refine lv_aload_n hx hb dL_law_1711 rfl (lv_at hl 3 rfl) ?_
  refine lw_arg C hl (k0 := 1) (k5 := 6) (n := 1) rfl rfl (by decide) (by decide) hi hL3 hS dL_law_1712 dL_law_1713 dL_law_1715 dL_law_1716 dL_law_1717 ?_
  refine lw_arg C hl (k0 := 1) (k5 := 6) (n := 2) rfl rfl (by decide) (by decide) hi hL3 hS dL_law_1718 dL_law_1719 dL_law_1721 dL_law_1722 dL_law_1723 ?_
  refine fw_call (va_runV (As := [.int (xs (i + 1)), .int (xs (i + 2))]) (rest := []) ⟨hx, hb, hml, hown, hts⟩ (j_bestFolds G hL l τ (x + 614) s g bf hs9 sv ip lt nd td hM' hWG.1.1 (xs (i + 1)) (xs (i + 2))) (cwV 2 hts gL_law_X11_bestFolds rfl rfl rfl (by decide +kernel) ⟨Nat.le_of_ble_eq_true rfl, Nat.le_of_ble_eq_true rfl⟩) (fw_preV hW hK hR hM'.1 rfl) rfl rfl hl.1 rfl (lv_room (Nat.le_of_ble_eq_true rfl)) dL_law_1724 ⟨by show cells + 3 + 0 ≤ 603072; omega, by show slots + 18 + 0 ≤ 7198826; omega⟩) hS (fun v τ2 H locs hq hR hS => ?_)
  obtain ⟨rfl, ⟨bf2, nd2, td2, hM2⟩, hF2⟩ := hq
  refine W.eq (g2 := F0 mI 1727 ls [.int ((bfolM s g (xs (i + 1)) (xs (i + 2))).1)]) rfl ?_
  refine lv_istore (lv' := (7, .int ((bfolM s g (xs (i + 1)) (xs (i + 2))).1)) :: (6, .int k) :: LV b x i) hx hb dL_law_1727 hl (by decide) rfl (fun ls hl => ?_)
  exact lw_tail C hk hB hM2 (hC'.fr (fun q q1 q2 => hF2 q (by omega))) ((hF2 _ (by omega)).trans ho') ((hF2 _ (by omega)).trans hd9) hR hS hl (by omega) (by omega) dL_law_1729 dL_law_1730 dL_law_1733 dL_law_1735 dL_law_1740 dL_law_1742 dL_law_1745 dL_law_1746 dL_law_1747 dL_law_1748 dL_law_1750 dL_law_1751 dL_law_1752 dL_law_1757 (by decide) (kk τ2)
theorem lc_canFinish {G : FG} {l : Launch} {pP : Program} {eE : Env} {sS : State} {mI : MethodId} {ar9 : Array Value} {bl9 : List Frame} {meth : Method} {cD : Code} {adr : Nat → Nat} {b L : Nat} {xs : Nat → Int32} {Q : State → Prop} (C : LCx G l pP sS mI ar9 cD adr b L xs) {ω : FWd} {x i cells slots : Nat} {H : Heap} {locs : List Loc} {ls : Array Slot} (hi : i + 6 ≤ L) (hL3 : L ≤ 3072) (hI : LI G ω x) (hR : fR G ω H) (hS : va_S (fwA G) sS.heap H locs) (hl : lv_has ls 9 (LV b x i)) (hc : cells + 3 ≤ 603072) (hs : slots + 18 ≤ 7198826)
    (kk : ∀ (τ : FWd) (H : Heap) (locs : List Loc) (ls : Array Slot), LI G τ x → fR G τ H → va_S (fwA G) sS.heap H locs → lv_has ls 9 (LV b x i) → W pP l eE room_1 sS mI ar9 bl9 meth cD H locs (cells + 3) (slots + 18) Q (F0 mI 2711 ls [])) : W pP l eE room_1 sS mI ar9 bl9 meth cD H locs cells slots Q (F0 mI 1760 ls []) := by
  obtain ⟨s, g, hs9, sv, ip, lt, f9, fd, hC, ⟨bf, nd, td, hM⟩, ho, hd⟩ := hI
  obtain ⟨hx, hb, hml, hown, hts, hW, hL, hX0, hN, hFT, hJ, hX, hbl, hbA⟩ := id C
  have hK := hL.K hW
  obtain ⟨hWG, hk3, hk7, hk13, hlt9, v9, hte⟩ := li_f hC
  refine lv_aload_n hx hb dL_law_1760 rfl (lv_at hl 1 rfl) ?_
  refine lw_arg C hl (k0 := 0) (k5 := 5) (n := 1) rfl rfl (by decide) (by decide) hi hL3 hS dL_law_1761 dL_law_1762 dL_law_1764 dL_law_1765 dL_law_1766 ?_
  refine lw_arg C hl (k0 := 0) (k5 := 5) (n := 2) rfl rfl (by decide) (by decide) hi hL3 hS dL_law_1767 dL_law_1768 dL_law_1770 dL_law_1771 dL_law_1772 ?_
  refine lv_aload_n hx hb dL_law_1773 rfl (lv_at hl 3 rfl) ?_
  refine fx_call (vx_runSX (As := [.ref x, .int (xs (i + 1)), .int (xs (i + 2)), .ref (x + 623)]) (rest := []) ⟨hx, hb, hml, hown, hts⟩ (h_canFinish G hL l hX0 hN ω x s g hs9 sv ip lt nd hC (x + 623) f9 ho (Or.inr (by omega)) (xs (i + 1)) (xs (i + 2))) (vx_cwSW 4 hts gL_law_L_canFinish rfl rfl rfl (by decide +kernel) ⟨Nat.le_of_ble_eq_true rfl, Nat.le_of_ble_eq_true rfl⟩) (fw_preS hW hR) rfl rfl hl.1 rfl (lv_room (Nat.le_of_ble_eq_true rfl)) dL_law_1774 ⟨by show cells + 2 ≤ 603072; omega, by show slots + 12 ≤ 7198826; omega⟩) hS (fun E ce q9 τ H locs hx_1 hR hS hce hcv hcl => hx_1.elim) (fun v τ H locs hq hR hS => ?_)
  obtain ⟨k, f8, rfl, hk, hB, ho', hC', hF⟩ := hq
  refine W.widen (k := cells + 3) (n := slots + 18) (by omega) (by omega) ?_
  refine W.eq (g2 := F0 mI 1777 ls [.int k]) rfl ?_
  refine lv_istore (lv' := (6, .int k) :: LV b x i) hx hb dL_law_1777 hl (by decide) rfl (fun ls hl => ?_)
  have hM' := hM.fr (τ := τ.2) (fun q q1 q2 => hF q (by omega) (by omega))
  have hd9 := (hF (x + 624) (by omega) (by omega)).trans hd
  refine lv_aload_n hx hb dL_law_1779 rfl (lv_at hl 3 rfl) ?_
  refine lw_arg C hl (k0 := 1) (k5 := 6) (n := 1) rfl rfl (by decide) (by decide) hi hL3 hS dL_law_1780 dL_law_1781 dL_law_1783 dL_law_1784 dL_law_1785 ?_
  refine lw_arg C hl (k0 := 1) (k5 := 6) (n := 2) rfl rfl (by decide) (by decide) hi hL3 hS dL_law_1786 dL_law_1787 dL_law_1789 dL_law_1790 dL_law_1791 ?_
  refine fw_call (va_runV (As := [.int (xs (i + 1)), .int (xs (i + 2))]) (rest := []) ⟨hx, hb, hml, hown, hts⟩ (j_canFinish G hL l τ (x + 614) s g bf hs9 sv ip lt nd td hM' hWG.1.1 (xs (i + 1)) (xs (i + 2))) (cwV 2 hts gL_law_X11_canFinish rfl rfl rfl (by decide +kernel) ⟨Nat.le_of_ble_eq_true rfl, Nat.le_of_ble_eq_true rfl⟩) (fw_preV hW hK hR hM'.1 rfl) rfl rfl hl.1 rfl (lv_room (Nat.le_of_ble_eq_true rfl)) dL_law_1792 ⟨by show cells + 3 + 0 ≤ 603072; omega, by show slots + 18 + 0 ≤ 7198826; omega⟩) hS (fun v τ2 H locs hq hR hS => ?_)
  obtain ⟨rfl, ⟨bf2, nd2, td2, hM2⟩, hF2⟩ := hq
  refine W.eq (g2 := F0 mI 1795 ls [.int ((canM s g nd (xs (i + 1)) (xs (i + 2))).1)]) rfl ?_
  refine lv_istore (lv' := (7, .int ((canM s g nd (xs (i + 1)) (xs (i + 2))).1)) :: (6, .int k) :: LV b x i) hx hb dL_law_1795 hl (by decide) rfl (fun ls hl => ?_)
  exact lw_tailZ C hk hB hM2 (hC'.fr (fun q q1 q2 => hF2 q (by omega))) ((hF2 _ (by omega)).trans ho') ((hF2 _ (by omega)).trans hd9) hR hS hl (by omega) (by omega) dL_law_1797 dL_law_1798 dL_law_1801 dL_law_1803 dL_law_1808 dL_law_1810 dL_law_1813 dL_law_1814 dL_law_1815 dL_law_1816 dL_law_1818 dL_law_1821 dL_law_1822 dL_law_1825 dL_law_1826 dL_law_1827 dL_law_1832 (by decide) (kk τ2)
theorem lc_couldFinish {G : FG} {l : Launch} {pP : Program} {eE : Env} {sS : State} {mI : MethodId} {ar9 : Array Value} {bl9 : List Frame} {meth : Method} {cD : Code} {adr : Nat → Nat} {b L : Nat} {xs : Nat → Int32} {Q : State → Prop} (C : LCx G l pP sS mI ar9 cD adr b L xs) {ω : FWd} {x i cells slots : Nat} {H : Heap} {locs : List Loc} {ls : Array Slot} (hi : i + 6 ≤ L) (hL3 : L ≤ 3072) (hI : LI G ω x) (hR : fR G ω H) (hS : va_S (fwA G) sS.heap H locs) (hl : lv_has ls 9 (LV b x i)) (hc : cells + 3 ≤ 603072) (hs : slots + 18 ≤ 7198826)
    (kk : ∀ (τ : FWd) (H : Heap) (locs : List Loc) (ls : Array Slot), LI G τ x → fR G τ H → va_S (fwA G) sS.heap H locs → lv_has ls 9 (LV b x i) → W pP l eE room_1 sS mI ar9 bl9 meth cD H locs (cells + 3) (slots + 18) Q (F0 mI 2711 ls [])) : W pP l eE room_1 sS mI ar9 bl9 meth cD H locs cells slots Q (F0 mI 1835 ls []) := by
  obtain ⟨s, g, hs9, sv, ip, lt, f9, fd, hC, ⟨bf, nd, td, hM⟩, ho, hd⟩ := hI
  obtain ⟨hx, hb, hml, hown, hts, hW, hL, hX0, hN, hFT, hJ, hX, hbl, hbA⟩ := id C
  have hK := hL.K hW
  obtain ⟨hWG, hk3, hk7, hk13, hlt9, v9, hte⟩ := li_f hC
  refine lv_aload_n hx hb dL_law_1835 rfl (lv_at hl 1 rfl) ?_
  refine lw_arg C hl (k0 := 0) (k5 := 5) (n := 1) rfl rfl (by decide) (by decide) hi hL3 hS dL_law_1836 dL_law_1837 dL_law_1839 dL_law_1840 dL_law_1841 ?_
  refine lv_aload_n hx hb dL_law_1842 rfl (lv_at hl 3 rfl) ?_
  refine fx_call (vx_runSX (As := [.ref x, .int (xs (i + 1)), .ref (x + 623)]) (rest := []) ⟨hx, hb, hml, hown, hts⟩ (h_couldFinish G hL l hX0 ω x s g hs9 sv ip lt nd bf hC (x + 623) f9 ho (Or.inr (by omega)) (xs (i + 1))) (vx_cwSW 3 hts gL_law_L_couldFinish rfl rfl rfl (by decide +kernel) ⟨Nat.le_of_ble_eq_true rfl, Nat.le_of_ble_eq_true rfl⟩) (fw_preS hW hR) rfl rfl hl.1 rfl (lv_room (Nat.le_of_ble_eq_true rfl)) dL_law_1843 ⟨by show cells + 1 ≤ 603072; omega, by show slots + 6 ≤ 7198826; omega⟩) hS (fun E ce q9 τ H locs hx_1 hR hS hce hcv hcl => hx_1.elim) (fun v τ H locs hq hR hS => ?_)
  obtain ⟨k, f8, rfl, hk, hB, ho', hC', hF⟩ := hq
  refine W.widen (k := cells + 3) (n := slots + 18) (by omega) (by omega) ?_
  refine W.eq (g2 := F0 mI 1846 ls [.int k]) rfl ?_
  refine lv_istore (lv' := (6, .int k) :: LV b x i) hx hb dL_law_1846 hl (by decide) rfl (fun ls hl => ?_)
  have hM' := hM.fr (τ := τ.2) (fun q q1 q2 => hF q (by omega) (by omega))
  have hd9 := (hF (x + 624) (by omega) (by omega)).trans hd
  refine lv_aload_n hx hb dL_law_1848 rfl (lv_at hl 3 rfl) ?_
  refine lw_arg C hl (k0 := 1) (k5 := 6) (n := 1) rfl rfl (by decide) (by decide) hi hL3 hS dL_law_1849 dL_law_1850 dL_law_1852 dL_law_1853 dL_law_1854 ?_
  refine fw_call (va_runV (As := [.int (xs (i + 1))]) (rest := []) ⟨hx, hb, hml, hown, hts⟩ (j_couldFinish G hL l τ (x + 614) s g bf hs9 sv ip lt nd td hM' hWG.1.1 (xs (i + 1))) (cwV 1 hts gL_law_X11_couldFinish rfl rfl rfl (by decide +kernel) ⟨Nat.le_of_ble_eq_true rfl, Nat.le_of_ble_eq_true rfl⟩) (fw_preV hW hK hR hM'.1 rfl) rfl rfl hl.1 rfl (lv_room (Nat.le_of_ble_eq_true rfl)) dL_law_1855 ⟨by show cells + 3 + 0 ≤ 603072; omega, by show slots + 18 + 0 ≤ 7198826; omega⟩) hS (fun v τ2 H locs hq hR hS => ?_)
  obtain ⟨rfl, ⟨bf2, nd2, td2, hM2⟩, hF2⟩ := hq
  refine W.eq (g2 := F0 mI 1858 ls [.int ((couldM s g nd bf (xs (i + 1))).1)]) rfl ?_
  refine lv_istore (lv' := (7, .int ((couldM s g nd bf (xs (i + 1))).1)) :: (6, .int k) :: LV b x i) hx hb dL_law_1858 hl (by decide) rfl (fun ls hl => ?_)
  exact lw_tail C hk hB hM2 (hC'.fr (fun q q1 q2 => hF2 q (by omega))) ((hF2 _ (by omega)).trans ho') ((hF2 _ (by omega)).trans hd9) hR hS hl (by omega) (by omega) dL_law_1860 dL_law_1861 dL_law_1864 dL_law_1866 dL_law_1871 dL_law_1873 dL_law_1876 dL_law_1877 dL_law_1878 dL_law_1879 dL_law_1881 dL_law_1882 dL_law_1883 dL_law_1888 (by decide) (kk τ2)
theorem lc_tin {G : FG} {l : Launch} {pP : Program} {eE : Env} {sS : State} {mI : MethodId} {ar9 : Array Value} {bl9 : List Frame} {meth : Method} {cD : Code} {adr : Nat → Nat} {b L : Nat} {xs : Nat → Int32} {Q : State → Prop} (C : LCx G l pP sS mI ar9 cD adr b L xs) {ω : FWd} {x i cells slots : Nat} {H : Heap} {locs : List Loc} {ls : Array Slot} (hi : i + 6 ≤ L) (hL3 : L ≤ 3072) (hI : LI G ω x) (hR : fR G ω H) (hS : va_S (fwA G) sS.heap H locs) (hl : lv_has ls 9 (LV b x i)) (hc : cells + 3 ≤ 603072) (hs : slots + 18 ≤ 7198826)
    (kk : ∀ (τ : FWd) (H : Heap) (locs : List Loc) (ls : Array Slot), LI G τ x → fR G τ H → va_S (fwA G) sS.heap H locs → lv_has ls 9 (LV b x i) → W pP l eE room_1 sS mI ar9 bl9 meth cD H locs (cells + 3) (slots + 18) Q (F0 mI 2711 ls [])) : W pP l eE room_1 sS mI ar9 bl9 meth cD H locs cells slots Q (F0 mI 1891 ls []) := by
  obtain ⟨s, g, hs9, sv, ip, lt, f9, fd, hC, ⟨bf, nd, td, hM⟩, ho, hd⟩ := hI
  obtain ⟨hx, hb, hml, hown, hts, hW, hL, hX0, hN, hFT, hJ, hX, hbl, hbA⟩ := id C
  have hK := hL.K hW
  obtain ⟨hWG, hk3, hk7, hk13, hlt9, v9, hte⟩ := li_f hC
  refine lv_aload_n hx hb dL_law_1891 rfl (lv_at hl 1 rfl) ?_
  refine lw_arg C hl (k0 := 0) (k5 := 5) (n := 1) rfl rfl (by decide) (by decide) hi hL3 hS dL_law_1892 dL_law_1893 dL_law_1895 dL_law_1896 dL_law_1897 ?_
  refine lv_aload_n hx hb dL_law_1898 rfl (lv_at hl 3 rfl) ?_
  refine fx_call (vx_runSX (As := [.ref x, .int (xs (i + 1)), .ref (x + 623)]) (rest := []) ⟨hx, hb, hml, hown, hts⟩ (h_tin G hL l hX0 ω x s g hs9 sv ip lt hC (x + 623) f9 ho (Or.inr (by omega)) (xs (i + 1))) (vx_cwSW 3 hts gL_law_L_tin rfl rfl rfl (by decide +kernel) ⟨Nat.le_of_ble_eq_true rfl, Nat.le_of_ble_eq_true rfl⟩) (fw_preS hW hR) rfl rfl hl.1 rfl (lv_room (Nat.le_of_ble_eq_true rfl)) dL_law_1899 ⟨by show cells + 1 ≤ 603072; omega, by show slots + 6 ≤ 7198826; omega⟩) hS (fun E ce q9 τ H locs hx_1 hR hS hce hcv hcl => hx_1.elim) (fun v τ H locs hq hR hS => ?_)
  obtain ⟨k, f8, rfl, hk, hB, ho', hC', hF⟩ := hq
  refine W.widen (k := cells + 3) (n := slots + 18) (by omega) (by omega) ?_
  refine W.eq (g2 := F0 mI 1902 ls [.int k]) rfl ?_
  refine lv_istore (lv' := (6, .int k) :: LV b x i) hx hb dL_law_1902 hl (by decide) rfl (fun ls hl => ?_)
  have hM' := hM.fr (τ := τ.2) (fun q q1 q2 => hF q (by omega) (by omega))
  have hd9 := (hF (x + 624) (by omega) (by omega)).trans hd
  refine lv_aload_n hx hb dL_law_1904 rfl (lv_at hl 3 rfl) ?_
  refine lw_arg C hl (k0 := 1) (k5 := 6) (n := 1) rfl rfl (by decide) (by decide) hi hL3 hS dL_law_1905 dL_law_1906 dL_law_1908 dL_law_1909 dL_law_1910 ?_
  refine fw_call (va_runV (As := [.int (xs (i + 1))]) (rest := []) ⟨hx, hb, hml, hown, hts⟩ (j_tin G hL l τ (x + 614) s g bf hs9 sv ip lt nd td hM' hWG.1.1 (xs (i + 1))) (cwV 1 hts gL_law_X11_tin rfl rfl rfl (by decide +kernel) ⟨Nat.le_of_ble_eq_true rfl, Nat.le_of_ble_eq_true rfl⟩) (fw_preV hW hK hR hM'.1 rfl) rfl rfl hl.1 rfl (lv_room (Nat.le_of_ble_eq_true rfl)) dL_law_1911 ⟨by show cells + 3 + 0 ≤ 603072; omega, by show slots + 18 + 0 ≤ 7198826; omega⟩) hS (fun v τ2 H locs hq hR hS => ?_)
  obtain ⟨rfl, ⟨bf2, nd2, td2, hM2⟩, hF2⟩ := hq
  refine W.eq (g2 := F0 mI 1914 ls [.int ((tinM s g (xs (i + 1))).1)]) rfl ?_
  refine lv_istore (lv' := (7, .int ((tinM s g (xs (i + 1))).1)) :: (6, .int k) :: LV b x i) hx hb dL_law_1914 hl (by decide) rfl (fun ls hl => ?_)
  exact lw_tail C hk hB hM2 (hC'.fr (fun q q1 q2 => hF2 q (by omega))) ((hF2 _ (by omega)).trans ho') ((hF2 _ (by omega)).trans hd9) hR hS hl (by omega) (by omega) dL_law_1916 dL_law_1917 dL_law_1920 dL_law_1922 dL_law_1927 dL_law_1929 dL_law_1932 dL_law_1933 dL_law_1934 dL_law_1935 dL_law_1937 dL_law_1938 dL_law_1939 dL_law_1944 (by decide) (kk τ2)
theorem lc_lost {G : FG} {l : Launch} {pP : Program} {eE : Env} {sS : State} {mI : MethodId} {ar9 : Array Value} {bl9 : List Frame} {meth : Method} {cD : Code} {adr : Nat → Nat} {b L : Nat} {xs : Nat → Int32} {Q : State → Prop} (C : LCx G l pP sS mI ar9 cD adr b L xs) {ω : FWd} {x i cells slots : Nat} {H : Heap} {locs : List Loc} {ls : Array Slot} (hi : i + 6 ≤ L) (hL3 : L ≤ 3072) (hI : LI G ω x) (hR : fR G ω H) (hS : va_S (fwA G) sS.heap H locs) (hl : lv_has ls 9 (LV b x i)) (hc : cells + 3 ≤ 603072) (hs : slots + 18 ≤ 7198826)
    (kk : ∀ (τ : FWd) (H : Heap) (locs : List Loc) (ls : Array Slot), LI G τ x → fR G τ H → va_S (fwA G) sS.heap H locs → lv_has ls 9 (LV b x i) → W pP l eE room_1 sS mI ar9 bl9 meth cD H locs (cells + 3) (slots + 18) Q (F0 mI 2711 ls [])) : W pP l eE room_1 sS mI ar9 bl9 meth cD H locs cells slots Q (F0 mI 1947 ls []) := by
  obtain ⟨s, g, hs9, sv, ip, lt, f9, fd, hC, ⟨bf, nd, td, hM⟩, ho, hd⟩ := hI
  obtain ⟨hx, hb, hml, hown, hts, hW, hL, hX0, hN, hFT, hJ, hX, hbl, hbA⟩ := id C
  have hK := hL.K hW
  obtain ⟨hWG, hk3, hk7, hk13, hlt9, v9, hte⟩ := li_f hC
  refine lv_aload_n hx hb dL_law_1947 rfl (lv_at hl 1 rfl) ?_
  refine lw_arg C hl (k0 := 0) (k5 := 5) (n := 1) rfl rfl (by decide) (by decide) hi hL3 hS dL_law_1948 dL_law_1949 dL_law_1951 dL_law_1952 dL_law_1953 ?_
  refine lv_aload_n hx hb dL_law_1954 rfl (lv_at hl 3 rfl) ?_
  refine fx_call (vx_runSX (As := [.ref x, .int (xs (i + 1)), .ref (x + 623)]) (rest := []) ⟨hx, hb, hml, hown, hts⟩ (h_lost G hL l hX0 ω x s g hs9 sv ip lt hC (x + 623) f9 ho (Or.inr (by omega)) (xs (i + 1))) (vx_cwSW 3 hts gL_law_L_lost rfl rfl rfl (by decide +kernel) ⟨Nat.le_of_ble_eq_true rfl, Nat.le_of_ble_eq_true rfl⟩) (fw_preS hW hR) rfl rfl hl.1 rfl (lv_room (Nat.le_of_ble_eq_true rfl)) dL_law_1955 ⟨by show cells + 1 ≤ 603072; omega, by show slots + 6 ≤ 7198826; omega⟩) hS (fun E ce q9 τ H locs hx_1 hR hS hce hcv hcl => hx_1.elim) (fun v τ H locs hq hR hS => ?_)
  obtain ⟨k, f8, rfl, hk, hB, ho', hC', hF⟩ := hq
  refine W.widen (k := cells + 3) (n := slots + 18) (by omega) (by omega) ?_
  refine W.eq (g2 := F0 mI 1958 ls [.int k]) rfl ?_
  refine lv_istore (lv' := (6, .int k) :: LV b x i) hx hb dL_law_1958 hl (by decide) rfl (fun ls hl => ?_)
  have hM' := hM.fr (τ := τ.2) (fun q q1 q2 => hF q (by omega) (by omega))
  have hd9 := (hF (x + 624) (by omega) (by omega)).trans hd
  refine lv_aload_n hx hb dL_law_1960 rfl (lv_at hl 3 rfl) ?_
  refine lw_arg C hl (k0 := 1) (k5 := 6) (n := 1) rfl rfl (by decide) (by decide) hi hL3 hS dL_law_1961 dL_law_1962 dL_law_1964 dL_law_1965 dL_law_1966 ?_
  refine fw_call (va_runV (As := [.int (xs (i + 1))]) (rest := []) ⟨hx, hb, hml, hown, hts⟩ (j_lost G hL l τ (x + 614) s g bf hs9 sv ip lt nd td hM' hWG.1.1 (xs (i + 1))) (cwV 1 hts gL_law_X11_lost rfl rfl rfl (by decide +kernel) ⟨Nat.le_of_ble_eq_true rfl, Nat.le_of_ble_eq_true rfl⟩) (fw_preV hW hK hR hM'.1 rfl) rfl rfl hl.1 rfl (lv_room (Nat.le_of_ble_eq_true rfl)) dL_law_1967 ⟨by show cells + 3 + 0 ≤ 603072; omega, by show slots + 18 + 0 ≤ 7198826; omega⟩) hS (fun v τ2 H locs hq hR hS => ?_)
  obtain ⟨rfl, ⟨bf2, nd2, td2, hM2⟩, hF2⟩ := hq
  refine W.eq (g2 := F0 mI 1970 ls [.int ((lostM s g (xs (i + 1))).1)]) rfl ?_
  refine lv_istore (lv' := (7, .int ((lostM s g (xs (i + 1))).1)) :: (6, .int k) :: LV b x i) hx hb dL_law_1970 hl (by decide) rfl (fun ls hl => ?_)
  exact lw_tail C hk hB hM2 (hC'.fr (fun q q1 q2 => hF2 q (by omega))) ((hF2 _ (by omega)).trans ho') ((hF2 _ (by omega)).trans hd9) hR hS hl (by omega) (by omega) dL_law_1972 dL_law_1973 dL_law_1976 dL_law_1978 dL_law_1983 dL_law_1985 dL_law_1988 dL_law_1989 dL_law_1990 dL_law_1991 dL_law_1993 dL_law_1994 dL_law_1995 dL_law_2000 (by decide) (kk τ2)
theorem lc_shelfOf {G : FG} {l : Launch} {pP : Program} {eE : Env} {sS : State} {mI : MethodId} {ar9 : Array Value} {bl9 : List Frame} {meth : Method} {cD : Code} {adr : Nat → Nat} {b L : Nat} {xs : Nat → Int32} {Q : State → Prop} (C : LCx G l pP sS mI ar9 cD adr b L xs) {ω : FWd} {x i cells slots : Nat} {H : Heap} {locs : List Loc} {ls : Array Slot} (hi : i + 6 ≤ L) (hL3 : L ≤ 3072) (hI : LI G ω x) (hR : fR G ω H) (hS : va_S (fwA G) sS.heap H locs) (hl : lv_has ls 9 (LV b x i)) (hc : cells + 3 ≤ 603072) (hs : slots + 18 ≤ 7198826)
    (kk : ∀ (τ : FWd) (H : Heap) (locs : List Loc) (ls : Array Slot), LI G τ x → fR G τ H → va_S (fwA G) sS.heap H locs → lv_has ls 9 (LV b x i) → W pP l eE room_1 sS mI ar9 bl9 meth cD H locs (cells + 3) (slots + 18) Q (F0 mI 2711 ls [])) : W pP l eE room_1 sS mI ar9 bl9 meth cD H locs cells slots Q (F0 mI 2003 ls []) := by
  obtain ⟨s, g, hs9, sv, ip, lt, f9, fd, hC, ⟨bf, nd, td, hM⟩, ho, hd⟩ := hI
  obtain ⟨hx, hb, hml, hown, hts, hW, hL, hX0, hN, hFT, hJ, hX, hbl, hbA⟩ := id C
  have hK := hL.K hW
  obtain ⟨hWG, hk3, hk7, hk13, hlt9, v9, hte⟩ := li_f hC
  refine lv_aload_n hx hb dL_law_2003 rfl (lv_at hl 1 rfl) ?_
  refine lw_arg C hl (k0 := 0) (k5 := 5) (n := 1) rfl rfl (by decide) (by decide) hi hL3 hS dL_law_2004 dL_law_2005 dL_law_2007 dL_law_2008 dL_law_2009 ?_
  refine lv_aload_n hx hb dL_law_2010 rfl (lv_at hl 3 rfl) ?_
  refine fx_call (vx_runSX (As := [.ref x, .int (xs (i + 1)), .ref (x + 623)]) (rest := []) ⟨hx, hb, hml, hown, hts⟩ (h_shelfOf G hL l hX0 ω x s g hs9 sv ip lt hC (x + 623) f9 ho (Or.inr (by omega)) (xs (i + 1))) (vx_cwSW 3 hts gL_law_L_shelfOf rfl rfl rfl (by decide +kernel) ⟨Nat.le_of_ble_eq_true rfl, Nat.le_of_ble_eq_true rfl⟩) (fw_preS hW hR) rfl rfl hl.1 rfl (lv_room (Nat.le_of_ble_eq_true rfl)) dL_law_2011 ⟨by show cells + 1 ≤ 603072; omega, by show slots + 6 ≤ 7198826; omega⟩) hS (fun E ce q9 τ H locs hx_1 hR hS hce hcv hcl => hx_1.elim) (fun v τ H locs hq hR hS => ?_)
  obtain ⟨k, f8, rfl, hk, hB, ho', hC', hF⟩ := hq
  refine W.widen (k := cells + 3) (n := slots + 18) (by omega) (by omega) ?_
  refine W.eq (g2 := F0 mI 2014 ls [.int k]) rfl ?_
  refine lv_istore (lv' := (6, .int k) :: LV b x i) hx hb dL_law_2014 hl (by decide) rfl (fun ls hl => ?_)
  have hM' := hM.fr (τ := τ.2) (fun q q1 q2 => hF q (by omega) (by omega))
  have hd9 := (hF (x + 624) (by omega) (by omega)).trans hd
  refine lv_aload_n hx hb dL_law_2016 rfl (lv_at hl 3 rfl) ?_
  refine lw_arg C hl (k0 := 1) (k5 := 6) (n := 1) rfl rfl (by decide) (by decide) hi hL3 hS dL_law_2017 dL_law_2018 dL_law_2020 dL_law_2021 dL_law_2022 ?_
  refine fw_call (va_runV (As := [.int (xs (i + 1))]) (rest := []) ⟨hx, hb, hml, hown, hts⟩ (j_shelfOf G hL l τ (x + 614) s g bf hs9 sv ip lt nd td hM' hWG.1.1 (xs (i + 1))) (cwV 1 hts gL_law_X11_shelfOf rfl rfl rfl (by decide +kernel) ⟨Nat.le_of_ble_eq_true rfl, Nat.le_of_ble_eq_true rfl⟩) (fw_preV hW hK hR hM'.1 rfl) rfl rfl hl.1 rfl (lv_room (Nat.le_of_ble_eq_true rfl)) dL_law_2023 ⟨by show cells + 3 + 0 ≤ 603072; omega, by show slots + 18 + 0 ≤ 7198826; omega⟩) hS (fun v τ2 H locs hq hR hS => ?_)
  obtain ⟨rfl, ⟨bf2, nd2, td2, hM2⟩, hF2⟩ := hq
  refine W.eq (g2 := F0 mI 2026 ls [.int ((shelfM s g (xs (i + 1))).1)]) rfl ?_
  refine lv_istore (lv' := (7, .int ((shelfM s g (xs (i + 1))).1)) :: (6, .int k) :: LV b x i) hx hb dL_law_2026 hl (by decide) rfl (fun ls hl => ?_)
  exact lw_tail C hk hB hM2 (hC'.fr (fun q q1 q2 => hF2 q (by omega))) ((hF2 _ (by omega)).trans ho') ((hF2 _ (by omega)).trans hd9) hR hS hl (by omega) (by omega) dL_law_2028 dL_law_2029 dL_law_2032 dL_law_2034 dL_law_2039 dL_law_2041 dL_law_2044 dL_law_2045 dL_law_2046 dL_law_2047 dL_law_2049 dL_law_2050 dL_law_2051 dL_law_2056 (by decide) (kk τ2)
theorem lc_ranked {G : FG} {l : Launch} {pP : Program} {eE : Env} {sS : State} {mI : MethodId} {ar9 : Array Value} {bl9 : List Frame} {meth : Method} {cD : Code} {adr : Nat → Nat} {b L : Nat} {xs : Nat → Int32} {Q : State → Prop} (C : LCx G l pP sS mI ar9 cD adr b L xs) {ω : FWd} {x i cells slots : Nat} {H : Heap} {locs : List Loc} {ls : Array Slot} (hi : i + 6 ≤ L) (hL3 : L ≤ 3072) (hI : LI G ω x) (hR : fR G ω H) (hS : va_S (fwA G) sS.heap H locs) (hl : lv_has ls 9 (LV b x i)) (hc : cells + 3 ≤ 603072) (hs : slots + 18 ≤ 7198826)
    (kk : ∀ (τ : FWd) (H : Heap) (locs : List Loc) (ls : Array Slot), LI G τ x → fR G τ H → va_S (fwA G) sS.heap H locs → lv_has ls 9 (LV b x i) → W pP l eE room_1 sS mI ar9 bl9 meth cD H locs (cells + 3) (slots + 18) Q (F0 mI 2711 ls [])) : W pP l eE room_1 sS mI ar9 bl9 meth cD H locs cells slots Q (F0 mI 2059 ls []) := by
  obtain ⟨s, g, hs9, sv, ip, lt, f9, fd, hC, ⟨bf, nd, td, hM⟩, ho, hd⟩ := hI
  obtain ⟨hx, hb, hml, hown, hts, hW, hL, hX0, hN, hFT, hJ, hX, hbl, hbA⟩ := id C
  have hK := hL.K hW
  obtain ⟨hWG, hk3, hk7, hk13, hlt9, v9, hte⟩ := li_f hC
  refine lv_aload_n hx hb dL_law_2059 rfl (lv_at hl 1 rfl) ?_
  refine lw_arg C hl (k0 := 0) (k5 := 5) (n := 1) rfl rfl (by decide) (by decide) hi hL3 hS dL_law_2060 dL_law_2061 dL_law_2063 dL_law_2064 dL_law_2065 ?_
  refine lw_arg C hl (k0 := 0) (k5 := 5) (n := 2) rfl rfl (by decide) (by decide) hi hL3 hS dL_law_2066 dL_law_2067 dL_law_2069 dL_law_2070 dL_law_2071 ?_
  refine lv_aload_n hx hb dL_law_2072 rfl (lv_at hl 3 rfl) ?_
  refine fx_call (vx_runSX (As := [.ref x, .int (xs (i + 1)), .int (xs (i + 2)), .ref (x + 623)]) (rest := []) ⟨hx, hb, hml, hown, hts⟩ (h_ranked G hL l hX0 hN ω x s g hs9 sv ip lt hC (x + 623) f9 ho (Or.inr (by omega)) (xs (i + 1)) (xs (i + 2))) (vx_cwSW 4 hts gL_law_L_ranked rfl rfl rfl (by decide +kernel) ⟨Nat.le_of_ble_eq_true rfl, Nat.le_of_ble_eq_true rfl⟩) (fw_preS hW hR) rfl rfl hl.1 rfl (lv_room (Nat.le_of_ble_eq_true rfl)) dL_law_2073 ⟨by show cells + 1 ≤ 603072; omega, by show slots + 6 ≤ 7198826; omega⟩) hS (fun E ce q9 τ H locs hx_1 hR hS hce hcv hcl => hx_1.elim) (fun v τ H locs hq hR hS => ?_)
  obtain ⟨k, f8, rfl, hk, hB, ho', hC', hF⟩ := hq
  refine W.widen (k := cells + 3) (n := slots + 18) (by omega) (by omega) ?_
  refine W.eq (g2 := F0 mI 2076 ls [.int k]) rfl ?_
  refine lv_istore (lv' := (6, .int k) :: LV b x i) hx hb dL_law_2076 hl (by decide) rfl (fun ls hl => ?_)
  have hM' := hM.fr (τ := τ.2) (fun q q1 q2 => hF q (by omega) (by omega))
  have hd9 := (hF (x + 624) (by omega) (by omega)).trans hd
  refine lv_aload_n hx hb dL_law_2078 rfl (lv_at hl 3 rfl) ?_
  refine lw_arg C hl (k0 := 1) (k5 := 6) (n := 1) rfl rfl (by decide) (by decide) hi hL3 hS dL_law_2079 dL_law_2080 dL_law_2082 dL_law_2083 dL_law_2084 ?_
  refine lw_arg C hl (k0 := 1) (k5 := 6) (n := 2) rfl rfl (by decide) (by decide) hi hL3 hS dL_law_2085 dL_law_2086 dL_law_2088 dL_law_2089 dL_law_2090 ?_
  refine fw_call (va_runV (As := [.int (xs (i + 1)), .int (xs (i + 2))]) (rest := []) ⟨hx, hb, hml, hown, hts⟩ (j_ranked G hL l τ (x + 614) s g bf hs9 sv ip lt nd td hM' hWG.1.1 (xs (i + 1)) (xs (i + 2))) (cwV 2 hts gL_law_X11_ranked rfl rfl rfl (by decide +kernel) ⟨Nat.le_of_ble_eq_true rfl, Nat.le_of_ble_eq_true rfl⟩) (fw_preV hW hK hR hM'.1 rfl) rfl rfl hl.1 rfl (lv_room (Nat.le_of_ble_eq_true rfl)) dL_law_2091 ⟨by show cells + 3 + 0 ≤ 603072; omega, by show slots + 18 + 0 ≤ 7198826; omega⟩) hS (fun v τ2 H locs hq hR hS => ?_)
  obtain ⟨rfl, ⟨bf2, nd2, td2, hM2⟩, hF2⟩ := hq
  refine W.eq (g2 := F0 mI 2094 ls [.int ((rankM s g (xs (i + 1)) (xs (i + 2))).1)]) rfl ?_
  refine lv_istore (lv' := (7, .int ((rankM s g (xs (i + 1)) (xs (i + 2))).1)) :: (6, .int k) :: LV b x i) hx hb dL_law_2094 hl (by decide) rfl (fun ls hl => ?_)
  exact lw_tail C hk hB hM2 (hC'.fr (fun q q1 q2 => hF2 q (by omega))) ((hF2 _ (by omega)).trans ho') ((hF2 _ (by omega)).trans hd9) hR hS hl (by omega) (by omega) dL_law_2096 dL_law_2097 dL_law_2100 dL_law_2102 dL_law_2107 dL_law_2109 dL_law_2112 dL_law_2113 dL_law_2114 dL_law_2115 dL_law_2117 dL_law_2118 dL_law_2119 dL_law_2124 (by decide) (kk τ2)
