/-! ===== printed by program (wip/whole/gen/lay_law.py cases): the law, call by call ===== -/
theorem lc_leaflet {G : FG} {l : Launch} {pP : Program} {eE : Env} {sS : State} {mI : MethodId} {ar9 : Array Value} {bl9 : List Frame} {meth : Method} {cD : Code} {adr : Nat → Nat} {b L : Nat} {xs : Nat → Int32} {Q : State → Prop} (C : LCx G l pP sS mI ar9 cD adr b L xs) {ω : FWd} {x i cells slots : Nat} {H : Heap} {locs : List Loc} {ls : Array Slot} (hi : i + 6 ≤ L) (hL3 : L ≤ 3072) (hI : LI G ω x) (hR : fR G ω H) (hS : va_S (fwA G) sS.heap H locs) (hl : lv_has ls 9 (LV b x i)) (hc : cells + 3 ≤ 603072) (hs : slots + 18 ≤ 7198826)
    (kk : ∀ (τ : FWd) (H : Heap) (locs : List Loc) (ls : Array Slot), LI G τ x → fR G τ H → va_S (fwA G) sS.heap H locs → lv_has ls 9 (LV b x i) → W pP l eE room_1 sS mI ar9 bl9 meth cD H locs (cells + 3) (slots + 18) Q (F0 mI 2711 ls [])) : W pP l eE room_1 sS mI ar9 bl9 meth cD H locs cells slots Q (F0 mI 224 ls []) := by
  obtain ⟨s, g, hs9, sv, ip, lt, f9, fd, hC, ⟨bf, nd, td, hM⟩, ho, hd⟩ := hI
  obtain ⟨hx, hb, hml, hown, hts, hW, hL, hX0, hN, hFT, hJ, hX, hbl, hbA⟩ := id C
  have hK := hL.K hW
  obtain ⟨hWG, hk3, hk7, hk13, hlt9, v9, hte⟩ := li_f hC
  refine lv_aload_n hx hb dL_law_224 rfl (lv_at hl 1 rfl) ?_
  refine lw_arg C hl (k0 := 0) (k5 := 5) (n := 1) rfl rfl (by decide) (by decide) hi hL3 hS dL_law_225 dL_law_226 dL_law_228 dL_law_229 dL_law_230 ?_
  refine lv_aload_n hx hb dL_law_231 rfl (lv_at hl 3 rfl) ?_
  refine fx_call (vx_runSX (As := [.ref x, .int (xs (i + 1)), .ref (x + 623)]) (rest := []) ⟨hx, hb, hml, hown, hts⟩ (h_leaflet G hL l hX0 ω x s g hs9 sv ip lt bf hC (x + 623) f9 ho (Or.inr (by omega)) (xs (i + 1))) (vx_cwSW 3 hts gL_law_L_leaflet rfl rfl rfl (by decide +kernel) ⟨Nat.le_of_ble_eq_true rfl, Nat.le_of_ble_eq_true rfl⟩) (fw_preS hW hR) rfl rfl hl.1 rfl (lv_room (Nat.le_of_ble_eq_true rfl)) dL_law_232 ⟨by show cells + 1 ≤ 603072; omega, by show slots + 6 ≤ 7198826; omega⟩) hS (fun E ce q9 τ H locs hx_1 hR hS hce hcv hcl => hx_1.elim) (fun v τ H locs hq hR hS => ?_)
  obtain ⟨k, f8, rfl, hk, hB, ho', hC', hF⟩ := hq
  refine W.widen (k := cells + 3) (n := slots + 18) (by omega) (by omega) ?_
  refine W.eq (g2 := F0 mI 235 ls [.int k]) rfl ?_
  refine lv_istore (lv' := (6, .int k) :: LV b x i) hx hb dL_law_235 hl (by decide) rfl (fun ls hl => ?_)
  have hM' := hM.fr (τ := τ.2) (fun q q1 q2 => hF q (by omega) (by omega))
  have hd9 := (hF (x + 624) (by omega) (by omega)).trans hd
  refine lv_aload_n hx hb dL_law_237 rfl (lv_at hl 3 rfl) ?_
  refine lw_arg C hl (k0 := 1) (k5 := 6) (n := 1) rfl rfl (by decide) (by decide) hi hL3 hS dL_law_238 dL_law_239 dL_law_241 dL_law_242 dL_law_243 ?_
  refine fw_call (va_runV (As := [.int (xs (i + 1))]) (rest := []) ⟨hx, hb, hml, hown, hts⟩ (j_leaflet G hL l τ (x + 614) s g bf hs9 sv ip lt nd td hM' hWG.1.1 hk3 (xs (i + 1))) (cwV 1 hts gL_law_X11_leaflet rfl rfl rfl (by decide +kernel) ⟨Nat.le_of_ble_eq_true rfl, Nat.le_of_ble_eq_true rfl⟩) (fw_preV hW hK hR hM'.1 rfl) rfl rfl hl.1 rfl (lv_room (Nat.le_of_ble_eq_true rfl)) dL_law_244 ⟨by show cells + 3 + 0 ≤ 603072; omega, by show slots + 18 + 0 ≤ 7198826; omega⟩) hS (fun v τ2 H locs hq hR hS => ?_)
  obtain ⟨rfl, ⟨bf2, nd2, td2, hM2⟩, hF2⟩ := hq
  refine W.eq (g2 := F0 mI 247 ls [.int ((leafletM s g bf hs9 (xs (i + 1))).1)]) rfl ?_
  refine lv_istore (lv' := (7, .int ((leafletM s g bf hs9 (xs (i + 1))).1)) :: (6, .int k) :: LV b x i) hx hb dL_law_247 hl (by decide) rfl (fun ls hl => ?_)
  exact lw_tail C hk hB hM2 (hC'.fr (fun q q1 q2 => hF2 q (by omega))) ((hF2 _ (by omega)).trans ho') ((hF2 _ (by omega)).trans hd9) hR hS hl (by omega) (by omega) dL_law_249 dL_law_250 dL_law_253 dL_law_255 dL_law_260 dL_law_262 dL_law_265 dL_law_266 dL_law_267 dL_law_268 dL_law_270 dL_law_271 dL_law_272 dL_law_277 (by decide) (kk τ2)
theorem lc_step {G : FG} {l : Launch} {pP : Program} {eE : Env} {sS : State} {mI : MethodId} {ar9 : Array Value} {bl9 : List Frame} {meth : Method} {cD : Code} {adr : Nat → Nat} {b L : Nat} {xs : Nat → Int32} {Q : State → Prop} (C : LCx G l pP sS mI ar9 cD adr b L xs) {ω : FWd} {x i cells slots : Nat} {H : Heap} {locs : List Loc} {ls : Array Slot} (hi : i + 6 ≤ L) (hL3 : L ≤ 3072) (hI : LI G ω x) (hR : fR G ω H) (hS : va_S (fwA G) sS.heap H locs) (hl : lv_has ls 9 (LV b x i)) (hc : cells + 3 ≤ 603072) (hs : slots + 18 ≤ 7198826)
    (kk : ∀ (τ : FWd) (H : Heap) (locs : List Loc) (ls : Array Slot), LI G τ x → fR G τ H → va_S (fwA G) sS.heap H locs → lv_has ls 9 (LV b x i) → W pP l eE room_1 sS mI ar9 bl9 meth cD H locs (cells + 3) (slots + 18) Q (F0 mI 2711 ls [])) : W pP l eE room_1 sS mI ar9 bl9 meth cD H locs cells slots Q (F0 mI 280 ls []) := by
  obtain ⟨s, g, hs9, sv, ip, lt, f9, fd, hC, ⟨bf, nd, td, hM⟩, ho, hd⟩ := hI
  obtain ⟨hx, hb, hml, hown, hts, hW, hL, hX0, hN, hFT, hJ, hX, hbl, hbA⟩ := id C
  have hK := hL.K hW
  obtain ⟨hWG, hk3, hk7, hk13, hlt9, v9, hte⟩ := li_f hC
  refine lv_aload_n hx hb dL_law_280 rfl (lv_at hl 1 rfl) ?_
  refine lw_arg C hl (k0 := 0) (k5 := 5) (n := 1) rfl rfl (by decide) (by decide) hi hL3 hS dL_law_281 dL_law_282 dL_law_284 dL_law_285 dL_law_286 ?_
  refine lw_arg C hl (k0 := 0) (k5 := 5) (n := 2) rfl rfl (by decide) (by decide) hi hL3 hS dL_law_287 dL_law_288 dL_law_290 dL_law_291 dL_law_292 ?_
  refine lw_arg C hl (k0 := 0) (k5 := 5) (n := 3) rfl rfl (by decide) (by decide) hi hL3 hS dL_law_293 dL_law_294 dL_law_296 dL_law_297 dL_law_298 ?_
  refine lw_arg C hl (k0 := 0) (k5 := 5) (n := 4) rfl rfl (by decide) (by decide) hi hL3 hS dL_law_299 dL_law_300 dL_law_302 dL_law_303 dL_law_304 ?_
  refine lw_arg C hl (k0 := 0) (k5 := 5) (n := 5) rfl rfl (by decide) (by decide) hi hL3 hS dL_law_305 dL_law_306 dL_law_308 dL_law_309 dL_law_310 ?_
  refine lz_bool hx hb dL_law_311 dL_law_314 dL_law_315 dL_law_318 ?_
  refine lv_aload_n hx hb dL_law_319 rfl (lv_at hl 3 rfl) ?_
  refine fx_call (vx_runSX (As := [.ref x, .int (xs (i + 1)), .int (xs (i + 2)), .int (xs (i + 3)), .int (xs (i + 4)), .int (if (xs (i + 5)) = 0 then 0 else 1), .ref (x + 623)]) (rest := []) ⟨hx, hb, hml, hown, hts⟩ (h_step G hL l hX0 ω x s g hs9 sv ip lt bf hC (x + 623) f9 ho (Or.inr (by omega)) (xs (i + 1)) (xs (i + 2)) (xs (i + 3)) (xs (i + 4)) (if (xs (i + 5)) = 0 then 0 else 1)) (vx_cwSW 7 hts gL_law_L_step rfl rfl rfl (by decide +kernel) ⟨Nat.le_of_ble_eq_true rfl, Nat.le_of_ble_eq_true rfl⟩) (fw_preS hW hR) rfl rfl hl.1 rfl (lv_room (Nat.le_of_ble_eq_true rfl)) dL_law_320 ⟨by show cells + 1 ≤ 603072; omega, by show slots + 6 ≤ 7198826; omega⟩) hS (fun E ce q9 τ H locs hx_1 hR hS hce hcv hcl => hx_1.elim) (fun v τ H locs hq hR hS => ?_)
  obtain ⟨k, f8, rfl, hk, hB, ho', hC', hF⟩ := hq
  refine W.widen (k := cells + 3) (n := slots + 18) (by omega) (by omega) ?_
  refine W.eq (g2 := F0 mI 323 ls [.int k]) rfl ?_
  refine lv_istore (lv' := (6, .int k) :: LV b x i) hx hb dL_law_323 hl (by decide) rfl (fun ls hl => ?_)
  have hM' := hM.fr (τ := τ.2) (fun q q1 q2 => hF q (by omega) (by omega))
  have hd9 := (hF (x + 624) (by omega) (by omega)).trans hd
  refine lv_aload_n hx hb dL_law_325 rfl (lv_at hl 3 rfl) ?_
  refine lw_arg C hl (k0 := 1) (k5 := 6) (n := 1) rfl rfl (by decide) (by decide) hi hL3 hS dL_law_326 dL_law_327 dL_law_329 dL_law_330 dL_law_331 ?_
  refine lw_arg C hl (k0 := 1) (k5 := 6) (n := 2) rfl rfl (by decide) (by decide) hi hL3 hS dL_law_332 dL_law_333 dL_law_335 dL_law_336 dL_law_337 ?_
  refine lw_arg C hl (k0 := 1) (k5 := 6) (n := 3) rfl rfl (by decide) (by decide) hi hL3 hS dL_law_338 dL_law_339 dL_law_341 dL_law_342 dL_law_343 ?_
  refine lw_arg C hl (k0 := 1) (k5 := 6) (n := 4) rfl rfl (by decide) (by decide) hi hL3 hS dL_law_344 dL_law_345 dL_law_347 dL_law_348 dL_law_349 ?_
  refine lw_arg C hl (k0 := 1) (k5 := 6) (n := 5) rfl rfl (by decide) (by decide) hi hL3 hS dL_law_350 dL_law_351 dL_law_353 dL_law_354 dL_law_355 ?_
  refine lz_bool hx hb dL_law_356 dL_law_359 dL_law_360 dL_law_363 ?_
  refine fw_call (va_runV (As := [.int (xs (i + 1)), .int (xs (i + 2)), .int (xs (i + 3)), .int (xs (i + 4)), .int (if (xs (i + 5)) = 0 then 0 else 1)]) (rest := []) ⟨hx, hb, hml, hown, hts⟩ (j_step G hL l τ (x + 614) s g bf hs9 sv ip lt nd td hM' hWG.1.1 hk3 (xs (i + 1)) (xs (i + 2)) (xs (i + 3)) (xs (i + 4)) (if (xs (i + 5)) = 0 then 0 else 1)) (cwV 5 hts gL_law_X11_step rfl rfl rfl (by decide +kernel) ⟨Nat.le_of_ble_eq_true rfl, Nat.le_of_ble_eq_true rfl⟩) (fw_preV hW hK hR hM'.1 rfl) rfl rfl hl.1 rfl (lv_room (Nat.le_of_ble_eq_true rfl)) dL_law_364 ⟨by show cells + 3 + 0 ≤ 603072; omega, by show slots + 18 + 0 ≤ 7198826; omega⟩) hS (fun v τ2 H locs hq hR hS => ?_)
  obtain ⟨rfl, ⟨bf2, nd2, td2, hM2⟩, hF2⟩ := hq
  refine W.eq (g2 := F0 mI 367 ls [.int ((stepM s g bf hs9 (xs (i + 1)) (xs (i + 2)) (xs (i + 3)) (xs (i + 4)) (if (xs (i + 5)) = 0 then 0 else 1)).1)]) rfl ?_
  refine lv_istore (lv' := (7, .int ((stepM s g bf hs9 (xs (i + 1)) (xs (i + 2)) (xs (i + 3)) (xs (i + 4)) (if (xs (i + 5)) = 0 then 0 else 1)).1)) :: (6, .int k) :: LV b x i) hx hb dL_law_367 hl (by decide) rfl (fun ls hl => ?_)
  exact lw_tail C hk hB hM2 (hC'.fr (fun q q1 q2 => hF2 q (by omega))) ((hF2 _ (by omega)).trans ho') ((hF2 _ (by omega)).trans hd9) hR hS hl (by omega) (by omega) dL_law_369 dL_law_370 dL_law_373 dL_law_375 dL_law_380 dL_law_382 dL_law_385 dL_law_386 dL_law_387 dL_law_388 dL_law_390 dL_law_391 dL_law_392 dL_law_397 (by decide) (kk τ2)
theorem lc_fold {G : FG} {l : Launch} {pP : Program} {eE : Env} {sS : State} {mI : MethodId} {ar9 : Array Value} {bl9 : List Frame} {meth : Method} {cD : Code} {adr : Nat → Nat} {b L : Nat} {xs : Nat → Int32} {Q : State → Prop} (C : LCx G l pP sS mI ar9 cD adr b L xs) {ω : FWd} {x i cells slots : Nat} {H : Heap} {locs : List Loc} {ls : Array Slot} (hi : i + 6 ≤ L) (hL3 : L ≤ 3072) (hI : LI G ω x) (hR : fR G ω H) (hS : va_S (fwA G) sS.heap H locs) (hl : lv_has ls 9 (LV b x i)) (hc : cells + 3 ≤ 603072) (hs : slots + 18 ≤ 7198826)
    (kk : ∀ (τ : FWd) (H : Heap) (locs : List Loc) (ls : Array Slot), LI G τ x → fR G τ H → va_S (fwA G) sS.heap H locs → lv_has ls 9 (LV b x i) → W pP l eE room_1 sS mI ar9 bl9 meth cD H locs (cells + 3) (slots + 18) Q (F0 mI 2711 ls [])) : W pP l eE room_1 sS mI ar9 bl9 meth cD H locs cells slots Q (F0 mI 400 ls []) := by
  obtain ⟨s, g, hs9, sv, ip, lt, f9, fd, hC, ⟨bf, nd, td, hM⟩, ho, hd⟩ := hI
  obtain ⟨hx, hb, hml, hown, hts, hW, hL, hX0, hN, hFT, hJ, hX, hbl, hbA⟩ := id C
  have hK := hL.K hW
  obtain ⟨hWG, hk3, hk7, hk13, hlt9, v9, hte⟩ := li_f hC
  refine lv_aload_n hx hb dL_law_400 rfl (lv_at hl 1 rfl) ?_
  refine lw_arg C hl (k0 := 0) (k5 := 5) (n := 1) rfl rfl (by decide) (by decide) hi hL3 hS dL_law_401 dL_law_402 dL_law_404 dL_law_405 dL_law_406 ?_
  refine lv_aload_n hx hb dL_law_407 rfl (lv_at hl 3 rfl) ?_
  refine fx_call (vx_runSX (As := [.ref x, .int (xs (i + 1)), .ref (x + 623)]) (rest := []) ⟨hx, hb, hml, hown, hts⟩ (h_fold G hL l hX0 ω x s g hs9 sv ip lt bf hC (x + 623) f9 ho (Or.inr (by omega)) (xs (i + 1))) (vx_cwSW 3 hts gL_law_L_fold rfl rfl rfl (by decide +kernel) ⟨Nat.le_of_ble_eq_true rfl, Nat.le_of_ble_eq_true rfl⟩) (fw_preS hW hR) rfl rfl hl.1 rfl (lv_room (Nat.le_of_ble_eq_true rfl)) dL_law_408 ⟨by show cells + 1 ≤ 603072; omega, by show slots + 6 ≤ 7198826; omega⟩) hS (fun E ce q9 τ H locs hx_1 hR hS hce hcv hcl => hx_1.elim) (fun v τ H locs hq hR hS => ?_)
  obtain ⟨k, f8, rfl, hk, hB, ho', hC', hF⟩ := hq
  refine W.widen (k := cells + 3) (n := slots + 18) (by omega) (by omega) ?_
  refine W.eq (g2 := F0 mI 411 ls [.int k]) rfl ?_
  refine lv_istore (lv' := (6, .int k) :: LV b x i) hx hb dL_law_411 hl (by decide) rfl (fun ls hl => ?_)
  have hM' := hM.fr (τ := τ.2) (fun q q1 q2 => hF q (by omega) (by omega))
  have hd9 := (hF (x + 624) (by omega) (by omega)).trans hd
  refine lv_aload_n hx hb dL_law_413 rfl (lv_at hl 3 rfl) ?_
  refine lw_arg C hl (k0 := 1) (k5 := 6) (n := 1) rfl rfl (by decide) (by decide) hi hL3 hS dL_law_414 dL_law_415 dL_law_417 dL_law_418 dL_law_419 ?_
  refine fw_call (va_runV (As := [.int (xs (i + 1))]) (rest := []) ⟨hx, hb, hml, hown, hts⟩ (j_fold G hL l τ (x + 614) s g bf hs9 sv ip lt nd td hM' hWG.1.1 hk3 (xs (i + 1))) (cwV 1 hts gL_law_X11_fold rfl rfl rfl (by decide +kernel) ⟨Nat.le_of_ble_eq_true rfl, Nat.le_of_ble_eq_true rfl⟩) (fw_preV hW hK hR hM'.1 rfl) rfl rfl hl.1 rfl (lv_room (Nat.le_of_ble_eq_true rfl)) dL_law_420 ⟨by show cells + 3 + 0 ≤ 603072; omega, by show slots + 18 + 0 ≤ 7198826; omega⟩) hS (fun v τ2 H locs hq hR hS => ?_)
  obtain ⟨rfl, ⟨bf2, nd2, td2, hM2⟩, hF2⟩ := hq
  refine W.eq (g2 := F0 mI 423 ls [.int ((foldM s g bf hs9 (xs (i + 1))).1)]) rfl ?_
  refine lv_istore (lv' := (7, .int ((foldM s g bf hs9 (xs (i + 1))).1)) :: (6, .int k) :: LV b x i) hx hb dL_law_423 hl (by decide) rfl (fun ls hl => ?_)
  exact lw_tail C hk hB hM2 (hC'.fr (fun q q1 q2 => hF2 q (by omega))) ((hF2 _ (by omega)).trans ho') ((hF2 _ (by omega)).trans hd9) hR hS hl (by omega) (by omega) dL_law_425 dL_law_426 dL_law_429 dL_law_431 dL_law_436 dL_law_438 dL_law_441 dL_law_442 dL_law_443 dL_law_444 dL_law_446 dL_law_447 dL_law_448 dL_law_453 (by decide) (kk τ2)
theorem lc_unfold {G : FG} {l : Launch} {pP : Program} {eE : Env} {sS : State} {mI : MethodId} {ar9 : Array Value} {bl9 : List Frame} {meth : Method} {cD : Code} {adr : Nat → Nat} {b L : Nat} {xs : Nat → Int32} {Q : State → Prop} (C : LCx G l pP sS mI ar9 cD adr b L xs) {ω : FWd} {x i cells slots : Nat} {H : Heap} {locs : List Loc} {ls : Array Slot} (hi : i + 6 ≤ L) (hL3 : L ≤ 3072) (hI : LI G ω x) (hR : fR G ω H) (hS : va_S (fwA G) sS.heap H locs) (hl : lv_has ls 9 (LV b x i)) (hc : cells + 3 ≤ 603072) (hs : slots + 18 ≤ 7198826)
    (kk : ∀ (τ : FWd) (H : Heap) (locs : List Loc) (ls : Array Slot), LI G τ x → fR G τ H → va_S (fwA G) sS.heap H locs → lv_has ls 9 (LV b x i) → W pP l eE room_1 sS mI ar9 bl9 meth cD H locs (cells + 3) (slots + 18) Q (F0 mI 2711 ls [])) : W pP l eE room_1 sS mI ar9 bl9 meth cD H locs cells slots Q (F0 mI 456 ls []) := by
  obtain ⟨s, g, hs9, sv, ip, lt, f9, fd, hC, ⟨bf, nd, td, hM⟩, ho, hd⟩ := hI
  obtain ⟨hx, hb, hml, hown, hts, hW, hL, hX0, hN, hFT, hJ, hX, hbl, hbA⟩ := id C
  have hK := hL.K hW
  obtain ⟨hWG, hk3, hk7, hk13, hlt9, v9, hte⟩ := li_f hC
  refine lv_aload_n hx hb dL_law_456 rfl (lv_at hl 1 rfl) ?_
  refine lw_arg C hl (k0 := 0) (k5 := 5) (n := 1) rfl rfl (by decide) (by decide) hi hL3 hS dL_law_457 dL_law_458 dL_law_460 dL_law_461 dL_law_462 ?_
  refine lv_aload_n hx hb dL_law_463 rfl (lv_at hl 3 rfl) ?_
  refine fx_call (vx_runSX (As := [.ref x, .int (xs (i + 1)), .ref (x + 623)]) (rest := []) ⟨hx, hb, hml, hown, hts⟩ (h_unfold G hL l hX0 ω x s g hs9 sv ip lt bf hC (x + 623) f9 ho (Or.inr (by omega)) (xs (i + 1))) (vx_cwSW 3 hts gL_law_L_unfold rfl rfl rfl (by decide +kernel) ⟨Nat.le_of_ble_eq_true rfl, Nat.le_of_ble_eq_true rfl⟩) (fw_preS hW hR) rfl rfl hl.1 rfl (lv_room (Nat.le_of_ble_eq_true rfl)) dL_law_464 ⟨by show cells + 1 ≤ 603072; omega, by show slots + 6 ≤ 7198826; omega⟩) hS (fun E ce q9 τ H locs hx_1 hR hS hce hcv hcl => hx_1.elim) (fun v τ H locs hq hR hS => ?_)
  obtain ⟨k, f8, rfl, hk, hB, ho', hC', hF⟩ := hq
  refine W.widen (k := cells + 3) (n := slots + 18) (by omega) (by omega) ?_
  refine W.eq (g2 := F0 mI 467 ls [.int k]) rfl ?_
  refine lv_istore (lv' := (6, .int k) :: LV b x i) hx hb dL_law_467 hl (by decide) rfl (fun ls hl => ?_)
  have hM' := hM.fr (τ := τ.2) (fun q q1 q2 => hF q (by omega) (by omega))
  have hd9 := (hF (x + 624) (by omega) (by omega)).trans hd
  refine lv_aload_n hx hb dL_law_469 rfl (lv_at hl 3 rfl) ?_
  refine lw_arg C hl (k0 := 1) (k5 := 6) (n := 1) rfl rfl (by decide) (by decide) hi hL3 hS dL_law_470 dL_law_471 dL_law_473 dL_law_474 dL_law_475 ?_
  refine fw_call (va_runV (As := [.int (xs (i + 1))]) (rest := []) ⟨hx, hb, hml, hown, hts⟩ (j_unfold G hL l τ (x + 614) s g bf hs9 sv ip lt nd td hM' hWG.1.1 hk3 (xs (i + 1))) (cwV 1 hts gL_law_X11_unfold rfl rfl rfl (by decide +kernel) ⟨Nat.le_of_ble_eq_true rfl, Nat.le_of_ble_eq_true rfl⟩) (fw_preV hW hK hR hM'.1 rfl) rfl rfl hl.1 rfl (lv_room (Nat.le_of_ble_eq_true rfl)) dL_law_476 ⟨by show cells + 3 + 0 ≤ 603072; omega, by show slots + 18 + 0 ≤ 7198826; omega⟩) hS (fun v τ2 H locs hq hR hS => ?_)
  obtain ⟨rfl, ⟨bf2, nd2, td2, hM2⟩, hF2⟩ := hq
  refine W.eq (g2 := F0 mI 479 ls [.int ((unfoldM s g bf hs9 (xs (i + 1))).1)]) rfl ?_
  refine lv_istore (lv' := (7, .int ((unfoldM s g bf hs9 (xs (i + 1))).1)) :: (6, .int k) :: LV b x i) hx hb dL_law_479 hl (by decide) rfl (fun ls hl => ?_)
  exact lw_tail C hk hB hM2 (hC'.fr (fun q q1 q2 => hF2 q (by omega))) ((hF2 _ (by omega)).trans ho') ((hF2 _ (by omega)).trans hd9) hR hS hl (by omega) (by omega) dL_law_481 dL_law_482 dL_law_485 dL_law_487 dL_law_492 dL_law_494 dL_law_497 dL_law_498 dL_law_499 dL_law_500 dL_law_502 dL_law_503 dL_law_504 dL_law_509 (by decide) (kk τ2)
theorem lc_cousin {G : FG} {l : Launch} {pP : Program} {eE : Env} {sS : State} {mI : MethodId} {ar9 : Array Value} {bl9 : List Frame} {meth : Method} {cD : Code} {adr : Nat → Nat} {b L : Nat} {xs : Nat → Int32} {Q : State → Prop} (C : LCx G l pP sS mI ar9 cD adr b L xs) {ω : FWd} {x i cells slots : Nat} {H : Heap} {locs : List Loc} {ls : Array Slot} (hi : i + 6 ≤ L) (hL3 : L ≤ 3072) (hI : LI G ω x) (hR : fR G ω H) (hS : va_S (fwA G) sS.heap H locs) (hl : lv_has ls 9 (LV b x i)) (hc : cells + 3 ≤ 603072) (hs : slots + 18 ≤ 7198826)
    (kk : ∀ (τ : FWd) (H : Heap) (locs : List Loc) (ls : Array Slot), LI G τ x → fR G τ H → va_S (fwA G) sS.heap H locs → lv_has ls 9 (LV b x i) → W pP l eE room_1 sS mI ar9 bl9 meth cD H locs (cells + 3) (slots + 18) Q (F0 mI 2711 ls [])) : W pP l eE room_1 sS mI ar9 bl9 meth cD H locs cells slots Q (F0 mI 512 ls []) := by
  obtain ⟨s, g, hs9, sv, ip, lt, f9, fd, hC, ⟨bf, nd, td, hM⟩, ho, hd⟩ := hI
  obtain ⟨hx, hb, hml, hown, hts, hW, hL, hX0, hN, hFT, hJ, hX, hbl, hbA⟩ := id C
  have hK := hL.K hW
  obtain ⟨hWG, hk3, hk7, hk13, hlt9, v9, hte⟩ := li_f hC
  refine lv_aload_n hx hb dL_law_512 rfl (lv_at hl 1 rfl) ?_
  refine lw_arg C hl (k0 := 0) (k5 := 5) (n := 1) rfl rfl (by decide) (by decide) hi hL3 hS dL_law_513 dL_law_514 dL_law_516 dL_law_517 dL_law_518 ?_
  refine lw_arg C hl (k0 := 0) (k5 := 5) (n := 2) rfl rfl (by decide) (by decide) hi hL3 hS dL_law_519 dL_law_520 dL_law_522 dL_law_523 dL_law_524 ?_
  refine lv_aload_n hx hb dL_law_525 rfl (lv_at hl 3 rfl) ?_
  refine fx_call (vx_runSX (As := [.ref x, .int (xs (i + 1)), .int (xs (i + 2)), .ref (x + 623)]) (rest := []) ⟨hx, hb, hml, hown, hts⟩ (h_cousin G hL l hX0 ω x s g hs9 sv ip lt bf hC (x + 623) f9 ho (Or.inr (by omega)) (xs (i + 1)) (xs (i + 2))) (vx_cwSW 4 hts gL_law_L_cousin rfl rfl rfl (by decide +kernel) ⟨Nat.le_of_ble_eq_true rfl, Nat.le_of_ble_eq_true rfl⟩) (fw_preS hW hR) rfl rfl hl.1 rfl (lv_room (Nat.le_of_ble_eq_true rfl)) dL_law_526 ⟨by show cells + 1 ≤ 603072; omega, by show slots + 6 ≤ 7198826; omega⟩) hS (fun E ce q9 τ H locs hx_1 hR hS hce hcv hcl => hx_1.elim) (fun v τ H locs hq hR hS => ?_)
  obtain ⟨k, f8, rfl, hk, hB, ho', hC', hF⟩ := hq
  refine W.widen (k := cells + 3) (n := slots + 18) (by omega) (by omega) ?_
  refine W.eq (g2 := F0 mI 529 ls [.int k]) rfl ?_
  refine lv_istore (lv' := (6, .int k) :: LV b x i) hx hb dL_law_529 hl (by decide) rfl (fun ls hl => ?_)
  have hM' := hM.fr (τ := τ.2) (fun q q1 q2 => hF q (by omega) (by omega))
  have hd9 := (hF (x + 624) (by omega) (by omega)).trans hd
  refine lv_aload_n hx hb dL_law_531 rfl (lv_at hl 3 rfl) ?_
  refine lw_arg C hl (k0 := 1) (k5 := 6) (n := 1) rfl rfl (by decide) (by decide) hi hL3 hS dL_law_532 dL_law_533 dL_law_535 dL_law_536 dL_law_537 ?_
  refine lw_arg C hl (k0 := 1) (k5 := 6) (n := 2) rfl rfl (by decide) (by decide) hi hL3 hS dL_law_538 dL_law_539 dL_law_541 dL_law_542 dL_law_543 ?_
  refine fw_call (va_runV (As := [.int (xs (i + 1)), .int (xs (i + 2))]) (rest := []) ⟨hx, hb, hml, hown, hts⟩ (j_cousin G hL l τ (x + 614) s g bf hs9 sv ip lt nd td hM' hWG.1.1 hk3 (xs (i + 1)) (xs (i + 2))) (cwV 2 hts gL_law_X11_cousin rfl rfl rfl (by decide +kernel) ⟨Nat.le_of_ble_eq_true rfl, Nat.le_of_ble_eq_true rfl⟩) (fw_preV hW hK hR hM'.1 rfl) rfl rfl hl.1 rfl (lv_room (Nat.le_of_ble_eq_true rfl)) dL_law_544 ⟨by show cells + 3 + 0 ≤ 603072; omega, by show slots + 18 + 0 ≤ 7198826; omega⟩) hS (fun v τ2 H locs hq hR hS => ?_)
  obtain ⟨rfl, ⟨bf2, nd2, td2, hM2⟩, hF2⟩ := hq
  refine W.eq (g2 := F0 mI 547 ls [.int ((cousinM s g bf hs9 (xs (i + 1)) (xs (i + 2))).1)]) rfl ?_
  refine lv_istore (lv' := (7, .int ((cousinM s g bf hs9 (xs (i + 1)) (xs (i + 2))).1)) :: (6, .int k) :: LV b x i) hx hb dL_law_547 hl (by decide) rfl (fun ls hl => ?_)
  exact lw_tail C hk hB hM2 (hC'.fr (fun q q1 q2 => hF2 q (by omega))) ((hF2 _ (by omega)).trans ho') ((hF2 _ (by omega)).trans hd9) hR hS hl (by omega) (by omega) dL_law_549 dL_law_550 dL_law_553 dL_law_555 dL_law_560 dL_law_562 dL_law_565 dL_law_566 dL_law_567 dL_law_568 dL_law_570 dL_law_571 dL_law_572 dL_law_577 (by decide) (kk τ2)
theorem lc_learn {G : FG} {l : Launch} {pP : Program} {eE : Env} {sS : State} {mI : MethodId} {ar9 : Array Value} {bl9 : List Frame} {meth : Method} {cD : Code} {adr : Nat → Nat} {b L : Nat} {xs : Nat → Int32} {Q : State → Prop} (C : LCx G l pP sS mI ar9 cD adr b L xs) {ω : FWd} {x i cells slots : Nat} {H : Heap} {locs : List Loc} {ls : Array Slot} (hi : i + 6 ≤ L) (hL3 : L ≤ 3072) (hI : LI G ω x) (hR : fR G ω H) (hS : va_S (fwA G) sS.heap H locs) (hl : lv_has ls 9 (LV b x i)) (hc : cells + 3 ≤ 603072) (hs : slots + 18 ≤ 7198826)
    (kk : ∀ (τ : FWd) (H : Heap) (locs : List Loc) (ls : Array Slot), LI G τ x → fR G τ H → va_S (fwA G) sS.heap H locs → lv_has ls 9 (LV b x i) → W pP l eE room_1 sS mI ar9 bl9 meth cD H locs (cells + 3) (slots + 18) Q (F0 mI 2711 ls [])) : W pP l eE room_1 sS mI ar9 bl9 meth cD H locs cells slots Q (F0 mI 580 ls []) := by
  obtain ⟨s, g, hs9, sv, ip, lt, f9, fd, hC, ⟨bf, nd, td, hM⟩, ho, hd⟩ := hI
  obtain ⟨hx, hb, hml, hown, hts, hW, hL, hX0, hN, hFT, hJ, hX, hbl, hbA⟩ := id C
  have hK := hL.K hW
  obtain ⟨hWG, hk3, hk7, hk13, hlt9, v9, hte⟩ := li_f hC
  refine lv_aload_n hx hb dL_law_580 rfl (lv_at hl 1 rfl) ?_
  refine lw_arg C hl (k0 := 0) (k5 := 5) (n := 1) rfl rfl (by decide) (by decide) hi hL3 hS dL_law_581 dL_law_582 dL_law_584 dL_law_585 dL_law_586 ?_
  refine lw_arg C hl (k0 := 0) (k5 := 5) (n := 2) rfl rfl (by decide) (by decide) hi hL3 hS dL_law_587 dL_law_588 dL_law_590 dL_law_591 dL_law_592 ?_
  refine lv_aload_n hx hb dL_law_593 rfl (lv_at hl 3 rfl) ?_
  refine fx_call (vx_runSX (As := [.ref x, .int (xs (i + 1)), .int (xs (i + 2)), .ref (x + 623)]) (rest := []) ⟨hx, hb, hml, hown, hts⟩ (h_learn G hL l hX0 ω x s g hs9 sv ip lt bf hC (x + 623) f9 ho (Or.inr (by omega)) (xs (i + 1)) (xs (i + 2))) (vx_cwSW 4 hts gL_law_L_learn rfl rfl rfl (by decide +kernel) ⟨Nat.le_of_ble_eq_true rfl, Nat.le_of_ble_eq_true rfl⟩) (fw_preS hW hR) rfl rfl hl.1 rfl (lv_room (Nat.le_of_ble_eq_true rfl)) dL_law_594 ⟨by show cells + 1 ≤ 603072; omega, by show slots + 6 ≤ 7198826; omega⟩) hS (fun E ce q9 τ H locs hx_1 hR hS hce hcv hcl => hx_1.elim) (fun v τ H locs hq hR hS => ?_)
  obtain ⟨k, f8, rfl, hk, hB, ho', hC', hF⟩ := hq
  refine W.widen (k := cells + 3) (n := slots + 18) (by omega) (by omega) ?_
  refine W.eq (g2 := F0 mI 597 ls [.int k]) rfl ?_
  refine lv_istore (lv' := (6, .int k) :: LV b x i) hx hb dL_law_597 hl (by decide) rfl (fun ls hl => ?_)
  have hM' := hM.fr (τ := τ.2) (fun q q1 q2 => hF q (by omega) (by omega))
  have hd9 := (hF (x + 624) (by omega) (by omega)).trans hd
  refine lv_aload_n hx hb dL_law_599 rfl (lv_at hl 3 rfl) ?_
  refine lw_arg C hl (k0 := 1) (k5 := 6) (n := 1) rfl rfl (by decide) (by decide) hi hL3 hS dL_law_600 dL_law_601 dL_law_603 dL_law_604 dL_law_605 ?_
  refine lw_arg C hl (k0 := 1) (k5 := 6) (n := 2) rfl rfl (by decide) (by decide) hi hL3 hS dL_law_606 dL_law_607 dL_law_609 dL_law_610 dL_law_611 ?_
  refine fw_call (va_runV (As := [.int (xs (i + 1)), .int (xs (i + 2))]) (rest := []) ⟨hx, hb, hml, hown, hts⟩ (j_learn G hL l τ (x + 614) s g bf hs9 sv ip lt nd td hM' hWG.1.1 hk3 (xs (i + 1)) (xs (i + 2))) (cwV 2 hts gL_law_X11_learn rfl rfl rfl (by decide +kernel) ⟨Nat.le_of_ble_eq_true rfl, Nat.le_of_ble_eq_true rfl⟩) (fw_preV hW hK hR hM'.1 rfl) rfl rfl hl.1 rfl (lv_room (Nat.le_of_ble_eq_true rfl)) dL_law_612 ⟨by show cells + 3 + 0 ≤ 603072; omega, by show slots + 18 + 0 ≤ 7198826; omega⟩) hS (fun v τ2 H locs hq hR hS => ?_)
  obtain ⟨rfl, ⟨bf2, nd2, td2, hM2⟩, hF2⟩ := hq
  refine W.eq (g2 := F0 mI 615 ls [.int ((learnM s g bf hs9 (xs (i + 1)) (xs (i + 2))).1)]) rfl ?_
  refine lv_istore (lv' := (7, .int ((learnM s g bf hs9 (xs (i + 1)) (xs (i + 2))).1)) :: (6, .int k) :: LV b x i) hx hb dL_law_615 hl (by decide) rfl (fun ls hl => ?_)
  exact lw_tail C hk hB hM2 (hC'.fr (fun q q1 q2 => hF2 q (by omega))) ((hF2 _ (by omega)).trans ho') ((hF2 _ (by omega)).trans hd9) hR hS hl (by omega) (by omega) dL_law_617 dL_law_618 dL_law_621 dL_law_623 dL_law_628 dL_law_630 dL_law_633 dL_law_634 dL_law_635 dL_law_636 dL_law_638 dL_law_639 dL_law_640 dL_law_645 (by decide) (kk τ2)
theorem lc_build {G : FG} {l : Launch} {pP : Program} {eE : Env} {sS : State} {mI : MethodId} {ar9 : Array Value} {bl9 : List Frame} {meth : Method} {cD : Code} {adr : Nat → Nat} {b L : Nat} {xs : Nat → Int32} {Q : State → Prop} (C : LCx G l pP sS mI ar9 cD adr b L xs) {ω : FWd} {x i cells slots : Nat} {H : Heap} {locs : List Loc} {ls : Array Slot} (hi : i + 6 ≤ L) (hL3 : L ≤ 3072) (hI : LI G ω x) (hR : fR G ω H) (hS : va_S (fwA G) sS.heap H locs) (hl : lv_has ls 9 (LV b x i)) (hc : cells + 3 ≤ 603072) (hs : slots + 18 ≤ 7198826)
    (kk : ∀ (τ : FWd) (H : Heap) (locs : List Loc) (ls : Array Slot), LI G τ x → fR G τ H → va_S (fwA G) sS.heap H locs → lv_has ls 9 (LV b x i) → W pP l eE room_1 sS mI ar9 bl9 meth cD H locs (cells + 3) (slots + 18) Q (F0 mI 2711 ls [])) : W pP l eE room_1 sS mI ar9 bl9 meth cD H locs cells slots Q (F0 mI 648 ls []) := by
  obtain ⟨s, g, hs9, sv, ip, lt, f9, fd, hC, ⟨bf, nd, td, hM⟩, ho, hd⟩ := hI
  obtain ⟨hx, hb, hml, hown, hts, hW, hL, hX0, hN, hFT, hJ, hX, hbl, hbA⟩ := id C
  have hK := hL.K hW
  obtain ⟨hWG, hk3, hk7, hk13, hlt9, v9, hte⟩ := li_f hC
  refine lv_aload_n hx hb dL_law_648 rfl (lv_at hl 1 rfl) ?_
  refine lw_arg C hl (k0 := 0) (k5 := 5) (n := 1) rfl rfl (by decide) (by decide) hi hL3 hS dL_law_649 dL_law_650 dL_law_652 dL_law_653 dL_law_654 ?_
  refine lw_arg C hl (k0 := 0) (k5 := 5) (n := 2) rfl rfl (by decide) (by decide) hi hL3 hS dL_law_655 dL_law_656 dL_law_658 dL_law_659 dL_law_660 ?_
  refine lv_aload_n hx hb dL_law_661 rfl (lv_at hl 3 rfl) ?_
  refine fx_call (vx_runSX (As := [.ref x, .int (xs (i + 1)), .int (xs (i + 2)), .ref (x + 623)]) (rest := []) ⟨hx, hb, hml, hown, hts⟩ (h_build G hL l hX0 ω x s g hs9 sv ip lt nd bf hC (x + 623) f9 ho (Or.inr (by omega)) (xs (i + 1)) (xs (i + 2))) (vx_cwSW 4 hts gL_law_L_build rfl rfl rfl (by decide +kernel) ⟨Nat.le_of_ble_eq_true rfl, Nat.le_of_ble_eq_true rfl⟩) (fw_preS hW hR) rfl rfl hl.1 rfl (lv_room (Nat.le_of_ble_eq_true rfl)) dL_law_662 ⟨by show cells + 1 ≤ 603072; omega, by show slots + 6 ≤ 7198826; omega⟩) hS (fun E ce q9 τ H locs hx_1 hR hS hce hcv hcl => hx_1.elim) (fun v τ H locs hq hR hS => ?_)
  obtain ⟨k, f8, rfl, hk, hB, ho', hC', hF⟩ := hq
  refine W.widen (k := cells + 3) (n := slots + 18) (by omega) (by omega) ?_
  refine W.eq (g2 := F0 mI 665 ls [.int k]) rfl ?_
  refine lv_istore (lv' := (6, .int k) :: LV b x i) hx hb dL_law_665 hl (by decide) rfl (fun ls hl => ?_)
  have hM' := hM.fr (τ := τ.2) (fun q q1 q2 => hF q (by omega) (by omega))
  have hd9 := (hF (x + 624) (by omega) (by omega)).trans hd
  refine lv_aload_n hx hb dL_law_667 rfl (lv_at hl 3 rfl) ?_
  refine lw_arg C hl (k0 := 1) (k5 := 6) (n := 1) rfl rfl (by decide) (by decide) hi hL3 hS dL_law_668 dL_law_669 dL_law_671 dL_law_672 dL_law_673 ?_
  refine lw_arg C hl (k0 := 1) (k5 := 6) (n := 2) rfl rfl (by decide) (by decide) hi hL3 hS dL_law_674 dL_law_675 dL_law_677 dL_law_678 dL_law_679 ?_
  refine fw_call (va_runV (As := [.int (xs (i + 1)), .int (xs (i + 2))]) (rest := []) ⟨hx, hb, hml, hown, hts⟩ (j_build G hL l τ (x + 614) s g bf hs9 sv ip lt nd td hM' hWG.1.1 hk3 (xs (i + 1)) (xs (i + 2))) (cwV 2 hts gL_law_X11_build rfl rfl rfl (by decide +kernel) ⟨Nat.le_of_ble_eq_true rfl, Nat.le_of_ble_eq_true rfl⟩) (fw_preV hW hK hR hM'.1 rfl) rfl rfl hl.1 rfl (lv_room (Nat.le_of_ble_eq_true rfl)) dL_law_680 ⟨by show cells + 3 + 0 ≤ 603072; omega, by show slots + 18 + 0 ≤ 7198826; omega⟩) hS (fun v τ2 H locs hq hR hS => ?_)
  obtain ⟨rfl, ⟨bf2, nd2, td2, hM2⟩, hF2⟩ := hq
  refine W.eq (g2 := F0 mI 683 ls [.int ((buildM s g nd bf hs9 (xs (i + 1)) (xs (i + 2))).1)]) rfl ?_
  refine lv_istore (lv' := (7, .int ((buildM s g nd bf hs9 (xs (i + 1)) (xs (i + 2))).1)) :: (6, .int k) :: LV b x i) hx hb dL_law_683 hl (by decide) rfl (fun ls hl => ?_)
  exact lw_tail C hk hB hM2 (hC'.fr (fun q q1 q2 => hF2 q (by omega))) ((hF2 _ (by omega)).trans ho') ((hF2 _ (by omega)).trans hd9) hR hS hl (by omega) (by omega) dL_law_685 dL_law_686 dL_law_689 dL_law_691 dL_law_696 dL_law_698 dL_law_701 dL_law_702 dL_law_703 dL_law_704 dL_law_706 dL_law_707 dL_law_708 dL_law_713 (by decide) (kk τ2)
theorem lc_finish {G : FG} {l : Launch} {pP : Program} {eE : Env} {sS : State} {mI : MethodId} {ar9 : Array Value} {bl9 : List Frame} {meth : Method} {cD : Code} {adr : Nat → Nat} {b L : Nat} {xs : Nat → Int32} {Q : State → Prop} (C : LCx G l pP sS mI ar9 cD adr b L xs) {ω : FWd} {x i cells slots : Nat} {H : Heap} {locs : List Loc} {ls : Array Slot} (hi : i + 6 ≤ L) (hL3 : L ≤ 3072) (hI : LI G ω x) (hR : fR G ω H) (hS : va_S (fwA G) sS.heap H locs) (hl : lv_has ls 9 (LV b x i)) (hc : cells + 3 ≤ 603072) (hs : slots + 18 ≤ 7198826)
    (kk : ∀ (τ : FWd) (H : Heap) (locs : List Loc) (ls : Array Slot), LI G τ x → fR G τ H → va_S (fwA G) sS.heap H locs → lv_has ls 9 (LV b x i) → W pP l eE room_1 sS mI ar9 bl9 meth cD H locs (cells + 3) (slots + 18) Q (F0 mI 2711 ls [])) : W pP l eE room_1 sS mI ar9 bl9 meth cD H locs cells slots Q (F0 mI 716 ls []) := by
  obtain ⟨s, g, hs9, sv, ip, lt, f9, fd, hC, ⟨bf, nd, td, hM⟩, ho, hd⟩ := hI
  obtain ⟨hx, hb, hml, hown, hts, hW, hL, hX0, hN, hFT, hJ, hX, hbl, hbA⟩ := id C
  have hK := hL.K hW
  obtain ⟨hWG, hk3, hk7, hk13, hlt9, v9, hte⟩ := li_f hC
  refine lv_aload_n hx hb dL_law_716 rfl (lv_at hl 1 rfl) ?_
  refine lw_arg C hl (k0 := 0) (k5 := 5) (n := 1) rfl rfl (by decide) (by decide) hi hL3 hS dL_law_717 dL_law_718 dL_law_720 dL_law_721 dL_law_722 ?_
  refine lw_arg C hl (k0 := 0) (k5 := 5) (n := 2) rfl rfl (by decide) (by decide) hi hL3 hS dL_law_723 dL_law_724 dL_law_726 dL_law_727 dL_law_728 ?_
  refine lv_aload_n hx hb dL_law_729 rfl (lv_at hl 3 rfl) ?_
  refine fx_call (vx_runSX (As := [.ref x, .int (xs (i + 1)), .int (xs (i + 2)), .ref (x + 623)]) (rest := []) ⟨hx, hb, hml, hown, hts⟩ (h_finish G hL l hX0 ω x s g hs9 sv ip lt nd bf hC (x + 623) f9 ho (Or.inr (by omega)) (xs (i + 1)) (xs (i + 2))) (vx_cwSW 4 hts gL_law_L_finish rfl rfl rfl (by decide +kernel) ⟨Nat.le_of_ble_eq_true rfl, Nat.le_of_ble_eq_true rfl⟩) (fw_preS hW hR) rfl rfl hl.1 rfl (lv_room (Nat.le_of_ble_eq_true rfl)) dL_law_730 ⟨by show cells + 1 ≤ 603072; omega, by show slots + 6 ≤ 7198826; omega⟩) hS (fun E ce q9 τ H locs hx_1 hR hS hce hcv hcl => hx_1.elim) (fun v τ H locs hq hR hS => ?_)
  obtain ⟨k, f8, rfl, hk, hB, ho', hC', hF⟩ := hq
  refine W.widen (k := cells + 3) (n := slots + 18) (by omega) (by omega) ?_
  refine W.eq (g2 := F0 mI 733 ls [.int k]) rfl ?_
  refine lv_istore (lv' := (6, .int k) :: LV b x i) hx hb dL_law_733 hl (by decide) rfl (fun ls hl => ?_)
  have hM' := hM.fr (τ := τ.2) (fun q q1 q2 => hF q (by omega) (by omega))
  have hd9 := (hF (x + 624) (by omega) (by omega)).trans hd
  refine lv_aload_n hx hb dL_law_735 rfl (lv_at hl 3 rfl) ?_
  refine lw_arg C hl (k0 := 1) (k5 := 6) (n := 1) rfl rfl (by decide) (by decide) hi hL3 hS dL_law_736 dL_law_737 dL_law_739 dL_law_740 dL_law_741 ?_
  refine lw_arg C hl (k0 := 1) (k5 := 6) (n := 2) rfl rfl (by decide) (by decide) hi hL3 hS dL_law_742 dL_law_743 dL_law_745 dL_law_746 dL_law_747 ?_
  refine fw_call (va_runV (As := [.int (xs (i + 1)), .int (xs (i + 2))]) (rest := []) ⟨hx, hb, hml, hown, hts⟩ (j_finish G hL l τ (x + 614) s g bf hs9 sv ip lt nd td hM' hWG.1.1 hk3 (xs (i + 1)) (xs (i + 2))) (cwV 2 hts gL_law_X11_finish rfl rfl rfl (by decide +kernel) ⟨Nat.le_of_ble_eq_true rfl, Nat.le_of_ble_eq_true rfl⟩) (fw_preV hW hK hR hM'.1 rfl) rfl rfl hl.1 rfl (lv_room (Nat.le_of_ble_eq_true rfl)) dL_law_748 ⟨by show cells + 3 + 0 ≤ 603072; omega, by show slots + 18 + 0 ≤ 7198826; omega⟩) hS (fun v τ2 H locs hq hR hS => ?_)
  obtain ⟨rfl, ⟨bf2, nd2, td2, hM2⟩, hF2⟩ := hq
  refine W.eq (g2 := F0 mI 751 ls [.int ((finishM s g nd bf hs9 (xs (i + 1)) (xs (i + 2))).1)]) rfl ?_
  refine lv_istore (lv' := (7, .int ((finishM s g nd bf hs9 (xs (i + 1)) (xs (i + 2))).1)) :: (6, .int k) :: LV b x i) hx hb dL_law_751 hl (by decide) rfl (fun ls hl => ?_)
  exact lw_tail C hk hB hM2 (hC'.fr (fun q q1 q2 => hF2 q (by omega))) ((hF2 _ (by omega)).trans ho') ((hF2 _ (by omega)).trans hd9) hR hS hl (by omega) (by omega) dL_law_753 dL_law_754 dL_law_757 dL_law_759 dL_law_764 dL_law_766 dL_law_769 dL_law_770 dL_law_771 dL_law_772 dL_law_774 dL_law_775 dL_law_776 dL_law_781 (by decide) (kk τ2)
theorem lc_apart {G : FG} {l : Launch} {pP : Program} {eE : Env} {sS : State} {mI : MethodId} {ar9 : Array Value} {bl9 : List Frame} {meth : Method} {cD : Code} {adr : Nat → Nat} {b L : Nat} {xs : Nat → Int32} {Q : State → Prop} (C : LCx G l pP sS mI ar9 cD adr b L xs) {ω : FWd} {x i cells slots : Nat} {H : Heap} {locs : List Loc} {ls : Array Slot} (hi : i + 6 ≤ L) (hL3 : L ≤ 3072) (hI : LI G ω x) (hR : fR G ω H) (hS : va_S (fwA G) sS.heap H locs) (hl : lv_has ls 9 (LV b x i)) (hc : cells + 3 ≤ 603072) (hs : slots + 18 ≤ 7198826)
    (kk : ∀ (τ : FWd) (H : Heap) (locs : List Loc) (ls : Array Slot), LI G τ x → fR G τ H → va_S (fwA G) sS.heap H locs → lv_has ls 9 (LV b x i) → W pP l eE room_1 sS mI ar9 bl9 meth cD H locs (cells + 3) (slots + 18) Q (F0 mI 2711 ls [])) : W pP l eE room_1 sS mI ar9 bl9 meth cD H locs cells slots Q (F0 mI 784 ls []) := by
  obtain ⟨s, g, hs9, sv, ip, lt, f9, fd, hC, ⟨bf, nd, td, hM⟩, ho, hd⟩ := hI
  obtain ⟨hx, hb, hml, hown, hts, hW, hL, hX0, hN, hFT, hJ, hX, hbl, hbA⟩ := id C
  have hK := hL.K hW
  obtain ⟨hWG, hk3, hk7, hk13, hlt9, v9, hte⟩ := li_f hC
  refine lv_aload_n hx hb dL_law_784 rfl (lv_at hl 1 rfl) ?_
  refine lw_arg C hl (k0 := 0) (k5 := 5) (n := 1) rfl rfl (by decide) (by decide) hi hL3 hS dL_law_785 dL_law_786 dL_law_788 dL_law_789 dL_law_790 ?_
  refine lv_aload_n hx hb dL_law_791 rfl (lv_at hl 3 rfl) ?_
  refine fx_call (vx_runSX (As := [.ref x, .int (xs (i + 1)), .ref (x + 623)]) (rest := []) ⟨hx, hb, hml, hown, hts⟩ (h_apart G hL l hX0 ω x s g hs9 sv ip lt nd bf hC (x + 623) f9 ho (Or.inr (by omega)) (xs (i + 1))) (vx_cwSW 3 hts gL_law_L_apart rfl rfl rfl (by decide +kernel) ⟨Nat.le_of_ble_eq_true rfl, Nat.le_of_ble_eq_true rfl⟩) (fw_preS hW hR) rfl rfl hl.1 rfl (lv_room (Nat.le_of_ble_eq_true rfl)) dL_law_792 ⟨by show cells + 1 ≤ 603072; omega, by show slots + 6 ≤ 7198826; omega⟩) hS (fun E ce q9 τ H locs hx_1 hR hS hce hcv hcl => hx_1.elim) (fun v τ H locs hq hR hS => ?_)
  obtain ⟨k, f8, rfl, hk, hB, ho', hC', hF⟩ := hq
  refine W.widen (k := cells + 3) (n := slots + 18) (by omega) (by omega) ?_
  refine W.eq (g2 := F0 mI 795 ls [.int k]) rfl ?_
  refine lv_istore (lv' := (6, .int k) :: LV b x i) hx hb dL_law_795 hl (by decide) rfl (fun ls hl => ?_)
  have hM' := hM.fr (τ := τ.2) (fun q q1 q2 => hF q (by omega) (by omega))
  have hd9 := (hF (x + 624) (by omega) (by omega)).trans hd
  refine lv_aload_n hx hb dL_law_797 rfl (lv_at hl 3 rfl) ?_
  refine lw_arg C hl (k0 := 1) (k5 := 6) (n := 1) rfl rfl (by decide) (by decide) hi hL3 hS dL_law_798 dL_law_799 dL_law_801 dL_law_802 dL_law_803 ?_
  refine fw_call (va_runV (As := [.int (xs (i + 1))]) (rest := []) ⟨hx, hb, hml, hown, hts⟩ (j_apart G hL l τ (x + 614) s g bf hs9 sv ip lt nd td hM' hWG.1.1 hk3 (xs (i + 1))) (cwV 1 hts gL_law_X11_apart rfl rfl rfl (by decide +kernel) ⟨Nat.le_of_ble_eq_true rfl, Nat.le_of_ble_eq_true rfl⟩) (fw_preV hW hK hR hM'.1 rfl) rfl rfl hl.1 rfl (lv_room (Nat.le_of_ble_eq_true rfl)) dL_law_804 ⟨by show cells + 3 + 0 ≤ 603072; omega, by show slots + 18 + 0 ≤ 7198826; omega⟩) hS (fun v τ2 H locs hq hR hS => ?_)
  obtain ⟨rfl, ⟨bf2, nd2, td2, hM2⟩, hF2⟩ := hq
  refine W.eq (g2 := F0 mI 807 ls [.int ((apartsM s g nd bf hs9 (xs (i + 1))).1)]) rfl ?_
  refine lv_istore (lv' := (7, .int ((apartsM s g nd bf hs9 (xs (i + 1))).1)) :: (6, .int k) :: LV b x i) hx hb dL_law_807 hl (by decide) rfl (fun ls hl => ?_)
  exact lw_tail C hk hB hM2 (hC'.fr (fun q q1 q2 => hF2 q (by omega))) ((hF2 _ (by omega)).trans ho') ((hF2 _ (by omega)).trans hd9) hR hS hl (by omega) (by omega) dL_law_809 dL_law_810 dL_law_813 dL_law_815 dL_law_820 dL_law_822 dL_law_825 dL_law_826 dL_law_827 dL_law_828 dL_law_830 dL_law_831 dL_law_832 dL_law_837 (by decide) (kk τ2)
theorem lc_move {G : FG} {l : Launch} {pP : Program} {eE : Env} {sS : State} {mI : MethodId} {ar9 : Array Value} {bl9 : List Frame} {meth : Method} {cD : Code} {adr : Nat → Nat} {b L : Nat} {xs : Nat → Int32} {Q : State → Prop} (C : LCx G l pP sS mI ar9 cD adr b L xs) {ω : FWd} {x i cells slots : Nat} {H : Heap} {locs : List Loc} {ls : Array Slot} (hi : i + 6 ≤ L) (hL3 : L ≤ 3072) (hI : LI G ω x) (hR : fR G ω H) (hS : va_S (fwA G) sS.heap H locs) (hl : lv_has ls 9 (LV b x i)) (hc : cells + 3 ≤ 603072) (hs : slots + 18 ≤ 7198826)
    (kk : ∀ (τ : FWd) (H : Heap) (locs : List Loc) (ls : Array Slot), LI G τ x → fR G τ H → va_S (fwA G) sS.heap H locs → lv_has ls 9 (LV b x i) → W pP l eE room_1 sS mI ar9 bl9 meth cD H locs (cells + 3) (slots + 18) Q (F0 mI 2711 ls [])) : W pP l eE room_1 sS mI ar9 bl9 meth cD H locs cells slots Q (F0 mI 840 ls []) := by
  obtain ⟨s, g, hs9, sv, ip, lt, f9, fd, hC, ⟨bf, nd, td, hM⟩, ho, hd⟩ := hI
  obtain ⟨hx, hb, hml, hown, hts, hW, hL, hX0, hN, hFT, hJ, hX, hbl, hbA⟩ := id C
  have hK := hL.K hW
  obtain ⟨hWG, hk3, hk7, hk13, hlt9, v9, hte⟩ := li_f hC
  refine lv_aload_n hx hb dL_law_840 rfl (lv_at hl 1 rfl) ?_
  refine lw_arg C hl (k0 := 0) (k5 := 5) (n := 1) rfl rfl (by decide) (by decide) hi hL3 hS dL_law_841 dL_law_842 dL_law_844 dL_law_845 dL_law_846 ?_
  refine lw_arg C hl (k0 := 0) (k5 := 5) (n := 2) rfl rfl (by decide) (by decide) hi hL3 hS dL_law_847 dL_law_848 dL_law_850 dL_law_851 dL_law_852 ?_
  refine lv_aload_n hx hb dL_law_853 rfl (lv_at hl 3 rfl) ?_
  refine fx_call (vx_runSX (As := [.ref x, .int (xs (i + 1)), .int (xs (i + 2)), .ref (x + 623)]) (rest := []) ⟨hx, hb, hml, hown, hts⟩ (h_move G hL l hX0 ω x s g hs9 sv ip lt bf hC (x + 623) f9 ho (Or.inr (by omega)) (xs (i + 1)) (xs (i + 2))) (vx_cwSW 4 hts gL_law_L_move rfl rfl rfl (by decide +kernel) ⟨Nat.le_of_ble_eq_true rfl, Nat.le_of_ble_eq_true rfl⟩) (fw_preS hW hR) rfl rfl hl.1 rfl (lv_room (Nat.le_of_ble_eq_true rfl)) dL_law_854 ⟨by show cells + 1 ≤ 603072; omega, by show slots + 6 ≤ 7198826; omega⟩) hS (fun E ce q9 τ H locs hx_1 hR hS hce hcv hcl => hx_1.elim) (fun v τ H locs hq hR hS => ?_)
  obtain ⟨k, f8, rfl, hk, hB, ho', hC', hF⟩ := hq
  refine W.widen (k := cells + 3) (n := slots + 18) (by omega) (by omega) ?_
  refine W.eq (g2 := F0 mI 857 ls [.int k]) rfl ?_
  refine lv_istore (lv' := (6, .int k) :: LV b x i) hx hb dL_law_857 hl (by decide) rfl (fun ls hl => ?_)
  have hM' := hM.fr (τ := τ.2) (fun q q1 q2 => hF q (by omega) (by omega))
  have hd9 := (hF (x + 624) (by omega) (by omega)).trans hd
  refine lv_aload_n hx hb dL_law_859 rfl (lv_at hl 3 rfl) ?_
  refine lw_arg C hl (k0 := 1) (k5 := 6) (n := 1) rfl rfl (by decide) (by decide) hi hL3 hS dL_law_860 dL_law_861 dL_law_863 dL_law_864 dL_law_865 ?_
  refine lw_arg C hl (k0 := 1) (k5 := 6) (n := 2) rfl rfl (by decide) (by decide) hi hL3 hS dL_law_866 dL_law_867 dL_law_869 dL_law_870 dL_law_871 ?_
  refine fw_call (va_runV (As := [.int (xs (i + 1)), .int (xs (i + 2))]) (rest := []) ⟨hx, hb, hml, hown, hts⟩ (j_move G hL l τ (x + 614) s g bf hs9 sv ip lt nd td hM' hWG.1.1 hk3 (xs (i + 1)) (xs (i + 2))) (cwV 2 hts gL_law_X11_move rfl rfl rfl (by decide +kernel) ⟨Nat.le_of_ble_eq_true rfl, Nat.le_of_ble_eq_true rfl⟩) (fw_preV hW hK hR hM'.1 rfl) rfl rfl hl.1 rfl (lv_room (Nat.le_of_ble_eq_true rfl)) dL_law_872 ⟨by show cells + 3 + 0 ≤ 603072; omega, by show slots + 18 + 0 ≤ 7198826; omega⟩) hS (fun v τ2 H locs hq hR hS => ?_)
  obtain ⟨rfl, ⟨bf2, nd2, td2, hM2⟩, hF2⟩ := hq
  refine W.eq (g2 := F0 mI 875 ls [.int ((moveM s g bf hs9 (xs (i + 1)) (xs (i + 2))).1)]) rfl ?_
  refine lv_istore (lv' := (7, .int ((moveM s g bf hs9 (xs (i + 1)) (xs (i + 2))).1)) :: (6, .int k) :: LV b x i) hx hb dL_law_875 hl (by decide) rfl (fun ls hl => ?_)
  exact lw_tail C hk hB hM2 (hC'.fr (fun q q1 q2 => hF2 q (by omega))) ((hF2 _ (by omega)).trans ho') ((hF2 _ (by omega)).trans hd9) hR hS hl (by omega) (by omega) dL_law_877 dL_law_878 dL_law_881 dL_law_883 dL_law_888 dL_law_890 dL_law_893 dL_law_894 dL_law_895 dL_law_896 dL_law_898 dL_law_899 dL_law_900 dL_law_905 (by decide) (kk τ2)
theorem lc_lose {G : FG} {l : Launch} {pP : Program} {eE : Env} {sS : State} {mI : MethodId} {ar9 : Array Value} {bl9 : List Frame} {meth : Method} {cD : Code} {adr : Nat → Nat} {b L : Nat} {xs : Nat → Int32} {Q : State → Prop} (C : LCx G l pP sS mI ar9 cD adr b L xs) {ω : FWd} {x i cells slots : Nat} {H : Heap} {locs : List Loc} {ls : Array Slot} (hi : i + 6 ≤ L) (hL3 : L ≤ 3072) (hI : LI G ω x) (hR : fR G ω H) (hS : va_S (fwA G) sS.heap H locs) (hl : lv_has ls 9 (LV b x i)) (hc : cells + 3 ≤ 603072) (hs : slots + 18 ≤ 7198826)
    (kk : ∀ (τ : FWd) (H : Heap) (locs : List Loc) (ls : Array Slot), LI G τ x → fR G τ H → va_S (fwA G) sS.heap H locs → lv_has ls 9 (LV b x i) → W pP l eE room_1 sS mI ar9 bl9 meth cD H locs (cells + 3) (slots + 18) Q (F0 mI 2711 ls [])) : W pP l eE room_1 sS mI ar9 bl9 meth cD H locs cells slots Q (F0 mI 908 ls []) := by
  obtain ⟨s, g, hs9, sv, ip, lt, f9, fd, hC, ⟨bf, nd, td, hM⟩, ho, hd⟩ := hI
  obtain ⟨hx, hb, hml, hown, hts, hW, hL, hX0, hN, hFT, hJ, hX, hbl, hbA⟩ := id C
  have hK := hL.K hW
  obtain ⟨hWG, hk3, hk7, hk13, hlt9, v9, hte⟩ := li_f hC
  refine lv_aload_n hx hb dL_law_908 rfl (lv_at hl 1 rfl) ?_
  refine lw_arg C hl (k0 := 0) (k5 := 5) (n := 1) rfl rfl (by decide) (by decide) hi hL3 hS dL_law_909 dL_law_910 dL_law_912 dL_law_913 dL_law_914 ?_
  refine lw_arg C hl (k0 := 0) (k5 := 5) (n := 2) rfl rfl (by decide) (by decide) hi hL3 hS dL_law_915 dL_law_916 dL_law_918 dL_law_919 dL_law_920 ?_
  refine lv_aload_n hx hb dL_law_921 rfl (lv_at hl 3 rfl) ?_
  refine fx_call (vx_runSX (As := [.ref x, .int (xs (i + 1)), .int (xs (i + 2)), .ref (x + 623)]) (rest := []) ⟨hx, hb, hml, hown, hts⟩ (h_lose G hL l hX0 ω x s g hs9 sv ip lt bf hC (x + 623) f9 ho (Or.inr (by omega)) (xs (i + 1)) (xs (i + 2))) (vx_cwSW 4 hts gL_law_L_lose rfl rfl rfl (by decide +kernel) ⟨Nat.le_of_ble_eq_true rfl, Nat.le_of_ble_eq_true rfl⟩) (fw_preS hW hR) rfl rfl hl.1 rfl (lv_room (Nat.le_of_ble_eq_true rfl)) dL_law_922 ⟨by show cells + 1 ≤ 603072; omega, by show slots + 6 ≤ 7198826; omega⟩) hS (fun E ce q9 τ H locs hx_1 hR hS hce hcv hcl => hx_1.elim) (fun v τ H locs hq hR hS => ?_)
  obtain ⟨k, f8, rfl, hk, hB, ho', hC', hF⟩ := hq
  refine W.widen (k := cells + 3) (n := slots + 18) (by omega) (by omega) ?_
  refine W.eq (g2 := F0 mI 925 ls [.int k]) rfl ?_
  refine lv_istore (lv' := (6, .int k) :: LV b x i) hx hb dL_law_925 hl (by decide) rfl (fun ls hl => ?_)
  have hM' := hM.fr (τ := τ.2) (fun q q1 q2 => hF q (by omega) (by omega))
  have hd9 := (hF (x + 624) (by omega) (by omega)).trans hd
  refine lv_aload_n hx hb dL_law_927 rfl (lv_at hl 3 rfl) ?_
  refine lw_arg C hl (k0 := 1) (k5 := 6) (n := 1) rfl rfl (by decide) (by decide) hi hL3 hS dL_law_928 dL_law_929 dL_law_931 dL_law_932 dL_law_933 ?_
  refine lw_arg C hl (k0 := 1) (k5 := 6) (n := 2) rfl rfl (by decide) (by decide) hi hL3 hS dL_law_934 dL_law_935 dL_law_937 dL_law_938 dL_law_939 ?_
  refine fw_call (va_runV (As := [.int (xs (i + 1)), .int (xs (i + 2))]) (rest := []) ⟨hx, hb, hml, hown, hts⟩ (j_lose G hL l τ (x + 614) s g bf hs9 sv ip lt nd td hM' hWG.1.1 hk3 (xs (i + 1)) (xs (i + 2))) (cwV 2 hts gL_law_X11_lose rfl rfl rfl (by decide +kernel) ⟨Nat.le_of_ble_eq_true rfl, Nat.le_of_ble_eq_true rfl⟩) (fw_preV hW hK hR hM'.1 rfl) rfl rfl hl.1 rfl (lv_room (Nat.le_of_ble_eq_true rfl)) dL_law_940 ⟨by show cells + 3 + 0 ≤ 603072; omega, by show slots + 18 + 0 ≤ 7198826; omega⟩) hS (fun v τ2 H locs hq hR hS => ?_)
  obtain ⟨rfl, ⟨bf2, nd2, td2, hM2⟩, hF2⟩ := hq
  refine W.eq (g2 := F0 mI 943 ls [.int ((loseM s g bf hs9 (xs (i + 1)) (xs (i + 2))).1)]) rfl ?_
  refine lv_istore (lv' := (7, .int ((loseM s g bf hs9 (xs (i + 1)) (xs (i + 2))).1)) :: (6, .int k) :: LV b x i) hx hb dL_law_943 hl (by decide) rfl (fun ls hl => ?_)
  exact lw_tail C hk hB hM2 (hC'.fr (fun q q1 q2 => hF2 q (by omega))) ((hF2 _ (by omega)).trans ho') ((hF2 _ (by omega)).trans hd9) hR hS hl (by omega) (by omega) dL_law_945 dL_law_946 dL_law_949 dL_law_951 dL_law_956 dL_law_958 dL_law_961 dL_law_962 dL_law_963 dL_law_964 dL_law_966 dL_law_967 dL_law_968 dL_law_973 (by decide) (kk τ2)
theorem lc_find {G : FG} {l : Launch} {pP : Program} {eE : Env} {sS : State} {mI : MethodId} {ar9 : Array Value} {bl9 : List Frame} {meth : Method} {cD : Code} {adr : Nat → Nat} {b L : Nat} {xs : Nat → Int32} {Q : State → Prop} (C : LCx G l pP sS mI ar9 cD adr b L xs) {ω : FWd} {x i cells slots : Nat} {H : Heap} {locs : List Loc} {ls : Array Slot} (hi : i + 6 ≤ L) (hL3 : L ≤ 3072) (hI : LI G ω x) (hR : fR G ω H) (hS : va_S (fwA G) sS.heap H locs) (hl : lv_has ls 9 (LV b x i)) (hc : cells + 3 ≤ 603072) (hs : slots + 18 ≤ 7198826)
    (kk : ∀ (τ : FWd) (H : Heap) (locs : List Loc) (ls : Array Slot), LI G τ x → fR G τ H → va_S (fwA G) sS.heap H locs → lv_has ls 9 (LV b x i) → W pP l eE room_1 sS mI ar9 bl9 meth cD H locs (cells + 3) (slots + 18) Q (F0 mI 2711 ls [])) : W pP l eE room_1 sS mI ar9 bl9 meth cD H locs cells slots Q (F0 mI 976 ls []) := by
  obtain ⟨s, g, hs9, sv, ip, lt, f9, fd, hC, ⟨bf, nd, td, hM⟩, ho, hd⟩ := hI
  obtain ⟨hx, hb, hml, hown, hts, hW, hL, hX0, hN, hFT, hJ, hX, hbl, hbA⟩ := id C
  have hK := hL.K hW
  obtain ⟨hWG, hk3, hk7, hk13, hlt9, v9, hte⟩ := li_f hC
  refine lv_aload_n hx hb dL_law_976 rfl (lv_at hl 1 rfl) ?_
  refine lw_arg C hl (k0 := 0) (k5 := 5) (n := 1) rfl rfl (by decide) (by decide) hi hL3 hS dL_law_977 dL_law_978 dL_law_980 dL_law_981 dL_law_982 ?_
  refine lw_arg C hl (k0 := 0) (k5 := 5) (n := 2) rfl rfl (by decide) (by decide) hi hL3 hS dL_law_983 dL_law_984 dL_law_986 dL_law_987 dL_law_988 ?_
  refine lv_aload_n hx hb dL_law_989 rfl (lv_at hl 3 rfl) ?_
  refine fx_call (vx_runSX (As := [.ref x, .int (xs (i + 1)), .int (xs (i + 2)), .ref (x + 623)]) (rest := []) ⟨hx, hb, hml, hown, hts⟩ (h_find G hL l hX0 ω x s g hs9 sv ip lt bf hC (x + 623) f9 ho (Or.inr (by omega)) (xs (i + 1)) (xs (i + 2))) (vx_cwSW 4 hts gL_law_L_find rfl rfl rfl (by decide +kernel) ⟨Nat.le_of_ble_eq_true rfl, Nat.le_of_ble_eq_true rfl⟩) (fw_preS hW hR) rfl rfl hl.1 rfl (lv_room (Nat.le_of_ble_eq_true rfl)) dL_law_990 ⟨by show cells + 1 ≤ 603072; omega, by show slots + 6 ≤ 7198826; omega⟩) hS (fun E ce q9 τ H locs hx_1 hR hS hce hcv hcl => hx_1.elim) (fun v τ H locs hq hR hS => ?_)
  obtain ⟨k, f8, rfl, hk, hB, ho', hC', hF⟩ := hq
  refine W.widen (k := cells + 3) (n := slots + 18) (by omega) (by omega) ?_
  refine W.eq (g2 := F0 mI 993 ls [.int k]) rfl ?_
  refine lv_istore (lv' := (6, .int k) :: LV b x i) hx hb dL_law_993 hl (by decide) rfl (fun ls hl => ?_)
  have hM' := hM.fr (τ := τ.2) (fun q q1 q2 => hF q (by omega) (by omega))
  have hd9 := (hF (x + 624) (by omega) (by omega)).trans hd
  refine lv_aload_n hx hb dL_law_995 rfl (lv_at hl 3 rfl) ?_
  refine lw_arg C hl (k0 := 1) (k5 := 6) (n := 1) rfl rfl (by decide) (by decide) hi hL3 hS dL_law_996 dL_law_997 dL_law_999 dL_law_1000 dL_law_1001 ?_
  refine lw_arg C hl (k0 := 1) (k5 := 6) (n := 2) rfl rfl (by decide) (by decide) hi hL3 hS dL_law_1002 dL_law_1003 dL_law_1005 dL_law_1006 dL_law_1007 ?_
  refine fw_call (va_runV (As := [.int (xs (i + 1)), .int (xs (i + 2))]) (rest := []) ⟨hx, hb, hml, hown, hts⟩ (j_find G hL l τ (x + 614) s g bf hs9 sv ip lt nd td hM' hWG.1.1 hk3 (xs (i + 1)) (xs (i + 2))) (cwV 2 hts gL_law_X11_find rfl rfl rfl (by decide +kernel) ⟨Nat.le_of_ble_eq_true rfl, Nat.le_of_ble_eq_true rfl⟩) (fw_preV hW hK hR hM'.1 rfl) rfl rfl hl.1 rfl (lv_room (Nat.le_of_ble_eq_true rfl)) dL_law_1008 ⟨by show cells + 3 + 0 ≤ 603072; omega, by show slots + 18 + 0 ≤ 7198826; omega⟩) hS (fun v τ2 H locs hq hR hS => ?_)
  obtain ⟨rfl, ⟨bf2, nd2, td2, hM2⟩, hF2⟩ := hq
  refine W.eq (g2 := F0 mI 1011 ls [.int ((findM s g bf hs9 (xs (i + 1)) (xs (i + 2))).1)]) rfl ?_
  refine lv_istore (lv' := (7, .int ((findM s g bf hs9 (xs (i + 1)) (xs (i + 2))).1)) :: (6, .int k) :: LV b x i) hx hb dL_law_1011 hl (by decide) rfl (fun ls hl => ?_)
  exact lw_tail C hk hB hM2 (hC'.fr (fun q q1 q2 => hF2 q (by omega))) ((hF2 _ (by omega)).trans ho') ((hF2 _ (by omega)).trans hd9) hR hS hl (by omega) (by omega) dL_law_1013 dL_law_1014 dL_law_1017 dL_law_1019 dL_law_1024 dL_law_1026 dL_law_1029 dL_law_1030 dL_law_1031 dL_law_1032 dL_law_1034 dL_law_1035 dL_law_1036 dL_law_1041 (by decide) (kk τ2)
theorem lc_leafletOf {G : FG} {l : Launch} {pP : Program} {eE : Env} {sS : State} {mI : MethodId} {ar9 : Array Value} {bl9 : List Frame} {meth : Method} {cD : Code} {adr : Nat → Nat} {b L : Nat} {xs : Nat → Int32} {Q : State → Prop} (C : LCx G l pP sS mI ar9 cD adr b L xs) {ω : FWd} {x i cells slots : Nat} {H : Heap} {locs : List Loc} {ls : Array Slot} (hi : i + 6 ≤ L) (hL3 : L ≤ 3072) (hI : LI G ω x) (hR : fR G ω H) (hS : va_S (fwA G) sS.heap H locs) (hl : lv_has ls 9 (LV b x i)) (hc : cells + 3 ≤ 603072) (hs : slots + 18 ≤ 7198826)
    (kk : ∀ (τ : FWd) (H : Heap) (locs : List Loc) (ls : Array Slot), LI G τ x → fR G τ H → va_S (fwA G) sS.heap H locs → lv_has ls 9 (LV b x i) → W pP l eE room_1 sS mI ar9 bl9 meth cD H locs (cells + 3) (slots + 18) Q (F0 mI 2711 ls [])) : W pP l eE room_1 sS mI ar9 bl9 meth cD H locs cells slots Q (F0 mI 1044 ls []) := by
  obtain ⟨s, g, hs9, sv, ip, lt, f9, fd, hC, ⟨bf, nd, td, hM⟩, ho, hd⟩ := hI
  obtain ⟨hx, hb, hml, hown, hts, hW, hL, hX0, hN, hFT, hJ, hX, hbl, hbA⟩ := id C
  have hK := hL.K hW
  obtain ⟨hWG, hk3, hk7, hk13, hlt9, v9, hte⟩ := li_f hC
  refine lv_aload_n hx hb dL_law_1044 rfl (lv_at hl 1 rfl) ?_
  refine lw_arg C hl (k0 := 0) (k5 := 5) (n := 1) rfl rfl (by decide) (by decide) hi hL3 hS dL_law_1045 dL_law_1046 dL_law_1048 dL_law_1049 dL_law_1050 ?_
  refine lw_arg C hl (k0 := 0) (k5 := 5) (n := 2) rfl rfl (by decide) (by decide) hi hL3 hS dL_law_1051 dL_law_1052 dL_law_1054 dL_law_1055 dL_law_1056 ?_
  refine lv_aload_n hx hb dL_law_1057 rfl (lv_at hl 3 rfl) ?_
  refine fx_call (vx_runSX (As := [.ref x, .int (xs (i + 1)), .int (xs (i + 2)), .ref (x + 623)]) (rest := []) ⟨hx, hb, hml, hown, hts⟩ (h_leafletOf G hL l hX0 hN ω x s g hs9 sv ip lt nd hC (x + 623) f9 ho (Or.inr (by omega)) (xs (i + 1)) (xs (i + 2))) (vx_cwSW 4 hts gL_law_L_leafletOf rfl rfl rfl (by decide +kernel) ⟨Nat.le_of_ble_eq_true rfl, Nat.le_of_ble_eq_true rfl⟩) (fw_preS hW hR) rfl rfl hl.1 rfl (lv_room (Nat.le_of_ble_eq_true rfl)) dL_law_1058 ⟨by show cells + 2 ≤ 603072; omega, by show slots + 12 ≤ 7198826; omega⟩) hS (fun E ce q9 τ H locs hx_1 hR hS hce hcv hcl => hx_1.elim) (fun v τ H locs hq hR hS => ?_)
  obtain ⟨k, f8, rfl, hk, hB, ho', hC', hF⟩ := hq
  refine W.widen (k := cells + 3) (n := slots + 18) (by omega) (by omega) ?_
  refine W.eq (g2 := F0 mI 1061 ls [.int k]) rfl ?_
  refine lv_istore (lv' := (6, .int k) :: LV b x i) hx hb dL_law_1061 hl (by decide) rfl (fun ls hl => ?_)
  have hM' := hM.fr (τ := τ.2) (fun q q1 q2 => hF q (by omega) (by omega))
  have hd9 := (hF (x + 624) (by omega) (by omega)).trans hd
  refine lv_aload_n hx hb dL_law_1063 rfl (lv_at hl 3 rfl) ?_
  refine lw_arg C hl (k0 := 1) (k5 := 6) (n := 1) rfl rfl (by decide) (by decide) hi hL3 hS dL_law_1064 dL_law_1065 dL_law_1067 dL_law_1068 dL_law_1069 ?_
  refine lw_arg C hl (k0 := 1) (k5 := 6) (n := 2) rfl rfl (by decide) (by decide) hi hL3 hS dL_law_1070 dL_law_1071 dL_law_1073 dL_law_1074 dL_law_1075 ?_
  refine fw_call (va_runV (As := [.int (xs (i + 1)), .int (xs (i + 2))]) (rest := []) ⟨hx, hb, hml, hown, hts⟩ (j_leafletOf G hL l τ (x + 614) s g bf hs9 sv ip lt nd td hM' hWG.1.1 (xs (i + 1)) (xs (i + 2))) (cwV 2 hts gL_law_X11_leafletOf rfl rfl rfl (by decide +kernel) ⟨Nat.le_of_ble_eq_true rfl, Nat.le_of_ble_eq_true rfl⟩) (fw_preV hW hK hR hM'.1 rfl) rfl rfl hl.1 rfl (lv_room (Nat.le_of_ble_eq_true rfl)) dL_law_1076 ⟨by show cells + 3 + 0 ≤ 603072; omega, by show slots + 18 + 0 ≤ 7198826; omega⟩) hS (fun v τ2 H locs hq hR hS => ?_)
  obtain ⟨rfl, ⟨bf2, nd2, td2, hM2⟩, hF2⟩ := hq
  refine W.eq (g2 := F0 mI 1079 ls [.int ((leafOfM s g nd (xs (i + 1)) (xs (i + 2))).1)]) rfl ?_
  refine lv_istore (lv' := (7, .int ((leafOfM s g nd (xs (i + 1)) (xs (i + 2))).1)) :: (6, .int k) :: LV b x i) hx hb dL_law_1079 hl (by decide) rfl (fun ls hl => ?_)
  exact lw_tail C hk hB hM2 (hC'.fr (fun q q1 q2 => hF2 q (by omega))) ((hF2 _ (by omega)).trans ho') ((hF2 _ (by omega)).trans hd9) hR hS hl (by omega) (by omega) dL_law_1081 dL_law_1082 dL_law_1085 dL_law_1087 dL_law_1092 dL_law_1094 dL_law_1097 dL_law_1098 dL_law_1099 dL_law_1100 dL_law_1102 dL_law_1103 dL_law_1104 dL_law_1109 (by decide) (kk τ2)
theorem lc_stepOf {G : FG} {l : Launch} {pP : Program} {eE : Env} {sS : State} {mI : MethodId} {ar9 : Array Value} {bl9 : List Frame} {meth : Method} {cD : Code} {adr : Nat → Nat} {b L : Nat} {xs : Nat → Int32} {Q : State → Prop} (C : LCx G l pP sS mI ar9 cD adr b L xs) {ω : FWd} {x i cells slots : Nat} {H : Heap} {locs : List Loc} {ls : Array Slot} (hi : i + 6 ≤ L) (hL3 : L ≤ 3072) (hI : LI G ω x) (hR : fR G ω H) (hS : va_S (fwA G) sS.heap H locs) (hl : lv_has ls 9 (LV b x i)) (hc : cells + 3 ≤ 603072) (hs : slots + 18 ≤ 7198826)
    (kk : ∀ (τ : FWd) (H : Heap) (locs : List Loc) (ls : Array Slot), LI G τ x → fR G τ H → va_S (fwA G) sS.heap H locs → lv_has ls 9 (LV b x i) → W pP l eE room_1 sS mI ar9 bl9 meth cD H locs (cells + 3) (slots + 18) Q (F0 mI 2711 ls [])) : W pP l eE room_1 sS mI ar9 bl9 meth cD H locs cells slots Q (F0 mI 1112 ls []) := by
  obtain ⟨s, g, hs9, sv, ip, lt, f9, fd, hC, ⟨bf, nd, td, hM⟩, ho, hd⟩ := hI
  obtain ⟨hx, hb, hml, hown, hts, hW, hL, hX0, hN, hFT, hJ, hX, hbl, hbA⟩ := id C
  have hK := hL.K hW
  obtain ⟨hWG, hk3, hk7, hk13, hlt9, v9, hte⟩ := li_f hC
  refine lv_aload_n hx hb dL_law_1112 rfl (lv_at hl 1 rfl) ?_
  refine lw_arg C hl (k0 := 0) (k5 := 5) (n := 1) rfl rfl (by decide) (by decide) hi hL3 hS dL_law_1113 dL_law_1114 dL_law_1116 dL_law_1117 dL_law_1118 ?_
  refine lw_arg C hl (k0 := 0) (k5 := 5) (n := 2) rfl rfl (by decide) (by decide) hi hL3 hS dL_law_1119 dL_law_1120 dL_law_1122 dL_law_1123 dL_law_1124 ?_
  refine lw_arg C hl (k0 := 0) (k5 := 5) (n := 3) rfl rfl (by decide) (by decide) hi hL3 hS dL_law_1125 dL_law_1126 dL_law_1128 dL_law_1129 dL_law_1130 ?_
  refine lv_aload_n hx hb dL_law_1131 rfl (lv_at hl 3 rfl) ?_
  refine fx_call (vx_runSX (As := [.ref x, .int (xs (i + 1)), .int (xs (i + 2)), .int (xs (i + 3)), .ref (x + 623)]) (rest := []) ⟨hx, hb, hml, hown, hts⟩ (h_stepOf G hL l hX0 hN ω x s g hs9 sv ip lt hC (x + 623) f9 ho (Or.inr (by omega)) (xs (i + 1)) (xs (i + 2)) (xs (i + 3))) (vx_cwSW 5 hts gL_law_L_stepOf rfl rfl rfl (by decide +kernel) ⟨Nat.le_of_ble_eq_true rfl, Nat.le_of_ble_eq_true rfl⟩) (fw_preS hW hR) rfl rfl hl.1 rfl (lv_room (Nat.le_of_ble_eq_true rfl)) dL_law_1132 ⟨by show cells + 3 ≤ 603072; omega, by show slots + 18 ≤ 7198826; omega⟩) hS (fun E ce q9 τ H locs hx_1 hR hS hce hcv hcl => hx_1.elim) (fun v τ H locs hq hR hS => ?_)
  obtain ⟨k, f8, rfl, hk, hB, ho', hC', hF⟩ := hq
  refine W.widen (k := cells + 3) (n := slots + 18) (by omega) (by omega) ?_
  refine W.eq (g2 := F0 mI 1135 ls [.int k]) rfl ?_
  refine lv_istore (lv' := (6, .int k) :: LV b x i) hx hb dL_law_1135 hl (by decide) rfl (fun ls hl => ?_)
  have hM' := hM.fr (τ := τ.2) (fun q q1 q2 => hF q (by omega) (by omega))
  have hd9 := (hF (x + 624) (by omega) (by omega)).trans hd
  refine lv_aload_n hx hb dL_law_1137 rfl (lv_at hl 3 rfl) ?_
  refine lw_arg C hl (k0 := 1) (k5 := 6) (n := 1) rfl rfl (by decide) (by decide) hi hL3 hS dL_law_1138 dL_law_1139 dL_law_1141 dL_law_1142 dL_law_1143 ?_
  refine lw_arg C hl (k0 := 1) (k5 := 6) (n := 2) rfl rfl (by decide) (by decide) hi hL3 hS dL_law_1144 dL_law_1145 dL_law_1147 dL_law_1148 dL_law_1149 ?_
  refine lw_arg C hl (k0 := 1) (k5 := 6) (n := 3) rfl rfl (by decide) (by decide) hi hL3 hS dL_law_1150 dL_law_1151 dL_law_1153 dL_law_1154 dL_law_1155 ?_
  refine fw_call (va_runV (As := [.int (xs (i + 1)), .int (xs (i + 2)), .int (xs (i + 3))]) (rest := []) ⟨hx, hb, hml, hown, hts⟩ (j_stepOf G hL l τ (x + 614) s g bf hs9 sv ip lt nd td hM' hWG.1.1 (xs (i + 1)) (xs (i + 2)) (xs (i + 3))) (cwV 3 hts gL_law_X11_stepOf rfl rfl rfl (by decide +kernel) ⟨Nat.le_of_ble_eq_true rfl, Nat.le_of_ble_eq_true rfl⟩) (fw_preV hW hK hR hM'.1 rfl) rfl rfl hl.1 rfl (lv_room (Nat.le_of_ble_eq_true rfl)) dL_law_1156 ⟨by show cells + 3 + 0 ≤ 603072; omega, by show slots + 18 + 0 ≤ 7198826; omega⟩) hS (fun v τ2 H locs hq hR hS => ?_)
  obtain ⟨rfl, ⟨bf2, nd2, td2, hM2⟩, hF2⟩ := hq
  refine W.eq (g2 := F0 mI 1159 ls [.int ((stepOfM s g (xs (i + 1)) (xs (i + 2)) (xs (i + 3))).1)]) rfl ?_
  refine lv_istore (lv' := (7, .int ((stepOfM s g (xs (i + 1)) (xs (i + 2)) (xs (i + 3))).1)) :: (6, .int k) :: LV b x i) hx hb dL_law_1159 hl (by decide) rfl (fun ls hl => ?_)
  exact lw_tail C hk hB hM2 (hC'.fr (fun q q1 q2 => hF2 q (by omega))) ((hF2 _ (by omega)).trans ho') ((hF2 _ (by omega)).trans hd9) hR hS hl (by omega) (by omega) dL_law_1161 dL_law_1162 dL_law_1165 dL_law_1167 dL_law_1172 dL_law_1174 dL_law_1177 dL_law_1178 dL_law_1179 dL_law_1180 dL_law_1182 dL_law_1183 dL_law_1184 dL_law_1189 (by decide) (kk τ2)
