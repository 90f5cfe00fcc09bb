/-! ===== printed by program (wip/whole/gen/lay_law3.py): the law's loop ===== -/
theorem lw_cmp {i L : Nat} (hL : L ≤ 3072) (hi : i ≤ 4000) : Int32.ofNat L - 6 < nI i ↔ L < i + 6 := by
  by_cases h : 6 ≤ L
  · have e : Int32.ofNat L - 6 = nI (L - 6) := by
      show nI L - nI 6 = nI (L - 6)
      rw [show nI L = nI (L - 6) + nI 6 by rw [nI_add]; congr 1; omega]
      exact Int32.add_sub_cancel _ _
    rw [e, nI_ltI (by omega) (by omega)]
    omega
  · have hn : Int32.ofNat L - 6 < 0 := by
      rcases (show L = 0 ∨ L = 1 ∨ L = 2 ∨ L = 3 ∨ L = 4 ∨ L = 5 by omega) with rfl | rfl | rfl | rfl | rfl | rfl <;> decide
    refine ⟨fun _ => by omega, fun _ => ?_⟩
    have h1 := Int32.lt_iff_toInt_lt.mp hn
    refine Int32.lt_iff_toInt_lt.mpr (Int.lt_of_lt_of_le h1 ?_)
    rw [nI_toInt (by omega)]
    show (0 : Int) ≤ i
    omega
/-- one call of the script -/
theorem lw_call {G : FG} {l : Launch} {pP : Program} {eE : Env} {sS : State} {mI : MethodId} {ar9 : Array Value} {bl9 : List Frame} {meth : Method} {cD : Code} {adr : Nat → Nat} {b L : Nat} {xs : Nat → Int32} {Q : State → Prop} (C : LCx G l pP sS mI ar9 cD adr b L xs) {ω : FWd} {x i cells slots : Nat} {H : Heap} {locs : List Loc} {ls : Array Slot} (hi : i + 6 ≤ L) (hL3 : L ≤ 3072) (hI : LI G ω x) (hR : fR G ω H) (hS : va_S (fwA G) sS.heap H locs) (hl : lv_has ls 9 (LV b x i)) (hc : cells + 3 ≤ 603072) (hs : slots + 18 ≤ 7198826)
    (kk : ∀ (τ : FWd) (H : Heap) (locs : List Loc) (ls : Array Slot), LI G τ x → fR G τ H → va_S (fwA G) sS.heap H locs → lv_has ls 9 (LV b x i) → W pP l eE room_1 sS mI ar9 bl9 meth cD H locs (cells + 3) (slots + 18) Q (F0 mI 2711 ls [])) (v : Int32) : W pP l eE room_1 sS mI ar9 bl9 meth cD H locs cells slots Q (F0 mI 45 ls [.int v]) := by
  obtain ⟨hx, hb, -⟩ := id C
  by_cases hv : inB v 0 (nI 40)
  · obtain ⟨n, hn, rfl⟩ := in_n (n := 40) (by decide) hv
    rcases (show n = 0 ∨ n = 1 ∨ n = 2 ∨ n = 3 ∨ n = 4 ∨ n = 5 ∨ n = 6 ∨ n = 7 ∨ n = 8 ∨ n = 9 ∨ n = 10 ∨ n = 11 ∨ n = 12 ∨ n = 13 ∨ n = 14 ∨ n = 15 ∨ n = 16 ∨ n = 17 ∨ n = 18 ∨ n = 19 ∨ n = 20 ∨ n = 21 ∨ n = 22 ∨ n = 23 ∨ n = 24 ∨ n = 25 ∨ n = 26 ∨ n = 27 ∨ n = 28 ∨ n = 29 ∨ n = 30 ∨ n = 31 ∨ n = 32 ∨ n = 33 ∨ n = 34 ∨ n = 35 ∨ n = 36 ∨ n = 37 ∨ n = 38 ∨ n = 39 ∨ n = 40 by omega) with rfl | rfl | rfl | rfl | rfl | rfl | rfl | rfl | rfl | rfl | rfl | rfl | rfl | rfl | rfl | rfl | rfl | rfl | rfl | rfl | rfl | rfl | rfl | rfl | rfl | rfl | rfl | rfl | rfl | rfl | rfl | rfl | rfl | rfl | rfl | rfl | rfl | rfl | rfl | rfl | rfl
    · exact lv_tableIn (off := 179) (tgt := 224) hx hb dL_law_45 (by decide) (by decide) (by rfl) (by decide) (lc_leaflet C hi hL3 hI hR hS hl hc hs kk)
    · exact lv_tableIn (off := 235) (tgt := 280) hx hb dL_law_45 (by decide) (by decide) (by rfl) (by decide) (lc_step C hi hL3 hI hR hS hl hc hs kk)
    · exact lv_tableIn (off := 355) (tgt := 400) hx hb dL_law_45 (by decide) (by decide) (by rfl) (by decide) (lc_fold C hi hL3 hI hR hS hl hc hs kk)
    · exact lv_tableIn (off := 411) (tgt := 456) hx hb dL_law_45 (by decide) (by decide) (by rfl) (by decide) (lc_unfold C hi hL3 hI hR hS hl hc hs kk)
    · exact lv_tableIn (off := 467) (tgt := 512) hx hb dL_law_45 (by decide) (by decide) (by rfl) (by decide) (lc_cousin C hi hL3 hI hR hS hl hc hs kk)
    · exact lv_tableIn (off := 535) (tgt := 580) hx hb dL_law_45 (by decide) (by decide) (by rfl) (by decide) (lc_learn C hi hL3 hI hR hS hl hc hs kk)
    · exact lv_tableIn (off := 603) (tgt := 648) hx hb dL_law_45 (by decide) (by decide) (by rfl) (by decide) (lc_build C hi hL3 hI hR hS hl hc hs kk)
    · exact lv_tableIn (off := 671) (tgt := 716) hx hb dL_law_45 (by decide) (by decide) (by rfl) (by decide) (lc_finish C hi hL3 hI hR hS hl hc hs kk)
    · exact lv_tableIn (off := 739) (tgt := 784) hx hb dL_law_45 (by decide) (by decide) (by rfl) (by decide) (lc_apart C hi hL3 hI hR hS hl hc hs kk)
    · exact lv_tableIn (off := 795) (tgt := 840) hx hb dL_law_45 (by decide) (by decide) (by rfl) (by decide) (lc_move C hi hL3 hI hR hS hl hc hs kk)
    · exact lv_tableIn (off := 863) (tgt := 908) hx hb dL_law_45 (by decide) (by decide) (by rfl) (by decide) (lc_lose C hi hL3 hI hR hS hl hc hs kk)
    · exact lv_tableIn (off := 931) (tgt := 976) hx hb dL_law_45 (by decide) (by decide) (by rfl) (by decide) (lc_find C hi hL3 hI hR hS hl hc hs kk)
    · exact lv_tableIn (off := 999) (tgt := 1044) hx hb dL_law_45 (by decide) (by decide) (by rfl) (by decide) (lc_leafletOf C hi hL3 hI hR hS hl hc hs kk)
    · exact lv_tableIn (off := 1067) (tgt := 1112) hx hb dL_law_45 (by decide) (by decide) (by rfl) (by decide) (lc_stepOf C hi hL3 hI hR hS hl hc hs kk)
    · exact lv_tableIn (off := 1147) (tgt := 1192) hx hb dL_law_45 (by decide) (by decide) (by rfl) (by decide) (lc_cousinOf C hi hL3 hI hR hS hl hc hs kk)
    · exact lv_tableIn (off := 1215) (tgt := 1260) hx hb dL_law_45 (by decide) (by decide) (by rfl) (by decide) (lc_why C hi hL3 hI hR hS hl hc hs kk)
    · exact lv_tableIn (off := 1295) (tgt := 1340) hx hb dL_law_45 (by decide) (by decide) (by rfl) (by decide) (lc_whyAgain C hi hL3 hI hR hS hl hc hs kk)
    · exact lv_tableIn (off := 1375) (tgt := 1420) hx hb dL_law_45 (by decide) (by decide) (by rfl) (by decide) (lc_wouldSkip C hi hL3 hI hR hS hl hc hs kk)
    · exact lv_tableIn (off := 1443) (tgt := 1488) hx hb dL_law_45 (by decide) (by decide) (by rfl) (by decide) (lc_wouldLeave C hi hL3 hI hR hS hl hc hs kk)
    · exact lv_tableIn (off := 1523) (tgt := 1568) hx hb dL_law_45 (by decide) (by decide) (by rfl) (by decide) (lc_bestCousin C hi hL3 hI hR hS hl hc hs kk)
    · exact lv_tableIn (off := 1579) (tgt := 1624) hx hb dL_law_45 (by decide) (by decide) (by rfl) (by decide) (lc_bestLanguage C hi hL3 hI hR hS hl hc hs kk)
    · exact lv_tableIn (off := 1647) (tgt := 1692) hx hb dL_law_45 (by decide) (by decide) (by rfl) (by decide) (lc_bestFolds C hi hL3 hI hR hS hl hc hs kk)
    · exact lv_tableIn (off := 1715) (tgt := 1760) hx hb dL_law_45 (by decide) (by decide) (by rfl) (by decide) (lc_canFinish C hi hL3 hI hR hS hl hc hs kk)
    · exact lv_tableIn (off := 1790) (tgt := 1835) hx hb dL_law_45 (by decide) (by decide) (by rfl) (by decide) (lc_couldFinish C hi hL3 hI hR hS hl hc hs kk)
    · exact lv_tableIn (off := 1846) (tgt := 1891) hx hb dL_law_45 (by decide) (by decide) (by rfl) (by decide) (lc_tin C hi hL3 hI hR hS hl hc hs kk)
    · exact lv_tableIn (off := 1902) (tgt := 1947) hx hb dL_law_45 (by decide) (by decide) (by rfl) (by decide) (lc_lost C hi hL3 hI hR hS hl hc hs kk)
    · exact lv_tableIn (off := 1958) (tgt := 2003) hx hb dL_law_45 (by decide) (by decide) (by rfl) (by decide) (lc_shelfOf C hi hL3 hI hR hS hl hc hs kk)
    · exact lv_tableIn (off := 2014) (tgt := 2059) hx hb dL_law_45 (by decide) (by decide) (by rfl) (by decide) (lc_ranked C hi hL3 hI hR hS hl hc hs kk)
    · exact lv_tableIn (off := 2082) (tgt := 2127) hx hb dL_law_45 (by decide) (by decide) (by rfl) (by decide) (lc_isEven C hi hL3 hI hR hS hl hc hs kk)
    · exact lv_tableIn (off := 2095) (tgt := 2140) hx hb dL_law_45 (by decide) (by decide) (by rfl) (by decide) (lc_append C hi hL3 hI hR hS hl hc hs kk)
    · exact lv_tableIn (off := 2153) (tgt := 2198) hx hb dL_law_45 (by decide) (by decide) (by rfl) (by decide) (lc_commands C hi hL3 hI hR hS hl hc hs kk)
    · exact lv_tableIn (off := 2197) (tgt := 2242) hx hb dL_law_45 (by decide) (by decide) (by rfl) (by decide) (lc_faultPosition C hi hL3 hI hR hS hl hc hs kk)
    · exact lv_tableIn (off := 2210) (tgt := 2255) hx hb dL_law_45 (by decide) (by decide) (by rfl) (by decide) (lc_reason C hi hL3 hI hR hS hl hc hs kk)
    · exact lv_tableIn (off := 2266) (tgt := 2311) hx hb dL_law_45 (by decide) (by decide) (by rfl) (by decide) (lc_line C hi hL3 hI hR hS hl hc hs kk)
    · exact lv_tableIn (off := 2322) (tgt := 2367) hx hb dL_law_45 (by decide) (by decide) (by rfl) (by decide) (lc_character C hi hL3 hI hR hS hl hc hs kk)
    · exact lv_tableIn (off := 2378) (tgt := 2423) hx hb dL_law_45 (by decide) (by decide) (by rfl) (by decide) (lc_meanSteps C hi hL3 hI hR hS hl hc hs kk)
    · exact lv_tableIn (off := 2443) (tgt := 2488) hx hb dL_law_45 (by decide) (by decide) (by rfl) (by decide) (lc_skippedShare C hi hL3 hI hR hS hl hc hs kk)
    · exact lv_tableIn (off := 2509) (tgt := 2554) hx hb dL_law_45 (by decide) (by decide) (by rfl) (by decide) (lc_account C hi hL3 hI hR hS hl hc hs kk)
    · exact lv_tableIn (off := 2565) (tgt := 2610) hx hb dL_law_45 (by decide) (by decide) (by rfl) (by decide) (lc_undo C hi hL3 hI hR hS hl hc hs kk)
    · exact lv_tableIn (off := 2609) (tgt := 2654) hx hb dL_law_45 (by decide) (by decide) (by rfl) (by decide) (lc_save C hi hL3 hI hR hS hl hc hs kk)
    · exact lv_tableIn (off := 2622) (tgt := 2667) hx hb dL_law_45 (by decide) (by decide) (by rfl) (by decide) (lc_restore C hi hL3 hI hR hS hl hc hs kk)
  · refine lv_tableOut (tgt := 2711) hx hb dL_law_45 ?_ (by decide) (W.widen (k := cells + 3) (n := slots + 18) (by omega) (by omega) (kk ω H locs ls hI hR hS hl))
    by_cases c1 : v < 0
    · exact Or.inl (Int32.lt_iff_toInt_lt.mp c1)
    · refine Or.inr ?_
      by_cases c2 : nI 40 < v
      · exact Int32.lt_iff_toInt_lt.mp c2
      · exact absurd ⟨c1, c2⟩ hv
theorem lw_loop {G : FG} {l : Launch} {pP : Program} {eE : Env} {sS : State} {mI : MethodId} {ar9 : Array Value} {bl9 : List Frame} {meth : Method} {cD : Code} {adr : Nat → Nat} {b L : Nat} {xs : Nat → Int32} {Q : State → Prop} (C : LCx G l pP sS mI ar9 cD adr b L xs) (hL3 : L ≤ 3072) {x : Nat}
    (kk : ∀ (τ : FWd) (H : Heap) (locs : List Loc) (ls : Array Slot), fR G τ H → va_S (fwA G) sS.heap H locs → W pP l eE room_1 sS mI ar9 bl9 meth cD H locs 603072 7198826 Q (F0 mI 2717 ls [])) :
    ∀ (n i cells slots : Nat), L < i + 6 + 6 * n → i ≤ L → cells + 3 * n ≤ 603072 → slots + 18 * n ≤ 7198826 → ∀ (ω : FWd) (H : Heap) (locs : List Loc) (ls : Array Slot), LI G ω x → fR G ω H → va_S (fwA G) sS.heap H locs → lv_has ls 9 (LV b x i) → W pP l eE room_1 sS mI ar9 bl9 meth cD H locs cells slots Q (F0 mI 28 ls []) := by
  obtain ⟨hx, hb, hml, hown, hts, hW, hL, hX0, hN, hFT, hJ, hX, hbl, hbA⟩ := id C
  intro n
  induction n with
  | zero =>
    intro i cells slots hn hi hc hs ω H locs ls hI hR hS hl
    refine lv_iload hx hb dL_law_28 (lv_at hl 5 rfl) ?_
    refine lv_aload_n hx hb dL_law_30 rfl (lv_at hl 0 rfl) ?_
    refine va_slen hx hb hX hbl hbA hS dL_law_31 ?_
    refine lv_bipush (v := 6) hx hb dL_law_32 (by decide) ?_
    refine lv_isub hx hb dL_law_34 ?_
    exact lv_icmp_gt (tgt := 2717) hx hb dL_law_35 (by decide) (fun _ => W.widen (k := 603072) (n := 7198826) (by omega) (by omega) (kk ω H locs ls hR hS)) (fun c => absurd ((lw_cmp hL3 (by omega)).mpr (by omega)) c)
  | succ n ih =>
    intro i cells slots hn hi hc hs ω H locs ls hI hR hS hl
    refine lv_iload hx hb dL_law_28 (lv_at hl 5 rfl) ?_
    refine lv_aload_n hx hb dL_law_30 rfl (lv_at hl 0 rfl) ?_
    refine va_slen hx hb hX hbl hbA hS dL_law_31 ?_
    refine lv_bipush (v := 6) hx hb dL_law_32 (by decide) ?_
    refine lv_isub hx hb dL_law_34 ?_
    refine lv_icmp_gt (tgt := 2717) hx hb dL_law_35 (by decide) (fun _ => W.widen (k := 603072) (n := 7198826) (by omega) (by omega) (kk ω H locs ls hR hS)) (fun c => ?_)
    have h6 : i + 6 ≤ L := Nat.le_of_not_lt (fun z => c ((lw_cmp hL3 (by omega)).mpr z))
    refine lv_aload_n hx hb dL_law_38 rfl (lv_at hl 0 rfl) ?_
    refine lv_iload hx hb dL_law_39 (lv_at hl 5 rfl) ?_
    refine va_sld hx hb hX hbl hbA hS (vp_in_nI (by omega) (by omega)) dL_law_41 ?_
    refine lv_bipush (v := 63) hx hb dL_law_42 (by decide) ?_
    refine lv_iand hx hb dL_law_44 ?_
    refine lw_call C h6 hL3 hI hR hS hl (by omega) (by omega) (fun τ H locs ls hI hR hS hl => ?_) _
    refine lv_iinc (v := nI (i + 6)) (lv' := [(5, .int (nI (i + 6))), (0, .ref b), (1, .ref x), (2, .ref (x + 614)), (3, .ref (x + 623)), (4, .ref (x + 624))]) hx hb dL_law_2711 hl (k := 5) rfl (by rw [show Int32.ofInt 6 = nI 6 from rfl, nI_add]) (by decide) rfl (fun ls hl => ?_)
    refine lv_goto (tgt := 28) hx hb dL_law_2714 (by decide) ?_
    exact ih (i + 6) (cells + 3) (slots + 18) (by omega) (by omega) (by omega) (by omega) τ H locs ls hI hR hS (lv_sub hl [1, 2, 3, 4, 5, 0] rfl)

