/-! ===== printed by program (wip/p44/lay_lawx.py): the law, its texts ===== -/
set_option maxRecDepth 100000 in
theorem gL_law_L_runsB : GoodIn wsL_law (va_wsS RL 161 yL_runs wrX) := goodIn_app (goodIn_of _ (by decide +kernel)) (goodIn_app ggL_law_L_runs (goodIn_of _ (by decide +kernel)))
def lwT : List (Nat × String × List Int32) := [(134, "m0@", [109, 48, 64]), (142, ";m0@", [59, 109, 48, 64]), (167, "f9", [102, 57]), (169, "s0:3*2=7", [115, 48, 58, 51, 42, 50, 61, 55]), (171, "s0:3*2=", [115, 48, 58, 51, 42, 50, 61]), (177, "s0:3*2=012340", [115, 48, 58, 51, 42, 50, 61, 48, 49, 50, 51, 52, 48]), (179, "c3=012345", [99, 51, 61, 48, 49, 50, 51, 52, 53]), (181, "l01", [108, 48, 49]), (183, "", []), (185, "f0;", [102, 48, 59]), (187, "b0", [98, 48]), (189, "d0>1", [100, 48, 62, 49]), (191, "z", [122]), (193, "x1*", [120, 49, 42]), (199, "l1;S0:", [108, 49, 59, 83, 48, 58]), (201, "*", [42]), (203, "=0;s0:", [61, 48, 59, 115, 48, 58]), (205, "*4=12;s0:", [42, 52, 61, 49, 50, 59, 115, 48, 58]), (207, "*1=03;c2=01;c0=", [42, 49, 61, 48, 51, 59, 99, 50, 61, 48, 49, 59, 99, 48, 61]), (212, "+ ", [43, 32]), (214, "*4 ", [42, 52, 32]), (216, "*1", [42, 49]), (240, "+/ ", [43, 47, 32]), (247, "*4/ ", [42, 52, 47, 32]), (249, "*1?", [42, 49, 63])]
/-- what holds all along the law -/
def LWx (G : FG) (l : Launch) (p : Program) (s : State) (m : MethodId) (args : Array Value) (c : Code) (adr : Nat → Nat) (b L : Nat) (xs : Nat → Int32) (dd : Nat) (lad : Nat → Nat) : Prop :=
  p.tables.exec = Jvm.exec ∧ c.code = cL_law ∧ c.maxLocals = 14 ∧ s.vm.findClass RL = some m.cls ∧ (∀ w ∈ wsL_law, w.before args s = true) ∧ G.2.2.WarmedH s.vm ∧ FL G ∧ FX0 G l ∧ va_Nc "java/lang/UnsupportedOperationException" "java/lang/IllegalArgumentException" G.2.2 ∧ FTx G adr ∧ FJ G ∧ FDg G dd ∧ (∀ q ∈ lwT, vk_R RL q.1 q.2.1 (lad q.1) G.2.2 ∧ StrF G (lad q.1) q.2.2) ∧ va_X b L xs G.2.2 G.2.2.heap ∧ b < G.2.2.heap.size ∧ ¬ fwA G b ∧ L ≤ 260
/-- a text that was built at or behind m -/
def TxB (G : FG) (σ : Nat → Option va_E) (m q : Nat) (cs : List Int32) : Prop := ∃ vb : Nat, m ≤ vb ∧ σ q = some (.inr (0, [.ref vb, .int 0, .int 0, .int 0])) ∧ σ vb = some (.inl (G.2.1 2, cs.length, .inl (fun i => cs.getD i 0)))
theorem TxB.tx {G : FG} {σ : Nat → Option va_E} {m q x : Nat} {cs : List Int32} (h : TxB G σ m q cs) (hm : x + 614 ≤ m) (hq : m ≤ q) : TxR G σ x q cs := by
  obtain ⟨vb, h1, h2, h3⟩ := h
  exact Or.inr ⟨vb, by omega, by omega, h2, h3⟩
set_option maxRecDepth 100000 in
theorem in4 : ∀ w ∈ u_ws RJ4 TJ4 4, w ∈ wsL_law := by decide +kernel
set_option maxRecDepth 100000 in
theorem in10 : ∀ w ∈ u_ws RX10 TX10 9, w ∈ wsL_law := by decide +kernel
set_option maxHeartbeats 8000000 in
set_option maxRecDepth 100000 in
theorem tb_mm1 {G : FG} {l : Launch} {pP : Program} {eE : Env} {sS : State} {mI : MethodId} {ar9 : Array Value} {bl9 : List Frame} {meth : Method} {cD : Code} {Q : State → Prop} {adr lad : Nat → Nat} {b L dd : Nat} {xs : Nat → Int32} (C : LWx G l pP sS mI ar9 cD adr b L xs dd lad) {x : Nat} {o : Nat} {s : Nat} {lv : List (Nat × Value)} {k5 : Nat} (h5 : lv[k5]? = some (5, .int (nI s))) (hd5 : s < 10) {k6 : Nat} (h6 : lv[k6]? = some (6, .int (nI o))) (hd6 : o < 10) {τ : FWd} {cells slots : Nat} {H : Heap} {locs : List Loc} {ls : Array Slot} (hc : cells ≤ 600000) (hs : slots ≤ 7000000) (hR : fR G τ H) (hS : va_S (fwA G) sS.heap H locs) (hl : lv_has ls 14 lv)
    (kk : ∀ (τ2 : FWd) (r : Nat) (H : Heap) (locs : List Loc), τ.1 ≤ r → (∀ q9, q9 < τ.1 → τ2.2 q9 = τ.2 q9) → TxB G τ2.2 τ.1 r [109, 48, 64, nI (48 + o), 59, 109, 48, 64, nI (48 + s)] → fR G τ2 H → va_S (fwA G) sS.heap H locs → W pP l eE room_1 sS mI ar9 bl9 meth cD H locs (cells + 4) (slots + 1024) Q (F0 mI 89 ls (.ref r :: [.ref x]))) : W pP l eE room_1 sS mI ar9 bl9 meth cD H locs cells slots Q (F0 mI 59 ls [.ref x]) := by
  obtain ⟨hx, hb, hml, hown, hts, hW, hL, hX0, hN, hFT, hJ, hD, hLT, hX, hbl, hbA, hL9⟩ := id C
  have hK := hL.K hW
  obtain ⟨q, hq0⟩ : ∃ z9 : Nat, z9 = τ.1 := ⟨_, rfl⟩
  have hin4 : ∀ w ∈ u_ws RJ4 TJ4 4, w ∈ wsL_law := in4
  have hR : fR G (q, τ.2) H := by rw [hq0]; exact hR
  refine fw_new (C := RJ4) (T := TJ4) (N := 4) (ci := 1) hx hb hts hin4 tyJ4 tyJ4_ok hown (hts (.classLink RL 131 RJ4) (by decide +kernel)) (hts (.instantiable RJ4 4) (by decide +kernel)) (hts (.initialized RJ4) (by decide +kernel)) hK hR hS rfl (n := q) rfl (fs := [.null, .int 0, .int 0, .int 0]) (fun j hj => by rcases (show j = 0 ∨ j = 1 ∨ j = 2 ∨ j = 3 by omega) with rfl | rfl | rfl | rfl <;> rfl) (by show cells + 1 ≤ 677820; omega) (by show slots + 4 ≤ 7068237; omega) dL_law_59 (fun H hR hS => ?_)
  refine W.widen (k := cells + 1) (n := slots + 4) (by omega) (by omega) ?_
  obtain ⟨σ1, hs1⟩ : ∃ z9 : Nat → Option va_E, z9 = va_up τ.2 q (some (.inr (1, [.null, .int 0, .int 0, .int 0]))) := ⟨_, rfl⟩
  have hR : fR G (q + 1, σ1) H := by rw [hs1]; exact hR
  have e1 : σ1 q = some (.inr (1, [.null, .int 0, .int 0, .int 0])) := by rw [hs1]; exact va_up_at
  have f1 : ∀ q9, q9 < q → σ1 q9 = τ.2 q9 := fun q9 hq => by rw [hs1]; exact va_up_off (by omega)
  clear hs1
  refine lv_dup hx hb dL_law_62 rfl ?_
  refine fw_call (va_runI (As := []) (b := q) (rest := [.ref q, .ref x]) ⟨hx, hb, hml, hown, hts⟩ (c_J4_init_da8c8 G hL l (q + 1, σ1) hJ q (q + 1) rfl e1 (by omega)) (cwI 0 hts gL_law_J4_init_da8c8 rfl rfl rfl (hts (.initialized yJ4_init_da8c8.cls) (by decide +kernel)) (hts (.methodLink RL 133 yJ4_init_da8c8) (by decide +kernel)) (hts (.instanceMethod yJ4_init_da8c8) (by decide +kernel)) rfl (by decide +kernel) ⟨Nat.le_of_ble_eq_true rfl, Nat.le_of_ble_eq_true rfl⟩) (fw_preI hW hR) rfl rfl hl.1 rfl (lv_room (Nat.le_of_ble_eq_true rfl)) dL_law_63 ⟨by show cells + 1 + 1 ≤ 677820; omega, by show slots + 4 + 16 ≤ 7068237; omega⟩) hS (fun v_1 τ_1 H locs hq_1 hR hS => ?_)
  refine W.widen (k := cells + 2) (n := slots + 20) (by omega) (by omega) ?_
  obtain ⟨rfl, gz, gq, gv, gf⟩ := hq_1
  have gf : ∀ q9, q9 < q → τ_1.2 q9 = τ.2 q9 := fun q9 h => (gf q9 (by omega) (by omega)).trans (f1 q9 h)
  have hac : Asc [] := asc_nil
  have gq : τ_1.2 q = some (.inr (1, [.ref (q + 1), .int 0, .int 0, .int (nI 0)])) := gq
  have gv : τ_1.2 (q + 1) = some (.inl (G.2.1 2, 16, .inl (fun i => ([] : List Int32).getD i 0))) := by rw [show (fun i => ([] : List Int32).getD i 0) = (fun _ => 0) from funext (fun i => by simp)]; exact gv
  refine W.eq (g2 := F0 mI 66 ls [.ref q, .ref x]) rfl ?_
  refine va_ldcS (own := RL) hx hb hown (vk_R.warm hW (hLT (134, "m0@", [109, 48, 64]) (by decide)).1) dL_law_66 ?_
  have hlt9 : Asc [109, 48, 64] := asc_of (by decide)
  refine fw_call (va_runV (As := [.ref (lad 134)]) (rest := [.ref x]) ⟨hx, hb, hml, hown, hts⟩ (c_J4_append_15ec4A G hL l τ_1 hJ q (q + 1) 16 0 ([] : List Int32) gq gv (by omega) rfl (by decide) (lad 134) [109, 48, 64] (hLT (134, "m0@", [109, 48, 64]) (by decide)).2 (by decide) (by decide) hlt9) (cwV 1 hts gL_law_J4_append_15ec4 rfl rfl rfl (by decide +kernel) ⟨Nat.le_of_ble_eq_true rfl, Nat.le_of_ble_eq_true rfl⟩) (fw_preV hW hK hR gq rfl) rfl rfl hl.1 rfl (lv_room (Nat.le_of_ble_eq_true rfl)) dL_law_68 ⟨by show cells + 2 + 0 ≤ 677820; omega, by show slots + 20 + 0 ≤ 7068237; omega⟩) hS (fun v_2 τ_2 H locs hq_2 hR hS => ?_)
  refine W.widen (k := cells + 2) (n := slots + 20) (by omega) (by omega) ?_
  obtain ⟨rfl, gz9, gq, gv, gf9⟩ := hq_2
  have gz := gz9.trans gz
  have gf : ∀ q9, q9 < q → τ_2.2 q9 = τ.2 q9 := fun q9 h => (gf9 q9 (by omega) (by omega)).trans (gf q9 h)
  have hac : Asc (([] : List Int32) ++ [109, 48, 64]) := asc_app hac hlt9
  have gq : τ_2.2 q = some (.inr (1, [.ref (q + 1), .int 0, .int 0, .int (nI 3)])) := gq
  refine W.eq (g2 := F0 mI 71 ls [.ref q, .ref x]) rfl ?_
  refine lv_iload hx hb dL_law_71 (lv_at hl k6 h6) ?_
  refine fw_call (va_runV (As := [.int (nI o)]) (rest := [.ref x]) ⟨hx, hb, hml, hown, hts⟩ (c_J4_append_bf812 G hL l τ_2 hJ dd hD o q (q + 1) 16 3 (([] : List Int32) ++ [109, 48, 64]) hd6 gq gv (by omega) rfl (by decide) (by decide)) (cwV 1 hts gL_law_J4_append_bf812 rfl rfl rfl (by decide +kernel) ⟨Nat.le_of_ble_eq_true rfl, Nat.le_of_ble_eq_true rfl⟩) (fw_preV hW hK hR gq rfl) rfl rfl hl.1 rfl (lv_room (Nat.le_of_ble_eq_true rfl)) dL_law_73 ⟨by show cells + 2 + 0 ≤ 677820; omega, by show slots + 20 + 0 ≤ 7068237; omega⟩) hS (fun v_3 τ_3 H locs hq_3 hR hS => ?_)
  refine W.widen (k := cells + 2) (n := slots + 20) (by omega) (by omega) ?_
  obtain ⟨rfl, gz9, gq, gv, gf9⟩ := hq_3
  have gz := gz9.trans gz
  have gf : ∀ q9, q9 < q → τ_3.2 q9 = τ.2 q9 := fun q9 h => (gf9 q9 (by omega) (by omega)).trans (gf q9 h)
  have hac : Asc ((([] : List Int32) ++ [109, 48, 64]) ++ [nI (48 + o)]) := asc_app hac (asc_dg hd6)
  have gq : τ_3.2 q = some (.inr (1, [.ref (q + 1), .int 0, .int 0, .int (nI 4)])) := gq
  refine W.eq (g2 := F0 mI 76 ls [.ref q, .ref x]) rfl ?_
  refine va_ldcS (own := RL) hx hb hown (vk_R.warm hW (hLT (142, ";m0@", [59, 109, 48, 64]) (by decide)).1) dL_law_76 ?_
  have hlt9 : Asc [59, 109, 48, 64] := asc_of (by decide)
  refine fw_call (va_runV (As := [.ref (lad 142)]) (rest := [.ref x]) ⟨hx, hb, hml, hown, hts⟩ (c_J4_append_15ec4A G hL l τ_3 hJ q (q + 1) 16 4 ((([] : List Int32) ++ [109, 48, 64]) ++ [nI (48 + o)]) gq gv (by omega) rfl (by decide) (lad 142) [59, 109, 48, 64] (hLT (142, ";m0@", [59, 109, 48, 64]) (by decide)).2 (by decide) (by decide) hlt9) (cwV 1 hts gL_law_J4_append_15ec4 rfl rfl rfl (by decide +kernel) ⟨Nat.le_of_ble_eq_true rfl, Nat.le_of_ble_eq_true rfl⟩) (fw_preV hW hK hR gq rfl) rfl rfl hl.1 rfl (lv_room (Nat.le_of_ble_eq_true rfl)) dL_law_78 ⟨by show cells + 2 + 0 ≤ 677820; omega, by show slots + 20 + 0 ≤ 7068237; omega⟩) hS (fun v_4 τ_4 H locs hq_4 hR hS => ?_)
  refine W.widen (k := cells + 2) (n := slots + 20) (by omega) (by omega) ?_
  obtain ⟨rfl, gz9, gq, gv, gf9⟩ := hq_4
  have gz := gz9.trans gz
  have gf : ∀ q9, q9 < q → τ_4.2 q9 = τ.2 q9 := fun q9 h => (gf9 q9 (by omega) (by omega)).trans (gf q9 h)
  have hac : Asc (((([] : List Int32) ++ [109, 48, 64]) ++ [nI (48 + o)]) ++ [59, 109, 48, 64]) := asc_app hac hlt9
  have gq : τ_4.2 q = some (.inr (1, [.ref (q + 1), .int 0, .int 0, .int (nI 8)])) := gq
  refine W.eq (g2 := F0 mI 81 ls [.ref q, .ref x]) rfl ?_
  refine lv_iload hx hb dL_law_81 (lv_at hl k5 h5) ?_
  refine fw_call (va_runV (As := [.int (nI s)]) (rest := [.ref x]) ⟨hx, hb, hml, hown, hts⟩ (c_J4_append_bf812 G hL l τ_4 hJ dd hD s q (q + 1) 16 8 (((([] : List Int32) ++ [109, 48, 64]) ++ [nI (48 + o)]) ++ [59, 109, 48, 64]) hd5 gq gv (by omega) rfl (by decide) (by decide)) (cwV 1 hts gL_law_J4_append_bf812 rfl rfl rfl (by decide +kernel) ⟨Nat.le_of_ble_eq_true rfl, Nat.le_of_ble_eq_true rfl⟩) (fw_preV hW hK hR gq rfl) rfl rfl hl.1 rfl (lv_room (Nat.le_of_ble_eq_true rfl)) dL_law_83 ⟨by show cells + 2 + 0 ≤ 677820; omega, by show slots + 20 + 0 ≤ 7068237; omega⟩) hS (fun v_5 τ_5 H locs hq_5 hR hS => ?_)
  refine W.widen (k := cells + 2) (n := slots + 20) (by omega) (by omega) ?_
  obtain ⟨rfl, gz9, gq, gv, gf9⟩ := hq_5
  have gz := gz9.trans gz
  have gf : ∀ q9, q9 < q → τ_5.2 q9 = τ.2 q9 := fun q9 h => (gf9 q9 (by omega) (by omega)).trans (gf q9 h)
  have hac : Asc ((((([] : List Int32) ++ [109, 48, 64]) ++ [nI (48 + o)]) ++ [59, 109, 48, 64]) ++ [nI (48 + s)]) := asc_app hac (asc_dg hd5)
  have gq : τ_5.2 q = some (.inr (1, [.ref (q + 1), .int 0, .int 0, .int (nI 9)])) := gq
  refine W.eq (g2 := F0 mI 86 ls [.ref q, .ref x]) rfl ?_
  refine fw_call (va_runV (As := []) (rest := [.ref x]) ⟨hx, hb, hml, hown, hts⟩ (c_J4_toString_0e30d G hL l τ_5 hJ q (q + 1) (q + 1 + 1) 16 9 ((((([] : List Int32) ++ [109, 48, 64]) ++ [nI (48 + o)]) ++ [59, 109, 48, 64]) ++ [nI (48 + s)]) gz gq gv rfl hac (by omega) (by omega) (by decide) (by decide)) (cwV 0 hts gL_law_J4_toString_0e30d rfl rfl rfl (by decide +kernel) ⟨Nat.le_of_ble_eq_true rfl, Nat.le_of_ble_eq_true rfl⟩) (fw_preV hW hK hR gq rfl) rfl rfl hl.1 rfl (lv_room (Nat.le_of_ble_eq_true rfl)) dL_law_86 ⟨by show cells + 2 + 2 ≤ 677820; omega, by show slots + 20 + 1004 ≤ 7068237; omega⟩) hS (fun v_6 τ_6 H locs hq_6 hR hS => ?_)
  refine W.widen (k := cells + 4) (n := slots + 1024) (by omega) (by omega) ?_
  obtain ⟨rfl, gz, gq, gv, gf9⟩ := hq_6
  have gf : ∀ q9, q9 < q → τ_6.2 q9 = τ.2 q9 := fun q9 h => (gf9 q9 (by omega)).trans (gf q9 h)
  refine W.eq (g2 := F0 mI 89 ls [.ref (q + 1 + 1), .ref x]) rfl ?_
  exact kk τ_6 (q + 1 + 1) H locs (by omega) (by rw [hq0] at gf; exact gf) ⟨(q + 1 + 1) + 1, by omega, gq, gv⟩ hR hS
set_option maxHeartbeats 8000000 in
set_option maxRecDepth 100000 in
theorem tb_mm2 {G : FG} {l : Launch} {pP : Program} {eE : Env} {sS : State} {mI : MethodId} {ar9 : Array Value} {bl9 : List Frame} {meth : Method} {cD : Code} {Q : State → Prop} {adr lad : Nat → Nat} {b L dd : Nat} {xs : Nat → Int32} (C : LWx G l pP sS mI ar9 cD adr b L xs dd lad) {x : Nat} {o : Nat} {lv : List (Nat × Value)} {k6 : Nat} (h6 : lv[k6]? = some (6, .int (nI o))) (hd6 : o < 10) {τ : FWd} {cells slots : Nat} {H : Heap} {locs : List Loc} {ls : Array Slot} (hc : cells ≤ 600000) (hs : slots ≤ 7000000) (hR : fR G τ H) (hS : va_S (fwA G) sS.heap H locs) (hl : lv_has ls 14 lv)
    (kk : ∀ (τ2 : FWd) (r : Nat) (H : Heap) (locs : List Loc), τ.1 ≤ r → (∀ q9, q9 < τ.1 → τ2.2 q9 = τ.2 q9) → TxB G τ2.2 τ.1 r [109, 48, 64, nI (48 + o), 59, 109, 48, 64, nI (48 + o)] → fR G τ2 H → va_S (fwA G) sS.heap H locs → W pP l eE room_1 sS mI ar9 bl9 meth cD H locs (cells + 4) (slots + 1024) Q (F0 mI 247 ls (.ref r :: [.ref x]))) : W pP l eE room_1 sS mI ar9 bl9 meth cD H locs cells slots Q (F0 mI 217 ls [.ref x]) := by
  obtain ⟨hx, hb, hml, hown, hts, hW, hL, hX0, hN, hFT, hJ, hD, hLT, hX, hbl, hbA, hL9⟩ := id C
  have hK := hL.K hW
  obtain ⟨q, hq0⟩ : ∃ z9 : Nat, z9 = τ.1 := ⟨_, rfl⟩
  have hin4 : ∀ w ∈ u_ws RJ4 TJ4 4, w ∈ wsL_law := in4
  have hR : fR G (q, τ.2) H := by rw [hq0]; exact hR
  refine fw_new (C := RJ4) (T := TJ4) (N := 4) (ci := 1) hx hb hts hin4 tyJ4 tyJ4_ok hown (hts (.classLink RL 131 RJ4) (by decide +kernel)) (hts (.instantiable RJ4 4) (by decide +kernel)) (hts (.initialized RJ4) (by decide +kernel)) hK hR hS rfl (n := q) rfl (fs := [.null, .int 0, .int 0, .int 0]) (fun j hj => by rcases (show j = 0 ∨ j = 1 ∨ j = 2 ∨ j = 3 by omega) with rfl | rfl | rfl | rfl <;> rfl) (by show cells + 1 ≤ 677820; omega) (by show slots + 4 ≤ 7068237; omega) dL_law_217 (fun H hR hS => ?_)
  refine W.widen (k := cells + 1) (n := slots + 4) (by omega) (by omega) ?_
  obtain ⟨σ1, hs1⟩ : ∃ z9 : Nat → Option va_E, z9 = va_up τ.2 q (some (.inr (1, [.null, .int 0, .int 0, .int 0]))) := ⟨_, rfl⟩
  have hR : fR G (q + 1, σ1) H := by rw [hs1]; exact hR
  have e1 : σ1 q = some (.inr (1, [.null, .int 0, .int 0, .int 0])) := by rw [hs1]; exact va_up_at
  have f1 : ∀ q9, q9 < q → σ1 q9 = τ.2 q9 := fun q9 hq => by rw [hs1]; exact va_up_off (by omega)
  clear hs1
  refine lv_dup hx hb dL_law_220 rfl ?_
  refine fw_call (va_runI (As := []) (b := q) (rest := [.ref q, .ref x]) ⟨hx, hb, hml, hown, hts⟩ (c_J4_init_da8c8 G hL l (q + 1, σ1) hJ q (q + 1) rfl e1 (by omega)) (cwI 0 hts gL_law_J4_init_da8c8 rfl rfl rfl (hts (.initialized yJ4_init_da8c8.cls) (by decide +kernel)) (hts (.methodLink RL 133 yJ4_init_da8c8) (by decide +kernel)) (hts (.instanceMethod yJ4_init_da8c8) (by decide +kernel)) rfl (by decide +kernel) ⟨Nat.le_of_ble_eq_true rfl, Nat.le_of_ble_eq_true rfl⟩) (fw_preI hW hR) rfl rfl hl.1 rfl (lv_room (Nat.le_of_ble_eq_true rfl)) dL_law_221 ⟨by show cells + 1 + 1 ≤ 677820; omega, by show slots + 4 + 16 ≤ 7068237; omega⟩) hS (fun v_1 τ_1 H locs hq_1 hR hS => ?_)
  refine W.widen (k := cells + 2) (n := slots + 20) (by omega) (by omega) ?_
  obtain ⟨rfl, gz, gq, gv, gf⟩ := hq_1
  have gf : ∀ q9, q9 < q → τ_1.2 q9 = τ.2 q9 := fun q9 h => (gf q9 (by omega) (by omega)).trans (f1 q9 h)
  have hac : Asc [] := asc_nil
  have gq : τ_1.2 q = some (.inr (1, [.ref (q + 1), .int 0, .int 0, .int (nI 0)])) := gq
  have gv : τ_1.2 (q + 1) = some (.inl (G.2.1 2, 16, .inl (fun i => ([] : List Int32).getD i 0))) := by rw [show (fun i => ([] : List Int32).getD i 0) = (fun _ => 0) from funext (fun i => by simp)]; exact gv
  refine W.eq (g2 := F0 mI 224 ls [.ref q, .ref x]) rfl ?_
  refine va_ldcS (own := RL) hx hb hown (vk_R.warm hW (hLT (134, "m0@", [109, 48, 64]) (by decide)).1) dL_law_224 ?_
  have hlt9 : Asc [109, 48, 64] := asc_of (by decide)
  refine fw_call (va_runV (As := [.ref (lad 134)]) (rest := [.ref x]) ⟨hx, hb, hml, hown, hts⟩ (c_J4_append_15ec4A G hL l τ_1 hJ q (q + 1) 16 0 ([] : List Int32) gq gv (by omega) rfl (by decide) (lad 134) [109, 48, 64] (hLT (134, "m0@", [109, 48, 64]) (by decide)).2 (by decide) (by decide) hlt9) (cwV 1 hts gL_law_J4_append_15ec4 rfl rfl rfl (by decide +kernel) ⟨Nat.le_of_ble_eq_true rfl, Nat.le_of_ble_eq_true rfl⟩) (fw_preV hW hK hR gq rfl) rfl rfl hl.1 rfl (lv_room (Nat.le_of_ble_eq_true rfl)) dL_law_226 ⟨by show cells + 2 + 0 ≤ 677820; omega, by show slots + 20 + 0 ≤ 7068237; omega⟩) hS (fun v_2 τ_2 H locs hq_2 hR hS => ?_)
  refine W.widen (k := cells + 2) (n := slots + 20) (by omega) (by omega) ?_
  obtain ⟨rfl, gz9, gq, gv, gf9⟩ := hq_2
  have gz := gz9.trans gz
  have gf : ∀ q9, q9 < q → τ_2.2 q9 = τ.2 q9 := fun q9 h => (gf9 q9 (by omega) (by omega)).trans (gf q9 h)
  have hac : Asc (([] : List Int32) ++ [109, 48, 64]) := asc_app hac hlt9
  have gq : τ_2.2 q = some (.inr (1, [.ref (q + 1), .int 0, .int 0, .int (nI 3)])) := gq
  refine W.eq (g2 := F0 mI 229 ls [.ref q, .ref x]) rfl ?_
  refine lv_iload hx hb dL_law_229 (lv_at hl k6 h6) ?_
  refine fw_call (va_runV (As := [.int (nI o)]) (rest := [.ref x]) ⟨hx, hb, hml, hown, hts⟩ (c_J4_append_bf812 G hL l τ_2 hJ dd hD o q (q + 1) 16 3 (([] : List Int32) ++ [109, 48, 64]) hd6 gq gv (by omega) rfl (by decide) (by decide)) (cwV 1 hts gL_law_J4_append_bf812 rfl rfl rfl (by decide +kernel) ⟨Nat.le_of_ble_eq_true rfl, Nat.le_of_ble_eq_true rfl⟩) (fw_preV hW hK hR gq rfl) rfl rfl hl.1 rfl (lv_room (Nat.le_of_ble_eq_true rfl)) dL_law_231 ⟨by show cells + 2 + 0 ≤ 677820; omega, by show slots + 20 + 0 ≤ 7068237; omega⟩) hS (fun v_3 τ_3 H locs hq_3 hR hS => ?_)
  refine W.widen (k := cells + 2) (n := slots + 20) (by omega) (by omega) ?_
  obtain ⟨rfl, gz9, gq, gv, gf9⟩ := hq_3
  have gz := gz9.trans gz
  have gf : ∀ q9, q9 < q → τ_3.2 q9 = τ.2 q9 := fun q9 h => (gf9 q9 (by omega) (by omega)).trans (gf q9 h)
  have hac : Asc ((([] : List Int32) ++ [109, 48, 64]) ++ [nI (48 + o)]) := asc_app hac (asc_dg hd6)
  have gq : τ_3.2 q = some (.inr (1, [.ref (q + 1), .int 0, .int 0, .int (nI 4)])) := gq
  refine W.eq (g2 := F0 mI 234 ls [.ref q, .ref x]) rfl ?_
  refine va_ldcS (own := RL) hx hb hown (vk_R.warm hW (hLT (142, ";m0@", [59, 109, 48, 64]) (by decide)).1) dL_law_234 ?_
  have hlt9 : Asc [59, 109, 48, 64] := asc_of (by decide)
  refine fw_call (va_runV (As := [.ref (lad 142)]) (rest := [.ref x]) ⟨hx, hb, hml, hown, hts⟩ (c_J4_append_15ec4A G hL l τ_3 hJ q (q + 1) 16 4 ((([] : List Int32) ++ [109, 48, 64]) ++ [nI (48 + o)]) gq gv (by omega) rfl (by decide) (lad 142) [59, 109, 48, 64] (hLT (142, ";m0@", [59, 109, 48, 64]) (by decide)).2 (by decide) (by decide) hlt9) (cwV 1 hts gL_law_J4_append_15ec4 rfl rfl rfl (by decide +kernel) ⟨Nat.le_of_ble_eq_true rfl, Nat.le_of_ble_eq_true rfl⟩) (fw_preV hW hK hR gq rfl) rfl rfl hl.1 rfl (lv_room (Nat.le_of_ble_eq_true rfl)) dL_law_236 ⟨by show cells + 2 + 0 ≤ 677820; omega, by show slots + 20 + 0 ≤ 7068237; omega⟩) hS (fun v_4 τ_4 H locs hq_4 hR hS => ?_)
  refine W.widen (k := cells + 2) (n := slots + 20) (by omega) (by omega) ?_
  obtain ⟨rfl, gz9, gq, gv, gf9⟩ := hq_4
  have gz := gz9.trans gz
  have gf : ∀ q9, q9 < q → τ_4.2 q9 = τ.2 q9 := fun q9 h => (gf9 q9 (by omega) (by omega)).trans (gf q9 h)
  have hac : Asc (((([] : List Int32) ++ [109, 48, 64]) ++ [nI (48 + o)]) ++ [59, 109, 48, 64]) := asc_app hac hlt9
  have gq : τ_4.2 q = some (.inr (1, [.ref (q + 1), .int 0, .int 0, .int (nI 8)])) := gq
  refine W.eq (g2 := F0 mI 239 ls [.ref q, .ref x]) rfl ?_
  refine lv_iload hx hb dL_law_239 (lv_at hl k6 h6) ?_
  refine fw_call (va_runV (As := [.int (nI o)]) (rest := [.ref x]) ⟨hx, hb, hml, hown, hts⟩ (c_J4_append_bf812 G hL l τ_4 hJ dd hD o q (q + 1) 16 8 (((([] : List Int32) ++ [109, 48, 64]) ++ [nI (48 + o)]) ++ [59, 109, 48, 64]) hd6 gq gv (by omega) rfl (by decide) (by decide)) (cwV 1 hts gL_law_J4_append_bf812 rfl rfl rfl (by decide +kernel) ⟨Nat.le_of_ble_eq_true rfl, Nat.le_of_ble_eq_true rfl⟩) (fw_preV hW hK hR gq rfl) rfl rfl hl.1 rfl (lv_room (Nat.le_of_ble_eq_true rfl)) dL_law_241 ⟨by show cells + 2 + 0 ≤ 677820; omega, by show slots + 20 + 0 ≤ 7068237; omega⟩) hS (fun v_5 τ_5 H locs hq_5 hR hS => ?_)
  refine W.widen (k := cells + 2) (n := slots + 20) (by omega) (by omega) ?_
  obtain ⟨rfl, gz9, gq, gv, gf9⟩ := hq_5
  have gz := gz9.trans gz
  have gf : ∀ q9, q9 < q → τ_5.2 q9 = τ.2 q9 := fun q9 h => (gf9 q9 (by omega) (by omega)).trans (gf q9 h)
  have hac : Asc ((((([] : List Int32) ++ [109, 48, 64]) ++ [nI (48 + o)]) ++ [59, 109, 48, 64]) ++ [nI (48 + o)]) := asc_app hac (asc_dg hd6)
  have gq : τ_5.2 q = some (.inr (1, [.ref (q + 1), .int 0, .int 0, .int (nI 9)])) := gq
  refine W.eq (g2 := F0 mI 244 ls [.ref q, .ref x]) rfl ?_
  refine fw_call (va_runV (As := []) (rest := [.ref x]) ⟨hx, hb, hml, hown, hts⟩ (c_J4_toString_0e30d G hL l τ_5 hJ q (q + 1) (q + 1 + 1) 16 9 ((((([] : List Int32) ++ [109, 48, 64]) ++ [nI (48 + o)]) ++ [59, 109, 48, 64]) ++ [nI (48 + o)]) gz gq gv rfl hac (by omega) (by omega) (by decide) (by decide)) (cwV 0 hts gL_law_J4_toString_0e30d rfl rfl rfl (by decide +kernel) ⟨Nat.le_of_ble_eq_true rfl, Nat.le_of_ble_eq_true rfl⟩) (fw_preV hW hK hR gq rfl) rfl rfl hl.1 rfl (lv_room (Nat.le_of_ble_eq_true rfl)) dL_law_244 ⟨by show cells + 2 + 2 ≤ 677820; omega, by show slots + 20 + 1004 ≤ 7068237; omega⟩) hS (fun v_6 τ_6 H locs hq_6 hR hS => ?_)
  refine W.widen (k := cells + 4) (n := slots + 1024) (by omega) (by omega) ?_
  obtain ⟨rfl, gz, gq, gv, gf9⟩ := hq_6
  have gf : ∀ q9, q9 < q → τ_6.2 q9 = τ.2 q9 := fun q9 h => (gf9 q9 (by omega)).trans (gf q9 h)
  refine W.eq (g2 := F0 mI 247 ls [.ref (q + 1 + 1), .ref x]) rfl ?_
  exact kk τ_6 (q + 1 + 1) H locs (by omega) (by rw [hq0] at gf; exact gf) ⟨(q + 1 + 1) + 1, by omega, gq, gv⟩ hR hS
set_option maxHeartbeats 8000000 in
set_option maxRecDepth 100000 in
theorem tb_z {G : FG} {l : Launch} {pP : Program} {eE : Env} {sS : State} {mI : MethodId} {ar9 : Array Value} {bl9 : List Frame} {meth : Method} {cD : Code} {Q : State → Prop} {adr lad : Nat → Nat} {b L dd : Nat} {xs : Nat → Int32} (C : LWx G l pP sS mI ar9 cD adr b L xs dd lad) {x : Nat} {a9 : Nat} {b9 : Nat} {lv : List (Nat × Value)} {k9 : Nat} (h9 : lv[k9]? = some (9, .int (nI a9))) (hd9 : a9 < 10) {k10 : Nat} (h10 : lv[k10]? = some (10, .int (nI b9))) (hd10 : b9 < 10) {k12 : Nat} (h12 : lv[k12]? = some (12, .int (nI ((b9 + 2) % 6)))) (hd12 : (b9 + 2) % 6 < 10) {τ : FWd} {cells slots : Nat} {H : Heap} {locs : List Loc} {ls : Array Slot} (hc : cells ≤ 600000) (hs : slots ≤ 7000000) (hR : fR G τ H) (hS : va_S (fwA G) sS.heap H locs) (hl : lv_has ls 14 lv)
    (kk : ∀ (τ2 : FWd) (r : Nat) (H : Heap) (locs : List Loc), τ.1 ≤ r → (∀ q9, q9 < τ.1 → τ2.2 q9 = τ.2 q9) → TxB G τ2.2 τ.1 r [108, 49, 59, 83, 48, 58, nI (48 + b9), 42, nI (48 + a9), 61, 48, 59, 115, 48, 58, nI (48 + (b9 + 2) % 6), 42, 52, 61, 49, 50, 59, 115, 48, 58, nI (48 + b9), 42, 49, 61, 48, 51, 59, 99, 50, 61, 48, 49, 59, 99, 48, 61] → fR G τ2 H → va_S (fwA G) sS.heap H locs → W pP l eE room_1 sS mI ar9 bl9 meth cD H locs (cells + 6) (slots + 3024) Q (F0 mI 692 ls (.ref r :: [.ref x]))) : W pP l eE room_1 sS mI ar9 bl9 meth cD H locs cells slots Q (F0 mI 637 ls [.ref x]) := by
  obtain ⟨hx, hb, hml, hown, hts, hW, hL, hX0, hN, hFT, hJ, hD, hLT, hX, hbl, hbA, hL9⟩ := id C
  have hK := hL.K hW
  obtain ⟨q, hq0⟩ : ∃ z9 : Nat, z9 = τ.1 := ⟨_, rfl⟩
  have hin4 : ∀ w ∈ u_ws RJ4 TJ4 4, w ∈ wsL_law := in4
  have hR : fR G (q, τ.2) H := by rw [hq0]; exact hR
  refine fw_new (C := RJ4) (T := TJ4) (N := 4) (ci := 1) hx hb hts hin4 tyJ4 tyJ4_ok hown (hts (.classLink RL 131 RJ4) (by decide +kernel)) (hts (.instantiable RJ4 4) (by decide +kernel)) (hts (.initialized RJ4) (by decide +kernel)) hK hR hS rfl (n := q) rfl (fs := [.null, .int 0, .int 0, .int 0]) (fun j hj => by rcases (show j = 0 ∨ j = 1 ∨ j = 2 ∨ j = 3 by omega) with rfl | rfl | rfl | rfl <;> rfl) (by show cells + 1 ≤ 677820; omega) (by show slots + 4 ≤ 7068237; omega) dL_law_637 (fun H hR hS => ?_)
  refine W.widen (k := cells + 1) (n := slots + 4) (by omega) (by omega) ?_
  obtain ⟨σ1, hs1⟩ : ∃ z9 : Nat → Option va_E, z9 = va_up τ.2 q (some (.inr (1, [.null, .int 0, .int 0, .int 0]))) := ⟨_, rfl⟩
  have hR : fR G (q + 1, σ1) H := by rw [hs1]; exact hR
  have e1 : σ1 q = some (.inr (1, [.null, .int 0, .int 0, .int 0])) := by rw [hs1]; exact va_up_at
  have f1 : ∀ q9, q9 < q → σ1 q9 = τ.2 q9 := fun q9 hq => by rw [hs1]; exact va_up_off (by omega)
  clear hs1
  refine lv_dup hx hb dL_law_640 rfl ?_
  refine fw_call (va_runI (As := []) (b := q) (rest := [.ref q, .ref x]) ⟨hx, hb, hml, hown, hts⟩ (c_J4_init_da8c8 G hL l (q + 1, σ1) hJ q (q + 1) rfl e1 (by omega)) (cwI 0 hts gL_law_J4_init_da8c8 rfl rfl rfl (hts (.initialized yJ4_init_da8c8.cls) (by decide +kernel)) (hts (.methodLink RL 133 yJ4_init_da8c8) (by decide +kernel)) (hts (.instanceMethod yJ4_init_da8c8) (by decide +kernel)) rfl (by decide +kernel) ⟨Nat.le_of_ble_eq_true rfl, Nat.le_of_ble_eq_true rfl⟩) (fw_preI hW hR) rfl rfl hl.1 rfl (lv_room (Nat.le_of_ble_eq_true rfl)) dL_law_641 ⟨by show cells + 1 + 1 ≤ 677820; omega, by show slots + 4 + 16 ≤ 7068237; omega⟩) hS (fun v_1 τ_1 H locs hq_1 hR hS => ?_)
  refine W.widen (k := cells + 2) (n := slots + 20) (by omega) (by omega) ?_
  obtain ⟨rfl, gz, gq, gv, gf⟩ := hq_1
  have gf : ∀ q9, q9 < q → τ_1.2 q9 = τ.2 q9 := fun q9 h => (gf q9 (by omega) (by omega)).trans (f1 q9 h)
  have hac : Asc [] := asc_nil
  have gq : τ_1.2 q = some (.inr (1, [.ref (q + 1), .int 0, .int 0, .int (nI 0)])) := gq
  have gv : τ_1.2 (q + 1) = some (.inl (G.2.1 2, 16, .inl (fun i => ([] : List Int32).getD i 0))) := by rw [show (fun i => ([] : List Int32).getD i 0) = (fun _ => 0) from funext (fun i => by simp)]; exact gv
  refine W.eq (g2 := F0 mI 644 ls [.ref q, .ref x]) rfl ?_
  refine va_ldcS (own := RL) hx hb hown (vk_R.warm hW (hLT (199, "l1;S0:", [108, 49, 59, 83, 48, 58]) (by decide)).1) dL_law_644 ?_
  have hlt9 : Asc [108, 49, 59, 83, 48, 58] := asc_of (by decide)
  refine fw_call (va_runV (As := [.ref (lad 199)]) (rest := [.ref x]) ⟨hx, hb, hml, hown, hts⟩ (c_J4_append_15ec4A G hL l τ_1 hJ q (q + 1) 16 0 ([] : List Int32) gq gv (by omega) rfl (by decide) (lad 199) [108, 49, 59, 83, 48, 58] (hLT (199, "l1;S0:", [108, 49, 59, 83, 48, 58]) (by decide)).2 (by decide) (by decide) hlt9) (cwV 1 hts gL_law_J4_append_15ec4 rfl rfl rfl (by decide +kernel) ⟨Nat.le_of_ble_eq_true rfl, Nat.le_of_ble_eq_true rfl⟩) (fw_preV hW hK hR gq rfl) rfl rfl hl.1 rfl (lv_room (Nat.le_of_ble_eq_true rfl)) dL_law_646 ⟨by show cells + 2 + 0 ≤ 677820; omega, by show slots + 20 + 0 ≤ 7068237; omega⟩) hS (fun v_2 τ_2 H locs hq_2 hR hS => ?_)
  refine W.widen (k := cells + 2) (n := slots + 20) (by omega) (by omega) ?_
  obtain ⟨rfl, gz9, gq, gv, gf9⟩ := hq_2
  have gz := gz9.trans gz
  have gf : ∀ q9, q9 < q → τ_2.2 q9 = τ.2 q9 := fun q9 h => (gf9 q9 (by omega) (by omega)).trans (gf q9 h)
  have hac : Asc (([] : List Int32) ++ [108, 49, 59, 83, 48, 58]) := asc_app hac hlt9
  have gq : τ_2.2 q = some (.inr (1, [.ref (q + 1), .int 0, .int 0, .int (nI 6)])) := gq
  refine W.eq (g2 := F0 mI 649 ls [.ref q, .ref x]) rfl ?_
  refine lv_iload hx hb dL_law_649 (lv_at hl k10 h10) ?_
  refine fw_call (va_runV (As := [.int (nI b9)]) (rest := [.ref x]) ⟨hx, hb, hml, hown, hts⟩ (c_J4_append_bf812 G hL l τ_2 hJ dd hD b9 q (q + 1) 16 6 (([] : List Int32) ++ [108, 49, 59, 83, 48, 58]) hd10 gq gv (by omega) rfl (by decide) (by decide)) (cwV 1 hts gL_law_J4_append_bf812 rfl rfl rfl (by decide +kernel) ⟨Nat.le_of_ble_eq_true rfl, Nat.le_of_ble_eq_true rfl⟩) (fw_preV hW hK hR gq rfl) rfl rfl hl.1 rfl (lv_room (Nat.le_of_ble_eq_true rfl)) dL_law_651 ⟨by show cells + 2 + 0 ≤ 677820; omega, by show slots + 20 + 0 ≤ 7068237; omega⟩) hS (fun v_3 τ_3 H locs hq_3 hR hS => ?_)
  refine W.widen (k := cells + 2) (n := slots + 20) (by omega) (by omega) ?_
  obtain ⟨rfl, gz9, gq, gv, gf9⟩ := hq_3
  have gz := gz9.trans gz
  have gf : ∀ q9, q9 < q → τ_3.2 q9 = τ.2 q9 := fun q9 h => (gf9 q9 (by omega) (by omega)).trans (gf q9 h)
  have hac : Asc ((([] : List Int32) ++ [108, 49, 59, 83, 48, 58]) ++ [nI (48 + b9)]) := asc_app hac (asc_dg hd10)
  have gq : τ_3.2 q = some (.inr (1, [.ref (q + 1), .int 0, .int 0, .int (nI 7)])) := gq
  refine W.eq (g2 := F0 mI 654 ls [.ref q, .ref x]) rfl ?_
  refine va_ldcS (own := RL) hx hb hown (vk_R.warm hW (hLT (201, "*", [42]) (by decide)).1) dL_law_654 ?_
  have hlt9 : Asc [42] := asc_of (by decide)
  refine fw_call (va_runV (As := [.ref (lad 201)]) (rest := [.ref x]) ⟨hx, hb, hml, hown, hts⟩ (c_J4_append_15ec4A G hL l τ_3 hJ q (q + 1) 16 7 ((([] : List Int32) ++ [108, 49, 59, 83, 48, 58]) ++ [nI (48 + b9)]) gq gv (by omega) rfl (by decide) (lad 201) [42] (hLT (201, "*", [42]) (by decide)).2 (by decide) (by decide) hlt9) (cwV 1 hts gL_law_J4_append_15ec4 rfl rfl rfl (by decide +kernel) ⟨Nat.le_of_ble_eq_true rfl, Nat.le_of_ble_eq_true rfl⟩) (fw_preV hW hK hR gq rfl) rfl rfl hl.1 rfl (lv_room (Nat.le_of_ble_eq_true rfl)) dL_law_656 ⟨by show cells + 2 + 0 ≤ 677820; omega, by show slots + 20 + 0 ≤ 7068237; omega⟩) hS (fun v_4 τ_4 H locs hq_4 hR hS => ?_)
  refine W.widen (k := cells + 2) (n := slots + 20) (by omega) (by omega) ?_
  obtain ⟨rfl, gz9, gq, gv, gf9⟩ := hq_4
  have gz := gz9.trans gz
  have gf : ∀ q9, q9 < q → τ_4.2 q9 = τ.2 q9 := fun q9 h => (gf9 q9 (by omega) (by omega)).trans (gf q9 h)
  have hac : Asc (((([] : List Int32) ++ [108, 49, 59, 83, 48, 58]) ++ [nI (48 + b9)]) ++ [42]) := asc_app hac hlt9
  have gq : τ_4.2 q = some (.inr (1, [.ref (q + 1), .int 0, .int 0, .int (nI 8)])) := gq
  refine W.eq (g2 := F0 mI 659 ls [.ref q, .ref x]) rfl ?_
  refine lv_iload hx hb dL_law_659 (lv_at hl k9 h9) ?_
  refine fw_call (va_runV (As := [.int (nI a9)]) (rest := [.ref x]) ⟨hx, hb, hml, hown, hts⟩ (c_J4_append_bf812 G hL l τ_4 hJ dd hD a9 q (q + 1) 16 8 (((([] : List Int32) ++ [108, 49, 59, 83, 48, 58]) ++ [nI (48 + b9)]) ++ [42]) hd9 gq gv (by omega) rfl (by decide) (by decide)) (cwV 1 hts gL_law_J4_append_bf812 rfl rfl rfl (by decide +kernel) ⟨Nat.le_of_ble_eq_true rfl, Nat.le_of_ble_eq_true rfl⟩) (fw_preV hW hK hR gq rfl) rfl rfl hl.1 rfl (lv_room (Nat.le_of_ble_eq_true rfl)) dL_law_661 ⟨by show cells + 2 + 0 ≤ 677820; omega, by show slots + 20 + 0 ≤ 7068237; omega⟩) hS (fun v_5 τ_5 H locs hq_5 hR hS => ?_)
  refine W.widen (k := cells + 2) (n := slots + 20) (by omega) (by omega) ?_
  obtain ⟨rfl, gz9, gq, gv, gf9⟩ := hq_5
  have gz := gz9.trans gz
  have gf : ∀ q9, q9 < q → τ_5.2 q9 = τ.2 q9 := fun q9 h => (gf9 q9 (by omega) (by omega)).trans (gf q9 h)
  have hac : Asc ((((([] : List Int32) ++ [108, 49, 59, 83, 48, 58]) ++ [nI (48 + b9)]) ++ [42]) ++ [nI (48 + a9)]) := asc_app hac (asc_dg hd9)
  have gq : τ_5.2 q = some (.inr (1, [.ref (q + 1), .int 0, .int 0, .int (nI 9)])) := gq
  refine W.eq (g2 := F0 mI 664 ls [.ref q, .ref x]) rfl ?_
  refine va_ldcS (own := RL) hx hb hown (vk_R.warm hW (hLT (203, "=0;s0:", [61, 48, 59, 115, 48, 58]) (by decide)).1) dL_law_664 ?_
  have hlt9 : Asc [61, 48, 59, 115, 48, 58] := asc_of (by decide)
  refine fw_call (va_runV (As := [.ref (lad 203)]) (rest := [.ref x]) ⟨hx, hb, hml, hown, hts⟩ (c_J4_append_15ec4A G hL l τ_5 hJ q (q + 1) 16 9 ((((([] : List Int32) ++ [108, 49, 59, 83, 48, 58]) ++ [nI (48 + b9)]) ++ [42]) ++ [nI (48 + a9)]) gq gv (by omega) rfl (by decide) (lad 203) [61, 48, 59, 115, 48, 58] (hLT (203, "=0;s0:", [61, 48, 59, 115, 48, 58]) (by decide)).2 (by decide) (by decide) hlt9) (cwV 1 hts gL_law_J4_append_15ec4 rfl rfl rfl (by decide +kernel) ⟨Nat.le_of_ble_eq_true rfl, Nat.le_of_ble_eq_true rfl⟩) (fw_preV hW hK hR gq rfl) rfl rfl hl.1 rfl (lv_room (Nat.le_of_ble_eq_true rfl)) dL_law_666 ⟨by show cells + 2 + 0 ≤ 677820; omega, by show slots + 20 + 0 ≤ 7068237; omega⟩) hS (fun v_6 τ_6 H locs hq_6 hR hS => ?_)
  refine W.widen (k := cells + 2) (n := slots + 20) (by omega) (by omega) ?_
  obtain ⟨rfl, gz9, gq, gv, gf9⟩ := hq_6
  have gz := gz9.trans gz
  have gf : ∀ q9, q9 < q → τ_6.2 q9 = τ.2 q9 := fun q9 h => (gf9 q9 (by omega) (by omega)).trans (gf q9 h)
  have hac : Asc (((((([] : List Int32) ++ [108, 49, 59, 83, 48, 58]) ++ [nI (48 + b9)]) ++ [42]) ++ [nI (48 + a9)]) ++ [61, 48, 59, 115, 48, 58]) := asc_app hac hlt9
  have gq : τ_6.2 q = some (.inr (1, [.ref (q + 1), .int 0, .int 0, .int (nI 15)])) := gq
  refine W.eq (g2 := F0 mI 669 ls [.ref q, .ref x]) rfl ?_
  refine lv_iload hx hb dL_law_669 (lv_at hl k12 h12) ?_
  refine fw_call (va_runV (As := [.int (nI ((b9 + 2) % 6))]) (rest := [.ref x]) ⟨hx, hb, hml, hown, hts⟩ (c_J4_append_bf812 G hL l τ_6 hJ dd hD ((b9 + 2) % 6) q (q + 1) 16 15 (((((([] : List Int32) ++ [108, 49, 59, 83, 48, 58]) ++ [nI (48 + b9)]) ++ [42]) ++ [nI (48 + a9)]) ++ [61, 48, 59, 115, 48, 58]) hd12 gq gv (by omega) rfl (by decide) (by decide)) (cwV 1 hts gL_law_J4_append_bf812 rfl rfl rfl (by decide +kernel) ⟨Nat.le_of_ble_eq_true rfl, Nat.le_of_ble_eq_true rfl⟩) (fw_preV hW hK hR gq rfl) rfl rfl hl.1 rfl (lv_room (Nat.le_of_ble_eq_true rfl)) dL_law_671 ⟨by show cells + 2 + 0 ≤ 677820; omega, by show slots + 20 + 0 ≤ 7068237; omega⟩) hS (fun v_7 τ_7 H locs hq_7 hR hS => ?_)
  refine W.widen (k := cells + 2) (n := slots + 20) (by omega) (by omega) ?_
  obtain ⟨rfl, gz9, gq, gv, gf9⟩ := hq_7
  have gz := gz9.trans gz
  have gf : ∀ q9, q9 < q → τ_7.2 q9 = τ.2 q9 := fun q9 h => (gf9 q9 (by omega) (by omega)).trans (gf q9 h)
  have hac : Asc ((((((([] : List Int32) ++ [108, 49, 59, 83, 48, 58]) ++ [nI (48 + b9)]) ++ [42]) ++ [nI (48 + a9)]) ++ [61, 48, 59, 115, 48, 58]) ++ [nI (48 + (b9 + 2) % 6)]) := asc_app hac (asc_dg hd12)
  have gq : τ_7.2 q = some (.inr (1, [.ref (q + 1), .int 0, .int 0, .int (nI 16)])) := gq
  refine W.eq (g2 := F0 mI 674 ls [.ref q, .ref x]) rfl ?_
  refine va_ldcS (own := RL) hx hb hown (vk_R.warm hW (hLT (205, "*4=12;s0:", [42, 52, 61, 49, 50, 59, 115, 48, 58]) (by decide)).1) dL_law_674 ?_
  have hlt9 : Asc [42, 52, 61, 49, 50, 59, 115, 48, 58] := asc_of (by decide)
  refine fw_call (va_runV (As := [.ref (lad 205)]) (rest := [.ref x]) ⟨hx, hb, hml, hown, hts⟩ (c_J4_append_15ec4B G hL l τ_7 hJ (lad 205) [42, 52, 61, 49, 50, 59, 115, 48, 58] (hLT (205, "*4=12;s0:", [42, 52, 61, 49, 50, 59, 115, 48, 58]) (by decide)).2 q (q + 1) (q + 1 + 1) 16 16 34 ((((((([] : List Int32) ++ [108, 49, 59, 83, 48, 58]) ++ [nI (48 + b9)]) ++ [42]) ++ [nI (48 + a9)]) ++ [61, 48, 59, 115, 48, 58]) ++ [nI (48 + (b9 + 2) % 6)]) gz gq gv rfl (by decide) hac (by omega) (by omega) (by decide) (by decide) (by decide) (by decide) hlt9) (cwV 1 hts gL_law_J4_append_15ec4 rfl rfl rfl (by decide +kernel) ⟨Nat.le_of_ble_eq_true rfl, Nat.le_of_ble_eq_true rfl⟩) (fw_preV hW hK hR gq rfl) rfl rfl hl.1 rfl (lv_room (Nat.le_of_ble_eq_true rfl)) dL_law_676 ⟨by show cells + 2 + 1 ≤ 677820; omega, by show slots + 20 + 1000 ≤ 7068237; omega⟩) hS (fun v_8 τ_8 H locs hq_8 hR hS => ?_)
  refine W.widen (k := cells + 3) (n := slots + 1020) (by omega) (by omega) ?_
  obtain ⟨rfl, gz, gq, gv, gf9⟩ := hq_8
  have gf : ∀ q9, q9 < q → τ_8.2 q9 = τ.2 q9 := fun q9 h => (gf9 q9 (by omega) (by omega)).trans (gf q9 h)
  have hac : Asc (((((((([] : List Int32) ++ [108, 49, 59, 83, 48, 58]) ++ [nI (48 + b9)]) ++ [42]) ++ [nI (48 + a9)]) ++ [61, 48, 59, 115, 48, 58]) ++ [nI (48 + (b9 + 2) % 6)]) ++ [42, 52, 61, 49, 50, 59, 115, 48, 58]) := asc_app hac hlt9
  have gq : τ_8.2 q = some (.inr (1, [.ref (q + 1 + 1), .int 0, .int 0, .int (nI 25)])) := gq
  refine W.eq (g2 := F0 mI 679 ls [.ref q, .ref x]) rfl ?_
  refine lv_iload hx hb dL_law_679 (lv_at hl k10 h10) ?_
  refine fw_call (va_runV (As := [.int (nI b9)]) (rest := [.ref x]) ⟨hx, hb, hml, hown, hts⟩ (c_J4_append_bf812 G hL l τ_8 hJ dd hD b9 q (q + 1 + 1) 34 25 (((((((([] : List Int32) ++ [108, 49, 59, 83, 48, 58]) ++ [nI (48 + b9)]) ++ [42]) ++ [nI (48 + a9)]) ++ [61, 48, 59, 115, 48, 58]) ++ [nI (48 + (b9 + 2) % 6)]) ++ [42, 52, 61, 49, 50, 59, 115, 48, 58]) hd10 gq gv (by omega) rfl (by decide) (by decide)) (cwV 1 hts gL_law_J4_append_bf812 rfl rfl rfl (by decide +kernel) ⟨Nat.le_of_ble_eq_true rfl, Nat.le_of_ble_eq_true rfl⟩) (fw_preV hW hK hR gq rfl) rfl rfl hl.1 rfl (lv_room (Nat.le_of_ble_eq_true rfl)) dL_law_681 ⟨by show cells + 3 + 0 ≤ 677820; omega, by show slots + 1020 + 0 ≤ 7068237; omega⟩) hS (fun v_9 τ_9 H locs hq_9 hR hS => ?_)
  refine W.widen (k := cells + 3) (n := slots + 1020) (by omega) (by omega) ?_
  obtain ⟨rfl, gz9, gq, gv, gf9⟩ := hq_9
  have gz := gz9.trans gz
  have gf : ∀ q9, q9 < q → τ_9.2 q9 = τ.2 q9 := fun q9 h => (gf9 q9 (by omega) (by omega)).trans (gf q9 h)
  have hac : Asc ((((((((([] : List Int32) ++ [108, 49, 59, 83, 48, 58]) ++ [nI (48 + b9)]) ++ [42]) ++ [nI (48 + a9)]) ++ [61, 48, 59, 115, 48, 58]) ++ [nI (48 + (b9 + 2) % 6)]) ++ [42, 52, 61, 49, 50, 59, 115, 48, 58]) ++ [nI (48 + b9)]) := asc_app hac (asc_dg hd10)
  have gq : τ_9.2 q = some (.inr (1, [.ref (q + 1 + 1), .int 0, .int 0, .int (nI 26)])) := gq
  refine W.eq (g2 := F0 mI 684 ls [.ref q, .ref x]) rfl ?_
  refine va_ldcS (own := RL) hx hb hown (vk_R.warm hW (hLT (207, "*1=03;c2=01;c0=", [42, 49, 61, 48, 51, 59, 99, 50, 61, 48, 49, 59, 99, 48, 61]) (by decide)).1) dL_law_684 ?_
  have hlt9 : Asc [42, 49, 61, 48, 51, 59, 99, 50, 61, 48, 49, 59, 99, 48, 61] := asc_of (by decide)
  refine fw_call (va_runV (As := [.ref (lad 207)]) (rest := [.ref x]) ⟨hx, hb, hml, hown, hts⟩ (c_J4_append_15ec4B G hL l τ_9 hJ (lad 207) [42, 49, 61, 48, 51, 59, 99, 50, 61, 48, 49, 59, 99, 48, 61] (hLT (207, "*1=03;c2=01;c0=", [42, 49, 61, 48, 51, 59, 99, 50, 61, 48, 49, 59, 99, 48, 61]) (by decide)).2 q (q + 1 + 1) ((q + 1 + 1) + 1) 34 26 70 ((((((((([] : List Int32) ++ [108, 49, 59, 83, 48, 58]) ++ [nI (48 + b9)]) ++ [42]) ++ [nI (48 + a9)]) ++ [61, 48, 59, 115, 48, 58]) ++ [nI (48 + (b9 + 2) % 6)]) ++ [42, 52, 61, 49, 50, 59, 115, 48, 58]) ++ [nI (48 + b9)]) gz gq gv rfl (by decide) hac (by omega) (by omega) (by decide) (by decide) (by decide) (by decide) hlt9) (cwV 1 hts gL_law_J4_append_15ec4 rfl rfl rfl (by decide +kernel) ⟨Nat.le_of_ble_eq_true rfl, Nat.le_of_ble_eq_true rfl⟩) (fw_preV hW hK hR gq rfl) rfl rfl hl.1 rfl (lv_room (Nat.le_of_ble_eq_true rfl)) dL_law_686 ⟨by show cells + 3 + 1 ≤ 677820; omega, by show slots + 1020 + 1000 ≤ 7068237; omega⟩) hS (fun v_10 τ_10 H locs hq_10 hR hS => ?_)
  refine W.widen (k := cells + 4) (n := slots + 2020) (by omega) (by omega) ?_
  obtain ⟨rfl, gz, gq, gv, gf9⟩ := hq_10
  have gf : ∀ q9, q9 < q → τ_10.2 q9 = τ.2 q9 := fun q9 h => (gf9 q9 (by omega) (by omega)).trans (gf q9 h)
  have hac : Asc (((((((((([] : List Int32) ++ [108, 49, 59, 83, 48, 58]) ++ [nI (48 + b9)]) ++ [42]) ++ [nI (48 + a9)]) ++ [61, 48, 59, 115, 48, 58]) ++ [nI (48 + (b9 + 2) % 6)]) ++ [42, 52, 61, 49, 50, 59, 115, 48, 58]) ++ [nI (48 + b9)]) ++ [42, 49, 61, 48, 51, 59, 99, 50, 61, 48, 49, 59, 99, 48, 61]) := asc_app hac hlt9
  have gq : τ_10.2 q = some (.inr (1, [.ref ((q + 1 + 1) + 1), .int 0, .int 0, .int (nI 41)])) := gq
  refine W.eq (g2 := F0 mI 689 ls [.ref q, .ref x]) rfl ?_
  refine fw_call (va_runV (As := []) (rest := [.ref x]) ⟨hx, hb, hml, hown, hts⟩ (c_J4_toString_0e30d G hL l τ_10 hJ q ((q + 1 + 1) + 1) (((q + 1 + 1) + 1) + 1) 70 41 (((((((((([] : List Int32) ++ [108, 49, 59, 83, 48, 58]) ++ [nI (48 + b9)]) ++ [42]) ++ [nI (48 + a9)]) ++ [61, 48, 59, 115, 48, 58]) ++ [nI (48 + (b9 + 2) % 6)]) ++ [42, 52, 61, 49, 50, 59, 115, 48, 58]) ++ [nI (48 + b9)]) ++ [42, 49, 61, 48, 51, 59, 99, 50, 61, 48, 49, 59, 99, 48, 61]) gz gq gv rfl hac (by omega) (by omega) (by decide) (by decide)) (cwV 0 hts gL_law_J4_toString_0e30d rfl rfl rfl (by decide +kernel) ⟨Nat.le_of_ble_eq_true rfl, Nat.le_of_ble_eq_true rfl⟩) (fw_preV hW hK hR gq rfl) rfl rfl hl.1 rfl (lv_room (Nat.le_of_ble_eq_true rfl)) dL_law_689 ⟨by show cells + 4 + 2 ≤ 677820; omega, by show slots + 2020 + 1004 ≤ 7068237; omega⟩) hS (fun v_11 τ_11 H locs hq_11 hR hS => ?_)
  refine W.widen (k := cells + 6) (n := slots + 3024) (by omega) (by omega) ?_
  obtain ⟨rfl, gz, gq, gv, gf9⟩ := hq_11
  have gf : ∀ q9, q9 < q → τ_11.2 q9 = τ.2 q9 := fun q9 h => (gf9 q9 (by omega)).trans (gf q9 h)
  refine W.eq (g2 := F0 mI 692 ls [.ref (((q + 1 + 1) + 1) + 1), .ref x]) rfl ?_
  exact kk τ_11 (((q + 1 + 1) + 1) + 1) H locs (by omega) (by rw [hq0] at gf; exact gf) ⟨(((q + 1 + 1) + 1) + 1) + 1, by omega, gq, gv⟩ hR hS
set_option maxHeartbeats 8000000 in
set_option maxRecDepth 100000 in
theorem tb_l1 {G : FG} {l : Launch} {pP : Program} {eE : Env} {sS : State} {mI : MethodId} {ar9 : Array Value} {bl9 : List Frame} {meth : Method} {cD : Code} {Q : State → Prop} {adr lad : Nat → Nat} {b L dd : Nat} {xs : Nat → Int32} (C : LWx G l pP sS mI ar9 cD adr b L xs dd lad) {x : Nat} {n9 : Int32} {a9 : Nat} {b9 : Nat} {lv : List (Nat × Value)} {k9 : Nat} (h9 : lv[k9]? = some (9, .int (nI a9))) (hd9 : a9 < 10) {k10 : Nat} (h10 : lv[k10]? = some (10, .int (nI b9))) (hd10 : b9 < 10) {k12 : Nat} (h12 : lv[k12]? = some (12, .int (nI ((b9 + 2) % 6)))) (hd12 : (b9 + 2) % 6 < 10) {τ : FWd} {cells slots : Nat} {H : Heap} {locs : List Loc} {ls : Array Slot} (hc : cells ≤ 600000) (hs : slots ≤ 7000000) (hR : fR G τ H) (hS : va_S (fwA G) sS.heap H locs) (hl : lv_has ls 14 lv)
    (kk : ∀ (τ2 : FWd) (r : Nat) (H : Heap) (locs : List Loc), τ.1 ≤ r → (∀ q9, q9 < τ.1 → τ2.2 q9 = τ.2 q9) → TxB G τ2.2 τ.1 r [nI (48 + b9), 42, nI (48 + a9), 43, 32, nI (48 + (b9 + 2) % 6), 42, 52, 32, nI (48 + b9), 42, 49] → fR G τ2 H → va_S (fwA G) sS.heap H locs → W pP l eE room_1 sS mI ar9 bl9 meth cD H locs (cells + 4) (slots + 1024) Q (F0 mI 780 ls (.ref r :: [.int n9, .ref x]))) : W pP l eE room_1 sS mI ar9 bl9 meth cD H locs cells slots Q (F0 mI 730 ls [.int n9, .ref x]) := by
  obtain ⟨hx, hb, hml, hown, hts, hW, hL, hX0, hN, hFT, hJ, hD, hLT, hX, hbl, hbA, hL9⟩ := id C
  have hK := hL.K hW
  obtain ⟨q, hq0⟩ : ∃ z9 : Nat, z9 = τ.1 := ⟨_, rfl⟩
  have hin4 : ∀ w ∈ u_ws RJ4 TJ4 4, w ∈ wsL_law := in4
  have hR : fR G (q, τ.2) H := by rw [hq0]; exact hR
  refine fw_new (C := RJ4) (T := TJ4) (N := 4) (ci := 1) hx hb hts hin4 tyJ4 tyJ4_ok hown (hts (.classLink RL 131 RJ4) (by decide +kernel)) (hts (.instantiable RJ4 4) (by decide +kernel)) (hts (.initialized RJ4) (by decide +kernel)) hK hR hS rfl (n := q) rfl (fs := [.null, .int 0, .int 0, .int 0]) (fun j hj => by rcases (show j = 0 ∨ j = 1 ∨ j = 2 ∨ j = 3 by omega) with rfl | rfl | rfl | rfl <;> rfl) (by show cells + 1 ≤ 677820; omega) (by show slots + 4 ≤ 7068237; omega) dL_law_730 (fun H hR hS => ?_)
  refine W.widen (k := cells + 1) (n := slots + 4) (by omega) (by omega) ?_
  obtain ⟨σ1, hs1⟩ : ∃ z9 : Nat → Option va_E, z9 = va_up τ.2 q (some (.inr (1, [.null, .int 0, .int 0, .int 0]))) := ⟨_, rfl⟩
  have hR : fR G (q + 1, σ1) H := by rw [hs1]; exact hR
  have e1 : σ1 q = some (.inr (1, [.null, .int 0, .int 0, .int 0])) := by rw [hs1]; exact va_up_at
  have f1 : ∀ q9, q9 < q → σ1 q9 = τ.2 q9 := fun q9 hq => by rw [hs1]; exact va_up_off (by omega)
  clear hs1
  refine lv_dup hx hb dL_law_733 rfl ?_
  refine fw_call (va_runI (As := []) (b := q) (rest := [.ref q, .int n9, .ref x]) ⟨hx, hb, hml, hown, hts⟩ (c_J4_init_da8c8 G hL l (q + 1, σ1) hJ q (q + 1) rfl e1 (by omega)) (cwI 0 hts gL_law_J4_init_da8c8 rfl rfl rfl (hts (.initialized yJ4_init_da8c8.cls) (by decide +kernel)) (hts (.methodLink RL 133 yJ4_init_da8c8) (by decide +kernel)) (hts (.instanceMethod yJ4_init_da8c8) (by decide +kernel)) rfl (by decide +kernel) ⟨Nat.le_of_ble_eq_true rfl, Nat.le_of_ble_eq_true rfl⟩) (fw_preI hW hR) rfl rfl hl.1 rfl (lv_room (Nat.le_of_ble_eq_true rfl)) dL_law_734 ⟨by show cells + 1 + 1 ≤ 677820; omega, by show slots + 4 + 16 ≤ 7068237; omega⟩) hS (fun v_1 τ_1 H locs hq_1 hR hS => ?_)
  refine W.widen (k := cells + 2) (n := slots + 20) (by omega) (by omega) ?_
  obtain ⟨rfl, gz, gq, gv, gf⟩ := hq_1
  have gf : ∀ q9, q9 < q → τ_1.2 q9 = τ.2 q9 := fun q9 h => (gf q9 (by omega) (by omega)).trans (f1 q9 h)
  have hac : Asc [] := asc_nil
  have gq : τ_1.2 q = some (.inr (1, [.ref (q + 1), .int 0, .int 0, .int (nI 0)])) := gq
  have gv : τ_1.2 (q + 1) = some (.inl (G.2.1 2, 16, .inl (fun i => ([] : List Int32).getD i 0))) := by rw [show (fun i => ([] : List Int32).getD i 0) = (fun _ => 0) from funext (fun i => by simp)]; exact gv
  refine W.eq (g2 := F0 mI 737 ls [.ref q, .int n9, .ref x]) rfl ?_
  refine lv_iload hx hb dL_law_737 (lv_at hl k10 h10) ?_
  refine fw_call (va_runV (As := [.int (nI b9)]) (rest := [.int n9, .ref x]) ⟨hx, hb, hml, hown, hts⟩ (c_J4_append_bf812 G hL l τ_1 hJ dd hD b9 q (q + 1) 16 0 ([] : List Int32) hd10 gq gv (by omega) rfl (by decide) (by decide)) (cwV 1 hts gL_law_J4_append_bf812 rfl rfl rfl (by decide +kernel) ⟨Nat.le_of_ble_eq_true rfl, Nat.le_of_ble_eq_true rfl⟩) (fw_preV hW hK hR gq rfl) rfl rfl hl.1 rfl (lv_room (Nat.le_of_ble_eq_true rfl)) dL_law_739 ⟨by show cells + 2 + 0 ≤ 677820; omega, by show slots + 20 + 0 ≤ 7068237; omega⟩) hS (fun v_2 τ_2 H locs hq_2 hR hS => ?_)
  refine W.widen (k := cells + 2) (n := slots + 20) (by omega) (by omega) ?_
  obtain ⟨rfl, gz9, gq, gv, gf9⟩ := hq_2
  have gz := gz9.trans gz
  have gf : ∀ q9, q9 < q → τ_2.2 q9 = τ.2 q9 := fun q9 h => (gf9 q9 (by omega) (by omega)).trans (gf q9 h)
  have hac : Asc (([] : List Int32) ++ [nI (48 + b9)]) := asc_app hac (asc_dg hd10)
  have gq : τ_2.2 q = some (.inr (1, [.ref (q + 1), .int 0, .int 0, .int (nI 1)])) := gq
  refine W.eq (g2 := F0 mI 742 ls [.ref q, .int n9, .ref x]) rfl ?_
  refine va_ldcS (own := RL) hx hb hown (vk_R.warm hW (hLT (201, "*", [42]) (by decide)).1) dL_law_742 ?_
  have hlt9 : Asc [42] := asc_of (by decide)
  refine fw_call (va_runV (As := [.ref (lad 201)]) (rest := [.int n9, .ref x]) ⟨hx, hb, hml, hown, hts⟩ (c_J4_append_15ec4A G hL l τ_2 hJ q (q + 1) 16 1 (([] : List Int32) ++ [nI (48 + b9)]) gq gv (by omega) rfl (by decide) (lad 201) [42] (hLT (201, "*", [42]) (by decide)).2 (by decide) (by decide) hlt9) (cwV 1 hts gL_law_J4_append_15ec4 rfl rfl rfl (by decide +kernel) ⟨Nat.le_of_ble_eq_true rfl, Nat.le_of_ble_eq_true rfl⟩) (fw_preV hW hK hR gq rfl) rfl rfl hl.1 rfl (lv_room (Nat.le_of_ble_eq_true rfl)) dL_law_744 ⟨by show cells + 2 + 0 ≤ 677820; omega, by show slots + 20 + 0 ≤ 7068237; omega⟩) hS (fun v_3 τ_3 H locs hq_3 hR hS => ?_)
  refine W.widen (k := cells + 2) (n := slots + 20) (by omega) (by omega) ?_
  obtain ⟨rfl, gz9, gq, gv, gf9⟩ := hq_3
  have gz := gz9.trans gz
  have gf : ∀ q9, q9 < q → τ_3.2 q9 = τ.2 q9 := fun q9 h => (gf9 q9 (by omega) (by omega)).trans (gf q9 h)
  have hac : Asc ((([] : List Int32) ++ [nI (48 + b9)]) ++ [42]) := asc_app hac hlt9
  have gq : τ_3.2 q = some (.inr (1, [.ref (q + 1), .int 0, .int 0, .int (nI 2)])) := gq
  refine W.eq (g2 := F0 mI 747 ls [.ref q, .int n9, .ref x]) rfl ?_
  refine lv_iload hx hb dL_law_747 (lv_at hl k9 h9) ?_
  refine fw_call (va_runV (As := [.int (nI a9)]) (rest := [.int n9, .ref x]) ⟨hx, hb, hml, hown, hts⟩ (c_J4_append_bf812 G hL l τ_3 hJ dd hD a9 q (q + 1) 16 2 ((([] : List Int32) ++ [nI (48 + b9)]) ++ [42]) hd9 gq gv (by omega) rfl (by decide) (by decide)) (cwV 1 hts gL_law_J4_append_bf812 rfl rfl rfl (by decide +kernel) ⟨Nat.le_of_ble_eq_true rfl, Nat.le_of_ble_eq_true rfl⟩) (fw_preV hW hK hR gq rfl) rfl rfl hl.1 rfl (lv_room (Nat.le_of_ble_eq_true rfl)) dL_law_749 ⟨by show cells + 2 + 0 ≤ 677820; omega, by show slots + 20 + 0 ≤ 7068237; omega⟩) hS (fun v_4 τ_4 H locs hq_4 hR hS => ?_)
  refine W.widen (k := cells + 2) (n := slots + 20) (by omega) (by omega) ?_
  obtain ⟨rfl, gz9, gq, gv, gf9⟩ := hq_4
  have gz := gz9.trans gz
  have gf : ∀ q9, q9 < q → τ_4.2 q9 = τ.2 q9 := fun q9 h => (gf9 q9 (by omega) (by omega)).trans (gf q9 h)
  have hac : Asc (((([] : List Int32) ++ [nI (48 + b9)]) ++ [42]) ++ [nI (48 + a9)]) := asc_app hac (asc_dg hd9)
  have gq : τ_4.2 q = some (.inr (1, [.ref (q + 1), .int 0, .int 0, .int (nI 3)])) := gq
  refine W.eq (g2 := F0 mI 752 ls [.ref q, .int n9, .ref x]) rfl ?_
  refine va_ldcS (own := RL) hx hb hown (vk_R.warm hW (hLT (212, "+ ", [43, 32]) (by decide)).1) dL_law_752 ?_
  have hlt9 : Asc [43, 32] := asc_of (by decide)
  refine fw_call (va_runV (As := [.ref (lad 212)]) (rest := [.int n9, .ref x]) ⟨hx, hb, hml, hown, hts⟩ (c_J4_append_15ec4A G hL l τ_4 hJ q (q + 1) 16 3 (((([] : List Int32) ++ [nI (48 + b9)]) ++ [42]) ++ [nI (48 + a9)]) gq gv (by omega) rfl (by decide) (lad 212) [43, 32] (hLT (212, "+ ", [43, 32]) (by decide)).2 (by decide) (by decide) hlt9) (cwV 1 hts gL_law_J4_append_15ec4 rfl rfl rfl (by decide +kernel) ⟨Nat.le_of_ble_eq_true rfl, Nat.le_of_ble_eq_true rfl⟩) (fw_preV hW hK hR gq rfl) rfl rfl hl.1 rfl (lv_room (Nat.le_of_ble_eq_true rfl)) dL_law_754 ⟨by show cells + 2 + 0 ≤ 677820; omega, by show slots + 20 + 0 ≤ 7068237; omega⟩) hS (fun v_5 τ_5 H locs hq_5 hR hS => ?_)
  refine W.widen (k := cells + 2) (n := slots + 20) (by omega) (by omega) ?_
  obtain ⟨rfl, gz9, gq, gv, gf9⟩ := hq_5
  have gz := gz9.trans gz
  have gf : ∀ q9, q9 < q → τ_5.2 q9 = τ.2 q9 := fun q9 h => (gf9 q9 (by omega) (by omega)).trans (gf q9 h)
  have hac : Asc ((((([] : List Int32) ++ [nI (48 + b9)]) ++ [42]) ++ [nI (48 + a9)]) ++ [43, 32]) := asc_app hac hlt9
  have gq : τ_5.2 q = some (.inr (1, [.ref (q + 1), .int 0, .int 0, .int (nI 5)])) := gq
  refine W.eq (g2 := F0 mI 757 ls [.ref q, .int n9, .ref x]) rfl ?_
  refine lv_iload hx hb dL_law_757 (lv_at hl k12 h12) ?_
  refine fw_call (va_runV (As := [.int (nI ((b9 + 2) % 6))]) (rest := [.int n9, .ref x]) ⟨hx, hb, hml, hown, hts⟩ (c_J4_append_bf812 G hL l τ_5 hJ dd hD ((b9 + 2) % 6) q (q + 1) 16 5 ((((([] : List Int32) ++ [nI (48 + b9)]) ++ [42]) ++ [nI (48 + a9)]) ++ [43, 32]) hd12 gq gv (by omega) rfl (by decide) (by decide)) (cwV 1 hts gL_law_J4_append_bf812 rfl rfl rfl (by decide +kernel) ⟨Nat.le_of_ble_eq_true rfl, Nat.le_of_ble_eq_true rfl⟩) (fw_preV hW hK hR gq rfl) rfl rfl hl.1 rfl (lv_room (Nat.le_of_ble_eq_true rfl)) dL_law_759 ⟨by show cells + 2 + 0 ≤ 677820; omega, by show slots + 20 + 0 ≤ 7068237; omega⟩) hS (fun v_6 τ_6 H locs hq_6 hR hS => ?_)
  refine W.widen (k := cells + 2) (n := slots + 20) (by omega) (by omega) ?_
  obtain ⟨rfl, gz9, gq, gv, gf9⟩ := hq_6
  have gz := gz9.trans gz
  have gf : ∀ q9, q9 < q → τ_6.2 q9 = τ.2 q9 := fun q9 h => (gf9 q9 (by omega) (by omega)).trans (gf q9 h)
  have hac : Asc (((((([] : List Int32) ++ [nI (48 + b9)]) ++ [42]) ++ [nI (48 + a9)]) ++ [43, 32]) ++ [nI (48 + (b9 + 2) % 6)]) := asc_app hac (asc_dg hd12)
  have gq : τ_6.2 q = some (.inr (1, [.ref (q + 1), .int 0, .int 0, .int (nI 6)])) := gq
  refine W.eq (g2 := F0 mI 762 ls [.ref q, .int n9, .ref x]) rfl ?_
  refine va_ldcS (own := RL) hx hb hown (vk_R.warm hW (hLT (214, "*4 ", [42, 52, 32]) (by decide)).1) dL_law_762 ?_
  have hlt9 : Asc [42, 52, 32] := asc_of (by decide)
  refine fw_call (va_runV (As := [.ref (lad 214)]) (rest := [.int n9, .ref x]) ⟨hx, hb, hml, hown, hts⟩ (c_J4_append_15ec4A G hL l τ_6 hJ q (q + 1) 16 6 (((((([] : List Int32) ++ [nI (48 + b9)]) ++ [42]) ++ [nI (48 + a9)]) ++ [43, 32]) ++ [nI (48 + (b9 + 2) % 6)]) gq gv (by omega) rfl (by decide) (lad 214) [42, 52, 32] (hLT (214, "*4 ", [42, 52, 32]) (by decide)).2 (by decide) (by decide) hlt9) (cwV 1 hts gL_law_J4_append_15ec4 rfl rfl rfl (by decide +kernel) ⟨Nat.le_of_ble_eq_true rfl, Nat.le_of_ble_eq_true rfl⟩) (fw_preV hW hK hR gq rfl) rfl rfl hl.1 rfl (lv_room (Nat.le_of_ble_eq_true rfl)) dL_law_764 ⟨by show cells + 2 + 0 ≤ 677820; omega, by show slots + 20 + 0 ≤ 7068237; omega⟩) hS (fun v_7 τ_7 H locs hq_7 hR hS => ?_)
  refine W.widen (k := cells + 2) (n := slots + 20) (by omega) (by omega) ?_
  obtain ⟨rfl, gz9, gq, gv, gf9⟩ := hq_7
  have gz := gz9.trans gz
  have gf : ∀ q9, q9 < q → τ_7.2 q9 = τ.2 q9 := fun q9 h => (gf9 q9 (by omega) (by omega)).trans (gf q9 h)
  have hac : Asc ((((((([] : List Int32) ++ [nI (48 + b9)]) ++ [42]) ++ [nI (48 + a9)]) ++ [43, 32]) ++ [nI (48 + (b9 + 2) % 6)]) ++ [42, 52, 32]) := asc_app hac hlt9
  have gq : τ_7.2 q = some (.inr (1, [.ref (q + 1), .int 0, .int 0, .int (nI 9)])) := gq
  refine W.eq (g2 := F0 mI 767 ls [.ref q, .int n9, .ref x]) rfl ?_
  refine lv_iload hx hb dL_law_767 (lv_at hl k10 h10) ?_
  refine fw_call (va_runV (As := [.int (nI b9)]) (rest := [.int n9, .ref x]) ⟨hx, hb, hml, hown, hts⟩ (c_J4_append_bf812 G hL l τ_7 hJ dd hD b9 q (q + 1) 16 9 ((((((([] : List Int32) ++ [nI (48 + b9)]) ++ [42]) ++ [nI (48 + a9)]) ++ [43, 32]) ++ [nI (48 + (b9 + 2) % 6)]) ++ [42, 52, 32]) hd10 gq gv (by omega) rfl (by decide) (by decide)) (cwV 1 hts gL_law_J4_append_bf812 rfl rfl rfl (by decide +kernel) ⟨Nat.le_of_ble_eq_true rfl, Nat.le_of_ble_eq_true rfl⟩) (fw_preV hW hK hR gq rfl) rfl rfl hl.1 rfl (lv_room (Nat.le_of_ble_eq_true rfl)) dL_law_769 ⟨by show cells + 2 + 0 ≤ 677820; omega, by show slots + 20 + 0 ≤ 7068237; omega⟩) hS (fun v_8 τ_8 H locs hq_8 hR hS => ?_)
  refine W.widen (k := cells + 2) (n := slots + 20) (by omega) (by omega) ?_
  obtain ⟨rfl, gz9, gq, gv, gf9⟩ := hq_8
  have gz := gz9.trans gz
  have gf : ∀ q9, q9 < q → τ_8.2 q9 = τ.2 q9 := fun q9 h => (gf9 q9 (by omega) (by omega)).trans (gf q9 h)
  have hac : Asc (((((((([] : List Int32) ++ [nI (48 + b9)]) ++ [42]) ++ [nI (48 + a9)]) ++ [43, 32]) ++ [nI (48 + (b9 + 2) % 6)]) ++ [42, 52, 32]) ++ [nI (48 + b9)]) := asc_app hac (asc_dg hd10)
  have gq : τ_8.2 q = some (.inr (1, [.ref (q + 1), .int 0, .int 0, .int (nI 10)])) := gq
  refine W.eq (g2 := F0 mI 772 ls [.ref q, .int n9, .ref x]) rfl ?_
  refine va_ldcS (own := RL) hx hb hown (vk_R.warm hW (hLT (216, "*1", [42, 49]) (by decide)).1) dL_law_772 ?_
  have hlt9 : Asc [42, 49] := asc_of (by decide)
  refine fw_call (va_runV (As := [.ref (lad 216)]) (rest := [.int n9, .ref x]) ⟨hx, hb, hml, hown, hts⟩ (c_J4_append_15ec4A G hL l τ_8 hJ q (q + 1) 16 10 (((((((([] : List Int32) ++ [nI (48 + b9)]) ++ [42]) ++ [nI (48 + a9)]) ++ [43, 32]) ++ [nI (48 + (b9 + 2) % 6)]) ++ [42, 52, 32]) ++ [nI (48 + b9)]) gq gv (by omega) rfl (by decide) (lad 216) [42, 49] (hLT (216, "*1", [42, 49]) (by decide)).2 (by decide) (by decide) hlt9) (cwV 1 hts gL_law_J4_append_15ec4 rfl rfl rfl (by decide +kernel) ⟨Nat.le_of_ble_eq_true rfl, Nat.le_of_ble_eq_true rfl⟩) (fw_preV hW hK hR gq rfl) rfl rfl hl.1 rfl (lv_room (Nat.le_of_ble_eq_true rfl)) dL_law_774 ⟨by show cells + 2 + 0 ≤ 677820; omega, by show slots + 20 + 0 ≤ 7068237; omega⟩) hS (fun v_9 τ_9 H locs hq_9 hR hS => ?_)
  refine W.widen (k := cells + 2) (n := slots + 20) (by omega) (by omega) ?_
  obtain ⟨rfl, gz9, gq, gv, gf9⟩ := hq_9
  have gz := gz9.trans gz
  have gf : ∀ q9, q9 < q → τ_9.2 q9 = τ.2 q9 := fun q9 h => (gf9 q9 (by omega) (by omega)).trans (gf q9 h)
  have hac : Asc ((((((((([] : List Int32) ++ [nI (48 + b9)]) ++ [42]) ++ [nI (48 + a9)]) ++ [43, 32]) ++ [nI (48 + (b9 + 2) % 6)]) ++ [42, 52, 32]) ++ [nI (48 + b9)]) ++ [42, 49]) := asc_app hac hlt9
  have gq : τ_9.2 q = some (.inr (1, [.ref (q + 1), .int 0, .int 0, .int (nI 12)])) := gq
  refine W.eq (g2 := F0 mI 777 ls [.ref q, .int n9, .ref x]) rfl ?_
  refine fw_call (va_runV (As := []) (rest := [.int n9, .ref x]) ⟨hx, hb, hml, hown, hts⟩ (c_J4_toString_0e30d G hL l τ_9 hJ q (q + 1) (q + 1 + 1) 16 12 ((((((((([] : List Int32) ++ [nI (48 + b9)]) ++ [42]) ++ [nI (48 + a9)]) ++ [43, 32]) ++ [nI (48 + (b9 + 2) % 6)]) ++ [42, 52, 32]) ++ [nI (48 + b9)]) ++ [42, 49]) gz gq gv rfl hac (by omega) (by omega) (by decide) (by decide)) (cwV 0 hts gL_law_J4_toString_0e30d rfl rfl rfl (by decide +kernel) ⟨Nat.le_of_ble_eq_true rfl, Nat.le_of_ble_eq_true rfl⟩) (fw_preV hW hK hR gq rfl) rfl rfl hl.1 rfl (lv_room (Nat.le_of_ble_eq_true rfl)) dL_law_777 ⟨by show cells + 2 + 2 ≤ 677820; omega, by show slots + 20 + 1004 ≤ 7068237; omega⟩) hS (fun v_10 τ_10 H locs hq_10 hR hS => ?_)
  refine W.widen (k := cells + 4) (n := slots + 1024) (by omega) (by omega) ?_
  obtain ⟨rfl, gz, gq, gv, gf9⟩ := hq_10
  have gf : ∀ q9, q9 < q → τ_10.2 q9 = τ.2 q9 := fun q9 h => (gf9 q9 (by omega)).trans (gf q9 h)
  refine W.eq (g2 := F0 mI 780 ls [.ref (q + 1 + 1), .int n9, .ref x]) rfl ?_
  exact kk τ_10 (q + 1 + 1) H locs (by omega) (by rw [hq0] at gf; exact gf) ⟨(q + 1 + 1) + 1, by omega, gq, gv⟩ hR hS
set_option maxHeartbeats 8000000 in
set_option maxRecDepth 100000 in
theorem tb_l2 {G : FG} {l : Launch} {pP : Program} {eE : Env} {sS : State} {mI : MethodId} {ar9 : Array Value} {bl9 : List Frame} {meth : Method} {cD : Code} {Q : State → Prop} {adr lad : Nat → Nat} {b L dd : Nat} {xs : Nat → Int32} (C : LWx G l pP sS mI ar9 cD adr b L xs dd lad) {x : Nat} {n9 : Int32} {a9 : Nat} {b9 : Nat} {lv : List (Nat × Value)} {k9 : Nat} (h9 : lv[k9]? = some (9, .int (nI a9))) (hd9 : a9 < 10) {k10 : Nat} (h10 : lv[k10]? = some (10, .int (nI b9))) (hd10 : b9 < 10) {k12 : Nat} (h12 : lv[k12]? = some (12, .int (nI ((b9 + 2) % 6)))) (hd12 : (b9 + 2) % 6 < 10) {τ : FWd} {cells slots : Nat} {H : Heap} {locs : List Loc} {ls : Array Slot} (hc : cells ≤ 600000) (hs : slots ≤ 7000000) (hR : fR G τ H) (hS : va_S (fwA G) sS.heap H locs) (hl : lv_has ls 14 lv)
    (kk : ∀ (τ2 : FWd) (r : Nat) (H : Heap) (locs : List Loc), τ.1 ≤ r → (∀ q9, q9 < τ.1 → τ2.2 q9 = τ.2 q9) → TxB G τ2.2 τ.1 r [nI (48 + b9), 42, nI (48 + a9), 43, 47, 32, nI (48 + (b9 + 2) % 6), 42, 52, 32, nI (48 + b9), 42, 49] → fR G τ2 H → va_S (fwA G) sS.heap H locs → W pP l eE room_1 sS mI ar9 bl9 meth cD H locs (cells + 4) (slots + 1024) Q (F0 mI 1022 ls (.ref r :: [.int n9, .ref x]))) : W pP l eE room_1 sS mI ar9 bl9 meth cD H locs cells slots Q (F0 mI 972 ls [.int n9, .ref x]) := by
  obtain ⟨hx, hb, hml, hown, hts, hW, hL, hX0, hN, hFT, hJ, hD, hLT, hX, hbl, hbA, hL9⟩ := id C
  have hK := hL.K hW
  obtain ⟨q, hq0⟩ : ∃ z9 : Nat, z9 = τ.1 := ⟨_, rfl⟩
  have hin4 : ∀ w ∈ u_ws RJ4 TJ4 4, w ∈ wsL_law := in4
  have hR : fR G (q, τ.2) H := by rw [hq0]; exact hR
  refine fw_new (C := RJ4) (T := TJ4) (N := 4) (ci := 1) hx hb hts hin4 tyJ4 tyJ4_ok hown (hts (.classLink RL 131 RJ4) (by decide +kernel)) (hts (.instantiable RJ4 4) (by decide +kernel)) (hts (.initialized RJ4) (by decide +kernel)) hK hR hS rfl (n := q) rfl (fs := [.null, .int 0, .int 0, .int 0]) (fun j hj => by rcases (show j = 0 ∨ j = 1 ∨ j = 2 ∨ j = 3 by omega) with rfl | rfl | rfl | rfl <;> rfl) (by show cells + 1 ≤ 677820; omega) (by show slots + 4 ≤ 7068237; omega) dL_law_972 (fun H hR hS => ?_)
  refine W.widen (k := cells + 1) (n := slots + 4) (by omega) (by omega) ?_
  obtain ⟨σ1, hs1⟩ : ∃ z9 : Nat → Option va_E, z9 = va_up τ.2 q (some (.inr (1, [.null, .int 0, .int 0, .int 0]))) := ⟨_, rfl⟩
  have hR : fR G (q + 1, σ1) H := by rw [hs1]; exact hR
  have e1 : σ1 q = some (.inr (1, [.null, .int 0, .int 0, .int 0])) := by rw [hs1]; exact va_up_at
  have f1 : ∀ q9, q9 < q → σ1 q9 = τ.2 q9 := fun q9 hq => by rw [hs1]; exact va_up_off (by omega)
  clear hs1
  refine lv_dup hx hb dL_law_975 rfl ?_
  refine fw_call (va_runI (As := []) (b := q) (rest := [.ref q, .int n9, .ref x]) ⟨hx, hb, hml, hown, hts⟩ (c_J4_init_da8c8 G hL l (q + 1, σ1) hJ q (q + 1) rfl e1 (by omega)) (cwI 0 hts gL_law_J4_init_da8c8 rfl rfl rfl (hts (.initialized yJ4_init_da8c8.cls) (by decide +kernel)) (hts (.methodLink RL 133 yJ4_init_da8c8) (by decide +kernel)) (hts (.instanceMethod yJ4_init_da8c8) (by decide +kernel)) rfl (by decide +kernel) ⟨Nat.le_of_ble_eq_true rfl, Nat.le_of_ble_eq_true rfl⟩) (fw_preI hW hR) rfl rfl hl.1 rfl (lv_room (Nat.le_of_ble_eq_true rfl)) dL_law_976 ⟨by show cells + 1 + 1 ≤ 677820; omega, by show slots + 4 + 16 ≤ 7068237; omega⟩) hS (fun v_1 τ_1 H locs hq_1 hR hS => ?_)
  refine W.widen (k := cells + 2) (n := slots + 20) (by omega) (by omega) ?_
  obtain ⟨rfl, gz, gq, gv, gf⟩ := hq_1
  have gf : ∀ q9, q9 < q → τ_1.2 q9 = τ.2 q9 := fun q9 h => (gf q9 (by omega) (by omega)).trans (f1 q9 h)
  have hac : Asc [] := asc_nil
  have gq : τ_1.2 q = some (.inr (1, [.ref (q + 1), .int 0, .int 0, .int (nI 0)])) := gq
  have gv : τ_1.2 (q + 1) = some (.inl (G.2.1 2, 16, .inl (fun i => ([] : List Int32).getD i 0))) := by rw [show (fun i => ([] : List Int32).getD i 0) = (fun _ => 0) from funext (fun i => by simp)]; exact gv
  refine W.eq (g2 := F0 mI 979 ls [.ref q, .int n9, .ref x]) rfl ?_
  refine lv_iload hx hb dL_law_979 (lv_at hl k10 h10) ?_
  refine fw_call (va_runV (As := [.int (nI b9)]) (rest := [.int n9, .ref x]) ⟨hx, hb, hml, hown, hts⟩ (c_J4_append_bf812 G hL l τ_1 hJ dd hD b9 q (q + 1) 16 0 ([] : List Int32) hd10 gq gv (by omega) rfl (by decide) (by decide)) (cwV 1 hts gL_law_J4_append_bf812 rfl rfl rfl (by decide +kernel) ⟨Nat.le_of_ble_eq_true rfl, Nat.le_of_ble_eq_true rfl⟩) (fw_preV hW hK hR gq rfl) rfl rfl hl.1 rfl (lv_room (Nat.le_of_ble_eq_true rfl)) dL_law_981 ⟨by show cells + 2 + 0 ≤ 677820; omega, by show slots + 20 + 0 ≤ 7068237; omega⟩) hS (fun v_2 τ_2 H locs hq_2 hR hS => ?_)
  refine W.widen (k := cells + 2) (n := slots + 20) (by omega) (by omega) ?_
  obtain ⟨rfl, gz9, gq, gv, gf9⟩ := hq_2
  have gz := gz9.trans gz
  have gf : ∀ q9, q9 < q → τ_2.2 q9 = τ.2 q9 := fun q9 h => (gf9 q9 (by omega) (by omega)).trans (gf q9 h)
  have hac : Asc (([] : List Int32) ++ [nI (48 + b9)]) := asc_app hac (asc_dg hd10)
  have gq : τ_2.2 q = some (.inr (1, [.ref (q + 1), .int 0, .int 0, .int (nI 1)])) := gq
  refine W.eq (g2 := F0 mI 984 ls [.ref q, .int n9, .ref x]) rfl ?_
  refine va_ldcS (own := RL) hx hb hown (vk_R.warm hW (hLT (201, "*", [42]) (by decide)).1) dL_law_984 ?_
  have hlt9 : Asc [42] := asc_of (by decide)
  refine fw_call (va_runV (As := [.ref (lad 201)]) (rest := [.int n9, .ref x]) ⟨hx, hb, hml, hown, hts⟩ (c_J4_append_15ec4A G hL l τ_2 hJ q (q + 1) 16 1 (([] : List Int32) ++ [nI (48 + b9)]) gq gv (by omega) rfl (by decide) (lad 201) [42] (hLT (201, "*", [42]) (by decide)).2 (by decide) (by decide) hlt9) (cwV 1 hts gL_law_J4_append_15ec4 rfl rfl rfl (by decide +kernel) ⟨Nat.le_of_ble_eq_true rfl, Nat.le_of_ble_eq_true rfl⟩) (fw_preV hW hK hR gq rfl) rfl rfl hl.1 rfl (lv_room (Nat.le_of_ble_eq_true rfl)) dL_law_986 ⟨by show cells + 2 + 0 ≤ 677820; omega, by show slots + 20 + 0 ≤ 7068237; omega⟩) hS (fun v_3 τ_3 H locs hq_3 hR hS => ?_)
  refine W.widen (k := cells + 2) (n := slots + 20) (by omega) (by omega) ?_
  obtain ⟨rfl, gz9, gq, gv, gf9⟩ := hq_3
  have gz := gz9.trans gz
  have gf : ∀ q9, q9 < q → τ_3.2 q9 = τ.2 q9 := fun q9 h => (gf9 q9 (by omega) (by omega)).trans (gf q9 h)
  have hac : Asc ((([] : List Int32) ++ [nI (48 + b9)]) ++ [42]) := asc_app hac hlt9
  have gq : τ_3.2 q = some (.inr (1, [.ref (q + 1), .int 0, .int 0, .int (nI 2)])) := gq
  refine W.eq (g2 := F0 mI 989 ls [.ref q, .int n9, .ref x]) rfl ?_
  refine lv_iload hx hb dL_law_989 (lv_at hl k9 h9) ?_
  refine fw_call (va_runV (As := [.int (nI a9)]) (rest := [.int n9, .ref x]) ⟨hx, hb, hml, hown, hts⟩ (c_J4_append_bf812 G hL l τ_3 hJ dd hD a9 q (q + 1) 16 2 ((([] : List Int32) ++ [nI (48 + b9)]) ++ [42]) hd9 gq gv (by omega) rfl (by decide) (by decide)) (cwV 1 hts gL_law_J4_append_bf812 rfl rfl rfl (by decide +kernel) ⟨Nat.le_of_ble_eq_true rfl, Nat.le_of_ble_eq_true rfl⟩) (fw_preV hW hK hR gq rfl) rfl rfl hl.1 rfl (lv_room (Nat.le_of_ble_eq_true rfl)) dL_law_991 ⟨by show cells + 2 + 0 ≤ 677820; omega, by show slots + 20 + 0 ≤ 7068237; omega⟩) hS (fun v_4 τ_4 H locs hq_4 hR hS => ?_)
  refine W.widen (k := cells + 2) (n := slots + 20) (by omega) (by omega) ?_
  obtain ⟨rfl, gz9, gq, gv, gf9⟩ := hq_4
  have gz := gz9.trans gz
  have gf : ∀ q9, q9 < q → τ_4.2 q9 = τ.2 q9 := fun q9 h => (gf9 q9 (by omega) (by omega)).trans (gf q9 h)
  have hac : Asc (((([] : List Int32) ++ [nI (48 + b9)]) ++ [42]) ++ [nI (48 + a9)]) := asc_app hac (asc_dg hd9)
  have gq : τ_4.2 q = some (.inr (1, [.ref (q + 1), .int 0, .int 0, .int (nI 3)])) := gq
  refine W.eq (g2 := F0 mI 994 ls [.ref q, .int n9, .ref x]) rfl ?_
  refine va_ldcS (own := RL) hx hb hown (vk_R.warm hW (hLT (240, "+/ ", [43, 47, 32]) (by decide)).1) dL_law_994 ?_
  have hlt9 : Asc [43, 47, 32] := asc_of (by decide)
  refine fw_call (va_runV (As := [.ref (lad 240)]) (rest := [.int n9, .ref x]) ⟨hx, hb, hml, hown, hts⟩ (c_J4_append_15ec4A G hL l τ_4 hJ q (q + 1) 16 3 (((([] : List Int32) ++ [nI (48 + b9)]) ++ [42]) ++ [nI (48 + a9)]) gq gv (by omega) rfl (by decide) (lad 240) [43, 47, 32] (hLT (240, "+/ ", [43, 47, 32]) (by decide)).2 (by decide) (by decide) hlt9) (cwV 1 hts gL_law_J4_append_15ec4 rfl rfl rfl (by decide +kernel) ⟨Nat.le_of_ble_eq_true rfl, Nat.le_of_ble_eq_true rfl⟩) (fw_preV hW hK hR gq rfl) rfl rfl hl.1 rfl (lv_room (Nat.le_of_ble_eq_true rfl)) dL_law_996 ⟨by show cells + 2 + 0 ≤ 677820; omega, by show slots + 20 + 0 ≤ 7068237; omega⟩) hS (fun v_5 τ_5 H locs hq_5 hR hS => ?_)
  refine W.widen (k := cells + 2) (n := slots + 20) (by omega) (by omega) ?_
  obtain ⟨rfl, gz9, gq, gv, gf9⟩ := hq_5
  have gz := gz9.trans gz
  have gf : ∀ q9, q9 < q → τ_5.2 q9 = τ.2 q9 := fun q9 h => (gf9 q9 (by omega) (by omega)).trans (gf q9 h)
  have hac : Asc ((((([] : List Int32) ++ [nI (48 + b9)]) ++ [42]) ++ [nI (48 + a9)]) ++ [43, 47, 32]) := asc_app hac hlt9
  have gq : τ_5.2 q = some (.inr (1, [.ref (q + 1), .int 0, .int 0, .int (nI 6)])) := gq
  refine W.eq (g2 := F0 mI 999 ls [.ref q, .int n9, .ref x]) rfl ?_
  refine lv_iload hx hb dL_law_999 (lv_at hl k12 h12) ?_
  refine fw_call (va_runV (As := [.int (nI ((b9 + 2) % 6))]) (rest := [.int n9, .ref x]) ⟨hx, hb, hml, hown, hts⟩ (c_J4_append_bf812 G hL l τ_5 hJ dd hD ((b9 + 2) % 6) q (q + 1) 16 6 ((((([] : List Int32) ++ [nI (48 + b9)]) ++ [42]) ++ [nI (48 + a9)]) ++ [43, 47, 32]) hd12 gq gv (by omega) rfl (by decide) (by decide)) (cwV 1 hts gL_law_J4_append_bf812 rfl rfl rfl (by decide +kernel) ⟨Nat.le_of_ble_eq_true rfl, Nat.le_of_ble_eq_true rfl⟩) (fw_preV hW hK hR gq rfl) rfl rfl hl.1 rfl (lv_room (Nat.le_of_ble_eq_true rfl)) dL_law_1001 ⟨by show cells + 2 + 0 ≤ 677820; omega, by show slots + 20 + 0 ≤ 7068237; omega⟩) hS (fun v_6 τ_6 H locs hq_6 hR hS => ?_)
  refine W.widen (k := cells + 2) (n := slots + 20) (by omega) (by omega) ?_
  obtain ⟨rfl, gz9, gq, gv, gf9⟩ := hq_6
  have gz := gz9.trans gz
  have gf : ∀ q9, q9 < q → τ_6.2 q9 = τ.2 q9 := fun q9 h => (gf9 q9 (by omega) (by omega)).trans (gf q9 h)
  have hac : Asc (((((([] : List Int32) ++ [nI (48 + b9)]) ++ [42]) ++ [nI (48 + a9)]) ++ [43, 47, 32]) ++ [nI (48 + (b9 + 2) % 6)]) := asc_app hac (asc_dg hd12)
  have gq : τ_6.2 q = some (.inr (1, [.ref (q + 1), .int 0, .int 0, .int (nI 7)])) := gq
  refine W.eq (g2 := F0 mI 1004 ls [.ref q, .int n9, .ref x]) rfl ?_
  refine va_ldcS (own := RL) hx hb hown (vk_R.warm hW (hLT (214, "*4 ", [42, 52, 32]) (by decide)).1) dL_law_1004 ?_
  have hlt9 : Asc [42, 52, 32] := asc_of (by decide)
  refine fw_call (va_runV (As := [.ref (lad 214)]) (rest := [.int n9, .ref x]) ⟨hx, hb, hml, hown, hts⟩ (c_J4_append_15ec4A G hL l τ_6 hJ q (q + 1) 16 7 (((((([] : List Int32) ++ [nI (48 + b9)]) ++ [42]) ++ [nI (48 + a9)]) ++ [43, 47, 32]) ++ [nI (48 + (b9 + 2) % 6)]) gq gv (by omega) rfl (by decide) (lad 214) [42, 52, 32] (hLT (214, "*4 ", [42, 52, 32]) (by decide)).2 (by decide) (by decide) hlt9) (cwV 1 hts gL_law_J4_append_15ec4 rfl rfl rfl (by decide +kernel) ⟨Nat.le_of_ble_eq_true rfl, Nat.le_of_ble_eq_true rfl⟩) (fw_preV hW hK hR gq rfl) rfl rfl hl.1 rfl (lv_room (Nat.le_of_ble_eq_true rfl)) dL_law_1006 ⟨by show cells + 2 + 0 ≤ 677820; omega, by show slots + 20 + 0 ≤ 7068237; omega⟩) hS (fun v_7 τ_7 H locs hq_7 hR hS => ?_)
  refine W.widen (k := cells + 2) (n := slots + 20) (by omega) (by omega) ?_
  obtain ⟨rfl, gz9, gq, gv, gf9⟩ := hq_7
  have gz := gz9.trans gz
  have gf : ∀ q9, q9 < q → τ_7.2 q9 = τ.2 q9 := fun q9 h => (gf9 q9 (by omega) (by omega)).trans (gf q9 h)
  have hac : Asc ((((((([] : List Int32) ++ [nI (48 + b9)]) ++ [42]) ++ [nI (48 + a9)]) ++ [43, 47, 32]) ++ [nI (48 + (b9 + 2) % 6)]) ++ [42, 52, 32]) := asc_app hac hlt9
  have gq : τ_7.2 q = some (.inr (1, [.ref (q + 1), .int 0, .int 0, .int (nI 10)])) := gq
  refine W.eq (g2 := F0 mI 1009 ls [.ref q, .int n9, .ref x]) rfl ?_
  refine lv_iload hx hb dL_law_1009 (lv_at hl k10 h10) ?_
  refine fw_call (va_runV (As := [.int (nI b9)]) (rest := [.int n9, .ref x]) ⟨hx, hb, hml, hown, hts⟩ (c_J4_append_bf812 G hL l τ_7 hJ dd hD b9 q (q + 1) 16 10 ((((((([] : List Int32) ++ [nI (48 + b9)]) ++ [42]) ++ [nI (48 + a9)]) ++ [43, 47, 32]) ++ [nI (48 + (b9 + 2) % 6)]) ++ [42, 52, 32]) hd10 gq gv (by omega) rfl (by decide) (by decide)) (cwV 1 hts gL_law_J4_append_bf812 rfl rfl rfl (by decide +kernel) ⟨Nat.le_of_ble_eq_true rfl, Nat.le_of_ble_eq_true rfl⟩) (fw_preV hW hK hR gq rfl) rfl rfl hl.1 rfl (lv_room (Nat.le_of_ble_eq_true rfl)) dL_law_1011 ⟨by show cells + 2 + 0 ≤ 677820; omega, by show slots + 20 + 0 ≤ 7068237; omega⟩) hS (fun v_8 τ_8 H locs hq_8 hR hS => ?_)
  refine W.widen (k := cells + 2) (n := slots + 20) (by omega) (by omega) ?_
  obtain ⟨rfl, gz9, gq, gv, gf9⟩ := hq_8
  have gz := gz9.trans gz
  have gf : ∀ q9, q9 < q → τ_8.2 q9 = τ.2 q9 := fun q9 h => (gf9 q9 (by omega) (by omega)).trans (gf q9 h)
  have hac : Asc (((((((([] : List Int32) ++ [nI (48 + b9)]) ++ [42]) ++ [nI (48 + a9)]) ++ [43, 47, 32]) ++ [nI (48 + (b9 + 2) % 6)]) ++ [42, 52, 32]) ++ [nI (48 + b9)]) := asc_app hac (asc_dg hd10)
  have gq : τ_8.2 q = some (.inr (1, [.ref (q + 1), .int 0, .int 0, .int (nI 11)])) := gq
  refine W.eq (g2 := F0 mI 1014 ls [.ref q, .int n9, .ref x]) rfl ?_
  refine va_ldcS (own := RL) hx hb hown (vk_R.warm hW (hLT (216, "*1", [42, 49]) (by decide)).1) dL_law_1014 ?_
  have hlt9 : Asc [42, 49] := asc_of (by decide)
  refine fw_call (va_runV (As := [.ref (lad 216)]) (rest := [.int n9, .ref x]) ⟨hx, hb, hml, hown, hts⟩ (c_J4_append_15ec4A G hL l τ_8 hJ q (q + 1) 16 11 (((((((([] : List Int32) ++ [nI (48 + b9)]) ++ [42]) ++ [nI (48 + a9)]) ++ [43, 47, 32]) ++ [nI (48 + (b9 + 2) % 6)]) ++ [42, 52, 32]) ++ [nI (48 + b9)]) gq gv (by omega) rfl (by decide) (lad 216) [42, 49] (hLT (216, "*1", [42, 49]) (by decide)).2 (by decide) (by decide) hlt9) (cwV 1 hts gL_law_J4_append_15ec4 rfl rfl rfl (by decide +kernel) ⟨Nat.le_of_ble_eq_true rfl, Nat.le_of_ble_eq_true rfl⟩) (fw_preV hW hK hR gq rfl) rfl rfl hl.1 rfl (lv_room (Nat.le_of_ble_eq_true rfl)) dL_law_1016 ⟨by show cells + 2 + 0 ≤ 677820; omega, by show slots + 20 + 0 ≤ 7068237; omega⟩) hS (fun v_9 τ_9 H locs hq_9 hR hS => ?_)
  refine W.widen (k := cells + 2) (n := slots + 20) (by omega) (by omega) ?_
  obtain ⟨rfl, gz9, gq, gv, gf9⟩ := hq_9
  have gz := gz9.trans gz
  have gf : ∀ q9, q9 < q → τ_9.2 q9 = τ.2 q9 := fun q9 h => (gf9 q9 (by omega) (by omega)).trans (gf q9 h)
  have hac : Asc ((((((((([] : List Int32) ++ [nI (48 + b9)]) ++ [42]) ++ [nI (48 + a9)]) ++ [43, 47, 32]) ++ [nI (48 + (b9 + 2) % 6)]) ++ [42, 52, 32]) ++ [nI (48 + b9)]) ++ [42, 49]) := asc_app hac hlt9
  have gq : τ_9.2 q = some (.inr (1, [.ref (q + 1), .int 0, .int 0, .int (nI 13)])) := gq
  refine W.eq (g2 := F0 mI 1019 ls [.ref q, .int n9, .ref x]) rfl ?_
  refine fw_call (va_runV (As := []) (rest := [.int n9, .ref x]) ⟨hx, hb, hml, hown, hts⟩ (c_J4_toString_0e30d G hL l τ_9 hJ q (q + 1) (q + 1 + 1) 16 13 ((((((((([] : List Int32) ++ [nI (48 + b9)]) ++ [42]) ++ [nI (48 + a9)]) ++ [43, 47, 32]) ++ [nI (48 + (b9 + 2) % 6)]) ++ [42, 52, 32]) ++ [nI (48 + b9)]) ++ [42, 49]) gz gq gv rfl hac (by omega) (by omega) (by decide) (by decide)) (cwV 0 hts gL_law_J4_toString_0e30d rfl rfl rfl (by decide +kernel) ⟨Nat.le_of_ble_eq_true rfl, Nat.le_of_ble_eq_true rfl⟩) (fw_preV hW hK hR gq rfl) rfl rfl hl.1 rfl (lv_room (Nat.le_of_ble_eq_true rfl)) dL_law_1019 ⟨by show cells + 2 + 2 ≤ 677820; omega, by show slots + 20 + 1004 ≤ 7068237; omega⟩) hS (fun v_10 τ_10 H locs hq_10 hR hS => ?_)
  refine W.widen (k := cells + 4) (n := slots + 1024) (by omega) (by omega) ?_
  obtain ⟨rfl, gz, gq, gv, gf9⟩ := hq_10
  have gf : ∀ q9, q9 < q → τ_10.2 q9 = τ.2 q9 := fun q9 h => (gf9 q9 (by omega)).trans (gf q9 h)
  refine W.eq (g2 := F0 mI 1022 ls [.ref (q + 1 + 1), .int n9, .ref x]) rfl ?_
  exact kk τ_10 (q + 1 + 1) H locs (by omega) (by rw [hq0] at gf; exact gf) ⟨(q + 1 + 1) + 1, by omega, gq, gv⟩ hR hS
set_option maxHeartbeats 8000000 in
set_option maxRecDepth 100000 in
theorem tb_l3 {G : FG} {l : Launch} {pP : Program} {eE : Env} {sS : State} {mI : MethodId} {ar9 : Array Value} {bl9 : List Frame} {meth : Method} {cD : Code} {Q : State → Prop} {adr lad : Nat → Nat} {b L dd : Nat} {xs : Nat → Int32} (C : LWx G l pP sS mI ar9 cD adr b L xs dd lad) {x : Nat} {n9 : Int32} {a9 : Nat} {b9 : Nat} {lv : List (Nat × Value)} {k9 : Nat} (h9 : lv[k9]? = some (9, .int (nI a9))) (hd9 : a9 < 10) {k10 : Nat} (h10 : lv[k10]? = some (10, .int (nI b9))) (hd10 : b9 < 10) {k12 : Nat} (h12 : lv[k12]? = some (12, .int (nI ((b9 + 2) % 6)))) (hd12 : (b9 + 2) % 6 < 10) {τ : FWd} {cells slots : Nat} {H : Heap} {locs : List Loc} {ls : Array Slot} (hc : cells ≤ 600000) (hs : slots ≤ 7000000) (hR : fR G τ H) (hS : va_S (fwA G) sS.heap H locs) (hl : lv_has ls 14 lv)
    (kk : ∀ (τ2 : FWd) (r : Nat) (H : Heap) (locs : List Loc), τ.1 ≤ r → (∀ q9, q9 < τ.1 → τ2.2 q9 = τ.2 q9) → TxB G τ2.2 τ.1 r [nI (48 + b9), 42, nI (48 + a9), 43, 32, nI (48 + (b9 + 2) % 6), 42, 52, 47, 32, nI (48 + b9), 42, 49, 63] → fR G τ2 H → va_S (fwA G) sS.heap H locs → W pP l eE room_1 sS mI ar9 bl9 meth cD H locs (cells + 4) (slots + 1024) Q (F0 mI 1141 ls (.ref r :: [.int n9, .ref x]))) : W pP l eE room_1 sS mI ar9 bl9 meth cD H locs cells slots Q (F0 mI 1091 ls [.int n9, .ref x]) := by
  obtain ⟨hx, hb, hml, hown, hts, hW, hL, hX0, hN, hFT, hJ, hD, hLT, hX, hbl, hbA, hL9⟩ := id C
  have hK := hL.K hW
  obtain ⟨q, hq0⟩ : ∃ z9 : Nat, z9 = τ.1 := ⟨_, rfl⟩
  have hin4 : ∀ w ∈ u_ws RJ4 TJ4 4, w ∈ wsL_law := in4
  have hR : fR G (q, τ.2) H := by rw [hq0]; exact hR
  refine fw_new (C := RJ4) (T := TJ4) (N := 4) (ci := 1) hx hb hts hin4 tyJ4 tyJ4_ok hown (hts (.classLink RL 131 RJ4) (by decide +kernel)) (hts (.instantiable RJ4 4) (by decide +kernel)) (hts (.initialized RJ4) (by decide +kernel)) hK hR hS rfl (n := q) rfl (fs := [.null, .int 0, .int 0, .int 0]) (fun j hj => by rcases (show j = 0 ∨ j = 1 ∨ j = 2 ∨ j = 3 by omega) with rfl | rfl | rfl | rfl <;> rfl) (by show cells + 1 ≤ 677820; omega) (by show slots + 4 ≤ 7068237; omega) dL_law_1091 (fun H hR hS => ?_)
  refine W.widen (k := cells + 1) (n := slots + 4) (by omega) (by omega) ?_
  obtain ⟨σ1, hs1⟩ : ∃ z9 : Nat → Option va_E, z9 = va_up τ.2 q (some (.inr (1, [.null, .int 0, .int 0, .int 0]))) := ⟨_, rfl⟩
  have hR : fR G (q + 1, σ1) H := by rw [hs1]; exact hR
  have e1 : σ1 q = some (.inr (1, [.null, .int 0, .int 0, .int 0])) := by rw [hs1]; exact va_up_at
  have f1 : ∀ q9, q9 < q → σ1 q9 = τ.2 q9 := fun q9 hq => by rw [hs1]; exact va_up_off (by omega)
  clear hs1
  refine lv_dup hx hb dL_law_1094 rfl ?_
  refine fw_call (va_runI (As := []) (b := q) (rest := [.ref q, .int n9, .ref x]) ⟨hx, hb, hml, hown, hts⟩ (c_J4_init_da8c8 G hL l (q + 1, σ1) hJ q (q + 1) rfl e1 (by omega)) (cwI 0 hts gL_law_J4_init_da8c8 rfl rfl rfl (hts (.initialized yJ4_init_da8c8.cls) (by decide +kernel)) (hts (.methodLink RL 133 yJ4_init_da8c8) (by decide +kernel)) (hts (.instanceMethod yJ4_init_da8c8) (by decide +kernel)) rfl (by decide +kernel) ⟨Nat.le_of_ble_eq_true rfl, Nat.le_of_ble_eq_true rfl⟩) (fw_preI hW hR) rfl rfl hl.1 rfl (lv_room (Nat.le_of_ble_eq_true rfl)) dL_law_1095 ⟨by show cells + 1 + 1 ≤ 677820; omega, by show slots + 4 + 16 ≤ 7068237; omega⟩) hS (fun v_1 τ_1 H locs hq_1 hR hS => ?_)
  refine W.widen (k := cells + 2) (n := slots + 20) (by omega) (by omega) ?_
  obtain ⟨rfl, gz, gq, gv, gf⟩ := hq_1
  have gf : ∀ q9, q9 < q → τ_1.2 q9 = τ.2 q9 := fun q9 h => (gf q9 (by omega) (by omega)).trans (f1 q9 h)
  have hac : Asc [] := asc_nil
  have gq : τ_1.2 q = some (.inr (1, [.ref (q + 1), .int 0, .int 0, .int (nI 0)])) := gq
  have gv : τ_1.2 (q + 1) = some (.inl (G.2.1 2, 16, .inl (fun i => ([] : List Int32).getD i 0))) := by rw [show (fun i => ([] : List Int32).getD i 0) = (fun _ => 0) from funext (fun i => by simp)]; exact gv
  refine W.eq (g2 := F0 mI 1098 ls [.ref q, .int n9, .ref x]) rfl ?_
  refine lv_iload hx hb dL_law_1098 (lv_at hl k10 h10) ?_
  refine fw_call (va_runV (As := [.int (nI b9)]) (rest := [.int n9, .ref x]) ⟨hx, hb, hml, hown, hts⟩ (c_J4_append_bf812 G hL l τ_1 hJ dd hD b9 q (q + 1) 16 0 ([] : List Int32) hd10 gq gv (by omega) rfl (by decide) (by decide)) (cwV 1 hts gL_law_J4_append_bf812 rfl rfl rfl (by decide +kernel) ⟨Nat.le_of_ble_eq_true rfl, Nat.le_of_ble_eq_true rfl⟩) (fw_preV hW hK hR gq rfl) rfl rfl hl.1 rfl (lv_room (Nat.le_of_ble_eq_true rfl)) dL_law_1100 ⟨by show cells + 2 + 0 ≤ 677820; omega, by show slots + 20 + 0 ≤ 7068237; omega⟩) hS (fun v_2 τ_2 H locs hq_2 hR hS => ?_)
  refine W.widen (k := cells + 2) (n := slots + 20) (by omega) (by omega) ?_
  obtain ⟨rfl, gz9, gq, gv, gf9⟩ := hq_2
  have gz := gz9.trans gz
  have gf : ∀ q9, q9 < q → τ_2.2 q9 = τ.2 q9 := fun q9 h => (gf9 q9 (by omega) (by omega)).trans (gf q9 h)
  have hac : Asc (([] : List Int32) ++ [nI (48 + b9)]) := asc_app hac (asc_dg hd10)
  have gq : τ_2.2 q = some (.inr (1, [.ref (q + 1), .int 0, .int 0, .int (nI 1)])) := gq
  refine W.eq (g2 := F0 mI 1103 ls [.ref q, .int n9, .ref x]) rfl ?_
  refine va_ldcS (own := RL) hx hb hown (vk_R.warm hW (hLT (201, "*", [42]) (by decide)).1) dL_law_1103 ?_
  have hlt9 : Asc [42] := asc_of (by decide)
  refine fw_call (va_runV (As := [.ref (lad 201)]) (rest := [.int n9, .ref x]) ⟨hx, hb, hml, hown, hts⟩ (c_J4_append_15ec4A G hL l τ_2 hJ q (q + 1) 16 1 (([] : List Int32) ++ [nI (48 + b9)]) gq gv (by omega) rfl (by decide) (lad 201) [42] (hLT (201, "*", [42]) (by decide)).2 (by decide) (by decide) hlt9) (cwV 1 hts gL_law_J4_append_15ec4 rfl rfl rfl (by decide +kernel) ⟨Nat.le_of_ble_eq_true rfl, Nat.le_of_ble_eq_true rfl⟩) (fw_preV hW hK hR gq rfl) rfl rfl hl.1 rfl (lv_room (Nat.le_of_ble_eq_true rfl)) dL_law_1105 ⟨by show cells + 2 + 0 ≤ 677820; omega, by show slots + 20 + 0 ≤ 7068237; omega⟩) hS (fun v_3 τ_3 H locs hq_3 hR hS => ?_)
  refine W.widen (k := cells + 2) (n := slots + 20) (by omega) (by omega) ?_
  obtain ⟨rfl, gz9, gq, gv, gf9⟩ := hq_3
  have gz := gz9.trans gz
  have gf : ∀ q9, q9 < q → τ_3.2 q9 = τ.2 q9 := fun q9 h => (gf9 q9 (by omega) (by omega)).trans (gf q9 h)
  have hac : Asc ((([] : List Int32) ++ [nI (48 + b9)]) ++ [42]) := asc_app hac hlt9
  have gq : τ_3.2 q = some (.inr (1, [.ref (q + 1), .int 0, .int 0, .int (nI 2)])) := gq
  refine W.eq (g2 := F0 mI 1108 ls [.ref q, .int n9, .ref x]) rfl ?_
  refine lv_iload hx hb dL_law_1108 (lv_at hl k9 h9) ?_
  refine fw_call (va_runV (As := [.int (nI a9)]) (rest := [.int n9, .ref x]) ⟨hx, hb, hml, hown, hts⟩ (c_J4_append_bf812 G hL l τ_3 hJ dd hD a9 q (q + 1) 16 2 ((([] : List Int32) ++ [nI (48 + b9)]) ++ [42]) hd9 gq gv (by omega) rfl (by decide) (by decide)) (cwV 1 hts gL_law_J4_append_bf812 rfl rfl rfl (by decide +kernel) ⟨Nat.le_of_ble_eq_true rfl, Nat.le_of_ble_eq_true rfl⟩) (fw_preV hW hK hR gq rfl) rfl rfl hl.1 rfl (lv_room (Nat.le_of_ble_eq_true rfl)) dL_law_1110 ⟨by show cells + 2 + 0 ≤ 677820; omega, by show slots + 20 + 0 ≤ 7068237; omega⟩) hS (fun v_4 τ_4 H locs hq_4 hR hS => ?_)
  refine W.widen (k := cells + 2) (n := slots + 20) (by omega) (by omega) ?_
  obtain ⟨rfl, gz9, gq, gv, gf9⟩ := hq_4
  have gz := gz9.trans gz
  have gf : ∀ q9, q9 < q → τ_4.2 q9 = τ.2 q9 := fun q9 h => (gf9 q9 (by omega) (by omega)).trans (gf q9 h)
  have hac : Asc (((([] : List Int32) ++ [nI (48 + b9)]) ++ [42]) ++ [nI (48 + a9)]) := asc_app hac (asc_dg hd9)
  have gq : τ_4.2 q = some (.inr (1, [.ref (q + 1), .int 0, .int 0, .int (nI 3)])) := gq
  refine W.eq (g2 := F0 mI 1113 ls [.ref q, .int n9, .ref x]) rfl ?_
  refine va_ldcS (own := RL) hx hb hown (vk_R.warm hW (hLT (212, "+ ", [43, 32]) (by decide)).1) dL_law_1113 ?_
  have hlt9 : Asc [43, 32] := asc_of (by decide)
  refine fw_call (va_runV (As := [.ref (lad 212)]) (rest := [.int n9, .ref x]) ⟨hx, hb, hml, hown, hts⟩ (c_J4_append_15ec4A G hL l τ_4 hJ q (q + 1) 16 3 (((([] : List Int32) ++ [nI (48 + b9)]) ++ [42]) ++ [nI (48 + a9)]) gq gv (by omega) rfl (by decide) (lad 212) [43, 32] (hLT (212, "+ ", [43, 32]) (by decide)).2 (by decide) (by decide) hlt9) (cwV 1 hts gL_law_J4_append_15ec4 rfl rfl rfl (by decide +kernel) ⟨Nat.le_of_ble_eq_true rfl, Nat.le_of_ble_eq_true rfl⟩) (fw_preV hW hK hR gq rfl) rfl rfl hl.1 rfl (lv_room (Nat.le_of_ble_eq_true rfl)) dL_law_1115 ⟨by show cells + 2 + 0 ≤ 677820; omega, by show slots + 20 + 0 ≤ 7068237; omega⟩) hS (fun v_5 τ_5 H locs hq_5 hR hS => ?_)
  refine W.widen (k := cells + 2) (n := slots + 20) (by omega) (by omega) ?_
  obtain ⟨rfl, gz9, gq, gv, gf9⟩ := hq_5
  have gz := gz9.trans gz
  have gf : ∀ q9, q9 < q → τ_5.2 q9 = τ.2 q9 := fun q9 h => (gf9 q9 (by omega) (by omega)).trans (gf q9 h)
  have hac : Asc ((((([] : List Int32) ++ [nI (48 + b9)]) ++ [42]) ++ [nI (48 + a9)]) ++ [43, 32]) := asc_app hac hlt9
  have gq : τ_5.2 q = some (.inr (1, [.ref (q + 1), .int 0, .int 0, .int (nI 5)])) := gq
  refine W.eq (g2 := F0 mI 1118 ls [.ref q, .int n9, .ref x]) rfl ?_
  refine lv_iload hx hb dL_law_1118 (lv_at hl k12 h12) ?_
  refine fw_call (va_runV (As := [.int (nI ((b9 + 2) % 6))]) (rest := [.int n9, .ref x]) ⟨hx, hb, hml, hown, hts⟩ (c_J4_append_bf812 G hL l τ_5 hJ dd hD ((b9 + 2) % 6) q (q + 1) 16 5 ((((([] : List Int32) ++ [nI (48 + b9)]) ++ [42]) ++ [nI (48 + a9)]) ++ [43, 32]) hd12 gq gv (by omega) rfl (by decide) (by decide)) (cwV 1 hts gL_law_J4_append_bf812 rfl rfl rfl (by decide +kernel) ⟨Nat.le_of_ble_eq_true rfl, Nat.le_of_ble_eq_true rfl⟩) (fw_preV hW hK hR gq rfl) rfl rfl hl.1 rfl (lv_room (Nat.le_of_ble_eq_true rfl)) dL_law_1120 ⟨by show cells + 2 + 0 ≤ 677820; omega, by show slots + 20 + 0 ≤ 7068237; omega⟩) hS (fun v_6 τ_6 H locs hq_6 hR hS => ?_)
  refine W.widen (k := cells + 2) (n := slots + 20) (by omega) (by omega) ?_
  obtain ⟨rfl, gz9, gq, gv, gf9⟩ := hq_6
  have gz := gz9.trans gz
  have gf : ∀ q9, q9 < q → τ_6.2 q9 = τ.2 q9 := fun q9 h => (gf9 q9 (by omega) (by omega)).trans (gf q9 h)
  have hac : Asc (((((([] : List Int32) ++ [nI (48 + b9)]) ++ [42]) ++ [nI (48 + a9)]) ++ [43, 32]) ++ [nI (48 + (b9 + 2) % 6)]) := asc_app hac (asc_dg hd12)
  have gq : τ_6.2 q = some (.inr (1, [.ref (q + 1), .int 0, .int 0, .int (nI 6)])) := gq
  refine W.eq (g2 := F0 mI 1123 ls [.ref q, .int n9, .ref x]) rfl ?_
  refine va_ldcS (own := RL) hx hb hown (vk_R.warm hW (hLT (247, "*4/ ", [42, 52, 47, 32]) (by decide)).1) dL_law_1123 ?_
  have hlt9 : Asc [42, 52, 47, 32] := asc_of (by decide)
  refine fw_call (va_runV (As := [.ref (lad 247)]) (rest := [.int n9, .ref x]) ⟨hx, hb, hml, hown, hts⟩ (c_J4_append_15ec4A G hL l τ_6 hJ q (q + 1) 16 6 (((((([] : List Int32) ++ [nI (48 + b9)]) ++ [42]) ++ [nI (48 + a9)]) ++ [43, 32]) ++ [nI (48 + (b9 + 2) % 6)]) gq gv (by omega) rfl (by decide) (lad 247) [42, 52, 47, 32] (hLT (247, "*4/ ", [42, 52, 47, 32]) (by decide)).2 (by decide) (by decide) hlt9) (cwV 1 hts gL_law_J4_append_15ec4 rfl rfl rfl (by decide +kernel) ⟨Nat.le_of_ble_eq_true rfl, Nat.le_of_ble_eq_true rfl⟩) (fw_preV hW hK hR gq rfl) rfl rfl hl.1 rfl (lv_room (Nat.le_of_ble_eq_true rfl)) dL_law_1125 ⟨by show cells + 2 + 0 ≤ 677820; omega, by show slots + 20 + 0 ≤ 7068237; omega⟩) hS (fun v_7 τ_7 H locs hq_7 hR hS => ?_)
  refine W.widen (k := cells + 2) (n := slots + 20) (by omega) (by omega) ?_
  obtain ⟨rfl, gz9, gq, gv, gf9⟩ := hq_7
  have gz := gz9.trans gz
  have gf : ∀ q9, q9 < q → τ_7.2 q9 = τ.2 q9 := fun q9 h => (gf9 q9 (by omega) (by omega)).trans (gf q9 h)
  have hac : Asc ((((((([] : List Int32) ++ [nI (48 + b9)]) ++ [42]) ++ [nI (48 + a9)]) ++ [43, 32]) ++ [nI (48 + (b9 + 2) % 6)]) ++ [42, 52, 47, 32]) := asc_app hac hlt9
  have gq : τ_7.2 q = some (.inr (1, [.ref (q + 1), .int 0, .int 0, .int (nI 10)])) := gq
  refine W.eq (g2 := F0 mI 1128 ls [.ref q, .int n9, .ref x]) rfl ?_
  refine lv_iload hx hb dL_law_1128 (lv_at hl k10 h10) ?_
  refine fw_call (va_runV (As := [.int (nI b9)]) (rest := [.int n9, .ref x]) ⟨hx, hb, hml, hown, hts⟩ (c_J4_append_bf812 G hL l τ_7 hJ dd hD b9 q (q + 1) 16 10 ((((((([] : List Int32) ++ [nI (48 + b9)]) ++ [42]) ++ [nI (48 + a9)]) ++ [43, 32]) ++ [nI (48 + (b9 + 2) % 6)]) ++ [42, 52, 47, 32]) hd10 gq gv (by omega) rfl (by decide) (by decide)) (cwV 1 hts gL_law_J4_append_bf812 rfl rfl rfl (by decide +kernel) ⟨Nat.le_of_ble_eq_true rfl, Nat.le_of_ble_eq_true rfl⟩) (fw_preV hW hK hR gq rfl) rfl rfl hl.1 rfl (lv_room (Nat.le_of_ble_eq_true rfl)) dL_law_1130 ⟨by show cells + 2 + 0 ≤ 677820; omega, by show slots + 20 + 0 ≤ 7068237; omega⟩) hS (fun v_8 τ_8 H locs hq_8 hR hS => ?_)
  refine W.widen (k := cells + 2) (n := slots + 20) (by omega) (by omega) ?_
  obtain ⟨rfl, gz9, gq, gv, gf9⟩ := hq_8
  have gz := gz9.trans gz
  have gf : ∀ q9, q9 < q → τ_8.2 q9 = τ.2 q9 := fun q9 h => (gf9 q9 (by omega) (by omega)).trans (gf q9 h)
  have hac : Asc (((((((([] : List Int32) ++ [nI (48 + b9)]) ++ [42]) ++ [nI (48 + a9)]) ++ [43, 32]) ++ [nI (48 + (b9 + 2) % 6)]) ++ [42, 52, 47, 32]) ++ [nI (48 + b9)]) := asc_app hac (asc_dg hd10)
  have gq : τ_8.2 q = some (.inr (1, [.ref (q + 1), .int 0, .int 0, .int (nI 11)])) := gq
  refine W.eq (g2 := F0 mI 1133 ls [.ref q, .int n9, .ref x]) rfl ?_
  refine va_ldcS (own := RL) hx hb hown (vk_R.warm hW (hLT (249, "*1?", [42, 49, 63]) (by decide)).1) dL_law_1133 ?_
  have hlt9 : Asc [42, 49, 63] := asc_of (by decide)
  refine fw_call (va_runV (As := [.ref (lad 249)]) (rest := [.int n9, .ref x]) ⟨hx, hb, hml, hown, hts⟩ (c_J4_append_15ec4A G hL l τ_8 hJ q (q + 1) 16 11 (((((((([] : List Int32) ++ [nI (48 + b9)]) ++ [42]) ++ [nI (48 + a9)]) ++ [43, 32]) ++ [nI (48 + (b9 + 2) % 6)]) ++ [42, 52, 47, 32]) ++ [nI (48 + b9)]) gq gv (by omega) rfl (by decide) (lad 249) [42, 49, 63] (hLT (249, "*1?", [42, 49, 63]) (by decide)).2 (by decide) (by decide) hlt9) (cwV 1 hts gL_law_J4_append_15ec4 rfl rfl rfl (by decide +kernel) ⟨Nat.le_of_ble_eq_true rfl, Nat.le_of_ble_eq_true rfl⟩) (fw_preV hW hK hR gq rfl) rfl rfl hl.1 rfl (lv_room (Nat.le_of_ble_eq_true rfl)) dL_law_1135 ⟨by show cells + 2 + 0 ≤ 677820; omega, by show slots + 20 + 0 ≤ 7068237; omega⟩) hS (fun v_9 τ_9 H locs hq_9 hR hS => ?_)
  refine W.widen (k := cells + 2) (n := slots + 20) (by omega) (by omega) ?_
  obtain ⟨rfl, gz9, gq, gv, gf9⟩ := hq_9
  have gz := gz9.trans gz
  have gf : ∀ q9, q9 < q → τ_9.2 q9 = τ.2 q9 := fun q9 h => (gf9 q9 (by omega) (by omega)).trans (gf q9 h)
  have hac : Asc ((((((((([] : List Int32) ++ [nI (48 + b9)]) ++ [42]) ++ [nI (48 + a9)]) ++ [43, 32]) ++ [nI (48 + (b9 + 2) % 6)]) ++ [42, 52, 47, 32]) ++ [nI (48 + b9)]) ++ [42, 49, 63]) := asc_app hac hlt9
  have gq : τ_9.2 q = some (.inr (1, [.ref (q + 1), .int 0, .int 0, .int (nI 14)])) := gq
  refine W.eq (g2 := F0 mI 1138 ls [.ref q, .int n9, .ref x]) rfl ?_
  refine fw_call (va_runV (As := []) (rest := [.int n9, .ref x]) ⟨hx, hb, hml, hown, hts⟩ (c_J4_toString_0e30d G hL l τ_9 hJ q (q + 1) (q + 1 + 1) 16 14 ((((((((([] : List Int32) ++ [nI (48 + b9)]) ++ [42]) ++ [nI (48 + a9)]) ++ [43, 32]) ++ [nI (48 + (b9 + 2) % 6)]) ++ [42, 52, 47, 32]) ++ [nI (48 + b9)]) ++ [42, 49, 63]) gz gq gv rfl hac (by omega) (by omega) (by decide) (by decide)) (cwV 0 hts gL_law_J4_toString_0e30d rfl rfl rfl (by decide +kernel) ⟨Nat.le_of_ble_eq_true rfl, Nat.le_of_ble_eq_true rfl⟩) (fw_preV hW hK hR gq rfl) rfl rfl hl.1 rfl (lv_room (Nat.le_of_ble_eq_true rfl)) dL_law_1138 ⟨by show cells + 2 + 2 ≤ 677820; omega, by show slots + 20 + 1004 ≤ 7068237; omega⟩) hS (fun v_10 τ_10 H locs hq_10 hR hS => ?_)
  refine W.widen (k := cells + 4) (n := slots + 1024) (by omega) (by omega) ?_
  obtain ⟨rfl, gz, gq, gv, gf9⟩ := hq_10
  have gf : ∀ q9, q9 < q → τ_10.2 q9 = τ.2 q9 := fun q9 h => (gf9 q9 (by omega)).trans (gf q9 h)
  refine W.eq (g2 := F0 mI 1141 ls [.ref (q + 1 + 1), .int n9, .ref x]) rfl ?_
  exact kk τ_10 (q + 1 + 1) H locs (by omega) (by rw [hq0] at gf; exact gf) ⟨(q + 1 + 1) + 1, by omega, gq, gv⟩ hR hS
