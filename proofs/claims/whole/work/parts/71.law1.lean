/-! ===== the law: what its loop keeps, and the pieces that come again in each call ===== -/
abbrev LV (b x i : Nat) : List (Nat × Value) := [(0, .ref b), (1, .ref x), (2, .ref (x + 614)), (3, .ref (x + 623)), (4, .ref (x + 624)), (5, .int (nI i))]
/-- the class's object at x, the reference's behind it, the two rows of one number -/
def LI (G : FG) (ω : FWd) (x : Nat) : Prop := ∃ (s g hs sv ip lt : Nat → Int32) (f9 : Nat → Int64) (fd : Nat → UInt64), CInv G ω.2 x s g hs sv ip lt ∧ MInv G ω.2 (x + 614) s g hs sv ip lt ∧ ω.2 (x + 623) = some (.inl (G.2.1 2, 1, .inr (.inl f9))) ∧ ω.2 (x + 624) = some (.inl (G.2.1 3, 1, .inr (.inr (.inr (.inl fd)))))
/-- what holds all along the law -/
def LCx (G : FG) (l : Launch) (p : Program) (s : State) (m : MethodId) (args : Array Value) (c : Code) (adr : Nat → Nat) (b L : Nat) (xs : Nat → Int32) : Prop :=
  p.tables.exec = Jvm.exec ∧ c.code = cL_law ∧ c.maxLocals = 9 ∧ s.vm.findClass RL = some m.cls ∧ (∀ w ∈ wsL_law, w.before args s = true) ∧ G.2.2.WarmedH s.vm ∧ FL G ∧ FX0 G l ∧ (∀ q ∈ xnP, va_Nc q.1 q.2 G.2.2) ∧ FTx G adr ∧ FJ G ∧ va_X b L xs s s.heap ∧ b < s.heap.size ∧ ¬ fwA G b
theorem li_f {G : FG} {σ : Nat → Option va_E} {x : Nat} {s g hs sv ip lt : Nat → Int32} (h : CInv G σ x s g hs sv ip lt) : WFG g ∧ okN (s 3) 8 ∧ okN (s 7) 60 ∧ okN (s 13) 60 ∧ (∀ i, i < 60 → narrow .char (.int (lt i)) = .int (lt i)) ∧ ∃ v, Tell v (gV g) := by
  obtain ⟨-, ⟨v, -, hte, hwf⟩, -, ⟨R, p, ct, -, -, hc, h3, -⟩, -, ⟨f, tl, tp, cn, -, h7, hE⟩, -, ⟨⟨L9, hLn, h13, -⟩, hlt⟩, -⟩ := h
  exact ⟨hwf, okN_mk h3 hc (by decide), okN_mk h7 hE.2.2 (by decide), okN_mk h13 (Nat.le_trans hLn.2.2 (by decide)) (by decide), hlt, v, hte⟩
theorem f2d_same : ∀ a : Nat, a < 73 → ∀ b : Nat, b < 65 → ¬ b = 0 → Op.cmpValue (FP.dcmp (FP.f2d (FP.fdiv (FP.i2f (nI a)) (FP.i2f (nI b)))) (FP.f2d (FP.fdiv (FP.i2f (nI a)) (FP.i2f (nI b))))) .l = 0 := by decide +kernel
section LWZ
variable {p : Program} {l : Launch} {e : Env} {R : Room} {s : State} {m : MethodId} {args : Array Value} {below : List Frame} {meth : Method} {c : Code} {H : Heap} {locs : List Loc} {cells slots : Nat} {Q : State → Prop}
variable {cc : ByteArray} {pc : Nat} {ls : Array Slot} {rest : List Value}
theorem fw_dald {G : FG} {ω : FWd} {a : Nat} (hexec : p.tables.exec = Jvm.exec) (hb : c.code = cc) (hK : va_K G.1 vwCl (fwT G) s) (hR : fR G ω H) {n : Nat} {f : Nat → UInt64} (he : ω.2 a = some (.inl (G.2.1 3, n, .inr (.inr (.inr (.inl f)))))) {i : Int32} (hin : vp_in i n) (hdg : decode cc pc = .ok (.daload, 1))
    (kk : W p l e R s m args below meth c H locs cells slots Q (F0 m (pc + 1) ls (.double (f i.toNatClampNeg) :: rest))) : W p l e R s m args below meth c H locs cells slots Q (F0 m pc ls (.int i :: .ref a :: rest)) :=
  va_dald hexec hb hK (hR.at1 he) 0 3 rfl rfl hin hdg kk
/-- x != 0 -/
theorem lz_bool (hx : p.tables.exec = Jvm.exec) (hb : c.code = cc) {x : Int32} (d0 : decode cc pc = .ok (.ifCond .eq 7, 3)) (d3 : decode cc (pc + 3) = .ok (.iconst 1, 1)) (d4 : decode cc (pc + 4) = .ok (.goto 4, 3)) (d7 : decode cc (pc + 7) = .ok (.iconst 0, 1))
    (k : W p l e R s m args below meth c H locs cells slots Q (F0 m (pc + 8) ls (.int (if x = 0 then 0 else 1) :: rest))) : W p l e R s m args below meth c H locs cells slots Q (F0 m pc ls (.int x :: rest)) := by
  refine lv_if_eq (tgt := pc + 7) hx hb d0 (by omega) (fun h => ?_) (fun h => ?_)
  · rw [if_pos h] at k
    exact lv_iconst (v := 0) hx hb d7 (by decide) k
  · rw [if_neg h] at k
    exact lv_iconst (v := 1) hx hb d3 (by decide) (lv_goto (tgt := pc + 8) hx hb d4 (by omega) k)
/-- b ? 1L : 0L -/
theorem lz_boolL (hx : p.tables.exec = Jvm.exec) (hb : c.code = cc) {x : Int32} (d0 : decode cc pc = .ok (.ifCond .eq 7, 3)) (d3 : decode cc (pc + 3) = .ok (.lconst 1, 1)) (d4 : decode cc (pc + 4) = .ok (.goto 4, 3)) (d7 : decode cc (pc + 7) = .ok (.lconst 0, 1))
    (k : W p l e R s m args below meth c H locs cells slots Q (F0 m (pc + 8) ls (.long (if x = 0 then 0 else 1) :: rest))) : W p l e R s m args below meth c H locs cells slots Q (F0 m pc ls (.int x :: rest)) := by
  refine lv_if_eq (tgt := pc + 7) hx hb d0 (by omega) (fun h => ?_) (fun h => ?_)
  · rw [if_pos h] at k
    exact lv_lconst (v := 0) hx hb d7 (by decide) k
  · rw [if_neg h] at k
    exact lv_lconst (v := 1) hx hb d3 (by decide) (lv_goto (tgt := pc + 8) hx hb d4 (by omega) k)
end LWZ
section LWY
variable {G : FG} {l : Launch} {pP : Program} {eE : Env} {sS : State} {mI : MethodId} {ar9 : Array Value} {bl9 : List Frame} {meth : Method} {cD : Code} {adr : Nat → Nat} {b L : Nat} {xs : Nat → Int32} {Q : State → Prop} {x i cells slots : Nat} {H : Heap} {locs : List Loc} {ls : Array Slot} {pc : Nat} {rest : List Value}
theorem lw_arg (C : LCx G l pP sS mI ar9 cD adr b L xs) {lv : List (Nat × Value)} (hl : lv_has ls 9 lv) {k0 k5 n : Nat} {z : Int} (h0 : lv[k0]? = some (0, .ref b)) (h5 : lv[k5]? = some (5, .int (nI i))) (hn : n < 6) (hz : Int32.ofInt z = nI n) (hi : i + 6 ≤ L) (hL3 : L ≤ 3072) (hS : va_S (fwA G) sS.heap H locs)
    (d0 : decode cL_law pc = .ok (.aload_n 0, 1)) (d1 : decode cL_law (pc + 1) = .ok (.iload 5, 2)) (d3 : decode cL_law (pc + 3) = .ok (.iconst z, 1)) (d4 : decode cL_law (pc + 4) = .ok (.iadd, 1)) (d5 : decode cL_law (pc + 5) = .ok (.iaload, 1))
    (kk : W pP l eE room_1 sS mI ar9 bl9 meth cD H locs cells slots Q (F0 mI (pc + 6) ls (.int (xs (i + n)) :: rest))) : W pP l eE room_1 sS mI ar9 bl9 meth cD H locs cells slots Q (F0 mI pc ls rest) := by
  obtain ⟨hx, hb, hml, hown, hts, hW, hL, hX0, hN, hFT, hJ, hX, hbl, hbA⟩ := C
  refine lv_aload_n hx hb d0 rfl (lv_at hl k0 h0) ?_
  refine lv_iload hx hb d1 (lv_at hl k5 h5) ?_
  refine lv_iconst (v := nI n) hx hb d3 hz ?_
  refine lv_iadd hx hb d4 ?_
  refine W.eq (g2 := F0 mI (pc + 5) ls (.int (nI (i + n)) :: .ref b :: rest)) (by rw [nI_add]) ?_
  exact va_sld hx hb hX hbl hbA hS (vp_in_nI (by omega) (by omega)) d5 (by rw [nI_clamp (by omega)]; exact kk)
theorem lw_tail (C : LCx G l pP sS mI ar9 cD adr b L xs) {off : Int} {τ : FWd} {k B : Int32} {s g hs sv ip lt bf nd td : Nat → Int32} {f9 : Nat → Int64} {fd : Nat → UInt64} (hk : k = s 14) (hB : k = 0 → f9 0 = B.toInt64) (hM : MAt G τ.2 (x + 614) s g bf hs sv ip lt nd td) (hC : CInv G τ.2 x s g hs sv ip lt) (ho : τ.2 (x + 623) = some (.inl (G.2.1 2, 1, .inr (.inl f9)))) (hd : τ.2 (x + 624) = some (.inl (G.2.1 3, 1, .inr (.inr (.inr (.inl fd))))))
    (hR : fR G τ H) (hS : va_S (fwA G) sS.heap H locs) (hl : lv_has ls 9 ((7, .int B) :: (6, .int k) :: LV b x i)) (hcl : cells ≤ 603072) (hsl : slots ≤ 7198826)
    (d0 : decode cL_law pc = .ok (.aload_n 2, 1)) (d1 : decode cL_law (pc + 1) = .ok (.invokevirtual 155, 3)) (d4 : decode cL_law (pc + 4) = .ok (.iload 6, 2)) (d6 : decode cL_law (pc + 6) = .ok (.if_icmp .eq 5, 3)) (d11 : decode cL_law (pc + 11) = .ok (.iload 6, 2)) (d13 : decode cL_law (pc + 13) = .ok (.ifCond .ne 15, 3)) (d16 : decode cL_law (pc + 16) = .ok (.aload_n 3, 1)) (d17 : decode cL_law (pc + 17) = .ok (.iconst 0, 1)) (d18 : decode cL_law (pc + 18) = .ok (.laload, 1)) (d19 : decode cL_law (pc + 19) = .ok (.iload 7, 2)) (d21 : decode cL_law (pc + 21) = .ok (.i2l, 1)) (d22 : decode cL_law (pc + 22) = .ok (.lcmp, 1)) (d23 : decode cL_law (pc + 23) = .ok (.ifCond .eq 5, 3)) (d28 : decode cL_law (pc + 28) = .ok (.goto off, 3)) (ht : ((pc + 28 : Nat) : Int) + off = ((2711 : Nat) : Int))
    (kk : ∀ (H : Heap) (locs : List Loc) (ls : Array Slot), LI G τ x → fR G τ H → va_S (fwA G) sS.heap H locs → lv_has ls 9 (LV b x i) → W pP l eE room_1 sS mI ar9 bl9 meth cD H locs cells slots Q (F0 mI 2711 ls [])) : W pP l eE room_1 sS mI ar9 bl9 meth cD H locs cells slots Q (F0 mI pc ls []) := by
  obtain ⟨hx, hb, hml, hown, hts, hW, hL, hX0, hN, hFT, hJ, hX, hbl, hbA⟩ := C
  have hK := hL.K hW
  refine lv_aload_n hx hb d0 rfl (lv_at hl 4 rfl) ?_
  refine fw_call (va_runV (As := []) (rest := []) ⟨hx, hb, hml, hown, hts⟩ (c_X11_thrown G hL l τ (x + 614) s g hM.1 hM.2.1) (cwV 0 hts gL_law_X11_thrown rfl rfl rfl (by decide +kernel) ⟨Nat.le_of_ble_eq_true rfl, Nat.le_of_ble_eq_true rfl⟩) (fw_preV hW hK hR hM.1 rfl) rfl rfl hl.1 rfl (lv_room (Nat.le_of_ble_eq_true rfl)) d1 ⟨by show cells + 0 ≤ 603072; omega, by show slots + 0 ≤ 7198826; omega⟩) hS (fun v τ2 H locs hq hR hS => ?_)
  obtain ⟨rfl, e9⟩ := hq
  rw [e9] at hR
  refine W.eq (g2 := F0 mI (pc + 4) ls [.int (s 14)]) rfl ?_
  refine lv_iload hx hb d4 (lv_at hl 1 rfl) ?_
  refine lv_icmp_eq (tgt := pc + 11) hx hb d6 (by omega) (fun _ => ?_) (fun c1 => absurd hk.symm c1)
  have fin : W pP l eE room_1 sS mI ar9 bl9 meth cD H locs cells slots Q (F0 mI (pc + 28) ls []) := lv_goto (tgt := 2711) hx hb d28 ht (kk H locs ls ⟨_, _, _, _, _, _, f9, fd, hC, ⟨bf, nd, td, hM⟩, ho, hd⟩ hR hS (lv_sub hl [2, 3, 4, 5, 6, 7] rfl))
  refine lv_iload hx hb d11 (lv_at hl 1 rfl) ?_
  refine lv_if_ne (tgt := pc + 28) hx hb d13 (by omega) (fun _ => fin) (fun c2 => ?_)
  refine lv_aload_n hx hb d16 rfl (lv_at hl 5 rfl) ?_
  refine lv_iconst (v := 0) hx hb d17 (by decide) ?_
  refine fw_lald hx hb hK hR ho (show vp_in 0 1 by unfold vp_in; decide) d18 ?_
  refine lv_iload hx hb d19 (lv_at hl 0 rfl) ?_
  refine lv_i2l hx hb d21 rfl ?_
  refine W.lcmp hx hb d22 ?_
  exact lv_if_eq (tgt := pc + 28) hx hb d23 (by omega) (fun _ => fin) (fun c3 => absurd ((lg_cmp_eq _ _).mpr (hB c2)) c3)
theorem lw_tailZ (C : LCx G l pP sS mI ar9 cD adr b L xs) {off : Int} {τ : FWd} {k B : Int32} {s g hs sv ip lt bf nd td : Nat → Int32} {f9 : Nat → Int64} {fd : Nat → UInt64} (hk : k = s 14) (hB : k = 0 → f9 0 = (if B = 0 then (0 : Int64) else 1)) (hM : MAt G τ.2 (x + 614) s g bf hs sv ip lt nd td) (hC : CInv G τ.2 x s g hs sv ip lt) (ho : τ.2 (x + 623) = some (.inl (G.2.1 2, 1, .inr (.inl f9)))) (hd : τ.2 (x + 624) = some (.inl (G.2.1 3, 1, .inr (.inr (.inr (.inl fd))))))
    (hR : fR G τ H) (hS : va_S (fwA G) sS.heap H locs) (hl : lv_has ls 9 ((7, .int B) :: (6, .int k) :: LV b x i)) (hcl : cells ≤ 603072) (hsl : slots ≤ 7198826)
    (d0 : decode cL_law pc = .ok (.aload_n 2, 1)) (d1 : decode cL_law (pc + 1) = .ok (.invokevirtual 155, 3)) (d4 : decode cL_law (pc + 4) = .ok (.iload 6, 2)) (d6 : decode cL_law (pc + 6) = .ok (.if_icmp .eq 5, 3)) (d11 : decode cL_law (pc + 11) = .ok (.iload 6, 2)) (d13 : decode cL_law (pc + 13) = .ok (.ifCond .ne 22, 3)) (d16 : decode cL_law (pc + 16) = .ok (.aload_n 3, 1)) (d17 : decode cL_law (pc + 17) = .ok (.iconst 0, 1)) (d18 : decode cL_law (pc + 18) = .ok (.laload, 1)) (d19 : decode cL_law (pc + 19) = .ok (.iload 7, 2)) (d21 : decode cL_law (pc + 21) = .ok (.ifCond .eq 7, 3)) (d24 : decode cL_law (pc + 21 + 3) = .ok (.lconst 1, 1)) (d25 : decode cL_law (pc + 21 + 4) = .ok (.goto 4, 3)) (d28 : decode cL_law (pc + 21 + 7) = .ok (.lconst 0, 1)) (d29 : decode cL_law (pc + 29) = .ok (.lcmp, 1)) (d30 : decode cL_law (pc + 30) = .ok (.ifCond .eq 5, 3)) (d35 : decode cL_law (pc + 35) = .ok (.goto off, 3)) (ht : ((pc + 35 : Nat) : Int) + off = ((2711 : Nat) : Int))
    (kk : ∀ (H : Heap) (locs : List Loc) (ls : Array Slot), LI G τ x → fR G τ H → va_S (fwA G) sS.heap H locs → lv_has ls 9 (LV b x i) → W pP l eE room_1 sS mI ar9 bl9 meth cD H locs cells slots Q (F0 mI 2711 ls [])) : W pP l eE room_1 sS mI ar9 bl9 meth cD H locs cells slots Q (F0 mI pc ls []) := by
  obtain ⟨hx, hb, hml, hown, hts, hW, hL, hX0, hN, hFT, hJ, hX, hbl, hbA⟩ := C
  have hK := hL.K hW
  refine lv_aload_n hx hb d0 rfl (lv_at hl 4 rfl) ?_
  refine fw_call (va_runV (As := []) (rest := []) ⟨hx, hb, hml, hown, hts⟩ (c_X11_thrown G hL l τ (x + 614) s g hM.1 hM.2.1) (cwV 0 hts gL_law_X11_thrown rfl rfl rfl (by decide +kernel) ⟨Nat.le_of_ble_eq_true rfl, Nat.le_of_ble_eq_true rfl⟩) (fw_preV hW hK hR hM.1 rfl) rfl rfl hl.1 rfl (lv_room (Nat.le_of_ble_eq_true rfl)) d1 ⟨by show cells + 0 ≤ 603072; omega, by show slots + 0 ≤ 7198826; omega⟩) hS (fun v τ2 H locs hq hR hS => ?_)
  obtain ⟨rfl, e9⟩ := hq
  rw [e9] at hR
  refine W.eq (g2 := F0 mI (pc + 4) ls [.int (s 14)]) rfl ?_
  refine lv_iload hx hb d4 (lv_at hl 1 rfl) ?_
  refine lv_icmp_eq (tgt := pc + 11) hx hb d6 (by omega) (fun _ => ?_) (fun c1 => absurd hk.symm c1)
  have fin : W pP l eE room_1 sS mI ar9 bl9 meth cD H locs cells slots Q (F0 mI (pc + 35) ls []) := lv_goto (tgt := 2711) hx hb d35 ht (kk H locs ls ⟨_, _, _, _, _, _, f9, fd, hC, ⟨bf, nd, td, hM⟩, ho, hd⟩ hR hS (lv_sub hl [2, 3, 4, 5, 6, 7] rfl))
  refine lv_iload hx hb d11 (lv_at hl 1 rfl) ?_
  refine lv_if_ne (tgt := pc + 35) hx hb d13 (by omega) (fun _ => fin) (fun c2 => ?_)
  refine lv_aload_n hx hb d16 rfl (lv_at hl 5 rfl) ?_
  refine lv_iconst (v := 0) hx hb d17 (by decide) ?_
  refine fw_lald hx hb hK hR ho (show vp_in 0 1 by unfold vp_in; decide) d18 ?_
  refine lv_iload hx hb d19 (lv_at hl 0 rfl) ?_
  refine lz_boolL hx hb d21 d24 d25 d28 ?_
  refine W.lcmp hx hb d29 ?_
  exact lv_if_eq (tgt := pc + 35) hx hb d30 (by omega) (fun _ => fin) (fun c3 => absurd ((lg_cmp_eq _ _).mpr (hB c2)) c3)
end LWY
