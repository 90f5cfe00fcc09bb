/-! ===== printed by program (wip/p44/lay_sb.py): the JDK's StringBuilder, Latin-1 ===== -/
section FWB
variable {G : FG} {p : Program} {l : Launch} {e : Env} {R : Room} {s : State} {m : MethodId} {args : Array Value} {below : List Frame} {meth : Method} {c : Code} {H : Heap} {locs : List Loc} {cells slots : Nat} {Q : State → Prop}
variable {cc : ByteArray} {pc : Nat} {ls : Array Slot} {rest : List Value} {a : Nat} {ω : FWd} {H0 : Heap}
theorem fw_newb (hexec : p.tables.exec = Jvm.exec) (hb : c.code = cc) (harr : (Cond.arrayClass .byte).before args s = true) (hK : va_K G.1 vwCl (fwT G) s) (hR : fR G ω H) (hS : va_S (fwA G) H0 H locs) {n : Nat} (hn : ω.1 = n) {v : Int32} {N : Nat} (hv : ¬ v < 0) (hN : v.toNatClampNeg = N) (hbytes : N * 1 ≤ 536870912) (hcells : cells + 1 ≤ R.cells) (hslots : slots + N ≤ R.slots) (hdg : decode cc pc = .ok (.newarray .byte, 2))
    (kk : ∀ (H1 : Heap), fR G (n + 1, va_up ω.2 n (some (.inl (G.2.1 2, N, .inl (fun _ => 0))))) H1 → va_S (fwA G) H0 H1 locs → W p l e R s m args below meth c H1 locs (cells + 1) (slots + N) Q (F0 m (pc + 2) ls (.ref n :: rest))) : W p l e R s m args below meth c H locs cells slots Q (F0 m pc ls (.int v :: rest)) := by
  subst hn
  refine va_newaK (atype := .byte) hexec hb harr rfl hdg rfl hv hN hbytes hcells hslots hR.1 fun H1 cA e1 z1 o1 hAr hNm => ?_
  have hcA : cA = G.2.1 2 := Option.some.inj (hNm.symm.trans (hK.2 2 _ rfl).2)
  subst hcA
  have z2 : H1.size = H.size + 1 := by rw [hR.1]; exact z1
  have o2 : ∀ q, q < H.size → H1[q]? = H[q]? := fun q hq => o1 q (by rw [← hR.1]; exact hq)
  exact kk H1 (hR.mk z2 o2 e1) (hS.grow z2 o2)
theorem fw_bast (hexec : p.tables.exec = Jvm.exec) (hb : c.code = cc) (hK : va_K G.1 vwCl (fwT G) s) (hR : fR G ω H) (hS : va_S (fwA G) H0 H locs) {n : Nat} {f : Nat → Int32} (he : ω.2 a = some (.inl (G.2.1 2, n, .inl f))) {i x : Int32} (hin : vp_in i n) (hdg : decode cc pc = .ok (.bastore, 1))
    (kk : ∀ (H1 : Heap) (locs1 : List Loc), fR G (ω.1, va_up ω.2 a (some (.inl (G.2.1 2, n, .inl (upd f i.toNatClampNeg (vp_nar .byte x)))))) H1 → va_S (fwA G) H0 H1 locs1 → W p l e R s m args below meth c H1 locs1 cells slots Q (F0 m (pc + 1) ls rest)) : W p l e R s m args below meth c H locs cells slots Q (F0 m pc ls (.int x :: .int i :: .ref a :: rest)) := by
  obtain ⟨h1, hga⟩ := hR.2.2 a _ he
  refine W.bast hexec hb h1 ((hK.2 2 _ rfl).1 n (fun j => .int (f j))) (fun q => by cases q) (by show ¬ (i < 0 ∨ (arrV _ _ _).slots.size ≤ _); rw [arrV_size]; exact hin) rfl rfl hdg fun H1 e z oq => ?_
  refine kk H1 _ (hR.up he z oq ?_) (hS.put z oq hga)
  show H1[a]? = some (vp_cell _ _)
  rw [e, vp_cell_i, vp_cell_i, arrV_store]
  congr 2
  funext q
  by_cases hq : q = i.toNatClampNeg
  · subst hq
    simp [updV, upd, vp_nar]
    try rfl
  · simp [updV, upd, hq]
theorem fw_copytb (hexec : p.tables.exec = Jvm.exec) (hb : c.code = cc) (hml : c.maxLocals = ls.size) {own : String} {index : Nat} (hown : s.vm.findClass own = some m.cls) (hlink : (Cond.methodLink own index arraycopyName).before args s = true) (hnat : (Cond.native arraycopyName).before args s = true) (hstat : (Cond.static arraycopyName).before args s = true) (hini : (Cond.initialized "java/lang/System").before args s = true)
    (hK : va_K G.1 vwCl (fwT G) s) (hR : fR G ω H) (hS : va_S (fwA G) s.heap H locs) {b0 n0 : Nat} {f : Nat → Int32} (hX : va_T .byte b0 n0 (fun j => .int (f j)) (fwA G) s s.heap) {n1 : Nat} {g : Nat → Int32} (ha1 : ω.2 a = some (.inl (G.2.1 2, n1, .inl g)))
    {sp dp n : Int32} (h1 : ¬ sp < 0) (h2 : ¬ dp < 0) (h3 : ¬ n < 0) (h4 : sp.toNatClampNeg + n.toNatClampNeg ≤ n0) (h5 : dp.toNatClampNeg + n.toNatClampNeg ≤ n1) (hfit : ∀ i : Nat, i < n.toNatClampNeg → fits .byte (.int (f (sp.toNatClampNeg + i))) = true)
    (hframes : 1 ≤ R.frames) (hlocals : (rest.map fun v => v.category).sum + (nativeFrameWords "java/lang/System" "arraycopy" 5 + 11) ≤ R.locals) (hdg : decode cc pc = .ok (.invokestatic index, 3))
    (kk : ∀ (H1 : Heap) (locs1 : List Loc), fR G (ω.1, va_up ω.2 a (some (.inl (G.2.1 2, n1, .inl (va_cpy f g sp.toNatClampNeg dp.toNatClampNeg n.toNatClampNeg))))) H1 → va_S (fwA G) s.heap H1 locs1 → W p l e R s m args below meth c H1 locs1 cells slots Q (F0 m (pc + 3) ls rest)) : W p l e R s m args below meth c H locs cells slots Q (F0 m pc ls (.int n :: .int dp :: .ref a :: .int sp :: .ref b0 :: rest)) := by
  intro T hT X
  obtain ⟨scr, hs1, hs2, hs3, hs4, -, hs5, hs7⟩ := hX
  have hc0 : H[b0]? = some scr := by rw [hS.2.1 b0 (Array.getElem?_eq_some_iff.mp hs1).1 hs7]; exact hs1
  obtain ⟨hc1, hga⟩ := hR.2.2 a _ ha1
  have hc1 : H[a]? = some (vp_cell (G.2.1 2) (n1, .inl g)) := hc1
  obtain ⟨hs6, k0, hk0, cm0, hkk0⟩ := hs2
  obtain ⟨-, k1, hk1, cm1, hkk1⟩ := (hK.2 2 _ rfl).1 n1 (fun j => .int (g j))
  obtain ⟨vm', X', step⟩ := X.arraycopy hexec hown hlink hnat hstat hini (src := b0) (dst := a) (cs := scr) (cd := vp_cell (G.2.1 2) (n1, .inl g)) (srcPos := sp) (destPos := dp) (n := n) (by rw [hT]; exact hc0) (by rw [hT]; exact hc1)
    hs6 (fun _ h => by cases h) hs3 (fun h => by cases h) hk0 hk1 hkk0 hkk1 (by simp [refKind]) h1 h2 h3
    (by rw [nn_cl h1, nn_cl h3]; omega)
    (by rw [nn_cl h2, nn_cl h3]; show ¬ _ > ((arrV (G.2.1 2) n1 (fun j => .int (g j))).slots.size : Int); rw [arrV_size]; omega)
    (fun vm₁ _ i hi => by
      have e : scr.slots.getD (sp.toNatClampNeg + i) .null = .int (f (sp.toNatClampNeg + i)) := by
        rw [Array.getD_eq_getD_getElem?, hs5 _ (by omega)]
        rfl
      refine ⟨?_, ?_⟩
      · rw [e]
        exact hfit i hi
      · rw [e]
        exact trivial)
    (g := F0 m pc ls (.int n :: .int dp :: .ref a :: .int sp :: .ref b0 :: rest)) rfl (by rw [hml]) (rest := rest) rfl (by rw [hb]; exact hdg) hframes (by show 2 * 0 + _ + _ ≤ _; omega)
  have e1 : copied scr (vp_cell (G.2.1 2) (n1, .inl g)) sp dp n = vp_cell (G.2.1 2) (n1, .inl (va_cpy f g sp.toNatClampNeg dp.toNatClampNeg n.toNatClampNeg)) := va_copiedX (fun z => .int z) scr (G.2.1 2) f g hs5 h4
  rw [e1] at X' step
  have hlt : a < H.size := (Array.getElem?_eq_some_iff.mp hc1).1
  have hheap : ((T.setVm vm').setCell a (vp_cell (G.2.1 2) (n1, .inl (va_cpy f g sp.toNatClampNeg dp.toNatClampNeg n.toNatClampNeg)))).heap = H.setIfInBounds a (vp_cell (G.2.1 2) (n1, .inl (va_cpy f g sp.toNatClampNeg dp.toNatClampNeg n.toNatClampNeg))) := by rw [← hT]; rfl
  have oq : ∀ q : Nat, q ≠ a → (H.setIfInBounds a (vp_cell (G.2.1 2) (n1, .inl (va_cpy f g sp.toNatClampNeg dp.toNatClampNeg n.toNatClampNeg))))[q]? = H[q]? := fun q hq => by simp [Array.getElem?_setIfInBounds, Ne.symm hq]
  obtain ⟨t, a1, b1⟩ := kk _ _ (hR.up ha1 (by simp) oq (show (H.setIfInBounds a _)[a]? = some _ by simp [Array.getElem?_setIfInBounds, hlt])) ⟨by simp; exact hS.1, fun q g1 g2 => by
      rw [oq q (fun e9 => g2 (by rw [e9]; exact hga))]
      exact hS.2.1 q g1 g2, fun q hq => by
      rcases List.mem_append.mp hq with h | h
      · exact hS.2.2 q h
      · obtain ⟨z, -, hz⟩ := List.mem_map.mp h
        rw [← hz]
        exact hga⟩ _ hheap X'
  exact ⟨t, step t a1, b1⟩
theorem fw_copyb (hexec : p.tables.exec = Jvm.exec) (hb : c.code = cc) (hml : c.maxLocals = ls.size) {own : String} {index : Nat} (hown : s.vm.findClass own = some m.cls) (hlink : (Cond.methodLink own index arraycopyName).before args s = true) (hnat : (Cond.native arraycopyName).before args s = true) (hstat : (Cond.static arraycopyName).before args s = true) (hini : (Cond.initialized "java/lang/System").before args s = true)
    (hK : va_K G.1 vwCl (fwT G) s) (hR : fR G ω H) (hS : va_S (fwA G) H0 H locs) {a0 : Nat} {n0 n1 : Nat} {f g : Nat → Int32} (ha0 : ω.2 a0 = some (.inl (G.2.1 2, n0, .inl f))) (ha1 : ω.2 a = some (.inl (G.2.1 2, n1, .inl g)))
    {sp dp n : Int32} (h1 : ¬ sp < 0) (h2 : ¬ dp < 0) (h3 : ¬ n < 0) (h4 : sp.toNatClampNeg + n.toNatClampNeg ≤ n0) (h5 : dp.toNatClampNeg + n.toNatClampNeg ≤ n1) (hfit : ∀ i : Nat, i < n.toNatClampNeg → fits .byte (.int (f (sp.toNatClampNeg + i))) = true)
    (hframes : 1 ≤ R.frames) (hlocals : (rest.map fun v => v.category).sum + (nativeFrameWords "java/lang/System" "arraycopy" 5 + 11) ≤ R.locals) (hdg : decode cc pc = .ok (.invokestatic index, 3))
    (kk : ∀ (H1 : Heap) (locs1 : List Loc), fR G (ω.1, va_up ω.2 a (some (.inl (G.2.1 2, n1, .inl (va_cpy f g sp.toNatClampNeg dp.toNatClampNeg n.toNatClampNeg))))) H1 → va_S (fwA G) H0 H1 locs1 → W p l e R s m args below meth c H1 locs1 cells slots Q (F0 m (pc + 3) ls rest)) : W p l e R s m args below meth c H locs cells slots Q (F0 m pc ls (.int n :: .int dp :: .ref a :: .int sp :: .ref a0 :: rest)) := by
  intro T hT X
  have hc0 : H[a0]? = some (vp_cell (G.2.1 2) (n0, .inl f)) := (hR.2.2 a0 _ ha0).1
  obtain ⟨hc1, hga⟩ := hR.2.2 a _ ha1
  have hc1 : H[a]? = some (vp_cell (G.2.1 2) (n1, .inl g)) := hc1
  obtain ⟨-, k0, hk0, cm0, hkk0⟩ := (hK.2 2 _ rfl).1 n0 (fun j => .int (f j))
  obtain ⟨-, k1, hk1, cm1, hkk1⟩ := (hK.2 2 _ rfl).1 n1 (fun j => .int (g j))
  obtain ⟨vm', X', step⟩ := X.arraycopy hexec hown hlink hnat hstat hini (src := a0) (dst := a) (cs := vp_cell (G.2.1 2) (n0, .inl f)) (cd := vp_cell (G.2.1 2) (n1, .inl g)) (srcPos := sp) (destPos := dp) (n := n) (by rw [hT]; exact hc0) (by rw [hT]; exact hc1)
    (fun _ h => by cases h) (fun _ h => by cases h) (fun h => by cases h) (fun h => by cases h) hk0 hk1 hkk0 hkk1 (by simp [refKind]) h1 h2 h3
    (by rw [nn_cl h1, nn_cl h3]; show ¬ _ > ((arrV (G.2.1 2) n0 (fun j => .int (f j))).slots.size : Int); rw [arrV_size]; omega)
    (by rw [nn_cl h2, nn_cl h3]; show ¬ _ > ((arrV (G.2.1 2) n1 (fun j => .int (g j))).slots.size : Int); rw [arrV_size]; omega)
    (fun vm₁ _ i hi => by
      have e1 : (vp_cell (G.2.1 2) (n0, .inl f)).slots.getD (sp.toNatClampNeg + i) .null = .int (f (sp.toNatClampNeg + i)) := by
        show (arrV (G.2.1 2) n0 (fun j => .int (f j))).slots.getD _ _ = _
        rw [Array.getD_eq_getD_getElem?, arrV_read _ _ (by omega)]
        rfl
      refine ⟨?_, ?_⟩
      · rw [e1]; exact hfit i hi
      · rw [e1]; exact trivial)
    (g := F0 m pc ls (.int n :: .int dp :: .ref a :: .int sp :: .ref a0 :: rest)) rfl (by rw [hml]) (rest := rest) rfl (by rw [hb]; exact hdg) hframes (by show 2 * 0 + _ + _ ≤ _; omega)
  have e1 : copied (vp_cell (G.2.1 2) (n0, .inl f)) (vp_cell (G.2.1 2) (n1, .inl g)) sp dp n = vp_cell (G.2.1 2) (n1, .inl (va_cpy f g sp.toNatClampNeg dp.toNatClampNeg n.toNatClampNeg)) := va_copied (fun z => .int z) (G.2.1 2) (G.2.1 2) f g h4
  rw [e1] at X' step
  have hlt : a < H.size := (Array.getElem?_eq_some_iff.mp hc1).1
  have hheap : ((T.setVm vm').setCell a (vp_cell (G.2.1 2) (n1, .inl (va_cpy f g sp.toNatClampNeg dp.toNatClampNeg n.toNatClampNeg)))).heap = H.setIfInBounds a (vp_cell (G.2.1 2) (n1, .inl (va_cpy f g sp.toNatClampNeg dp.toNatClampNeg n.toNatClampNeg))) := by rw [← hT]; rfl
  have oq : ∀ q : Nat, q ≠ a → (H.setIfInBounds a (vp_cell (G.2.1 2) (n1, .inl (va_cpy f g sp.toNatClampNeg dp.toNatClampNeg n.toNatClampNeg))))[q]? = H[q]? := fun q hq => by simp [Array.getElem?_setIfInBounds, Ne.symm hq]
  obtain ⟨t, a1, b1⟩ := kk _ _ (hR.up ha1 (by simp) oq (show (H.setIfInBounds a _)[a]? = some _ by simp [Array.getElem?_setIfInBounds, hlt])) ⟨by simp; exact hS.1, fun q g1 g2 => by
      rw [oq q (fun e9 => g2 (by rw [e9]; exact hga))]
      exact hS.2.1 q g1 g2, fun q hq => by
      rcases List.mem_append.mp hq with h | h
      · exact hS.2.2 q h
      · obtain ⟨z, -, hz⟩ := List.mem_map.mp h
        rw [← hz]
        exact hga⟩ _ hheap X'
  exact ⟨t, step t a1, b1⟩
end FWB
theorem shl_0 {n : Nat} (h : n < 2 ^ 31) : nI n <<< ((0 : Int32) &&& 31) = nI n := by
  rw [pk_shlN _ 0 (by decide) (by omega), Nat.pow_zero, Nat.mul_one]
theorem row_app {cs l : List Int32} (j : Nat) : va_cpy (fun j => l.getD j 0) (fun i => cs.getD i 0) 0 cs.length l.length j = (cs ++ l).getD j 0 := by
  simp only [va_cpy, List.getD_eq_getElem?_getD, List.getElem?_append]
  by_cases h1 : j < cs.length
  · rw [if_neg (by omega), if_pos h1]
  · by_cases h2 : j < cs.length + l.length
    · rw [if_pos ⟨by omega, h2⟩, if_neg h1, Nat.zero_add]
    · rw [if_neg (by omega), if_neg h1, List.getElem?_eq_none (by omega), List.getElem?_eq_none (by omega)]
theorem row_one {cs : List Int32} {x : Int32} : upd (fun i => cs.getD i 0) cs.length x = fun i => (cs ++ [x]).getD i 0 := by
  funext j
  simp only [List.getD_eq_getElem?_getD, List.getElem?_append]
  by_cases h : j = cs.length
  · subst h; rw [upd_at, if_neg (Nat.lt_irrefl _), Nat.sub_self]; rfl
  · rw [upd_off h]
    by_cases h1 : j < cs.length
    · rw [if_pos h1]
    · rw [if_neg h1, List.getElem?_eq_none (by omega), List.getElem?_eq_none (by simp; omega)]
theorem row_cpy {cs : List Int32} {N n : Nat} (hn : cs.length ≤ n) : ∀ j, j < N → va_cpy (fun i => cs.getD i 0) (fun _ => 0) 0 0 n j = cs.getD j 0 := fun j _ => by
  simp only [va_cpy]
  by_cases h : j < n
  · rw [if_pos ⟨by omega, by omega⟩, Nat.sub_zero, Nat.zero_add]
  · rw [if_neg (by omega), List.getD_eq_getElem?_getD, List.getElem?_eq_none (by omega)]; rfl
/-- the characters of a text are small -/
def Asc (cs : List Int32) : Prop := ∀ i, fits .byte (.int (cs.getD i 0)) = true
theorem dg_small : ∀ d : Nat, d < 10 → (-100 : Int32) < -(nI d) ∧ ¬ -(nI d) ≤ (-10 : Int32) ∧ (-9 : Int32) ≤ -(nI d) ∧ vp_nar .byte (nI (48 + d % 10)) = nI (48 + d) := by decide
/-- the digits' row of Integer, at the law's start -/
def FDg (G : FG) (dd : Nat) : Prop := va_Z "java/lang/Integer" "DigitOnes" "[B" (.ref dd) (fwA G) G.2.2 G.2.2.heap ∧ va_T .byte dd 100 (fun j => .int (nI (48 + j % 10))) (fwA G) G.2.2 G.2.2.heap
theorem le_sub {k c : Nat} (h : k ≤ c) (hk : k < 2 ^ 30) (hc : c < 2 ^ 30) : nI k - nI c ≤ 0 := by
  rw [i_le, pk_sub_toInt hk hc, show ((0 : Int32)).toInt = 0 by decide]; omega
theorem nle_sub {k c : Nat} (h : c < k) (hk : k < 2 ^ 30) (hc : c < 2 ^ 30) : ¬ nI k - nI c ≤ 0 := by
  rw [i_le, pk_sub_toInt hk hc, show ((0 : Int32)).toInt = 0 by decide]; omega
theorem nI_max {a b : Nat} (ha : a < 2 ^ 31) (hb : b < 2 ^ 31) : (if nI a < nI b then nI b else nI a) = nI (max a b) := by
  by_cases h : a < b
  · rw [if_pos ((nI_ltI ha hb).mpr h), Nat.max_eq_right (by omega)]
  · rw [if_neg (fun z => h ((nI_ltI ha hb).mp z)), Nat.max_eq_left (by omega)]
theorem nI_min {a b : Nat} (ha : a < 2 ^ 31) (hb : b < 2 ^ 31) : (if nI b < nI a then nI b else nI a) = nI (min a b) := by
  by_cases h : b < a
  · rw [if_pos ((nI_ltI hb ha).mpr h), Nat.min_eq_right (by omega)]
  · rw [if_neg (fun z => h ((nI_ltI hb ha).mp z)), Nat.min_eq_left (by omega)]
set_option maxHeartbeats 4000000 in
set_option maxRecDepth 100000 in
theorem c_J5_init_d00df (G : FG) (hL : FL G) (l : Launch) (ω : FWd) (hJ : FJ G) (q m : Nat) (hn : ω.1 = m) (h0 : ω.2 q = some (.inr (1, [.null, .int 0, .int 0, .int 0]))) (hqm : q < m) : FMet G l yJ5_init_d00df wsJ5_init_d00df ({ frames := 1, cells := 1, slots := 16, locals := 20 } : Room) [.ref q, .int 16] ω (fun vv9 τ9 => vv9 = none ∧ τ9.1 = m + 1 ∧ τ9.2 q = some (.inr (1, [.ref m, .int 0, .int 0, .int 0])) ∧ τ9.2 m = some (.inl (G.2.1 2, 16, .inl (fun _ => 0))) ∧ ∀ q9 : Nat, ¬ q9 = q → ¬ q9 = m → τ9.2 q9 = ω.2 q9) 1 16 := by
  refine fw_ofW (cc := cJ5_init_d00df) (maxL := 2) (ret := none) (by decide) rfl (Nat.le_of_ble_eq_true rfl) ?_
  intro pP eE sS mI ar9 bl9 meth cD ls hx hb hr hlocks hml hts hown hnm hW hR hl
  have hK := hL.K hW
  have hR0 := hR
  have hS : va_S (fwA G) sS.heap sS.heap [] := va_S.rf
  have hl : lv_has ls 2 [(0, .ref q), (1, .int 16)] := hl
  have hin4 : ∀ w ∈ u_ws RJ4 TJ4 4, w ∈ wsJ5_init_d00df := by decide +kernel
  obtain ⟨σ_0, hs0⟩ : ∃ z9 : Nat → Option va_E, z9 = ω.2 := ⟨_, rfl⟩
  have hR : fR G (m, σ_0) sS.heap := by rw [hs0, ← hn]; exact hR
  rw [← hs0] at h0 ⊢
  refine lv_aload_n hx hb dJ5_init_d00df_0 rfl (lv_at hl 0 rfl) ?_
  refine W.objInit hx hb hown (hts (.methodLink RJ5 3 objectInit) (by decide +kernel)) (hts (.instanceMethod objectInit) (by decide +kernel)) (hts (.code objectInit ⟨#[0xb1]⟩ 1 none) (by decide +kernel)) rfl (by rw [hml]; exact hl.1) rfl dJ5_init_d00df_1 (Nat.le_of_ble_eq_true rfl) (Nat.le_of_ble_eq_true rfl) ?_
  refine W.eq (g2 := F0 mI 4 ls []) rfl ?_
  refine va_gets (own := RJ5) (ref := "java/lang/String") hx hb ((va_Z.moved hW.alike hJ.1).kept hR0.2.1.2.1) hS hown (hts (.fieldLink RJ5 18 "java/lang/String" "COMPACT_STRINGS" "Z") (by decide +kernel)) (fun _ h => h) dJ5_init_d00df_4 ?_
  refine lv_if_eq (tgt := 25) hx hb dJ5_init_d00df_7 (by decide) (fun c => absurd c (by decide)) (fun c => ?_)
  refine lv_aload_n hx hb dJ5_init_d00df_10 rfl (lv_at hl 0 rfl) ?_
  refine lv_iload_n hx hb dJ5_init_d00df_11 rfl (lv_at hl 1 rfl) ?_
  refine fw_newb hx hb (hts (.arrayClass .byte) (by decide +kernel)) hK hR hS (n := m) rfl (N := 16) (by decide) rfl (by omega) (by first | exact Nat.le_of_ble_eq_true rfl | omega) (by first | exact Nat.le_of_ble_eq_true rfl | (show 0 + 16 ≤ 1000; omega)) dJ5_init_d00df_12 (fun H hR hS => ?_)
  obtain ⟨σ_1, hs_1⟩ : ∃ z9 : Nat → Option va_E, z9 = va_up σ_0 m (some (.inl (G.2.1 2, 16, .inl (fun _ => 0)))) := ⟨_, rfl⟩
  have hR : fR G (m + 1, σ_1) H := by rw [hs_1]; exact hR
  have e_1 : σ_1 m = some (.inl (G.2.1 2, 16, .inl (fun _ => 0))) := by rw [hs_1]; exact va_up_at
  have f_1 : ∀ q9 : Nat, ¬ q9 = m → σ_1 q9 = σ_0 q9 := fun q9 hq => by rw [hs_1]; exact va_up_off hq
  clear hs_1
  refine fw_put (v := .ref m) (C := RJ4) (T := TJ4) (N := 4) hx hb hts hin4 tyJ4 tyJ4_ok nmJ4 hown hK hR hS ((f_1 q (by omega)).trans h0) rfl 0 (by decide) (hts (.fieldLink RJ5 15 "java/lang/AbstractStringBuilder" "value" "[B") (by decide +kernel)) rfl rfl rfl (Nat.le_of_ble_eq_true rfl) dJ5_init_d00df_14 (fun H locs hR hS => ?_)
  obtain ⟨σ_2, hs_2⟩ : ∃ z9 : Nat → Option va_E, z9 = va_up σ_1 q (some (.inr (1, [.ref m, .int 0, .int 0, .int 0]))) := ⟨_, rfl⟩
  have hR : fR G (m + 1, σ_2) H := by rw [hs_2]; exact hR
  have e_2 : σ_2 q = some (.inr (1, [.ref m, .int 0, .int 0, .int 0])) := by rw [hs_2]; exact va_up_at
  have f_2 : ∀ q9 : Nat, ¬ q9 = q → σ_2 q9 = σ_1 q9 := fun q9 hq => by rw [hs_2]; exact va_up_off hq
  clear hs_2
  refine lv_aload_n hx hb dJ5_init_d00df_17 rfl (lv_at hl 0 rfl) ?_
  refine lv_iconst (v := 0) hx hb dJ5_init_d00df_18 (by decide) ?_
  refine fw_put (v := .int 0) (C := RJ4) (T := TJ4) (N := 4) hx hb hts hin4 tyJ4 tyJ4_ok nmJ4 hown hK hR hS e_2 rfl 1 (by decide) (hts (.fieldLink RJ5 22 "java/lang/AbstractStringBuilder" "coder" "B") (by decide +kernel)) rfl rfl rfl (Nat.le_of_ble_eq_true rfl) dJ5_init_d00df_19 (fun H locs hR hS => ?_)
  obtain ⟨σ_3, hs_3⟩ : ∃ z9 : Nat → Option va_E, z9 = va_up σ_2 q (some (.inr (1, [.ref m, .int 0, .int 0, .int 0]))) := ⟨_, rfl⟩
  have hR : fR G (m + 1, σ_3) H := by rw [hs_3]; exact hR
  have e_3 : σ_3 q = some (.inr (1, [.ref m, .int 0, .int 0, .int 0])) := by rw [hs_3]; exact va_up_at
  have f_3 : ∀ q9 : Nat, ¬ q9 = q → σ_3 q9 = σ_2 q9 := fun q9 hq => by rw [hs_3]; exact va_up_off hq
  clear hs_3
  refine lv_goto (tgt := 38) hx hb dJ5_init_d00df_22 (by decide) ?_
  refine fw_vret hx hb hr hlocks hR hS dJ5_init_d00df_38 ?_
  exact ⟨rfl, rfl, e_3, (f_3 m (by omega)).trans ((f_2 m (by omega)).trans e_1), fun q9 h1 h2 => (f_3 q9 h1).trans ((f_2 q9 h1).trans (f_1 q9 h2))⟩

set_option maxHeartbeats 4000000 in
set_option maxRecDepth 100000 in
theorem c_J4_init_da8c8 (G : FG) (hL : FL G) (l : Launch) (ω : FWd) (hJ : FJ G) (q m : Nat) (hn : ω.1 = m) (h0 : ω.2 q = some (.inr (1, [.null, .int 0, .int 0, .int 0]))) (hqm : q < m) : FMet G l yJ4_init_da8c8 wsJ4_init_da8c8 ({ frames := 2, cells := 1, slots := 16, locals := 41 } : Room) [.ref q] ω (fun vv9 τ9 => vv9 = none ∧ τ9.1 = m + 1 ∧ τ9.2 q = some (.inr (1, [.ref m, .int 0, .int 0, .int 0])) ∧ τ9.2 m = some (.inl (G.2.1 2, 16, .inl (fun _ => 0))) ∧ ∀ q9 : Nat, ¬ q9 = q → ¬ q9 = m → τ9.2 q9 = ω.2 q9) 1 16 := by
  refine fw_ofW (cc := cJ4_init_da8c8) (maxL := 1) (ret := none) (by decide) rfl (Nat.le_of_ble_eq_true rfl) ?_
  intro pP eE sS mI ar9 bl9 meth cD ls hx hb hr hlocks hml hts hown hnm hW hR hl
  have hK := hL.K hW
  have hR0 := hR
  have hS : va_S (fwA G) sS.heap sS.heap [] := va_S.rf
  have hl : lv_has ls 1 [(0, .ref q)] := hl
  refine lv_aload_n hx hb dJ4_init_da8c8_0 rfl (lv_at hl 0 rfl) ?_
  refine lv_bipush (v := 16) hx hb dJ4_init_da8c8_1 (by decide) ?_
  refine fw_call (va_runI (As := [.int 16]) (rest := []) ⟨hx, hb, hml, hown, hts⟩ (c_J5_init_d00df G hL l ω hJ q m hn h0 hqm) (cwI 1 hts gJ4_init_da8c8_J5_init_d00df rfl rfl rfl (hts (.initialized yJ5_init_d00df.cls) (by decide +kernel)) (hts (.methodLink RJ4 1 yJ5_init_d00df) (by decide +kernel)) (hts (.instanceMethod yJ5_init_d00df) (by decide +kernel)) rfl (by decide +kernel) ⟨Nat.le_of_ble_eq_true rfl, Nat.le_of_ble_eq_true rfl⟩) (fw_preI hW hR) rfl rfl hl.1 rfl (lv_room (Nat.le_of_ble_eq_true rfl)) dJ4_init_da8c8_3 ⟨by first | exact Nat.le_of_ble_eq_true rfl | omega, by first | exact Nat.le_of_ble_eq_true rfl | omega⟩) hS (fun v_1 τ_1 H locs hq_1 hR hS => ?_)
  obtain ⟨rfl, g1, g2, g3, g4⟩ := hq_1
  refine W.eq (g2 := F0 mI 6 ls []) rfl ?_
  refine fw_vret hx hb hr hlocks hR hS dJ4_init_da8c8_6 ?_
  exact ⟨rfl, g1, g2, g3, g4⟩

set_option maxHeartbeats 4000000 in
set_option maxRecDepth 100000 in
theorem c_J5_isLatin1_aae02 (G : FG) (hL : FL G) (l : Launch) (ω : FWd) (hJ : FJ G) (q vb cap n : Nat) (f : Nat → Int32) (hq : ω.2 q = some (.inr (1, [.ref vb, .int 0, .int 0, .int (nI n)]))) (hv : ω.2 vb = some (.inl (G.2.1 2, cap, .inl f))) (hcap : cap < 100000) : FMet G l yJ5_isLatin1_aae02 wsJ5_isLatin1_aae02 ({ frames := 0, cells := 0, slots := 0, locals := 0 } : Room) [.ref q] ω (rI 1 ω) 0 0 := by
  refine fw_ofW (cc := cJ5_isLatin1_aae02) (maxL := 1) (ret := (some .boolean)) (by decide) rfl (Nat.le_of_ble_eq_true rfl) ?_
  intro pP eE sS mI ar9 bl9 meth cD ls hx hb hr hlocks hml hts hown hnm hW hR hl
  have hK := hL.K hW
  have hR0 := hR
  have hS : va_S (fwA G) sS.heap sS.heap [] := va_S.rf
  have hl : lv_has ls 1 [(0, .ref q)] := hl
  have hin4 : ∀ w ∈ u_ws RJ4 TJ4 4, w ∈ wsJ5_isLatin1_aae02 := by decide +kernel
  refine va_gets (own := RJ5) (ref := "java/lang/String") hx hb ((va_Z.moved hW.alike hJ.1).kept hR0.2.1.2.1) hS hown (hts (.fieldLink RJ5 18 "java/lang/String" "COMPACT_STRINGS" "Z") (by decide +kernel)) (fun _ h => h) dJ5_isLatin1_aae02_0 ?_
  refine lv_if_eq (tgt := 17) hx hb dJ5_isLatin1_aae02_3 (by decide) (fun c => absurd c (by decide)) (fun c => ?_)
  refine lv_aload_n hx hb dJ5_isLatin1_aae02_6 rfl (lv_at hl 0 rfl) ?_
  refine fw_get (C := RJ4) (T := TJ4) (N := 4) hx hb hts hin4 hown hK hR hq rfl 1 (by decide) (hts (.fieldLink RJ5 22 "java/lang/AbstractStringBuilder" "coder" "B") (by decide +kernel)) rfl dJ5_isLatin1_aae02_7 ?_
  refine lv_if_ne (tgt := 17) hx hb dJ5_isLatin1_aae02_10 (by decide) (fun c => absurd rfl c) (fun c => ?_)
  refine lv_iconst (v := 1) hx hb dJ5_isLatin1_aae02_13 (by decide) ?_
  refine lv_goto (tgt := 18) hx hb dJ5_isLatin1_aae02_14 (by decide) ?_
  exact fw_zret hx hb hr rfl hlocks hR hS dJ5_isLatin1_aae02_18 (rI_mk rfl)

set_option maxHeartbeats 4000000 in
set_option maxRecDepth 100000 in
theorem c_J5_getValue_6d5f1 (G : FG) (hL : FL G) (l : Launch) (ω : FWd) (hJ : FJ G) (q vb cap n : Nat) (f : Nat → Int32) (hq : ω.2 q = some (.inr (1, [.ref vb, .int 0, .int 0, .int (nI n)]))) (hv : ω.2 vb = some (.inl (G.2.1 2, cap, .inl f))) (hcap : cap < 100000) : FMet G l yJ5_getValue_6d5f1 wsJ5_getValue_6d5f1 ({ frames := 0, cells := 0, slots := 0, locals := 0 } : Room) [.ref q] ω (rA vb ω) 0 0 := by
  refine fw_ofW (cc := cJ5_getValue_6d5f1) (maxL := 1) (ret := (some (.array .byte))) (by decide) rfl (Nat.le_of_ble_eq_true rfl) ?_
  intro pP eE sS mI ar9 bl9 meth cD ls hx hb hr hlocks hml hts hown hnm hW hR hl
  have hK := hL.K hW
  have hR0 := hR
  have hS : va_S (fwA G) sS.heap sS.heap [] := va_S.rf
  have hl : lv_has ls 1 [(0, .ref q)] := hl
  have hin4 : ∀ w ∈ u_ws RJ4 TJ4 4, w ∈ wsJ5_getValue_6d5f1 := by decide +kernel
  refine lv_aload_n hx hb dJ5_getValue_6d5f1_0 rfl (lv_at hl 0 rfl) ?_
  refine fw_get (C := RJ4) (T := TJ4) (N := 4) hx hb hts hin4 hown hK hR hq rfl 0 (by decide) (hts (.fieldLink RJ5 15 "java/lang/AbstractStringBuilder" "value" "[B") (by decide +kernel)) rfl dJ5_getValue_6d5f1_1 ?_
  exact fw_aret hx hb hr (Or.inr ⟨_, rfl⟩) hlocks hR hS dJ5_getValue_6d5f1_4 (rA_mk rfl)

set_option maxHeartbeats 4000000 in
set_option maxRecDepth 100000 in
theorem c_J5_length_8abf5 (G : FG) (hL : FL G) (l : Launch) (ω : FWd) (hJ : FJ G) (q vb cap n : Nat) (f : Nat → Int32) (hq : ω.2 q = some (.inr (1, [.ref vb, .int 0, .int 0, .int (nI n)]))) (hv : ω.2 vb = some (.inl (G.2.1 2, cap, .inl f))) (hcap : cap < 100000) : FMet G l yJ5_length_8abf5 wsJ5_length_8abf5 ({ frames := 0, cells := 0, slots := 0, locals := 0 } : Room) [.ref q] ω (rI (nI n) ω) 0 0 := by
  refine fw_ofW (cc := cJ5_length_8abf5) (maxL := 1) (ret := (some .int)) (by decide) rfl (Nat.le_of_ble_eq_true rfl) ?_
  intro pP eE sS mI ar9 bl9 meth cD ls hx hb hr hlocks hml hts hown hnm hW hR hl
  have hK := hL.K hW
  have hR0 := hR
  have hS : va_S (fwA G) sS.heap sS.heap [] := va_S.rf
  have hl : lv_has ls 1 [(0, .ref q)] := hl
  have hin4 : ∀ w ∈ u_ws RJ4 TJ4 4, w ∈ wsJ5_length_8abf5 := by decide +kernel
  refine lv_aload_n hx hb dJ5_length_8abf5_0 rfl (lv_at hl 0 rfl) ?_
  refine fw_get (C := RJ4) (T := TJ4) (N := 4) hx hb hts hin4 hown hK hR hq rfl 3 (by decide) (hts (.fieldLink RJ5 79 "java/lang/AbstractStringBuilder" "count" "I") (by decide +kernel)) rfl dJ5_length_8abf5_1 ?_
  exact fw_iret hx hb hr hlocks hR hS dJ5_length_8abf5_4 (rI_mk rfl)

set_option maxHeartbeats 4000000 in
set_option maxRecDepth 100000 in
theorem c_J4_length_8abf5 (G : FG) (hL : FL G) (l : Launch) (ω : FWd) (hJ : FJ G) (q vb cap n : Nat) (f : Nat → Int32) (hq : ω.2 q = some (.inr (1, [.ref vb, .int 0, .int 0, .int (nI n)]))) (hv : ω.2 vb = some (.inl (G.2.1 2, cap, .inl f))) (hcap : cap < 100000) : FMet G l yJ4_length_8abf5 wsJ4_length_8abf5 ({ frames := 1, cells := 0, slots := 0, locals := 20 } : Room) [.ref q] ω (rI (nI n) ω) 0 0 := by
  refine fw_ofW (cc := cJ4_length_8abf5) (maxL := 1) (ret := (some .int)) (by decide) rfl (Nat.le_of_ble_eq_true rfl) ?_
  intro pP eE sS mI ar9 bl9 meth cD ls hx hb hr hlocks hml hts hown hnm hW hR hl
  have hK := hL.K hW
  have hR0 := hR
  have hS : va_S (fwA G) sS.heap sS.heap [] := va_S.rf
  have hl : lv_has ls 1 [(0, .ref q)] := hl
  refine lv_aload_n hx hb dJ4_length_8abf5_0 rfl (lv_at hl 0 rfl) ?_
  refine fw_call (va_runSU (hK.1 1 _ rfl).2 (As := []) (rest := []) ⟨hx, hb, hml, hown, hts⟩ (c_J5_length_8abf5 G hL l ω hJ q vb cap n f hq hv hcap) (va_cwSU 0 hts gJ4_length_8abf5_J5_length_8abf5_s343 rfl rfl rfl (by decide +kernel) ⟨Nat.le_of_ble_eq_true rfl, Nat.le_of_ble_eq_true rfl⟩) (fw_preV hW hK hR hq rfl) rfl rfl hl.1 rfl (lv_room (Nat.le_of_ble_eq_true rfl)) dJ4_length_8abf5_1 ⟨by first | exact Nat.le_of_ble_eq_true rfl | omega, by first | exact Nat.le_of_ble_eq_true rfl | omega⟩) hS (fun v_1 τ_1 H locs hq_1 hR hS => ?_)
  obtain ⟨rfl, hq_1⟩ := hq_1
  rw [hq_1] at hR
  refine W.eq (g2 := F0 mI 4 ls [.int (nI n)]) rfl ?_
  exact fw_iret hx hb hr hlocks hR hS dJ4_length_8abf5_4 (rI_mk rfl)

set_option maxHeartbeats 4000000 in
set_option maxRecDepth 100000 in
theorem c_J8_newLength_cabcc (G : FG) (hL : FL G) (l : Launch) (ω : FWd) (hJ : FJ G) (na nb nc : Nat) (ha : na < 100000) (hb9 : nb < 100000) (hc9 : nc < 200000) (hp9 : 0 < nc) : FMet G l yJ8_newLength_cabcc wsJ8_newLength_cabcc ({ frames := 1, cells := 0, slots := 0, locals := 40 } : Room) [.int (nI na), .int (nI nb), .int (nI nc)] ω (rI (nI (na + max nb nc)) ω) 0 0 := by
  refine fw_ofW (cc := cJ8_newLength_cabcc) (maxL := 4) (ret := (some .int)) (by decide) rfl (Nat.le_of_ble_eq_true rfl) ?_
  intro pP eE sS mI ar9 bl9 meth cD ls hx hb hr hlocks hml hts hown hnm hW hR hl
  have hK := hL.K hW
  have hR0 := hR
  have hS : va_S (fwA G) sS.heap sS.heap [] := va_S.rf
  have hl : lv_has ls 4 [(0, .int (nI na)), (1, .int (nI nb)), (2, .int (nI nc))] := hl
  refine lv_iload_n hx hb dJ8_newLength_cabcc_0 rfl (lv_at hl 0 rfl) ?_
  refine lv_iload_n hx hb dJ8_newLength_cabcc_1 rfl (lv_at hl 1 rfl) ?_
  refine lv_iload_n hx hb dJ8_newLength_cabcc_2 rfl (lv_at hl 2 rfl) ?_
  refine va_mmax hx hb (hml.trans hl.1.symm) hown (index := 194) (hts (.methodLink RJ8 194 Lib.Math.max.name) (by decide +kernel)) (hts (.static Lib.Math.max.name) (by decide +kernel)) (hts (.initialized "java/lang/Math") (by decide +kernel)) (hts (.code Lib.Math.max.name Lib.Math.max.code 2 (some .int)) (by decide +kernel)) (Nat.le_of_ble_eq_true rfl) (Nat.le_of_ble_eq_true rfl) (Nat.le_refl _) (Nat.le_refl _) dJ8_newLength_cabcc_3 ?_
  refine W.eq (g2 := F0 mI 6 ls [.int (nI (max nb nc)), .int (nI na)]) (by rw [nI_max (by omega) (by omega)]) ?_
  refine lv_iadd hx hb dJ8_newLength_cabcc_6 ?_
  refine W.eq (g2 := F0 mI 7 ls [.int (nI (na + max nb nc))]) (by rw [nI_add]) ?_
  have hm9 : max nb nc < 200000 := Nat.max_lt.mpr ⟨by omega, by omega⟩
  refine lv_istore_n (lv' := [(3, .int (nI (na + max nb nc))), (0, .int (nI na)), (1, .int (nI nb)), (2, .int (nI nc))]) hx hb dJ8_newLength_cabcc_7 rfl hl (by decide) rfl (fun ls hl => ?_)
  refine lv_iconst (v := 0) hx hb dJ8_newLength_cabcc_8 (by decide) ?_
  refine lv_iload_n hx hb dJ8_newLength_cabcc_9 rfl (lv_at hl 0 rfl) ?_
  refine lv_icmp_ge (tgt := 21) hx hb dJ8_newLength_cabcc_10 (by decide) (fun c => absurd c (fun z => by have := (nI_leI (a := na + max nb nc) (b := 0) (by omega) (by omega)).mp z; omega)) (fun c => ?_)
  refine lv_iload_n hx hb dJ8_newLength_cabcc_13 rfl (lv_at hl 0 rfl) ?_
  refine lv_ldc (v := 2147483639) hx hb hown (hts (.constant RJ8 200 2147483639) (by decide +kernel)) dJ8_newLength_cabcc_14 ?_
  refine lv_icmp_gt (tgt := 21) hx hb dJ8_newLength_cabcc_16 (by decide) (fun c => absurd c (fun z => by have := (nI_ltI (a := 2147483639) (b := na + max nb nc) (by omega) (by omega)).mp z; omega)) (fun c => ?_)
  refine lv_iload_n hx hb dJ8_newLength_cabcc_19 rfl (lv_at hl 0 rfl) ?_
  exact fw_iret hx hb hr hlocks hR hS dJ8_newLength_cabcc_20 (rI_mk rfl)

set_option maxHeartbeats 4000000 in
set_option maxRecDepth 100000 in
theorem c_J5_newCapacity_0f7a4 (G : FG) (hL : FL G) (l : Launch) (ω : FWd) (hJ : FJ G) (q vb cap n : Nat) (f : Nat → Int32) (hq : ω.2 q = some (.inr (1, [.ref vb, .int 0, .int 0, .int (nI n)]))) (hv : ω.2 vb = some (.inl (G.2.1 2, cap, .inl f))) (hcap : cap < 100000) (k : Nat) (hk : cap < k) (hk9 : k < 100000) : FMet G l yJ5_newCapacity_0f7a4 wsJ5_newCapacity_0f7a4 ({ frames := 2, cells := 0, slots := 0, locals := 63 } : Room) [.ref q, .int (nI k)] ω (rI (nI (cap + max (k - cap) (cap + 2))) ω) 0 0 := by
  refine fw_ofW (cc := cJ5_newCapacity_0f7a4) (maxL := 6) (ret := (some .int)) (by decide) rfl (Nat.le_of_ble_eq_true rfl) ?_
  intro pP eE sS mI ar9 bl9 meth cD ls hx hb hr hlocks hml hts hown hnm hW hR hl
  have hK := hL.K hW
  have hR0 := hR
  have hS : va_S (fwA G) sS.heap sS.heap [] := va_S.rf
  have hl : lv_has ls 6 [(0, .ref q), (1, .int (nI k))] := hl
  have hin4 : ∀ w ∈ u_ws RJ4 TJ4 4, w ∈ wsJ5_newCapacity_0f7a4 := by decide +kernel
  refine lv_aload_n hx hb dJ5_newCapacity_0f7a4_0 rfl (lv_at hl 0 rfl) ?_
  refine fw_get (C := RJ4) (T := TJ4) (N := 4) hx hb hts hin4 hown hK hR hq rfl 0 (by decide) (hts (.fieldLink RJ5 15 "java/lang/AbstractStringBuilder" "value" "[B") (by decide +kernel)) rfl dJ5_newCapacity_0f7a4_1 ?_
  refine va_alen hx hb hK (hR.at1 hv) 0 2 rfl rfl (v := nI cap) rfl dJ5_newCapacity_0f7a4_4 ?_
  refine lv_istore_n (lv' := [(2, .int (nI cap)), (0, .ref q), (1, .int (nI k))]) hx hb dJ5_newCapacity_0f7a4_5 rfl hl (by decide) rfl (fun ls hl => ?_)
  refine lv_iload_n hx hb dJ5_newCapacity_0f7a4_6 rfl (lv_at hl 2 rfl) ?_
  refine lv_aload_n hx hb dJ5_newCapacity_0f7a4_7 rfl (lv_at hl 1 rfl) ?_
  refine fw_get (C := RJ4) (T := TJ4) (N := 4) hx hb hts hin4 hown hK hR hq rfl 1 (by decide) (hts (.fieldLink RJ5 22 "java/lang/AbstractStringBuilder" "coder" "B") (by decide +kernel)) rfl dJ5_newCapacity_0f7a4_8 ?_
  refine lv_ishl hx hb dJ5_newCapacity_0f7a4_11 ?_
  refine W.eq (g2 := F0 mI 12 ls [.int (nI k)]) (by rw [shl_0 (by omega)]) ?_
  refine lv_istore_n (lv' := [(3, .int (nI k)), (2, .int (nI cap)), (0, .ref q), (1, .int (nI k))]) hx hb dJ5_newCapacity_0f7a4_12 rfl hl (by decide) rfl (fun ls hl => ?_)
  refine lv_iload_n hx hb dJ5_newCapacity_0f7a4_13 rfl (lv_at hl 0 rfl) ?_
  refine lv_iload_n hx hb dJ5_newCapacity_0f7a4_14 rfl (lv_at hl 1 rfl) ?_
  refine lv_isub hx hb dJ5_newCapacity_0f7a4_15 ?_
  refine W.eq (g2 := F0 mI 16 ls [.int (nI (k - cap))]) (by rw [pk_sub (by omega)]) ?_
  refine lv_istore (lv' := [(4, .int (nI (k - cap))), (3, .int (nI k)), (2, .int (nI cap)), (0, .ref q), (1, .int (nI k))]) hx hb dJ5_newCapacity_0f7a4_16 hl (by decide) rfl (fun ls hl => ?_)
  refine lv_iload_n hx hb dJ5_newCapacity_0f7a4_18 rfl (lv_at hl 2 rfl) ?_
  refine lv_iload hx hb dJ5_newCapacity_0f7a4_19 (lv_at hl 0 rfl) ?_
  refine lv_iload_n hx hb dJ5_newCapacity_0f7a4_21 rfl (lv_at hl 2 rfl) ?_
  refine lv_iconst (v := 2) hx hb dJ5_newCapacity_0f7a4_22 (by decide) ?_
  refine lv_aload_n hx hb dJ5_newCapacity_0f7a4_23 rfl (lv_at hl 3 rfl) ?_
  refine fw_get (C := RJ4) (T := TJ4) (N := 4) hx hb hts hin4 hown hK hR hq rfl 1 (by decide) (hts (.fieldLink RJ5 22 "java/lang/AbstractStringBuilder" "coder" "B") (by decide +kernel)) rfl dJ5_newCapacity_0f7a4_24 ?_
  refine lv_ishl hx hb dJ5_newCapacity_0f7a4_27 ?_
  refine W.eq (g2 := F0 mI 28 ls [.int 2, .int (nI cap), .int (nI (k - cap)), .int (nI cap)]) (by rfl) ?_
  refine lv_iadd hx hb dJ5_newCapacity_0f7a4_28 ?_
  refine W.eq (g2 := F0 mI 29 ls [.int (nI (cap + 2)), .int (nI (k - cap)), .int (nI cap)]) (by rw [← nI_add]; rfl) ?_
  refine fw_call (va_runS (As := [.int (nI cap), .int (nI (k - cap)), .int (nI (cap + 2))]) (rest := []) ⟨hx, hb, hml, hown, hts⟩ (c_J8_newLength_cabcc G hL l ω hJ cap (k - cap) (cap + 2) (by omega) (by omega) (by omega) (by omega)) (va_cwS 3 hts gJ5_newCapacity_0f7a4_J8_newLength_cabcc rfl rfl rfl (by decide +kernel) ⟨Nat.le_of_ble_eq_true rfl, Nat.le_of_ble_eq_true rfl⟩) (fw_preS hW hR) rfl rfl hl.1 rfl (lv_room (Nat.le_of_ble_eq_true rfl)) dJ5_newCapacity_0f7a4_29 ⟨by first | exact Nat.le_of_ble_eq_true rfl | omega, by first | exact Nat.le_of_ble_eq_true rfl | omega⟩) hS (fun v_1 τ_1 H locs hq_1 hR hS => ?_)
  obtain ⟨rfl, hq_1⟩ := hq_1
  rw [hq_1] at hR
  refine W.eq (g2 := F0 mI 32 ls [.int (nI (cap + max (k - cap) (cap + 2)))]) rfl ?_
  refine lv_istore (lv' := [(5, .int (nI (cap + max (k - cap) (cap + 2)))), (4, .int (nI (k - cap))), (3, .int (nI k)), (2, .int (nI cap)), (0, .ref q), (1, .int (nI k))]) hx hb dJ5_newCapacity_0f7a4_32 hl (by decide) rfl (fun ls hl => ?_)
  refine lv_iload hx hb dJ5_newCapacity_0f7a4_34 (lv_at hl 0 rfl) ?_
  refine lv_ldc (v := 2147483647) hx hb hown (hts (.constant RJ5 39 2147483647) (by decide +kernel)) dJ5_newCapacity_0f7a4_36 ?_
  have hm9 : max (k - cap) (cap + 2) < 200000 := Nat.max_lt.mpr ⟨by omega, by omega⟩
  refine lv_icmp_ne (tgt := 51) hx hb dJ5_newCapacity_0f7a4_38 (by decide) (fun c => ?_) (fun c => absurd ((nI_eq (a := cap + max (k - cap) (cap + 2)) (b := 2147483647) (by omega) (by omega)).mp c) (by omega))
  refine lv_iload hx hb dJ5_newCapacity_0f7a4_51 (lv_at hl 0 rfl) ?_
  refine lv_aload_n hx hb dJ5_newCapacity_0f7a4_53 rfl (lv_at hl 4 rfl) ?_
  refine fw_get (C := RJ4) (T := TJ4) (N := 4) hx hb hts hin4 hown hK hR hq rfl 1 (by decide) (hts (.fieldLink RJ5 22 "java/lang/AbstractStringBuilder" "coder" "B") (by decide +kernel)) rfl dJ5_newCapacity_0f7a4_54 ?_
  refine lv_ishr hx hb dJ5_newCapacity_0f7a4_57 ?_
  refine W.eq (g2 := F0 mI 58 ls [.int (nI (cap + max (k - cap) (cap + 2)))]) (by rw [shr_0 (by omega)]) ?_
  exact fw_iret hx hb hr hlocks hR hS dJ5_newCapacity_0f7a4_58 (rI_mk rfl)

set_option maxHeartbeats 4000000 in
set_option maxRecDepth 100000 in
theorem c_J7_copyOf_9075b (G : FG) (hL : FL G) (l : Launch) (ω : FWd) (hJ : FJ G) (vb m cap N : Nat) (cs : List Int32) (hn : ω.1 = m) (hv : ω.2 vb = some (.inl (G.2.1 2, cap, .inl (fun i => cs.getD i 0)))) (hcs : cs.length ≤ cap) (ha : Asc cs) (hvm : vb < m) (hN : cap < N) (hN9 : N < 1000) : FMet G l yJ7_copyOf_9075b wsJ7_copyOf_9075b ({ frames := 1, cells := 1, slots := 1000, locals := 60 } : Room) [.ref vb, .int (nI N)] ω (fun vv9 τ9 => vv9 = some (.ref m) ∧ τ9.1 = m + 1 ∧ τ9.2 m = some (.inl (G.2.1 2, N, .inl (fun i => cs.getD i 0))) ∧ ∀ q9 : Nat, ¬ q9 = m → τ9.2 q9 = ω.2 q9) 1 1000 := by
  refine fw_ofW (cc := cJ7_copyOf_9075b) (maxL := 3) (ret := (some (.array .byte))) (by decide) rfl (Nat.le_of_ble_eq_true rfl) ?_
  intro pP eE sS mI ar9 bl9 meth cD ls hx hb hr hlocks hml hts hown hnm hW hR hl
  have hK := hL.K hW
  have hR0 := hR
  have hS : va_S (fwA G) sS.heap sS.heap [] := va_S.rf
  have hl : lv_has ls 3 [(0, .ref vb), (1, .int (nI N))] := hl
  obtain ⟨σ_0, hs0⟩ : ∃ z9 : Nat → Option va_E, z9 = ω.2 := ⟨_, rfl⟩
  have hR : fR G (m, σ_0) sS.heap := by rw [hs0, ← hn]; exact hR
  rw [← hs0] at hv ⊢
  refine lv_iload_n hx hb dJ7_copyOf_9075b_0 rfl (lv_at hl 1 rfl) ?_
  refine lv_aload_n hx hb dJ7_copyOf_9075b_1 rfl (lv_at hl 0 rfl) ?_
  refine va_alen hx hb hK (hR.at1 hv) 0 2 rfl rfl (v := nI cap) rfl dJ7_copyOf_9075b_2 ?_
  refine lv_icmp_ne (tgt := 14) hx hb dJ7_copyOf_9075b_3 (by decide) (fun c => ?_) (fun c => absurd ((nI_eq (a := N) (b := cap) (by omega) (by omega)).mp c) (by omega))
  refine lv_iload_n hx hb dJ7_copyOf_9075b_14 rfl (lv_at hl 1 rfl) ?_
  refine fw_newb hx hb (hts (.arrayClass .byte) (by decide +kernel)) hK hR hS (n := m) rfl (N := N) (nI_pos (by omega)) (nI_clamp (by omega)) (by omega) (by first | exact Nat.le_of_ble_eq_true rfl | omega) (by first | exact Nat.le_of_ble_eq_true rfl | (show 0 + N ≤ 1000; omega)) dJ7_copyOf_9075b_15 (fun H hR hS => ?_)
  obtain ⟨σ_1, hs_1⟩ : ∃ z9 : Nat → Option va_E, z9 = va_up σ_0 m (some (.inl (G.2.1 2, N, .inl (fun _ => 0)))) := ⟨_, rfl⟩
  have hR : fR G (m + 1, σ_1) H := by rw [hs_1]; exact hR
  have e_1 : σ_1 m = some (.inl (G.2.1 2, N, .inl (fun _ => 0))) := by rw [hs_1]; exact va_up_at
  have f_1 : ∀ q9 : Nat, ¬ q9 = m → σ_1 q9 = σ_0 q9 := fun q9 hq => by rw [hs_1]; exact va_up_off hq
  clear hs_1
  refine lv_astore_n (lv' := [(2, .ref m), (0, .ref vb), (1, .int (nI N))]) hx hb dJ7_copyOf_9075b_17 rfl hl (by decide) rfl (fun ls hl => ?_)
  refine lv_aload_n hx hb dJ7_copyOf_9075b_18 rfl (lv_at hl 1 rfl) ?_
  refine lv_iconst (v := 0) hx hb dJ7_copyOf_9075b_19 (by decide) ?_
  refine lv_aload_n hx hb dJ7_copyOf_9075b_20 rfl (lv_at hl 0 rfl) ?_
  refine lv_iconst (v := 0) hx hb dJ7_copyOf_9075b_21 (by decide) ?_
  refine lv_aload_n hx hb dJ7_copyOf_9075b_22 rfl (lv_at hl 1 rfl) ?_
  refine va_alen hx hb hK (hR.at1 ((f_1 vb (by omega)).trans hv)) 0 2 rfl rfl (v := nI cap) rfl dJ7_copyOf_9075b_23 ?_
  refine lv_iload_n hx hb dJ7_copyOf_9075b_24 rfl (lv_at hl 2 rfl) ?_
  refine va_mmin hx hb (hml.trans hl.1.symm) hown (index := 304) (hts (.methodLink RJ7 304 Lib.Math.min.name) (by decide +kernel)) (hts (.static Lib.Math.min.name) (by decide +kernel)) (hts (.initialized "java/lang/Math") (by decide +kernel)) (hts (.code Lib.Math.min.name Lib.Math.min.code 2 (some .int)) (by decide +kernel)) (Nat.le_of_ble_eq_true rfl) (Nat.le_of_ble_eq_true rfl) (by first | exact Nat.le_of_ble_eq_true rfl | omega) (by show 0 + N ≤ 1000; omega) dJ7_copyOf_9075b_25 ?_
  refine W.eq (g2 := F0 mI 28 ls [.int (nI cap), .int 0, .ref m, .int 0, .ref vb]) (by rw [nI_min (by omega) (by omega), Nat.min_eq_left (by omega)]) ?_
  refine fw_copyb hx hb (hml.trans hl.1.symm) hown (index := 150) (hts (.methodLink RJ7 150 arraycopyName) (by decide +kernel)) (hts (.native arraycopyName) (by decide +kernel)) (hts (.static arraycopyName) (by decide +kernel)) (hts (.initialized "java/lang/System") (by decide +kernel)) hK hR hS ((f_1 vb (by omega)).trans hv) e_1 (by decide) (by decide) (nI_pos (by omega)) (by rw [nI_clamp (by omega)]; show 0 + cap ≤ cap; omega) (by rw [nI_clamp (by omega)]; show 0 + cap ≤ N; omega) (fun i _ => ha _) (Nat.le_of_ble_eq_true rfl) (Nat.le_of_ble_eq_true rfl) dJ7_copyOf_9075b_28 (fun H locs hR hS => ?_)
  have hR := hR.row (g := fun i => cs.getD i 0) (by rw [nI_clamp (by omega)]; exact row_cpy hcs)
  obtain ⟨σ_2, hs_2⟩ : ∃ z9 : Nat → Option va_E, z9 = va_up σ_1 m (some (.inl (G.2.1 2, N, .inl (fun i => cs.getD i 0)))) := ⟨_, rfl⟩
  have hR : fR G (m + 1, σ_2) H := by rw [hs_2]; exact hR
  have e_2 : σ_2 m = some (.inl (G.2.1 2, N, .inl (fun i => cs.getD i 0))) := by rw [hs_2]; exact va_up_at
  have f_2 : ∀ q9 : Nat, ¬ q9 = m → σ_2 q9 = σ_1 q9 := fun q9 hq => by rw [hs_2]; exact va_up_off hq
  clear hs_2
  refine lv_aload_n hx hb dJ7_copyOf_9075b_31 rfl (lv_at hl 0 rfl) ?_
  refine W.widen (k := 1) (n := 1000) (by first | exact Nat.le_of_ble_eq_true rfl | omega) (by show 0 + N ≤ 1000; omega) ?_
  refine fw_aret hx hb hr (Or.inr ⟨_, rfl⟩) hlocks hR hS dJ7_copyOf_9075b_32 ?_
  exact ⟨rfl, rfl, e_2, fun q9 h1 => (f_2 q9 h1).trans (f_1 q9 h1)⟩

set_option maxHeartbeats 4000000 in
set_option maxRecDepth 100000 in
theorem c_J5_ensureCapacityInternal_d00dfA (G : FG) (hL : FL G) (l : Launch) (ω : FWd) (hJ : FJ G) (q vb cap n : Nat) (f : Nat → Int32) (hq : ω.2 q = some (.inr (1, [.ref vb, .int 0, .int 0, .int (nI n)]))) (hv : ω.2 vb = some (.inl (G.2.1 2, cap, .inl f))) (hcap : cap < 100000) (k : Nat) (hk : k ≤ cap) : FMet G l yJ5_ensureCapacityInternal_d00df wsJ5_ensureCapacityInternal_d00df ({ frames := 0, cells := 0, slots := 0, locals := 0 } : Room) [.ref q, .int (nI k)] ω (rV ω) 0 0 := by
  refine fw_ofW (cc := cJ5_ensureCapacityInternal_d00df) (maxL := 3) (ret := none) (by decide) rfl (Nat.le_of_ble_eq_true rfl) ?_
  intro pP eE sS mI ar9 bl9 meth cD ls hx hb hr hlocks hml hts hown hnm hW hR hl
  have hK := hL.K hW
  have hR0 := hR
  have hS : va_S (fwA G) sS.heap sS.heap [] := va_S.rf
  have hl : lv_has ls 3 [(0, .ref q), (1, .int (nI k))] := hl
  have hin4 : ∀ w ∈ u_ws RJ4 TJ4 4, w ∈ wsJ5_ensureCapacityInternal_d00df := by decide +kernel
  refine lv_aload_n hx hb dJ5_ensureCapacityInternal_d00df_0 rfl (lv_at hl 0 rfl) ?_
  refine fw_get (C := RJ4) (T := TJ4) (N := 4) hx hb hts hin4 hown hK hR hq rfl 0 (by decide) (hts (.fieldLink RJ5 15 "java/lang/AbstractStringBuilder" "value" "[B") (by decide +kernel)) rfl dJ5_ensureCapacityInternal_d00df_1 ?_
  refine va_alen hx hb hK (hR.at1 hv) 0 2 rfl rfl (v := nI cap) rfl dJ5_ensureCapacityInternal_d00df_4 ?_
  refine lv_aload_n hx hb dJ5_ensureCapacityInternal_d00df_5 rfl (lv_at hl 0 rfl) ?_
  refine fw_get (C := RJ4) (T := TJ4) (N := 4) hx hb hts hin4 hown hK hR hq rfl 1 (by decide) (hts (.fieldLink RJ5 22 "java/lang/AbstractStringBuilder" "coder" "B") (by decide +kernel)) rfl dJ5_ensureCapacityInternal_d00df_6 ?_
  refine lv_ishr hx hb dJ5_ensureCapacityInternal_d00df_9 ?_
  refine W.eq (g2 := F0 mI 10 ls [.int (nI cap)]) (by rw [shr_0 (by omega)]) ?_
  refine lv_istore_n (lv' := [(2, .int (nI cap)), (0, .ref q), (1, .int (nI k))]) hx hb dJ5_ensureCapacityInternal_d00df_10 rfl hl (by decide) rfl (fun ls hl => ?_)
  refine lv_iload_n hx hb dJ5_ensureCapacityInternal_d00df_11 rfl (lv_at hl 2 rfl) ?_
  refine lv_iload_n hx hb dJ5_ensureCapacityInternal_d00df_12 rfl (lv_at hl 0 rfl) ?_
  refine lv_isub hx hb dJ5_ensureCapacityInternal_d00df_13 ?_
  refine lv_if_le (tgt := 38) hx hb dJ5_ensureCapacityInternal_d00df_14 (by decide) (fun c => ?_) (fun c => absurd (le_sub hk (by omega) (by omega)) c)
  exact fw_vret hx hb hr hlocks hR hS dJ5_ensureCapacityInternal_d00df_38 rV_mk

set_option maxHeartbeats 4000000 in
set_option maxRecDepth 100000 in
theorem c_J5_ensureCapacityInternal_d00dfB (G : FG) (hL : FL G) (l : Launch) (ω : FWd) (hJ : FJ G) (k q vb m cap n N : Nat) (hk : cap < k) (hk9 : k < 300) (cs : List Int32) (hn : ω.1 = m) (hq : ω.2 q = some (.inr (1, [.ref vb, .int 0, .int 0, .int (nI n)]))) (hv : ω.2 vb = some (.inl (G.2.1 2, cap, .inl (fun i => cs.getD i 0)))) (hcs : cs.length ≤ cap) (ha : Asc cs) (hqm : q < m) (hvm : vb < m) (hcap : cap < 300) (hN : N = cap + max (k - cap) (cap + 2)) : FMet G l yJ5_ensureCapacityInternal_d00df wsJ5_ensureCapacityInternal_d00df ({ frames := 3, cells := 1, slots := 1000, locals := 88 } : Room) [.ref q, .int (nI k)] ω (fun vv9 τ9 => vv9 = none ∧ τ9.1 = m + 1 ∧ τ9.2 q = some (.inr (1, [.ref m, .int 0, .int 0, .int (nI n)])) ∧ τ9.2 m = some (.inl (G.2.1 2, N, .inl (fun i => cs.getD i 0))) ∧ ∀ q9 : Nat, ¬ q9 = q → ¬ q9 = m → τ9.2 q9 = ω.2 q9) 1 1000 := by
  refine fw_ofW (cc := cJ5_ensureCapacityInternal_d00df) (maxL := 3) (ret := none) (by decide) rfl (Nat.le_of_ble_eq_true rfl) ?_
  intro pP eE sS mI ar9 bl9 meth cD ls hx hb hr hlocks hml hts hown hnm hW hR hl
  have hK := hL.K hW
  have hR0 := hR
  have hS : va_S (fwA G) sS.heap sS.heap [] := va_S.rf
  have hl : lv_has ls 3 [(0, .ref q), (1, .int (nI k))] := hl
  have hin4 : ∀ w ∈ u_ws RJ4 TJ4 4, w ∈ wsJ5_ensureCapacityInternal_d00df := by decide +kernel
  have hm9 : max (k - cap) (cap + 2) < 400 := Nat.max_lt.mpr ⟨by omega, by omega⟩
  have hm8 : cap + 2 ≤ max (k - cap) (cap + 2) := Nat.le_max_right _ _
  refine lv_aload_n hx hb dJ5_ensureCapacityInternal_d00df_0 rfl (lv_at hl 0 rfl) ?_
  refine fw_get (C := RJ4) (T := TJ4) (N := 4) hx hb hts hin4 hown hK hR hq rfl 0 (by decide) (hts (.fieldLink RJ5 15 "java/lang/AbstractStringBuilder" "value" "[B") (by decide +kernel)) rfl dJ5_ensureCapacityInternal_d00df_1 ?_
  refine va_alen hx hb hK (hR.at1 hv) 0 2 rfl rfl (v := nI cap) rfl dJ5_ensureCapacityInternal_d00df_4 ?_
  refine lv_aload_n hx hb dJ5_ensureCapacityInternal_d00df_5 rfl (lv_at hl 0 rfl) ?_
  refine fw_get (C := RJ4) (T := TJ4) (N := 4) hx hb hts hin4 hown hK hR hq rfl 1 (by decide) (hts (.fieldLink RJ5 22 "java/lang/AbstractStringBuilder" "coder" "B") (by decide +kernel)) rfl dJ5_ensureCapacityInternal_d00df_6 ?_
  refine lv_ishr hx hb dJ5_ensureCapacityInternal_d00df_9 ?_
  refine W.eq (g2 := F0 mI 10 ls [.int (nI cap)]) (by rw [shr_0 (by omega)]) ?_
  refine lv_istore_n (lv' := [(2, .int (nI cap)), (0, .ref q), (1, .int (nI k))]) hx hb dJ5_ensureCapacityInternal_d00df_10 rfl hl (by decide) rfl (fun ls hl => ?_)
  refine lv_iload_n hx hb dJ5_ensureCapacityInternal_d00df_11 rfl (lv_at hl 2 rfl) ?_
  refine lv_iload_n hx hb dJ5_ensureCapacityInternal_d00df_12 rfl (lv_at hl 0 rfl) ?_
  refine lv_isub hx hb dJ5_ensureCapacityInternal_d00df_13 ?_
  refine lv_if_le (tgt := 38) hx hb dJ5_ensureCapacityInternal_d00df_14 (by decide) (fun c => absurd c (nle_sub hk (by omega) (by omega))) (fun c => ?_)
  refine lv_aload_n hx hb dJ5_ensureCapacityInternal_d00df_17 rfl (lv_at hl 1 rfl) ?_
  refine lv_aload_n hx hb dJ5_ensureCapacityInternal_d00df_18 rfl (lv_at hl 1 rfl) ?_
  refine fw_get (C := RJ4) (T := TJ4) (N := 4) hx hb hts hin4 hown hK hR hq rfl 0 (by decide) (hts (.fieldLink RJ5 15 "java/lang/AbstractStringBuilder" "value" "[B") (by decide +kernel)) rfl dJ5_ensureCapacityInternal_d00df_19 ?_
  refine lv_aload_n hx hb dJ5_ensureCapacityInternal_d00df_22 rfl (lv_at hl 1 rfl) ?_
  refine lv_iload_n hx hb dJ5_ensureCapacityInternal_d00df_23 rfl (lv_at hl 2 rfl) ?_
  refine fw_call (va_runU (As := [.int (nI k)]) (rest := [.ref vb, .ref q]) ⟨hx, hb, hml, hown, hts⟩ (c_J5_newCapacity_0f7a4 G hL l ω hJ q vb cap n (fun i => cs.getD i 0) hq hv (by omega) k hk (by omega)) (va_cwU 1 hts gJ5_ensureCapacityInternal_d00df_J5_newCapacity_0f7a4_u104J4 rfl rfl rfl rfl (by decide +kernel) ⟨Nat.le_of_ble_eq_true rfl, Nat.le_of_ble_eq_true rfl⟩) (fw_preV hW hK hR hq rfl) rfl rfl hl.1 rfl (lv_room (Nat.le_of_ble_eq_true rfl)) dJ5_ensureCapacityInternal_d00df_24 ⟨by first | exact Nat.le_of_ble_eq_true rfl | omega, by first | exact Nat.le_of_ble_eq_true rfl | omega⟩) hS (fun v_1 τ_1 H locs hq_1 hR hS => ?_)
  obtain ⟨rfl, hq_1⟩ := hq_1
  rw [hq_1] at hR
  refine W.eq (g2 := F0 mI 27 ls [.int (nI (cap + max (k - cap) (cap + 2))), .ref vb, .ref q]) rfl ?_
  refine W.eq (g2 := F0 mI 27 ls [.int (nI N), .ref vb, .ref q]) (by rw [hN]) ?_
  refine lv_aload_n hx hb dJ5_ensureCapacityInternal_d00df_27 rfl (lv_at hl 1 rfl) ?_
  refine fw_get (C := RJ4) (T := TJ4) (N := 4) hx hb hts hin4 hown hK hR hq rfl 1 (by decide) (hts (.fieldLink RJ5 22 "java/lang/AbstractStringBuilder" "coder" "B") (by decide +kernel)) rfl dJ5_ensureCapacityInternal_d00df_28 ?_
  refine lv_ishl hx hb dJ5_ensureCapacityInternal_d00df_31 ?_
  refine W.eq (g2 := F0 mI 32 ls [.int (nI N), .ref vb, .ref q]) (by rw [shl_0 (by omega)]) ?_
  refine fw_call (va_runS (As := [.ref vb, .int (nI N)]) (rest := [.ref q]) ⟨hx, hb, hml, hown, hts⟩ (c_J7_copyOf_9075b G hL l ω hJ vb m cap N cs hn hv hcs ha hvm (by omega) (by omega)) (va_cwS 2 hts gJ5_ensureCapacityInternal_d00df_J7_copyOf_9075b rfl rfl rfl (by decide +kernel) ⟨Nat.le_of_ble_eq_true rfl, Nat.le_of_ble_eq_true rfl⟩) (fw_preS hW hR) rfl rfl hl.1 rfl (lv_room (Nat.le_of_ble_eq_true rfl)) dJ5_ensureCapacityInternal_d00df_32 ⟨by first | exact Nat.le_of_ble_eq_true rfl | omega, by first | exact Nat.le_of_ble_eq_true rfl | omega⟩) hS (fun v_2 τ_2 H locs hq_2 hR hS => ?_)
  obtain ⟨rfl, g1, g2, g3⟩ := hq_2
  obtain ⟨σ_0, hs0⟩ : ∃ z9 : Nat → Option va_E, z9 = τ_2.2 := ⟨_, rfl⟩
  have hR : fR G (m + 1, σ_0) H := by rw [hs0, ← g1]; exact hR
  rw [← hs0] at g2 g3
  refine W.eq (g2 := F0 mI 35 ls [.ref m, .ref q]) rfl ?_
  refine fw_put (v := .ref m) (C := RJ4) (T := TJ4) (N := 4) hx hb hts hin4 tyJ4 tyJ4_ok nmJ4 hown hK hR hS ((g3 q (by omega)).trans hq) rfl 0 (by decide) (hts (.fieldLink RJ5 15 "java/lang/AbstractStringBuilder" "value" "[B") (by decide +kernel)) rfl rfl rfl (Nat.le_of_ble_eq_true rfl) dJ5_ensureCapacityInternal_d00df_35 (fun H locs hR hS => ?_)
  obtain ⟨σ_3, hs_3⟩ : ∃ z9 : Nat → Option va_E, z9 = va_up σ_0 q (some (.inr (1, [.ref m, .int 0, .int 0, .int (nI n)]))) := ⟨_, rfl⟩
  have hR : fR G (m + 1, σ_3) H := by rw [hs_3]; exact hR
  have e_3 : σ_3 q = some (.inr (1, [.ref m, .int 0, .int 0, .int (nI n)])) := by rw [hs_3]; exact va_up_at
  have f_3 : ∀ q9 : Nat, ¬ q9 = q → σ_3 q9 = σ_0 q9 := fun q9 hq => by rw [hs_3]; exact va_up_off hq
  clear hs_3
  refine fw_vret hx hb hr hlocks hR hS dJ5_ensureCapacityInternal_d00df_38 ?_
  exact ⟨rfl, rfl, e_3, (f_3 m (by omega)).trans g2, fun q9 h1 h2 => (f_3 q9 h1).trans (g3 q9 h2)⟩

set_option maxHeartbeats 4000000 in
set_option maxRecDepth 100000 in
theorem c_J5_inflateIfNeededFor_a7421 (G : FG) (hL : FL G) (l : Launch) (ω : FWd) (hJ : FJ G) (q vb cap n : Nat) (f : Nat → Int32) (hq : ω.2 q = some (.inr (1, [.ref vb, .int 0, .int 0, .int (nI n)]))) (hv : ω.2 vb = some (.inl (G.2.1 2, cap, .inl f))) (hcap : cap < 100000) (t : Nat) (lt : List Int32) (ht : StrF G t lt) : FMet G l yJ5_inflateIfNeededFor_a7421 wsJ5_inflateIfNeededFor_a7421 ({ frames := 1, cells := 0, slots := 0, locals := 20 } : Room) [.ref q, .ref t] ω (rV ω) 0 0 := by
  refine fw_ofW (cc := cJ5_inflateIfNeededFor_a7421) (maxL := 2) (ret := none) (by decide) rfl (Nat.le_of_ble_eq_true rfl) ?_
  intro pP eE sS mI ar9 bl9 meth cD ls hx hb hr hlocks hml hts hown hnm hW hR hl
  have hK := hL.K hW
  have hR0 := hR
  have hS : va_S (fwA G) sS.heap sS.heap [] := va_S.rf
  have hl : lv_has ls 2 [(0, .ref q), (1, .ref t)] := hl
  have hin4 : ∀ w ∈ u_ws RJ4 TJ4 4, w ∈ wsJ5_inflateIfNeededFor_a7421 := by decide +kernel
  refine va_gets (own := RJ5) (ref := "java/lang/String") hx hb ((va_Z.moved hW.alike hJ.1).kept hR0.2.1.2.1) hS hown (hts (.fieldLink RJ5 18 "java/lang/String" "COMPACT_STRINGS" "Z") (by decide +kernel)) (fun _ h => h) dJ5_inflateIfNeededFor_a7421_0 ?_
  refine lv_if_eq (tgt := 21) hx hb dJ5_inflateIfNeededFor_a7421_3 (by decide) (fun c => absurd c (by decide)) (fun c => ?_)
  refine lv_aload_n hx hb dJ5_inflateIfNeededFor_a7421_6 rfl (lv_at hl 0 rfl) ?_
  refine fw_get (C := RJ4) (T := TJ4) (N := 4) hx hb hts hin4 hown hK hR hq rfl 1 (by decide) (hts (.fieldLink RJ5 22 "java/lang/AbstractStringBuilder" "coder" "B") (by decide +kernel)) rfl dJ5_inflateIfNeededFor_a7421_7 ?_
  refine lv_aload_n hx hb dJ5_inflateIfNeededFor_a7421_10 rfl (lv_at hl 1 rfl) ?_
  refine fw_call (va_runV (As := []) (rest := [.int 0]) ⟨hx, hb, hml, hown, hts⟩ (c_J0_coder_7d493 G hL l ω hJ t lt ht) (cwV 0 hts gJ5_inflateIfNeededFor_a7421_J0_coder_7d493 rfl rfl rfl (by decide +kernel) ⟨Nat.le_of_ble_eq_true rfl, Nat.le_of_ble_eq_true rfl⟩) (fw_preStr hW hR ((va_O.moved hW.alike ht.1).kept hR0.2.1.2.1) hS) rfl rfl hl.1 rfl (lv_room (Nat.le_of_ble_eq_true rfl)) dJ5_inflateIfNeededFor_a7421_11 ⟨by first | exact Nat.le_of_ble_eq_true rfl | omega, by first | exact Nat.le_of_ble_eq_true rfl | omega⟩) hS (fun v_1 τ_1 H locs hq_1 hR hS => ?_)
  obtain ⟨rfl, hq_1⟩ := hq_1
  rw [hq_1] at hR
  refine W.eq (g2 := F0 mI 14 ls [.int 0, .int 0]) rfl ?_
  refine lv_icmp_eq (tgt := 21) hx hb dJ5_inflateIfNeededFor_a7421_14 (by decide) (fun c => ?_) (fun c => absurd rfl c)
  exact fw_vret hx hb hr hlocks hR hS dJ5_inflateIfNeededFor_a7421_21 rV_mk

set_option maxHeartbeats 4000000 in
set_option maxRecDepth 100000 in
theorem c_J0_getBytes_840e7 (G : FG) (hL : FL G) (l : Launch) (ω : FWd) (hJ : FJ G) (vb cap n : Nat) (cs : List Int32) (hv : ω.2 vb = some (.inl (G.2.1 2, cap, .inl (fun i => cs.getD i 0)))) (hn : n = cs.length) (hcap : cap < 1000) (t : Nat) (lt : List Int32) (ht : StrF G t lt) (hlt : n + lt.length ≤ cap) (ha : Asc lt) : FMet G l yJ0_getBytes_840e7 wsJ0_getBytes_840e7 ({ frames := 1, cells := 0, slots := 0, locals := 60 } : Room) [.ref t, .ref vb, .int (nI n), .int 0] ω (fun vv9 τ9 => vv9 = none ∧ τ9.1 = ω.1 ∧ τ9.2 vb = some (.inl (G.2.1 2, cap, .inl (fun i => (cs ++ lt).getD i 0))) ∧ ∀ q9 : Nat, ¬ q9 = vb → τ9.2 q9 = ω.2 q9) 0 0 := by
  refine fw_ofW (cc := cJ0_getBytes_840e7) (maxL := 4) (ret := none) (by decide) rfl (Nat.le_of_ble_eq_true rfl) ?_
  intro pP eE sS mI ar9 bl9 meth cD ls hx hb hr hlocks hml hts hown hnm hW hR hl
  have hK := hL.K hW
  have hR0 := hR
  have hS : va_S (fwA G) sS.heap sS.heap [] := va_S.rf
  have hl : lv_has ls 4 [(0, .ref t), (1, .ref vb), (2, .int (nI n)), (3, .int 0)] := hl
  obtain ⟨q1, q2, b, q3, q4⟩ := id ht
  have hR0 := hR
  refine lv_aload_n hx hb dJ0_getBytes_840e7_0 rfl (lv_at hl 0 rfl) ?_
  refine fw_call (va_runV (As := []) (rest := []) ⟨hx, hb, hml, hown, hts⟩ (c_J0_coder_7d493 G hL l ω hJ t lt ht) (cwV 0 hts gJ0_getBytes_840e7_J0_coder_7d493 rfl rfl rfl (by decide +kernel) ⟨Nat.le_of_ble_eq_true rfl, Nat.le_of_ble_eq_true rfl⟩) (fw_preStr hW hR ((va_O.moved hW.alike ht.1).kept hR0.2.1.2.1) hS) rfl rfl hl.1 rfl (lv_room (Nat.le_of_ble_eq_true rfl)) dJ0_getBytes_840e7_1 ⟨by first | exact Nat.le_of_ble_eq_true rfl | omega, by first | exact Nat.le_of_ble_eq_true rfl | omega⟩) hS (fun v_1 τ_1 H locs hq_1 hR hS => ?_)
  obtain ⟨rfl, hq_1⟩ := hq_1
  rw [hq_1] at hR
  refine W.eq (g2 := F0 mI 4 ls [.int 0]) rfl ?_
  refine lv_iload_n hx hb dJ0_getBytes_840e7_4 rfl (lv_at hl 3 rfl) ?_
  refine lv_icmp_ne (tgt := 28) hx hb dJ0_getBytes_840e7_5 (by decide) (fun c => absurd rfl c) (fun c => ?_)
  refine lv_aload_n hx hb dJ0_getBytes_840e7_8 rfl (lv_at hl 0 rfl) ?_
  refine vk_getf (own := RJ0) (ref := "java/lang/String") hx hb ((va_OF.moved hW.alike q3).kept hR0.2.1.2.1) hS hown (hts (.fieldLink RJ0 9 "java/lang/String" "value" "[B") (by decide +kernel)) (fun _ h => h) dJ0_getBytes_840e7_9 ?_
  refine lv_iconst (v := 0) hx hb dJ0_getBytes_840e7_12 (by decide) ?_
  refine lv_aload_n hx hb dJ0_getBytes_840e7_13 rfl (lv_at hl 1 rfl) ?_
  refine lv_iload_n hx hb dJ0_getBytes_840e7_14 rfl (lv_at hl 2 rfl) ?_
  refine lv_iload_n hx hb dJ0_getBytes_840e7_15 rfl (lv_at hl 3 rfl) ?_
  refine lv_ishl hx hb dJ0_getBytes_840e7_16 ?_
  refine lv_aload_n hx hb dJ0_getBytes_840e7_17 rfl (lv_at hl 0 rfl) ?_
  refine W.eq (g2 := F0 mI 18 ls [.ref t, .int (nI n), .ref vb, .int 0, .ref b]) (by rw [shl_0 (by omega)]) ?_
  refine vk_getf (own := RJ0) (ref := "java/lang/String") hx hb ((va_OF.moved hW.alike q3).kept hR0.2.1.2.1) hS hown (hts (.fieldLink RJ0 9 "java/lang/String" "value" "[B") (by decide +kernel)) (fun _ h => h) dJ0_getBytes_840e7_18 ?_
  refine va_tlen hx hb ((va_T.moved hW.alike q4).kept hR0.2.1.2.1) hS (v := nI lt.length) rfl dJ0_getBytes_840e7_21 ?_
  refine fw_copytb hx hb (hml.trans hl.1.symm) hown (index := 212) (hts (.methodLink RJ0 212 arraycopyName) (by decide +kernel)) (hts (.native arraycopyName) (by decide +kernel)) (hts (.static arraycopyName) (by decide +kernel)) (hts (.initialized "java/lang/System") (by decide +kernel)) hK hR hS (f := fun j => lt.getD j 0) ((va_T.moved hW.alike q4).kept hR0.2.1.2.1) hv (by decide) (nI_pos (by omega)) (nI_pos (by omega)) (by rw [nI_clamp (by omega)]; show 0 + _ ≤ _; omega) (by rw [nI_clamp (by omega), nI_clamp (by omega)]; omega) (fun i _ => ha _) (Nat.le_of_ble_eq_true rfl) (Nat.le_of_ble_eq_true rfl) dJ0_getBytes_840e7_22 (fun H locs hR hS => ?_)
  have hR := hR.row (g := fun i => (cs ++ lt).getD i 0) (fun j _ => by rw [nI_clamp (by omega), nI_clamp (by omega), hn]; exact row_app j)
  obtain ⟨σ_2, hs_2⟩ : ∃ z9 : Nat → Option va_E, z9 = va_up ω.2 vb (some (.inl (G.2.1 2, cap, .inl (fun i => (cs ++ lt).getD i 0)))) := ⟨_, rfl⟩
  have hR : fR G (ω.1, σ_2) H := by rw [hs_2]; exact hR
  have e_2 : σ_2 vb = some (.inl (G.2.1 2, cap, .inl (fun i => (cs ++ lt).getD i 0))) := by rw [hs_2]; exact va_up_at
  have f_2 : ∀ q9 : Nat, ¬ q9 = vb → σ_2 q9 = ω.2 q9 := fun q9 hq => by rw [hs_2]; exact va_up_off hq
  clear hs_2
  refine lv_goto (tgt := 43) hx hb dJ0_getBytes_840e7_25 (by decide) ?_
  refine fw_vret hx hb hr hlocks hR hS dJ0_getBytes_840e7_43 ?_
  exact ⟨rfl, rfl, e_2, f_2⟩

set_option maxHeartbeats 4000000 in
set_option maxRecDepth 100000 in
theorem c_J5_putStringAt_47b60 (G : FG) (hL : FL G) (l : Launch) (ω : FWd) (hJ : FJ G) (q vb cap n : Nat) (cs : List Int32) (hq : ω.2 q = some (.inr (1, [.ref vb, .int 0, .int 0, .int (nI n)]))) (hv : ω.2 vb = some (.inl (G.2.1 2, cap, .inl (fun i => cs.getD i 0)))) (hn : n = cs.length) (hcap : cap < 1000) (t : Nat) (lt : List Int32) (ht : StrF G t lt) (hlt : n + lt.length ≤ cap) (ha : Asc lt) : FMet G l yJ5_putStringAt_47b60 wsJ5_putStringAt_47b60 ({ frames := 2, cells := 0, slots := 0, locals := 83 } : Room) [.ref q, .int (nI n), .ref t] ω (fun vv9 τ9 => vv9 = none ∧ τ9.1 = ω.1 ∧ τ9.2 vb = some (.inl (G.2.1 2, cap, .inl (fun i => (cs ++ lt).getD i 0))) ∧ ∀ q9 : Nat, ¬ q9 = vb → τ9.2 q9 = ω.2 q9) 0 0 := by
  refine fw_ofW (cc := cJ5_putStringAt_47b60) (maxL := 3) (ret := none) (by decide) rfl (Nat.le_of_ble_eq_true rfl) ?_
  intro pP eE sS mI ar9 bl9 meth cD ls hx hb hr hlocks hml hts hown hnm hW hR hl
  have hK := hL.K hW
  have hR0 := hR
  have hS : va_S (fwA G) sS.heap sS.heap [] := va_S.rf
  have hl : lv_has ls 3 [(0, .ref q), (1, .int (nI n)), (2, .ref t)] := hl
  have hin4 : ∀ w ∈ u_ws RJ4 TJ4 4, w ∈ wsJ5_putStringAt_47b60 := by decide +kernel
  refine lv_aload_n hx hb dJ5_putStringAt_47b60_0 rfl (lv_at hl 0 rfl) ?_
  refine lv_aload_n hx hb dJ5_putStringAt_47b60_1 rfl (lv_at hl 2 rfl) ?_
  refine fw_call (va_runU (As := [.ref t]) (rest := []) ⟨hx, hb, hml, hown, hts⟩ (c_J5_inflateIfNeededFor_a7421 G hL l ω hJ q vb cap n (fun i => cs.getD i 0) hq hv (by omega) t lt ht) (va_cwU 1 hts gJ5_putStringAt_47b60_J5_inflateIfNeededFor_a7421_u397J4 rfl rfl rfl rfl (by decide +kernel) ⟨Nat.le_of_ble_eq_true rfl, Nat.le_of_ble_eq_true rfl⟩) (fw_preV hW hK hR hq rfl) rfl rfl hl.1 rfl (lv_room (Nat.le_of_ble_eq_true rfl)) dJ5_putStringAt_47b60_2 ⟨by first | exact Nat.le_of_ble_eq_true rfl | omega, by first | exact Nat.le_of_ble_eq_true rfl | omega⟩) hS (fun v_1 τ_1 H locs hq_1 hR hS => ?_)
  obtain ⟨rfl, hq_1⟩ := hq_1
  rw [hq_1] at hR
  refine W.eq (g2 := F0 mI 5 ls []) rfl ?_
  refine lv_aload_n hx hb dJ5_putStringAt_47b60_5 rfl (lv_at hl 2 rfl) ?_
  refine lv_aload_n hx hb dJ5_putStringAt_47b60_6 rfl (lv_at hl 0 rfl) ?_
  refine fw_get (C := RJ4) (T := TJ4) (N := 4) hx hb hts hin4 hown hK hR hq rfl 0 (by decide) (hts (.fieldLink RJ5 15 "java/lang/AbstractStringBuilder" "value" "[B") (by decide +kernel)) rfl dJ5_putStringAt_47b60_7 ?_
  refine lv_iload_n hx hb dJ5_putStringAt_47b60_10 rfl (lv_at hl 1 rfl) ?_
  refine lv_aload_n hx hb dJ5_putStringAt_47b60_11 rfl (lv_at hl 0 rfl) ?_
  refine fw_get (C := RJ4) (T := TJ4) (N := 4) hx hb hts hin4 hown hK hR hq rfl 1 (by decide) (hts (.fieldLink RJ5 22 "java/lang/AbstractStringBuilder" "coder" "B") (by decide +kernel)) rfl dJ5_putStringAt_47b60_12 ?_
  refine fw_call (va_runV (As := [.ref vb, .int (nI n), .int 0]) (rest := []) ⟨hx, hb, hml, hown, hts⟩ (c_J0_getBytes_840e7 G hL l ω hJ vb cap n cs hv hn hcap t lt ht hlt ha) (cwV 3 hts gJ5_putStringAt_47b60_J0_getBytes_840e7 rfl rfl rfl (by decide +kernel) ⟨Nat.le_of_ble_eq_true rfl, Nat.le_of_ble_eq_true rfl⟩) (fw_preStr hW hR ((va_O.moved hW.alike ht.1).kept hR0.2.1.2.1) hS) rfl rfl hl.1 rfl (lv_room (Nat.le_of_ble_eq_true rfl)) dJ5_putStringAt_47b60_15 ⟨by first | exact Nat.le_of_ble_eq_true rfl | omega, by first | exact Nat.le_of_ble_eq_true rfl | omega⟩) hS (fun v_2 τ_2 H locs hq_2 hR hS => ?_)
  obtain ⟨rfl, g1, g2, g3⟩ := hq_2
  refine W.eq (g2 := F0 mI 18 ls []) rfl ?_
  refine fw_vret hx hb hr hlocks hR hS dJ5_putStringAt_47b60_18 ?_
  exact ⟨rfl, g1, g2, g3⟩

set_option maxHeartbeats 4000000 in
set_option maxRecDepth 100000 in
theorem c_J5_append_cf1ceA (G : FG) (hL : FL G) (l : Launch) (ω : FWd) (hJ : FJ G) (q vb cap n : Nat) (cs : List Int32) (hq : ω.2 q = some (.inr (1, [.ref vb, .int 0, .int 0, .int (nI n)]))) (hv : ω.2 vb = some (.inl (G.2.1 2, cap, .inl (fun i => cs.getD i 0)))) (hqv : ¬ q = vb) (hn : n = cs.length) (hcap : cap < 1000) (t : Nat) (lt : List Int32) (ht : StrF G t lt) (hlt : n + lt.length ≤ cap) (hl9 : lt.length < 100) (ha : Asc lt) : FMet G l yJ5_append_cf1ce wsJ5_append_cf1ce ({ frames := 3, cells := 0, slots := 0, locals := 105 } : Room) [.ref q, .ref t] ω (fun vv9 τ9 => vv9 = some (.ref q) ∧ τ9.1 = ω.1 ∧ τ9.2 q = some (.inr (1, [.ref vb, .int 0, .int 0, .int (nI (n + lt.length))])) ∧ τ9.2 vb = some (.inl (G.2.1 2, cap, .inl (fun i => (cs ++ lt).getD i 0))) ∧ ∀ q9 : Nat, ¬ q9 = q → ¬ q9 = vb → τ9.2 q9 = ω.2 q9) 0 0 := by
  refine fw_ofW (cc := cJ5_append_cf1ce) (maxL := 3) (ret := (some (.object "java/lang/AbstractStringBuilder"))) (by decide) rfl (Nat.le_of_ble_eq_true rfl) ?_
  intro pP eE sS mI ar9 bl9 meth cD ls hx hb hr hlocks hml hts hown hnm hW hR hl
  have hK := hL.K hW
  have hR0 := hR
  have hS : va_S (fwA G) sS.heap sS.heap [] := va_S.rf
  have hl : lv_has ls 3 [(0, .ref q), (1, .ref t)] := hl
  have hin4 : ∀ w ∈ u_ws RJ4 TJ4 4, w ∈ wsJ5_append_cf1ce := by decide +kernel
  refine lv_aload_n hx hb dJ5_append_cf1ce_0 rfl (lv_at hl 1 rfl) ?_
  refine lv_ifnonnull (tgt := 9) hx hb dJ5_append_cf1ce_1 (by decide) ?_
  refine lv_aload_n hx hb dJ5_append_cf1ce_9 rfl (lv_at hl 1 rfl) ?_
  refine fw_call (va_runV (As := []) (rest := []) ⟨hx, hb, hml, hown, hts⟩ (c_J0_length_8abf5 G hL l ω hJ t lt ht) (cwV 0 hts gJ5_append_cf1ce_J0_length_8abf5 rfl rfl rfl (by decide +kernel) ⟨Nat.le_of_ble_eq_true rfl, Nat.le_of_ble_eq_true rfl⟩) (fw_preStr hW hR ((va_O.moved hW.alike ht.1).kept hR0.2.1.2.1) hS) rfl rfl hl.1 rfl (lv_room (Nat.le_of_ble_eq_true rfl)) dJ5_append_cf1ce_10 ⟨by first | exact Nat.le_of_ble_eq_true rfl | omega, by first | exact Nat.le_of_ble_eq_true rfl | omega⟩) hS (fun v_1 τ_1 H locs hq_1 hR hS => ?_)
  obtain ⟨rfl, hq_1⟩ := hq_1
  rw [hq_1] at hR
  refine W.eq (g2 := F0 mI 13 ls [.int (nI lt.length >>> ((0 : Int32) &&& 31))]) rfl ?_
  refine W.eq (g2 := F0 mI 13 ls [.int (nI lt.length)]) (by rw [shr_0 (by omega)]) ?_
  refine lv_istore_n (lv' := [(2, .int (nI lt.length)), (0, .ref q), (1, .ref t)]) hx hb dJ5_append_cf1ce_13 rfl hl (by decide) rfl (fun ls hl => ?_)
  refine lv_aload_n hx hb dJ5_append_cf1ce_14 rfl (lv_at hl 1 rfl) ?_
  refine lv_aload_n hx hb dJ5_append_cf1ce_15 rfl (lv_at hl 1 rfl) ?_
  refine fw_get (C := RJ4) (T := TJ4) (N := 4) hx hb hts hin4 hown hK hR hq rfl 3 (by decide) (hts (.fieldLink RJ5 79 "java/lang/AbstractStringBuilder" "count" "I") (by decide +kernel)) rfl dJ5_append_cf1ce_16 ?_
  refine lv_iload_n hx hb dJ5_append_cf1ce_19 rfl (lv_at hl 0 rfl) ?_
  refine lv_iadd hx hb dJ5_append_cf1ce_20 ?_
  refine W.eq (g2 := F0 mI 21 ls [.int (nI (n + lt.length)), .ref q]) (by rw [nI_add]) ?_
  refine fw_call (va_runU (As := [.int (nI (n + lt.length))]) (rest := []) ⟨hx, hb, hml, hown, hts⟩ (c_J5_ensureCapacityInternal_d00dfA G hL l ω hJ q vb cap n (fun i => cs.getD i 0) hq hv (by omega) (n + lt.length) hlt) (va_cwU 1 hts gJ5_append_cf1ce_J5_ensureCapacityInternal_d00df_u100J4 rfl rfl rfl rfl (by decide +kernel) ⟨Nat.le_of_ble_eq_true rfl, Nat.le_of_ble_eq_true rfl⟩) (fw_preV hW hK hR hq rfl) rfl rfl hl.1 rfl (lv_room (Nat.le_of_ble_eq_true rfl)) dJ5_append_cf1ce_21 ⟨by first | exact Nat.le_of_ble_eq_true rfl | omega, by first | exact Nat.le_of_ble_eq_true rfl | omega⟩) hS (fun v_2 τ_2 H locs hq_2 hR hS => ?_)
  obtain ⟨rfl, hq_2⟩ := hq_2
  rw [hq_2] at hR
  refine W.eq (g2 := F0 mI 24 ls []) rfl ?_
  refine lv_aload_n hx hb dJ5_append_cf1ce_24 rfl (lv_at hl 1 rfl) ?_
  refine lv_aload_n hx hb dJ5_append_cf1ce_25 rfl (lv_at hl 1 rfl) ?_
  refine fw_get (C := RJ4) (T := TJ4) (N := 4) hx hb hts hin4 hown hK hR hq rfl 3 (by decide) (hts (.fieldLink RJ5 79 "java/lang/AbstractStringBuilder" "count" "I") (by decide +kernel)) rfl dJ5_append_cf1ce_26 ?_
  refine lv_aload_n hx hb dJ5_append_cf1ce_29 rfl (lv_at hl 2 rfl) ?_
  refine fw_call (va_runU (As := [.int (nI n), .ref t]) (rest := []) ⟨hx, hb, hml, hown, hts⟩ (c_J5_putStringAt_47b60 G hL l ω hJ q vb cap n cs hq hv hn hcap t lt ht hlt ha) (va_cwU 2 hts gJ5_append_cf1ce_J5_putStringAt_47b60_u208J4 rfl rfl rfl rfl (by decide +kernel) ⟨Nat.le_of_ble_eq_true rfl, Nat.le_of_ble_eq_true rfl⟩) (fw_preV hW hK hR hq rfl) rfl rfl hl.1 rfl (lv_room (Nat.le_of_ble_eq_true rfl)) dJ5_append_cf1ce_30 ⟨by first | exact Nat.le_of_ble_eq_true rfl | omega, by first | exact Nat.le_of_ble_eq_true rfl | omega⟩) hS (fun v_3 τ_3 H locs hq_3 hR hS => ?_)
  obtain ⟨rfl, g1, g2, g3⟩ := hq_3
  obtain ⟨σ_0, hs0⟩ : ∃ z9 : Nat → Option va_E, z9 = τ_3.2 := ⟨_, rfl⟩
  have hR : fR G (ω.1, σ_0) H := by rw [hs0, ← g1]; exact hR
  rw [← hs0] at g2 g3
  refine W.eq (g2 := F0 mI 33 ls []) rfl ?_
  refine lv_aload_n hx hb dJ5_append_cf1ce_33 rfl (lv_at hl 1 rfl) ?_
  refine lv_dup hx hb dJ5_append_cf1ce_34 rfl ?_
  refine fw_get (C := RJ4) (T := TJ4) (N := 4) hx hb hts hin4 hown hK hR ((g3 q hqv).trans hq) rfl 3 (by decide) (hts (.fieldLink RJ5 79 "java/lang/AbstractStringBuilder" "count" "I") (by decide +kernel)) rfl dJ5_append_cf1ce_35 ?_
  refine lv_iload_n hx hb dJ5_append_cf1ce_38 rfl (lv_at hl 0 rfl) ?_
  refine lv_iadd hx hb dJ5_append_cf1ce_39 ?_
  refine W.eq (g2 := F0 mI 40 ls [.int (nI (n + lt.length)), .ref q]) (by rw [nI_add]) ?_
  refine fw_put (v := .int (nI (n + lt.length))) (C := RJ4) (T := TJ4) (N := 4) hx hb hts hin4 tyJ4 tyJ4_ok nmJ4 hown hK hR hS ((g3 q hqv).trans hq) rfl 3 (by decide) (hts (.fieldLink RJ5 79 "java/lang/AbstractStringBuilder" "count" "I") (by decide +kernel)) rfl rfl rfl (Nat.le_of_ble_eq_true rfl) dJ5_append_cf1ce_40 (fun H locs hR hS => ?_)
  obtain ⟨σ_4, hs_4⟩ : ∃ z9 : Nat → Option va_E, z9 = va_up σ_0 q (some (.inr (1, [.ref vb, .int 0, .int 0, .int (nI (n + lt.length))]))) := ⟨_, rfl⟩
  have hR : fR G (ω.1, σ_4) H := by rw [hs_4]; exact hR
  have e_4 : σ_4 q = some (.inr (1, [.ref vb, .int 0, .int 0, .int (nI (n + lt.length))])) := by rw [hs_4]; exact va_up_at
  have f_4 : ∀ q9 : Nat, ¬ q9 = q → σ_4 q9 = σ_0 q9 := fun q9 hq => by rw [hs_4]; exact va_up_off hq
  clear hs_4
  refine lv_aload_n hx hb dJ5_append_cf1ce_43 rfl (lv_at hl 1 rfl) ?_
  refine fw_aret hx hb hr (Or.inl ⟨_, rfl⟩) hlocks hR hS dJ5_append_cf1ce_44 ?_
  exact ⟨rfl, rfl, e_4, (f_4 vb (fun z => hqv z.symm)).trans g2, fun q9 h1 h2 => (f_4 q9 h1).trans (g3 q9 h2)⟩

set_option maxHeartbeats 4000000 in
set_option maxRecDepth 100000 in
theorem c_J5_append_cf1ceB (G : FG) (hL : FL G) (l : Launch) (ω : FWd) (hJ : FJ G) (t : Nat) (lt : List Int32) (ht : StrF G t lt) (q vb m cap n N : Nat) (cs : List Int32) (hn0 : ω.1 = m) (hq : ω.2 q = some (.inr (1, [.ref vb, .int 0, .int 0, .int (nI n)]))) (hv : ω.2 vb = some (.inl (G.2.1 2, cap, .inl (fun i => cs.getD i 0)))) (hn : n = cs.length) (hcs : n ≤ cap) (hac : Asc cs) (hqm : q < m) (hvm : vb < m) (hcap : cap < 150) (hN : N = cap + max (n + lt.length - cap) (cap + 2)) (hlt : cap < n + lt.length) (hl9 : lt.length < 100) (ha : Asc lt) : FMet G l yJ5_append_cf1ce wsJ5_append_cf1ce ({ frames := 4, cells := 1, slots := 1000, locals := 110 } : Room) [.ref q, .ref t] ω (fun vv9 τ9 => vv9 = some (.ref q) ∧ τ9.1 = m + 1 ∧ τ9.2 q = some (.inr (1, [.ref m, .int 0, .int 0, .int (nI (n + lt.length))])) ∧ τ9.2 m = some (.inl (G.2.1 2, N, .inl (fun i => (cs ++ lt).getD i 0))) ∧ ∀ q9 : Nat, ¬ q9 = q → ¬ q9 = m → τ9.2 q9 = ω.2 q9) 1 1000 := by
  refine fw_ofW (cc := cJ5_append_cf1ce) (maxL := 3) (ret := (some (.object "java/lang/AbstractStringBuilder"))) (by decide) rfl (Nat.le_of_ble_eq_true rfl) ?_
  intro pP eE sS mI ar9 bl9 meth cD ls hx hb hr hlocks hml hts hown hnm hW hR hl
  have hK := hL.K hW
  have hR0 := hR
  have hS : va_S (fwA G) sS.heap sS.heap [] := va_S.rf
  have hl : lv_has ls 3 [(0, .ref q), (1, .ref t)] := hl
  have hin4 : ∀ w ∈ u_ws RJ4 TJ4 4, w ∈ wsJ5_append_cf1ce := by decide +kernel
  have hm9 : max (n + lt.length - cap) (cap + 2) < 400 := Nat.max_lt.mpr ⟨by omega, by omega⟩
  have hm7 : n + lt.length - cap ≤ max (n + lt.length - cap) (cap + 2) := Nat.le_max_left _ _
  refine lv_aload_n hx hb dJ5_append_cf1ce_0 rfl (lv_at hl 1 rfl) ?_
  refine lv_ifnonnull (tgt := 9) hx hb dJ5_append_cf1ce_1 (by decide) ?_
  refine lv_aload_n hx hb dJ5_append_cf1ce_9 rfl (lv_at hl 1 rfl) ?_
  refine fw_call (va_runV (As := []) (rest := []) ⟨hx, hb, hml, hown, hts⟩ (c_J0_length_8abf5 G hL l ω hJ t lt ht) (cwV 0 hts gJ5_append_cf1ce_J0_length_8abf5 rfl rfl rfl (by decide +kernel) ⟨Nat.le_of_ble_eq_true rfl, Nat.le_of_ble_eq_true rfl⟩) (fw_preStr hW hR ((va_O.moved hW.alike ht.1).kept hR0.2.1.2.1) hS) rfl rfl hl.1 rfl (lv_room (Nat.le_of_ble_eq_true rfl)) dJ5_append_cf1ce_10 ⟨by first | exact Nat.le_of_ble_eq_true rfl | omega, by first | exact Nat.le_of_ble_eq_true rfl | omega⟩) hS (fun v_1 τ_1 H locs hq_1 hR hS => ?_)
  obtain ⟨rfl, hq_1⟩ := hq_1
  rw [hq_1] at hR
  refine W.eq (g2 := F0 mI 13 ls [.int (nI lt.length >>> ((0 : Int32) &&& 31))]) rfl ?_
  refine W.eq (g2 := F0 mI 13 ls [.int (nI lt.length)]) (by rw [shr_0 (by omega)]) ?_
  refine lv_istore_n (lv' := [(2, .int (nI lt.length)), (0, .ref q), (1, .ref t)]) hx hb dJ5_append_cf1ce_13 rfl hl (by decide) rfl (fun ls hl => ?_)
  refine lv_aload_n hx hb dJ5_append_cf1ce_14 rfl (lv_at hl 1 rfl) ?_
  refine lv_aload_n hx hb dJ5_append_cf1ce_15 rfl (lv_at hl 1 rfl) ?_
  refine fw_get (C := RJ4) (T := TJ4) (N := 4) hx hb hts hin4 hown hK hR hq rfl 3 (by decide) (hts (.fieldLink RJ5 79 "java/lang/AbstractStringBuilder" "count" "I") (by decide +kernel)) rfl dJ5_append_cf1ce_16 ?_
  refine lv_iload_n hx hb dJ5_append_cf1ce_19 rfl (lv_at hl 0 rfl) ?_
  refine lv_iadd hx hb dJ5_append_cf1ce_20 ?_
  refine W.eq (g2 := F0 mI 21 ls [.int (nI (n + lt.length)), .ref q]) (by rw [nI_add]) ?_
  refine fw_call (va_runU (As := [.int (nI (n + lt.length))]) (rest := []) ⟨hx, hb, hml, hown, hts⟩ (c_J5_ensureCapacityInternal_d00dfB G hL l ω hJ (n + lt.length) q vb m cap n N hlt (by omega) cs hn0 hq hv (by omega) hac hqm hvm (by omega) hN) (va_cwU 1 hts gJ5_append_cf1ce_J5_ensureCapacityInternal_d00df_u100J4 rfl rfl rfl rfl (by decide +kernel) ⟨Nat.le_of_ble_eq_true rfl, Nat.le_of_ble_eq_true rfl⟩) (fw_preV hW hK hR hq rfl) rfl rfl hl.1 rfl (lv_room (Nat.le_of_ble_eq_true rfl)) dJ5_append_cf1ce_21 ⟨by first | exact Nat.le_of_ble_eq_true rfl | omega, by first | exact Nat.le_of_ble_eq_true rfl | omega⟩) hS (fun v_2 τ_2 H locs hq_2 hR hS => ?_)
  obtain ⟨rfl, i1, i2, i3, i4⟩ := hq_2
  refine W.eq (g2 := F0 mI 24 ls []) rfl ?_
  refine lv_aload_n hx hb dJ5_append_cf1ce_24 rfl (lv_at hl 1 rfl) ?_
  refine lv_aload_n hx hb dJ5_append_cf1ce_25 rfl (lv_at hl 1 rfl) ?_
  refine fw_get (C := RJ4) (T := TJ4) (N := 4) hx hb hts hin4 hown hK hR i2 rfl 3 (by decide) (hts (.fieldLink RJ5 79 "java/lang/AbstractStringBuilder" "count" "I") (by decide +kernel)) rfl dJ5_append_cf1ce_26 ?_
  refine lv_aload_n hx hb dJ5_append_cf1ce_29 rfl (lv_at hl 2 rfl) ?_
  refine fw_call (va_runU (As := [.int (nI n), .ref t]) (rest := []) ⟨hx, hb, hml, hown, hts⟩ (c_J5_putStringAt_47b60 G hL l τ_2 hJ q m N n cs i2 i3 hn (by omega) t lt ht (by omega) ha) (va_cwU 2 hts gJ5_append_cf1ce_J5_putStringAt_47b60_u208J4 rfl rfl rfl rfl (by decide +kernel) ⟨Nat.le_of_ble_eq_true rfl, Nat.le_of_ble_eq_true rfl⟩) (fw_preV hW hK hR i2 rfl) rfl rfl hl.1 rfl (lv_room (Nat.le_of_ble_eq_true rfl)) dJ5_append_cf1ce_30 ⟨by first | exact Nat.le_of_ble_eq_true rfl | omega, by first | exact Nat.le_of_ble_eq_true rfl | omega⟩) hS (fun v_3 τ_3 H locs hq_3 hR hS => ?_)
  obtain ⟨rfl, g1, g2, g3⟩ := hq_3
  obtain ⟨σ_0, hs0⟩ : ∃ z9 : Nat → Option va_E, z9 = τ_3.2 := ⟨_, rfl⟩
  have hR : fR G (m + 1, σ_0) H := by rw [hs0, ← i1, ← g1]; exact hR
  rw [← hs0] at g2 g3
  refine W.eq (g2 := F0 mI 33 ls []) rfl ?_
  refine lv_aload_n hx hb dJ5_append_cf1ce_33 rfl (lv_at hl 1 rfl) ?_
  refine lv_dup hx hb dJ5_append_cf1ce_34 rfl ?_
  refine fw_get (C := RJ4) (T := TJ4) (N := 4) hx hb hts hin4 hown hK hR ((g3 q (by omega)).trans i2) rfl 3 (by decide) (hts (.fieldLink RJ5 79 "java/lang/AbstractStringBuilder" "count" "I") (by decide +kernel)) rfl dJ5_append_cf1ce_35 ?_
  refine lv_iload_n hx hb dJ5_append_cf1ce_38 rfl (lv_at hl 0 rfl) ?_
  refine lv_iadd hx hb dJ5_append_cf1ce_39 ?_
  refine W.eq (g2 := F0 mI 40 ls [.int (nI (n + lt.length)), .ref q]) (by rw [nI_add]) ?_
  refine fw_put (v := .int (nI (n + lt.length))) (C := RJ4) (T := TJ4) (N := 4) hx hb hts hin4 tyJ4 tyJ4_ok nmJ4 hown hK hR hS ((g3 q (by omega)).trans i2) rfl 3 (by decide) (hts (.fieldLink RJ5 79 "java/lang/AbstractStringBuilder" "count" "I") (by decide +kernel)) rfl rfl rfl (Nat.le_of_ble_eq_true rfl) dJ5_append_cf1ce_40 (fun H locs hR hS => ?_)
  obtain ⟨σ_4, hs_4⟩ : ∃ z9 : Nat → Option va_E, z9 = va_up σ_0 q (some (.inr (1, [.ref m, .int 0, .int 0, .int (nI (n + lt.length))]))) := ⟨_, rfl⟩
  have hR : fR G (m + 1, σ_4) H := by rw [hs_4]; exact hR
  have e_4 : σ_4 q = some (.inr (1, [.ref m, .int 0, .int 0, .int (nI (n + lt.length))])) := by rw [hs_4]; exact va_up_at
  have f_4 : ∀ q9 : Nat, ¬ q9 = q → σ_4 q9 = σ_0 q9 := fun q9 hq => by rw [hs_4]; exact va_up_off hq
  clear hs_4
  refine lv_aload_n hx hb dJ5_append_cf1ce_43 rfl (lv_at hl 1 rfl) ?_
  refine fw_aret hx hb hr (Or.inl ⟨_, rfl⟩) hlocks hR hS dJ5_append_cf1ce_44 ?_
  exact ⟨rfl, rfl, e_4, (f_4 m (by omega)).trans g2, fun q9 h1 h2 => (f_4 q9 h1).trans ((g3 q9 h2).trans (i4 q9 h1 h2))⟩

set_option maxHeartbeats 4000000 in
set_option maxRecDepth 100000 in
theorem c_J4_append_15ec4A (G : FG) (hL : FL G) (l : Launch) (ω : FWd) (hJ : FJ G) (q vb cap n : Nat) (cs : List Int32) (hq : ω.2 q = some (.inr (1, [.ref vb, .int 0, .int 0, .int (nI n)]))) (hv : ω.2 vb = some (.inl (G.2.1 2, cap, .inl (fun i => cs.getD i 0)))) (hqv : ¬ q = vb) (hn : n = cs.length) (hcap : cap < 1000) (t : Nat) (lt : List Int32) (ht : StrF G t lt) (hlt : n + lt.length ≤ cap) (hl9 : lt.length < 100) (ha : Asc lt) : FMet G l yJ4_append_15ec4 wsJ4_append_15ec4 ({ frames := 4, cells := 0, slots := 0, locals := 127 } : Room) [.ref q, .ref t] ω (fun vv9 τ9 => vv9 = some (.ref q) ∧ τ9.1 = ω.1 ∧ τ9.2 q = some (.inr (1, [.ref vb, .int 0, .int 0, .int (nI (n + lt.length))])) ∧ τ9.2 vb = some (.inl (G.2.1 2, cap, .inl (fun i => (cs ++ lt).getD i 0))) ∧ ∀ q9 : Nat, ¬ q9 = q → ¬ q9 = vb → τ9.2 q9 = ω.2 q9) 0 0 := by
  refine fw_ofW (cc := cJ4_append_15ec4) (maxL := 2) (ret := (some (.object "java/lang/StringBuilder"))) (by decide) rfl (Nat.le_of_ble_eq_true rfl) ?_
  intro pP eE sS mI ar9 bl9 meth cD ls hx hb hr hlocks hml hts hown hnm hW hR hl
  have hK := hL.K hW
  have hR0 := hR
  have hS : va_S (fwA G) sS.heap sS.heap [] := va_S.rf
  have hl : lv_has ls 2 [(0, .ref q), (1, .ref t)] := hl
  refine lv_aload_n hx hb dJ4_append_15ec4_0 rfl (lv_at hl 0 rfl) ?_
  refine lv_aload_n hx hb dJ4_append_15ec4_1 rfl (lv_at hl 1 rfl) ?_
  refine fw_call (va_runSU (hK.1 1 _ rfl).2 (As := [.ref t]) (rest := []) ⟨hx, hb, hml, hown, hts⟩ (c_J5_append_cf1ceA G hL l ω hJ q vb cap n cs hq hv hqv hn hcap t lt ht hlt hl9 ha) (va_cwSU 1 hts gJ4_append_15ec4_J5_append_cf1ce_s29 rfl rfl rfl (by decide +kernel) ⟨Nat.le_of_ble_eq_true rfl, Nat.le_of_ble_eq_true rfl⟩) (fw_preV hW hK hR hq rfl) rfl rfl hl.1 rfl (lv_room (Nat.le_of_ble_eq_true rfl)) dJ4_append_15ec4_2 ⟨by first | exact Nat.le_of_ble_eq_true rfl | omega, by first | exact Nat.le_of_ble_eq_true rfl | omega⟩) hS (fun v_1 τ_1 H locs hq_1 hR hS => ?_)
  obtain ⟨rfl, g1, g2, g3, g4⟩ := hq_1
  refine W.eq (g2 := F0 mI 5 ls [.ref q]) rfl ?_
  refine lv_pop hx hb dJ4_append_15ec4_5 rfl ?_
  refine lv_aload_n hx hb dJ4_append_15ec4_6 rfl (lv_at hl 0 rfl) ?_
  refine fw_aret hx hb hr (Or.inl ⟨_, rfl⟩) hlocks hR hS dJ4_append_15ec4_7 ?_
  exact ⟨rfl, g1, g2, g3, g4⟩

set_option maxHeartbeats 4000000 in
set_option maxRecDepth 100000 in
theorem c_J4_append_15ec4B (G : FG) (hL : FL G) (l : Launch) (ω : FWd) (hJ : FJ G) (t : Nat) (lt : List Int32) (ht : StrF G t lt) (q vb m cap n N : Nat) (cs : List Int32) (hn0 : ω.1 = m) (hq : ω.2 q = some (.inr (1, [.ref vb, .int 0, .int 0, .int (nI n)]))) (hv : ω.2 vb = some (.inl (G.2.1 2, cap, .inl (fun i => cs.getD i 0)))) (hn : n = cs.length) (hcs : n ≤ cap) (hac : Asc cs) (hqm : q < m) (hvm : vb < m) (hcap : cap < 150) (hN : N = cap + max (n + lt.length - cap) (cap + 2)) (hlt : cap < n + lt.length) (hl9 : lt.length < 100) (ha : Asc lt) : FMet G l yJ4_append_15ec4 wsJ4_append_15ec4 ({ frames := 5, cells := 1, slots := 1000, locals := 132 } : Room) [.ref q, .ref t] ω (fun vv9 τ9 => vv9 = some (.ref q) ∧ τ9.1 = m + 1 ∧ τ9.2 q = some (.inr (1, [.ref m, .int 0, .int 0, .int (nI (n + lt.length))])) ∧ τ9.2 m = some (.inl (G.2.1 2, N, .inl (fun i => (cs ++ lt).getD i 0))) ∧ ∀ q9 : Nat, ¬ q9 = q → ¬ q9 = m → τ9.2 q9 = ω.2 q9) 1 1000 := by
  refine fw_ofW (cc := cJ4_append_15ec4) (maxL := 2) (ret := (some (.object "java/lang/StringBuilder"))) (by decide) rfl (Nat.le_of_ble_eq_true rfl) ?_
  intro pP eE sS mI ar9 bl9 meth cD ls hx hb hr hlocks hml hts hown hnm hW hR hl
  have hK := hL.K hW
  have hR0 := hR
  have hS : va_S (fwA G) sS.heap sS.heap [] := va_S.rf
  have hl : lv_has ls 2 [(0, .ref q), (1, .ref t)] := hl
  refine lv_aload_n hx hb dJ4_append_15ec4_0 rfl (lv_at hl 0 rfl) ?_
  refine lv_aload_n hx hb dJ4_append_15ec4_1 rfl (lv_at hl 1 rfl) ?_
  refine fw_call (va_runSU (hK.1 1 _ rfl).2 (As := [.ref t]) (rest := []) ⟨hx, hb, hml, hown, hts⟩ (c_J5_append_cf1ceB G hL l ω hJ t lt ht q vb m cap n N cs hn0 hq hv hn hcs hac hqm hvm hcap hN hlt hl9 ha) (va_cwSU 1 hts gJ4_append_15ec4_J5_append_cf1ce_s29 rfl rfl rfl (by decide +kernel) ⟨Nat.le_of_ble_eq_true rfl, Nat.le_of_ble_eq_true rfl⟩) (fw_preV hW hK hR hq rfl) rfl rfl hl.1 rfl (lv_room (Nat.le_of_ble_eq_true rfl)) dJ4_append_15ec4_2 ⟨by first | exact Nat.le_of_ble_eq_true rfl | omega, by first | exact Nat.le_of_ble_eq_true rfl | omega⟩) hS (fun v_1 τ_1 H locs hq_1 hR hS => ?_)
  obtain ⟨rfl, g1, g2, g3, g4⟩ := hq_1
  refine W.eq (g2 := F0 mI 5 ls [.ref q]) rfl ?_
  refine lv_pop hx hb dJ4_append_15ec4_5 rfl ?_
  refine lv_aload_n hx hb dJ4_append_15ec4_6 rfl (lv_at hl 0 rfl) ?_
  refine fw_aret hx hb hr (Or.inl ⟨_, rfl⟩) hlocks hR hS dJ4_append_15ec4_7 ?_
  exact ⟨rfl, g1, g2, g3, g4⟩

set_option maxHeartbeats 4000000 in
set_option maxRecDepth 100000 in
theorem c_J6_stringSize_0f7a4 (G : FG) (hL : FL G) (l : Launch) (ω : FWd) (hJ : FJ G) (dg : Nat) (hd : dg < 10) : FMet G l yJ6_stringSize_0f7a4 wsJ6_stringSize_0f7a4 ({ frames := 0, cells := 0, slots := 0, locals := 0 } : Room) [.int (nI dg)] ω (rI 1 ω) 0 0 := by
  refine fw_ofW (cc := cJ6_stringSize_0f7a4) (maxL := 4) (ret := (some .int)) (by decide) rfl (Nat.le_of_ble_eq_true rfl) ?_
  intro pP eE sS mI ar9 bl9 meth cD ls hx hb hr hlocks hml hts hown hnm hW hR hl
  have hK := hL.K hW
  have hR0 := hR
  have hS : va_S (fwA G) sS.heap sS.heap [] := va_S.rf
  have hl : lv_has ls 4 [(0, .int (nI dg))] := hl
  obtain ⟨h100, h10, h9, hnb⟩ := dg_small dg hd
  refine lv_iconst (v := 1) hx hb dJ6_stringSize_0f7a4_0 (by decide) ?_
  refine lv_istore_n (lv' := [(1, .int 1), (0, .int (nI dg))]) hx hb dJ6_stringSize_0f7a4_1 rfl hl (by decide) rfl (fun ls hl => ?_)
  refine lv_iload_n hx hb dJ6_stringSize_0f7a4_2 rfl (lv_at hl 1 rfl) ?_
  refine lv_if_lt (tgt := 11) hx hb dJ6_stringSize_0f7a4_3 (by decide) (fun c => absurd c (nI_pos (by omega))) (fun c => ?_)
  refine lv_iconst (v := 0) hx hb dJ6_stringSize_0f7a4_6 (by decide) ?_
  refine lv_istore_n (lv' := [(1, .int 0), (0, .int (nI dg))]) hx hb dJ6_stringSize_0f7a4_7 rfl hl (by decide) rfl (fun ls hl => ?_)
  refine lv_iload_n hx hb dJ6_stringSize_0f7a4_8 rfl (lv_at hl 1 rfl) ?_
  refine lv_ineg hx hb dJ6_stringSize_0f7a4_9 ?_
  refine lv_istore_n (lv' := [(0, .int (-(nI dg))), (1, .int 0)]) hx hb dJ6_stringSize_0f7a4_10 rfl hl (by decide) rfl (fun ls hl => ?_)
  refine lv_bipush (v := (-10)) hx hb dJ6_stringSize_0f7a4_11 (by decide) ?_
  refine lv_istore_n (lv' := [(2, .int (-10)), (0, .int (-(nI dg))), (1, .int 0)]) hx hb dJ6_stringSize_0f7a4_13 rfl hl (by decide) rfl (fun ls hl => ?_)
  refine lv_iconst (v := 1) hx hb dJ6_stringSize_0f7a4_14 (by decide) ?_
  refine lv_istore_n (lv' := [(3, .int 1), (2, .int (-10)), (0, .int (-(nI dg))), (1, .int 0)]) hx hb dJ6_stringSize_0f7a4_15 rfl hl (by decide) rfl (fun ls hl => ?_)
  refine lv_iload_n hx hb dJ6_stringSize_0f7a4_16 rfl (lv_at hl 0 rfl) ?_
  refine lv_bipush (v := 10) hx hb dJ6_stringSize_0f7a4_17 (by decide) ?_
  refine lv_icmp_ge (tgt := 42) hx hb dJ6_stringSize_0f7a4_19 (by decide) (fun c => absurd c (by decide)) (fun c => ?_)
  refine lv_iload_n hx hb dJ6_stringSize_0f7a4_22 rfl (lv_at hl 2 rfl) ?_
  refine lv_iload_n hx hb dJ6_stringSize_0f7a4_23 rfl (lv_at hl 1 rfl) ?_
  refine lv_icmp_le (tgt := 31) hx hb dJ6_stringSize_0f7a4_24 (by decide) (fun c => absurd c h10) (fun c => ?_)
  refine lv_iload_n hx hb dJ6_stringSize_0f7a4_27 rfl (lv_at hl 0 rfl) ?_
  refine lv_iload_n hx hb dJ6_stringSize_0f7a4_28 rfl (lv_at hl 3 rfl) ?_
  refine lv_iadd hx hb dJ6_stringSize_0f7a4_29 ?_
  exact fw_iret hx hb hr hlocks hR hS dJ6_stringSize_0f7a4_30 (rI_mk rfl)

set_option maxHeartbeats 4000000 in
set_option maxRecDepth 100000 in
theorem c_J6_getChars_ba4f3 (G : FG) (hL : FL G) (l : Launch) (ω : FWd) (hJ : FJ G) (dd : Nat) (hD : FDg G dd) (dg vb cap n : Nat) (cs : List Int32) (hd : dg < 10) (hv : ω.2 vb = some (.inl (G.2.1 2, cap, .inl (fun i => cs.getD i 0)))) (hn : n = cs.length) (hcap : cap < 1000) (hlt : n < cap) : FMet G l yJ6_getChars_ba4f3 wsJ6_getChars_ba4f3 ({ frames := 0, cells := 0, slots := 0, locals := 0 } : Room) [.int (nI dg), .int (nI (n + 1)), .ref vb] ω (fun vv9 τ9 => vv9 = some (.int (nI n)) ∧ τ9.1 = ω.1 ∧ τ9.2 vb = some (.inl (G.2.1 2, cap, .inl (fun i => (cs ++ [nI (48 + dg)]).getD i 0))) ∧ ∀ q9 : Nat, ¬ q9 = vb → τ9.2 q9 = ω.2 q9) 0 0 := by
  refine fw_ofW (cc := cJ6_getChars_ba4f3) (maxL := 7) (ret := (some .int)) (by decide) rfl (Nat.le_of_ble_eq_true rfl) ?_
  intro pP eE sS mI ar9 bl9 meth cD ls hx hb hr hlocks hml hts hown hnm hW hR hl
  have hK := hL.K hW
  have hR0 := hR
  have hS : va_S (fwA G) sS.heap sS.heap [] := va_S.rf
  have hl : lv_has ls 7 [(0, .int (nI dg)), (1, .int (nI (n + 1))), (2, .ref vb)] := hl
  obtain ⟨h100, h10, h9, hnb⟩ := dg_small dg hd
  refine lv_iload_n hx hb dJ6_getChars_ba4f3_0 rfl (lv_at hl 1 rfl) ?_
  refine lv_istore (lv' := [(5, .int (nI (n + 1))), (0, .int (nI dg)), (1, .int (nI (n + 1))), (2, .ref vb)]) hx hb dJ6_getChars_ba4f3_1 hl (by decide) rfl (fun ls hl => ?_)
  refine lv_iload_n hx hb dJ6_getChars_ba4f3_3 rfl (lv_at hl 1 rfl) ?_
  refine lv_if_ge (tgt := 11) hx hb dJ6_getChars_ba4f3_4 (by decide) (fun c => ?_) (fun c => absurd (nI_pos' (by omega)) c)
  refine lv_iconst (v := 0) hx hb dJ6_getChars_ba4f3_11 (by decide) ?_
  refine lv_istore (lv' := [(6, .int 0), (5, .int (nI (n + 1))), (0, .int (nI dg)), (1, .int (nI (n + 1))), (2, .ref vb)]) hx hb dJ6_getChars_ba4f3_12 hl (by decide) rfl (fun ls hl => ?_)
  refine lv_iload hx hb dJ6_getChars_ba4f3_14 (lv_at hl 0 rfl) ?_
  refine lv_if_ne (tgt := 22) hx hb dJ6_getChars_ba4f3_16 (by decide) (fun c => absurd rfl c) (fun c => ?_)
  refine lv_iload_n hx hb dJ6_getChars_ba4f3_19 rfl (lv_at hl 2 rfl) ?_
  refine lv_ineg hx hb dJ6_getChars_ba4f3_20 ?_
  refine lv_istore_n (lv' := [(0, .int (-(nI dg))), (6, .int 0), (5, .int (nI (n + 1))), (1, .int (nI (n + 1))), (2, .ref vb)]) hx hb dJ6_getChars_ba4f3_21 rfl hl (by decide) rfl (fun ls hl => ?_)
  refine lv_iload_n hx hb dJ6_getChars_ba4f3_22 rfl (lv_at hl 0 rfl) ?_
  refine lv_bipush (v := (-100)) hx hb dJ6_getChars_ba4f3_23 (by decide) ?_
  refine lv_icmp_gt (tgt := 72) hx hb dJ6_getChars_ba4f3_25 (by decide) (fun c => ?_) (fun c => absurd h100 c)
  refine lv_aload_n hx hb dJ6_getChars_ba4f3_72 rfl (lv_at hl 4 rfl) ?_
  obtain ⟨x1, ex1⟩ : ∃ y9 : Int32, y9 = nI (n + 1) + (-1) := ⟨_, rfl⟩
  refine lv_iinc (v := x1) (lv' := [(5, .int x1), (0, .int (-(nI dg))), (6, .int 0), (1, .int (nI (n + 1))), (2, .ref vb)]) hx hb dJ6_getChars_ba4f3_73 hl (k := 2) rfl (by rw [ex1]; rfl) (by decide) rfl (fun ls hl => ?_)
  have ex2 : x1 = nI n := by rw [ex1, ← nI_pred n, Int32.sub_eq_add_neg]
  subst ex2
  refine lv_iload hx hb dJ6_getChars_ba4f3_76 (lv_at hl 0 rfl) ?_
  refine va_gets (own := RJ6) (ref := "java/lang/Integer") hx hb ((va_Z.moved hW.alike hD.1).kept hR0.2.1.2.1) hS hown (hts (.fieldLink RJ6 83 "java/lang/Integer" "DigitOnes" "[B") (by decide +kernel)) (fun _ h => h) dJ6_getChars_ba4f3_78 ?_
  refine lv_iload_n hx hb dJ6_getChars_ba4f3_81 rfl (lv_at hl 1 rfl) ?_
  refine lv_ineg hx hb dJ6_getChars_ba4f3_82 ?_
  refine W.eq (g2 := F0 mI 83 ls [.int (nI dg), .ref dd, .int (nI n), .ref vb]) (by rw [Int32.neg_neg]) ?_
  refine va_tb hx hb ((va_T.moved hW.alike hD.2).kept hR0.2.1.2.1) hS (vp_in_nI (by omega) (by omega)) (v := .int (nI (48 + dg % 10))) (by rw [nI_clamp (by omega)]) dJ6_getChars_ba4f3_83 ?_
  refine fw_bast hx hb hK hR hS hv (vp_in_nI hlt (by omega)) dJ6_getChars_ba4f3_84 (fun H locs hR hS => ?_)
  rw [nI_clamp (by omega), hnb, hn, row_one] at hR
  obtain ⟨σ_1, hs_1⟩ : ∃ z9 : Nat → Option va_E, z9 = va_up ω.2 vb (some (.inl (G.2.1 2, cap, .inl (fun i => (cs ++ [nI (48 + dg)]).getD i 0)))) := ⟨_, rfl⟩
  have hR : fR G (ω.1, σ_1) H := by rw [hs_1]; exact hR
  have e_1 : σ_1 vb = some (.inl (G.2.1 2, cap, .inl (fun i => (cs ++ [nI (48 + dg)]).getD i 0))) := by rw [hs_1]; exact va_up_at
  have f_1 : ∀ q9 : Nat, ¬ q9 = vb → σ_1 q9 = ω.2 q9 := fun q9 hq => by rw [hs_1]; exact va_up_off hq
  clear hs_1
  refine lv_iload_n hx hb dJ6_getChars_ba4f3_85 rfl (lv_at hl 1 rfl) ?_
  refine lv_bipush (v := (-9)) hx hb dJ6_getChars_ba4f3_86 (by decide) ?_
  refine lv_icmp_ge (tgt := 104) hx hb dJ6_getChars_ba4f3_88 (by decide) (fun c => ?_) (fun c => absurd h9 c)
  refine lv_iload hx hb dJ6_getChars_ba4f3_104 (lv_at hl 2 rfl) ?_
  refine lv_if_eq (tgt := 118) hx hb dJ6_getChars_ba4f3_106 (by decide) (fun c => ?_) (fun c => absurd rfl c)
  refine lv_iload hx hb dJ6_getChars_ba4f3_118 (lv_at hl 0 rfl) ?_
  refine fw_iret hx hb hr hlocks hR hS dJ6_getChars_ba4f3_120 ?_
  exact ⟨rfl, rfl, e_1, f_1⟩

set_option maxHeartbeats 4000000 in
set_option maxRecDepth 100000 in
theorem c_J5_append_c97b9 (G : FG) (hL : FL G) (l : Launch) (ω : FWd) (hJ : FJ G) (dd : Nat) (hD : FDg G dd) (dg q vb cap n : Nat) (cs : List Int32) (hd : dg < 10) (hq : ω.2 q = some (.inr (1, [.ref vb, .int 0, .int 0, .int (nI n)]))) (hv : ω.2 vb = some (.inl (G.2.1 2, cap, .inl (fun i => cs.getD i 0)))) (hqv : ¬ q = vb) (hn : n = cs.length) (hcap : cap < 1000) (hlt : n < cap) : FMet G l yJ5_append_c97b9 wsJ5_append_c97b9 ({ frames := 1, cells := 0, slots := 0, locals := 26 } : Room) [.ref q, .int (nI dg)] ω (fun vv9 τ9 => vv9 = some (.ref q) ∧ τ9.1 = ω.1 ∧ τ9.2 q = some (.inr (1, [.ref vb, .int 0, .int 0, .int (nI (n + 1))])) ∧ τ9.2 vb = some (.inl (G.2.1 2, cap, .inl (fun i => (cs ++ [nI (48 + dg)]).getD i 0))) ∧ ∀ q9 : Nat, ¬ q9 = q → ¬ q9 = vb → τ9.2 q9 = ω.2 q9) 0 0 := by
  refine fw_ofW (cc := cJ5_append_c97b9) (maxL := 4) (ret := (some (.object "java/lang/AbstractStringBuilder"))) (by decide) rfl (Nat.le_of_ble_eq_true rfl) ?_
  intro pP eE sS mI ar9 bl9 meth cD ls hx hb hr hlocks hml hts hown hnm hW hR hl
  have hK := hL.K hW
  have hR0 := hR
  have hS : va_S (fwA G) sS.heap sS.heap [] := va_S.rf
  have hl : lv_has ls 4 [(0, .ref q), (1, .int (nI dg))] := hl
  have hin4 : ∀ w ∈ u_ws RJ4 TJ4 4, w ∈ wsJ5_append_c97b9 := by decide +kernel
  refine lv_aload_n hx hb dJ5_append_c97b9_0 rfl (lv_at hl 0 rfl) ?_
  refine fw_get (C := RJ4) (T := TJ4) (N := 4) hx hb hts hin4 hown hK hR hq rfl 3 (by decide) (hts (.fieldLink RJ5 79 "java/lang/AbstractStringBuilder" "count" "I") (by decide +kernel)) rfl dJ5_append_c97b9_1 ?_
  refine lv_istore_n (lv' := [(2, .int (nI n)), (0, .ref q), (1, .int (nI dg))]) hx hb dJ5_append_c97b9_4 rfl hl (by decide) rfl (fun ls hl => ?_)
  refine lv_iload_n hx hb dJ5_append_c97b9_5 rfl (lv_at hl 0 rfl) ?_
  refine lv_iload_n hx hb dJ5_append_c97b9_6 rfl (lv_at hl 2 rfl) ?_
  refine fw_call (va_runS (As := [.int (nI dg)]) (rest := [.int (nI n)]) ⟨hx, hb, hml, hown, hts⟩ (c_J6_stringSize_0f7a4 G hL l ω hJ dg hd) (va_cwS 1 hts gJ5_append_c97b9_J6_stringSize_0f7a4 rfl rfl rfl (by decide +kernel) ⟨Nat.le_of_ble_eq_true rfl, Nat.le_of_ble_eq_true rfl⟩) (fw_preS hW hR) rfl rfl hl.1 rfl (lv_room (Nat.le_of_ble_eq_true rfl)) dJ5_append_c97b9_7 ⟨by first | exact Nat.le_of_ble_eq_true rfl | omega, by first | exact Nat.le_of_ble_eq_true rfl | omega⟩) hS (fun v_1 τ_1 H locs hq_1 hR hS => ?_)
  obtain ⟨rfl, hq_1⟩ := hq_1
  rw [hq_1] at hR
  refine W.eq (g2 := F0 mI 10 ls [.int 1, .int (nI n)]) rfl ?_
  refine lv_iadd hx hb dJ5_append_c97b9_10 ?_
  refine W.eq (g2 := F0 mI 11 ls [.int (nI (n + 1))]) (by rw [← nI_add]; rfl) ?_
  refine lv_istore_n (lv' := [(3, .int (nI (n + 1))), (2, .int (nI n)), (0, .ref q), (1, .int (nI dg))]) hx hb dJ5_append_c97b9_11 rfl hl (by decide) rfl (fun ls hl => ?_)
  refine lv_aload_n hx hb dJ5_append_c97b9_12 rfl (lv_at hl 2 rfl) ?_
  refine lv_iload_n hx hb dJ5_append_c97b9_13 rfl (lv_at hl 0 rfl) ?_
  refine fw_call (va_runU (As := [.int (nI (n + 1))]) (rest := []) ⟨hx, hb, hml, hown, hts⟩ (c_J5_ensureCapacityInternal_d00dfA G hL l ω hJ q vb cap n (fun i => cs.getD i 0) hq hv (by omega) (n + 1) hlt) (va_cwU 1 hts gJ5_append_c97b9_J5_ensureCapacityInternal_d00df_u100J4 rfl rfl rfl rfl (by decide +kernel) ⟨Nat.le_of_ble_eq_true rfl, Nat.le_of_ble_eq_true rfl⟩) (fw_preV hW hK hR hq rfl) rfl rfl hl.1 rfl (lv_room (Nat.le_of_ble_eq_true rfl)) dJ5_append_c97b9_14 ⟨by first | exact Nat.le_of_ble_eq_true rfl | omega, by first | exact Nat.le_of_ble_eq_true rfl | omega⟩) hS (fun v_2 τ_2 H locs hq_2 hR hS => ?_)
  obtain ⟨rfl, hq_2⟩ := hq_2
  rw [hq_2] at hR
  refine W.eq (g2 := F0 mI 17 ls []) rfl ?_
  refine lv_aload_n hx hb dJ5_append_c97b9_17 rfl (lv_at hl 2 rfl) ?_
  refine fw_call (va_runU (As := []) (rest := []) ⟨hx, hb, hml, hown, hts⟩ (c_J5_isLatin1_aae02 G hL l ω hJ q vb cap n (fun i => cs.getD i 0) hq hv (by omega)) (va_cwU 0 hts gJ5_append_c97b9_J5_isLatin1_aae02_u83J4 rfl rfl rfl rfl (by decide +kernel) ⟨Nat.le_of_ble_eq_true rfl, Nat.le_of_ble_eq_true rfl⟩) (fw_preV hW hK hR hq rfl) rfl rfl hl.1 rfl (lv_room (Nat.le_of_ble_eq_true rfl)) dJ5_append_c97b9_18 ⟨by first | exact Nat.le_of_ble_eq_true rfl | omega, by first | exact Nat.le_of_ble_eq_true rfl | omega⟩) hS (fun v_3 τ_3 H locs hq_3 hR hS => ?_)
  obtain ⟨rfl, hq_3⟩ := hq_3
  rw [hq_3] at hR
  refine W.eq (g2 := F0 mI 21 ls [.int 1]) rfl ?_
  refine lv_if_eq (tgt := 37) hx hb dJ5_append_c97b9_21 (by decide) (fun c => absurd c (by decide)) (fun c => ?_)
  refine lv_iload_n hx hb dJ5_append_c97b9_24 rfl (lv_at hl 3 rfl) ?_
  refine lv_iload_n hx hb dJ5_append_c97b9_25 rfl (lv_at hl 0 rfl) ?_
  refine lv_aload_n hx hb dJ5_append_c97b9_26 rfl (lv_at hl 2 rfl) ?_
  refine fw_get (C := RJ4) (T := TJ4) (N := 4) hx hb hts hin4 hown hK hR hq rfl 0 (by decide) (hts (.fieldLink RJ5 15 "java/lang/AbstractStringBuilder" "value" "[B") (by decide +kernel)) rfl dJ5_append_c97b9_27 ?_
  refine fw_call (va_runS (As := [.int (nI dg), .int (nI (n + 1)), .ref vb]) (rest := []) ⟨hx, hb, hml, hown, hts⟩ (c_J6_getChars_ba4f3 G hL l ω hJ dd hD dg vb cap n cs hd hv hn hcap hlt) (va_cwS 3 hts gJ5_append_c97b9_J6_getChars_ba4f3 rfl rfl rfl (by decide +kernel) ⟨Nat.le_of_ble_eq_true rfl, Nat.le_of_ble_eq_true rfl⟩) (fw_preS hW hR) rfl rfl hl.1 rfl (lv_room (Nat.le_of_ble_eq_true rfl)) dJ5_append_c97b9_30 ⟨by first | exact Nat.le_of_ble_eq_true rfl | omega, by first | exact Nat.le_of_ble_eq_true rfl | omega⟩) hS (fun v_4 τ_4 H locs hq_4 hR hS => ?_)
  obtain ⟨rfl, g1, g2, g3⟩ := hq_4
  obtain ⟨σ_0, hs0⟩ : ∃ z9 : Nat → Option va_E, z9 = τ_4.2 := ⟨_, rfl⟩
  have hR : fR G (ω.1, σ_0) H := by rw [hs0, ← g1]; exact hR
  rw [← hs0] at g2 g3
  refine W.eq (g2 := F0 mI 33 ls [.int (nI n)]) rfl ?_
  refine lv_pop hx hb dJ5_append_c97b9_33 rfl ?_
  refine lv_goto (tgt := 48) hx hb dJ5_append_c97b9_34 (by decide) ?_
  refine lv_aload_n hx hb dJ5_append_c97b9_48 rfl (lv_at hl 2 rfl) ?_
  refine lv_iload_n hx hb dJ5_append_c97b9_49 rfl (lv_at hl 0 rfl) ?_
  refine fw_put (v := .int (nI (n + 1))) (C := RJ4) (T := TJ4) (N := 4) hx hb hts hin4 tyJ4 tyJ4_ok nmJ4 hown hK hR hS ((g3 q hqv).trans hq) rfl 3 (by decide) (hts (.fieldLink RJ5 79 "java/lang/AbstractStringBuilder" "count" "I") (by decide +kernel)) rfl rfl rfl (Nat.le_of_ble_eq_true rfl) dJ5_append_c97b9_50 (fun H locs hR hS => ?_)
  obtain ⟨σ_5, hs_5⟩ : ∃ z9 : Nat → Option va_E, z9 = va_up σ_0 q (some (.inr (1, [.ref vb, .int 0, .int 0, .int (nI (n + 1))]))) := ⟨_, rfl⟩
  have hR : fR G (ω.1, σ_5) H := by rw [hs_5]; exact hR
  have e_5 : σ_5 q = some (.inr (1, [.ref vb, .int 0, .int 0, .int (nI (n + 1))])) := by rw [hs_5]; exact va_up_at
  have f_5 : ∀ q9 : Nat, ¬ q9 = q → σ_5 q9 = σ_0 q9 := fun q9 hq => by rw [hs_5]; exact va_up_off hq
  clear hs_5
  refine lv_aload_n hx hb dJ5_append_c97b9_53 rfl (lv_at hl 2 rfl) ?_
  refine fw_aret hx hb hr (Or.inl ⟨_, rfl⟩) hlocks hR hS dJ5_append_c97b9_54 ?_
  exact ⟨rfl, rfl, e_5, (f_5 vb (fun z => hqv z.symm)).trans g2, fun q9 h1 h2 => (f_5 q9 h1).trans (g3 q9 h2)⟩

set_option maxHeartbeats 4000000 in
set_option maxRecDepth 100000 in
theorem c_J4_append_bf812 (G : FG) (hL : FL G) (l : Launch) (ω : FWd) (hJ : FJ G) (dd : Nat) (hD : FDg G dd) (dg q vb cap n : Nat) (cs : List Int32) (hd : dg < 10) (hq : ω.2 q = some (.inr (1, [.ref vb, .int 0, .int 0, .int (nI n)]))) (hv : ω.2 vb = some (.inl (G.2.1 2, cap, .inl (fun i => cs.getD i 0)))) (hqv : ¬ q = vb) (hn : n = cs.length) (hcap : cap < 1000) (hlt : n < cap) : FMet G l yJ4_append_bf812 wsJ4_append_bf812 ({ frames := 2, cells := 0, slots := 0, locals := 49 } : Room) [.ref q, .int (nI dg)] ω (fun vv9 τ9 => vv9 = some (.ref q) ∧ τ9.1 = ω.1 ∧ τ9.2 q = some (.inr (1, [.ref vb, .int 0, .int 0, .int (nI (n + 1))])) ∧ τ9.2 vb = some (.inl (G.2.1 2, cap, .inl (fun i => (cs ++ [nI (48 + dg)]).getD i 0))) ∧ ∀ q9 : Nat, ¬ q9 = q → ¬ q9 = vb → τ9.2 q9 = ω.2 q9) 0 0 := by
  refine fw_ofW (cc := cJ4_append_bf812) (maxL := 2) (ret := (some (.object "java/lang/StringBuilder"))) (by decide) rfl (Nat.le_of_ble_eq_true rfl) ?_
  intro pP eE sS mI ar9 bl9 meth cD ls hx hb hr hlocks hml hts hown hnm hW hR hl
  have hK := hL.K hW
  have hR0 := hR
  have hS : va_S (fwA G) sS.heap sS.heap [] := va_S.rf
  have hl : lv_has ls 2 [(0, .ref q), (1, .int (nI dg))] := hl
  refine lv_aload_n hx hb dJ4_append_bf812_0 rfl (lv_at hl 0 rfl) ?_
  refine lv_iload_n hx hb dJ4_append_bf812_1 rfl (lv_at hl 1 rfl) ?_
  refine fw_call (va_runSU (hK.1 1 _ rfl).2 (As := [.int (nI dg)]) (rest := []) ⟨hx, hb, hml, hown, hts⟩ (c_J5_append_c97b9 G hL l ω hJ dd hD dg q vb cap n cs hd hq hv hqv hn hcap hlt) (va_cwSU 1 hts gJ4_append_bf812_J5_append_c97b9_s53 rfl rfl rfl (by decide +kernel) ⟨Nat.le_of_ble_eq_true rfl, Nat.le_of_ble_eq_true rfl⟩) (fw_preV hW hK hR hq rfl) rfl rfl hl.1 rfl (lv_room (Nat.le_of_ble_eq_true rfl)) dJ4_append_bf812_2 ⟨by first | exact Nat.le_of_ble_eq_true rfl | omega, by first | exact Nat.le_of_ble_eq_true rfl | omega⟩) hS (fun v_1 τ_1 H locs hq_1 hR hS => ?_)
  obtain ⟨rfl, g1, g2, g3, g4⟩ := hq_1
  refine W.eq (g2 := F0 mI 5 ls [.ref q]) rfl ?_
  refine lv_pop hx hb dJ4_append_bf812_5 rfl ?_
  refine lv_aload_n hx hb dJ4_append_bf812_6 rfl (lv_at hl 0 rfl) ?_
  refine fw_aret hx hb hr (Or.inl ⟨_, rfl⟩) hlocks hR hS dJ4_append_bf812_7 ?_
  exact ⟨rfl, g1, g2, g3, g4⟩

set_option maxHeartbeats 4000000 in
set_option maxRecDepth 100000 in
theorem c_J7_checkLength_df160 (G : FG) (hL : FL G) (l : Launch) (ω : FWd) (hJ : FJ G) (n : Nat) (hn : n < 1000) : FMet G l yJ7_checkLength_df160 wsJ7_checkLength_df160 ({ frames := 0, cells := 0, slots := 0, locals := 0 } : Room) [.int 0, .int (nI n)] ω (rV ω) 0 0 := by
  refine fw_ofW (cc := cJ7_checkLength_df160) (maxL := 2) (ret := none) (by decide) rfl (Nat.le_of_ble_eq_true rfl) ?_
  intro pP eE sS mI ar9 bl9 meth cD ls hx hb hr hlocks hml hts hown hnm hW hR hl
  have hK := hL.K hW
  have hR0 := hR
  have hS : va_S (fwA G) sS.heap sS.heap [] := va_S.rf
  have hl : lv_has ls 2 [(0, .int 0), (1, .int (nI n))] := hl
  refine lv_iload_n hx hb dJ7_checkLength_df160_0 rfl (lv_at hl 1 rfl) ?_
  refine lv_iload_n hx hb dJ7_checkLength_df160_1 rfl (lv_at hl 0 rfl) ?_
  refine lv_icmp_ge (tgt := 37) hx hb dJ7_checkLength_df160_2 (by decide) (fun c => ?_) (fun c => absurd (nI_pos' (by omega)) c)
  exact fw_vret hx hb hr hlocks hR hS dJ7_checkLength_df160_37 rV_mk

set_option maxHeartbeats 4000000 in
set_option maxRecDepth 100000 in
theorem c_J7_copyOfRangeByte_39247 (G : FG) (hL : FL G) (l : Launch) (ω : FWd) (hJ : FJ G) (vb m cap n : Nat) (cs : List Int32) (hn0 : ω.1 = m) (hv : ω.2 vb = some (.inl (G.2.1 2, cap, .inl (fun i => cs.getD i 0)))) (hn : n = cs.length) (ha : Asc cs) (hvm : vb < m) (hlt : n < cap) (hcap : cap < 1000) : FMet G l yJ7_copyOfRangeByte_39247 wsJ7_copyOfRangeByte_39247 ({ frames := 1, cells := 1, slots := 1000, locals := 60 } : Room) [.ref vb, .int 0, .int (nI n)] ω (fun vv9 τ9 => vv9 = some (.ref m) ∧ τ9.1 = m + 1 ∧ τ9.2 m = some (.inl (G.2.1 2, n, .inl (fun i => cs.getD i 0))) ∧ ∀ q9 : Nat, ¬ q9 = m → τ9.2 q9 = ω.2 q9) 1 1000 := by
  refine fw_ofW (cc := cJ7_copyOfRangeByte_39247) (maxL := 5) (ret := (some (.array .byte))) (by decide) rfl (Nat.le_of_ble_eq_true rfl) ?_
  intro pP eE sS mI ar9 bl9 meth cD ls hx hb hr hlocks hml hts hown hnm hW hR hl
  have hK := hL.K hW
  have hR0 := hR
  have hS : va_S (fwA G) sS.heap sS.heap [] := va_S.rf
  have hl : lv_has ls 5 [(0, .ref vb), (1, .int 0), (2, .int (nI n))] := hl
  refine lv_iload_n hx hb dJ7_copyOfRangeByte_39247_0 rfl (lv_at hl 1 rfl) ?_
  refine lv_iload_n hx hb dJ7_copyOfRangeByte_39247_1 rfl (lv_at hl 2 rfl) ?_
  refine fw_call (va_runS (As := [.int 0, .int (nI n)]) (rest := []) ⟨hx, hb, hml, hown, hts⟩ (c_J7_checkLength_df160 G hL l ω hJ n (by omega)) (va_cwS 2 hts gJ7_copyOfRangeByte_39247_J7_checkLength_df160 rfl rfl rfl (by decide +kernel) ⟨Nat.le_of_ble_eq_true rfl, Nat.le_of_ble_eq_true rfl⟩) (fw_preS hW hR) rfl rfl hl.1 rfl (lv_room (Nat.le_of_ble_eq_true rfl)) dJ7_copyOfRangeByte_39247_2 ⟨by first | exact Nat.le_of_ble_eq_true rfl | omega, by first | exact Nat.le_of_ble_eq_true rfl | omega⟩) hS (fun v_1 τ_1 H locs hq_1 hR hS => ?_)
  obtain ⟨rfl, hq_1⟩ := hq_1
  rw [hq_1] at hR
  refine W.eq (g2 := F0 mI 5 ls []) rfl ?_
  obtain ⟨σ_0, hs0⟩ : ∃ z9 : Nat → Option va_E, z9 = ω.2 := ⟨_, rfl⟩
  have hR : fR G (m, σ_0) H := by rw [hs0, ← hn0]; exact hR
  rw [← hs0] at hv ⊢
  refine lv_iload_n hx hb dJ7_copyOfRangeByte_39247_5 rfl (lv_at hl 2 rfl) ?_
  refine lv_iload_n hx hb dJ7_copyOfRangeByte_39247_6 rfl (lv_at hl 1 rfl) ?_
  refine lv_isub hx hb dJ7_copyOfRangeByte_39247_7 ?_
  refine W.eq (g2 := F0 mI 8 ls [.int (nI n)]) (by rw [show (0 : Int32) = nI 0 from rfl, pk_sub (Nat.zero_le _), Nat.sub_zero]) ?_
  refine lv_istore_n (lv' := [(3, .int (nI n)), (0, .ref vb), (1, .int 0), (2, .int (nI n))]) hx hb dJ7_copyOfRangeByte_39247_8 rfl hl (by decide) rfl (fun ls hl => ?_)
  refine lv_iload_n hx hb dJ7_copyOfRangeByte_39247_9 rfl (lv_at hl 0 rfl) ?_
  refine fw_newb hx hb (hts (.arrayClass .byte) (by decide +kernel)) hK hR hS (n := m) rfl (N := n) (nI_pos (by omega)) (nI_clamp (by omega)) (by omega) (by first | exact Nat.le_of_ble_eq_true rfl | omega) (by first | exact Nat.le_of_ble_eq_true rfl | (show 0 + n ≤ 1000; omega)) dJ7_copyOfRangeByte_39247_10 (fun H hR hS => ?_)
  obtain ⟨σ_2, hs_2⟩ : ∃ z9 : Nat → Option va_E, z9 = va_up σ_0 m (some (.inl (G.2.1 2, n, .inl (fun _ => 0)))) := ⟨_, rfl⟩
  have hR : fR G (m + 1, σ_2) H := by rw [hs_2]; exact hR
  have e_2 : σ_2 m = some (.inl (G.2.1 2, n, .inl (fun _ => 0))) := by rw [hs_2]; exact va_up_at
  have f_2 : ∀ q9 : Nat, ¬ q9 = m → σ_2 q9 = σ_0 q9 := fun q9 hq => by rw [hs_2]; exact va_up_off hq
  clear hs_2
  refine lv_astore (lv' := [(4, .ref m), (3, .int (nI n)), (0, .ref vb), (1, .int 0), (2, .int (nI n))]) hx hb dJ7_copyOfRangeByte_39247_12 hl (by decide) rfl (fun ls hl => ?_)
  refine lv_aload_n hx hb dJ7_copyOfRangeByte_39247_14 rfl (lv_at hl 2 rfl) ?_
  refine lv_iload_n hx hb dJ7_copyOfRangeByte_39247_15 rfl (lv_at hl 3 rfl) ?_
  refine lv_aload hx hb dJ7_copyOfRangeByte_39247_16 (lv_at hl 0 rfl) ?_
  refine lv_iconst (v := 0) hx hb dJ7_copyOfRangeByte_39247_18 (by decide) ?_
  refine lv_aload_n hx hb dJ7_copyOfRangeByte_39247_19 rfl (lv_at hl 2 rfl) ?_
  refine va_alen hx hb hK (hR.at1 ((f_2 vb (by omega)).trans hv)) 0 2 rfl rfl (v := nI cap) rfl dJ7_copyOfRangeByte_39247_20 ?_
  refine lv_iload_n hx hb dJ7_copyOfRangeByte_39247_21 rfl (lv_at hl 3 rfl) ?_
  refine lv_isub hx hb dJ7_copyOfRangeByte_39247_22 ?_
  refine W.eq (g2 := F0 mI 23 ls [.int (nI cap), .int 0, .ref m, .int 0, .ref vb]) (by rw [show (0 : Int32) = nI 0 from rfl, pk_sub (Nat.zero_le _), Nat.sub_zero]) ?_
  refine lv_iload_n hx hb dJ7_copyOfRangeByte_39247_23 rfl (lv_at hl 1 rfl) ?_
  refine va_mmin hx hb (hml.trans hl.1.symm) hown (index := 304) (hts (.methodLink RJ7 304 Lib.Math.min.name) (by decide +kernel)) (hts (.static Lib.Math.min.name) (by decide +kernel)) (hts (.initialized "java/lang/Math") (by decide +kernel)) (hts (.code Lib.Math.min.name Lib.Math.min.code 2 (some .int)) (by decide +kernel)) (Nat.le_of_ble_eq_true rfl) (Nat.le_of_ble_eq_true rfl) (by first | exact Nat.le_of_ble_eq_true rfl | omega) (by show 0 + n ≤ 1000; omega) dJ7_copyOfRangeByte_39247_24 ?_
  refine W.eq (g2 := F0 mI 27 ls [.int (nI n), .int 0, .ref m, .int 0, .ref vb]) (by rw [nI_min (by omega) (by omega), Nat.min_eq_right (by omega)]) ?_
  refine fw_copyb hx hb (hml.trans hl.1.symm) hown (index := 150) (hts (.methodLink RJ7 150 arraycopyName) (by decide +kernel)) (hts (.native arraycopyName) (by decide +kernel)) (hts (.static arraycopyName) (by decide +kernel)) (hts (.initialized "java/lang/System") (by decide +kernel)) hK hR hS ((f_2 vb (by omega)).trans hv) e_2 (by decide) (by decide) (nI_pos (by omega)) (by rw [nI_clamp (by omega)]; show 0 + n ≤ cap; omega) (by rw [nI_clamp (by omega)]; show 0 + n ≤ n; omega) (fun i _ => ha _) (Nat.le_of_ble_eq_true rfl) (Nat.le_of_ble_eq_true rfl) dJ7_copyOfRangeByte_39247_27 (fun H locs hR hS => ?_)
  have hR := hR.row (g := fun i => cs.getD i 0) (by rw [nI_clamp (by omega)]; exact row_cpy (by omega))
  obtain ⟨σ_3, hs_3⟩ : ∃ z9 : Nat → Option va_E, z9 = va_up σ_2 m (some (.inl (G.2.1 2, n, .inl (fun i => cs.getD i 0)))) := ⟨_, rfl⟩
  have hR : fR G (m + 1, σ_3) H := by rw [hs_3]; exact hR
  have e_3 : σ_3 m = some (.inl (G.2.1 2, n, .inl (fun i => cs.getD i 0))) := by rw [hs_3]; exact va_up_at
  have f_3 : ∀ q9 : Nat, ¬ q9 = m → σ_3 q9 = σ_2 q9 := fun q9 hq => by rw [hs_3]; exact va_up_off hq
  clear hs_3
  refine lv_aload hx hb dJ7_copyOfRangeByte_39247_30 (lv_at hl 0 rfl) ?_
  refine W.widen (k := 1) (n := 1000) (by first | exact Nat.le_of_ble_eq_true rfl | omega) (by show 0 + 0 + n ≤ 1000; omega) ?_
  refine fw_aret hx hb hr (Or.inr ⟨_, rfl⟩) hlocks hR hS dJ7_copyOfRangeByte_39247_32 ?_
  exact ⟨rfl, rfl, e_3, fun q9 h1 => (f_3 q9 h1).trans (f_2 q9 h1)⟩

set_option maxHeartbeats 4000000 in
set_option maxRecDepth 100000 in
theorem c_J7_copyOfRange_39247 (G : FG) (hL : FL G) (l : Launch) (ω : FWd) (hJ : FJ G) (vb m cap n : Nat) (cs : List Int32) (hn0 : ω.1 = m) (hv : ω.2 vb = some (.inl (G.2.1 2, cap, .inl (fun i => cs.getD i 0)))) (hn : n = cs.length) (ha : Asc cs) (hvm : vb < m) (hlt : n < cap) (hcap : cap < 1000) : FMet G l yJ7_copyOfRange_39247 wsJ7_copyOfRange_39247 ({ frames := 2, cells := 1, slots := 1000, locals := 84 } : Room) [.ref vb, .int 0, .int (nI n)] ω (fun vv9 τ9 => vv9 = some (.ref m) ∧ τ9.1 = m + 1 ∧ τ9.2 m = some (.inl (G.2.1 2, n, .inl (fun i => cs.getD i 0))) ∧ ∀ q9 : Nat, ¬ q9 = m → τ9.2 q9 = ω.2 q9) 1 1000 := by
  refine fw_ofW (cc := cJ7_copyOfRange_39247) (maxL := 3) (ret := (some (.array .byte))) (by decide) rfl (Nat.le_of_ble_eq_true rfl) ?_
  intro pP eE sS mI ar9 bl9 meth cD ls hx hb hr hlocks hml hts hown hnm hW hR hl
  have hK := hL.K hW
  have hR0 := hR
  have hS : va_S (fwA G) sS.heap sS.heap [] := va_S.rf
  have hl : lv_has ls 3 [(0, .ref vb), (1, .int 0), (2, .int (nI n))] := hl
  refine lv_iload_n hx hb dJ7_copyOfRange_39247_0 rfl (lv_at hl 1 rfl) ?_
  refine lv_if_ne (tgt := 10) hx hb dJ7_copyOfRange_39247_1 (by decide) (fun c => absurd rfl c) (fun c => ?_)
  refine lv_iload_n hx hb dJ7_copyOfRange_39247_4 rfl (lv_at hl 2 rfl) ?_
  refine lv_aload_n hx hb dJ7_copyOfRange_39247_5 rfl (lv_at hl 0 rfl) ?_
  refine va_alen hx hb hK (hR.at1 hv) 0 2 rfl rfl (v := nI cap) rfl dJ7_copyOfRange_39247_6 ?_
  refine lv_icmp_eq (tgt := 17) hx hb dJ7_copyOfRange_39247_7 (by decide) (fun c => absurd ((nI_eq (by omega) (by omega)).mp c) (by omega)) (fun c => ?_)
  refine lv_aload_n hx hb dJ7_copyOfRange_39247_10 rfl (lv_at hl 0 rfl) ?_
  refine lv_iload_n hx hb dJ7_copyOfRange_39247_11 rfl (lv_at hl 1 rfl) ?_
  refine lv_iload_n hx hb dJ7_copyOfRange_39247_12 rfl (lv_at hl 2 rfl) ?_
  refine fw_call (va_runS (As := [.ref vb, .int 0, .int (nI n)]) (rest := []) ⟨hx, hb, hml, hown, hts⟩ (c_J7_copyOfRangeByte_39247 G hL l ω hJ vb m cap n cs hn0 hv hn ha hvm hlt hcap) (va_cwS 3 hts gJ7_copyOfRange_39247_J7_copyOfRangeByte_39247 rfl rfl rfl (by decide +kernel) ⟨Nat.le_of_ble_eq_true rfl, Nat.le_of_ble_eq_true rfl⟩) (fw_preS hW hR) rfl rfl hl.1 rfl (lv_room (Nat.le_of_ble_eq_true rfl)) dJ7_copyOfRange_39247_13 ⟨by first | exact Nat.le_of_ble_eq_true rfl | omega, by first | exact Nat.le_of_ble_eq_true rfl | omega⟩) hS (fun v_1 τ_1 H locs hq_1 hR hS => ?_)
  obtain ⟨rfl, g1, g2, g3⟩ := hq_1
  refine W.eq (g2 := F0 mI 16 ls [.ref m]) rfl ?_
  refine fw_aret hx hb hr (Or.inr ⟨_, rfl⟩) hlocks hR hS dJ7_copyOfRange_39247_16 ?_
  exact ⟨rfl, g1, g2, g3⟩

set_option maxHeartbeats 4000000 in
set_option maxRecDepth 100000 in
theorem c_J0_init_db425 (G : FG) (hL : FL G) (l : Launch) (ω : FWd) (hJ : FJ G) (t q vb m cap n : Nat) (cs : List Int32) (hn0 : ω.1 = m) (h0 : ω.2 t = some (.inr (0, [.null, .int 0, .int 0, .int 0]))) (hq : ω.2 q = some (.inr (1, [.ref vb, .int 0, .int 0, .int (nI n)]))) (hv : ω.2 vb = some (.inl (G.2.1 2, cap, .inl (fun i => cs.getD i 0)))) (hn : n = cs.length) (ha : Asc cs) (htm : t < m) (hqt : ¬ q = t) (hvt : ¬ vb = t) (hvm : vb < m) (hlt : n < cap) (hcap : cap < 1000) : FMet G l yJ0_init_db425 wsJ0_init_db425 ({ frames := 3, cells := 1, slots := 1000, locals := 106 } : Room) [.ref t, .ref q, .null] ω (fun vv9 τ9 => vv9 = none ∧ τ9.1 = m + 1 ∧ τ9.2 t = some (.inr (0, [.ref m, .int 0, .int 0, .int 0])) ∧ τ9.2 m = some (.inl (G.2.1 2, n, .inl (fun i => cs.getD i 0))) ∧ ∀ q9 : Nat, ¬ q9 = t → ¬ q9 = m → τ9.2 q9 = ω.2 q9) 1 1000 := by
  refine fw_ofW (cc := cJ0_init_db425) (maxL := 5) (ret := none) (by decide) rfl (Nat.le_of_ble_eq_true rfl) ?_
  intro pP eE sS mI ar9 bl9 meth cD ls hx hb hr hlocks hml hts hown hnm hW hR hl
  have hK := hL.K hW
  have hR0 := hR
  have hS : va_S (fwA G) sS.heap sS.heap [] := va_S.rf
  have hl : lv_has ls 5 [(0, .ref t), (1, .ref q), (2, .null)] := hl
  have hin4 : ∀ w ∈ u_ws RJ4 TJ4 4, w ∈ wsJ0_init_db425 := by decide +kernel
  have hin0 : ∀ w ∈ u_ws RJ0 TJ0 4, w ∈ wsJ0_init_db425 := by decide +kernel
  refine lv_aload_n hx hb dJ0_init_db425_0 rfl (lv_at hl 0 rfl) ?_
  refine W.objInit hx hb hown (hts (.methodLink RJ0 1 objectInit) (by decide +kernel)) (hts (.instanceMethod objectInit) (by decide +kernel)) (hts (.code objectInit ⟨#[0xb1]⟩ 1 none) (by decide +kernel)) rfl (by rw [hml]; exact hl.1) rfl dJ0_init_db425_1 (Nat.le_of_ble_eq_true rfl) (Nat.le_of_ble_eq_true rfl) ?_
  refine W.eq (g2 := F0 mI 4 ls []) rfl ?_
  refine lv_aload_n hx hb dJ0_init_db425_4 rfl (lv_at hl 1 rfl) ?_
  refine fw_call (va_runU (As := []) (rest := []) ⟨hx, hb, hml, hown, hts⟩ (c_J5_getValue_6d5f1 G hL l ω hJ q vb cap n (fun i => cs.getD i 0) hq hv (by omega)) (va_cwU 0 hts gJ0_init_db425_J5_getValue_6d5f1_u552J4 rfl rfl rfl rfl (by decide +kernel) ⟨Nat.le_of_ble_eq_true rfl, Nat.le_of_ble_eq_true rfl⟩) (fw_preV hW hK hR hq rfl) rfl rfl hl.1 rfl (lv_room (Nat.le_of_ble_eq_true rfl)) dJ0_init_db425_5 ⟨by first | exact Nat.le_of_ble_eq_true rfl | omega, by first | exact Nat.le_of_ble_eq_true rfl | omega⟩) hS (fun v_1 τ_1 H locs hq_1 hR hS => ?_)
  obtain ⟨rfl, hq_1⟩ := hq_1
  rw [hq_1] at hR
  refine W.eq (g2 := F0 mI 8 ls [.ref vb]) rfl ?_
  refine lv_astore_n (lv' := [(3, .ref vb), (0, .ref t), (1, .ref q), (2, .null)]) hx hb dJ0_init_db425_8 rfl hl (by decide) rfl (fun ls hl => ?_)
  refine lv_aload_n hx hb dJ0_init_db425_9 rfl (lv_at hl 2 rfl) ?_
  refine fw_call (va_runU (As := []) (rest := []) ⟨hx, hb, hml, hown, hts⟩ (c_J4_length_8abf5 G hL l ω hJ q vb cap n (fun i => cs.getD i 0) hq hv (by omega)) (va_cwO 0 hts gJ0_init_db425_J4_length_8abf5_u549J4 rfl rfl rfl (b0 := cJ5_length_8abf5) (m0 := 1) (r0 := some .int) (by decide +kernel) (by decide +kernel) ⟨Nat.le_of_ble_eq_true rfl, Nat.le_of_ble_eq_true rfl⟩) (fw_preV hW hK hR hq rfl) rfl rfl hl.1 rfl (lv_room (Nat.le_of_ble_eq_true rfl)) dJ0_init_db425_10 ⟨by first | exact Nat.le_of_ble_eq_true rfl | omega, by first | exact Nat.le_of_ble_eq_true rfl | omega⟩) hS (fun v_2 τ_2 H locs hq_2 hR hS => ?_)
  obtain ⟨rfl, hq_2⟩ := hq_2
  rw [hq_2] at hR
  refine W.eq (g2 := F0 mI 13 ls [.int (nI n)]) rfl ?_
  refine lv_istore (lv' := [(4, .int (nI n)), (3, .ref vb), (0, .ref t), (1, .ref q), (2, .null)]) hx hb dJ0_init_db425_13 hl (by decide) rfl (fun ls hl => ?_)
  refine lv_aload_n hx hb dJ0_init_db425_15 rfl (lv_at hl 3 rfl) ?_
  refine fw_call (va_runU (As := []) (rest := []) ⟨hx, hb, hml, hown, hts⟩ (c_J5_isLatin1_aae02 G hL l ω hJ q vb cap n (fun i => cs.getD i 0) hq hv (by omega)) (va_cwU 0 hts gJ0_init_db425_J5_isLatin1_aae02_u1047J4 rfl rfl rfl rfl (by decide +kernel) ⟨Nat.le_of_ble_eq_true rfl, Nat.le_of_ble_eq_true rfl⟩) (fw_preV hW hK hR hq rfl) rfl rfl hl.1 rfl (lv_room (Nat.le_of_ble_eq_true rfl)) dJ0_init_db425_16 ⟨by first | exact Nat.le_of_ble_eq_true rfl | omega, by first | exact Nat.le_of_ble_eq_true rfl | omega⟩) hS (fun v_3 τ_3 H locs hq_3 hR hS => ?_)
  obtain ⟨rfl, hq_3⟩ := hq_3
  rw [hq_3] at hR
  refine W.eq (g2 := F0 mI 19 ls [.int 1]) rfl ?_
  refine lv_if_eq (tgt := 41) hx hb dJ0_init_db425_19 (by decide) (fun c => absurd c (by decide)) (fun c => ?_)
  refine lv_aload_n hx hb dJ0_init_db425_22 rfl (lv_at hl 2 rfl) ?_
  refine lv_iconst (v := 0) hx hb dJ0_init_db425_23 (by decide) ?_
  obtain ⟨σ_0, hs0⟩ : ∃ z9 : Nat → Option va_E, z9 = ω.2 := ⟨_, rfl⟩
  have hR : fR G (m, σ_0) H := by rw [hs0, ← hn0]; exact hR
  rw [← hs0] at h0 hq hv ⊢
  refine fw_putF (v := .int 0) (C := RJ0) (T := TJ0) (N := 4) hx hb hts hin0 tyJ0 tyJ0_ok nmJ0 hown hK hR hS h0 rfl 1 (by decide) (hts (.fieldLink RJ0 15 "java/lang/String" "coder" "B") (by decide +kernel)) rfl hnm rfl rfl rfl (Nat.le_of_ble_eq_true rfl) dJ0_init_db425_24 (fun H locs hR hS => ?_)
  obtain ⟨σ_4, hs_4⟩ : ∃ z9 : Nat → Option va_E, z9 = va_up σ_0 t (some (.inr (0, [.null, .int 0, .int 0, .int 0]))) := ⟨_, rfl⟩
  have hR : fR G (m, σ_4) H := by rw [hs_4]; exact hR
  have e_4 : σ_4 t = some (.inr (0, [.null, .int 0, .int 0, .int 0])) := by rw [hs_4]; exact va_up_at
  have f_4 : ∀ q9 : Nat, ¬ q9 = t → σ_4 q9 = σ_0 q9 := fun q9 hq => by rw [hs_4]; exact va_up_off hq
  clear hs_4
  refine lv_aload_n hx hb dJ0_init_db425_27 rfl (lv_at hl 2 rfl) ?_
  refine lv_aload_n hx hb dJ0_init_db425_28 rfl (lv_at hl 1 rfl) ?_
  refine lv_iconst (v := 0) hx hb dJ0_init_db425_29 (by decide) ?_
  refine lv_iload hx hb dJ0_init_db425_30 (lv_at hl 0 rfl) ?_
  refine fw_call (va_runS (As := [.ref vb, .int 0, .int (nI n)]) (rest := [.ref t]) ⟨hx, hb, hml, hown, hts⟩ (c_J7_copyOfRange_39247 G hL l (m, σ_4) hJ vb m cap n cs rfl ((f_4 vb hvt).trans hv) hn ha hvm hlt hcap) (va_cwS 3 hts gJ0_init_db425_J7_copyOfRange_39247 rfl rfl rfl (by decide +kernel) ⟨Nat.le_of_ble_eq_true rfl, Nat.le_of_ble_eq_true rfl⟩) (fw_preS hW hR) rfl rfl hl.1 rfl (lv_room (Nat.le_of_ble_eq_true rfl)) dJ0_init_db425_32 ⟨by first | exact Nat.le_of_ble_eq_true rfl | omega, by first | exact Nat.le_of_ble_eq_true rfl | omega⟩) hS (fun v_5 τ_5 H locs hq_5 hR hS => ?_)
  obtain ⟨rfl, g1, g2, g3⟩ := hq_5
  obtain ⟨σ_9, hs9⟩ : ∃ z9 : Nat → Option va_E, z9 = τ_5.2 := ⟨_, rfl⟩
  have hR : fR G (m + 1, σ_9) H := by rw [hs9, ← g1]; exact hR
  rw [← hs9] at g2 g3
  refine W.eq (g2 := F0 mI 35 ls [.ref m, .ref t]) rfl ?_
  refine fw_putF (v := .ref m) (C := RJ0) (T := TJ0) (N := 4) hx hb hts hin0 tyJ0 tyJ0_ok nmJ0 hown hK hR hS ((g3 t (by omega)).trans e_4) rfl 0 (by decide) (hts (.fieldLink RJ0 9 "java/lang/String" "value" "[B") (by decide +kernel)) rfl hnm rfl rfl rfl (Nat.le_of_ble_eq_true rfl) dJ0_init_db425_35 (fun H locs hR hS => ?_)
  obtain ⟨σ_6, hs_6⟩ : ∃ z9 : Nat → Option va_E, z9 = va_up σ_9 t (some (.inr (0, [.ref m, .int 0, .int 0, .int 0]))) := ⟨_, rfl⟩
  have hR : fR G (m + 1, σ_6) H := by rw [hs_6]; exact hR
  have e_6 : σ_6 t = some (.inr (0, [.ref m, .int 0, .int 0, .int 0])) := by rw [hs_6]; exact va_up_at
  have f_6 : ∀ q9 : Nat, ¬ q9 = t → σ_6 q9 = σ_9 q9 := fun q9 hq => by rw [hs_6]; exact va_up_off hq
  clear hs_6
  refine lv_goto (tgt := 97) hx hb dJ0_init_db425_38 (by decide) ?_
  refine fw_vret hx hb hr hlocks hR hS dJ0_init_db425_97 ?_
  exact ⟨rfl, rfl, e_6, (f_6 m (by omega)).trans g2, fun q9 h1 h2 => (f_6 q9 h1).trans ((g3 q9 h2).trans (f_4 q9 h1))⟩

set_option maxHeartbeats 4000000 in
set_option maxRecDepth 100000 in
theorem c_J0_init_81219 (G : FG) (hL : FL G) (l : Launch) (ω : FWd) (hJ : FJ G) (t q vb m cap n : Nat) (cs : List Int32) (hn0 : ω.1 = m) (h0 : ω.2 t = some (.inr (0, [.null, .int 0, .int 0, .int 0]))) (hq : ω.2 q = some (.inr (1, [.ref vb, .int 0, .int 0, .int (nI n)]))) (hv : ω.2 vb = some (.inl (G.2.1 2, cap, .inl (fun i => cs.getD i 0)))) (hn : n = cs.length) (ha : Asc cs) (htm : t < m) (hqt : ¬ q = t) (hvt : ¬ vb = t) (hvm : vb < m) (hlt : n < cap) (hcap : cap < 1000) : FMet G l yJ0_init_81219 wsJ0_init_81219 ({ frames := 4, cells := 1, slots := 1000, locals := 130 } : Room) [.ref t, .ref q] ω (fun vv9 τ9 => vv9 = none ∧ τ9.1 = m + 1 ∧ τ9.2 t = some (.inr (0, [.ref m, .int 0, .int 0, .int 0])) ∧ τ9.2 m = some (.inl (G.2.1 2, n, .inl (fun i => cs.getD i 0))) ∧ ∀ q9 : Nat, ¬ q9 = t → ¬ q9 = m → τ9.2 q9 = ω.2 q9) 1 1000 := by
  refine fw_ofW (cc := cJ0_init_81219) (maxL := 2) (ret := none) (by decide) rfl (Nat.le_of_ble_eq_true rfl) ?_
  intro pP eE sS mI ar9 bl9 meth cD ls hx hb hr hlocks hml hts hown hnm hW hR hl
  have hK := hL.K hW
  have hR0 := hR
  have hS : va_S (fwA G) sS.heap sS.heap [] := va_S.rf
  have hl : lv_has ls 2 [(0, .ref t), (1, .ref q)] := hl
  refine lv_aload_n hx hb dJ0_init_81219_0 rfl (lv_at hl 0 rfl) ?_
  refine lv_aload_n hx hb dJ0_init_81219_1 rfl (lv_at hl 1 rfl) ?_
  refine lv_null hx hb dJ0_init_81219_2 ?_
  refine fw_call (va_runI (As := [.ref q, .null]) (rest := []) ⟨hx, hb, hml, hown, hts⟩ (c_J0_init_db425 G hL l ω hJ t q vb m cap n cs hn0 h0 hq hv hn ha htm hqt hvt hvm hlt hcap) (cwI 2 hts gJ0_init_81219_J0_init_db425 rfl rfl rfl (hts (.initialized yJ0_init_db425.cls) (by decide +kernel)) (hts (.methodLink RJ0 489 yJ0_init_db425) (by decide +kernel)) (hts (.instanceMethod yJ0_init_db425) (by decide +kernel)) rfl (by decide +kernel) ⟨Nat.le_of_ble_eq_true rfl, Nat.le_of_ble_eq_true rfl⟩) (fw_preI hW hR) rfl rfl hl.1 rfl (lv_room (Nat.le_of_ble_eq_true rfl)) dJ0_init_81219_3 ⟨by first | exact Nat.le_of_ble_eq_true rfl | omega, by first | exact Nat.le_of_ble_eq_true rfl | omega⟩) hS (fun v_1 τ_1 H locs hq_1 hR hS => ?_)
  obtain ⟨rfl, g1, g2, g3, g4⟩ := hq_1
  refine W.eq (g2 := F0 mI 6 ls []) rfl ?_
  refine fw_vret hx hb hr hlocks hR hS dJ0_init_81219_6 ?_
  exact ⟨rfl, g1, g2, g3, g4⟩

set_option maxHeartbeats 4000000 in
set_option maxRecDepth 100000 in
theorem c_J4_toString_0e30d (G : FG) (hL : FL G) (l : Launch) (ω : FWd) (hJ : FJ G) (q vb m cap n : Nat) (cs : List Int32) (hn0 : ω.1 = m) (hq : ω.2 q = some (.inr (1, [.ref vb, .int 0, .int 0, .int (nI n)]))) (hv : ω.2 vb = some (.inl (G.2.1 2, cap, .inl (fun i => cs.getD i 0)))) (hn : n = cs.length) (ha : Asc cs) (hqm : q < m) (hvm : vb < m) (hlt : n < cap) (hcap : cap < 1000) : FMet G l yJ4_toString_0e30d wsJ4_toString_0e30d ({ frames := 5, cells := 2, slots := 1004, locals := 151 } : Room) [.ref q] ω (fun vv9 τ9 => vv9 = some (.ref m) ∧ τ9.1 = m + 2 ∧ τ9.2 m = some (.inr (0, [.ref (m + 1), .int 0, .int 0, .int 0])) ∧ τ9.2 (m + 1) = some (.inl (G.2.1 2, n, .inl (fun i => cs.getD i 0))) ∧ ∀ q9 : Nat, q9 < m → τ9.2 q9 = ω.2 q9) 2 1004 := by
  refine fw_ofW (cc := cJ4_toString_0e30d) (maxL := 1) (ret := (some (.object "java/lang/String"))) (by decide) rfl (Nat.le_of_ble_eq_true rfl) ?_
  intro pP eE sS mI ar9 bl9 meth cD ls hx hb hr hlocks hml hts hown hnm hW hR hl
  have hK := hL.K hW
  have hR0 := hR
  have hS : va_S (fwA G) sS.heap sS.heap [] := va_S.rf
  have hl : lv_has ls 1 [(0, .ref q)] := hl
  have hin4 : ∀ w ∈ u_ws RJ4 TJ4 4, w ∈ wsJ4_toString_0e30d := by decide +kernel
  have hin0 : ∀ w ∈ u_ws RJ0 TJ0 4, w ∈ wsJ4_toString_0e30d := by decide +kernel
  obtain ⟨σ_0, hs0⟩ : ∃ z9 : Nat → Option va_E, z9 = ω.2 := ⟨_, rfl⟩
  have hR : fR G (m, σ_0) sS.heap := by rw [hs0, ← hn0]; exact hR
  rw [← hs0] at hq hv ⊢
  refine fw_new (C := RJ0) (T := TJ0) (N := 4) (ci := 0) hx hb hts hin0 tyJ0 tyJ0_ok hown (hts (.classLink RJ4 18 RJ0) (by decide +kernel)) (hts (.instantiable RJ0 4) (by decide +kernel)) (hts (.initialized RJ0) (by decide +kernel)) hK hR hS rfl (n := m) rfl (fs := [.null, .int 0, .int 0, .int 0]) (fun j hj => by rcases (show j = 0 ∨ j = 1 ∨ j = 2 ∨ j = 3 by omega) with rfl | rfl | rfl | rfl <;> rfl) (Nat.le_of_ble_eq_true rfl) (Nat.le_of_ble_eq_true rfl) dJ4_toString_0e30d_0 (fun H hR hS => ?_)
  obtain ⟨σ_1, hs_1⟩ : ∃ z9 : Nat → Option va_E, z9 = va_up σ_0 m (some (.inr (0, [.null, .int 0, .int 0, .int 0]))) := ⟨_, rfl⟩
  have hR : fR G (m + 1, σ_1) H := by rw [hs_1]; exact hR
  have e_1 : σ_1 m = some (.inr (0, [.null, .int 0, .int 0, .int 0])) := by rw [hs_1]; exact va_up_at
  have f_1 : ∀ q9 : Nat, ¬ q9 = m → σ_1 q9 = σ_0 q9 := fun q9 hq => by rw [hs_1]; exact va_up_off hq
  clear hs_1
  refine lv_dup hx hb dJ4_toString_0e30d_3 rfl ?_
  refine lv_aload_n hx hb dJ4_toString_0e30d_4 rfl (lv_at hl 0 rfl) ?_
  refine fw_call (va_runI (As := [.ref q]) (rest := [.ref m]) ⟨hx, hb, hml, hown, hts⟩ (c_J0_init_81219 G hL l (m + 1, σ_1) hJ m q vb (m + 1) cap n cs rfl e_1 ((f_1 q (by omega)).trans hq) ((f_1 vb (by omega)).trans hv) hn ha (by omega) (by omega) (by omega) (by omega) hlt hcap) (cwI 1 hts gJ4_toString_0e30d_J0_init_81219 rfl rfl rfl (hts (.initialized yJ0_init_81219.cls) (by decide +kernel)) (hts (.methodLink RJ4 137 yJ0_init_81219) (by decide +kernel)) (hts (.instanceMethod yJ0_init_81219) (by decide +kernel)) rfl (by decide +kernel) ⟨Nat.le_of_ble_eq_true rfl, Nat.le_of_ble_eq_true rfl⟩) (fw_preI hW hR) rfl rfl hl.1 rfl (lv_room (Nat.le_of_ble_eq_true rfl)) dJ4_toString_0e30d_5 ⟨by first | exact Nat.le_of_ble_eq_true rfl | omega, by first | exact Nat.le_of_ble_eq_true rfl | omega⟩) hS (fun v_2 τ_2 H locs hq_2 hR hS => ?_)
  obtain ⟨rfl, g1, g2, g3, g4⟩ := hq_2
  refine W.eq (g2 := F0 mI 8 ls [.ref m]) rfl ?_
  refine fw_aret hx hb hr (Or.inl ⟨_, rfl⟩) hlocks hR hS dJ4_toString_0e30d_8 ?_
  exact ⟨rfl, g1, g2, g3, fun q9 h1 => (g4 q9 (by omega) (by omega)).trans (f_1 q9 (by omega))⟩
