/-! ===== methods that return or throw, over the world as a function ===== -/
def xwNs : List String := ["java/lang/RuntimeException", "java/lang/Exception"]
def xwB (cls : String) : List Cond := [.declares (Bundle.initS "java/lang/RuntimeException"), .declares (Bundle.initS "java/lang/Exception"), .declares (Bundle.initS Bundle.tN), .castable cls cls]
def xwC : List String := ["java/lang/UnsupportedOperationException", "java/lang/IllegalArgumentException", "java/lang/IndexOutOfBoundsException", "java/util/NoSuchElementException", "java/lang/IllegalStateException", "java/lang/ArithmeticException"]
def xwT : List (Nat × String) := [(105, "refused"), (150, "no such number of a leaflet"), (174, "no such number of a step"), (198, "no such number of a cousin"), (205, "no such leaflet"), (215, "no such cousin"), (226, "no such step"), (233, "no such kind"), (261, "there are no cousins"), (271, "no language would make the skipped steps fewer"), (296, "no such shelf"), (301, "no such measure"), (309, "no such place"), (323, "the text buffer is full"), (336, "the text has a fault"), (349, "a command is refused"), (372, "no such number of a reason"), (377, "nothing was refused"), (389, "no such character"), (406, "no leaflet with steps is built"), (433, "no such account"), (435, "there is nothing to undo"), (446, "there is no snapshot")]
/-- what a throw relies on, at the law's start -/
def FX0 (G : FG) (l : Launch) : Prop := l.stackTraces = false ∧ (∀ cls ∈ xwC, ∀ w ∈ xwB cls, va_Nw w G.2.2) ∧ (∀ q ∈ xwT, ∃ a : Nat, vk_R RX10 q.1 q.2 a G.2.2) ∧ vx_Zq Bundle.tN "UNASSIGNED_STACK" Bundle.steD (fwA G) G.2.2 G.2.2.heap ∧ vx_Zq Bundle.tN "SUPPRESSED_SENTINEL" Bundle.listD (fwA G) G.2.2 G.2.2.heap
theorem xwB_at {G : FG} {cls : String} {args : Array Value} {s : State} (hW : G.2.2.WarmedH s.vm) (h : ∀ w ∈ xwB cls, va_Nw w G.2.2) : ∀ w ∈ xwB cls, w.before args s = true := by
  intro w hw
  have h9 := h w hw
  simp only [xwB, List.mem_cons, List.not_mem_nil, or_false] at hw
  rcases hw with rfl | rfl | rfl | rfl
  · exact va_Nw.use rfl (va_Nw.warmD hW h9)
  · exact va_Nw.use rfl (va_Nw.warmD hW h9)
  · exact va_Nw.use rfl (va_Nw.warmD hW h9)
  · exact va_Nw.use rfl (va_Nw.warmC hW h9)
def fXX (G : FG) (X : String → FWd → Prop) : String → State → State → Prop := fun E st t => (∃ τ : FWd, X E τ ∧ fR G τ t.heap) ∧ va_F (fwA G) st t
abbrev FMetX (G : FG) (l : Launch) (y : MethodName) (ws : List Cond) (rm : Room) (av : List Value) (ω : FWd) (Q : Option Value → FWd → Prop) (X : String → FWd → Prop) (mc ms : Nat) : Prop := vx_Met l y ws rm (va_Pc av (fP G ω)) (fQ G Q) (fXX G X) mc ms (fwA G)
theorem fR.grow {G : FG} {ω : FWd} {H H1 : Heap} (hR : fR G ω H) (hz : H.size ≤ H1.size) (hq : ∀ q : Nat, q < H.size → H1[q]? = H[q]?) : fR G (H1.size, ω.2) H1 := by
  obtain ⟨h1, h2, h3⟩ := id hR
  refine ⟨rfl, ⟨Nat.le_trans h2.1 hz, fun q q1 q2 => ?_, fun l hl => by cases hl⟩, fun a e he => ?_⟩
  · rw [hq q (Nat.lt_of_lt_of_le q1 h2.1)]; exact h2.2.1 q q1 q2
  · exact ⟨(h3 a e he).1.kept (hq a (h3 a e he).1.lt), (h3 a e he).2⟩
section FWX
variable {G : FG} {p : Program} {l : Launch} {e : Env} {R : Room} {s : State} {m : MethodId} {args : Array Value} {below : List Frame} {meth : Method} {c : Code} {H : Heap} {locs : List Loc} {cells slots : Nat} {Q : State → Prop}
variable {cc : ByteArray} {pc : Nat} {ls : Array Slot} {rest st0 : List Value} {ω : FWd} {H0 : Heap}
theorem fx_ofW {y : MethodName} {ws ws' : List Cond} {rm : Room} {av : List Value} {Q2 : Option Value → FWd → Prop} {X : String → FWd → Prop} {mc ms : Nat} {maxL : Nat} {ret : Option FieldType} (hy : plainName y.cls = true) (hw : ws = Cond.code y cc maxL ret :: ws') (hlen : (lg_sl av).length ≤ maxL)
    (body : ∀ (p : Program) (e : Env) (s : State) (m : MethodId) (args : Array Value) (below : List Frame) (meth : Method) (c : Code) (ls : Array Slot), p.tables.exec = Jvm.exec → c.code = cc → meth.sig.returnType = ret → meth.locks = false → c.maxLocals = maxL → (∀ w ∈ ws, w.before args s = true) → s.vm.findClass y.cls = some m.cls → meth.name = y.name → G.2.2.WarmedH s.vm → fR G ω s.heap → (∀ x ∈ c.exceptionTable.toList, False) → lv_has ls maxL (lv_args 0 av) →
      W p l e rm s m args below meth c s.heap [] 0 0 (vx_MQ below (fQ G Q2) (fXX G X) args s mc ms (fwA G)) (F0 m 0 ls [])) : FMetX G l y ws rm av ω Q2 X mc ms := by
  refine vx_ofW (cc := cc) (maxL := maxL) (ret := ret) hy hw ?_
  intro p e s m args below meth c s₁ B hml ht hv
  obtain ⟨rfl, hW, hR⟩ := hv
  rw [lg_entry_eq]
  have hl := lv_entry av (n := maxL) hlen
  exact body p e s m _ below meth c _ B.exec B.bytes B.returns B.notSynchronized hml (atoms_spec (ws := ws) B.pre) (findClass_of_methodNamed B.named) (name_of_methodNamed B.named B.method).1 hW hR ht hl
/-- behind a call of one that may throw -/
theorem fx_call {Q2 : Option Value → FWd → Prop} {X : String → FWd → Prop} {mc ms : Nat} {av : Array Value} (hr : vx_Run p l e R s m args below meth c H locs cells slots mc ms (F0 m pc ls st0) rest (fQ G Q2 av) (fXX G X) (fwA G)) (hS : va_S (fwA G) H0 H locs)
    (kx : ∀ (E : String) (ce : Cell) (q9 : Addr) (τ : FWd) (H1 : Heap) (locs1 : List Loc), X E τ → fR G τ H1 → va_S (fwA G) H0 H1 locs1 → H1[q9]? = some ce → ce.vm = .none → s.vm.findClass E = some ce.cls → vx_W p l e R s m args below meth c H1 locs1 (cells + mc) (slots + ms) Q (F0 m pc ls rest) q9)
    (kk : ∀ (v : Option Value) (τ : FWd) (H1 : Heap) (locs1 : List Loc), Q2 v τ → fR G τ H1 → va_S (fwA G) H0 H1 locs1 → W p l e R s m args below meth c H1 locs1 (cells + mc) (slots + ms) Q (F0 m (pc + 3) ls (v.toList ++ rest))) : W p l e R s m args below meth c H locs cells slots Q (F0 m pc ls st0) := by
  intro T hT X9
  rcases hr T hT X9 with ⟨v, st₀, t, T', L, h0, X', hL, e1, e2, ⟨⟨v', τ, hv, hq, hR1⟩, hF⟩, st⟩ | ⟨q, st₀, t, T', L, E, ce, h0, X', hL, e1, e2, ⟨⟨τ, hx, hR1⟩, hF⟩, hce, hcv, hcl, st⟩
  · cases hv
    obtain ⟨k1, k2, k3⟩ := vx_keep h0 e1 hS (fun q _ hq => hq) (fun q hq => hq) hL hF
    obtain ⟨t2, a1, b1⟩ := kk v τ T'.heap (locs ++ L) hq (by rw [e1]; exact hR1) k3 T' rfl X'
    exact ⟨t2, st t2 a1, b1⟩
  · obtain ⟨k1, k2, k3⟩ := vx_keep h0 e1 hS (fun q _ hq => hq) (fun q hq => hq) hL hF
    obtain ⟨t2, a1, b1⟩ := kx E ce q τ T'.heap (locs ++ L) hx (by rw [e1]; exact hR1) k3 (by rw [e1]; exact hce) hcv hcl T' rfl X'
    exact ⟨t2, st.trans a1, b1⟩
/-- not caught here -/
theorem fx_out {Q2 : Option Value → FWd → Prop} {X : String → FWd → Prop} {E : String} {ce : Cell} {q9 : Addr} {mc ms : Nat} {τ : FWd} (ht : ∀ x ∈ c.exceptionTable.toList, False) (hlocks : meth.locks = false) (hX : X E τ) (hR : fR G τ H) (hS : va_S (fwA G) s.heap H locs) (hce : H[q9]? = some ce) (hcv : ce.vm = .none) (hcl : s.vm.findClass E = some ce.cls) (hc : cells ≤ mc) (hs : slots ≤ ms) :
    vx_W p l e R s m args below meth c H locs cells slots (vx_MQ below (fQ G Q2) (fXX G X) args s mc ms (fwA G)) (F0 m pc ls rest) q9 :=
  vx_out (fun x hx => (ht x hx).elim) hlocks hce hcv hcl (fun t h1 _ => ⟨⟨τ, hX, by rw [h1]; exact hR⟩, hS.F h1⟩) hS.2.2 hc hs
theorem fx_hat {args : Array Value} {s : State} {ws : List Cond} {cls : String} {ic : Nat} (hX0 : FX0 G l) (hW : G.2.2.WarmedH s.vm) (hts : ∀ w ∈ ws, w.before args s = true) (hcls : cls ∈ xwC) (hg : ∀ w ∈ (vx_atS RX10 ic cls xwNs).filter goodWord, w ∈ ws) (hn : ∀ w ∈ (vx_atS RX10 ic cls xwNs).filter (fun w => !goodWord w), w ∈ xwB cls) : ∀ w ∈ vx_atS RX10 ic cls xwNs, w.before args s = true :=
  vx_hat (fun w hw => hts w (hg w hw)) hn (xwB_at hW (hX0.2.1 cls hcls))
theorem fx_throw (hexec : p.tables.exec = Jvm.exec) (hb : c.code = cc) {cls text : String} {ik is ic mc ms : Nat} {Q2 : Option Value → FWd → Prop} {X : String → FWd → Prop} {ws : List Cond} (hX0 : FX0 G l) (hW : G.2.2.WarmedH s.vm) (hts : ∀ w ∈ ws, w.before args s = true)
    (hown : s.vm.findClass RX10 = some m.cls) (hcls : cls ∈ xwC) (hfit : Bundle.fit cls = true) (hk : Cond.classLink RX10 ik cls ∈ ws) (hini : Cond.initialized cls ∈ ws) (hstr : (is, text) ∈ xwT) (hg : ∀ w ∈ (vx_atS RX10 ic cls xwNs).filter goodWord, w ∈ ws) (hn : ∀ w ∈ (vx_atS RX10 ic cls xwNs).filter (fun w => !goodWord w), w ∈ xwB cls)
    (hgood : ∀ w ∈ Cond.classLink RX10 ik cls :: Cond.initialized cls :: vx_atS RX10 ic cls xwNs, vx_ot w = true) (hR0 : fR G ω s.heap) {τ : FWd} (hR : fR G τ H) (hS : va_S (fwA G) s.heap H locs) (hsize : ls.size = c.maxLocals)
    (d0 : decode cc pc = .ok (.new ik, 3)) (d3 : decode cc (pc + 3) = .ok (.dup, 1)) (d4 : decode cc (pc + 4) = .ok (.ldc is, 2)) (d6 : decode cc (pc + 6) = .ok (.invokespecial ic, 3)) (d9 : decode cc (pc + 9) = .ok (.athrow, 1))
    (ht : ∀ x ∈ c.exceptionTable.toList, False) (hRframes : 5 < R.frames) (hRlocals : (rest.map fun v => v.category).sum + 82 ≤ R.locals) (hRcells : cells + 1 ≤ R.cells) (hRslots : slots + 6 ≤ R.slots) (hlocks : meth.locks = false)
    (hx : ∀ n : Nat, X cls (n, τ.2)) (hc : cells + 1 ≤ mc) (hs : slots + 6 ≤ ms) :
    W p l e R s m args below meth c H locs cells slots (vx_MQ below (fQ G Q2) (fXX G X) args s mc ms (fwA G)) (F0 m pc ls rest) := by
  obtain ⟨sa, hsa⟩ := hX0.2.2.1 _ hstr
  exact vx_throwS hexec hb hX0.1 hown hfit (by decide) (hts _ hk) (hts _ hini) (vk_R.warm hW hsa) (fx_hat hX0 hW hts hcls hg hn) hgood
    ((vx_Zq.moved hW.alike hX0.2.2.2.1).kept hR0.2.1.2.1) ((vx_Zq.moved hW.alike hX0.2.2.2.2).kept hR0.2.1.2.1) hS hsize d0 d3 d4 d6 d9 (fun x hx9 => (ht x hx9).elim) hRframes hRlocals hRcells hRslots hlocks
    (fun t _ hz hq => ⟨⟨(t.heap.size, τ.2), hx _, hR.grow hz hq⟩, ⟨Nat.le_trans hS.1 hz, fun q h1 h2 => by rw [hq q (Nat.lt_of_lt_of_le h1 hS.1)]; exact hS.2.1 q h1 h2⟩⟩) hS.2.2 hc hs
theorem fx_throwW (hexec : p.tables.exec = Jvm.exec) (hb : c.code = cc) {cls text : String} {ik is ic mc ms : Nat} {Q2 : Option Value → FWd → Prop} {X : String → FWd → Prop} {ws : List Cond} (hX0 : FX0 G l) (hW : G.2.2.WarmedH s.vm) (hts : ∀ w ∈ ws, w.before args s = true)
    (hown : s.vm.findClass RX10 = some m.cls) (hcls : cls ∈ xwC) (hfit : Bundle.fit cls = true) (hk : Cond.classLink RX10 ik cls ∈ ws) (hini : Cond.initialized cls ∈ ws) (hstr : (is, text) ∈ xwT) (hg : ∀ w ∈ (vx_atS RX10 ic cls xwNs).filter goodWord, w ∈ ws) (hn : ∀ w ∈ (vx_atS RX10 ic cls xwNs).filter (fun w => !goodWord w), w ∈ xwB cls)
    (hgood : ∀ w ∈ Cond.classLink RX10 ik cls :: Cond.initialized cls :: vx_atS RX10 ic cls xwNs, vx_ot w = true) (hR0 : fR G ω s.heap) {τ : FWd} (hR : fR G τ H) (hS : va_S (fwA G) s.heap H locs) (hsize : ls.size = c.maxLocals)
    (d0 : decode cc pc = .ok (.new ik, 3)) (d3 : decode cc (pc + 3) = .ok (.dup, 1)) (d4 : decode cc (pc + 4) = .ok (.ldc_w is, 3)) (d6 : decode cc (pc + 7) = .ok (.invokespecial ic, 3)) (d9 : decode cc (pc + 10) = .ok (.athrow, 1))
    (ht : ∀ x ∈ c.exceptionTable.toList, False) (hRframes : 5 < R.frames) (hRlocals : (rest.map fun v => v.category).sum + 82 ≤ R.locals) (hRcells : cells + 1 ≤ R.cells) (hRslots : slots + 6 ≤ R.slots) (hlocks : meth.locks = false)
    (hx : ∀ n : Nat, X cls (n, τ.2)) (hc : cells + 1 ≤ mc) (hs : slots + 6 ≤ ms) :
    W p l e R s m args below meth c H locs cells slots (vx_MQ below (fQ G Q2) (fXX G X) args s mc ms (fwA G)) (F0 m pc ls rest) := by
  obtain ⟨sa, hsa⟩ := hX0.2.2.1 _ hstr
  exact vx_throwSW hexec hb hX0.1 hown hfit (by decide) (hts _ hk) (hts _ hini) (vk_R.warm hW hsa) (fx_hat hX0 hW hts hcls hg hn) hgood
    ((vx_Zq.moved hW.alike hX0.2.2.2.1).kept hR0.2.1.2.1) ((vx_Zq.moved hW.alike hX0.2.2.2.2).kept hR0.2.1.2.1) hS hsize d0 d3 d4 d6 d9 (fun x hx9 => (ht x hx9).elim) hRframes hRlocals hRcells hRslots hlocks
    (fun t _ hz hq => ⟨⟨(t.heap.size, τ.2), hx _, hR.grow hz hq⟩, ⟨Nat.le_trans hS.1 hz, fun q h1 h2 => by rw [hq q (Nat.lt_of_lt_of_le h1 hS.1)]; exact hS.2.1 q h1 h2⟩⟩) hS.2.2 hc hs
theorem fx_hatN {args : Array Value} {s : State} {ws : List Cond} (hX0 : FX0 G l) (hW : G.2.2.WarmedH s.vm) (hts : ∀ w ∈ ws, w.before args s = true) (hcls : neN ∈ xwC) (hg : ∀ w ∈ (vy_atN RX10 228).filter goodWord, w ∈ ws) (hn : ∀ w ∈ (vy_atN RX10 228).filter (fun w => !goodWord w), w ∈ xwB neN) : ∀ w ∈ vy_atN RX10 228, w.before args s = true :=
  vx_hat (fun w hw => hts w (hg w hw)) hn (xwB_at hW (hX0.2.1 neN hcls))
theorem fx_throwN (hexec : p.tables.exec = Jvm.exec) (hb : c.code = cc) {text : String} {ik is mc ms : Nat} {Q2 : Option Value → FWd → Prop} {X : String → FWd → Prop} {ws : List Cond} (hX0 : FX0 G l) (hW : G.2.2.WarmedH s.vm) (hts : ∀ w ∈ ws, w.before args s = true)
    (hown : s.vm.findClass RX10 = some m.cls) (hcls : neN ∈ xwC) (hfit : Bundle.fit neN = true) (hk : Cond.classLink RX10 ik neN ∈ ws) (hini : Cond.initialized neN ∈ ws) (hstr : (is, text) ∈ xwT) (hg : ∀ w ∈ (vy_atN RX10 228).filter goodWord, w ∈ ws) (hn : ∀ w ∈ (vy_atN RX10 228).filter (fun w => !goodWord w), w ∈ xwB neN)
    (hgood : ∀ w ∈ Cond.classLink RX10 ik neN :: Cond.initialized neN :: vy_atN RX10 228, vx_ot w = true) (hR0 : fR G ω s.heap) {τ : FWd} (hR : fR G τ H) (hS : va_S (fwA G) s.heap H locs) (hsize : ls.size = c.maxLocals)
    (d0 : decode cc pc = .ok (.new ik, 3)) (d3 : decode cc (pc + 3) = .ok (.dup, 1)) (d4 : decode cc (pc + 4) = .ok (.ldc is, 2)) (d6 : decode cc (pc + 6) = .ok (.invokespecial 228, 3)) (d9 : decode cc (pc + 9) = .ok (.athrow, 1))
    (ht : ∀ x ∈ c.exceptionTable.toList, False) (hRframes : 5 < R.frames) (hRlocals : (rest.map fun v => v.category).sum + 82 ≤ R.locals) (hRcells : cells + 1 ≤ R.cells) (hRslots : slots + 6 ≤ R.slots) (hlocks : meth.locks = false)
    (hx : ∀ n : Nat, X neN (n, τ.2)) (hc : cells + 1 ≤ mc) (hs : slots + 6 ≤ ms) :
    W p l e R s m args below meth c H locs cells slots (vx_MQ below (fQ G Q2) (fXX G X) args s mc ms (fwA G)) (F0 m pc ls rest) := by
  obtain ⟨sa, hsa⟩ := hX0.2.2.1 _ hstr
  exact vy_throwS hexec hb hX0.1 hown (hts _ hk) (hts _ hini) (vk_R.warm hW hsa) (fx_hatN hX0 hW hts hcls hg hn) hgood
    ((vx_Zq.moved hW.alike hX0.2.2.2.1).kept hR0.2.1.2.1) ((vx_Zq.moved hW.alike hX0.2.2.2.2).kept hR0.2.1.2.1) hS hsize d0 d3 d4 d6 d9 (fun x hx9 => (ht x hx9).elim) hRframes hRlocals hRcells hRslots hlocks
    (fun t _ hz hq => ⟨⟨(t.heap.size, τ.2), hx _, hR.grow hz hq⟩, ⟨Nat.le_trans hS.1 hz, fun q h1 h2 => by rw [hq q (Nat.lt_of_lt_of_le h1 hS.1)]; exact hS.2.1 q h1 h2⟩⟩) hS.2.2 hc hs
theorem fx_throwNW (hexec : p.tables.exec = Jvm.exec) (hb : c.code = cc) {text : String} {ik is mc ms : Nat} {Q2 : Option Value → FWd → Prop} {X : String → FWd → Prop} {ws : List Cond} (hX0 : FX0 G l) (hW : G.2.2.WarmedH s.vm) (hts : ∀ w ∈ ws, w.before args s = true)
    (hown : s.vm.findClass RX10 = some m.cls) (hcls : neN ∈ xwC) (hfit : Bundle.fit neN = true) (hk : Cond.classLink RX10 ik neN ∈ ws) (hini : Cond.initialized neN ∈ ws) (hstr : (is, text) ∈ xwT) (hg : ∀ w ∈ (vy_atN RX10 228).filter goodWord, w ∈ ws) (hn : ∀ w ∈ (vy_atN RX10 228).filter (fun w => !goodWord w), w ∈ xwB neN)
    (hgood : ∀ w ∈ Cond.classLink RX10 ik neN :: Cond.initialized neN :: vy_atN RX10 228, vx_ot w = true) (hR0 : fR G ω s.heap) {τ : FWd} (hR : fR G τ H) (hS : va_S (fwA G) s.heap H locs) (hsize : ls.size = c.maxLocals)
    (d0 : decode cc pc = .ok (.new ik, 3)) (d3 : decode cc (pc + 3) = .ok (.dup, 1)) (d4 : decode cc (pc + 4) = .ok (.ldc_w is, 3)) (d6 : decode cc (pc + 7) = .ok (.invokespecial 228, 3)) (d9 : decode cc (pc + 10) = .ok (.athrow, 1))
    (ht : ∀ x ∈ c.exceptionTable.toList, False) (hRframes : 5 < R.frames) (hRlocals : (rest.map fun v => v.category).sum + 82 ≤ R.locals) (hRcells : cells + 1 ≤ R.cells) (hRslots : slots + 6 ≤ R.slots) (hlocks : meth.locks = false)
    (hx : ∀ n : Nat, X neN (n, τ.2)) (hc : cells + 1 ≤ mc) (hs : slots + 6 ≤ ms) :
    W p l e R s m args below meth c H locs cells slots (vx_MQ below (fQ G Q2) (fXX G X) args s mc ms (fwA G)) (F0 m pc ls rest) := by
  obtain ⟨sa, hsa⟩ := hX0.2.2.1 _ hstr
  exact vy_throwSW hexec hb hX0.1 hown (hts _ hk) (hts _ hini) (vk_R.warm hW hsa) (fx_hatN hX0 hW hts hcls hg hn) hgood
    ((vx_Zq.moved hW.alike hX0.2.2.2.1).kept hR0.2.1.2.1) ((vx_Zq.moved hW.alike hX0.2.2.2.2).kept hR0.2.1.2.1) hS hsize d0 d3 d4 d6 d9 (fun x hx9 => (ht x hx9).elim) hRframes hRlocals hRcells hRslots hlocks
    (fun t _ hz hq => ⟨⟨(t.heap.size, τ.2), hx _, hR.grow hz hq⟩, ⟨Nat.le_trans hS.1 hz, fun q h1 h2 => by rw [hq q (Nat.lt_of_lt_of_le h1 hS.1)]; exact hS.2.1 q h1 h2⟩⟩) hS.2.2 hc hs
end FWX
theorem xn_207 : ∀ w ∈ (vx_atS RX10 207 "java/lang/IndexOutOfBoundsException" xwNs).filter (fun w => !goodWord w), w ∈ xwB "java/lang/IndexOutOfBoundsException" := by decide +kernel
theorem xg_207 : ∀ w ∈ Cond.classLink RX10 203 "java/lang/IndexOutOfBoundsException" :: Cond.initialized "java/lang/IndexOutOfBoundsException" :: vx_atS RX10 207 "java/lang/IndexOutOfBoundsException" xwNs, vx_ot w = true := by decide +kernel
theorem xn_399 : ∀ w ∈ (vx_atS RX10 399 "java/lang/ArithmeticException" xwNs).filter (fun w => !goodWord w), w ∈ xwB "java/lang/ArithmeticException" := by decide +kernel
theorem xg_399 : ∀ w ∈ Cond.classLink RX10 395 "java/lang/ArithmeticException" :: Cond.initialized "java/lang/ArithmeticException" :: vx_atS RX10 399 "java/lang/ArithmeticException" xwNs, vx_ot w = true := by decide +kernel
theorem xn_325 : ∀ w ∈ (vx_atS RX10 325 "java/lang/IllegalStateException" xwNs).filter (fun w => !goodWord w), w ∈ xwB "java/lang/IllegalStateException" := by decide +kernel
theorem xg_325 : ∀ w ∈ Cond.classLink RX10 321 "java/lang/IllegalStateException" :: Cond.initialized "java/lang/IllegalStateException" :: vx_atS RX10 325 "java/lang/IllegalStateException" xwNs, vx_ot w = true := by decide +kernel
theorem xn_228 : ∀ w ∈ (vy_atN RX10 228).filter (fun w => !goodWord w), w ∈ xwB "java/util/NoSuchElementException" := by decide +kernel
theorem xg_228 : ∀ w ∈ Cond.classLink RX10 224 "java/util/NoSuchElementException" :: Cond.initialized "java/util/NoSuchElementException" :: vy_atN RX10 228, vx_ot w = true := by decide +kernel
theorem xn_152 : ∀ w ∈ (vx_atS RX10 152 "java/lang/IllegalArgumentException" xwNs).filter (fun w => !goodWord w), w ∈ xwB "java/lang/IllegalArgumentException" := by decide +kernel
theorem xg_152 : ∀ w ∈ Cond.classLink RX10 148 "java/lang/IllegalArgumentException" :: Cond.initialized "java/lang/IllegalArgumentException" :: vx_atS RX10 152 "java/lang/IllegalArgumentException" xwNs, vx_ot w = true := by decide +kernel
theorem xn_107 : ∀ w ∈ (vx_atS RX10 107 "java/lang/UnsupportedOperationException" xwNs).filter (fun w => !goodWord w), w ∈ xwB "java/lang/UnsupportedOperationException" := by decide +kernel
theorem xg_107 : ∀ w ∈ Cond.classLink RX10 103 "java/lang/UnsupportedOperationException" :: Cond.initialized "java/lang/UnsupportedOperationException" :: vx_atS RX10 107 "java/lang/UnsupportedOperationException" xwNs, vx_ot w = true := by decide +kernel
