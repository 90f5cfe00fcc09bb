/-! ===== the world as a function: what each address holds; every contract speaks of it ===== -/
/-- class numbers and slots, array classes, the law's start -/
abbrev FG : Type := va_G × (Nat → ClassId) × State
def fwT (G : FG) : List (ClassId × FieldType) := [(G.2.1 0, .int), (G.2.1 1, .char), (G.2.1 2, .byte), (G.2.1 3, .byte), (G.2.1 4, .object RX0), (G.2.1 5, .object RX2), (G.2.1 6, .object RX3), (G.2.1 7, .object RX5)]
def fwA (G : FG) : Nat → Prop := fun q => G.2.2.heap.size ≤ q
abbrev FWd : Type := Nat × (Nat → Option va_E)
def fwNest : List Cond := [.methodLinkNest RX0 25 yX9_init RX10, .methodLinkNest RX0 30 yX5_init RX10, .methodLinkNest RX0 31 yX3_init RX10, .methodLinkNest RX0 61 yX10_isWithin RX10, .methodLinkNest RX1 20 yX7_init RX10, .methodLinkNest RX1 36 yX10_isShelf RX10, .methodLinkNest RX1 60 yX10_isWithin RX10, .methodLinkNest RX1 110 yX10_contains RX10, .methodLinkNest RX5 46 yX10_isWithin RX10, .methodLinkNest RX5 50 yX10_contains RX10, .methodLinkNest RX8 25 yX2_init RX10, .methodLinkNest RX10 9 yX1_init RX10, .methodLinkNest RX10 48 yX6_init RX10, .methodLinkNest RX10 55 yX9_init RX10]
def fwAO : List String := [RX0, RX2, RX3, RX5]
/-- what holds at the law's start -/
def FL (G : FG) : Prop := va_K G.1 vwCl (fwT G) G.2.2 ∧ (∀ w ∈ fwNest, va_Nw w G.2.2) ∧ (∀ C ∈ fwAO, va_AO C G.2.2)
def fR (G : FG) (ω : FWd) (H : Heap) : Prop := H.size = ω.1 ∧ va_S (fwA G) G.2.2.heap H [] ∧ ∀ (a : Nat) (e : va_E), ω.2 a = some e → va_at G.1 vwCl (a, e) H ∧ G.2.2.heap.size ≤ a
def fP (G : FG) (ω : FWd) : State → Prop := fun U => G.2.2.WarmedH U.vm ∧ fR G ω U.heap
def fQ (G : FG) (Q : Option Value → FWd → Prop) : Array Value → State → Outcome → State → Prop := fun _ st oc t => (∃ (v : Option Value) (τ : FWd), oc = .returned v ∧ Q v τ ∧ fR G τ t.heap) ∧ va_F (fwA G) st t
abbrev FMet (G : FG) (l : Launch) (y : MethodName) (ws : List Cond) (rm : Room) (av : List Value) (ω : FWd) (Q : Option Value → FWd → Prop) (mc ms : Nat) : Prop := Met l y ws rm (va_Pc av (fP G ω)) (fQ G Q) mc ms (fwA G)
theorem FL.K {G : FG} {s : State} (h : FL G) (hW : G.2.2.WarmedH s.vm) : va_K G.1 vwCl (fwT G) s := va_K.moved hW.alike h.1
theorem FL.N {G : FG} {s : State} (h : FL G) (hW : G.2.2.WarmedH s.vm) {a : String} {i : Nat} {x : MethodName} {hh : String} (hm : Cond.methodLinkNest a i x hh ∈ fwNest) : va_Nw (.methodLinkNest a i x hh) s := va_Nw.warmM hW (h.2.1 _ hm)
theorem FL.AO {G : FG} {s : State} (h : FL G) (hW : G.2.2.WarmedH s.vm) {C : String} (hm : C ∈ fwAO) : va_AO C s := va_AO.moved hW.alike (h.2.2 _ hm)
theorem fR.at1 {G : FG} {ω : FWd} {H : Heap} (hR : fR G ω H) {a : Nat} {e : va_E} (he : ω.2 a = some e) : va_P G.1 vwCl [(a, e)] H := by
  intro k q hq
  have hk : k < 1 := (List.getElem?_eq_some_iff.mp hq).1
  rw [show k = 0 by omega] at hq
  cases hq
  exact (hR.2.2 a e he).1
theorem fR.lt {G : FG} {ω : FWd} {H : Heap} (hR : fR G ω H) {a : Nat} {e : va_E} (he : ω.2 a = some e) : a < ω.1 := by
  have := (hR.2.2 a e he).1.lt
  rw [hR.1] at this
  exact this
theorem fR.up {G : FG} {ω : FWd} {H H1 : Heap} (hR : fR G ω H) {a : Nat} {e0 e : va_E} (he : ω.2 a = some e0) (z : H1.size = H.size) (oq : ∀ q : Nat, q ≠ a → H1[q]? = H[q]?) (hat : va_at G.1 vwCl (a, e) H1) : fR G (ω.1, va_up ω.2 a (some e)) H1 := by
  obtain ⟨h1, h2, h3⟩ := id hR
  have hga := (h3 a e0 he).2
  refine ⟨by rw [z]; exact h1, ⟨by rw [z]; exact h2.1, fun q q1 q2 => ?_, fun l hl => by cases hl⟩, fun b x hx => ?_⟩
  · rw [oq q (fun e9 => by subst e9; exact q2 hga)]
    exact h2.2.1 q q1 q2
  · by_cases hb : b = a
    · subst hb
      simp only [va_up, if_true] at hx
      cases hx
      exact ⟨hat, hga⟩
    · simp only [va_up, if_neg hb] at hx
      exact ⟨(h3 b x hx).1.kept (oq b hb), (h3 b x hx).2⟩
theorem fR.mk {G : FG} {ω : FWd} {H H1 : Heap} (hR : fR G ω H) {e : va_E} (z : H1.size = H.size + 1) (oq : ∀ q : Nat, q < H.size → H1[q]? = H[q]?) (hat : va_at G.1 vwCl (ω.1, e) H1) : fR G (ω.1 + 1, va_up ω.2 ω.1 (some e)) H1 := by
  obtain ⟨h1, h2, h3⟩ := id hR
  refine ⟨by rw [z, h1], ⟨by rw [z]; exact Nat.le_succ_of_le h2.1, fun q q1 q2 => ?_, fun l hl => by cases hl⟩, fun b x hx => ?_⟩
  · rw [oq q (Nat.lt_of_lt_of_le q1 h2.1)]
    exact h2.2.1 q q1 q2
  · by_cases hb : b = ω.1
    · subst hb
      simp only [va_up, if_true] at hx
      cases hx
      exact ⟨hat, by rw [← h1]; exact h2.1⟩
    · simp only [va_up, if_neg hb] at hx
      exact ⟨(h3 b x hx).1.kept (oq b (h3 b x hx).1.lt), (h3 b x hx).2⟩
/-- fewer things are known -/
theorem fR.weak {G : FG} {ω τ : FWd} {H : Heap} (hR : fR G ω H) (h1 : τ.1 = ω.1) (h2 : ∀ (a : Nat) (e : va_E), τ.2 a = some e → ω.2 a = some e) : fR G τ H := ⟨by rw [h1]; exact hR.1, hR.2.1, fun a e h => hR.2.2 a e (h2 a e h)⟩
theorem fw_blind {G : FG} {ω : FWd} {av : List Value} : FrameBlind (va_Pc av (fP G ω)) := fun _ _ _ _ q => ⟨q.1, q.2.1, q.2.2⟩
theorem fw_preS {G : FG} {ω : FWd} {s : State} {H : Heap} {As : List Value} (hW : G.2.2.WarmedH s.vm) (hR : fR G ω H) : PreS s H (va_Pc As (fP G ω)) As :=
  ⟨fw_blind, fun _ hU hWs => ⟨rfl, State.WarmedH.trans hW hWs, by rw [hU]; exact hR⟩⟩
theorem fw_preI {G : FG} {ω : FWd} {s : State} {H : Heap} {As : List Value} {b : Nat} (hW : G.2.2.WarmedH s.vm) (hR : fR G ω H) : PreS s H (va_Pc (.ref b :: As) (fP G ω)) (.ref b :: As) := fw_preS hW hR
theorem fw_preV {G : FG} {ω : FWd} {s : State} {H : Heap} {As : List Value} {b ci : Nat} {r : vw_C} {fs : List Value} (hW : G.2.2.WarmedH s.vm) (hK : va_K G.1 vwCl (fwT G) s) (hR : fR G ω H) (he : ω.2 b = some (.inr (ci, fs))) (hc : vwCl[ci]? = some r) : PreV s H r.1 b (va_Pc (.ref b :: As) (fP G ω)) As :=
  ⟨fw_blind, va_recv hK (hR.at1 he) hc (q0 := 0) rfl, fun _ hU hWs => ⟨rfl, State.WarmedH.trans hW hWs, by rw [hU]; exact hR⟩⟩
section FWR
variable {G : FG} {p : Program} {l : Launch} {e : Env} {R : Room} {s : State} {m : MethodId} {args : Array Value} {below : List Frame} {meth : Method} {c : Code} {H : Heap} {locs : List Loc} {cells slots : Nat} {Q : State → Prop}
variable {cc : ByteArray} {pc : Nat} {ls : Array Slot} {rest st0 : List Value} {a : Nat} {ω : FWd} {H0 : Heap}
theorem fw_get (hexec : p.tables.exec = Jvm.exec) (hb : c.code = cc) {own C : String} {T : u_T} {N ci index : Nat} {Ts : List Cond} (hts : ∀ w ∈ Ts, w.before args s = true) (hin : ∀ w ∈ u_ws C T N, w ∈ Ts) (hown : s.vm.findClass own = some m.cls) (hK : va_K G.1 vwCl (fwT G) s) (hR : fR G ω H) {fs : List Value} (he : ω.2 a = some (.inr (ci, fs))) (hc : vwCl[ci]? = some (C, T, N)) (k : Nat) (hk : k < N) (hlink : (Cond.fieldLink own index (T k).1 (T k).2.1 (T k).2.2.1).before args s = true) {v : Value} (hv : fs[k]? = some v) (hdg : decode cc pc = .ok (.getfield index, 3))
    (kk : W p l e R s m args below meth c H locs cells slots Q (F0 m (pc + 3) ls (v :: rest))) : W p l e R s m args below meth c H locs cells slots Q (F0 m pc ls (.ref a :: rest)) :=
  va_get hexec hb hts hin hown hK (hR.at1 he) 0 rfl hc k hk hlink (fun _ h => h) hv hdg kk
theorem fw_put (hexec : p.tables.exec = Jvm.exec) (hb : c.code = cc) {own C : String} {T : u_T} {N ci index : Nat} {Ts : List Cond} (hts : ∀ w ∈ Ts, w.before args s = true) (hin : ∀ w ∈ u_ws C T N, w ∈ Ts) (ty0 : Nat → FieldType) (hty : ∀ k, k < N → parseFieldDescriptor (T k).2.2.1 = some (ty0 k)) (hnm : ∀ a, a < N → ∀ b, b < N → a ≠ b → (T a).2.1 ≠ (T b).2.1) (hown : s.vm.findClass own = some m.cls) (hK : va_K G.1 vwCl (fwT G) s) (hR : fR G ω H) (hS : va_S (fwA G) H0 H locs) {fs : List Value} (he : ω.2 a = some (.inr (ci, fs))) (hc : vwCl[ci]? = some (C, T, N)) (k : Nat) (hk : k < N) (hlink : (Cond.fieldLink own index (T k).1 (T k).2.1 (T k).2.2.1).before args s = true) (hfin : (T k).2.2.2 = false) {v : Value} (hn : narrow (ty0 k) v = v) (hfit : fits (ty0 k) v = true) (hl : k < fs.length)
    (hdg : decode cc pc = .ok (.putfield index, 3)) (kk : ∀ (H1 : Heap) (locs1 : List Loc), fR G (ω.1, va_up ω.2 a (some (.inr (ci, fs.set k v)))) H1 → va_S (fwA G) H0 H1 locs1 → W p l e R s m args below meth c H1 locs1 cells slots Q (F0 m (pc + 3) ls rest)) : W p l e R s m args below meth c H locs cells slots Q (F0 m pc ls (v :: .ref a :: rest)) := by
  have hap := va_apart (own := own) hts hin ty0 hty hnm hK hc
  obtain ⟨⟨r, h1, cell, q1, q2, q3, q4⟩, hga⟩ := hR.2.2 a _ he
  have hr : r = (C, T, N) := Option.some.inj (h1.symm.trans hc)
  subst hr
  obtain ⟨hS1, hfc, kC, hkC, hkind⟩ := hK.1 ci _ hc
  obtain ⟨cf, kf, fi, f, hi, hsl⟩ := hS1 k hk
  have hlay := hts _ (hin _ (u_in_lay hk))
  unfold u_lay at hlay
  rw [if_neg (by rw [hfin]; decide)] at hlay
  have hst := (u_facts hfc hkC (u_lays hts hin hk) hi).1
  have h6 := u_store hfc hkC hkind hlay hi (hty k hk) hn hfit
  refine W.putK hexec hb (f := f) ⟨hown, hlink, ⟨_, _, _, hi⟩, hst⟩ (by rw [q2]; exact h6) q1 q3 (by rw [hsl]; exact k2_hasslot (q4 k hk)) rfl rfl hdg fun H' e1 e2 e3 => ?_
  rw [hsl] at e1 ⊢
  exact kk H' _ (hR.up he e2 e3 ⟨_, hc, t_OB.to (V := updV (vp_V fs) k v) ⟨_, e1, q2, q3, t_set q4 hap hk v⟩ (fun j _ => vp_updV_set hl v j)⟩) (hS.put e2 e3 hga)
theorem fw_putF (hexec : p.tables.exec = Jvm.exec) (hb : c.code = cc) {own C : String} {T : u_T} {N ci index : Nat} {Ts : List Cond} (hts : ∀ w ∈ Ts, w.before args s = true) (hin : ∀ w ∈ u_ws C T N, w ∈ Ts) (ty0 : Nat → FieldType) (hty : ∀ k, k < N → parseFieldDescriptor (T k).2.2.1 = some (ty0 k)) (hnm : ∀ a, a < N → ∀ b, b < N → a ≠ b → (T a).2.1 ≠ (T b).2.1) (hown : s.vm.findClass own = some m.cls) (hK : va_K G.1 vwCl (fwT G) s) (hR : fR G ω H) (hS : va_S (fwA G) H0 H locs) {fs : List Value} (he : ω.2 a = some (.inr (ci, fs))) (hc : vwCl[ci]? = some (C, T, N)) (k : Nat) (hk : k < N) (hlink : (Cond.fieldLink own index (T k).1 (T k).2.1 (T k).2.2.1).before args s = true) (hfin : (T k).2.2.2 = true) (hin2 : meth.name = "<init>") (hdecl : (T k).1 = own) {v : Value} (hn : narrow (ty0 k) v = v) (hfit : fits (ty0 k) v = true) (hl : k < fs.length)
    (hdg : decode cc pc = .ok (.putfield index, 3)) (kk : ∀ (H1 : Heap) (locs1 : List Loc), fR G (ω.1, va_up ω.2 a (some (.inr (ci, fs.set k v)))) H1 → va_S (fwA G) H0 H1 locs1 → W p l e R s m args below meth c H1 locs1 cells slots Q (F0 m (pc + 3) ls rest)) : W p l e R s m args below meth c H locs cells slots Q (F0 m pc ls (v :: .ref a :: rest)) := by
  have hap := va_apart (own := own) hts hin ty0 hty hnm hK hc
  obtain ⟨⟨r, h1, cell, q1, q2, q3, q4⟩, hga⟩ := hR.2.2 a _ he
  have hr : r = (C, T, N) := Option.some.inj (h1.symm.trans hc)
  subst hr
  obtain ⟨hS1, hfc, kC, hkC, hkind⟩ := hK.1 ci _ hc
  obtain ⟨cf, kf, fi, f, hi, hsl⟩ := hS1 k hk
  have hlay := hts _ (hin _ (u_in_lay hk))
  unfold u_lay at hlay
  rw [if_pos hfin] at hlay
  have hst := (u_facts hfc hkC (u_lays hts hin hk) hi).1
  have hcf : m.cls = cf := by
    obtain ⟨_, _, c', _, _, _, -, -, hf', -, -, -, hown2, -⟩ := Cond.laysFinal_spec hlay
    have e1 : c' = cf := by have := hi.symm.trans hf'; simp at this; exact this.1.symm
    rw [hdecl] at hown2
    rw [← e1]; exact Option.some.inj (hown.symm.trans hown2)
  have h6 := u_fits hfc hkC hkind (Or.inr hlay) hi (hty k hk) hn hfit
  refine W.putFinK hexec hb hown hlink hi hst hcf hin2 (by rw [q2]; exact h6) q1 q3 (by rw [hsl]; exact k2_hasslot (q4 k hk)) rfl rfl hdg fun H' e1 e2 e3 => ?_
  rw [hsl] at e1 ⊢
  exact kk H' _ (hR.up he e2 e3 ⟨_, hc, t_OB.to (V := updV (vp_V fs) k v) ⟨_, e1, q2, q3, t_set q4 hap hk v⟩ (fun j _ => vp_updV_set hl v j)⟩) (hS.put e2 e3 hga)
theorem fw_iald (hexec : p.tables.exec = Jvm.exec) (hb : c.code = cc) (hK : va_K G.1 vwCl (fwT G) s) (hR : fR G ω H) {n : Nat} {f : Nat → Int32} (he : ω.2 a = some (.inl (G.2.1 0, n, .inl f))) {i : Int32} (hin : vp_in i n) (hdg : decode cc pc = .ok (.iaload, 1))
    (kk : W p l e R s m args below meth c H locs cells slots Q (F0 m (pc + 1) ls (.int (f i.toNatClampNeg) :: rest))) : W p l e R s m args below meth c H locs cells slots Q (F0 m pc ls (.int i :: .ref a :: rest)) :=
  va_iald hexec hb hK (hR.at1 he) 0 0 rfl rfl hin hdg kk
theorem fw_cald (hexec : p.tables.exec = Jvm.exec) (hb : c.code = cc) (hK : va_K G.1 vwCl (fwT G) s) (hR : fR G ω H) {n : Nat} {f : Nat → Int32} (he : ω.2 a = some (.inl (G.2.1 1, n, .inl f))) {i : Int32} (hin : vp_in i n) (hdg : decode cc pc = .ok (.caload, 1))
    (kk : W p l e R s m args below meth c H locs cells slots Q (F0 m (pc + 1) ls (.int (f i.toNatClampNeg) :: rest))) : W p l e R s m args below meth c H locs cells slots Q (F0 m pc ls (.int i :: .ref a :: rest)) :=
  va_cald hexec hb hK (hR.at1 he) 0 1 rfl rfl hin hdg kk
theorem fw_aald (hexec : p.tables.exec = Jvm.exec) (hb : c.code = cc) (hK : va_K G.1 vwCl (fwT G) s) (hR : fR G ω H) {j n : Nat} {C : String} {f : Nat → Option Nat} (he : ω.2 a = some (.inl (G.2.1 j, n, .inr (.inr (.inr (.inr f)))))) (ht : (fwT G)[j]? = some (G.2.1 j, .object C)) {i : Int32} (hin : vp_in i n) {b : Nat} (hf : f i.toNatClampNeg = some b) (hdg : decode cc pc = .ok (.aaload, 1))
    (kk : W p l e R s m args below meth c H locs cells slots Q (F0 m (pc + 1) ls (.ref b :: rest))) : W p l e R s m args below meth c H locs cells slots Q (F0 m pc ls (.int i :: .ref a :: rest)) :=
  va_aldq hexec hb hK (hR.at1 he) 0 j rfl ht hin hdg (by rw [hf]; exact kk)
theorem fw_iast (hexec : p.tables.exec = Jvm.exec) (hb : c.code = cc) (hK : va_K G.1 vwCl (fwT G) s) (hR : fR G ω H) (hS : va_S (fwA G) H0 H locs) {n : Nat} {f : Nat → Int32} (he : ω.2 a = some (.inl (G.2.1 0, n, .inl f))) {i x : Int32} (hin : vp_in i n) (hdg : decode cc pc = .ok (.iastore, 1))
    (kk : ∀ (H1 : Heap) (locs1 : List Loc), fR G (ω.1, va_up ω.2 a (some (.inl (G.2.1 0, n, .inl (upd f i.toNatClampNeg x))))) H1 → va_S (fwA G) H0 H1 locs1 → W p l e R s m args below meth c H1 locs1 cells slots Q (F0 m (pc + 1) ls rest)) : W p l e R s m args below meth c H locs cells slots Q (F0 m pc ls (.int x :: .int i :: .ref a :: rest)) := by
  obtain ⟨h1, hga⟩ := hR.2.2 a _ he
  refine W.iast hexec hb h1 ((hK.2 0 _ rfl).1 n (fun j => .int (f j))) (fun q => by cases q) (by show ¬ (i < 0 ∨ (arrV _ _ _).slots.size ≤ _); rw [arrV_size]; exact hin) rfl rfl hdg fun H1 e z oq => ?_
  refine kk H1 _ (hR.up he z oq ?_) (hS.put z oq hga)
  show H1[a]? = some (vp_cell _ _)
  rw [e, vp_cell_i, vp_cell_i, arrV_store]
  congr 2
  funext q
  by_cases hq : q = i.toNatClampNeg
  · subst hq; simp [updV, upd]
  · simp [updV, upd, hq]
theorem fw_cast (hexec : p.tables.exec = Jvm.exec) (hb : c.code = cc) (hK : va_K G.1 vwCl (fwT G) s) (hR : fR G ω H) (hS : va_S (fwA G) H0 H locs) {n : Nat} {f : Nat → Int32} (he : ω.2 a = some (.inl (G.2.1 1, n, .inl f))) {i x : Int32} (hin : vp_in i n) (hdg : decode cc pc = .ok (.castore, 1))
    (kk : ∀ (H1 : Heap) (locs1 : List Loc), fR G (ω.1, va_up ω.2 a (some (.inl (G.2.1 1, n, .inl (upd f i.toNatClampNeg (vp_nar .char x)))))) H1 → va_S (fwA G) H0 H1 locs1 → W p l e R s m args below meth c H1 locs1 cells slots Q (F0 m (pc + 1) ls rest)) : W p l e R s m args below meth c H locs cells slots Q (F0 m pc ls (.int x :: .int i :: .ref a :: rest)) := by
  obtain ⟨h1, hga⟩ := hR.2.2 a _ he
  refine W.cast hexec hb h1 ((hK.2 1 _ rfl).1 n (fun j => .int (f j))) (fun q => by cases q) (by show ¬ (i < 0 ∨ (arrV _ _ _).slots.size ≤ _); rw [arrV_size]; exact hin) rfl rfl hdg fun H1 e z oq => ?_
  refine kk H1 _ (hR.up he z oq ?_) (hS.put z oq hga)
  show H1[a]? = some (vp_cell _ _)
  rw [e, vp_cell_i, vp_cell_i, arrV_store]
  congr 2
  funext q
  by_cases hq : q = i.toNatClampNeg
  · subst hq
    simp [updV, upd, vp_nar]
    try rfl
  · simp [updV, upd, hq]
/-- behind a call -/
theorem fw_call {Q2 : Option Value → FWd → Prop} {mc ms : Nat} {av : Array Value} (hr : va_Run p l e R s m args below meth c H locs cells slots mc ms (F0 m pc ls st0) rest (fQ G Q2 av) (fwA G)) (hS : va_S (fwA G) H0 H locs)
    (kk : ∀ (v : Option Value) (τ : FWd) (H1 : Heap) (locs1 : List Loc), Q2 v τ → fR G τ H1 → va_S (fwA G) H0 H1 locs1 → W p l e R s m args below meth c H1 locs1 (cells + mc) (slots + ms) Q (F0 m (pc + 3) ls (v.toList ++ rest))) : W p l e R s m args below meth c H locs cells slots Q (F0 m pc ls st0) := by
  intro T hT X
  obtain ⟨v, st₀, t, T', L, h0, X', hL, e1, e2, ⟨⟨v', τ, hv, hq, hR1⟩, hz, hk⟩, st⟩ := hr T hT X
  cases hv
  rw [h0] at hz hk
  obtain ⟨t2, a1, b1⟩ := kk v τ T'.heap (locs ++ L) hq (by rw [e1]; exact hR1)
    ⟨Nat.le_trans hS.1 (by rw [e1]; exact hz), fun q h1 h2 => by rw [e1, hk q (Nat.lt_of_lt_of_le h1 hS.1) h2]; exact hS.2.1 q h1 h2, fun q hq => by
      rcases List.mem_append.mp hq with h | h
      · exact hS.2.2 q h
      · exact hL q h⟩ T' rfl X'
  exact ⟨t2, st t2 a1, b1⟩
theorem fw_iret {Q2 : Option Value → FWd → Prop} {v : Int32} (hexec : p.tables.exec = Jvm.exec) (hb : c.code = cc) (hr : meth.sig.returnType = some .int) (hlocks : meth.locks = false) (hR : fR G ω H) (hS : va_S (fwA G) s.heap H locs) (hdg : decode cc pc = .ok (.ireturn, 1)) (hq : Q2 (some (.int v)) ω) : W p l e R s m args below meth c H locs cells slots (MQ below (fQ G Q2) args s cells slots (fwA G)) (F0 m pc ls [.int v]) :=
  W.iret hexec hb hr (fun _ ht _ => ⟨⟨_, ω, rfl, hq, by rw [ht]; exact hR⟩, hS.F ht⟩) hS.2.2 hdg hlocks
theorem fw_zret {Q2 : Option Value → FWd → Prop} {v : Int32} {ty : FieldType} (hexec : p.tables.exec = Jvm.exec) (hb : c.code = cc) (hr : meth.sig.returnType = some ty) (hn : narrow ty (.int v) = .int v) (hlocks : meth.locks = false) (hR : fR G ω H) (hS : va_S (fwA G) s.heap H locs) (hdg : decode cc pc = .ok (.ireturn, 1)) (hq : Q2 (some (.int v)) ω) : W p l e R s m args below meth c H locs cells slots (MQ below (fQ G Q2) args s cells slots (fwA G)) (F0 m pc ls [.int v]) :=
  W.zret hexec hb hr hn (fun _ ht _ => ⟨⟨_, ω, rfl, hq, by rw [ht]; exact hR⟩, hS.F ht⟩) hS.2.2 hdg hlocks
theorem fw_vret {Q2 : Option Value → FWd → Prop} (hexec : p.tables.exec = Jvm.exec) (hb : c.code = cc) (hr : meth.sig.returnType = none) (hlocks : meth.locks = false) (hR : fR G ω H) (hS : va_S (fwA G) s.heap H locs) (hdg : decode cc pc = .ok (.return_, 1)) (hq : Q2 none ω) : W p l e R s m args below meth c H locs cells slots (MQ below (fQ G Q2) args s cells slots (fwA G)) (F0 m pc ls []) :=
  W.vret hexec hb hr (fun _ ht _ => ⟨⟨_, ω, rfl, hq, by rw [ht]; exact hR⟩, hS.F ht⟩) hS.2.2 hdg hlocks
theorem fw_aret {Q2 : Option Value → FWd → Prop} {b : Nat} {rt : FieldType} (hexec : p.tables.exec = Jvm.exec) (hb : c.code = cc) (hr : meth.sig.returnType = some rt) (hrt : (∃ n, rt = .object n) ∨ ∃ t, rt = .array t) (hlocks : meth.locks = false) (hR : fR G ω H) (hS : va_S (fwA G) s.heap H locs) (hdg : decode cc pc = .ok (.areturn, 1)) (hq : Q2 (some (.ref b)) ω) : W p l e R s m args below meth c H locs cells slots (MQ below (fQ G Q2) args s cells slots (fwA G)) (F0 m pc ls [.ref b]) :=
  W.aret hexec hb hr hrt (Or.inr ⟨b, rfl⟩) (fun _ ht _ => ⟨⟨_, ω, rfl, hq, by rw [ht]; exact hR⟩, hS.F ht⟩) hS.2.2 hdg hlocks
/-- what a body is given, and what it owes -/
theorem fw_ofW {y : MethodName} {ws ws' : List Cond} {rm : Room} {av : List Value} {Q2 : Option Value → FWd → Prop} {mc ms : Nat} {maxL : Nat} {ret : Option FieldType} (hy : plainName y.cls = true) (hw : ws = Cond.code y cc maxL ret :: ws') (hlen : (lg_sl av).length ≤ maxL)
    (body : ∀ (p : Program) (e : Env) (s : State) (m : MethodId) (args : Array Value) (below : List Frame) (meth : Method) (c : Code) (ls : Array Slot), p.tables.exec = Jvm.exec → c.code = cc → meth.sig.returnType = ret → meth.locks = false → c.maxLocals = maxL → (∀ w ∈ ws, w.before args s = true) → s.vm.findClass y.cls = some m.cls → meth.name = y.name → G.2.2.WarmedH s.vm → fR G ω s.heap → lv_has ls maxL (lv_args 0 av) →
      W p l e rm s m args below meth c s.heap [] 0 0 (MQ below (fQ G Q2) args s mc ms (fwA G)) (F0 m 0 ls [])) : FMet G l y ws rm av ω Q2 mc ms := by
  refine Met.ofW (cc := cc) (maxL := maxL) (ret := ret) hy hw ?_
  intro p e s m args below meth c s₁ B hml hv
  obtain ⟨rfl, hW, hR⟩ := hv
  rw [lg_entry_eq]
  have hl := lv_entry av (n := maxL) hlen
  exact body p e s m _ below meth c _ B.exec B.bytes B.returns B.notSynchronized hml (atoms_spec (ws := ws) B.pre) (findClass_of_methodNamed B.named) (name_of_methodNamed B.named B.method).1 hW hR hl
end FWR
