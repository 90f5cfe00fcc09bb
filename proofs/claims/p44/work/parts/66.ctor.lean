/-! ===== making objects and rows, over the world as a function ===== -/
theorem arrV_sm (c : ClassId) {n : Nat} {f g : Nat → Value} (h : ∀ j, j < n → f j = g j) : arrV c n f = arrV c n g := by
  unfold arrV
  congr 1
  apply Array.ext
  · simp
  · intro j h1 h2
    simp only [Array.getElem_ofFn]
    exact h j (by simpa using h1)
theorem fR.rowq {G : FG} {ω : FWd} {H : Heap} (hR : fR G ω H) {a n : Nat} {c : ClassId} {f f2 : Nat → Option Nat} (he : ω.2 a = some (.inl (c, n, .inr (.inr (.inr (.inr f)))))) (h : ∀ j, j < n → f j = f2 j) : fR G (ω.1, va_up ω.2 a (some (.inl (c, n, .inr (.inr (.inr (.inr f2))))))) H := by
  refine hR.up he rfl (fun _ _ => rfl) ?_
  have h1 : H[a]? = some (vp_cell c (n, .inr (.inr (.inr (.inr f))))) := (hR.2.2 a _ he).1
  show H[a]? = some (vp_cell c (n, .inr (.inr (.inr (.inr f2)))))
  rw [h1, vp_cell_q, vp_cell_q]
  exact congrArg some (arrV_sm c (fun j hj => by rw [h j hj]))
section FWN
variable {G : FG} {p : Program} {l : Launch} {e : Env} {R : Room} {s : State} {m : MethodId} {args : Array Value} {below : List Frame} {meth : Method} {c : Code} {H : Heap} {locs : List Loc} {cells slots : Nat} {Q : State → Prop}
variable {cc : ByteArray} {pc : Nat} {ls : Array Slot} {rest : List Value} {a : Nat} {ω : FWd} {H0 : Heap}
theorem va_S.grow {A : Nat → Prop} {H0 H H1 : Heap} {locs : List Loc} (hS : va_S A H0 H locs) (z : H1.size = H.size + 1) (o : ∀ q, q < H.size → H1[q]? = H[q]?) : va_S A H0 H1 locs :=
  ⟨Nat.le_trans hS.1 (by omega), fun x h1 h2 => (o x (Nat.lt_of_lt_of_le h1 hS.1)).trans (hS.2.1 x h1 h2), hS.2.2⟩
theorem fw_new (hexec : p.tables.exec = Jvm.exec) (hb : c.code = cc) {own C : String} {T : u_T} {N ci index : Nat} {Ts : List Cond} (hts : ∀ w ∈ Ts, w.before args s = true) (hin : ∀ w ∈ u_ws C T N, w ∈ Ts) (ty0 : Nat → FieldType) (hty : ∀ k, k < N → parseFieldDescriptor (T k).2.2.1 = some (ty0 k)) (hown : s.vm.findClass own = some m.cls) (hcl : (Cond.classLink own index C).before args s = true) (hinst : (Cond.instantiable C N).before args s = true) (hini : (Cond.initialized C).before args s = true)
    (hK : va_K G.1 vwCl (fwT G) s) (hR : fR G ω H) (hS : va_S (fwA G) H0 H locs) (hc : vwCl[ci]? = some (C, T, N)) {n : Nat} (hn : ω.1 = n) {fs : List Value} (hfs : ∀ j, j < N → defaultValue (ty0 j) = vp_V fs j) (hcells : cells + 1 ≤ R.cells) (hslots : slots + N ≤ R.slots) (hdg : decode cc pc = .ok (.new index, 3))
    (kk : ∀ (H1 : Heap), fR G (n + 1, va_up ω.2 n (some (.inr (ci, fs)))) H1 → va_S (fwA G) H0 H1 locs → W p l e R s m args below meth c H1 locs (cells + 1) (slots + N) Q (F0 m (pc + 3) ls (.ref n :: rest))) : W p l e R s m args below meth c H locs cells slots Q (F0 m pc ls rest) := by
  subst hn
  have hKn := hK.1 ci _ hc
  refine W.newcK hexec hb hown hcl hinst hini rfl hdg hcells hslots hKn.2.1 hR.1 fun H1 kC hkC e1 z1 o1 => ?_
  have z2 : H1.size = H.size + 1 := by rw [hR.1]; exact z1
  have o2 : ∀ q, q < H.size → H1[q]? = H[q]? := fun q hq => o1 q (by rw [← hR.1]; exact hq)
  exact kk H1 (hR.mk z2 o2 ⟨_, hc, (u_born ty0 hts hin hKn hkC e1 hty).to hfs⟩) (hS.grow z2 o2)
theorem fw_newi (hexec : p.tables.exec = Jvm.exec) (hb : c.code = cc) (harr : (Cond.arrayClass .int).before args s = true) (hK : va_K G.1 vwCl (fwT G) s) (hR : fR G ω H) (hS : va_S (fwA G) H0 H locs) {n : Nat} (hn : ω.1 = n) {v : Int32} {N : Nat} (hv : ¬ v < 0) (hN : v.toNatClampNeg = N) (hbytes : N * componentBytes .int ≤ 536870912) (hcells : cells + 1 ≤ R.cells) (hslots : slots + N ≤ R.slots) (hdg : decode cc pc = .ok (.newarray .int, 2))
    (kk : ∀ (H1 : Heap), fR G (n + 1, va_up ω.2 n (some (.inl (G.2.1 0, N, .inl (fun _ => 0))))) H1 → va_S (fwA G) H0 H1 locs → W p l e R s m args below meth c H1 locs (cells + 1) (slots + N) Q (F0 m (pc + 2) ls (.ref n :: rest))) : W p l e R s m args below meth c H locs cells slots Q (F0 m pc ls (.int v :: rest)) := by
  subst hn
  refine va_newaK (atype := .int) hexec hb harr rfl hdg rfl hv hN hbytes hcells hslots hR.1 fun H1 cA e1 z1 o1 hAr hNm => ?_
  have hcA : cA = G.2.1 0 := Option.some.inj (hNm.symm.trans (hK.2 0 _ rfl).2)
  subst hcA
  have z2 : H1.size = H.size + 1 := by rw [hR.1]; exact z1
  have o2 : ∀ q, q < H.size → H1[q]? = H[q]? := fun q hq => o1 q (by rw [← hR.1]; exact hq)
  exact kk H1 (hR.mk z2 o2 e1) (hS.grow z2 o2)
theorem fw_newch (hexec : p.tables.exec = Jvm.exec) (hb : c.code = cc) (harr : (Cond.arrayClass .char).before args s = true) (hK : va_K G.1 vwCl (fwT G) s) (hR : fR G ω H) (hS : va_S (fwA G) H0 H locs) {n : Nat} (hn : ω.1 = n) {v : Int32} {N : Nat} (hv : ¬ v < 0) (hN : v.toNatClampNeg = N) (hbytes : N * componentBytes .char ≤ 536870912) (hcells : cells + 1 ≤ R.cells) (hslots : slots + N ≤ R.slots) (hdg : decode cc pc = .ok (.newarray .char, 2))
    (kk : ∀ (H1 : Heap), fR G (n + 1, va_up ω.2 n (some (.inl (G.2.1 1, N, .inl (fun _ => 0))))) H1 → va_S (fwA G) H0 H1 locs → W p l e R s m args below meth c H1 locs (cells + 1) (slots + N) Q (F0 m (pc + 2) ls (.ref n :: rest))) : W p l e R s m args below meth c H locs cells slots Q (F0 m pc ls (.int v :: rest)) := by
  subst hn
  refine va_newaK (atype := .char) hexec hb harr rfl hdg rfl hv hN hbytes hcells hslots hR.1 fun H1 cA e1 z1 o1 hAr hNm => ?_
  have hcA : cA = G.2.1 1 := Option.some.inj (hNm.symm.trans (hK.2 1 _ rfl).2)
  subst hcA
  have z2 : H1.size = H.size + 1 := by rw [hR.1]; exact z1
  have o2 : ∀ q, q < H.size → H1[q]? = H[q]? := fun q hq => o1 q (by rw [← hR.1]; exact hq)
  exact kk H1 (hR.mk z2 o2 e1) (hS.grow z2 o2)
theorem fw_newq (hexec : p.tables.exec = Jvm.exec) (hb : c.code = cc) {own C : String} {index j : Nat} (hown : s.vm.findClass own = some m.cls) (hclink : (Cond.classLink own index C).before args s = true) (hover : va_AO C s) (hK : va_K G.1 vwCl (fwT G) s) (hR : fR G ω H) (hS : va_S (fwA G) H0 H locs) (ht : (fwT G)[j]? = some (G.2.1 j, .object C)) {n : Nat} (hn : ω.1 = n)
    {v : Int32} {N : Nat} (hv : ¬ v < 0) (hN : v.toNatClampNeg = N) (hbytes : N * 4 ≤ 536870912) (hcells : cells + 1 ≤ R.cells) (hslots : slots + N ≤ R.slots) (hdg : decode cc pc = .ok (.anewarray index, 3))
    (kk : ∀ (H1 : Heap), fR G (n + 1, va_up ω.2 n (some (.inl (G.2.1 j, N, .inr (.inr (.inr (.inr (fun _ => none)))))))) H1 → va_S (fwA G) H0 H1 locs → W p l e R s m args below meth c H1 locs (cells + 1) (slots + N) Q (F0 m (pc + 3) ls (.ref n :: rest))) : W p l e R s m args below meth c H locs cells slots Q (F0 m pc ls (.int v :: rest)) := by
  subst hN
  subst hn
  refine W.anew hexec hb hown hclink (va_AO.use hover) rfl hdg rfl hv hbytes hcells hslots fun cA kA comp f1 f2 f3 f4 => ?_
  obtain ⟨k1, k2, k3, k4, k5, k6⟩ := (hK.2 j _ ht).2
  have hcA : cA = G.2.1 j := Option.some.inj (f1.symm.trans k6)
  subst hcA
  generalize hH1 : H.push ({ cls := G.2.1 j, slots := Array.replicate v.toNatClampNeg .null, vm := .none } : Cell) = H1
  have z1 : H1.size = H.size + 1 := by rw [← hH1, Array.size_push]
  have e1 : H1[H.size]? = some (arrV (G.2.1 j) v.toNatClampNeg (fun _ => .null)) := by rw [← hH1, Array.getElem?_push_size, ← arrV_new]
  have o1 : ∀ q : Nat, q < H.size → H1[q]? = H[q]? := fun q hq => by rw [← hH1, Array.getElem?_push, if_neg (Nat.ne_of_lt hq)]
  have k9 := kk H1 (hR.mk z1 o1 (by rw [← hR.1]; exact e1)) (hS.grow z1 o1)
  rw [← hR.1] at k9
  exact k9
theorem fw_aast (hexec : p.tables.exec = Jvm.exec) (hb : c.code = cc) (hK : va_K G.1 vwCl (fwT G) s) (hR : fR G ω H) (hS : va_S (fwA G) H0 H locs) {j ci n v : Nat} {r : vw_C} {vs : List Value} {f : Nat → Option Nat} (he : ω.2 a = some (.inl (G.2.1 j, n, .inr (.inr (.inr (.inr f)))))) (ht : (fwT G)[j]? = some (G.2.1 j, .object r.1)) (hv : ω.2 v = some (.inr (ci, vs))) (hc : vwCl[ci]? = some r) {i : Int32} (hin : vp_in i n) (hdg : decode cc pc = .ok (.aastore, 1))
    (kk : ∀ (H1 : Heap) (locs1 : List Loc), fR G (ω.1, va_up ω.2 a (some (.inl (G.2.1 j, n, .inr (.inr (.inr (.inr (va_up f i.toNatClampNeg (some v))))))))) H1 → va_S (fwA G) H0 H1 locs1 → W p l e R s m args below meth c H1 locs1 cells slots Q (F0 m (pc + 1) ls rest)) : W p l e R s m args below meth c H locs cells slots Q (F0 m pc ls (.ref v :: .int i :: .ref a :: rest)) := by
  have hlt : i.toNatClampNeg < n := Nat.not_le.mp fun q => hin (Or.inr q)
  have h0 : ¬ i < 0 := fun q => hin (Or.inl q)
  obtain ⟨h1, hga⟩ := hR.2.2 a _ he
  obtain ⟨⟨r', hr', cellV, g1, g2, g3, -⟩, -⟩ := hR.2.2 v _ hv
  have hcls := (hK.1 ci r hc).2
  obtain ⟨kA, comp, k1, k2, k3, -⟩ := (hK.2 j _ ht).2
  have hcomp : comp = G.1.1 ci := Option.some.inj (k3.symm.trans hcls.1)
  subst hcomp
  obtain ⟨kC, hkC, -⟩ := hcls.2
  refine W.aast hexec hb h1 (fun q h => by cases h) (fun h => by cases h) k1 k2 rfl hkC ⟨h0, by show _ < (arrV _ _ _).slots.size; rw [arrV_size]; exact hlt⟩ g1 (fun q h => by rw [g3] at h; cases h) (by rw [g2]; exact hkC) (by rw [g2]; exact va_assign hcls) rfl rfl hdg fun H1 e z oq => ?_
  refine kk H1 _ (hR.up he z oq ?_) (hS.put z oq hga)
  show H1[a]? = some (vp_cell _ _)
  rw [e, vp_cell_q, vp_cell_q, arrV_store]
  congr 2
  funext q
  by_cases hq : q = i.toNatClampNeg
  · subst hq
    simp [updV, va_up, va_rf]
  · simp [updV, va_up, hq]
end FWN
/-- a row of references, filled up to j -/
def rowN (h : Nat → Nat) (j : Nat) : Nat → Option Nat := fun z => if z < j then some (h z) else none
theorem rowN_0 {h : Nat → Nat} : rowN h 0 = fun _ => none := funext fun z => if_neg (Nat.not_lt_zero z)
theorem rowN_S {h : Nat → Nat} {j b : Nat} (hb : b = h j) : va_up (rowN h j) j (some b) = rowN h (j + 1) := by
  subst hb
  funext z
  unfold va_up rowN
  by_cases h1 : z = j
  · subst h1; rw [if_pos rfl, if_pos (Nat.lt_succ_self _)]
  · rw [if_neg h1]
    by_cases h2 : z < j
    · rw [if_pos h2, if_pos (by omega)]
    · rw [if_neg h2, if_neg (by omega)]
/-- a constructor's end: the object at a, and what is made behind it, k cells in all -/
def QN (a k : Nat) (P : (Nat → Option va_E) → Prop) (ω : FWd) : Option Value → FWd → Prop := fun vv τ => vv = none ∧ τ.1 = a + k ∧ P τ.2 ∧ ∀ q, q < a → τ.2 q = ω.2 q
/-- the new archive's table -/
def vZ : Nat → Nat → Int32 := fun r _ => if r = 6 then 1 else if r < 40 then 0 else -1
theorem vZ_lo {r : Nat} (h : r < 40) (h6 : ¬ r = 6) : vZ r = zR := funext fun i => (if_neg h6).trans (if_pos h)
theorem vZ_hi {r : Nat} (h : 40 ≤ r) : (fun i => vZ r i + 1) = zR := funext fun i => by
  show vZ r i + 1 = 0
  unfold vZ
  rw [if_neg (by omega), if_neg (by omega)]
  rfl
theorem leafZ {G : FG} {σ : Nat → Option va_E} {b k : Nat} (hk : k < 8) (h0 : σ b = some (.inr (7, [.int 0, .int 0, .int 0, .int 0, .int 0, .ref (b + 1), .ref (b + 2), .ref (b + 3), .ref (b + 4)]))) (h1 : σ (b + 1) = some (.inl (G.2.1 0, 8, .inl zR))) (h2 : σ (b + 2) = some (.inl (G.2.1 0, 8, .inl zR))) (h3 : σ (b + 3) = some (.inl (G.2.1 0, 8, .inl zR))) (h4 : σ (b + 4) = some (.inl (G.2.1 0, 8, .inl zR))) : LeafS G σ b vZ k := by
  refine ⟨?_, ?_, ?_, ?_, ?_⟩
  · rw [h0, show vZ 3 k = 0 from rfl, show vZ 4 k = 0 from rfl, show vZ 5 k = 0 from rfl, show vZ 6 k - 1 = 0 from (show (1 : Int32) - 1 = 0 by decide), show vZ 7 k = 0 from rfl]
  · rw [h1, vZ_lo (by omega) (by omega)]
  · rw [h2, vZ_lo (by omega) (by omega)]
  · rw [h3, vZ_lo (by omega) (by omega)]
  · rw [h4, vZ_hi (by omega)]
theorem tin_fr {G : FG} {σ τ : Nat → Option va_E} {t : Nat} {f h : Nat → Int32} (k : TinS G σ t f h) (e : ∀ q, t ≤ q → q < t + 3 → τ q = σ q) : TinS G τ t f h := ⟨(e _ (by omega) (by omega)).trans k.1, (e _ (by omega) (by omega)).trans k.2.1, (e _ (by omega) (by omega)).trans k.2.2⟩
theorem cmd_fr {G : FG} {σ τ : Nat → Option va_E} {b : Nat} {ch la : Int32} {f : Nat → Int32} {n : Nat} (k : CmdS G σ b ch f n la) (e : ∀ q, b ≤ q → q < b + 2 → τ q = σ q) : CmdS G τ b ch f n la := ⟨(e _ (by omega) (by omega)).trans k.1, (e _ (by omega) (by omega)).trans k.2⟩
theorem arcZ {G : FG} {σ : Nat → Option va_E} {a : Nat} (h0 : σ a = some (.inr (2, [.ref (a + 1), .int 0, .ref (a + 2), .int 0, .ref (a + 3), .int 0, .int 0, .int 0, .int 0]))) (h1 : σ (a + 1) = some (.inl (G.2.1 7, 8, .inr (.inr (.inr (.inr (fun j => some (a + 6 + 5 * j)))))))) (h2 : σ (a + 2) = some (.inl (G.2.1 6, 5, .inr (.inr (.inr (.inr (fun j => some (a + 46 + j)))))))) (h3 : TinS G σ (a + 3) zR zR) (h4 : ∀ k, k < 8 → LeafS G σ (a + 6 + 5 * k) vZ k) (h5 : ∀ k, k < 5 → σ (a + 46 + k) = some (.inr (5, [.int 0, .int 0]))) : ArcS G σ a vZ := by
  refine ⟨h0, h1, h2, h3.1, ?_, ?_, h4, fun k hk => h5 k hk⟩
  · rw [vZ_lo (by omega) (by omega)]; exact h3.2.1
  · rw [vZ_lo (by omega) (by omega)]; exact h3.2.2
