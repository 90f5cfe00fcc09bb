/-! ===== System.arraycopy over the world as a function (after the kit's va_copyi) ===== -/
section FWC
variable {G : FG} {p : Program} {l : Launch} {e : Env} {R : Room} {s : State} {m : MethodId} {args : Array Value} {below : List Frame} {meth : Method} {c : Code} {H : Heap} {locs : List Loc} {cells slots : Nat} {Q : State → Prop}
variable {cc : ByteArray} {pc : Nat} {ls : Array Slot} {rest : List Value} {a : Nat} {ω : FWd} {H0 : Heap}
theorem nn_cl {z : Int32} (hz : ¬ z < 0) : z.toInt = (z.toNatClampNeg : Int) := by
  have hz0 : (0 : Int) ≤ z.toInt := by
    have := Int32.not_lt.mp hz
    simpa using Int32.le_iff_toInt_le.mp this
  show z.toInt = ((z.toInt.toNat : Nat) : Int)
  omega
theorem fw_copyi (hexec : p.tables.exec = Jvm.exec) (hb : c.code = cc) (hml : c.maxLocals = ls.size) {own : String} {index : Nat} (hown : s.vm.findClass own = some m.cls) (hlink : (Cond.methodLink own index arraycopyName).before args s = true) (hnat : (Cond.native arraycopyName).before args s = true) (hstat : (Cond.static arraycopyName).before args s = true) (hini : (Cond.initialized "java/lang/System").before args s = true)
    (hK : va_K G.1 vwCl (fwT G) s) (hR : fR G ω H) (hS : va_S (fwA G) H0 H locs) {a0 : Nat} {n0 n1 : Nat} {f g : Nat → Int32} (ha0 : ω.2 a0 = some (.inl (G.2.1 0, n0, .inl f))) (ha1 : ω.2 a = some (.inl (G.2.1 0, n1, .inl g)))
    {sp dp n : Int32} (h1 : ¬ sp < 0) (h2 : ¬ dp < 0) (h3 : ¬ n < 0) (h4 : sp.toNatClampNeg + n.toNatClampNeg ≤ n0) (h5 : dp.toNatClampNeg + n.toNatClampNeg ≤ n1)
    (hframes : 1 ≤ R.frames) (hlocals : (rest.map fun v => v.category).sum + (nativeFrameWords "java/lang/System" "arraycopy" 5 + 11) ≤ R.locals) (hdg : decode cc pc = .ok (.invokestatic index, 3))
    (kk : ∀ (H1 : Heap) (locs1 : List Loc), fR G (ω.1, va_up ω.2 a (some (.inl (G.2.1 0, n1, .inl (va_cpy f g sp.toNatClampNeg dp.toNatClampNeg n.toNatClampNeg))))) H1 → va_S (fwA G) H0 H1 locs1 → W p l e R s m args below meth c H1 locs1 cells slots Q (F0 m (pc + 3) ls rest)) : W p l e R s m args below meth c H locs cells slots Q (F0 m pc ls (.int n :: .int dp :: .ref a :: .int sp :: .ref a0 :: rest)) := by
  intro T hT X
  have hc0 : H[a0]? = some (vp_cell (G.2.1 0) (n0, .inl f)) := (hR.2.2 a0 _ ha0).1
  obtain ⟨hc1, hga⟩ := hR.2.2 a _ ha1
  have hc1 : H[a]? = some (vp_cell (G.2.1 0) (n1, .inl g)) := hc1
  obtain ⟨-, k0, hk0, cm0, hkk0⟩ := (hK.2 0 _ rfl).1 n0 (fun j => .int (f j))
  obtain ⟨-, k1, hk1, cm1, hkk1⟩ := (hK.2 0 _ rfl).1 n1 (fun j => .int (g j))
  obtain ⟨vm', X', step⟩ := X.arraycopy hexec hown hlink hnat hstat hini (src := a0) (dst := a) (cs := vp_cell (G.2.1 0) (n0, .inl f)) (cd := vp_cell (G.2.1 0) (n1, .inl g)) (srcPos := sp) (destPos := dp) (n := n) (by rw [hT]; exact hc0) (by rw [hT]; exact hc1)
    (fun _ h => by cases h) (fun _ h => by cases h) (fun h => by cases h) (fun h => by cases h) hk0 hk1 hkk0 hkk1 (by simp [refKind]) h1 h2 h3
    (by rw [nn_cl h1, nn_cl h3]; show ¬ _ > ((arrV (G.2.1 0) n0 (fun j => .int (f j))).slots.size : Int); rw [arrV_size]; omega)
    (by rw [nn_cl h2, nn_cl h3]; show ¬ _ > ((arrV (G.2.1 0) n1 (fun j => .int (g j))).slots.size : Int); rw [arrV_size]; omega)
    (fun vm₁ _ i hi => by
      have e1 : (vp_cell (G.2.1 0) (n0, .inl f)).slots.getD (sp.toNatClampNeg + i) .null = .int (f (sp.toNatClampNeg + i)) := by
        show (arrV (G.2.1 0) n0 (fun j => .int (f j))).slots.getD _ _ = _
        rw [Array.getD_eq_getD_getElem?, arrV_read _ _ (by omega)]
        rfl
      refine ⟨?_, ?_⟩
      · rw [e1]; rfl
      · rw [e1]; exact trivial)
    (g := F0 m pc ls (.int n :: .int dp :: .ref a :: .int sp :: .ref a0 :: rest)) rfl (by rw [hml]) (rest := rest) rfl (by rw [hb]; exact hdg) hframes (by show 2 * 0 + _ + _ ≤ _; omega)
  have e1 : copied (vp_cell (G.2.1 0) (n0, .inl f)) (vp_cell (G.2.1 0) (n1, .inl g)) sp dp n = vp_cell (G.2.1 0) (n1, .inl (va_cpy f g sp.toNatClampNeg dp.toNatClampNeg n.toNatClampNeg)) := va_copied (fun z => .int z) (G.2.1 0) (G.2.1 0) f g h4
  rw [e1] at X' step
  have hlt : a < H.size := (Array.getElem?_eq_some_iff.mp hc1).1
  have hheap : ((T.setVm vm').setCell a (vp_cell (G.2.1 0) (n1, .inl (va_cpy f g sp.toNatClampNeg dp.toNatClampNeg n.toNatClampNeg)))).heap = H.setIfInBounds a (vp_cell (G.2.1 0) (n1, .inl (va_cpy f g sp.toNatClampNeg dp.toNatClampNeg n.toNatClampNeg))) := by rw [← hT]; rfl
  have oq : ∀ q : Nat, q ≠ a → (H.setIfInBounds a (vp_cell (G.2.1 0) (n1, .inl (va_cpy f g sp.toNatClampNeg dp.toNatClampNeg n.toNatClampNeg))))[q]? = H[q]? := fun q hq => by simp [Array.getElem?_setIfInBounds, Ne.symm hq]
  obtain ⟨t, a1, b1⟩ := kk _ _ (hR.up ha1 (by simp) oq (show (H.setIfInBounds a _)[a]? = some _ by simp [Array.getElem?_setIfInBounds, hlt])) ⟨by simp; exact hS.1, fun q g1 g2 => by
      rw [oq q (fun e9 => g2 (by rw [e9]; exact hga))]
      exact hS.2.1 q g1 g2, fun q hq => by
      rcases List.mem_append.mp hq with h | h
      · exact hS.2.2 q h
      · obtain ⟨z, -, hz⟩ := List.mem_map.mp h
        rw [← hz]
        exact hga⟩ _ hheap X'
  exact ⟨t, step t a1, b1⟩
end FWC
theorem cpy_all {f g : Nat → Int32} {n : Nat} : va_cpy f g 0 0 n = fun k => if k < n then f k else g k := by
  funext k
  simp [va_cpy]
theorem arrV_same {cA : ClassId} {n : Nat} {f g : Nat → Int32} (h : ∀ j, j < n → f j = g j) : vp_cell cA (n, .inl f) = vp_cell cA (n, .inl g) := by
  rw [vp_cell_i, vp_cell_i]
  unfold arrV
  congr 1
  apply Array.ext
  · simp
  · intro i h1 h2
    simp at h1 h2 ⊢
    exact h i (by omega)
/-- what a row holds behind its end is free -/
theorem fR.row {G : FG} {ω : FWd} {H : Heap} {a n : Nat} {cA : ClassId} {f g : Nat → Int32} (hR : fR G (ω.1, va_up ω.2 a (some (.inl (cA, n, .inl f)))) H) (h : ∀ j, j < n → f j = g j) : fR G (ω.1, va_up ω.2 a (some (.inl (cA, n, .inl g)))) H := by
  refine ⟨hR.1, hR.2.1, fun b e hb => ?_⟩
  by_cases hba : b = a
  · subst hba
    have h9 := hR.2.2 b (.inl (cA, n, .inl f)) (by simp [va_up])
    simp only [va_up, if_true] at hb
    cases hb
    refine ⟨?_, h9.2⟩
    have h8 : H[b]? = some (vp_cell cA (n, .inl f)) := h9.1
    show H[b]? = some (vp_cell cA (n, .inl g))
    rw [h8, arrV_same h]
  · exact hR.2.2 b e (by simpa [va_up, hba] using hb)
theorem cpy_row {f g : Nat → Int32} {n m : Nat} (hm : m = n) (j : Nat) (h : j < n) : va_cpy f g 0 0 m j = f j := by
  subst hm
  simp [va_cpy, h]
/-- two tables agree in all that is there -/
def Live (w v : Nat → Nat → Int32) : Prop := (∀ i, i ≤ 5 → w 0 i = v 0 i) ∧ w 1 = v 1 ∧ w 2 = v 2 ∧ (∀ i, i < cN (v 0 0) → LeafEq w v i) ∧ ∀ i, i < cN (v 0 1) → w 8 i = v 8 i ∧ w 9 i = v 9 i
/-- a leaflet's numbers from another table -/
def cpL (w v : Nat → Nat → Int32) (j : Nat) : Nat → Nat → Int32 := fun r => if r = 3 ∨ r = 4 ∨ r = 5 ∨ r = 6 ∨ r = 7 then upd (w r) j (v r j) else if r = 10 + j ∨ r = 20 + j ∨ r = 30 + j ∨ r = 40 + j then v r else w r
theorem cpL_eq {w v : Nat → Nat → Int32} {j : Nat} : LeafEq (cpL w v j) v j := by
  refine ⟨?_, ?_, ?_, ?_, ?_, ?_, ?_, ?_, ?_⟩ <;> simp [cpL, upd, ne_big, ne_big']
theorem cpL_oth {w v : Nat → Nat → Int32} {i j : Nat} (hi : i < 8) (hj : j < 8) (h : ¬ i = j) : LeafEq (cpL w v j) w i := by
  refine ⟨?_, ?_, ?_, ?_, ?_, ?_, ?_, ?_, ?_⟩
  · simp [cpL, upd, h]
  · simp [cpL, upd, h]
  · simp [cpL, upd, h]
  · simp [cpL, upd, h]
  · simp [cpL, upd, h]
  · show (if _ then _ else if _ then _ else _) = _; rw [if_neg (by omega), if_neg (by omega)]
  · show (if _ then _ else if _ then _ else _) = _; rw [if_neg (by omega), if_neg (by omega)]
  · show (if _ then _ else if _ then _ else _) = _; rw [if_neg (by omega), if_neg (by omega)]
  · show (if _ then _ else if _ then _ else _) = _; rw [if_neg (by omega), if_neg (by omega)]
theorem cpL_row {w v : Nat → Nat → Int32} {j r : Nat} (h : r < 3 ∨ r = 8 ∨ r = 9) : cpL w v j r = w r := by
  unfold cpL
  rw [if_neg (by omega), if_neg (by omega)]
theorem LeafEq.tr {a b c : Nat → Nat → Int32} {j : Nat} (h1 : LeafEq a b j) (h2 : LeafEq b c j) : LeafEq a c j := by
  obtain ⟨a1, a2, a3, a4, a5, a6, a7, a8, a9⟩ := h1
  obtain ⟨b1, b2, b3, b4, b5, b6, b7, b8, b9⟩ := h2
  exact ⟨a1.trans b1, a2.trans b2, a3.trans b3, a4.trans b4, a5.trans b5, a6.trans b6, a7.trans b7, a8.trans b8, a9.trans b9⟩
theorem LeafEq.sy {a b : Nat → Nat → Int32} {j : Nat} (h1 : LeafEq a b j) : LeafEq b a j := by
  obtain ⟨a1, a2, a3, a4, a5, a6, a7, a8, a9⟩ := h1
  exact ⟨a1.symm, a2.symm, a3.symm, a4.symm, a5.symm, a6.symm, a7.symm, a8.symm, a9.symm⟩
/-- a leaflet's cells under another table with the same numbers -/
theorem LeafS.eq {G : FG} {σ : Nat → Option va_E} {a : Nat} {v w : Nat → Nat → Int32} {k : Nat} (h : LeafS G σ a v k) (he : LeafEq w v k) : LeafS G σ a w k := by
  obtain ⟨h0, h1, h2, h3, h4⟩ := h
  obtain ⟨a1, a2, a3, a4, a5, a6, a7, a8, a9⟩ := he
  exact ⟨by rw [a1, a2, a3, a4, a5]; exact h0, by rw [a6]; exact h1, by rw [a7]; exact h2, by rw [a8]; exact h3, by rw [a9]; exact h4⟩
/-- the last step of a copy: the counts, the tin and the sums from the other table -/
def cpT (w v : Nat → Nat → Int32) : Nat → Nat → Int32 := fun r => if r = 0 ∨ r = 1 ∨ r = 2 then v r else w r
theorem cpT_row {w v : Nat → Nat → Int32} {r : Nat} (h : 3 ≤ r) : cpT w v r = w r := by
  unfold cpT
  rw [if_neg (by omega)]
theorem cpT_le {w v : Nat → Nat → Int32} {j : Nat} : LeafEq (cpT w v) w j :=
  ⟨by rw [cpT_row (by omega)], by rw [cpT_row (by omega)], by rw [cpT_row (by omega)], by rw [cpT_row (by omega)], by rw [cpT_row (by omega)], by rw [cpT_row (by omega)], by rw [cpT_row (by omega)], by rw [cpT_row (by omega)], by rw [cpT_row (by omega)]⟩
theorem cpT_live {w v : Nat → Nat → Int32} (h1 : ∀ i, i < cN (v 0 0) → LeafEq w v i) (h2 : ∀ i, i < cN (v 0 1) → w 8 i = v 8 i ∧ w 9 i = v 9 i) : Live (cpT w v) v :=
  ⟨fun _ _ => rfl, rfl, rfl, fun i hi => cpT_le.tr (h1 i hi), h2⟩
