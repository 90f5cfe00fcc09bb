/-! ===== the reference's own shape; switches with gaps ===== -/
def WFM (g : Nat → Int32) : Prop := okN (g 0) 8 ∧ okN (g 1) 5 ∧ ∀ j : Nat, j < cN (g 0) → okN (g (18 + j)) 8 ∧ okN (g (26 + j)) 3 ∧ ∀ q : Nat, q < cN (g (18 + j)) → okN (g (68 + 8 * j + q)) 5
section TBD
variable {p : Program} {l : Launch} {e : Env} {R : Room} {s : State} {m : MethodId} {args : Array Value} {below : List Frame} {meth : Method} {c : Code} {H : Heap} {locs : List Loc} {cells slots : Nat} {Q : State → Prop}
variable {cc : ByteArray} {pc : Nat} {ls : Array Slot} {rest : List Value}
theorem lv_tableD (hexec : p.tables.exec = Jvm.exec) (hb : c.code = cc) {dflt lo hi : Int} {offs : Array Int} {len : Nat} {x : Int32} {tgt : Nat} (hdg : decode cc pc = .ok (.tableswitch dflt lo hi offs, len)) (h : x.toInt < lo ∨ hi < x.toInt ∨ offs[(x.toInt - lo).toNat]? = some dflt) (ht : (pc : Int) + dflt = (tgt : Int))
    (k : W p l e R s m args below meth c H locs cells slots Q (F0 m tgt ls rest)) : W p l e R s m args below meth c H locs cells slots Q (F0 m pc ls (.int x :: rest)) := by
  by_cases h1 : x.toInt < lo
  · exact lv_tableOut hexec hb hdg (Or.inl h1) ht k
  · by_cases h2 : hi < x.toInt
    · exact lv_tableOut hexec hb hdg (Or.inr h2) ht k
    · refine lv_tableIn hexec hb hdg h1 h2 ?_ ht k
      rcases h with h | h | h
      · exact absurd h h1
      · exact absurd h h2
      · exact h
end TBD
/-- a row may be told by another function that agrees where the row is -/
theorem fR.rowAt {G : FG} {ω : FWd} {H : Heap} {a n : Nat} {cA : ClassId} {f g : Nat → Int32} (hR : fR G ω H) (he : ω.2 a = some (.inl (cA, n, .inl f))) (h : ∀ j, j < n → f j = g j) : fR G (ω.1, va_up ω.2 a (some (.inl (cA, n, .inl g)))) H := by
  refine fR.row (f := f) (fR.weak hR rfl fun x e hx => ?_) h
  by_cases hxa : x = a
  · subst hxa
    have h9 : va_up ω.2 x (some (.inl (cA, n, .inl f))) x = some (.inl (cA, n, .inl f)) := va_up_at
    rw [he, ← h9]; exact hx
  · rw [← hx]; exact (va_up_off hxa).symm
theorem cpyJ_at {f h : Nat → Int32} {p q : Nat} : ∀ {k j : Nat}, j < k → cpyJ f h p q k (q + j) = f (p + j)
  | 0, _, hj => absurd hj (Nat.not_lt_zero _)
  | k + 1, j, hj => by
    by_cases hjk : j = k
    · subst hjk; exact upd_at
    · rw [cpyJ, upd_off (by omega)]; exact cpyJ_at (by omega)
theorem cpyJ_off {f h : Nat → Int32} {p q i : Nat} : ∀ {k : Nat}, (∀ j, j < k → ¬ i = q + j) → cpyJ f h p q k i = h i
  | 0, _ => rfl
  | k + 1, hj => by rw [cpyJ, upd_off (hj k (by omega))]; exact cpyJ_off fun j h9 => hj j (by omega)
theorem getsM_hi {g nd : Nat → Int32} {t : Int32} {q : Nat} (h : 12 ≤ q) : ∀ j, j ≤ 6 → getsM g nd t j q = g q
  | 0, _ => rfl
  | j + 1, hj => by rw [getsM, upd_off (by omega)]; exact getsM_hi h j (by omega)
/-- the history, moved by one row, the first k numbers done -/
def shJ (h : Nat → Int32) (k : Nat) : Nat → Int32 := fun i => if i < k then h (i + 324) else h i
theorem shJ_up {h : Nat → Int32} {k : Nat} : upd (shJ h k) k (shJ h k (k + 324)) = shJ h (k + 1) := by
  funext i
  by_cases hik : i = k
  · subst hik
    rw [upd_at]
    show (if i + 324 < i then _ else _) = (if i < i + 1 then _ else _)
    rw [if_neg (by omega), if_pos (by omega)]
  · rw [upd_off hik]
    show (if i < k then _ else _) = (if i < k + 1 then _ else _)
    by_cases h1 : i < k
    · rw [if_pos h1, if_pos (by omega)]
    · rw [if_neg h1, if_neg (by omega)]
section FWD2
variable {G : FG} {p : Program} {l : Launch} {e : Env} {R : Room} {s : State} {m : MethodId} {args : Array Value} {below : List Frame} {meth : Method} {c : Code} {H : Heap} {locs : List Loc} {cells slots : Nat}
variable {cc : ByteArray} {pc : Nat} {ls : Array Slot} {ω : FWd}
theorem fw_dret {Q2 : Option Value → FWd → Prop} {v : UInt64} (hexec : p.tables.exec = Jvm.exec) (hb : c.code = cc) (hr : meth.sig.returnType = some .double) (hlocks : meth.locks = false) (hR : fR G ω H) (hS : va_S (fwA G) s.heap H locs) (hdg : decode cc pc = .ok (.dreturn, 1)) (hq : Q2 (some (.double v)) ω) : W p l e R s m args below meth c H locs cells slots (MQ below (fQ G Q2) args s cells slots (fwA G)) (F0 m pc ls [.double v]) :=
  W.dret hexec hb hr (fun _ ht _ => ⟨⟨_, ω, rfl, hq, by rw [ht]; exact hR⟩, hS.F ht⟩) hS.2.2 hdg hlocks
theorem fw_fret {Q2 : Option Value → FWd → Prop} {v : UInt32} (hexec : p.tables.exec = Jvm.exec) (hb : c.code = cc) (hr : meth.sig.returnType = some .float) (hlocks : meth.locks = false) (hR : fR G ω H) (hS : va_S (fwA G) s.heap H locs) (hdg : decode cc pc = .ok (.freturn, 1)) (hq : Q2 (some (.float v)) ω) : W p l e R s m args below meth c H locs cells slots (MQ below (fQ G Q2) args s cells slots (fwA G)) (F0 m pc ls [.float v]) :=
  W.fret hexec hb hr (fun _ ht _ => ⟨⟨_, ω, rfl, hq, by rw [ht]; exact hR⟩, hS.F ht⟩) hS.2.2 hdg hlocks
end FWD2
theorem okN_le {x : Int32} {a b : Nat} (h : okN x a) (hb : a ≤ b) : okN x b := ⟨h.1, Nat.le_trans h.2 hb⟩
theorem okN_1 {x : Int32} {a : Nat} (h : okN x a) (ha : a < 100000) : okN (x + 1) (a + 1) := by
  obtain ⟨n, hn, hx, -⟩ := okN_of h
  rw [hx, nI_1]
  exact okN_mk rfl (by omega) (by omega)
theorem okN_0 : okN 0 0 := okN_mk (n := 0) rfl (Nat.le_refl _) (by decide)
