/-! ===== what the reference of the whole answers, as functions of its rows (its walks left out) ===== -/
/-! ===== the reference's object: its numbers s, its rows; what its helpers compute ===== -/
def mP (g : Nat → Int32) (l j : Nat) : Int32 := g (132 + 8 * l + j) * (1 + g (260 + 8 * l + j))
def bitsJ (x : Int32) : Nat → Int32
  | 0 => 0
  | j + 1 => bitsJ x j + (x >>> (nI j &&& 31) &&& 1)
def causeM (g : Nat → Int32) (known boast : Int32) (l j f : Nat) : Int32 := if nI j < openJ (g (18 + l)) f then (if known &&& g (196 + 8 * l + j) = 0 then 2 else (if boast ≤ mP g l j then 0 else 3)) else 1
def skipM (g : Nat → Int32) (known boast : Int32) (l f : Nat) : Nat → Int32
  | 0 => 0
  | j + 1 => skipM g known boast l f j ||| (if causeM g known boast l j f = 0 then (0 : Int32) else (1 : Int32) <<< (nI j &&& 31))
def clrJ (b : Nat → Int32) : Nat → Nat → Int32
  | 0 => b
  | j + 1 => upd (clrJ b j) j 0
def needM1 (g : Nat → Int32) (l j : Nat) (r : Nat → Int32) : Nat → Int32 :=
  let r1 := upd r (cN (g (68 + 8 * l + j))) (r (cN (g (68 + 8 * l + j))) + g (132 + 8 * l + j))
  upd r1 ((cN (g (68 + 8 * l + j)) + 1) % 6) (r1 ((cN (g (68 + 8 * l + j)) + 1) % 6) + g (132 + 8 * l + j) * g (260 + 8 * l + j))
def needM (g : Nat → Int32) (l : Nat) (set : Int32) (b : Nat → Int32) : Nat → Nat → Int32
  | 0 => b
  | j + 1 => if set >>> (nI j &&& 31) &&& 1 = 1 then needM1 g l j (needM g l set b j) else needM g l set b j
def sumM (g : Nat → Int32) (l : Nat) (set : Int32) : Nat → Int32
  | 0 => 0
  | j + 1 => if set >>> (nI j &&& 31) &&& 1 = 1 then sumM g l set j + mP g l j else sumM g l set j
def getsM (g nd : Nat → Int32) (t : Int32) : Nat → Nat → Int32
  | 0 => g
  | j + 1 => upd (getsM g nd t j) (6 + j) (getsM g nd t j (6 + j) + t * nd j)
def onM (g : Nat → Int32) (sh : Int32) : Nat → Int32
  | 0 => 0
  | j + 1 => onM g sh j ||| (if g (34 + j) = sh then (1 : Int32) <<< (nI j &&& 31) else (0 : Int32))
def cpyJ (f h : Nat → Int32) (p q : Nat) : Nat → Nat → Int32
  | 0 => h
  | j + 1 => upd (cpyJ f h p q j) (q + j) (f (p + j))
theorem rem6 {k : Nat} (hk : k < 6) : (nI k + 1) - (nI k + 1) / 6 * 6 = nI ((k + 1) % 6) := by
  rw [nI_1]
  exact pk_rem (a := k + 1) (d := 6) (by omega) (by omega) (by omega)
theorem getsM_lo {g nd : Nat → Int32} {t : Int32} {i : Nat} (h : i < 6) : ∀ j, getsM g nd t j i = g i
  | 0 => rfl
  | j + 1 => by rw [getsM, upd_off (by omega), getsM_lo h j]
/-! ===== the reference's own shape; switches with gaps ===== -/
def WFM (g : Nat → Int32) : Prop := okN (g 0) 8 ∧ okN (g 1) 5 ∧ ∀ j : Nat, j < cN (g 0) → okN (g (18 + j)) 8 ∧ okN (g (26 + j)) 3 ∧ ∀ q : Nat, q < cN (g (18 + j)) → okN (g (68 + 8 * j + q)) 5
section TBD
variable {p : Program} {l : Launch} {e : Env} {R : Room} {s : State} {m : MethodId} {args : Array Value} {below : List Frame} {meth : Method} {c : Code} {H : Heap} {locs : List Loc} {cells slots : Nat} {Q : State → Prop}
variable {cc : ByteArray} {pc : Nat} {ls : Array Slot} {rest : List Value}
theorem lv_tableD (hexec : p.tables.exec = Jvm.exec) (hb : c.code = cc) {dflt lo hi : Int} {offs : Array Int} {len : Nat} {x : Int32} {tgt : Nat} (hdg : decode cc pc = .ok (.tableswitch dflt lo hi offs, len)) (h : x.toInt < lo ∨ hi < x.toInt ∨ offs[(x.toInt - lo).toNat]? = some dflt) (ht : (pc : Int) + dflt = (tgt : Int))
    (k : W p l e R s m args below meth c H locs cells slots Q (F0 m tgt ls rest)) : W p l e R s m args below meth c H locs cells slots Q (F0 m pc ls (.int x :: rest)) := by
  by_cases h1 : x.toInt < lo
  · exact lv_tableOut hexec hb hdg (Or.inl h1) ht k
  · by_cases h2 : hi < x.toInt
    · exact lv_tableOut hexec hb hdg (Or.inr h2) ht k
    · refine lv_tableIn hexec hb hdg h1 h2 ?_ ht k
      rcases h with h | h | h
      · exact absurd h h1
      · exact absurd h h2
      · exact h
end TBD
/-- a row may be told by another function that agrees where the row is -/
theorem fR.rowAt {G : FG} {ω : FWd} {H : Heap} {a n : Nat} {cA : ClassId} {f g : Nat → Int32} (hR : fR G ω H) (he : ω.2 a = some (.inl (cA, n, .inl f))) (h : ∀ j, j < n → f j = g j) : fR G (ω.1, va_up ω.2 a (some (.inl (cA, n, .inl g)))) H := by
  refine fR.row (f := f) (fR.weak hR rfl fun x e hx => ?_) h
  by_cases hxa : x = a
  · subst hxa
    have h9 : va_up ω.2 x (some (.inl (cA, n, .inl f))) x = some (.inl (cA, n, .inl f)) := va_up_at
    rw [he, ← h9]; exact hx
  · rw [← hx]; exact (va_up_off hxa).symm
theorem cpyJ_at {f h : Nat → Int32} {p q : Nat} : ∀ {k j : Nat}, j < k → cpyJ f h p q k (q + j) = f (p + j)
  | 0, _, hj => absurd hj (Nat.not_lt_zero _)
  | k + 1, j, hj => by
    by_cases hjk : j = k
    · subst hjk; exact upd_at
    · rw [cpyJ, upd_off (by omega)]; exact cpyJ_at (by omega)
theorem cpyJ_off {f h : Nat → Int32} {p q i : Nat} : ∀ {k : Nat}, (∀ j, j < k → ¬ i = q + j) → cpyJ f h p q k i = h i
  | 0, _ => rfl
  | k + 1, hj => by rw [cpyJ, upd_off (hj k (by omega))]; exact cpyJ_off fun j h9 => hj j (by omega)
theorem getsM_hi {g nd : Nat → Int32} {t : Int32} {q : Nat} (h : 12 ≤ q) : ∀ j, j ≤ 6 → getsM g nd t j q = g q
  | 0, _ => rfl
  | j + 1, hj => by rw [getsM, upd_off (by omega)]; exact getsM_hi h j (by omega)
/-- the history, moved by one row, the first k numbers done -/
def shJ (h : Nat → Int32) (k : Nat) : Nat → Int32 := fun i => if i < k then h (i + 324) else h i
theorem shJ_up {h : Nat → Int32} {k : Nat} : upd (shJ h k) k (shJ h k (k + 324)) = shJ h (k + 1) := by
  funext i
  by_cases hik : i = k
  · subst hik
    rw [upd_at]
    show (if i + 324 < i then _ else _) = (if i < i + 1 then _ else _)
    rw [if_neg (by omega), if_pos (by omega)]
  · rw [upd_off hik]
    show (if i < k then _ else _) = (if i < k + 1 then _ else _)
    by_cases h1 : i < k
    · rw [if_pos h1, if_pos (by omega)]
    · rw [if_neg h1, if_neg (by omega)]
section FWD2
variable {G : FG} {p : Program} {l : Launch} {e : Env} {R : Room} {s : State} {m : MethodId} {args : Array Value} {below : List Frame} {meth : Method} {c : Code} {H : Heap} {locs : List Loc} {cells slots : Nat}
variable {cc : ByteArray} {pc : Nat} {ls : Array Slot} {ω : FWd}
theorem fw_dret {Q2 : Option Value → FWd → Prop} {v : UInt64} (hexec : p.tables.exec = Jvm.exec) (hb : c.code = cc) (hr : meth.sig.returnType = some .double) (hlocks : meth.locks = false) (hR : fR G ω H) (hS : va_S (fwA G) s.heap H locs) (hdg : decode cc pc = .ok (.dreturn, 1)) (hq : Q2 (some (.double v)) ω) : W p l e R s m args below meth c H locs cells slots (MQ below (fQ G Q2) args s cells slots (fwA G)) (F0 m pc ls [.double v]) :=
  W.dret hexec hb hr (fun _ ht _ => ⟨⟨_, ω, rfl, hq, by rw [ht]; exact hR⟩, hS.F ht⟩) hS.2.2 hdg hlocks
theorem fw_fret {Q2 : Option Value → FWd → Prop} {v : UInt32} (hexec : p.tables.exec = Jvm.exec) (hb : c.code = cc) (hr : meth.sig.returnType = some .float) (hlocks : meth.locks = false) (hR : fR G ω H) (hS : va_S (fwA G) s.heap H locs) (hdg : decode cc pc = .ok (.freturn, 1)) (hq : Q2 (some (.float v)) ω) : W p l e R s m args below meth c H locs cells slots (MQ below (fQ G Q2) args s cells slots (fwA G)) (F0 m pc ls [.float v]) :=
  W.fret hexec hb hr (fun _ ht _ => ⟨⟨_, ω, rfl, hq, by rw [ht]; exact hR⟩, hS.F ht⟩) hS.2.2 hdg hlocks
end FWD2
theorem okN_le {x : Int32} {a b : Nat} (h : okN x a) (hb : a ≤ b) : okN x b := ⟨h.1, Nat.le_trans h.2 hb⟩
theorem okN_1 {x : Int32} {a : Nat} (h : okN x a) (ha : a < 100000) : okN (x + 1) (a + 1) := by
  obtain ⟨n, hn, hx, -⟩ := okN_of h
  rw [hx, nI_1]
  exact okN_mk rfl (by omega) (by omega)
theorem okN_0 : okN 0 0 := okN_mk (n := 0) rfl (Nat.le_refl _) (by decide)
/-! ===== printed by program (wip/whole/gen): the reference's changes ===== -/
def laysM (s g : Nat → Int32) (sh : Int32) : Int32 × (Nat → Int32) × (Nat → Int32) := if inB sh 0 3 then (if (g 0) = 8 then ((0, (upd (upd (upd (upd s 9 2) 10 8) 11 0) 14 1), g)) else (if (bitsJ (onM g sh (cN (g 0))) 8) = 3 then ((0, (upd (upd (upd (upd s 9 5) 10 sh) 11 0) 14 1), g)) else (((g 0), (upd s 14 0), (upd (upd g (34 + (cN (g 0))) sh) 0 (((upd g (34 + (cN (g 0))) sh) 0) + 1)))))) else ((0, (upd (upd (upd (upd s 9 1) 10 0) 11 0) 14 1), g))
def addsM (s g : Nat → Int32) (lf : Int32) (kd : Int32) (ps : Int32) (la : Int32) (sd : Int32) : Int32 × (Nat → Int32) × (Nat → Int32) := if inB lf 0 (g 0 - 1) then (if inB kd 0 5 then (if inB ps 1 4 then (if inB la 1 31 then (if (g (42 + (cN lf))) = 0 then (if (g (18 + (cN lf))) = 8 then ((0, (upd (upd (upd (upd s 9 2) 10 8) 11 0) 14 1), g)) else (((g (18 + (cN lf))), (upd s 14 0), (upd (upd (upd (upd (upd g (68 + 8 * (cN lf) + (cN (g (18 + (cN lf))))) kd) (132 + 8 * (cN lf) + (cN (g (18 + (cN lf))))) ps) (196 + 8 * (cN lf) + (cN (g (18 + (cN lf))))) la) (260 + 8 * (cN lf) + (cN (g (18 + (cN lf))))) sd) (18 + (cN lf)) (((upd (upd (upd (upd g (68 + 8 * (cN lf) + (cN (g (18 + (cN lf))))) kd) (132 + 8 * (cN lf) + (cN (g (18 + (cN lf))))) ps) (196 + 8 * (cN lf) + (cN (g (18 + (cN lf))))) la) (260 + 8 * (cN lf) + (cN (g (18 + (cN lf))))) sd) (18 + (cN lf))) + 1))))) else ((0, (upd (upd (upd (upd s 9 6) 10 ((g (42 + (cN lf))) - 1)) 11 0) 14 1), g))) else ((0, (upd (upd (upd (upd s 9 1) 10 0) 11 0) 14 1), g))) else ((0, (upd (upd (upd (upd s 9 1) 10 0) 11 0) 14 1), g))) else ((0, (upd (upd (upd (upd s 9 1) 10 0) 11 0) 14 1), g))) else ((0, (upd (upd (upd (upd s 9 3) 10 (g 0)) 11 0) 14 1), g))
def foldsM (s g : Nat → Int32) (lf : Int32) (by_ : Int32) : Int32 × (Nat → Int32) × (Nat → Int32) := if inB lf 0 (g 0 - 1) then (if (g (42 + (cN lf))) = 0 then (if inB ((g (26 + (cN lf))) + by_) 0 3 then (((openJ ((upd g (26 + (cN lf)) ((g (26 + (cN lf))) + by_)) (18 + (cN lf))) (cN (g (26 + (cN lf)) + by_))), (upd s 14 0), (upd g (26 + (cN lf)) ((g (26 + (cN lf))) + by_)))) else ((0, (upd (upd (upd (upd s 9 11) 10 (g (26 + (cN lf)))) 11 0) 14 1), g))) else ((0, (upd (upd (upd (upd s 9 6) 10 ((g (42 + (cN lf))) - 1)) 11 0) 14 1), g))) else ((0, (upd (upd (upd (upd s 9 3) 10 (g 0)) 11 0) 14 1), g))
def comesM (s g : Nat → Int32) (bo : Int32) (la : Int32) : Int32 × (Nat → Int32) × (Nat → Int32) := if inB bo 0 5 then (if inB la 0 31 then (if (g 1) = 5 then ((0, (upd (upd (upd (upd s 9 2) 10 5) 11 0) 14 1), g)) else (((g 1), (upd s 14 0), (upd (upd (upd g (58 + (cN (g 1))) bo) (63 + (cN (g 1))) la) 1 (((upd (upd g (58 + (cN (g 1))) bo) (63 + (cN (g 1))) la) 1) + 1))))) else ((0, (upd (upd (upd (upd s 9 1) 10 0) 11 0) 14 1), g))) else ((0, (upd (upd (upd (upd s 9 1) 10 0) 11 0) 14 1), g))
def learnsM (s g : Nat → Int32) (co : Int32) (la : Int32) : Int32 × (Nat → Int32) × (Nat → Int32) := if inB co 0 (g 1 - 1) then (if inB la 0 4 then (if (((g (63 + (cN co))) >>> (la &&& 31)) &&& 1) = 1 then ((0, (upd (upd (upd (upd s 9 12) 10 la) 11 0) 14 1), g)) else (((bitsJ ((upd g (63 + (cN co)) ((g (63 + (cN co))) ||| (1 <<< (la &&& 31)))) (63 + (cN co))) 8), (upd s 14 0), (upd g (63 + (cN co)) ((g (63 + (cN co))) ||| (1 <<< (la &&& 31))))))) else ((0, (upd (upd (upd (upd s 9 1) 10 0) 11 0) 14 1), g))) else ((0, (upd (upd (upd (upd s 9 4) 10 (g 1)) 11 0) 14 1), g))
def buildsM (s g nd : Nat → Int32) (co : Int32) (lf : Int32) : Int32 × (Nat → Int32) × (Nat → Int32) × (Nat → Int32) := if inB co 0 (g 1 - 1) then (if inB lf 0 (g 0 - 1) then (if (g (42 + (cN lf))) = 0 then (((((upd (upd (upd (upd (getsM g (needM g (cN lf) (skipM g (g (63 + (cN co))) (g (58 + (cN co))) (cN lf) (cN (g (26 + (cN lf)))) (cN (g (18 + (cN lf))))) (clrJ nd 6) (cN (g (18 + (cN lf))))) 1 6) (42 + (cN lf)) ((co) + 1)) (50 + (cN lf)) (skipM g (g (63 + (cN co))) (g (58 + (cN co))) (cN lf) (cN (g (26 + (cN lf)))) (cN (g (18 + (cN lf)))))) 2 (((upd (upd (getsM g (needM g (cN lf) (skipM g (g (63 + (cN co))) (g (58 + (cN co))) (cN lf) (cN (g (26 + (cN lf)))) (cN (g (18 + (cN lf))))) (clrJ nd 6) (cN (g (18 + (cN lf))))) 1 6) (42 + (cN lf)) ((co) + 1)) (50 + (cN lf)) (skipM g (g (63 + (cN co))) (g (58 + (cN co))) (cN lf) (cN (g (26 + (cN lf)))) (cN (g (18 + (cN lf)))))) 2) + 1)) 3 (((upd (upd (upd (getsM g (needM g (cN lf) (skipM g (g (63 + (cN co))) (g (58 + (cN co))) (cN lf) (cN (g (26 + (cN lf)))) (cN (g (18 + (cN lf))))) (clrJ nd 6) (cN (g (18 + (cN lf))))) 1 6) (42 + (cN lf)) ((co) + 1)) (50 + (cN lf)) (skipM g (g (63 + (cN co))) (g (58 + (cN co))) (cN lf) (cN (g (26 + (cN lf)))) (cN (g (18 + (cN lf)))))) 2 (((upd (upd (getsM g (needM g (cN lf) (skipM g (g (63 + (cN co))) (g (58 + (cN co))) (cN lf) (cN (g (26 + (cN lf)))) (cN (g (18 + (cN lf))))) (clrJ nd 6) (cN (g (18 + (cN lf))))) 1 6) (42 + (cN lf)) ((co) + 1)) (50 + (cN lf)) (skipM g (g (63 + (cN co))) (g (58 + (cN co))) (cN lf) (cN (g (26 + (cN lf)))) (cN (g (18 + (cN lf)))))) 2) + 1)) 3) + (bitsJ (skipM g (g (63 + (cN co))) (g (58 + (cN co))) (cN lf) (cN (g (26 + (cN lf)))) (cN (g (18 + (cN lf))))) 8))) (18 + (cN lf))) - (bitsJ (skipM g (g (63 + (cN co))) (g (58 + (cN co))) (cN lf) (cN (g (26 + (cN lf)))) (cN (g (18 + (cN lf))))) 8)), (upd s 14 0), (upd (upd (upd (upd (getsM g (needM g (cN lf) (skipM g (g (63 + (cN co))) (g (58 + (cN co))) (cN lf) (cN (g (26 + (cN lf)))) (cN (g (18 + (cN lf))))) (clrJ nd 6) (cN (g (18 + (cN lf))))) 1 6) (42 + (cN lf)) ((co) + 1)) (50 + (cN lf)) (skipM g (g (63 + (cN co))) (g (58 + (cN co))) (cN lf) (cN (g (26 + (cN lf)))) (cN (g (18 + (cN lf)))))) 2 (((upd (upd (getsM g (needM g (cN lf) (skipM g (g (63 + (cN co))) (g (58 + (cN co))) (cN lf) (cN (g (26 + (cN lf)))) (cN (g (18 + (cN lf))))) (clrJ nd 6) (cN (g (18 + (cN lf))))) 1 6) (42 + (cN lf)) ((co) + 1)) (50 + (cN lf)) (skipM g (g (63 + (cN co))) (g (58 + (cN co))) (cN lf) (cN (g (26 + (cN lf)))) (cN (g (18 + (cN lf)))))) 2) + 1)) 3 (((upd (upd (upd (getsM g (needM g (cN lf) (skipM g (g (63 + (cN co))) (g (58 + (cN co))) (cN lf) (cN (g (26 + (cN lf)))) (cN (g (18 + (cN lf))))) (clrJ nd 6) (cN (g (18 + (cN lf))))) 1 6) (42 + (cN lf)) ((co) + 1)) (50 + (cN lf)) (skipM g (g (63 + (cN co))) (g (58 + (cN co))) (cN lf) (cN (g (26 + (cN lf)))) (cN (g (18 + (cN lf)))))) 2 (((upd (upd (getsM g (needM g (cN lf) (skipM g (g (63 + (cN co))) (g (58 + (cN co))) (cN lf) (cN (g (26 + (cN lf)))) (cN (g (18 + (cN lf))))) (clrJ nd 6) (cN (g (18 + (cN lf))))) 1 6) (42 + (cN lf)) ((co) + 1)) (50 + (cN lf)) (skipM g (g (63 + (cN co))) (g (58 + (cN co))) (cN lf) (cN (g (26 + (cN lf)))) (cN (g (18 + (cN lf)))))) 2) + 1)) 3) + (bitsJ (skipM g (g (63 + (cN co))) (g (58 + (cN co))) (cN lf) (cN (g (26 + (cN lf)))) (cN (g (18 + (cN lf))))) 8))), (needM g (cN lf) (skipM g (g (63 + (cN co))) (g (58 + (cN co))) (cN lf) (cN (g (26 + (cN lf)))) (cN (g (18 + (cN lf))))) (clrJ nd 6) (cN (g (18 + (cN lf))))))) else ((0, (upd (upd (upd (upd s 9 6) 10 ((g (42 + (cN lf))) - 1)) 11 0) 14 1), g, nd))) else ((0, (upd (upd (upd (upd s 9 3) 10 (g 0)) 11 0) 14 1), g, nd))) else ((0, (upd (upd (upd (upd s 9 4) 10 (g 1)) 11 0) 14 1), g, nd))
def finishesM (s g nd : Nat → Int32) (lf : Int32) (sp : Int32) : Int32 × (Nat → Int32) × (Nat → Int32) × (Nat → Int32) := if inB lf 0 (g 0 - 1) then (if (g (42 + (cN lf))) = 0 then ((0, (upd (upd (upd (upd s 9 7) 10 0) 11 0) 14 1), g, nd)) else (if inB sp 0 (g (18 + (cN lf)) - 1) then (if (((g (50 + (cN lf))) >>> (sp &&& 31)) &&& 1) = 0 then ((0, (upd (upd (upd (upd s 9 9) 10 sp) 11 0) 14 1), g, nd)) else (if (lackJ (fun i => g (6 + i)) (needM g (cN lf) (1 <<< (sp &&& 31)) (clrJ nd 6) (cN (g (18 + (cN lf))))) 0 6) = (-1) then (((bitsJ ((upd (upd (getsM g (needM g (cN lf) (1 <<< (sp &&& 31)) (clrJ nd 6) (cN (g (18 + (cN lf))))) (-1) 6) (50 + (cN lf)) (((getsM g (needM g (cN lf) (1 <<< (sp &&& 31)) (clrJ nd 6) (cN (g (18 + (cN lf))))) (-1) 6) (50 + (cN lf))) &&& ((1 <<< (sp &&& 31)) ^^^ (-1)))) 4 (((upd (getsM g (needM g (cN lf) (1 <<< (sp &&& 31)) (clrJ nd 6) (cN (g (18 + (cN lf))))) (-1) 6) (50 + (cN lf)) (((getsM g (needM g (cN lf) (1 <<< (sp &&& 31)) (clrJ nd 6) (cN (g (18 + (cN lf))))) (-1) 6) (50 + (cN lf))) &&& ((1 <<< (sp &&& 31)) ^^^ (-1)))) 4) + 1)) (50 + (cN lf))) 8), (upd s 14 0), (upd (upd (getsM g (needM g (cN lf) (1 <<< (sp &&& 31)) (clrJ nd 6) (cN (g (18 + (cN lf))))) (-1) 6) (50 + (cN lf)) (((getsM g (needM g (cN lf) (1 <<< (sp &&& 31)) (clrJ nd 6) (cN (g (18 + (cN lf))))) (-1) 6) (50 + (cN lf))) &&& ((1 <<< (sp &&& 31)) ^^^ (-1)))) 4 (((upd (getsM g (needM g (cN lf) (1 <<< (sp &&& 31)) (clrJ nd 6) (cN (g (18 + (cN lf))))) (-1) 6) (50 + (cN lf)) (((getsM g (needM g (cN lf) (1 <<< (sp &&& 31)) (clrJ nd 6) (cN (g (18 + (cN lf))))) (-1) 6) (50 + (cN lf))) &&& ((1 <<< (sp &&& 31)) ^^^ (-1)))) 4) + 1)), (needM g (cN lf) (1 <<< (sp &&& 31)) (clrJ nd 6) (cN (g (18 + (cN lf))))))) else ((0, (upd (upd (upd (upd s 9 10) 10 (lackJ (fun i => g (6 + i)) (needM g (cN lf) (1 <<< (sp &&& 31)) (clrJ nd 6) (cN (g (18 + (cN lf))))) 0 6)) 11 0) 14 1), g, (needM g (cN lf) (1 <<< (sp &&& 31)) (clrJ nd 6) (cN (g (18 + (cN lf))))))))) else ((0, (upd (upd (upd (upd s 9 8) 10 (g (18 + (cN lf)))) 11 0) 14 1), g, nd)))) else ((0, (upd (upd (upd (upd s 9 3) 10 (g 0)) 11 0) 14 1), g, nd))
def apartM (s g nd : Nat → Int32) (lf : Int32) : Int32 × (Nat → Int32) × (Nat → Int32) × (Nat → Int32) := if inB lf 0 (g 0 - 1) then (if (g (42 + (cN lf))) = 0 then ((0, (upd (upd (upd (upd s 9 7) 10 0) 11 0) 14 1), g, nd)) else (if (lackJ (fun i => g (6 + i)) (needM g (cN lf) (g (50 + (cN lf))) (clrJ nd 6) (cN (g (18 + (cN lf))))) 0 6) = (-1) then (((sumM g (cN lf) (g (50 + (cN lf))) (cN (g (18 + (cN lf))))), (upd s 14 0), (upd (upd (upd (getsM g (needM g (cN lf) (g (50 + (cN lf))) (clrJ nd 6) (cN (g (18 + (cN lf))))) (-1) 6) (42 + (cN lf)) 0) (50 + (cN lf)) 0) 5 (((upd (upd (getsM g (needM g (cN lf) (g (50 + (cN lf))) (clrJ nd 6) (cN (g (18 + (cN lf))))) (-1) 6) (42 + (cN lf)) 0) (50 + (cN lf)) 0) 5) + 1)), (needM g (cN lf) (g (50 + (cN lf))) (clrJ nd 6) (cN (g (18 + (cN lf))))))) else ((0, (upd (upd (upd (upd s 9 10) 10 (lackJ (fun i => g (6 + i)) (needM g (cN lf) (g (50 + (cN lf))) (clrJ nd 6) (cN (g (18 + (cN lf))))) 0 6)) 11 0) 14 1), g, (needM g (cN lf) (g (50 + (cN lf))) (clrJ nd 6) (cN (g (18 + (cN lf))))))))) else ((0, (upd (upd (upd (upd s 9 3) 10 (g 0)) 11 0) 14 1), g, nd))
def movesM (s g : Nat → Int32) (lf : Int32) (sh : Int32) : Int32 × (Nat → Int32) × (Nat → Int32) := if inB lf 0 (g 0 - 1) then (if inB sh 0 3 then (if (g (34 + (cN lf))) = sh then ((0, (upd (upd (upd (upd s 9 12) 10 sh) 11 0) 14 1), g)) else (if (bitsJ (onM g sh (cN (g 0))) 8) = 3 then ((0, (upd (upd (upd (upd s 9 5) 10 sh) 11 0) 14 1), g)) else (((g (34 + (cN lf))), (upd s 14 0), (upd g (34 + (cN lf)) sh))))) else ((0, (upd (upd (upd (upd s 9 1) 10 0) 11 0) 14 1), g))) else ((0, (upd (upd (upd (upd s 9 3) 10 (g 0)) 11 0) 14 1), g))
def losesM (s g : Nat → Int32) (kd : Int32) (ps : Int32) : Int32 × (Nat → Int32) × (Nat → Int32) := if inB kd 0 5 then (if inB ps 1 9 then (if ps ≤ (g (6 + (cN kd))) then ((((upd (upd g (6 + (cN kd)) ((g (6 + (cN kd))) - ps)) (12 + (cN kd)) (((upd g (6 + (cN kd)) ((g (6 + (cN kd))) - ps)) (12 + (cN kd))) + ps)) (6 + (cN kd))), (upd s 14 0), (upd (upd g (6 + (cN kd)) ((g (6 + (cN kd))) - ps)) (12 + (cN kd)) (((upd g (6 + (cN kd)) ((g (6 + (cN kd))) - ps)) (12 + (cN kd))) + ps)))) else ((0, (upd (upd (upd (upd s 9 10) 10 (kd)) 11 0) 14 1), g))) else ((0, (upd (upd (upd (upd s 9 1) 10 0) 11 0) 14 1), g))) else ((0, (upd (upd (upd (upd s 9 1) 10 0) 11 0) 14 1), g))
def findsM (s g : Nat → Int32) (kd : Int32) (ps : Int32) : Int32 × (Nat → Int32) × (Nat → Int32) := if inB kd 0 5 then (if inB ps 1 9 then (if ps ≤ (g (12 + (cN kd))) then ((((upd (upd g (12 + (cN kd)) ((g (12 + (cN kd))) - ps)) (6 + (cN kd)) (((upd g (12 + (cN kd)) ((g (12 + (cN kd))) - ps)) (6 + (cN kd))) + ps)) (12 + (cN kd))), (upd s 14 0), (upd (upd g (12 + (cN kd)) ((g (12 + (cN kd))) - ps)) (6 + (cN kd)) (((upd g (12 + (cN kd)) ((g (12 + (cN kd))) - ps)) (6 + (cN kd))) + ps)))) else ((0, (upd (upd (upd (upd s 9 13) 10 (g (12 + (cN kd)))) 11 0) 14 1), g))) else ((0, (upd (upd (upd (upd s 9 1) 10 0) 11 0) 14 1), g))) else ((0, (upd (upd (upd (upd s 9 1) 10 0) 11 0) 14 1), g))
/-! ===== printed by program (wip/whole/gen): the reference's calls that change, what they leave alone ===== -/
theorem laysM_3 {s g : Nat → Int32} {sh : Int32} : (laysM s g sh).2.1 3 = s 3 := by
  unfold laysM
  (repeat' split) <;> rfl
theorem addsM_3 {s g : Nat → Int32} {lf : Int32} {kd : Int32} {ps : Int32} {la : Int32} {sd : Int32} : (addsM s g lf kd ps la sd).2.1 3 = s 3 := by
  unfold addsM
  (repeat' split) <;> rfl
theorem foldsM_3 {s g : Nat → Int32} {lf : Int32} {by_ : Int32} : (foldsM s g lf by_).2.1 3 = s 3 := by
  unfold foldsM
  (repeat' split) <;> rfl
theorem comesM_3 {s g : Nat → Int32} {bo : Int32} {la : Int32} : (comesM s g bo la).2.1 3 = s 3 := by
  unfold comesM
  (repeat' split) <;> rfl
theorem learnsM_3 {s g : Nat → Int32} {co : Int32} {la : Int32} : (learnsM s g co la).2.1 3 = s 3 := by
  unfold learnsM
  (repeat' split) <;> rfl
theorem buildsM_3 {s g nd : Nat → Int32} {co : Int32} {lf : Int32} : (buildsM s g nd co lf).2.1 3 = s 3 := by
  unfold buildsM
  (repeat' split) <;> rfl
theorem finishesM_3 {s g nd : Nat → Int32} {lf : Int32} {sp : Int32} : (finishesM s g nd lf sp).2.1 3 = s 3 := by
  unfold finishesM
  (repeat' split) <;> rfl
theorem apartM_3 {s g nd : Nat → Int32} {lf : Int32} : (apartM s g nd lf).2.1 3 = s 3 := by
  unfold apartM
  (repeat' split) <;> rfl
theorem movesM_3 {s g : Nat → Int32} {lf : Int32} {sh : Int32} : (movesM s g lf sh).2.1 3 = s 3 := by
  unfold movesM
  (repeat' split) <;> rfl
theorem losesM_3 {s g : Nat → Int32} {kd : Int32} {ps : Int32} : (losesM s g kd ps).2.1 3 = s 3 := by
  unfold losesM
  (repeat' split) <;> rfl
theorem findsM_3 {s g : Nat → Int32} {kd : Int32} {ps : Int32} : (findsM s g kd ps).2.1 3 = s 3 := by
  unfold findsM
  (repeat' split) <;> rfl
def looksM (s g bf : Nat → Int32) : (Nat → Int32) := g
def keptM (s g bf hs : Nat → Int32) (v : Int32) : Int32 × (Nat → Int32) × (Nat → Int32) × (Nat → Int32) := if (s 14) = 0 then (if (s 3) = 8 then ((v, (upd (upd s 3 ((s 3) - 1)) 3 (((s 3) - 1) + 1)), g, (cpyJ bf (shJ hs 2268) 0 (7 * 324) 324))) else ((v, (upd s 3 ((s 3) + 1)), g, (cpyJ bf hs 0 ((cN (s 3)) * 324) 324)))) else ((0, s, bf, hs))
def leafletM (s g bf hs : Nat → Int32) (sh : Int32) : Int32 × (Nat → Int32) × (Nat → Int32) × (Nat → Int32) × (Nat → Int32) := ((keptM ((laysM s g sh).2.1) ((laysM s g sh).2.2) (looksM s g bf) hs ((laysM s g sh).1)).1, ((keptM ((laysM s g sh).2.1) ((laysM s g sh).2.2) (looksM s g bf) hs ((laysM s g sh).1)).2.1), ((keptM ((laysM s g sh).2.1) ((laysM s g sh).2.2) (looksM s g bf) hs ((laysM s g sh).1)).2.2.1), (looksM s g bf), ((keptM ((laysM s g sh).2.1) ((laysM s g sh).2.2) (looksM s g bf) hs ((laysM s g sh).1)).2.2.2))
def stepM (s g bf hs : Nat → Int32) (lf : Int32) (kd : Int32) (ps : Int32) (la : Int32) (z : Int32) : Int32 × (Nat → Int32) × (Nat → Int32) × (Nat → Int32) × (Nat → Int32) := if z = 0 then (((keptM ((addsM s g lf kd ps la 0).2.1) ((addsM s g lf kd ps la 0).2.2) (looksM s g bf) hs ((addsM s g lf kd ps la 0).1)).1, ((keptM ((addsM s g lf kd ps la 0).2.1) ((addsM s g lf kd ps la 0).2.2) (looksM s g bf) hs ((addsM s g lf kd ps la 0).1)).2.1), ((keptM ((addsM s g lf kd ps la 0).2.1) ((addsM s g lf kd ps la 0).2.2) (looksM s g bf) hs ((addsM s g lf kd ps la 0).1)).2.2.1), (looksM s g bf), ((keptM ((addsM s g lf kd ps la 0).2.1) ((addsM s g lf kd ps la 0).2.2) (looksM s g bf) hs ((addsM s g lf kd ps la 0).1)).2.2.2))) else (((keptM ((addsM s g lf kd ps la 1).2.1) ((addsM s g lf kd ps la 1).2.2) (looksM s g bf) hs ((addsM s g lf kd ps la 1).1)).1, ((keptM ((addsM s g lf kd ps la 1).2.1) ((addsM s g lf kd ps la 1).2.2) (looksM s g bf) hs ((addsM s g lf kd ps la 1).1)).2.1), ((keptM ((addsM s g lf kd ps la 1).2.1) ((addsM s g lf kd ps la 1).2.2) (looksM s g bf) hs ((addsM s g lf kd ps la 1).1)).2.2.1), (looksM s g bf), ((keptM ((addsM s g lf kd ps la 1).2.1) ((addsM s g lf kd ps la 1).2.2) (looksM s g bf) hs ((addsM s g lf kd ps la 1).1)).2.2.2)))
def foldM (s g bf hs : Nat → Int32) (lf : Int32) : Int32 × (Nat → Int32) × (Nat → Int32) × (Nat → Int32) × (Nat → Int32) := ((keptM ((foldsM s g lf 1).2.1) ((foldsM s g lf 1).2.2) (looksM s g bf) hs ((foldsM s g lf 1).1)).1, ((keptM ((foldsM s g lf 1).2.1) ((foldsM s g lf 1).2.2) (looksM s g bf) hs ((foldsM s g lf 1).1)).2.1), ((keptM ((foldsM s g lf 1).2.1) ((foldsM s g lf 1).2.2) (looksM s g bf) hs ((foldsM s g lf 1).1)).2.2.1), (looksM s g bf), ((keptM ((foldsM s g lf 1).2.1) ((foldsM s g lf 1).2.2) (looksM s g bf) hs ((foldsM s g lf 1).1)).2.2.2))
def unfoldM (s g bf hs : Nat → Int32) (lf : Int32) : Int32 × (Nat → Int32) × (Nat → Int32) × (Nat → Int32) × (Nat → Int32) := ((keptM ((foldsM s g lf (-1)).2.1) ((foldsM s g lf (-1)).2.2) (looksM s g bf) hs ((foldsM s g lf (-1)).1)).1, ((keptM ((foldsM s g lf (-1)).2.1) ((foldsM s g lf (-1)).2.2) (looksM s g bf) hs ((foldsM s g lf (-1)).1)).2.1), ((keptM ((foldsM s g lf (-1)).2.1) ((foldsM s g lf (-1)).2.2) (looksM s g bf) hs ((foldsM s g lf (-1)).1)).2.2.1), (looksM s g bf), ((keptM ((foldsM s g lf (-1)).2.1) ((foldsM s g lf (-1)).2.2) (looksM s g bf) hs ((foldsM s g lf (-1)).1)).2.2.2))
def cousinM (s g bf hs : Nat → Int32) (bo : Int32) (la : Int32) : Int32 × (Nat → Int32) × (Nat → Int32) × (Nat → Int32) × (Nat → Int32) := ((keptM ((comesM s g bo la).2.1) ((comesM s g bo la).2.2) (looksM s g bf) hs ((comesM s g bo la).1)).1, ((keptM ((comesM s g bo la).2.1) ((comesM s g bo la).2.2) (looksM s g bf) hs ((comesM s g bo la).1)).2.1), ((keptM ((comesM s g bo la).2.1) ((comesM s g bo la).2.2) (looksM s g bf) hs ((comesM s g bo la).1)).2.2.1), (looksM s g bf), ((keptM ((comesM s g bo la).2.1) ((comesM s g bo la).2.2) (looksM s g bf) hs ((comesM s g bo la).1)).2.2.2))
def learnM (s g bf hs : Nat → Int32) (co : Int32) (la : Int32) : Int32 × (Nat → Int32) × (Nat → Int32) × (Nat → Int32) × (Nat → Int32) := ((keptM ((learnsM s g co la).2.1) ((learnsM s g co la).2.2) (looksM s g bf) hs ((learnsM s g co la).1)).1, ((keptM ((learnsM s g co la).2.1) ((learnsM s g co la).2.2) (looksM s g bf) hs ((learnsM s g co la).1)).2.1), ((keptM ((learnsM s g co la).2.1) ((learnsM s g co la).2.2) (looksM s g bf) hs ((learnsM s g co la).1)).2.2.1), (looksM s g bf), ((keptM ((learnsM s g co la).2.1) ((learnsM s g co la).2.2) (looksM s g bf) hs ((learnsM s g co la).1)).2.2.2))
def buildM (s g nd bf hs : Nat → Int32) (co : Int32) (lf : Int32) : Int32 × (Nat → Int32) × (Nat → Int32) × (Nat → Int32) × (Nat → Int32) × (Nat → Int32) := ((keptM ((buildsM s g nd co lf).2.1) ((buildsM s g nd co lf).2.2.1) (looksM s g bf) hs ((buildsM s g nd co lf).1)).1, ((keptM ((buildsM s g nd co lf).2.1) ((buildsM s g nd co lf).2.2.1) (looksM s g bf) hs ((buildsM s g nd co lf).1)).2.1), ((keptM ((buildsM s g nd co lf).2.1) ((buildsM s g nd co lf).2.2.1) (looksM s g bf) hs ((buildsM s g nd co lf).1)).2.2.1), ((buildsM s g nd co lf).2.2.2), (looksM s g bf), ((keptM ((buildsM s g nd co lf).2.1) ((buildsM s g nd co lf).2.2.1) (looksM s g bf) hs ((buildsM s g nd co lf).1)).2.2.2))
def finishM (s g nd bf hs : Nat → Int32) (lf : Int32) (sp : Int32) : Int32 × (Nat → Int32) × (Nat → Int32) × (Nat → Int32) × (Nat → Int32) × (Nat → Int32) := ((keptM ((finishesM s g nd lf sp).2.1) ((finishesM s g nd lf sp).2.2.1) (looksM s g bf) hs ((finishesM s g nd lf sp).1)).1, ((keptM ((finishesM s g nd lf sp).2.1) ((finishesM s g nd lf sp).2.2.1) (looksM s g bf) hs ((finishesM s g nd lf sp).1)).2.1), ((keptM ((finishesM s g nd lf sp).2.1) ((finishesM s g nd lf sp).2.2.1) (looksM s g bf) hs ((finishesM s g nd lf sp).1)).2.2.1), ((finishesM s g nd lf sp).2.2.2), (looksM s g bf), ((keptM ((finishesM s g nd lf sp).2.1) ((finishesM s g nd lf sp).2.2.1) (looksM s g bf) hs ((finishesM s g nd lf sp).1)).2.2.2))
def apartsM (s g nd bf hs : Nat → Int32) (lf : Int32) : Int32 × (Nat → Int32) × (Nat → Int32) × (Nat → Int32) × (Nat → Int32) × (Nat → Int32) := ((keptM ((apartM s g nd lf).2.1) ((apartM s g nd lf).2.2.1) (looksM s g bf) hs ((apartM s g nd lf).1)).1, ((keptM ((apartM s g nd lf).2.1) ((apartM s g nd lf).2.2.1) (looksM s g bf) hs ((apartM s g nd lf).1)).2.1), ((keptM ((apartM s g nd lf).2.1) ((apartM s g nd lf).2.2.1) (looksM s g bf) hs ((apartM s g nd lf).1)).2.2.1), ((apartM s g nd lf).2.2.2), (looksM s g bf), ((keptM ((apartM s g nd lf).2.1) ((apartM s g nd lf).2.2.1) (looksM s g bf) hs ((apartM s g nd lf).1)).2.2.2))
def moveM (s g bf hs : Nat → Int32) (lf : Int32) (sh : Int32) : Int32 × (Nat → Int32) × (Nat → Int32) × (Nat → Int32) × (Nat → Int32) := ((keptM ((movesM s g lf sh).2.1) ((movesM s g lf sh).2.2) (looksM s g bf) hs ((movesM s g lf sh).1)).1, ((keptM ((movesM s g lf sh).2.1) ((movesM s g lf sh).2.2) (looksM s g bf) hs ((movesM s g lf sh).1)).2.1), ((keptM ((movesM s g lf sh).2.1) ((movesM s g lf sh).2.2) (looksM s g bf) hs ((movesM s g lf sh).1)).2.2.1), (looksM s g bf), ((keptM ((movesM s g lf sh).2.1) ((movesM s g lf sh).2.2) (looksM s g bf) hs ((movesM s g lf sh).1)).2.2.2))
def loseM (s g bf hs : Nat → Int32) (kd : Int32) (ps : Int32) : Int32 × (Nat → Int32) × (Nat → Int32) × (Nat → Int32) × (Nat → Int32) := ((keptM ((losesM s g kd ps).2.1) ((losesM s g kd ps).2.2) (looksM s g bf) hs ((losesM s g kd ps).1)).1, ((keptM ((losesM s g kd ps).2.1) ((losesM s g kd ps).2.2) (looksM s g bf) hs ((losesM s g kd ps).1)).2.1), ((keptM ((losesM s g kd ps).2.1) ((losesM s g kd ps).2.2) (looksM s g bf) hs ((losesM s g kd ps).1)).2.2.1), (looksM s g bf), ((keptM ((losesM s g kd ps).2.1) ((losesM s g kd ps).2.2) (looksM s g bf) hs ((losesM s g kd ps).1)).2.2.2))
def findM (s g bf hs : Nat → Int32) (kd : Int32) (ps : Int32) : Int32 × (Nat → Int32) × (Nat → Int32) × (Nat → Int32) × (Nat → Int32) := ((keptM ((findsM s g kd ps).2.1) ((findsM s g kd ps).2.2) (looksM s g bf) hs ((findsM s g kd ps).1)).1, ((keptM ((findsM s g kd ps).2.1) ((findsM s g kd ps).2.2) (looksM s g bf) hs ((findsM s g kd ps).1)).2.1), ((keptM ((findsM s g kd ps).2.1) ((findsM s g kd ps).2.2) (looksM s g bf) hs ((findsM s g kd ps).1)).2.2.1), (looksM s g bf), ((keptM ((findsM s g kd ps).2.1) ((findsM s g kd ps).2.2) (looksM s g bf) hs ((findsM s g kd ps).1)).2.2.2))
/-! ===== printed by program (wip/whole/gen): the reference's reads ===== -/
def bltL (s g : Nat → Int32) (co : Int32) (z : Int32) : Nat → Int32
  | 0 => 0
  | k + 1 => if (g (42 + k)) = (co + 1) then (if z = 0 then (((bltL s g co z k) + 1)) else (((bltL s g co z k) + (bitsJ (g (50 + k)) 8)))) else (((bltL s g co z k) + 0))
def bltM (s g : Nat → Int32) (co : Int32) (z : Int32) : Int32 := bltL s g co z (cN (g 0))
def onesL (s g : Nat → Int32) : Nat → Int32
  | 0 => 0
  | k + 1 => if (g (42 + k)) = 0 then (((onesL s g k) + 0)) else (((onesL s g k) + 1))
def onesM (s g : Nat → Int32) : Int32 := onesL s g (cN (g 0))
def leafOfM (s g nd : Nat → Int32) (lf : Int32) (wh : Int32) : Int32 × (Nat → Int32) × (Nat → Int32) := if inB lf 0 (g 0 - 1) then (if wh = 0 then (((g (18 + (cN lf))), (upd s 14 0), nd)) else (if wh = 1 then (((g (26 + (cN lf))), (upd s 14 0), nd)) else (if wh = 2 then (((openJ (g (18 + (cN lf))) (cN (g (26 + (cN lf))))), (upd s 14 0), nd)) else (if wh = 3 then (((g (34 + (cN lf))), (upd s 14 0), nd)) else (if wh = 4 then ((((g (42 + (cN lf))) - 1), (upd s 14 0), nd)) else (if wh = 5 then (((bitsJ (g (50 + (cN lf))) 8), (upd s 14 0), nd)) else (if wh = 6 then (((sumM g (cN lf) (1 <<< (g (18 + (cN lf)) &&& 31) - 1) (cN (g (18 + (cN lf))))), (upd s 14 0), (needM g (cN lf) (1 <<< (g (18 + (cN lf)) &&& 31) - 1) (clrJ nd 6) (cN (g (18 + (cN lf))))))) else (if wh = 7 then (((sumM g (cN lf) (g (50 + (cN lf))) (cN (g (18 + (cN lf))))), (upd s 14 0), (needM g (cN lf) (g (50 + (cN lf))) (clrJ nd 6) (cN (g (18 + (cN lf))))))) else ((0, (upd s 14 2), nd)))))))))) else ((0, (upd s 14 1), nd))
def stepOfM (s g : Nat → Int32) (lf : Int32) (sp : Int32) (wh : Int32) : Int32 × (Nat → Int32) := if inB lf 0 (g 0 - 1) then (if inB sp 0 (g (18 + (cN lf)) - 1) then (if wh = 0 then (((g (68 + 8 * (cN lf) + (cN sp))), (upd s 14 0))) else (if wh = 1 then (((mP g (cN lf) (cN sp)), (upd s 14 0))) else (if wh = 2 then (((g (196 + 8 * (cN lf) + (cN sp))), (upd s 14 0))) else (if wh = 3 then (((g (260 + 8 * (cN lf) + (cN sp))), (upd s 14 0))) else (if wh = 4 then (((((g (50 + (cN lf))) >>> ((sp) &&& 31)) &&& 1), (upd s 14 0))) else ((0, (upd s 14 3)))))))) else ((0, (upd s 14 2)))) else ((0, (upd s 14 1)))
def cousOfM (s g : Nat → Int32) (co : Int32) (wh : Int32) : Int32 × (Nat → Int32) := if inB co 0 (g 1 - 1) then (if wh = 0 then (((g (58 + (cN co))), (upd s 14 0))) else (if wh = 1 then (((g (63 + (cN co))), (upd s 14 0))) else (if wh = 2 then (((bitsJ (g (63 + (cN co))) 8), (upd s 14 0))) else (if wh = 3 then (((bltM s g (co) 0), (upd s 14 0))) else (if wh = 4 then (((bltM s g (co) 1), (upd s 14 0))) else ((0, (upd s 14 2)))))))) else ((0, (upd s 14 1)))
def whyM (s g : Nat → Int32) (co : Int32) (lf : Int32) (sp : Int32) : Int32 × (Nat → Int32) := if inB co 0 (g 1 - 1) then (if inB lf 0 (g 0 - 1) then (if inB sp 0 (g (18 + (cN lf)) - 1) then (((causeM g (g (63 + (cN co))) (g (58 + (cN co))) (cN lf) (cN sp) ((cN (g (26 + (cN lf)))))), (upd s 14 0))) else ((0, (upd s 14 2)))) else ((0, (upd s 14 1)))) else ((0, (upd s 14 1)))
def whyAgM (s g : Nat → Int32) (co : Int32) (lf : Int32) (sp : Int32) : Int32 × (Nat → Int32) := ((whyM s g co lf sp).1, ((whyM s g co lf sp).2))
def wskipM (s g : Nat → Int32) (co : Int32) (lf : Int32) : Int32 × (Nat → Int32) := if inB co 0 (g 1 - 1) then (if inB lf 0 (g 0 - 1) then (((skipM g (g (63 + (cN co))) (g (58 + (cN co))) (cN lf) (cN (g (26 + (cN lf)))) (cN (g (18 + (cN lf))))), (upd s 14 0))) else ((0, (upd s 14 1)))) else ((0, (upd s 14 1)))
def wleaveM (s g nd : Nat → Int32) (co : Int32) (lf : Int32) (kd : Int32) : Int32 × (Nat → Int32) × (Nat → Int32) := if inB co 0 (g 1 - 1) then (if inB lf 0 (g 0 - 1) then (if inB kd 0 5 then ((((needM g (cN lf) (skipM g (g (63 + (cN co))) (g (58 + (cN co))) (cN lf) (cN (g (26 + (cN lf)))) (cN (g (18 + (cN lf))))) (clrJ nd 6) (cN (g (18 + (cN lf))))) (cN kd)), (upd s 14 0), (needM g (cN lf) (skipM g (g (63 + (cN co))) (g (58 + (cN co))) (cN lf) (cN (g (26 + (cN lf)))) (cN (g (18 + (cN lf))))) (clrJ nd 6) (cN (g (18 + (cN lf))))))) else ((0, (upd s 14 2), nd))) else ((0, (upd s 14 1), nd))) else ((0, (upd s 14 1), nd))
def betM (s g : Nat → Int32) (i : Nat) (i2 : Nat) (j : Nat) : Int32 := if 0 < ((bitsJ (skipM g (g (63 + i2)) (g (58 + i2)) j (cN (g (26 + j))) (cN (g (18 + j)))) 8) - (bitsJ (skipM g (g (63 + i)) (g (58 + i)) j (cN (g (26 + j))) (cN (g (18 + j)))) 8)) then (1) else (if ((bitsJ (skipM g (g (63 + i2)) (g (58 + i2)) j (cN (g (26 + j))) (cN (g (18 + j)))) 8) - (bitsJ (skipM g (g (63 + i)) (g (58 + i)) j (cN (g (26 + j))) (cN (g (18 + j)))) 8)) = 0 then (if (g (58 + i2)) ≤ (g (58 + i)) then (0) else (1)) else (0))
def blanL (s g : Nat → Int32) (co : Int32) (lf : Int32) : Nat → Int32 × Int32
  | 0 => ((-1), bitsJ (skipM g (g (63 + (cN co))) (g (58 + (cN co))) (cN lf) (cN (g (26 + (cN lf)))) (cN (g (18 + (cN lf))))) 8)
  | k + 1 => if ((blanL s g (co) (lf) k).2) ≤ (bitsJ (skipM g ((g (63 + (cN co))) ||| (1 <<< ((nI k) &&& 31))) (g (58 + (cN co))) (cN lf) ((cN (g (26 + (cN lf))))) (cN (g (18 + (cN lf))))) 8) then ((((blanL s g (co) (lf) k).1), ((blanL s g (co) (lf) k).2))) else ((nI k, bitsJ (skipM g ((g (63 + (cN co))) ||| (1 <<< ((nI k) &&& 31))) (g (58 + (cN co))) (cN lf) ((cN (g (26 + (cN lf))))) (cN (g (18 + (cN lf))))) 8))
def blanM (s g : Nat → Int32) (co : Int32) (lf : Int32) : Int32 × (Nat → Int32) := if inB co 0 (g 1 - 1) then (if inB lf 0 (g 0 - 1) then (if ((blanL s g (co) (lf) 5).1) = (-1) then ((0, (upd s 14 2))) else ((((blanL s g (co) (lf) 5).1), (upd s 14 0)))) else ((0, (upd s 14 1)))) else ((0, (upd s 14 1)))
def skwM (s g : Nat → Int32) (i : Nat) (j : Nat) (fo : Nat) : Int32 := bitsJ (skipM g (g (63 + i)) (g (58 + i)) j fo (cN (g (18 + j)))) 8
def bfolM (s g : Nat → Int32) (co : Int32) (lf : Int32) : Int32 × (Nat → Int32) := if inB co 0 (g 1 - 1) then (if inB lf 0 (g 0 - 1) then (if (skwM s g (cN co) (cN lf) 0) < (skwM s g (cN co) (cN lf) 1) then (if (skwM s g (cN co) (cN lf) 0) < (skwM s g (cN co) (cN lf) 2) then (if (skwM s g (cN co) (cN lf) 0) < (skwM s g (cN co) (cN lf) 3) then ((0, (upd s 14 0))) else ((3, (upd s 14 0)))) else (if (skwM s g (cN co) (cN lf) 0) < (skwM s g (cN co) (cN lf) 3) then ((2, (upd s 14 0))) else ((3, (upd s 14 0))))) else (if (skwM s g (cN co) (cN lf) 0) < (skwM s g (cN co) (cN lf) 2) then (if (skwM s g (cN co) (cN lf) 0) < (skwM s g (cN co) (cN lf) 3) then ((1, (upd s 14 0))) else ((3, (upd s 14 0)))) else (if (skwM s g (cN co) (cN lf) 0) < (skwM s g (cN co) (cN lf) 3) then ((2, (upd s 14 0))) else ((3, (upd s 14 0)))))) else ((0, (upd s 14 1)))) else ((0, (upd s 14 1)))
def canM (s g nd : Nat → Int32) (lf : Int32) (sp : Int32) : Int32 × (Nat → Int32) × (Nat → Int32) := if inB lf 0 (g 0 - 1) then (if inB sp 0 (g (18 + (cN lf)) - 1) then (if (((g (50 + (cN lf))) >>> (sp &&& 31)) &&& 1) = 1 then (if (lackJ (fun i => g (6 + i)) (needM g (cN lf) (1 <<< (sp &&& 31)) (clrJ nd 6) (cN (g (18 + (cN lf))))) 0 6) = (-1) then ((1, (upd s 14 0), (needM g (cN lf) (1 <<< (sp &&& 31)) (clrJ nd 6) (cN (g (18 + (cN lf))))))) else ((0, (upd s 14 0), (needM g (cN lf) (1 <<< (sp &&& 31)) (clrJ nd 6) (cN (g (18 + (cN lf)))))))) else ((0, (upd s 14 0), (needM g (cN lf) (1 <<< (sp &&& 31)) (clrJ nd 6) (cN (g (18 + (cN lf)))))))) else ((0, (upd s 14 2), nd))) else ((0, (upd s 14 1), nd))
def tinM (s g : Nat → Int32) (kd : Int32) : Int32 × (Nat → Int32) := if inB kd 0 5 then (((g (6 + (cN kd))), (upd s 14 0))) else ((0, (upd s 14 1)))
def lostM (s g : Nat → Int32) (kd : Int32) : Int32 × (Nat → Int32) := if inB kd 0 5 then (((g (12 + (cN kd))), (upd s 14 0))) else ((0, (upd s 14 1)))
def shelfM (s g : Nat → Int32) (sh : Int32) : Int32 × (Nat → Int32) := if inB sh 0 3 then (((onM g sh (cN (g 0))), (upd s 14 0))) else ((0, (upd s 14 1)))
def keyM (s g nd : Nat → Int32) (ms : Int32) (j : Nat) : Int32 × (Nat → Int32) := if ms = 0 then ((g (18 + j), nd)) else (if ms = 1 then ((g (26 + j), nd)) else (if ms = 2 then ((sumM g j (1 <<< (g (18 + j) &&& 31) - 1) (cN (g (18 + j))), (needM g j (1 <<< (g (18 + j) &&& 31) - 1) (clrJ nd 6) (cN (g (18 + j)))))) else ((bitsJ (g (50 + j)) 8, nd))))
def evenM (s g : Nat → Int32) : Int32 × (Nat → Int32) := (1, (upd s 14 0))
def fposM (s g : Nat → Int32) : Int32 × (Nat → Int32) := ((s 8), (upd s 14 0))
def reasM (s g : Nat → Int32) (wh : Int32) : Int32 × (Nat → Int32) := if inB wh 0 2 then (if (s 9) = 0 then ((0, (upd s 14 2))) else (if wh = 0 then (((s 9), (upd s 14 0))) else (if wh = 1 then (((s 10), (upd s 14 0))) else (((s 11), (upd s 14 0)))))) else ((0, (upd s 14 1)))
def sumaL (s g : Nat → Int32) (a : Nat) (b : Nat) : Nat → Int32
  | 0 => 0
  | k + 1 => ((sumaL s g a b k) + (g (a + k)))
def sumaM (s g : Nat → Int32) (a : Nat) (b : Nat) : Int32 := sumaL s g a b b
def accM (s g : Nat → Int32) (wh : Int32) : Int32 × (Nat → Int32) := if wh = 0 then (((g 0), (upd s 14 0))) else (if wh = 1 then (((g 1), (upd s 14 0))) else (if wh = 2 then (((sumaM s g 18 8), (upd s 14 0))) else (if wh = 3 then (((onesM s g), (upd s 14 0))) else (if wh = 4 then (((sumaM s g 6 6), (upd s 14 0))) else (if wh = 5 then (((g 2), (upd s 14 0))) else (if wh = 6 then (((g 3), (upd s 14 0))) else (if wh = 7 then (((g 4), (upd s 14 0))) else (if wh = 8 then (((g 5), (upd s 14 0))) else (if wh = 9 then (((s 3), (upd s 14 0))) else (if wh = 10 then (((s 7), (upd s 14 0))) else ((0, (upd s 14 1)))))))))))))
def undoM (s g hs : Nat → Int32) : Int32 × (Nat → Int32) × (Nat → Int32) := if (s 3) = 0 then ((0, (upd s 14 1), g)) else ((((s 3) - 1), (upd (upd s 3 ((s 3) - 1)) 14 0), (fun j9 => hs ((((cN (s 3)) - 1) * 324) + j9))))
def saveM (s g sv : Nat → Int32) : Int32 × (Nat → Int32) × (Nat → Int32) := ((g 0), (upd (upd s 5 1) 14 0), g)
def restM (s g sv : Nat → Int32) : Int32 × (Nat → Int32) × (Nat → Int32) := if (s 5) = 0 then ((0, (upd s 14 1), g)) else (((sv 0), (upd (upd s 3 0) 14 0), sv))
def finL (s g nd bf : Nat → Int32) (j : Nat) : Nat → Int32 × (Nat → Int32) × (Nat → Int32)
  | 0 => (0, g, nd)
  | k + 1 => if (((((finL s g nd bf j k).2.1) (50 + j)) >>> ((nI k) &&& 31)) &&& 1) = 1 then (if (lackJ (fun i => ((finL s g nd bf j k).2.1) (6 + i)) (needM ((finL s g nd bf j k).2.1) j (1 <<< ((nI k) &&& 31)) (clrJ ((finL s g nd bf j k).2.2) 6) (cN (g (18 + j)))) 0 6) = (-1) then (((((finL s g nd bf j k).1) + 1), (getsM ((finL s g nd bf j k).2.1) (needM ((finL s g nd bf j k).2.1) j (1 <<< ((nI k) &&& 31)) (clrJ ((finL s g nd bf j k).2.2) 6) (cN (g (18 + j)))) (-1) 6), (needM ((finL s g nd bf j k).2.1) j (1 <<< ((nI k) &&& 31)) (clrJ ((finL s g nd bf j k).2.2) 6) (cN (g (18 + j)))))) else (((finL s g nd bf j k).1, ((finL s g nd bf j k).2.1), (needM ((finL s g nd bf j k).2.1) j (1 <<< ((nI k) &&& 31)) (clrJ ((finL s g nd bf j k).2.2) 6) (cN (g (18 + j))))))) else (((finL s g nd bf j k).1, ((finL s g nd bf j k).2.1), (needM ((finL s g nd bf j k).2.1) j (1 <<< ((nI k) &&& 31)) (clrJ ((finL s g nd bf j k).2.2) 6) (cN (g (18 + j))))))
def finAllM (s g nd bf : Nat → Int32) (j : Nat) : Int32 × (Nat → Int32) × (Nat → Int32) × (Nat → Int32) := ((finL s g nd bf j (cN (g (18 + j)))).1, (looksM s g bf), ((finL s g nd bf j (cN (g (18 + j)))).2.2), (looksM s g bf))
theorem finL_off (s g nd bf : Nat → Int32) (j : Nat) {q : Nat} (h : 12 ≤ q) : ∀ k, (finL s g nd bf j k).2.1 q = g q
  | 0 => rfl
  | k + 1 => by
    have h0 := finL_off s g nd bf j h k
    simp only [finL]
    repeat' split
    all_goals first | exact h0 | exact (getsM_hi h _ (by omega)).trans h0
def couldM (s g nd bf : Nat → Int32) (lf : Int32) : Int32 × (Nat → Int32) × (Nat → Int32) × (Nat → Int32) × (Nat → Int32) := if inB lf 0 (g 0 - 1) then ((((finAllM s g nd bf (cN lf)).1), (upd s 14 0), ((finAllM s g nd bf (cN lf)).2.1), ((finAllM s g nd bf (cN lf)).2.2.1), ((finAllM s g nd bf (cN lf)).2.2.2))) else ((0, (upd s 14 1), g, nd, bf))
def meanM (s g : Nat → Int32) : UInt64 × (Nat → Int32) := if (g 0) = 0 then ((FP.dconst0, (upd s 14 1))) else ((FP.ddiv (FP.i2d (sumaM (upd s 14 0) g 18 8)) (FP.i2d (g 0)), (upd s 14 0)))
def shareL (s g : Nat → Int32) : Nat → Int32 × Int32
  | 0 => (0, 0)
  | k + 1 => if (g (42 + k)) = 0 then (((((shareL s g k).1) + 0), (((shareL s g k).2) + (bitsJ (g (50 + k)) 8)))) else (((((shareL s g k).1) + (g (18 + k))), (((shareL s g k).2) + (bitsJ (g (50 + k)) 8))))
def shareM (s g : Nat → Int32) : UInt32 × (Nat → Int32) := if ((shareL s g (cN (g 0))).1) = 0 then ((FP.fconst0, (upd s 14 1))) else ((FP.fdiv (FP.i2f ((shareL s g (cN (g 0))).2)) (FP.i2f ((shareL s g (cN (g 0))).1)), (upd s 14 0)))
def bcL (s g : Nat → Int32) (j : Nat) : Nat → Nat
  | 0 => 0
  | q + 1 => if betM s g (q + 1) (bcL s g j q) j = 0 then bcL s g j q else q + 1
theorem bcL_le {s g : Nat → Int32} {j : Nat} : ∀ q, bcL s g j q ≤ q
  | 0 => Nat.le_refl _
  | q + 1 => by
    rw [bcL]
    split
    · exact Nat.le_succ_of_le (bcL_le q)
    · exact Nat.le_refl _
def bcouM (s g : Nat → Int32) (lf : Int32) : Int32 × (Nat → Int32) := if inB lf 0 (g 0 - 1) then (if (g 1) = 0 then ((0, (upd s 14 2))) else (((nI (bcL s g (cN lf) ((cN (g 1)) - 1))), (upd s 14 0)))) else ((0, (upd s 14 1)))
/-! ===== printed by program (wip/whole/gen): the reference reads its text ===== -/
/-- where the reader stands, how long the text is -/
def PK (s : Nat → Int32) (b : Nat) : Prop := okN (s 7) 60 ∧ okN (s 16) b
theorem PK_le {s : Nat → Int32} {a b : Nat} (h : PK s a) (hb : a ≤ b) : PK s b := ⟨h.1, okN_le h.2 hb⟩
theorem PK_16 {s : Nat → Int32} {b : Nat} (h : PK s b) (hb : b < 10000) : PK (upd s 16 (s 16 + 1)) (b + 1) := ⟨h.1, okN_1 h.2 (by omega)⟩
theorem PK_17 {s : Nat → Int32} {b : Nat} {x : Int32} (h : PK s b) : PK (upd s 17 x) b := h
theorem okN_p0 {x : Int32} {b : Nat} (h : okN x b) : okN (x + 0) (b + 1) := by rw [Int32.add_zero]; exact okN_le h (by omega)
def hereM (s g ip : Nat → Int32) : Int32 := if (s 7) ≤ (s 16) then ((-1)) else (ip (cN (s 16)))
def needsM (s g ip : Nat → Int32) (c : Int32) : (Nat → Int32) := if (s 17) = 0 then (if (hereM s g ip) = c then ((upd (upd s 17 0) 16 ((s 16) + 1))) else ((upd (upd s 17 1) 16 ((s 16) + 0)))) else ((upd (upd s 17 1) 16 ((s 16) + 0)))
theorem needsM_pk {s g ip : Nat → Int32} {c : Int32} {b : Nat} (h : PK s b) (hb : b < 10000) : PK (needsM s g ip c) (b + 1) := by
  unfold needsM
  (repeat' split) <;> first | exact ⟨h.1, okN_1 h.2 (by omega)⟩ | exact ⟨h.1, okN_p0 h.2⟩
def figM (s g ip : Nat → Int32) : Int32 × (Nat → Int32) := if (s 17) = 0 then (if inB (hereM s g ip) 48 57 then (((hereM s g ip) - 48, (upd (upd s 17 0) 16 ((s 16) + 1)))) else ((0, (upd (upd s 17 1) 16 ((s 16) + 0))))) else ((0, (upd (upd s 17 1) 16 ((s 16) + 0))))
theorem figM_pk {s g ip : Nat → Int32} {b : Nat} (h : PK s b) (hb : b < 10000) : PK (figM s g ip).2 (b + 1) := by
  unfold figM
  (repeat' split) <;> first | exact ⟨h.1, okN_1 h.2 (by omega)⟩ | exact ⟨h.1, okN_p0 h.2⟩
def appM (s g ip : Nat → Int32) (ch : Int32) : Int32 × (Nat → Int32) × (Nat → Int32) := if (s 7) = 60 then ((0, (upd s 14 1), ip)) else ((((s 7) + 1), (upd (upd s 7 ((s 7) + 1)) 14 0), (upd ip (cN (s 7)) ch)))
def tonL (g ip : Nat → Int32) (le : Int32) (set : Int32) (s : Nat → Int32) (many : Nat) : Nat → Int32 × (Nat → Int32)
  | 0 => (set, s)
  | n + 1 => if s 17 = 0 then (if nI many < le ∨ inB (hereM s g ip) 48 57 then tonL g ip le (set ||| (1 <<< ((figM s g ip).1 &&& 31))) (figM s g ip).2 (many + 1) n else (set, s)) else (set, s)
def tonM (s g ip : Nat → Int32) (le : Int32) : Int32 × (Nat → Int32) := tonL g ip le 0 s 0 5
theorem tonL_pk {g ip : Nat → Int32} {le : Int32} : ∀ (n many : Nat) (set : Int32) (s : Nat → Int32) (b : Nat), PK s b → b + n < 10000 → PK (tonL g ip le set s many n).2 (b + n)
  | 0, _, _, _, _, h, _ => h
  | n + 1, many, set, s, b, h, hb => by
    rw [tonL]
    split
    · split
      · have := tonL_pk (g := g) (ip := ip) (le := le) n (many + 1) (set ||| (1 <<< ((figM s g ip).1 &&& 31))) (figM s g ip).2 (b + 1) (figM_pk h (by omega)) (by omega)
        rw [show b + (n + 1) = b + 1 + n by omega]
        exact this
      · exact PK_le h (by omega)
    · exact PK_le h (by omega)
theorem tonM_pk {s g ip : Nat → Int32} {le : Int32} {b : Nat} (h : PK s b) (hb : b < 9000) : PK (tonM s g ip le).2 (b + 5) := tonL_pk 5 0 0 s b h (by omega)
def pairM (s g ip td : Nat → Int32) (k : Nat) (sg : Int32) : (Nat → Int32) × (Nat → Int32) := (((figM (needsM ((figM s g ip).2) g ip sg) g ip).2), (upd (upd td (k + 1) ((figM s g ip).1)) (k + 2) ((figM (needsM ((figM s g ip).2) g ip sg) g ip).1)))
theorem pairM_pk {s g ip td : Nat → Int32} {k : Nat} {sg : Int32} {b : Nat} (h : PK s b) (hb : b < 9000) : PK (pairM s g ip td k sg).1 (b + 3) := figM_pk (needsM_pk (figM_pk h (by omega)) (by omega)) (by omega)
def ordM (s g ip td : Nat → Int32) (k : Nat) : (Nat → Int32) × (Nat → Int32) := if (hereM s g ip) = 83 then ((((tonM (needsM ((figM (needsM ((pairM (upd s 16 ((s 16) + 1)) g ip (upd td k (hereM s g ip)) k 58).1) g ip 42) g ip).2) g ip 61) g ip 1).2), (upd (upd ((pairM (upd s 16 ((s 16) + 1)) g ip (upd td k (hereM s g ip)) k 58).2) (k + 3) ((figM (needsM ((pairM (upd s 16 ((s 16) + 1)) g ip (upd td k (hereM s g ip)) k 58).1) g ip 42) g ip).1)) (k + 4) ((tonM (needsM ((figM (needsM ((pairM (upd s 16 ((s 16) + 1)) g ip (upd td k (hereM s g ip)) k 58).1) g ip 42) g ip).2) g ip 61) g ip 1).1)))) else (if (hereM s g ip) = 98 then ((((pairM (upd s 16 ((s 16) + 1)) g ip (upd td k (hereM s g ip)) k 62).1), ((pairM (upd s 16 ((s 16) + 1)) g ip (upd td k (hereM s g ip)) k 62).2))) else (if (hereM s g ip) = 99 then ((((tonM (needsM ((figM (upd s 16 ((s 16) + 1)) g ip).2) g ip 61) g ip 0).2), (upd (upd (upd td k (hereM s g ip)) (k + 1) ((figM (upd s 16 ((s 16) + 1)) g ip).1)) (k + 2) ((tonM (needsM ((figM (upd s 16 ((s 16) + 1)) g ip).2) g ip 61) g ip 0).1)))) else (if (hereM s g ip) = 100 then ((((pairM (upd s 16 ((s 16) + 1)) g ip (upd td k (hereM s g ip)) k 46).1), ((pairM (upd s 16 ((s 16) + 1)) g ip (upd td k (hereM s g ip)) k 46).2))) else (if (hereM s g ip) = 102 then ((((figM (upd s 16 ((s 16) + 1)) g ip).2), (upd (upd td k (hereM s g ip)) (k + 1) ((figM (upd s 16 ((s 16) + 1)) g ip).1)))) else (if (hereM s g ip) = 108 then ((((figM (upd s 16 ((s 16) + 1)) g ip).2), (upd (upd td k (hereM s g ip)) (k + 1) ((figM (upd s 16 ((s 16) + 1)) g ip).1)))) else (if (hereM s g ip) = 109 then ((((pairM (upd s 16 ((s 16) + 1)) g ip (upd td k (hereM s g ip)) k 64).1), ((pairM (upd s 16 ((s 16) + 1)) g ip (upd td k (hereM s g ip)) k 64).2))) else (if (hereM s g ip) = 115 then ((((tonM (needsM ((figM (needsM ((pairM (upd s 16 ((s 16) + 1)) g ip (upd td k (hereM s g ip)) k 58).1) g ip 42) g ip).2) g ip 61) g ip 1).2), (upd (upd ((pairM (upd s 16 ((s 16) + 1)) g ip (upd td k (hereM s g ip)) k 58).2) (k + 3) ((figM (needsM ((pairM (upd s 16 ((s 16) + 1)) g ip (upd td k (hereM s g ip)) k 58).1) g ip 42) g ip).1)) (k + 4) ((tonM (needsM ((figM (needsM ((pairM (upd s 16 ((s 16) + 1)) g ip (upd td k (hereM s g ip)) k 58).1) g ip 42) g ip).2) g ip 61) g ip 1).1)))) else (if (hereM s g ip) = 116 then ((((figM (upd s 16 ((s 16) + 1)) g ip).2), (upd (upd td k (hereM s g ip)) (k + 1) ((figM (upd s 16 ((s 16) + 1)) g ip).1)))) else (if (hereM s g ip) = 117 then ((((figM (upd s 16 ((s 16) + 1)) g ip).2), (upd (upd td k (hereM s g ip)) (k + 1) ((figM (upd s 16 ((s 16) + 1)) g ip).1)))) else (if (hereM s g ip) = 120 then ((((pairM (upd s 16 ((s 16) + 1)) g ip (upd td k (hereM s g ip)) k 42).1), ((pairM (upd s 16 ((s 16) + 1)) g ip (upd td k (hereM s g ip)) k 42).2))) else (if (hereM s g ip) = 121 then ((((pairM (upd s 16 ((s 16) + 1)) g ip (upd td k (hereM s g ip)) k 42).1), ((pairM (upd s 16 ((s 16) + 1)) g ip (upd td k (hereM s g ip)) k 42).2))) else (((upd (upd (upd s 16 ((s 16) + 1)) 17 1) 16 (((s 16) + 1) - 1)), (upd td k (hereM s g ip)))))))))))))))
/-! ===== printed by program (wip/whole/gen): the reference's order and lines ===== -/
theorem in_cL {m x : Int32} {c : Nat} (hx : x = nI c) (hc : c ≤ 1000) (h : inB m 0 (x - 1)) : ∃ j : Nat, j < c ∧ m = nI j := by
  subst hx
  obtain ⟨h0, h1⟩ := h
  obtain ⟨j, hj, rfl⟩ := nI_of h0
  refine ⟨j, ?_, rfl⟩
  rcases c with _ | c
  · exact absurd (show nI 0 - 1 < nI j by rw [i_lt, show (nI 0 - 1).toInt = -1 by decide, nI_toInt hj]; omega) h1
  · rw [nI_pred] at h1
    have := Nat.lt_of_not_le (fun z : c + 1 ≤ j => h1 ((nI_ltI (by omega) hj).mpr (by omega)))
    exact this
def keyV (g : Nat → Int32) (ms : Int32) (j : Nat) : Int32 := if ms = 0 then g (18 + j) else (if ms = 1 then g (26 + j) else (if ms = 2 then sumM g j (1 <<< (g (18 + j) &&& 31) - 1) (cN (g (18 + j))) else bitsJ (g (50 + j)) 8))
theorem keyM_v {s g nd : Nat → Int32} {ms : Int32} {j : Nat} : (keyM s g nd ms j).1 = keyV g ms j := by
  unfold keyM keyV
  (repeat' split) <;> rfl
/-- how many come before the leaflet q, of the first o -/
def cntL (g : Nat → Int32) (ms : Int32) (q : Nat) : Nat → Int32
  | 0 => 0
  | o + 1 => if 0 < keyV g ms o - keyV g ms q then cntL g ms q o + 1 else (if keyV g ms o - keyV g ms q = 0 then (if nI q ≤ nI o then cntL g ms q o + 0 else cntL g ms q o + 1) else cntL g ms q o + 0)
def rankF (g : Nat → Int32) (ms pl : Int32) (c : Nat) : Nat → Nat → Option Nat
  | 0, _ => none
  | n + 1, q => if cntL g ms q c = pl then some q else rankF g ms pl c n (q + 1)
def rankM (s g : Nat → Int32) (ms pl : Int32) : Int32 × (Nat → Int32) := if inB ms 0 3 then (match rankF g ms pl (cN (g 0)) (cN (g 0)) 0 with
  | some q => (nI q, upd s 14 0)
  | none => (0, upd s 14 2)) else (0, upd s 14 1)
/-- a sign written behind the line -/
def wrM (P : (Nat → Int32) × (Nat → Int32)) (c9 : Int32) : (Nat → Int32) × (Nat → Int32) := (upd P.1 13 (P.1 13 + 1), upd P.2 (cN (P.1 13)) (chC c9))
theorem wrM_ok {P : (Nat → Int32) × (Nat → Int32)} {c9 : Int32} {b : Nat} (h : okN (P.1 13) b) (hb : b < 10000) : okN ((wrM P c9).1 13) (b + 1) := okN_1 (x := P.1 13) h (by omega)
def linL (s g lt : Nat → Int32) (lf : Int32) : Nat → (Nat → Int32) × (Nat → Int32)
  | 0 => ((upd s 13 0), lt)
  | k + 1 => if (nI k) ≤ 0 then (if (g (260 + 8 * (cN lf) + k)) = 1 then (if (((g (50 + (cN lf))) >>> ((nI k) &&& 31)) &&& 1) = 1 then (if (nI k) = ((openJ (g (18 + (cN lf))) (cN (g (26 + (cN lf))))) - 1) then (if ((g (18 + (cN lf))) - 1) ≤ (nI k) then ((wrM (wrM (wrM (wrM (wrM (linL s g lt (lf) k) (48 + (g (68 + 8 * (cN lf) + k)))) 42) (48 + (g (132 + 8 * (cN lf) + k)))) 43) 63)) else ((wrM (wrM (wrM (wrM (wrM (wrM (linL s g lt (lf) k) (48 + (g (68 + 8 * (cN lf) + k)))) 42) (48 + (g (132 + 8 * (cN lf) + k)))) 43) 63) 47))) else ((wrM (wrM (wrM (wrM (wrM (linL s g lt (lf) k) (48 + (g (68 + 8 * (cN lf) + k)))) 42) (48 + (g (132 + 8 * (cN lf) + k)))) 43) 63))) else (if (nI k) = ((openJ (g (18 + (cN lf))) (cN (g (26 + (cN lf))))) - 1) then (if ((g (18 + (cN lf))) - 1) ≤ (nI k) then ((wrM (wrM (wrM (wrM (linL s g lt (lf) k) (48 + (g (68 + 8 * (cN lf) + k)))) 42) (48 + (g (132 + 8 * (cN lf) + k)))) 43)) else ((wrM (wrM (wrM (wrM (wrM (linL s g lt (lf) k) (48 + (g (68 + 8 * (cN lf) + k)))) 42) (48 + (g (132 + 8 * (cN lf) + k)))) 43) 47))) else ((wrM (wrM (wrM (wrM (linL s g lt (lf) k) (48 + (g (68 + 8 * (cN lf) + k)))) 42) (48 + (g (132 + 8 * (cN lf) + k)))) 43)))) else (if (((g (50 + (cN lf))) >>> ((nI k) &&& 31)) &&& 1) = 1 then (if (nI k) = ((openJ (g (18 + (cN lf))) (cN (g (26 + (cN lf))))) - 1) then (if ((g (18 + (cN lf))) - 1) ≤ (nI k) then ((wrM (wrM (wrM (wrM (linL s g lt (lf) k) (48 + (g (68 + 8 * (cN lf) + k)))) 42) (48 + (g (132 + 8 * (cN lf) + k)))) 63)) else ((wrM (wrM (wrM (wrM (wrM (linL s g lt (lf) k) (48 + (g (68 + 8 * (cN lf) + k)))) 42) (48 + (g (132 + 8 * (cN lf) + k)))) 63) 47))) else ((wrM (wrM (wrM (wrM (linL s g lt (lf) k) (48 + (g (68 + 8 * (cN lf) + k)))) 42) (48 + (g (132 + 8 * (cN lf) + k)))) 63))) else (if (nI k) = ((openJ (g (18 + (cN lf))) (cN (g (26 + (cN lf))))) - 1) then (if ((g (18 + (cN lf))) - 1) ≤ (nI k) then ((wrM (wrM (wrM (linL s g lt (lf) k) (48 + (g (68 + 8 * (cN lf) + k)))) 42) (48 + (g (132 + 8 * (cN lf) + k))))) else ((wrM (wrM (wrM (wrM (linL s g lt (lf) k) (48 + (g (68 + 8 * (cN lf) + k)))) 42) (48 + (g (132 + 8 * (cN lf) + k)))) 47))) else ((wrM (wrM (wrM (linL s g lt (lf) k) (48 + (g (68 + 8 * (cN lf) + k)))) 42) (48 + (g (132 + 8 * (cN lf) + k)))))))) else (if (g (260 + 8 * (cN lf) + k)) = 1 then (if (((g (50 + (cN lf))) >>> ((nI k) &&& 31)) &&& 1) = 1 then (if (nI k) = ((openJ (g (18 + (cN lf))) (cN (g (26 + (cN lf))))) - 1) then (if ((g (18 + (cN lf))) - 1) ≤ (nI k) then ((wrM (wrM (wrM (wrM (wrM (wrM (linL s g lt (lf) k) 32) (48 + (g (68 + 8 * (cN lf) + k)))) 42) (48 + (g (132 + 8 * (cN lf) + k)))) 43) 63)) else ((wrM (wrM (wrM (wrM (wrM (wrM (wrM (linL s g lt (lf) k) 32) (48 + (g (68 + 8 * (cN lf) + k)))) 42) (48 + (g (132 + 8 * (cN lf) + k)))) 43) 63) 47))) else ((wrM (wrM (wrM (wrM (wrM (wrM (linL s g lt (lf) k) 32) (48 + (g (68 + 8 * (cN lf) + k)))) 42) (48 + (g (132 + 8 * (cN lf) + k)))) 43) 63))) else (if (nI k) = ((openJ (g (18 + (cN lf))) (cN (g (26 + (cN lf))))) - 1) then (if ((g (18 + (cN lf))) - 1) ≤ (nI k) then ((wrM (wrM (wrM (wrM (wrM (linL s g lt (lf) k) 32) (48 + (g (68 + 8 * (cN lf) + k)))) 42) (48 + (g (132 + 8 * (cN lf) + k)))) 43)) else ((wrM (wrM (wrM (wrM (wrM (wrM (linL s g lt (lf) k) 32) (48 + (g (68 + 8 * (cN lf) + k)))) 42) (48 + (g (132 + 8 * (cN lf) + k)))) 43) 47))) else ((wrM (wrM (wrM (wrM (wrM (linL s g lt (lf) k) 32) (48 + (g (68 + 8 * (cN lf) + k)))) 42) (48 + (g (132 + 8 * (cN lf) + k)))) 43)))) else (if (((g (50 + (cN lf))) >>> ((nI k) &&& 31)) &&& 1) = 1 then (if (nI k) = ((openJ (g (18 + (cN lf))) (cN (g (26 + (cN lf))))) - 1) then (if ((g (18 + (cN lf))) - 1) ≤ (nI k) then ((wrM (wrM (wrM (wrM (wrM (linL s g lt (lf) k) 32) (48 + (g (68 + 8 * (cN lf) + k)))) 42) (48 + (g (132 + 8 * (cN lf) + k)))) 63)) else ((wrM (wrM (wrM (wrM (wrM (wrM (linL s g lt (lf) k) 32) (48 + (g (68 + 8 * (cN lf) + k)))) 42) (48 + (g (132 + 8 * (cN lf) + k)))) 63) 47))) else ((wrM (wrM (wrM (wrM (wrM (linL s g lt (lf) k) 32) (48 + (g (68 + 8 * (cN lf) + k)))) 42) (48 + (g (132 + 8 * (cN lf) + k)))) 63))) else (if (nI k) = ((openJ (g (18 + (cN lf))) (cN (g (26 + (cN lf))))) - 1) then (if ((g (18 + (cN lf))) - 1) ≤ (nI k) then ((wrM (wrM (wrM (wrM (linL s g lt (lf) k) 32) (48 + (g (68 + 8 * (cN lf) + k)))) 42) (48 + (g (132 + 8 * (cN lf) + k))))) else ((wrM (wrM (wrM (wrM (wrM (linL s g lt (lf) k) 32) (48 + (g (68 + 8 * (cN lf) + k)))) 42) (48 + (g (132 + 8 * (cN lf) + k)))) 47))) else ((wrM (wrM (wrM (wrM (linL s g lt (lf) k) 32) (48 + (g (68 + 8 * (cN lf) + k)))) 42) (48 + (g (132 + 8 * (cN lf) + k))))))))
def lineM (s g lt : Nat → Int32) (lf : Int32) : Int32 × (Nat → Int32) × (Nat → Int32) := if inB lf 0 (g 0 - 1) then ((((linL s g lt (lf) (cN (g (18 + (cN lf))))).1 13), (upd ((linL s g lt (lf) (cN (g (18 + (cN lf))))).1) 14 0), ((linL s g lt (lf) (cN (g (18 + (cN lf))))).2))) else ((0, (upd s 14 1), lt))
theorem linL_ok (s g lt : Nat → Int32) (lf : Int32) : ∀ k, k < 100 → okN ((linL s g lt lf k).1 13) (7 * k)
  | 0, _ => okN_0
  | k + 1, hk => by
    have h0 := linL_ok s g lt lf k (by omega)
    unfold linL
    repeat' split
    all_goals first
      | exact okN_le (wrM_ok (wrM_ok (wrM_ok h0 (by omega)) (by omega)) (by omega)) (by omega)
      | exact okN_le (wrM_ok (wrM_ok (wrM_ok (wrM_ok h0 (by omega)) (by omega)) (by omega)) (by omega)) (by omega)
      | exact okN_le (wrM_ok (wrM_ok (wrM_ok (wrM_ok (wrM_ok h0 (by omega)) (by omega)) (by omega)) (by omega)) (by omega)) (by omega)
      | exact okN_le (wrM_ok (wrM_ok (wrM_ok (wrM_ok (wrM_ok (wrM_ok h0 (by omega)) (by omega)) (by omega)) (by omega)) (by omega)) (by omega)) (by omega)
      | exact okN_le (wrM_ok (wrM_ok (wrM_ok (wrM_ok (wrM_ok (wrM_ok (wrM_ok h0 (by omega)) (by omega)) (by omega)) (by omega)) (by omega)) (by omega)) (by omega)) (by omega)
def charM (s g lt : Nat → Int32) (ix : Int32) : Int32 × (Nat → Int32) := if inB ix 0 ((s 13) - 1) then ((lt (cN ix), (upd s 14 0))) else ((0, (upd s 14 1)))
/-! ===== what the reference's reading and its orders leave true ===== -/
theorem figM_3 {s g ip : Nat → Int32} : (figM s g ip).2 3 = s 3 := by
  unfold figM
  (repeat' split) <;> rfl
theorem needsM_3 {s g ip : Nat → Int32} {c : Int32} : needsM s g ip c 3 = s 3 := by
  unfold needsM
  (repeat' split) <;> rfl
theorem tonL_3 {g ip : Nat → Int32} {le : Int32} : ∀ (n many : Nat) (set : Int32) (s : Nat → Int32), (tonL g ip le set s many n).2 3 = s 3
  | 0, _, _, _ => rfl
  | n + 1, many, set, s => by
    rw [tonL]
    split
    · split
      · rw [tonL_3 n]; exact figM_3
      · rfl
    · rfl
theorem tonM_3 {s g ip : Nat → Int32} {le : Int32} : (tonM s g ip le).2 3 = s 3 := tonL_3 5 0 0 s
theorem pairM_3 {s g ip td : Nat → Int32} {k : Nat} {sg : Int32} : (pairM s g ip td k sg).1 3 = s 3 := by
  show (figM _ g ip).2 3 = s 3
  rw [figM_3, needsM_3, figM_3]
theorem ord_if {α β : Type} {M : α → Prop} {p : Prop} [Decidable p] {x y : α × β} (h1 : p → M x.1) (h2 : ¬ p → M y.1) : M (if p then x else y).1 := by
  by_cases h : p
  · rw [if_pos h]; exact h1 h
  · rw [if_neg h]; exact h2 h
theorem ordM_ind {s g ip td : Nat → Int32} {k : Nat} {M : (Nat → Int32) → Prop}
    (h1 : ∀ a td1 b c d e f : Nat → Int32, a = upd s 16 (s 16 + 1) → b = (pairM a g ip td1 k 58).1 → c = needsM b g ip 42 → d = (figM c g ip).2 → e = needsM d g ip 61 → f = (tonM e g ip 1).2 → M f)
    (h2 : ∀ (a td1 b : Nat → Int32) (sg : Int32), a = upd s 16 (s 16 + 1) → b = (pairM a g ip td1 k sg).1 → M b)
    (h3 : ∀ a d e f : Nat → Int32, a = upd s 16 (s 16 + 1) → d = (figM a g ip).2 → e = needsM d g ip 61 → f = (tonM e g ip 0).2 → M f)
    (h4 : ∀ a d : Nat → Int32, a = upd s 16 (s 16 + 1) → d = (figM a g ip).2 → M d)
    (h5 : ∀ a b : Nat → Int32, a = upd s 16 (s 16 + 1) → b = upd (upd a 17 1) 16 (s 16 + 1 - 1) → M b) : M (ordM s g ip td k).1 := by
  have k1 := h1 (upd s 16 (s 16 + 1)) (upd td k (hereM s g ip)) _ _ _ _ _ rfl rfl rfl rfl rfl rfl
  unfold ordM
  refine ord_if (fun _ => by dsimp only; exact k1) (fun _ => ?_)
  refine ord_if (fun _ => h2 (upd s 16 (s 16 + 1)) (upd td k (hereM s g ip)) _ _ rfl rfl) (fun _ => ?_)
  refine ord_if (fun _ => h3 (upd s 16 (s 16 + 1)) _ _ _ rfl rfl rfl rfl) (fun _ => ?_)
  refine ord_if (fun _ => h2 (upd s 16 (s 16 + 1)) (upd td k (hereM s g ip)) _ _ rfl rfl) (fun _ => ?_)
  refine ord_if (fun _ => h4 (upd s 16 (s 16 + 1)) _ rfl rfl) (fun _ => ?_)
  refine ord_if (fun _ => h4 (upd s 16 (s 16 + 1)) _ rfl rfl) (fun _ => ?_)
  refine ord_if (fun _ => h2 (upd s 16 (s 16 + 1)) (upd td k (hereM s g ip)) _ _ rfl rfl) (fun _ => ?_)
  refine ord_if (fun _ => by dsimp only; exact k1) (fun _ => ?_)
  refine ord_if (fun _ => h4 (upd s 16 (s 16 + 1)) _ rfl rfl) (fun _ => ?_)
  refine ord_if (fun _ => h4 (upd s 16 (s 16 + 1)) _ rfl rfl) (fun _ => ?_)
  refine ord_if (fun _ => h2 (upd s 16 (s 16 + 1)) (upd td k (hereM s g ip)) _ _ rfl rfl) (fun _ => ?_)
  refine ord_if (fun _ => h2 (upd s 16 (s 16 + 1)) (upd td k (hereM s g ip)) _ _ rfl rfl) (fun _ => ?_)
  exact h5 (upd s 16 (s 16 + 1)) _ rfl rfl
theorem ordM_3 {s g ip td : Nat → Int32} {k : Nat} : (ordM s g ip td k).1 3 = s 3 := by
  refine ordM_ind (M := fun x => x 3 = s 3) (fun a td1 b c d e f ha hb1 hc1 hd1 he1 hf1 => ?_) (fun a td1 b sg ha hb1 => ?_) (fun a d e f ha hd1 he1 hf1 => ?_) (fun a d ha hd1 => ?_) (fun a b ha hb1 => ?_)
  · rw [hf1, tonM_3, he1, needsM_3, hd1, figM_3, hc1, needsM_3, hb1, pairM_3, ha]; rfl
  · rw [hb1, pairM_3, ha]; rfl
  · rw [hf1, tonM_3, he1, needsM_3, hd1, figM_3, ha]; rfl
  · rw [hd1, figM_3, ha]; rfl
  · rw [hb1, ha]; rfl
theorem ordM_pk {s g ip td : Nat → Int32} {k b : Nat} (h : PK s b) (hb : b < 8000) : PK (ordM s g ip td k).1 (b + 20) := by
  have h0 : ∀ a : Nat → Int32, a = upd s 16 (s 16 + 1) → PK a (b + 1) := fun a ha => by rw [ha]; exact PK_16 h (by omega)
  refine ordM_ind (M := fun x => PK x (b + 20)) (fun a td1 b1 c d e f ha hb1 hc1 hd1 he1 hf1 => ?_) (fun a td1 b1 sg ha hb1 => ?_) (fun a d e f ha hd1 he1 hf1 => ?_) (fun a d ha hd1 => ?_) (fun a b1 ha hb1 => ?_)
  · have e1 : PK b1 (b + 4) := by rw [hb1]; exact pairM_pk (h0 a ha) (by omega)
    have e2 : PK c (b + 5) := by rw [hc1]; exact needsM_pk e1 (by omega)
    have e3 : PK d (b + 6) := by rw [hd1]; exact figM_pk e2 (by omega)
    have e4 : PK e (b + 7) := by rw [he1]; exact needsM_pk e3 (by omega)
    have e5 : PK f (b + 12) := by rw [hf1]; exact tonM_pk e4 (by omega)
    exact PK_le e5 (by omega)
  · have e1 : PK b1 (b + 4) := by rw [hb1]; exact pairM_pk (h0 a ha) (by omega)
    exact PK_le e1 (by omega)
  · have e3 : PK d (b + 2) := by rw [hd1]; exact figM_pk (h0 a ha) (by omega)
    have e4 : PK e (b + 3) := by rw [he1]; exact needsM_pk e3 (by omega)
    have e5 : PK f (b + 8) := by rw [hf1]; exact tonM_pk e4 (by omega)
    exact PK_le e5 (by omega)
  · have e3 : PK d (b + 2) := by rw [hd1]; exact figM_pk (h0 a ha) (by omega)
    exact PK_le e3 (by omega)
  · rw [hb1]
    refine ⟨(h0 a ha).1, ?_⟩
    show okN (s 16 + 1 - 1) _
    rw [Int32.add_sub_cancel]; exact okN_le h.2 (by omega)
theorem p1_2 (x : Int32) : x + 1 + 1 = x + nI 2 := by rw [Int32.add_assoc]; rfl
theorem p1_4 (x : Int32) : x + 1 + 1 + 1 + 1 = x + nI 4 := by simp only [Int32.add_assoc]; rfl
theorem p1_3j (x : Int32) (j : Nat) : x + 1 + 1 + 1 + nI j = x + nI (3 + j) := by rw [← nI_add, show nI 3 = 1 + 1 + 1 from rfl]; simp only [Int32.add_assoc]
theorem p1_7j (x : Int32) (j : Nat) : x + 1 + 1 + 1 + 1 + 1 + 1 + 1 + nI j = x + nI (7 + j) := by rw [← nI_add, show nI 7 = 1 + 1 + 1 + 1 + 1 + 1 + 1 from rfl]; simp only [Int32.add_assoc]
/-- how far a piece reads when nothing is wrong -/
theorem figM_go {s g ip : Nat → Int32} (h : (figM s g ip).2 17 = 0) : s 17 = 0 ∧ (figM s g ip).2 16 = s 16 + 1 := by
  unfold figM at h ⊢
  by_cases h1 : s 17 = 0
  · rw [if_pos h1] at h ⊢
    by_cases h2 : inB (hereM s g ip) 48 57
    · rw [if_pos h2]; exact ⟨h1, rfl⟩
    · rw [if_neg h2] at h; exact absurd h (show ¬ (1 : Int32) = 0 by decide)
  · rw [if_neg h1] at h; exact absurd h (show ¬ (1 : Int32) = 0 by decide)
theorem needsM_go {s g ip : Nat → Int32} {c : Int32} (h : needsM s g ip c 17 = 0) : s 17 = 0 ∧ needsM s g ip c 16 = s 16 + 1 := by
  unfold needsM at h ⊢
  by_cases h1 : s 17 = 0
  · rw [if_pos h1] at h ⊢
    by_cases h2 : hereM s g ip = c
    · rw [if_pos h2]; exact ⟨h1, rfl⟩
    · rw [if_neg h2] at h; exact absurd h (show ¬ (1 : Int32) = 0 by decide)
  · rw [if_neg h1] at h; exact absurd h (show ¬ (1 : Int32) = 0 by decide)
theorem tonL_go {g ip : Nat → Int32} {le : Int32} : ∀ (n many : Nat) (set : Int32) (s : Nat → Int32), (tonL g ip le set s many n).2 17 = 0 → s 17 = 0 ∧ ∃ j : Nat, j ≤ n ∧ (tonL g ip le set s many n).2 16 = s 16 + nI j
  | 0, _, _, s, h => ⟨h, 0, Nat.le_refl _, (Int32.add_zero _).symm⟩
  | n + 1, many, set, s, h => by
    rw [tonL] at h ⊢
    by_cases h1 : s 17 = 0
    · rw [if_pos h1] at h ⊢
      by_cases h2 : nI many < le ∨ inB (hereM s g ip) 48 57
      · rw [if_pos h2] at h ⊢
        obtain ⟨a, j, hj, e⟩ := tonL_go n (many + 1) _ _ h
        obtain ⟨_, e2⟩ := figM_go a
        refine ⟨h1, j + 1, by omega, ?_⟩
        rw [e, e2, Int32.add_assoc, Int32.add_comm 1, nI_1]
      · rw [if_neg h2]; exact ⟨h1, 0, Nat.zero_le _, (Int32.add_zero _).symm⟩
    · rw [if_neg h1] at h; exact absurd h h1
theorem tonM_go {s g ip : Nat → Int32} {le : Int32} (h : (tonM s g ip le).2 17 = 0) : s 17 = 0 ∧ ∃ j : Nat, j ≤ 5 ∧ (tonM s g ip le).2 16 = s 16 + nI j := tonL_go 5 0 0 s h
theorem pairM_go {s g ip td : Nat → Int32} {k : Nat} {sg : Int32} (h : (pairM s g ip td k sg).1 17 = 0) : s 17 = 0 ∧ (pairM s g ip td k sg).1 16 = s 16 + 1 + 1 + 1 := by
  obtain ⟨a, e1⟩ := figM_go (s := needsM (figM s g ip).2 g ip sg) (g := g) (ip := ip) h
  obtain ⟨b, e2⟩ := needsM_go a
  obtain ⟨c, e3⟩ := figM_go b
  exact ⟨c, by show (figM _ g ip).2 16 = _; rw [e1, e2, e3]⟩
theorem ordM_go {s g ip td : Nat → Int32} {k : Nat} : (ordM s g ip td k).1 17 = 0 → ∃ j : Nat, 2 ≤ j ∧ j ≤ 20 ∧ (ordM s g ip td k).1 16 = s 16 + nI j := by
  have h0 : ∀ a : Nat → Int32, a = upd s 16 (s 16 + 1) → a 16 = s 16 + 1 := fun a ha => by rw [ha]; rfl
  refine ordM_ind (M := fun x => x 17 = 0 → ∃ j : Nat, 2 ≤ j ∧ j ≤ 20 ∧ x 16 = s 16 + nI j) (fun a td1 b c d e f ha hb1 hc1 hd1 he1 hf1 h => ?_) (fun a td1 b sg ha hb1 h => ?_) (fun a d e f ha hd1 he1 hf1 h => ?_) (fun a d ha hd1 h => ?_) (fun a b ha hb1 h => ?_)
  · rw [hf1] at h ⊢
    obtain ⟨a1, j, hj, e1⟩ := tonM_go h
    rw [he1] at a1
    obtain ⟨b1, e2⟩ := needsM_go a1
    rw [hd1] at b1
    obtain ⟨c1, e3⟩ := figM_go b1
    rw [hc1] at c1
    obtain ⟨d1, e4⟩ := needsM_go c1
    rw [hb1] at d1
    obtain ⟨_, e5⟩ := pairM_go d1
    refine ⟨7 + j, by omega, by omega, ?_⟩
    rw [e1, he1, e2, hd1, e3, hc1, e4, hb1, e5, h0 a ha, p1_7j]
  · rw [hb1] at h ⊢
    refine ⟨4, by omega, by omega, ?_⟩
    rw [(pairM_go h).2, h0 a ha, p1_4]
  · rw [hf1] at h ⊢
    obtain ⟨a1, j, hj, e1⟩ := tonM_go h
    rw [he1] at a1
    obtain ⟨b1, e2⟩ := needsM_go a1
    rw [hd1] at b1
    obtain ⟨c1, e3⟩ := figM_go b1
    refine ⟨3 + j, by omega, by omega, ?_⟩
    rw [e1, he1, e2, hd1, e3, h0 a ha, p1_3j]
  · rw [hd1] at h ⊢
    refine ⟨2, by omega, by omega, ?_⟩
    rw [(figM_go h).2, h0 a ha, p1_2]
  · rw [hb1] at h
    exact absurd h (show ¬ (1 : Int32) = 0 by decide)
theorem ordM_next {z g ip t : Nat → Int32} {k p : Nat} (hz : z 16 = nI p) (hp : p ≤ 60) (hk : PK z 60) (h17 : (ordM z g ip t k).1 17 = 0) (h59 : hereM (ordM z g ip t k).1 g ip = 59) : ∃ p2 : Nat, (ordM z g ip t k).1 16 = nI p2 ∧ p + 2 ≤ p2 ∧ p2 < 60 := by
  obtain ⟨j, h1, h2, e⟩ := ordM_go h17
  have e2 : (ordM z g ip t k).1 16 = nI (p + j) := by rw [e, hz, nI_add]
  refine ⟨p + j, e2, by omega, ?_⟩
  unfold hereM at h59
  by_cases hx : (ordM z g ip t k).1 7 ≤ (ordM z g ip t k).1 16
  · rw [if_pos hx] at h59; exact absurd h59 (by decide)
  · obtain ⟨ty, hty, e3, -⟩ := okN_of (ordM_pk (g := g) (ip := ip) (td := t) (k := k) hk (by omega)).1
    rw [e2, e3] at hx
    have := Nat.lt_of_not_le (fun z9 => hx ((nI_leI (a := ty) (b := p + j) (by omega) (by omega)).mpr z9))
    omega
/-! ===== what the reference's changes leave true ===== -/
abbrev M3 : Type := Int32 × (Nat → Int32) × (Nat → Int32)
abbrev M4 : Type := Int32 × (Nat → Int32) × (Nat → Int32) × (Nat → Int32)
theorem ite_M {α : Type} {M : α → Prop} {p : Prop} [Decidable p] {x y : α} (h1 : p → M x) (h2 : ¬ p → M y) : M (if p then x else y) := by
  by_cases h : p
  · rw [if_pos h]; exact h1 h
  · rw [if_neg h]; exact h2 h
/-- the rows behind the last leaflet are empty -/
def WFZ (g : Nat → Int32) : Prop := WFM g ∧ ∀ j : Nat, cN (g 0) ≤ j → j < 8 → g (18 + j) = 0 ∧ g (26 + j) = 0 ∧ g (42 + j) = 0 ∧ g (50 + j) = 0
theorem WFZ.eq {g h : Nat → Int32} (hz : WFZ g) (he : ∀ i : Nat, i = 0 ∨ i = 1 ∨ (18 ≤ i ∧ i < 34) ∨ (68 ≤ i ∧ i < 132) → h i = g i) (h2 : ∀ j : Nat, cN (g 0) ≤ j → j < 8 → h (42 + j) = 0 ∧ h (50 + j) = 0) : WFZ h := by
  have e0 := he 0 (by omega)
  obtain ⟨c, hc8, hc, hcc⟩ := okN_of hz.1.1
  refine ⟨⟨by rw [e0]; exact hz.1.1, by rw [he 1 (by omega)]; exact hz.1.2.1, fun j hj => ?_⟩, fun j hj hj8 => ?_⟩
  · rw [e0] at hj
    have h9 := hz.1.2.2 j hj
    have e1 := he (18 + j) (by omega)
    refine ⟨by rw [e1]; exact h9.1, by rw [he (26 + j) (by omega)]; exact h9.2.1, fun q hq => ?_⟩
    rw [e1] at hq
    have := h9.1.2
    rw [he (68 + 8 * j + q) (by omega)]
    exact h9.2.2 q hq
  · rw [e0] at hj
    have h9 := hz.2 j hj hj8
    exact ⟨by rw [he (18 + j) (by omega)]; exact h9.1, by rw [he (26 + j) (by omega)]; exact h9.2.1, h2 j hj hj8⟩
theorem WFZ.row {g : Nat → Int32} (hz : WFZ g) : ∃ c : Nat, c ≤ 8 ∧ g 0 = nI c ∧ cN (g 0) = c := okN_of hz.1.1
theorem laysM_wf {s g : Nat → Int32} {sh : Int32} (hz : WFZ g) : WFZ (laysM s g sh).2.2 := by
  obtain ⟨c, hc8, hc, hcc⟩ := hz.row
  unfold laysM
  refine ite_M (M := fun r : M3 => WFZ r.2.2) (fun _ => ?_) (fun _ => hz)
  refine ite_M (M := fun r : M3 => WFZ r.2.2) (fun _ => hz) (fun n8 => ?_)
  refine ite_M (M := fun r : M3 => WFZ r.2.2) (fun _ => hz) (fun _ => ?_)
  have hc7 : c < 8 := by rcases Nat.lt_or_ge c 8 with h9 | h9; exact h9; exact absurd (by rw [hc, show c = 8 by omega]; rfl) n8
  rw [hcc]
  show WFZ (upd (upd g (34 + c) sh) 0 (upd g (34 + c) sh 0 + 1))
  obtain ⟨h, hh⟩ : ∃ h, h = upd (upd g (34 + c) sh) 0 (upd g (34 + c) sh 0 + 1) := ⟨_, rfl⟩
  rw [← hh]
  have e0 : h 0 = nI (c + 1) := by rw [hh, upd_at, upd_off (by omega), hc, nI_1]
  have e0c : cN (h 0) = c + 1 := by rw [e0]; exact cN_nI (by omega)
  have ho : ∀ i : Nat, ¬ i = 0 → ¬ i = 34 + c → h i = g i := fun i h1 h2 => by rw [hh, upd_off h1, upd_off h2]
  refine ⟨⟨okN_mk e0 (by omega) (by omega), by rw [ho 1 (by omega) (by omega)]; exact hz.1.2.1, fun j hj => ?_⟩, fun j hj hj8 => ?_⟩
  · rw [e0c] at hj
    rw [ho (18 + j) (by omega) (by omega), ho (26 + j) (by omega) (by omega)]
    by_cases hjc : j < c
    · have h9 := hz.1.2.2 j (by rw [hcc]; exact hjc)
      refine ⟨h9.1, h9.2.1, fun q hq => ?_⟩
      have := h9.1.2
      rw [ho (68 + 8 * j + q) (by omega) (by omega)]
      exact h9.2.2 q hq
    · have h9 := hz.2 j (by rw [hcc]; omega) (by omega)
      rw [h9.1, h9.2.1]
      exact ⟨okN_le okN_0 (by omega), okN_le okN_0 (by omega), fun q hq => absurd hq (Nat.not_lt_zero _)⟩
  · rw [e0c] at hj
    have h9 := hz.2 j (by rw [hcc]; omega) hj8
    rw [ho (18 + j) (by omega) (by omega), ho (26 + j) (by omega) (by omega), ho (42 + j) (by omega) (by omega), ho (50 + j) (by omega) (by omega)]
    exact h9
theorem addsM_wf {s g : Nat → Int32} {lf kd ps la sd : Int32} (hz : WFZ g) : WFZ (addsM s g lf kd ps la sd).2.2 := by
  obtain ⟨c, hc8, hc, hcc⟩ := hz.row
  unfold addsM
  refine ite_M (M := fun r : M3 => WFZ r.2.2) (fun hl => ?_) (fun _ => hz)
  refine ite_M (M := fun r : M3 => WFZ r.2.2) (fun hkd => ?_) (fun _ => hz)
  refine ite_M (M := fun r : M3 => WFZ r.2.2) (fun _ => ?_) (fun _ => hz)
  refine ite_M (M := fun r : M3 => WFZ r.2.2) (fun _ => ?_) (fun _ => hz)
  refine ite_M (M := fun r : M3 => WFZ r.2.2) (fun _ => ?_) (fun _ => hz)
  refine ite_M (M := fun r : M3 => WFZ r.2.2) (fun _ => hz) (fun n8 => ?_)
  obtain ⟨j, hj2, rfl⟩ := in_c hc hc8 hl
  obtain ⟨kq, hk5, rfl⟩ := in_n (n := 5) (by decide) hkd
  rw [cN_nI (show j < 2 ^ 31 by omega)] at n8 ⊢
  obtain ⟨n, hn8, hn, hnn⟩ := okN_of (hz.1.2.2 j (by rw [hcc]; exact hj2)).1
  have hn7 : n < 8 := by rcases Nat.lt_or_ge n 8 with h9 | h9; exact h9; exact absurd (by rw [hn, show n = 8 by omega]; rfl) n8
  rw [hnn]
  dsimp only
  obtain ⟨h4, hh4⟩ : ∃ h, h = upd (upd (upd (upd g (68 + 8 * j + n) (nI kq)) (132 + 8 * j + n) ps) (196 + 8 * j + n) la) (260 + 8 * j + n) sd := ⟨_, rfl⟩
  rw [← hh4]
  have e4 : ∀ i : Nat, ¬ i = 68 + 8 * j + n → i < 132 → h4 i = g i := fun i h1 h2 => by rw [hh4, upd_off (by omega), upd_off (by omega), upd_off (by omega), upd_off h1]
  obtain ⟨h, hh⟩ : ∃ h, h = upd h4 (18 + j) (h4 (18 + j) + 1) := ⟨_, rfl⟩
  rw [← hh]
  have e5 : ∀ i : Nat, ¬ i = 18 + j → h i = h4 i := fun i h1 => by rw [hh, upd_off h1]
  have e18 : h (18 + j) = nI (n + 1) := by rw [hh, upd_at, e4 _ (by omega) (by omega), hn, nI_1]
  have e68 : h (68 + 8 * j + n) = nI kq := by rw [e5 _ (by omega), hh4, upd_off (by omega), upd_off (by omega), upd_off (by omega), upd_at]
  have e0 : h 0 = g 0 := by rw [e5 _ (by omega), e4 _ (by omega) (by omega)]
  refine ⟨⟨by rw [e0]; exact hz.1.1, by rw [e5 _ (by omega), e4 _ (by omega) (by omega)]; exact hz.1.2.1, fun i hi => ?_⟩, fun i hi hi8 => ?_⟩
  · rw [e0, hcc] at hi
    have h9 := hz.1.2.2 i (by rw [hcc]; exact hi)
    have h26 : h (26 + i) = g (26 + i) := by rw [e5 _ (by omega), e4 _ (by omega) (by omega)]
    rw [h26]
    by_cases hij : i = j
    · subst hij
      rw [e18]
      refine ⟨okN_mk rfl (by omega) (by omega), h9.2.1, fun q hq => ?_⟩
      rw [cN_nI (by omega)] at hq
      by_cases hqn : q = n
      · subst hqn; rw [e68]; exact okN_mk rfl hk5 (by decide)
      · rw [e5 _ (by omega), e4 _ (by omega) (by omega)]
        exact h9.2.2 q (by rw [hnn]; omega)
    · have h18 : h (18 + i) = g (18 + i) := by rw [e5 _ (by omega), e4 _ (by omega) (by omega)]
      rw [h18]
      refine ⟨h9.1, h9.2.1, fun q hq => ?_⟩
      have := h9.1.2
      rw [e5 _ (by omega), e4 _ (by omega) (by omega)]
      exact h9.2.2 q hq
  · rw [e0, hcc] at hi
    have h9 := hz.2 i (by rw [hcc]; exact hi) hi8
    rw [e5 _ (by omega), e4 _ (by omega) (by omega), e5 (26 + i) (by omega), e4 (26 + i) (by omega) (by omega), e5 (42 + i) (by omega), e4 (42 + i) (by omega) (by omega), e5 (50 + i) (by omega), e4 (50 + i) (by omega) (by omega)]
    exact h9
theorem foldsM_wf {s g : Nat → Int32} {lf b9 : Int32} (hz : WFZ g) : WFZ (foldsM s g lf b9).2.2 := by
  obtain ⟨c, hc8, hc, hcc⟩ := hz.row
  unfold foldsM
  refine ite_M (M := fun r : M3 => WFZ r.2.2) (fun hl => ?_) (fun _ => hz)
  refine ite_M (M := fun r : M3 => WFZ r.2.2) (fun _ => ?_) (fun _ => hz)
  refine ite_M (M := fun r : M3 => WFZ r.2.2) (fun hb => ?_) (fun _ => hz)
  obtain ⟨j, hj2, rfl⟩ := in_c hc hc8 hl
  rw [cN_nI (show j < 2 ^ 31 by omega)] at hb ⊢
  obtain ⟨f0, hf3, hfe⟩ := in_n (n := 3) (by decide) hb
  rw [hfe]
  show WFZ (upd g (26 + j) (nI f0))
  obtain ⟨h, hh⟩ : ∃ h, h = upd g (26 + j) (nI f0) := ⟨_, rfl⟩
  rw [← hh]
  have ho : ∀ i : Nat, ¬ i = 26 + j → h i = g i := fun i h1 => by rw [hh, upd_off h1]
  have e0 : h 0 = g 0 := ho _ (by omega)
  refine ⟨⟨by rw [e0]; exact hz.1.1, by rw [ho _ (by omega)]; exact hz.1.2.1, fun i hi => ?_⟩, fun i hi hi8 => ?_⟩
  · rw [e0, hcc] at hi
    have h9 := hz.1.2.2 i (by rw [hcc]; exact hi)
    rw [ho (18 + i) (by omega)]
    refine ⟨h9.1, ?_, fun q hq => ?_⟩
    · by_cases hij : i = j
      · subst hij; rw [hh, upd_at]; exact okN_mk rfl hf3 (by decide)
      · rw [ho _ (by omega)]; exact h9.2.1
    · have := h9.1.2
      rw [ho _ (by omega)]
      exact h9.2.2 q hq
  · rw [e0, hcc] at hi
    have h9 := hz.2 i (by rw [hcc]; exact hi) hi8
    rw [ho _ (by omega), ho (26 + i) (by omega), ho (42 + i) (by omega), ho (50 + i) (by omega)]
    exact h9
theorem comesM_wf {s g : Nat → Int32} {bo la : Int32} (hz : WFZ g) : WFZ (comesM s g bo la).2.2 := by
  obtain ⟨cc, hd5, hd, hdd⟩ := okN_of hz.1.2.1
  unfold comesM
  refine ite_M (M := fun r : M3 => WFZ r.2.2) (fun _ => ?_) (fun _ => hz)
  refine ite_M (M := fun r : M3 => WFZ r.2.2) (fun _ => ?_) (fun _ => hz)
  refine ite_M (M := fun r : M3 => WFZ r.2.2) (fun _ => hz) (fun n5 => ?_)
  have hd4 : cc < 5 := by rcases Nat.lt_or_ge cc 5 with h9 | h9; exact h9; exact absurd (by rw [hd, show cc = 5 by omega]; rfl) n5
  rw [hdd]
  dsimp only
  obtain ⟨h1, hh1⟩ : ∃ h, h = upd (upd g (58 + cc) bo) (63 + cc) la := ⟨_, rfl⟩
  rw [← hh1]
  have e1 : ∀ i : Nat, i < 58 ∨ 68 ≤ i → h1 i = g i := fun i hi => by rw [hh1, upd_off (by omega), upd_off (by omega)]
  obtain ⟨h, hh⟩ : ∃ h, h = upd h1 1 (h1 1 + 1) := ⟨_, rfl⟩
  rw [← hh]
  have ho : ∀ i : Nat, ¬ i = 1 → i < 58 ∨ 68 ≤ i → h i = g i := fun i h2 h3 => by rw [hh, upd_off h2, e1 i h3]
  have e0 : h 0 = g 0 := ho _ (by omega) (by omega)
  refine ⟨⟨by rw [e0]; exact hz.1.1, ?_, fun i hi => ?_⟩, fun i hi hi8 => ?_⟩
  · rw [hh, upd_at, e1 1 (by omega), hd, nI_1]; exact okN_mk rfl (by omega) (by decide)
  · rw [e0] at hi
    have h9 := hz.1.2.2 i hi
    have h8 := hz.1.1.2
    have h7 := h9.1.2
    rw [ho (18 + i) (by omega) (by omega), ho (26 + i) (by omega) (by omega)]
    exact ⟨h9.1, h9.2.1, fun q hq => by rw [ho (68 + 8 * i + q) (by omega) (by omega)]; exact h9.2.2 q hq⟩
  · rw [e0] at hi
    rw [ho (18 + i) (by omega) (by omega), ho (26 + i) (by omega) (by omega), ho (42 + i) (by omega) (by omega), ho (50 + i) (by omega) (by omega)]
    exact hz.2 i hi hi8
theorem learnsM_wf {s g : Nat → Int32} {co la : Int32} (hz : WFZ g) : WFZ (learnsM s g co la).2.2 := by
  obtain ⟨cc, hd5, hd, hdd⟩ := okN_of hz.1.2.1
  unfold learnsM
  refine ite_M (M := fun r : M3 => WFZ r.2.2) (fun hl => ?_) (fun _ => hz)
  refine ite_M (M := fun r : M3 => WFZ r.2.2) (fun _ => ?_) (fun _ => hz)
  refine ite_M (M := fun r : M3 => WFZ r.2.2) (fun _ => hz) (fun _ => ?_)
  obtain ⟨i, hi2, rfl⟩ := in_c hd (by omega) hl
  rw [cN_nI (show i < 2 ^ 31 by omega)]
  dsimp only
  exact hz.eq (fun q hq => upd_off (by omega)) (fun j h1 h2 => by rw [upd_off (by omega), upd_off (by omega)]; exact (hz.2 j h1 h2).2.2)
theorem movesM_wf {s g : Nat → Int32} {lf sh : Int32} (hz : WFZ g) : WFZ (movesM s g lf sh).2.2 := by
  obtain ⟨c, hc8, hc, hcc⟩ := hz.row
  unfold movesM
  refine ite_M (M := fun r : M3 => WFZ r.2.2) (fun hl => ?_) (fun _ => hz)
  refine ite_M (M := fun r : M3 => WFZ r.2.2) (fun _ => ?_) (fun _ => hz)
  refine ite_M (M := fun r : M3 => WFZ r.2.2) (fun _ => hz) (fun _ => ?_)
  refine ite_M (M := fun r : M3 => WFZ r.2.2) (fun _ => hz) (fun _ => ?_)
  obtain ⟨j, hj2, rfl⟩ := in_c hc hc8 hl
  rw [cN_nI (show j < 2 ^ 31 by omega)]
  dsimp only
  exact hz.eq (fun q hq => upd_off (by omega)) (fun j h1 h2 => by rw [upd_off (by omega), upd_off (by omega)]; exact (hz.2 j h1 h2).2.2)
theorem losesM_wf {s g : Nat → Int32} {kd ps : Int32} (hz : WFZ g) : WFZ (losesM s g kd ps).2.2 := by
  unfold losesM
  refine ite_M (M := fun r : M3 => WFZ r.2.2) (fun hl => ?_) (fun _ => hz)
  refine ite_M (M := fun r : M3 => WFZ r.2.2) (fun _ => ?_) (fun _ => hz)
  refine ite_M (M := fun r : M3 => WFZ r.2.2) (fun _ => ?_) (fun _ => hz)
  obtain ⟨j, hj2, rfl⟩ := in_n (n := 5) (by decide) hl
  rw [cN_nI (show j < 2 ^ 31 by omega)]
  dsimp only
  exact hz.eq (fun q hq => by rw [upd_off (by omega), upd_off (by omega)]) (fun i h1 h2 => by rw [upd_off (by omega), upd_off (by omega), upd_off (by omega), upd_off (by omega)]; exact (hz.2 i h1 h2).2.2)
theorem findsM_wf {s g : Nat → Int32} {kd ps : Int32} (hz : WFZ g) : WFZ (findsM s g kd ps).2.2 := by
  unfold findsM
  refine ite_M (M := fun r : M3 => WFZ r.2.2) (fun hl => ?_) (fun _ => hz)
  refine ite_M (M := fun r : M3 => WFZ r.2.2) (fun _ => ?_) (fun _ => hz)
  refine ite_M (M := fun r : M3 => WFZ r.2.2) (fun _ => ?_) (fun _ => hz)
  obtain ⟨j, hj2, rfl⟩ := in_n (n := 5) (by decide) hl
  rw [cN_nI (show j < 2 ^ 31 by omega)]
  dsimp only
  exact hz.eq (fun q hq => by rw [upd_off (by omega), upd_off (by omega)]) (fun i h1 h2 => by rw [upd_off (by omega), upd_off (by omega), upd_off (by omega), upd_off (by omega)]; exact (hz.2 i h1 h2).2.2)
theorem getsM_out {g nd : Nat → Int32} {t : Int32} {q : Nat} (h : q < 6 ∨ 12 ≤ q) : getsM g nd t 6 q = g q := by
  rcases h with h | h
  · exact getsM_lo h 6
  · exact getsM_hi h 6 (Nat.le_refl _)
theorem buildsM_wf {s g nd : Nat → Int32} {co lf : Int32} (hz : WFZ g) : WFZ (buildsM s g nd co lf).2.2.1 := by
  obtain ⟨c, hc8, hc, hcc⟩ := hz.row
  unfold buildsM
  refine ite_M (M := fun r : M4 => WFZ r.2.2.1) (fun _ => ?_) (fun _ => hz)
  refine ite_M (M := fun r : M4 => WFZ r.2.2.1) (fun hl => ?_) (fun _ => hz)
  refine ite_M (M := fun r : M4 => WFZ r.2.2.1) (fun _ => ?_) (fun _ => hz)
  obtain ⟨j, hj2, rfl⟩ := in_c hc hc8 hl
  rw [cN_nI (show j < 2 ^ 31 by omega)]
  dsimp only
  exact hz.eq (fun q hq => by rw [upd_off (by omega), upd_off (by omega), upd_off (by omega), upd_off (by omega), getsM_out (by omega)]) (fun i h1 h2 => by
    rw [hcc] at h1
    rw [upd_off (by omega), upd_off (by omega), upd_off (by omega), upd_off (by omega), getsM_out (by omega), upd_off (by omega), upd_off (by omega), upd_off (by omega), upd_off (by omega), getsM_out (by omega)]
    exact (hz.2 i (by rw [hcc]; exact h1) h2).2.2)
theorem finishesM_wf {s g nd : Nat → Int32} {lf sp : Int32} (hz : WFZ g) : WFZ (finishesM s g nd lf sp).2.2.1 := by
  obtain ⟨c, hc8, hc, hcc⟩ := hz.row
  unfold finishesM
  refine ite_M (M := fun r : M4 => WFZ r.2.2.1) (fun hl => ?_) (fun _ => hz)
  refine ite_M (M := fun r : M4 => WFZ r.2.2.1) (fun _ => hz) (fun _ => ?_)
  refine ite_M (M := fun r : M4 => WFZ r.2.2.1) (fun _ => ?_) (fun _ => hz)
  refine ite_M (M := fun r : M4 => WFZ r.2.2.1) (fun _ => hz) (fun _ => ?_)
  refine ite_M (M := fun r : M4 => WFZ r.2.2.1) (fun _ => ?_) (fun _ => hz)
  obtain ⟨j, hj2, rfl⟩ := in_c hc hc8 hl
  rw [cN_nI (show j < 2 ^ 31 by omega)]
  dsimp only
  exact hz.eq (fun q hq => by rw [upd_off (by omega), upd_off (by omega), getsM_out (by omega)]) (fun i h1 h2 => by
    rw [hcc] at h1
    rw [upd_off (by omega), upd_off (by omega), getsM_out (by omega), upd_off (by omega), upd_off (by omega), getsM_out (by omega)]
    exact (hz.2 i (by rw [hcc]; exact h1) h2).2.2)
theorem apartM_wf {s g nd : Nat → Int32} {lf : Int32} (hz : WFZ g) : WFZ (apartM s g nd lf).2.2.1 := by
  obtain ⟨c, hc8, hc, hcc⟩ := hz.row
  unfold apartM
  refine ite_M (M := fun r : M4 => WFZ r.2.2.1) (fun hl => ?_) (fun _ => hz)
  refine ite_M (M := fun r : M4 => WFZ r.2.2.1) (fun _ => hz) (fun _ => ?_)
  refine ite_M (M := fun r : M4 => WFZ r.2.2.1) (fun _ => ?_) (fun _ => hz)
  obtain ⟨j, hj2, rfl⟩ := in_c hc hc8 hl
  rw [cN_nI (show j < 2 ^ 31 by omega)]
  dsimp only
  exact hz.eq (fun q hq => by rw [upd_off (by omega), upd_off (by omega), upd_off (by omega), getsM_out (by omega)]) (fun i h1 h2 => by
    rw [hcc] at h1
    rw [upd_off (by omega), upd_off (by omega), upd_off (by omega), getsM_out (by omega), upd_off (by omega), upd_off (by omega), upd_off (by omega), getsM_out (by omega)]
    exact (hz.2 i (by rw [hcc]; exact h1) h2).2.2)
/-! ===== printed by program (wip/whole/gen): the reference's commands ===== -/
def doesM (s g nd td : Nat → Int32) (k : Nat) : Int32 × (Nat → Int32) × (Nat → Int32) × (Nat → Int32) := if (td k) = 83 then (((addsM s g (td (k + 1)) (td (k + 2)) (td (k + 3)) (td (k + 4)) 1).1, ((addsM s g (td (k + 1)) (td (k + 2)) (td (k + 3)) (td (k + 4)) 1).2.1), ((addsM s g (td (k + 1)) (td (k + 2)) (td (k + 3)) (td (k + 4)) 1).2.2), nd)) else (if (td k) = 98 then (((buildsM s g nd (td (k + 1)) (td (k + 2))).1, ((buildsM s g nd (td (k + 1)) (td (k + 2))).2.1), ((buildsM s g nd (td (k + 1)) (td (k + 2))).2.2.1), ((buildsM s g nd (td (k + 1)) (td (k + 2))).2.2.2))) else (if (td k) = 99 then (((comesM s g (td (k + 1)) (td (k + 2))).1, ((comesM s g (td (k + 1)) (td (k + 2))).2.1), ((comesM s g (td (k + 1)) (td (k + 2))).2.2), nd)) else (if (td k) = 100 then (((finishesM s g nd (td (k + 1)) (td (k + 2))).1, ((finishesM s g nd (td (k + 1)) (td (k + 2))).2.1), ((finishesM s g nd (td (k + 1)) (td (k + 2))).2.2.1), ((finishesM s g nd (td (k + 1)) (td (k + 2))).2.2.2))) else (if (td k) = 102 then (((foldsM s g (td (k + 1)) 1).1, ((foldsM s g (td (k + 1)) 1).2.1), ((foldsM s g (td (k + 1)) 1).2.2), nd)) else (if (td k) = 108 then (((laysM s g (td (k + 1))).1, ((laysM s g (td (k + 1))).2.1), ((laysM s g (td (k + 1))).2.2), nd)) else (if (td k) = 109 then (((movesM s g (td (k + 1)) (td (k + 2))).1, ((movesM s g (td (k + 1)) (td (k + 2))).2.1), ((movesM s g (td (k + 1)) (td (k + 2))).2.2), nd)) else (if (td k) = 115 then (((addsM s g (td (k + 1)) (td (k + 2)) (td (k + 3)) (td (k + 4)) 0).1, ((addsM s g (td (k + 1)) (td (k + 2)) (td (k + 3)) (td (k + 4)) 0).2.1), ((addsM s g (td (k + 1)) (td (k + 2)) (td (k + 3)) (td (k + 4)) 0).2.2), nd)) else (if (td k) = 116 then (((apartM s g nd (td (k + 1))).1, ((apartM s g nd (td (k + 1))).2.1), ((apartM s g nd (td (k + 1))).2.2.1), ((apartM s g nd (td (k + 1))).2.2.2))) else (if (td k) = 117 then (((foldsM s g (td (k + 1)) (-1)).1, ((foldsM s g (td (k + 1)) (-1)).2.1), ((foldsM s g (td (k + 1)) (-1)).2.2), nd)) else (if (td k) = 120 then (((losesM s g (td (k + 1)) (td (k + 2))).1, ((losesM s g (td (k + 1)) (td (k + 2))).2.1), ((losesM s g (td (k + 1)) (td (k + 2))).2.2), nd)) else (((findsM s g (td (k + 1)) (td (k + 2))).1, ((findsM s g (td (k + 1)) (td (k + 2))).2.1), ((findsM s g (td (k + 1)) (td (k + 2))).2.2), nd))))))))))))
theorem doesM_3 {s g nd td : Nat → Int32} {k : Nat} : (doesM s g nd td k).2.1 3 = s 3 := by
  unfold doesM
  refine ite_M (M := fun r : M4 => r.2.1 3 = s 3) (fun _ => by dsimp only; exact addsM_3) (fun _ => ?_)
  refine ite_M (M := fun r : M4 => r.2.1 3 = s 3) (fun _ => by dsimp only; exact buildsM_3) (fun _ => ?_)
  refine ite_M (M := fun r : M4 => r.2.1 3 = s 3) (fun _ => by dsimp only; exact comesM_3) (fun _ => ?_)
  refine ite_M (M := fun r : M4 => r.2.1 3 = s 3) (fun _ => by dsimp only; exact finishesM_3) (fun _ => ?_)
  refine ite_M (M := fun r : M4 => r.2.1 3 = s 3) (fun _ => by dsimp only; exact foldsM_3) (fun _ => ?_)
  refine ite_M (M := fun r : M4 => r.2.1 3 = s 3) (fun _ => by dsimp only; exact laysM_3) (fun _ => ?_)
  refine ite_M (M := fun r : M4 => r.2.1 3 = s 3) (fun _ => by dsimp only; exact movesM_3) (fun _ => ?_)
  refine ite_M (M := fun r : M4 => r.2.1 3 = s 3) (fun _ => by dsimp only; exact addsM_3) (fun _ => ?_)
  refine ite_M (M := fun r : M4 => r.2.1 3 = s 3) (fun _ => by dsimp only; exact apartM_3) (fun _ => ?_)
  refine ite_M (M := fun r : M4 => r.2.1 3 = s 3) (fun _ => by dsimp only; exact foldsM_3) (fun _ => ?_)
  refine ite_M (M := fun r : M4 => r.2.1 3 = s 3) (fun _ => by dsimp only; exact losesM_3) (fun _ => ?_)
  dsimp only; exact findsM_3
theorem doesM_wf {s g nd td : Nat → Int32} {k : Nat} (hz : WFZ g) : WFZ (doesM s g nd td k).2.2.1 := by
  unfold doesM
  refine ite_M (M := fun r : M4 => WFZ r.2.2.1) (fun _ => by dsimp only; exact addsM_wf hz) (fun _ => ?_)
  refine ite_M (M := fun r : M4 => WFZ r.2.2.1) (fun _ => by dsimp only; exact buildsM_wf hz) (fun _ => ?_)
  refine ite_M (M := fun r : M4 => WFZ r.2.2.1) (fun _ => by dsimp only; exact comesM_wf hz) (fun _ => ?_)
  refine ite_M (M := fun r : M4 => WFZ r.2.2.1) (fun _ => by dsimp only; exact finishesM_wf hz) (fun _ => ?_)
  refine ite_M (M := fun r : M4 => WFZ r.2.2.1) (fun _ => by dsimp only; exact foldsM_wf hz) (fun _ => ?_)
  refine ite_M (M := fun r : M4 => WFZ r.2.2.1) (fun _ => by dsimp only; exact laysM_wf hz) (fun _ => ?_)
  refine ite_M (M := fun r : M4 => WFZ r.2.2.1) (fun _ => by dsimp only; exact movesM_wf hz) (fun _ => ?_)
  refine ite_M (M := fun r : M4 => WFZ r.2.2.1) (fun _ => by dsimp only; exact addsM_wf hz) (fun _ => ?_)
  refine ite_M (M := fun r : M4 => WFZ r.2.2.1) (fun _ => by dsimp only; exact apartM_wf hz) (fun _ => ?_)
  refine ite_M (M := fun r : M4 => WFZ r.2.2.1) (fun _ => by dsimp only; exact foldsM_wf hz) (fun _ => ?_)
  refine ite_M (M := fun r : M4 => WFZ r.2.2.1) (fun _ => by dsimp only; exact losesM_wf hz) (fun _ => ?_)
  dsimp only; exact findsM_wf hz
/-- the orders read, from the n-th on, fu of them at most -/
def rdL (g ip : Nat → Int32) : Nat → (Nat → Int32) → (Nat → Int32) → Nat → (Nat → Int32) × (Nat → Int32) × Nat
  | 0, s, td, n => (s, td, n)
  | fu + 1, s, td, n =>
    if (ordM s g ip td (5 * n)).1 17 = 0 ∧ hereM (ordM s g ip td (5 * n)).1 g ip = 59 then rdL g ip fu (upd (ordM s g ip td (5 * n)).1 16 ((ordM s g ip td (5 * n)).1 16 + 1)) (ordM s g ip td (5 * n)).2 (n + 1)
    else (upd (ordM s g ip td (5 * n)).1 16 ((ordM s g ip td (5 * n)).1 16 + 0), (ordM s g ip td (5 * n)).2, n + 1)
abbrev DS : Type := (Nat → Int32) × (Nat → Int32) × (Nat → Int32)
/-- the orders done, from the k-th on, fu of them: the place behind the one that failed or 0, the answer, what is left -/
def doL (td : Nat → Int32) : Nat → Nat → DS → Nat × Int32 × DS
  | 0, _, z => (0, 0, z)
  | fu + 1, k, z => if (doesM z.1 z.2.1 z.2.2 td (5 * k)).2.1 14 = 0 then doL td fu (k + 1) (doesM z.1 z.2.1 z.2.2 td (5 * k)).2 else (k + 1, (doesM z.1 z.2.1 z.2.2 td (5 * k)).1, (doesM z.1 z.2.1 z.2.2 td (5 * k)).2)
/-- the change kept, or all as before: D tells how the orders went, n how many they are -/
def comK (g bf hs td : Nat → Int32) (n : Nat) (D : Nat × Int32 × DS) : Int32 × (Nat → Int32) × (Nat → Int32) × (Nat → Int32) × (Nat → Int32) × (Nat → Int32) × (Nat → Int32) :=
  if D.1 = 0 then ((keptM (upd D.2.2.1 14 0) D.2.2.2.1 g hs (nI n)).1, (keptM (upd D.2.2.1 14 0) D.2.2.2.1 g hs (nI n)).2.1, (keptM (upd D.2.2.1 14 0) D.2.2.2.1 g hs (nI n)).2.2.1, D.2.2.2.2, g, (keptM (upd D.2.2.1 14 0) D.2.2.2.1 g hs (nI n)).2.2.2, td)
  else ((keptM (upd (upd D.2.2.1 11 (nI (D.1 - 1))) 14 2) D.2.2.2.1 g hs D.2.1).1, (keptM (upd (upd D.2.2.1 11 (nI (D.1 - 1))) 14 2) D.2.2.2.1 g hs D.2.1).2.1, (keptM (upd (upd D.2.2.1 11 (nI (D.1 - 1))) 14 2) D.2.2.2.1 g hs D.2.1).2.2.1, D.2.2.2.2, g, (keptM (upd (upd D.2.2.1 11 (nI (D.1 - 1))) 14 2) D.2.2.2.1 g hs D.2.1).2.2.2, td)
def comM (s g nd bf hs ip td : Nat → Int32) : Int32 × (Nat → Int32) × (Nat → Int32) × (Nat → Int32) × (Nat → Int32) × (Nat → Int32) × (Nat → Int32) :=
  if ¬ (rdL g ip 21 (upd (upd s 16 0) 17 0) td 0).1 17 = 0 ∨ (rdL g ip 21 (upd (upd s 16 0) 17 0) td 0).1 16 < (rdL g ip 21 (upd (upd s 16 0) 17 0) td 0).1 7 then
    (0, upd (upd (upd (upd (rdL g ip 21 (upd (upd s 16 0) 17 0) td 0).1 17 1) 7 0) 8 ((rdL g ip 21 (upd (upd s 16 0) 17 0) td 0).1 16)) 14 1, g, nd, bf, hs, (rdL g ip 21 (upd (upd s 16 0) 17 0) td 0).2.1)
  else comK g bf hs (rdL g ip 21 (upd (upd s 16 0) 17 0) td 0).2.1 (rdL g ip 21 (upd (upd s 16 0) 17 0) td 0).2.2 (doL (rdL g ip 21 (upd (upd s 16 0) 17 0) td 0).2.1 (rdL g ip 21 (upd (upd s 16 0) 17 0) td 0).2.2 0 (upd (upd (upd (rdL g ip 21 (upd (upd s 16 0) 17 0) td 0).1 17 0) 7 0) 8 (-1), g, nd))
/-- the rows of a new object -/
def zR : Nat → Int32 := fun _ => 0
def sZ : Nat → Int32 := fun q => if q = 8 then -1 else 0
