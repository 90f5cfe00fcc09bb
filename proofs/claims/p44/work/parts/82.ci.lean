/-! ===== an object's picture by its six rows ===== -/
def CI (G : FG) (σ : Nat → Option va_E) (x : Nat) (S : StZ) : Prop := CInv G σ x S.1 S.2.1 S.2.2.1 S.2.2.2.1 S.2.2.2.2.1 S.2.2.2.2.2
/-- nothing but the object at x is other -/
abbrev FrX (x : Nat) (σ τ : Nat → Option va_E) : Prop := ∀ q, (q < x ∨ x + 614 ≤ q) → τ q = σ q
section CIZ
variable {G : FG} {σ τ ρ : Nat → Option va_E} {x y : Nat} {S : StZ}
theorem CI.fr (h : CI G σ x S) (e : ∀ q, x ≤ q → q < x + 614 → τ q = σ q) : CI G τ x S := CInv.fr h e
theorem CI.oth (h : CI G σ y S) (e : FrX x σ τ) (hd : x + 614 ≤ y ∨ y + 614 ≤ x) : CI G τ y S := h.fr (fun q h1 h2 => e q (by omega))
theorem CI.st (h : CI G σ x S) {s2 : PR} (e : ∀ q, q = 3 ∨ q = 5 ∨ (7 ≤ q ∧ q < 12) ∨ q = 13 → s2 q = S.1 q) : CI G σ x (s2, S.2) := CInv.st2 h e
theorem CI.ip (h : CI G σ x S) {n : Nat} (h7 : S.1 7 = nI n) (hn : n ≤ 60) {ip2 : PR} (e : ∀ i, i < n → ip2 i = S.2.2.2.2.1 i) : CI G σ x (S.1, S.2.1, S.2.2.1, S.2.2.2.1, ip2, S.2.2.2.2.2) := by
  obtain ⟨a1, a2, a3, a4, a5, ⟨f, tl, tp, cn, t1, t2, t3, t4, t5⟩, a7, a8, a9⟩ := h
  have e9 : tl = n := (nI_eq (by omega) (by omega)).mp (t2.symm.trans h7)
  subst e9
  exact ⟨a1, a2, a3, a4, a5, ⟨f, tl, tp, cn, t1, t2, fun i hi => (e i hi).trans (t3 i hi), t4, t5⟩, a7, a8, a9⟩
theorem CI.g (h : CI G σ x S) {g2 : PR} (e : Row9 g2 S.2.1) : CI G σ x (S.1, g2, S.2.2) := by
  obtain ⟨a1, ⟨v, b1, b2, b3⟩, a3⟩ := h
  exact ⟨a1, ⟨v, b1, e.tell b3 b2, e.wfg b3⟩, a3⟩
theorem CI.wf (h : CI G σ x S) : WFG S.2.1 ∧ okN (S.1 3) 8 ∧ okN (S.1 7) 60 ∧ okN (S.1 13) 60 := by
  obtain ⟨-, ⟨v, -, hte, hwf⟩, -, ⟨R, p, ct, -, -, hc, h3, -⟩, -, ⟨f, tl, tp, cn, -, h7, hE⟩, -, ⟨⟨L9, hLn, h13, -⟩, hlt⟩, -⟩ := h
  exact ⟨hwf, okN_mk h3 hc (by decide), okN_mk h7 hE.2.2 (by decide), okN_mk h13 (Nat.le_trans hLn.2.2 (by decide)) (by decide)⟩
theorem CI.at0 (h : CI G σ x S) : σ x = some (.inr (12, [.ref (x + 1), .ref (x + 2), .ref (x + 2 + 51), .ref (x + 54), .ref (x + 515), .int (S.1 5), .ref (x + 566), .ref (x + 609), .ref (x + 611)])) := h.1.1
theorem CI.lt {ω : FWd} {H : Heap} (h : CI G ω.2 x S) (hR : fR G ω H) : x + 614 ≤ ω.1 := by
  obtain ⟨-, -, -, -, -, -, -, -, ti, tj, -, -, t3⟩ := h
  have := hR.lt t3
  omega
theorem FrX.trans (h1 : FrX x σ τ) (h2 : FrX x τ ρ) : FrX x σ ρ := fun q hq => (h2 q hq).trans (h1 q hq)
theorem FrX.rf : FrX x σ σ := fun _ _ => rfl
end CIZ
/-- a text: a constant of the start, or one that was built behind the object x -/
def TxR (G : FG) (σ : Nat → Option va_E) (x q : Nat) (cs : List Int32) : Prop := StrF G q cs ∨ ∃ vb : Nat, x + 614 ≤ q ∧ x + 614 ≤ vb ∧ σ q = some (.inr (0, [.ref vb, .int 0, .int 0, .int 0])) ∧ σ vb = some (.inl (G.2.1 2, cs.length, .inl (fun i => cs.getD i 0)))
theorem TxR.fr {G : FG} {σ τ : Nat → Option va_E} {x q : Nat} {cs : List Int32} (h : TxR G σ x q cs) (e : FrX x σ τ) : TxR G τ x q cs := by
  rcases h with h | ⟨vb, h1, h2, h3, h4⟩
  · exact Or.inl h
  · exact Or.inr ⟨vb, h1, h2, (e q (Or.inr h1)).trans h3, (e vb (Or.inr h2)).trans h4⟩
theorem tx_pre {G : FG} {ω : FWd} {s : State} {H : Heap} {locs : List Loc} {As : List Value} {x q : Nat} {cs : List Int32} (hT : TxR G ω.2 x q cs) (hL : FL G) (hW : G.2.2.WarmedH s.vm) (hR0 : va_S (fwA G) G.2.2.heap s.heap []) (hR : fR G ω H) (hS : va_S (fwA G) s.heap H locs) : PreV s H "java/lang/String" q (va_Pc (.ref q :: As) (fP G ω)) As := by
  rcases hT with h | ⟨vb, h1, h2, h3, h4⟩
  · exact fw_preStr hW hR ((va_O.moved hW.alike h.1).kept hR0.2.1) hS
  · exact fw_preV (r := (RJ0, TJ0, 4)) hW (hL.K hW) hR h3 rfl
