/-! ===== the history, the line, the commands: pictures of their cells ===== -/
/-- the history, 461 cells from h on: nine archives in a ring -/
def HisS (G : FG) (σ : Nat → Option va_E) (h : Nat) (R : Nat → Nat → Nat → Int32) (p ct : Nat) : Prop :=
  σ h = some (.inr (6, [.ref (h + 1), .int (nI p), .int (nI ct)])) ∧ σ (h + 1) = some (.inl (G.2.1 4, 9, .inr (.inr (.inr (.inr (fun z9 => some (h + 2 + 51 * z9))))))) ∧ ∀ i, i < 9 → ArcS G σ (h + 2 + 51 * i) (R i)
theorem rem9 {p : Nat} (hp : p < 9) : (nI p + 1) - (nI p + 1) / 9 * 9 = nI ((p + 1) % 9) := by
  rw [nI_1]
  exact pk_rem (a := p + 1) (d := 9) (by omega) (by omega) (by omega)
theorem rem9b {p : Nat} (hp : p < 9) : (nI p + 9 - 1) - (nI p + 9 - 1) / 9 * 9 = nI ((p + 8) % 9) := by
  have h : nI p + 9 - 1 = nI (p + 8) := by
    show nI p + nI 9 - nI 1 = _
    rw [nI_add, pk_sub (by omega)]
    exact congrArg nI (by omega)
  rw [h]
  exact pk_rem (a := p + 8) (d := 9) (by omega) (by omega) (by omega)
theorem min8 {c : Nat} (hc : c ≤ 8) : (if (8 : Int32) < nI c + 1 then 8 else nI c + 1) = nI (min (c + 1) 8) := by
  rw [nI_1]
  by_cases h : c = 8
  · subst h; decide
  · rw [if_neg (fun z => by have := (nI_ltI (a := 8) (b := c + 1) (by omega) (by omega)).mp z; omega), Nat.min_eq_left (by omega)]
theorem nI_m1 {c : Nat} (h : 0 < c) : nI c - 1 = nI (c - 1) := by
  obtain ⟨k, rfl⟩ : ∃ k, c = k + 1 := ⟨c - 1, by omega⟩
  exact nI_pred k
/-- a line: its characters, how many -/
abbrev LN : Type := (Nat → Int32) × Nat
def putP (L : LN) (ch : Int32) : LN := if L.2 < 48 then (upd L.1 L.2 ch, L.2 + 1) else L
theorem putP_le {L : LN} {ch : Int32} (h : L.2 ≤ 48) : (putP L ch).2 ≤ 48 := by
  unfold putP
  split
  · show L.2 + 1 ≤ 48; omega
  · exact h
abbrev chC (x : Int32) : Int32 := (x.toUInt32 % 65536).toInt32
def LinS (G : FG) (σ : Nat → Option va_E) (y : Nat) (L : LN) : Prop := σ y = some (.inr (8, [.ref (y + 1), .int (nI L.2)])) ∧ σ (y + 1) = some (.inl (G.2.1 1, 48, .inl L.1)) ∧ L.2 ≤ 48
/-- one step written behind the line -/
def stepP (L : LN) (v : Nat → Nat → Int32) (k j : Nat) : LN :=
  let L1 := putP (putP (putP L (chC (48 + v (10 + k) j))) 42) (chC (48 + v (20 + k) j))
  let L2 := if v (40 + k) j + 1 = 2 then putP L1 43 else L1
  if hasB (v 7 k) (nI j) then putP L2 63 else L2
/-- the steps from the first to the j-th, o of them open, n in all -/
def lineP (v : Nat → Nat → Int32) (k : Nat) (o n : Int32) (L : LN) : Nat → LN
  | 0 => L
  | j + 1 =>
    let L1 := stepP (if nI j ≤ 0 then lineP v k o n L j else putP (lineP v k o n L j) 32) v k j
    if nI j = o - 1 then (if n ≤ o then L1 else putP L1 47) else L1
theorem stepP_le {L : LN} {v : Nat → Nat → Int32} {k j : Nat} (h : L.2 ≤ 48) : (stepP L v k j).2 ≤ 48 := by
  unfold stepP
  have h1 := putP_le (ch := chC (48 + v (20 + k) j)) (putP_le (ch := 42) (putP_le (ch := chC (48 + v (10 + k) j)) h))
  dsimp only
  split <;> split
  · exact putP_le (putP_le h1)
  · exact putP_le h1
  · exact putP_le h1
  · exact h1
theorem lineP_le {v : Nat → Nat → Int32} {k : Nat} {o n : Int32} {L : LN} (h : L.2 ≤ 48) : ∀ j, (lineP v k o n L j).2 ≤ 48
  | 0 => h
  | j + 1 => by
    unfold lineP
    have h0 := lineP_le (v := v) (k := k) (o := o) (n := n) h j
    have h1 : (stepP (if nI j ≤ 0 then lineP v k o n L j else putP (lineP v k o n L j) 32) v k j).2 ≤ 48 := by
      refine stepP_le ?_
      split
      · exact h0
      · exact putP_le h0
    dsimp only
    split
    · split
      · exact h1
      · exact putP_le h1
    · exact h1
theorem nar_chC {x : Int32} : vp_nar .char (chC x) = chC x := pk_vc x
/-- a command: its letter, its numbers, how many, its languages -/
def CmdS (G : FG) (σ : Nat → Option va_E) (b : Nat) (ch : Int32) (f : Nat → Int32) (n : Nat) (la : Int32) : Prop := σ b = some (.inr (4, [.int ch, .ref (b + 1), .int (nI n), .int la])) ∧ σ (b + 1) = some (.inl (G.2.1 0, 3, .inl f))
abbrev CM : Type := Int32 × (Nat → Int32) × Nat × Int32
def numP (C : CM) (x : Int32) : CM := if C.2.2.1 < 3 then (C.1, upd C.2.1 C.2.2.1 x, C.2.2.1 + 1, C.2.2.2) else C
def lanP (C : CM) (x : Int32) : CM := (C.1, C.2.1, C.2.2.1, C.2.2.2 ||| 1 <<< (x &&& 31))
