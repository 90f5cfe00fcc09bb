/-! ===== the text buffer: its picture, what its reads mean ===== -/
abbrev digB (f : Nat → Int32) (len pos : Nat) : Prop := ¬ nI len ≤ nI pos ∧ ¬ f pos < 48 ∧ ¬ 57 < f pos
abbrev sgB (f : Nat → Int32) (len pos : Nat) (sg : Int32) : Prop := ¬ nI len ≤ nI pos ∧ f pos = sg
def TxtS (G : FG) (σ : Nat → Option va_E) (t : Nat) (f : Nat → Int32) (len pos cnt : Nat) (ft : Int32) : Prop :=
  σ t = some (.inr (10, [.ref (t + 1), .int (nI len), .int (nI pos), .ref (t + 2), .int (nI cnt), .int ft])) ∧ σ (t + 1) = some (.inl (G.2.1 1, 60, .inl f))
def adP (L : LN) (ch : Int32) : LN := if L.2 < 60 then (upd L.1 L.2 ch, L.2 + 1) else L
/-- how many digits stand from pos on, m at most -/
def runD (f : Nat → Int32) (len pos : Nat) : Nat → Nat
  | 0 => 0
  | m + 1 => if digB f len pos then 1 + runD f len (pos + 1) m else 0
def lanR (C : CM) (f : Nat → Int32) (pos : Nat) : Nat → CM
  | 0 => C
  | j + 1 => lanP (lanR C f pos j) (f (pos + j) - 48)
theorem runD_eq {f : Nat → Int32} {len : Nat} : ∀ (m j pos : Nat), j ≤ m → (∀ i, i < j → digB f len (pos + i)) → (j = m ∨ ¬ digB f len (pos + j)) → runD f len pos m = j
  | 0, j, pos, h1, _, _ => by rw [runD]; omega
  | m + 1, 0, pos, _, _, h3 => by
    rw [runD]
    rcases h3 with h | h
    · omega
    · exact if_neg h
  | m + 1, j + 1, pos, h1, h2, h3 => by
    rw [runD, if_pos (show digB f len pos from h2 0 (by omega)), runD_eq m j (pos + 1) (by omega) (fun i hi => by have := h2 (i + 1) (by omega); rw [show pos + (i + 1) = pos + 1 + i by omega] at this; exact this) (by
      rcases h3 with h | h
      · left; omega
      · right; rw [show pos + 1 + j = pos + (j + 1) by omega]; exact h)]
    omega
theorem runD_le {f : Nat → Int32} {len : Nat} : ∀ (m pos : Nat), runD f len pos m ≤ m
  | 0, _ => by rw [runD]; omega
  | m + 1, pos => by
    rw [runD]
    split
    · have := runD_le (f := f) (len := len) m (pos + 1); omega
    · omega
theorem lanR_n {C : CM} {f : Nat → Int32} {pos : Nat} : ∀ j : Nat, (lanR C f pos j).1 = C.1 ∧ (lanR C f pos j).2.1 = C.2.1 ∧ (lanR C f pos j).2.2.1 = C.2.2.1
  | 0 => ⟨rfl, rfl, rfl⟩
  | j + 1 => lanR_n j
