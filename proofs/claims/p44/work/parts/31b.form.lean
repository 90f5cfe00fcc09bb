/-! ===== forms, and what reading by them means ===== -/
def frmN (ch : Int32) : Nat := if ch = 108 ∨ ch = 102 ∨ ch = 117 ∨ ch = 116 then 0 else if ch = 115 ∨ ch = 83 then 1 else if ch = 99 then 2 else if ch = 98 then 3 else if ch = 100 then 4 else if ch = 109 then 5 else if ch = 120 ∨ ch = 121 then 6 else 7
def frmL : Nat → List Int32
  | 0 => [35]
  | 1 => [35, 58, 35, 42, 35, 61, 43]
  | 2 => [35, 61, 63]
  | 3 => [35, 62, 35]
  | 4 => [35, 46, 35]
  | 5 => [35, 64, 35]
  | 6 => [35, 42, 35]
  | _ => []
def frmT : Nat → String
  | 0 => "#"
  | 1 => "#:#*#=+"
  | 2 => "#=?"
  | 3 => "#>#"
  | 4 => "#.#"
  | 5 => "#@#"
  | 6 => "#*#"
  | _ => ""
/-- the forms are where the class's constants say -/
def FTx (G : FG) (adr : Nat → Nat) : Prop := ∀ k, k < 8 → vk_R RX8 (74 + 2 * k) (frmT k) (adr k) G.2.2 ∧ StrF G (adr k) (frmL k)
theorem frmN_8 (ch : Int32) : frmN ch < 8 := by
  unfold frmN
  (repeat' split) <;> decide
theorem frmL_100 (k : Nat) : (frmL k).length < 100 := by
  unfold frmL
  split <;> decide
/-- one piece read: whether it stood there, where the text goes on, the command -/
def pcR (f : Nat → Int32) (len : Nat) (p : Int32) (pos : Nat) (C : CM) : Int32 × Nat × CM :=
  if p = 35 then (bz (digB f len pos), (if digB f len pos then pos + 1 else pos), (if digB f len pos then numP C (f pos - 48) else C))
  else if p = 43 then (bz (0 < runD f len pos 5), pos + runD f len pos 5, lanR C f pos (runD f len pos 5))
  else if p = 63 then (1, pos + runD f len pos 5, lanR C f pos (runD f len pos 5))
  else (bz (sgB f len pos p), (if sgB f len pos p then pos + 1 else pos), C)
theorem runD_len {f : Nat → Int32} {len : Nat} : ∀ (m pos : Nat), len ≤ 60 → pos ≤ len → pos + runD f len pos m ≤ len
  | 0, _, _, h => by rw [runD]; exact h
  | m + 1, pos, h60, h => by
    rw [runD]
    by_cases hd : digB f len pos
    · rw [if_pos hd]
      have hp : pos < len := Nat.lt_of_not_le (fun z => hd.1 ((nI_leI (by omega) (by omega)).mpr z))
      have := runD_len (f := f) (len := len) m (pos + 1) h60 (by omega)
      omega
    · rw [if_neg hd]; exact h
theorem numP_3 {C : CM} {x : Int32} (h : C.2.2.1 ≤ 3) : (numP C x).2.2.1 ≤ 3 := by
  unfold numP
  split
  · show C.2.2.1 + 1 ≤ 3; omega
  · exact h
theorem pcR_le {f : Nat → Int32} {len pos : Nat} {p : Int32} {C : CM} (h60 : len ≤ 60) (h : pos ≤ len) (h3 : C.2.2.1 ≤ 3) : (pcR f len p pos C).2.1 ≤ len ∧ (pcR f len p pos C).2.2.2.2.1 ≤ 3 := by
  unfold pcR
  split
  · constructor
    · show (if digB f len pos then pos + 1 else pos) ≤ len
      split
      · rename_i hd
        exact Nat.lt_of_not_le (fun z => hd.1 ((nI_leI (by omega) (by omega)).mpr z))
      · exact h
    · show (if digB f len pos then numP C (f pos - 48) else C).2.2.1 ≤ 3
      split
      · exact numP_3 h3
      · exact h3
  · split
    · exact ⟨runD_len 5 pos h60 h, by show (lanR C f pos _).2.2.1 ≤ 3; rw [(lanR_n _).2.2]; exact h3⟩
    · split
      · exact ⟨runD_len 5 pos h60 h, by show (lanR C f pos _).2.2.1 ≤ 3; rw [(lanR_n _).2.2]; exact h3⟩
      · constructor
        · show (if sgB f len pos p then pos + 1 else pos) ≤ len
          split
          · rename_i hd
            exact Nat.lt_of_not_le (fun z => hd.1 ((nI_leI (by omega) (by omega)).mpr z))
          · exact h
        · exact h3
/-- the pieces of a form, one behind another -/
def frR (f : Nat → Int32) (len : Nat) : List Int32 → Nat → CM → Int32 × Nat × CM
  | [], pos, C => (1, pos, C)
  | p :: cs, pos, C => if (pcR f len p pos C).1 = 0 then (0, (pcR f len p pos C).2.1, (pcR f len p pos C).2.2) else frR f len cs (pcR f len p pos C).2.1 (pcR f len p pos C).2.2
def cmR (f : Nat → Int32) (len pos : Nat) (C : CM) : Int32 × Nat × CM :=
  if len ≤ pos then (0, pos, C) else if frmN (f pos) = 7 then (0, pos, C) else frR f len (frmL (frmN (f pos))) (pos + 1) (f pos, C.2.1, 0, 0)
theorem frR_le {f : Nat → Int32} {len : Nat} (h60 : len ≤ 60) : ∀ (cs : List Int32) (pos : Nat) (C : CM), pos ≤ len → C.2.2.1 ≤ 3 → (frR f len cs pos C).2.1 ≤ len ∧ (frR f len cs pos C).2.2.2.2.1 ≤ 3
  | [], pos, C, h, h3 => ⟨h, h3⟩
  | p :: cs, pos, C, h, h3 => by
    obtain ⟨a, b⟩ := pcR_le (f := f) (p := p) h60 h h3
    rw [frR]
    split
    · exact ⟨a, b⟩
    · exact frR_le h60 cs _ _ a b
theorem cmR_le {f : Nat → Int32} {len pos : Nat} {C : CM} (h60 : len ≤ 60) (h : pos ≤ len) (h3 : C.2.2.1 ≤ 3) : (cmR f len pos C).2.1 ≤ len ∧ (cmR f len pos C).2.2.2.2.1 ≤ 3 := by
  unfold cmR
  split
  · exact ⟨h, h3⟩
  · split
    · exact ⟨h, h3⟩
    · exact frR_le h60 _ _ _ (by omega) (Nat.zero_le _)
def updC (Cs : Nat → CM) (k : Nat) (C : CM) : Nat → CM := fun i => if i = k then C else Cs i
/-- all commands: whether the text could be read, where reading ended, how many, the commands -/
def csR (f : Nat → Int32) (len : Nat) : Nat → Nat → Nat → (Nat → CM) → Int32 × Nat × Nat × (Nat → CM)
  | 0, k, pos, Cs => (0, pos, k, Cs)
  | n + 1, k, pos, Cs =>
    if (cmR f len pos (Cs k)).1 = 0 then (0, (cmR f len pos (Cs k)).2.1, k, updC Cs k (cmR f len pos (Cs k)).2.2)
    else if len ≤ (cmR f len pos (Cs k)).2.1 then (1, (cmR f len pos (Cs k)).2.1, k + 1, updC Cs k (cmR f len pos (Cs k)).2.2)
    else if sgB f len (cmR f len pos (Cs k)).2.1 59 then csR f len n (k + 1) ((cmR f len pos (Cs k)).2.1 + 1) (updC Cs k (cmR f len pos (Cs k)).2.2)
    else (0, (cmR f len pos (Cs k)).2.1, k + 1, updC Cs k (cmR f len pos (Cs k)).2.2)
theorem chr_ok : ∀ k : Nat, k < 8 → ∀ i : Nat, i < (frmL k).length → chC ((frmL k).getD i 0 &&& 255) = (frmL k).getD i 0 := by decide +kernel
theorem frm_len : ∀ k : Nat, k < 8 → ((frmL k).length = 0 ↔ k = 7) := by decide +kernel
theorem drop_c {cs : List Int32} {k : Nat} (h : k < cs.length) : cs.drop k = cs.getD k 0 :: cs.drop (k + 1) := by
  rw [List.drop_eq_getElem_cons h]
  congr 1
  simp [List.getD, h]
