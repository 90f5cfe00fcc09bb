/-! ===== changes of the table, and the cells behind them ===== -/
def set1 (v : Nat → Nat → Int32) (r j : Nat) (x : Int32) : Nat → Nat → Int32 := fun r' => if r' = r then upd (v r) j x else v r'
def setR (v : Nat → Nat → Int32) (r : Nat) (f : Nat → Int32) : Nat → Nat → Int32 := fun r' => if r' = r then f else v r'
theorem set1_at {v : Nat → Nat → Int32} {r j : Nat} {x : Int32} : set1 v r j x r j = x := by simp [set1, upd]
theorem set1_row {v : Nat → Nat → Int32} {r j r' : Nat} {x : Int32} (h : ¬ r' = r) : set1 v r j x r' = v r' := if_neg h
theorem set1_off {v : Nat → Nat → Int32} {r j j' : Nat} {x : Int32} (h : ¬ j' = j) : set1 v r j x r j' = v r j' := by simp [set1, upd, h]
theorem LeafS.keep {G : FG} {σ τ : Nat → Option va_E} {a : Nat} {v : Nat → Nat → Int32} {k : Nat} (h : LeafS G σ a v k) (hfr : ∀ q : Nat, a ≤ q → q < a + 5 → τ q = σ q) : LeafS G τ a v k :=
  ⟨(hfr a (by omega) (by omega)).trans h.1, (hfr (a + 1) (by omega) (by omega)).trans h.2.1, (hfr (a + 2) (by omega) (by omega)).trans h.2.2.1, (hfr (a + 3) (by omega) (by omega)).trans h.2.2.2.1, (hfr (a + 4) (by omega) (by omega)).trans h.2.2.2.2⟩
theorem ArcS.keep {G : FG} {σ τ : Nat → Option va_E} {a : Nat} {v : Nat → Nat → Int32} (h : ArcS G σ a v) (hfr : ∀ q : Nat, a ≤ q → q < a + 51 → τ q = σ q) : ArcS G τ a v :=
  ⟨(hfr a (by omega) (by omega)).trans h.1, (hfr (a + 1) (by omega) (by omega)).trans h.2.1, (hfr (a + 2) (by omega) (by omega)).trans h.2.2.1, (hfr (a + 3) (by omega) (by omega)).trans h.2.2.2.1, (hfr (a + 4) (by omega) (by omega)).trans h.2.2.2.2.1, (hfr (a + 5) (by omega) (by omega)).trans h.2.2.2.2.2.1,
    fun k hk => (h.2.2.2.2.2.2.1 k hk).keep (fun q h1 h2 => hfr q (by omega) (by omega)), fun k hk => (hfr (a + 46 + k) (by omega) (by omega)).trans (h.2.2.2.2.2.2.2 k hk)⟩
theorem ArcS.gen {G : FG} {σ τ : Nat → Option va_E} {a : Nat} {v : Nat → Nat → Int32} (h : ArcS G σ a v) (w : Nat → Nat → Int32) (k c : Nat)
    (e0 : τ a = some (.inr (2, [.ref (a + 1), .int (w 0 0), .ref (a + 2), .int (w 0 1), .ref (a + 3), .int (w 0 2), .int (w 0 3), .int (w 0 4), .int (w 0 5)])))
    (e4 : τ (a + 4) = some (.inl (G.2.1 0, 6, .inl (w 1)))) (e5 : τ (a + 5) = some (.inl (G.2.1 0, 6, .inl (w 2))))
    (el : k < 8 → LeafS G τ (a + 6 + 5 * k) w k) (ec : c < 5 → τ (a + 46 + c) = some (.inr (5, [.int (w 8 c), .int (w 9 c)])))
    (hfr : ∀ q : Nat, a < q → q < a + 51 → ¬ q = a + 4 → ¬ q = a + 5 → ¬ (k < 8 ∧ a + 6 + 5 * k ≤ q ∧ q < a + 11 + 5 * k) → ¬ q = a + 46 + c → τ q = σ q)
    (hwl : ∀ j : Nat, j < 8 → ¬ j = k → w 3 j = v 3 j ∧ w 4 j = v 4 j ∧ w 5 j = v 5 j ∧ w 6 j = v 6 j ∧ w 7 j = v 7 j ∧ w (10 + j) = v (10 + j) ∧ w (20 + j) = v (20 + j) ∧ w (30 + j) = v (30 + j) ∧ w (40 + j) = v (40 + j))
    (hwc : ∀ j : Nat, j < 5 → ¬ j = c → w 8 j = v 8 j ∧ w 9 j = v 9 j) (hk : k ≤ 8) (hc : c ≤ 5) : ArcS G τ a w := by
  obtain ⟨h0, h1, h2, h3, h4, h5, h6, h7⟩ := h
  refine ⟨e0, (hfr (a + 1) (by omega) (by omega) (by omega) (by omega) (by omega) (by omega)).trans h1, (hfr (a + 2) (by omega) (by omega) (by omega) (by omega) (by omega) (by omega)).trans h2, (hfr (a + 3) (by omega) (by omega) (by omega) (by omega) (by omega) (by omega)).trans h3, e4, e5, fun j hj => ?_, fun j hj => ?_⟩
  · by_cases hjk : j = k
    · subst hjk; exact el hj
    · obtain ⟨w3, w4, w5, w6, w7, w10, w20, w30, w40⟩ := hwl j hj hjk
      obtain ⟨g0, g1, g2, g3, g4⟩ := (h6 j hj).keep (τ := τ) (fun q q1 q2 => hfr q (by omega) (by omega) (by omega) (by omega) (by omega) (by omega))
      refine ⟨?_, ?_, ?_, ?_, ?_⟩
      · rw [w3, w4, w5, w6, w7]; exact g0
      · rw [w10]; exact g1
      · rw [w20]; exact g2
      · rw [w30]; exact g3
      · rw [w40]; exact g4
  · by_cases hjc : j = c
    · subst hjc; exact ec hj
    · obtain ⟨w8, w9⟩ := hwc j hj hjc
      rw [w8, w9]
      exact (hfr (a + 46 + j) (by omega) (by omega) (by omega) (by omega) (by omega) (by omega)).trans (h7 j hj)
/-- a number within the first c -/
theorem in_c {m x : Int32} {c : Nat} (hx : x = nI c) (hc : c ≤ 8) (h : inB m 0 (x - 1)) : ∃ j : Nat, j < c ∧ m = nI j := by
  subst hx
  obtain ⟨h0, h1⟩ := h
  obtain ⟨j, hj, rfl⟩ := nI_of h0
  refine ⟨j, ?_, rfl⟩
  rcases c with _ | c
  · exact absurd (show nI 0 - 1 < nI j by rw [i_lt, show (nI 0 - 1).toInt = -1 by decide, nI_toInt hj]; omega) h1
  · rw [nI_pred] at h1
    have := Nat.lt_of_not_le (fun z : c + 1 ≤ j => h1 ((nI_ltI (by omega) hj).mpr (by omega)))
    exact this
theorem in_n {m : Int32} {n : Nat} (hn : n < 2 ^ 31) (h : inB m 0 (nI n)) : ∃ j : Nat, j ≤ n ∧ m = nI j := by
  obtain ⟨h0, h1⟩ := h
  obtain ⟨j, hj, rfl⟩ := nI_of h0
  exact ⟨j, Nat.le_of_not_lt (fun z => h1 ((nI_ltI hn hj).mpr z)), rfl⟩
theorem okN_mk {x : Int32} {n b : Nat} (h : x = nI n) (hb : n ≤ b) (hb2 : b < 2 ^ 31) : okN x b := by
  subst h
  exact ⟨by rw [cN, nI_clamp (by omega)], by rw [cN, nI_clamp (by omega)]; exact hb⟩
theorem okN_of {x : Int32} {b : Nat} (h : okN x b) : ∃ n : Nat, n ≤ b ∧ x = nI n ∧ cN x = n := ⟨cN x, h.2, h.1, rfl⟩
/-- what the class relies on: the counts, and what leaflets that are there hold -/
def WF (v : Nat → Nat → Int32) : Prop := okN (v 0 0) 8 ∧ okN (v 0 1) 5 ∧ ∀ j : Nat, j < cN (v 0 0) → okN (v 3 j) 8 ∧ okN (v 4 j) 3
abbrev CR : Type := Int32 × (Nat → Nat → Int32) × Int32 × Int32 × Int32
/-- what a change answers and leaves: the number, the table, the reason kept; nothing else is touched -/
def CQ (G : FG) (a : Nat) (ω : FWd) (R : CR) : Option Value → FWd → Prop := fun vv τ => vv = some (.int R.1) ∧ τ.1 = ω.1 ∧ ArcS G τ.2 a R.2.1 ∧ τ.2 (a + 51) = some (.inr (9, [.int R.2.2.1, .int R.2.2.2.1, .int R.2.2.2.2])) ∧ ∀ q : Nat, ¬ (a ≤ q ∧ q < a + 52) → τ.2 q = ω.2 q
