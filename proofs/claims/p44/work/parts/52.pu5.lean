/-! ===== the orders done one behind another ===== -/
section PU5
variable {v : Nat → Nat → Int32} {s g nd : Nat → Int32} {k1 k2 k3 : Int32}
theorem do_ok {td : Nat → Int32} {k : Nat} {C : CM} (ht : Tell v (gV g)) (hg : WFG g) (hT : TdC td k C) : ChOK v k1 k2 k3 s g (doC v k1 k2 k3 C) (m3 (doesM s g nd td k)) := by
  obtain ⟨t1, t2, t3, t4, t5⟩ := hT
  unfold doC doesM
  rw [t1, t2]
  by_cases n83 : C.1 = 83
  · rw [if_pos n83, if_pos n83, t4 (by rw [n83]; decide) (by rw [n83]; decide) (by rw [n83]; decide) (by rw [n83]; decide) (by rw [n83]; decide), (t5 (Or.inl n83)).1, (t5 (Or.inl n83)).2]
    have := add_ok (v := v) (g := g) (s := s) (k1 := k1) (k2 := k2) (k3 := k3) (lf := C.2.1 0) (kd := C.2.1 1) (ps := C.2.1 2) (la := C.2.2.2) (two := 1) ht hg
    rw [if_neg (by decide)] at this
    exact this
  rw [if_neg n83, if_neg n83]
  by_cases n98 : C.1 = 98
  · rw [if_pos n98, if_pos n98, t4 (by rw [n98]; decide) (by rw [n98]; decide) (by rw [n98]; decide) (by rw [n98]; decide) (by rw [n98]; decide)]
    exact build_ok ht hg
  rw [if_neg n98, if_neg n98]
  by_cases n99 : C.1 = 99
  · rw [if_pos n99, if_pos n99, t3 n99]
    exact come_ok ht hg
  rw [if_neg n99, if_neg n99]
  by_cases n100 : C.1 = 100
  · rw [if_pos n100, if_pos n100, t4 n99 (by rw [n100]; decide) (by rw [n100]; decide) (by rw [n100]; decide) (by rw [n100]; decide)]
    exact fin_ok ht hg
  rw [if_neg n100, if_neg n100]
  by_cases n102 : C.1 = 102
  · rw [if_pos n102, if_pos n102]
    exact fold_ok ht hg
  rw [if_neg n102, if_neg n102]
  by_cases n108 : C.1 = 108
  · rw [if_pos n108, if_pos n108]
    exact lay_ok ht hg
  rw [if_neg n108, if_neg n108]
  by_cases n109 : C.1 = 109
  · rw [if_pos n109, if_pos n109, t4 n99 n102 n108 (by rw [n109]; decide) (by rw [n109]; decide)]
    exact move_ok ht hg
  rw [if_neg n109, if_neg n109]
  by_cases n115 : C.1 = 115
  · rw [if_pos n115, if_pos n115, t4 n99 n102 n108 (by rw [n115]; decide) (by rw [n115]; decide), (t5 (Or.inr n115)).1, (t5 (Or.inr n115)).2]
    have := add_ok (v := v) (g := g) (s := s) (k1 := k1) (k2 := k2) (k3 := k3) (lf := C.2.1 0) (kd := C.2.1 1) (ps := C.2.1 2) (la := C.2.2.2) (two := 0) ht hg
    rw [if_pos rfl] at this
    exact this
  rw [if_neg n115, if_neg n115]
  by_cases n116 : C.1 = 116
  · rw [if_pos n116, if_pos n116]
    exact apa_ok ht hg
  rw [if_neg n116, if_neg n116]
  by_cases n117 : C.1 = 117
  · rw [if_pos n117, if_pos n117]
    exact fold_ok ht hg
  rw [if_neg n117, if_neg n117, t4 n99 n102 n108 n116 n117]
  by_cases n120 : C.1 = 120
  · rw [if_pos n120, if_pos n120]
    exact lose_ok ht hg
  rw [if_neg n120, if_neg n120]
  exact find_ok ht hg
/-- every table on the way tells what some sound row tells -/
theorem it_wf {Cs : Nat → CM} {td : Nat → Int32} {n : Nat} {S : S4} (ht : Tell S.1 (gV g)) (hg : WFG g) (hT : ∀ i, i < n → TdC td (5 * i) (Cs i)) : ∀ k, k ≤ n → (∀ j, j < k → ¬ (atC Cs S j).1 = -1) → ∃ h, Tell (itC Cs S k).1 (gV h) ∧ WFG h
  | 0, _, _ => ⟨g, ht, hg⟩
  | k + 1, hk, hj => by
    obtain ⟨h, h1, h2⟩ := it_wf (td := td) ht hg hT k (by omega) (fun j hjk => hj j (by omega))
    rcases do_ok (s := g) (nd := g) (k1 := (itC Cs S k).2.1) (k2 := (itC Cs S k).2.2.1) (k3 := (itC Cs S k).2.2.2) h1 h2 (hT k (by omega)) with ⟨e, -⟩ | ⟨-, -, -, -, e, e2⟩
    · exact absurd e (hj k (by omega))
    · exact ⟨_, e, e2⟩
/-- how the orders went on both sides: all done, or refused at one place -/
theorem run_ok {Cs : Nat → CM} {td : Nat → Int32} {n : Nat} {S : S4} (hT : ∀ i, i < n → TdC td (5 * i) (Cs i)) : ∀ (fu k : Nat) (z : DS), fu + k = n → Tell (itC Cs S k).1 (gV z.2.1) → WFG z.2.1 → (itC Cs S k).2 = S.2 →
    ((doL td fu k z).1 = 0 ∧ (∀ j, k ≤ j → j < n → ¬ (atC Cs S j).1 = -1) ∧ Tell (itC Cs S n).1 (gV (doL td fu k z).2.2.2.1) ∧ WFG (doL td fu k z).2.2.2.1 ∧ (itC Cs S n).2 = S.2 ∧ ∀ q, ¬ q = 14 → (doL td fu k z).2.2.1 q = z.1 q) ∨
    (∃ m, k ≤ m ∧ m < n ∧ (doL td fu k z).1 = m + 1 ∧ (∀ j, k ≤ j → j < m → ¬ (atC Cs S j).1 = -1) ∧ (atC Cs S m).1 = -1 ∧ (doL td fu k z).2.1 = 0 ∧ (doL td fu k z).2.2.1 9 = (atC Cs S m).2.2.1 ∧ (doL td fu k z).2.2.1 10 = (atC Cs S m).2.2.2.1 ∧ ∀ q, ¬ q = 9 → ¬ q = 10 → ¬ q = 11 → ¬ q = 14 → (doL td fu k z).2.2.1 q = z.1 q)
  | 0, k, z, hk, h1, h2, h3 => by
    have hkn : k = n := by omega
    subst hkn
    exact Or.inl ⟨rfl, fun j a b => absurd b (by omega), h1, h2, h3, fun q _ => rfl⟩
  | fu + 1, k, z, hk, h1, h2, h3 => by
    have hd := do_ok (s := z.1) (nd := z.2.2) (k1 := (itC Cs S k).2.1) (k2 := (itC Cs S k).2.2.1) (k3 := (itC Cs S k).2.2.2) h1 h2 (hT k (by omega))
    rw [doL]
    rcases hd with ⟨e, e1, e2, e3, e4⟩ | ⟨e, e1, e2, e3, e4, e5⟩
    · have e3' : (doesM z.1 z.2.1 z.2.2 td (5 * k)).2.1 = _ := e3
      have e14 : ¬ (doesM z.1 z.2.1 z.2.2 td (5 * k)).2.1 14 = 0 := by rw [e3', upd_at]; decide
      rw [if_neg e14]
      refine Or.inr ⟨k, Nat.le_refl _, by omega, rfl, fun j a b => absurd b (by omega), e, e2, ?_, ?_, fun q q1 q2 q3 q4 => ?_⟩
      · show (doesM z.1 z.2.1 z.2.2 td (5 * k)).2.1 9 = _
        rw [e3', upd_off (by decide), upd_off (by decide), upd_off (by decide), upd_at]; rfl
      · show (doesM z.1 z.2.1 z.2.2 td (5 * k)).2.1 10 = _
        rw [e3', upd_off (by decide), upd_off (by decide), upd_at]; rfl
      · show (doesM z.1 z.2.1 z.2.2 td (5 * k)).2.1 q = _
        rw [e3', upd_off q4, upd_off q3, upd_off q2, upd_off q1]
    · have e3' : (doesM z.1 z.2.1 z.2.2 td (5 * k)).2.1 = upd z.1 14 0 := e3
      have e14 : (doesM z.1 z.2.1 z.2.2 td (5 * k)).2.1 14 = 0 := by rw [e3', upd_at]
      rw [if_pos e14]
      have h3' : (itC Cs S (k + 1)).2 = S.2 := by
        show (doC (itC Cs S k).1 (itC Cs S k).2.1 (itC Cs S k).2.2.1 (itC Cs S k).2.2.2 (Cs k)).2.2 = S.2
        rw [e2, ← h3]
      have ih := run_ok hT fu (k + 1) (doesM z.1 z.2.1 z.2.2 td (5 * k)).2 (by omega) e4 e5 h3'
      have hz : ∀ q, ¬ q = 14 → (doesM z.1 z.2.1 z.2.2 td (5 * k)).2.1 q = z.1 q := fun q hq => by rw [e3', upd_off hq]
      rcases ih with ⟨a1, a2, a3, a4, a5, a6⟩ | ⟨m, a1, a2, a3, a4, a5, a6, a7, a8, a9⟩
      · refine Or.inl ⟨a1, fun j hj hjn => ?_, a3, a4, a5, fun q hq => (a6 q hq).trans (hz q hq)⟩
        by_cases hjk : j = k
        · rw [hjk]; exact e
        · exact a2 j (by omega) hjn
      · refine Or.inr ⟨m, by omega, a2, a3, fun j hj hjm => ?_, a5, a6, a7, a8, fun q q1 q2 q3 q4 => (a9 q q1 q2 q3 q4).trans (hz q q4)⟩
        by_cases hjk : j = k
        · rw [hjk]; exact e
        · exact a4 j (by omega) hjm
end PU5
