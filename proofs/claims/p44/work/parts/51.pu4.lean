/-! ===== all orders of a text ===== -/
section PU4
variable {g ip f : Nat → Int32} {len : Nat}
/-- all orders read: a fault at one place on both sides, or the same orders -/
def AllK (s0 : Nat → Int32) (len : Nat) (R : Int32 × Nat × Nat × (Nat → CM)) (S : (Nat → Int32) × (Nat → Int32) × Nat) : Prop :=
  S.1 16 = nI R.2.1 ∧ S.1 7 = nI len ∧ (∀ q, ¬ q = 16 → ¬ q = 17 → S.1 q = s0 q) ∧ R.2.1 ≤ len ∧
  ((R.1 = 0 ∧ (¬ S.1 17 = 0 ∨ S.1 16 < S.1 7)) ∨ (¬ R.1 = 0 ∧ ¬ (¬ S.1 17 = 0 ∨ S.1 16 < S.1 7) ∧ S.2.2 = R.2.2.1 ∧ R.2.2.1 ≤ 20 ∧ ∀ i, i < R.2.2.1 → TdC S.2.1 (5 * i) (R.2.2.2 i)))
theorem here_59 {s0 s : Nat → Int32} {pos : Nat} (he : RdE ip f len) (h : RdZ s0 s len pos) (hp : pos ≤ len) : hereM s g ip = 59 ↔ sgB f len pos 59 := ned_iff he h (by have := he.2.2; omega) (by decide)
theorem up0_16 {s : Nat → Int32} {q : Nat} : upd s 16 (s 16 + 0) q = s q := by
  by_cases h : q = 16
  · rw [h, upd_at, Int32.add_zero]
  · exact upd_off h
theorem up0 {s : Nat → Int32} : upd s 16 (s 16 + 0) = s := funext (fun q => up0_16)
theorem all_ok {s0 : Nat → Int32} (he : RdE ip f len) : ∀ (n k pos : Nat) (Cs : Nat → CM) (s td : Nat → Int32), n + k = 20 → 3 * k ≤ pos → pos ≤ len → RdZ s0 s len pos → (∀ i, i < k → TdC td (5 * i) (Cs i)) → AllK s0 len (csR f len n k pos Cs) (rdL g ip (n + 1) s td k)
  | 0, k, pos, Cs, s, td, hk, h3, hp, hz, hT => by
    have h60 := he.2.2
    have ho := ord_ok (g := g) (td := td) (k := 5 * k) (C := Cs k) he hz hp
    have hc : cmR f len pos (Cs k) = (0, pos, Cs k) := if_pos (by omega)
    rw [hc] at ho
    rcases ho with ⟨-, a, b, c, d⟩ | ⟨a, -⟩
    · rw [rdL, if_neg (fun z => a z.1), up0]
      exact ⟨b, c, d, hp, Or.inl ⟨rfl, Or.inl a⟩⟩
    · exact absurd rfl a
  | n + 1, k, pos, Cs, s, td, hk, h3, hp, hz, hT => by
    have h60 := he.2.2
    have ho := ord_ok (g := g) (td := td) (k := 5 * k) (C := Cs k) he hz hp
    have hpk : PK s 60 := ⟨okN_mk hz.2.2.1 (by omega) (by decide), okN_mk hz.2.1 (by omega) (by decide)⟩
    have hnx := ordM_next (g := g) (ip := ip) (t := td) (k := 5 * k) hz.2.1 (by omega) hpk
    have h16 := hz.2.1
    rw [csR, rdL]
    have hcl : (cmR f len pos (Cs k)).2.1 ≤ len := by
      unfold cmR
      split
      · exact hp
      · split
        · exact hp
        · exact (frR_le h60 _ _ _ (by omega) (Nat.zero_le _)).1
    generalize cmR f len pos (Cs k) = R at ho hcl ⊢
    generalize ordM s g ip td (5 * k) = O at ho hnx ⊢
    rcases ho with ⟨e, a, b, c, d⟩ | ⟨e, hz2, hl, hT2, hi⟩
    · rw [if_pos e, if_neg (fun z => a z.1), up0]
      exact ⟨b, c, d, hcl, Or.inl ⟨rfl, Or.inl a⟩⟩
    · have hTT : ∀ i, i < k + 1 → TdC O.2 (5 * i) (updC Cs k R.2.2 i) := by
        intro i hik
        by_cases hik2 : i = k
        · rw [hik2]
          show TdC O.2 (5 * k) (if k = k then R.2.2 else Cs k)
          rw [if_pos rfl]; exact hT2
        · show TdC O.2 (5 * i) (if i = k then R.2.2 else Cs i)
          rw [if_neg hik2]
          obtain ⟨t1, t2, t3, t4, t5⟩ := hT i (by omega)
          refine ⟨by rw [hi _ (by omega)]; exact t1, by rw [hi _ (by omega)]; exact t2, fun z => by rw [hi _ (by omega)]; exact t3 z, fun z1 z2 z3 z4 z5 => by rw [hi _ (by omega)]; exact t4 z1 z2 z3 z4 z5, fun z => ⟨by rw [hi _ (by omega)]; exact (t5 z).1, by rw [hi _ (by omega)]; exact (t5 z).2⟩⟩
      have h59 := here_59 (g := g) he hz2 hl
      obtain ⟨a, b, c, d⟩ := id hz2
      rw [if_neg e]
      by_cases hfin : len ≤ R.2.1
      · rw [if_pos hfin]
        have hns : ¬ sgB f len R.2.1 59 := fun z => z.1 ((nI_leI (by omega) (by omega)).mpr hfin)
        rw [if_neg (fun z => hns (h59.mp z.2)), up0]
        refine ⟨b, c, d, hl, Or.inr ⟨n10, ?_, rfl, by show k + 1 ≤ 20; omega, hTT⟩⟩
        show ¬ (¬ O.1 17 = 0 ∨ O.1 16 < O.1 7)
        rw [a, b, c]
        rintro (z | z)
        · exact z rfl
        · exact absurd ((nI_ltI (by omega) (by omega)).mp z) (by omega)
      · rw [if_neg hfin]
        by_cases hs : sgB f len R.2.1 59
        · rw [if_pos hs, if_pos ⟨a, h59.mpr hs⟩]
          obtain ⟨p2, e2, h2, h4⟩ := hnx a (h59.mpr hs)
          have hpp : R.2.1 = p2 := (nI_eq (by omega) (by omega)).mp (b.symm.trans e2)
          refine all_ok he n (k + 1) (R.2.1 + 1) _ _ _ (by omega) (by omega) (by omega) ⟨by rw [upd_off (by decide)]; exact a, by rw [upd_at, b, nI_1], by rw [upd_off (by decide)]; exact c, fun q h1 h2 => by rw [upd_off h1]; exact d q h1 h2⟩ hTT
        · rw [if_neg hs, if_neg (fun z => hs (h59.mp z.2)), up0]
          refine ⟨b, c, d, hl, Or.inl ⟨rfl, Or.inr ?_⟩⟩
          show O.1 16 < O.1 7
          rw [b, c]
          exact (nI_ltI (by omega) (by omega)).mpr (by omega)
end PU4
