/-! ===== what the reference's reading and its orders leave true ===== -/
theorem figM_3 {s g ip : Nat → Int32} : (figM s g ip).2 3 = s 3 := by
  unfold figM
  (repeat' split) <;> rfl
theorem needsM_3 {s g ip : Nat → Int32} {c : Int32} : needsM s g ip c 3 = s 3 := by
  unfold needsM
  (repeat' split) <;> rfl
theorem tonL_3 {g ip : Nat → Int32} {le : Int32} : ∀ (n many : Nat) (set : Int32) (s : Nat → Int32), (tonL g ip le set s many n).2 3 = s 3
  | 0, _, _, _ => rfl
  | n + 1, many, set, s => by
    rw [tonL]
    split
    · split
      · rw [tonL_3 n]; exact figM_3
      · rfl
    · rfl
theorem tonM_3 {s g ip : Nat → Int32} {le : Int32} : (tonM s g ip le).2 3 = s 3 := tonL_3 5 0 0 s
theorem pairM_3 {s g ip td : Nat → Int32} {k : Nat} {sg : Int32} : (pairM s g ip td k sg).1 3 = s 3 := by
  show (figM _ g ip).2 3 = s 3
  rw [figM_3, needsM_3, figM_3]
theorem ordM_ind {s g ip td : Nat → Int32} {k : Nat} {M : (Nat → Int32) × (Nat → Int32) → Prop}
    (h1 : ∀ a td1 t : Nat → Int32, a = upd s 16 (s 16 + 1) → M ((tonM (needsM (figM (needsM (pairM a g ip td1 k 58).1 g ip 42) g ip).2 g ip 61) g ip 1).2, t))
    (h2 : ∀ (a td1 : Nat → Int32) (sg : Int32), a = upd s 16 (s 16 + 1) → M ((pairM a g ip td1 k sg).1, (pairM a g ip td1 k sg).2))
    (h3 : ∀ a t : Nat → Int32, a = upd s 16 (s 16 + 1) → M ((tonM (needsM (figM a g ip).2 g ip 61) g ip 0).2, t))
    (h4 : ∀ a t : Nat → Int32, a = upd s 16 (s 16 + 1) → M ((figM a g ip).2, t))
    (h5 : ∀ a t : Nat → Int32, a = upd s 16 (s 16 + 1) → M (upd (upd a 17 1) 16 (s 16 + 1 - 1), t)) : M (ordM s g ip td k) := by
  unfold ordM
  split
  · exact h1 _ _ _ rfl
  split
  · exact h2 _ _ _ rfl
  split
  · exact h3 _ _ rfl
  split
  · exact h2 _ _ _ rfl
  split
  · exact h4 _ _ rfl
  split
  · exact h4 _ _ rfl
  split
  · exact h2 _ _ _ rfl
  split
  · exact h1 _ _ _ rfl
  split
  · exact h4 _ _ rfl
  split
  · exact h4 _ _ rfl
  split
  · exact h2 _ _ _ rfl
  split
  · exact h2 _ _ _ rfl
  exact h5 _ _ rfl
theorem ordM_3 {s g ip td : Nat → Int32} {k : Nat} : (ordM s g ip td k).1 3 = s 3 := by
  refine ordM_ind (M := fun x => x.1 3 = s 3) (fun a td1 t ha => ?_) (fun a td1 sg ha => ?_) (fun a t ha => ?_) (fun a t ha => ?_) (fun a t ha => ?_)
  · show (tonM _ g ip 1).2 3 = s 3
    rw [tonM_3, needsM_3, figM_3, needsM_3, pairM_3, ha]; rfl
  · show (pairM a g ip td1 k sg).1 3 = s 3
    rw [pairM_3, ha]; rfl
  · show (tonM _ g ip 0).2 3 = s 3
    rw [tonM_3, needsM_3, figM_3, ha]; rfl
  · show (figM a g ip).2 3 = s 3
    rw [figM_3, ha]; rfl
  · show a 3 = s 3
    rw [ha]; rfl
theorem ordM_pk {s g ip td : Nat → Int32} {k b : Nat} (h : PK s b) (hb : b < 8000) : PK (ordM s g ip td k).1 (b + 20) := by
  have h0 : ∀ a : Nat → Int32, a = upd s 16 (s 16 + 1) → PK a (b + 1) := fun a ha => by rw [ha]; exact PK_16 h (by omega)
  refine ordM_ind (M := fun x => PK x.1 (b + 20)) (fun a td1 t ha => ?_) (fun a td1 sg ha => ?_) (fun a t ha => ?_) (fun a t ha => ?_) (fun a t ha => ?_)
  · exact PK_le (tonM_pk (needsM_pk (figM_pk (needsM_pk (pairM_pk (h0 a ha) (by omega)) (by omega)) (by omega)) (by omega)) (by omega)) (by omega)
  · exact PK_le (pairM_pk (h0 a ha) (by omega)) (by omega)
  · exact PK_le (tonM_pk (needsM_pk (figM_pk (h0 a ha) (by omega)) (by omega)) (by omega)) (by omega)
  · exact PK_le (figM_pk (h0 a ha) (by omega)) (by omega)
  · refine ⟨(h0 a ha).1, ?_⟩
    show okN (s 16 + 1 - 1) _
    rw [Int32.add_sub_cancel]; exact okN_le h.2 (by omega)
theorem p1_2 (x : Int32) : x + 1 + 1 = x + nI 2 := by rw [Int32.add_assoc]; rfl
theorem p1_4 (x : Int32) : x + 1 + 1 + 1 + 1 = x + nI 4 := by simp only [Int32.add_assoc]; rfl
theorem p1_3j (x : Int32) (j : Nat) : x + 1 + 1 + 1 + nI j = x + nI (3 + j) := by rw [← nI_add]; simp only [Int32.add_assoc]; rfl
theorem p1_7j (x : Int32) (j : Nat) : x + 1 + 1 + 1 + 1 + 1 + 1 + 1 + nI j = x + nI (7 + j) := by rw [← nI_add]; simp only [Int32.add_assoc]; rfl
/-- how far a piece reads when nothing is wrong -/
theorem figM_go {s g ip : Nat → Int32} (h : (figM s g ip).2 17 = 0) : s 17 = 0 ∧ (figM s g ip).2 16 = s 16 + 1 := by
  unfold figM at h ⊢
  by_cases h1 : s 17 = 0
  · rw [if_pos h1] at h ⊢
    by_cases h2 : inB (hereM s g ip) 48 57
    · rw [if_pos h2]; exact ⟨h1, rfl⟩
    · rw [if_neg h2] at h; exact absurd h (show ¬ (1 : Int32) = 0 by decide)
  · rw [if_neg h1] at h; exact absurd h (show ¬ (1 : Int32) = 0 by decide)
theorem needsM_go {s g ip : Nat → Int32} {c : Int32} (h : needsM s g ip c 17 = 0) : s 17 = 0 ∧ needsM s g ip c 16 = s 16 + 1 := by
  unfold needsM at h ⊢
  by_cases h1 : s 17 = 0
  · rw [if_pos h1] at h ⊢
    by_cases h2 : hereM s g ip = c
    · rw [if_pos h2]; exact ⟨h1, rfl⟩
    · rw [if_neg h2] at h; exact absurd h (show ¬ (1 : Int32) = 0 by decide)
  · rw [if_neg h1] at h; exact absurd h (show ¬ (1 : Int32) = 0 by decide)
theorem tonL_go {g ip : Nat → Int32} {le : Int32} : ∀ (n many : Nat) (set : Int32) (s : Nat → Int32), (tonL g ip le set s many n).2 17 = 0 → s 17 = 0 ∧ ∃ j : Nat, j ≤ n ∧ (tonL g ip le set s many n).2 16 = s 16 + nI j
  | 0, _, _, s, h => ⟨h, 0, Nat.le_refl _, (Int32.add_zero _).symm⟩
  | n + 1, many, set, s, h => by
    rw [tonL] at h ⊢
    by_cases h1 : s 17 = 0
    · rw [if_pos h1] at h ⊢
      by_cases h2 : nI many < le ∨ inB (hereM s g ip) 48 57
      · rw [if_pos h2] at h ⊢
        obtain ⟨a, j, hj, e⟩ := tonL_go n (many + 1) _ _ h
        obtain ⟨_, e2⟩ := figM_go a
        refine ⟨h1, j + 1, by omega, ?_⟩
        rw [e, e2, Int32.add_assoc, Int32.add_comm 1, nI_1]
      · rw [if_neg h2]; exact ⟨h1, 0, Nat.zero_le _, (Int32.add_zero _).symm⟩
    · rw [if_neg h1] at h; exact absurd h h1
theorem tonM_go {s g ip : Nat → Int32} {le : Int32} (h : (tonM s g ip le).2 17 = 0) : s 17 = 0 ∧ ∃ j : Nat, j ≤ 5 ∧ (tonM s g ip le).2 16 = s 16 + nI j := tonL_go 5 0 0 s h
theorem pairM_go {s g ip td : Nat → Int32} {k : Nat} {sg : Int32} (h : (pairM s g ip td k sg).1 17 = 0) : s 17 = 0 ∧ (pairM s g ip td k sg).1 16 = s 16 + 1 + 1 + 1 := by
  obtain ⟨a, e1⟩ := figM_go (s := needsM (figM s g ip).2 g ip sg) (g := g) (ip := ip) h
  obtain ⟨b, e2⟩ := needsM_go a
  obtain ⟨c, e3⟩ := figM_go b
  exact ⟨c, by show (figM _ g ip).2 16 = _; rw [e1, e2, e3]⟩
theorem ordM_go {s g ip td : Nat → Int32} {k : Nat} : (ordM s g ip td k).1 17 = 0 → ∃ j : Nat, 2 ≤ j ∧ j ≤ 20 ∧ (ordM s g ip td k).1 16 = s 16 + nI j := by
  have h0 : ∀ a : Nat → Int32, a = upd s 16 (s 16 + 1) → a 16 = s 16 + 1 := fun a ha => by rw [ha]; rfl
  refine ordM_ind (M := fun x => x.1 17 = 0 → ∃ j : Nat, 2 ≤ j ∧ j ≤ 20 ∧ x.1 16 = s 16 + nI j) (fun a td1 t ha h => ?_) (fun a td1 sg ha h => ?_) (fun a t ha h => ?_) (fun a t ha h => ?_) (fun a t ha h => ?_)
  · obtain ⟨a1, j, hj, e⟩ := tonM_go h
    obtain ⟨b, e2⟩ := needsM_go a1
    obtain ⟨c, e3⟩ := figM_go b
    obtain ⟨d, e4⟩ := needsM_go c
    obtain ⟨_, e5⟩ := pairM_go d
    refine ⟨7 + j, by omega, by omega, ?_⟩
    show (tonM _ g ip 1).2 16 = _
    rw [e, e2, e3, e4, e5, h0 a ha, p1_7j]
  · refine ⟨4, by omega, by omega, ?_⟩
    show (pairM a g ip td1 k sg).1 16 = _
    rw [(pairM_go h).2, h0 a ha, p1_4]
  · obtain ⟨a1, j, hj, e⟩ := tonM_go h
    obtain ⟨b, e2⟩ := needsM_go a1
    obtain ⟨c, e3⟩ := figM_go b
    refine ⟨3 + j, by omega, by omega, ?_⟩
    show (tonM _ g ip 0).2 16 = _
    rw [e, e2, e3, h0 a ha, p1_3j]
  · refine ⟨2, by omega, by omega, ?_⟩
    show (figM a g ip).2 16 = _
    rw [(figM_go h).2, h0 a ha, p1_2]
  · exact absurd h (show ¬ (1 : Int32) = 0 by decide)
theorem ordM_next {z g ip t : Nat → Int32} {k p : Nat} (hz : z 16 = nI p) (hp : p ≤ 60) (hk : PK z 60) (h17 : (ordM z g ip t k).1 17 = 0) (h59 : hereM (ordM z g ip t k).1 g ip = 59) : ∃ p2 : Nat, (ordM z g ip t k).1 16 = nI p2 ∧ p + 2 ≤ p2 ∧ p2 < 60 := by
  obtain ⟨j, h1, h2, e⟩ := ordM_go h17
  have e2 : (ordM z g ip t k).1 16 = nI (p + j) := by rw [e, hz, nI_add]
  refine ⟨p + j, e2, by omega, ?_⟩
  unfold hereM at h59
  by_cases hx : (ordM z g ip t k).1 7 ≤ (ordM z g ip t k).1 16
  · rw [if_pos hx] at h59; exact absurd h59 (by decide)
  · obtain ⟨ty, hty, e3, -⟩ := okN_of (ordM_pk (g := g) (ip := ip) (td := t) (k := k) hk (by omega)).1
    rw [e2, e3] at hx
    have := Nat.lt_of_not_le (fun z9 => hx ((nI_leI (a := ty) (b := p + j) (by omega) (by omega)).mpr z9))
    omega
