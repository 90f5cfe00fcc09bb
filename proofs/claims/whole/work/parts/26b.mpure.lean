/-! ===== what the reference's reading and its orders leave true ===== -/
theorem figM_3 {s g ip : Nat → Int32} : (figM s g ip).2 3 = s 3 := by
  unfold figM
  (repeat' split) <;> rfl
theorem needsM_3 {s g ip : Nat → Int32} {c : Int32} : needsM s g ip c 3 = s 3 := by
  unfold needsM
  (repeat' split) <;> rfl
theorem tonL_3 {g ip : Nat → Int32} {le : Int32} : ∀ (n many : Nat) (set : Int32) (s : Nat → Int32), (tonL g ip le set s many n).2 3 = s 3
  | 0, _, _, _ => rfl
  | n + 1, many, set, s => by
    rw [tonL]
    split
    · split
      · rw [tonL_3 n]; exact figM_3
      · rfl
    · rfl
theorem tonM_3 {s g ip : Nat → Int32} {le : Int32} : (tonM s g ip le).2 3 = s 3 := tonL_3 5 0 0 s
theorem pairM_3 {s g ip td : Nat → Int32} {k : Nat} {sg : Int32} : (pairM s g ip td k sg).1 3 = s 3 := by
  show (figM _ g ip).2 3 = s 3
  rw [figM_3, needsM_3, figM_3]
theorem ord_if {α β : Type} {M : α → Prop} {p : Prop} [Decidable p] {x y : α × β} (h1 : p → M x.1) (h2 : ¬ p → M y.1) : M (if p then x else y).1 := by
  by_cases h : p
  · rw [if_pos h]; exact h1 h
  · rw [if_neg h]; exact h2 h
theorem ordM_ind {s g ip td : Nat → Int32} {k : Nat} {M : (Nat → Int32) → Prop}
    (h1 : ∀ a td1 b c d e f : Nat → Int32, a = upd s 16 (s 16 + 1) → b = (pairM a g ip td1 k 58).1 → c = needsM b g ip 42 → d = (figM c g ip).2 → e = needsM d g ip 61 → f = (tonM e g ip 1).2 → M f)
    (h2 : ∀ (a td1 b : Nat → Int32) (sg : Int32), a = upd s 16 (s 16 + 1) → b = (pairM a g ip td1 k sg).1 → M b)
    (h3 : ∀ a d e f : Nat → Int32, a = upd s 16 (s 16 + 1) → d = (figM a g ip).2 → e = needsM d g ip 61 → f = (tonM e g ip 0).2 → M f)
    (h4 : ∀ a d : Nat → Int32, a = upd s 16 (s 16 + 1) → d = (figM a g ip).2 → M d)
    (h5 : ∀ a b : Nat → Int32, a = upd s 16 (s 16 + 1) → b = upd (upd a 17 1) 16 (s 16 + 1 - 1) → M b) : M (ordM s g ip td k).1 := by
  have k1 := h1 (upd s 16 (s 16 + 1)) (upd td k (hereM s g ip)) _ _ _ _ _ rfl rfl rfl rfl rfl rfl
  unfold ordM
  refine ord_if (fun _ => by dsimp only; exact k1) (fun _ => ?_)
  refine ord_if (fun _ => h2 (upd s 16 (s 16 + 1)) (upd td k (hereM s g ip)) _ _ rfl rfl) (fun _ => ?_)
  refine ord_if (fun _ => h3 (upd s 16 (s 16 + 1)) _ _ _ rfl rfl rfl rfl) (fun _ => ?_)
  refine ord_if (fun _ => h2 (upd s 16 (s 16 + 1)) (upd td k (hereM s g ip)) _ _ rfl rfl) (fun _ => ?_)
  refine ord_if (fun _ => h4 (upd s 16 (s 16 + 1)) _ rfl rfl) (fun _ => ?_)
  refine ord_if (fun _ => h4 (upd s 16 (s 16 + 1)) _ rfl rfl) (fun _ => ?_)
  refine ord_if (fun _ => h2 (upd s 16 (s 16 + 1)) (upd td k (hereM s g ip)) _ _ rfl rfl) (fun _ => ?_)
  refine ord_if (fun _ => by dsimp only; exact k1) (fun _ => ?_)
  refine ord_if (fun _ => h4 (upd s 16 (s 16 + 1)) _ rfl rfl) (fun _ => ?_)
  refine ord_if (fun _ => h4 (upd s 16 (s 16 + 1)) _ rfl rfl) (fun _ => ?_)
  refine ord_if (fun _ => h2 (upd s 16 (s 16 + 1)) (upd td k (hereM s g ip)) _ _ rfl rfl) (fun _ => ?_)
  refine ord_if (fun _ => h2 (upd s 16 (s 16 + 1)) (upd td k (hereM s g ip)) _ _ rfl rfl) (fun _ => ?_)
  exact h5 (upd s 16 (s 16 + 1)) _ rfl rfl
theorem ordM_3 {s g ip td : Nat → Int32} {k : Nat} : (ordM s g ip td k).1 3 = s 3 := by
  refine ordM_ind (M := fun x => x 3 = s 3) (fun a td1 b c d e f ha hb1 hc1 hd1 he1 hf1 => ?_) (fun a td1 b sg ha hb1 => ?_) (fun a d e f ha hd1 he1 hf1 => ?_) (fun a d ha hd1 => ?_) (fun a b ha hb1 => ?_)
  · rw [hf1, tonM_3, he1, needsM_3, hd1, figM_3, hc1, needsM_3, hb1, pairM_3, ha]; rfl
  · rw [hb1, pairM_3, ha]; rfl
  · rw [hf1, tonM_3, he1, needsM_3, hd1, figM_3, ha]; rfl
  · rw [hd1, figM_3, ha]; rfl
  · rw [hb1, ha]; rfl
theorem ordM_pk {s g ip td : Nat → Int32} {k b : Nat} (h : PK s b) (hb : b < 8000) : PK (ordM s g ip td k).1 (b + 20) := by
  have h0 : ∀ a : Nat → Int32, a = upd s 16 (s 16 + 1) → PK a (b + 1) := fun a ha => by rw [ha]; exact PK_16 h (by omega)
  refine ordM_ind (M := fun x => PK x (b + 20)) (fun a td1 b1 c d e f ha hb1 hc1 hd1 he1 hf1 => ?_) (fun a td1 b1 sg ha hb1 => ?_) (fun a d e f ha hd1 he1 hf1 => ?_) (fun a d ha hd1 => ?_) (fun a b1 ha hb1 => ?_)
  · have e1 : PK b1 (b + 4) := by rw [hb1]; exact pairM_pk (h0 a ha) (by omega)
    have e2 : PK c (b + 5) := by rw [hc1]; exact needsM_pk e1 (by omega)
    have e3 : PK d (b + 6) := by rw [hd1]; exact figM_pk e2 (by omega)
    have e4 : PK e (b + 7) := by rw [he1]; exact needsM_pk e3 (by omega)
    have e5 : PK f (b + 12) := by rw [hf1]; exact tonM_pk e4 (by omega)
    exact PK_le e5 (by omega)
  · have e1 : PK b1 (b + 4) := by rw [hb1]; exact pairM_pk (h0 a ha) (by omega)
    exact PK_le e1 (by omega)
  · have e3 : PK d (b + 2) := by rw [hd1]; exact figM_pk (h0 a ha) (by omega)
    have e4 : PK e (b + 3) := by rw [he1]; exact needsM_pk e3 (by omega)
    have e5 : PK f (b + 8) := by rw [hf1]; exact tonM_pk e4 (by omega)
    exact PK_le e5 (by omega)
  · have e3 : PK d (b + 2) := by rw [hd1]; exact figM_pk (h0 a ha) (by omega)
    exact PK_le e3 (by omega)
  · rw [hb1]
    refine ⟨(h0 a ha).1, ?_⟩
    show okN (s 16 + 1 - 1) _
    rw [Int32.add_sub_cancel]; exact okN_le h.2 (by omega)
theorem p1_2 (x : Int32) : x + 1 + 1 = x + nI 2 := by rw [Int32.add_assoc]; rfl
theorem p1_4 (x : Int32) : x + 1 + 1 + 1 + 1 = x + nI 4 := by simp only [Int32.add_assoc]; rfl
theorem p1_3j (x : Int32) (j : Nat) : x + 1 + 1 + 1 + nI j = x + nI (3 + j) := by rw [← nI_add, show nI 3 = 1 + 1 + 1 from rfl]; simp only [Int32.add_assoc]
theorem p1_7j (x : Int32) (j : Nat) : x + 1 + 1 + 1 + 1 + 1 + 1 + 1 + nI j = x + nI (7 + j) := by rw [← nI_add, show nI 7 = 1 + 1 + 1 + 1 + 1 + 1 + 1 from rfl]; simp only [Int32.add_assoc]
/-- how far a piece reads when nothing is wrong -/
theorem figM_go {s g ip : Nat → Int32} (h : (figM s g ip).2 17 = 0) : s 17 = 0 ∧ (figM s g ip).2 16 = s 16 + 1 := by
  unfold figM at h ⊢
  by_cases h1 : s 17 = 0
  · rw [if_pos h1] at h ⊢
    by_cases h2 : inB (hereM s g ip) 48 57
    · rw [if_pos h2]; exact ⟨h1, rfl⟩
    · rw [if_neg h2] at h; exact absurd h (show ¬ (1 : Int32) = 0 by decide)
  · rw [if_neg h1] at h; exact absurd h (show ¬ (1 : Int32) = 0 by decide)
theorem needsM_go {s g ip : Nat → Int32} {c : Int32} (h : needsM s g ip c 17 = 0) : s 17 = 0 ∧ needsM s g ip c 16 = s 16 + 1 := by
  unfold needsM at h ⊢
  by_cases h1 : s 17 = 0
  · rw [if_pos h1] at h ⊢
    by_cases h2 : hereM s g ip = c
    · rw [if_pos h2]; exact ⟨h1, rfl⟩
    · rw [if_neg h2] at h; exact absurd h (show ¬ (1 : Int32) = 0 by decide)
  · rw [if_neg h1] at h; exact absurd h (show ¬ (1 : Int32) = 0 by decide)
theorem tonL_go {g ip : Nat → Int32} {le : Int32} : ∀ (n many : Nat) (set : Int32) (s : Nat → Int32), (tonL g ip le set s many n).2 17 = 0 → s 17 = 0 ∧ ∃ j : Nat, j ≤ n ∧ (tonL g ip le set s many n).2 16 = s 16 + nI j
  | 0, _, _, s, h => ⟨h, 0, Nat.le_refl _, (Int32.add_zero _).symm⟩
  | n + 1, many, set, s, h => by
    rw [tonL] at h ⊢
    by_cases h1 : s 17 = 0
    · rw [if_pos h1] at h ⊢
      by_cases h2 : nI many < le ∨ inB (hereM s g ip) 48 57
      · rw [if_pos h2] at h ⊢
        obtain ⟨a, j, hj, e⟩ := tonL_go n (many + 1) _ _ h
        obtain ⟨_, e2⟩ := figM_go a
        refine ⟨h1, j + 1, by omega, ?_⟩
        rw [e, e2, Int32.add_assoc, Int32.add_comm 1, nI_1]
      · rw [if_neg h2]; exact ⟨h1, 0, Nat.zero_le _, (Int32.add_zero _).symm⟩
    · rw [if_neg h1] at h; exact absurd h h1
theorem tonM_go {s g ip : Nat → Int32} {le : Int32} (h : (tonM s g ip le).2 17 = 0) : s 17 = 0 ∧ ∃ j : Nat, j ≤ 5 ∧ (tonM s g ip le).2 16 = s 16 + nI j := tonL_go 5 0 0 s h
theorem pairM_go {s g ip td : Nat → Int32} {k : Nat} {sg : Int32} (h : (pairM s g ip td k sg).1 17 = 0) : s 17 = 0 ∧ (pairM s g ip td k sg).1 16 = s 16 + 1 + 1 + 1 := by
  obtain ⟨a, e1⟩ := figM_go (s := needsM (figM s g ip).2 g ip sg) (g := g) (ip := ip) h
  obtain ⟨b, e2⟩ := needsM_go a
  obtain ⟨c, e3⟩ := figM_go b
  exact ⟨c, by show (figM _ g ip).2 16 = _; rw [e1, e2, e3]⟩
theorem ordM_go {s g ip td : Nat → Int32} {k : Nat} : (ordM s g ip td k).1 17 = 0 → ∃ j : Nat, 2 ≤ j ∧ j ≤ 20 ∧ (ordM s g ip td k).1 16 = s 16 + nI j := by
  have h0 : ∀ a : Nat → Int32, a = upd s 16 (s 16 + 1) → a 16 = s 16 + 1 := fun a ha => by rw [ha]; rfl
  refine ordM_ind (M := fun x => x 17 = 0 → ∃ j : Nat, 2 ≤ j ∧ j ≤ 20 ∧ x 16 = s 16 + nI j) (fun a td1 b c d e f ha hb1 hc1 hd1 he1 hf1 h => ?_) (fun a td1 b sg ha hb1 h => ?_) (fun a d e f ha hd1 he1 hf1 h => ?_) (fun a d ha hd1 h => ?_) (fun a b ha hb1 h => ?_)
  · rw [hf1] at h ⊢
    obtain ⟨a1, j, hj, e1⟩ := tonM_go h
    rw [he1] at a1
    obtain ⟨b1, e2⟩ := needsM_go a1
    rw [hd1] at b1
    obtain ⟨c1, e3⟩ := figM_go b1
    rw [hc1] at c1
    obtain ⟨d1, e4⟩ := needsM_go c1
    rw [hb1] at d1
    obtain ⟨_, e5⟩ := pairM_go d1
    refine ⟨7 + j, by omega, by omega, ?_⟩
    rw [e1, he1, e2, hd1, e3, hc1, e4, hb1, e5, h0 a ha, p1_7j]
  · rw [hb1] at h ⊢
    refine ⟨4, by omega, by omega, ?_⟩
    rw [(pairM_go h).2, h0 a ha, p1_4]
  · rw [hf1] at h ⊢
    obtain ⟨a1, j, hj, e1⟩ := tonM_go h
    rw [he1] at a1
    obtain ⟨b1, e2⟩ := needsM_go a1
    rw [hd1] at b1
    obtain ⟨c1, e3⟩ := figM_go b1
    refine ⟨3 + j, by omega, by omega, ?_⟩
    rw [e1, he1, e2, hd1, e3, h0 a ha, p1_3j]
  · rw [hd1] at h ⊢
    refine ⟨2, by omega, by omega, ?_⟩
    rw [(figM_go h).2, h0 a ha, p1_2]
  · rw [hb1] at h
    exact absurd h (show ¬ (1 : Int32) = 0 by decide)
theorem ordM_next {z g ip t : Nat → Int32} {k p : Nat} (hz : z 16 = nI p) (hp : p ≤ 60) (hk : PK z 60) (h17 : (ordM z g ip t k).1 17 = 0) (h59 : hereM (ordM z g ip t k).1 g ip = 59) : ∃ p2 : Nat, (ordM z g ip t k).1 16 = nI p2 ∧ p + 2 ≤ p2 ∧ p2 < 60 := by
  obtain ⟨j, h1, h2, e⟩ := ordM_go h17
  have e2 : (ordM z g ip t k).1 16 = nI (p + j) := by rw [e, hz, nI_add]
  refine ⟨p + j, e2, by omega, ?_⟩
  unfold hereM at h59
  by_cases hx : (ordM z g ip t k).1 7 ≤ (ordM z g ip t k).1 16
  · rw [if_pos hx] at h59; exact absurd h59 (by decide)
  · obtain ⟨ty, hty, e3, -⟩ := okN_of (ordM_pk (g := g) (ip := ip) (td := t) (k := k) hk (by omega)).1
    rw [e2, e3] at hx
    have := Nat.lt_of_not_le (fun z9 => hx ((nI_leI (a := ty) (b := p + j) (by omega) (by omega)).mpr z9))
    omega
