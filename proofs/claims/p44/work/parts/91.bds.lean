/-! ===== what was built has a leaflet, and no text stands ===== -/
def AcP (s g s2 g2 : PR) : Prop := s2 7 = s 7 ∧ (g2 0 = g 0 ∨ (¬ g 0 = 8 ∧ g2 0 = g 0 + 1))
theorem laysM_p {s g : PR} {sh : Int32} : AcP s g (laysM s g sh).2.1 (laysM s g sh).2.2 := by
  unfold laysM
  split
  · split
    · exact ⟨rfl, Or.inl rfl⟩
    · split
      · exact ⟨rfl, Or.inl rfl⟩
      · rename_i h8 _
        refine ⟨rfl, Or.inr ⟨h8, ?_⟩⟩
        dsimp only
        rw [upd_at, upd_off (by omega)]
  · exact ⟨rfl, Or.inl rfl⟩
theorem addsM_p {s g : PR} {a b c d e : Int32} : AcP s g (addsM s g a b c d e).2.1 (addsM s g a b c d e).2.2 := by
  unfold addsM
  (repeat' split) <;> first | exact ⟨rfl, Or.inl rfl⟩ | exact ⟨rfl, Or.inl (by dsimp only; (repeat rw [upd_off (by omega)]))⟩
theorem foldsM_p {s g : PR} {a b : Int32} : AcP s g (foldsM s g a b).2.1 (foldsM s g a b).2.2 := by
  unfold foldsM
  (repeat' split) <;> first | exact ⟨rfl, Or.inl rfl⟩ | exact ⟨rfl, Or.inl (by dsimp only; (repeat rw [upd_off (by omega)]))⟩
theorem comesM_p {s g : PR} {a b : Int32} : AcP s g (comesM s g a b).2.1 (comesM s g a b).2.2 := by
  unfold comesM
  (repeat' split) <;> first | exact ⟨rfl, Or.inl rfl⟩ | exact ⟨rfl, Or.inl (by dsimp only; (repeat rw [upd_off (by omega)]))⟩
theorem learnsM_p {s g : PR} {a b : Int32} : AcP s g (learnsM s g a b).2.1 (learnsM s g a b).2.2 := by
  unfold learnsM
  (repeat' split) <;> first | exact ⟨rfl, Or.inl rfl⟩ | exact ⟨rfl, Or.inl (by dsimp only; (repeat rw [upd_off (by omega)]))⟩
theorem movesM_p {s g : PR} {a b : Int32} : AcP s g (movesM s g a b).2.1 (movesM s g a b).2.2 := by
  unfold movesM
  (repeat' split) <;> first | exact ⟨rfl, Or.inl rfl⟩ | exact ⟨rfl, Or.inl (by dsimp only; (repeat rw [upd_off (by omega)]))⟩
theorem losesM_p {s g : PR} {a b : Int32} : AcP s g (losesM s g a b).2.1 (losesM s g a b).2.2 := by
  unfold losesM
  (repeat' split) <;> first | exact ⟨rfl, Or.inl rfl⟩ | exact ⟨rfl, Or.inl (by dsimp only; (repeat rw [upd_off (by omega)]))⟩
theorem findsM_p {s g : PR} {a b : Int32} : AcP s g (findsM s g a b).2.1 (findsM s g a b).2.2 := by
  unfold findsM
  (repeat' split) <;> first | exact ⟨rfl, Or.inl rfl⟩ | exact ⟨rfl, Or.inl (by dsimp only; (repeat rw [upd_off (by omega)]))⟩
theorem buildsM_p {s g nd : PR} {a b : Int32} : AcP s g (buildsM s g nd a b).2.1 (buildsM s g nd a b).2.2.1 := by
  unfold buildsM
  (repeat' split) <;> first | exact ⟨rfl, Or.inl rfl⟩ | exact ⟨rfl, Or.inl (by dsimp only; (repeat rw [upd_off (by omega)]); exact getsM_lo (by decide) 6)⟩
theorem finishesM_p {s g nd : PR} {a b : Int32} : AcP s g (finishesM s g nd a b).2.1 (finishesM s g nd a b).2.2.1 := by
  unfold finishesM
  (repeat' split) <;> first | exact ⟨rfl, Or.inl rfl⟩ | exact ⟨rfl, Or.inl (by dsimp only; (repeat rw [upd_off (by omega)]); exact getsM_lo (by decide) 6)⟩
theorem apartM_p {s g nd : PR} {a : Int32} : AcP s g (apartM s g nd a).2.1 (apartM s g nd a).2.2.1 := by
  unfold apartM
  (repeat' split) <;> first | exact ⟨rfl, Or.inl rfl⟩ | exact ⟨rfl, Or.inl (by dsimp only; (repeat rw [upd_off (by omega)]); exact getsM_lo (by decide) 6)⟩
theorem kept_p {s g s2 g2 hs : PR} {v : Int32} (h : AcP s g s2 g2) : AcP s g (keptM s2 g2 g hs v).2.1 (keptM s2 g2 g hs v).2.2.1 := by
  obtain ⟨h7, h0⟩ := h
  unfold keptM
  (repeat' split) <;> first | exact ⟨h7, h0⟩ | exact ⟨h7, Or.inl rfl⟩
theorem act_p (S : StZ) (w : Nat) (a b c d e : Int32) : AcP S.1 S.2.1 (ob_act S w a b c d e).2.1 (ob_act S w a b c d e).2.2.1 := by
  show AcP S.1 S.2.1 (actR S w a b c d e).2.1 (actR S w a b c d e).2.2.1
  unfold actR
  split
  · exact kept_p laysM_p
  · show AcP S.1 S.2.1 (stepM S.1 S.2.1 zR S.2.2.1 a b c d (if e = 1 then 1 else 0)).2.1 (stepM S.1 S.2.1 zR S.2.2.1 a b c d (if e = 1 then 1 else 0)).2.2.1
    unfold stepM
    split
    · exact kept_p addsM_p
    · exact kept_p addsM_p
  · exact kept_p foldsM_p
  · exact kept_p foldsM_p
  · exact kept_p comesM_p
  · exact kept_p learnsM_p
  · exact kept_p buildsM_p
  · exact kept_p finishesM_p
  · exact kept_p apartM_p
  · exact kept_p movesM_p
  · exact kept_p losesM_p
  · exact kept_p findsM_p
/-- n leaflets, one at least; no text -/
def BdP (S : StZ) : Prop := S.1 7 = 0 ∧ ∃ n : Nat, 1 ≤ n ∧ n ≤ 8 ∧ S.2.1 0 = nI n
theorem act_b {S : StZ} {w : Nat} {a b c d e : Int32} (h : BdP S) : BdP (ob_act S w a b c d e).2 := by
  obtain ⟨h7, n, h1, h8, h0⟩ := h
  obtain ⟨a7, a0 | ⟨ne8, a0⟩⟩ := act_p S w a b c d e
  · exact ⟨a7.trans h7, n, h1, h8, a0.trans h0⟩
  · refine ⟨a7.trans h7, n + 1, by omega, ?_, by rw [a0, h0, nI_1]⟩
    have : ¬ n = 8 := fun z => ne8 (by rw [h0, z]; rfl)
    omega
theorem lay_1 : ∀ m : Nat, m < 4 → (ob_act zsZ 0 (nI m) 0 0 0 0).2.1 7 = 0 ∧ (ob_act zsZ 0 (nI m) 0 0 0 0).2.2.1 0 = nI 1 := by decide +kernel
theorem bdA_b (z : Int32) : ∀ M, BdP (bdA z zsZ (M + 1))
  | 0 => by
    obtain ⟨m, hm, e⟩ := and_nI (z >>> ((2 + 2 * nI 0) &&& 31)) 3 (by decide)
    obtain ⟨h7, h0⟩ := lay_1 m (by omega)
    show BdP (ob_act zsZ 0 ((z >>> ((2 + 2 * nI 0) &&& 31)) &&& 3) 0 0 0 0).2
    rw [show ((z >>> ((2 + 2 * nI 0) &&& 31)) &&& 3) = nI m from e]
    exact ⟨h7, 1, by decide, by decide, h0⟩
  | M + 1 => act_b (bdA_b z M)
theorem bdB_b {z : Int32} {S : StZ} (h : BdP S) : ∀ M, BdP (bdB z S M)
  | 0 => h
  | M + 1 => act_b (bdB_b h M)
theorem bc_b0 {c m f : Int32} {S : StZ} (h : BdP S) : BdP (bc_0 c m f S) := act_b (act_b h)
theorem bc_b1 {c m f : Int32} {S : StZ} (h : BdP S) : BdP (bc_1 c m f S) := by
  unfold bc_1
  split
  · exact act_b h
  · exact h
theorem bc_b2 {c m f : Int32} {S : StZ} (h : BdP S) : BdP (bc_2 c m f S) := by
  unfold bc_2
  split
  · exact act_b h
  · exact h
theorem bc_b3 {c m f : Int32} {S : StZ} (h : BdP S) : BdP (bc_3 c m f S) := by
  unfold bc_3
  split
  · exact act_b h
  · exact h
theorem bc_b4 {c m f : Int32} {S : StZ} (h : BdP S) : BdP (bc_4 c m f S) := by
  unfold bc_4
  split
  · exact act_b h
  · exact h
theorem bc_b5 {c m f : Int32} {S : StZ} (h : BdP S) : BdP (bc_5 c m f S) := by
  unfold bc_5
  split
  · exact act_b h
  · exact h
theorem bc_b6 {c m f : Int32} {S : StZ} (h : BdP S) : BdP (bc_6 c m f S) := by
  unfold bc_6
  split
  · exact act_b h
  · exact h
theorem bc_b7 {c m f : Int32} {S : StZ} (h : BdP S) : BdP (bc_7 c m f S) := by
  unfold bc_7
  split
  · exact act_b h
  · exact h
theorem bc_b8 {c m f : Int32} {S : StZ} (h : BdP S) : BdP (bc_8 c m f S) := by
  unfold bc_8
  split
  · exact act_b h
  · exact h
theorem bc_b9 {c m f : Int32} {S : StZ} (h : BdP S) : BdP (bc_9 c m f S) := by
  unfold bc_9
  split
  · exact act_b h
  · exact h
theorem bc_b10 {c m f : Int32} {S : StZ} (h : BdP S) : BdP (bc_10 c m f S) := by
  unfold bc_10
  split
  · exact act_b h
  · exact h
theorem bdK_b {c m f : Int32} {S : StZ} (h : BdP S) : BdP (bdK c m f S) := bc_b10 (bc_b9 (bc_b8 (bc_b7 (bc_b6 (bc_b5 (bc_b4 (bc_b3 (bc_b2 (bc_b1 (bc_b0 (h)))))))))))
theorem bdC_b {L : Nat} {xs : Nat → Int32} {S : StZ} (h : BdP S) : ∀ j, BdP (bdC L xs S j)
  | 0 => h
  | j + 1 => bdK_b (bdC_b h j)
theorem bdS_b (L : Nat) (xs : Nat → Int32) : BdP (bdS L xs) := by
  unfold bdS
  refine bdC_b (bdB_b ?_ _) 12
  obtain ⟨m, hm, e⟩ := and_nI (atV L xs 0) 3 (by decide)
  rw [show (atV L xs 0 &&& 3) = nI m from e, Int32.add_comm, show nI m + 1 = nI (m + 1) from nI_1 m, cN_nI (by omega)]
  exact bdA_b _ m
/-- what the law asks of it -/
theorem bdS_arch {G : FG} {σ : Nat → Option va_E} {x L : Nat} {xs : Nat → Int32} (h : CI G σ x (bdS L xs)) : ∃ n s, 1 ≤ n ∧ n ≤ 8 ∧ (bdS L xs).2.1 0 = nI n ∧ (bdS L xs).2.1 34 = nI s ∧ s ≤ 3 ∧ cntM (bdS L xs).2.1 (nI s) n ≤ 3 := by
  obtain ⟨-, n, h1, h8, h0⟩ := bdS_b L xs
  obtain ⟨hwf, -⟩ := h.wf
  have hc : cN ((bdS L xs).2.1 0) = n := by rw [h0]; exact cN_nI (by omega)
  obtain ⟨s, hs, e, -⟩ := okN_of (hwf.2.1 0 (by rw [hc]; exact h1)).1
  have h3 := hwf.2.2.2.1 (nI s)
  rw [hc] at h3
  exact ⟨n, s, h1, h8, h0, e, hs, h3⟩
