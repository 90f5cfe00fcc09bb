/-! ===== what the reference's changes leave true ===== -/
abbrev M3 : Type := Int32 × (Nat → Int32) × (Nat → Int32)
abbrev M4 : Type := Int32 × (Nat → Int32) × (Nat → Int32) × (Nat → Int32)
theorem ite_M {α : Type} {M : α → Prop} {p : Prop} [Decidable p] {x y : α} (h1 : p → M x) (h2 : ¬ p → M y) : M (if p then x else y) := by
  by_cases h : p
  · rw [if_pos h]; exact h1 h
  · rw [if_neg h]; exact h2 h
/-- the rows behind the last leaflet are empty -/
def WFZ (g : Nat → Int32) : Prop := WFM g ∧ ∀ j : Nat, cN (g 0) ≤ j → j < 8 → g (18 + j) = 0 ∧ g (26 + j) = 0 ∧ g (42 + j) = 0 ∧ g (50 + j) = 0
theorem WFZ.eq {g h : Nat → Int32} (hz : WFZ g) (he : ∀ i : Nat, i = 0 ∨ i = 1 ∨ (18 ≤ i ∧ i < 34) ∨ (68 ≤ i ∧ i < 132) → h i = g i) (h2 : ∀ j : Nat, cN (g 0) ≤ j → j < 8 → h (42 + j) = 0 ∧ h (50 + j) = 0) : WFZ h := by
  have e0 := he 0 (by omega)
  obtain ⟨c, hc8, hc, hcc⟩ := okN_of hz.1.1
  refine ⟨⟨by rw [e0]; exact hz.1.1, by rw [he 1 (by omega)]; exact hz.1.2.1, fun j hj => ?_⟩, fun j hj hj8 => ?_⟩
  · rw [e0] at hj
    have h9 := hz.1.2.2 j hj
    have e1 := he (18 + j) (by omega)
    refine ⟨by rw [e1]; exact h9.1, by rw [he (26 + j) (by omega)]; exact h9.2.1, fun q hq => ?_⟩
    rw [e1] at hq
    have := h9.1.2
    rw [he (68 + 8 * j + q) (by omega)]
    exact h9.2.2 q hq
  · rw [e0] at hj
    have h9 := hz.2 j hj hj8
    exact ⟨by rw [he (18 + j) (by omega)]; exact h9.1, by rw [he (26 + j) (by omega)]; exact h9.2.1, h2 j hj hj8⟩
theorem WFZ.row {g : Nat → Int32} (hz : WFZ g) : ∃ c : Nat, c ≤ 8 ∧ g 0 = nI c ∧ cN (g 0) = c := okN_of hz.1.1
theorem laysM_wf {s g : Nat → Int32} {sh : Int32} (hz : WFZ g) : WFZ (laysM s g sh).2.2 := by
  obtain ⟨c, hc8, hc, hcc⟩ := hz.row
  unfold laysM
  refine ite_M (M := fun r : M3 => WFZ r.2.2) (fun _ => ?_) (fun _ => hz)
  refine ite_M (M := fun r : M3 => WFZ r.2.2) (fun _ => hz) (fun n8 => ?_)
  refine ite_M (M := fun r : M3 => WFZ r.2.2) (fun _ => hz) (fun _ => ?_)
  have hc7 : c < 8 := by rcases Nat.lt_or_ge c 8 with h9 | h9; exact h9; exact absurd (by rw [hc, show c = 8 by omega]; rfl) n8
  rw [hcc]
  show WFZ (upd (upd g (34 + c) sh) 0 (upd g (34 + c) sh 0 + 1))
  obtain ⟨h, hh⟩ : ∃ h, h = upd (upd g (34 + c) sh) 0 (upd g (34 + c) sh 0 + 1) := ⟨_, rfl⟩
  rw [← hh]
  have e0 : h 0 = nI (c + 1) := by rw [hh, upd_at, upd_off (by omega), hc, nI_1]
  have e0c : cN (h 0) = c + 1 := by rw [e0]; exact cN_nI (by omega)
  have ho : ∀ i : Nat, ¬ i = 0 → ¬ i = 34 + c → h i = g i := fun i h1 h2 => by rw [hh, upd_off h1, upd_off h2]
  refine ⟨⟨okN_mk e0 (by omega) (by omega), by rw [ho 1 (by omega) (by omega)]; exact hz.1.2.1, fun j hj => ?_⟩, fun j hj hj8 => ?_⟩
  · rw [e0c] at hj
    rw [ho (18 + j) (by omega) (by omega), ho (26 + j) (by omega) (by omega)]
    by_cases hjc : j < c
    · have h9 := hz.1.2.2 j (by rw [hcc]; exact hjc)
      refine ⟨h9.1, h9.2.1, fun q hq => ?_⟩
      have := h9.1.2
      rw [ho (68 + 8 * j + q) (by omega) (by omega)]
      exact h9.2.2 q hq
    · have h9 := hz.2 j (by rw [hcc]; omega) (by omega)
      rw [h9.1, h9.2.1]
      exact ⟨okN_le okN_0 (by omega), okN_le okN_0 (by omega), fun q hq => absurd hq (Nat.not_lt_zero _)⟩
  · rw [e0c] at hj
    have h9 := hz.2 j (by rw [hcc]; omega) hj8
    rw [ho (18 + j) (by omega) (by omega), ho (26 + j) (by omega) (by omega), ho (42 + j) (by omega) (by omega), ho (50 + j) (by omega) (by omega)]
    exact h9
theorem addsM_wf {s g : Nat → Int32} {lf kd ps la sd : Int32} (hz : WFZ g) : WFZ (addsM s g lf kd ps la sd).2.2 := by
  obtain ⟨c, hc8, hc, hcc⟩ := hz.row
  unfold addsM
  refine ite_M (M := fun r : M3 => WFZ r.2.2) (fun hl => ?_) (fun _ => hz)
  refine ite_M (M := fun r : M3 => WFZ r.2.2) (fun hkd => ?_) (fun _ => hz)
  refine ite_M (M := fun r : M3 => WFZ r.2.2) (fun _ => ?_) (fun _ => hz)
  refine ite_M (M := fun r : M3 => WFZ r.2.2) (fun _ => ?_) (fun _ => hz)
  refine ite_M (M := fun r : M3 => WFZ r.2.2) (fun _ => ?_) (fun _ => hz)
  refine ite_M (M := fun r : M3 => WFZ r.2.2) (fun _ => hz) (fun n8 => ?_)
  obtain ⟨j, hj2, rfl⟩ := in_c hc hc8 hl
  obtain ⟨kq, hk5, rfl⟩ := in_n (n := 5) (by decide) hkd
  rw [cN_nI (show j < 2 ^ 31 by omega)] at n8 ⊢
  obtain ⟨n, hn8, hn, hnn⟩ := okN_of (hz.1.2.2 j (by rw [hcc]; exact hj2)).1
  have hn7 : n < 8 := by rcases Nat.lt_or_ge n 8 with h9 | h9; exact h9; exact absurd (by rw [hn, show n = 8 by omega]; rfl) n8
  rw [hnn]
  dsimp only
  obtain ⟨h4, hh4⟩ : ∃ h, h = upd (upd (upd (upd g (68 + 8 * j + n) (nI kq)) (132 + 8 * j + n) ps) (196 + 8 * j + n) la) (260 + 8 * j + n) sd := ⟨_, rfl⟩
  rw [← hh4]
  have e4 : ∀ i : Nat, ¬ i = 68 + 8 * j + n → i < 132 → h4 i = g i := fun i h1 h2 => by rw [hh4, upd_off (by omega), upd_off (by omega), upd_off (by omega), upd_off h1]
  obtain ⟨h, hh⟩ : ∃ h, h = upd h4 (18 + j) (h4 (18 + j) + 1) := ⟨_, rfl⟩
  rw [← hh]
  have e5 : ∀ i : Nat, ¬ i = 18 + j → h i = h4 i := fun i h1 => by rw [hh, upd_off h1]
  have e18 : h (18 + j) = nI (n + 1) := by rw [hh, upd_at, e4 _ (by omega) (by omega), hn, nI_1]
  have e68 : h (68 + 8 * j + n) = nI kq := by rw [e5 _ (by omega), hh4, upd_off (by omega), upd_off (by omega), upd_off (by omega), upd_at]
  have e0 : h 0 = g 0 := by rw [e5 _ (by omega), e4 _ (by omega) (by omega)]
  refine ⟨⟨by rw [e0]; exact hz.1.1, by rw [e5 _ (by omega), e4 _ (by omega) (by omega)]; exact hz.1.2.1, fun i hi => ?_⟩, fun i hi hi8 => ?_⟩
  · rw [e0, hcc] at hi
    have h9 := hz.1.2.2 i (by rw [hcc]; exact hi)
    have h26 : h (26 + i) = g (26 + i) := by rw [e5 _ (by omega), e4 _ (by omega) (by omega)]
    rw [h26]
    by_cases hij : i = j
    · subst hij
      rw [e18]
      refine ⟨okN_mk rfl (by omega) (by omega), h9.2.1, fun q hq => ?_⟩
      rw [cN_nI (by omega)] at hq
      by_cases hqn : q = n
      · subst hqn; rw [e68]; exact okN_mk rfl hk5 (by decide)
      · rw [e5 _ (by omega), e4 _ (by omega) (by omega)]
        exact h9.2.2 q (by rw [hnn]; omega)
    · have h18 : h (18 + i) = g (18 + i) := by rw [e5 _ (by omega), e4 _ (by omega) (by omega)]
      rw [h18]
      refine ⟨h9.1, h9.2.1, fun q hq => ?_⟩
      have := h9.1.2
      rw [e5 _ (by omega), e4 _ (by omega) (by omega)]
      exact h9.2.2 q hq
  · rw [e0, hcc] at hi
    have h9 := hz.2 i (by rw [hcc]; exact hi) hi8
    rw [e5 _ (by omega), e4 _ (by omega) (by omega), e5 (26 + i) (by omega), e4 (26 + i) (by omega) (by omega), e5 (42 + i) (by omega), e4 (42 + i) (by omega) (by omega), e5 (50 + i) (by omega), e4 (50 + i) (by omega) (by omega)]
    exact h9
theorem foldsM_wf {s g : Nat → Int32} {lf b9 : Int32} (hz : WFZ g) : WFZ (foldsM s g lf b9).2.2 := by
  obtain ⟨c, hc8, hc, hcc⟩ := hz.row
  unfold foldsM
  refine ite_M (M := fun r : M3 => WFZ r.2.2) (fun hl => ?_) (fun _ => hz)
  refine ite_M (M := fun r : M3 => WFZ r.2.2) (fun _ => ?_) (fun _ => hz)
  refine ite_M (M := fun r : M3 => WFZ r.2.2) (fun hb => ?_) (fun _ => hz)
  obtain ⟨j, hj2, rfl⟩ := in_c hc hc8 hl
  rw [cN_nI (show j < 2 ^ 31 by omega)] at hb ⊢
  obtain ⟨f0, hf3, hfe⟩ := in_n (n := 3) (by decide) hb
  rw [hfe]
  show WFZ (upd g (26 + j) (nI f0))
  obtain ⟨h, hh⟩ : ∃ h, h = upd g (26 + j) (nI f0) := ⟨_, rfl⟩
  rw [← hh]
  have ho : ∀ i : Nat, ¬ i = 26 + j → h i = g i := fun i h1 => by rw [hh, upd_off h1]
  have e0 : h 0 = g 0 := ho _ (by omega)
  refine ⟨⟨by rw [e0]; exact hz.1.1, by rw [ho _ (by omega)]; exact hz.1.2.1, fun i hi => ?_⟩, fun i hi hi8 => ?_⟩
  · rw [e0, hcc] at hi
    have h9 := hz.1.2.2 i (by rw [hcc]; exact hi)
    rw [ho (18 + i) (by omega)]
    refine ⟨h9.1, ?_, fun q hq => ?_⟩
    · by_cases hij : i = j
      · subst hij; rw [hh, upd_at]; exact okN_mk rfl hf3 (by decide)
      · rw [ho _ (by omega)]; exact h9.2.1
    · have := h9.1.2
      rw [ho _ (by omega)]
      exact h9.2.2 q hq
  · rw [e0, hcc] at hi
    have h9 := hz.2 i (by rw [hcc]; exact hi) hi8
    rw [ho _ (by omega), ho (26 + i) (by omega), ho (42 + i) (by omega), ho (50 + i) (by omega)]
    exact h9
theorem comesM_wf {s g : Nat → Int32} {bo la : Int32} (hz : WFZ g) : WFZ (comesM s g bo la).2.2 := by
  obtain ⟨cc, hd5, hd, hdd⟩ := okN_of hz.1.2.1
  unfold comesM
  refine ite_M (M := fun r : M3 => WFZ r.2.2) (fun _ => ?_) (fun _ => hz)
  refine ite_M (M := fun r : M3 => WFZ r.2.2) (fun _ => ?_) (fun _ => hz)
  refine ite_M (M := fun r : M3 => WFZ r.2.2) (fun _ => hz) (fun n5 => ?_)
  have hd4 : cc < 5 := by rcases Nat.lt_or_ge cc 5 with h9 | h9; exact h9; exact absurd (by rw [hd, show cc = 5 by omega]; rfl) n5
  rw [hdd]
  dsimp only
  obtain ⟨h1, hh1⟩ : ∃ h, h = upd (upd g (58 + cc) bo) (63 + cc) la := ⟨_, rfl⟩
  rw [← hh1]
  have e1 : ∀ i : Nat, i < 58 ∨ 68 ≤ i → h1 i = g i := fun i hi => by rw [hh1, upd_off (by omega), upd_off (by omega)]
  obtain ⟨h, hh⟩ : ∃ h, h = upd h1 1 (h1 1 + 1) := ⟨_, rfl⟩
  rw [← hh]
  have ho : ∀ i : Nat, ¬ i = 1 → i < 58 ∨ 68 ≤ i → h i = g i := fun i h2 h3 => by rw [hh, upd_off h2, e1 i h3]
  have e0 : h 0 = g 0 := ho _ (by omega) (by omega)
  refine ⟨⟨by rw [e0]; exact hz.1.1, ?_, fun i hi => ?_⟩, fun i hi hi8 => ?_⟩
  · rw [hh, upd_at, e1 1 (by omega), hd, nI_1]; exact okN_mk rfl (by omega) (by decide)
  · rw [e0] at hi
    have h9 := hz.1.2.2 i hi
    have h8 := hz.1.1.2
    have h7 := h9.1.2
    rw [ho (18 + i) (by omega) (by omega), ho (26 + i) (by omega) (by omega)]
    exact ⟨h9.1, h9.2.1, fun q hq => by rw [ho (68 + 8 * i + q) (by omega) (by omega)]; exact h9.2.2 q hq⟩
  · rw [e0] at hi
    rw [ho (18 + i) (by omega) (by omega), ho (26 + i) (by omega) (by omega), ho (42 + i) (by omega) (by omega), ho (50 + i) (by omega) (by omega)]
    exact hz.2 i hi hi8
theorem learnsM_wf {s g : Nat → Int32} {co la : Int32} (hz : WFZ g) : WFZ (learnsM s g co la).2.2 := by
  obtain ⟨cc, hd5, hd, hdd⟩ := okN_of hz.1.2.1
  unfold learnsM
  refine ite_M (M := fun r : M3 => WFZ r.2.2) (fun hl => ?_) (fun _ => hz)
  refine ite_M (M := fun r : M3 => WFZ r.2.2) (fun _ => ?_) (fun _ => hz)
  refine ite_M (M := fun r : M3 => WFZ r.2.2) (fun _ => hz) (fun _ => ?_)
  obtain ⟨i, hi2, rfl⟩ := in_c hd (by omega) hl
  rw [cN_nI (show i < 2 ^ 31 by omega)]
  dsimp only
  exact hz.eq (fun q hq => upd_off (by omega)) (fun j h1 h2 => by rw [upd_off (by omega), upd_off (by omega)]; exact (hz.2 j h1 h2).2.2)
theorem movesM_wf {s g : Nat → Int32} {lf sh : Int32} (hz : WFZ g) : WFZ (movesM s g lf sh).2.2 := by
  obtain ⟨c, hc8, hc, hcc⟩ := hz.row
  unfold movesM
  refine ite_M (M := fun r : M3 => WFZ r.2.2) (fun hl => ?_) (fun _ => hz)
  refine ite_M (M := fun r : M3 => WFZ r.2.2) (fun _ => ?_) (fun _ => hz)
  refine ite_M (M := fun r : M3 => WFZ r.2.2) (fun _ => hz) (fun _ => ?_)
  refine ite_M (M := fun r : M3 => WFZ r.2.2) (fun _ => hz) (fun _ => ?_)
  obtain ⟨j, hj2, rfl⟩ := in_c hc hc8 hl
  rw [cN_nI (show j < 2 ^ 31 by omega)]
  dsimp only
  exact hz.eq (fun q hq => upd_off (by omega)) (fun j h1 h2 => by rw [upd_off (by omega), upd_off (by omega)]; exact (hz.2 j h1 h2).2.2)
theorem losesM_wf {s g : Nat → Int32} {kd ps : Int32} (hz : WFZ g) : WFZ (losesM s g kd ps).2.2 := by
  unfold losesM
  refine ite_M (M := fun r : M3 => WFZ r.2.2) (fun hl => ?_) (fun _ => hz)
  refine ite_M (M := fun r : M3 => WFZ r.2.2) (fun _ => ?_) (fun _ => hz)
  refine ite_M (M := fun r : M3 => WFZ r.2.2) (fun _ => ?_) (fun _ => hz)
  obtain ⟨j, hj2, rfl⟩ := in_n (n := 5) (by decide) hl
  rw [cN_nI (show j < 2 ^ 31 by omega)]
  dsimp only
  exact hz.eq (fun q hq => by rw [upd_off (by omega), upd_off (by omega)]) (fun i h1 h2 => by rw [upd_off (by omega), upd_off (by omega), upd_off (by omega), upd_off (by omega)]; exact (hz.2 i h1 h2).2.2)
theorem findsM_wf {s g : Nat → Int32} {kd ps : Int32} (hz : WFZ g) : WFZ (findsM s g kd ps).2.2 := by
  unfold findsM
  refine ite_M (M := fun r : M3 => WFZ r.2.2) (fun hl => ?_) (fun _ => hz)
  refine ite_M (M := fun r : M3 => WFZ r.2.2) (fun _ => ?_) (fun _ => hz)
  refine ite_M (M := fun r : M3 => WFZ r.2.2) (fun _ => ?_) (fun _ => hz)
  obtain ⟨j, hj2, rfl⟩ := in_n (n := 5) (by decide) hl
  rw [cN_nI (show j < 2 ^ 31 by omega)]
  dsimp only
  exact hz.eq (fun q hq => by rw [upd_off (by omega), upd_off (by omega)]) (fun i h1 h2 => by rw [upd_off (by omega), upd_off (by omega), upd_off (by omega), upd_off (by omega)]; exact (hz.2 i h1 h2).2.2)
theorem getsM_out {g nd : Nat → Int32} {t : Int32} {q : Nat} (h : q < 6 ∨ 12 ≤ q) : getsM g nd t 6 q = g q := by
  rcases h with h | h
  · exact getsM_lo h 6
  · exact getsM_hi h 6 (Nat.le_refl _)
theorem buildsM_wf {s g nd : Nat → Int32} {co lf : Int32} (hz : WFZ g) : WFZ (buildsM s g nd co lf).2.2.1 := by
  obtain ⟨c, hc8, hc, hcc⟩ := hz.row
  unfold buildsM
  refine ite_M (M := fun r : M4 => WFZ r.2.2.1) (fun _ => ?_) (fun _ => hz)
  refine ite_M (M := fun r : M4 => WFZ r.2.2.1) (fun hl => ?_) (fun _ => hz)
  refine ite_M (M := fun r : M4 => WFZ r.2.2.1) (fun _ => ?_) (fun _ => hz)
  obtain ⟨j, hj2, rfl⟩ := in_c hc hc8 hl
  rw [cN_nI (show j < 2 ^ 31 by omega)]
  dsimp only
  exact hz.eq (fun q hq => by rw [upd_off (by omega), upd_off (by omega), upd_off (by omega), upd_off (by omega), getsM_out (by omega)]) (fun i h1 h2 => by
    rw [hcc] at h1
    rw [upd_off (by omega), upd_off (by omega), upd_off (by omega), upd_off (by omega), getsM_out (by omega), upd_off (by omega), upd_off (by omega), upd_off (by omega), upd_off (by omega), getsM_out (by omega)]
    exact (hz.2 i (by rw [hcc]; exact h1) h2).2.2)
theorem finishesM_wf {s g nd : Nat → Int32} {lf sp : Int32} (hz : WFZ g) : WFZ (finishesM s g nd lf sp).2.2.1 := by
  obtain ⟨c, hc8, hc, hcc⟩ := hz.row
  unfold finishesM
  refine ite_M (M := fun r : M4 => WFZ r.2.2.1) (fun hl => ?_) (fun _ => hz)
  refine ite_M (M := fun r : M4 => WFZ r.2.2.1) (fun _ => hz) (fun _ => ?_)
  refine ite_M (M := fun r : M4 => WFZ r.2.2.1) (fun _ => ?_) (fun _ => hz)
  refine ite_M (M := fun r : M4 => WFZ r.2.2.1) (fun _ => hz) (fun _ => ?_)
  refine ite_M (M := fun r : M4 => WFZ r.2.2.1) (fun _ => ?_) (fun _ => hz)
  obtain ⟨j, hj2, rfl⟩ := in_c hc hc8 hl
  rw [cN_nI (show j < 2 ^ 31 by omega)]
  dsimp only
  exact hz.eq (fun q hq => by rw [upd_off (by omega), upd_off (by omega), getsM_out (by omega)]) (fun i h1 h2 => by
    rw [hcc] at h1
    rw [upd_off (by omega), upd_off (by omega), getsM_out (by omega), upd_off (by omega), upd_off (by omega), getsM_out (by omega)]
    exact (hz.2 i (by rw [hcc]; exact h1) h2).2.2)
theorem apartM_wf {s g nd : Nat → Int32} {lf : Int32} (hz : WFZ g) : WFZ (apartM s g nd lf).2.2.1 := by
  obtain ⟨c, hc8, hc, hcc⟩ := hz.row
  unfold apartM
  refine ite_M (M := fun r : M4 => WFZ r.2.2.1) (fun hl => ?_) (fun _ => hz)
  refine ite_M (M := fun r : M4 => WFZ r.2.2.1) (fun _ => hz) (fun _ => ?_)
  refine ite_M (M := fun r : M4 => WFZ r.2.2.1) (fun _ => ?_) (fun _ => hz)
  obtain ⟨j, hj2, rfl⟩ := in_c hc hc8 hl
  rw [cN_nI (show j < 2 ^ 31 by omega)]
  dsimp only
  exact hz.eq (fun q hq => by rw [upd_off (by omega), upd_off (by omega), upd_off (by omega), getsM_out (by omega)]) (fun i h1 h2 => by
    rw [hcc] at h1
    rw [upd_off (by omega), upd_off (by omega), upd_off (by omega), getsM_out (by omega), upd_off (by omega), upd_off (by omega), upd_off (by omega), getsM_out (by omega)]
    exact (hz.2 i (by rw [hcc]; exact h1) h2).2.2)
