/-! ===== reading the text: the class and the reference tell the same ===== -/
section PU2
variable {g ip f : Nat → Int32} {len : Nat}
/-- the reference reads at pos, nothing was wrong so far -/
def RdZ (s0 s : Nat → Int32) (len pos : Nat) : Prop := s 17 = 0 ∧ s 16 = nI pos ∧ s 7 = nI len ∧ ∀ q, ¬ q = 16 → ¬ q = 17 → s q = s0 q
/-- something was wrong at pos -/
def RdN (s0 s : Nat → Int32) (len pos : Nat) : Prop := ¬ s 17 = 0 ∧ s 16 = nI pos ∧ s 7 = nI len ∧ ∀ q, ¬ q = 16 → ¬ q = 17 → s q = s0 q
def RdE (ip f : Nat → Int32) (len : Nat) : Prop := (∀ i, i < len → ip i = f i) ∧ (∀ i, i < len → ∃ z, f i = chC z) ∧ len ≤ 60
theorem here_in {s0 s : Nat → Int32} {pos : Nat} (he : RdE ip f len) (h : s 16 = nI pos ∧ s 7 = nI len) (hp : pos ≤ 60) : hereM s g ip = if nI len ≤ nI pos then -1 else f pos := by
  unfold hereM
  rw [h.1, h.2]
  by_cases hl : nI len ≤ nI pos
  · rw [if_pos hl, if_pos hl]
  · rw [if_neg hl, if_neg hl, cN_nI (by omega)]
    have := he.2.2
    exact he.1 pos (Nat.lt_of_not_le (fun z => hl ((nI_leI (by omega) (by omega)).mpr z)))
theorem dig_iff {s0 s : Nat → Int32} {pos : Nat} (he : RdE ip f len) (h : RdZ s0 s len pos) (hp : pos ≤ 60) : inB (hereM s g ip) 48 57 ↔ digB f len pos := by
  rw [here_in (s0 := s0) he ⟨h.2.1, h.2.2.1⟩ hp]
  by_cases hl : nI len ≤ nI pos
  · rw [if_pos hl]
    exact ⟨fun z => absurd (show (-1 : Int32) < 48 by decide) z.1, fun z => absurd hl z.1⟩
  · rw [if_neg hl]
    exact ⟨fun z => ⟨hl, z.1, z.2⟩, fun z => z.2⟩
theorem dig_lt {pos : Nat} (h60 : len ≤ 60) (hp : pos ≤ 60) (h : digB f len pos) : pos < len := Nat.lt_of_not_le (fun z => h.1 ((nI_leI (by omega) (by omega)).mpr z))
theorem sgn_lt {pos : Nat} {c : Int32} (h60 : len ≤ 60) (hp : pos ≤ 60) (h : sgB f len pos c) : pos < len := Nat.lt_of_not_le (fun z => h.1 ((nI_leI (by omega) (by omega)).mpr z))
theorem u16_in {s0 s : Nat → Int32} {len pos : Nat} {x : Int32} (h7 : s 7 = nI len) (hs : ∀ q, ¬ q = 16 → ¬ q = 17 → s q = s0 q) (hx : x = nI pos) (e : Int32) : (upd (upd s 17 e) 16 x) 17 = e ∧ (upd (upd s 17 e) 16 x) 16 = nI pos ∧ (upd (upd s 17 e) 16 x) 7 = nI len ∧ ∀ q, ¬ q = 16 → ¬ q = 17 → (upd (upd s 17 e) 16 x) q = s0 q :=
  ⟨by rw [upd_off (by decide), upd_at], by rw [upd_at]; exact hx, by rw [upd_off (by decide), upd_off (by decide)]; exact h7, fun q a b => by rw [upd_off a, upd_off b]; exact hs q a b⟩
theorem n10 : ¬ (1 : Int32) = 0 := by decide
theorem fig_yes {s0 s : Nat → Int32} {pos : Nat} (he : RdE ip f len) (h : RdZ s0 s len pos) (hp : pos ≤ 60) (hd : digB f len pos) : (figM s g ip).1 = f pos - 48 ∧ RdZ s0 (figM s g ip).2 len (pos + 1) := by
  have hb := (dig_iff (g := g) he h hp).mpr hd
  obtain ⟨a, b, c, d⟩ := h
  have hh := here_in (g := g) (s0 := s0) he ⟨b, c⟩ hp
  rw [if_neg hd.1] at hh
  unfold figM
  rw [if_pos a, if_pos hb, hh]
  have := u16_in (x := s 16 + 1) c d (by rw [b, nI_1]) 0
  exact ⟨rfl, this⟩
theorem fig_no {s0 s : Nat → Int32} {pos : Nat} (he : RdE ip f len) (h : RdZ s0 s len pos) (hp : pos ≤ 60) (hd : ¬ digB f len pos) : RdN s0 (figM s g ip).2 len pos := by
  have hb := fun z => hd ((dig_iff (g := g) he h hp).mp z)
  obtain ⟨a, b, c, d⟩ := h
  unfold figM
  rw [if_pos a, if_neg hb]
  obtain ⟨e1, e2⟩ := u16_in (x := s 16 + 0) c d (by rw [b, Int32.add_zero]) 1
  exact ⟨fun z => n10 (e1.symm.trans z), e2⟩
theorem fig_bad {s0 s : Nat → Int32} {pos : Nat} (h : RdN s0 s len pos) : RdN s0 (figM s g ip).2 len pos := by
  obtain ⟨a, b, c, d⟩ := h
  unfold figM
  rw [if_neg a]
  obtain ⟨e1, e2⟩ := u16_in (x := s 16 + 0) c d (by rw [b, Int32.add_zero]) 1
  exact ⟨fun z => n10 (e1.symm.trans z), e2⟩
theorem ned_iff {s0 s : Nat → Int32} {pos : Nat} {c : Int32} (he : RdE ip f len) (h : RdZ s0 s len pos) (hp : pos ≤ 60) (hc : ¬ c = -1) : hereM s g ip = c ↔ sgB f len pos c := by
  rw [here_in (s0 := s0) he ⟨h.2.1, h.2.2.1⟩ hp]
  by_cases hl : nI len ≤ nI pos
  · rw [if_pos hl]
    exact ⟨fun z => absurd z.symm hc, fun z => absurd hl z.1⟩
  · rw [if_neg hl]
    exact ⟨fun z => ⟨hl, z⟩, fun z => z.2⟩
theorem ned_yes {s0 s : Nat → Int32} {pos : Nat} {c : Int32} (he : RdE ip f len) (h : RdZ s0 s len pos) (hp : pos ≤ 60) (hc : ¬ c = -1) (hd : sgB f len pos c) : RdZ s0 (needsM s g ip c) len (pos + 1) := by
  have hb := (ned_iff (g := g) he h hp hc).mpr hd
  obtain ⟨a, b, c7, d⟩ := h
  unfold needsM
  rw [if_pos a, if_pos hb]
  exact u16_in c7 d (by rw [b, nI_1]) 0
theorem ned_no {s0 s : Nat → Int32} {pos : Nat} {c : Int32} (he : RdE ip f len) (h : RdZ s0 s len pos) (hp : pos ≤ 60) (hc : ¬ c = -1) (hd : ¬ sgB f len pos c) : RdN s0 (needsM s g ip c) len pos := by
  have hb := fun z => hd ((ned_iff (g := g) he h hp hc).mp z)
  obtain ⟨a, b, c7, d⟩ := h
  unfold needsM
  rw [if_pos a, if_neg hb]
  obtain ⟨e1, e2⟩ := u16_in (x := s 16 + 0) c7 d (by rw [b, Int32.add_zero]) 1
  exact ⟨by rw [e1]; exact n10, e2⟩
theorem ned_bad {s0 s : Nat → Int32} {pos : Nat} {c : Int32} (h : RdN s0 s len pos) : RdN s0 (needsM s g ip c) len pos := by
  obtain ⟨a, b, c7, d⟩ := h
  unfold needsM
  rw [if_neg a]
  obtain ⟨e1, e2⟩ := u16_in (x := s 16 + 0) c7 d (by rw [b, Int32.add_zero]) 1
  exact ⟨by rw [e1]; exact n10, e2⟩
/-- the languages behind a sign -/
def setW (f : Nat → Int32) (pos : Nat) (z : Int32) : Nat → Int32
  | 0 => z
  | j + 1 => setW f pos z j ||| 1 <<< (f (pos + j) - 48 &&& 31)
theorem setW_sh {pos : Nat} {z : Int32} : ∀ j, setW f pos z (j + 1) = setW f (pos + 1) (z ||| 1 <<< (f pos - 48 &&& 31)) j
  | 0 => rfl
  | j + 1 => by
    show setW f pos z (j + 1) ||| _ = setW f (pos + 1) _ j ||| _
    rw [setW_sh j, show pos + (j + 1) = pos + 1 + j by omega]
theorem lanR_set {C : CM} {pos : Nat} : ∀ j, (lanR C f pos j).2.2.2 = setW f pos C.2.2.2 j
  | 0 => rfl
  | j + 1 => by
    show (lanR C f pos j).2.2.2 ||| _ = setW f pos C.2.2.2 j ||| _
    rw [lanR_set j]
theorem ton_run {le : Int32} {s0 : Nat → Int32} (he : RdE ip f len) : ∀ (n many pos : Nat) (set : Int32) (s : Nat → Int32), RdZ s0 s len pos → pos ≤ len → (nI many < le → digB f len pos ∧ 0 < n) → (∀ m, many < m → m < 100 → ¬ nI m < le) → many + n < 100 →
    (tonL g ip le set s many n).1 = setW f pos set (runD f len pos n) ∧ RdZ s0 (tonL g ip le set s many n).2 len (pos + runD f len pos n)
  | 0, many, pos, set, s, h, hp, h1, _, _ => ⟨rfl, h⟩
  | n + 1, many, pos, set, s, h, hp, h1, h2, h3 => by
    have h60 := he.2.2
    rw [tonL, if_pos h.1, runD]
    by_cases hd : digB f len pos
    · rw [if_pos (Or.inr ((dig_iff (g := g) he h (by omega)).mpr hd)), if_pos hd]
      obtain ⟨e1, e2⟩ := fig_yes (g := g) he h (by omega) hd
      have hlt := dig_lt h60 (by omega) hd
      obtain ⟨a, b⟩ := ton_run (le := le) he n (many + 1) (pos + 1) (set ||| (1 <<< ((figM s g ip).1 &&& 31))) (figM s g ip).2 e2 (by omega) (fun z => absurd z (h2 _ (by omega) (by omega))) (fun m hm => h2 m (by omega)) (by omega)
      rw [e1] at a
      refine ⟨?_, ?_⟩
      · rw [e1, a, Nat.add_comm 1, setW_sh]
      · rw [show pos + (1 + runD f len (pos + 1) n) = pos + 1 + runD f len (pos + 1) n by omega]
        rw [e1] at b ⊢
        exact b
    · have h4 : ¬ nI many < le := fun z => hd (h1 z).1
      rw [if_neg (fun z => z.elim h4 (fun z2 => hd ((dig_iff (g := g) he h (by omega)).mp z2))), if_neg hd]
      exact ⟨rfl, h⟩
theorem ton_bad {le : Int32} {s0 s : Nat → Int32} {pos : Nat} (h : RdN s0 s len pos) : RdN s0 (tonM s g ip le).2 len pos := by
  unfold tonM
  rw [tonL, if_neg h.1]
  exact h
theorem ton_1 {s0 s : Nat → Int32} {pos : Nat} (he : RdE ip f len) (h : RdZ s0 s len pos) (hp : pos ≤ len) : if 0 < runD f len pos 5 then (tonM s g ip 1).1 = setW f pos 0 (runD f len pos 5) ∧ RdZ s0 (tonM s g ip 1).2 len (pos + runD f len pos 5) else RdN s0 (tonM s g ip 1).2 len pos := by
  have h60 := he.2.2
  unfold tonM
  by_cases hd : digB f len pos
  · have hr : 0 < runD f len pos 5 := by rw [runD, if_pos hd]; omega
    rw [if_pos hr]
    exact ton_run he 5 0 pos 0 s h hp (fun _ => ⟨hd, by decide⟩) (fun m hm hm2 z => absurd ((nI_ltI (a := m) (b := 1) (by omega) (by decide)).mp z) (by omega)) (by decide)
  · have hr : ¬ 0 < runD f len pos 5 := by rw [runD, if_neg hd]; omega
    rw [if_neg hr, tonL, if_pos h.1, if_pos (Or.inl (by decide)), tonL, if_neg]
    · exact fig_no he h (by omega) hd
    · exact (fig_no (g := g) he h (by omega) hd).1
theorem ton_0 {s0 s : Nat → Int32} {pos : Nat} (he : RdE ip f len) (h : RdZ s0 s len pos) (hp : pos ≤ len) : (tonM s g ip 0).1 = setW f pos 0 (runD f len pos 5) ∧ RdZ s0 (tonM s g ip 0).2 len (pos + runD f len pos 5) :=
  ton_run he 5 0 pos 0 s h hp (fun z => absurd z (by decide)) (fun m hm hm2 z => absurd ((nI_ltI (a := m) (b := 0) (by omega) (by decide)).mp z) (by omega)) (by decide)
/-- a piece of a form: it failed on both sides at one place, or both go on -/
def Pc (s0 : Nat → Int32) (len : Nat) (R : Int32 × Nat × CM) (R' : Nat → CM → Int32 × Nat × CM) (s' : Nat → Int32) (K : CM → Prop) : Prop :=
  (R.1 = 0 ∧ RdN s0 s' len R.2.1) ∨ ∃ p' C', R = R' p' C' ∧ RdZ s0 s' len p' ∧ p' ≤ len ∧ K C'
theorem Pc.seq {s0 s1 s2 : Nat → Int32} {R : Int32 × Nat × CM} {R1 R2 : Nat → CM → Int32 × Nat × CM} {K1 K2 : CM → Prop} (h : Pc s0 len R R1 s1 K1) (h2 : ∀ p C, RdZ s0 s1 len p → p ≤ len → K1 C → Pc s0 len (R1 p C) R2 s2 K2) (hb : ∀ p, RdN s0 s1 len p → RdN s0 s2 len p) : Pc s0 len R R2 s2 K2 := by
  rcases h with ⟨e, n⟩ | ⟨p', C', e, z, l, k⟩
  · exact Or.inl ⟨e, hb _ n⟩
  · rw [e]; exact h2 p' C' z l k
section PCS
variable {s0 s : Nat → Int32} {pos : Nat} {cs : List Int32} {L la : Int32} {n : Nat → Int32} {m : Nat}
theorem fig_pc (he : RdE ip f len) (h : RdZ s0 s len pos) (hp : pos ≤ len) (hm : m < 3) : Pc s0 len (frR f len (35 :: cs) pos (L, n, m, la)) (frR f len cs) (figM s g ip).2 (fun C' => C' = (L, upd n m (figM s g ip).1, m + 1, la)) := by
  have h60 := he.2.2
  have e : pcR f len 35 pos (L, n, m, la) = (bz (digB f len pos), (if digB f len pos then pos + 1 else pos), (if digB f len pos then numP (L, n, m, la) (f pos - 48) else (L, n, m, la))) := if_pos rfl
  rw [frR, e]
  by_cases hd : digB f len pos
  · simp only [if_pos hd]
    rw [if_neg (show ¬ bz (digB f len pos) = 0 by unfold bz; rw [if_pos hd]; decide)]
    obtain ⟨e1, e2⟩ := fig_yes (g := g) he h (by omega) hd
    have hlt := dig_lt h60 (by omega) hd
    refine Or.inr ⟨pos + 1, _, rfl, e2, by omega, ?_⟩
    rw [e1]
    exact if_pos hm
  · simp only [if_neg hd]
    rw [if_pos (show bz (digB f len pos) = 0 by unfold bz; rw [if_neg hd])]
    exact Or.inl ⟨rfl, fig_no he h (show pos ≤ 60 by omega) hd⟩
theorem ned_pc {c : Int32} (he : RdE ip f len) (h : RdZ s0 s len pos) (hp : pos ≤ len) (hc : ¬ c = -1 ∧ ¬ c = 35 ∧ ¬ c = 43 ∧ ¬ c = 63) {C : CM} : Pc s0 len (frR f len (c :: cs) pos C) (frR f len cs) (needsM s g ip c) (fun C' => C' = C) := by
  have h60 := he.2.2
  have e : pcR f len c pos C = (bz (sgB f len pos c), (if sgB f len pos c then pos + 1 else pos), C) := by
    unfold pcR
    rw [if_neg hc.2.1, if_neg hc.2.2.1, if_neg hc.2.2.2]
  rw [frR, e]
  by_cases hd : sgB f len pos c
  · simp only [if_pos hd]
    rw [if_neg (show ¬ bz (sgB f len pos c) = 0 by unfold bz; rw [if_pos hd]; decide)]
    have hlt := sgn_lt h60 (by omega) hd
    exact Or.inr ⟨pos + 1, C, rfl, ned_yes he h (by omega) hc.1 hd, by omega, rfl⟩
  · simp only [if_neg hd]
    rw [if_pos (show bz (sgB f len pos c) = 0 by unfold bz; rw [if_neg hd])]
    exact Or.inl ⟨rfl, ned_no he h (show pos ≤ 60 by omega) hc.1 hd⟩
theorem lanR_eq {C : CM} (j : Nat) : lanR C f pos j = (C.1, C.2.1, C.2.2.1, setW f pos C.2.2.2 j) := by
  obtain ⟨a, b, c⟩ := lanR_n (C := C) (f := f) (pos := pos) j
  have d := lanR_set (C := C) (f := f) (pos := pos) j
  generalize lanR C f pos j = D at a b c d
  obtain ⟨d1, d2, d3, d4⟩ := D
  simp only at a b c d
  rw [a, b, c, d]
theorem t1_pc (he : RdE ip f len) (h : RdZ s0 s len pos) (hp : pos ≤ len) : Pc s0 len (frR f len (43 :: cs) pos (L, n, m, 0)) (frR f len cs) (tonM s g ip 1).2 (fun C' => C' = (L, n, m, (tonM s g ip 1).1)) := by
  have h60 := he.2.2
  have e : pcR f len 43 pos (L, n, m, 0) = (bz (0 < runD f len pos 5), pos + runD f len pos 5, lanR (L, n, m, 0) f pos (runD f len pos 5)) := (if_neg (by decide)).trans (if_pos rfl)
  have h1 := ton_1 (g := g) he h hp
  have h2 := runD_len (f := f) (len := len) 5 pos h60 hp
  rw [frR, e, lanR_eq]
  by_cases hd : 0 < runD f len pos 5
  · rw [if_pos hd] at h1
    rw [if_neg (show ¬ bz (0 < runD f len pos 5) = 0 by unfold bz; rw [if_pos hd]; decide)]
    refine Or.inr ⟨_, _, rfl, h1.2, h2, ?_⟩
    rw [h1.1]
  · rw [if_neg hd] at h1
    rw [if_pos (show bz (0 < runD f len pos 5) = 0 by unfold bz; rw [if_neg hd])]
    refine Or.inl ⟨rfl, ?_⟩
    show RdN s0 _ len (pos + runD f len pos 5)
    rw [show pos + runD f len pos 5 = pos by omega]
    exact h1
theorem t0_pc (he : RdE ip f len) (h : RdZ s0 s len pos) (hp : pos ≤ len) : Pc s0 len (frR f len (63 :: cs) pos (L, n, m, 0)) (frR f len cs) (tonM s g ip 0).2 (fun C' => C' = (L, n, m, (tonM s g ip 0).1)) := by
  have h60 := he.2.2
  have e : pcR f len 63 pos (L, n, m, 0) = (1, pos + runD f len pos 5, lanR (L, n, m, 0) f pos (runD f len pos 5)) := (if_neg (by decide)).trans ((if_neg (by decide)).trans (if_pos rfl))
  have h1 := ton_0 (g := g) he h hp
  have h2 := runD_len (f := f) (len := len) 5 pos h60 hp
  rw [frR, e, lanR_eq, if_neg n10]
  refine Or.inr ⟨_, _, rfl, h1.2, h2, ?_⟩
  rw [h1.1]
theorem pair_pc {c : Int32} {td : Nat → Int32} {k : Nat} (he : RdE ip f len) (h : RdZ s0 s len pos) (hp : pos ≤ len) (hc : ¬ c = -1 ∧ ¬ c = 35 ∧ ¬ c = 43 ∧ ¬ c = 63) : Pc s0 len (frR f len (35 :: c :: 35 :: cs) pos (L, n, 0, la)) (frR f len cs) (pairM s g ip td k c).1 (fun C' => C' = (L, upd (upd n 0 (figM s g ip).1) 1 (figM (needsM (figM s g ip).2 g ip c) g ip).1, 2, la)) := by
  refine Pc.seq (fig_pc (g := g) he h hp (by decide)) (fun p1 C1 h1 l1 k1 => ?_) (fun p hb => fig_bad (ned_bad hb))
  subst k1
  refine Pc.seq (ned_pc (g := g) he h1 l1 hc) (fun p2 C2 h2 l2 k2 => ?_) (fun p hb => fig_bad hb)
  subst k2
  exact fig_pc (g := g) he h2 l2 (by decide)
end PCS
end PU2
