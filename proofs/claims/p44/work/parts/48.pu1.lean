/-! ===== what could be finished, the line, one more character: the class and the reference tell the same ===== -/
section PU1
variable {v : Nat → Nat → Int32} {s g : Nat → Int32}
theorem needM_cg {h g b : Nat → Int32} {l : Nat} {set : Int32} (e : ∀ q, 68 ≤ q → h q = g q) : ∀ n, needM h l set b n = needM g l set b n
  | 0 => rfl
  | n + 1 => by
    rw [needM, needM, needM_cg e n]
    unfold needM1
    rw [e (68 + 8 * l + n) (by omega), e (132 + 8 * l + n) (by omega), e (260 + 8 * l + n) (by omega)]
theorem fin_eq {nd bf : Nat → Int32} {j : Nat} (ht : Tell v (gV g)) (hg : WFG g) (hj : j < cN (g 0)) : ∀ k, k ≤ 8 → (finL s g nd bf j k).1 = (cfL v j k).1 ∧ (∀ i, i < 6 → (finL s g nd bf j k).2.1 (6 + i) = (cfL v j k).2 i)
  | 0, _ => ⟨rfl, fun i hi => (ht.r1 hi).symm⟩
  | k + 1, hk => by
    obtain ⟨e1, e2⟩ := fin_eq (nd := nd) (bf := bf) ht hg hj k (by omega)
    have e50 := finL_off s g nd bf j (q := 50 + j) (by omega) k
    have h7 : v 7 j = g (50 + j) := (ht.lf hj).2.2.2.2
    have eN : ∀ i, i < 6 → needM ((finL s g nd bf j k).2.1) j (1 <<< ((nI k) &&& 31)) (clrJ ((finL s g nd bf j k).2.2) 6) (cN (g (18 + j))) i = needJ v j (1 <<< (nI k &&& 31)) (nI i) (stN v j) := fun i hi => by
      rw [needM_cg (g := g) (fun q hq => finL_off s g nd bf j (by omega) k)]
      exact need_eq ht hg hj hi
    have eL : lackJ (fun i => (finL s g nd bf j k).2.1 (6 + i)) (needM ((finL s g nd bf j k).2.1) j (1 <<< ((nI k) &&& 31)) (clrJ ((finL s g nd bf j k).2.2) 6) (cN (g (18 + j)))) 0 6 = lackJ (cfL v j k).2 (fun i9 => needJ v j (1 <<< (nI k &&& 31)) (nI i9) (stN v j)) 0 6 :=
      lackJ_t 6 0 (fun q _ hq => ⟨e2 q (by omega), eN q (by omega)⟩)
    rw [finL, cfL, eL, e50, ← h7]
    by_cases hb : hasB (v 7 j) (nI k)
    · have hb2 := (hasB_iff _ _).mp hb
      rw [if_pos hb, if_pos hb2]
      by_cases hL : lackJ (cfL v j k).2 (fun i9 => needJ v j (1 <<< (nI k &&& 31)) (nI i9) (stN v j)) 0 6 = (-1)
      · rw [if_pos hL, if_pos hL]
        refine ⟨congrArg (· + 1) e1, fun i hi => ?_⟩
        show getsM _ _ (-1) 6 (6 + i) = takeJ _ _ 6 i
        rw [takeJ_at, if_pos hi, getsM_at 6 i hi, neg1_mul, eN i hi, e2 i hi]
      · rw [if_neg hL, if_neg hL]
        exact ⟨e1, e2⟩
    · have hb2 := fun z => hb ((hasB_iff _ _).mpr z)
      rw [if_neg hb, if_neg hb2]
      exact ⟨e1, e2⟩
def cfC (v : Nat → Nat → Int32) (lf : Int32) : Int32 × Int32 := if inB lf 0 (v 0 0 - 1) then ((cfL v (cN lf) (stN v (cN lf))).1, 0) else (0, 1)
theorem could_ok {nd bf : Nat → Int32} {lf : Int32} (ht : Tell v (gV g)) (hg : WFG g) : Rd3 s (cfC v lf) ((couldM s g nd bf lf).1, (couldM s g nd bf lf).2.1, (couldM s g nd bf lf).2.2.1) ∧ (couldM s g nd bf lf).2.2.1 = g := by
  unfold cfC couldM
  rw [ht.n0]
  by_cases h1 : inB lf 0 (g 0 - 1)
  · rw [if_pos h1, if_pos h1]
    obtain ⟨c, hc8, hc, hcc⟩ := hg.1.row
    obtain ⟨j, hj, rfl⟩ := in_c hc hc8 h1
    rw [cN_nI (show j < 2 ^ 31 by omega)]
    have hjg : j < cN (g 0) := by omega
    have e3 : stN v j = cN (g (18 + j)) := congrArg cN (ht.lf hjg).1
    refine ⟨⟨?_, rfl⟩, rfl⟩
    show (finL s g nd bf j (cN (g (18 + j)))).1 = _
    rw [(fin_eq ht hg hjg _ (hg.n8 hjg)).1, e3]
  · rw [if_neg h1, if_neg h1]
    exact ⟨⟨rfl, rfl⟩, rfl⟩
/-! the line -/
def LnR (s : Nat → Int32) (L : LN) (P : (Nat → Int32) × (Nat → Int32)) : Prop := P.1 13 = nI L.2 ∧ (∀ i, i < L.2 → P.2 i = L.1 i) ∧ ∀ q, ¬ q = 13 → P.1 q = s q
theorem LnR.put {L : LN} {P : (Nat → Int32) × (Nat → Int32)} {c x : Int32} (h : LnR s L P) (h8 : L.2 < 48) (hx : chC x = c) : LnR s (putP L c) (wrM P x) ∧ (putP L c).2 = L.2 + 1 := by
  obtain ⟨a, b, d⟩ := h
  unfold putP
  rw [if_pos h8]
  refine ⟨⟨?_, fun i hi => ?_, fun q hq => ?_⟩, rfl⟩
  · show upd P.1 13 (P.1 13 + 1) 13 = nI (L.2 + 1)
    rw [upd_at, a, nI_1]
  · show upd P.2 (cN (P.1 13)) (chC x) i = upd L.1 L.2 c i
    rw [a, cN_nI (by omega), hx]
    by_cases e : i = L.2
    · rw [e, upd_at, upd_at]
    · rw [upd_off e, upd_off e]
      exact b i (by have h9 : i < L.2 + 1 := hi; omega)
  · show upd P.1 13 (P.1 13 + 1) q = s q
    rw [upd_off hq]; exact d q hq
/-- the reference's step of a line, piece by piece -/
def stpM (g : Nat → Int32) (l k : Nat) (P : (Nat → Int32) × (Nat → Int32)) : (Nat → Int32) × (Nat → Int32) :=
  if g (50 + l) >>> (nI k &&& 31) &&& 1 = 1 then wrM (if g (260 + 8 * l + k) = 1 then wrM (wrM (wrM (wrM P (48 + g (68 + 8 * l + k))) 42) (48 + g (132 + 8 * l + k))) 43 else wrM (wrM (wrM P (48 + g (68 + 8 * l + k))) 42) (48 + g (132 + 8 * l + k))) 63
  else (if g (260 + 8 * l + k) = 1 then wrM (wrM (wrM (wrM P (48 + g (68 + 8 * l + k))) 42) (48 + g (132 + 8 * l + k))) 43 else wrM (wrM (wrM P (48 + g (68 + 8 * l + k))) 42) (48 + g (132 + 8 * l + k)))
def slaM (o n : Int32) (k : Nat) (P : (Nat → Int32) × (Nat → Int32)) : (Nat → Int32) × (Nat → Int32) :=
  if nI k = o - 1 then (if n - 1 ≤ nI k then P else wrM P 47) else P
theorem linL_up {lt : Nat → Int32} {lf : Int32} {k : Nat} : linL s g lt lf (k + 1) = slaM (openJ (g (18 + cN lf)) (cN (g (26 + cN lf)))) (g (18 + cN lf)) k (stpM g (cN lf) k (if nI k ≤ 0 then linL s g lt lf k else wrM (linL s g lt lf k) 32)) := by
  rw [linL]
  unfold slaM stpM
  generalize linL s g lt lf k = P
  by_cases h1 : nI k ≤ 0
  all_goals (first | simp only [if_neg h1] | simp only [if_pos h1])
  all_goals by_cases h2 : g (260 + 8 * cN lf + k) = 1
  all_goals (try first | simp only [if_neg h2] | simp only [if_pos h2])
  all_goals by_cases h3 : g (50 + cN lf) >>> (nI k &&& 31) &&& 1 = 1
  all_goals (try first | simp only [if_neg h3] | simp only [if_pos h3])
  all_goals by_cases h4 : nI k = openJ (g (18 + cN lf)) (cN (g (26 + cN lf))) - 1
  all_goals (try first | simp only [if_neg h4] | simp only [if_pos h4])
theorem LnR.step {L : LN} {P : (Nat → Int32) × (Nat → Int32)} {l k : Nat} (ht : Tell v (gV g)) (hg : WFG g) (hl : l < cN (g 0)) (hk : k < cN (g (18 + l))) (h : LnR s L P) (h8 : L.2 + 5 ≤ 48) : LnR s (stepP L v l k) (stpM g l k P) ∧ (stepP L v l k).2 ≤ L.2 + 5 := by
  have hl8 := hg.j8 hl
  obtain ⟨-, -, -, -, h7, hq⟩ := ht.l hl
  obtain ⟨a1, a2, -, a4⟩ := hq k (by rw [gV_3]; exact hk)
  rw [gV_10 (by omega)] at a1
  rw [gV_20 (by omega)] at a2
  rw [gV_40] at a4
  rw [gV_7] at h7
  have hsd := ((hg.2.1 l hl).2.2.2 k hk).2
  unfold stepP stpM
  obtain ⟨b1, c1⟩ := h.put (c := chC (48 + v (10 + l) k)) (x := 48 + g (68 + 8 * l + k)) (by omega) (by rw [a1])
  obtain ⟨b2, c2⟩ := b1.put (c := 42) (x := 42) (by omega) (by decide)
  obtain ⟨b3, c3⟩ := b2.put (c := chC (48 + v (20 + l) k)) (x := 48 + g (132 + 8 * l + k)) (by omega) (by rw [a2])
  dsimp only
  have h2 : (v (40 + l) k + 1 = 2 ↔ g (260 + 8 * l + k) = 1) := by
    rw [a4]
    rcases hsd with z | z
    · rw [z]; decide
    · rw [z]; decide
  have hb := hasB_iff (v 7 l) (nI k)
  rw [h7] at hb ⊢
  by_cases e2 : g (260 + 8 * l + k) = 1
  · simp only [if_pos e2, if_pos (h2.mpr e2)]
    obtain ⟨b4, c4⟩ := b3.put (c := 43) (x := 43) (by omega) (by decide)
    by_cases e3 : g (50 + l) >>> (nI k &&& 31) &&& 1 = 1
    · simp only [if_pos e3, if_pos (hb.mpr e3)]
      obtain ⟨b5, c5⟩ := b4.put (c := 63) (x := 63) (by omega) (by decide)
      exact ⟨b5, by omega⟩
    · simp only [if_neg e3, if_neg (fun z => e3 (hb.mp z))]
      exact ⟨b4, by omega⟩
  · simp only [if_neg e2, if_neg (fun z => e2 (h2.mp z))]
    by_cases e3 : g (50 + l) >>> (nI k &&& 31) &&& 1 = 1
    · simp only [if_pos e3, if_pos (hb.mpr e3)]
      obtain ⟨b5, c5⟩ := b3.put (c := 63) (x := 63) (by omega) (by decide)
      exact ⟨b5, by omega⟩
    · simp only [if_neg e3, if_neg (fun z => e3 (hb.mp z))]
      exact ⟨b3, by omega⟩
theorem nI_pm {k o : Nat} (hk : k < 1000) (ho : o < 1000) : nI k = nI o - 1 ↔ k + 1 = o := by
  constructor
  · intro h
    have h9 : nI k + 1 = nI o := by rw [h, Int32.sub_add_cancel]
    rw [nI_1] at h9
    exact (nI_eq (by omega) (by omega)).mp h9
  · intro h
    rw [← h, nI_pred]
theorem sla_iff {n o k : Nat} (hn : n < 1000) (hn1 : 0 < n) (hk : k + 1 = o) (ho : o < 1000) : (nI n - 1 ≤ nI k ↔ nI n ≤ nI o) := by
  rw [nI_m1 hn1, nI_leI (by omega) (by omega), nI_leI (by omega) (by omega)]
  omega
theorem lin_eq {lt f0 : Nat → Int32} {l : Nat} (ht : Tell v (gV g)) (hg : WFG g) (hl : l < cN (g 0)) : ∀ k, k ≤ cN (g (18 + l)) →
    ∀ o : Nat, openJ (g (18 + l)) (cN (g (26 + l))) = nI o → o ≤ 8 → LnR s (lineP v l (nI o) (g (18 + l)) (f0, 0) k) (linL s g lt (nI l) k) ∧ (lineP v l (nI o) (g (18 + l)) (f0, 0) k).2 ≤ 6 * k - 1 + (if o ≤ k then 1 else 0)
  | 0, _, o, _, _ => ⟨⟨by show upd s 13 0 13 = nI 0; rw [upd_at]; rfl, fun i hi => absurd hi (Nat.not_lt_zero _), fun q hq => by show upd s 13 0 q = s q; exact upd_off hq⟩, Nat.zero_le _⟩
  | k + 1, hk, o, ho, ho8 => by
    obtain ⟨b, c⟩ := lin_eq (lt := lt) (f0 := f0) ht hg hl k (by omega) o ho ho8
    have hl8 := hg.j8 hl
    obtain ⟨n, hn8, hn, hnn⟩ := okN_of (hg.1.1.2.2 l hl).1
    rw [linL_up, cN_nI (show l < 2 ^ 31 by omega), lineP, ho]
    have hu : (if o ≤ k then 1 else 0) ≤ 1 := by split <;> decide
    have hu2 : (if o ≤ k then 1 else 0) ≤ (if o ≤ k + 1 then 1 else 0) := by split <;> split <;> omega
    have h32 : LnR s (if nI k ≤ 0 then lineP v l (nI o) (g (18 + l)) (f0, 0) k else putP (lineP v l (nI o) (g (18 + l)) (f0, 0) k) 32) (if nI k ≤ 0 then linL s g lt (nI l) k else wrM (linL s g lt (nI l) k) 32) ∧ (if nI k ≤ 0 then lineP v l (nI o) (g (18 + l)) (f0, 0) k else putP (lineP v l (nI o) (g (18 + l)) (f0, 0) k) 32).2 ≤ 6 * k + (if o ≤ k then 1 else 0) := by
      by_cases hk0 : nI k ≤ 0
      · rw [if_pos hk0, if_pos hk0]
        exact ⟨b, by omega⟩
      · rw [if_neg hk0, if_neg hk0]
        have hk1 : 0 < k := by rcases Nat.eq_zero_or_pos k with h9 | h9; exact absurd (by rw [h9]; decide) hk0; exact h9
        obtain ⟨b1, c1⟩ := b.put (c := 32) (x := 32) (by omega) (by decide)
        refine ⟨b1, ?_⟩
        rw [c1]
        omega
    obtain ⟨b1, c1⟩ := h32
    have hkn : k < cN (g (18 + l)) := by omega
    obtain ⟨b2, c2⟩ := LnR.step ht hg hl hkn b1 (by omega)
    unfold slaM
    rw [hn]
    rw [hn] at b2 c2 c1
    by_cases h4 : nI k = nI o - 1
    · have hko := (nI_pm (by omega) (by omega)).mp h4
      rw [if_pos h4, if_pos h4]
      have h5 := sla_iff (n := n) (by omega) (by omega) hko (by omega)
      rw [if_neg (show ¬ o ≤ k by omega)] at c1 hu2
      by_cases h6 : nI n ≤ nI o
      · rw [if_pos h6, if_pos (h5.mpr h6)]
        exact ⟨b2, by omega⟩
      · rw [if_neg h6, if_neg (fun z => h6 (h5.mp z))]
        obtain ⟨b3, c3⟩ := b2.put (c := 47) (x := 47) (by omega) (by decide)
        refine ⟨b3, ?_⟩
        have hu1 : (if o ≤ k + 1 then 1 else 0) = 1 := if_pos (by omega)
        rw [c3]
        omega
    · rw [if_neg h4, if_neg h4]
      refine ⟨b2, ?_⟩
      omega
theorem line_ok {lt f0 : Nat → Int32} {lf : Int32} (ht : Tell v (gV g)) (hg : WFG g) (h1 : inB lf 0 (v 0 0 - 1)) :
    (lineM s g lt lf).1 = nI (lineP v (cN lf) (openJ (v 3 (cN lf)) (cN (v 4 (cN lf)))) (v 3 (cN lf)) (f0, 0) (stN v (cN lf))).2 ∧ LnR (upd s 14 0) (lineP v (cN lf) (openJ (v 3 (cN lf)) (cN (v 4 (cN lf)))) (v 3 (cN lf)) (f0, 0) (stN v (cN lf))) (lineM s g lt lf).2 ∧ (lineP v (cN lf) (openJ (v 3 (cN lf)) (cN (v 4 (cN lf)))) (v 3 (cN lf)) (f0, 0) (stN v (cN lf))).2 ≤ 48 := by
  unfold lineM
  rw [ht.n0] at h1
  rw [if_pos h1]
  obtain ⟨c, hc8, hc, hcc⟩ := hg.1.row
  obtain ⟨j, hj, rfl⟩ := in_c hc hc8 h1
  rw [cN_nI (show j < 2 ^ 31 by omega)]
  have hjg : j < cN (g 0) := by omega
  obtain ⟨e3, e4, -⟩ := ht.lf hjg
  obtain ⟨n, hn8, hn, hnn⟩ := okN_of (hg.1.1.2.2 j hjg).1
  obtain ⟨o, ho, e⟩ := openJ_nI n (by omega) (cN (g (26 + j))) (Nat.lt_succ_of_le (hg.f3 hjg))
  have e9 : openJ (g (18 + j)) (cN (g (26 + j))) = nI o := by rw [hn]; exact e
  obtain ⟨⟨a, b, d⟩, c2⟩ := lin_eq (s := s) (lt := lt) (f0 := f0) ht hg hjg (cN (g (18 + j))) (Nat.le_refl _) o e9 (by omega)
  have e5 : stN v j = cN (g (18 + j)) := congrArg cN e3
  rw [e3, e4, e5, e9]
  refine ⟨a, ⟨?_, b, fun q hq => ?_⟩, ?_⟩
  · show upd _ 14 0 13 = _
    rw [upd_off (by decide)]; exact a
  · show upd _ 14 0 q = upd s 14 0 q
    by_cases h14 : q = 14
    · rw [h14, upd_at, upd_at]
    · rw [upd_off h14, upd_off h14]; exact d q hq
  · have hu : (if o ≤ cN (g (18 + j)) then 1 else 0) ≤ 1 := by split <;> decide
    omega
theorem line_no {lt : Nat → Int32} {lf : Int32} (ht : Tell v (gV g)) (h1 : ¬ inB lf 0 (v 0 0 - 1)) : lineM s g lt lf = (0, upd s 14 1, lt) := by
  rw [ht.n0] at h1
  exact if_neg h1
end PU1
