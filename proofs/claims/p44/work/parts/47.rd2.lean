/-! ===== the reads: the class and the reference answer alike (2) ===== -/
theorem cmp9 : ∀ a : Nat, a < 9 → ∀ b : Nat, b < 9 → ((0 < nI b - nI a ↔ a < b) ∧ (nI b - nI a = 0 ↔ a = b) ∧ (nI b ≤ nI a ↔ b ≤ a) ∧ (nI a = nI b ↔ a = b)) := by decide +kernel
theorem sub_lt0 {a b : Nat} (ha : a < 1000) (hb : b < 1000) : (0 < nI b - nI a ↔ a < b) := by
  rw [i_lt, pk_sub_toInt (by omega) (by omega), show (0 : Int32).toInt = 0 by decide]
  omega
theorem sub_eq0 {a b : Nat} (ha : a < 1000) (hb : b < 1000) : (nI b - nI a = 0 ↔ a = b) := by
  constructor
  · intro h
    have := congrArg Int32.toInt h
    rw [pk_sub_toInt (by omega) (by omega), show (0 : Int32).toInt = 0 by decide] at this
    omega
  · rintro rfl; exact Int32.sub_self _
section RD2
variable {v : Nat → Nat → Int32} {s g nd : Nat → Int32}
theorem skip_bits {j f : Nat} {kn bo : Int32} (ht : Tell v (gV g)) (hg : WFG g) (hj : j < cN (g 0)) (hf : f ≤ 3) : bitsJ (skipM g kn bo j f (cN (g (18 + j)))) 8 = popF (skipF v j (stN v j) kn bo f) := by
  rw [skip_eq ht hg hj hf, bits_popX (skipM_ok (hg.n8 hj))]
theorem skip_pop {j f : Nat} {kn bo : Int32} (ht : Tell v (gV g)) (hg : WFG g) (hj : j < cN (g 0)) (hf : f ≤ 3) : ∃ k : Nat, k < 9 ∧ popF (skipF v j (stN v j) kn bo f) = nI k := by
  rw [skip_eq ht hg hj hf]
  exact pop_ok (skipM_ok (hg.n8 hj))
theorem bet_eq {i i2 j : Nat} (ht : Tell v (gV g)) (hg : WFG g) (hj : j < cN (g 0)) (hi : i < cN (g 1)) (hi2 : i2 < cN (g 1)) : betM s g i i2 j = betC v i i2 j := by
  unfold betM betC
  rw [skip_bits ht hg hj (hg.f3 hj), skip_bits ht hg hj (hg.f3 hj), (ht.lf hj).2.1, (ht.co hi).1, (ht.co hi).2, (ht.co hi2).1, (ht.co hi2).2]
  obtain ⟨a, ha, ea⟩ := skip_pop (kn := g (63 + i)) (bo := g (58 + i)) ht hg hj (hg.f3 hj)
  obtain ⟨b, hb, eb⟩ := skip_pop (kn := g (63 + i2)) (bo := g (58 + i2)) ht hg hj (hg.f3 hj)
  rw [ea, eb]
  obtain ⟨c1, c2, c3, c4⟩ := cmp9 a ha b hb
  by_cases h1 : a < b
  · rw [if_pos (c1.mpr h1), if_neg (fun z => by have := c4.mp z; omega), if_neg (fun z => by have := c3.mp z; omega)]
  · rw [if_neg (fun z => h1 (c1.mp z))]
    by_cases h2 : a = b
    · rw [if_pos (c2.mpr h2), if_pos (c4.mpr h2)]
    · rw [if_neg (fun z => h2 (c2.mp z)), if_neg (fun z => h2 (c4.mp z)), if_pos (c3.mpr (by omega))]
theorem bcL_eq {j : Nat} (ht : Tell v (gV g)) (hg : WFG g) (hj : j < cN (g 0)) : ∀ q, q < cN (g 1) → bcL s g j q = bcLC v j q
  | 0, _ => rfl
  | q + 1, h => by
    have ih := bcL_eq ht hg hj q (by omega)
    rw [bcL, bcLC, ih, bet_eq ht hg hj h (Nat.lt_of_le_of_lt (bcLC_le q) (by omega))]
theorem bcou_ok {lf : Int32} (ht : Tell v (gV g)) (hg : WFG g) : RdOK s (bcouC v lf) (bcouM s g lf) := by
  unfold bcouC bcouM
  rw [ht.n0, ht.n1]
  refine RdOK.ite (fun h1 => ?_) (fun _ => RdOK.c rfl)
  obtain ⟨c, hc8, hc, hcc⟩ := hg.1.row
  obtain ⟨j, hj, rfl⟩ := in_c hc hc8 h1
  rw [cN_nI (show j < 2 ^ 31 by omega)]
  refine RdOK.ite (fun h2 => RdOK.c rfl) (fun h2 => ?_)
  obtain ⟨d, hd5, hd, hdd⟩ := okN_of hg.1.1.2.1
  have hd0 : 0 < d := by rcases Nat.eq_zero_or_pos d with e | e; exact absurd (by rw [hd, e]; rfl) h2; exact e
  exact RdOK.c (by rw [bcL_eq ht hg (by omega) _ (by omega)])
theorem blan_l {i j : Nat} (ht : Tell v (gV g)) (hg : WFG g) (hj : j < cN (g 0)) (hi : i < cN (g 1)) : ∀ k, blaL v (nI i) (nI j) k = ((blanL s g (nI i) (nI j) k).2, (blanL s g (nI i) (nI j) k).1)
  | 0 => by
    have h8 := hg.j8 hj
    have h5 : i < 5 := Nat.lt_of_lt_of_le hi hg.1.1.2.1.2
    rw [blaL, blanL]
    simp only [cN_nI (show j < 2 ^ 31 by omega), cN_nI (show i < 2 ^ 31 by omega)]
    rw [skip_bits ht hg hj (hg.f3 hj), (ht.lf hj).2.1, (ht.co hi).1, (ht.co hi).2]
  | k + 1 => by
    have h8 := hg.j8 hj
    have h5 : i < 5 := Nat.lt_of_lt_of_le hi hg.1.1.2.1.2
    have ih := blan_l ht hg hj hi k
    rw [blaL, blanL]
    simp only [cN_nI (show j < 2 ^ 31 by omega), cN_nI (show i < 2 ^ 31 by omega), ih]
    rw [skip_bits ht hg hj (hg.f3 hj), (ht.lf hj).2.1, (ht.co hi).1, (ht.co hi).2]
    split <;> rfl
theorem blan_ok {co lf : Int32} (ht : Tell v (gV g)) (hg : WFG g) : RdOK s (blanC v co lf) (blanM s g co lf) := by
  unfold blanC blanM
  rw [ht.n1, ht.n0]
  refine RdOK.ite (fun h0 => ?_) (fun _ => RdOK.c rfl)
  refine RdOK.ite (fun h1 => ?_) (fun _ => RdOK.c rfl)
  obtain ⟨d, hd5, hd, hdd⟩ := okN_of hg.1.1.2.1
  obtain ⟨i, hi, rfl⟩ := in_c hd (by omega) h0
  obtain ⟨c, hc8, hc, hcc⟩ := hg.1.row
  obtain ⟨j, hj, rfl⟩ := in_c hc hc8 h1
  rw [blan_l (s := s) ht hg (by omega) (by omega)]
  exact RdOK.ite (fun _ => RdOK.c rfl) (fun _ => RdOK.c rfl)
theorem bfol_ok {co lf : Int32} (ht : Tell v (gV g)) (hg : WFG g) : RdOK s (bfolC v co lf) (bfolM s g co lf) := by
  unfold bfolC bfolM
  rw [ht.n1, ht.n0]
  refine RdOK.ite (fun h0 => ?_) (fun _ => RdOK.c rfl)
  refine RdOK.ite (fun h1 => ?_) (fun _ => RdOK.c rfl)
  obtain ⟨d, hd5, hd, hdd⟩ := okN_of hg.1.1.2.1
  obtain ⟨i, hi, rfl⟩ := in_c hd (by omega) h0
  obtain ⟨c, hc8, hc, hcc⟩ := hg.1.row
  obtain ⟨j, hj, rfl⟩ := in_c hc hc8 h1
  have hjg : j < cN (g 0) := by omega
  simp only [cN_nI (show j < 2 ^ 31 by omega), cN_nI (show i < 2 ^ 31 by omega), skwM]
  rw [skip_bits ht hg hjg (show 0 ≤ 3 by decide), skip_bits ht hg hjg (show 1 ≤ 3 by decide), skip_bits ht hg hjg (show 2 ≤ 3 by decide), skip_bits ht hg hjg (show 3 ≤ 3 by decide), (ht.co (i := i) (by omega)).1, (ht.co (i := i) (by omega)).2]
  refine RdOK.ite (fun _ => ?_) (fun _ => ?_) <;> refine RdOK.ite (fun _ => ?_) (fun _ => ?_)
  · exact RdOK.ite (fun _ => RdOK.c rfl) (fun _ => RdOK.c rfl)
  · exact RdOK.ite (fun _ => RdOK.c rfl) (fun _ => RdOK.c rfl)
  · exact RdOK.ite (fun _ => RdOK.c rfl) (fun _ => RdOK.c rfl)
  · exact RdOK.ite (fun _ => RdOK.c rfl) (fun _ => RdOK.c rfl)
/-! the order of leaflets -/
theorem key_eq {ms : Int32} {j : Nat} (ht : Tell v (gV g)) (hg : WFG g) (hj : j < cN (g 0)) : keyV g ms j = keyC v j ms := by
  obtain ⟨e3, e4, e5, e6, e7⟩ := ht.lf hj
  unfold keyV keyC
  rw [parts_eq ht hg hj, e3, e4, pop7 ht hg hj]
theorem key_ok {ms : Int32} {j : Nat} (ht : Tell v (gV g)) (hg : WFG g) (hj : j < cN (g 0)) : ∃ a : Nat, a < 1000 ∧ keyC v j ms = nI a := by
  rw [← key_eq ht hg hj]
  unfold keyV
  obtain ⟨n, hn8, hn, hnn⟩ := okN_of (hg.1.1.2.2 j hj).1
  obtain ⟨f, hf3, hf, hff⟩ := okN_of (hg.1.1.2.2 j hj).2.1
  split
  · exact ⟨n, by omega, hn⟩
  · split
    · exact ⟨f, by omega, hf⟩
    · split
      · rw [sumM_v (hg.j8 hj)]
        obtain ⟨m, hm, e⟩ := partsJ_nn (w := gV g) (j := j) (set := 1 <<< (g (18 + j) &&& 31) - 1) (cN (g (18 + j))) (hg.n8 hj) (fun q hq => (hg.2.1 j hj).ps (hg.j8 hj) hq)
        exact ⟨m, by have := hg.n8 hj; omega, e⟩
      · rw [bits_popX (hg.2.1 j hj).2.1]
        obtain ⟨k, hk, e⟩ := pop_ok (hg.2.1 j hj).2.1
        exact ⟨k, by omega, e⟩
theorem cnt_eq {ms : Int32} {q : Nat} (ht : Tell v (gV g)) (hg : WFG g) (hq : q < cN (g 0)) : ∀ o, o ≤ cN (g 0) → cntL g ms q o = plcL v q ms o
  | 0, _ => rfl
  | o + 1, h => by
    obtain ⟨a, ha, ea⟩ := key_ok (ms := ms) ht hg hq
    obtain ⟨b, hb, eb⟩ := key_ok (ms := ms) ht hg (show o < cN (g 0) by omega)
    rw [cntL, plcL, cnt_eq ht hg hq o (by omega), key_eq ht hg hq, key_eq ht hg (show o < cN (g 0) by omega), ea, eb]
    by_cases h1 : a < b
    · rw [if_pos ((sub_lt0 ha hb).mpr h1), if_pos ((nI_ltI (by omega) (by omega)).mpr h1)]
    · rw [if_neg (fun z => h1 ((sub_lt0 ha hb).mp z)), if_neg (fun z => h1 ((nI_ltI (by omega) (by omega)).mp z))]
      by_cases h2 : a = b
      · rw [if_pos ((sub_eq0 ha hb).mpr h2), if_pos (show nI b = nI a by rw [h2]), Int32.add_zero]
      · rw [if_neg (fun z => h2 ((sub_eq0 ha hb).mp z)), if_neg (fun z => h2 ((nI_eq (by omega) (by omega)).mp z).symm), Int32.add_zero]
theorem rank_f {ms pl : Int32} (ht : Tell v (gV g)) (hg : WFG g) : ∀ n q, q + n ≤ cN (g 0) → rankF g ms pl (cN (g 0)) n q = rankG v ms pl n q
  | 0, _, _ => rfl
  | n + 1, q, h => by
    have e : cntL g ms q (cN (g 0)) = plcC v q ms := by
      unfold plcC
      rw [ht.n0]
      exact cnt_eq ht hg (by omega) _ (Nat.le_refl _)
    rw [rankF, rankG, e, rank_f ht hg n (q + 1) (by omega)]
theorem rank_ok {ms pl : Int32} (ht : Tell v (gV g)) (hg : WFG g) : RdOK s (rankC v ms pl) (rankM s g ms pl) := by
  unfold rankC rankM
  refine RdOK.ite (fun _ => ?_) (fun _ => RdOK.c rfl)
  rw [ht.n0, rank_f ht hg _ 0 (by omega)]
  generalize rankG v ms pl (cN (g 0)) 0 = r
  cases r <;> exact RdOK.c rfl
/-! sums -/
theorem suma_eq {a : Nat} : ∀ n, sumaL s g a 8 n = sumJ (fun k => g (a + k)) n
  | 0 => rfl
  | n + 1 => by rw [sumaL, sumJ, suma_eq n]
theorem suma_eq6 {a : Nat} : ∀ n, sumaL s g a 6 n = sumJ (fun k => g (a + k)) n
  | 0 => rfl
  | n + 1 => by rw [sumaL, sumJ, suma_eq6 n]
theorem sumJ_ext {f : Nat → Int32} {c : Nat} : ∀ n, c ≤ n → (∀ j, c ≤ j → j < n → f j = 0) → sumJ f n = sumJ f c
  | 0, h, _ => by rw [Nat.le_zero.mp h]
  | n + 1, h, e => by
    by_cases hc : c = n + 1
    · rw [hc]
    · rw [sumJ, sumJ_ext n (by omega) (fun j h1 h2 => e j h1 (by omega)), e n (by omega) (by omega), Int32.add_zero]
theorem steps_eq {s2 : Nat → Int32} (ht : Tell v (gV g)) (hg : WFG g) : sumaM s2 g 18 8 = sumJ (fun z9 => v 3 z9) (cN (g 0)) := by
  unfold sumaM
  rw [suma_eq, sumJ_ext (c := cN (g 0)) 8 hg.1.1.1.2 (fun j h1 h2 => (hg.1.2 j h1 h2).1)]
  exact sumJ_t _ (fun j hj => (ht.lf hj).1.symm)
theorem ones_eq : ∀ c, (∀ j, j < c → v 6 j = g (42 + j)) → onesL s g c = sumJ (fun z9 => if builtB v z9 then 1 else 0) c
  | 0, _ => rfl
  | c + 1, h => by
    rw [onesL, sumJ, ones_eq c (fun j hj => h j (by omega))]
    simp only [builtB, h c (by omega)]
    by_cases e : g (42 + c) = 0
    · rw [if_pos e, if_neg (show ¬ ¬ g (42 + c) - 1 = -1 by rw [e]; decide)]
    · rw [if_neg e, if_pos (by_ne e)]
theorem acc_ok {ct : Nat} {wh : Int32} (ht : Tell v (gV g)) (hg : WFG g) (hct : s 3 = nI ct) : RdOK s (accC v ct (s 7) wh) (accM s g wh) := by
  unfold accC accM
  refine RdOK.ite (fun _ => RdOK.c ht.n0.symm) (fun _ => ?_)
  refine RdOK.ite (fun _ => RdOK.c ht.n1.symm) (fun _ => ?_)
  refine RdOK.ite (fun _ => RdOK.c (by rw [steps_eq ht hg, ht.n0])) (fun _ => ?_)
  refine RdOK.ite (fun _ => RdOK.c (by unfold onesM; rw [ht.n0]; exact ones_eq _ (fun j hj => (ht.lf hj).2.2.2.1))) (fun _ => ?_)
  refine RdOK.ite (fun _ => RdOK.c (by unfold sumaM; rw [suma_eq6]; exact sumJ_t _ (fun j hj => (ht.r1 hj).symm))) (fun _ => ?_)
  refine RdOK.ite (fun _ => RdOK.c (ht.r0 (by decide)).symm) (fun _ => ?_)
  refine RdOK.ite (fun _ => RdOK.c (ht.r0 (by decide)).symm) (fun _ => ?_)
  refine RdOK.ite (fun _ => RdOK.c (ht.r0 (by decide)).symm) (fun _ => ?_)
  refine RdOK.ite (fun _ => RdOK.c (ht.r0 (by decide)).symm) (fun _ => ?_)
  refine RdOK.ite (fun _ => RdOK.c hct) (fun _ => ?_)
  exact RdOK.ite (fun _ => RdOK.c rfl) (fun _ => RdOK.c rfl)
/-- all is even -/
theorem even_1 (ht : Tell v (gV g)) (hg : WFG g) : evenC v = 1 := by
  have h : ∀ k, k < 6 → v 1 k + v 2 k = sumJ (fun z9 => needJ v z9 (v 7 z9) (nI k) (stN v z9)) (cN (v 0 0)) := fun k hk => by
    rw [ht.r1 hk, ht.r2 hk, hg.2.2.2.2 k hk, ht.n0]
    refine sumJ_t _ (fun j hj => ?_)
    unfold ndG
    rw [(ht.lf hj).2.2.2.2, needJ_ts (ht.l hj)]
    simp only [stN, gV_3]
  unfold evenC
  have h0 : v 1 0 + v 2 0 = sumJ (fun z9 => needJ v z9 (v 7 z9) 0 (stN v z9)) (cN (v 0 0)) := h 0 (by decide)
  have h1 : v 1 1 + v 2 1 = sumJ (fun z9 => needJ v z9 (v 7 z9) 1 (stN v z9)) (cN (v 0 0)) := h 1 (by decide)
  have h2 : v 1 2 + v 2 2 = sumJ (fun z9 => needJ v z9 (v 7 z9) 2 (stN v z9)) (cN (v 0 0)) := h 2 (by decide)
  have h3 : v 1 3 + v 2 3 = sumJ (fun z9 => needJ v z9 (v 7 z9) 3 (stN v z9)) (cN (v 0 0)) := h 3 (by decide)
  have h4 : v 1 4 + v 2 4 = sumJ (fun z9 => needJ v z9 (v 7 z9) 4 (stN v z9)) (cN (v 0 0)) := h 4 (by decide)
  have h5 : v 1 5 + v 2 5 = sumJ (fun z9 => needJ v z9 (v 7 z9) 5 (stN v z9)) (cN (v 0 0)) := h 5 (by decide)
  rw [if_pos h0, if_pos h1, if_pos h2, if_pos h3, if_pos h4, if_pos h5]
/-! means -/
theorem sumJ_nn {f : Nat → Int32} {b : Nat} : ∀ c, (∀ j, j < c → ∃ a : Nat, a ≤ b ∧ f j = nI a) → ∃ m : Nat, m ≤ b * c ∧ sumJ f c = nI m
  | 0, _ => ⟨0, by omega, rfl⟩
  | c + 1, h => by
    obtain ⟨m, hm, e⟩ := sumJ_nn (f := f) (b := b) c (fun j hj => h j (by omega))
    obtain ⟨a, ha, ea⟩ := h c (by omega)
    exact ⟨m + a, by rw [Nat.mul_succ]; omega, by rw [sumJ, e, ea, nI_add]⟩
theorem dd_ok : ∀ a : Nat, a < 65 → ∀ b : Nat, b < 9 → ¬ b = 0 → vf_n64 (FP.ddiv (FP.i2d (nI a)) (FP.i2d (nI b))) := by
  unfold vf_n64
  decide +kernel
theorem mean_nan (ht : Tell v (gV g)) (hg : WFG g) (h : ¬ g 0 = 0) : vf_n64 (FP.ddiv (FP.i2d (sumJ (fun z9 => v 3 z9) (cN (g 0)))) (FP.i2d (g 0))) := by
  obtain ⟨c, hc8, hc, hcc⟩ := hg.1.row
  obtain ⟨m, hm, e⟩ := sumJ_nn (f := fun z9 => v 3 z9) (b := 8) (cN (g 0)) (fun j hj => by
    obtain ⟨n, hn8, hn, -⟩ := okN_of (hg.1.1.2.2 j hj).1
    exact ⟨n, hn8, (ht.lf hj).1.trans hn⟩)
  rw [e, hc]
  refine dd_ok m (by rw [hcc] at hm; omega) c (by omega) (fun z => h (by rw [hc, z]; rfl))
theorem mean_ok (ht : Tell v (gV g)) (hg : WFG g) : (meanM s g).1 = (meanC v).1 ∧ (meanM s g).2 = upd s 14 (meanC v).2 := by
  unfold meanC meanM
  rw [ht.n0, steps_eq ht hg]
  by_cases h : g 0 = 0
  · rw [if_pos h, if_pos h]; exact ⟨rfl, rfl⟩
  · rw [if_neg h, if_neg h]; exact ⟨rfl, rfl⟩
theorem share_l : ∀ c, (∀ j, j < c → v 6 j = g (42 + j) ∧ v 3 j = g (18 + j) ∧ bitsJ (g (50 + j)) 8 = popF (v 7 j)) → shareL s g c = (sumJ (fun z9 => if builtB v z9 then v 3 z9 else 0) c, sumJ (fun z9 => popF (v 7 z9)) c)
  | 0, _ => rfl
  | c + 1, h => by
    obtain ⟨h1, h2, h3⟩ := h c (by omega)
    rw [shareL, sumJ, sumJ, share_l c (fun j hj => h j (by omega))]
    simp only [builtB, h1, h2, h3]
    by_cases e : g (42 + c) = 0
    · rw [if_pos e, if_neg (show ¬ ¬ g (42 + c) - 1 = -1 by rw [e]; decide)]
    · rw [if_neg e, if_pos (by_ne e)]
theorem share_eq (ht : Tell v (gV g)) (hg : WFG g) : shareL s g (cN (g 0)) = (sumJ (fun z9 => if builtB v z9 then v 3 z9 else 0) (cN (g 0)), sumJ (fun z9 => popF (v 7 z9)) (cN (g 0))) :=
  share_l _ (fun j hj => ⟨(ht.lf hj).2.2.2.1, (ht.lf hj).1, pop7 ht hg hj⟩)
theorem share_ok (ht : Tell v (gV g)) (hg : WFG g) : (shareM s g).1 = (shareC v).1 ∧ (shareM s g).2 = upd s 14 (shareC v).2 := by
  unfold shareC shareM
  rw [ht.n0, share_eq ht hg]
  dsimp only
  by_cases h : sumJ (fun z9 => if builtB v z9 then v 3 z9 else 0) (cN (g 0)) = 0
  · rw [if_pos h, if_pos h]; exact ⟨rfl, rfl⟩
  · rw [if_neg h, if_neg h]; exact ⟨rfl, rfl⟩
theorem share_nn (ht : Tell v (gV g)) (hg : WFG g) : (∃ a : Nat, a < 65 ∧ sumJ (fun z9 => if builtB v z9 then v 3 z9 else 0) (cN (g 0)) = nI a) ∧ ∃ b : Nat, b < 73 ∧ sumJ (fun z9 => popF (v 7 z9)) (cN (g 0)) = nI b := by
  have h8 := hg.1.1.1.2
  obtain ⟨a, ha, e⟩ := sumJ_nn (f := fun z9 => if builtB v z9 then v 3 z9 else 0) (b := 8) (cN (g 0)) (fun j hj => by
    obtain ⟨n, hn8, hn, -⟩ := okN_of (hg.1.1.2.2 j hj).1
    show ∃ a : Nat, a ≤ 8 ∧ (if builtB v j then v 3 j else 0) = nI a
    split
    · exact ⟨n, hn8, (ht.lf hj).1.trans hn⟩
    · exact ⟨0, by decide, rfl⟩)
  obtain ⟨b, hb, e2⟩ := sumJ_nn (f := fun z9 => popF (v 7 z9)) (b := 8) (cN (g 0)) (fun j hj => by
    obtain ⟨k, hk, e⟩ := pop_ok (hg.2.1 j hj).2.1
    exact ⟨k, by omega, by show popF (v 7 j) = nI k; rw [(ht.lf hj).2.2.2.2]; exact e⟩)
  exact ⟨⟨a, by omega, e⟩, b, by omega, e2⟩
end RD2
theorem ff_ok : ∀ a : Nat, a < 73 → ∀ b : Nat, b < 65 → ¬ b = 0 → vf_n32 (FP.fdiv (FP.i2f (nI a)) (FP.i2f (nI b))) := by
  unfold vf_n32
  decide +kernel
theorem f2d_ok : ∀ a : Nat, a < 73 → ∀ b : Nat, b < 65 → ¬ b = 0 → vf_n64 (FP.f2d (FP.fdiv (FP.i2f (nI a)) (FP.i2f (nI b)))) := by
  unfold vf_n64
  decide +kernel
