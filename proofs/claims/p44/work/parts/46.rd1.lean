/-! ===== the reads: the class and the reference answer alike ===== -/
/-- the class answers C.1, or throws the C.2-th; the reference answers M.1 and notes what it throws -/
def RdOK (s : Nat → Int32) (C : Int32 × Int32) (M : Int32 × (Nat → Int32)) : Prop := M.1 = C.1 ∧ M.2 = upd s 14 C.2
def Rd3 (s : Nat → Int32) (C : Int32 × Int32) (M : Int32 × (Nat → Int32) × (Nat → Int32)) : Prop := M.1 = C.1 ∧ M.2.1 = upd s 14 C.2
theorem RdOK.ite {s : Nat → Int32} {p : Prop} [Decidable p] {C1 C2 : Int32 × Int32} {M1 M2 : Int32 × (Nat → Int32)} (h1 : p → RdOK s C1 M1) (h2 : ¬ p → RdOK s C2 M2) : RdOK s (if p then C1 else C2) (if p then M1 else M2) := by
  by_cases h : p
  · rw [if_pos h, if_pos h]; exact h1 h
  · rw [if_neg h, if_neg h]; exact h2 h
theorem Rd3.ite {s : Nat → Int32} {p : Prop} [Decidable p] {C1 C2 : Int32 × Int32} {M1 M2 : Int32 × (Nat → Int32) × (Nat → Int32)} (h1 : p → Rd3 s C1 M1) (h2 : ¬ p → Rd3 s C2 M2) : Rd3 s (if p then C1 else C2) (if p then M1 else M2) := by
  by_cases h : p
  · rw [if_pos h, if_pos h]; exact h1 h
  · rw [if_neg h, if_neg h]; exact h2 h
theorem RdOK.c {s : Nat → Int32} {a b k : Int32} (h : b = a) : RdOK s (a, k) (b, upd s 14 k) := ⟨h, rfl⟩
theorem Rd3.c {s nd : Nat → Int32} {a b k : Int32} (h : b = a) : Rd3 s (a, k) (b, upd s 14 k, nd) := ⟨h, rfl⟩
theorem or_bit (x y : Int32) : (x ||| y) &&& 1 = 0 ↔ x &&& 1 = 0 ∧ y &&& 1 = 0 := by
  have h : (x ||| y) &&& 1 = (x &&& 1) ||| (y &&& 1) := by
    apply Int32.toBitVec_inj.mp
    simp only [Int32.toBitVec_and, Int32.toBitVec_or]
    ext i hi
    simp only [BitVec.getElem_and, BitVec.getElem_or]
    cases x.toBitVec[i] <;> cases y.toBitVec[i] <;> simp
  rw [h, Int32.or_eq_zero_iff]
theorem hasB_or (x y m : Int32) : hasB (x ||| y) m ↔ hasB x m ∨ hasB y m := by
  unfold hasB
  rw [Int32.shiftRight_or, or_bit]
  constructor
  · intro h
    by_cases a : x >>> (m &&& 31) &&& 1 = 0
    · exact Or.inr (fun b => h ⟨a, b⟩)
    · exact Or.inl a
  · rintro (h | h) z
    · exact h z.1
    · exact h z.2
theorem hasB_0 : ∀ q : Nat, q < 8 → ¬ hasB 0 (nI q) := by decide +kernel
theorem hasB_und : ∀ n : Nat, n < 9 → ∀ o : Nat, o < n + 1 → ∀ q : Nat, q < n → (hasB (1 <<< (nI n &&& 31) - 1 <<< (nI o &&& 31)) (nI q) ↔ ¬ nI q < nI o) := by decide +kernel
theorem hasB_unread {v : Nat → Nat → Int32} {k q : Nat} {kn : Int32} (hq : q < 8) : ∀ n, n ≤ 8 → (hasB (unreadJ v k kn n) (nI q) ↔ q < n ∧ v (30 + k) q &&& kn = 0)
  | 0, _ => ⟨fun z => absurd z (hasB_0 q hq), fun z => absurd z.1 (Nat.not_lt_zero _)⟩
  | n + 1, h => by
    have ih := hasB_unread (v := v) (k := k) (kn := kn) hq n (by omega)
    have b1 := bit_one n (by omega) q hq
    rw [unreadJ]
    by_cases hc : v (30 + k) n &&& kn = 0
    · rw [if_pos hc, hasB_or, ih, b1]
      constructor
      · rintro (z | z)
        · exact ⟨by omega, z.2⟩
        · subst z; exact ⟨Nat.lt_succ_self _, hc⟩
      · intro z
        by_cases e : q = n
        · exact Or.inr e
        · exact Or.inl ⟨by omega, z.2⟩
    · rw [if_neg hc, ih]
      constructor
      · intro z; exact ⟨by omega, z.2⟩
      · intro z
        refine ⟨?_, z.2⟩
        rcases Nat.lt_or_ge q n with e | e
        · exact e
        · have : q = n := by omega
          subst this; exact absurd z.2 hc
theorem hasB_below {v : Nat → Nat → Int32} {k q : Nat} {bo : Int32} (hq : q < 8) : ∀ n, n ≤ 8 → (hasB (belowJ v k bo n) (nI q) ↔ q < n ∧ ¬ bo ≤ psJ v k q)
  | 0, _ => ⟨fun z => absurd z (hasB_0 q hq), fun z => absurd z.1 (Nat.not_lt_zero _)⟩
  | n + 1, h => by
    have ih := hasB_below (v := v) (k := k) (bo := bo) hq n (by omega)
    have b1 := bit_one n (by omega) q hq
    rw [belowJ]
    by_cases hc : bo ≤ psJ v k n
    · rw [if_pos hc, ih]
      constructor
      · intro z; exact ⟨by omega, z.2⟩
      · intro z
        refine ⟨?_, z.2⟩
        rcases Nat.lt_or_ge q n with e | e
        · exact e
        · have : q = n := by omega
          subst this; exact absurd hc z.2
    · rw [if_neg hc, hasB_or, ih, b1]
      constructor
      · rintro (z | z)
        · exact ⟨by omega, z.2⟩
        · subst z; exact ⟨Nat.lt_succ_self _, hc⟩
      · intro z
        by_cases e : q = n
        · exact Or.inr e
        · exact Or.inl ⟨by omega, z.2⟩
section RD1
variable {v : Nat → Nat → Int32} {s g nd : Nat → Int32}
theorem skip_eq {j f : Nat} {kn bo : Int32} (ht : Tell v (gV g)) (hg : WFG g) (hj : j < cN (g 0)) (hf : f ≤ 3) : skipF v j (stN v j) kn bo f = skipM g kn bo j f (cN (g (18 + j))) := by
  obtain ⟨n, hn8, hn, hnn⟩ := okN_of (hg.1.1.2.2 j hj).1
  rw [skipF_t (ht.l hj), hnn, skipM_v (hg.j8 hj) hn hn8 hf]
  simp only [stN, gV_3, hnn]
theorem WFG.f3 (hg : WFG g) {j : Nat} (hj : j < cN (g 0)) : cN (g (26 + j)) ≤ 3 := (hg.1.1.2.2 j hj).2.1.2
theorem skipM_ok {j f : Nat} {kn bo : Int32} {n : Nat} (hn : n ≤ 8) : okN (skipM g kn bo j f n) 255 := by
  obtain ⟨m, hm, e⟩ := skipM_lt (g := g) (kn := kn) (bo := bo) (l := j) (f := f) n hn
  have : m < 256 := Nat.lt_of_lt_of_le hm (Nat.pow_le_pow_right (n := 2) (by decide) hn)
  exact okN_mk e (by omega) (by decide)
theorem parts_eq {j : Nat} {set : Int32} (ht : Tell v (gV g)) (hg : WFG g) (hj : j < cN (g 0)) : sumM g j set (cN (g (18 + j))) = partsJ v j set (stN v j) := by
  rw [partsJ_ts (ht.l hj), sumM_v (hg.j8 hj)]
  simp only [stN, gV_3]
theorem leafOf_ok {lf wh : Int32} (ht : Tell v (gV g)) (hg : WFG g) : Rd3 s (leafOfC v lf wh) (leafOfM s g nd lf wh) := by
  unfold leafOfC leafOfM
  rw [ht.n0]
  refine Rd3.ite (fun h1 => ?_) (fun _ => Rd3.c rfl)
  obtain ⟨c, hc8, hc, hcc⟩ := hg.1.row
  obtain ⟨j, hj, rfl⟩ := in_c hc hc8 h1
  rw [cN_nI (show j < 2 ^ 31 by omega)]
  have hjg : j < cN (g 0) := by omega
  obtain ⟨e3, e4, e5, e6, e7⟩ := ht.lf hjg
  refine Rd3.ite (fun _ => Rd3.c e3.symm) (fun _ => ?_)
  refine Rd3.ite (fun _ => Rd3.c e4.symm) (fun _ => ?_)
  refine Rd3.ite (fun _ => Rd3.c (by rw [e3, e4])) (fun _ => ?_)
  refine Rd3.ite (fun _ => Rd3.c e5.symm) (fun _ => ?_)
  refine Rd3.ite (fun _ => Rd3.c (by rw [e6])) (fun _ => ?_)
  refine Rd3.ite (fun _ => Rd3.c (by rw [e7, bits_popX (hg.2.1 j hjg).2.1])) (fun _ => ?_)
  refine Rd3.ite (fun _ => Rd3.c (by rw [parts_eq ht hg hjg, e3])) (fun _ => ?_)
  refine Rd3.ite (fun _ => Rd3.c (by rw [parts_eq ht hg hjg, e7])) (fun _ => Rd3.c rfl)
theorem stepOf_ok {lf sp wh : Int32} (ht : Tell v (gV g)) (hg : WFG g) : RdOK s (stepOfC v lf sp wh) (stepOfM s g lf sp wh) := by
  unfold stepOfC stepOfM
  rw [ht.n0]
  refine RdOK.ite (fun h1 => ?_) (fun _ => RdOK.c rfl)
  obtain ⟨c, hc8, hc, hcc⟩ := hg.1.row
  obtain ⟨j, hj, rfl⟩ := in_c hc hc8 h1
  rw [cN_nI (show j < 2 ^ 31 by omega)]
  have hjg : j < cN (g 0) := by omega
  obtain ⟨e3, e4, e5, e6, e7⟩ := ht.lf hjg
  rw [e3]
  refine RdOK.ite (fun h2 => ?_) (fun _ => RdOK.c rfl)
  obtain ⟨n, hn8, hn, hnn⟩ := okN_of (hg.1.1.2.2 j hjg).1
  obtain ⟨q, hq, rfl⟩ := in_c hn hn8 h2
  rw [cN_nI (show q < 2 ^ 31 by omega)]
  obtain ⟨b1, b2, b3, b4⟩ := (ht.l hjg).2.2.2.2.2 q (by rw [gV_3, hnn]; exact hq)
  rw [gV_10 (by omega)] at b1
  rw [gV_30 (by omega)] at b3
  rw [gV_40] at b4
  refine RdOK.ite (fun _ => RdOK.c b1.symm) (fun _ => ?_)
  refine RdOK.ite (fun _ => RdOK.c (by rw [mP_v (hg.j8 hjg), psJ_t (ht.l hjg) (by rw [gV_3, hnn]; exact hq)])) (fun _ => ?_)
  refine RdOK.ite (fun _ => RdOK.c b3.symm) (fun _ => ?_)
  refine RdOK.ite (fun _ => RdOK.c (by rw [b4, Int32.add_sub_cancel])) (fun _ => ?_)
  refine RdOK.ite (fun _ => ?_) (fun _ => RdOK.c rfl)
  by_cases hb : hasB (v 7 j) (nI q)
  · rw [if_pos hb]
    exact RdOK.c (by rw [← e7]; exact (hasB_iff _ _).mp hb)
  · rw [if_neg hb]
    exact RdOK.c (by rw [← e7]; exact Decidable.of_not_not hb)
theorem blt_1 {co : Int32} : ∀ c, (∀ j, j < c → v 6 j = g (42 + j)) → bltL s g co 0 c = sumJ (fun z9 => if v 6 z9 - 1 = co then 1 else 0) c
  | 0, _ => rfl
  | c + 1, h => by
    rw [bltL, sumJ, blt_1 c (fun j hj => h j (by omega)), h c (by omega)]
    by_cases e : g (42 + c) = co + 1
    · rw [if_pos e, if_pos rfl, if_pos (by rw [e, Int32.add_sub_cancel])]
    · rw [if_neg e, if_neg (fun z => e (by rw [← z, Int32.sub_add_cancel]))]
theorem blt_2 {co : Int32} : ∀ c, (∀ j, j < c → v 6 j = g (42 + j) ∧ bitsJ (g (50 + j)) 8 = popF (v 7 j)) → bltL s g co 1 c = sumJ (fun z9 => if v 6 z9 - 1 = co then popF (v 7 z9) else 0) c
  | 0, _ => rfl
  | c + 1, h => by
    obtain ⟨h1, h2⟩ := h c (by omega)
    rw [bltL, sumJ, blt_2 c (fun j hj => h j (by omega)), h1, h2]
    by_cases e : g (42 + c) = co + 1
    · rw [if_pos e, if_neg (by decide), if_pos (by rw [e, Int32.add_sub_cancel])]
    · rw [if_neg e, if_neg (fun z => e (by rw [← z, Int32.sub_add_cancel]))]
theorem pop7 (ht : Tell v (gV g)) (hg : WFG g) {j : Nat} (hj : j < cN (g 0)) : bitsJ (g (50 + j)) 8 = popF (v 7 j) := by
  rw [(ht.lf hj).2.2.2.2, bits_popX (hg.2.1 j hj).2.1]
theorem cousOf_ok {co wh : Int32} (ht : Tell v (gV g)) (hg : WFG g) : RdOK s (cousOfC v co wh) (cousOfM s g co wh) := by
  unfold cousOfC cousOfM
  rw [ht.n1, ht.n0]
  refine RdOK.ite (fun h1 => ?_) (fun _ => RdOK.c rfl)
  obtain ⟨d, hd5, hd, hdd⟩ := okN_of hg.1.1.2.1
  obtain ⟨i, hi, rfl⟩ := in_c hd (by omega) h1
  rw [cN_nI (show i < 2 ^ 31 by omega)]
  obtain ⟨e8, e9⟩ := ht.co (i := i) (by omega)
  refine RdOK.ite (fun _ => RdOK.c e8.symm) (fun _ => ?_)
  refine RdOK.ite (fun _ => RdOK.c e9.symm) (fun _ => ?_)
  refine RdOK.ite (fun _ => RdOK.c (by rw [e9, bits_popX (okN_le (hg.2.2.1 i (by omega)) (by decide))])) (fun _ => ?_)
  refine RdOK.ite (fun _ => RdOK.c (blt_1 _ (fun j hj => (ht.lf hj).2.2.2.1))) (fun _ => ?_)
  refine RdOK.ite (fun _ => RdOK.c (blt_2 _ (fun j hj => ⟨(ht.lf hj).2.2.2.1, pop7 ht hg hj⟩))) (fun _ => RdOK.c rfl)
theorem why_ok {co lf sp : Int32} (ht : Tell v (gV g)) (hg : WFG g) : RdOK s (whyC v co lf sp) (whyM s g co lf sp) := by
  unfold whyC whyM
  rw [ht.n1, ht.n0]
  refine RdOK.ite (fun h0 => ?_) (fun _ => RdOK.c rfl)
  refine RdOK.ite (fun h1 => ?_) (fun _ => RdOK.c rfl)
  obtain ⟨d, hd5, hd, hdd⟩ := okN_of hg.1.1.2.1
  obtain ⟨i, hi, rfl⟩ := in_c hd (by omega) h0
  obtain ⟨c, hc8, hc, hcc⟩ := hg.1.row
  obtain ⟨j, hj, rfl⟩ := in_c hc hc8 h1
  rw [cN_nI (show j < 2 ^ 31 by omega), cN_nI (show i < 2 ^ 31 by omega)]
  have hjg : j < cN (g 0) := by omega
  obtain ⟨e3, e4, e5, e6, e7⟩ := ht.lf hjg
  obtain ⟨e8, e9⟩ := ht.co (i := i) (by omega)
  rw [e3]
  refine RdOK.ite (fun h2 => ?_) (fun _ => RdOK.c rfl)
  obtain ⟨n, hn8, hn, hnn⟩ := okN_of (hg.1.1.2.2 j hjg).1
  obtain ⟨q, hq, rfl⟩ := in_c hn hn8 h2
  rw [cN_nI (show q < 2 ^ 31 by omega), e4, e8, e9]
  obtain ⟨b1, b2, b3, b4⟩ := (ht.l hjg).2.2.2.2.2 q (by rw [gV_3, hnn]; exact hq)
  rw [gV_30 (by omega)] at b3
  rw [b3, psJ_t (ht.l hjg) (by rw [gV_3, hnn]; exact hq), ← mP_v (hg.j8 hjg)]
  unfold causeM
  rw [Int32.and_comm (g (63 + i))]
  (repeat' split) <;> exact RdOK.c rfl
theorem whyAg_eq {co lf sp : Int32} (hW : WF v) : whyAgC v co lf sp = whyC v co lf sp := by
  unfold whyAgC whyC
  by_cases h0 : inB co 0 (v 0 1 - 1)
  · rw [if_pos h0, if_pos h0]
    by_cases h1 : inB lf 0 (v 0 0 - 1)
    · rw [if_pos h1, if_pos h1]
      obtain ⟨c, hc8, hc, hcc⟩ := okN_of hW.1
      obtain ⟨j, hj, rfl⟩ := in_c hc hc8 h1
      rw [cN_nI (show j < 2 ^ 31 by omega)]
      by_cases h2 : inB sp 0 (v 3 j - 1)
      · rw [if_pos h2, if_pos h2]
        obtain ⟨n, hn8, hn, hnn⟩ := okN_of (hW.2.2 j (by omega)).1
        obtain ⟨f, hf3, hf, hff⟩ := okN_of (hW.2.2 j (by omega)).2
        obtain ⟨q, hq, rfl⟩ := in_c hn hn8 h2
        rw [cN_nI (show q < 2 ^ 31 by omega), hff, show stN v j = n from hnn]
        obtain ⟨o, ho, e⟩ := openJ_nI n (by omega) f (by omega)
        have a1 := hasB_und n (by omega) o ho q hq
        have a2 := hasB_unread (v := v) (k := j) (kn := v 9 (cN co)) (show q < 8 by omega) n hn8
        have a3 := hasB_below (v := v) (k := j) (bo := v 8 (cN co)) (show q < 8 by omega) n hn8
        unfold underF
        rw [hn, e]
        by_cases b1 : nI q < nI o
        · rw [if_neg (fun z => a1.mp z b1), if_pos b1]
          by_cases b2 : v (30 + j) q &&& v 9 (cN co) = 0
          · rw [if_pos (a2.mpr ⟨hq, b2⟩), if_pos b2]
          · rw [if_neg (fun z => b2 (a2.mp z).2), if_neg b2]
            by_cases b3 : v 8 (cN co) ≤ psJ v j q
            · rw [if_neg (fun z => (a3.mp z).2 b3), if_pos b3]
            · rw [if_pos (a3.mpr ⟨hq, b3⟩), if_neg b3]
        · rw [if_pos (a1.mpr b1), if_neg b1]
      · rw [if_neg h2, if_neg h2]
    · rw [if_neg h1, if_neg h1]
  · rw [if_neg h0, if_neg h0]
theorem wskip_ok {co lf : Int32} (ht : Tell v (gV g)) (hg : WFG g) : RdOK s (wskipC v co lf) (wskipM s g co lf) := by
  unfold wskipC wskipM
  rw [ht.n1, ht.n0]
  refine RdOK.ite (fun h0 => ?_) (fun _ => RdOK.c rfl)
  refine RdOK.ite (fun h1 => ?_) (fun _ => RdOK.c rfl)
  obtain ⟨d, hd5, hd, hdd⟩ := okN_of hg.1.1.2.1
  obtain ⟨i, hi, rfl⟩ := in_c hd (by omega) h0
  obtain ⟨c, hc8, hc, hcc⟩ := hg.1.row
  obtain ⟨j, hj, rfl⟩ := in_c hc hc8 h1
  rw [cN_nI (show j < 2 ^ 31 by omega), cN_nI (show i < 2 ^ 31 by omega)]
  have hjg : j < cN (g 0) := by omega
  exact RdOK.c (by rw [(ht.lf hjg).2.1, (ht.co (i := i) (by omega)).1, (ht.co (i := i) (by omega)).2, skip_eq ht hg hjg (hg.f3 hjg)])
theorem wleave_ok {co lf kd : Int32} (ht : Tell v (gV g)) (hg : WFG g) : Rd3 s (wleaveC v co lf kd) (wleaveM s g nd co lf kd) := by
  unfold wleaveC wleaveM
  rw [ht.n1, ht.n0]
  refine Rd3.ite (fun h0 => ?_) (fun _ => Rd3.c rfl)
  refine Rd3.ite (fun h1 => ?_) (fun _ => Rd3.c rfl)
  refine Rd3.ite (fun h2 => ?_) (fun _ => Rd3.c rfl)
  obtain ⟨d, hd5, hd, hdd⟩ := okN_of hg.1.1.2.1
  obtain ⟨i, hi, rfl⟩ := in_c hd (by omega) h0
  obtain ⟨c, hc8, hc, hcc⟩ := hg.1.row
  obtain ⟨j, hj, rfl⟩ := in_c hc hc8 h1
  obtain ⟨k, hk, rfl⟩ := in_n (n := 5) (by decide) h2
  rw [cN_nI (show j < 2 ^ 31 by omega), cN_nI (show i < 2 ^ 31 by omega), cN_nI (show k < 2 ^ 31 by omega)]
  have hjg : j < cN (g 0) := by omega
  exact Rd3.c (by rw [need_eq ht hg hjg (by omega), (ht.lf hjg).2.1, (ht.co (i := i) (by omega)).1, (ht.co (i := i) (by omega)).2, skip_eq ht hg hjg (hg.f3 hjg)])
theorem can_ok {lf sp : Int32} (ht : Tell v (gV g)) (hg : WFG g) : Rd3 s (canC v lf sp) (canM s g nd lf sp) := by
  unfold canC canM
  rw [ht.n0]
  refine Rd3.ite (fun h1 => ?_) (fun _ => Rd3.c rfl)
  obtain ⟨c, hc8, hc, hcc⟩ := hg.1.row
  obtain ⟨j, hj, rfl⟩ := in_c hc hc8 h1
  rw [cN_nI (show j < 2 ^ 31 by omega)]
  have hjg : j < cN (g 0) := by omega
  obtain ⟨e3, e4, e5, e6, e7⟩ := ht.lf hjg
  rw [e3]
  refine Rd3.ite (fun h2 => ?_) (fun _ => Rd3.c rfl)
  have hl := lack_eq (nd := nd) (set := 1 <<< (sp &&& 31)) ht hg hjg
  rw [needW_eq] at hl
  rw [hl]
  by_cases hb : hasB (v 7 j) sp
  · rw [if_pos hb, if_pos (show g (50 + j) >>> (sp &&& 31) &&& 1 = 1 by rw [← e7]; exact (hasB_iff _ _).mp hb)]
    exact Rd3.ite (fun _ => Rd3.c rfl) (fun _ => Rd3.c rfl)
  · rw [if_neg hb, if_neg (show ¬ g (50 + j) >>> (sp &&& 31) &&& 1 = 1 from fun z => hb (by rw [e7]; exact (hasB_iff _ _).mpr z))]
    exact Rd3.c rfl
theorem tin_ok {kd : Int32} (ht : Tell v (gV g)) : RdOK s (tinC v kd) (tinM s g kd) := by
  unfold tinC tinM
  refine RdOK.ite (fun h1 => ?_) (fun _ => RdOK.c rfl)
  obtain ⟨k, hk, rfl⟩ := in_n (n := 5) (by decide) h1
  rw [cN_nI (show k < 2 ^ 31 by omega)]
  exact RdOK.c (ht.r1 (by omega)).symm
theorem lost_ok {kd : Int32} (ht : Tell v (gV g)) : RdOK s (lostC v kd) (lostM s g kd) := by
  unfold lostC lostM
  refine RdOK.ite (fun h1 => ?_) (fun _ => RdOK.c rfl)
  obtain ⟨k, hk, rfl⟩ := in_n (n := 5) (by decide) h1
  rw [cN_nI (show k < 2 ^ 31 by omega)]
  exact RdOK.c (ht.r2 (by omega)).symm
theorem shelf_ok {sh : Int32} (ht : Tell v (gV g)) : RdOK s (shelfC v sh) (shelfM s g sh) := by
  unfold shelfC shelfM
  refine RdOK.ite (fun h1 => ?_) (fun _ => RdOK.c rfl)
  rw [ht.n0]
  exact RdOK.c (by rw [onM_v]; exact (onJ_t _ (fun j hj => (ht.l hj).2.2.1)).symm)
theorem reas_ok {wh : Int32} : RdOK s (reasC v (s 9) (s 10) (s 11) wh) (reasM s g wh) := by
  unfold reasC reasM
  refine RdOK.ite (fun _ => ?_) (fun _ => RdOK.c rfl)
  refine RdOK.ite (fun _ => RdOK.c rfl) (fun _ => ?_)
  refine RdOK.ite (fun _ => RdOK.c rfl) (fun _ => ?_)
  exact RdOK.ite (fun _ => RdOK.c rfl) (fun _ => RdOK.c rfl)
end RD1
