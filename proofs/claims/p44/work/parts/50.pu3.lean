/-! ===== one order, all orders: the class and the reference read them alike ===== -/
section PU3
variable {g ip f : Nat → Int32} {len : Nat}
/-- the reference's five numbers of an order tell the class's command -/
def TdC (td : Nat → Int32) (k : Nat) (C : CM) : Prop := td k = C.1 ∧ td (k + 1) = C.2.1 0 ∧ (C.1 = 99 → td (k + 2) = C.2.2.2) ∧ (¬ C.1 = 99 → ¬ C.1 = 102 → ¬ C.1 = 108 → ¬ C.1 = 116 → ¬ C.1 = 117 → td (k + 2) = C.2.1 1) ∧ (C.1 = 83 ∨ C.1 = 115 → td (k + 3) = C.2.1 2 ∧ td (k + 4) = C.2.2.2)
def OrK (s0 : Nat → Int32) (len : Nat) (td : Nat → Int32) (k : Nat) (R : Int32 × Nat × CM) (O : (Nat → Int32) × (Nat → Int32)) : Prop :=
  (R.1 = 0 ∧ RdN s0 O.1 len R.2.1) ∨ (¬ R.1 = 0 ∧ RdZ s0 O.1 len R.2.1 ∧ R.2.1 ≤ len ∧ TdC O.2 k R.2.2 ∧ ∀ i, i < k → O.2 i = td i)
theorem Pc.fin {s0 s1 : Nat → Int32} {R : Int32 × Nat × CM} {f : Nat → Int32} {len : Nat} {K : CM → Prop} {td td1 : Nat → Int32} {k : Nat} (h : Pc s0 len R (frR f len []) s1 K) (hk : ∀ C, K C → TdC td1 k C) (hi : ∀ i, i < k → td1 i = td i) : OrK s0 len td k R (s1, td1) := by
  rcases h with ⟨e, n⟩ | ⟨p', C', e, z, l, kk⟩
  · exact Or.inl ⟨e, n⟩
  · rw [e]; exact Or.inr ⟨n10, z, l, hk _ kk, hi⟩
section TDC
variable {td n : Nat → Int32} {k : Nat} {L a b d t : Int32}
theorem tdc5 (hL : ¬ L = 99) : TdC (upd (upd (upd (upd (upd td k L) (k + 1) a) (k + 2) b) (k + 3) d) (k + 4) t) k (L, upd (upd (upd n 0 a) 1 b) 2 d, 3, t) := by
  refine ⟨?_, ?_, fun z => absurd z hL, fun _ _ _ _ _ => ?_, fun _ => ⟨?_, ?_⟩⟩
  · show upd (upd (upd (upd (upd td k L) (k + 1) a) (k + 2) b) (k + 3) d) (k + 4) t k = L
    rw [upd_off (by omega), upd_off (by omega), upd_off (by omega), upd_off (by omega), upd_at]
  · show upd (upd (upd (upd (upd td k L) (k + 1) a) (k + 2) b) (k + 3) d) (k + 4) t (k + 1) = upd (upd (upd n 0 a) 1 b) 2 d 0
    rw [upd_off (by omega), upd_off (by omega), upd_off (by omega), upd_at, upd_off (by omega), upd_off (by omega), upd_at]
  · show upd (upd (upd (upd (upd td k L) (k + 1) a) (k + 2) b) (k + 3) d) (k + 4) t (k + 2) = upd (upd (upd n 0 a) 1 b) 2 d 1
    rw [upd_off (by omega), upd_off (by omega), upd_at, upd_off (by omega), upd_at]
  · show upd (upd (upd (upd (upd td k L) (k + 1) a) (k + 2) b) (k + 3) d) (k + 4) t (k + 3) = upd (upd (upd n 0 a) 1 b) 2 d 2
    rw [upd_off (by omega), upd_at, upd_at]
  · show upd (upd (upd (upd (upd td k L) (k + 1) a) (k + 2) b) (k + 3) d) (k + 4) t (k + 4) = t
    rw [upd_at]
theorem tdi5 {i : Nat} (hi : i < k) : upd (upd (upd (upd (upd td k L) (k + 1) a) (k + 2) b) (k + 3) d) (k + 4) t i = td i := by
  rw [upd_off (by omega), upd_off (by omega), upd_off (by omega), upd_off (by omega), upd_off (by omega)]
theorem tdc3 (hL : ¬ L = 99) (h2 : ¬ (L = 83 ∨ L = 115)) : TdC (upd (upd (upd td k L) (k + 1) a) (k + 2) b) k (L, upd (upd n 0 a) 1 b, 2, 0) := by
  refine ⟨?_, ?_, fun z => absurd z hL, fun _ _ _ _ _ => ?_, fun z => absurd z h2⟩
  · show upd (upd (upd td k L) (k + 1) a) (k + 2) b k = L
    rw [upd_off (by omega), upd_off (by omega), upd_at]
  · show upd (upd (upd td k L) (k + 1) a) (k + 2) b (k + 1) = upd (upd n 0 a) 1 b 0
    rw [upd_off (by omega), upd_at, upd_off (by omega), upd_at]
  · show upd (upd (upd td k L) (k + 1) a) (k + 2) b (k + 2) = upd (upd n 0 a) 1 b 1
    rw [upd_at, upd_at]
theorem tdi3 {i : Nat} (hi : i < k) : upd (upd (upd td k L) (k + 1) a) (k + 2) b i = td i := by
  rw [upd_off (by omega), upd_off (by omega), upd_off (by omega)]
theorem tdcc : TdC (upd (upd (upd td k 99) (k + 1) a) (k + 2) t) k (99, upd n 0 a, 1, t) := by
  refine ⟨?_, ?_, fun _ => ?_, fun z => absurd rfl z, fun z => absurd z (show ¬ ((99 : Int32) = 83 ∨ (99 : Int32) = 115) by decide)⟩
  · show upd (upd (upd td k 99) (k + 1) a) (k + 2) t k = 99
    rw [upd_off (by omega), upd_off (by omega), upd_at]
  · show upd (upd (upd td k 99) (k + 1) a) (k + 2) t (k + 1) = upd n 0 a 0
    rw [upd_off (by omega), upd_at, upd_at]
  · show upd (upd (upd td k 99) (k + 1) a) (k + 2) t (k + 2) = t
    rw [upd_at]
theorem tdc1 (hL : ¬ L = 99) (h2 : ¬ (L = 83 ∨ L = 115)) (h3 : ¬ L = 102 → ¬ L = 108 → ¬ L = 116 → ¬ L = 117 → False) : TdC (upd (upd td k L) (k + 1) a) k (L, upd n 0 a, 1, 0) := by
  refine ⟨?_, ?_, fun z => absurd z hL, fun _ z2 z3 z4 z5 => (h3 z2 z3 z4 z5).elim, fun z => absurd z h2⟩
  · show upd (upd td k L) (k + 1) a k = L
    rw [upd_off (by omega), upd_at]
  · show upd (upd td k L) (k + 1) a (k + 1) = upd n 0 a 0
    rw [upd_at, upd_at]
theorem tdi1 {i : Nat} (hi : i < k) : upd (upd td k L) (k + 1) a i = td i := by
  rw [upd_off (by omega), upd_off (by omega)]
end TDC
theorem pairM_2 {s g ip td : Nat → Int32} {k : Nat} {sg : Int32} : (pairM s g ip td k sg).2 = upd (upd td (k + 1) (figM s g ip).1) (k + 2) (figM (needsM (figM s g ip).2 g ip sg) g ip).1 := rfl
theorem ord_83 {s0 a : Nat → Int32} {pos : Nat} {n td : Nat → Int32} {k : Nat} (he : RdE ip f len) (h : RdZ s0 a len pos) (hp : pos ≤ len) : OrK s0 len td k (frR f len [35, 58, 35, 42, 35, 61, 43] pos (83, n, 0, 0)) ((tonM (needsM (figM (needsM (pairM a g ip (upd td k 83) k 58).1 g ip 42) g ip).2 g ip 61) g ip 1).2, upd (upd (pairM a g ip (upd td k 83) k 58).2 (k + 3) (figM (needsM (pairM a g ip (upd td k 83) k 58).1 g ip 42) g ip).1) (k + 4) (tonM (needsM (figM (needsM (pairM a g ip (upd td k 83) k 58).1 g ip 42) g ip).2 g ip 61) g ip 1).1) := by
  refine Pc.fin (f := f) (Pc.seq (pair_pc (g := g) (td := upd td k 83) (k := k) he h hp (by decide)) (fun p1 C1 h1 l1 k1 => ?_) (fun p hb => ton_bad (ned_bad (fig_bad (ned_bad hb))))) (K := fun C' => C' = (83, upd (upd (upd n 0 (figM a g ip).1) 1 (figM (needsM (figM a g ip).2 g ip 58) g ip).1) 2 (figM (needsM (pairM a g ip (upd td k 83) k 58).1 g ip 42) g ip).1, 3, (tonM (needsM (figM (needsM (pairM a g ip (upd td k 83) k 58).1 g ip 42) g ip).2 g ip 61) g ip 1).1)) (fun C hC => ?_) (fun i hi => ?_)
  · subst k1
    refine Pc.seq (ned_pc (g := g) he h1 l1 (by decide)) (fun p2 C2 h2 l2 k2 => ?_) (fun p hb => ton_bad (ned_bad (fig_bad hb)))
    subst k2
    refine Pc.seq (fig_pc (g := g) he h2 l2 (by decide)) (fun p3 C3 h3 l3 k3 => ?_) (fun p hb => ton_bad (ned_bad hb))
    subst k3
    refine Pc.seq (ned_pc (g := g) he h3 l3 (by decide)) (fun p4 C4 h4 l4 k4 => ?_) (fun p hb => ton_bad hb)
    subst k4
    exact t1_pc (g := g) he h4 l4
  · subst hC
    rw [pairM_2]
    exact tdc5 (by decide)
  · rw [pairM_2]
    exact tdi5 hi
theorem ord_98 {s0 a : Nat → Int32} {pos : Nat} {n td : Nat → Int32} {k : Nat} (he : RdE ip f len) (h : RdZ s0 a len pos) (hp : pos ≤ len) : OrK s0 len td k (frR f len [35, 62, 35] pos (98, n, 0, 0)) ((pairM a g ip (upd td k 98) k 62).1, (pairM a g ip (upd td k 98) k 62).2) := by
  refine Pc.fin (f := f) (pair_pc (g := g) (td := upd td k 98) (k := k) he h hp (by decide)) (fun C hC => ?_) (fun i hi => ?_)
  · subst hC
    rw [pairM_2]
    exact tdc3 (by decide) (by decide)
  · rw [pairM_2]
    exact tdi3 hi
theorem ord_99 {s0 a : Nat → Int32} {pos : Nat} {n td : Nat → Int32} {k : Nat} (he : RdE ip f len) (h : RdZ s0 a len pos) (hp : pos ≤ len) : OrK s0 len td k (frR f len [35, 61, 63] pos (99, n, 0, 0)) ((tonM (needsM (figM a g ip).2 g ip 61) g ip 0).2, upd (upd (upd td k 99) (k + 1) (figM a g ip).1) (k + 2) (tonM (needsM (figM a g ip).2 g ip 61) g ip 0).1) := by
  refine Pc.fin (f := f) (Pc.seq (fig_pc (g := g) he h hp (by decide)) (fun p1 C1 h1 l1 k1 => ?_) (fun p hb => ton_bad (ned_bad hb))) (K := fun C' => C' = (99, upd n 0 (figM a g ip).1, 1, (tonM (needsM (figM a g ip).2 g ip 61) g ip 0).1)) (fun C hC => ?_) (fun i hi => tdi3 hi)
  · subst k1
    refine Pc.seq (ned_pc (g := g) he h1 l1 (by decide)) (fun p2 C2 h2 l2 k2 => ?_) (fun p hb => ton_bad hb)
    subst k2
    exact t0_pc (g := g) he h2 l2
  · subst hC
    exact tdcc
theorem ord_100 {s0 a : Nat → Int32} {pos : Nat} {n td : Nat → Int32} {k : Nat} (he : RdE ip f len) (h : RdZ s0 a len pos) (hp : pos ≤ len) : OrK s0 len td k (frR f len [35, 46, 35] pos (100, n, 0, 0)) ((pairM a g ip (upd td k 100) k 46).1, (pairM a g ip (upd td k 100) k 46).2) := by
  refine Pc.fin (f := f) (pair_pc (g := g) (td := upd td k 100) (k := k) he h hp (by decide)) (fun C hC => ?_) (fun i hi => ?_)
  · subst hC
    rw [pairM_2]
    exact tdc3 (by decide) (by decide)
  · rw [pairM_2]
    exact tdi3 hi
theorem ord_102 {s0 a : Nat → Int32} {pos : Nat} {n td : Nat → Int32} {k : Nat} (he : RdE ip f len) (h : RdZ s0 a len pos) (hp : pos ≤ len) : OrK s0 len td k (frR f len [35] pos (102, n, 0, 0)) ((figM a g ip).2, upd (upd td k 102) (k + 1) (figM a g ip).1) := by
  refine Pc.fin (f := f) (fig_pc (g := g) he h hp (by decide)) (fun C hC => ?_) (fun i hi => tdi1 hi)
  subst hC
  exact tdc1 (by decide) (by decide) (by decide)
theorem ord_108 {s0 a : Nat → Int32} {pos : Nat} {n td : Nat → Int32} {k : Nat} (he : RdE ip f len) (h : RdZ s0 a len pos) (hp : pos ≤ len) : OrK s0 len td k (frR f len [35] pos (108, n, 0, 0)) ((figM a g ip).2, upd (upd td k 108) (k + 1) (figM a g ip).1) := by
  refine Pc.fin (f := f) (fig_pc (g := g) he h hp (by decide)) (fun C hC => ?_) (fun i hi => tdi1 hi)
  subst hC
  exact tdc1 (by decide) (by decide) (by decide)
theorem ord_109 {s0 a : Nat → Int32} {pos : Nat} {n td : Nat → Int32} {k : Nat} (he : RdE ip f len) (h : RdZ s0 a len pos) (hp : pos ≤ len) : OrK s0 len td k (frR f len [35, 64, 35] pos (109, n, 0, 0)) ((pairM a g ip (upd td k 109) k 64).1, (pairM a g ip (upd td k 109) k 64).2) := by
  refine Pc.fin (f := f) (pair_pc (g := g) (td := upd td k 109) (k := k) he h hp (by decide)) (fun C hC => ?_) (fun i hi => ?_)
  · subst hC
    rw [pairM_2]
    exact tdc3 (by decide) (by decide)
  · rw [pairM_2]
    exact tdi3 hi
theorem ord_115 {s0 a : Nat → Int32} {pos : Nat} {n td : Nat → Int32} {k : Nat} (he : RdE ip f len) (h : RdZ s0 a len pos) (hp : pos ≤ len) : OrK s0 len td k (frR f len [35, 58, 35, 42, 35, 61, 43] pos (115, n, 0, 0)) ((tonM (needsM (figM (needsM (pairM a g ip (upd td k 115) k 58).1 g ip 42) g ip).2 g ip 61) g ip 1).2, upd (upd (pairM a g ip (upd td k 115) k 58).2 (k + 3) (figM (needsM (pairM a g ip (upd td k 115) k 58).1 g ip 42) g ip).1) (k + 4) (tonM (needsM (figM (needsM (pairM a g ip (upd td k 115) k 58).1 g ip 42) g ip).2 g ip 61) g ip 1).1) := by
  refine Pc.fin (f := f) (Pc.seq (pair_pc (g := g) (td := upd td k 115) (k := k) he h hp (by decide)) (fun p1 C1 h1 l1 k1 => ?_) (fun p hb => ton_bad (ned_bad (fig_bad (ned_bad hb))))) (K := fun C' => C' = (115, upd (upd (upd n 0 (figM a g ip).1) 1 (figM (needsM (figM a g ip).2 g ip 58) g ip).1) 2 (figM (needsM (pairM a g ip (upd td k 115) k 58).1 g ip 42) g ip).1, 3, (tonM (needsM (figM (needsM (pairM a g ip (upd td k 115) k 58).1 g ip 42) g ip).2 g ip 61) g ip 1).1)) (fun C hC => ?_) (fun i hi => ?_)
  · subst k1
    refine Pc.seq (ned_pc (g := g) he h1 l1 (by decide)) (fun p2 C2 h2 l2 k2 => ?_) (fun p hb => ton_bad (ned_bad (fig_bad hb)))
    subst k2
    refine Pc.seq (fig_pc (g := g) he h2 l2 (by decide)) (fun p3 C3 h3 l3 k3 => ?_) (fun p hb => ton_bad (ned_bad hb))
    subst k3
    refine Pc.seq (ned_pc (g := g) he h3 l3 (by decide)) (fun p4 C4 h4 l4 k4 => ?_) (fun p hb => ton_bad hb)
    subst k4
    exact t1_pc (g := g) he h4 l4
  · subst hC
    rw [pairM_2]
    exact tdc5 (by decide)
  · rw [pairM_2]
    exact tdi5 hi
theorem ord_116 {s0 a : Nat → Int32} {pos : Nat} {n td : Nat → Int32} {k : Nat} (he : RdE ip f len) (h : RdZ s0 a len pos) (hp : pos ≤ len) : OrK s0 len td k (frR f len [35] pos (116, n, 0, 0)) ((figM a g ip).2, upd (upd td k 116) (k + 1) (figM a g ip).1) := by
  refine Pc.fin (f := f) (fig_pc (g := g) he h hp (by decide)) (fun C hC => ?_) (fun i hi => tdi1 hi)
  subst hC
  exact tdc1 (by decide) (by decide) (by decide)
theorem ord_117 {s0 a : Nat → Int32} {pos : Nat} {n td : Nat → Int32} {k : Nat} (he : RdE ip f len) (h : RdZ s0 a len pos) (hp : pos ≤ len) : OrK s0 len td k (frR f len [35] pos (117, n, 0, 0)) ((figM a g ip).2, upd (upd td k 117) (k + 1) (figM a g ip).1) := by
  refine Pc.fin (f := f) (fig_pc (g := g) he h hp (by decide)) (fun C hC => ?_) (fun i hi => tdi1 hi)
  subst hC
  exact tdc1 (by decide) (by decide) (by decide)
theorem ord_120 {s0 a : Nat → Int32} {pos : Nat} {n td : Nat → Int32} {k : Nat} (he : RdE ip f len) (h : RdZ s0 a len pos) (hp : pos ≤ len) : OrK s0 len td k (frR f len [35, 42, 35] pos (120, n, 0, 0)) ((pairM a g ip (upd td k 120) k 42).1, (pairM a g ip (upd td k 120) k 42).2) := by
  refine Pc.fin (f := f) (pair_pc (g := g) (td := upd td k 120) (k := k) he h hp (by decide)) (fun C hC => ?_) (fun i hi => ?_)
  · subst hC
    rw [pairM_2]
    exact tdc3 (by decide) (by decide)
  · rw [pairM_2]
    exact tdi3 hi
theorem ord_121 {s0 a : Nat → Int32} {pos : Nat} {n td : Nat → Int32} {k : Nat} (he : RdE ip f len) (h : RdZ s0 a len pos) (hp : pos ≤ len) : OrK s0 len td k (frR f len [35, 42, 35] pos (121, n, 0, 0)) ((pairM a g ip (upd td k 121) k 42).1, (pairM a g ip (upd td k 121) k 42).2) := by
  refine Pc.fin (f := f) (pair_pc (g := g) (td := upd td k 121) (k := k) he h hp (by decide)) (fun C hC => ?_) (fun i hi => ?_)
  · subst hC
    rw [pairM_2]
    exact tdc3 (by decide) (by decide)
  · rw [pairM_2]
    exact tdi3 hi
theorem ord_ok {s0 z : Nat → Int32} {pos : Nat} {td : Nat → Int32} {k : Nat} {C : CM} (he : RdE ip f len) (h : RdZ s0 z len pos) (hp : pos ≤ len) : OrK s0 len td k (cmR f len pos C) (ordM z g ip td k) := by
  have h60 := he.2.2
  have hh := here_in (g := g) (s0 := s0) he ⟨h.2.1, h.2.2.1⟩ (show pos ≤ 60 by omega)
  obtain ⟨h17, h16, h7, hq⟩ := h
  have hL : ∀ x : Int32, ¬ x = 83 → ¬ x = 98 → ¬ x = 99 → ¬ x = 100 → ¬ x = 102 → ¬ x = 108 → ¬ x = 109 → ¬ x = 115 → ¬ x = 116 → ¬ x = 117 → ¬ x = 120 → ¬ x = 121 → hereM z g ip = x → ordM z g ip td k = (upd (upd (upd z 16 (z 16 + 1)) 17 1) 16 (z 16 + 1 - 1), td) ∨ ∃ td9, ordM z g ip td k = (upd (upd (upd z 16 (z 16 + 1)) 17 1) 16 (z 16 + 1 - 1), td9) := by
    intro x n83 n98 n99 n100 n102 n108 n109 n115 n116 n117 n120 n121 e
    right
    unfold ordM
    rw [e, if_neg n83, if_neg n98, if_neg n99, if_neg n100, if_neg n102, if_neg n108, if_neg n109, if_neg n115, if_neg n116, if_neg n117, if_neg n120, if_neg n121]
    exact ⟨_, rfl⟩
  have hbad : RdN s0 (upd (upd (upd z 16 (z 16 + 1)) 17 1) 16 (z 16 + 1 - 1)) len pos := by
    obtain ⟨e1, e2⟩ := u16_in (s0 := s0) (s := upd z 16 (z 16 + 1)) (len := len) (pos := pos) (x := z 16 + 1 - 1) (by rw [upd_off (by decide)]; exact h7) (fun q a b => by rw [upd_off a]; exact hq q a b) (by rw [Int32.add_sub_cancel, h16]) 1
    exact ⟨by rw [e1]; exact n10, e2⟩
  have ha : RdZ s0 (upd z 16 (z 16 + 1)) len (pos + 1) := ⟨by rw [upd_off (by decide)]; exact h17, by rw [upd_at, h16, nI_1], by rw [upd_off (by decide)]; exact h7, fun q a b => by rw [upd_off a]; exact hq q a b⟩
  unfold cmR
  by_cases hl : len ≤ pos
  · rw [if_pos hl]
    rw [if_pos ((nI_leI (by omega) (by omega)).mpr hl)] at hh
    rcases hL (-1) (by decide) (by decide) (by decide) (by decide) (by decide) (by decide) (by decide) (by decide) (by decide) (by decide) (by decide) (by decide) hh with e | ⟨td9, e⟩
    · rw [e]; exact Or.inl ⟨rfl, hbad⟩
    · rw [e]; exact Or.inl ⟨rfl, hbad⟩
  · rw [if_neg hl]
    rw [if_neg (fun y => hl ((nI_leI (by omega) (by omega)).mp y))] at hh
    by_cases n83 : f pos = 83
    · rw [n83] at hh ⊢
      rw [if_neg (show ¬ frmN 83 = 7 by decide), show frmN 83 = 1 from by decide]
      unfold ordM
      rw [hh, if_pos (show (83 : Int32) = 83 from rfl)]
      exact ord_83 he ha (by omega)
    by_cases n98 : f pos = 98
    · rw [n98] at hh ⊢
      rw [if_neg (show ¬ frmN 98 = 7 by decide), show frmN 98 = 3 from by decide]
      unfold ordM
      rw [hh, if_neg (show ¬ (98 : Int32) = 83 by decide), if_pos (show (98 : Int32) = 98 from rfl)]
      exact ord_98 he ha (by omega)
    by_cases n99 : f pos = 99
    · rw [n99] at hh ⊢
      rw [if_neg (show ¬ frmN 99 = 7 by decide), show frmN 99 = 2 from by decide]
      unfold ordM
      rw [hh, if_neg (show ¬ (99 : Int32) = 83 by decide), if_neg (show ¬ (99 : Int32) = 98 by decide), if_pos (show (99 : Int32) = 99 from rfl)]
      exact ord_99 he ha (by omega)
    by_cases n100 : f pos = 100
    · rw [n100] at hh ⊢
      rw [if_neg (show ¬ frmN 100 = 7 by decide), show frmN 100 = 4 from by decide]
      unfold ordM
      rw [hh, if_neg (show ¬ (100 : Int32) = 83 by decide), if_neg (show ¬ (100 : Int32) = 98 by decide), if_neg (show ¬ (100 : Int32) = 99 by decide), if_pos (show (100 : Int32) = 100 from rfl)]
      exact ord_100 he ha (by omega)
    by_cases n102 : f pos = 102
    · rw [n102] at hh ⊢
      rw [if_neg (show ¬ frmN 102 = 7 by decide), show frmN 102 = 0 from by decide]
      unfold ordM
      rw [hh, if_neg (show ¬ (102 : Int32) = 83 by decide), if_neg (show ¬ (102 : Int32) = 98 by decide), if_neg (show ¬ (102 : Int32) = 99 by decide), if_neg (show ¬ (102 : Int32) = 100 by decide), if_pos (show (102 : Int32) = 102 from rfl)]
      exact ord_102 he ha (by omega)
    by_cases n108 : f pos = 108
    · rw [n108] at hh ⊢
      rw [if_neg (show ¬ frmN 108 = 7 by decide), show frmN 108 = 0 from by decide]
      unfold ordM
      rw [hh, if_neg (show ¬ (108 : Int32) = 83 by decide), if_neg (show ¬ (108 : Int32) = 98 by decide), if_neg (show ¬ (108 : Int32) = 99 by decide), if_neg (show ¬ (108 : Int32) = 100 by decide), if_neg (show ¬ (108 : Int32) = 102 by decide), if_pos (show (108 : Int32) = 108 from rfl)]
      exact ord_108 he ha (by omega)
    by_cases n109 : f pos = 109
    · rw [n109] at hh ⊢
      rw [if_neg (show ¬ frmN 109 = 7 by decide), show frmN 109 = 5 from by decide]
      unfold ordM
      rw [hh, if_neg (show ¬ (109 : Int32) = 83 by decide), if_neg (show ¬ (109 : Int32) = 98 by decide), if_neg (show ¬ (109 : Int32) = 99 by decide), if_neg (show ¬ (109 : Int32) = 100 by decide), if_neg (show ¬ (109 : Int32) = 102 by decide), if_neg (show ¬ (109 : Int32) = 108 by decide), if_pos (show (109 : Int32) = 109 from rfl)]
      exact ord_109 he ha (by omega)
    by_cases n115 : f pos = 115
    · rw [n115] at hh ⊢
      rw [if_neg (show ¬ frmN 115 = 7 by decide), show frmN 115 = 1 from by decide]
      unfold ordM
      rw [hh, if_neg (show ¬ (115 : Int32) = 83 by decide), if_neg (show ¬ (115 : Int32) = 98 by decide), if_neg (show ¬ (115 : Int32) = 99 by decide), if_neg (show ¬ (115 : Int32) = 100 by decide), if_neg (show ¬ (115 : Int32) = 102 by decide), if_neg (show ¬ (115 : Int32) = 108 by decide), if_neg (show ¬ (115 : Int32) = 109 by decide), if_pos (show (115 : Int32) = 115 from rfl)]
      exact ord_115 he ha (by omega)
    by_cases n116 : f pos = 116
    · rw [n116] at hh ⊢
      rw [if_neg (show ¬ frmN 116 = 7 by decide), show frmN 116 = 0 from by decide]
      unfold ordM
      rw [hh, if_neg (show ¬ (116 : Int32) = 83 by decide), if_neg (show ¬ (116 : Int32) = 98 by decide), if_neg (show ¬ (116 : Int32) = 99 by decide), if_neg (show ¬ (116 : Int32) = 100 by decide), if_neg (show ¬ (116 : Int32) = 102 by decide), if_neg (show ¬ (116 : Int32) = 108 by decide), if_neg (show ¬ (116 : Int32) = 109 by decide), if_neg (show ¬ (116 : Int32) = 115 by decide), if_pos (show (116 : Int32) = 116 from rfl)]
      exact ord_116 he ha (by omega)
    by_cases n117 : f pos = 117
    · rw [n117] at hh ⊢
      rw [if_neg (show ¬ frmN 117 = 7 by decide), show frmN 117 = 0 from by decide]
      unfold ordM
      rw [hh, if_neg (show ¬ (117 : Int32) = 83 by decide), if_neg (show ¬ (117 : Int32) = 98 by decide), if_neg (show ¬ (117 : Int32) = 99 by decide), if_neg (show ¬ (117 : Int32) = 100 by decide), if_neg (show ¬ (117 : Int32) = 102 by decide), if_neg (show ¬ (117 : Int32) = 108 by decide), if_neg (show ¬ (117 : Int32) = 109 by decide), if_neg (show ¬ (117 : Int32) = 115 by decide), if_neg (show ¬ (117 : Int32) = 116 by decide), if_pos (show (117 : Int32) = 117 from rfl)]
      exact ord_117 he ha (by omega)
    by_cases n120 : f pos = 120
    · rw [n120] at hh ⊢
      rw [if_neg (show ¬ frmN 120 = 7 by decide), show frmN 120 = 6 from by decide]
      unfold ordM
      rw [hh, if_neg (show ¬ (120 : Int32) = 83 by decide), if_neg (show ¬ (120 : Int32) = 98 by decide), if_neg (show ¬ (120 : Int32) = 99 by decide), if_neg (show ¬ (120 : Int32) = 100 by decide), if_neg (show ¬ (120 : Int32) = 102 by decide), if_neg (show ¬ (120 : Int32) = 108 by decide), if_neg (show ¬ (120 : Int32) = 109 by decide), if_neg (show ¬ (120 : Int32) = 115 by decide), if_neg (show ¬ (120 : Int32) = 116 by decide), if_neg (show ¬ (120 : Int32) = 117 by decide), if_pos (show (120 : Int32) = 120 from rfl)]
      exact ord_120 he ha (by omega)
    by_cases n121 : f pos = 121
    · rw [n121] at hh ⊢
      rw [if_neg (show ¬ frmN 121 = 7 by decide), show frmN 121 = 6 from by decide]
      unfold ordM
      rw [hh, if_neg (show ¬ (121 : Int32) = 83 by decide), if_neg (show ¬ (121 : Int32) = 98 by decide), if_neg (show ¬ (121 : Int32) = 99 by decide), if_neg (show ¬ (121 : Int32) = 100 by decide), if_neg (show ¬ (121 : Int32) = 102 by decide), if_neg (show ¬ (121 : Int32) = 108 by decide), if_neg (show ¬ (121 : Int32) = 109 by decide), if_neg (show ¬ (121 : Int32) = 115 by decide), if_neg (show ¬ (121 : Int32) = 116 by decide), if_neg (show ¬ (121 : Int32) = 117 by decide), if_neg (show ¬ (121 : Int32) = 120 by decide), if_pos (show (121 : Int32) = 121 from rfl)]
      exact ord_121 he ha (by omega)
    rw [if_pos (show frmN (f pos) = 7 by unfold frmN; rw [if_neg (by rintro (y | y | y | y) <;> contradiction), if_neg (by rintro (y | y) <;> contradiction), if_neg n99, if_neg n98, if_neg n100, if_neg n109, if_neg (by rintro (y | y) <;> contradiction)])]
    rcases hL (f pos) n83 n98 n99 n100 n102 n108 n109 n115 n116 n117 n120 n121 hh with e | ⟨td9, e⟩
    · rw [e]; exact Or.inl ⟨rfl, hbad⟩
    · rw [e]; exact Or.inl ⟨rfl, hbad⟩
end PU3
