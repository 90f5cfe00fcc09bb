/-! ===== the changes: the class and the reference hold together (3): steps, buildings ===== -/
theorem skip_le : ∀ n : Nat, n < 9 → ∀ m : Nat, m < 2 ^ n → ∃ k : Nat, k < n + 1 ∧ popF (nI m) = nI k := by decide +kernel
theorem or_lt {a b n : Nat} (ha : a < 2 ^ n) (hb : b < 2 ^ n) : a ||| b < 2 ^ n := Nat.or_lt_two_pow ha hb
theorem nI_or (a b : Nat) : nI a ||| nI b = nI (a ||| b) := by
  show Int32.ofNat a ||| Int32.ofNat b = Int32.ofNat (a ||| b)
  apply Int32.toBitVec_inj.mp
  show BitVec.ofNat 32 a ||| BitVec.ofNat 32 b = BitVec.ofNat 32 (a ||| b)
  apply BitVec.eq_of_toNat_eq
  simp [Nat.or_mod_two_pow]
theorem nI_and (a b : Nat) : nI a &&& nI b = nI (a &&& b) := by
  show Int32.ofNat a &&& Int32.ofNat b = Int32.ofNat (a &&& b)
  apply Int32.toBitVec_inj.mp
  show BitVec.ofNat 32 a &&& BitVec.ofNat 32 b = BitVec.ofNat 32 (a &&& b)
  apply BitVec.eq_of_toNat_eq
  simp [Nat.and_mod_two_pow]
theorem sh_nI : ∀ c : Nat, c < 9 → (1 : Int32) <<< (nI c &&& 31) = nI (2 ^ c) := by decide +kernel
/-- the skipped steps are among the steps -/
theorem skipM_lt {g : Nat → Int32} {kn bo : Int32} {l f : Nat} : ∀ n, n ≤ 8 → ∃ m : Nat, m < 2 ^ n ∧ skipM g kn bo l f n = nI m
  | 0, _ => ⟨0, by decide, rfl⟩
  | n + 1, h => by
    obtain ⟨m, hm, e⟩ := skipM_lt (g := g) (kn := kn) (bo := bo) (l := l) (f := f) n (by omega)
    rw [skipM, e]
    by_cases hc : causeM g kn bo l n f = 0
    · rw [if_pos hc, Int32.or_zero]
      exact ⟨m, by rw [Nat.pow_succ]; omega, rfl⟩
    · rw [if_neg hc, or_sh n (by omega) m hm]
      exact ⟨m + 2 ^ n, by rw [Nat.pow_succ]; omega, rfl⟩
/-- the bit of one step -/
theorem bit_one : ∀ s : Nat, s < 8 → ∀ j : Nat, j < 8 → (hasB (1 <<< (nI s &&& 31)) (nI j) ↔ j = s) := by decide +kernel
theorem mask0 : ∀ s : Nat, s < 8 → (1 <<< (nI s &&& 31) ^^^ (-1) : Int32) >>> (nI s &&& 31) &&& 1 = 0 := by decide +kernel
theorem mask1 : ∀ s : Nat, s < 8 → ∀ j : Nat, j < 8 → ¬ j = s → (1 <<< (nI s &&& 31) ^^^ (-1) : Int32) >>> (nI j &&& 31) &&& 1 = 1 := by decide +kernel
theorem bit_off {x : Int32} {s j : Nat} (hs : s < 8) (hj : j < 8) : hasB (x &&& (1 <<< (nI s &&& 31) ^^^ (-1))) (nI j) ↔ hasB x (nI j) ∧ ¬ j = s := by
  unfold hasB
  rw [Int32.shiftRight_and, Int32.and_assoc]
  by_cases h : j = s
  · subst h
    rw [mask0 j hj, Int32.and_zero]
    exact ⟨fun z => absurd rfl z, fun z => absurd rfl z.2⟩
  · rw [mask1 s hs j hj h]
    exact ⟨fun z => ⟨z, h⟩, fun z => z.1⟩
theorem nI_andY {m : Nat} (y : Int32) : nI m &&& y = nI (m &&& y.toBitVec.toNat) := by
  apply Int32.toBitVec_inj.mp
  show BitVec.ofNat 32 m &&& y.toBitVec = BitVec.ofNat 32 (m &&& y.toBitVec.toNat)
  apply BitVec.eq_of_toNat_eq
  simp [Nat.and_mod_two_pow]
theorem off_le {x y : Int32} (h : okN x 255) : okN (x &&& y) 255 := by
  obtain ⟨m, hm, rfl, -⟩ := okN_of h
  rw [nI_andY]
  exact okN_mk rfl (Nat.le_trans Nat.and_le_left hm) (by decide)
/-- a step taken out of a set -/
theorem needJ_off {v : Nat → Nat → Int32} {l s : Nat} {x kind : Int32} (hs : s < 8) (hb : hasB x (nI s)) : ∀ n, n ≤ 8 → needJ v l (x &&& (1 <<< (nI s &&& 31) ^^^ (-1))) kind n + needJ v l (1 <<< (nI s &&& 31)) kind n = needJ v l x kind n
  | 0, _ => by rw [needJ, needJ, needJ]; rfl
  | n + 1, h => by
    have ih := needJ_off (v := v) (l := l) (kind := kind) hs hb n (by omega)
    rw [needJ, needJ, needJ]
    have a1 := bit_off (x := x) hs (show n < 8 by omega)
    have a2 := bit_one s hs n (by omega)
    by_cases hns : n = s
    · subst hns
      rw [if_neg (fun z => (a1.mp z).2 rfl), if_pos (a2.mpr rfl), if_pos hb]
      by_cases hu : usesB v l n kind
      · rw [if_pos hu, if_pos hu, ← ih, Int32.add_assoc]
      · rw [if_neg hu, if_neg hu, ih]
    · rw [if_neg (fun z => hns (a2.mp z))]
      by_cases hmn : hasB x (nI n)
      · rw [if_pos (a1.mpr ⟨hmn, hns⟩), if_pos hmn]
        by_cases hu : usesB v l n kind
        · rw [if_pos hu, if_pos hu, ← ih, Int32.add_assoc, Int32.add_assoc, Int32.add_comm (v (20 + l) n)]
        · rw [if_neg hu, if_neg hu, ih]
      · rw [if_neg (fun z => hmn (a1.mp z).1), if_neg hmn, ih]
section OK3
variable {v : Nat → Nat → Int32} {k1 k2 k3 : Int32} {s g : Nat → Int32}
theorem partsJ_nn {w : Nat → Nat → Int32} {j : Nat} {set : Int32} : ∀ n, n ≤ 8 → (∀ q, q < n → ∃ a : Nat, a ≤ 8 ∧ psJ w j q = nI a) → ∃ m : Nat, m ≤ 8 * n ∧ partsJ w j set n = nI m
  | 0, _, _ => ⟨0, by decide, rfl⟩
  | n + 1, h8, h => by
    obtain ⟨m, hm, e⟩ := partsJ_nn (w := w) (j := j) (set := set) n (by omega) (fun q hq => h q (by omega))
    obtain ⟨a, ha, ea⟩ := h n (by omega)
    rw [partsJ, e, ea]
    split
    · exact ⟨m + a, by omega, nI_add m a⟩
    · exact ⟨m, by omega, rfl⟩
theorem WL.ps {j : Nat} (hj : j < 8) (h : WL g j) {q : Nat} (hq : q < cN (g (18 + j))) : ∃ a : Nat, a ≤ 8 ∧ psJ (gV g) j q = nI a := by
  obtain ⟨-, -, -, d⟩ := h
  obtain ⟨hp, hs⟩ := d q hq
  obtain ⟨p, hp4, hpe, -⟩ := okN_of hp
  rw [psJ, gV_20 (by omega), gV_40, hpe]
  rcases hs with e | e
  · rw [e]; exact ⟨p, by omega, by rw [Int32.zero_add, Int32.mul_one]⟩
  · rw [e]; exact ⟨p * 2, by omega, by rw [← pk_mul]; rfl⟩
/-- what the reference counts for a set of steps is what the class counts -/
theorem need_eq {j : Nat} {set : Int32} {nd : Nat → Int32} {k : Nat} (ht : Tell v (gV g)) (hg : WFG g) (hj : j < cN (g 0)) (hk : k < 6) : needM g j set (clrJ nd 6) (cN (g (18 + j))) k = needJ v j set (nI k) (stN v j) := by
  have hj8 := hg.j8 hj
  rw [needM_v hj8 hk _ (fun q hq => ⟨(hg.1.1.2.2 j hj).2.2 q hq, ((hg.2.1 j hj).2.2.2 q hq).2⟩)]
  have := needJ_ts (ht.l hj) (set := set) (kind := nI k)
  rw [this]
  simp only [stN, gV_3]
/-- the tin takes in, or gives out; one leaflet's builder and skipped steps change -/
theorem tin_leaf {h : Nat → Int32} {j : Nat} {w : Nat → Nat → Int32} (hg : WFG g) (ht : Tell v (gV g)) (hj : j < cN (g 0)) (hwf : WFZ h) (h0 : h 0 = g 0) (h1 : h 1 = g 1) (ho : ∀ i : Nat, 12 ≤ i → ¬ i = 42 + j → ¬ i = 50 + j → h i = g i)
    (hs : ∀ k, k < 6 → h (6 + k) + h (12 + k) = g (6 + k) + g (12 + k) + (ndG h k j - ndG g k j)) (h50 : okN (h (50 + j)) 255) (hb : h (42 + j) = 0 → h (50 + j) = 0)
    (w0 : ∀ i, i < 6 → w 0 i = h i) (w1 : ∀ i, i < 6 → w 1 i = h (6 + i)) (wl : ∀ i, ¬ i = j → LeafEq w v i) (wr : ∀ r, r = 2 ∨ r = 3 ∨ r = 4 ∨ r = 5 ∨ 8 ≤ r → w r = v r) (w6 : w 6 j = h (42 + j)) (w7 : w 7 j = h (50 + j)) : Tell w (gV h) ∧ WFG h := by
  obtain ⟨c, hc8, hc, hcc⟩ := hg.1.row
  rw [hcc] at hj
  obtain ⟨e3, e4, e5, e6, e7⟩ := ht.lf (j := j) (by omega)
  refine ⟨Tell.mk' w0 w1 (fun i hi => ?_) (fun i hi => ?_) (fun i hi => ?_), hwf, ?_, ?_, ?_, ?_⟩
  · rw [wr 2 (by omega), ho _ (by omega) (by omega) (by omega)]; exact ht.r2 hi
  · rw [h0, hcc] at hi
    by_cases hij : i = j
    · subst hij
      exact TellL.sc (by omega) (ht.l (by omega)) (by rw [wr 3 (by omega), ho _ (by omega) (by omega) (by omega)]; exact e3) (by rw [wr 4 (by omega), ho _ (by omega) (by omega) (by omega)]; exact e4) (by rw [wr 5 (by omega), ho _ (by omega) (by omega) (by omega)]; exact e5) w6 w7 (ho _ (by omega) (by omega) (by omega)) (fun r hr => wr r (by omega)) (fun q hq => ho q (by omega) (by omega) (by omega))
    · exact TellL.mv (by omega) (hg.n8 (by omega)) (ht.l (by omega)) (wl i hij) (fun i9 hi9 => ho i9 (by omega) (by omega) (by omega))
  · rw [h1] at hi
    rw [wr 8 (by omega), wr 9 (by omega), ho _ (by omega) (by omega) (by omega)]
    have hi5 : i < 5 := Nat.lt_of_lt_of_le hi hg.1.1.2.1.2
    rw [ho (63 + i) (by omega) (by omega) (by omega)]
    exact ht.co hi
  · intro i hi
    rw [h0, hcc] at hi
    by_cases hij : i = j
    · subst hij
      obtain ⟨a, b, c9, d⟩ := hg.2.1 i (by omega)
      refine ⟨by rw [ho _ (by omega) (by omega) (by omega)]; exact a, h50, hb, fun q hq => ?_⟩
      rw [ho _ (by omega) (by omega) (by omega)] at hq
      rw [ho _ (by omega) (by omega) (by omega), ho _ (by omega) (by omega) (by omega)]; exact d q hq
    · exact GEq.wl (fun i9 hi9 => ho i9 (by omega) (by omega) (by omega)) (hg.n8 (by omega)) (hg.2.1 i (by omega))
  · intro i hi
    rw [h1] at hi
    rw [ho _ (by omega) (by omega) (by omega)]; exact hg.2.2.1 i hi
  · intro s9
    rw [h0, cntM_eq _ (fun i hi => ho (34 + i) (by omega) (by rw [hcc] at hi; omega) (by rw [hcc] at hi; omega))]
    exact hg.2.2.2.1 s9
  · intro k hk
    rw [h0, hs k hk, hg.2.2.2.2 k hk, hcc]
    refine (sumJ_up (k := j) c hj (fun i hi hij => ?_)).symm
    exact GEq.nd (fun i9 hi9 => ho i9 (by omega) (by omega) (by omega)) (by omega) (hg.n8 (by omega))
theorem sub0 (a b : Int32) : a + (b - 0) = a + b := by rw [Int32.sub_zero]
theorem add_r (a b n : Int32) : (a + n) + b = a + b + n := by rw [Int32.add_assoc, Int32.add_comm n, ← Int32.add_assoc]
theorem sub_r (a b n : Int32) : (a - n) + b = a + b + (0 - n) := by rw [Int32.zero_sub, Int32.sub_eq_add_neg, add_r]
theorem sub_d (a b x y n : Int32) (e : x + n = y) : (a - n) + b = a + b + (x - y) := by
  rw [← e, sub_r]
  congr 1
  rw [Int32.zero_sub, Int32.sub_eq_add_neg x, Int32.neg_add, Int32.sub_eq_add_neg, ← Int32.add_assoc, Int32.add_right_neg, Int32.zero_add]
theorem take_at {nd : Nat → Int32} {j k : Nat} {set : Int32} (ht : Tell v (gV g)) (hg : WFG g) (hj : j < cN (g 0)) (hk : k < 6) : takeJ (v 1) (needW v j set) 6 k = getsM g (needM g j set (clrJ nd 6) (cN (g (18 + j)))) (-1) 6 (6 + k) := by
  rw [takeJ_at, if_pos hk, getsM_at 6 k hk, neg1_mul, need_eq ht hg hj hk, ht.r1 hk]; rfl
theorem put_at {nd : Nat → Int32} {j k : Nat} {set : Int32} (ht : Tell v (gV g)) (hg : WFG g) (hj : j < cN (g 0)) (hk : k < 6) : putJ (v 1) (needW v j set) 6 k = getsM g (needM g j set (clrJ nd 6) (cN (g (18 + j)))) 1 6 (6 + k) := by
  rw [putJ_at, if_pos hk, getsM_at 6 k hk, Int32.one_mul, need_eq ht hg hj hk, ht.r1 hk]; rfl
theorem lack_eq {nd : Nat → Int32} {j : Nat} {set : Int32} (ht : Tell v (gV g)) (hg : WFG g) (hj : j < cN (g 0)) : lackJ (v 1) (needW v j set) 0 6 = lackJ (fun i => g (6 + i)) (needM g j set (clrJ nd 6) (cN (g (18 + j)))) 0 6 :=
  lackJ_t 6 0 (fun k _ hk => ⟨ht.r1 (by omega), (need_eq ht hg hj (by omega)).symm⟩)
theorem by_ne {x : Int32} (h : ¬ x = 0) : ¬ x - 1 = -1 := fun z => h (by rw [← Int32.sub_add_cancel x 1, z]; rfl)
end OK3
