/-! ===== what the reference's row keeps; a change of the class and one of the reference hold together ===== -/
theorem nI_m1' {n : Nat} (h : n < 2 ^ 31) : ¬ nI n = -1 := fun z => by
  have := congrArg Int32.toInt z
  rw [nI_toInt h, show ((-1 : Int32)).toInt = -1 by decide] at this
  omega
theorem onM_nI {g : Nat → Int32} {sh : Int32} : ∀ c, c ≤ 8 → ∃ m : Nat, m < 2 ^ c ∧ onM g sh c = nI m
  | 0, _ => ⟨0, by decide, rfl⟩
  | c + 1, h => by
    obtain ⟨m, hm, e⟩ := onM_nI (g := g) (sh := sh) c (by omega)
    rw [onM, e]
    by_cases hc : g (34 + c) = sh
    · rw [if_pos hc, or_sh c (by omega) m hm]
      exact ⟨m + 2 ^ c, by rw [Nat.pow_succ]; omega, rfl⟩
    · rw [if_neg hc, Int32.or_zero]
      exact ⟨m, by rw [Nat.pow_succ]; omega, rfl⟩
/-- how many boxes stand on a shelf -/
def cntM (g : Nat → Int32) (sh : Int32) : Nat → Nat
  | 0 => 0
  | c + 1 => if g (34 + c) = sh then cntM g sh c + 1 else cntM g sh c
theorem bits_onM {g : Nat → Int32} {sh : Int32} : ∀ c, c ≤ 8 → bitsJ (onM g sh c) 8 = nI (cntM g sh c)
  | 0, _ => by rw [onM, cntM]; decide
  | c + 1, h => by
    obtain ⟨m, hm, e⟩ := onM_nI (g := g) (sh := sh) c (by omega)
    have ih := bits_onM (g := g) (sh := sh) c (by omega)
    rw [e] at ih
    rw [onM, cntM, e]
    by_cases hc : g (34 + c) = sh
    · rw [if_pos hc, if_pos hc, bits_add c (by omega) m hm, ih, nI_1]
    · rw [if_neg hc, if_neg hc, Int32.or_zero, ih]
theorem cntM_le {g : Nat → Int32} {sh : Int32} : ∀ c, cntM g sh c ≤ c
  | 0 => Nat.le_refl _
  | c + 1 => by
    rw [cntM]
    have := cntM_le (g := g) (sh := sh) c
    split <;> omega
theorem cntM_eq {g h : Nat → Int32} {sh : Int32} : ∀ c, (∀ j, j < c → h (34 + j) = g (34 + j)) → cntM h sh c = cntM g sh c
  | 0, _ => rfl
  | c + 1, e => by rw [cntM, cntM, cntM_eq c (fun j hj => e j (by omega)), e c (by omega)]
/-- one box set anew -/
theorem cntM_up {g h : Nat → Int32} {sh s0 : Int32} {k : Nat} (e : ∀ j, ¬ j = k → h (34 + j) = g (34 + j)) (ek : h (34 + k) = s0) : ∀ c, cntM h sh c ≤ cntM g sh c + (if s0 = sh then 1 else 0)
  | 0 => Nat.zero_le _
  | c + 1 => by
    have ih := cntM_up (sh := sh) e ek c
    rw [cntM, cntM]
    by_cases hk : c = k
    · subst hk
      have i2 := cntM_eq (g := g) (h := h) (sh := sh) c (fun j hj => e j (by omega))
      rw [ek, i2]
      (repeat' split) <;> omega
    · rw [e c hk]
      (repeat' split at ih) <;> (repeat' split) <;> first | omega | contradiction
theorem pop_onJ {v : Nat → Nat → Int32} {g : Nat → Int32} {sh : Int32} {c : Nat} (h8 : c ≤ 8) (h : ∀ j, j < c → v 5 j = gV g 5 j) : popF (onJ v sh c) = nI (cntM g sh c) := by
  rw [onJ_t c h, ← onM_v, ← bits_onM c h8]
  obtain ⟨m, hm, e⟩ := onM_nI (g := g) (sh := sh) c h8
  have : 2 ^ c ≤ 2 ^ 8 := Nat.pow_le_pow_right (by decide) h8
  rw [e, bits_pop m (by omega)]
/-- the numbers of a leaflet -/
def WL (g : Nat → Int32) (j : Nat) : Prop := okN (g (34 + j)) 3 ∧ okN (g (50 + j)) 255 ∧ (g (42 + j) = 0 → g (50 + j) = 0) ∧ ∀ q, q < cN (g (18 + j)) → okN (g (132 + 8 * j + q)) 4 ∧ (g (260 + 8 * j + q) = 0 ∨ g (260 + 8 * j + q) = 1)
/-- the parts that a leaflet's skipped steps need -/
def ndG (g : Nat → Int32) (k j : Nat) : Int32 := needJ (gV g) j (g (50 + j)) (nI k) (cN (g (18 + j)))
def WFX (g : Nat → Int32) : Prop := (∀ j, j < cN (g 0) → WL g j) ∧ (∀ i, i < cN (g 1) → okN (g (63 + i)) 31) ∧ (∀ sh, cntM g sh (cN (g 0)) ≤ 3) ∧ ∀ k, k < 6 → g (6 + k) + g (12 + k) = sumJ (ndG g k) (cN (g 0))
def WFG (g : Nat → Int32) : Prop := WFZ g ∧ WFX g
/-- two rows are the same in what belongs to the leaflet j -/
def GEq (h g : Nat → Int32) (j : Nat) : Prop := ∀ i, (i = 18 + j ∨ i = 26 + j ∨ i = 34 + j ∨ i = 42 + j ∨ i = 50 + j ∨ (68 + 8 * j ≤ i ∧ i < 76 + 8 * j) ∨ (132 + 8 * j ≤ i ∧ i < 140 + 8 * j) ∨ (196 + 8 * j ≤ i ∧ i < 204 + 8 * j) ∨ (260 + 8 * j ≤ i ∧ i < 268 + 8 * j)) → h i = g i
theorem GEq.tell {h g : Nat → Int32} {j : Nat} (e : GEq h g j) (hj : j < 8) (hn : cN (g (18 + j)) ≤ 8) : TellL (gV h) (gV g) j := by
  refine ⟨by rw [gV_3, gV_3]; exact e _ (by omega), by rw [gV_4, gV_4]; exact e _ (by omega), by rw [gV_5, gV_5]; exact e _ (by omega), by rw [gV_6, gV_6]; exact e _ (by omega), by rw [gV_7, gV_7]; exact e _ (by omega), fun q hq => ?_⟩
  rw [gV_3] at hq
  refine ⟨?_, ?_, ?_, ?_⟩
  · rw [gV_10 (by omega), gV_10 (by omega)]; exact e _ (by omega)
  · rw [gV_20 (by omega), gV_20 (by omega)]; exact e _ (by omega)
  · rw [gV_30 (by omega), gV_30 (by omega)]; exact e _ (by omega)
  · rw [gV_40, gV_40]; exact e _ (by omega)
theorem GEq.wl {h g : Nat → Int32} {j : Nat} (e : GEq h g j) (hn : cN (g (18 + j)) ≤ 8) (hw : WL g j) : WL h j := by
  obtain ⟨a, b, c, d⟩ := hw
  refine ⟨by rw [e (34 + j) (by omega)]; exact a, by rw [e (50 + j) (by omega)]; exact b, by rw [e (50 + j) (by omega), e (42 + j) (by omega)]; exact c, fun q hq => ?_⟩
  rw [e (18 + j) (by omega)] at hq
  rw [e (132 + 8 * j + q) (by omega), e (260 + 8 * j + q) (by omega)]
  exact d q hq
theorem GEq.nd {h g : Nat → Int32} {j k : Nat} (e : GEq h g j) (hj : j < 8) (hn : cN (g (18 + j)) ≤ 8) : ndG h k j = ndG g k j := by
  have t := e.tell hj hn
  have := needJ_ts t (set := g (50 + j)) (kind := nI k)
  unfold ndG
  rw [e (50 + j) (by omega)]
  simpa only [stN, gV_3] using this
theorem needJ_0 {v : Nat → Nat → Int32} {j : Nat} {kind : Int32} : ∀ n, n ≤ 8 → needJ v j 0 kind n = 0
  | 0, _ => rfl
  | n + 1, h => by
    have hz : ∀ m : Nat, m < 8 → ¬ hasB 0 (nI m) := by decide +kernel
    rw [needJ, if_neg (hz n (by omega)), needJ_0 n (by omega)]
theorem sumJ_up {f h : Nat → Int32} {k : Nat} : ∀ c, k < c → (∀ j, j < c → ¬ j = k → h j = f j) → sumJ h c = sumJ f c + (h k - f k)
  | 0, hk, _ => absurd hk (Nat.not_lt_zero _)
  | c + 1, hk, e => by
    rw [sumJ, sumJ]
    by_cases hck : c = k
    · subst hck
      rw [sumJ_t c (fun j hj => e j (by omega) (by omega)), Int32.add_assoc, Int32.add_comm (f c), Int32.sub_add_cancel]
    · rw [sumJ_up c (by omega) (fun j h1 h2 => e j (by omega) h2), e c (by omega) hck]
      rw [Int32.add_assoc, Int32.add_comm (h k - f k), ← Int32.add_assoc]
theorem WFG.n8 {g : Nat → Int32} (hg : WFG g) {j : Nat} (hj : j < cN (g 0)) : cN (g (18 + j)) ≤ 8 := (hg.1.1.2.2 j hj).1.2
theorem WFG.j8 {g : Nat → Int32} (hg : WFG g) {j : Nat} (hj : j < cN (g 0)) : j < 8 := Nat.lt_of_lt_of_le hj hg.1.1.1.2
theorem Tell.n0 {v : Nat → Nat → Int32} {g : Nat → Int32} (ht : Tell v (gV g)) : v 0 0 = g 0 := (ht.1 0 (by decide)).trans gV_0
theorem Tell.n1 {v : Nat → Nat → Int32} {g : Nat → Int32} (ht : Tell v (gV g)) : v 0 1 = g 1 := (ht.1 1 (by decide)).trans gV_0
theorem Tell.l {v : Nat → Nat → Int32} {g : Nat → Int32} (ht : Tell v (gV g)) {j : Nat} (hj : j < cN (g 0)) : TellL v (gV g) j := ht.2.2.2.1 j (by rw [gV_0]; exact hj)
theorem Tell.lf {v : Nat → Nat → Int32} {g : Nat → Int32} (ht : Tell v (gV g)) {j : Nat} (hj : j < cN (g 0)) : v 3 j = g (18 + j) ∧ v 4 j = g (26 + j) ∧ v 5 j = g (34 + j) ∧ v 6 j = g (42 + j) ∧ v 7 j = g (50 + j) := by
  obtain ⟨a, b, c, d, e, -⟩ := ht.l hj
  exact ⟨a.trans gV_3, b.trans gV_4, c.trans gV_5, d.trans gV_6, e.trans gV_7⟩
theorem Tell.wf {v : Nat → Nat → Int32} {g : Nat → Int32} (ht : Tell v (gV g)) (hg : WFG g) : WF v := by
  refine WF.tell ht ⟨by rw [gV_0]; exact hg.1.1.1, by rw [gV_0]; exact hg.1.1.2.1, fun j hj => ?_⟩
  rw [gV_0] at hj
  rw [gV_3, gV_4]
  exact ⟨(hg.1.1.2.2 j hj).1, (hg.1.1.2.2 j hj).2.1⟩
/-- a leaflet that isn't touched -/
theorem TellL.mv {v w : Nat → Nat → Int32} {g h : Nat → Int32} {j : Nat} (hj : j < 8) (hn : cN (g (18 + j)) ≤ 8) (ht : TellL v (gV g) j) (he : LeafEq w v j) (hg : GEq h g j) : TellL w (gV h) j := by
  have t : TellL (gV g) (gV h) j := GEq.tell (fun i hi => (hg i hi).symm) hj (by rw [hg (18 + j) (by omega)]; exact hn)
  have t2 : TellL w v j := by
    obtain ⟨a1, a2, a3, a4, a5, a6, a7, a8, a9⟩ := he
    exact ⟨a1, a2, a3, a4, a5, fun q _ => ⟨by rw [a6], by rw [a7], by rw [a8], by rw [a9]⟩⟩
  exact (t2.tr ht).tr t
/-- a leaflet whose steps aren't touched -/
theorem TellL.sc {v w : Nat → Nat → Int32} {g h : Nat → Int32} {j : Nat} (hj : j < 8) (ht : TellL v (gV g) j) (e3 : w 3 j = h (18 + j)) (e4 : w 4 j = h (26 + j)) (e5 : w 5 j = h (34 + j)) (e6 : w 6 j = h (42 + j)) (e7 : w 7 j = h (50 + j)) (hn : h (18 + j) = g (18 + j))
    (hr : ∀ r, 10 ≤ r → w r = v r) (hq : ∀ i, 68 ≤ i → h i = g i) : TellL w (gV h) j := by
  refine ⟨e3.trans gV_3.symm, e4.trans gV_4.symm, e5.trans gV_5.symm, e6.trans gV_6.symm, e7.trans gV_7.symm, fun q hq2 => ?_⟩
  rw [gV_3, hn] at hq2
  obtain ⟨a, b, c, d⟩ := ht.2.2.2.2.2 q (by rw [gV_3]; exact hq2)
  rw [gV_10 (by omega)] at a ⊢
  rw [gV_20 (by omega)] at b ⊢
  rw [gV_30 (by omega)] at c ⊢
  rw [gV_40] at d ⊢
  rw [hr _ (by omega), hr _ (by omega), hr _ (by omega), hr _ (by omega), hq _ (by omega), hq _ (by omega), hq _ (by omega), hq _ (by omega)]
  exact ⟨a, b, c, d⟩
/-- a change of the class and one of the reference -/
def ChOK (v : Nat → Nat → Int32) (k1 k2 k3 : Int32) (s g : Nat → Int32) (C : CR) (M : M3) : Prop :=
  (C.1 = -1 ∧ C.2.1 = v ∧ M.1 = 0 ∧ M.2.1 = upd (upd (upd (upd s 9 C.2.2.1) 10 C.2.2.2.1) 11 C.2.2.2.2) 14 1 ∧ M.2.2 = g) ∨
  (¬ C.1 = -1 ∧ C.1 = M.1 ∧ C.2.2 = (k1, k2, k3) ∧ M.2.1 = upd s 14 0 ∧ Tell C.2.1 (gV M.2.2) ∧ WFG M.2.2)
theorem ChOK.no {v : Nat → Nat → Int32} {k1 k2 k3 : Int32} {s g : Nat → Int32} {r d : Int32} : ChOK v k1 k2 k3 s g (-1, v, r, d, 0) (0, upd (upd (upd (upd s 9 r) 10 d) 11 0) 14 1, g) := Or.inl ⟨rfl, rfl, rfl, rfl, rfl⟩
theorem ChOK.yes {v : Nat → Nat → Int32} {k1 k2 k3 : Int32} {s g : Nat → Int32} {a : Int32} {w : Nat → Nat → Int32} {h : Nat → Int32} (ha : ¬ a = -1) (ht : Tell w (gV h)) (hw : WFG h) : ChOK v k1 k2 k3 s g (a, w, k1, k2, k3) (a, upd s 14 0, h) := Or.inr ⟨ha, rfl, rfl, rfl, ht, hw⟩
