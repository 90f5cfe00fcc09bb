/-! ===== rows that are alike as far as they go; what is kept of former states; all orders of a text, done or refused ===== -/
section PU6
variable {v : Nat → Nat → Int32} {s g nd : Nat → Int32} {k1 k2 k3 : Int32}
def Row9 (h g : Nat → Int32) : Prop := ∀ q, q < 324 → h q = g q
theorem Row9.ge {h : Nat → Int32} (e : Row9 h g) {j : Nat} (hj : j < 8) : GEq h g j := fun i hi => e i (by omega)
theorem Row9.cnt {h : Nat → Int32} (e : Row9 h g) {sh : Int32} : ∀ c, c ≤ 8 → cntM h sh c = cntM g sh c
  | 0, _ => rfl
  | c + 1, hc => by rw [cntM, cntM, e (34 + c) (by omega), Row9.cnt e c (by omega)]
theorem Row9.wfg {h : Nat → Int32} (e : Row9 h g) (hg : WFG g) : WFG h := by
  have e0 := e 0 (by decide)
  have e1 := e 1 (by decide)
  obtain ⟨c, hc8, hc, hcc⟩ := hg.1.row
  obtain ⟨d, hd5, hd, hdd⟩ := okN_of hg.1.1.2.1
  refine ⟨hg.1.eq (fun i hi => e i (by omega)) (fun j h1 h2 => ?_), fun j hj => ?_, fun i hi => ?_, fun sh => ?_, fun k hk => ?_⟩
  · rw [e (42 + j) (by omega), e (50 + j) (by omega)]
    exact (hg.1.2 j h1 h2).2.2
  · rw [e0] at hj
    exact (e.ge (hg.j8 hj)).wl (hg.n8 hj) (hg.2.1 j hj)
  · rw [e1] at hi
    rw [e (63 + i) (by omega)]
    exact hg.2.2.1 i hi
  · rw [e0, e.cnt _ (by omega)]
    exact hg.2.2.2.1 sh
  · rw [e0, e (6 + k) (by omega), e (12 + k) (by omega), hg.2.2.2.2 k hk]
    exact sumJ_t _ (fun j hj => ((e.ge (hg.j8 hj)).nd (hg.j8 hj) (hg.n8 hj)).symm)
theorem Row9.tell {h : Nat → Int32} (e : Row9 h g) (hg : WFG g) (ht : Tell v (gV g)) : Tell v (gV h) := by
  obtain ⟨d, hd5, hd, hdd⟩ := okN_of hg.1.1.2.1
  refine Tell.mk' (fun i hi => by rw [e i (by omega)]; exact ht.r0 hi) (fun i hi => by rw [e (6 + i) (by omega)]; exact ht.r1 hi) (fun i hi => by rw [e (12 + i) (by omega)]; exact ht.r2 hi) (fun j hj => ?_) (fun i hi => ?_)
  · rw [e 0 (by decide)] at hj
    have hj8 := hg.j8 hj
    have t := (e.ge hj8).tell hj8 (hg.n8 hj)
    have u := ht.l hj
    have t' : TellL (gV g) (gV h) j := GEq.tell (fun i hi => (e.ge hj8 i hi).symm) hj8 (by rw [e (18 + j) (by omega)]; exact hg.n8 hj)
    exact u.tr t'
  · rw [e 1 (by decide)] at hi
    rw [e (58 + i) (by omega), e (63 + i) (by omega)]
    exact ht.co hi
/-- the former states: the class's ring, the reference's rows -/
def HRel (R : Nat → Nat → Nat → Int32) (p ct : Nat) (hs : Nat → Int32) : Prop := ∀ i, i < ct → Tell (R ((p + 9 - ct + i) % 9)) (gV (fun q => hs (i * 324 + q))) ∧ WFG (fun q => hs (i * 324 + q))
def hisM (hs bf : Nat → Int32) (ct : Nat) : Nat → Int32 := if ct = 8 then cpyJ bf (shJ hs 2268) 0 (7 * 324) 324 else cpyJ bf hs 0 (ct * 324) 324
theorem HRel.back {R : Nat → Nat → Nat → Int32} {p ct : Nat} {hs : Nat → Int32} (h : HRel R p ct hs) (hp : p < 9) (hc8 : ct ≤ 8) : HRel R ((p + 8) % 9) (ct - 1) hs := fun i hi => by
  have := h i (by omega)
  rw [show ((p + 8) % 9 + 9 - (ct - 1) + i) % 9 = (p + 9 - ct + i) % 9 by omega]
  exact this
theorem HRel.top {R : Nat → Nat → Nat → Int32} {p ct : Nat} {hs : Nat → Int32} (h : HRel R p ct hs) (hp : p < 9) (hc8 : ct ≤ 8) (hc : 0 < ct) : Tell (R ((p + 8) % 9)) (gV (fun q => hs ((ct - 1) * 324 + q))) ∧ WFG (fun q => hs ((ct - 1) * 324 + q)) := by
  have := h (ct - 1) (by omega)
  rw [show (p + 9 - ct + (ct - 1)) % 9 = (p + 8) % 9 by omega] at this
  exact this
theorem HRel.note {R : Nat → Nat → Nat → Int32} {p ct : Nat} {hs : Nat → Int32} {w : Nat → Nat → Int32} (h : HRel R p ct hs) (hp : p < 9) (hc8 : ct ≤ 8) (ht : Tell w (gV g)) (hg : WFG g) : HRel (updR R p w) ((p + 1) % 9) (min (ct + 1) 8) (hisM hs g ct) := by
  intro i hi
  by_cases hc : ct = 8
  · subst hc
    have hm : min (8 + 1) 8 = 8 := rfl
    rw [hm] at hi ⊢
    have hrow : ∀ q, q < 324 → hisM hs g 8 (i * 324 + q) = if i = 7 then g q else hs ((i + 1) * 324 + q) := by
      intro q hq
      unfold hisM
      rw [if_pos rfl]
      by_cases h7 : i = 7
      · rw [if_pos h7, h7, show 7 * 324 + q = 7 * 324 + q from rfl, cpyJ_at hq, Nat.zero_add]
      · rw [if_neg h7, cpyJ_off (fun j hj => by omega)]
        unfold shJ
        rw [if_pos (by omega), show i * 324 + q + 324 = (i + 1) * 324 + q by omega]
    by_cases h7 : i = 7
    · have e9 : Row9 (fun q => hisM hs g 8 (i * 324 + q)) g := fun q hq => (hrow q hq).trans (if_pos h7)
      rw [show ((p + 1) % 9 + 9 - 8 + i) % 9 = p by omega, updR_at]
      exact ⟨e9.tell hg ht, e9.wfg hg⟩
    · obtain ⟨a, b⟩ := h (i + 1) (by omega)
      have e9 : Row9 (fun q => hisM hs g 8 (i * 324 + q)) (fun q => hs ((i + 1) * 324 + q)) := fun q hq => (hrow q hq).trans (if_neg h7)
      rw [show ((p + 1) % 9 + 9 - 8 + i) % 9 = (p + 9 - 8 + (i + 1)) % 9 by omega]
      have hne : ¬ (p + 9 - 8 + (i + 1)) % 9 = p := by omega
      rw [show updR R p w ((p + 9 - 8 + (i + 1)) % 9) = R ((p + 9 - 8 + (i + 1)) % 9) from if_neg hne]
      exact ⟨e9.tell b a, e9.wfg b⟩
  · have hm : min (ct + 1) 8 = ct + 1 := by omega
    rw [hm] at hi ⊢
    have hrow : ∀ q, q < 324 → hisM hs g ct (i * 324 + q) = if i = ct then g q else hs (i * 324 + q) := by
      intro q hq
      unfold hisM
      rw [if_neg hc]
      by_cases h7 : i = ct
      · rw [if_pos h7, h7, cpyJ_at hq, Nat.zero_add]
      · rw [if_neg h7]
        have : i * 324 + 324 ≤ ct * 324 := by
          have := Nat.mul_le_mul_right 324 (show i + 1 ≤ ct by omega)
          omega
        exact cpyJ_off (fun j hj => by omega)
    by_cases h7 : i = ct
    · have e9 : Row9 (fun q => hisM hs g ct (i * 324 + q)) g := fun q hq => (hrow q hq).trans (if_pos h7)
      rw [show ((p + 1) % 9 + 9 - (ct + 1) + i) % 9 = p by omega, updR_at]
      exact ⟨e9.tell hg ht, e9.wfg hg⟩
    · obtain ⟨a, b⟩ := h i (by omega)
      have e9 : Row9 (fun q => hisM hs g ct (i * 324 + q)) (fun q => hs (i * 324 + q)) := fun q hq => (hrow q hq).trans (if_neg h7)
      rw [show ((p + 1) % 9 + 9 - (ct + 1) + i) % 9 = (p + 9 - ct + i) % 9 by omega]
      have hne : ¬ (p + 9 - ct + i) % 9 = p := by omega
      rw [show updR R p w ((p + 9 - ct + i) % 9) = R ((p + 9 - ct + i) % 9) from if_neg hne]
      exact ⟨e9.tell b a, e9.wfg b⟩
/-- a state kept -/
theorem kept_yes {bf hs : Nat → Int32} {x : Int32} {ct : Nat} (h14 : s 14 = 0) (h3 : s 3 = nI ct) (hc : ct ≤ 8) : (keptM s g bf hs x).1 = x ∧ (keptM s g bf hs x).2.1 = upd s 3 (nI (min (ct + 1) 8)) ∧ (keptM s g bf hs x).2.2.1 = g ∧ (keptM s g bf hs x).2.2.2 = hisM hs bf ct := by
  unfold keptM hisM
  rw [if_pos h14, h3]
  by_cases h8 : ct = 8
  · subst h8
    rw [if_pos (show nI 8 = 8 from rfl), if_pos rfl]
    refine ⟨rfl, ?_, rfl, rfl⟩
    show upd (upd s 3 (nI 8 - 1)) 3 (nI 8 - 1 + 1) = upd s 3 (nI (min (8 + 1) 8))
    funext q
    by_cases hq : q = 3
    · rw [hq, upd_at, upd_at]; decide
    · rw [upd_off hq, upd_off hq, upd_off hq]
  · rw [if_neg (show ¬ nI ct = 8 from fun z => h8 ((nI_eq (a := ct) (b := 8) (by omega) (by decide)).mp z)), if_neg h8, cN_nI (by omega), nI_1, show min (ct + 1) 8 = ct + 1 by omega]
    exact ⟨rfl, rfl, rfl, rfl⟩
theorem kept_no {bf hs : Nat → Int32} {x : Int32} (h14 : ¬ s 14 = 0) : keptM s g bf hs x = (0, s, bf, hs) := if_neg h14
end PU6
