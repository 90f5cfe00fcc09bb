/-! ===== the class's whole picture tells what the reference's rows say ===== -/
theorem fx_mono {G : FG} {l : Launch} {y : MethodName} {ws : List Cond} {rm : Room} {av : List Value} {ω : FWd} {Q Q2 : Option Value → FWd → Prop} {X X2 : String → FWd → Prop} {mc ms : Nat} (h : FMetX G l y ws rm av ω Q X mc ms) (hq : ∀ v τ, Q v τ → Q2 v τ) (hx : ∀ E τ, X E τ → X2 E τ) : FMetX G l y ws rm av ω Q2 X2 mc ms := by
  intro p e he hc hk s m args below hf hs hP hK
  obtain ⟨n, o, h1, h2, h3, h4⟩ := h p e he hc hk s m args below hf hs hP hK
  refine ⟨n, o, h1, h2, h3, ?_⟩
  rcases h4 with ⟨⟨⟨v, τ, e1, e2, e3⟩, e4⟩, e5⟩ | ⟨q, e1, E, ce, L, ⟨⟨τ, x1, x2⟩, x3⟩, e6⟩
  · exact Or.inl ⟨⟨⟨v, τ, e1, hq v τ e2, e3⟩, e4⟩, e5⟩
  · exact Or.inr ⟨q, e1, E, ce, L, ⟨⟨τ, hx E τ x1, x2⟩, x3⟩, e6⟩
theorem fx_met {G : FG} {l : Launch} {y : MethodName} {ws : List Cond} {rm : Room} {av : List Value} {ω : FWd} {Q Q2 : Option Value → FWd → Prop} {mc ms : Nat} (h : FMet G l y ws rm av ω Q mc ms) (hq : ∀ v τ, Q v τ → Q2 v τ) : FMet G l y ws rm av ω Q2 mc ms := by
  intro p e he hc hk s m args below hf hs hP hK
  obtain ⟨n, o, h1, h2, h3, ⟨⟨⟨v, τ, e1, e2, e3⟩, e4⟩, e5⟩⟩ := h p e he hc hk s m args below hf hs hP hK
  exact ⟨n, o, h1, h2, h3, ⟨⟨⟨v, τ, e1, hq v τ e2, e3⟩, e4⟩, e5⟩⟩
/-- the class's picture, region by region -/
def CObj (G : FG) (σ : Nat → Option va_E) (x : Nat) (s5 : Int32) : Prop := σ x = some (.inr (12, [.ref (x + 1), .ref (x + 2), .ref (x + 2 + 51), .ref (x + 54), .ref (x + 515), .int s5, .ref (x + 566), .ref (x + 609), .ref (x + 611)])) ∧ σ (x + 1) = some (.inr (3, [.ref (x + 2), .ref (x + 2 + 51)]))
def CArc (G : FG) (σ : Nat → Option va_E) (x : Nat) (g : Nat → Int32) : Prop := ∃ v, ArcS G σ (x + 2) v ∧ Tell v (gV g) ∧ WFG g
def CRs (G : FG) (σ : Nat → Option va_E) (x : Nat) (k1 k2 k3 : Int32) : Prop := σ (x + 2 + 51) = some (.inr (9, [.int k1, .int k2, .int k3]))
def CHis (G : FG) (σ : Nat → Option va_E) (x : Nat) (s3 : Int32) (hs : Nat → Int32) : Prop := ∃ R p ct, HisS G σ (x + 54) R p ct ∧ p < 9 ∧ ct ≤ 8 ∧ s3 = nI ct ∧ HRel R p ct hs
def CSn (G : FG) (σ : Nat → Option va_E) (x : Nat) (s5 : Int32) (sv : Nat → Int32) : Prop := ∃ w, ArcS G σ (x + 515) w ∧ (¬ s5 = 0 → Tell w (gV sv) ∧ WFG sv)
def CTx (G : FG) (σ : Nat → Option va_E) (x : Nat) (s7 s8 : Int32) (ip : Nat → Int32) : Prop := ∃ f tl tp cn, TxtS G σ (x + 566) f tl tp cn s8 ∧ s7 = nI tl ∧ RdE ip f tl
def CmdsS (G : FG) (σ : Nat → Option va_E) (x : Nat) (Cs : Nat → CM) : Prop := ∀ i, i < 20 → CmdS G σ (x + 566 + 3 + 2 * i) (Cs i).1 (Cs i).2.1 (Cs i).2.2.1 (Cs i).2.2.2 ∧ (Cs i).2.2.1 ≤ 3
def CCm (G : FG) (σ : Nat → Option va_E) (x : Nat) : Prop := σ (x + 566 + 2) = some (.inl (G.2.1 5, 20, .inr (.inr (.inr (.inr (fun z9 => some (x + 566 + 3 + 2 * z9))))))) ∧ ∃ Cs, CmdsS G σ x Cs
def CLi (G : FG) (σ : Nat → Option va_E) (x : Nat) (s13 : Int32) (lt : Nat → Int32) : Prop := (∃ L, LinS G σ (x + 609) L ∧ s13 = nI L.2 ∧ ∀ i, i < L.2 → lt i = L.1 i) ∧ ∀ i, i < 60 → narrow .char (.int (lt i)) = .int (lt i)
def CTi (G : FG) (σ : Nat → Option va_E) (x : Nat) : Prop := ∃ ti tj, TinS G σ (x + 611) ti tj
def CInv (G : FG) (σ : Nat → Option va_E) (x : Nat) (s g hs sv ip lt : Nat → Int32) : Prop := CObj G σ x (s 5) ∧ CArc G σ x g ∧ CRs G σ x (s 9) (s 10) (s 11) ∧ CHis G σ x (s 3) hs ∧ CSn G σ x (s 5) sv ∧ CTx G σ x (s 7) (s 8) ip ∧ CCm G σ x ∧ CLi G σ x (s 13) lt ∧ CTi G σ x
theorem xa_ok (x : Nat) : XA x (x + 1) (x + 2) (x + 54) (x + 515) (x + 566) (x + 609) (x + 611) := ⟨rfl, rfl, rfl, rfl, rfl, rfl, rfl⟩
section CIS
variable {G : FG} {σ τ : Nat → Option va_E} {x : Nat} {s s2 g hs sv ip lt : Nat → Int32} {a b c : Int32}
theorem CObj.fr (h : CObj G σ x a) (e : ∀ q, x ≤ q → q < x + 2 → τ q = σ q) : CObj G τ x a := ⟨(e x (by omega) (by omega)).trans h.1, (e (x + 1) (by omega) (by omega)).trans h.2⟩
theorem CArc.fr (h : CArc G σ x g) (e : ∀ q, x + 2 ≤ q → q < x + 53 → τ q = σ q) : CArc G τ x g := by
  obtain ⟨v, h1, h2⟩ := h
  exact ⟨v, h1.keep (fun q q1 q2 => e q (by omega) (by omega)), h2⟩
theorem CRs.fr (h : CRs G σ x a b c) (e : τ (x + 53) = σ (x + 53)) : CRs G τ x a b c := e.trans h
theorem CHis.fr (h : CHis G σ x a hs) (e : ∀ q, x + 54 ≤ q → q < x + 515 → τ q = σ q) : CHis G τ x a hs := by
  obtain ⟨R, p, ct, h1, h2⟩ := h
  exact ⟨R, p, ct, h1.keep (fun q q1 q2 => e q (by omega) (by omega)), h2⟩
theorem CSn.fr (h : CSn G σ x a sv) (e : ∀ q, x + 515 ≤ q → q < x + 566 → τ q = σ q) : CSn G τ x a sv := by
  obtain ⟨w, h1, h2⟩ := h
  exact ⟨w, h1.keep (fun q q1 q2 => e q (by omega) (by omega)), h2⟩
theorem CTx.fr (h : CTx G σ x a b ip) (e : ∀ q, x + 566 ≤ q → q < x + 568 → τ q = σ q) : CTx G τ x a b ip := by
  obtain ⟨f, tl, tp, cn, h1, h2⟩ := h
  exact ⟨f, tl, tp, cn, ⟨(e (x + 566) (by omega) (by omega)).trans h1.1, (e (x + 566 + 1) (by omega) (by omega)).trans h1.2⟩, h2⟩
theorem CCm.fr (h : CCm G σ x) (e : ∀ q, x + 568 ≤ q → q < x + 609 → τ q = σ q) : CCm G τ x := by
  obtain ⟨h1, Cs, h2⟩ := h
  exact ⟨(e (x + 566 + 2) (by omega) (by omega)).trans h1, Cs, fun i hi => ⟨⟨(e _ (by omega) (by omega)).trans (h2 i hi).1.1, (e _ (by omega) (by omega)).trans (h2 i hi).1.2⟩, (h2 i hi).2⟩⟩
theorem CLi.fr (h : CLi G σ x a lt) (e : ∀ q, x + 609 ≤ q → q < x + 611 → τ q = σ q) : CLi G τ x a lt := by
  obtain ⟨⟨L, h1, h2⟩, h3⟩ := h
  exact ⟨⟨L, ⟨(e (x + 609) (by omega) (by omega)).trans h1.1, (e (x + 609 + 1) (by omega) (by omega)).trans h1.2.1, h1.2.2⟩, h2⟩, h3⟩
theorem CTi.fr (h : CTi G σ x) (e : ∀ q, x + 611 ≤ q → q < x + 614 → τ q = σ q) : CTi G τ x := by
  obtain ⟨ti, tj, h1⟩ := h
  exact ⟨ti, tj, (e (x + 611) (by omega) (by omega)).trans h1.1, (e (x + 611 + 1) (by omega) (by omega)).trans h1.2.1, (e (x + 611 + 2) (by omega) (by omega)).trans h1.2.2⟩
theorem CInv.fr (h : CInv G σ x s g hs sv ip lt) (e : ∀ q, x ≤ q → q < x + 614 → τ q = σ q) : CInv G τ x s g hs sv ip lt := by
  obtain ⟨a1, a2, a3, a4, a5, a6, a7, a8, a9⟩ := h
  exact ⟨a1.fr (fun q q1 q2 => e q (by omega) (by omega)), a2.fr (fun q q1 q2 => e q (by omega) (by omega)), a3.fr (e _ (by omega) (by omega)), a4.fr (fun q q1 q2 => e q (by omega) (by omega)), a5.fr (fun q q1 q2 => e q (by omega) (by omega)), a6.fr (fun q q1 q2 => e q (by omega) (by omega)), a7.fr (fun q q1 q2 => e q (by omega) (by omega)), a8.fr (fun q q1 q2 => e q (by omega) (by omega)), a9.fr (fun q q1 q2 => e q (by omega) (by omega))⟩
theorem CInv.st2 (h : CInv G σ x s g hs sv ip lt) (e : ∀ q, q = 3 ∨ q = 5 ∨ (7 ≤ q ∧ q < 12) ∨ q = 13 → s2 q = s q) : CInv G σ x s2 g hs sv ip lt := by
  unfold CInv
  rw [e 3 (by omega), e 5 (by omega), e 7 (by omega), e 8 (by omega), e 9 (by omega), e 10 (by omega), e 11 (by omega), e 13 (by omega)]
  exact h
theorem CInv.n14 (h : CInv G σ x s g hs sv ip lt) {k : Int32} : CInv G σ x (upd s 14 k) g hs sv ip lt := h.st2 (fun q hq => upd_off (by omega))
end CIS
/-- an answer, and the picture behind it -/
def QI (G : FG) (x : Nat) (ω : FWd) (a : Value) (s g hs sv ip lt : Nat → Int32) : Option Value → FWd → Prop := fun vv τ => vv = some a ∧ s 14 = 0 ∧ CInv G τ.2 x s g hs sv ip lt ∧ ∀ q, (q < x ∨ x + 614 ≤ q) → τ.2 q = ω.2 q
/-- a throw, by its number, and the picture behind it -/
def XI (G : FG) (x : Nat) (ω : FWd) (K : Int32 → String → Prop) (s g hs sv ip lt : Nat → Int32) : String → FWd → Prop := fun E τ => K (s 14) E ∧ CInv G τ.2 x s g hs sv ip lt ∧ ∀ q, (q < x ∨ x + 614 ≤ q) → τ.2 q = ω.2 q
section RDS
variable {G : FG} {l : Launch} {y : MethodName} {ws : List Cond} {rm : Room} {av : List Value} {ω : FWd} {x : Nat} {s g hs sv ip lt : Nat → Int32} {mc ms : Nat} {K : Int32 → String → Prop}
/-- a read: nothing but the code changes -/
theorem ci_rd {C : Int32 × Int32} {M : Int32 × (Nat → Int32)} (h : CInv G ω.2 x s g hs sv ip lt) (hM : RdOK s C M) (hm : FMetX G l y ws rm av ω (fun vv9 τ9 => vv9 = some (.int C.1) ∧ C.2 = 0 ∧ τ9 = ω) (fun E9 τ9 => K C.2 E9 ∧ τ9.2 = ω.2) mc ms) : FMetX G l y ws rm av ω (QI G x ω (.int M.1) M.2 g hs sv ip lt) (XI G x ω K M.2 g hs sv ip lt) mc ms := by
  obtain ⟨e1, e2⟩ := hM
  have e14 : M.2 14 = C.2 := by rw [e2, upd_at]
  refine fx_mono hm (fun v τ hq => ?_) (fun E τ hx => ?_)
  · obtain ⟨q1, q2, rfl⟩ := hq
    exact ⟨by rw [e1]; exact q1, e14.trans q2, by rw [e2]; exact h.n14, fun q _ => rfl⟩
  · obtain ⟨x1, x2⟩ := hx
    refine ⟨by rw [e14]; exact x1, by rw [e2]; exact h.n14.fr (fun q _ _ => by rw [x2]), fun q _ => by rw [x2]⟩
/-- a read of another kind -/
theorem ci_rv {a : Value} {c : Int32} {s2 : Nat → Int32} (h : CInv G ω.2 x s g hs sv ip lt) (e2 : s2 = upd s 14 c) (hm : FMetX G l y ws rm av ω (fun vv9 τ9 => vv9 = some a ∧ c = 0 ∧ τ9 = ω) (fun E9 τ9 => K c E9 ∧ τ9.2 = ω.2) mc ms) : FMetX G l y ws rm av ω (QI G x ω a s2 g hs sv ip lt) (XI G x ω K s2 g hs sv ip lt) mc ms := by
  have e14 : s2 14 = c := by rw [e2, upd_at]
  refine fx_mono hm (fun v τ hq => ?_) (fun E τ hx => ?_)
  · obtain ⟨q1, q2, rfl⟩ := hq
    exact ⟨q1, e14.trans q2, by rw [e2]; exact h.n14, fun q _ => rfl⟩
  · obtain ⟨x1, x2⟩ := hx
    refine ⟨by rw [e14]; exact x1, by rw [e2]; exact h.n14.fr (fun q _ _ => by rw [x2]), fun q _ => by rw [x2]⟩
/-- a read that never throws -/
theorem ci_rn {a : Value} {s2 : Nat → Int32} (h : CInv G ω.2 x s g hs sv ip lt) (e2 : s2 = upd s 14 0) (hm : FMet G l y ws rm av ω (fun vv9 τ9 => vv9 = some a ∧ τ9 = ω) mc ms) : FMet G l y ws rm av ω (QI G x ω a s2 g hs sv ip lt) mc ms := by
  have e14 : s2 14 = 0 := by rw [e2, upd_at]
  refine fx_met hm (fun v τ hq => ?_)
  obtain ⟨q1, rfl⟩ := hq
  exact ⟨q1, e14, by rw [e2]; exact h.n14, fun q _ => rfl⟩
/-- a change: refused with a reason, or made, noted and kept -/
theorem ci_chg {C : CR} {M : M3} {s' g' hs' : Nat → Int32} {a : Int32} {v : Nat → Nat → Int32} {R : Nat → Nat → Nat → Int32} {p ct : Nat} (h : CInv G ω.2 x s g hs sv ip lt) (hte : Tell v (gV g)) (hwf : WFG g) (hp : p < 9) (hc : ct ≤ 8) (h3 : s 3 = nI ct) (hr : HRel R p ct hs) (hM : ChOK v (s 9) (s 10) (s 11) s g C M) (ea : a = (keptM M.2.1 M.2.2 g hs M.1).1) (es : s' = (keptM M.2.1 M.2.2 g hs M.1).2.1) (eg : g' = (keptM M.2.1 M.2.2 g hs M.1).2.2.1) (eh : hs' = (keptM M.2.1 M.2.2 g hs M.1).2.2.2)
    (hm : FMetX G l y ws rm av ω (fun vv9 τ9 => vv9 = some (.int C.1) ∧ ¬ C.1 = (-1) ∧ ChP G ω (x + 2) (x + 54) v R p ((p + 1) % 9) (min (ct + 1) 8) C τ9) (fun E9 τ9 => E9 = "java/lang/UnsupportedOperationException" ∧ C.1 = (-1) ∧ ChP G ω (x + 2) (x + 54) v R p p ct C τ9) mc ms) :
    FMetX G l y ws rm av ω (QI G x ω (.int a) s' g' hs' sv ip lt) (XI G x ω (XC1 "java/lang/UnsupportedOperationException") s' g' hs' sv ip lt) mc ms := by
  obtain ⟨a1, a2, a3, a4, a5, a6, a7, a8, a9⟩ := h
  refine fx_mono hm (fun vv τ hq => ?_) (fun E τ hx => ?_)
  · obtain ⟨q1, q2, cA, cK, ⟨w9, cH, cL⟩, cF⟩ := hq
    rcases hM with ⟨z, -⟩ | ⟨-, m1, m2, m3, m4, m5⟩
    · exact absurd z q2
    obtain ⟨c1, c2, c3, c4⟩ := kept_yes (s := M.2.1) (g := M.2.2) (bf := g) (hs := hs) (x := M.1) (ct := ct) (by rw [m3, upd_at]) (by rw [m3, upd_off (by decide)]; exact h3) hc
    have es2 : ∀ q, ¬ q = 3 → ¬ q = 14 → s' q = s q := fun q q1 q2 => by rw [es, c2, upd_off q1, m3, upd_off q2]
    have es3 : s' 3 = nI (min (ct + 1) 8) := by rw [es, c2, upd_at]
    have e1 : C.2.2.1 = s 9 := congrArg (fun r => r.1) m2
    have e2 : C.2.2.2.1 = s 10 := congrArg (fun r => r.2.1) m2
    have e3 : C.2.2.2.2 = s 11 := congrArg (fun r => r.2.2) m2
    refine ⟨by rw [ea, c1, ← m1]; exact q1, by rw [es, c2, upd_off (by decide), m3, upd_at], ⟨?_, ?_, ?_, ?_, ?_, ?_, ?_, ?_, ?_⟩, fun q hq => cF q (by omega)⟩
    · rw [es2 5 (by decide) (by decide)]; exact a1.fr (fun q h1 h2 => cF q (by omega))
    · rw [eg, c3]; exact ⟨_, cA, m4, m5⟩
    · rw [es2 9 (by decide) (by decide), es2 10 (by decide) (by decide), es2 11 (by decide) (by decide), ← e1, ← e2, ← e3]; exact cK
    · rw [es3, eh, c4]
      exact ⟨_, _, _, cH, Nat.mod_lt _ (by decide), Nat.min_le_right _ _, rfl, hr.note hp hc ((Tell.of_live cL).tr hte) hwf⟩
    · rw [es2 5 (by decide) (by decide)]; exact a5.fr (fun q h1 h2 => cF q (by omega))
    · rw [es2 7 (by decide) (by decide), es2 8 (by decide) (by decide)]; exact a6.fr (fun q h1 h2 => cF q (by omega))
    · exact a7.fr (fun q h1 h2 => cF q (by omega))
    · rw [es2 13 (by decide) (by decide)]; exact a8.fr (fun q h1 h2 => cF q (by omega))
    · exact a9.fr (fun q h1 h2 => cF q (by omega))
  · obtain ⟨q1, q2, cA, cK, ⟨w9, cH, cL⟩, cF⟩ := hx
    rcases hM with ⟨-, m1, m2, m3, m4⟩ | ⟨z, -⟩
    · have h14 : ¬ M.2.1 14 = 0 := by rw [m3, upd_at]; decide
      rw [kept_no h14] at ea es eg eh
      have es' : s' = M.2.1 := es
      have eg' : g' = g := eg
      have eh' : hs' = hs := eh
      have es2 : ∀ q, ¬ q = 9 → ¬ q = 10 → ¬ q = 11 → ¬ q = 14 → s' q = s q := fun q q1 q2 q3 q4 => by rw [es', m3, upd_off q4, upd_off q3, upd_off q2, upd_off q1]
      refine ⟨⟨by rw [es', m3, upd_at], q1⟩, ⟨?_, ?_, ?_, ?_, ?_, ?_, ?_, ?_, ?_⟩, fun q hq => cF q (by omega)⟩
      · rw [es2 5 (by decide) (by decide) (by decide) (by decide)]; exact a1.fr (fun q h1 h2 => cF q (by omega))
      · rw [eg']; rw [m1] at cA; exact ⟨v, cA, hte, hwf⟩
      · rw [es', m3, upd_off (by decide), upd_off (by decide), upd_off (by decide), upd_at, upd_off (by decide), upd_off (by decide), upd_at, upd_off (by decide), upd_at]; exact cK
      · rw [es2 3 (by decide) (by decide) (by decide) (by decide), eh']
        refine ⟨_, _, _, cH, hp, hc, h3, fun i hi => ?_⟩
        have hne : ¬ (p + 9 - ct + i) % 9 = p := by omega
        rw [show updR R p w9 ((p + 9 - ct + i) % 9) = R ((p + 9 - ct + i) % 9) from if_neg hne]
        exact hr i hi
      · rw [es2 5 (by decide) (by decide) (by decide) (by decide)]; exact a5.fr (fun q h1 h2 => cF q (by omega))
      · rw [es2 7 (by decide) (by decide) (by decide) (by decide), es2 8 (by decide) (by decide) (by decide) (by decide)]; exact a6.fr (fun q h1 h2 => cF q (by omega))
      · exact a7.fr (fun q h1 h2 => cF q (by omega))
      · rw [es2 13 (by decide) (by decide) (by decide) (by decide)]; exact a8.fr (fun q h1 h2 => cF q (by omega))
      · exact a9.fr (fun q h1 h2 => cF q (by omega))
    · exact absurd q2 z
end RDS
