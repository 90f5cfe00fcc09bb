/-! ===== undo, the snapshot, the text buffer, lines, what could be finished, the share: against the reference's functions ===== -/
theorem i_skippedShare (G : FG) (hL : FL G) (l : Launch) (hX0 : FX0 G l) (ω : FWd) (x : Nat) (s g hs sv ip lt : Nat → Int32) (h : CInv G ω.2 x s g hs sv ip lt) : FMetX G l yX10_skippedShare wsX10_skippedShare ({ frames := 6, cells := 1, slots := 6, locals := 100 } : Room) [.ref x] ω (QI G x ω (.float (shareM s g).1) (shareM s g).2 g hs sv ip lt) (XI G x ω (XC1 "java/lang/ArithmeticException") (shareM s g).2 g hs sv ip lt) 1 6 := by
  obtain ⟨a1, ⟨v, hA, hte, hwf⟩, a3, ⟨R, p, ct, hH, hp, hc, h3, hr⟩, ⟨w, hB, hst⟩, ⟨f, tl, tp, cn, hT, h7, hE⟩, ⟨hro, Cs, hCs⟩, ⟨⟨L, hLn, h13, hle⟩, hln⟩, ⟨ti, tj, hTt⟩⟩ := id h
  obtain ⟨b1, b2, b3, b4, b5, b6, b7, b8, b9⟩ := id h
  have e := share_ok (s := s) hte hwf
  rw [e.1]
  refine ci_rv h e.2 (c_X10_skippedShare G hL l hX0 ω x (x + 1) (x + 2) (x + 54) (x + 515) (x + 566) (x + 609) (x + 611) v (s 5) (xa_ok x) a1.1 hA (hte.wf hwf) (fun z => ?_))
  obtain ⟨⟨a, ha, e1⟩, b, hb, e2⟩ := share_nn hte hwf
  rw [hte.n0] at z ⊢
  rw [e1] at z ⊢
  rw [e2]
  exact ff_ok b hb a ha (fun y => z (by rw [y]; rfl))
theorem i_undo (G : FG) (hL : FL G) (l : Launch) (hX0 : FX0 G l) (ω : FWd) (x : Nat) (s g hs sv ip lt : Nat → Int32) (h : CInv G ω.2 x s g hs sv ip lt) : FMetX G l yX10_undo wsX10_undo ({ frames := 6, cells := 1, slots := 6, locals := 124 } : Room) [.ref x] ω (QI G x ω (.int (undoM s g hs).1) (undoM s g hs).2.1 (undoM s g hs).2.2 hs sv ip lt) (XI G x ω (XC1 "java/lang/IllegalStateException") (undoM s g hs).2.1 (undoM s g hs).2.2 hs sv ip lt) 1 6 := by
  obtain ⟨a1, ⟨v, hA, hte, hwf⟩, a3, ⟨R, p, ct, hH, hp, hc, h3, hr⟩, ⟨w, hB, hst⟩, ⟨f, tl, tp, cn, hT, h7, hE⟩, ⟨hro, Cs, hCs⟩, ⟨⟨L, hLn, h13, hle⟩, hln⟩, ⟨ti, tj, hTt⟩⟩ := id h
  obtain ⟨b1, b2, b3, b4, b5, b6, b7, b8, b9⟩ := id h
  have hm := c_X10_undo G hL l hX0 ω x (x + 1) (x + 2) (x + 54) (x + 515) (x + 566) (x + 609) (x + 611) v (s 5) R p ct (xa_ok x) a1.1 hA hH hp hc (fun z => (hr.top hp hc z).1.wf (hr.top hp hc z).2)
  by_cases h0 : s 3 = 0
  · have hc0 : ct = 0 := (nI_eq (a := ct) (b := 0) (by omega) (by decide)).mp (h3.symm.trans h0)
    have e : undoM s g hs = (0, upd s 14 1, g) := if_pos h0
    rw [e]
    refine fx_mono hm (fun vv τ hq => ?_) (fun E τ hx => ?_)
    · exact absurd hq.2.1 (by omega)
    · obtain ⟨x1, -, x2⟩ := hx
      exact ⟨⟨rfl, x1⟩, (h.n14.fr (fun q _ _ => by rw [x2])), fun q _ => by rw [x2]⟩
  · have hc0 : 0 < ct := by rcases Nat.eq_zero_or_pos ct with z | z; exact absurd (by rw [h3, z]; rfl) h0; exact z
    have e : undoM s g hs = (s 3 - 1, upd (upd s 3 (s 3 - 1)) 14 0, fun j9 => hs ((cN (s 3) - 1) * 324 + j9)) := if_neg h0
    rw [e, h3, nI_m1 hc0, cN_nI (by omega)]
    obtain ⟨t1, t2⟩ := hr.top hp hc hc0
    refine fx_mono hm (fun vv τ hq => ?_) (fun E τ hx => ?_)
    · obtain ⟨q1, -, ⟨w9, qA, qL⟩, qH, qF⟩ := hq
      exact ⟨q1, rfl, ⟨b1.fr (fun q h1 h2 => qF q (by omega)), ⟨w9, qA, (Tell.of_live qL).tr t1, t2⟩, b3.fr (qF _ (by omega)), ⟨R, _, _, qH, Nat.mod_lt _ (by decide), by omega, rfl, hr.back hp hc⟩, b5.fr (fun q h1 h2 => qF q (by omega)), b6.fr (fun q h1 h2 => qF q (by omega)), b7.fr (fun q h1 h2 => qF q (by omega)), b8.fr (fun q h1 h2 => qF q (by omega)), b9.fr (fun q h1 h2 => qF q (by omega))⟩, fun q hq => qF q (by omega)⟩
    · exact absurd hx.2.1 (by omega)
theorem i_save (G : FG) (hL : FL G) (l : Launch) (ω : FWd) (x : Nat) (s g hs sv ip lt : Nat → Int32) (h : CInv G ω.2 x s g hs sv ip lt) : FMet G l yX10_save wsX10_save ({ frames := 3, cells := 0, slots := 0, locals := 103 } : Room) [.ref x] ω (QI G x ω (.int (saveM s g sv).1) (saveM s g sv).2.1 g hs (saveM s g sv).2.2 ip lt) 0 0 := by
  obtain ⟨a1, ⟨v, hA, hte, hwf⟩, a3, ⟨R, p, ct, hH, hp, hc, h3, hr⟩, ⟨w, hB, hst⟩, ⟨f, tl, tp, cn, hT, h7, hE⟩, ⟨hro, Cs, hCs⟩, ⟨⟨L, hLn, h13, hle⟩, hln⟩, ⟨ti, tj, hTt⟩⟩ := id h
  obtain ⟨b1, b2, b3, b4, b5, b6, b7, b8, b9⟩ := id h
  refine fx_met (c_X10_save G hL l ω x (x + 1) (x + 2) (x + 54) (x + 515) (x + 566) (x + 609) (x + 611) v w (s 5) (xa_ok x) a1.1 hA hB (hte.wf hwf)) (fun vv τ hq => ?_)
  obtain ⟨q1, -, ⟨w9, qA, qL⟩, qx, qF⟩ := hq
  exact ⟨by rw [q1, hte.n0]; rfl, rfl, ⟨⟨qx, (qF _ (by omega)).trans a1.2⟩, b2.fr (fun q h1 h2 => qF q (by omega)), b3.fr (qF _ (by omega)), b4.fr (fun q h1 h2 => qF q (by omega)), ⟨w9, qA, fun _ => ⟨(Tell.of_live qL).tr hte, hwf⟩⟩, b6.fr (fun q h1 h2 => qF q (by omega)), b7.fr (fun q h1 h2 => qF q (by omega)), b8.fr (fun q h1 h2 => qF q (by omega)), b9.fr (fun q h1 h2 => qF q (by omega))⟩, fun q hq => qF q (by omega)⟩
theorem i_restore (G : FG) (hL : FL G) (l : Launch) (hX0 : FX0 G l) (ω : FWd) (x : Nat) (s g hs sv ip lt : Nat → Int32) (h : CInv G ω.2 x s g hs sv ip lt) : FMetX G l yX10_restore wsX10_restore ({ frames := 6, cells := 1, slots := 6, locals := 103 } : Room) [.ref x] ω (QI G x ω (.int (restM s g sv).1) (restM s g sv).2.1 (restM s g sv).2.2 hs sv ip lt) (XI G x ω (XC1 "java/lang/IllegalStateException") (restM s g sv).2.1 (restM s g sv).2.2 hs sv ip lt) 1 6 := by
  obtain ⟨a1, ⟨v, hA, hte, hwf⟩, a3, ⟨R, p, ct, hH, hp, hc, h3, hr⟩, ⟨w, hB, hst⟩, ⟨f, tl, tp, cn, hT, h7, hE⟩, ⟨hro, Cs, hCs⟩, ⟨⟨L, hLn, h13, hle⟩, hln⟩, ⟨ti, tj, hTt⟩⟩ := id h
  obtain ⟨b1, b2, b3, b4, b5, b6, b7, b8, b9⟩ := id h
  have hm := c_X10_restore G hL l hX0 ω x (x + 1) (x + 2) (x + 54) (x + 515) (x + 566) (x + 609) (x + 611) v w (s 5) (xa_ok x) a1.1 hA hB R p ct hH hp hc (fun z => (hst z).1.wf (hst z).2)
  by_cases h0 : s 5 = 0
  · have e : restM s g sv = (0, upd s 14 1, g) := if_pos h0
    rw [e]
    refine fx_mono hm (fun vv τ hq => ?_) (fun E τ hx => ?_)
    · exact absurd h0 hq.2.1
    · obtain ⟨x1, -, x2⟩ := hx
      exact ⟨⟨rfl, x1⟩, (h.n14.fr (fun q _ _ => by rw [x2])), fun q _ => by rw [x2]⟩
  · have e : restM s g sv = (sv 0, upd (upd s 3 0) 14 0, sv) := if_neg h0
    rw [e]
    obtain ⟨t1, t2⟩ := hst h0
    refine fx_mono hm (fun vv τ hq => ?_) (fun E τ hx => ?_)
    · obtain ⟨q1, -, ⟨w9, qA, qL⟩, qH, qF⟩ := hq
      exact ⟨by rw [q1, t1.n0], rfl, ⟨b1.fr (fun q h1 h2 => qF q (by omega)), ⟨w9, qA, (Tell.of_live qL).tr t1, t2⟩, b3.fr (qF _ (by omega)), ⟨R, _, _, qH, hp, Nat.zero_le _, rfl, fun i hi => absurd hi (Nat.not_lt_zero _)⟩, b5.fr (fun q h1 h2 => qF q (by omega)), b6.fr (fun q h1 h2 => qF q (by omega)), b7.fr (fun q h1 h2 => qF q (by omega)), b8.fr (fun q h1 h2 => qF q (by omega)), b9.fr (fun q h1 h2 => qF q (by omega))⟩, fun q hq => qF q (by omega)⟩
    · exact absurd hx.2.1 h0
theorem i_append (G : FG) (hL : FL G) (l : Launch) (hX0 : FX0 G l) (ω : FWd) (x : Nat) (s g hs sv ip lt : Nat → Int32) (h : CInv G ω.2 x s g hs sv ip lt) (ch : Int32) (hch : vp_nar .char ch = ch) : FMetX G l yX10_append wsX10_append ({ frames := 6, cells := 1, slots := 6, locals := 100 } : Room) [.ref x, .int ch] ω (QI G x ω (.int (appM s g ip ch).1) (appM s g ip ch).2.1 g hs sv (appM s g ip ch).2.2 lt) (XI G x ω (XC1 "java/lang/IllegalStateException") (appM s g ip ch).2.1 g hs sv (appM s g ip ch).2.2 lt) 1 6 := by
  obtain ⟨a1, ⟨v, hA, hte, hwf⟩, a3, ⟨R, p, ct, hH, hp, hc, h3, hr⟩, ⟨w, hB, hst⟩, ⟨f, tl, tp, cn, hT, h7, hE⟩, ⟨hro, Cs, hCs⟩, ⟨⟨L, hLn, h13, hle⟩, hln⟩, ⟨ti, tj, hTt⟩⟩ := id h
  obtain ⟨b1, b2, b3, b4, b5, b6, b7, b8, b9⟩ := id h
  have h60 := hE.2.2
  have hm := c_X10_append G hL l hX0 ω x (x + 1) (x + 2) (x + 54) (x + 515) (x + 566) (x + 609) (x + 611) (s 5) a1.1 f tl tp cn (s 8) hT h60 ch hch
  by_cases h0 : s 7 = 60
  · have e : appM s g ip ch = (0, upd s 14 1, ip) := if_pos h0
    have ht : tl = 60 := (nI_eq (a := tl) (b := 60) (by omega) (by decide)).mp (h7.symm.trans h0)
    have hn : ¬ nI tl < 60 := by rw [ht]; decide
    rw [e]
    refine fx_mono hm (fun vv τ hq => ?_) (fun E τ hx => ?_)
    · exact absurd hq.2.1 hn
    · obtain ⟨x1, -, x2⟩ := hx
      exact ⟨⟨rfl, x1⟩, (h.n14.fr (fun q _ _ => by rw [x2])), fun q _ => by rw [x2]⟩
  · have ht : ¬ tl = 60 := fun z => h0 (by rw [h7, z]; rfl)
    have hn : nI tl < 60 := (nI_ltI (a := tl) (b := 60) (by omega) (by decide)).mpr (by omega)
    have e : appM s g ip ch = (s 7 + 1, upd (upd s 7 (s 7 + 1)) 14 0, upd ip (cN (s 7)) ch) := if_neg h0
    have ea : adP (f, tl) ch = (upd f tl ch, tl + 1) := if_pos (show tl < 60 by omega)
    rw [ea] at hm
    rw [e, h7, cN_nI (by omega), nI_1]
    refine fx_mono hm (fun vv τ hq => ?_) (fun E τ hx => ?_)
    · obtain ⟨q1, -, qT, qF⟩ := hq
      have hE2 : RdE (upd ip tl ch) (upd f tl ch) (tl + 1) := by
        refine ⟨fun i hi => ?_, fun i hi => ?_, by omega⟩
        · by_cases hi2 : i = tl
          · rw [hi2, upd_at, upd_at]
          · rw [upd_off hi2, upd_off hi2]; exact hE.1 i (by omega)
        · by_cases hi2 : i = tl
          · rw [hi2, upd_at]; exact ⟨ch, hch.symm⟩
          · rw [upd_off hi2]; exact hE.2.1 i (by omega)
      exact ⟨q1, rfl, ⟨b1.fr (fun q h1 h2 => qF q (by omega)), b2.fr (fun q h1 h2 => qF q (by omega)), b3.fr (qF _ (by omega)), b4.fr (fun q h1 h2 => qF q (by omega)), b5.fr (fun q h1 h2 => qF q (by omega)), ⟨_, _, _, _, qT, rfl, hE2⟩, b7.fr (fun q h1 h2 => qF q (by omega)), b8.fr (fun q h1 h2 => qF q (by omega)), b9.fr (fun q h1 h2 => qF q (by omega))⟩, fun q hq => qF q (by omega)⟩
    · exact absurd hn hx.2.1
def NarA (P : (Nat → Int32) × (Nat → Int32)) : Prop := ∀ i, i < 60 → narrow .char (.int (P.2 i)) = .int (P.2 i)
theorem NarA.wr {P : (Nat → Int32) × (Nat → Int32)} {c : Int32} (h : NarA P) : NarA (wrM P c) := fun i hi => by
  show narrow .char (.int (upd P.2 (cN (P.1 13)) (chC c) i)) = .int (upd P.2 (cN (P.1 13)) (chC c) i)
  by_cases e : i = cN (P.1 13)
  · rw [e, upd_at]; exact congrArg Value.int (nar_chC (x := c))
  · rw [upd_off e]; exact h i hi
theorem NarA.lin {s g lt : Nat → Int32} {lf : Int32} (h : ∀ i, i < 60 → narrow .char (.int (lt i)) = .int (lt i)) : ∀ k, NarA (linL s g lt lf k)
  | 0 => h
  | k + 1 => by
    have ih := NarA.lin (s := s) (g := g) (lf := lf) h k
    rw [linL_up]
    have h1 : NarA (if nI k ≤ 0 then linL s g lt lf k else wrM (linL s g lt lf k) 32) := by
      split
      · exact ih
      · exact ih.wr
    generalize (if nI k ≤ 0 then linL s g lt lf k else wrM (linL s g lt lf k) 32) = P at h1
    have h2 : NarA (stpM g (cN lf) k P) := by
      unfold stpM
      have h5 : NarA (if g (260 + 8 * cN lf + k) = 1 then wrM (wrM (wrM (wrM P (48 + g (68 + 8 * cN lf + k))) 42) (48 + g (132 + 8 * cN lf + k))) 43 else wrM (wrM (wrM P (48 + g (68 + 8 * cN lf + k))) 42) (48 + g (132 + 8 * cN lf + k))) := by
        by_cases e2 : g (260 + 8 * cN lf + k) = 1
        · rw [if_pos e2]; exact NarA.wr (NarA.wr (NarA.wr (NarA.wr h1)))
        · rw [if_neg e2]; exact NarA.wr (NarA.wr (NarA.wr h1))
      by_cases e3 : g (50 + cN lf) >>> (nI k &&& 31) &&& 1 = 1
      · rw [if_pos e3]; exact NarA.wr h5
      · rw [if_neg e3]; exact h5
    unfold slaM
    split
    · split
      · exact h2
      · exact h2.wr
    · exact h2
theorem i_line (G : FG) (hL : FL G) (l : Launch) (hX0 : FX0 G l) (ω : FWd) (x : Nat) (s g hs sv ip lt : Nat → Int32) (h : CInv G ω.2 x s g hs sv ip lt) (lf : Int32) : FMetX G l yX10_line wsX10_line ({ frames := 7, cells := 1, slots := 6, locals := 121 } : Room) [.ref x, .int lf] ω (QI G x ω (.int (lineM s g lt lf).1) (lineM s g lt lf).2.1 g hs sv ip (lineM s g lt lf).2.2) (XI G x ω (XC1 "java/lang/IndexOutOfBoundsException") (lineM s g lt lf).2.1 g hs sv ip (lineM s g lt lf).2.2) 1 6 := by
  obtain ⟨a1, ⟨v, hA, hte, hwf⟩, a3, ⟨R, p, ct, hH, hp, hc, h3, hr⟩, ⟨w, hB, hst⟩, ⟨f, tl, tp, cn, hT, h7, hE⟩, ⟨hro, Cs, hCs⟩, ⟨⟨L, hLn, h13, hle⟩, hln⟩, ⟨ti, tj, hTt⟩⟩ := id h
  obtain ⟨b1, b2, b3, b4, b5, b6, b7, b8, b9⟩ := id h
  have hm := c_X10_line G hL l hX0 ω x (x + 1) (x + 2) (x + 54) (x + 515) (x + 566) (x + 609) (x + 611) v (s 5) (xa_ok x) a1.1 hA (hte.wf hwf) L hLn lf
  by_cases h0 : inB lf 0 (v 0 0 - 1)
  · obtain ⟨e1, ⟨e2, e3, e4⟩, e5⟩ := line_ok (s := s) (lt := lt) (f0 := L.1) hte hwf h0
    have hn : ∀ i, i < 60 → narrow .char (.int ((lineM s g lt lf).2.2 i)) = .int ((lineM s g lt lf).2.2 i) := by
      have h9 : inB lf 0 (g 0 - 1) := by rw [← hte.n0]; exact h0
      unfold lineM
      rw [if_pos h9]
      exact NarA.lin hln _
    generalize lineM s g lt lf = M at *
    have f14 : M.2.1 14 = 0 := (e4 14 (by decide)).trans upd_at
    have fq : ∀ q, ¬ q = 13 → ¬ q = 14 → M.2.1 q = s q := fun q q1 q2 => (e4 q q1).trans (upd_off q2)
    refine fx_mono hm (fun vv τ hq => ?_) (fun E τ hx => ?_)
    · obtain ⟨-, q1, qL, qF⟩ := hq
      have hi : CInv G τ.2 x (upd s 13 (M.2.1 13)) g hs sv ip M.2.2 := ⟨b1.fr (fun q h1 h2 => qF q (by omega)), b2.fr (fun q h1 h2 => qF q (by omega)), b3.fr (qF _ (by omega)), b4.fr (fun q h1 h2 => qF q (by omega)), b5.fr (fun q h1 h2 => qF q (by omega)), b6.fr (fun q h1 h2 => qF q (by omega)), b7.fr (fun q h1 h2 => qF q (by omega)), ⟨⟨_, qL, e2, e3⟩, hn⟩, b9.fr (fun q h1 h2 => qF q (by omega))⟩
      refine ⟨by rw [q1, e1], f14, hi.st2 (fun q hq => ?_), fun q hq => qF q (by omega)⟩
      by_cases q13 : q = 13
      · rw [q13, upd_at]
      · rw [upd_off q13]; exact fq q q13 (by omega)
    · exact absurd h0 hx.2.1
  · rw [line_no hte h0]
    refine fx_mono hm (fun vv τ hq => ?_) (fun E τ hx => ?_)
    · exact absurd hq.1 h0
    · obtain ⟨x1, -, x2⟩ := hx
      exact ⟨⟨rfl, x1⟩, (h.n14.fr (fun q _ _ => by rw [x2])), fun q _ => by rw [x2]⟩
theorem i_character (G : FG) (hL : FL G) (l : Launch) (hX0 : FX0 G l) (ω : FWd) (x : Nat) (s g hs sv ip lt : Nat → Int32) (h : CInv G ω.2 x s g hs sv ip lt) (ix : Int32) : FMetX G l yX10_character wsX10_character ({ frames := 6, cells := 1, slots := 6, locals := 100 } : Room) [.ref x, .int ix] ω (QI G x ω (.int (charM s g lt ix).1) (charM s g lt ix).2 g hs sv ip lt) (XI G x ω (XC1 "java/lang/IndexOutOfBoundsException") (charM s g lt ix).2 g hs sv ip lt) 1 6 := by
  obtain ⟨a1, ⟨v, hA, hte, hwf⟩, a3, ⟨R, p, ct, hH, hp, hc, h3, hr⟩, ⟨w, hB, hst⟩, ⟨f, tl, tp, cn, hT, h7, hE⟩, ⟨hro, Cs, hCs⟩, ⟨⟨L, hLn, h13, hle⟩, hln⟩, ⟨ti, tj, hTt⟩⟩ := id h
  obtain ⟨b1, b2, b3, b4, b5, b6, b7, b8, b9⟩ := id h
  have hL8 := hLn.2.2
  have hm := c_X10_character G hL l hX0 ω x (x + 1) (x + 2) (x + 54) (x + 515) (x + 566) (x + 609) (x + 611) (s 5) a1.1 L hLn (fun i hi => by rw [← hle i hi]; exact hln i (by omega)) ix
  by_cases h0 : inB ix 0 (s 13 - 1)
  · have e : charM s g lt ix = (lt (cN ix), upd s 14 0) := if_pos h0
    rw [e]
    rw [h13] at h0
    obtain ⟨q9, hq9, rfl⟩ := in_cL (c := L.2) rfl (by omega) h0
    refine fx_mono hm (fun vv τ hq => ?_) (fun E τ hx => ?_)
    · obtain ⟨-, q1, rfl⟩ := hq
      exact ⟨by rw [q1, cN_nI (by omega), hle q9 hq9], rfl, h.n14, fun q _ => rfl⟩
    · exact absurd h0 hx.2.1
  · have e : charM s g lt ix = (0, upd s 14 1) := if_neg h0
    rw [e]
    rw [h13] at h0
    refine fx_mono hm (fun vv τ hq => ?_) (fun E τ hx => ?_)
    · exact absurd hq.1 h0
    · obtain ⟨x1, -, x2⟩ := hx
      exact ⟨⟨rfl, x1⟩, (h.n14.fr (fun q _ _ => by rw [x2])), fun q _ => by rw [x2]⟩
theorem i_couldFinish (G : FG) (hL : FL G) (l : Launch) (hX0 : FX0 G l) (ω : FWd) (x : Nat) (s g hs sv ip lt nd bf : Nat → Int32) (h : CInv G ω.2 x s g hs sv ip lt) (lf : Int32) : FMetX G l yX10_couldFinish wsX10_couldFinish ({ frames := 7, cells := 1, slots := 6, locals := 121 } : Room) [.ref x, .int lf] ω (QI G x ω (.int (couldM s g nd bf lf).1) (couldM s g nd bf lf).2.1 (couldM s g nd bf lf).2.2.1 hs sv ip lt) (XI G x ω (XC1 "java/lang/IndexOutOfBoundsException") (couldM s g nd bf lf).2.1 (couldM s g nd bf lf).2.2.1 hs sv ip lt) 1 6 := by
  obtain ⟨a1, ⟨v, hA, hte, hwf⟩, a3, ⟨R, p, ct, hH, hp, hc, h3, hr⟩, ⟨w, hB, hst⟩, ⟨f, tl, tp, cn, hT, h7, hE⟩, ⟨hro, Cs, hCs⟩, ⟨⟨L, hLn, h13, hle⟩, hln⟩, ⟨ti, tj, hTt⟩⟩ := id h
  obtain ⟨b1, b2, b3, b4, b5, b6, b7, b8, b9⟩ := id h
  have hm := c_X10_couldFinish G hL l hX0 ω x (x + 1) (x + 2) (x + 54) (x + 515) (x + 566) (x + 609) (x + 611) v (s 5) (xa_ok x) a1.1 hA (hte.wf hwf) ti tj hTt lf
  obtain ⟨⟨e1, e2⟩, e3⟩ := could_ok (s := s) (nd := nd) (bf := bf) (lf := lf) hte hwf
  have e1 : (couldM s g nd bf lf).1 = (cfC v lf).1 := e1
  have e2 : (couldM s g nd bf lf).2.1 = upd s 14 (cfC v lf).2 := e2
  have e3 : (couldM s g nd bf lf).2.2.1 = g := e3
  rw [e1, e2, e3]
  by_cases h0 : inB lf 0 (v 0 0 - 1)
  · have e : cfC v lf = ((cfL v (cN lf) (stN v (cN lf))).1, 0) := if_pos h0
    rw [e]
    refine fx_mono hm (fun vv τ hq => ?_) (fun E τ hx => ?_)
    · obtain ⟨-, q1, ⟨f9, h9, qT⟩, qF⟩ := hq
      exact ⟨q1, rfl, ⟨b1.fr (fun q h1 h2 => qF q (by omega)), b2.fr (fun q h1 h2 => qF q (by omega)), b3.fr (qF _ (by omega)), b4.fr (fun q h1 h2 => qF q (by omega)), b5.fr (fun q h1 h2 => qF q (by omega)), b6.fr (fun q h1 h2 => qF q (by omega)), b7.fr (fun q h1 h2 => qF q (by omega)), b8.fr (fun q h1 h2 => qF q (by omega)), ⟨f9, h9, qT⟩⟩, fun q hq => qF q (by omega)⟩
    · exact absurd h0 hx.2.1
  · have e : cfC v lf = (0, 1) := if_neg h0
    rw [e]
    refine fx_mono hm (fun vv τ hq => ?_) (fun E τ hx => ?_)
    · exact absurd hq.1 h0
    · obtain ⟨x1, -, x2⟩ := hx
      exact ⟨⟨rfl, x1⟩, (h.n14.fr (fun q _ _ => by rw [x2])), fun q _ => by rw [x2]⟩
