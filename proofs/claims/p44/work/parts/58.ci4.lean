/-! ===== commands against the reference's functions ===== -/
theorem td_of (Cs : Nat → CM) : ∃ td : Nat → Int32, ∀ i, TdC td (5 * i) (Cs i) := by
  refine ⟨fun q => if q % 5 = 0 then (Cs (q / 5)).1 else if q % 5 = 1 then (Cs (q / 5)).2.1 0 else if q % 5 = 2 then (if (Cs (q / 5)).1 = 99 then (Cs (q / 5)).2.2.2 else (Cs (q / 5)).2.1 1) else if q % 5 = 3 then (Cs (q / 5)).2.1 2 else (Cs (q / 5)).2.2.2, fun i => ⟨?_, ?_, fun z => ?_, fun z _ _ _ _ => ?_, fun _ => ⟨?_, ?_⟩⟩⟩
  · dsimp only
    rw [if_pos (by omega), show 5 * i / 5 = i by omega]
  · dsimp only
    rw [if_neg (by omega), if_pos (by omega), show (5 * i + 1) / 5 = i by omega]
  · dsimp only
    rw [if_neg (by omega), if_neg (by omega), if_pos (by omega), show (5 * i + 2) / 5 = i by omega, if_pos z]
  · dsimp only
    rw [if_neg (by omega), if_neg (by omega), if_pos (by omega), show (5 * i + 2) / 5 = i by omega, if_neg z]
  · dsimp only
    rw [if_neg (by omega), if_neg (by omega), if_neg (by omega), if_pos (by omega), show (5 * i + 3) / 5 = i by omega]
  · dsimp only
    rw [if_neg (by omega), if_neg (by omega), if_neg (by omega), if_neg (by omega), show (5 * i + 4) / 5 = i by omega]
theorem it_wfA {v : Nat → Nat → Int32} {g : Nat → Int32} {k1 k2 k3 : Int32} (Cs : Nat → CM) (ht : Tell v (gV g)) (hg : WFG g) (k : Nat) (hj : ∀ j, j < k → ¬ (atC Cs (v, k1, k2, k3) j).1 = -1) : WF (itC Cs (v, k1, k2, k3) k).1 := by
  obtain ⟨td, hT⟩ := td_of Cs
  obtain ⟨h, h1, h2⟩ := it_wf (S := (v, k1, k2, k3)) (n := k) (td := td) ht hg (fun i _ => hT i) k (Nat.le_refl _) hj
  exact h1.wf h2
theorem i_commands (G : FG) (hL : FL G) (l : Launch) (hX0 : FX0 G l) (adr : Nat → Nat) (hF : FTx G adr) (hJ : FJ G) (ω : FWd) (x : Nat) (s g hs sv ip lt nd bf td : Nat → Int32) (h : CInv G ω.2 x s g hs sv ip lt) : FMetX G l yX10_commands wsX10_commands ({ frames := 7, cells := 1, slots := 6, locals := 152 } : Room) [.ref x] ω (QI G x ω (.int (comM s g nd bf hs ip td).1) (comM s g nd bf hs ip td).2.1 (comM s g nd bf hs ip td).2.2.1 (comM s g nd bf hs ip td).2.2.2.2.2.1 sv ip lt) (XI G x ω (XC2 "java/lang/IllegalArgumentException" "java/lang/UnsupportedOperationException") (comM s g nd bf hs ip td).2.1 (comM s g nd bf hs ip td).2.2.1 (comM s g nd bf hs ip td).2.2.2.2.2.1 sv ip lt) 1 6 := by
  obtain ⟨a1, ⟨v, hA, hte, hwf⟩, a3, ⟨R, p, ct, hH, hp, hc, h3, hr⟩, ⟨w, hB, hst⟩, ⟨f, tl, tp, cn, hT, h7, hE⟩, ⟨hro, Cs, hCs⟩, ⟨⟨L, hLn, h13, hle⟩, hln⟩, ⟨ti, tj, hTt⟩⟩ := id h
  obtain ⟨b1, b2, b3, b4, b5, b6, b7, b8, b9⟩ := id h
  have hm := c_X10_commands G hL l hX0 ω adr hF hJ x (x + 1) (x + 2) (x + 54) (x + 515) (x + 566) (x + 609) (x + 611) v (s 5) (s 9) (s 10) (s 11) R p ct (xa_ok x) a1.1 a1.2 hA a3 hH hp hc (hte.wf hwf) f tl tp cn (s 8) hT hE.2.2 hro Cs hCs hE.2.1 (fun k _ hj => it_wfA _ hte hwf k hj)
  have hE0 : RdE ip f 0 := ⟨fun i hi => absurd hi (Nat.not_lt_zero _), fun i hi => absurd hi (Nat.not_lt_zero _), Nat.zero_le _⟩
  have hn20 := csR_le (f := f) (len := tl) 20 0 0 (Cs := Cs) (by decide)
  by_cases hR : (csR f tl 20 0 0 Cs).1 = 0
  · obtain ⟨c1, c2, c3, c4, c5, c6, c7⟩ := com_no (s := s) (g := g) (nd := nd) (bf := bf) (hs := hs) (td := td) (Cs := Cs) hE h7 hR
    generalize comM s g nd bf hs ip td = M at *
    refine fx_mono hm (fun vv τ hq => absurd hR hq.2.1) (fun E τ hx => ?_)
    rcases hx with ⟨x1, -, ⟨qT, qC⟩, qF⟩ | ⟨-, x1, -⟩
    · rw [if_pos hR] at qT
      rw [c6, c7]
      have hi : CInv G τ.2 x (upd (upd s 7 0) 8 (nI (csR f tl 20 0 0 Cs).2.1)) g hs sv ip lt := ⟨b1.fr (fun q h1 h2 => qF q (by omega)), b2.fr (fun q h1 h2 => qF q (by omega)), b3.fr (qF _ (by omega)), b4.fr (fun q h1 h2 => qF q (by omega)), b5.fr (fun q h1 h2 => qF q (by omega)), ⟨f, 0, _, _, ⟨qT, (qF _ (by omega)).trans hT.2⟩, rfl, hE0⟩, ⟨(qF _ (by omega)).trans hro, _, qC⟩, b8.fr (fun q h1 h2 => qF q (by omega)), b9.fr (fun q h1 h2 => qF q (by omega))⟩
      refine ⟨Or.inl ⟨c4, x1⟩, hi.st2 (fun q hq => ?_), fun q hq => qF q (by omega)⟩
      by_cases q8 : q = 8
      · rw [q8, upd_at]; exact c3
      · rw [upd_off q8]
        by_cases q7 : q = 7
        · rw [q7, upd_at]; exact c2
        · rw [upd_off q7]; exact c5 q q7 q8 (by omega) (by omega) (by omega)
    · exact absurd hR x1
  · have hc9 := com_yes (s := s) (g := g) (nd := nd) (bf := bf) (hs := hs) (td := td) (Cs := Cs) (k1 := s 9) (k2 := s 10) (k3 := s 11) hE h7 hR hte hwf h3 hc
    generalize comM s g nd bf hs ip td = M at *
    refine fx_mono hm (fun vv τ hq => ?_) (fun E τ hx => ?_)
    · obtain ⟨q1, -, ⟨Z9, ⟨m, hmn, hmj, hZ⟩, qA, qK⟩, ⟨w9, qH, qL⟩, ⟨qT, qC⟩, qF⟩ := hq
      rw [if_neg hR] at qT
      rcases hZ with ⟨z1, -, z2⟩ | ⟨z1, -, z2, -⟩
      · subst z1
        subst z2
        rcases hc9 with ⟨d1, d2, d3, d4, d5, d6, d7, d8, d9, d10, d11⟩ | ⟨m2, d1, d2, d3, -⟩
        · have e1 := congrArg (fun r => r.1) d4
          have e2 := congrArg (fun r => r.2.1) d4
          have e3 := congrArg (fun r => r.2.2) d4
          simp only at e1 e2 e3
          rw [e1, e2, e3] at qK
          rw [d11]
          have hi : CInv G τ.2 x (upd (upd (upd s 3 (nI (min (ct + 1) 8))) 7 0) 8 (-1)) M.2.2.1 (hisM hs g ct) sv ip lt := ⟨b1.fr (fun q h1 h2 => qF q (by omega)), ⟨_, qA, d2, d3⟩, qK, ⟨_, _, _, qH, Nat.mod_lt _ (by decide), Nat.min_le_right _ _, rfl, hr.note hp hc ((Tell.of_live qL).tr hte) hwf⟩, b5.fr (fun q h1 h2 => qF q (by omega)), ⟨f, 0, _, _, ⟨qT, (qF _ (by omega)).trans hT.2⟩, rfl, hE0⟩, ⟨(qF _ (by omega)).trans hro, _, qC⟩, b8.fr (fun q h1 h2 => qF q (by omega)), b9.fr (fun q h1 h2 => qF q (by omega))⟩
          refine ⟨by rw [q1, d5], d9, hi.st2 (fun q hq => ?_), fun q hq => qF q (by omega)⟩
          by_cases q8 : q = 8
          · rw [q8, upd_at]; exact d8
          · rw [upd_off q8]
            by_cases q7 : q = 7
            · rw [q7, upd_at]; exact d7
            · rw [upd_off q7]
              by_cases q3 : q = 3
              · rw [q3, upd_at]; exact d6
              · rw [upd_off q3]; exact d10 q q3 q7 q8 (by omega) (by omega) (by omega)
        · exact absurd d3 (hmj m2 d1)
      · exact absurd z2.symm (nI_mm1 (by omega))
    · rcases hx with ⟨-, x1, -⟩ | ⟨x1, -, ⟨m9, Z9, hm9, ⟨m, hmn, hmj, hZ⟩, qK⟩, ⟨w9, qH, qL⟩, ⟨w8, qA, qL8⟩, ⟨qT, qC⟩, qF⟩
      · exact absurd x1 hR
      rw [if_neg hR] at qT
      rcases hZ with ⟨-, z1, -⟩ | ⟨z1, z2, z3, z4⟩
      · exact absurd z1 (nI_mm1 (by omega))
      have hmm : m9 = m := (nI_eq (by omega) (by omega)).mp z3
      subst hmm
      subst z4
      rcases hc9 with ⟨d1, -⟩ | ⟨m2, d1, d2, d3, d4, d5, d6, d7, d8, d9, d10, d11, d12, d13⟩
      · exact absurd z2 (d1 m9 z1)
      have hm2 : m2 = m9 := by
        rcases Nat.lt_trichotomy m2 m9 with z | z | z
        · exact absurd d3 (hmj m2 z)
        · exact z
        · exact absurd z2 (d2 m9 z)
      subst hm2
      rw [d12, d13]
      rw [← d5, ← d6] at qK
      have hUp : HRel (updR R p w9) p ct hs := fun i hi => by
        have hne : ¬ (p + 9 - ct + i) % 9 = p := by omega
        rw [show updR R p w9 ((p + 9 - ct + i) % 9) = R ((p + 9 - ct + i) % 9) from if_neg hne]
        exact hr i hi
      have hi : CInv G τ.2 x (upd (upd (upd (upd (upd s 7 0) 8 (-1)) 9 (M.2.1 9)) 10 (M.2.1 10)) 11 (nI m2)) g hs sv ip lt := ⟨b1.fr (fun q h1 h2 => qF q (by omega)), ⟨_, qA, (Tell.of_live qL8).tr hte, hwf⟩, qK, ⟨_, _, _, qH, hp, hc, h3, hUp⟩, b5.fr (fun q h1 h2 => qF q (by omega)), ⟨f, 0, _, _, ⟨qT, (qF _ (by omega)).trans hT.2⟩, rfl, hE0⟩, ⟨(qF _ (by omega)).trans hro, _, qC⟩, b8.fr (fun q h1 h2 => qF q (by omega)), b9.fr (fun q h1 h2 => qF q (by omega))⟩
      refine ⟨Or.inr ⟨d10, x1⟩, hi.st2 (fun q hq => ?_), fun q hq => qF q (by omega)⟩
      by_cases q11 : q = 11
      · rw [q11, upd_at]; exact d7
      rw [upd_off q11]
      by_cases q10 : q = 10
      · rw [q10, upd_at]
      rw [upd_off q10]
      by_cases q9 : q = 9
      · rw [q9, upd_at]
      rw [upd_off q9]
      by_cases q8 : q = 8
      · rw [q8, upd_at]; exact d9
      rw [upd_off q8]
      by_cases q7 : q = 7
      · rw [q7, upd_at]; exact d8
      rw [upd_off q7]
      exact d11 q q7 q8 q9 q10 q11 (by omega) (by omega) (by omega)
