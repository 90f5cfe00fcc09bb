/-! ===== the changes: the class and the reference hold together ===== -/
theorem set1_q {v : Nat → Nat → Int32} {r j r' j' : Nat} {x : Int32} : set1 v r j x r' j' = if r' = r ∧ j' = j then x else v r' j' := by
  by_cases h : r' = r
  · subst h
    by_cases h2 : j' = j
    · subst h2; rw [if_pos ⟨rfl, rfl⟩]; exact set1_at
    · rw [if_neg (fun z => h2 z.2)]; exact set1_off h2
  · rw [if_neg (fun z => h z.1), set1_row h]
section OK1
variable {v : Nat → Nat → Int32} {k1 k2 k3 : Int32} {s g : Nat → Int32}
/-- the sums and the tins of two rows -/
theorem Tell.r0 (ht : Tell v (gV g)) {i : Nat} (hi : i < 6) : v 0 i = g i := (ht.1 i hi).trans gV_0
theorem Tell.r1 (ht : Tell v (gV g)) {i : Nat} (hi : i < 6) : v 1 i = g (6 + i) := (ht.2.1 i hi).trans gV_1
theorem Tell.r2 (ht : Tell v (gV g)) {i : Nat} (hi : i < 6) : v 2 i = g (12 + i) := (ht.2.2.1 i hi).trans gV_2
theorem Tell.co (ht : Tell v (gV g)) {i : Nat} (hi : i < cN (g 1)) : v 8 i = g (58 + i) ∧ v 9 i = g (63 + i) := by
  have := ht.2.2.2.2 i (by rw [gV_0]; exact hi)
  exact ⟨this.1.trans gV_8, this.2.trans gV_9⟩
theorem Tell.mk' {w : Nat → Nat → Int32} {h : Nat → Int32} (a0 : ∀ i, i < 6 → w 0 i = h i) (a1 : ∀ i, i < 6 → w 1 i = h (6 + i)) (a2 : ∀ i, i < 6 → w 2 i = h (12 + i)) (a3 : ∀ j, j < cN (h 0) → TellL w (gV h) j) (a4 : ∀ i, i < cN (h 1) → w 8 i = h (58 + i) ∧ w 9 i = h (63 + i)) : Tell w (gV h) :=
  ⟨fun i hi => (a0 i hi).trans gV_0.symm, fun i hi => (a1 i hi).trans gV_1.symm, fun i hi => (a2 i hi).trans gV_2.symm, fun j hj => a3 j (by rw [gV_0] at hj; exact hj), fun i hi => by
    rw [gV_0] at hi
    exact ⟨(a4 i hi).1.trans gV_8.symm, (a4 i hi).2.trans gV_9.symm⟩⟩
theorem lay_ok {sh : Int32} (ht : Tell v (gV g)) (hg : WFG g) : ChOK v k1 k2 k3 s g (layC v k1 k2 k3 sh) (laysM s g sh) := by
  obtain ⟨c, hc8, hc, hcc⟩ := hg.1.row
  have e0 : v 0 0 = nI c := ht.n0.trans hc
  have ecc : cN (v 0 0) = c := by rw [e0]; exact cN_nI (by omega)
  have hwf := laysM_wf (s := s) (sh := sh) hg.1
  unfold layC
  unfold laysM at hwf ⊢
  by_cases h1 : inB sh 0 3
  · rw [if_pos h1] at hwf ⊢
    rw [if_pos h1]
    by_cases h2 : c = 8
    · rw [if_neg (show ¬ v 0 0 < 8 by rw [e0, h2]; decide), if_pos (show g 0 = 8 by rw [hc, h2]; rfl)]
      exact ChOK.no
    · have hc7 : c < 8 := by omega
      have hg8 : ¬ g 0 = 8 := by rw [hc]; exact fun z => h2 ((nI_eq (b := 8) (by omega) (by omega)).mp z)
      rw [if_neg hg8] at hwf ⊢
      rw [if_pos (show v 0 0 < 8 by rw [e0]; exact (nI_ltI (b := 8) (by omega) (by omega)).mpr hc7)]
      rw [hcc] at hwf ⊢
      rw [ecc, pop_onJ hc8 (fun j hj => ht.2.2.2.1 j (by rw [gV_0, hcc]; exact hj) |>.2.2.1), bits_onM c hc8] 
      rw [bits_onM c hc8] at hwf
      have hle := hg.2.2.2.1 sh
      rw [hcc] at hle
      by_cases h3 : cntM g sh c = 3
      · rw [if_neg (by rw [h3]; decide), if_pos (by rw [h3]; rfl)]
        exact ChOK.no
      · have h4 : ¬ nI (cntM g sh c) = 3 := fun z => h3 ((nI_eq (b := 3) (by omega) (by omega)).mp z)
        rw [if_neg h4] at hwf ⊢
        rw [if_pos (show nI (cntM g sh c) < 3 from (nI_ltI (a := cntM g sh c) (b := 3) (by omega) (by omega)).mpr (by omega))]
        obtain ⟨h, hh⟩ : ∃ h, h = upd (upd g (34 + c) sh) 0 (upd g (34 + c) sh 0 + 1) := ⟨_, rfl⟩
        rw [← hh] at hwf ⊢
        have hwf : WFZ h := hwf
        have ho : ∀ i : Nat, ¬ i = 0 → ¬ i = 34 + c → h i = g i := fun i h1 h2 => by rw [hh, upd_off h1, upd_off h2]
        have h0 : h 0 = nI (c + 1) := by rw [hh, upd_at, upd_off (by omega), hc, nI_1]
        have hcN : cN (h 0) = c + 1 := by rw [h0]; exact cN_nI (by omega)
        have h34 : h (34 + c) = sh := by rw [hh, upd_off (by omega), upd_at]
        have hz := hg.1.2 c (by omega) hc7
        rw [ht.n0]
        refine ChOK.yes (by rw [hc]; exact nI_m1' (by omega)) ?_ ⟨hwf, ?_, ?_, ?_, ?_⟩
        · refine Tell.mk' (fun i hi => ?_) (fun i hi => ?_) (fun i hi => ?_) (fun j hj => ?_) (fun i hi => ?_)
          · by_cases hi0 : i = 0
            · subst hi0; rw [h0]; simp [layV, set1_q, e0, nI_1]
            · rw [ho i hi0 (by omega)]; simp only [layV, set1_q]
              rw [if_neg (by omega), if_neg (by omega), if_neg (by omega), if_neg (by omega), if_neg (by omega), if_neg (by omega)]; exact ht.r0 hi
          · rw [ho _ (by omega) (by omega)]; simp only [layV, set1_q]
            rw [if_neg (by omega), if_neg (by omega), if_neg (by omega), if_neg (by omega), if_neg (by omega), if_neg (by omega)]; exact ht.r1 hi
          · rw [ho _ (by omega) (by omega)]; simp only [layV, set1_q]
            rw [if_neg (by omega), if_neg (by omega), if_neg (by omega), if_neg (by omega), if_neg (by omega), if_neg (by omega)]; exact ht.r2 hi
          · rw [hcN] at hj
            by_cases hjc : j = c
            · subst hjc
              obtain ⟨z1, z2, z3, z4⟩ := hz
              refine ⟨?_, ?_, ?_, ?_, ?_, fun q hq => ?_⟩
              · rw [gV_3, ho _ (by omega) (by omega), z1]; simp [layV, set1_q]
              · rw [gV_4, ho _ (by omega) (by omega), z2]; simp [layV, set1_q]
              · rw [gV_5, h34]; simp [layV, set1_q]
              · rw [gV_6, ho _ (by omega) (by omega), z3]; simp [layV, set1_q]
              · rw [gV_7, ho _ (by omega) (by omega), z4]; simp [layV, set1_q]
              · rw [gV_3, ho _ (by omega) (by omega), z1] at hq
                exact absurd hq (Nat.not_lt_zero _)
            · exact TellL.mv (by omega) (hg.n8 (by omega)) (ht.l (by omega)) (layV_le hjc) (fun i hi => ho i (by omega) (by omega))
          · rw [ho 1 (by omega) (by omega)] at hi
            have hi5 : i < 5 := Nat.lt_of_lt_of_le hi hg.1.1.2.1.2
            rw [ho _ (by omega) (by omega), ho _ (by omega) (by omega)]; simp only [layV, set1_q]
            refine ⟨?_, ?_⟩
            · rw [if_neg (by omega), if_neg (by omega), if_neg (by omega), if_neg (by omega), if_neg (by omega), if_neg (by omega)]; exact (ht.co hi).1
            · rw [if_neg (by omega), if_neg (by omega), if_neg (by omega), if_neg (by omega), if_neg (by omega), if_neg (by omega)]; exact (ht.co hi).2
        · intro j hj
          rw [hcN] at hj
          by_cases hjc : j = c
          · subst hjc
            obtain ⟨z1, z2, z3, z4⟩ := hz
            refine ⟨?_, ?_, ?_, fun q hq => ?_⟩
            · rw [h34]
              obtain ⟨m, hm, rfl⟩ := in_n (n := 3) (by decide) h1
              exact okN_mk rfl hm (by decide)
            · rw [ho _ (by omega) (by omega), z4]; exact okN_le okN_0 (by decide)
            · intro _; rw [ho _ (by omega) (by omega)]; exact z4
            · rw [ho _ (by omega) (by omega), z1] at hq
              exact absurd hq (Nat.not_lt_zero _)
          · exact GEq.wl (fun i hi => ho i (by omega) (by omega)) (hg.n8 (by omega)) (hg.2.1 j (by omega))
        · intro i hi
          rw [ho 1 (by omega) (by omega)] at hi
          have hi5 : i < 5 := Nat.lt_of_lt_of_le hi hg.1.1.2.1.2
          rw [ho _ (by omega) (by omega)]; exact hg.2.2.1 i hi
        · intro s9
          rw [hcN, cntM, h34, cntM_eq c (fun j hj => ho (34 + j) (by omega) (by omega))]
          have h9 := hg.2.2.2.1 s9
          rw [hcc] at h9
          by_cases hs : sh = s9
          · subst hs; rw [if_pos rfl]; omega
          · rw [if_neg hs]; exact h9
        · intro k hk
          rw [hcN, sumJ, ho _ (by omega) (by omega), ho _ (by omega) (by omega), hg.2.2.2.2 k hk, hcc]
          rw [sumJ_t c (fun j hj => GEq.nd (k := k) (fun i hi => ho i (by omega) (by omega)) (by omega) (hg.n8 (by omega)))]
          have : ndG h k c = 0 := by
            unfold ndG
            rw [ho (50 + c) (by omega) (by omega), ho (18 + c) (by omega) (by omega), hz.2.2.2, hz.1]
            rfl
          rw [this, Int32.add_zero]
  · rw [if_neg h1, if_neg h1]
    exact ChOK.no
/-- a row that differs nowhere but in one leaflet's folds -/
theorem fold_ok {lf by_ : Int32} (ht : Tell v (gV g)) (hg : WFG g) : ChOK v k1 k2 k3 s g (foldC v k1 k2 k3 lf by_) (foldsM s g lf by_) := by
  obtain ⟨c, hc8, hc, hcc⟩ := hg.1.row
  have hwf := foldsM_wf (s := s) (lf := lf) (b9 := by_) hg.1
  unfold foldC
  unfold foldsM at hwf ⊢
  rw [ht.n0]
  by_cases h1 : inB lf 0 (g 0 - 1)
  · rw [if_pos h1] at hwf ⊢
    rw [if_pos h1]
    obtain ⟨j, hj, rfl⟩ := in_c hc hc8 h1
    rw [cN_nI (show j < 2 ^ 31 by omega)] at hwf ⊢
    obtain ⟨e3, e4, e5, e6, e7⟩ := ht.lf (j := j) (by rw [hcc]; exact hj)
    simp only [builtB, e4, e6, e3]
    by_cases h2 : g (42 + j) = 0
    · rw [if_pos h2] at hwf ⊢
      rw [if_neg (show ¬ ¬ g (42 + j) - 1 = -1 by rw [h2]; decide)]
      by_cases h3 : inB (g (26 + j) + by_) 0 3
      · rw [if_pos h3] at hwf ⊢
        rw [if_pos h3]
        obtain ⟨f, hf, hfe⟩ := in_n (n := 3) (by decide) h3
        obtain ⟨h, hh⟩ : ∃ h, h = upd g (26 + j) (g (26 + j) + by_) := ⟨_, rfl⟩
        rw [← hh] at hwf ⊢
        have hwf : WFZ h := hwf
        have ho : ∀ i : Nat, ¬ i = 26 + j → h i = g i := fun i h1 => by rw [hh, upd_off h1]
        have h26 : h (26 + j) = g (26 + j) + by_ := by rw [hh, upd_at]
        rw [ho (18 + j) (by omega)]
        obtain ⟨n, hn8, hn, hnn⟩ := okN_of (hg.1.1.2.2 j (by rw [hcc]; exact hj)).1
        refine ChOK.yes ?_ ?_ ⟨hwf, ?_, ?_, ?_, ?_⟩
        · obtain ⟨o, ho9, e⟩ := openJ_nI n (by omega) f (by omega)
          rw [hn, hfe, cN_nI (by omega), e]
          exact nI_m1' (by omega)
        · refine Tell.mk' (fun i hi => ?_) (fun i hi => ?_) (fun i hi => ?_) (fun i hi => ?_) (fun i hi => ?_)
          · rw [ho i (by omega), set1_q, if_neg (by omega)]; exact ht.r0 hi
          · rw [ho _ (by omega), set1_q, if_neg (by omega)]; exact ht.r1 hi
          · rw [ho _ (by omega), set1_q, if_neg (by omega)]; exact ht.r2 hi
          · rw [ho 0 (by omega), hcc] at hi
            by_cases hij : i = j
            · subst hij
              refine TellL.sc (by omega) (ht.l (by omega)) ?_ ?_ ?_ ?_ ?_ (ho _ (by omega)) (fun r hr => set1_row (by omega)) (fun q hq => ho q (by omega))
              · rw [set1_q, if_neg (by omega), ho _ (by omega)]; exact e3
              · rw [set1_q, if_pos ⟨rfl, rfl⟩, h26]
              · rw [set1_q, if_neg (by omega), ho _ (by omega)]; exact e5
              · rw [set1_q, if_neg (by omega), ho _ (by omega)]; exact e6
              · rw [set1_q, if_neg (by omega), ho _ (by omega)]; exact e7
            · exact TellL.mv (by omega) (hg.n8 (by omega)) (ht.l (by omega)) (LeafEq.rf.s1 (by decide) hij) (fun i9 hi9 => ho i9 (by omega))
          · rw [ho 1 (by omega)] at hi
            rw [ho _ (by omega), ho _ (by omega), set1_q, set1_q, if_neg (by omega), if_neg (by omega)]; exact ht.co hi
        · intro i hi
          rw [ho 0 (by omega), hcc] at hi
          obtain ⟨a, b, c9, d⟩ := hg.2.1 i (by omega)
          refine ⟨by rw [ho _ (by omega)]; exact a, by rw [ho _ (by omega)]; exact b, by rw [ho _ (by omega), ho _ (by omega)]; exact c9, fun q hq => ?_⟩
          rw [ho _ (by omega)] at hq
          rw [ho _ (by omega), ho _ (by omega)]; exact d q hq
        · intro i hi
          rw [ho 1 (by omega)] at hi
          rw [ho _ (by omega)]; exact hg.2.2.1 i hi
        · intro s9
          rw [ho 0 (by omega), cntM_eq _ (fun i hi => ho (34 + i) (by omega))]; exact hg.2.2.2.1 s9
        · intro k hk
          rw [ho 0 (by omega), ho _ (by omega), ho _ (by omega), hg.2.2.2.2 k hk]
          refine (sumJ_t _ (fun i hi => ?_)).symm
          rw [hcc] at hi
          unfold ndG
          rw [ho (50 + i) (by omega), ho (18 + i) (by omega)]
          exact needJ_congr (by funext q; rw [gV_10 (by omega), gV_10 (by omega)]; exact ho _ (by omega)) (by funext q; rw [gV_20 (by omega), gV_20 (by omega)]; exact ho _ (by omega)) (by funext q; rw [gV_40, gV_40]; exact ho _ (by omega)) _
      · rw [if_neg h3, if_neg h3]
        exact ChOK.no
    · rw [if_neg h2, if_pos (show ¬ g (42 + j) - 1 = -1 from fun z => h2 (by rw [← Int32.sub_add_cancel (g (42 + j)) 1, z]; rfl))]
      exact ChOK.no
  · rw [if_neg h1, if_neg h1]
    exact ChOK.no
end OK1
