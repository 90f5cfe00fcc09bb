/-! ===== the changes: the class and the reference hold together (4) ===== -/
def m3 (r : M4) : M3 := (r.1, r.2.1, r.2.2.1)
theorem setR_q {v : Nat → Nat → Int32} {r r' : Nat} {f : Nat → Int32} : setR v r f r' = if r' = r then f else v r' := rfl
section OK4
variable {v : Nat → Nat → Int32} {k1 k2 k3 : Int32} {s g nd : Nat → Int32}
theorem ndG_set {h : Nat → Int32} {k j : Nat} {S : Int32} (hj : j < 8) (e5 : h (50 + j) = S) (e1 : h (18 + j) = g (18 + j)) (ho : ∀ q, 68 ≤ q → h q = g q) : ndG h k j = needJ (gV g) j S (nI k) (cN (g (18 + j))) := by
  unfold ndG
  rw [e5, e1]
  exact needJ_congr (by funext q; rw [gV_10 (by omega), gV_10 (by omega)]; exact ho _ (by omega)) (by funext q; rw [gV_20 (by omega), gV_20 (by omega)]; exact ho _ (by omega)) (by funext q; rw [gV_40, gV_40]; exact ho _ (by omega)) _
theorem need_eqG {j : Nat} {set : Int32} {k : Nat} (hg : WFG g) (hj : j < cN (g 0)) (hk : k < 6) : needM g j set (clrJ nd 6) (cN (g (18 + j))) k = needJ (gV g) j set (nI k) (cN (g (18 + j))) :=
  needM_v (hg.j8 hj) hk _ (fun q hq => ⟨(hg.1.1.2.2 j hj).2.2 q hq, ((hg.2.1 j hj).2.2.2 q hq).2⟩)
theorem add_ok {lf kd ps la two : Int32} (ht : Tell v (gV g)) (hg : WFG g) : ChOK v k1 k2 k3 s g (addC v k1 k2 k3 lf kd ps la two) (addsM s g lf kd ps la (if two = 0 then 0 else 1)) := by
  obtain ⟨c, hc8, hc, hcc⟩ := hg.1.row
  obtain ⟨sd, hsd⟩ : ∃ sd : Int32, sd = if two = 0 then 0 else 1 := ⟨_, rfl⟩
  have hsd2 : sd = 0 ∨ sd = 1 := by rw [hsd]; split <;> simp
  have hwf := addsM_wf (s := s) (lf := lf) (kd := kd) (ps := ps) (la := la) (sd := sd) hg.1
  unfold addC
  rw [← hsd]
  unfold addsM at hwf ⊢
  rw [ht.n0]
  by_cases h1 : inB lf 0 (g 0 - 1)
  · rw [if_pos h1] at hwf ⊢
    rw [if_pos h1]
    obtain ⟨j, hj, rfl⟩ := in_c hc hc8 h1
    rw [cN_nI (show j < 2 ^ 31 by omega)] at hwf ⊢
    obtain ⟨e3, e4, e5, e6, e7⟩ := ht.lf (j := j) (by rw [hcc]; exact hj)
    by_cases h2 : inB kd 0 5
    · rw [if_pos h2] at hwf ⊢
      by_cases h3 : inB ps 1 4
      · rw [if_pos h3] at hwf ⊢
        by_cases h4 : inB la 1 31
        · rw [if_pos h4] at hwf ⊢
          rw [if_pos ⟨h2, h3, h4⟩]
          simp only [builtB, e3, e6]
          by_cases h5 : g (42 + j) = 0
          · rw [if_pos h5] at hwf ⊢
            rw [if_neg (show ¬ ¬ g (42 + j) - 1 = -1 by rw [h5]; decide)]
            obtain ⟨n, hn8, hn, hnn⟩ := okN_of (hg.1.1.2.2 j (by rw [hcc]; exact hj)).1
            by_cases h6 : n = 8
            · rw [if_neg (show ¬ g (18 + j) < 8 by rw [hn, h6]; decide), if_pos (show g (18 + j) = 8 by rw [hn, h6]; rfl)]
              exact ChOK.no
            · have hg8 : ¬ g (18 + j) = 8 := by rw [hn]; exact fun z => h6 ((nI_eq (b := 8) (by omega) (by omega)).mp z)
              rw [if_neg hg8] at hwf ⊢
              rw [if_pos (show g (18 + j) < 8 by rw [hn]; exact (nI_ltI (b := 8) (by omega) (by omega)).mpr (by omega))]
              rw [hnn] at hwf ⊢
              obtain ⟨B, hB⟩ : ∃ B, B = upd (upd (upd (upd g (68 + 8 * j + n) kd) (132 + 8 * j + n) ps) (196 + 8 * j + n) la) (260 + 8 * j + n) sd := ⟨_, rfl⟩
              rw [← hB] at hwf ⊢
              obtain ⟨h, hh⟩ : ∃ h, h = upd B (18 + j) (B (18 + j) + 1) := ⟨_, rfl⟩
              rw [← hh] at hwf ⊢
              have hwf : WFZ h := hwf
              have hBo : ∀ i : Nat, ¬ i = 68 + 8 * j + n → ¬ i = 132 + 8 * j + n → ¬ i = 196 + 8 * j + n → ¬ i = 260 + 8 * j + n → B i = g i := fun i a b c d => by rw [hB, upd_off d, upd_off c, upd_off b, upd_off a]
              have ho : ∀ i : Nat, ¬ i = 18 + j → ¬ i = 68 + 8 * j + n → ¬ i = 132 + 8 * j + n → ¬ i = 196 + 8 * j + n → ¬ i = 260 + 8 * j + n → h i = g i := fun i z a b c d => by rw [hh, upd_off z]; exact hBo i a b c d
              have h18 : h (18 + j) = nI (n + 1) := by rw [hh, upd_at, hBo _ (by omega) (by omega) (by omega) (by omega), hn, nI_1]
              have h68 : h (68 + 8 * j + n) = kd := by rw [hh, upd_off (by omega), hB, upd_off (by omega), upd_off (by omega), upd_off (by omega), upd_at]
              have h132 : h (132 + 8 * j + n) = ps := by rw [hh, upd_off (by omega), hB, upd_off (by omega), upd_off (by omega), upd_at]
              have h196 : h (196 + 8 * j + n) = la := by rw [hh, upd_off (by omega), hB, upd_off (by omega), upd_at]
              have h260 : h (260 + 8 * j + n) = sd := by rw [hh, upd_off (by omega), hB, upd_at]
              have hcN : cN (h (18 + j)) = n + 1 := by rw [h18]; exact cN_nI (by omega)
              have h00 : h 0 = g 0 := ho 0 (by omega) (by omega) (by omega) (by omega) (by omega)
              have h01 : h 1 = g 1 := ho 1 (by omega) (by omega) (by omega) (by omega) (by omega)
              have hje : ∀ i, i < 8 → ¬ i = j → GEq h g i := fun i hi hij i9 hi9 => ho i9 (by omega) (by omega) (by omega) (by omega) (by omega)
              have hz : g (50 + j) = 0 := (hg.2.1 j (by omega)).2.2.1 h5
              refine ChOK.yes (by rw [hn]; exact nI_m1' (by omega)) ?_ ⟨hwf, ?_, ?_, ?_, ?_⟩
              · refine Tell.mk' (fun i hi => ?_) (fun i hi => ?_) (fun i hi => ?_) (fun i hi => ?_) (fun i hi => ?_)
                · rw [ho i (by omega) (by omega) (by omega) (by omega) (by omega)]
                  unfold addV; rw [set1_row (by omega), set1_row (by omega), set1_row (by omega), set1_row (by omega), set1_row (by omega)]; exact ht.r0 hi
                · rw [ho _ (by omega) (by omega) (by omega) (by omega) (by omega)]
                  unfold addV; rw [set1_row (by omega), set1_row (by omega), set1_row (by omega), set1_row (by omega), set1_row (by omega)]; exact ht.r1 hi
                · rw [ho _ (by omega) (by omega) (by omega) (by omega) (by omega)]
                  unfold addV; rw [set1_row (by omega), set1_row (by omega), set1_row (by omega), set1_row (by omega), set1_row (by omega)]; exact ht.r2 hi
                · rw [h00, hcc] at hi
                  by_cases hij : i = j
                  · subst hij
                    have hl := ht.l (j := i) (by omega)
                    refine ⟨?_, ?_, ?_, ?_, ?_, fun q hq => ?_⟩
                    · rw [gV_3, h18]; unfold addV; rw [set1_at, e3, hn, nI_1]
                    · rw [gV_4, ho _ (by omega) (by omega) (by omega) (by omega) (by omega)]; unfold addV; rw [set1_row (by omega), set1_row (by omega), set1_row (by omega), set1_row (by omega), set1_row (by omega)]; exact e4
                    · rw [gV_5, ho _ (by omega) (by omega) (by omega) (by omega) (by omega)]; unfold addV; rw [set1_row (by omega), set1_row (by omega), set1_row (by omega), set1_row (by omega), set1_row (by omega)]; exact e5
                    · rw [gV_6, ho _ (by omega) (by omega) (by omega) (by omega) (by omega)]; unfold addV; rw [set1_row (by omega), set1_row (by omega), set1_row (by omega), set1_row (by omega), set1_row (by omega)]; exact e6
                    · rw [gV_7, ho _ (by omega) (by omega) (by omega) (by omega) (by omega)]; unfold addV; rw [set1_row (by omega), set1_row (by omega), set1_row (by omega), set1_row (by omega), set1_row (by omega)]; exact e7
                    · rw [gV_3, hcN] at hq
                      rw [gV_10 (by omega), gV_20 (by omega), gV_30 (by omega), gV_40]
                      unfold addV
                      rw [set1_row (r' := 10 + i) (by omega), set1_row (r' := 20 + i) (by omega), set1_row (r' := 30 + i) (by omega), set1_row (r' := 40 + i) (by omega), set1_row (r' := 10 + i) (by omega), set1_row (r' := 20 + i) (by omega), set1_row (r' := 30 + i) (by omega), set1_row (r' := 10 + i) (by omega), set1_row (r' := 20 + i) (by omega), set1_row (r' := 10 + i) (by omega)]
                      by_cases hqn : q = n
                      · subst hqn
                        rw [set1_at, set1_at, set1_at, set1_at, h68, h132, h196, h260]
                        exact ⟨rfl, rfl, rfl, rfl⟩
                      · rw [set1_off hqn, set1_off hqn, set1_off hqn, set1_off hqn]
                        rw [ho (68 + 8 * i + q) (by omega) (by omega) (by omega) (by omega) (by omega), ho (132 + 8 * i + q) (by omega) (by omega) (by omega) (by omega) (by omega), ho (196 + 8 * i + q) (by omega) (by omega) (by omega) (by omega) (by omega), ho (260 + 8 * i + q) (by omega) (by omega) (by omega) (by omega) (by omega)]
                        rw [set1_row (r' := 20 + i) (by omega), set1_row (r' := 30 + i) (by omega), set1_row (r' := 30 + i) (by omega), set1_row (r' := 40 + i) (by omega), set1_row (r' := 40 + i) (by omega), set1_row (r' := 40 + i) (by omega)]
                        obtain ⟨b1, b2, b3, b4⟩ := hl.2.2.2.2.2 q (by rw [gV_3, hnn]; omega)
                        rw [gV_10 (by omega)] at b1
                        rw [gV_20 (by omega)] at b2
                        rw [gV_30 (by omega)] at b3
                        rw [gV_40] at b4
                        exact ⟨b1, b2, b3, b4⟩
                  · exact TellL.mv (by omega) (hg.n8 (by omega)) (ht.l (by omega)) (addV_le (by omega) (by omega) hij) (hje i (by omega) hij)
                · rw [h01] at hi
                  have hi5 : i < 5 := Nat.lt_of_lt_of_le hi hg.1.1.2.1.2
                  rw [ho _ (by omega) (by omega) (by omega) (by omega) (by omega), ho (63 + i) (by omega) (by omega) (by omega) (by omega) (by omega)]
                  unfold addV; rw [set1_row (r' := 8) (by omega), set1_row (r' := 8) (by omega), set1_row (r' := 8) (by omega), set1_row (r' := 8) (by omega), set1_row (r' := 8) (by omega), set1_row (r' := 9) (by omega), set1_row (r' := 9) (by omega), set1_row (r' := 9) (by omega), set1_row (r' := 9) (by omega), set1_row (r' := 9) (by omega)]; exact ht.co hi
              · intro i hi
                rw [h00, hcc] at hi
                by_cases hij : i = j
                · subst hij
                  obtain ⟨a, b, c9, d⟩ := hg.2.1 i (by omega)
                  refine ⟨by rw [ho _ (by omega) (by omega) (by omega) (by omega) (by omega)]; exact a, by rw [ho _ (by omega) (by omega) (by omega) (by omega) (by omega)]; exact b, by rw [ho (50 + i) (by omega) (by omega) (by omega) (by omega) (by omega), ho (42 + i) (by omega) (by omega) (by omega) (by omega) (by omega)]; exact c9, fun q hq => ?_⟩
                  rw [hcN] at hq
                  by_cases hqn : q = n
                  · subst hqn
                    rw [h132, h260]
                    refine ⟨?_, hsd2⟩
                    obtain ⟨m, hm, rfl⟩ := in_n (n := 4) (by decide) (m := ps) ⟨fun z => h3.1 (Int32.lt_trans z (by decide)), h3.2⟩
                    exact okN_mk rfl hm (by decide)
                  · rw [ho _ (by omega) (by omega) (by omega) (by omega) (by omega), ho (260 + 8 * i + q) (by omega) (by omega) (by omega) (by omega) (by omega)]
                    exact d q (by rw [hnn]; omega)
                · exact (hje i (by omega) hij).wl (hg.n8 (by omega)) (hg.2.1 i (by omega))
              · intro i hi
                rw [h01] at hi
                have hi5 : i < 5 := Nat.lt_of_lt_of_le hi hg.1.1.2.1.2
                rw [ho _ (by omega) (by omega) (by omega) (by omega) (by omega)]; exact hg.2.2.1 i hi
              · intro s9
                rw [h00, cntM_eq _ (fun i hi => ho (34 + i) (by omega) (by rw [hcc] at hi; omega) (by rw [hcc] at hi; omega) (by rw [hcc] at hi; omega) (by rw [hcc] at hi; omega))]
                exact hg.2.2.2.1 s9
              · intro k hk
                rw [h00, ho _ (by omega) (by omega) (by omega) (by omega) (by omega), ho (12 + k) (by omega) (by omega) (by omega) (by omega) (by omega), hg.2.2.2.2 k hk]
                refine (sumJ_t _ (fun i hi => ?_)).symm
                rw [hcc] at hi
                by_cases hij : i = j
                · subst hij
                  unfold ndG
                  rw [ho (50 + i) (by omega) (by omega) (by omega) (by omega) (by omega), hz, needJ_0 _ (by rw [hcN]; omega), needJ_0 _ (by rw [hnn]; omega)]
                · exact (hje i (by omega) hij).nd (by omega) (hg.n8 (by omega))
          · rw [if_neg h5, if_pos (show ¬ g (42 + j) - 1 = -1 from by_ne h5)]
            exact ChOK.no
        · rw [if_neg h4, if_neg (fun z => h4 z.2.2)]
          exact ChOK.no
      · rw [if_neg h3, if_neg (fun z => h3 z.2.1)]
        exact ChOK.no
    · rw [if_neg h2, if_neg (fun z => h2 z.1)]
      exact ChOK.no
  · rw [if_neg h1, if_neg h1]
    exact ChOK.no
theorem build_ok {co lf : Int32} (ht : Tell v (gV g)) (hg : WFG g) : ChOK v k1 k2 k3 s g (buildC v k1 k2 k3 co lf) (m3 (buildsM s g nd co lf)) := by
  obtain ⟨c, hc8, hc, hcc⟩ := hg.1.row
  obtain ⟨d, hd5, hd, hdd⟩ := okN_of hg.1.1.2.1
  have hwf := buildsM_wf (s := s) (nd := nd) (co := co) (lf := lf) hg.1
  unfold buildC
  unfold buildsM at hwf ⊢
  rw [ht.n0, ht.n1]
  by_cases h1 : inB co 0 (g 1 - 1)
  · rw [if_pos h1] at hwf ⊢
    rw [if_pos h1]
    by_cases h2 : inB lf 0 (g 0 - 1)
    · rw [if_pos h2] at hwf ⊢
      rw [if_pos h2]
      obtain ⟨i, hi, rfl⟩ := in_c hd (by omega) h1
      obtain ⟨j, hj, rfl⟩ := in_c hc hc8 h2
      rw [cN_nI (show j < 2 ^ 31 by omega), cN_nI (show i < 2 ^ 31 by omega)] at hwf ⊢
      have hjg : j < cN (g 0) := by omega
      obtain ⟨e3, e4, e5, e6, e7⟩ := ht.lf hjg
      obtain ⟨n, hn8, hn, hnn⟩ := okN_of (hg.1.1.2.2 j hjg).1
      obtain ⟨f, hf3, hf, hff⟩ := okN_of (hg.1.1.2.2 j hjg).2.1
      by_cases h5 : g (42 + j) = 0
      · rw [if_pos h5] at hwf ⊢
        simp only [builtB, e6, e3]
        rw [if_neg (show ¬ ¬ g (42 + j) - 1 = -1 by rw [h5]; decide)]
        obtain ⟨S, hS⟩ : ∃ S, S = skipM g (g (63 + i)) (g (58 + i)) j (cN (g (26 + j))) (cN (g (18 + j))) := ⟨_, rfl⟩
        have hSk : skipL v i j = S := by
          unfold skipL
          rw [hS, skipF_t (ht.l hjg), e4, (ht.co (i := i) (by omega)).1, (ht.co (i := i) (by omega)).2, hff, hnn, skipM_v (hg.j8 hjg) hn hn8 hf3]
          simp only [stN, gV_3, hnn]
        rw [hSk]
        rw [← hS] at hwf ⊢
        obtain ⟨m, hm, hSm⟩ := skipM_lt (g := g) (kn := g (63 + i)) (bo := g (58 + i)) (l := j) (f := cN (g (26 + j))) n hn8
        rw [← hnn, ← hS] at hSm
        have hm8 : m < 256 := Nat.lt_of_lt_of_le hm (Nat.pow_le_pow_right (n := 2) (by decide) hn8)
        have hS8 : okN S 255 := okN_mk hSm (by omega) (by decide)
        obtain ⟨ND, hND⟩ : ∃ ND, ND = needM g j S (clrJ nd 6) (cN (g (18 + j))) := ⟨_, rfl⟩
        rw [← hND] at hwf ⊢
        obtain ⟨A, hA⟩ : ∃ A, A = getsM g ND 1 6 := ⟨_, rfl⟩
        rw [← hA] at hwf ⊢
        obtain ⟨B, hB⟩ : ∃ B, B = upd (upd A (42 + j) (nI i + 1)) (50 + j) S := ⟨_, rfl⟩
        rw [← hB] at hwf ⊢
        obtain ⟨D, hD⟩ : ∃ D, D = upd B 2 (B 2 + 1) := ⟨_, rfl⟩
        rw [← hD] at hwf ⊢
        obtain ⟨h, hh⟩ : ∃ h, h = upd D 3 (D 3 + bitsJ S 8) := ⟨_, rfl⟩
        rw [← hh] at hwf ⊢
        have hwf : WFZ h := hwf
        have hAlo : ∀ q, q < 6 → A q = g q := fun q hq => by rw [hA]; exact getsM_lo hq 6
        have hAhi : ∀ q, 12 ≤ q → A q = g q := fun q hq => by rw [hA]; exact getsM_hi hq 6 (Nat.le_refl _)
        have hAB : ∀ q, ¬ q = 42 + j → ¬ q = 50 + j → B q = A q := fun q a b => by rw [hB, upd_off b, upd_off a]
        have ho : ∀ q, 12 ≤ q → ¬ q = 42 + j → ¬ q = 50 + j → h q = g q := fun q a b c9 => by rw [hh, upd_off (by omega), hD, upd_off (by omega), hAB q b c9, hAhi q a]
        have hlo : ∀ q, q < 6 → ¬ q = 2 → ¬ q = 3 → h q = g q := fun q a b c9 => by rw [hh, upd_off c9, hD, upd_off b, hAB q (by omega) (by omega), hAlo q a]
        have h2' : h 2 = g 2 + 1 := by rw [hh, upd_off (by omega), hD, upd_at, hAB 2 (by omega) (by omega), hAlo 2 (by omega)]
        have h3' : h 3 = g 3 + popF S := by rw [hh, upd_at, hD, upd_off (by omega), hAB 3 (by omega) (by omega), hAlo 3 (by omega), bits_popX hS8]
        have h6' : ∀ k, k < 6 → h (6 + k) = g (6 + k) + ND k := fun k hk => by rw [hh, upd_off (by omega), hD, upd_off (by omega), hAB _ (by omega) (by omega), hA, getsM_at 6 k hk, Int32.one_mul]
        have h42 : h (42 + j) = nI (i + 1) := by rw [hh, upd_off (by omega), hD, upd_off (by omega), hB, upd_off (by omega), upd_at, nI_1]
        have h50 : h (50 + j) = S := by rw [hh, upd_off (by omega), hD, upd_off (by omega), hB, upd_at]
        obtain ⟨t1, t2⟩ := tin_leaf (h := h) (j := j) (w := buildV v j (nI i) S) hg ht hjg hwf (hlo 0 (by decide) (by decide) (by decide)) (hlo 1 (by decide) (by decide) (by decide)) ho
          (fun k hk => by
            rw [h6' k hk, ho (12 + k) (by omega) (by omega) (by omega), ndG_set (g := g) (by omega) h50 (ho _ (by omega) (by omega) (by omega)) (fun q hq => ho q (by omega) (by omega) (by omega)), hND, need_eqG hg hjg hk]
            have hz : ndG g k j = 0 := by unfold ndG; rw [(hg.2.1 j hjg).2.2.1 h5]; exact needJ_0 _ (hg.n8 hjg)
            rw [hz, sub0, add_r])
          (by rw [h50]; exact hS8) (fun z => by rw [h42] at z; exact absurd z (nI_ne0 (by omega) (by omega)))
          (fun q hq => by
            by_cases a : q = 2
            · subst a; rw [h2']; simp [buildV, set1_q, ht.r0 (i := 2) (by decide)]
            · by_cases b : q = 3
              · subst b; rw [h3']; simp [buildV, set1_q, ht.r0 (i := 3) (by decide)]
              · rw [hlo q hq a b, ← ht.r0 hq]; simp [buildV, set1_q, setR_q, a, b])
          (fun q hq => by
            have : buildV v j (nI i) S 1 = putJ (v 1) (needW v j S) 6 := by simp [buildV, set1, setR_q]
            rw [this, put_at (nd := nd) ht hg hjg hq, ← hND, ← hA, hh, upd_off (by omega), hD, upd_off (by omega), hAB _ (by omega) (by omega)])
          (fun q hq => buildV_le hq) (fun r hr => by unfold buildV; rw [set1_row (by omega), set1_row (by omega), setR_q, if_neg (by omega), set1_row (by omega), set1_row (by omega)])
          (by rw [h42]; simp [buildV, set1_q, setR_q, nI_1]) (by rw [h50]; simp [buildV, set1_q, setR_q])
        have hans : h (18 + j) - bitsJ S 8 = g (18 + j) - popF S := by rw [ho (18 + j) (by omega) (by omega) (by omega), bits_popX hS8]
        rw [hans]
        refine ChOK.yes ?_ t1 t2
        obtain ⟨k, hk, ek⟩ := skip_le n (by omega) m hm
        rw [hSm, ek, hn, pk_sub (by omega)]
        exact nI_m1' (by omega)
      · rw [if_neg h5]
        simp only [builtB, e6]
        rw [if_pos (show ¬ g (42 + j) - 1 = -1 from by_ne h5)]
        exact ChOK.no
    · rw [if_neg h2, if_neg h2]
      exact ChOK.no
  · rw [if_neg h1, if_neg h1]
    exact ChOK.no
theorem fin_ok {lf sp : Int32} (ht : Tell v (gV g)) (hg : WFG g) : ChOK v k1 k2 k3 s g (finC v k1 k2 k3 lf sp) (m3 (finishesM s g nd lf sp)) := by
  obtain ⟨c, hc8, hc, hcc⟩ := hg.1.row
  have hwf := finishesM_wf (s := s) (nd := nd) (lf := lf) (sp := sp) hg.1
  unfold finC
  unfold finishesM at hwf ⊢
  rw [ht.n0]
  by_cases h2 : inB lf 0 (g 0 - 1)
  · rw [if_pos h2] at hwf ⊢
    rw [if_pos h2]
    obtain ⟨j, hj, rfl⟩ := in_c hc hc8 h2
    rw [cN_nI (show j < 2 ^ 31 by omega)] at hwf ⊢
    have hjg : j < cN (g 0) := by omega
    obtain ⟨e3, e4, e5, e6, e7⟩ := ht.lf hjg
    obtain ⟨n, hn8, hn, hnn⟩ := okN_of (hg.1.1.2.2 j hjg).1
    by_cases h5 : g (42 + j) = 0
    · rw [if_pos h5]
      simp only [builtB, e6]
      rw [if_neg (show ¬ ¬ g (42 + j) - 1 = -1 by rw [h5]; decide)]
      exact ChOK.no
    · rw [if_neg h5] at hwf ⊢
      simp only [builtB, e6, e3, e7]
      rw [if_pos (show ¬ g (42 + j) - 1 = -1 from by_ne h5)]
      by_cases h6 : inB sp 0 (g (18 + j) - 1)
      · rw [if_pos h6] at hwf ⊢
        rw [if_pos h6]
        obtain ⟨q, hq, rfl⟩ := in_c hn hn8 h6
        obtain ⟨S, hS⟩ : ∃ S, S = g (50 + j) := ⟨_, rfl⟩
        have hS8 : okN S 255 := by rw [hS]; exact (hg.2.1 j hjg).2.1
        by_cases h7 : hasB (g (50 + j)) (nI q)
        · rw [if_neg (show ¬ g (50 + j) >>> (nI q &&& 31) &&& 1 = 0 from h7)] at hwf ⊢
          rw [if_pos h7, lack_eq (nd := nd) ht hg hjg]
          obtain ⟨ND, hND⟩ : ∃ ND, ND = needM g j (1 <<< (nI q &&& 31)) (clrJ nd 6) (cN (g (18 + j))) := ⟨_, rfl⟩
          rw [← hND] at hwf ⊢
          by_cases h8 : lackJ (fun i => g (6 + i)) ND 0 6 = -1
          · rw [if_pos h8] at hwf ⊢
            rw [if_pos h8]
            obtain ⟨A, hA⟩ : ∃ A, A = getsM g ND (-1) 6 := ⟨_, rfl⟩
            rw [← hA] at hwf ⊢
            have hAlo : ∀ q, q < 6 → A q = g q := fun q hq => by rw [hA]; exact getsM_lo hq 6
            have hAhi : ∀ q, 12 ≤ q → A q = g q := fun q hq => by rw [hA]; exact getsM_hi hq 6 (Nat.le_refl _)
            rw [hAhi (50 + j) (by omega), ← hS] at hwf ⊢
            obtain ⟨U, hU⟩ : ∃ U, U = S &&& (1 <<< (nI q &&& 31) ^^^ (-1)) := ⟨_, rfl⟩
            have hU8 : okN U 255 := by rw [hU]; exact off_le hS8
            rw [← hU] at hwf ⊢
            obtain ⟨B, hB⟩ : ∃ B, B = upd A (50 + j) U := ⟨_, rfl⟩
            rw [← hB] at hwf ⊢
            obtain ⟨h, hh⟩ : ∃ h, h = upd B 4 (B 4 + 1) := ⟨_, rfl⟩
            rw [← hh] at hwf ⊢
            have hwf : WFZ h := hwf
            have hAB : ∀ q, ¬ q = 50 + j → B q = A q := fun q b => by rw [hB, upd_off b]
            have ho : ∀ q, 12 ≤ q → ¬ q = 42 + j → ¬ q = 50 + j → h q = g q := fun q a b c9 => by rw [hh, upd_off (by omega), hAB q c9, hAhi q a]
            have hlo : ∀ q, q < 6 → ¬ q = 4 → h q = g q := fun q a b => by rw [hh, upd_off b, hAB q (by omega), hAlo q a]
            have h4' : h 4 = g 4 + 1 := by rw [hh, upd_at, hAB 4 (by omega), hAlo 4 (by omega)]
            have h6' : ∀ k, k < 6 → h (6 + k) = g (6 + k) - ND k := fun k hk => by rw [hh, upd_off (by omega), hAB _ (by omega), hA, getsM_at 6 k hk, neg1_mul]
            have h42 : h (42 + j) = g (42 + j) := by rw [hh, upd_off (by omega), hAB _ (by omega), hAhi _ (by omega)]
            have h50 : h (50 + j) = U := by rw [hh, upd_off (by omega), hB, upd_at]
            obtain ⟨t1, t2⟩ := tin_leaf (h := h) (j := j) (w := finV v j (nI q)) hg ht hjg hwf (hlo 0 (by decide) (by decide)) (hlo 1 (by decide) (by decide)) ho
              (fun k hk => by
                rw [h6' k hk, ho (12 + k) (by omega) (by omega) (by omega), ndG_set (g := g) (by omega) h50 (ho _ (by omega) (by omega) (by omega)) (fun q hq => ho q (by omega) (by omega) (by omega))]
                refine sub_d _ _ _ _ _ ?_
                rw [hND, need_eqG hg hjg hk, hU, hS]
                exact needJ_off (by omega) h7 _ (hg.n8 hjg))
              (by rw [h50]; exact hU8) (fun z => by rw [h42] at z; exact absurd z h5)
              (fun i hi => by
                by_cases a : i = 4
                · subst a; rw [h4']; simp [finV, set1_q, ht.r0 (i := 4) (by decide)]
                · rw [hlo i hi a, ← ht.r0 hi]; simp [finV, set1_q, setR_q, a])
              (fun i hi => by
                have : finV v j (nI q) 1 = takeJ (v 1) (needW v j (1 <<< (nI q &&& 31))) 6 := by simp [finV, set1, setR_q]
                rw [this, take_at (nd := nd) ht hg hjg hi, ← hND, ← hA, hh, upd_off (by omega), hAB _ (by omega)])
              (fun i hi => finV_le hi) (fun r hr => by unfold finV; rw [set1_row (by omega), set1_row (by omega), setR_q, if_neg (by omega)])
              (by rw [h42, ← e6]; simp [finV, set1_q, setR_q]) (by rw [h50, hU, hS, ← e7]; simp [finV, set1_q, setR_q])
            rw [h50, bits_popX hU8]
            obtain ⟨k, hk, ek⟩ := pop_ok hU8
            refine ChOK.yes (by rw [ek]; exact nI_m1' (by omega)) t1 t2
          · rw [if_neg h8, if_neg h8]
            exact ChOK.no
        · rw [if_neg h7, if_pos (show g (50 + j) >>> (nI q &&& 31) &&& 1 = 0 from Decidable.of_not_not h7)]
          exact ChOK.no
      · rw [if_neg h6, if_neg h6]
        exact ChOK.no
  · rw [if_neg h2, if_neg h2]
    exact ChOK.no
theorem apa_ok {lf : Int32} (ht : Tell v (gV g)) (hg : WFG g) : ChOK v k1 k2 k3 s g (apaC v k1 k2 k3 lf) (m3 (apartM s g nd lf)) := by
  obtain ⟨c, hc8, hc, hcc⟩ := hg.1.row
  have hwf := apartM_wf (s := s) (nd := nd) (lf := lf) hg.1
  unfold apaC
  unfold apartM at hwf ⊢
  rw [ht.n0]
  by_cases h2 : inB lf 0 (g 0 - 1)
  · rw [if_pos h2] at hwf ⊢
    rw [if_pos h2]
    obtain ⟨j, hj, rfl⟩ := in_c hc hc8 h2
    rw [cN_nI (show j < 2 ^ 31 by omega)] at hwf ⊢
    have hjg : j < cN (g 0) := by omega
    obtain ⟨e3, e4, e5, e6, e7⟩ := ht.lf hjg
    obtain ⟨n, hn8, hn, hnn⟩ := okN_of (hg.1.1.2.2 j hjg).1
    by_cases h5 : g (42 + j) = 0
    · rw [if_pos h5]
      simp only [builtB, e6]
      rw [if_neg (show ¬ ¬ g (42 + j) - 1 = -1 by rw [h5]; decide)]
      exact ChOK.no
    · rw [if_neg h5] at hwf ⊢
      simp only [builtB, e6, e7]
      rw [if_pos (show ¬ g (42 + j) - 1 = -1 from by_ne h5)]
      rw [lack_eq (nd := nd) ht hg hjg]
      obtain ⟨ND, hND⟩ : ∃ ND, ND = needM g j (g (50 + j)) (clrJ nd 6) (cN (g (18 + j))) := ⟨_, rfl⟩
      rw [← hND] at hwf ⊢
      by_cases h8 : lackJ (fun i => g (6 + i)) ND 0 6 = -1
      · rw [if_pos h8] at hwf ⊢
        rw [if_pos h8]
        obtain ⟨A, hA⟩ : ∃ A, A = getsM g ND (-1) 6 := ⟨_, rfl⟩
        rw [← hA] at hwf ⊢
        have hAlo : ∀ q, q < 6 → A q = g q := fun q hq => by rw [hA]; exact getsM_lo hq 6
        have hAhi : ∀ q, 12 ≤ q → A q = g q := fun q hq => by rw [hA]; exact getsM_hi hq 6 (Nat.le_refl _)
        obtain ⟨B, hB⟩ : ∃ B, B = upd (upd A (42 + j) 0) (50 + j) 0 := ⟨_, rfl⟩
        rw [← hB] at hwf ⊢
        obtain ⟨h, hh⟩ : ∃ h, h = upd B 5 (B 5 + 1) := ⟨_, rfl⟩
        rw [← hh] at hwf ⊢
        have hwf : WFZ h := hwf
        have hAB : ∀ q, ¬ q = 42 + j → ¬ q = 50 + j → B q = A q := fun q a b => by rw [hB, upd_off b, upd_off a]
        have ho : ∀ q, 12 ≤ q → ¬ q = 42 + j → ¬ q = 50 + j → h q = g q := fun q a b c9 => by rw [hh, upd_off (by omega), hAB q b c9, hAhi q a]
        have hlo : ∀ q, q < 6 → ¬ q = 5 → h q = g q := fun q a b => by rw [hh, upd_off b, hAB q (by omega) (by omega), hAlo q a]
        have h5' : h 5 = g 5 + 1 := by rw [hh, upd_at, hAB 5 (by omega) (by omega), hAlo 5 (by omega)]
        have h6' : ∀ k, k < 6 → h (6 + k) = g (6 + k) - ND k := fun k hk => by rw [hh, upd_off (by omega), hAB _ (by omega) (by omega), hA, getsM_at 6 k hk, neg1_mul]
        have h42 : h (42 + j) = 0 := by rw [hh, upd_off (by omega), hB, upd_off (by omega), upd_at]
        have h50 : h (50 + j) = 0 := by rw [hh, upd_off (by omega), hB, upd_at]
        obtain ⟨t1, t2⟩ := tin_leaf (h := h) (j := j) (w := apaV v j) hg ht hjg hwf (hlo 0 (by decide) (by decide)) (hlo 1 (by decide) (by decide)) ho
          (fun k hk => by
            rw [h6' k hk, ho (12 + k) (by omega) (by omega) (by omega), ndG_set (g := g) (by omega) h50 (ho _ (by omega) (by omega) (by omega)) (fun q hq => ho q (by omega) (by omega) (by omega))]
            refine sub_d _ _ _ _ _ ?_
            rw [hND, need_eqG hg hjg hk, needJ_0 _ (hg.n8 hjg), Int32.zero_add]
            rfl)
          (by rw [h50]; exact okN_le okN_0 (by decide)) (fun _ => h50)
          (fun i hi => by
            by_cases a : i = 5
            · subst a; rw [h5']; simp [apaV, set1_q, ht.r0 (i := 5) (by decide)]
            · rw [hlo i hi a, ← ht.r0 hi]; simp [apaV, set1_q, setR_q, a])
          (fun i hi => by
            have : apaV v j 1 = takeJ (v 1) (needW v j (g (50 + j))) 6 := by simp [apaV, set1, setR_q, e7]
            rw [this, take_at (nd := nd) ht hg hjg hi, ← hND, ← hA, hh, upd_off (by omega), hAB _ (by omega) (by omega)])
          (fun i hi => apaV_le hi) (fun r hr => by unfold apaV; rw [set1_row (by omega), set1_row (by omega), set1_row (by omega), setR_q, if_neg (by omega)])
          (by rw [h42]; simp [apaV, set1_q, setR_q]) (by rw [h50]; simp [apaV, set1_q, setR_q])
        have hans : partsJ v j (g (50 + j)) (stN v j) = sumM g j (g (50 + j)) (cN (g (18 + j))) := by
          rw [partsJ_ts (ht.l hjg), sumM_v (hg.j8 hjg)]
          simp only [stN, gV_3]
        rw [hans]
        refine ChOK.yes ?_ t1 t2
        rw [sumM_v (hg.j8 hjg)]
        obtain ⟨m, hm, e⟩ := partsJ_nn (w := gV g) (j := j) (set := g (50 + j)) (cN (g (18 + j))) (hg.n8 hjg) (fun q hq => (hg.2.1 j hjg).ps (hg.j8 hjg) hq)
        rw [e]
        have := hg.n8 hjg
        exact nI_m1' (by omega)
      · rw [if_neg h8, if_neg h8]
        exact ChOK.no
  · rw [if_neg h2, if_neg h2]
    exact ChOK.no
end OK4
