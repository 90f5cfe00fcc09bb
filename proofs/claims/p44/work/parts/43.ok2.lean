/-! ===== the changes: the class and the reference hold together (2) ===== -/
theorem ge_m1 {x : Int32} (h : 0 ≤ x) : ¬ x = -1 := fun z => by rw [z] at h; exact absurd h (by decide)
theorem known_or : ∀ m : Nat, m < 32 → ∀ q : Nat, q < 5 → ∃ r : Nat, r < 32 ∧ nI m ||| 1 <<< (nI q &&& 31) = nI r := by decide +kernel
theorem pop_nn : ∀ n : Nat, n < 256 → ∃ k : Nat, k < 9 ∧ popF (nI n) = nI k := by decide +kernel
theorem pop_ok {x : Int32} (h : okN x 255) : ∃ k : Nat, k < 9 ∧ popF x = nI k := by rw [h.1]; exact pop_nn _ (Nat.lt_succ_of_le h.2)
theorem pq_move (a b p : Int32) : (a - p) + (b + p) = a + b := by rw [Int32.add_comm b p, ← Int32.add_assoc, Int32.sub_add_cancel]
section OK2
variable {v : Nat → Nat → Int32} {k1 k2 k3 : Int32} {s g : Nat → Int32}
theorem ndG_congr {h : Nat → Int32} {k i : Nat} (hi : i < 8) (e5 : h (50 + i) = g (50 + i)) (e1 : h (18 + i) = g (18 + i)) (ho : ∀ q, 68 ≤ q → h q = g q) : ndG h k i = ndG g k i := by
  unfold ndG
  rw [e5, e1]
  exact needJ_congr (by funext q; rw [gV_10 (by omega), gV_10 (by omega)]; exact ho _ (by omega)) (by funext q; rw [gV_20 (by omega), gV_20 (by omega)]; exact ho _ (by omega)) (by funext q; rw [gV_40, gV_40]; exact ho _ (by omega)) _
theorem come_ok {bo la : Int32} (ht : Tell v (gV g)) (hg : WFG g) : ChOK v k1 k2 k3 s g (comeC v k1 k2 k3 bo la) (comesM s g bo la) := by
  obtain ⟨d, hd5, hd, hdd⟩ := okN_of hg.1.1.2.1
  obtain ⟨c, hc8, hc, hcc⟩ := hg.1.row
  have e1 : v 0 1 = nI d := ht.n1.trans hd
  have edd : cN (v 0 1) = d := by rw [e1]; exact cN_nI (by omega)
  have hwf := comesM_wf (s := s) (bo := bo) (la := la) hg.1
  unfold comeC
  unfold comesM at hwf ⊢
  by_cases h1 : inB bo 0 5
  · rw [if_pos h1] at hwf ⊢
    by_cases h2 : inB la 0 31
    · rw [if_pos h2] at hwf ⊢
      rw [if_pos ⟨h1, h2⟩]
      by_cases h3 : d = 5
      · rw [if_neg (show ¬ v 0 1 < 5 by rw [e1, h3]; decide), if_pos (show g 1 = 5 by rw [hd, h3]; rfl)]
        exact ChOK.no
      · have hg5 : ¬ g 1 = 5 := by rw [hd]; exact fun z => h3 ((nI_eq (b := 5) (by omega) (by omega)).mp z)
        rw [if_neg hg5] at hwf ⊢
        rw [if_pos (show v 0 1 < 5 by rw [e1]; exact (nI_ltI (b := 5) (by omega) (by omega)).mpr (by omega))]
        rw [hdd] at hwf ⊢
        rw [edd]
        obtain ⟨h, hh⟩ : ∃ h, h = upd (upd (upd g (58 + d) bo) (63 + d) la) 1 (upd (upd g (58 + d) bo) (63 + d) la 1 + 1) := ⟨_, rfl⟩
        rw [← hh] at hwf ⊢
        have hwf : WFZ h := hwf
        have ho : ∀ i : Nat, ¬ i = 1 → ¬ i = 58 + d → ¬ i = 63 + d → h i = g i := fun i h1 h2 h3 => by rw [hh, upd_off h1, upd_off h3, upd_off h2]
        have h1' : h 1 = nI (d + 1) := by rw [hh, upd_at, upd_off (by omega), upd_off (by omega), hd, nI_1]
        have hdN : cN (h 1) = d + 1 := by rw [h1']; exact cN_nI (by omega)
        have h58 : h (58 + d) = bo := by rw [hh, upd_off (by omega), upd_off (by omega), upd_at]
        have h63 : h (63 + d) = la := by rw [hh, upd_off (by omega), upd_at]
        rw [ht.n1]
        refine ChOK.yes (by rw [hd]; exact nI_m1' (by omega)) ?_ ⟨hwf, ?_, ?_, ?_, ?_⟩
        · refine Tell.mk' (fun i hi => ?_) (fun i hi => ?_) (fun i hi => ?_) (fun j hj => ?_) (fun i hi => ?_)
          · by_cases hi1 : i = 1
            · subst hi1; rw [h1']; simp [comeV, set1_q, e1, nI_1]
            · rw [ho i hi1 (by omega) (by omega)]; simp [comeV, set1_q, hi1, ht.r0 hi]
          · rw [ho _ (by omega) (by omega) (by omega)]; simp [comeV, set1_q, ht.r1 hi]
          · rw [ho _ (by omega) (by omega) (by omega)]; simp [comeV, set1_q, ht.r2 hi]
          · rw [ho 0 (by omega) (by omega) (by omega), hcc] at hj
            exact TellL.mv (by omega) (hg.n8 (by omega)) (ht.l (by omega)) comeV_le (fun i hi => ho i (by omega) (by omega) (by omega))
          · rw [hdN] at hi
            by_cases hid : i = d
            · subst hid; rw [h58, h63]; simp [comeV, set1_q]
            · rw [ho _ (by omega) (by omega) (by omega), ho _ (by omega) (by omega) (by omega)]
              have := ht.co (i := i) (by omega)
              simp [comeV, set1_q, hid, this.1, this.2]
        · intro j hj
          rw [ho 0 (by omega) (by omega) (by omega), hcc] at hj
          exact GEq.wl (fun i hi => ho i (by omega) (by omega) (by omega)) (hg.n8 (by omega)) (hg.2.1 j (by omega))
        · intro i hi
          rw [hdN] at hi
          by_cases hid : i = d
          · subst hid; rw [h63]
            obtain ⟨m, hm, rfl⟩ := in_n (n := 31) (by decide) h2
            exact okN_mk rfl hm (by decide)
          · rw [ho _ (by omega) (by omega) (by omega)]; exact hg.2.2.1 i (by omega)
        · intro s9
          rw [ho 0 (by omega) (by omega) (by omega), cntM_eq _ (fun j hj => ho (34 + j) (by omega) (by omega) (by omega))]
          exact hg.2.2.2.1 s9
        · intro k hk
          rw [ho 0 (by omega) (by omega) (by omega), ho _ (by omega) (by omega) (by omega), ho _ (by omega) (by omega) (by omega), hg.2.2.2.2 k hk]
          refine (sumJ_t _ (fun i hi => ?_)).symm
          rw [hcc] at hi
          exact ndG_congr (by omega) (ho _ (by omega) (by omega) (by omega)) (ho _ (by omega) (by omega) (by omega)) (fun q hq => ho q (by omega) (by omega) (by omega))
    · rw [if_neg h2, if_neg (fun z => h2 z.2)]
      exact ChOK.no
  · rw [if_neg h1, if_neg (fun z => h1 z.1)]
    exact ChOK.no
theorem learn_ok {co la : Int32} (ht : Tell v (gV g)) (hg : WFG g) : ChOK v k1 k2 k3 s g (learnC v k1 k2 k3 co la) (learnsM s g co la) := by
  obtain ⟨d, hd5, hd, hdd⟩ := okN_of hg.1.1.2.1
  obtain ⟨c, hc8, hc, hcc⟩ := hg.1.row
  have hwf := learnsM_wf (s := s) (co := co) (la := la) hg.1
  unfold learnC
  unfold learnsM at hwf ⊢
  rw [ht.n1]
  by_cases h1 : inB co 0 (g 1 - 1)
  · rw [if_pos h1] at hwf ⊢
    rw [if_pos h1]
    obtain ⟨i, hi, rfl⟩ := in_c hd (by omega) h1
    rw [cN_nI (show i < 2 ^ 31 by omega)] at hwf ⊢
    by_cases h2 : inB la 0 4
    · rw [if_pos h2] at hwf ⊢
      rw [if_pos h2]
      obtain ⟨q, hq, rfl⟩ := in_n (n := 4) (by decide) h2
      have e9 := (ht.co (i := i) (by omega)).2
      by_cases h3 : hasB (v 9 i) (nI q)
      · rw [if_pos h3, if_pos (by rw [← e9]; exact (hasB_iff _ _).mp h3)]
        exact ChOK.no
      · have h4 : ¬ g (63 + i) >>> (nI q &&& 31) &&& 1 = 1 := fun z => h3 ((hasB_iff _ _).mpr (by rw [e9]; exact z))
        rw [if_neg h4] at hwf ⊢
        rw [if_neg h3, e9]
        obtain ⟨m, hm, hme, -⟩ := okN_of (hg.2.2.1 i (by omega))
        obtain ⟨r, hr, hre⟩ := known_or m (by omega) q (by omega)
        rw [hme, hre] at hwf ⊢
        obtain ⟨h, hh⟩ : ∃ h, h = upd g (63 + i) (nI r) := ⟨_, rfl⟩
        rw [← hh] at hwf ⊢
        have hwf : WFZ h := hwf
        have ho : ∀ q : Nat, ¬ q = 63 + i → h q = g q := fun q h1 => by rw [hh, upd_off h1]
        have h63 : h (63 + i) = nI r := by rw [hh, upd_at]
        rw [h63, bits_pop r (by omega)]
        refine ChOK.yes ?_ ?_ ⟨hwf, ?_, ?_, ?_, ?_⟩
        · obtain ⟨z, hz, e⟩ := pop_nn r (by omega)
          rw [e]; exact nI_m1' (by omega)
        · refine Tell.mk' (fun q hq => ?_) (fun q hq => ?_) (fun q hq => ?_) (fun j hj => ?_) (fun q hq => ?_)
          · rw [ho q (by omega)]; simp [set1_q, ht.r0 hq]
          · rw [ho _ (by omega)]; simp [set1_q, ht.r1 hq]
          · rw [ho _ (by omega)]; simp [set1_q, ht.r2 hq]
          · rw [ho 0 (by omega), hcc] at hj
            exact TellL.mv (by omega) (hg.n8 (by omega)) (ht.l (by omega)) (LeafEq.rf.s0 (by decide)) (fun i hi => ho i (by omega))
          · rw [ho 1 (by omega)] at hq
            have := ht.co (i := q) hq
            by_cases hqi : q = i
            · subst hqi; rw [h63, ho _ (by omega)]; simp [set1_q, this.1]
            · rw [ho _ (by omega), ho _ (by omega)]; simp [set1_q, hqi, this.1, this.2]
        · intro j hj
          rw [ho 0 (by omega), hcc] at hj
          exact GEq.wl (fun i hi => ho i (by omega)) (hg.n8 (by omega)) (hg.2.1 j (by omega))
        · intro q hq
          rw [ho 1 (by omega)] at hq
          by_cases hqi : q = i
          · subst hqi; rw [h63]; exact okN_mk rfl (show r ≤ 31 by omega) (by decide)
          · rw [ho _ (by omega)]; exact hg.2.2.1 q hq
        · intro s9
          rw [ho 0 (by omega), cntM_eq _ (fun j hj => ho (34 + j) (by rw [hcc] at hj; omega))]
          exact hg.2.2.2.1 s9
        · intro k hk
          rw [ho 0 (by omega), ho _ (by omega), ho _ (by omega), hg.2.2.2.2 k hk]
          refine (sumJ_t _ (fun i hi => ?_)).symm
          rw [hcc] at hi
          exact ndG_congr (by omega) (ho _ (by omega)) (ho _ (by omega)) (fun q hq => ho q (by omega))
    · rw [if_neg h2, if_neg h2]
      exact ChOK.no
  · rw [if_neg h1, if_neg h1]
    exact ChOK.no
theorem move_ok {lf sh : Int32} (ht : Tell v (gV g)) (hg : WFG g) : ChOK v k1 k2 k3 s g (moveC v k1 k2 k3 lf sh) (movesM s g lf sh) := by
  obtain ⟨c, hc8, hc, hcc⟩ := hg.1.row
  have e0 : v 0 0 = nI c := ht.n0.trans hc
  have ecc : cN (v 0 0) = c := by rw [e0]; exact cN_nI (by omega)
  have hwf := movesM_wf (s := s) (lf := lf) (sh := sh) hg.1
  unfold moveC
  unfold movesM at hwf ⊢
  rw [ecc, ht.n0]
  rw [hcc] at hwf ⊢
  by_cases h1 : inB lf 0 (g 0 - 1)
  · rw [if_pos h1] at hwf ⊢
    rw [if_pos h1]
    obtain ⟨j, hj, rfl⟩ := in_c hc hc8 h1
    rw [cN_nI (show j < 2 ^ 31 by omega)] at hwf ⊢
    obtain ⟨e3, e4, e5, e6, e7⟩ := ht.lf (j := j) (by rw [hcc]; exact hj)
    by_cases h2 : inB sh 0 3
    · rw [if_pos h2] at hwf ⊢
      rw [if_pos h2, e5]
      by_cases h3 : g (34 + j) = sh
      · rw [if_pos h3, if_pos h3]
        exact ChOK.no
      · rw [if_neg h3] at hwf ⊢
        rw [if_neg h3, pop_onJ hc8 (fun j hj => ht.2.2.2.1 j (by rw [gV_0, hcc]; exact hj) |>.2.2.1), bits_onM c hc8]
        rw [bits_onM c hc8] at hwf
        have hle := hg.2.2.2.1 sh
        rw [hcc] at hle
        by_cases h5 : cntM g sh c = 3
        · rw [if_neg (by rw [h5]; decide), if_pos (by rw [h5]; rfl)]
          exact ChOK.no
        · have h4 : ¬ nI (cntM g sh c) = 3 := fun z => h5 ((nI_eq (b := 3) (by omega) (by omega)).mp z)
          rw [if_neg h4] at hwf ⊢
          rw [if_pos (show nI (cntM g sh c) < 3 from (nI_ltI (a := cntM g sh c) (b := 3) (by omega) (by omega)).mpr (by omega))]
          obtain ⟨h, hh⟩ : ∃ h, h = upd g (34 + j) sh := ⟨_, rfl⟩
          rw [← hh] at hwf ⊢
          have hwf : WFZ h := hwf
          have ho : ∀ i : Nat, ¬ i = 34 + j → h i = g i := fun i h1 => by rw [hh, upd_off h1]
          have h34 : h (34 + j) = sh := by rw [hh, upd_at]
          obtain ⟨m, hm, hme, -⟩ := okN_of (hg.2.1 j (by omega)).1
          refine ChOK.yes (by rw [hme]; exact nI_m1' (by omega)) ?_ ⟨hwf, ?_, ?_, ?_, ?_⟩
          · refine Tell.mk' (fun i hi => ?_) (fun i hi => ?_) (fun i hi => ?_) (fun i hi => ?_) (fun i hi => ?_)
            · rw [ho i (by omega)]; simp [set1_q, ht.r0 hi]
            · rw [ho _ (by omega)]; simp [set1_q, ht.r1 hi]
            · rw [ho _ (by omega)]; simp [set1_q, ht.r2 hi]
            · rw [ho 0 (by omega), hcc] at hi
              by_cases hij : i = j
              · subst hij
                refine TellL.sc (by omega) (ht.l (by omega)) ?_ ?_ ?_ ?_ ?_ (ho _ (by omega)) (fun r hr => set1_row (by omega)) (fun q hq => ho q (by omega))
                · rw [ho _ (by omega)]; simp [set1_q, e3]
                · rw [ho _ (by omega)]; simp [set1_q, e4]
                · rw [h34]; simp [set1_q]
                · rw [ho _ (by omega)]; simp [set1_q, e6]
                · rw [ho _ (by omega)]; simp [set1_q, e7]
              · exact TellL.mv (by omega) (hg.n8 (by omega)) (ht.l (by omega)) (LeafEq.rf.s1 (by decide) hij) (fun i9 hi9 => ho i9 (by omega))
            · rw [ho 1 (by omega)] at hi
              have := ht.co (i := i) hi
              rw [ho _ (by omega), ho _ (by omega)]; simp [set1_q, this.1, this.2]
          · intro i hi
            rw [ho 0 (by omega), hcc] at hi
            obtain ⟨a, b, c9, d⟩ := hg.2.1 i (by omega)
            refine ⟨?_, by rw [ho _ (by omega)]; exact b, by rw [ho _ (by omega), ho _ (by omega)]; exact c9, fun q hq => ?_⟩
            · by_cases hij : i = j
              · subst hij; rw [h34]
                obtain ⟨m, hm, rfl⟩ := in_n (n := 3) (by decide) h2
                exact okN_mk rfl hm (by decide)
              · rw [ho _ (by omega)]; exact a
            · rw [ho _ (by omega)] at hq
              rw [ho _ (by omega), ho _ (by omega)]; exact d q hq
          · intro i hi
            rw [ho 1 (by omega)] at hi
            rw [ho _ (by omega)]; exact hg.2.2.1 i hi
          · intro s9
            have := cntM_up (g := g) (h := h) (sh := s9) (s0 := sh) (k := j) (fun i hi => ho (34 + i) (by omega)) h34 c
            have h9 := hg.2.2.2.1 s9
            rw [ho 0 (by omega), hcc]
            rw [hcc] at h9
            by_cases hs : sh = s9
            · subst hs; rw [if_pos rfl] at this; omega
            · rw [if_neg hs] at this; omega
          · intro k hk
            rw [ho 0 (by omega), ho _ (by omega), ho _ (by omega), hg.2.2.2.2 k hk]
            refine (sumJ_t _ (fun i hi => ?_)).symm
            rw [hcc] at hi
            exact ndG_congr (by omega) (ho _ (by omega)) (ho _ (by omega)) (fun q hq => ho q (by omega))
    · rw [if_neg h2, if_neg h2]
      exact ChOK.no
  · rw [if_neg h1, if_neg h1]
    exact ChOK.no
/-- parts moved between the tin and what is lost -/
theorem tin_two {h : Nat → Int32} {k : Nat} {w : Nat → Nat → Int32} (hg : WFG g) (ht : Tell v (gV g)) (hk : k < 6) (hwf : WFZ h) (ho : ∀ i : Nat, ¬ i = 6 + k → ¬ i = 12 + k → h i = g i) (hs : h (6 + k) + h (12 + k) = g (6 + k) + g (12 + k))
    (w0 : ∀ r, ¬ r = 1 → ¬ r = 2 → w r = v r) (w1 : ∀ i, ¬ i = k → w 1 i = v 1 i ∧ w 2 i = v 2 i) (w2 : w 1 k = h (6 + k) ∧ w 2 k = h (12 + k)) : Tell w (gV h) ∧ WFG h := by
  obtain ⟨c, hc8, hc, hcc⟩ := hg.1.row
  refine ⟨Tell.mk' (fun i hi => ?_) (fun i hi => ?_) (fun i hi => ?_) (fun j hj => ?_) (fun i hi => ?_), hwf, ?_, ?_, ?_, ?_⟩
  · rw [w0 0 (by decide) (by decide), ho i (by omega) (by omega)]; exact ht.r0 hi
  · by_cases hik : i = k
    · subst hik; exact w2.1
    · rw [(w1 i hik).1, ho _ (by omega) (by omega)]; exact ht.r1 hi
  · by_cases hik : i = k
    · subst hik; exact w2.2
    · rw [(w1 i hik).2, ho _ (by omega) (by omega)]; exact ht.r2 hi
  · rw [ho 0 (by omega) (by omega), hcc] at hj
    exact TellL.mv (v := v) (by omega) (hg.n8 (by omega)) (ht.l (by omega)) ⟨by rw [w0 3 (by decide) (by decide)], by rw [w0 4 (by decide) (by decide)], by rw [w0 5 (by decide) (by decide)], by rw [w0 6 (by decide) (by decide)], by rw [w0 7 (by decide) (by decide)], w0 _ (by omega) (by omega), w0 _ (by omega) (by omega), w0 _ (by omega) (by omega), w0 _ (by omega) (by omega)⟩ (fun i hi => ho i (by omega) (by omega))
  · rw [ho 1 (by omega) (by omega)] at hi
    rw [w0 8 (by decide) (by decide), w0 9 (by decide) (by decide), ho _ (by omega) (by omega), ho _ (by omega) (by omega)]; exact ht.co hi
  · intro j hj
    rw [ho 0 (by omega) (by omega), hcc] at hj
    exact GEq.wl (fun i hi => ho i (by omega) (by omega)) (hg.n8 (by omega)) (hg.2.1 j (by omega))
  · intro i hi
    rw [ho 1 (by omega) (by omega)] at hi
    rw [ho _ (by omega) (by omega)]; exact hg.2.2.1 i hi
  · intro s9
    rw [ho 0 (by omega) (by omega), cntM_eq _ (fun j hj => ho (34 + j) (by omega) (by omega))]
    exact hg.2.2.2.1 s9
  · intro q hq
    rw [ho 0 (by omega) (by omega)]
    have : sumJ (ndG h q) (cN (g 0)) = sumJ (ndG g q) (cN (g 0)) := by
      refine sumJ_t _ (fun i hi => ?_)
      rw [hcc] at hi
      exact ndG_congr (by omega) (ho _ (by omega) (by omega)) (ho _ (by omega) (by omega)) (fun q hq => ho q (by omega) (by omega))
    rw [this, ← hg.2.2.2.2 q hq]
    by_cases hqk : q = k
    · subst hqk; exact hs
    · rw [ho _ (by omega) (by omega), ho _ (by omega) (by omega)]
theorem lose_ok {kd ps : Int32} (ht : Tell v (gV g)) (hg : WFG g) : ChOK v k1 k2 k3 s g (loseC v k1 k2 k3 kd ps) (losesM s g kd ps) := by
  have hwf := losesM_wf (s := s) (kd := kd) (ps := ps) hg.1
  unfold loseC
  unfold losesM at hwf ⊢
  by_cases h1 : inB kd 0 5
  · rw [if_pos h1] at hwf ⊢
    by_cases h2 : inB ps 1 9
    · rw [if_pos h2] at hwf ⊢
      rw [if_pos ⟨h1, h2⟩]
      obtain ⟨k, hk, rfl⟩ := in_n (n := 5) (by decide) h1
      rw [cN_nI (show k < 2 ^ 31 by omega)] at hwf ⊢
      have e1 := ht.r1 (i := k) (by omega)
      have e2 := ht.r2 (i := k) (by omega)
      rw [e1]
      by_cases h3 : ps ≤ g (6 + k)
      · rw [if_pos h3] at hwf ⊢
        rw [if_pos h3]
        have e9 : upd g (6 + k) (g (6 + k) - ps) (12 + k) = g (12 + k) := upd_off (by omega)
        rw [e9] at hwf ⊢
        obtain ⟨h, hh⟩ : ∃ h, h = upd (upd g (6 + k) (g (6 + k) - ps)) (12 + k) (g (12 + k) + ps) := ⟨_, rfl⟩
        rw [← hh] at hwf ⊢
        have ho : ∀ i : Nat, ¬ i = 6 + k → ¬ i = 12 + k → h i = g i := fun i h1 h2 => by rw [hh, upd_off h2, upd_off h1]
        have h6 : h (6 + k) = g (6 + k) - ps := by rw [hh, upd_off (by omega), upd_at]
        have h12 : h (12 + k) = g (12 + k) + ps := by rw [hh, upd_at]
        obtain ⟨a, b⟩ := tin_two (h := h) (w := loseV v k ps) hg ht (by omega) hwf ho (by rw [h6, h12]; exact pq_move _ _ _) (fun r hr1 hr2 => by unfold loseV; rw [set1_row hr2, set1_row hr1]) (fun i hi => by simp [loseV, set1_q, hi]) (by rw [h6, h12]; simp [loseV, set1_q, e1, e2])
        rw [h6]
        exact ChOK.yes (ge_m1 (Int32.sub_nonneg_of_le (Int32.le_trans (show (0 : Int32) ≤ 1 by decide) (Int32.not_lt.mp h2.1)) h3)) a b
      · rw [if_neg h3, if_neg h3]
        exact ChOK.no
    · rw [if_neg h2, if_neg (fun z => h2 z.2)]
      exact ChOK.no
  · rw [if_neg h1, if_neg (fun z => h1 z.1)]
    exact ChOK.no
theorem find_ok {kd ps : Int32} (ht : Tell v (gV g)) (hg : WFG g) : ChOK v k1 k2 k3 s g (findC v k1 k2 k3 kd ps) (findsM s g kd ps) := by
  have hwf := findsM_wf (s := s) (kd := kd) (ps := ps) hg.1
  unfold findC
  unfold findsM at hwf ⊢
  by_cases h1 : inB kd 0 5
  · rw [if_pos h1] at hwf ⊢
    by_cases h2 : inB ps 1 9
    · rw [if_pos h2] at hwf ⊢
      rw [if_pos ⟨h1, h2⟩]
      obtain ⟨k, hk, rfl⟩ := in_n (n := 5) (by decide) h1
      rw [cN_nI (show k < 2 ^ 31 by omega)] at hwf ⊢
      have e1 := ht.r1 (i := k) (by omega)
      have e2 := ht.r2 (i := k) (by omega)
      rw [e2]
      by_cases h3 : ps ≤ g (12 + k)
      · rw [if_pos h3] at hwf ⊢
        rw [if_pos h3]
        have e9 : upd g (12 + k) (g (12 + k) - ps) (6 + k) = g (6 + k) := upd_off (by omega)
        rw [e9] at hwf ⊢
        obtain ⟨h, hh⟩ : ∃ h, h = upd (upd g (12 + k) (g (12 + k) - ps)) (6 + k) (g (6 + k) + ps) := ⟨_, rfl⟩
        rw [← hh] at hwf ⊢
        have ho : ∀ i : Nat, ¬ i = 6 + k → ¬ i = 12 + k → h i = g i := fun i h1 h2 => by rw [hh, upd_off h1, upd_off h2]
        have h12 : h (12 + k) = g (12 + k) - ps := by rw [hh, upd_off (by omega), upd_at]
        have h6 : h (6 + k) = g (6 + k) + ps := by rw [hh, upd_at]
        obtain ⟨a, b⟩ := tin_two (h := h) (w := findV v k ps) hg ht (by omega) hwf ho (by rw [h6, h12, Int32.add_comm, pq_move, Int32.add_comm]) (fun r hr1 hr2 => by unfold findV; rw [set1_row hr1, set1_row hr2]) (fun i hi => by simp [findV, set1_q, hi]) (by rw [h6, h12]; simp [findV, set1_q, e1, e2])
        rw [h12]
        exact ChOK.yes (ge_m1 (Int32.sub_nonneg_of_le (Int32.le_trans (show (0 : Int32) ≤ 1 by decide) (Int32.not_lt.mp h2.1)) h3)) a b
      · rw [if_neg h3, if_neg h3]
        exact ChOK.no
    · rw [if_neg h2, if_neg (fun z => h2 z.2)]
      exact ChOK.no
  · rw [if_neg h1, if_neg (fun z => h1 z.1)]
    exact ChOK.no
end OK2
