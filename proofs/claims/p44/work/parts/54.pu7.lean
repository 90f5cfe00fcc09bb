/-! ===== a text read and done: refused as unreadable, all done, or one order refused ===== -/
section PU7
variable {v : Nat → Nat → Int32} {s g nd bf hs ip f td : Nat → Int32} {k1 k2 k3 : Int32} {len : Nat} {Cs : Nat → CM}
theorem all_s (he : RdE ip f len) (h7 : s 7 = nI len) : AllK s len (csR f len 20 0 0 Cs) (rdL g ip 21 (upd (upd s 16 0) 17 0) td 0) :=
  all_ok he 20 0 0 Cs _ td rfl (by omega) (Nat.zero_le _) ⟨upd_at, by rw [upd_off (by decide), upd_at]; rfl, by rw [upd_off (by decide), upd_off (by decide)]; exact h7, fun q a b => by rw [upd_off b, upd_off a]⟩ (fun i hi => absurd hi (Nat.not_lt_zero _))
theorem com_no (he : RdE ip f len) (h7 : s 7 = nI len) (hR : (csR f len 20 0 0 Cs).1 = 0) : (comM s g nd bf hs ip td).1 = 0 ∧ (comM s g nd bf hs ip td).2.1 7 = 0 ∧ (comM s g nd bf hs ip td).2.1 8 = nI (csR f len 20 0 0 Cs).2.1 ∧ (comM s g nd bf hs ip td).2.1 14 = 1 ∧ (∀ q, ¬ q = 7 → ¬ q = 8 → ¬ q = 14 → ¬ q = 16 → ¬ q = 17 → (comM s g nd bf hs ip td).2.1 q = s q) ∧ (comM s g nd bf hs ip td).2.2.1 = g ∧ (comM s g nd bf hs ip td).2.2.2.2.2.1 = hs := by
  obtain ⟨e16, e7, efr, hle, h | h⟩ := all_s (g := g) (td := td) (Cs := Cs) he h7
  · unfold comM
    generalize rdL g ip 21 (upd (upd s 16 0) 17 0) td 0 = S at *
    rw [if_pos h.2]
    refine ⟨rfl, ?_, ?_, ?_, fun q q1 q2 q3 q4 q5 => ?_, rfl, rfl⟩
    · show upd (upd (upd (upd S.1 17 1) 7 0) 8 (S.1 16)) 14 1 7 = 0
      rw [upd_off (by decide), upd_off (by decide), upd_at]
    · show upd (upd (upd (upd S.1 17 1) 7 0) 8 (S.1 16)) 14 1 8 = _
      rw [upd_off (by decide), upd_at]; exact e16
    · show upd (upd (upd (upd S.1 17 1) 7 0) 8 (S.1 16)) 14 1 14 = 1
      exact upd_at
    · show upd (upd (upd (upd S.1 17 1) 7 0) 8 (S.1 16)) 14 1 q = _
      rw [upd_off q3, upd_off q2, upd_off q1, upd_off q5]; exact efr q q4 q5
  · exact absurd hR h.1
def ComY (v : Nat → Nat → Int32) (s g hs : Nat → Int32) (k1 k2 k3 : Int32) (n ct : Nat) (Cs : Nat → CM) (a : Int32) (s' g' hs' : Nat → Int32) : Prop :=
  ((∀ j, j < n → ¬ (atC Cs (v, k1, k2, k3) j).1 = -1) ∧ Tell (itC Cs (v, k1, k2, k3) n).1 (gV g') ∧ WFG g' ∧ (itC Cs (v, k1, k2, k3) n).2 = (k1, k2, k3) ∧ a = nI n ∧ s' 3 = nI (min (ct + 1) 8) ∧ s' 7 = 0 ∧ s' 8 = -1 ∧ s' 14 = 0 ∧ (∀ q, ¬ q = 3 → ¬ q = 7 → ¬ q = 8 → ¬ q = 14 → ¬ q = 16 → ¬ q = 17 → s' q = s q) ∧ hs' = hisM hs g ct) ∨
  (∃ m, m < n ∧ (∀ j, j < m → ¬ (atC Cs (v, k1, k2, k3) j).1 = -1) ∧ (atC Cs (v, k1, k2, k3) m).1 = -1 ∧ a = 0 ∧ s' 9 = (atC Cs (v, k1, k2, k3) m).2.2.1 ∧ s' 10 = (atC Cs (v, k1, k2, k3) m).2.2.2.1 ∧ s' 11 = nI m ∧ s' 7 = 0 ∧ s' 8 = -1 ∧ s' 14 = 2 ∧ (∀ q, ¬ q = 7 → ¬ q = 8 → ¬ q = 9 → ¬ q = 10 → ¬ q = 11 → ¬ q = 14 → ¬ q = 16 → ¬ q = 17 → s' q = s q) ∧ g' = g ∧ hs' = hs)
theorem com_yes {ct : Nat} (he : RdE ip f len) (h7 : s 7 = nI len) (hR : ¬ (csR f len 20 0 0 Cs).1 = 0) (ht : Tell v (gV g)) (hg : WFG g) (h3 : s 3 = nI ct) (hc : ct ≤ 8) : ComY v s g hs k1 k2 k3 (csR f len 20 0 0 Cs).2.2.1 ct (csR f len 20 0 0 Cs).2.2.2 (comM s g nd bf hs ip td).1 (comM s g nd bf hs ip td).2.1 (comM s g nd bf hs ip td).2.2.1 (comM s g nd bf hs ip td).2.2.2.2.2.1 := by
  obtain ⟨e16, e7, efr, hle, h | ⟨-, h, hn, hn20, hT⟩⟩ := all_s (g := g) (td := td) (Cs := Cs) he h7
  · exact absurd h.1 hR
  unfold comM
  generalize rdL g ip 21 (upd (upd s 16 0) 17 0) td 0 = S at *
  generalize csR f len 20 0 0 Cs = R at *
  rw [if_neg h, hn]
  have hz : ∀ q, ¬ q = 7 → ¬ q = 8 → ¬ q = 16 → ¬ q = 17 → upd (upd (upd S.1 17 0) 7 0) 8 (-1) q = s q := fun q q1 q2 q3 q4 => by rw [upd_off q2, upd_off q1, upd_off q4]; exact efr q q3 q4
  have hr := run_ok (S := (v, k1, k2, k3)) hT R.2.2.1 0 (upd (upd (upd S.1 17 0) 7 0) 8 (-1), g, nd) (by omega) ht hg rfl
  generalize doL S.2.1 R.2.2.1 0 (upd (upd (upd S.1 17 0) 7 0) 8 (-1), g, nd) = D at *
  unfold comK
  rcases hr with ⟨a1, a2, a3, a4, a5, a6⟩ | ⟨m, a1, a2, a3, a4, a5, a6, a7, a8, a9⟩
  · rw [if_pos a1]
    obtain ⟨c1, c2, c3, c4⟩ := kept_yes (s := upd D.2.2.1 14 0) (g := D.2.2.2.1) (bf := g) (hs := hs) (x := nI R.2.2.1) (ct := ct) upd_at (by rw [upd_off (by decide), a6 3 (by decide)]; exact (hz 3 (by decide) (by decide) (by decide) (by decide)).trans h3) hc
    refine Or.inl ⟨fun j hj => a2 j (Nat.zero_le _) hj, ?_, ?_, a5, c1, ?_, ?_, ?_, ?_, fun q q1 q2 q3 q4 q5 q6 => ?_, c4⟩
    · rw [c3]; exact a3
    · rw [c3]; exact a4
    · show (keptM (upd D.2.2.1 14 0) D.2.2.2.1 g hs (nI R.2.2.1)).2.1 3 = _
      rw [c2, upd_at]
    · show (keptM (upd D.2.2.1 14 0) D.2.2.2.1 g hs (nI R.2.2.1)).2.1 7 = _
      rw [c2, upd_off (by decide), upd_off (by decide), a6 7 (by decide)]
      show upd (upd (upd S.1 17 0) 7 0) 8 (-1) 7 = 0
      rw [upd_off (by decide), upd_at]
    · show (keptM (upd D.2.2.1 14 0) D.2.2.2.1 g hs (nI R.2.2.1)).2.1 8 = _
      rw [c2, upd_off (by decide), upd_off (by decide), a6 8 (by decide)]
      show upd (upd (upd S.1 17 0) 7 0) 8 (-1) 8 = -1
      exact upd_at
    · show (keptM (upd D.2.2.1 14 0) D.2.2.2.1 g hs (nI R.2.2.1)).2.1 14 = _
      rw [c2, upd_off (by decide), upd_at]
    · show (keptM (upd D.2.2.1 14 0) D.2.2.2.1 g hs (nI R.2.2.1)).2.1 q = _
      rw [c2, upd_off q1, upd_off q4, a6 q q4]
      exact hz q q2 q3 q5 q6
  · have h14 : ¬ upd (upd D.2.2.1 11 (nI (D.1 - 1))) 14 2 14 = 0 := by rw [upd_at]; decide
    rw [if_neg (show ¬ D.1 = 0 by omega), kept_no h14]
    have hm : D.1 - 1 = m := by omega
    rw [hm]
    refine Or.inr ⟨m, a2, fun j hj => a4 j (Nat.zero_le _) hj, a5, rfl, ?_, ?_, ?_, ?_, ?_, ?_, fun q q1 q2 q3 q4 q5 q6 q7 q8 => ?_, rfl, rfl⟩
    · show upd (upd D.2.2.1 11 (nI m)) 14 2 9 = _
      rw [upd_off (by decide), upd_off (by decide)]; exact a7
    · show upd (upd D.2.2.1 11 (nI m)) 14 2 10 = _
      rw [upd_off (by decide), upd_off (by decide)]; exact a8
    · show upd (upd D.2.2.1 11 (nI m)) 14 2 11 = _
      rw [upd_off (by decide), upd_at]
    · show upd (upd D.2.2.1 11 (nI m)) 14 2 7 = _
      rw [upd_off (by decide), upd_off (by decide), a9 7 (by decide) (by decide) (by decide) (by decide)]
      show upd (upd (upd S.1 17 0) 7 0) 8 (-1) 7 = 0
      rw [upd_off (by decide), upd_at]
    · show upd (upd D.2.2.1 11 (nI m)) 14 2 8 = _
      rw [upd_off (by decide), upd_off (by decide), a9 8 (by decide) (by decide) (by decide) (by decide)]
      show upd (upd (upd S.1 17 0) 7 0) 8 (-1) 8 = -1
      exact upd_at
    · show upd (upd D.2.2.1 11 (nI m)) 14 2 14 = 2
      exact upd_at
    · show upd (upd D.2.2.1 11 (nI m)) 14 2 q = _
      rw [upd_off q6, upd_off q5, a9 q q3 q4 q5 q6]
      exact hz q q1 q2 q7 q8
end PU7
