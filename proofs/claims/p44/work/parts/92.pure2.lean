/-! ===== single calls of the law, told outright ===== -/
theorem sv_ok (S : StZ) : ob_save S = (S.2.1 0, upd (upd S.1 5 1) 14 0, S.2.1, S.2.2.1, S.2.1, S.2.2.2.2) := rfl
theorem ac_9 (S : StZ) : ob_account S 9 = (S.1 3, 0) := by
  unfold ob_account accM
  rw [if_neg (by decide), if_neg (by decide), if_neg (by decide), if_neg (by decide), if_neg (by decide), if_neg (by decide), if_neg (by decide), if_neg (by decide), if_neg (by decide), if_pos (by decide)]
  exact pr_ok rfl
theorem ac_10 (S : StZ) : ob_account S 10 = (S.1 7, 0) := by
  unfold ob_account accM
  rw [if_neg (by decide), if_neg (by decide), if_neg (by decide), if_neg (by decide), if_neg (by decide), if_neg (by decide), if_neg (by decide), if_neg (by decide), if_neg (by decide), if_neg (by decide), if_pos (by decide)]
  exact pr_ok rfl
theorem fp_8 (S : StZ) : ob_faultPosition S = (S.1 8, 0) := Prod.ext rfl (show upd S.1 14 0 14 = 0 from upd_at)
theorem re_0 {S : StZ} {v : Int32} (h : S.1 9 = v) (hv : ¬ v = 0) : ob_reason S 0 = (v, 0) := by
  unfold ob_reason reasM
  rw [if_pos (by decide), if_neg (by rw [h]; exact hv), if_pos (by decide), h]
  exact pr_ok rfl
theorem re_1 {S : StZ} {v u : Int32} (h9 : S.1 9 = v) (hv : ¬ v = 0) (h : S.1 10 = u) : ob_reason S 1 = (u, 0) := by
  unfold ob_reason reasM
  rw [if_pos (by decide), if_neg (by rw [h9]; exact hv), if_neg (by decide), if_pos (by decide), h]
  exact pr_ok rfl
theorem re_2 {S : StZ} {v u : Int32} (h9 : S.1 9 = v) (hv : ¬ v = 0) (h : S.1 11 = u) : ob_reason S 2 = (u, 0) := by
  unfold ob_reason reasM
  rw [if_pos (by decide), if_neg (by rw [h9]; exact hv), if_neg (by decide), if_neg (by decide), h]
  exact pr_ok rfl
theorem shf_ok {S : StZ} {n o : Nat} (h0 : S.2.1 0 = nI n) (hn : n ≤ 8) (ho : o ≤ 3) : ob_shelfOf S (nI o) = (onM S.2.1 (nI o) n, 0) := by
  unfold ob_shelfOf shelfM
  rw [if_pos (sh_in o ho), h0, cN_nI (by omega)]
  exact pr_ok rfl
theorem mk_move {S : StZ} {ct : Nat} {sh v : Int32} {g2 : PR} (e : movesM S.1 S.2.1 0 sh = (v, upd S.1 14 0, g2)) (h3 : S.1 3 = nI ct) (hc : ct ≤ 8) : ob_move S 0 sh = (v, upd (upd S.1 14 0) 3 (nI (min (ct + 1) 8)), g2, hisM S.2.2.1 S.2.1 ct, S.2.2.2) := by
  obtain ⟨c1, c2, c3, c4⟩ := kept_yes (s := upd S.1 14 0) (g := g2) (bf := S.2.1) (hs := S.2.2.1) (x := v) (ct := ct) upd_at (by rw [upd_off (by decide)]; exact h3) hc
  unfold ob_move moveM looksM
  dsimp only
  rw [e]
  dsimp only
  rw [c1, c2, c3, c4]
theorem undo_ok {S : StZ} {k : Nat} (h3 : S.1 3 = nI k) (h1 : 1 ≤ k) (h8 : k ≤ 8) : ob_undo S = (nI (k - 1), upd (upd S.1 3 (nI (k - 1))) 14 0, (fun j9 => S.2.2.1 ((k - 1) * 324 + j9)), S.2.2) := by
  have hne : ¬ S.1 3 = 0 := by rw [h3]; exact fun z => by have := (nI_eq (a := k) (b := 0) (by omega) (by decide)).mp z; omega
  unfold ob_undo undoM
  rw [if_neg hne, h3, cN_nI (by omega), nI_m1 (by omega)]
theorem rest_ok {S : StZ} (h5 : S.1 5 = 1) : ob_restore S = (S.2.2.2.1 0, upd (upd S.1 3 0) 14 0, S.2.2.2.1, S.2.2) := by
  unfold ob_restore restM
  rw [if_neg (by rw [h5]; decide)]
/-- a text's characters, one by one -/
theorem asc_mm : ∀ o : Nat, o < 4 → ∀ s : Nat, s < 4 → ∀ i, i < 9 → chC ((tx_mm o s).getD i 0 &&& 255) = (tx_mm o s).getD i 0 := by decide
theorem asc_tmm {o s : Nat} (ho : o ≤ 3) (hs : s ≤ 3) : AscT (tx_mm o s) := fun i hi => asc_mm o (by omega) s (by omega) i hi
theorem asc_app {a b : List Int32} (ha : Asc a) (hb : Asc b) : Asc (a ++ b) := fun i => by
  by_cases h : i < a.length
  · have e : (a ++ b).getD i 0 = a.getD i 0 := by rw [List.getD_eq_getElem?_getD, List.getD_eq_getElem?_getD, List.getElem?_append_left h]
    rw [e]; exact ha i
  · have e : (a ++ b).getD i 0 = b.getD (i - a.length) 0 := by rw [List.getD_eq_getElem?_getD, List.getD_eq_getElem?_getD, List.getElem?_append_right (by omega)]
    rw [e]; exact hb _
theorem asc_nil : Asc [] := fun i => by
  have e : ([] : List Int32).getD i 0 = 0 := by simp
  rw [e]; rfl
theorem asc_of {a : List Int32} (h : ∀ i, i < a.length → fits .byte (.int (a.getD i 0)) = true) : Asc a := fun i => by
  by_cases hi : i < a.length
  · exact h i hi
  · have e : a.getD i 0 = 0 := by rw [List.getD_eq_getElem?_getD, List.getElem?_eq_none (by omega)]; rfl
    rw [e]; rfl
theorem asc_dg1 : ∀ d : Nat, d < 10 → fits .byte (.int (nI (48 + d))) = true := by decide
theorem asc_dg {d : Nat} (h : d < 10) : Asc [nI (48 + d)] := asc_of (fun i hi => by
  have : i = 0 := by simp at hi; exact hi
  subst this
  exact asc_dg1 d h)
