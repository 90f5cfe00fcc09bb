/-! ===== what the law finds of an archive that was built: moves, texts of orders, what is undone ===== -/
/-! at most three boxes a shelf, eight in all -/
theorem cnt_3 {g : PR} {a b c : Int32} (hab : ¬ a = b) (hac : ¬ a = c) (hbc : ¬ b = c) : ∀ n, cntM g a n + cntM g b n + cntM g c n ≤ n
  | 0 => Nat.le_refl _
  | n + 1 => by
    have ih := cnt_3 (g := g) hab hac hbc n
    rw [cntM, cntM, cntM]
    by_cases h1 : g (34 + n) = a
    · rw [if_pos h1, if_neg (fun z => hab (h1.symm.trans z)), if_neg (fun z => hac (h1.symm.trans z))]; omega
    · by_cases h2 : g (34 + n) = b
      · rw [if_neg h1, if_pos h2, if_neg (fun z => hbc (h2.symm.trans z))]; omega
      · rw [if_neg h1, if_neg h2]
        split <;> omega
theorem nI_ne4 {a b : Nat} (ha : a ≤ 3) (hb : b ≤ 3) (h : ¬ a = b) : ¬ nI a = nI b := fun z => h ((nI_eq (by omega) (by omega)).mp z)
/-- a shelf that isn't full, another than s -/
theorem shelf_ex {g : PR} {n : Nat} (hn : n ≤ 8) (s : Nat) : ∃ w, w ≤ 3 ∧ ¬ w = s ∧ ¬ cntM g (nI w) n = 3 := by
  have key : ∀ a b c : Nat, a ≤ 3 → b ≤ 3 → c ≤ 3 → ¬ a = b → ¬ a = c → ¬ b = c → ¬ (cntM g (nI a) n = 3 ∧ cntM g (nI b) n = 3 ∧ cntM g (nI c) n = 3) := by
    intro a b c ha hb hc h1 h2 h3 h
    have := cnt_3 (g := g) (nI_ne4 ha hb h1) (nI_ne4 ha hc h2) (nI_ne4 hb hc h3) n
    omega
  by_cases hs0 : s = 0
  · have := key 1 2 3 (by decide) (by decide) (by decide) (by decide) (by decide) (by decide)
    by_cases h1 : cntM g (nI 1) n = 3
    · by_cases h2 : cntM g (nI 2) n = 3
      · exact ⟨3, by decide, by omega, fun h3 => this ⟨h1, h2, h3⟩⟩
      · exact ⟨2, by decide, by omega, h2⟩
    · exact ⟨1, by decide, by omega, h1⟩
  · by_cases hs1 : s = 1
    · have := key 0 2 3 (by decide) (by decide) (by decide) (by decide) (by decide) (by decide)
      by_cases h1 : cntM g (nI 0) n = 3
      · by_cases h2 : cntM g (nI 2) n = 3
        · exact ⟨3, by decide, by omega, fun h3 => this ⟨h1, h2, h3⟩⟩
        · exact ⟨2, by decide, by omega, h2⟩
      · exact ⟨0, by decide, by omega, h1⟩
    · by_cases hs2 : s = 2
      · have := key 0 1 3 (by decide) (by decide) (by decide) (by decide) (by decide) (by decide)
        by_cases h1 : cntM g (nI 0) n = 3
        · by_cases h2 : cntM g (nI 1) n = 3
          · exact ⟨3, by decide, by omega, fun h3 => this ⟨h1, h2, h3⟩⟩
          · exact ⟨1, by decide, by omega, h2⟩
        · exact ⟨0, by decide, by omega, h1⟩
      · have := key 0 1 2 (by decide) (by decide) (by decide) (by decide) (by decide) (by decide)
        by_cases h1 : cntM g (nI 0) n = 3
        · by_cases h2 : cntM g (nI 1) n = 3
          · exact ⟨2, by decide, by omega, fun h3 => this ⟨h1, h2, h3⟩⟩
          · exact ⟨1, by decide, by omega, h2⟩
        · exact ⟨0, by decide, by omega, h1⟩
theorem sh_in : ∀ o : Nat, o ≤ 3 → inB (nI o) 0 3 := fun o ho => ⟨nI_pos (by omega), fun z => by have := (nI_ltI (a := 3) (b := o) (by omega) (by omega)).mp z; omega⟩
theorem on_pop {g : PR} {n : Nat} (hn : n ≤ 8) (sh : Int32) : popF (onM g sh n) = nI (cntM g sh n) := by
  obtain ⟨m, hm, e⟩ := onM_nI (g := g) (sh := sh) n hn
  have h256 : m < 256 := Nat.lt_of_lt_of_le hm (Nat.le_trans (Nat.pow_le_pow_right (by decide) hn) (Nat.le_refl 256))
  rw [← bits_onM n hn, e, bits_pop m h256]
/-- what the law asks of an archive: n leaflets, the first on the shelf s; o is another shelf that isn't full -/
def Arch (g : PR) (n s o : Nat) : Prop := 1 ≤ n ∧ n ≤ 8 ∧ g 0 = nI n ∧ g 34 = nI s ∧ s ≤ 3 ∧ o ≤ 3 ∧ ¬ o = s ∧ ¬ cntM g (nI o) n = 3 ∧ cntM g (nI s) n ≤ 3
theorem zero_in {n : Nat} (h1 : 1 ≤ n) (h8 : n ≤ 8) : inB 0 0 (nI n - 1) := inB_lt (l := 0) (n := n) h1 (by omega)
theorem mv_ok {s g : PR} {n sh : Nat} (h0 : g 0 = nI n) (h1 : 1 ≤ n) (h8 : n ≤ 8) (hsh : sh ≤ 3) (hne : ¬ g 34 = nI sh) (hf : ¬ cntM g (nI sh) n = 3) : movesM s g 0 (nI sh) = (g 34, upd s 14 0, upd g 34 (nI sh)) := by
  have hb : ¬ bitsJ (onM g (nI sh) (cN (g 0))) 8 = 3 := by
    rw [h0, cN_nI (by omega), bits_onM n h8]
    exact fun z => hf ((nI_eq (b := 3) (by have := cntM_le (g := g) (sh := nI sh) n; omega) (by decide)).mp z)
  unfold movesM
  rw [if_pos (by rw [h0]; exact zero_in h1 h8), if_pos (sh_in sh hsh), show cN 0 = 0 from rfl, Nat.add_zero, if_neg hne, if_neg hb]
theorem mv_no {s g : PR} {n sh : Nat} (h0 : g 0 = nI n) (h1 : 1 ≤ n) (h8 : n ≤ 8) (hsh : sh ≤ 3) (he : g 34 = nI sh) : movesM s g 0 (nI sh) = (0, upd (upd (upd (upd s 9 12) 10 (nI sh)) 11 0) 14 1, g) := by
  unfold movesM
  rw [if_pos (by rw [h0]; exact zero_in h1 h8), if_pos (sh_in sh hsh), show cN 0 = 0 from rfl, Nat.add_zero, if_pos he]
theorem cnt_away {g : PR} {s o : Int32} (hs : g 34 = s) (ho : ¬ o = s) : ∀ n, 1 ≤ n → cntM (upd g 34 o) s n + 1 = cntM g s n
  | 0, h => absurd h (by decide)
  | 1, _ => by
    rw [cntM, cntM, cntM, cntM, show 34 + 0 = 34 from rfl, upd_at, if_neg ho, if_pos hs]
  | n + 2, _ => by
    have ih := cnt_away hs ho (n + 1) (by omega)
    rw [cntM, cntM.eq_def g s (n + 2)]
    simp only
    rw [upd_off (show ¬ 34 + (n + 1) = 34 by omega)]
    split <;> omega
theorem upd_back {g : PR} {s o : Int32} (hs : g 34 = s) : upd (upd g 34 o) 34 s = g := by
  funext i
  by_cases h : i = 34
  · rw [h, upd_at, hs]
  · rw [upd_off h, upd_off h]
/-- the first move and the move back -/
theorem mv_1 {s g : PR} {n sh o : Nat} (h : Arch g n sh o) : movesM s g 0 (nI o) = (nI sh, upd s 14 0, upd g 34 (nI o)) := by
  obtain ⟨a1, a2, a3, a4, a5, a6, a7, a8, a9⟩ := h
  rw [mv_ok a3 a1 a2 a6 (by rw [a4]; exact fun z => nI_ne4 a5 a6 (fun q => a7 q.symm) z) a8, a4]
theorem mv_2 {s g : PR} {n sh o : Nat} (h : Arch g n sh o) : movesM s (upd g 34 (nI o)) 0 (nI sh) = (nI o, upd s 14 0, g) := by
  obtain ⟨a1, a2, a3, a4, a5, a6, a7, a8, a9⟩ := h
  have hc := cnt_away (o := nI o) a4 (nI_ne4 a6 a5 a7) n a1
  rw [mv_ok (n := n) (by rw [upd_off (by decide)]; exact a3) a1 a2 a5 (by rw [upd_at]; exact nI_ne4 a6 a5 a7) (by omega), upd_at, upd_back a4]
theorem mv_22 {s g : PR} {n sh o : Nat} (h : Arch g n sh o) : movesM s (upd g 34 (nI o)) 0 (nI o) = (0, upd (upd (upd (upd s 9 12) 10 (nI o)) 11 0) 14 1, upd g 34 (nI o)) := by
  obtain ⟨a1, a2, a3, a4, a5, a6, a7, a8, a9⟩ := h
  exact mv_no (n := n) (by rw [upd_off (by decide)]; exact a3) a1 a2 a6 upd_at
/-! the rows kept -/
theorem his_top {hs bf : PR} {ct j : Nat} (hc : ct ≤ 8) (hj : j < 324) : hisM hs bf ct ((min (ct + 1) 8 - 1) * 324 + j) = bf j := by
  unfold hisM
  by_cases h : ct = 8
  · rw [if_pos h, h]
    have := cpyJ_at (f := bf) (h := shJ hs 2268) (p := 0) (q := 7 * 324) (k := 324) (j := j) hj
    rw [Nat.zero_add] at this
    exact this
  · rw [if_neg h, Nat.min_eq_left (by omega), Nat.add_sub_cancel]
    have := cpyJ_at (f := bf) (h := hs) (p := 0) (q := ct * 324) (k := 324) (j := j) hj
    rw [Nat.zero_add] at this
    exact this
theorem his_below {hs bf : PR} {ct j : Nat} (h1 : 1 ≤ ct) (hc : ct ≤ 8) (hj : j < 324) : hisM hs bf ct ((min (ct + 1) 8 - 2) * 324 + j) = hs ((ct - 1) * 324 + j) := by
  unfold hisM
  by_cases h : ct = 8
  · rw [if_pos h, h, cpyJ_off (fun k hk => by omega)]
    show (if 6 * 324 + j < 2268 then hs (6 * 324 + j + 324) else hs (6 * 324 + j)) = _
    rw [if_pos (by omega)]
    exact congrArg hs (by omega)
  · rw [if_neg h, Nat.min_eq_left (by omega), cpyJ_off (fun k hk => by omega)]
    exact congrArg hs (by omega)
/-! orders out of a text -/
theorem com_run {s g nd bf hs ip td f : PR} {len : Nat} (he : RdE ip f len) (h7 : s 7 = nI len) (C0 : Nat → CM) (hR : ¬ (csR f len 20 0 0 C0).1 = 0) :
    ∃ (td2 s1 : PR), comM s g nd bf hs ip td = comK g bf hs td2 (csR f len 20 0 0 C0).2.2.1 (doL td2 (csR f len 20 0 0 C0).2.2.1 0 (s1, g, nd)) ∧ (∀ i, i < (csR f len 20 0 0 C0).2.2.1 → TdC td2 (5 * i) ((csR f len 20 0 0 C0).2.2.2 i)) ∧ s1 7 = 0 ∧ s1 8 = -1 ∧ ∀ q, ¬ q = 7 → ¬ q = 8 → ¬ q = 16 → ¬ q = 17 → s1 q = s q := by
  obtain ⟨e16, e7, efr, hle, h | ⟨-, h, hn, hn20, hT⟩⟩ := all_s (g := g) (td := td) (Cs := C0) he h7
  · exact absurd h.1 hR
  unfold comM
  generalize rdL g ip 21 (upd (upd s 16 0) 17 0) td 0 = S at *
  rw [if_neg h, hn]
  refine ⟨S.2.1, upd (upd (upd S.1 17 0) 7 0) 8 (-1), rfl, hT, ?_, upd_at, fun q q1 q2 q3 q4 => ?_⟩
  · rw [upd_off (by decide), upd_at]
  · rw [upd_off q2, upd_off q1, upd_off q4]; exact efr q q3 q4
theorem does_m {s g nd td : PR} {k : Nat} (h : td k = 109) : doesM s g nd td k = ((movesM s g (td (k + 1)) (td (k + 2))).1, (movesM s g (td (k + 1)) (td (k + 2))).2.1, (movesM s g (td (k + 1)) (td (k + 2))).2.2, nd) := by
  unfold doesM
  rw [if_neg (by rw [h]; decide), if_neg (by rw [h]; decide), if_neg (by rw [h]; decide), if_neg (by rw [h]; decide), if_neg (by rw [h]; decide), if_neg (by rw [h]; decide), if_pos h]
theorem does_f {s g nd td : PR} {k : Nat} (h : td k = 102) : doesM s g nd td k = ((foldsM s g (td (k + 1)) 1).1, (foldsM s g (td (k + 1)) 1).2.1, (foldsM s g (td (k + 1)) 1).2.2, nd) := by
  unfold doesM
  rw [if_neg (by rw [h]; decide), if_neg (by rw [h]; decide), if_neg (by rw [h]; decide), if_neg (by rw [h]; decide), if_pos h]
theorem does_s {s g nd td : PR} {k : Nat} (h : td k = 115) : doesM s g nd td k = ((addsM s g (td (k + 1)) (td (k + 2)) (td (k + 3)) (td (k + 4)) 0).1, (addsM s g (td (k + 1)) (td (k + 2)) (td (k + 3)) (td (k + 4)) 0).2.1, (addsM s g (td (k + 1)) (td (k + 2)) (td (k + 3)) (td (k + 4)) 0).2.2, nd) := by
  unfold doesM
  rw [if_neg (by rw [h]; decide), if_neg (by rw [h]; decide), if_neg (by rw [h]; decide), if_neg (by rw [h]; decide), if_neg (by rw [h]; decide), if_neg (by rw [h]; decide), if_neg (by rw [h]; decide), if_pos h]
/-- the texts of the law -/
abbrev tx_mm (o s : Nat) : List Int32 := [109, 48, 64, nI (48 + o), 59, 109, 48, 64, nI (48 + s)]
abbrev tx_f9 : List Int32 := [102, 57]
abbrev tx_s7 : List Int32 := [115, 48, 58, 51, 42, 50, 61, 55]
abbrev cmZ : Nat → CM := fun _ => (0, zR, 0, 0)
abbrev txF (cs : List Int32) : PR := fun i => cs.getD i 0
theorem rd_mm : ∀ o : Nat, o < 4 → ∀ s : Nat, s < 4 → ¬ (csR (txF (tx_mm o s)) 9 20 0 0 cmZ).1 = 0 ∧ (csR (txF (tx_mm o s)) 9 20 0 0 cmZ).2.2.1 = 2 ∧ ((csR (txF (tx_mm o s)) 9 20 0 0 cmZ).2.2.2 0).1 = 109 ∧ ((csR (txF (tx_mm o s)) 9 20 0 0 cmZ).2.2.2 0).2.1 0 = 0 ∧ ((csR (txF (tx_mm o s)) 9 20 0 0 cmZ).2.2.2 0).2.1 1 = nI o ∧ ((csR (txF (tx_mm o s)) 9 20 0 0 cmZ).2.2.2 1).1 = 109 ∧ ((csR (txF (tx_mm o s)) 9 20 0 0 cmZ).2.2.2 1).2.1 0 = 0 ∧ ((csR (txF (tx_mm o s)) 9 20 0 0 cmZ).2.2.2 1).2.1 1 = nI s := by decide +kernel
theorem rd_f9 : ¬ (csR (txF tx_f9) 2 20 0 0 cmZ).1 = 0 ∧ (csR (txF tx_f9) 2 20 0 0 cmZ).2.2.1 = 1 ∧ ((csR (txF tx_f9) 2 20 0 0 cmZ).2.2.2 0).1 = 102 ∧ ((csR (txF tx_f9) 2 20 0 0 cmZ).2.2.2 0).2.1 0 = 9 := by decide +kernel
theorem rd_s7 : ¬ (csR (txF tx_s7) 8 20 0 0 cmZ).1 = 0 ∧ (csR (txF tx_s7) 8 20 0 0 cmZ).2.2.1 = 1 ∧ ((csR (txF tx_s7) 8 20 0 0 cmZ).2.2.2 0).1 = 115 ∧ ((csR (txF tx_s7) 8 20 0 0 cmZ).2.2.2 0).2.1 0 = 0 ∧ ((csR (txF tx_s7) 8 20 0 0 cmZ).2.2.2 0).2.1 1 = 3 ∧ ((csR (txF tx_s7) 8 20 0 0 cmZ).2.2.2 0).2.1 2 = 2 ∧ ((csR (txF tx_s7) 8 20 0 0 cmZ).2.2.2 0).2.2.2 = 128 := by decide +kernel
/-- characters as the reader has them -/
theorem rde_of {cs : List Int32} (hA : AscT cs) (hn : cs.length ≤ 60) : RdE (txF cs) (txF cs) cs.length := ⟨fun _ _ => rfl, fun i hi => ⟨cs.getD i 0 &&& 255, (hA i hi).symm⟩, hn⟩
/-- both moves by a text -/
theorem com_of {S : StZ} {C : Int32 × PR × PR × PR × PR × PR × PR} (e : comM S.1 S.2.1 zR zR S.2.2.1 S.2.2.2.2.1 zR = C) : ob_com S = (C.1, C.2.1, C.2.2.1, C.2.2.2.2.2.1, S.2.2.2) := by
  subst e
  rfl
theorem com_mm {S : StZ} {n sh o ct : Nat} (h : Arch S.2.1 n sh o) (h3 : S.1 3 = nI ct) (hc : ct ≤ 8) (hA : AscT (tx_mm o sh)) :
    (ob_com (putS S (tx_mm o sh))).1 = 2 ∧ (ob_com (putS S (tx_mm o sh))).2.1 14 = 0 ∧ (ob_com (putS S (tx_mm o sh))).2.2 = (S.2.1, hisM S.2.2.1 S.2.1 ct, S.2.2.2.1, txF (tx_mm o sh), S.2.2.2.2.2) ∧ (ob_com (putS S (tx_mm o sh))).2.1 3 = nI (min (ct + 1) 8) ∧ (ob_com (putS S (tx_mm o sh))).2.1 7 = 0 ∧ (ob_com (putS S (tx_mm o sh))).2.1 8 = -1 ∧ (ob_com (putS S (tx_mm o sh))).2.1 5 = S.1 5 := by
  obtain ⟨-, -, -, -, hs4, ho4, -⟩ := id h
  obtain ⟨r1, r2, r3, r4, r5, r6, r7, r8⟩ := rd_mm o (by omega) sh (by omega)
  obtain ⟨td2, s1, e1, e2, e3, e4, e5⟩ := com_run (s := (putS S (tx_mm o sh)).1) (g := S.2.1) (nd := zR) (bf := zR) (hs := S.2.2.1) (td := zR) (rde_of hA (by show 9 ≤ 60; decide)) (show upd S.1 7 (nI 9) 7 = nI 9 from upd_at) cmZ r1
  rw [show (tx_mm o sh).length = 9 from rfl] at e1 e2
  rw [r2] at e1 e2
  obtain ⟨t1, t2, -, t3, -⟩ := e2 0 (by decide)
  obtain ⟨u1, u2, -, u3, -⟩ := e2 1 (by decide)
  have t3 := t3 (by rw [r3]; decide) (by rw [r3]; decide) (by rw [r3]; decide) (by rw [r3]; decide) (by rw [r3]; decide)
  have u3 := u3 (by rw [r6]; decide) (by rw [r6]; decide) (by rw [r6]; decide) (by rw [r6]; decide) (by rw [r6]; decide)
  rw [r3] at t1; rw [r4] at t2; rw [r5] at t3; rw [r6] at u1; rw [r7] at u2; rw [r8] at u3
  have d0 : doesM s1 S.2.1 zR td2 (5 * 0) = (nI sh, upd s1 14 0, upd S.2.1 34 (nI o), zR) := by rw [does_m t1, t2, t3, mv_1 h]
  have d1 : doesM (upd s1 14 0) (upd S.2.1 34 (nI o)) zR td2 (5 * 1) = (nI o, upd (upd s1 14 0) 14 0, S.2.1, zR) := by rw [does_m u1, u2, u3, mv_2 h]
  have eD : doL td2 2 0 (s1, S.2.1, zR) = (0, 0, upd (upd s1 14 0) 14 0, S.2.1, zR) := by
    rw [doL, d0, if_pos (show upd s1 14 0 14 = 0 from upd_at), doL]
    show (if (doesM (upd s1 14 0) (upd S.2.1 34 (nI o)) zR td2 (5 * 1)).2.1 14 = 0 then _ else _) = _
    rw [d1, if_pos (show upd (upd s1 14 0) 14 0 14 = 0 from upd_at), doL]
  rw [eD] at e1
  have k3 : upd (upd (upd s1 14 0) 14 0) 14 0 3 = nI ct := by
    rw [upd_off (by decide), upd_off (by decide), upd_off (by decide), e5 3 (by decide) (by decide) (by decide) (by decide)]
    show upd S.1 7 (nI 9) 3 = _
    rw [upd_off (by decide)]; exact h3
  obtain ⟨c1, c2, c3, c4⟩ := kept_yes (s := upd (upd (upd s1 14 0) 14 0) 14 0) (g := S.2.1) (bf := S.2.1) (hs := S.2.2.1) (x := nI 2) (ct := ct) upd_at k3 hc
  have eK : comM (putS S (tx_mm o sh)).1 S.2.1 zR zR S.2.2.1 (txF (tx_mm o sh)) zR = (nI 2, upd (upd (upd (upd s1 14 0) 14 0) 14 0) 3 (nI (min (ct + 1) 8)), S.2.1, zR, S.2.1, hisM S.2.2.1 S.2.1 ct, td2) := by
    rw [e1]; unfold comK; rw [if_pos rfl]
    show ((keptM _ _ _ _ _).1, (keptM _ _ _ _ _).2.1, (keptM _ _ _ _ _).2.2.1, _, _, (keptM _ _ _ _ _).2.2.2, _) = _
    rw [c1, c2, c3, c4]
  have eO : ob_com (putS S (tx_mm o sh)) = (nI 2, upd (upd (upd (upd s1 14 0) 14 0) 14 0) 3 (nI (min (ct + 1) 8)), S.2.1, hisM S.2.2.1 S.2.1 ct, S.2.2.2.1, txF (tx_mm o sh), S.2.2.2.2.2) := by
    exact com_of (S := putS S (tx_mm o sh)) eK
  rw [eO]
  refine ⟨rfl, ?_, rfl, by dsimp only; rw [upd_at], ?_, ?_, ?_⟩
  · dsimp only
    rw [upd_off (by decide), upd_at]
  · dsimp only
    rw [upd_off (by decide), upd_off (by decide), upd_off (by decide), upd_off (by decide), e3]
  · dsimp only
    rw [upd_off (by decide), upd_off (by decide), upd_off (by decide), upd_off (by decide), e4]
  · dsimp only
    rw [upd_off (by decide), upd_off (by decide), upd_off (by decide), upd_off (by decide), e5 5 (by decide) (by decide) (by decide) (by decide)]
    show upd S.1 7 (nI 9) 5 = _
    exact upd_off (by decide)
/-- one order is refused: nothing but the reason and the reader's place is other -/
theorem com_refused {s1 g hs td2 : PR} {n d : Nat} {z : DS} {a : Int32} (hd : ¬ d = 0) (hg : True) : comK g zR hs td2 n (d, a, z) = (0, upd (upd z.1 11 (nI (d - 1))) 14 2, g, z.2.2, g, hs, td2) := by
  unfold comK
  rw [if_neg hd]
  show ((keptM _ _ _ _ _).1, (keptM _ _ _ _ _).2.1, (keptM _ _ _ _ _).2.2.1, _, _, (keptM _ _ _ _ _).2.2.2, _) = _
  rw [kept_no (show ¬ upd (upd z.1 11 (nI (d - 1))) 14 2 14 = 0 by rw [upd_at]; decide)]
/-- what stays of an object whose orders were refused or couldn't be read -/
def KeepX (S T : StZ) : Prop := T.2.1 = S.2.1 ∧ T.2.2.1 = S.2.2.1 ∧ T.2.2.2.1 = S.2.2.2.1 ∧ T.1 7 = 0 ∧ T.1 5 = S.1 5
theorem KeepX.tr {S T U : StZ} (h1 : KeepX S T) (h2 : KeepX T U) : KeepX S U := ⟨h2.1.trans h1.1, h2.2.1.trans h1.2.1, h2.2.2.1.trans h1.2.2.1, h2.2.2.2.1, h2.2.2.2.2.trans h1.2.2.2.2⟩
theorem runs_of {S : StZ} {s2 g2 nd2 bf2 hs2 td2 : PR} (e : comM S.1 S.2.1 zR zR S.2.2.1 S.2.2.2.2.1 zR = (0, s2, g2, nd2, bf2, hs2, td2)) (h14 : s2 14 = 2) : ob_runs S = (-2, s2, g2, hs2, S.2.2.2.1, S.2.2.2.2.1, S.2.2.2.2.2) := by
  have eU : ob_com S = (0, s2, g2, hs2, S.2.2.2) := by
    show ((comM S.1 S.2.1 zR zR S.2.2.1 S.2.2.2.2.1 zR).1, (comM S.1 S.2.1 zR zR S.2.2.1 S.2.2.2.2.1 zR).2.1, (comM S.1 S.2.1 zR zR S.2.2.1 S.2.2.2.2.1 zR).2.2.1, (comM S.1 S.2.1 zR zR S.2.2.1 S.2.2.2.2.1 zR).2.2.2.2.2.1, S.2.2.2) = _
    rw [e]
  unfold ob_runs
  rw [eU]
  show (if s2 14 = 0 then (0 : Int32) else if s2 14 = 1 then -1 else -2, _) = _
  rw [if_neg (by rw [h14]; decide), if_neg (by rw [h14]; decide)]
theorem com_m2 {S : StZ} {n sh o : Nat} (h : Arch S.2.1 n sh o) (hA : AscT (tx_mm o o)) :
    (ob_runs (putS S (tx_mm o o))).1 = -2 ∧ (ob_runs (putS S (tx_mm o o))).2.1 9 = 12 ∧ (ob_runs (putS S (tx_mm o o))).2.1 10 = nI o ∧ (ob_runs (putS S (tx_mm o o))).2.1 11 = 1 ∧ KeepX S (ob_runs (putS S (tx_mm o o))).2 := by
  obtain ⟨-, -, -, -, hs4, ho4, -⟩ := id h
  obtain ⟨r1, r2, r3, r4, r5, r6, r7, r8⟩ := rd_mm o (by omega) o (by omega)
  obtain ⟨td2, s1, e1, e2, e3, e4, e5⟩ := com_run (s := (putS S (tx_mm o o)).1) (g := S.2.1) (nd := zR) (bf := zR) (hs := S.2.2.1) (td := zR) (rde_of hA (by show 9 ≤ 60; decide)) (show upd S.1 7 (nI 9) 7 = nI 9 from upd_at) cmZ r1
  rw [show (tx_mm o o).length = 9 from rfl] at e1 e2
  rw [r2] at e1 e2
  obtain ⟨t1, t2, -, t3, -⟩ := e2 0 (by decide)
  obtain ⟨u1, u2, -, u3, -⟩ := e2 1 (by decide)
  have t3 := t3 (by rw [r3]; decide) (by rw [r3]; decide) (by rw [r3]; decide) (by rw [r3]; decide) (by rw [r3]; decide)
  have u3 := u3 (by rw [r6]; decide) (by rw [r6]; decide) (by rw [r6]; decide) (by rw [r6]; decide) (by rw [r6]; decide)
  rw [r3] at t1; rw [r4] at t2; rw [r5] at t3; rw [r6] at u1; rw [r7] at u2; rw [r8] at u3
  have d0 : doesM s1 S.2.1 zR td2 (5 * 0) = (nI sh, upd s1 14 0, upd S.2.1 34 (nI o), zR) := by rw [does_m t1, t2, t3, mv_1 h]
  have d1 : doesM (upd s1 14 0) (upd S.2.1 34 (nI o)) zR td2 (5 * 1) = (0, upd (upd (upd (upd (upd s1 14 0) 9 12) 10 (nI o)) 11 0) 14 1, upd S.2.1 34 (nI o), zR) := by rw [does_m u1, u2, u3, mv_22 h]
  have eD : doL td2 2 0 (s1, S.2.1, zR) = (2, 0, upd (upd (upd (upd (upd s1 14 0) 9 12) 10 (nI o)) 11 0) 14 1, upd S.2.1 34 (nI o), zR) := by
    rw [doL, d0, if_pos (show upd s1 14 0 14 = 0 from upd_at), doL]
    show (if (doesM (upd s1 14 0) (upd S.2.1 34 (nI o)) zR td2 (5 * 1)).2.1 14 = 0 then _ else _) = _
    rw [d1, if_neg (show ¬ upd _ 14 1 14 = 0 by rw [upd_at]; decide)]
  rw [eD, com_refused (s1 := s1) (by decide) trivial] at e1
  have eR := runs_of (S := putS S (tx_mm o o)) e1 upd_at
  rw [eR]
  refine ⟨rfl, ?_, ?_, ?_, rfl, rfl, rfl, ?_, ?_⟩
  · dsimp only
    rw [upd_off (by decide), upd_off (by decide), upd_off (by decide), upd_off (by decide), upd_off (by decide), upd_at]
  · dsimp only
    rw [upd_off (by decide), upd_off (by decide), upd_off (by decide), upd_off (by decide), upd_at]
  · dsimp only
    rw [upd_off (by decide), upd_at]
    rfl
  · dsimp only
    rw [upd_off (by decide), upd_off (by decide), upd_off (by decide), upd_off (by decide), upd_off (by decide), upd_off (by decide), upd_off (by decide), e3]
  · dsimp only
    rw [upd_off (by decide), upd_off (by decide), upd_off (by decide), upd_off (by decide), upd_off (by decide), upd_off (by decide), upd_off (by decide), e5 5 (by decide) (by decide) (by decide) (by decide)]
    show upd S.1 7 (nI 9) 5 = _
    exact upd_off (by decide)
theorem com_f9 {S : StZ} {n : Nat} (h0 : S.2.1 0 = nI n) (hn : n ≤ 8) (hA : AscT tx_f9) :
    (ob_runs (putS S tx_f9)).1 = -2 ∧ (ob_runs (putS S tx_f9)).2.1 9 = 3 ∧ (ob_runs (putS S tx_f9)).2.1 10 = nI n ∧ (ob_runs (putS S tx_f9)).2.1 11 = 0 ∧ KeepX S (ob_runs (putS S tx_f9)).2 := by
  obtain ⟨r1, r2, r3, r4⟩ := rd_f9
  obtain ⟨td2, s1, e1, e2, e3, e4, e5⟩ := com_run (s := (putS S tx_f9).1) (g := S.2.1) (nd := zR) (bf := zR) (hs := S.2.2.1) (td := zR) (rde_of hA (by show 2 ≤ 60; decide)) (show upd S.1 7 (nI 2) 7 = nI 2 from upd_at) cmZ r1
  rw [show tx_f9.length = 2 from rfl] at e1 e2
  rw [r2] at e1 e2
  obtain ⟨t1, t2, -⟩ := e2 0 (by decide)
  rw [r3] at t1; rw [r4] at t2
  have hin : ¬ inB 9 0 (S.2.1 0 - 1) := by
    rw [h0]
    intro z
    refine z.2 ?_
    by_cases h9 : n = 0
    · rw [h9]; decide
    · rw [nI_m1 (by omega)]
      exact (nI_ltI (a := n - 1) (b := 9) (by omega) (by omega)).mpr (by omega)
  have d0 : doesM s1 S.2.1 zR td2 (5 * 0) = (0, upd (upd (upd (upd s1 9 3) 10 (S.2.1 0)) 11 0) 14 1, S.2.1, zR) := by
    rw [does_f t1, t2]
    unfold foldsM
    rw [if_neg hin]
  have eD : doL td2 1 0 (s1, S.2.1, zR) = (1, 0, upd (upd (upd (upd s1 9 3) 10 (S.2.1 0)) 11 0) 14 1, S.2.1, zR) := by
    rw [doL, d0, if_neg (show ¬ upd _ 14 1 14 = 0 by rw [upd_at]; decide)]
  rw [eD, com_refused (s1 := s1) (by decide) trivial] at e1
  have eR := runs_of (S := putS S tx_f9) e1 upd_at
  rw [eR]
  refine ⟨rfl, ?_, ?_, ?_, rfl, rfl, rfl, ?_, ?_⟩
  · dsimp only
    rw [upd_off (by decide), upd_off (by decide), upd_off (by decide), upd_off (by decide), upd_off (by decide), upd_at]
  · dsimp only
    rw [upd_off (by decide), upd_off (by decide), upd_off (by decide), upd_off (by decide), upd_at, h0]
  · dsimp only
    rw [upd_off (by decide), upd_at]
    rfl
  · dsimp only
    rw [upd_off (by decide), upd_off (by decide), upd_off (by decide), upd_off (by decide), upd_off (by decide), upd_off (by decide), e3]
  · dsimp only
    rw [upd_off (by decide), upd_off (by decide), upd_off (by decide), upd_off (by decide), upd_off (by decide), upd_off (by decide), e5 5 (by decide) (by decide) (by decide) (by decide)]
    show upd S.1 7 (nI 2) 5 = _
    exact upd_off (by decide)
theorem com_s7 {S : StZ} {n : Nat} (h0 : S.2.1 0 = nI n) (h1 : 1 ≤ n) (hn : n ≤ 8) (hA : AscT tx_s7) :
    (ob_runs (putS S tx_s7)).1 = -2 ∧ (ob_runs (putS S tx_s7)).2.1 9 = 1 ∧ (ob_runs (putS S tx_s7)).2.1 10 = 0 ∧ KeepX S (ob_runs (putS S tx_s7)).2 := by
  obtain ⟨r1, r2, r3, r4, r5, r6, r7⟩ := rd_s7
  obtain ⟨td2, s1, e1, e2, e3, e4, e5⟩ := com_run (s := (putS S tx_s7).1) (g := S.2.1) (nd := zR) (bf := zR) (hs := S.2.2.1) (td := zR) (rde_of hA (by show 8 ≤ 60; decide)) (show upd S.1 7 (nI 8) 7 = nI 8 from upd_at) cmZ r1
  rw [show tx_s7.length = 8 from rfl] at e1 e2
  rw [r2] at e1 e2
  obtain ⟨t1, t2, -, t3, t4⟩ := e2 0 (by decide)
  have t3 := t3 (by rw [r3]; decide) (by rw [r3]; decide) (by rw [r3]; decide) (by rw [r3]; decide) (by rw [r3]; decide)
  have t4 := t4 (Or.inr r3)
  rw [r3] at t1; rw [r4] at t2; rw [r5] at t3; rw [r6, r7] at t4
  have d0 : doesM s1 S.2.1 zR td2 (5 * 0) = (0, upd (upd (upd (upd s1 9 1) 10 0) 11 0) 14 1, S.2.1, zR) := by
    rw [does_s t1, t2, t3, t4.1, t4.2]
    unfold addsM
    rw [if_pos (by rw [h0]; exact zero_in h1 hn), if_pos (by decide), if_pos (by decide), if_neg (by decide)]
  have eD : doL td2 1 0 (s1, S.2.1, zR) = (1, 0, upd (upd (upd (upd s1 9 1) 10 0) 11 0) 14 1, S.2.1, zR) := by
    rw [doL, d0, if_neg (show ¬ upd _ 14 1 14 = 0 by rw [upd_at]; decide)]
  rw [eD, com_refused (s1 := s1) (by decide) trivial] at e1
  have eR := runs_of (S := putS S tx_s7) e1 upd_at
  rw [eR]
  refine ⟨rfl, ?_, ?_, rfl, rfl, rfl, ?_, ?_⟩
  · dsimp only
    rw [upd_off (by decide), upd_off (by decide), upd_off (by decide), upd_off (by decide), upd_off (by decide), upd_at]
  · dsimp only
    rw [upd_off (by decide), upd_off (by decide), upd_off (by decide), upd_off (by decide), upd_at]
  · dsimp only
    rw [upd_off (by decide), upd_off (by decide), upd_off (by decide), upd_off (by decide), upd_off (by decide), upd_off (by decide), e3]
  · dsimp only
    rw [upd_off (by decide), upd_off (by decide), upd_off (by decide), upd_off (by decide), upd_off (by decide), upd_off (by decide), e5 5 (by decide) (by decide) (by decide) (by decide)]
    show upd S.1 7 (nI 8) 5 = _
    exact upd_off (by decide)
/-- a text that can't be read -/
theorem com_bad {S : StZ} {cs : List Int32} {pl : Nat} (hA : AscT cs) (hn : cs.length ≤ 60) (h1 : (csR (txF cs) cs.length 20 0 0 cmZ).1 = 0) (h2 : (csR (txF cs) cs.length 20 0 0 cmZ).2.1 = pl) :
    (ob_com (putS S cs)).2.1 14 = 1 ∧ (ob_runs (putS S cs)).1 = -1 ∧ (ob_runs (putS S cs)).2.1 8 = nI pl ∧ KeepX S (ob_runs (putS S cs)).2 := by
  obtain ⟨c1, c2, c3, c4, c5, c6, c7⟩ := com_no (s := (putS S cs).1) (g := S.2.1) (nd := zR) (bf := zR) (hs := S.2.2.1) (td := zR) (Cs := cmZ) (rde_of hA hn) (show upd S.1 7 (nI cs.length) 7 = _ from upd_at) h1
  generalize hC : comM (putS S cs).1 S.2.1 zR zR S.2.2.1 (txF cs) zR = C at c1 c2 c3 c4 c5 c6 c7
  have eU : ob_com (putS S cs) = (C.1, C.2.1, C.2.2.1, C.2.2.2.2.2.1, S.2.2.2.1, txF cs, S.2.2.2.2.2) := com_of (S := putS S cs) hC
  have eR : ob_runs (putS S cs) = (-1, C.2.1, C.2.2.1, C.2.2.2.2.2.1, S.2.2.2.1, txF cs, S.2.2.2.2.2) := by
    unfold ob_runs
    rw [eU]
    dsimp only
    rw [if_neg (by rw [c4]; decide), if_pos c4]
  rw [eR, eU]
  refine ⟨c4, rfl, ?_, c6, c7, rfl, c2, ?_⟩
  · rw [← h2]; exact c3
  · exact (c5 5 (by decide) (by decide) (by decide) (by decide) (by decide)).trans (show upd S.1 7 (nI cs.length) 5 = S.1 5 from upd_off (by decide))
