/-! ===== the class's table and the reference's row: when they tell the same; what their functions have in common ===== -/
def gO : Nat → Nat
  | 0 => 0
  | 1 => 6
  | 2 => 12
  | 3 => 18
  | 4 => 26
  | 5 => 34
  | 6 => 42
  | 7 => 50
  | 8 => 58
  | _ => 63
/-- the reference's row read as the class's table -/
def gV (g : Nat → Int32) (r i : Nat) : Int32 :=
  if r < 10 then g (gO r + i) else if r < 20 then g (68 + 8 * (r - 10) + i) else if r < 30 then g (132 + 8 * (r - 20) + i) else if r < 40 then g (196 + 8 * (r - 30) + i) else g (260 + 8 * (r - 40) + i)
theorem gV_lo {g : Nat → Int32} {r i : Nat} (h : r < 10) : gV g r i = g (gO r + i) := if_pos h
theorem gV_0 {g : Nat → Int32} {i : Nat} : gV g 0 i = g i := (gV_lo (by decide)).trans (congrArg g (Nat.zero_add i))
theorem gV_1 {g : Nat → Int32} {i : Nat} : gV g 1 i = g (6 + i) := gV_lo (by decide)
theorem gV_2 {g : Nat → Int32} {i : Nat} : gV g 2 i = g (12 + i) := gV_lo (by decide)
theorem gV_3 {g : Nat → Int32} {i : Nat} : gV g 3 i = g (18 + i) := gV_lo (by decide)
theorem gV_4 {g : Nat → Int32} {i : Nat} : gV g 4 i = g (26 + i) := gV_lo (by decide)
theorem gV_5 {g : Nat → Int32} {i : Nat} : gV g 5 i = g (34 + i) := gV_lo (by decide)
theorem gV_6 {g : Nat → Int32} {i : Nat} : gV g 6 i = g (42 + i) := gV_lo (by decide)
theorem gV_7 {g : Nat → Int32} {i : Nat} : gV g 7 i = g (50 + i) := gV_lo (by decide)
theorem gV_8 {g : Nat → Int32} {i : Nat} : gV g 8 i = g (58 + i) := gV_lo (by decide)
theorem gV_9 {g : Nat → Int32} {i : Nat} : gV g 9 i = g (63 + i) := gV_lo (by decide)
theorem gV_10 {g : Nat → Int32} {j q : Nat} (h : j < 10) : gV g (10 + j) q = g (68 + 8 * j + q) := by
  unfold gV; rw [if_neg (by omega), if_pos (by omega), show 10 + j - 10 = j by omega]
theorem gV_20 {g : Nat → Int32} {j q : Nat} (h : j < 10) : gV g (20 + j) q = g (132 + 8 * j + q) := by
  unfold gV; rw [if_neg (by omega), if_neg (by omega), if_pos (by omega), show 20 + j - 20 = j by omega]
theorem gV_30 {g : Nat → Int32} {j q : Nat} (h : j < 10) : gV g (30 + j) q = g (196 + 8 * j + q) := by
  unfold gV; rw [if_neg (by omega), if_neg (by omega), if_neg (by omega), if_pos (by omega), show 30 + j - 30 = j by omega]
theorem gV_40 {g : Nat → Int32} {j q : Nat} : gV g (40 + j) q = g (260 + 8 * j + q) := by
  unfold gV; rw [if_neg (by omega), if_neg (by omega), if_neg (by omega), if_neg (by omega), show 40 + j - 40 = j by omega]
/-- the numbers of the leaflet j that are told -/
def TellL (v w : Nat → Nat → Int32) (j : Nat) : Prop := v 3 j = w 3 j ∧ v 4 j = w 4 j ∧ v 5 j = w 5 j ∧ v 6 j = w 6 j ∧ v 7 j = w 7 j ∧ ∀ q, q < cN (w 3 j) → v (10 + j) q = w (10 + j) q ∧ v (20 + j) q = w (20 + j) q ∧ v (30 + j) q = w (30 + j) q ∧ v (40 + j) q = w (40 + j) q
/-- two tables tell the same -/
def Tell (v w : Nat → Nat → Int32) : Prop := (∀ i, i < 6 → v 0 i = w 0 i) ∧ (∀ i, i < 6 → v 1 i = w 1 i) ∧ (∀ i, i < 6 → v 2 i = w 2 i) ∧ (∀ j, j < cN (w 0 0) → TellL v w j) ∧ ∀ i, i < cN (w 0 1) → v 8 i = w 8 i ∧ v 9 i = w 9 i
theorem Tell.of_live {w v : Nat → Nat → Int32} (h : Live w v) : Tell w v := by
  obtain ⟨h0, h1, h2, h3, h4⟩ := h
  refine ⟨fun i hi => h0 i (by omega), fun i _ => by rw [h1], fun i _ => by rw [h2], fun j hj => ?_, h4⟩
  obtain ⟨a1, a2, a3, a4, a5, a6, a7, a8, a9⟩ := h3 j hj
  exact ⟨a1, a2, a3, a4, a5, fun q _ => ⟨by rw [a6], by rw [a7], by rw [a8], by rw [a9]⟩⟩
theorem TellL.tr {a b c : Nat → Nat → Int32} {j : Nat} (h : TellL a b j) (k : TellL b c j) : TellL a c j := by
  obtain ⟨a1, a2, a3, a4, a5, a6⟩ := h
  obtain ⟨b1, b2, b3, b4, b5, b6⟩ := k
  refine ⟨a1.trans b1, a2.trans b2, a3.trans b3, a4.trans b4, a5.trans b5, fun q hq => ?_⟩
  obtain ⟨c1, c2, c3, c4⟩ := a6 q (by rw [b1]; exact hq)
  obtain ⟨d1, d2, d3, d4⟩ := b6 q hq
  exact ⟨c1.trans d1, c2.trans d2, c3.trans d3, c4.trans d4⟩
theorem Tell.tr {a b c : Nat → Nat → Int32} (h : Tell a b) (k : Tell b c) : Tell a c := by
  obtain ⟨a0, a1, a2, a3, a4⟩ := h
  obtain ⟨b0, b1, b2, b3, b4⟩ := k
  exact ⟨fun i hi => (a0 i hi).trans (b0 i hi), fun i hi => (a1 i hi).trans (b1 i hi), fun i hi => (a2 i hi).trans (b2 i hi), fun j hj => (a3 j (by rw [b0 0 (by decide)]; exact hj)).tr (b3 j hj), fun i hi => ⟨(a4 i (by rw [b0 1 (by decide)]; exact hi)).1.trans (b4 i hi).1, (a4 i (by rw [b0 1 (by decide)]; exact hi)).2.trans (b4 i hi).2⟩⟩
theorem WF.tell {v w : Nat → Nat → Int32} (h : Tell v w) (hw : WF w) : WF v := by
  obtain ⟨a0, a1, a2, a3, a4⟩ := h
  refine ⟨by rw [a0 0 (by decide)]; exact hw.1, by rw [a0 1 (by decide)]; exact hw.2.1, fun j hj => ?_⟩
  rw [a0 0 (by decide)] at hj
  obtain ⟨b1, b2, -⟩ := a3 j hj
  rw [b1, b2]; exact hw.2.2 j hj
/-! what a leaflet's functions see -/
section TL
variable {v w : Nat → Nat → Int32} {j : Nat}
theorem psJ_t (h : TellL v w j) {q : Nat} (hq : q < cN (w 3 j)) : psJ v j q = psJ w j q := by
  obtain ⟨-, -, -, -, -, h6⟩ := h
  obtain ⟨-, b, -, d⟩ := h6 q hq
  simp only [psJ, b, d]
theorem partsJ_t (h : TellL v w j) {set : Int32} : ∀ n, n ≤ cN (w 3 j) → partsJ v j set n = partsJ w j set n
  | 0, _ => rfl
  | n + 1, hn => by simp only [partsJ, partsJ_t h n (by omega), psJ_t h (show n < cN (w 3 j) by omega)]
theorem needJ_t (h : TellL v w j) {set kind : Int32} : ∀ n, n ≤ cN (w 3 j) → needJ v j set kind n = needJ w j set kind n
  | 0, _ => rfl
  | n + 1, hn => by
    obtain ⟨a, b, -, d⟩ := h.2.2.2.2.2 n (by omega)
    simp only [needJ, usesB, needJ_t h n (by omega), a, b, d]
theorem unreadJ_t (h : TellL v w j) {kn : Int32} : ∀ n, n ≤ cN (w 3 j) → unreadJ v j kn n = unreadJ w j kn n
  | 0, _ => rfl
  | n + 1, hn => by
    obtain ⟨-, -, c, -⟩ := h.2.2.2.2.2 n (by omega)
    simp only [unreadJ, unreadJ_t h n (by omega), c]
theorem belowJ_t (h : TellL v w j) {bo : Int32} : ∀ n, n ≤ cN (w 3 j) → belowJ v j bo n = belowJ w j bo n
  | 0, _ => rfl
  | n + 1, hn => by simp only [belowJ, belowJ_t h n (by omega), psJ_t h (show n < cN (w 3 j) by omega)]
theorem underF_t (h : TellL v w j) {f : Nat} : underF v j f = underF w j f := by simp only [underF, h.1]
theorem stN_t (h : TellL v w j) : stN v j = stN w j := congrArg cN h.1
theorem skipF_t (h : TellL v w j) {kn bo : Int32} {f : Nat} : skipF v j (stN v j) kn bo f = skipF w j (stN w j) kn bo f := by
  rw [stN_t h]
  simp only [skipF, underF_t h, unreadJ_t h _ (Nat.le_refl _), belowJ_t h _ (Nat.le_refl _)]
theorem needJ_ts (h : TellL v w j) {set kind : Int32} : needJ v j set kind (stN v j) = needJ w j set kind (stN w j) := by rw [stN_t h]; exact needJ_t h _ (Nat.le_refl _)
theorem partsJ_ts (h : TellL v w j) {set : Int32} : partsJ v j set (stN v j) = partsJ w j set (stN w j) := by rw [stN_t h]; exact partsJ_t h _ (Nat.le_refl _)
end TL
theorem onJ_t {v w : Nat → Nat → Int32} {sh : Int32} : ∀ c, (∀ j, j < c → v 5 j = w 5 j) → onJ v sh c = onJ w sh c
  | 0, _ => rfl
  | c + 1, h => by simp only [onJ, onJ_t c (fun j hj => h j (by omega)), h c (by omega)]
theorem sumJ_t {f h : Nat → Int32} : ∀ c, (∀ j, j < c → f j = h j) → sumJ f c = sumJ h c
  | 0, _ => rfl
  | c + 1, e => by simp only [sumJ, sumJ_t c (fun j hj => e j (by omega)), e c (by omega)]
theorem lackJ_t {f h a b : Nat → Int32} : ∀ n k, (∀ j, k ≤ j → j < k + n → f j = h j ∧ a j = b j) → lackJ f a k n = lackJ h b k n
  | 0, _, _ => rfl
  | n + 1, k, e => by
    obtain ⟨e1, e2⟩ := e k (Nat.le_refl _) (by omega)
    simp only [lackJ, e1, e2, lackJ_t n (k + 1) (fun j h1 h2 => e j (by omega) (by omega))]
/-! bits -/
theorem bit_01 (x : Int32) : x &&& 1 = 0 ∨ x &&& 1 = 1 := by
  rw [pk_and x (m := 1) 1 (by decide)]
  have h : x.toBitVec.toNat % 2 ^ 1 = 0 ∨ x.toBitVec.toNat % 2 ^ 1 = 1 := by omega
  rcases h with h | h
  · left; rw [h]; rfl
  · right; rw [h]; rfl
theorem hasB_iff (x m : Int32) : hasB x m ↔ x >>> (m &&& 31) &&& 1 = 1 := by
  rcases bit_01 (x >>> (m &&& 31)) with h | h
  · exact ⟨fun z => absurd h z, fun z => absurd (h.symm.trans z) (by decide)⟩
  · exact ⟨fun _ => h, fun _ z => absurd (z.symm.trans h) (by decide)⟩
theorem bits_pop : ∀ n : Nat, n < 256 → bitsJ (nI n) 8 = popF (nI n) := by decide +kernel
theorem bits_popX {x : Int32} (h : okN x 255) : bitsJ x 8 = popF x := by rw [h.1]; exact bits_pop _ (Nat.lt_succ_of_le h.2)
theorem bits_le : ∀ n : Nat, n < 256 → ∃ k : Nat, k < 9 ∧ bitsJ (nI n) 8 = nI k := by decide +kernel
theorem bits_add : ∀ c : Nat, c < 8 → ∀ n : Nat, n < 2 ^ c → bitsJ (nI n ||| 1 <<< (nI c &&& 31)) 8 = bitsJ (nI n) 8 + 1 := by decide +kernel
theorem or_sh : ∀ c : Nat, c < 8 → ∀ n : Nat, n < 2 ^ c → nI n ||| 1 <<< (nI c &&& 31) = nI (n + 2 ^ c) := by decide +kernel
/-- the steps that are covered, of the first ones -/
def undJ (o : Int32) : Nat → Int32
  | 0 => 0
  | s + 1 => undJ o s ||| (if nI s < o then (0 : Int32) else (1 : Int32) <<< (nI s &&& 31))
theorem und_eq : ∀ n : Nat, n < 9 → ∀ o : Nat, o < n + 1 → (1 : Int32) <<< (nI n &&& 31) - 1 <<< (nI o &&& 31) = undJ (nI o) n := by decide +kernel
theorem openJ_nI : ∀ n : Nat, n < 9 → ∀ f : Nat, f < 4 → ∃ o : Nat, o < n + 1 ∧ openJ (nI n) f = nI o := by decide +kernel
theorem or_4 (a b u : Int32) (z : Int32) : a ||| b ||| u ||| z = (a ||| z) ||| (b ||| z) ||| (u ||| z) := by ac_rfl
section GV
variable {g : Nat → Int32} {l : Nat}
theorem mP_v (hl : l < 8) (q : Nat) : mP g l q = psJ (gV g) l q := by
  simp only [mP, psJ, gV_20 (show l < 10 by omega), gV_40, Int32.add_comm]
theorem sumM_v (hl : l < 8) {set : Int32} : ∀ n, sumM g l set n = partsJ (gV g) l set n
  | 0 => rfl
  | n + 1 => by
    simp only [sumM, partsJ, sumM_v hl n, mP_v hl]
    by_cases h : hasB set (nI n)
    · rw [if_pos h, if_pos ((hasB_iff _ _).mp h)]
    · rw [if_neg h, if_neg (fun z => h ((hasB_iff _ _).mpr z))]
theorem skipM_u (hl : l < 8) {kn bo : Int32} {f : Nat} : ∀ n, skipM g kn bo l f n = undJ (openJ (g (18 + l)) f) n ||| unreadJ (gV g) l kn n ||| belowJ (gV g) l bo n
  | 0 => by rw [skipM, undJ, unreadJ, belowJ]; decide
  | n + 1 => by
    rw [skipM, undJ, unreadJ, belowJ, skipM_u hl n, causeM, mP_v hl, gV_30 (show l < 10 by omega), Int32.and_comm kn]
    generalize undJ (openJ (g (18 + l)) f) n = A
    generalize unreadJ (gV g) l kn n = B
    generalize belowJ (gV g) l bo n = C
    generalize (1 : Int32) <<< (nI n &&& 31) = Z
    by_cases h1 : nI n < openJ (g (18 + l)) f
    · simp only [if_pos h1]
      by_cases h2 : g (196 + 8 * l + n) &&& kn = 0
      · simp only [if_pos h2]
        by_cases h3 : bo ≤ psJ (gV g) l n
        · simp only [if_pos h3, if_neg (show ¬ (2 : Int32) = 0 by decide), Int32.or_zero]; ac_rfl
        · simp only [if_neg h3, if_neg (show ¬ (2 : Int32) = 0 by decide), Int32.or_zero]; ac_rfl
      · simp only [if_neg h2]
        by_cases h3 : bo ≤ psJ (gV g) l n
        · simp only [if_pos h3, if_true, Int32.or_zero]
        · simp only [if_neg h3, if_neg (show ¬ (3 : Int32) = 0 by decide), Int32.or_zero]; ac_rfl
    · simp only [if_neg h1, if_neg (show ¬ (1 : Int32) = 0 by decide)]
      by_cases h2 : g (196 + 8 * l + n) &&& kn = 0
      · simp only [if_pos h2]
        by_cases h3 : bo ≤ psJ (gV g) l n
        · simp only [if_pos h3]; ac_rfl
        · simp only [if_neg h3]; ac_rfl
      · simp only [if_neg h2]
        by_cases h3 : bo ≤ psJ (gV g) l n
        · simp only [if_pos h3]; ac_rfl
        · simp only [if_neg h3]; ac_rfl
theorem skipM_v (hl : l < 8) {kn bo : Int32} {f n : Nat} (hn : g (18 + l) = nI n) (h8 : n ≤ 8) (hf : f ≤ 3) : skipM g kn bo l f n = skipF (gV g) l n kn bo f := by
  rw [skipM_u hl, skipF, underF, gV_3, hn]
  obtain ⟨o, ho, e⟩ := openJ_nI n (by omega) f (by omega)
  rw [e, und_eq n (by omega) o ho]
theorem onM_v {sh : Int32} : ∀ c, onM g sh c = onJ (gV g) sh c
  | 0 => rfl
  | c + 1 => by
    rw [onM, onJ, onM_v c, gV_5]
    by_cases h : g (34 + c) = sh
    · rw [if_pos h, if_pos h]
    · rw [if_neg h, if_neg h, Int32.or_zero]
/-- what a set of steps needs of a kind -/
theorem clrJ_at {b : Nat → Int32} : ∀ n k, k < n → clrJ b n k = 0
  | 0, _, h => absurd h (Nat.not_lt_zero _)
  | n + 1, k, h => by
    by_cases hk : k = n
    · subst hk; exact upd_at
    · rw [clrJ, upd_off hk]; exact clrJ_at n k (by omega)
theorem kind_ne {k : Nat} (h : k < 6) : ¬ (k + 1) % 6 = k := by omega
theorem needM_v (hl : l < 8) {set : Int32} {nd : Nat → Int32} {k : Nat} (hk : k < 6) : ∀ n, (∀ q, q < n → okN (g (68 + 8 * l + q)) 5 ∧ (g (260 + 8 * l + q) = 0 ∨ g (260 + 8 * l + q) = 1)) → needM g l set (clrJ nd 6) n k = needJ (gV g) l set (nI k) n
  | 0, _ => by rw [needM, needJ]; exact clrJ_at 6 k hk
  | n + 1, h => by
    have ih := needM_v (set := set) (nd := nd) hl hk n (fun q hq => h q (by omega))
    obtain ⟨hkd, hsd⟩ := h n (by omega)
    obtain ⟨kd, hkd5, hkde, hkdc⟩ := okN_of hkd
    rw [needM, needJ]
    by_cases hb : hasB set (nI n)
    · rw [if_pos hb, if_pos ((hasB_iff _ _).mp hb)]
      simp only [needM1, usesB, gV_10 (show l < 10 by omega), gV_20 (show l < 10 by omega), gV_40, hkdc]
      rw [hkde, rem6 (show kd < 6 by omega)]
      have hne := kind_ne (show kd < 6 by omega)
      have hlt : (kd + 1) % 6 < 6 := Nat.mod_lt _ (by decide)
      have hkq : ∀ a : Nat, a < 6 → (nI a = nI k ↔ a = k) := fun a ha => nI_eq (by omega) (by omega)
      by_cases h1 : kd = k
      · subst h1
        rw [if_pos (Or.inl rfl), upd_off (fun z => hne z.symm), upd_at, ih]
      · have hk1 : ¬ nI kd = nI k := fun z => h1 ((hkq kd (by omega)).mp z)
        by_cases h2 : (kd + 1) % 6 = k
        · rw [h2, upd_at, upd_off (fun z => h1 z.symm), ih]
          rcases hsd with h3 | h3
          · rw [h3, if_neg (by rintro (z | z); exact hk1 z; exact absurd z.1 (by decide)), Int32.mul_zero, Int32.add_zero]
          · rw [h3, if_pos (Or.inr ⟨by decide, rfl⟩), Int32.mul_one]
        · rw [upd_off (fun z => h2 z.symm), upd_off (fun z => h1 z.symm), ih, if_neg]
          rintro (z | z)
          · exact hk1 z
          · exact h2 ((hkq _ hlt).mp z.2)
    · rw [if_neg hb, if_neg (fun z => hb ((hasB_iff _ _).mpr z)), ih]
theorem getsM_at {nd : Nat → Int32} {t : Int32} : ∀ n k, k < n → getsM g nd t n (6 + k) = g (6 + k) + t * nd k
  | 0, _, h => absurd h (Nat.not_lt_zero _)
  | n + 1, k, h => by
    by_cases hk : k = n
    · subst hk; rw [getsM, upd_at, getsM_from k (6 + k) (by omega)]
    · rw [getsM, upd_off (by omega)]; exact getsM_at n k (by omega)
where getsM_from : ∀ n i, 6 + n ≤ i → getsM g nd t n i = g i
  | 0, _, _ => rfl
  | n + 1, i, h => by rw [getsM, upd_off (by omega)]; exact getsM_from n i (by omega)
end GV
theorem putJ_at {f w : Nat → Int32} : ∀ n k, putJ f w n k = if k < n then f k + w k else f k
  | 0, k => by rw [putJ, if_neg (Nat.not_lt_zero _)]
  | n + 1, k => by
    rw [putJ]
    by_cases hk : k = n
    · subst hk; rw [upd_at, putJ_at k k, if_neg (Nat.lt_irrefl _), if_pos (Nat.lt_succ_self _)]
    · rw [upd_off hk, putJ_at n k]
      by_cases h : k < n
      · rw [if_pos h, if_pos (by omega)]
      · rw [if_neg h, if_neg (by omega)]
theorem takeJ_at {f w : Nat → Int32} : ∀ n k, takeJ f w n k = if k < n then f k - w k else f k
  | 0, k => by rw [takeJ, if_neg (Nat.not_lt_zero _)]
  | n + 1, k => by
    rw [takeJ]
    by_cases hk : k = n
    · subst hk; rw [upd_at, takeJ_at k k, if_neg (Nat.lt_irrefl _), if_pos (Nat.lt_succ_self _)]
    · rw [upd_off hk, takeJ_at n k]
      by_cases h : k < n
      · rw [if_pos h, if_pos (by omega)]
      · rw [if_neg h, if_neg (by omega)]
theorem neg1_mul (x y : Int32) : y + (-1) * x = y - x := by rw [← Int32.neg_eq_neg_one_mul, Int32.sub_eq_add_neg]
