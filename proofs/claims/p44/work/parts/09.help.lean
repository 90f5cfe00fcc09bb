/-! ===== small words for answers, worlds and ints ===== -/
def bz (p : Prop) [Decidable p] : Int32 := if p then 1 else 0
theorem bz_1 {p : Prop} [Decidable p] (h : p) : bz p = 1 := if_pos h
theorem bz_0 {p : Prop} [Decidable p] (h : ¬ p) : bz p = 0 := if_neg h
theorem bz_ne {p : Prop} [Decidable p] (h : ¬ bz p = 0) : p := by
  by_cases hp : p
  · exact hp
  · exact absurd (bz_0 hp) h
theorem bz_eq {p : Prop} [Decidable p] (h : bz p = 0) : ¬ p := fun hp => by rw [bz_1 hp] at h; exact absurd h (by decide)
theorem bz_congr {p q : Prop} [Decidable p] [Decidable q] (h : p ↔ q) : bz p = bz q := by
  by_cases hp : p
  · rw [bz_1 hp, bz_1 (h.mp hp)]
  · rw [bz_0 hp, bz_0 (fun z => hp (h.mpr z))]
theorem narrow_bz {p : Prop} [Decidable p] : narrow .boolean (.int (bz p)) = .int (bz p) := by
  by_cases hp : p
  · rw [bz_1 hp]; rfl
  · rw [bz_0 hp]; rfl
def rI (r : Int32) (ω : FWd) : Option Value → FWd → Prop := fun v τ => v = some (.int r) ∧ τ = ω
def rA (b : Nat) (ω : FWd) : Option Value → FWd → Prop := fun v τ => v = some (.ref b) ∧ τ = ω
def rV (ω : FWd) : Option Value → FWd → Prop := fun v τ => v = none ∧ τ = ω
theorem rI_mk {x r : Int32} {ω : FWd} (h : x = r) : rI r ω (some (.int x)) ω := ⟨by rw [h], rfl⟩
theorem rA_mk {x r : Nat} {ω : FWd} (h : x = r) : rA r ω (some (.ref x)) ω := ⟨by rw [h], rfl⟩
theorem rV_mk {ω : FWd} : rV ω none ω := ⟨rfl, rfl⟩
theorem va_up_at {f : Nat → Option va_E} {a : Nat} {e : Option va_E} : va_up f a e a = e := if_pos rfl
theorem va_up_off {f : Nat → Option va_E} {a q : Nat} {e : Option va_E} (h : ¬ q = a) : va_up f a e q = f q := if_neg h
theorem ix_in {x : Int32} {n : Nat} (h0 : 0 ≤ x.toInt) (h1 : x.toInt < n) : vp_in x n := vp_in_iff.mpr ⟨h0, h1⟩
theorem upd_at {f : Nat → Int32} {k : Nat} {x : Int32} : upd f k x k = x := pk_us
theorem upd_off {f : Nat → Int32} {k j : Nat} {x : Int32} (h : ¬ j = k) : upd f k x j = f j := pk_un h
/-- comparisons of small numbers -/
theorem nI_lt_iff {a b : Nat} (ha : a < 2 ^ 31) (hb : b < 2 ^ 31) : nI a < nI b ↔ a < b := nI_ltI ha hb
theorem nI_le_iff {a b : Nat} (ha : a < 2 ^ 31) (hb : b < 2 ^ 31) : nI a ≤ nI b ↔ a ≤ b := nI_leI ha hb
theorem i_lt {x y : Int32} : x < y ↔ x.toInt < y.toInt := Int32.lt_iff_toInt_lt
theorem i_le {x y : Int32} : x ≤ y ↔ x.toInt ≤ y.toInt := Int32.le_iff_toInt_le
theorem nI_num (n : Nat) : nI n = Int32.ofNat n := rfl
