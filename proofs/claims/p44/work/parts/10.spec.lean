/-! ===== what the archive's numbers mean: one table v of ints, as the reference lays it out; all answers are functions of it ===== -/
abbrev hasB (x m : Int32) : Prop := ¬ x >>> (m &&& 31) &&& 1 = 0
abbrev inB (x lo hi : Int32) : Prop := ¬ x < lo ∧ ¬ hi < x
def popF (x : Int32) : Int32 :=
  let a := x - ((x.toUInt32 >>> ((1 : Int32).toUInt32 &&& Int32.toUInt32 31)).toInt32 &&& 1431655765)
  let b := (a &&& 858993459) + ((a.toUInt32 >>> ((2 : Int32).toUInt32 &&& Int32.toUInt32 31)).toInt32 &&& 858993459)
  let c := b + (b.toUInt32 >>> ((4 : Int32).toUInt32 &&& Int32.toUInt32 31)).toInt32 &&& 252645135
  let d := c + (c.toUInt32 >>> ((8 : Int32).toUInt32 &&& Int32.toUInt32 31)).toInt32
  let e := d + (d.toUInt32 >>> ((16 : Int32).toUInt32 &&& Int32.toUInt32 31)).toInt32
  e &&& 63
def openJ (x : Int32) : Nat → Int32
  | 0 => x
  | j + 1 => (openJ x j + 1) / 2
def psJ (v : Nat → Nat → Int32) (k j : Nat) : Int32 := v (20 + k) j * (v (40 + k) j + 1)
def partsJ (v : Nat → Nat → Int32) (k : Nat) (set : Int32) : Nat → Int32
  | 0 => 0
  | j + 1 => if hasB set (nI j) then partsJ v k set j + psJ v k j else partsJ v k set j
abbrev usesB (v : Nat → Nat → Int32) (k j : Nat) (kind : Int32) : Prop := v (10 + k) j = kind ∨ (v (40 + k) j + 1 = 2 ∧ (v (10 + k) j + 1) - (v (10 + k) j + 1) / 6 * 6 = kind)
def needJ (v : Nat → Nat → Int32) (k : Nat) (set kind : Int32) : Nat → Int32
  | 0 => 0
  | j + 1 => if hasB set (nI j) then (if usesB v k j kind then needJ v k set kind j + v (20 + k) j else needJ v k set kind j) else needJ v k set kind j
def unreadJ (v : Nat → Nat → Int32) (k : Nat) (known : Int32) : Nat → Int32
  | 0 => 0
  | j + 1 => if v (30 + k) j &&& known = 0 then unreadJ v k known j ||| 1 <<< (nI j &&& 31) else unreadJ v k known j
def belowJ (v : Nat → Nat → Int32) (k : Nat) (boast : Int32) : Nat → Int32
  | 0 => 0
  | j + 1 => if boast ≤ psJ v k j then belowJ v k boast j else belowJ v k boast j ||| 1 <<< (nI j &&& 31)
def underF (v : Nat → Nat → Int32) (k f : Nat) : Int32 := 1 <<< (v 3 k &&& 31) - 1 <<< (openJ (v 3 k) f &&& 31)
def skipF (v : Nat → Nat → Int32) (k n : Nat) (known boast : Int32) (f : Nat) : Int32 := (underF v k f ||| unreadJ v k known n) ||| belowJ v k boast n
theorem lp_ge {x : Int32} {n j : Nat} (hn : x = nI n) (h : x ≤ nI j) (h1 : n < 2 ^ 31) (h2 : j < 2 ^ 31) : n ≤ j := by rw [hn] at h; exact (nI_leI h1 h2).mp h
theorem lp_lt {x : Int32} {n j : Nat} (hn : x = nI n) (h : ¬ x ≤ nI j) (h1 : n < 2 ^ 31) (h2 : j < 2 ^ 31) : j < n := Nat.lt_of_not_le fun z => h (by rw [hn]; exact (nI_leI h1 h2).mpr z)
/-- the cells of a leaflet, at a: its object, its four rows -/
def LeafS (G : FG) (σ : Nat → Option va_E) (a : Nat) (v : Nat → Nat → Int32) (k : Nat) : Prop :=
  σ a = some (.inr (7, [.int (v 3 k), .int (v 4 k), .int (v 5 k), .int (v 6 k - 1), .int (v 7 k), .ref (a + 1), .ref (a + 2), .ref (a + 3), .ref (a + 4)])) ∧
  σ (a + 1) = some (.inl (G.2.1 0, 8, .inl (v (10 + k)))) ∧ σ (a + 2) = some (.inl (G.2.1 0, 8, .inl (v (20 + k)))) ∧
  σ (a + 3) = some (.inl (G.2.1 0, 8, .inl (v (30 + k)))) ∧ σ (a + 4) = some (.inl (G.2.1 0, 8, .inl (fun i9 => v (40 + k) i9 + 1)))
/-- the cells of an archive, 51 from a on -/
def ArcS (G : FG) (σ : Nat → Option va_E) (a : Nat) (v : Nat → Nat → Int32) : Prop :=
  σ a = some (.inr (2, [.ref (a + 1), .int (v 0 0), .ref (a + 2), .int (v 0 1), .ref (a + 3), .int (v 0 2), .int (v 0 3), .int (v 0 4), .int (v 0 5)])) ∧
  σ (a + 1) = some (.inl (G.2.1 7, 8, .inr (.inr (.inr (.inr (fun j => some (a + 6 + 5 * j))))))) ∧
  σ (a + 2) = some (.inl (G.2.1 6, 5, .inr (.inr (.inr (.inr (fun j => some (a + 46 + j))))))) ∧
  σ (a + 3) = some (.inr (11, [.ref (a + 4), .ref (a + 5)])) ∧
  σ (a + 4) = some (.inl (G.2.1 0, 6, .inl (v 1))) ∧
  σ (a + 5) = some (.inl (G.2.1 0, 6, .inl (v 2))) ∧
  (∀ k, k < 8 → LeafS G σ (a + 6 + 5 * k) v k) ∧ (∀ k, k < 5 → σ (a + 46 + k) = some (.inr (5, [.int (v 8 k), .int (v 9 k)])))
/-- a tin, 3 cells from a on -/
def TinS (G : FG) (σ : Nat → Option va_E) (t : Nat) (f h : Nat → Int32) : Prop :=
  σ t = some (.inr (11, [.ref (t + 1), .ref (t + 2)])) ∧ σ (t + 1) = some (.inl (G.2.1 0, 6, .inl f)) ∧ σ (t + 2) = some (.inl (G.2.1 0, 6, .inl h))
def sumJ (f : Nat → Int32) : Nat → Int32
  | 0 => 0
  | j + 1 => sumJ f j + f j
def onJ (v : Nat → Nat → Int32) (shelf : Int32) : Nat → Int32
  | 0 => 0
  | j + 1 => if v 5 j = shelf then onJ v shelf j ||| 1 <<< (nI j &&& 31) else onJ v shelf j
abbrev builtB (v : Nat → Nat → Int32) (j : Nat) : Prop := ¬ v 6 j - 1 = (-1)
abbrev cN (x : Int32) : Nat := x.toNatClampNeg
def okN (x : Int32) (b : Nat) : Prop := x = nI (cN x) ∧ cN x ≤ b
abbrev stN (v : Nat → Nat → Int32) (j : Nat) : Nat := cN (v 3 j)
def putJ (f w : Nat → Int32) : Nat → Nat → Int32
  | 0 => f
  | j + 1 => upd (putJ f w j) j (putJ f w j j + w j)
def takeJ (f w : Nat → Int32) : Nat → Nat → Int32
  | 0 => f
  | j + 1 => upd (takeJ f w j) j (takeJ f w j j - w j)
/-- the lowest of the kinds from j on of which there are too few, of n kinds still to see -/
def lackJ (f w : Nat → Int32) (j : Nat) : Nat → Int32
  | 0 => -1
  | n + 1 => if w j ≤ f j then lackJ f w (j + 1) n else nI j
