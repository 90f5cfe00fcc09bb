/-! ===== the reference's object: its numbers s, its rows; what its helpers compute ===== -/
def mP (g : Nat → Int32) (l j : Nat) : Int32 := g (132 + 8 * l + j) * (1 + g (260 + 8 * l + j))
def bitsJ (x : Int32) : Nat → Int32
  | 0 => 0
  | j + 1 => bitsJ x j + (x >>> (nI j &&& 31) &&& 1)
def causeM (g : Nat → Int32) (known boast : Int32) (l j f : Nat) : Int32 := if nI j < openJ (g (18 + l)) f then (if known &&& g (196 + 8 * l + j) = 0 then 2 else (if boast ≤ mP g l j then 0 else 3)) else 1
def skipM (g : Nat → Int32) (known boast : Int32) (l f : Nat) : Nat → Int32
  | 0 => 0
  | j + 1 => skipM g known boast l f j ||| (if causeM g known boast l j f = 0 then (0 : Int32) else (1 : Int32) <<< (nI j &&& 31))
def clrJ (b : Nat → Int32) : Nat → Nat → Int32
  | 0 => b
  | j + 1 => upd (clrJ b j) j 0
def needM1 (g : Nat → Int32) (l j : Nat) (r : Nat → Int32) : Nat → Int32 :=
  let r1 := upd r (cN (g (68 + 8 * l + j))) (r (cN (g (68 + 8 * l + j))) + g (132 + 8 * l + j))
  upd r1 ((cN (g (68 + 8 * l + j)) + 1) % 6) (r1 ((cN (g (68 + 8 * l + j)) + 1) % 6) + g (132 + 8 * l + j) * g (260 + 8 * l + j))
def needM (g : Nat → Int32) (l : Nat) (set : Int32) (b : Nat → Int32) : Nat → Nat → Int32
  | 0 => b
  | j + 1 => if set >>> (nI j &&& 31) &&& 1 = 1 then needM1 g l j (needM g l set b j) else needM g l set b j
def sumM (g : Nat → Int32) (l : Nat) (set : Int32) : Nat → Int32
  | 0 => 0
  | j + 1 => if set >>> (nI j &&& 31) &&& 1 = 1 then sumM g l set j + mP g l j else sumM g l set j
def getsM (g nd : Nat → Int32) (t : Int32) : Nat → Nat → Int32
  | 0 => g
  | j + 1 => upd (getsM g nd t j) (6 + j) (getsM g nd t j (6 + j) + t * nd j)
def onM (g : Nat → Int32) (sh : Int32) : Nat → Int32
  | 0 => 0
  | j + 1 => onM g sh j ||| (if g (34 + j) = sh then (1 : Int32) <<< (nI j &&& 31) else (0 : Int32))
def cpyJ (f h : Nat → Int32) (p q : Nat) : Nat → Nat → Int32
  | 0 => h
  | j + 1 => upd (cpyJ f h p q j) (q + j) (f (p + j))
theorem rem6 {k : Nat} (hk : k < 6) : (nI k + 1) - (nI k + 1) / 6 * 6 = nI ((k + 1) % 6) := by
  rw [nI_1]
  exact pk_rem (a := k + 1) (d := 6) (by omega) (by omega) (by omega)
theorem getsM_lo {g nd : Nat → Int32} {t : Int32} {i : Nat} (h : i < 6) : ∀ j, getsM g nd t j i = g i
  | 0 => rfl
  | j + 1 => by rw [getsM, upd_off (by omega), getsM_lo h j]
