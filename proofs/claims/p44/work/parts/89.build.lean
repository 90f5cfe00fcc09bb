/-! ===== printed by program (wip/p44/lay_build.py): build(s) ===== -/
theorem zR_c {i : Nat} : cN (zR i) = 0 := by
  show cN (0 : Int32) = 0
  decide
theorem tellZ : Tell vZ (gV zR) := by
  have h0 : ∀ r i, gV zR r i = 0 := fun r i => by
    unfold gV zR
    (repeat' split) <;> rfl
  refine ⟨fun i _ => by rw [h0]; rfl, fun i _ => by rw [h0]; rfl, fun i _ => by rw [h0]; rfl, fun j hj => ?_, fun i hi => ?_⟩
  · rw [h0] at hj; exact absurd hj (by show ¬ j < cN (0 : Int32); rw [show cN (0 : Int32) = 0 by decide]; exact Nat.not_lt_zero j)
  · rw [h0] at hi; exact absurd hi (by show ¬ i < cN (0 : Int32); rw [show cN (0 : Int32) = 0 by decide]; exact Nat.not_lt_zero i)
theorem wfgZ : WFG zR := by
  have hk : ∀ b : Nat, b < 100 → okN (zR 0) b := fun b hb => okN_mk (n := 0) rfl (Nat.zero_le _) (by omega)
  refine ⟨⟨⟨hk 8 (by decide), hk 5 (by decide), fun j hj => ?_⟩, fun j _ _ => ⟨rfl, rfl, rfl, rfl⟩⟩, fun j hj => ?_, fun i hi => ?_, fun sh => ?_, fun k hk => ?_⟩
  · rw [zR_c] at hj; exact absurd hj (Nat.not_lt_zero j)
  · rw [zR_c] at hj; exact absurd hj (Nat.not_lt_zero j)
  · rw [zR_c] at hi; exact absurd hi (Nat.not_lt_zero i)
  · rw [zR_c]; exact Nat.zero_le _
  · rw [zR_c]; rfl
theorem cinv0 {G : FG} {σ : Nat → Option va_E} {x : Nat} (h : σ x = some (.inr (12, [.ref (x + 1), .ref (x + 2), .ref (x + 53), .ref (x + 54), .ref (x + 515), .int 0, .ref (x + 566), .ref (x + 609), .ref (x + 611)])) ∧ σ (x + 1) = some (.inr (3, [.ref (x + 2), .ref (x + 53)])) ∧ ArcS G σ (x + 2) vZ ∧ σ (x + 53) = some (.inr (9, [.int 0, .int 0, .int 0])) ∧ HisS G σ (x + 54) (fun _ => vZ) 0 0 ∧ ArcS G σ (x + 515) vZ ∧ (TxtS G σ (x + 566) zR 0 0 0 (-1) ∧ σ (x + 566 + 2) = some (.inl (G.2.1 5, 20, .inr (.inr (.inr (.inr (fun z9 => some (x + 566 + 3 + 2 * z9))))))) ∧ ∀ i, i < 20 → CmdS G σ (x + 566 + 3 + 2 * i) 0 zR 0 0) ∧ LinS G σ (x + 609) (zR, 0) ∧ TinS G σ (x + 611) zR zR) : CInv G σ x sZ zR zR zR zR zR := by
  obtain ⟨h1, h2, h3, h4, h5, h6, ⟨h7, h8, h9⟩, h10, h11⟩ := h
  exact ⟨⟨h1, h2⟩, ⟨vZ, h3, tellZ, wfgZ⟩, h4, ⟨fun _ => vZ, 0, 0, h5, by decide, by decide, rfl, fun i hi => absurd hi (Nat.not_lt_zero i)⟩, ⟨vZ, h6, fun z => absurd rfl z⟩, ⟨zR, 0, 0, 0, h7, rfl, fun i hi => absurd hi (Nat.not_lt_zero i), fun i hi => absurd hi (Nat.not_lt_zero i), Nat.zero_le _⟩, ⟨h8, fun _ => (0, zR, 0, 0), fun i hi => ⟨h9 i hi, Nat.zero_le _⟩⟩, ⟨⟨(zR, 0), h10, rfl, fun i hi => absurd hi (Nat.not_lt_zero i)⟩, fun i hi => rfl⟩, ⟨zR, zR, h11⟩⟩
theorem and_nI (z : Int32) (k : Nat) (hk : k < 2 ^ 31) : ∃ m : Nat, m ≤ k ∧ z &&& nI k = nI m := by
  refine ⟨(z &&& nI k).toBitVec.toNat, ?_, ?_⟩
  · have h1 : (z &&& nI k).toBitVec.toNat = z.toBitVec.toNat &&& (nI k).toBitVec.toNat := by
      rw [Int32.toBitVec_and, BitVec.toNat_and]
    have h2 : (nI k).toBitVec.toNat = k := by
      show (BitVec.ofNat 32 k).toNat = k
      rw [BitVec.toNat_ofNat]
      exact Nat.mod_eq_of_lt (by omega)
    rw [h1, h2]
    exact Nat.and_le_right
  · apply Int32.toBitVec_inj.mp
    show (z &&& nI k).toBitVec = BitVec.ofNat 32 _
    rw [BitVec.ofNat_toNat]
    simp
theorem and_3 (z : Int32) : ∃ n : Nat, n ≤ 4 ∧ 1 + (z &&& 3) = nI n := by
  obtain ⟨m, hm, e⟩ := and_nI z 3 (by decide)
  exact ⟨m + 1, by omega, by rw [show z &&& 3 = nI m from e, ← nI_1, Int32.add_comm]⟩
theorem and_1 (z : Int32) : ∃ n : Nat, n ≤ 4 ∧ 1 + (z &&& 1) = nI n := by
  obtain ⟨m, hm, e⟩ := and_nI z 1 (by decide)
  exact ⟨m + 1, by omega, by rw [show z &&& 1 = nI m from e, ← nI_1, Int32.add_comm]⟩
def bc_0 (c m f : Int32) (S : StZ) : StZ := (ob_act ((ob_act S 1 f (((c >>> ((3 : Int32) &&& 31)) &&& 7) - ((c >>> ((3 : Int32) &&& 31)) &&& 7) / 6 * 6) (1 + ((c >>> ((6 : Int32) &&& 31)) &&& 3)) (1 + (((c >>> ((8 : Int32) &&& 31)) &&& 31) - ((c >>> ((8 : Int32) &&& 31)) &&& 31) / 31 * 31)) ((c >>> ((13 : Int32) &&& 31)) &&& 1)).2) 1 (((c >>> ((6 : Int32) &&& 31)) &&& 7) - ((c >>> ((6 : Int32) &&& 31)) &&& 7) / m * m) (((c >>> ((9 : Int32) &&& 31)) &&& 7) - ((c >>> ((9 : Int32) &&& 31)) &&& 7) / 6 * 6) (1 + ((c >>> ((12 : Int32) &&& 31)) &&& 3)) (1 + (((c >>> ((14 : Int32) &&& 31)) &&& 31) - ((c >>> ((14 : Int32) &&& 31)) &&& 31) / 31 * 31)) ((c >>> ((19 : Int32) &&& 31)) &&& 1)).2
def bc_1 (c m f : Int32) (S : StZ) : StZ := if ((c >>> ((20 : Int32) &&& 31)) &&& 7) = 0 then (ob_act S 2 f 0 0 0 0).2 else S
def bc_2 (c m f : Int32) (S : StZ) : StZ := if ((c >>> ((20 : Int32) &&& 31)) &&& 15) = 1 then (ob_act S 3 f 0 0 0 0).2 else S
def bc_3 (c m f : Int32) (S : StZ) : StZ := if ((c >>> ((20 : Int32) &&& 31)) &&& 7) = 2 then (ob_act S 6 ((c >>> ((23 : Int32) &&& 31)) &&& 1) (((c >>> ((24 : Int32) &&& 31)) &&& 7) - ((c >>> ((24 : Int32) &&& 31)) &&& 7) / m * m) 0 0 0).2 else S
def bc_4 (c m f : Int32) (S : StZ) : StZ := if ((c >>> ((20 : Int32) &&& 31)) &&& 7) = 3 then (ob_act S 7 (((c >>> ((23 : Int32) &&& 31)) &&& 7) - ((c >>> ((23 : Int32) &&& 31)) &&& 7) / m * m) ((c >>> ((26 : Int32) &&& 31)) &&& 7) 0 0 0).2 else S
def bc_5 (c m f : Int32) (S : StZ) : StZ := if ((c >>> ((20 : Int32) &&& 31)) &&& 15) = 4 then (ob_act S 8 (((c >>> ((24 : Int32) &&& 31)) &&& 7) - ((c >>> ((24 : Int32) &&& 31)) &&& 7) / m * m) 0 0 0 0).2 else S
def bc_6 (c m f : Int32) (S : StZ) : StZ := if ((c >>> ((20 : Int32) &&& 31)) &&& 7) = 5 then (ob_act S 10 (((c >>> ((23 : Int32) &&& 31)) &&& 7) - ((c >>> ((23 : Int32) &&& 31)) &&& 7) / 6 * 6) (1 + ((c >>> ((26 : Int32) &&& 31)) &&& 3)) 0 0 0).2 else S
def bc_7 (c m f : Int32) (S : StZ) : StZ := if ((c >>> ((20 : Int32) &&& 31)) &&& 15) = 6 then (ob_act S 11 (((c >>> ((24 : Int32) &&& 31)) &&& 7) - ((c >>> ((24 : Int32) &&& 31)) &&& 7) / 6 * 6) (1 + ((c >>> ((27 : Int32) &&& 31)) &&& 3)) 0 0 0).2 else S
def bc_8 (c m f : Int32) (S : StZ) : StZ := if ((c >>> ((20 : Int32) &&& 31)) &&& 15) = 12 then (ob_act S 5 ((c >>> ((24 : Int32) &&& 31)) &&& 1) (((c >>> ((25 : Int32) &&& 31)) &&& 7) - ((c >>> ((25 : Int32) &&& 31)) &&& 7) / 5 * 5) 0 0 0).2 else S
def bc_9 (c m f : Int32) (S : StZ) : StZ := if ((c >>> ((20 : Int32) &&& 31)) &&& 31) = 7 then (ob_act S 0 ((c >>> ((25 : Int32) &&& 31)) &&& 3) 0 0 0 0).2 else S
def bc_10 (c m f : Int32) (S : StZ) : StZ := if ((c >>> ((20 : Int32) &&& 31)) &&& 15) = 14 then (ob_act S 6 ((c >>> ((24 : Int32) &&& 31)) &&& 1) (((c >>> ((25 : Int32) &&& 31)) &&& 7) - ((c >>> ((25 : Int32) &&& 31)) &&& 7) / m * m) 0 0 0).2 else S
/-- the script's k-th int, 0 behind its end -/
def atV (L : Nat) (xs : Nat → Int32) (k : Nat) : Int32 := if k < L then xs k else 0
def mxV (g : PR) : Int32 := if (1 : Int32) < g 0 then g 0 else 1
theorem mxV_0 {g : PR} : ¬ mxV g = 0 := by
  unfold mxV
  split
  · rename_i h
    intro z
    rw [z] at h
    exact absurd h (by decide)
  · decide
def bdA (z : Int32) (S : StZ) : Nat → StZ
  | 0 => S
  | i + 1 => (ob_act (bdA z S i) 0 ((z >>> ((2 + (2 * (nI i))) &&& 31)) &&& 3) 0 0 0 0).2
def bdB (z : Int32) (S : StZ) : Nat → StZ
  | 0 => S
  | i + 1 => (ob_act (bdB z S i) 4 (((z >>> ((11 + (3 * (nI i))) &&& 31)) &&& 7) - ((z >>> ((11 + (3 * (nI i))) &&& 31)) &&& 7) / 6 * 6) ((z >>> ((17 + (5 * (nI i))) &&& 31)) &&& 31) 0 0 0).2
/-- what one int of the script does -/
def bdK (c m f : Int32) (S : StZ) : StZ := bc_10 c m f (bc_9 c m f (bc_8 c m f (bc_7 c m f (bc_6 c m f (bc_5 c m f (bc_4 c m f (bc_3 c m f (bc_2 c m f (bc_1 c m f (bc_0 c m f (S)))))))))))
def bdC (L : Nat) (xs : Nat → Int32) (S : StZ) : Nat → StZ
  | 0 => S
  | j + 1 => bdK (atV L xs (j + 1)) (mxV (bdC L xs S j).2.1) (((atV L xs (j + 1) &&& 7) - (atV L xs (j + 1) &&& 7) / mxV (bdC L xs S j).2.1 * mxV (bdC L xs S j).2.1)) (bdC L xs S j)
abbrev zsZ : StZ := (sZ, zR, zR, zR, zR, zR)
def bdS (L : Nat) (xs : Nat → Int32) : StZ := bdC L xs (bdB (atV L xs 0) (bdA (atV L xs 0) zsZ (cN (1 + (atV L xs 0 &&& 3)))) (cN (1 + (atV L xs 0 >>> ((10 : Int32) &&& 31) &&& 1)))) 12
def BCx (G : FG) (l : Launch) (p : Program) (s : State) (m : MethodId) (args : Array Value) (c : Code) : Prop :=
  p.tables.exec = Jvm.exec ∧ c.code = cL_build ∧ c.maxLocals = 7 ∧ s.vm.findClass RL = some m.cls ∧ (∀ w ∈ wsL_build, w.before args s = true) ∧ G.2.2.WarmedH s.vm ∧ FL G ∧ FX0 G l
abbrev BRm : Room := ({ frames := 9, cells := 1000, slots := 6000, locals := 200 } : Room)
section BDZ
variable {G : FG} {l : Launch} {pP : Program} {eE : Env} {sS : State} {mI : MethodId} {ar9 : Array Value} {bl9 : List Frame} {meth : Method} {cD : Code} {Q : State → Prop} {x b : Nat} {ω : FWd}
set_option maxHeartbeats 4000000 in
set_option maxRecDepth 100000 in
theorem bd_0 (C : BCx G l pP sS mI ar9 cD) {S : StZ} {c m f z : Int32} {k n0 : Nat} (hm : ¬ m = 0) (hn0 : n0 ≤ 950)
    (kk : ∀ (τ : FWd) (cells slots : Nat) (H : Heap) (locs : List Loc) (ls : Array Slot), cells ≤ n0 + 2 → slots ≤ 6 * (n0 + 2) → CI G τ.2 x ((ob_act ((ob_act S 1 f (((c >>> ((3 : Int32) &&& 31)) &&& 7) - ((c >>> ((3 : Int32) &&& 31)) &&& 7) / 6 * 6) (1 + ((c >>> ((6 : Int32) &&& 31)) &&& 3)) (1 + (((c >>> ((8 : Int32) &&& 31)) &&& 31) - ((c >>> ((8 : Int32) &&& 31)) &&& 31) / 31 * 31)) ((c >>> ((13 : Int32) &&& 31)) &&& 1)).2) 1 (((c >>> ((6 : Int32) &&& 31)) &&& 7) - ((c >>> ((6 : Int32) &&& 31)) &&& 7) / m * m) (((c >>> ((9 : Int32) &&& 31)) &&& 7) - ((c >>> ((9 : Int32) &&& 31)) &&& 7) / 6 * 6) (1 + ((c >>> ((12 : Int32) &&& 31)) &&& 3)) (1 + (((c >>> ((14 : Int32) &&& 31)) &&& 31) - ((c >>> ((14 : Int32) &&& 31)) &&& 31) / 31 * 31)) ((c >>> ((19 : Int32) &&& 31)) &&& 1)).2) → (∀ q, q < x → τ.2 q = ω.2 q) → fR G τ H → va_S (fwA G) sS.heap H locs → lv_has ls 7 [(6, .int f), (5, .int m), (4, .int c), (3, .int (nI k)), (2, .int z), (1, .ref x), (0, .ref b)] → W pP l eE BRm sS mI ar9 bl9 meth cD H locs cells slots Q (F0 mI 244 ls [])) {τ : FWd} {cells slots : Nat} {H : Heap} {locs : List Loc} {ls : Array Slot} (hc : cells ≤ n0) (hs : slots ≤ 6 * n0) (hC : CI G τ.2 x S) (hF : ∀ q, q < x → τ.2 q = ω.2 q) (hR : fR G τ H) (hS : va_S (fwA G) sS.heap H locs) (hl : lv_has ls 7 [(6, .int f), (5, .int m), (4, .int c), (3, .int (nI k)), (2, .int z), (1, .ref x), (0, .ref b)]) : W pP l eE BRm sS mI ar9 bl9 meth cD H locs cells slots Q (F0 mI 140 ls []) := by
  obtain ⟨hx, hb, hml, hown, hts, hW, hL, hX0⟩ := id C
  have hK := hL.K hW
  refine lv_aload_n hx hb dL_build_140 rfl (lv_at hl 5 rfl) ?_
  refine lv_iconst (v := 1) hx hb dL_build_141 (by decide) ?_
  refine lv_iload hx hb dL_build_142 (lv_at hl 0 rfl) ?_
  refine lv_iload hx hb dL_build_144 (lv_at hl 2 rfl) ?_
  refine lv_iconst (v := 3) hx hb dL_build_146 (by decide) ?_
  refine lv_ishr hx hb dL_build_147 ?_
  refine lv_bipush (v := 7) hx hb dL_build_148 (by decide) ?_
  refine lv_iand hx hb dL_build_150 ?_
  refine lv_bipush (v := 6) hx hb dL_build_151 (by decide) ?_
  refine lv_irem hx hb dL_build_153 (by decide) ?_
  refine lv_iconst (v := 1) hx hb dL_build_154 (by decide) ?_
  refine lv_iload hx hb dL_build_155 (lv_at hl 2 rfl) ?_
  refine lv_bipush (v := 6) hx hb dL_build_157 (by decide) ?_
  refine lv_ishr hx hb dL_build_159 ?_
  refine lv_iconst (v := 3) hx hb dL_build_160 (by decide) ?_
  refine lv_iand hx hb dL_build_161 ?_
  refine lv_iadd hx hb dL_build_162 ?_
  refine lv_iconst (v := 1) hx hb dL_build_163 (by decide) ?_
  refine lv_iload hx hb dL_build_164 (lv_at hl 2 rfl) ?_
  refine lv_bipush (v := 8) hx hb dL_build_166 (by decide) ?_
  refine lv_ishr hx hb dL_build_168 ?_
  refine lv_bipush (v := 31) hx hb dL_build_169 (by decide) ?_
  refine lv_iand hx hb dL_build_171 ?_
  refine lv_bipush (v := 31) hx hb dL_build_172 (by decide) ?_
  refine lv_irem hx hb dL_build_174 (by decide) ?_
  refine lv_iadd hx hb dL_build_175 ?_
  refine lv_iload hx hb dL_build_176 (lv_at hl 2 rfl) ?_
  refine lv_bipush (v := 13) hx hb dL_build_178 (by decide) ?_
  refine lv_ishr hx hb dL_build_180 ?_
  refine lv_iconst (v := 1) hx hb dL_build_181 (by decide) ?_
  refine lv_iand hx hb dL_build_182 ?_
  refine fx_call (vx_runSX (As := [.ref x, .int 1, .int f, .int (((c >>> ((3 : Int32) &&& 31)) &&& 7) - ((c >>> ((3 : Int32) &&& 31)) &&& 7) / 6 * 6), .int (1 + ((c >>> ((6 : Int32) &&& 31)) &&& 3)), .int (1 + (((c >>> ((8 : Int32) &&& 31)) &&& 31) - ((c >>> ((8 : Int32) &&& 31)) &&& 31) / 31 * 31)), .int ((c >>> ((13 : Int32) &&& 31)) &&& 1)]) (rest := []) ⟨hx, hb, hml, hown, hts⟩ (h_act_1 G hL l hX0 τ x S hC f (((c >>> ((3 : Int32) &&& 31)) &&& 7) - ((c >>> ((3 : Int32) &&& 31)) &&& 7) / 6 * 6) (1 + ((c >>> ((6 : Int32) &&& 31)) &&& 3)) (1 + (((c >>> ((8 : Int32) &&& 31)) &&& 31) - ((c >>> ((8 : Int32) &&& 31)) &&& 31) / 31 * 31)) ((c >>> ((13 : Int32) &&& 31)) &&& 1)) (vx_cwSW 7 hts gL_build_L_act rfl rfl rfl (by decide +kernel) ⟨Nat.le_of_ble_eq_true rfl, Nat.le_of_ble_eq_true rfl⟩) (fw_preS hW hR) rfl rfl hl.1 rfl (lv_room (Nat.le_of_ble_eq_true rfl)) dL_build_183 ⟨by show cells + 1 ≤ 1000; omega, by show slots + 6 ≤ 6000; omega⟩) hS (fun E ce q9 τ H locs hx_1 hR hS hce hcv hcl => hx_1.elim) (fun v_1 τ_1 H locs hq_1 hR hS => ?_)
  obtain ⟨rfl, hC, hF9⟩ := hq_1
  have hF : ∀ q, q < x → τ_1.2 q = ω.2 q := fun q hq => (hF9 q (Or.inl hq)).trans (hF q hq)
  refine W.eq (g2 := F0 mI 186 ls [.int (ob_act S 1 f (((c >>> ((3 : Int32) &&& 31)) &&& 7) - ((c >>> ((3 : Int32) &&& 31)) &&& 7) / 6 * 6) (1 + ((c >>> ((6 : Int32) &&& 31)) &&& 3)) (1 + (((c >>> ((8 : Int32) &&& 31)) &&& 31) - ((c >>> ((8 : Int32) &&& 31)) &&& 31) / 31 * 31)) ((c >>> ((13 : Int32) &&& 31)) &&& 1)).1]) rfl ?_
  refine lv_pop hx hb dL_build_186 rfl ?_
  refine lv_aload_n hx hb dL_build_187 rfl (lv_at hl 5 rfl) ?_
  refine lv_iconst (v := 1) hx hb dL_build_188 (by decide) ?_
  refine lv_iload hx hb dL_build_189 (lv_at hl 2 rfl) ?_
  refine lv_bipush (v := 6) hx hb dL_build_191 (by decide) ?_
  refine lv_ishr hx hb dL_build_193 ?_
  refine lv_bipush (v := 7) hx hb dL_build_194 (by decide) ?_
  refine lv_iand hx hb dL_build_196 ?_
  refine lv_iload hx hb dL_build_197 (lv_at hl 1 rfl) ?_
  refine lv_irem hx hb dL_build_199 hm ?_
  refine lv_iload hx hb dL_build_200 (lv_at hl 2 rfl) ?_
  refine lv_bipush (v := 9) hx hb dL_build_202 (by decide) ?_
  refine lv_ishr hx hb dL_build_204 ?_
  refine lv_bipush (v := 7) hx hb dL_build_205 (by decide) ?_
  refine lv_iand hx hb dL_build_207 ?_
  refine lv_bipush (v := 6) hx hb dL_build_208 (by decide) ?_
  refine lv_irem hx hb dL_build_210 (by decide) ?_
  refine lv_iconst (v := 1) hx hb dL_build_211 (by decide) ?_
  refine lv_iload hx hb dL_build_212 (lv_at hl 2 rfl) ?_
  refine lv_bipush (v := 12) hx hb dL_build_214 (by decide) ?_
  refine lv_ishr hx hb dL_build_216 ?_
  refine lv_iconst (v := 3) hx hb dL_build_217 (by decide) ?_
  refine lv_iand hx hb dL_build_218 ?_
  refine lv_iadd hx hb dL_build_219 ?_
  refine lv_iconst (v := 1) hx hb dL_build_220 (by decide) ?_
  refine lv_iload hx hb dL_build_221 (lv_at hl 2 rfl) ?_
  refine lv_bipush (v := 14) hx hb dL_build_223 (by decide) ?_
  refine lv_ishr hx hb dL_build_225 ?_
  refine lv_bipush (v := 31) hx hb dL_build_226 (by decide) ?_
  refine lv_iand hx hb dL_build_228 ?_
  refine lv_bipush (v := 31) hx hb dL_build_229 (by decide) ?_
  refine lv_irem hx hb dL_build_231 (by decide) ?_
  refine lv_iadd hx hb dL_build_232 ?_
  refine lv_iload hx hb dL_build_233 (lv_at hl 2 rfl) ?_
  refine lv_bipush (v := 19) hx hb dL_build_235 (by decide) ?_
  refine lv_ishr hx hb dL_build_237 ?_
  refine lv_iconst (v := 1) hx hb dL_build_238 (by decide) ?_
  refine lv_iand hx hb dL_build_239 ?_
  refine fx_call (vx_runSX (As := [.ref x, .int 1, .int (((c >>> ((6 : Int32) &&& 31)) &&& 7) - ((c >>> ((6 : Int32) &&& 31)) &&& 7) / m * m), .int (((c >>> ((9 : Int32) &&& 31)) &&& 7) - ((c >>> ((9 : Int32) &&& 31)) &&& 7) / 6 * 6), .int (1 + ((c >>> ((12 : Int32) &&& 31)) &&& 3)), .int (1 + (((c >>> ((14 : Int32) &&& 31)) &&& 31) - ((c >>> ((14 : Int32) &&& 31)) &&& 31) / 31 * 31)), .int ((c >>> ((19 : Int32) &&& 31)) &&& 1)]) (rest := []) ⟨hx, hb, hml, hown, hts⟩ (h_act_1 G hL l hX0 τ_1 x ((ob_act S 1 f (((c >>> ((3 : Int32) &&& 31)) &&& 7) - ((c >>> ((3 : Int32) &&& 31)) &&& 7) / 6 * 6) (1 + ((c >>> ((6 : Int32) &&& 31)) &&& 3)) (1 + (((c >>> ((8 : Int32) &&& 31)) &&& 31) - ((c >>> ((8 : Int32) &&& 31)) &&& 31) / 31 * 31)) ((c >>> ((13 : Int32) &&& 31)) &&& 1)).2) hC (((c >>> ((6 : Int32) &&& 31)) &&& 7) - ((c >>> ((6 : Int32) &&& 31)) &&& 7) / m * m) (((c >>> ((9 : Int32) &&& 31)) &&& 7) - ((c >>> ((9 : Int32) &&& 31)) &&& 7) / 6 * 6) (1 + ((c >>> ((12 : Int32) &&& 31)) &&& 3)) (1 + (((c >>> ((14 : Int32) &&& 31)) &&& 31) - ((c >>> ((14 : Int32) &&& 31)) &&& 31) / 31 * 31)) ((c >>> ((19 : Int32) &&& 31)) &&& 1)) (vx_cwSW 7 hts gL_build_L_act rfl rfl rfl (by decide +kernel) ⟨Nat.le_of_ble_eq_true rfl, Nat.le_of_ble_eq_true rfl⟩) (fw_preS hW hR) rfl rfl hl.1 rfl (lv_room (Nat.le_of_ble_eq_true rfl)) dL_build_240 ⟨by show cells + 1 + 1 ≤ 1000; omega, by show slots + 6 + 6 ≤ 6000; omega⟩) hS (fun E ce q9 τ H locs hx_1 hR hS hce hcv hcl => hx_1.elim) (fun v_2 τ_2 H locs hq_2 hR hS => ?_)
  obtain ⟨rfl, hC, hF9⟩ := hq_2
  have hF : ∀ q, q < x → τ_2.2 q = ω.2 q := fun q hq => (hF9 q (Or.inl hq)).trans (hF q hq)
  refine W.eq (g2 := F0 mI 243 ls [.int (ob_act ((ob_act S 1 f (((c >>> ((3 : Int32) &&& 31)) &&& 7) - ((c >>> ((3 : Int32) &&& 31)) &&& 7) / 6 * 6) (1 + ((c >>> ((6 : Int32) &&& 31)) &&& 3)) (1 + (((c >>> ((8 : Int32) &&& 31)) &&& 31) - ((c >>> ((8 : Int32) &&& 31)) &&& 31) / 31 * 31)) ((c >>> ((13 : Int32) &&& 31)) &&& 1)).2) 1 (((c >>> ((6 : Int32) &&& 31)) &&& 7) - ((c >>> ((6 : Int32) &&& 31)) &&& 7) / m * m) (((c >>> ((9 : Int32) &&& 31)) &&& 7) - ((c >>> ((9 : Int32) &&& 31)) &&& 7) / 6 * 6) (1 + ((c >>> ((12 : Int32) &&& 31)) &&& 3)) (1 + (((c >>> ((14 : Int32) &&& 31)) &&& 31) - ((c >>> ((14 : Int32) &&& 31)) &&& 31) / 31 * 31)) ((c >>> ((19 : Int32) &&& 31)) &&& 1)).1]) rfl ?_
  refine lv_pop hx hb dL_build_243 rfl ?_
  exact kk τ_2 _ _ H locs ls (by omega) (by omega) hC hF hR hS hl
set_option maxHeartbeats 4000000 in
set_option maxRecDepth 100000 in
theorem bd_1 (C : BCx G l pP sS mI ar9 cD) {S : StZ} {c m f z : Int32} {k n0 : Nat} (hm : ¬ m = 0) (hn0 : n0 ≤ 950)
    (kk : ∀ (τ : FWd) (cells slots : Nat) (H : Heap) (locs : List Loc) (ls : Array Slot), cells ≤ n0 + 1 → slots ≤ 6 * (n0 + 1) → CI G τ.2 x (bc_1 c m f S) → (∀ q, q < x → τ.2 q = ω.2 q) → fR G τ H → va_S (fwA G) sS.heap H locs → lv_has ls 7 [(6, .int f), (5, .int m), (4, .int c), (3, .int (nI k)), (2, .int z), (1, .ref x), (0, .ref b)] → W pP l eE BRm sS mI ar9 bl9 meth cD H locs cells slots Q (F0 mI 267 ls [])) {τ : FWd} {cells slots : Nat} {H : Heap} {locs : List Loc} {ls : Array Slot} (hc : cells ≤ n0) (hs : slots ≤ 6 * n0) (hC : CI G τ.2 x S) (hF : ∀ q, q < x → τ.2 q = ω.2 q) (hR : fR G τ H) (hS : va_S (fwA G) sS.heap H locs) (hl : lv_has ls 7 [(6, .int f), (5, .int m), (4, .int c), (3, .int (nI k)), (2, .int z), (1, .ref x), (0, .ref b)]) : W pP l eE BRm sS mI ar9 bl9 meth cD H locs cells slots Q (F0 mI 244 ls []) := by
  obtain ⟨hx, hb, hml, hown, hts, hW, hL, hX0⟩ := id C
  have hK := hL.K hW
  refine lv_iload hx hb dL_build_244 (lv_at hl 2 rfl) ?_
  refine lv_bipush (v := 20) hx hb dL_build_246 (by decide) ?_
  refine lv_ishr hx hb dL_build_248 ?_
  refine lv_bipush (v := 7) hx hb dL_build_249 (by decide) ?_
  refine lv_iand hx hb dL_build_251 ?_
  refine lv_if_ne (tgt := 267) hx hb dL_build_252 (by decide) (fun c9 => ?_) (fun c9 => ?_)
  · have e9 : bc_1 c m f S = S := if_neg c9
    exact kk τ _ _ H locs ls (by omega) (by omega) (by rw [e9]; exact hC) hF hR hS hl
  · skip
    refine lv_aload_n hx hb dL_build_255 rfl (lv_at hl 5 rfl) ?_
    refine lv_iconst (v := 2) hx hb dL_build_256 (by decide) ?_
    refine lv_iload hx hb dL_build_257 (lv_at hl 0 rfl) ?_
    refine lv_iconst (v := 0) hx hb dL_build_259 (by decide) ?_
    refine lv_iconst (v := 0) hx hb dL_build_260 (by decide) ?_
    refine lv_iconst (v := 0) hx hb dL_build_261 (by decide) ?_
    refine lv_iconst (v := 0) hx hb dL_build_262 (by decide) ?_
    refine fx_call (vx_runSX (As := [.ref x, .int 2, .int f, .int 0, .int 0, .int 0, .int 0]) (rest := []) ⟨hx, hb, hml, hown, hts⟩ (h_act_2 G hL l hX0 τ x S hC f 0 0 0 0) (vx_cwSW 7 hts gL_build_L_act rfl rfl rfl (by decide +kernel) ⟨Nat.le_of_ble_eq_true rfl, Nat.le_of_ble_eq_true rfl⟩) (fw_preS hW hR) rfl rfl hl.1 rfl (lv_room (Nat.le_of_ble_eq_true rfl)) dL_build_263 ⟨by show cells + 1 ≤ 1000; omega, by show slots + 6 ≤ 6000; omega⟩) hS (fun E ce q9 τ H locs hx_1 hR hS hce hcv hcl => hx_1.elim) (fun v_1 τ_1 H locs hq_1 hR hS => ?_)
    obtain ⟨rfl, hC, hF9⟩ := hq_1
    have hF : ∀ q, q < x → τ_1.2 q = ω.2 q := fun q hq => (hF9 q (Or.inl hq)).trans (hF q hq)
    refine W.eq (g2 := F0 mI 266 ls [.int (ob_act S 2 f 0 0 0 0).1]) rfl ?_
    refine lv_pop hx hb dL_build_266 rfl ?_
    have e9 : bc_1 c m f S = (ob_act S 2 f 0 0 0 0).2 := if_pos c9
    exact kk τ_1 _ _ H locs ls (by omega) (by omega) (by rw [e9]; exact hC) hF hR hS hl
set_option maxHeartbeats 4000000 in
set_option maxRecDepth 100000 in
theorem bd_2 (C : BCx G l pP sS mI ar9 cD) {S : StZ} {c m f z : Int32} {k n0 : Nat} (hm : ¬ m = 0) (hn0 : n0 ≤ 950)
    (kk : ∀ (τ : FWd) (cells slots : Nat) (H : Heap) (locs : List Loc) (ls : Array Slot), cells ≤ n0 + 1 → slots ≤ 6 * (n0 + 1) → CI G τ.2 x (bc_2 c m f S) → (∀ q, q < x → τ.2 q = ω.2 q) → fR G τ H → va_S (fwA G) sS.heap H locs → lv_has ls 7 [(6, .int f), (5, .int m), (4, .int c), (3, .int (nI k)), (2, .int z), (1, .ref x), (0, .ref b)] → W pP l eE BRm sS mI ar9 bl9 meth cD H locs cells slots Q (F0 mI 291 ls [])) {τ : FWd} {cells slots : Nat} {H : Heap} {locs : List Loc} {ls : Array Slot} (hc : cells ≤ n0) (hs : slots ≤ 6 * n0) (hC : CI G τ.2 x S) (hF : ∀ q, q < x → τ.2 q = ω.2 q) (hR : fR G τ H) (hS : va_S (fwA G) sS.heap H locs) (hl : lv_has ls 7 [(6, .int f), (5, .int m), (4, .int c), (3, .int (nI k)), (2, .int z), (1, .ref x), (0, .ref b)]) : W pP l eE BRm sS mI ar9 bl9 meth cD H locs cells slots Q (F0 mI 267 ls []) := by
  obtain ⟨hx, hb, hml, hown, hts, hW, hL, hX0⟩ := id C
  have hK := hL.K hW
  refine lv_iload hx hb dL_build_267 (lv_at hl 2 rfl) ?_
  refine lv_bipush (v := 20) hx hb dL_build_269 (by decide) ?_
  refine lv_ishr hx hb dL_build_271 ?_
  refine lv_bipush (v := 15) hx hb dL_build_272 (by decide) ?_
  refine lv_iand hx hb dL_build_274 ?_
  refine lv_iconst (v := 1) hx hb dL_build_275 (by decide) ?_
  refine lv_icmp_ne (tgt := 291) hx hb dL_build_276 (by decide) (fun c9 => ?_) (fun c9 => ?_)
  · have e9 : bc_2 c m f S = S := if_neg c9
    exact kk τ _ _ H locs ls (by omega) (by omega) (by rw [e9]; exact hC) hF hR hS hl
  · skip
    refine lv_aload_n hx hb dL_build_279 rfl (lv_at hl 5 rfl) ?_
    refine lv_iconst (v := 3) hx hb dL_build_280 (by decide) ?_
    refine lv_iload hx hb dL_build_281 (lv_at hl 0 rfl) ?_
    refine lv_iconst (v := 0) hx hb dL_build_283 (by decide) ?_
    refine lv_iconst (v := 0) hx hb dL_build_284 (by decide) ?_
    refine lv_iconst (v := 0) hx hb dL_build_285 (by decide) ?_
    refine lv_iconst (v := 0) hx hb dL_build_286 (by decide) ?_
    refine fx_call (vx_runSX (As := [.ref x, .int 3, .int f, .int 0, .int 0, .int 0, .int 0]) (rest := []) ⟨hx, hb, hml, hown, hts⟩ (h_act_3 G hL l hX0 τ x S hC f 0 0 0 0) (vx_cwSW 7 hts gL_build_L_act rfl rfl rfl (by decide +kernel) ⟨Nat.le_of_ble_eq_true rfl, Nat.le_of_ble_eq_true rfl⟩) (fw_preS hW hR) rfl rfl hl.1 rfl (lv_room (Nat.le_of_ble_eq_true rfl)) dL_build_287 ⟨by show cells + 1 ≤ 1000; omega, by show slots + 6 ≤ 6000; omega⟩) hS (fun E ce q9 τ H locs hx_1 hR hS hce hcv hcl => hx_1.elim) (fun v_1 τ_1 H locs hq_1 hR hS => ?_)
    obtain ⟨rfl, hC, hF9⟩ := hq_1
    have hF : ∀ q, q < x → τ_1.2 q = ω.2 q := fun q hq => (hF9 q (Or.inl hq)).trans (hF q hq)
    refine W.eq (g2 := F0 mI 290 ls [.int (ob_act S 3 f 0 0 0 0).1]) rfl ?_
    refine lv_pop hx hb dL_build_290 rfl ?_
    have e9 : bc_2 c m f S = (ob_act S 3 f 0 0 0 0).2 := if_pos c9
    exact kk τ_1 _ _ H locs ls (by omega) (by omega) (by rw [e9]; exact hC) hF hR hS hl
set_option maxHeartbeats 4000000 in
set_option maxRecDepth 100000 in
theorem bd_3 (C : BCx G l pP sS mI ar9 cD) {S : StZ} {c m f z : Int32} {k n0 : Nat} (hm : ¬ m = 0) (hn0 : n0 ≤ 950)
    (kk : ∀ (τ : FWd) (cells slots : Nat) (H : Heap) (locs : List Loc) (ls : Array Slot), cells ≤ n0 + 1 → slots ≤ 6 * (n0 + 1) → CI G τ.2 x (bc_3 c m f S) → (∀ q, q < x → τ.2 q = ω.2 q) → fR G τ H → va_S (fwA G) sS.heap H locs → lv_has ls 7 [(6, .int f), (5, .int m), (4, .int c), (3, .int (nI k)), (2, .int z), (1, .ref x), (0, .ref b)] → W pP l eE BRm sS mI ar9 bl9 meth cD H locs cells slots Q (F0 mI 331 ls [])) {τ : FWd} {cells slots : Nat} {H : Heap} {locs : List Loc} {ls : Array Slot} (hc : cells ≤ n0) (hs : slots ≤ 6 * n0) (hC : CI G τ.2 x S) (hF : ∀ q, q < x → τ.2 q = ω.2 q) (hR : fR G τ H) (hS : va_S (fwA G) sS.heap H locs) (hl : lv_has ls 7 [(6, .int f), (5, .int m), (4, .int c), (3, .int (nI k)), (2, .int z), (1, .ref x), (0, .ref b)]) : W pP l eE BRm sS mI ar9 bl9 meth cD H locs cells slots Q (F0 mI 291 ls []) := by
  obtain ⟨hx, hb, hml, hown, hts, hW, hL, hX0⟩ := id C
  have hK := hL.K hW
  refine lv_iload hx hb dL_build_291 (lv_at hl 2 rfl) ?_
  refine lv_bipush (v := 20) hx hb dL_build_293 (by decide) ?_
  refine lv_ishr hx hb dL_build_295 ?_
  refine lv_bipush (v := 7) hx hb dL_build_296 (by decide) ?_
  refine lv_iand hx hb dL_build_298 ?_
  refine lv_iconst (v := 2) hx hb dL_build_299 (by decide) ?_
  refine lv_icmp_ne (tgt := 331) hx hb dL_build_300 (by decide) (fun c9 => ?_) (fun c9 => ?_)
  · have e9 : bc_3 c m f S = S := if_neg c9
    exact kk τ _ _ H locs ls (by omega) (by omega) (by rw [e9]; exact hC) hF hR hS hl
  · skip
    refine lv_aload_n hx hb dL_build_303 rfl (lv_at hl 5 rfl) ?_
    refine lv_bipush (v := 6) hx hb dL_build_304 (by decide) ?_
    refine lv_iload hx hb dL_build_306 (lv_at hl 2 rfl) ?_
    refine lv_bipush (v := 23) hx hb dL_build_308 (by decide) ?_
    refine lv_ishr hx hb dL_build_310 ?_
    refine lv_iconst (v := 1) hx hb dL_build_311 (by decide) ?_
    refine lv_iand hx hb dL_build_312 ?_
    refine lv_iload hx hb dL_build_313 (lv_at hl 2 rfl) ?_
    refine lv_bipush (v := 24) hx hb dL_build_315 (by decide) ?_
    refine lv_ishr hx hb dL_build_317 ?_
    refine lv_bipush (v := 7) hx hb dL_build_318 (by decide) ?_
    refine lv_iand hx hb dL_build_320 ?_
    refine lv_iload hx hb dL_build_321 (lv_at hl 1 rfl) ?_
    refine lv_irem hx hb dL_build_323 hm ?_
    refine lv_iconst (v := 0) hx hb dL_build_324 (by decide) ?_
    refine lv_iconst (v := 0) hx hb dL_build_325 (by decide) ?_
    refine lv_iconst (v := 0) hx hb dL_build_326 (by decide) ?_
    refine fx_call (vx_runSX (As := [.ref x, .int 6, .int ((c >>> ((23 : Int32) &&& 31)) &&& 1), .int (((c >>> ((24 : Int32) &&& 31)) &&& 7) - ((c >>> ((24 : Int32) &&& 31)) &&& 7) / m * m), .int 0, .int 0, .int 0]) (rest := []) ⟨hx, hb, hml, hown, hts⟩ (h_act_6 G hL l hX0 τ x S hC ((c >>> ((23 : Int32) &&& 31)) &&& 1) (((c >>> ((24 : Int32) &&& 31)) &&& 7) - ((c >>> ((24 : Int32) &&& 31)) &&& 7) / m * m) 0 0 0) (vx_cwSW 7 hts gL_build_L_act rfl rfl rfl (by decide +kernel) ⟨Nat.le_of_ble_eq_true rfl, Nat.le_of_ble_eq_true rfl⟩) (fw_preS hW hR) rfl rfl hl.1 rfl (lv_room (Nat.le_of_ble_eq_true rfl)) dL_build_327 ⟨by show cells + 1 ≤ 1000; omega, by show slots + 6 ≤ 6000; omega⟩) hS (fun E ce q9 τ H locs hx_1 hR hS hce hcv hcl => hx_1.elim) (fun v_1 τ_1 H locs hq_1 hR hS => ?_)
    obtain ⟨rfl, hC, hF9⟩ := hq_1
    have hF : ∀ q, q < x → τ_1.2 q = ω.2 q := fun q hq => (hF9 q (Or.inl hq)).trans (hF q hq)
    refine W.eq (g2 := F0 mI 330 ls [.int (ob_act S 6 ((c >>> ((23 : Int32) &&& 31)) &&& 1) (((c >>> ((24 : Int32) &&& 31)) &&& 7) - ((c >>> ((24 : Int32) &&& 31)) &&& 7) / m * m) 0 0 0).1]) rfl ?_
    refine lv_pop hx hb dL_build_330 rfl ?_
    have e9 : bc_3 c m f S = (ob_act S 6 ((c >>> ((23 : Int32) &&& 31)) &&& 1) (((c >>> ((24 : Int32) &&& 31)) &&& 7) - ((c >>> ((24 : Int32) &&& 31)) &&& 7) / m * m) 0 0 0).2 := if_pos c9
    exact kk τ_1 _ _ H locs ls (by omega) (by omega) (by rw [e9]; exact hC) hF hR hS hl
set_option maxHeartbeats 4000000 in
set_option maxRecDepth 100000 in
theorem bd_4 (C : BCx G l pP sS mI ar9 cD) {S : StZ} {c m f z : Int32} {k n0 : Nat} (hm : ¬ m = 0) (hn0 : n0 ≤ 950)
    (kk : ∀ (τ : FWd) (cells slots : Nat) (H : Heap) (locs : List Loc) (ls : Array Slot), cells ≤ n0 + 1 → slots ≤ 6 * (n0 + 1) → CI G τ.2 x (bc_4 c m f S) → (∀ q, q < x → τ.2 q = ω.2 q) → fR G τ H → va_S (fwA G) sS.heap H locs → lv_has ls 7 [(6, .int f), (5, .int m), (4, .int c), (3, .int (nI k)), (2, .int z), (1, .ref x), (0, .ref b)] → W pP l eE BRm sS mI ar9 bl9 meth cD H locs cells slots Q (F0 mI 372 ls [])) {τ : FWd} {cells slots : Nat} {H : Heap} {locs : List Loc} {ls : Array Slot} (hc : cells ≤ n0) (hs : slots ≤ 6 * n0) (hC : CI G τ.2 x S) (hF : ∀ q, q < x → τ.2 q = ω.2 q) (hR : fR G τ H) (hS : va_S (fwA G) sS.heap H locs) (hl : lv_has ls 7 [(6, .int f), (5, .int m), (4, .int c), (3, .int (nI k)), (2, .int z), (1, .ref x), (0, .ref b)]) : W pP l eE BRm sS mI ar9 bl9 meth cD H locs cells slots Q (F0 mI 331 ls []) := by
  obtain ⟨hx, hb, hml, hown, hts, hW, hL, hX0⟩ := id C
  have hK := hL.K hW
  refine lv_iload hx hb dL_build_331 (lv_at hl 2 rfl) ?_
  refine lv_bipush (v := 20) hx hb dL_build_333 (by decide) ?_
  refine lv_ishr hx hb dL_build_335 ?_
  refine lv_bipush (v := 7) hx hb dL_build_336 (by decide) ?_
  refine lv_iand hx hb dL_build_338 ?_
  refine lv_iconst (v := 3) hx hb dL_build_339 (by decide) ?_
  refine lv_icmp_ne (tgt := 372) hx hb dL_build_340 (by decide) (fun c9 => ?_) (fun c9 => ?_)
  · have e9 : bc_4 c m f S = S := if_neg c9
    exact kk τ _ _ H locs ls (by omega) (by omega) (by rw [e9]; exact hC) hF hR hS hl
  · skip
    refine lv_aload_n hx hb dL_build_343 rfl (lv_at hl 5 rfl) ?_
    refine lv_bipush (v := 7) hx hb dL_build_344 (by decide) ?_
    refine lv_iload hx hb dL_build_346 (lv_at hl 2 rfl) ?_
    refine lv_bipush (v := 23) hx hb dL_build_348 (by decide) ?_
    refine lv_ishr hx hb dL_build_350 ?_
    refine lv_bipush (v := 7) hx hb dL_build_351 (by decide) ?_
    refine lv_iand hx hb dL_build_353 ?_
    refine lv_iload hx hb dL_build_354 (lv_at hl 1 rfl) ?_
    refine lv_irem hx hb dL_build_356 hm ?_
    refine lv_iload hx hb dL_build_357 (lv_at hl 2 rfl) ?_
    refine lv_bipush (v := 26) hx hb dL_build_359 (by decide) ?_
    refine lv_ishr hx hb dL_build_361 ?_
    refine lv_bipush (v := 7) hx hb dL_build_362 (by decide) ?_
    refine lv_iand hx hb dL_build_364 ?_
    refine lv_iconst (v := 0) hx hb dL_build_365 (by decide) ?_
    refine lv_iconst (v := 0) hx hb dL_build_366 (by decide) ?_
    refine lv_iconst (v := 0) hx hb dL_build_367 (by decide) ?_
    refine fx_call (vx_runSX (As := [.ref x, .int 7, .int (((c >>> ((23 : Int32) &&& 31)) &&& 7) - ((c >>> ((23 : Int32) &&& 31)) &&& 7) / m * m), .int ((c >>> ((26 : Int32) &&& 31)) &&& 7), .int 0, .int 0, .int 0]) (rest := []) ⟨hx, hb, hml, hown, hts⟩ (h_act_7 G hL l hX0 τ x S hC (((c >>> ((23 : Int32) &&& 31)) &&& 7) - ((c >>> ((23 : Int32) &&& 31)) &&& 7) / m * m) ((c >>> ((26 : Int32) &&& 31)) &&& 7) 0 0 0) (vx_cwSW 7 hts gL_build_L_act rfl rfl rfl (by decide +kernel) ⟨Nat.le_of_ble_eq_true rfl, Nat.le_of_ble_eq_true rfl⟩) (fw_preS hW hR) rfl rfl hl.1 rfl (lv_room (Nat.le_of_ble_eq_true rfl)) dL_build_368 ⟨by show cells + 1 ≤ 1000; omega, by show slots + 6 ≤ 6000; omega⟩) hS (fun E ce q9 τ H locs hx_1 hR hS hce hcv hcl => hx_1.elim) (fun v_1 τ_1 H locs hq_1 hR hS => ?_)
    obtain ⟨rfl, hC, hF9⟩ := hq_1
    have hF : ∀ q, q < x → τ_1.2 q = ω.2 q := fun q hq => (hF9 q (Or.inl hq)).trans (hF q hq)
    refine W.eq (g2 := F0 mI 371 ls [.int (ob_act S 7 (((c >>> ((23 : Int32) &&& 31)) &&& 7) - ((c >>> ((23 : Int32) &&& 31)) &&& 7) / m * m) ((c >>> ((26 : Int32) &&& 31)) &&& 7) 0 0 0).1]) rfl ?_
    refine lv_pop hx hb dL_build_371 rfl ?_
    have e9 : bc_4 c m f S = (ob_act S 7 (((c >>> ((23 : Int32) &&& 31)) &&& 7) - ((c >>> ((23 : Int32) &&& 31)) &&& 7) / m * m) ((c >>> ((26 : Int32) &&& 31)) &&& 7) 0 0 0).2 := if_pos c9
    exact kk τ_1 _ _ H locs ls (by omega) (by omega) (by rw [e9]; exact hC) hF hR hS hl
set_option maxHeartbeats 4000000 in
set_option maxRecDepth 100000 in
theorem bd_5 (C : BCx G l pP sS mI ar9 cD) {S : StZ} {c m f z : Int32} {k n0 : Nat} (hm : ¬ m = 0) (hn0 : n0 ≤ 950)
    (kk : ∀ (τ : FWd) (cells slots : Nat) (H : Heap) (locs : List Loc) (ls : Array Slot), cells ≤ n0 + 1 → slots ≤ 6 * (n0 + 1) → CI G τ.2 x (bc_5 c m f S) → (∀ q, q < x → τ.2 q = ω.2 q) → fR G τ H → va_S (fwA G) sS.heap H locs → lv_has ls 7 [(6, .int f), (5, .int m), (4, .int c), (3, .int (nI k)), (2, .int z), (1, .ref x), (0, .ref b)] → W pP l eE BRm sS mI ar9 bl9 meth cD H locs cells slots Q (F0 mI 406 ls [])) {τ : FWd} {cells slots : Nat} {H : Heap} {locs : List Loc} {ls : Array Slot} (hc : cells ≤ n0) (hs : slots ≤ 6 * n0) (hC : CI G τ.2 x S) (hF : ∀ q, q < x → τ.2 q = ω.2 q) (hR : fR G τ H) (hS : va_S (fwA G) sS.heap H locs) (hl : lv_has ls 7 [(6, .int f), (5, .int m), (4, .int c), (3, .int (nI k)), (2, .int z), (1, .ref x), (0, .ref b)]) : W pP l eE BRm sS mI ar9 bl9 meth cD H locs cells slots Q (F0 mI 372 ls []) := by
  obtain ⟨hx, hb, hml, hown, hts, hW, hL, hX0⟩ := id C
  have hK := hL.K hW
  refine lv_iload hx hb dL_build_372 (lv_at hl 2 rfl) ?_
  refine lv_bipush (v := 20) hx hb dL_build_374 (by decide) ?_
  refine lv_ishr hx hb dL_build_376 ?_
  refine lv_bipush (v := 15) hx hb dL_build_377 (by decide) ?_
  refine lv_iand hx hb dL_build_379 ?_
  refine lv_iconst (v := 4) hx hb dL_build_380 (by decide) ?_
  refine lv_icmp_ne (tgt := 406) hx hb dL_build_381 (by decide) (fun c9 => ?_) (fun c9 => ?_)
  · have e9 : bc_5 c m f S = S := if_neg c9
    exact kk τ _ _ H locs ls (by omega) (by omega) (by rw [e9]; exact hC) hF hR hS hl
  · skip
    refine lv_aload_n hx hb dL_build_384 rfl (lv_at hl 5 rfl) ?_
    refine lv_bipush (v := 8) hx hb dL_build_385 (by decide) ?_
    refine lv_iload hx hb dL_build_387 (lv_at hl 2 rfl) ?_
    refine lv_bipush (v := 24) hx hb dL_build_389 (by decide) ?_
    refine lv_ishr hx hb dL_build_391 ?_
    refine lv_bipush (v := 7) hx hb dL_build_392 (by decide) ?_
    refine lv_iand hx hb dL_build_394 ?_
    refine lv_iload hx hb dL_build_395 (lv_at hl 1 rfl) ?_
    refine lv_irem hx hb dL_build_397 hm ?_
    refine lv_iconst (v := 0) hx hb dL_build_398 (by decide) ?_
    refine lv_iconst (v := 0) hx hb dL_build_399 (by decide) ?_
    refine lv_iconst (v := 0) hx hb dL_build_400 (by decide) ?_
    refine lv_iconst (v := 0) hx hb dL_build_401 (by decide) ?_
    refine fx_call (vx_runSX (As := [.ref x, .int 8, .int (((c >>> ((24 : Int32) &&& 31)) &&& 7) - ((c >>> ((24 : Int32) &&& 31)) &&& 7) / m * m), .int 0, .int 0, .int 0, .int 0]) (rest := []) ⟨hx, hb, hml, hown, hts⟩ (h_act_8 G hL l hX0 τ x S hC (((c >>> ((24 : Int32) &&& 31)) &&& 7) - ((c >>> ((24 : Int32) &&& 31)) &&& 7) / m * m) 0 0 0 0) (vx_cwSW 7 hts gL_build_L_act rfl rfl rfl (by decide +kernel) ⟨Nat.le_of_ble_eq_true rfl, Nat.le_of_ble_eq_true rfl⟩) (fw_preS hW hR) rfl rfl hl.1 rfl (lv_room (Nat.le_of_ble_eq_true rfl)) dL_build_402 ⟨by show cells + 1 ≤ 1000; omega, by show slots + 6 ≤ 6000; omega⟩) hS (fun E ce q9 τ H locs hx_1 hR hS hce hcv hcl => hx_1.elim) (fun v_1 τ_1 H locs hq_1 hR hS => ?_)
    obtain ⟨rfl, hC, hF9⟩ := hq_1
    have hF : ∀ q, q < x → τ_1.2 q = ω.2 q := fun q hq => (hF9 q (Or.inl hq)).trans (hF q hq)
    refine W.eq (g2 := F0 mI 405 ls [.int (ob_act S 8 (((c >>> ((24 : Int32) &&& 31)) &&& 7) - ((c >>> ((24 : Int32) &&& 31)) &&& 7) / m * m) 0 0 0 0).1]) rfl ?_
    refine lv_pop hx hb dL_build_405 rfl ?_
    have e9 : bc_5 c m f S = (ob_act S 8 (((c >>> ((24 : Int32) &&& 31)) &&& 7) - ((c >>> ((24 : Int32) &&& 31)) &&& 7) / m * m) 0 0 0 0).2 := if_pos c9
    exact kk τ_1 _ _ H locs ls (by omega) (by omega) (by rw [e9]; exact hC) hF hR hS hl
set_option maxHeartbeats 4000000 in
set_option maxRecDepth 100000 in
theorem bd_6 (C : BCx G l pP sS mI ar9 cD) {S : StZ} {c m f z : Int32} {k n0 : Nat} (hm : ¬ m = 0) (hn0 : n0 ≤ 950)
    (kk : ∀ (τ : FWd) (cells slots : Nat) (H : Heap) (locs : List Loc) (ls : Array Slot), cells ≤ n0 + 1 → slots ≤ 6 * (n0 + 1) → CI G τ.2 x (bc_6 c m f S) → (∀ q, q < x → τ.2 q = ω.2 q) → fR G τ H → va_S (fwA G) sS.heap H locs → lv_has ls 7 [(6, .int f), (5, .int m), (4, .int c), (3, .int (nI k)), (2, .int z), (1, .ref x), (0, .ref b)] → W pP l eE BRm sS mI ar9 bl9 meth cD H locs cells slots Q (F0 mI 448 ls [])) {τ : FWd} {cells slots : Nat} {H : Heap} {locs : List Loc} {ls : Array Slot} (hc : cells ≤ n0) (hs : slots ≤ 6 * n0) (hC : CI G τ.2 x S) (hF : ∀ q, q < x → τ.2 q = ω.2 q) (hR : fR G τ H) (hS : va_S (fwA G) sS.heap H locs) (hl : lv_has ls 7 [(6, .int f), (5, .int m), (4, .int c), (3, .int (nI k)), (2, .int z), (1, .ref x), (0, .ref b)]) : W pP l eE BRm sS mI ar9 bl9 meth cD H locs cells slots Q (F0 mI 406 ls []) := by
  obtain ⟨hx, hb, hml, hown, hts, hW, hL, hX0⟩ := id C
  have hK := hL.K hW
  refine lv_iload hx hb dL_build_406 (lv_at hl 2 rfl) ?_
  refine lv_bipush (v := 20) hx hb dL_build_408 (by decide) ?_
  refine lv_ishr hx hb dL_build_410 ?_
  refine lv_bipush (v := 7) hx hb dL_build_411 (by decide) ?_
  refine lv_iand hx hb dL_build_413 ?_
  refine lv_iconst (v := 5) hx hb dL_build_414 (by decide) ?_
  refine lv_icmp_ne (tgt := 448) hx hb dL_build_415 (by decide) (fun c9 => ?_) (fun c9 => ?_)
  · have e9 : bc_6 c m f S = S := if_neg c9
    exact kk τ _ _ H locs ls (by omega) (by omega) (by rw [e9]; exact hC) hF hR hS hl
  · skip
    refine lv_aload_n hx hb dL_build_418 rfl (lv_at hl 5 rfl) ?_
    refine lv_bipush (v := 10) hx hb dL_build_419 (by decide) ?_
    refine lv_iload hx hb dL_build_421 (lv_at hl 2 rfl) ?_
    refine lv_bipush (v := 23) hx hb dL_build_423 (by decide) ?_
    refine lv_ishr hx hb dL_build_425 ?_
    refine lv_bipush (v := 7) hx hb dL_build_426 (by decide) ?_
    refine lv_iand hx hb dL_build_428 ?_
    refine lv_bipush (v := 6) hx hb dL_build_429 (by decide) ?_
    refine lv_irem hx hb dL_build_431 (by decide) ?_
    refine lv_iconst (v := 1) hx hb dL_build_432 (by decide) ?_
    refine lv_iload hx hb dL_build_433 (lv_at hl 2 rfl) ?_
    refine lv_bipush (v := 26) hx hb dL_build_435 (by decide) ?_
    refine lv_ishr hx hb dL_build_437 ?_
    refine lv_iconst (v := 3) hx hb dL_build_438 (by decide) ?_
    refine lv_iand hx hb dL_build_439 ?_
    refine lv_iadd hx hb dL_build_440 ?_
    refine lv_iconst (v := 0) hx hb dL_build_441 (by decide) ?_
    refine lv_iconst (v := 0) hx hb dL_build_442 (by decide) ?_
    refine lv_iconst (v := 0) hx hb dL_build_443 (by decide) ?_
    refine fx_call (vx_runSX (As := [.ref x, .int 10, .int (((c >>> ((23 : Int32) &&& 31)) &&& 7) - ((c >>> ((23 : Int32) &&& 31)) &&& 7) / 6 * 6), .int (1 + ((c >>> ((26 : Int32) &&& 31)) &&& 3)), .int 0, .int 0, .int 0]) (rest := []) ⟨hx, hb, hml, hown, hts⟩ (h_act_10 G hL l hX0 τ x S hC (((c >>> ((23 : Int32) &&& 31)) &&& 7) - ((c >>> ((23 : Int32) &&& 31)) &&& 7) / 6 * 6) (1 + ((c >>> ((26 : Int32) &&& 31)) &&& 3)) 0 0 0) (vx_cwSW 7 hts gL_build_L_act rfl rfl rfl (by decide +kernel) ⟨Nat.le_of_ble_eq_true rfl, Nat.le_of_ble_eq_true rfl⟩) (fw_preS hW hR) rfl rfl hl.1 rfl (lv_room (Nat.le_of_ble_eq_true rfl)) dL_build_444 ⟨by show cells + 1 ≤ 1000; omega, by show slots + 6 ≤ 6000; omega⟩) hS (fun E ce q9 τ H locs hx_1 hR hS hce hcv hcl => hx_1.elim) (fun v_1 τ_1 H locs hq_1 hR hS => ?_)
    obtain ⟨rfl, hC, hF9⟩ := hq_1
    have hF : ∀ q, q < x → τ_1.2 q = ω.2 q := fun q hq => (hF9 q (Or.inl hq)).trans (hF q hq)
    refine W.eq (g2 := F0 mI 447 ls [.int (ob_act S 10 (((c >>> ((23 : Int32) &&& 31)) &&& 7) - ((c >>> ((23 : Int32) &&& 31)) &&& 7) / 6 * 6) (1 + ((c >>> ((26 : Int32) &&& 31)) &&& 3)) 0 0 0).1]) rfl ?_
    refine lv_pop hx hb dL_build_447 rfl ?_
    have e9 : bc_6 c m f S = (ob_act S 10 (((c >>> ((23 : Int32) &&& 31)) &&& 7) - ((c >>> ((23 : Int32) &&& 31)) &&& 7) / 6 * 6) (1 + ((c >>> ((26 : Int32) &&& 31)) &&& 3)) 0 0 0).2 := if_pos c9
    exact kk τ_1 _ _ H locs ls (by omega) (by omega) (by rw [e9]; exact hC) hF hR hS hl
set_option maxHeartbeats 4000000 in
set_option maxRecDepth 100000 in
theorem bd_7 (C : BCx G l pP sS mI ar9 cD) {S : StZ} {c m f z : Int32} {k n0 : Nat} (hm : ¬ m = 0) (hn0 : n0 ≤ 950)
    (kk : ∀ (τ : FWd) (cells slots : Nat) (H : Heap) (locs : List Loc) (ls : Array Slot), cells ≤ n0 + 1 → slots ≤ 6 * (n0 + 1) → CI G τ.2 x (bc_7 c m f S) → (∀ q, q < x → τ.2 q = ω.2 q) → fR G τ H → va_S (fwA G) sS.heap H locs → lv_has ls 7 [(6, .int f), (5, .int m), (4, .int c), (3, .int (nI k)), (2, .int z), (1, .ref x), (0, .ref b)] → W pP l eE BRm sS mI ar9 bl9 meth cD H locs cells slots Q (F0 mI 491 ls [])) {τ : FWd} {cells slots : Nat} {H : Heap} {locs : List Loc} {ls : Array Slot} (hc : cells ≤ n0) (hs : slots ≤ 6 * n0) (hC : CI G τ.2 x S) (hF : ∀ q, q < x → τ.2 q = ω.2 q) (hR : fR G τ H) (hS : va_S (fwA G) sS.heap H locs) (hl : lv_has ls 7 [(6, .int f), (5, .int m), (4, .int c), (3, .int (nI k)), (2, .int z), (1, .ref x), (0, .ref b)]) : W pP l eE BRm sS mI ar9 bl9 meth cD H locs cells slots Q (F0 mI 448 ls []) := by
  obtain ⟨hx, hb, hml, hown, hts, hW, hL, hX0⟩ := id C
  have hK := hL.K hW
  refine lv_iload hx hb dL_build_448 (lv_at hl 2 rfl) ?_
  refine lv_bipush (v := 20) hx hb dL_build_450 (by decide) ?_
  refine lv_ishr hx hb dL_build_452 ?_
  refine lv_bipush (v := 15) hx hb dL_build_453 (by decide) ?_
  refine lv_iand hx hb dL_build_455 ?_
  refine lv_bipush (v := 6) hx hb dL_build_456 (by decide) ?_
  refine lv_icmp_ne (tgt := 491) hx hb dL_build_458 (by decide) (fun c9 => ?_) (fun c9 => ?_)
  · have e9 : bc_7 c m f S = S := if_neg c9
    exact kk τ _ _ H locs ls (by omega) (by omega) (by rw [e9]; exact hC) hF hR hS hl
  · skip
    refine lv_aload_n hx hb dL_build_461 rfl (lv_at hl 5 rfl) ?_
    refine lv_bipush (v := 11) hx hb dL_build_462 (by decide) ?_
    refine lv_iload hx hb dL_build_464 (lv_at hl 2 rfl) ?_
    refine lv_bipush (v := 24) hx hb dL_build_466 (by decide) ?_
    refine lv_ishr hx hb dL_build_468 ?_
    refine lv_bipush (v := 7) hx hb dL_build_469 (by decide) ?_
    refine lv_iand hx hb dL_build_471 ?_
    refine lv_bipush (v := 6) hx hb dL_build_472 (by decide) ?_
    refine lv_irem hx hb dL_build_474 (by decide) ?_
    refine lv_iconst (v := 1) hx hb dL_build_475 (by decide) ?_
    refine lv_iload hx hb dL_build_476 (lv_at hl 2 rfl) ?_
    refine lv_bipush (v := 27) hx hb dL_build_478 (by decide) ?_
    refine lv_ishr hx hb dL_build_480 ?_
    refine lv_iconst (v := 3) hx hb dL_build_481 (by decide) ?_
    refine lv_iand hx hb dL_build_482 ?_
    refine lv_iadd hx hb dL_build_483 ?_
    refine lv_iconst (v := 0) hx hb dL_build_484 (by decide) ?_
    refine lv_iconst (v := 0) hx hb dL_build_485 (by decide) ?_
    refine lv_iconst (v := 0) hx hb dL_build_486 (by decide) ?_
    refine fx_call (vx_runSX (As := [.ref x, .int 11, .int (((c >>> ((24 : Int32) &&& 31)) &&& 7) - ((c >>> ((24 : Int32) &&& 31)) &&& 7) / 6 * 6), .int (1 + ((c >>> ((27 : Int32) &&& 31)) &&& 3)), .int 0, .int 0, .int 0]) (rest := []) ⟨hx, hb, hml, hown, hts⟩ (h_act_11 G hL l hX0 τ x S hC (((c >>> ((24 : Int32) &&& 31)) &&& 7) - ((c >>> ((24 : Int32) &&& 31)) &&& 7) / 6 * 6) (1 + ((c >>> ((27 : Int32) &&& 31)) &&& 3)) 0 0 0) (vx_cwSW 7 hts gL_build_L_act rfl rfl rfl (by decide +kernel) ⟨Nat.le_of_ble_eq_true rfl, Nat.le_of_ble_eq_true rfl⟩) (fw_preS hW hR) rfl rfl hl.1 rfl (lv_room (Nat.le_of_ble_eq_true rfl)) dL_build_487 ⟨by show cells + 1 ≤ 1000; omega, by show slots + 6 ≤ 6000; omega⟩) hS (fun E ce q9 τ H locs hx_1 hR hS hce hcv hcl => hx_1.elim) (fun v_1 τ_1 H locs hq_1 hR hS => ?_)
    obtain ⟨rfl, hC, hF9⟩ := hq_1
    have hF : ∀ q, q < x → τ_1.2 q = ω.2 q := fun q hq => (hF9 q (Or.inl hq)).trans (hF q hq)
    refine W.eq (g2 := F0 mI 490 ls [.int (ob_act S 11 (((c >>> ((24 : Int32) &&& 31)) &&& 7) - ((c >>> ((24 : Int32) &&& 31)) &&& 7) / 6 * 6) (1 + ((c >>> ((27 : Int32) &&& 31)) &&& 3)) 0 0 0).1]) rfl ?_
    refine lv_pop hx hb dL_build_490 rfl ?_
    have e9 : bc_7 c m f S = (ob_act S 11 (((c >>> ((24 : Int32) &&& 31)) &&& 7) - ((c >>> ((24 : Int32) &&& 31)) &&& 7) / 6 * 6) (1 + ((c >>> ((27 : Int32) &&& 31)) &&& 3)) 0 0 0).2 := if_pos c9
    exact kk τ_1 _ _ H locs ls (by omega) (by omega) (by rw [e9]; exact hC) hF hR hS hl
set_option maxHeartbeats 4000000 in
set_option maxRecDepth 100000 in
theorem bd_8 (C : BCx G l pP sS mI ar9 cD) {S : StZ} {c m f z : Int32} {k n0 : Nat} (hm : ¬ m = 0) (hn0 : n0 ≤ 950)
    (kk : ∀ (τ : FWd) (cells slots : Nat) (H : Heap) (locs : List Loc) (ls : Array Slot), cells ≤ n0 + 1 → slots ≤ 6 * (n0 + 1) → CI G τ.2 x (bc_8 c m f S) → (∀ q, q < x → τ.2 q = ω.2 q) → fR G τ H → va_S (fwA G) sS.heap H locs → lv_has ls 7 [(6, .int f), (5, .int m), (4, .int c), (3, .int (nI k)), (2, .int z), (1, .ref x), (0, .ref b)] → W pP l eE BRm sS mI ar9 bl9 meth cD H locs cells slots Q (F0 mI 530 ls [])) {τ : FWd} {cells slots : Nat} {H : Heap} {locs : List Loc} {ls : Array Slot} (hc : cells ≤ n0) (hs : slots ≤ 6 * n0) (hC : CI G τ.2 x S) (hF : ∀ q, q < x → τ.2 q = ω.2 q) (hR : fR G τ H) (hS : va_S (fwA G) sS.heap H locs) (hl : lv_has ls 7 [(6, .int f), (5, .int m), (4, .int c), (3, .int (nI k)), (2, .int z), (1, .ref x), (0, .ref b)]) : W pP l eE BRm sS mI ar9 bl9 meth cD H locs cells slots Q (F0 mI 491 ls []) := by
  obtain ⟨hx, hb, hml, hown, hts, hW, hL, hX0⟩ := id C
  have hK := hL.K hW
  refine lv_iload hx hb dL_build_491 (lv_at hl 2 rfl) ?_
  refine lv_bipush (v := 20) hx hb dL_build_493 (by decide) ?_
  refine lv_ishr hx hb dL_build_495 ?_
  refine lv_bipush (v := 15) hx hb dL_build_496 (by decide) ?_
  refine lv_iand hx hb dL_build_498 ?_
  refine lv_bipush (v := 12) hx hb dL_build_499 (by decide) ?_
  refine lv_icmp_ne (tgt := 530) hx hb dL_build_501 (by decide) (fun c9 => ?_) (fun c9 => ?_)
  · have e9 : bc_8 c m f S = S := if_neg c9
    exact kk τ _ _ H locs ls (by omega) (by omega) (by rw [e9]; exact hC) hF hR hS hl
  · skip
    refine lv_aload_n hx hb dL_build_504 rfl (lv_at hl 5 rfl) ?_
    refine lv_iconst (v := 5) hx hb dL_build_505 (by decide) ?_
    refine lv_iload hx hb dL_build_506 (lv_at hl 2 rfl) ?_
    refine lv_bipush (v := 24) hx hb dL_build_508 (by decide) ?_
    refine lv_ishr hx hb dL_build_510 ?_
    refine lv_iconst (v := 1) hx hb dL_build_511 (by decide) ?_
    refine lv_iand hx hb dL_build_512 ?_
    refine lv_iload hx hb dL_build_513 (lv_at hl 2 rfl) ?_
    refine lv_bipush (v := 25) hx hb dL_build_515 (by decide) ?_
    refine lv_ishr hx hb dL_build_517 ?_
    refine lv_bipush (v := 7) hx hb dL_build_518 (by decide) ?_
    refine lv_iand hx hb dL_build_520 ?_
    refine lv_iconst (v := 5) hx hb dL_build_521 (by decide) ?_
    refine lv_irem hx hb dL_build_522 (by decide) ?_
    refine lv_iconst (v := 0) hx hb dL_build_523 (by decide) ?_
    refine lv_iconst (v := 0) hx hb dL_build_524 (by decide) ?_
    refine lv_iconst (v := 0) hx hb dL_build_525 (by decide) ?_
    refine fx_call (vx_runSX (As := [.ref x, .int 5, .int ((c >>> ((24 : Int32) &&& 31)) &&& 1), .int (((c >>> ((25 : Int32) &&& 31)) &&& 7) - ((c >>> ((25 : Int32) &&& 31)) &&& 7) / 5 * 5), .int 0, .int 0, .int 0]) (rest := []) ⟨hx, hb, hml, hown, hts⟩ (h_act_5 G hL l hX0 τ x S hC ((c >>> ((24 : Int32) &&& 31)) &&& 1) (((c >>> ((25 : Int32) &&& 31)) &&& 7) - ((c >>> ((25 : Int32) &&& 31)) &&& 7) / 5 * 5) 0 0 0) (vx_cwSW 7 hts gL_build_L_act rfl rfl rfl (by decide +kernel) ⟨Nat.le_of_ble_eq_true rfl, Nat.le_of_ble_eq_true rfl⟩) (fw_preS hW hR) rfl rfl hl.1 rfl (lv_room (Nat.le_of_ble_eq_true rfl)) dL_build_526 ⟨by show cells + 1 ≤ 1000; omega, by show slots + 6 ≤ 6000; omega⟩) hS (fun E ce q9 τ H locs hx_1 hR hS hce hcv hcl => hx_1.elim) (fun v_1 τ_1 H locs hq_1 hR hS => ?_)
    obtain ⟨rfl, hC, hF9⟩ := hq_1
    have hF : ∀ q, q < x → τ_1.2 q = ω.2 q := fun q hq => (hF9 q (Or.inl hq)).trans (hF q hq)
    refine W.eq (g2 := F0 mI 529 ls [.int (ob_act S 5 ((c >>> ((24 : Int32) &&& 31)) &&& 1) (((c >>> ((25 : Int32) &&& 31)) &&& 7) - ((c >>> ((25 : Int32) &&& 31)) &&& 7) / 5 * 5) 0 0 0).1]) rfl ?_
    refine lv_pop hx hb dL_build_529 rfl ?_
    have e9 : bc_8 c m f S = (ob_act S 5 ((c >>> ((24 : Int32) &&& 31)) &&& 1) (((c >>> ((25 : Int32) &&& 31)) &&& 7) - ((c >>> ((25 : Int32) &&& 31)) &&& 7) / 5 * 5) 0 0 0).2 := if_pos c9
    exact kk τ_1 _ _ H locs ls (by omega) (by omega) (by rw [e9]; exact hC) hF hR hS hl
set_option maxHeartbeats 4000000 in
set_option maxRecDepth 100000 in
theorem bd_9 (C : BCx G l pP sS mI ar9 cD) {S : StZ} {c m f z : Int32} {k n0 : Nat} (hm : ¬ m = 0) (hn0 : n0 ≤ 950)
    (kk : ∀ (τ : FWd) (cells slots : Nat) (H : Heap) (locs : List Loc) (ls : Array Slot), cells ≤ n0 + 1 → slots ≤ 6 * (n0 + 1) → CI G τ.2 x (bc_9 c m f S) → (∀ q, q < x → τ.2 q = ω.2 q) → fR G τ H → va_S (fwA G) sS.heap H locs → lv_has ls 7 [(6, .int f), (5, .int m), (4, .int c), (3, .int (nI k)), (2, .int z), (1, .ref x), (0, .ref b)] → W pP l eE BRm sS mI ar9 bl9 meth cD H locs cells slots Q (F0 mI 560 ls [])) {τ : FWd} {cells slots : Nat} {H : Heap} {locs : List Loc} {ls : Array Slot} (hc : cells ≤ n0) (hs : slots ≤ 6 * n0) (hC : CI G τ.2 x S) (hF : ∀ q, q < x → τ.2 q = ω.2 q) (hR : fR G τ H) (hS : va_S (fwA G) sS.heap H locs) (hl : lv_has ls 7 [(6, .int f), (5, .int m), (4, .int c), (3, .int (nI k)), (2, .int z), (1, .ref x), (0, .ref b)]) : W pP l eE BRm sS mI ar9 bl9 meth cD H locs cells slots Q (F0 mI 530 ls []) := by
  obtain ⟨hx, hb, hml, hown, hts, hW, hL, hX0⟩ := id C
  have hK := hL.K hW
  refine lv_iload hx hb dL_build_530 (lv_at hl 2 rfl) ?_
  refine lv_bipush (v := 20) hx hb dL_build_532 (by decide) ?_
  refine lv_ishr hx hb dL_build_534 ?_
  refine lv_bipush (v := 31) hx hb dL_build_535 (by decide) ?_
  refine lv_iand hx hb dL_build_537 ?_
  refine lv_bipush (v := 7) hx hb dL_build_538 (by decide) ?_
  refine lv_icmp_ne (tgt := 560) hx hb dL_build_540 (by decide) (fun c9 => ?_) (fun c9 => ?_)
  · have e9 : bc_9 c m f S = S := if_neg c9
    exact kk τ _ _ H locs ls (by omega) (by omega) (by rw [e9]; exact hC) hF hR hS hl
  · skip
    refine lv_aload_n hx hb dL_build_543 rfl (lv_at hl 5 rfl) ?_
    refine lv_iconst (v := 0) hx hb dL_build_544 (by decide) ?_
    refine lv_iload hx hb dL_build_545 (lv_at hl 2 rfl) ?_
    refine lv_bipush (v := 25) hx hb dL_build_547 (by decide) ?_
    refine lv_ishr hx hb dL_build_549 ?_
    refine lv_iconst (v := 3) hx hb dL_build_550 (by decide) ?_
    refine lv_iand hx hb dL_build_551 ?_
    refine lv_iconst (v := 0) hx hb dL_build_552 (by decide) ?_
    refine lv_iconst (v := 0) hx hb dL_build_553 (by decide) ?_
    refine lv_iconst (v := 0) hx hb dL_build_554 (by decide) ?_
    refine lv_iconst (v := 0) hx hb dL_build_555 (by decide) ?_
    refine fx_call (vx_runSX (As := [.ref x, .int 0, .int ((c >>> ((25 : Int32) &&& 31)) &&& 3), .int 0, .int 0, .int 0, .int 0]) (rest := []) ⟨hx, hb, hml, hown, hts⟩ (h_act_0 G hL l hX0 τ x S hC ((c >>> ((25 : Int32) &&& 31)) &&& 3) 0 0 0 0) (vx_cwSW 7 hts gL_build_L_act rfl rfl rfl (by decide +kernel) ⟨Nat.le_of_ble_eq_true rfl, Nat.le_of_ble_eq_true rfl⟩) (fw_preS hW hR) rfl rfl hl.1 rfl (lv_room (Nat.le_of_ble_eq_true rfl)) dL_build_556 ⟨by show cells + 1 ≤ 1000; omega, by show slots + 6 ≤ 6000; omega⟩) hS (fun E ce q9 τ H locs hx_1 hR hS hce hcv hcl => hx_1.elim) (fun v_1 τ_1 H locs hq_1 hR hS => ?_)
    obtain ⟨rfl, hC, hF9⟩ := hq_1
    have hF : ∀ q, q < x → τ_1.2 q = ω.2 q := fun q hq => (hF9 q (Or.inl hq)).trans (hF q hq)
    refine W.eq (g2 := F0 mI 559 ls [.int (ob_act S 0 ((c >>> ((25 : Int32) &&& 31)) &&& 3) 0 0 0 0).1]) rfl ?_
    refine lv_pop hx hb dL_build_559 rfl ?_
    have e9 : bc_9 c m f S = (ob_act S 0 ((c >>> ((25 : Int32) &&& 31)) &&& 3) 0 0 0 0).2 := if_pos c9
    exact kk τ_1 _ _ H locs ls (by omega) (by omega) (by rw [e9]; exact hC) hF hR hS hl
set_option maxHeartbeats 4000000 in
set_option maxRecDepth 100000 in
theorem bd_10 (C : BCx G l pP sS mI ar9 cD) {S : StZ} {c m f z : Int32} {k n0 : Nat} (hm : ¬ m = 0) (hn0 : n0 ≤ 950)
    (kk : ∀ (τ : FWd) (cells slots : Nat) (H : Heap) (locs : List Loc) (ls : Array Slot), cells ≤ n0 + 1 → slots ≤ 6 * (n0 + 1) → CI G τ.2 x (bc_10 c m f S) → (∀ q, q < x → τ.2 q = ω.2 q) → fR G τ H → va_S (fwA G) sS.heap H locs → lv_has ls 7 [(6, .int f), (5, .int m), (4, .int c), (3, .int (nI k)), (2, .int z), (1, .ref x), (0, .ref b)] → W pP l eE BRm sS mI ar9 bl9 meth cD H locs cells slots Q (F0 mI 601 ls [])) {τ : FWd} {cells slots : Nat} {H : Heap} {locs : List Loc} {ls : Array Slot} (hc : cells ≤ n0) (hs : slots ≤ 6 * n0) (hC : CI G τ.2 x S) (hF : ∀ q, q < x → τ.2 q = ω.2 q) (hR : fR G τ H) (hS : va_S (fwA G) sS.heap H locs) (hl : lv_has ls 7 [(6, .int f), (5, .int m), (4, .int c), (3, .int (nI k)), (2, .int z), (1, .ref x), (0, .ref b)]) : W pP l eE BRm sS mI ar9 bl9 meth cD H locs cells slots Q (F0 mI 560 ls []) := by
  obtain ⟨hx, hb, hml, hown, hts, hW, hL, hX0⟩ := id C
  have hK := hL.K hW
  refine lv_iload hx hb dL_build_560 (lv_at hl 2 rfl) ?_
  refine lv_bipush (v := 20) hx hb dL_build_562 (by decide) ?_
  refine lv_ishr hx hb dL_build_564 ?_
  refine lv_bipush (v := 15) hx hb dL_build_565 (by decide) ?_
  refine lv_iand hx hb dL_build_567 ?_
  refine lv_bipush (v := 14) hx hb dL_build_568 (by decide) ?_
  refine lv_icmp_ne (tgt := 601) hx hb dL_build_570 (by decide) (fun c9 => ?_) (fun c9 => ?_)
  · have e9 : bc_10 c m f S = S := if_neg c9
    exact kk τ _ _ H locs ls (by omega) (by omega) (by rw [e9]; exact hC) hF hR hS hl
  · skip
    refine lv_aload_n hx hb dL_build_573 rfl (lv_at hl 5 rfl) ?_
    refine lv_bipush (v := 6) hx hb dL_build_574 (by decide) ?_
    refine lv_iload hx hb dL_build_576 (lv_at hl 2 rfl) ?_
    refine lv_bipush (v := 24) hx hb dL_build_578 (by decide) ?_
    refine lv_ishr hx hb dL_build_580 ?_
    refine lv_iconst (v := 1) hx hb dL_build_581 (by decide) ?_
    refine lv_iand hx hb dL_build_582 ?_
    refine lv_iload hx hb dL_build_583 (lv_at hl 2 rfl) ?_
    refine lv_bipush (v := 25) hx hb dL_build_585 (by decide) ?_
    refine lv_ishr hx hb dL_build_587 ?_
    refine lv_bipush (v := 7) hx hb dL_build_588 (by decide) ?_
    refine lv_iand hx hb dL_build_590 ?_
    refine lv_iload hx hb dL_build_591 (lv_at hl 1 rfl) ?_
    refine lv_irem hx hb dL_build_593 hm ?_
    refine lv_iconst (v := 0) hx hb dL_build_594 (by decide) ?_
    refine lv_iconst (v := 0) hx hb dL_build_595 (by decide) ?_
    refine lv_iconst (v := 0) hx hb dL_build_596 (by decide) ?_
    refine fx_call (vx_runSX (As := [.ref x, .int 6, .int ((c >>> ((24 : Int32) &&& 31)) &&& 1), .int (((c >>> ((25 : Int32) &&& 31)) &&& 7) - ((c >>> ((25 : Int32) &&& 31)) &&& 7) / m * m), .int 0, .int 0, .int 0]) (rest := []) ⟨hx, hb, hml, hown, hts⟩ (h_act_6 G hL l hX0 τ x S hC ((c >>> ((24 : Int32) &&& 31)) &&& 1) (((c >>> ((25 : Int32) &&& 31)) &&& 7) - ((c >>> ((25 : Int32) &&& 31)) &&& 7) / m * m) 0 0 0) (vx_cwSW 7 hts gL_build_L_act rfl rfl rfl (by decide +kernel) ⟨Nat.le_of_ble_eq_true rfl, Nat.le_of_ble_eq_true rfl⟩) (fw_preS hW hR) rfl rfl hl.1 rfl (lv_room (Nat.le_of_ble_eq_true rfl)) dL_build_597 ⟨by show cells + 1 ≤ 1000; omega, by show slots + 6 ≤ 6000; omega⟩) hS (fun E ce q9 τ H locs hx_1 hR hS hce hcv hcl => hx_1.elim) (fun v_1 τ_1 H locs hq_1 hR hS => ?_)
    obtain ⟨rfl, hC, hF9⟩ := hq_1
    have hF : ∀ q, q < x → τ_1.2 q = ω.2 q := fun q hq => (hF9 q (Or.inl hq)).trans (hF q hq)
    refine W.eq (g2 := F0 mI 600 ls [.int (ob_act S 6 ((c >>> ((24 : Int32) &&& 31)) &&& 1) (((c >>> ((25 : Int32) &&& 31)) &&& 7) - ((c >>> ((25 : Int32) &&& 31)) &&& 7) / m * m) 0 0 0).1]) rfl ?_
    refine lv_pop hx hb dL_build_600 rfl ?_
    have e9 : bc_10 c m f S = (ob_act S 6 ((c >>> ((24 : Int32) &&& 31)) &&& 1) (((c >>> ((25 : Int32) &&& 31)) &&& 7) - ((c >>> ((25 : Int32) &&& 31)) &&& 7) / m * m) 0 0 0).2 := if_pos c9
    exact kk τ_1 _ _ H locs ls (by omega) (by omega) (by rw [e9]; exact hC) hF hR hS hl
set_option maxHeartbeats 4000000 in
set_option maxRecDepth 100000 in
theorem bl_A (C : BCx G l pP sS mI ar9 cD) {S : StZ} {z : Int32} {M : Nat} (hM : (1 + (z &&& 3)) = nI M) (hM9 : M ≤ 4)
    (kk : ∀ (τ : FWd) (cells slots : Nat) (H : Heap) (locs : List Loc) (ls : Array Slot), cells ≤ 750 + M → slots ≤ 6 * (750 + M) → CI G τ.2 x (bdA z S M) → (∀ q, q < x → τ.2 q = ω.2 q) → fR G τ H → va_S (fwA G) sS.heap H locs → lv_has ls 7 [(2, .int z), (1, .ref x), (0, .ref b)] → W pP l eE BRm sS mI ar9 bl9 meth cD H locs cells slots Q (F0 mI 50 ls [])) : ∀ (fu i : Nat) (τ : FWd) (cells slots : Nat), M - i < fu → i ≤ M → cells ≤ 750 + i → slots ≤ 6 * (750 + i) → CI G τ.2 x (bdA z S i) → (∀ q, q < x → τ.2 q = ω.2 q) → ∀ (H : Heap) (locs : List Loc) (ls : Array Slot), fR G τ H → va_S (fwA G) sS.heap H locs → lv_has ls 7 [(3, .int (nI i)), (2, .int z), (1, .ref x), (0, .ref b)] → W pP l eE BRm sS mI ar9 bl9 meth cD H locs cells slots Q (F0 mI 16 ls []) := by
  obtain ⟨hx, hb, hml, hown, hts, hW, hL, hX0⟩ := id C
  have hK := hL.K hW
  intro fu
  induction fu with
  | zero => intro i τ cells slots hfu; exact absurd hfu (Nat.not_lt_zero _)
  | succ fu ih =>
    intro i τ cells slots hfu hi hc hs hC hF H locs ls hR hS hl
    refine lv_iload_n hx hb dL_build_16 rfl (lv_at hl 0 rfl) ?_
    refine lv_iconst (v := 1) hx hb dL_build_17 (by decide) ?_
    refine lv_iload_n hx hb dL_build_18 rfl (lv_at hl 1 rfl) ?_
    refine lv_iconst (v := 3) hx hb dL_build_19 (by decide) ?_
    refine lv_iand hx hb dL_build_20 ?_
    refine lv_iadd hx hb dL_build_21 ?_
    refine W.eq (g2 := F0 mI 22 ls [.int (nI M), .int (nI i)]) (by rw [hM]) ?_
    refine lv_icmp_ge (tgt := 50) hx hb dL_build_22 (by decide) (fun c9 => ?_) (fun c9 => ?_)
    · have hi9 : i = M := by have := (nI_leI (a := M) (b := i) (by omega) (by omega)).mp c9; omega
      subst hi9
      have hl := lv_sub (l' := [(2, .int z), (1, .ref x), (0, .ref b)]) hl [1, 2, 3] rfl
      exact kk τ _ _ H locs ls (by omega) (by omega) hC hF hR hS hl
    · have hi9 : i < M := Nat.lt_of_not_le (fun z9 => c9 ((nI_leI (a := M) (b := i) (by omega) (by omega)).mpr z9))
      refine lv_aload_n hx hb dL_build_25 rfl (lv_at hl 2 rfl) ?_
      refine lv_iconst (v := 0) hx hb dL_build_26 (by decide) ?_
      refine lv_iload_n hx hb dL_build_27 rfl (lv_at hl 1 rfl) ?_
      refine lv_iconst (v := 2) hx hb dL_build_28 (by decide) ?_
      refine lv_iconst (v := 2) hx hb dL_build_29 (by decide) ?_
      refine lv_iload_n hx hb dL_build_30 rfl (lv_at hl 0 rfl) ?_
      refine lv_imul hx hb dL_build_31 ?_
      refine lv_iadd hx hb dL_build_32 ?_
      refine lv_ishr hx hb dL_build_33 ?_
      refine lv_iconst (v := 3) hx hb dL_build_34 (by decide) ?_
      refine lv_iand hx hb dL_build_35 ?_
      refine lv_iconst (v := 0) hx hb dL_build_36 (by decide) ?_
      refine lv_iconst (v := 0) hx hb dL_build_37 (by decide) ?_
      refine lv_iconst (v := 0) hx hb dL_build_38 (by decide) ?_
      refine lv_iconst (v := 0) hx hb dL_build_39 (by decide) ?_
      refine fx_call (vx_runSX (As := [.ref x, .int 0, .int ((z >>> ((2 + (2 * (nI i))) &&& 31)) &&& 3), .int 0, .int 0, .int 0, .int 0]) (rest := []) ⟨hx, hb, hml, hown, hts⟩ (h_act_0 G hL l hX0 τ x (bdA z S i) hC ((z >>> ((2 + (2 * (nI i))) &&& 31)) &&& 3) 0 0 0 0) (vx_cwSW 7 hts gL_build_L_act rfl rfl rfl (by decide +kernel) ⟨Nat.le_of_ble_eq_true rfl, Nat.le_of_ble_eq_true rfl⟩) (fw_preS hW hR) rfl rfl hl.1 rfl (lv_room (Nat.le_of_ble_eq_true rfl)) dL_build_40 ⟨by show cells + 1 ≤ 1000; omega, by show slots + 6 ≤ 6000; omega⟩) hS (fun E ce q9 τ H locs hx_1 hR hS hce hcv hcl => hx_1.elim) (fun v_1 τ_1 H locs hq_1 hR hS => ?_)
      obtain ⟨rfl, hC, hF9⟩ := hq_1
      have hF : ∀ q, q < x → τ_1.2 q = ω.2 q := fun q hq => (hF9 q (Or.inl hq)).trans (hF q hq)
      refine W.eq (g2 := F0 mI 43 ls [.int (ob_act (bdA z S i) 0 ((z >>> ((2 + (2 * (nI i))) &&& 31)) &&& 3) 0 0 0 0).1]) rfl ?_
      refine lv_pop hx hb dL_build_43 rfl ?_
      refine lv_iinc (v := nI (i + 1)) (lv' := [(3, .int (nI (i + 1))), (2, .int z), (1, .ref x), (0, .ref b)]) hx hb dL_build_44 hl (k := 0) rfl (by rw [← nI_1 (i)]; rfl) (by decide) rfl (fun ls hl => ?_)
      refine lv_goto (tgt := 16) hx hb dL_build_47 (by decide) ?_
      exact ih (i + 1) τ_1 _ _ (by omega) (by omega) (by omega) (by omega) hC hF H locs ls hR hS hl
set_option maxHeartbeats 4000000 in
set_option maxRecDepth 100000 in
theorem bl_B (C : BCx G l pP sS mI ar9 cD) {S : StZ} {z : Int32} {M : Nat} (hM : (1 + ((z >>> ((10 : Int32) &&& 31)) &&& 1)) = nI M) (hM9 : M ≤ 4)
    (kk : ∀ (τ : FWd) (cells slots : Nat) (H : Heap) (locs : List Loc) (ls : Array Slot), cells ≤ 760 + M → slots ≤ 6 * (760 + M) → CI G τ.2 x (bdB z S M) → (∀ q, q < x → τ.2 q = ω.2 q) → fR G τ H → va_S (fwA G) sS.heap H locs → lv_has ls 7 [(2, .int z), (1, .ref x), (0, .ref b)] → W pP l eE BRm sS mI ar9 bl9 meth cD H locs cells slots Q (F0 mI 104 ls [])) : ∀ (fu i : Nat) (τ : FWd) (cells slots : Nat), M - i < fu → i ≤ M → cells ≤ 760 + i → slots ≤ 6 * (760 + i) → CI G τ.2 x (bdB z S i) → (∀ q, q < x → τ.2 q = ω.2 q) → ∀ (H : Heap) (locs : List Loc) (ls : Array Slot), fR G τ H → va_S (fwA G) sS.heap H locs → lv_has ls 7 [(3, .int (nI i)), (2, .int z), (1, .ref x), (0, .ref b)] → W pP l eE BRm sS mI ar9 bl9 meth cD H locs cells slots Q (F0 mI 52 ls []) := by
  obtain ⟨hx, hb, hml, hown, hts, hW, hL, hX0⟩ := id C
  have hK := hL.K hW
  intro fu
  induction fu with
  | zero => intro i τ cells slots hfu; exact absurd hfu (Nat.not_lt_zero _)
  | succ fu ih =>
    intro i τ cells slots hfu hi hc hs hC hF H locs ls hR hS hl
    refine lv_iload_n hx hb dL_build_52 rfl (lv_at hl 0 rfl) ?_
    refine lv_iconst (v := 1) hx hb dL_build_53 (by decide) ?_
    refine lv_iload_n hx hb dL_build_54 rfl (lv_at hl 1 rfl) ?_
    refine lv_bipush (v := 10) hx hb dL_build_55 (by decide) ?_
    refine lv_ishr hx hb dL_build_57 ?_
    refine lv_iconst (v := 1) hx hb dL_build_58 (by decide) ?_
    refine lv_iand hx hb dL_build_59 ?_
    refine lv_iadd hx hb dL_build_60 ?_
    refine W.eq (g2 := F0 mI 61 ls [.int (nI M), .int (nI i)]) (by rw [hM]) ?_
    refine lv_icmp_ge (tgt := 104) hx hb dL_build_61 (by decide) (fun c9 => ?_) (fun c9 => ?_)
    · have hi9 : i = M := by have := (nI_leI (a := M) (b := i) (by omega) (by omega)).mp c9; omega
      subst hi9
      have hl := lv_sub (l' := [(2, .int z), (1, .ref x), (0, .ref b)]) hl [1, 2, 3] rfl
      exact kk τ _ _ H locs ls (by omega) (by omega) hC hF hR hS hl
    · have hi9 : i < M := Nat.lt_of_not_le (fun z9 => c9 ((nI_leI (a := M) (b := i) (by omega) (by omega)).mpr z9))
      refine lv_aload_n hx hb dL_build_64 rfl (lv_at hl 2 rfl) ?_
      refine lv_iconst (v := 4) hx hb dL_build_65 (by decide) ?_
      refine lv_iload_n hx hb dL_build_66 rfl (lv_at hl 1 rfl) ?_
      refine lv_bipush (v := 11) hx hb dL_build_67 (by decide) ?_
      refine lv_iconst (v := 3) hx hb dL_build_69 (by decide) ?_
      refine lv_iload_n hx hb dL_build_70 rfl (lv_at hl 0 rfl) ?_
      refine lv_imul hx hb dL_build_71 ?_
      refine lv_iadd hx hb dL_build_72 ?_
      refine lv_ishr hx hb dL_build_73 ?_
      refine lv_bipush (v := 7) hx hb dL_build_74 (by decide) ?_
      refine lv_iand hx hb dL_build_76 ?_
      refine lv_bipush (v := 6) hx hb dL_build_77 (by decide) ?_
      refine lv_irem hx hb dL_build_79 (by decide) ?_
      refine lv_iload_n hx hb dL_build_80 rfl (lv_at hl 1 rfl) ?_
      refine lv_bipush (v := 17) hx hb dL_build_81 (by decide) ?_
      refine lv_iconst (v := 5) hx hb dL_build_83 (by decide) ?_
      refine lv_iload_n hx hb dL_build_84 rfl (lv_at hl 0 rfl) ?_
      refine lv_imul hx hb dL_build_85 ?_
      refine lv_iadd hx hb dL_build_86 ?_
      refine lv_ishr hx hb dL_build_87 ?_
      refine lv_bipush (v := 31) hx hb dL_build_88 (by decide) ?_
      refine lv_iand hx hb dL_build_90 ?_
      refine lv_iconst (v := 0) hx hb dL_build_91 (by decide) ?_
      refine lv_iconst (v := 0) hx hb dL_build_92 (by decide) ?_
      refine lv_iconst (v := 0) hx hb dL_build_93 (by decide) ?_
      refine fx_call (vx_runSX (As := [.ref x, .int 4, .int (((z >>> ((11 + (3 * (nI i))) &&& 31)) &&& 7) - ((z >>> ((11 + (3 * (nI i))) &&& 31)) &&& 7) / 6 * 6), .int ((z >>> ((17 + (5 * (nI i))) &&& 31)) &&& 31), .int 0, .int 0, .int 0]) (rest := []) ⟨hx, hb, hml, hown, hts⟩ (h_act_4 G hL l hX0 τ x (bdB z S i) hC (((z >>> ((11 + (3 * (nI i))) &&& 31)) &&& 7) - ((z >>> ((11 + (3 * (nI i))) &&& 31)) &&& 7) / 6 * 6) ((z >>> ((17 + (5 * (nI i))) &&& 31)) &&& 31) 0 0 0) (vx_cwSW 7 hts gL_build_L_act rfl rfl rfl (by decide +kernel) ⟨Nat.le_of_ble_eq_true rfl, Nat.le_of_ble_eq_true rfl⟩) (fw_preS hW hR) rfl rfl hl.1 rfl (lv_room (Nat.le_of_ble_eq_true rfl)) dL_build_94 ⟨by show cells + 1 ≤ 1000; omega, by show slots + 6 ≤ 6000; omega⟩) hS (fun E ce q9 τ H locs hx_1 hR hS hce hcv hcl => hx_1.elim) (fun v_1 τ_1 H locs hq_1 hR hS => ?_)
      obtain ⟨rfl, hC, hF9⟩ := hq_1
      have hF : ∀ q, q < x → τ_1.2 q = ω.2 q := fun q hq => (hF9 q (Or.inl hq)).trans (hF q hq)
      refine W.eq (g2 := F0 mI 97 ls [.int (ob_act (bdB z S i) 4 (((z >>> ((11 + (3 * (nI i))) &&& 31)) &&& 7) - ((z >>> ((11 + (3 * (nI i))) &&& 31)) &&& 7) / 6 * 6) ((z >>> ((17 + (5 * (nI i))) &&& 31)) &&& 31) 0 0 0).1]) rfl ?_
      refine lv_pop hx hb dL_build_97 rfl ?_
      refine lv_iinc (v := nI (i + 1)) (lv' := [(3, .int (nI (i + 1))), (2, .int z), (1, .ref x), (0, .ref b)]) hx hb dL_build_98 hl (k := 0) rfl (by rw [← nI_1 (i)]; rfl) (by decide) rfl (fun ls hl => ?_)
      refine lv_goto (tgt := 52) hx hb dL_build_101 (by decide) ?_
      exact ih (i + 1) τ_1 _ _ (by omega) (by omega) (by omega) (by omega) hC hF H locs ls hR hS hl
set_option maxHeartbeats 4000000 in
set_option maxRecDepth 100000 in
theorem bl_C (C : BCx G l pP sS mI ar9 cD) {L : Nat} {xs : Nat → Int32} (hX : va_X b L xs G.2.2 G.2.2.heap) (hbl : b < G.2.2.heap.size) (hbA : ¬ fwA G b) (hL9 : L ≤ 260) {S : StZ} {z : Int32}
    (kk : ∀ (τ : FWd) (cells slots : Nat) (H : Heap) (locs : List Loc) (ls : Array Slot), cells ≤ 765 + 13 * 12 → slots ≤ 6 * (765 + 13 * 12) → CI G τ.2 x (bdC L xs S 12) → (∀ q, q < x → τ.2 q = ω.2 q) → fR G τ H → va_S (fwA G) sS.heap H locs → lv_has ls 7 [(1, .ref x), (0, .ref b)] → W pP l eE BRm sS mI ar9 bl9 meth cD H locs cells slots Q (F0 mI 607 ls [])) : ∀ (fu j : Nat) (τ : FWd) (cells slots : Nat), 12 - j < fu → j ≤ 12 → cells ≤ 765 + 13 * j → slots ≤ 6 * (765 + 13 * j) → CI G τ.2 x (bdC L xs S j) → (∀ q, q < x → τ.2 q = ω.2 q) → ∀ (H : Heap) (locs : List Loc) (ls : Array Slot), fR G τ H → va_S (fwA G) sS.heap H locs → lv_has ls 7 [(3, .int (nI (j + 1))), (2, .int z), (1, .ref x), (0, .ref b)] → W pP l eE BRm sS mI ar9 bl9 meth cD H locs cells slots Q (F0 mI 106 ls []) := by
  obtain ⟨hx, hb, hml, hown, hts, hW, hL, hX0⟩ := id C
  have hK := hL.K hW
  intro fu
  induction fu with
  | zero => intro j τ cells slots hfu; exact absurd hfu (Nat.not_lt_zero _)
  | succ fu ih =>
    intro j τ cells slots hfu hj hc hs hC hF H locs ls hR hS hl
    refine lv_iload_n hx hb dL_build_106 rfl (lv_at hl 0 rfl) ?_
    refine lv_bipush (v := 13) hx hb dL_build_107 (by decide) ?_
    refine W.eq (g2 := F0 mI 109 ls [.int (nI 13), .int (nI (j + 1))]) (by rfl) ?_
    refine lv_icmp_ge (tgt := 607) hx hb dL_build_109 (by decide) (fun c9 => ?_) (fun c9 => ?_)
    · have hj9 : j = 12 := by have := (nI_leI (a := 13) (b := j + 1) (by omega) (by omega)).mp c9; omega
      subst hj9
      have hl := lv_sub (l' := [(1, .ref x), (0, .ref b)]) hl [2, 3] rfl
      exact kk τ _ _ H locs ls (by omega) (by omega) hC hF hR hS hl
    · have hj9 : j < 12 := Nat.lt_of_not_le (fun z9 => c9 ((nI_leI (a := 13) (b := j + 1) (by omega) (by omega)).mpr (by omega)))
      refine lv_aload_n hx hb dL_build_112 rfl (lv_at hl 3 rfl) ?_
      refine lv_iload_n hx hb dL_build_113 rfl (lv_at hl 0 rfl) ?_
      refine fw_call (va_runS (As := [.ref b, .int (nI (j + 1))]) (rest := []) ⟨hx, hb, hml, hown, hts⟩ (h_at G hL l hX0 τ b L xs hX hbl hbA hL9 (j + 1) (by omega)) (va_cwS 2 hts gL_build_L_at rfl rfl rfl (by decide +kernel) ⟨Nat.le_of_ble_eq_true rfl, Nat.le_of_ble_eq_true rfl⟩) (fw_preS hW hR) rfl rfl hl.1 rfl (lv_room (Nat.le_of_ble_eq_true rfl)) dL_build_114 ⟨by show cells + 0 ≤ 1000; omega, by show slots + 0 ≤ 6000; omega⟩) hS (fun v_1 τ_1 H locs hq_1 hR hS => ?_)
      obtain ⟨rfl, hq_1⟩ := hq_1
      rw [hq_1] at hR
      obtain ⟨c, hcv⟩ : ∃ z9 : Int32, z9 = atV L xs (j + 1) := ⟨_, rfl⟩
      refine W.eq (g2 := F0 mI 117 ls [.int c]) (by rw [hcv]; rfl) ?_
      refine lv_istore (lv' := [(4, .int c), (3, .int (nI (j + 1))), (2, .int z), (1, .ref x), (0, .ref b)]) hx hb dL_build_117 hl (by decide) rfl (fun ls hl => ?_)
      refine lv_iconst (v := 1) hx hb dL_build_119 (by decide) ?_
      refine lv_aload_n hx hb dL_build_120 rfl (lv_at hl 3 rfl) ?_
      refine lv_iconst (v := 0) hx hb dL_build_121 (by decide) ?_
      refine fx_call (vx_runV (As := [.int 0]) (rest := [.int 1]) ⟨hx, hb, hml, hown, hts⟩ (k_account G hL l hX0 τ x (bdC L xs S j) hC 0 ((bdC L xs S j).2.1 0) (ac_rd (bdC L xs S j) 0 (by decide))) (cwV 1 hts gL_build_X10_account rfl rfl rfl (by decide +kernel) ⟨Nat.le_of_ble_eq_true rfl, Nat.le_of_ble_eq_true rfl⟩) (fw_preV hW hK hR hC.at0 rfl) rfl rfl hl.1 rfl (lv_room (Nat.le_of_ble_eq_true rfl)) dL_build_122 ⟨by show cells + 0 + 1 ≤ 1000; omega, by show slots + 0 + 6 ≤ 6000; omega⟩) hS (fun E ce q9 τ H locs hx_1 hR hS hce hcv hcl => hx_1.elim) (fun v_2 τ_2 H locs hq_2 hR hS => ?_)
      obtain ⟨rfl, hC, hF9⟩ := hq_2
      have hF : ∀ q, q < x → τ_2.2 q = ω.2 q := fun q hq => (hF9 q (Or.inl hq)).trans (hF q hq)
      refine W.eq (g2 := F0 mI 125 ls [.int ((bdC L xs S j).2.1 0), .int 1]) rfl ?_
      refine va_mmax hx hb (hml.trans hl.1.symm) hown (index := 38) (hts (.methodLink RL 38 Lib.Math.max.name) (by decide +kernel)) (hts (.static Lib.Math.max.name) (by decide +kernel)) (hts (.initialized "java/lang/Math") (by decide +kernel)) (hts (.code Lib.Math.max.name Lib.Math.max.code 2 (some .int)) (by decide +kernel)) (Nat.le_of_ble_eq_true rfl) (Nat.le_of_ble_eq_true rfl) (by show cells + 0 + 1 ≤ 1000; omega) (by show slots + 0 + 6 ≤ 6000; omega) dL_build_125 ?_
      obtain ⟨m, hmv⟩ : ∃ z9 : Int32, z9 = mxV (bdC L xs S j).2.1 := ⟨_, rfl⟩
      have hm : ¬ m = 0 := by rw [hmv]; exact mxV_0
      refine W.eq (g2 := F0 mI 128 ls [.int m]) (by rw [hmv]; rfl) ?_
      refine lv_istore (lv' := [(5, .int m), (4, .int c), (3, .int (nI (j + 1))), (2, .int z), (1, .ref x), (0, .ref b)]) hx hb dL_build_128 hl (by decide) rfl (fun ls hl => ?_)
      refine lv_iload hx hb dL_build_130 (lv_at hl 1 rfl) ?_
      refine lv_bipush (v := 7) hx hb dL_build_132 (by decide) ?_
      refine lv_iand hx hb dL_build_134 ?_
      refine lv_iload hx hb dL_build_135 (lv_at hl 0 rfl) ?_
      refine lv_irem hx hb dL_build_137 hm ?_
      obtain ⟨f, hfv⟩ : ∃ z9 : Int32, z9 = ((c &&& 7) - (c &&& 7) / m * m) := ⟨_, rfl⟩
      refine W.eq (g2 := F0 mI 138 ls [.int f]) (by rw [hfv]) ?_
      refine lv_istore (lv' := [(6, .int f), (5, .int m), (4, .int c), (3, .int (nI (j + 1))), (2, .int z), (1, .ref x), (0, .ref b)]) hx hb dL_build_138 hl (by decide) rfl (fun ls hl => ?_)
      have hl : lv_has ls 7 [(6, .int f), (5, .int m), (4, .int c), (3, .int (nI (j + 1))), (2, .int z), (1, .ref x), (0, .ref b)] := lv_sub hl [0, 1, 2, 3, 4, 5, 6] rfl
      refine bd_0 C (n0 := 765 + 13 * j + 1) hm (by omega) (fun t0 cl0 sl0 H locs ls hc0 hs0 hC hF hR hS hl => ?_) (by omega) (by omega) hC hF hR hS hl
      refine bd_1 C (n0 := 765 + 13 * j + 3) hm (by omega) (fun t1 cl1 sl1 H locs ls hc1 hs1 hC hF hR hS hl => ?_) (by omega) (by omega) hC hF hR hS hl
      refine bd_2 C (n0 := 765 + 13 * j + 4) hm (by omega) (fun t2 cl2 sl2 H locs ls hc2 hs2 hC hF hR hS hl => ?_) (by omega) (by omega) hC hF hR hS hl
      refine bd_3 C (n0 := 765 + 13 * j + 5) hm (by omega) (fun t3 cl3 sl3 H locs ls hc3 hs3 hC hF hR hS hl => ?_) (by omega) (by omega) hC hF hR hS hl
      refine bd_4 C (n0 := 765 + 13 * j + 6) hm (by omega) (fun t4 cl4 sl4 H locs ls hc4 hs4 hC hF hR hS hl => ?_) (by omega) (by omega) hC hF hR hS hl
      refine bd_5 C (n0 := 765 + 13 * j + 7) hm (by omega) (fun t5 cl5 sl5 H locs ls hc5 hs5 hC hF hR hS hl => ?_) (by omega) (by omega) hC hF hR hS hl
      refine bd_6 C (n0 := 765 + 13 * j + 8) hm (by omega) (fun t6 cl6 sl6 H locs ls hc6 hs6 hC hF hR hS hl => ?_) (by omega) (by omega) hC hF hR hS hl
      refine bd_7 C (n0 := 765 + 13 * j + 9) hm (by omega) (fun t7 cl7 sl7 H locs ls hc7 hs7 hC hF hR hS hl => ?_) (by omega) (by omega) hC hF hR hS hl
      refine bd_8 C (n0 := 765 + 13 * j + 10) hm (by omega) (fun t8 cl8 sl8 H locs ls hc8 hs8 hC hF hR hS hl => ?_) (by omega) (by omega) hC hF hR hS hl
      refine bd_9 C (n0 := 765 + 13 * j + 11) hm (by omega) (fun t9 cl9 sl9 H locs ls hc9 hs9 hC hF hR hS hl => ?_) (by omega) (by omega) hC hF hR hS hl
      refine bd_10 C (n0 := 765 + 13 * j + 12) hm (by omega) (fun t10 cl10 sl10 H locs ls hc10 hs10 hC hF hR hS hl => ?_) (by omega) (by omega) hC hF hR hS hl
      have hC : CI G t10.2 x (bdC L xs S (j + 1)) := by
        have e9 : bdC L xs S (j + 1) = bdK c m f (bdC L xs S j) := by rw [bdC, hfv, hmv, hcv]
        rw [e9]
        exact hC
      refine lv_iinc (v := nI (j + 1 + 1)) (lv' := [(3, .int (nI (j + 1 + 1))), (6, .int f), (5, .int m), (4, .int c), (2, .int z), (1, .ref x), (0, .ref b)]) hx hb dL_build_601 hl (k := 3) rfl (by rw [← nI_1 (j + 1)]; rfl) (by decide) rfl (fun ls hl => ?_)
      refine lv_goto (tgt := 106) hx hb dL_build_604 (by decide) ?_
      have hl : lv_has ls 7 [(3, .int (nI (j + 1 + 1))), (2, .int z), (1, .ref x), (0, .ref b)] := lv_sub hl [0, 4, 5, 6] rfl
      exact ih (j + 1) t10 _ _ (by omega) (by omega) (by omega) (by omega) hC hF H locs ls hR hS hl
end BDZ
set_option maxHeartbeats 4000000 in
set_option maxRecDepth 100000 in
theorem h_build (G : FG) (hL : FL G) (l : Launch) (hX0 : FX0 G l) (ω : FWd) (b L : Nat) (xs : Nat → Int32) (hX : va_X b L xs G.2.2 G.2.2.heap) (hbl : b < G.2.2.heap.size) (hbA : ¬ fwA G b) (hL9 : L ≤ 260) (x : Nat) (hn : ω.1 = x) : FMet G l yL_build wsL_build BRm [.ref b] ω (fun vv9 τ9 => vv9 = some (.ref x) ∧ CI G τ9.2 x (bdS L xs) ∧ ∀ q, q < x → τ9.2 q = ω.2 q) 1000 6000 := by
  refine fw_ofW (cc := cL_build) (maxL := 7) (ret := (some (.object "UnreadLeaflets"))) (by decide) rfl (Nat.le_of_ble_eq_true rfl) ?_
  intro pP eE sS mI ar9 bl9 meth cD ls hx hb hr hlocks hml hts hown hnm hW hR hl
  have hK := hL.K hW
  have hS : va_S (fwA G) sS.heap sS.heap [] := va_S.rf
  have C : BCx G l pP sS mI ar9 cD := ⟨hx, hb, hml, hown, hts, hW, hL, hX0⟩
  have hl : lv_has ls 7 [(0, .ref b)] := hl
  have hin10 : ∀ w ∈ u_ws RX10 TX10 9, w ∈ wsL_build := by decide +kernel
  obtain ⟨σ0, hs0⟩ : ∃ z9 : Nat → Option va_E, z9 = ω.2 := ⟨_, rfl⟩
  have hR : fR G (x, σ0) sS.heap := by rw [hs0, ← hn]; exact hR
  refine fw_new (C := RX10) (T := TX10) (N := 9) (ci := 12) hx hb hts hin10 tyX10 tyX10_ok hown (hts (.classLink RL 18 RX10) (by decide +kernel)) (hts (.instantiable RX10 9) (by decide +kernel)) (hts (.initialized RX10) (by decide +kernel)) hK hR hS rfl (n := x) rfl (fs := [.null, .null, .null, .null, .null, .int 0, .null, .null, .null]) (fun j hj => by rcases (show j = 0 ∨ j = 1 ∨ j = 2 ∨ j = 3 ∨ j = 4 ∨ j = 5 ∨ j = 6 ∨ j = 7 ∨ j = 8 by omega) with rfl | rfl | rfl | rfl | rfl | rfl | rfl | rfl | rfl <;> rfl) (Nat.le_of_ble_eq_true rfl) (Nat.le_of_ble_eq_true rfl) dL_build_0 (fun H hR hS => ?_)
  obtain ⟨σ1, hs1⟩ : ∃ z9 : Nat → Option va_E, z9 = va_up σ0 x (some (.inr (12, [.null, .null, .null, .null, .null, .int 0, .null, .null, .null]))) := ⟨_, rfl⟩
  have hR : fR G (x + 1, σ1) H := by rw [hs1]; exact hR
  have e1 : σ1 x = some (.inr (12, [.null, .null, .null, .null, .null, .int 0, .null, .null, .null])) := by rw [hs1]; exact va_up_at
  have f1 : ∀ q, q < x → σ1 q = ω.2 q := fun q hq => by rw [hs1, va_up_off (show ¬ q = x by omega), hs0]
  refine lv_dup hx hb dL_build_3 rfl ?_
  refine fw_call (va_runI (As := []) (b := x) (rest := [.ref x]) ⟨hx, hb, hml, hown, hts⟩ (c_X10_init G hL l (x + 1, σ1) x rfl e1) (cwI 0 hts gL_build_X10_init rfl rfl rfl (hts (.initialized RX10) (by decide +kernel)) (hts (.methodLink RL 23 yX10_init) (by decide +kernel)) (hts (.instanceMethod yX10_init) (by decide +kernel)) rfl (by decide +kernel) ⟨Nat.le_of_ble_eq_true rfl, Nat.le_of_ble_eq_true rfl⟩) (fw_preI hW hR) rfl rfl hl.1 rfl (lv_room (Nat.le_of_ble_eq_true rfl)) dL_build_4 ⟨Nat.le_of_ble_eq_true rfl, Nat.le_of_ble_eq_true rfl⟩) hS (fun v_1 τ_1 H locs hq_1 hR hS => ?_)
  obtain ⟨rfl, -, hP1, hF1⟩ := hq_1
  have hC : CI G τ_1.2 x zsZ := cinv0 hP1
  have hF : ∀ q, q < x → τ_1.2 q = ω.2 q := fun q hq => (hF1 q hq).trans (f1 q hq)
  refine W.eq (g2 := F0 mI 7 ls [.ref x]) rfl ?_
  refine lv_astore_n (lv' := [(1, .ref x), (0, .ref b)]) hx hb dL_build_7 rfl hl (by decide) rfl (fun ls hl => ?_)
  refine lv_aload_n hx hb dL_build_8 rfl (lv_at hl 1 rfl) ?_
  refine lv_iconst (v := 0) hx hb dL_build_9 (by decide) ?_
  refine W.eq (g2 := F0 mI 10 ls [.int (nI 0), .ref b]) rfl ?_
  refine fw_call (va_runS (As := [.ref b, .int (nI 0)]) (rest := []) ⟨hx, hb, hml, hown, hts⟩ (h_at G hL l hX0 τ_1 b L xs hX hbl hbA hL9 0 (by omega)) (va_cwS 2 hts gL_build_L_at rfl rfl rfl (by decide +kernel) ⟨Nat.le_of_ble_eq_true rfl, Nat.le_of_ble_eq_true rfl⟩) (fw_preS hW hR) rfl rfl hl.1 rfl (lv_room (Nat.le_of_ble_eq_true rfl)) dL_build_10 ⟨Nat.le_of_ble_eq_true rfl, Nat.le_of_ble_eq_true rfl⟩) hS (fun v_2 τ_2 H locs hq_2 hR hS => ?_)
  obtain ⟨rfl, hq_2⟩ := hq_2
  rw [hq_2] at hR
  obtain ⟨z, hz⟩ : ∃ z9 : Int32, z9 = atV L xs 0 := ⟨_, rfl⟩
  refine W.eq (g2 := F0 mI 13 ls [.int z]) (by rw [hz]; rfl) ?_
  refine lv_istore_n (lv' := [(2, .int z), (1, .ref x), (0, .ref b)]) hx hb dL_build_13 rfl hl (by decide) rfl (fun ls hl => ?_)
  refine lv_iconst (v := 0) hx hb dL_build_14 (by decide) ?_
  refine lv_istore_n (lv' := [(3, .int 0), (2, .int z), (1, .ref x), (0, .ref b)]) hx hb dL_build_15 rfl hl (by decide) rfl (fun ls hl => ?_)
  obtain ⟨MA, hMA9, hMA⟩ := and_3 z
  obtain ⟨MB, hMB9, hMB⟩ := and_1 (z >>> ((10 : Int32) &&& 31))
  have hl : lv_has ls 7 [(3, .int (nI 0)), (2, .int z), (1, .ref x), (0, .ref b)] := lv_sub hl [0, 1, 2, 3] rfl
  refine W.widen (k := 750) (n := 4500) (by first | exact Nat.le_of_ble_eq_true rfl | omega) (by first | exact Nat.le_of_ble_eq_true rfl | omega) ?_
  refine bl_A C (S := zsZ) hMA hMA9 (fun t1 c1 s1 H locs ls hc1 hs1 hC hF hR hS hl => ?_) _ 0 τ_1 _ _ (Nat.lt_succ_self _) (Nat.zero_le _) (Nat.le_refl _) (Nat.le_refl _) hC hF H _ _ hR hS hl
  refine lv_iconst (v := 0) hx hb dL_build_50 (by decide) ?_
  refine lv_istore_n (lv' := [(3, .int 0), (2, .int z), (1, .ref x), (0, .ref b)]) hx hb dL_build_51 rfl hl (by decide) rfl (fun ls hl => ?_)
  have hl : lv_has ls 7 [(3, .int (nI 0)), (2, .int z), (1, .ref x), (0, .ref b)] := lv_sub hl [0, 1, 2, 3] rfl
  refine bl_B C (S := bdA z zsZ MA) hMB hMB9 (fun t2 c2 s2 H locs ls hc2 hs2 hC hF hR hS hl => ?_) _ 0 t1 _ _ (Nat.lt_succ_self _) (Nat.zero_le _) (by omega) (by omega) hC hF H _ _ hR hS hl
  refine lv_iconst (v := 1) hx hb dL_build_104 (by decide) ?_
  refine lv_istore_n (lv' := [(3, .int 1), (2, .int z), (1, .ref x), (0, .ref b)]) hx hb dL_build_105 rfl hl (by decide) rfl (fun ls hl => ?_)
  have hl : lv_has ls 7 [(3, .int (nI (0 + 1))), (2, .int z), (1, .ref x), (0, .ref b)] := lv_sub hl [0, 1, 2, 3] rfl
  refine bl_C C hX hbl hbA hL9 (S := bdB z (bdA z zsZ MA) MB) (fun t3 c3 s3 H locs ls hc3 hs3 hC hF hR hS hl => ?_) _ 0 t2 _ _ (Nat.lt_succ_self _) (Nat.zero_le _) (by omega) (by omega) hC hF H _ _ hR hS hl
  refine lv_aload_n hx hb dL_build_607 rfl (lv_at hl 0 rfl) ?_
  refine W.widen (k := 1000) (n := 6000) (by omega) (by omega) ?_
  refine fw_aret hx hb hr (Or.inl ⟨_, rfl⟩) hlocks hR hS dL_build_608 ?_
  have e9 : bdS L xs = bdC L xs (bdB z (bdA z zsZ MA) MB) 12 := by unfold bdS; rw [← hz, hMA, hMB, cN_nI (by omega), cN_nI (by omega)]
  exact ⟨rfl, by rw [e9]; exact hC, hF⟩
