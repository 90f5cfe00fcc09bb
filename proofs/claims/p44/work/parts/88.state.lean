/-! ===== printed by program (wip/p44/lay_state.py): what state() tells of a row ===== -/
theorem inB_lt {l n : Nat} (h : l < n) (hn : n ≤ 1000) : inB (nI l) 0 (nI n - 1) := by
  refine ⟨nI_pos (by omega), fun z => ?_⟩
  rw [nI_m1 (by omega)] at z
  have := (nI_ltI (a := n - 1) (b := l) (by omega) (by omega)).mp z
  omega
def acV (g : PR) : Nat → Int32
  | 0 => g 0
  | 1 => g 1
  | 2 => sumaM g g 18 8
  | 3 => onesM g g
  | 4 => sumaM g g 6 6
  | 5 => g 2
  | 6 => g 3
  | 7 => g 4
  | _ => g 5
def lfV (g : PR) (j : Nat) : Nat → Int32
  | 0 => g (18 + j)
  | 1 => g (26 + j)
  | 2 => openJ (g (18 + j)) (cN (g (26 + j)))
  | 3 => g (34 + j)
  | _ => g (42 + j) - 1
def spV (g : PR) (j i : Nat) : Nat → Int32
  | 0 => g (68 + 8 * j + i)
  | 1 => mP g j i
  | 2 => g (196 + 8 * j + i)
  | 3 => g (260 + 8 * j + i)
  | _ => (g (50 + j) >>> (nI i &&& 31)) &&& 1
def coV (g : PR) (c : Nat) : Nat → Int32
  | 0 => g (58 + c)
  | _ => g (63 + c)
theorem suma_s {s s2 g : PR} {a b : Nat} : ∀ k, sumaL s g a b k = sumaL s2 g a b k
  | 0 => rfl
  | k + 1 => by rw [sumaL, sumaL, suma_s k]
theorem ones_s {s s2 g : PR} : ∀ k, onesL s g k = onesL s2 g k
  | 0 => rfl
  | k + 1 => by simp only [onesL, ones_s (s := s) (s2 := s2) k]
theorem pr_ok {a b : Int32} {s : PR} (h : a = b) : ((a, upd s 14 0).1, (a, upd s 14 0).2 14) = (b, 0) := by
  rw [h]
  show (b, upd s 14 0 14) = (b, 0)
  rw [upd_at]
theorem ac_rd (S : StZ) (k : Nat) (hk : k < 9) : ob_account S (nI k) = (acV S.2.1 k, 0) := by
  have hs1 : sumaM S.1 S.2.1 18 8 = sumaM S.2.1 S.2.1 18 8 := suma_s 8
  have hs2 : sumaM S.1 S.2.1 6 6 = sumaM S.2.1 S.2.1 6 6 := suma_s 6
  have hs3 : onesM S.1 S.2.1 = onesM S.2.1 S.2.1 := ones_s _
  unfold ob_account accM
  rcases (show k = 0 ∨ k = 1 ∨ k = 2 ∨ k = 3 ∨ k = 4 ∨ k = 5 ∨ k = 6 ∨ k = 7 ∨ k = 8 by omega) with rfl | rfl | rfl | rfl | rfl | rfl | rfl | rfl | rfl
  · rw [if_pos (by decide)]; exact pr_ok (rfl)
  · rw [if_neg (by decide), if_pos (by decide)]; exact pr_ok (rfl)
  · rw [if_neg (by decide), if_neg (by decide), if_pos (by decide)]; exact pr_ok (hs1)
  · rw [if_neg (by decide), if_neg (by decide), if_neg (by decide), if_pos (by decide)]; exact pr_ok (hs3)
  · rw [if_neg (by decide), if_neg (by decide), if_neg (by decide), if_neg (by decide), if_pos (by decide)]; exact pr_ok (hs2)
  · rw [if_neg (by decide), if_neg (by decide), if_neg (by decide), if_neg (by decide), if_neg (by decide), if_pos (by decide)]; exact pr_ok (rfl)
  · rw [if_neg (by decide), if_neg (by decide), if_neg (by decide), if_neg (by decide), if_neg (by decide), if_neg (by decide), if_pos (by decide)]; exact pr_ok (rfl)
  · rw [if_neg (by decide), if_neg (by decide), if_neg (by decide), if_neg (by decide), if_neg (by decide), if_neg (by decide), if_neg (by decide), if_pos (by decide)]; exact pr_ok (rfl)
  · rw [if_neg (by decide), if_neg (by decide), if_neg (by decide), if_neg (by decide), if_neg (by decide), if_neg (by decide), if_neg (by decide), if_neg (by decide), if_pos (by decide)]; exact pr_ok (rfl)
theorem lf_rd (S : StZ) (j n : Nat) (h0 : S.2.1 0 = nI n) (hj : j < n) (hn : n ≤ 8) (k : Nat) (hk : k < 5) : ob_leafletOf S (nI j) (nI k) = (lfV S.2.1 j k, 0) := by
  have hin : inB (nI j) 0 (S.2.1 0 - 1) := by rw [h0]; exact inB_lt hj (by omega)
  have hc : cN (nI j) = j := cN_nI (by omega)
  unfold ob_leafletOf leafOfM
  rw [if_pos hin, hc]
  rcases (show k = 0 ∨ k = 1 ∨ k = 2 ∨ k = 3 ∨ k = 4 by omega) with rfl | rfl | rfl | rfl | rfl
  · rw [if_pos (by decide)]; exact pr_ok rfl
  · rw [if_neg (by decide), if_pos (by decide)]; exact pr_ok rfl
  · rw [if_neg (by decide), if_neg (by decide), if_pos (by decide)]; exact pr_ok rfl
  · rw [if_neg (by decide), if_neg (by decide), if_neg (by decide), if_pos (by decide)]; exact pr_ok rfl
  · rw [if_neg (by decide), if_neg (by decide), if_neg (by decide), if_neg (by decide), if_pos (by decide)]; exact pr_ok rfl
theorem sp_rd (S : StZ) (j i n m : Nat) (h0 : S.2.1 0 = nI n) (hj : j < n) (hn : n ≤ 8) (h1 : S.2.1 (18 + j) = nI m) (hi : i < m) (hm : m ≤ 8) (k : Nat) (hk : k < 5) : ob_stepOf S (nI j) (nI i) (nI k) = (spV S.2.1 j i k, 0) := by
  have hin : inB (nI j) 0 (S.2.1 0 - 1) := by rw [h0]; exact inB_lt hj (by omega)
  have hc : cN (nI j) = j := cN_nI (by omega)
  have hc2 : cN (nI i) = i := cN_nI (by omega)
  have hin2 : inB (nI i) 0 (S.2.1 (18 + j) - 1) := by rw [h1]; exact inB_lt hi (by omega)
  unfold ob_stepOf stepOfM
  rw [if_pos hin, hc, if_pos hin2, hc2]
  rcases (show k = 0 ∨ k = 1 ∨ k = 2 ∨ k = 3 ∨ k = 4 by omega) with rfl | rfl | rfl | rfl | rfl
  · rw [if_pos (by decide)]; exact pr_ok rfl
  · rw [if_neg (by decide), if_pos (by decide)]; exact pr_ok rfl
  · rw [if_neg (by decide), if_neg (by decide), if_pos (by decide)]; exact pr_ok rfl
  · rw [if_neg (by decide), if_neg (by decide), if_neg (by decide), if_pos (by decide)]; exact pr_ok rfl
  · rw [if_neg (by decide), if_neg (by decide), if_neg (by decide), if_neg (by decide), if_pos (by decide)]; exact pr_ok rfl
theorem co_rd (S : StZ) (c n : Nat) (h0 : S.2.1 1 = nI n) (hj : c < n) (hn : n ≤ 5) (k : Nat) (hk : k < 2) : ob_cousinOf S (nI c) (nI k) = (coV S.2.1 c k, 0) := by
  have hin : inB (nI c) 0 (S.2.1 1 - 1) := by rw [h0]; exact inB_lt hj (by omega)
  have hc : cN (nI c) = c := cN_nI (by omega)
  unfold ob_cousinOf cousOfM
  rw [if_pos hin, hc]
  rcases (show k = 0 ∨ k = 1 by omega) with rfl | rfl
  · rw [if_pos (by decide)]; exact pr_ok rfl
  · rw [if_neg (by decide), if_pos (by decide)]; exact pr_ok rfl
theorem ti_in : ∀ k : Nat, k < 6 → inB (nI k) 0 5 := by decide
theorem ti_rd (S : StZ) (k : Nat) (hk : k < 6) : ob_tin S (nI k) = (S.2.1 (6 + k), 0) := by
  unfold ob_tin tinM
  rw [if_pos (ti_in k hk), cN_nI (by omega)]
  exact pr_ok rfl
theorem lo_rd (S : StZ) (k : Nat) (hk : k < 6) : ob_lost S (nI k) = (S.2.1 (12 + k), 0) := by
  unfold ob_lost lostM
  rw [if_pos (ti_in k hk), cN_nI (by omega)]
  exact pr_ok rfl
/-! the sum itself -/
def smA (g : PR) : Nat → Int32
  | 0 => 0
  | k + 1 => 31 * smA g k + acV g k
def smT (g : PR) (v : Int32) : Nat → Int32
  | 0 => v
  | k + 1 => 31 * (31 * smT g v k + g (6 + k)) + g (12 + k)
def smF (g : PR) (j : Nat) (v : Int32) : Nat → Int32
  | 0 => v
  | k + 1 => 31 * smF g j v k + lfV g j k
def smP (g : PR) (j i : Nat) (v : Int32) : Nat → Int32
  | 0 => v
  | k + 1 => 31 * smP g j i v k + spV g j i k
def smS (g : PR) (j : Nat) (v : Int32) : Nat → Int32
  | 0 => v
  | i + 1 => smP g j i (smS g j v i) 5
def smL (g : PR) (v : Int32) : Nat → Int32
  | 0 => v
  | j + 1 => smS g j (smF g j (smL g v j) 5) (cN (g (18 + j)))
def smK (g : PR) (c : Nat) (v : Int32) : Nat → Int32
  | 0 => v
  | k + 1 => 31 * smK g c v k + coV g c k
def smC (g : PR) (v : Int32) : Nat → Int32
  | 0 => v
  | c + 1 => smK g c (smC g v c) 2
/-- what state() answers -/
def stM (g : PR) : Int32 := smC g (smL g (smT g (smA g 9) 6) (cN (g 0))) (cN (g 1))
/-- what holds all along state() -/
def SCx (G : FG) (l : Launch) (p : Program) (s : State) (m : MethodId) (args : Array Value) (c : Code) : Prop :=
  p.tables.exec = Jvm.exec ∧ c.code = cL_state ∧ c.maxLocals = 5 ∧ s.vm.findClass RL = some m.cls ∧ (∀ w ∈ wsL_state, w.before args s = true) ∧ G.2.2.WarmedH s.vm ∧ FL G ∧ FX0 G l
abbrev SRm : Room := ({ frames := 9, cells := 2000, slots := 12000, locals := 160 } : Room)
section STZ
variable {G : FG} {l : Launch} {pP : Program} {eE : Env} {sS : State} {mI : MethodId} {ar9 : Array Value} {bl9 : List Frame} {meth : Method} {cD : Code} {Q : State → Prop} {x : Nat} {S : StZ} {ω : FWd}
set_option maxHeartbeats 4000000 in
set_option maxRecDepth 100000 in
theorem st_A (C : SCx G l pP sS mI ar9 cD)  
    (kk : ∀ (τ : FWd) (cells slots : Nat) (H : Heap) (locs : List Loc) (ls : Array Slot), cells ≤ 9 → slots ≤ 6 * (9) → CI G τ.2 x S → FrX x ω.2 τ.2 → fR G τ H → va_S (fwA G) sS.heap H locs → lv_has ls 5 [(2, .int (nI 9)), (1, .int (smA S.2.1 9)), (0, .ref x)] → W pP l eE SRm sS mI ar9 bl9 meth cD H locs cells slots Q (F0 mI 27 ls [])) : ∀ (fu k : Nat) (τ : FWd) (cells slots : Nat), 9 - k < fu → k ≤ 9 → cells ≤ k → slots ≤ 6 * (k) → CI G τ.2 x S → FrX x ω.2 τ.2 → ∀ (H : Heap) (locs : List Loc) (ls : Array Slot), fR G τ H → va_S (fwA G) sS.heap H locs → lv_has ls 5 [(2, .int (nI k)), (1, .int (smA S.2.1 k)), (0, .ref x)] → W pP l eE SRm sS mI ar9 bl9 meth cD H locs cells slots Q (F0 mI 4 ls []) := by
  obtain ⟨hx, hb, hml, hown, hts, hW, hL, hX0⟩ := id C
  have hK := hL.K hW
  intro fu
  induction fu with
  | zero => intro k τ cells slots hfu; exact absurd hfu (Nat.not_lt_zero _)
  | succ fu ih =>
    intro k τ cells slots hfu hk hc hs hC hF H locs ls hR hS hl
    refine lv_iload_n hx hb dL_state_4 rfl (lv_at hl 0 rfl) ?_
    refine lv_bipush (v := 9) hx hb dL_state_5 (by decide) ?_
    refine lv_icmp_ge (tgt := 27) hx hb dL_state_7 (by decide) (fun cc9 => ?_) (fun cc9 => ?_)
    · have hk9 : k = 9 := by have := (nI_leI (a := 9) (b := k) (by omega) (by omega)).mp cc9; omega
      rw [hk9] at hl
      have hl := lv_sub (l' := [(2, .int (nI 9)), (1, .int (smA S.2.1 9)), (0, .ref x)]) hl [0, 1, 2] rfl
      exact kk τ _ _ H locs ls (by omega) (by omega) hC hF hR hS hl
    · have hk9 : k < 9 := Nat.lt_of_not_le (fun z => cc9 ((nI_leI (a := 9) (b := k) (by omega) (by omega)).mpr z))
      refine lv_bipush (v := 31) hx hb dL_state_10 (by decide) ?_
      refine lv_iload_n hx hb dL_state_12 rfl (lv_at hl 1 rfl) ?_
      refine lv_imul hx hb dL_state_13 ?_
      refine lv_aload_n hx hb dL_state_14 rfl (lv_at hl 2 rfl) ?_
      refine lv_iload_n hx hb dL_state_15 rfl (lv_at hl 0 rfl) ?_
      refine fx_call (vx_runV (As := [.int (nI k)]) (rest := [.int (31 * (smA S.2.1 k))]) ⟨hx, hb, hml, hown, hts⟩ (k_account G hL l hX0 τ x S hC (nI k) (acV S.2.1 k) (ac_rd S k hk9)) (cwV 1 hts gL_state_X10_account rfl rfl rfl (by decide +kernel) ⟨Nat.le_of_ble_eq_true rfl, Nat.le_of_ble_eq_true rfl⟩) (fw_preV hW hK hR hC.at0 rfl) rfl rfl hl.1 rfl (lv_room (Nat.le_of_ble_eq_true rfl)) dL_state_16 ⟨by show cells + 1 ≤ 2000; omega, by show slots + 6 ≤ 12000; omega⟩) hS (fun E ce q9 τ H locs hx_1 hR hS hce hcv hcl => hx_1.elim) (fun v_1 τ_1 H locs hq_1 hR hS => ?_)
      obtain ⟨rfl, hC, hF9⟩ := hq_1
      have hF := hF.trans hF9
      refine W.eq (g2 := F0 mI 19 ls [.int (acV S.2.1 k), .int (31 * (smA S.2.1 k))]) rfl ?_
      refine lv_iadd hx hb dL_state_19 ?_
      refine lv_istore_n (lv' := [(1, .int ((31 * (smA S.2.1 k)) + (acV S.2.1 k))), (2, .int (nI k)), (0, .ref x)]) hx hb dL_state_20 rfl hl (by decide) rfl (fun ls hl => ?_)
      refine lv_iinc (v := nI (k + 1)) (lv' := [(2, .int (nI (k + 1))), (1, .int ((31 * (smA S.2.1 k)) + (acV S.2.1 k))), (0, .ref x)]) hx hb dL_state_21 hl (k := 1) rfl (by rw [← nI_1]; rfl) (by decide) rfl (fun ls hl => ?_)
      refine lv_goto (tgt := 4) hx hb dL_state_24 (by decide) ?_
      have hl := lv_sub (l' := [(2, .int (nI (k + 1))), (1, .int (smA S.2.1 (k + 1))), (0, .ref x)]) hl [0, 1, 2] rfl
      exact ih (k + 1) τ_1 _ _ (by omega) (by omega) (by omega) (by omega) hC hF H locs ls hR hS hl
set_option maxHeartbeats 4000000 in
set_option maxRecDepth 100000 in
theorem st_T (C : SCx G l pP sS mI ar9 cD) {v : Int32} 
    (kk : ∀ (τ : FWd) (cells slots : Nat) (H : Heap) (locs : List Loc) (ls : Array Slot), cells ≤ 9 + 2 * (6) → slots ≤ 6 * (9 + 2 * (6)) → CI G τ.2 x S → FrX x ω.2 τ.2 → fR G τ H → va_S (fwA G) sS.heap H locs → lv_has ls 5 [(2, .int (nI 6)), (1, .int (smT S.2.1 v 6)), (0, .ref x)] → W pP l eE SRm sS mI ar9 bl9 meth cD H locs cells slots Q (F0 mI 61 ls [])) : ∀ (fu k : Nat) (τ : FWd) (cells slots : Nat), 6 - k < fu → k ≤ 6 → cells ≤ 9 + 2 * (k) → slots ≤ 6 * (9 + 2 * (k)) → CI G τ.2 x S → FrX x ω.2 τ.2 → ∀ (H : Heap) (locs : List Loc) (ls : Array Slot), fR G τ H → va_S (fwA G) sS.heap H locs → lv_has ls 5 [(2, .int (nI k)), (1, .int (smT S.2.1 v k)), (0, .ref x)] → W pP l eE SRm sS mI ar9 bl9 meth cD H locs cells slots Q (F0 mI 29 ls []) := by
  obtain ⟨hx, hb, hml, hown, hts, hW, hL, hX0⟩ := id C
  have hK := hL.K hW
  intro fu
  induction fu with
  | zero => intro k τ cells slots hfu; exact absurd hfu (Nat.not_lt_zero _)
  | succ fu ih =>
    intro k τ cells slots hfu hk hc hs hC hF H locs ls hR hS hl
    refine lv_iload_n hx hb dL_state_29 rfl (lv_at hl 0 rfl) ?_
    refine lv_bipush (v := 6) hx hb dL_state_30 (by decide) ?_
    refine lv_icmp_ge (tgt := 61) hx hb dL_state_32 (by decide) (fun cc9 => ?_) (fun cc9 => ?_)
    · have hk9 : k = 6 := by have := (nI_leI (a := 6) (b := k) (by omega) (by omega)).mp cc9; omega
      rw [hk9] at hl
      have hl := lv_sub (l' := [(2, .int (nI 6)), (1, .int (smT S.2.1 v 6)), (0, .ref x)]) hl [0, 1, 2] rfl
      exact kk τ _ _ H locs ls (by omega) (by omega) hC hF hR hS hl
    · have hk9 : k < 6 := Nat.lt_of_not_le (fun z => cc9 ((nI_leI (a := 6) (b := k) (by omega) (by omega)).mpr z))
      refine lv_bipush (v := 31) hx hb dL_state_35 (by decide) ?_
      refine lv_bipush (v := 31) hx hb dL_state_37 (by decide) ?_
      refine lv_iload_n hx hb dL_state_39 rfl (lv_at hl 1 rfl) ?_
      refine lv_imul hx hb dL_state_40 ?_
      refine lv_aload_n hx hb dL_state_41 rfl (lv_at hl 2 rfl) ?_
      refine lv_iload_n hx hb dL_state_42 rfl (lv_at hl 0 rfl) ?_
      refine fx_call (vx_runV (As := [.int (nI k)]) (rest := [.int (31 * (smT S.2.1 v k)), .int 31]) ⟨hx, hb, hml, hown, hts⟩ (k_tin G hL l hX0 τ x S hC (nI k) (S.2.1 (6 + k)) (ti_rd S k hk9)) (cwV 1 hts gL_state_X10_tin rfl rfl rfl (by decide +kernel) ⟨Nat.le_of_ble_eq_true rfl, Nat.le_of_ble_eq_true rfl⟩) (fw_preV hW hK hR hC.at0 rfl) rfl rfl hl.1 rfl (lv_room (Nat.le_of_ble_eq_true rfl)) dL_state_43 ⟨by show cells + 1 ≤ 2000; omega, by show slots + 6 ≤ 12000; omega⟩) hS (fun E ce q9 τ H locs hx_1 hR hS hce hcv hcl => hx_1.elim) (fun v_1 τ_1 H locs hq_1 hR hS => ?_)
      obtain ⟨rfl, hC, hF9⟩ := hq_1
      have hF := hF.trans hF9
      refine W.eq (g2 := F0 mI 46 ls [.int (S.2.1 (6 + k)), .int (31 * (smT S.2.1 v k)), .int 31]) rfl ?_
      refine lv_iadd hx hb dL_state_46 ?_
      refine lv_imul hx hb dL_state_47 ?_
      refine lv_aload_n hx hb dL_state_48 rfl (lv_at hl 2 rfl) ?_
      refine lv_iload_n hx hb dL_state_49 rfl (lv_at hl 0 rfl) ?_
      refine fx_call (vx_runV (As := [.int (nI k)]) (rest := [.int (31 * ((31 * (smT S.2.1 v k)) + (S.2.1 (6 + k))))]) ⟨hx, hb, hml, hown, hts⟩ (k_lost G hL l hX0 τ_1 x S hC (nI k) (S.2.1 (12 + k)) (lo_rd S k hk9)) (cwV 1 hts gL_state_X10_lost rfl rfl rfl (by decide +kernel) ⟨Nat.le_of_ble_eq_true rfl, Nat.le_of_ble_eq_true rfl⟩) (fw_preV hW hK hR hC.at0 rfl) rfl rfl hl.1 rfl (lv_room (Nat.le_of_ble_eq_true rfl)) dL_state_50 ⟨by show cells + 1 + 1 ≤ 2000; omega, by show slots + 6 + 6 ≤ 12000; omega⟩) hS (fun E ce q9 τ H locs hx_1 hR hS hce hcv hcl => hx_1.elim) (fun v_2 τ_2 H locs hq_2 hR hS => ?_)
      obtain ⟨rfl, hC, hF9⟩ := hq_2
      have hF := hF.trans hF9
      refine W.eq (g2 := F0 mI 53 ls [.int (S.2.1 (12 + k)), .int (31 * ((31 * (smT S.2.1 v k)) + (S.2.1 (6 + k))))]) rfl ?_
      refine lv_iadd hx hb dL_state_53 ?_
      refine lv_istore_n (lv' := [(1, .int ((31 * ((31 * (smT S.2.1 v k)) + (S.2.1 (6 + k)))) + (S.2.1 (12 + k)))), (2, .int (nI k)), (0, .ref x)]) hx hb dL_state_54 rfl hl (by decide) rfl (fun ls hl => ?_)
      refine lv_iinc (v := nI (k + 1)) (lv' := [(2, .int (nI (k + 1))), (1, .int ((31 * ((31 * (smT S.2.1 v k)) + (S.2.1 (6 + k)))) + (S.2.1 (12 + k)))), (0, .ref x)]) hx hb dL_state_55 hl (k := 1) rfl (by rw [← nI_1]; rfl) (by decide) rfl (fun ls hl => ?_)
      refine lv_goto (tgt := 29) hx hb dL_state_58 (by decide) ?_
      have hl := lv_sub (l' := [(2, .int (nI (k + 1))), (1, .int (smT S.2.1 v (k + 1))), (0, .ref x)]) hl [0, 1, 2] rfl
      exact ih (k + 1) τ_2 _ _ (by omega) (by omega) (by omega) (by omega) hC hF H locs ls hR hS hl
set_option maxHeartbeats 4000000 in
set_option maxRecDepth 100000 in
theorem st_F (C : SCx G l pP sS mI ar9 cD) {v : Int32} {j n : Nat} (h0 : S.2.1 0 = nI n) (hj : j < n) (hn : n ≤ 8)
    (kk : ∀ (τ : FWd) (cells slots : Nat) (H : Heap) (locs : List Loc) (ls : Array Slot), cells ≤ 22 + 150 * j + 2 * (5) → slots ≤ 6 * (22 + 150 * j + 2 * (5)) → CI G τ.2 x S → FrX x ω.2 τ.2 → fR G τ H → va_S (fwA G) sS.heap H locs → lv_has ls 5 [(3, .int (nI 5)), (2, .int (nI j)), (1, .int (smF S.2.1 j v 5)), (0, .ref x)] → W pP l eE SRm sS mI ar9 bl9 meth cD H locs cells slots Q (F0 mI 97 ls [])) : ∀ (fu k : Nat) (τ : FWd) (cells slots : Nat), 5 - k < fu → k ≤ 5 → cells ≤ 22 + 150 * j + 2 * (k) → slots ≤ 6 * (22 + 150 * j + 2 * (k)) → CI G τ.2 x S → FrX x ω.2 τ.2 → ∀ (H : Heap) (locs : List Loc) (ls : Array Slot), fR G τ H → va_S (fwA G) sS.heap H locs → lv_has ls 5 [(3, .int (nI k)), (2, .int (nI j)), (1, .int (smF S.2.1 j v k)), (0, .ref x)] → W pP l eE SRm sS mI ar9 bl9 meth cD H locs cells slots Q (F0 mI 74 ls []) := by
  obtain ⟨hx, hb, hml, hown, hts, hW, hL, hX0⟩ := id C
  have hK := hL.K hW
  intro fu
  induction fu with
  | zero => intro k τ cells slots hfu; exact absurd hfu (Nat.not_lt_zero _)
  | succ fu ih =>
    intro k τ cells slots hfu hk hc hs hC hF H locs ls hR hS hl
    refine lv_iload_n hx hb dL_state_74 rfl (lv_at hl 0 rfl) ?_
    refine lv_iconst (v := 5) hx hb dL_state_75 (by decide) ?_
    refine lv_icmp_ge (tgt := 97) hx hb dL_state_76 (by decide) (fun cc9 => ?_) (fun cc9 => ?_)
    · have hk9 : k = 5 := by have := (nI_leI (a := 5) (b := k) (by omega) (by omega)).mp cc9; omega
      rw [hk9] at hl
      have hl := lv_sub (l' := [(3, .int (nI 5)), (2, .int (nI j)), (1, .int (smF S.2.1 j v 5)), (0, .ref x)]) hl [0, 1, 2, 3] rfl
      exact kk τ _ _ H locs ls (by omega) (by omega) hC hF hR hS hl
    · have hk9 : k < 5 := Nat.lt_of_not_le (fun z => cc9 ((nI_leI (a := 5) (b := k) (by omega) (by omega)).mpr z))
      refine lv_bipush (v := 31) hx hb dL_state_79 (by decide) ?_
      refine lv_iload_n hx hb dL_state_81 rfl (lv_at hl 2 rfl) ?_
      refine lv_imul hx hb dL_state_82 ?_
      refine lv_aload_n hx hb dL_state_83 rfl (lv_at hl 3 rfl) ?_
      refine lv_iload_n hx hb dL_state_84 rfl (lv_at hl 1 rfl) ?_
      refine lv_iload_n hx hb dL_state_85 rfl (lv_at hl 0 rfl) ?_
      refine fx_call (vx_runV (As := [.int (nI j), .int (nI k)]) (rest := [.int (31 * (smF S.2.1 j v k))]) ⟨hx, hb, hml, hown, hts⟩ (k_leafletOf G hL l hX0 τ x S hC (nI j) (nI k) (lfV S.2.1 j k) (lf_rd S j n h0 hj hn k hk9)) (cwV 2 hts gL_state_X10_leafletOf rfl rfl rfl (by decide +kernel) ⟨Nat.le_of_ble_eq_true rfl, Nat.le_of_ble_eq_true rfl⟩) (fw_preV hW hK hR hC.at0 rfl) rfl rfl hl.1 rfl (lv_room (Nat.le_of_ble_eq_true rfl)) dL_state_86 ⟨by show cells + 2 ≤ 2000; omega, by show slots + 12 ≤ 12000; omega⟩) hS (fun E ce q9 τ H locs hx_1 hR hS hce hcv hcl => hx_1.elim) (fun v_1 τ_1 H locs hq_1 hR hS => ?_)
      obtain ⟨rfl, hC, hF9⟩ := hq_1
      have hF := hF.trans hF9
      refine W.eq (g2 := F0 mI 89 ls [.int (lfV S.2.1 j k), .int (31 * (smF S.2.1 j v k))]) rfl ?_
      refine lv_iadd hx hb dL_state_89 ?_
      refine lv_istore_n (lv' := [(1, .int ((31 * (smF S.2.1 j v k)) + (lfV S.2.1 j k))), (3, .int (nI k)), (2, .int (nI j)), (0, .ref x)]) hx hb dL_state_90 rfl hl (by decide) rfl (fun ls hl => ?_)
      refine lv_iinc (v := nI (k + 1)) (lv' := [(3, .int (nI (k + 1))), (1, .int ((31 * (smF S.2.1 j v k)) + (lfV S.2.1 j k))), (2, .int (nI j)), (0, .ref x)]) hx hb dL_state_91 hl (k := 1) rfl (by rw [← nI_1]; rfl) (by decide) rfl (fun ls hl => ?_)
      refine lv_goto (tgt := 74) hx hb dL_state_94 (by decide) ?_
      have hl := lv_sub (l' := [(3, .int (nI (k + 1))), (2, .int (nI j)), (1, .int (smF S.2.1 j v (k + 1))), (0, .ref x)]) hl [0, 2, 1, 3] rfl
      exact ih (k + 1) τ_1 _ _ (by omega) (by omega) (by omega) (by omega) hC hF H locs ls hR hS hl
set_option maxHeartbeats 4000000 in
set_option maxRecDepth 100000 in
theorem st_P (C : SCx G l pP sS mI ar9 cD) {v : Int32} {j i n m : Nat} (h0 : S.2.1 0 = nI n) (hj : j < n) (hn : n ≤ 8) (h1 : S.2.1 (18 + j) = nI m) (hi : i < m) (hm : m ≤ 8)
    (kk : ∀ (τ : FWd) (cells slots : Nat) (H : Heap) (locs : List Loc) (ls : Array Slot), cells ≤ 34 + 150 * j + 17 * i + 3 * (5) → slots ≤ 6 * (34 + 150 * j + 17 * i + 3 * (5)) → CI G τ.2 x S → FrX x ω.2 τ.2 → fR G τ H → va_S (fwA G) sS.heap H locs → lv_has ls 5 [(4, .int (nI 5)), (3, .int (nI i)), (2, .int (nI j)), (1, .int (smP S.2.1 j i v 5)), (0, .ref x)] → W pP l eE SRm sS mI ar9 bl9 meth cD H locs cells slots Q (F0 mI 138 ls [])) : ∀ (fu k : Nat) (τ : FWd) (cells slots : Nat), 5 - k < fu → k ≤ 5 → cells ≤ 34 + 150 * j + 17 * i + 3 * (k) → slots ≤ 6 * (34 + 150 * j + 17 * i + 3 * (k)) → CI G τ.2 x S → FrX x ω.2 τ.2 → ∀ (H : Heap) (locs : List Loc) (ls : Array Slot), fR G τ H → va_S (fwA G) sS.heap H locs → lv_has ls 5 [(4, .int (nI k)), (3, .int (nI i)), (2, .int (nI j)), (1, .int (smP S.2.1 j i v k)), (0, .ref x)] → W pP l eE SRm sS mI ar9 bl9 meth cD H locs cells slots Q (F0 mI 112 ls []) := by
  obtain ⟨hx, hb, hml, hown, hts, hW, hL, hX0⟩ := id C
  have hK := hL.K hW
  intro fu
  induction fu with
  | zero => intro k τ cells slots hfu; exact absurd hfu (Nat.not_lt_zero _)
  | succ fu ih =>
    intro k τ cells slots hfu hk hc hs hC hF H locs ls hR hS hl
    refine lv_iload hx hb dL_state_112 (lv_at hl 0 rfl) ?_
    refine lv_iconst (v := 5) hx hb dL_state_114 (by decide) ?_
    refine lv_icmp_ge (tgt := 138) hx hb dL_state_115 (by decide) (fun cc9 => ?_) (fun cc9 => ?_)
    · have hk9 : k = 5 := by have := (nI_leI (a := 5) (b := k) (by omega) (by omega)).mp cc9; omega
      rw [hk9] at hl
      have hl := lv_sub (l' := [(4, .int (nI 5)), (3, .int (nI i)), (2, .int (nI j)), (1, .int (smP S.2.1 j i v 5)), (0, .ref x)]) hl [0, 1, 2, 3, 4] rfl
      exact kk τ _ _ H locs ls (by omega) (by omega) hC hF hR hS hl
    · have hk9 : k < 5 := Nat.lt_of_not_le (fun z => cc9 ((nI_leI (a := 5) (b := k) (by omega) (by omega)).mpr z))
      refine lv_bipush (v := 31) hx hb dL_state_118 (by decide) ?_
      refine lv_iload_n hx hb dL_state_120 rfl (lv_at hl 3 rfl) ?_
      refine lv_imul hx hb dL_state_121 ?_
      refine lv_aload_n hx hb dL_state_122 rfl (lv_at hl 4 rfl) ?_
      refine lv_iload_n hx hb dL_state_123 rfl (lv_at hl 2 rfl) ?_
      refine lv_iload_n hx hb dL_state_124 rfl (lv_at hl 1 rfl) ?_
      refine lv_iload hx hb dL_state_125 (lv_at hl 0 rfl) ?_
      refine fx_call (vx_runV (As := [.int (nI j), .int (nI i), .int (nI k)]) (rest := [.int (31 * (smP S.2.1 j i v k))]) ⟨hx, hb, hml, hown, hts⟩ (k_stepOf G hL l hX0 τ x S hC (nI j) (nI i) (nI k) (spV S.2.1 j i k) (sp_rd S j i n m h0 hj hn h1 hi hm k hk9)) (cwV 3 hts gL_state_X10_stepOf rfl rfl rfl (by decide +kernel) ⟨Nat.le_of_ble_eq_true rfl, Nat.le_of_ble_eq_true rfl⟩) (fw_preV hW hK hR hC.at0 rfl) rfl rfl hl.1 rfl (lv_room (Nat.le_of_ble_eq_true rfl)) dL_state_127 ⟨by show cells + 3 ≤ 2000; omega, by show slots + 18 ≤ 12000; omega⟩) hS (fun E ce q9 τ H locs hx_1 hR hS hce hcv hcl => hx_1.elim) (fun v_1 τ_1 H locs hq_1 hR hS => ?_)
      obtain ⟨rfl, hC, hF9⟩ := hq_1
      have hF := hF.trans hF9
      refine W.eq (g2 := F0 mI 130 ls [.int (spV S.2.1 j i k), .int (31 * (smP S.2.1 j i v k))]) rfl ?_
      refine lv_iadd hx hb dL_state_130 ?_
      refine lv_istore_n (lv' := [(1, .int ((31 * (smP S.2.1 j i v k)) + (spV S.2.1 j i k))), (4, .int (nI k)), (3, .int (nI i)), (2, .int (nI j)), (0, .ref x)]) hx hb dL_state_131 rfl hl (by decide) rfl (fun ls hl => ?_)
      refine lv_iinc (v := nI (k + 1)) (lv' := [(4, .int (nI (k + 1))), (1, .int ((31 * (smP S.2.1 j i v k)) + (spV S.2.1 j i k))), (3, .int (nI i)), (2, .int (nI j)), (0, .ref x)]) hx hb dL_state_132 hl (k := 1) rfl (by rw [← nI_1]; rfl) (by decide) rfl (fun ls hl => ?_)
      refine lv_goto (tgt := 112) hx hb dL_state_135 (by decide) ?_
      have hl := lv_sub (l' := [(4, .int (nI (k + 1))), (3, .int (nI i)), (2, .int (nI j)), (1, .int (smP S.2.1 j i v (k + 1))), (0, .ref x)]) hl [0, 2, 3, 1, 4] rfl
      exact ih (k + 1) τ_1 _ _ (by omega) (by omega) (by omega) (by omega) hC hF H locs ls hR hS hl
set_option maxHeartbeats 4000000 in
set_option maxRecDepth 100000 in
theorem st_S (C : SCx G l pP sS mI ar9 cD) {v : Int32} {j n m : Nat} (h0 : S.2.1 0 = nI n) (hj : j < n) (hn : n ≤ 8) (h1 : S.2.1 (18 + j) = nI m) (hm : m ≤ 8)
    (kk : ∀ (τ : FWd) (cells slots : Nat) (H : Heap) (locs : List Loc) (ls : Array Slot), cells ≤ 34 + 150 * j + 17 * m → slots ≤ 6 * (34 + 150 * j + 17 * m) → CI G τ.2 x S → FrX x ω.2 τ.2 → fR G τ H → va_S (fwA G) sS.heap H locs → lv_has ls 5 [(3, .int (nI m)), (2, .int (nI j)), (1, .int (smS S.2.1 j v m)), (0, .ref x)] → W pP l eE SRm sS mI ar9 bl9 meth cD H locs cells slots Q (F0 mI 144 ls [])) : ∀ (fu i : Nat) (τ : FWd) (cells slots : Nat), m - i < fu → i ≤ m → cells ≤ 32 + 150 * j + 17 * (i) → slots ≤ 6 * (32 + 150 * j + 17 * (i)) → CI G τ.2 x S → FrX x ω.2 τ.2 → ∀ (H : Heap) (locs : List Loc) (ls : Array Slot), fR G τ H → va_S (fwA G) sS.heap H locs → lv_has ls 5 [(3, .int (nI i)), (2, .int (nI j)), (1, .int (smS S.2.1 j v i)), (0, .ref x)] → W pP l eE SRm sS mI ar9 bl9 meth cD H locs cells slots Q (F0 mI 99 ls []) := by
  obtain ⟨hx, hb, hml, hown, hts, hW, hL, hX0⟩ := id C
  have hK := hL.K hW
  intro fu
  induction fu with
  | zero => intro i τ cells slots hfu; exact absurd hfu (Nat.not_lt_zero _)
  | succ fu ih =>
    intro i τ cells slots hfu hk hc hs hC hF H locs ls hR hS hl
    refine lv_iload_n hx hb dL_state_99 rfl (lv_at hl 0 rfl) ?_
    refine lv_aload_n hx hb dL_state_100 rfl (lv_at hl 3 rfl) ?_
    refine lv_iload_n hx hb dL_state_101 rfl (lv_at hl 1 rfl) ?_
    refine lv_iconst (v := 0) hx hb dL_state_102 (by decide) ?_
    refine fx_call (vx_runV (As := [.int (nI j), .int 0]) (rest := [.int (nI i)]) ⟨hx, hb, hml, hown, hts⟩ (k_leafletOf G hL l hX0 τ x S hC (nI j) 0 (lfV S.2.1 j 0) (lf_rd S j n h0 hj hn 0 (by decide))) (cwV 2 hts gL_state_X10_leafletOf rfl rfl rfl (by decide +kernel) ⟨Nat.le_of_ble_eq_true rfl, Nat.le_of_ble_eq_true rfl⟩) (fw_preV hW hK hR hC.at0 rfl) rfl rfl hl.1 rfl (lv_room (Nat.le_of_ble_eq_true rfl)) dL_state_103 ⟨by show cells + 2 ≤ 2000; omega, by show slots + 12 ≤ 12000; omega⟩) hS (fun E ce q9 τ H locs hx_1 hR hS hce hcv hcl => hx_1.elim) (fun v_1 τ_1 H locs hq_1 hR hS => ?_)
    obtain ⟨rfl, hC, hF9⟩ := hq_1
    have hF := hF.trans hF9
    refine W.eq (g2 := F0 mI 106 ls [.int (lfV S.2.1 j 0), .int (nI i)]) rfl ?_
    refine W.eq (g2 := F0 mI 106 ls [.int (nI m), .int (nI i)]) (by rw [show lfV S.2.1 j 0 = nI m from h1]) ?_
    refine lv_icmp_ge (tgt := 144) hx hb dL_state_106 (by decide) (fun cc9 => ?_) (fun cc9 => ?_)
    · have hk9 : i = m := by have := (nI_leI (a := m) (b := i) (by omega) (by omega)).mp cc9; omega
      rw [hk9] at hl
      have hl := lv_sub (l' := [(3, .int (nI m)), (2, .int (nI j)), (1, .int (smS S.2.1 j v m)), (0, .ref x)]) hl [0, 1, 2, 3] rfl
      exact kk τ_1 _ _ H locs ls (by omega) (by omega) hC hF hR hS hl
    · have hk9 : i < m := Nat.lt_of_not_le (fun z => cc9 ((nI_leI (a := m) (b := i) (by omega) (by omega)).mpr z))
      refine lv_iconst (v := 0) hx hb dL_state_109 (by decide) ?_
      refine lv_istore (lv' := [(4, .int 0), (3, .int (nI i)), (2, .int (nI j)), (1, .int (smS S.2.1 j v i)), (0, .ref x)]) hx hb dL_state_110 hl (by decide) rfl (fun ls hl => ?_)
      have hl := lv_sub (l' := [(4, .int (nI 0)), (3, .int (nI i)), (2, .int (nI j)), (1, .int (smP S.2.1 j i (smS S.2.1 j v i) 0)), (0, .ref x)]) hl [0, 1, 2, 3, 4] rfl
      refine st_P (v := smS S.2.1 j v i) C h0 hj hn h1 hk9 hm (fun τ9 cells9 slots9 H locs ls hc9 hs9 hC hF hR hS hl => ?_) _ 0 τ_1 _ _ (Nat.lt_succ_self _) (Nat.zero_le _) (by omega) (by omega) hC hF H locs ls hR hS hl
      refine lv_iinc (v := nI (i + 1)) (lv' := [(3, .int (nI (i + 1))), (4, .int (nI 5)), (2, .int (nI j)), (1, .int (smP S.2.1 j i (smS S.2.1 j v i) 5)), (0, .ref x)]) hx hb dL_state_138 hl (k := 1) rfl (by rw [← nI_1]; rfl) (by decide) rfl (fun ls hl => ?_)
      refine lv_goto (tgt := 99) hx hb dL_state_141 (by decide) ?_
      have hl := lv_sub (l' := [(3, .int (nI (i + 1))), (2, .int (nI j)), (1, .int (smS S.2.1 j v (i + 1))), (0, .ref x)]) hl [0, 2, 3, 4] rfl
      exact ih (i + 1) τ9 _ _ (by omega) (by omega) (by omega) (by omega) hC hF H locs ls hR hS hl
set_option maxHeartbeats 4000000 in
set_option maxRecDepth 100000 in
theorem st_L (C : SCx G l pP sS mI ar9 cD) {v : Int32} {n : Nat} (h0 : S.2.1 0 = nI n) (hn : n ≤ 8) (hsp : ∀ j, j < n → okN (S.2.1 (18 + j)) 8)
    (kk : ∀ (τ : FWd) (cells slots : Nat) (H : Heap) (locs : List Loc) (ls : Array Slot), cells ≤ 22 + 150 * n → slots ≤ 6 * (22 + 150 * n) → CI G τ.2 x S → FrX x ω.2 τ.2 → fR G τ H → va_S (fwA G) sS.heap H locs → lv_has ls 5 [(2, .int (nI n)), (1, .int (smL S.2.1 v n)), (0, .ref x)] → W pP l eE SRm sS mI ar9 bl9 meth cD H locs cells slots Q (F0 mI 150 ls [])) : ∀ (fu j : Nat) (τ : FWd) (cells slots : Nat), n - j < fu → j ≤ n → cells ≤ 21 + 150 * (j) → slots ≤ 6 * (21 + 150 * (j)) → CI G τ.2 x S → FrX x ω.2 τ.2 → ∀ (H : Heap) (locs : List Loc) (ls : Array Slot), fR G τ H → va_S (fwA G) sS.heap H locs → lv_has ls 5 [(2, .int (nI j)), (1, .int (smL S.2.1 v j)), (0, .ref x)] → W pP l eE SRm sS mI ar9 bl9 meth cD H locs cells slots Q (F0 mI 63 ls []) := by
  obtain ⟨hx, hb, hml, hown, hts, hW, hL, hX0⟩ := id C
  have hK := hL.K hW
  intro fu
  induction fu with
  | zero => intro j τ cells slots hfu; exact absurd hfu (Nat.not_lt_zero _)
  | succ fu ih =>
    intro j τ cells slots hfu hk hc hs hC hF H locs ls hR hS hl
    refine lv_iload_n hx hb dL_state_63 rfl (lv_at hl 0 rfl) ?_
    refine lv_aload_n hx hb dL_state_64 rfl (lv_at hl 2 rfl) ?_
    refine lv_iconst (v := 0) hx hb dL_state_65 (by decide) ?_
    refine fx_call (vx_runV (As := [.int 0]) (rest := [.int (nI j)]) ⟨hx, hb, hml, hown, hts⟩ (k_account G hL l hX0 τ x S hC 0 (acV S.2.1 0) (ac_rd S 0 (by decide))) (cwV 1 hts gL_state_X10_account rfl rfl rfl (by decide +kernel) ⟨Nat.le_of_ble_eq_true rfl, Nat.le_of_ble_eq_true rfl⟩) (fw_preV hW hK hR hC.at0 rfl) rfl rfl hl.1 rfl (lv_room (Nat.le_of_ble_eq_true rfl)) dL_state_66 ⟨by show cells + 1 ≤ 2000; omega, by show slots + 6 ≤ 12000; omega⟩) hS (fun E ce q9 τ H locs hx_1 hR hS hce hcv hcl => hx_1.elim) (fun v_1 τ_1 H locs hq_1 hR hS => ?_)
    obtain ⟨rfl, hC, hF9⟩ := hq_1
    have hF := hF.trans hF9
    refine W.eq (g2 := F0 mI 69 ls [.int (acV S.2.1 0), .int (nI j)]) rfl ?_
    refine W.eq (g2 := F0 mI 69 ls [.int (nI n), .int (nI j)]) (by rw [show acV S.2.1 0 = nI n from h0]) ?_
    refine lv_icmp_ge (tgt := 150) hx hb dL_state_69 (by decide) (fun cc9 => ?_) (fun cc9 => ?_)
    · have hk9 : j = n := by have := (nI_leI (a := n) (b := j) (by omega) (by omega)).mp cc9; omega
      rw [hk9] at hl
      have hl := lv_sub (l' := [(2, .int (nI n)), (1, .int (smL S.2.1 v n)), (0, .ref x)]) hl [0, 1, 2] rfl
      exact kk τ_1 _ _ H locs ls (by omega) (by omega) hC hF hR hS hl
    · have hk9 : j < n := Nat.lt_of_not_le (fun z => cc9 ((nI_leI (a := n) (b := j) (by omega) (by omega)).mpr z))
      obtain ⟨m, hm, h1, hm2⟩ := okN_of (hsp j hk9)
      refine lv_iconst (v := 0) hx hb dL_state_72 (by decide) ?_
      refine lv_istore_n (lv' := [(3, .int 0), (2, .int (nI j)), (1, .int (smL S.2.1 v j)), (0, .ref x)]) hx hb dL_state_73 rfl hl (by decide) rfl (fun ls hl => ?_)
      have hl := lv_sub (l' := [(3, .int (nI 0)), (2, .int (nI j)), (1, .int (smF S.2.1 j (smL S.2.1 v j) 0)), (0, .ref x)]) hl [0, 1, 2, 3] rfl
      refine st_F (v := smL S.2.1 v j) C h0 hk9 hn (fun τ8 cells8 slots8 H locs ls hc8 hs8 hC hF hR hS hl => ?_) _ 0 τ_1 _ _ (Nat.lt_succ_self _) (Nat.zero_le _) (by omega) (by omega) hC hF H locs ls hR hS hl
      refine lv_iconst (v := 0) hx hb dL_state_97 (by decide) ?_
      refine lv_istore_n (lv' := [(3, .int 0), (2, .int (nI j)), (1, .int (smF S.2.1 j (smL S.2.1 v j) 5)), (0, .ref x)]) hx hb dL_state_98 rfl hl (by decide) rfl (fun ls hl => ?_)
      have hl := lv_sub (l' := [(3, .int (nI 0)), (2, .int (nI j)), (1, .int (smS S.2.1 j (smF S.2.1 j (smL S.2.1 v j) 5) 0)), (0, .ref x)]) hl [0, 1, 2, 3] rfl
      refine st_S (v := smF S.2.1 j (smL S.2.1 v j) 5) C h0 hk9 hn h1 hm (fun τ7 cells7 slots7 H locs ls hc7 hs7 hC hF hR hS hl => ?_) _ 0 τ8 _ _ (Nat.lt_succ_self _) (Nat.zero_le _) (by omega) (by omega) hC hF H locs ls hR hS hl
      rw [show smS S.2.1 j (smF S.2.1 j (smL S.2.1 v j) 5) m = smL S.2.1 v (j + 1) by rw [smL, hm2]] at hl
      refine lv_iinc (v := nI (j + 1)) (lv' := [(2, .int (nI (j + 1))), (3, .int (nI m)), (1, .int (smL S.2.1 v (j + 1))), (0, .ref x)]) hx hb dL_state_144 hl (k := 1) rfl (by rw [← nI_1]; rfl) (by decide) rfl (fun ls hl => ?_)
      refine lv_goto (tgt := 63) hx hb dL_state_147 (by decide) ?_
      have hl := lv_sub (l' := [(2, .int (nI (j + 1))), (1, .int (smL S.2.1 v (j + 1))), (0, .ref x)]) hl [0, 2, 3] rfl
      exact ih (j + 1) τ7 _ _ (by omega) (by omega) (by omega) (by omega) hC hF H locs ls hR hS hl
set_option maxHeartbeats 4000000 in
set_option maxRecDepth 100000 in
theorem st_K (C : SCx G l pP sS mI ar9 cD) {v : Int32} {c n : Nat} (h1 : S.2.1 1 = nI n) (hc9 : c < n) (hn : n ≤ 5)
    (kk : ∀ (τ : FWd) (cells slots : Nat) (H : Heap) (locs : List Loc) (ls : Array Slot), cells ≤ 1223 + 5 * c + 2 * (2) → slots ≤ 6 * (1223 + 5 * c + 2 * (2)) → CI G τ.2 x S → FrX x ω.2 τ.2 → fR G τ H → va_S (fwA G) sS.heap H locs → lv_has ls 5 [(3, .int (nI 2)), (2, .int (nI c)), (1, .int (smK S.2.1 c v 2)), (0, .ref x)] → W pP l eE SRm sS mI ar9 bl9 meth cD H locs cells slots Q (F0 mI 186 ls [])) : ∀ (fu k : Nat) (τ : FWd) (cells slots : Nat), 2 - k < fu → k ≤ 2 → cells ≤ 1223 + 5 * c + 2 * (k) → slots ≤ 6 * (1223 + 5 * c + 2 * (k)) → CI G τ.2 x S → FrX x ω.2 τ.2 → ∀ (H : Heap) (locs : List Loc) (ls : Array Slot), fR G τ H → va_S (fwA G) sS.heap H locs → lv_has ls 5 [(3, .int (nI k)), (2, .int (nI c)), (1, .int (smK S.2.1 c v k)), (0, .ref x)] → W pP l eE SRm sS mI ar9 bl9 meth cD H locs cells slots Q (F0 mI 163 ls []) := by
  obtain ⟨hx, hb, hml, hown, hts, hW, hL, hX0⟩ := id C
  have hK := hL.K hW
  intro fu
  induction fu with
  | zero => intro k τ cells slots hfu; exact absurd hfu (Nat.not_lt_zero _)
  | succ fu ih =>
    intro k τ cells slots hfu hk hc hs hC hF H locs ls hR hS hl
    refine lv_iload_n hx hb dL_state_163 rfl (lv_at hl 0 rfl) ?_
    refine lv_iconst (v := 2) hx hb dL_state_164 (by decide) ?_
    refine lv_icmp_ge (tgt := 186) hx hb dL_state_165 (by decide) (fun cc9 => ?_) (fun cc9 => ?_)
    · have hk9 : k = 2 := by have := (nI_leI (a := 2) (b := k) (by omega) (by omega)).mp cc9; omega
      rw [hk9] at hl
      have hl := lv_sub (l' := [(3, .int (nI 2)), (2, .int (nI c)), (1, .int (smK S.2.1 c v 2)), (0, .ref x)]) hl [0, 1, 2, 3] rfl
      exact kk τ _ _ H locs ls (by omega) (by omega) hC hF hR hS hl
    · have hk9 : k < 2 := Nat.lt_of_not_le (fun z => cc9 ((nI_leI (a := 2) (b := k) (by omega) (by omega)).mpr z))
      refine lv_bipush (v := 31) hx hb dL_state_168 (by decide) ?_
      refine lv_iload_n hx hb dL_state_170 rfl (lv_at hl 2 rfl) ?_
      refine lv_imul hx hb dL_state_171 ?_
      refine lv_aload_n hx hb dL_state_172 rfl (lv_at hl 3 rfl) ?_
      refine lv_iload_n hx hb dL_state_173 rfl (lv_at hl 1 rfl) ?_
      refine lv_iload_n hx hb dL_state_174 rfl (lv_at hl 0 rfl) ?_
      refine fx_call (vx_runV (As := [.int (nI c), .int (nI k)]) (rest := [.int (31 * (smK S.2.1 c v k))]) ⟨hx, hb, hml, hown, hts⟩ (k_cousinOf G hL l hX0 τ x S hC (nI c) (nI k) (coV S.2.1 c k) (co_rd S c n h1 hc9 hn k hk9)) (cwV 2 hts gL_state_X10_cousinOf rfl rfl rfl (by decide +kernel) ⟨Nat.le_of_ble_eq_true rfl, Nat.le_of_ble_eq_true rfl⟩) (fw_preV hW hK hR hC.at0 rfl) rfl rfl hl.1 rfl (lv_room (Nat.le_of_ble_eq_true rfl)) dL_state_175 ⟨by show cells + 2 ≤ 2000; omega, by show slots + 12 ≤ 12000; omega⟩) hS (fun E ce q9 τ H locs hx_1 hR hS hce hcv hcl => hx_1.elim) (fun v_1 τ_1 H locs hq_1 hR hS => ?_)
      obtain ⟨rfl, hC, hF9⟩ := hq_1
      have hF := hF.trans hF9
      refine W.eq (g2 := F0 mI 178 ls [.int (coV S.2.1 c k), .int (31 * (smK S.2.1 c v k))]) rfl ?_
      refine lv_iadd hx hb dL_state_178 ?_
      refine lv_istore_n (lv' := [(1, .int ((31 * (smK S.2.1 c v k)) + (coV S.2.1 c k))), (3, .int (nI k)), (2, .int (nI c)), (0, .ref x)]) hx hb dL_state_179 rfl hl (by decide) rfl (fun ls hl => ?_)
      refine lv_iinc (v := nI (k + 1)) (lv' := [(3, .int (nI (k + 1))), (1, .int ((31 * (smK S.2.1 c v k)) + (coV S.2.1 c k))), (2, .int (nI c)), (0, .ref x)]) hx hb dL_state_180 hl (k := 1) rfl (by rw [← nI_1]; rfl) (by decide) rfl (fun ls hl => ?_)
      refine lv_goto (tgt := 163) hx hb dL_state_183 (by decide) ?_
      have hl := lv_sub (l' := [(3, .int (nI (k + 1))), (2, .int (nI c)), (1, .int (smK S.2.1 c v (k + 1))), (0, .ref x)]) hl [0, 2, 1, 3] rfl
      exact ih (k + 1) τ_1 _ _ (by omega) (by omega) (by omega) (by omega) hC hF H locs ls hR hS hl
set_option maxHeartbeats 4000000 in
set_option maxRecDepth 100000 in
theorem st_C (C : SCx G l pP sS mI ar9 cD) {v : Int32} {n : Nat} (h1 : S.2.1 1 = nI n) (hn : n ≤ 5)
    (kk : ∀ (τ : FWd) (cells slots : Nat) (H : Heap) (locs : List Loc) (ls : Array Slot), cells ≤ 1223 + 5 * n → slots ≤ 6 * (1223 + 5 * n) → CI G τ.2 x S → FrX x ω.2 τ.2 → fR G τ H → va_S (fwA G) sS.heap H locs → lv_has ls 5 [(2, .int (nI n)), (1, .int (smC S.2.1 v n)), (0, .ref x)] → W pP l eE SRm sS mI ar9 bl9 meth cD H locs cells slots Q (F0 mI 192 ls [])) : ∀ (fu c : Nat) (τ : FWd) (cells slots : Nat), n - c < fu → c ≤ n → cells ≤ 1222 + 5 * (c) → slots ≤ 6 * (1222 + 5 * (c)) → CI G τ.2 x S → FrX x ω.2 τ.2 → ∀ (H : Heap) (locs : List Loc) (ls : Array Slot), fR G τ H → va_S (fwA G) sS.heap H locs → lv_has ls 5 [(2, .int (nI c)), (1, .int (smC S.2.1 v c)), (0, .ref x)] → W pP l eE SRm sS mI ar9 bl9 meth cD H locs cells slots Q (F0 mI 152 ls []) := by
  obtain ⟨hx, hb, hml, hown, hts, hW, hL, hX0⟩ := id C
  have hK := hL.K hW
  intro fu
  induction fu with
  | zero => intro c τ cells slots hfu; exact absurd hfu (Nat.not_lt_zero _)
  | succ fu ih =>
    intro c τ cells slots hfu hk hc hs hC hF H locs ls hR hS hl
    refine lv_iload_n hx hb dL_state_152 rfl (lv_at hl 0 rfl) ?_
    refine lv_aload_n hx hb dL_state_153 rfl (lv_at hl 2 rfl) ?_
    refine lv_iconst (v := 1) hx hb dL_state_154 (by decide) ?_
    refine fx_call (vx_runV (As := [.int 1]) (rest := [.int (nI c)]) ⟨hx, hb, hml, hown, hts⟩ (k_account G hL l hX0 τ x S hC 1 (acV S.2.1 1) (ac_rd S 1 (by decide))) (cwV 1 hts gL_state_X10_account rfl rfl rfl (by decide +kernel) ⟨Nat.le_of_ble_eq_true rfl, Nat.le_of_ble_eq_true rfl⟩) (fw_preV hW hK hR hC.at0 rfl) rfl rfl hl.1 rfl (lv_room (Nat.le_of_ble_eq_true rfl)) dL_state_155 ⟨by show cells + 1 ≤ 2000; omega, by show slots + 6 ≤ 12000; omega⟩) hS (fun E ce q9 τ H locs hx_1 hR hS hce hcv hcl => hx_1.elim) (fun v_1 τ_1 H locs hq_1 hR hS => ?_)
    obtain ⟨rfl, hC, hF9⟩ := hq_1
    have hF := hF.trans hF9
    refine W.eq (g2 := F0 mI 158 ls [.int (acV S.2.1 1), .int (nI c)]) rfl ?_
    refine W.eq (g2 := F0 mI 158 ls [.int (nI n), .int (nI c)]) (by rw [show acV S.2.1 1 = nI n from h1]) ?_
    refine lv_icmp_ge (tgt := 192) hx hb dL_state_158 (by decide) (fun cc9 => ?_) (fun cc9 => ?_)
    · have hk9 : c = n := by have := (nI_leI (a := n) (b := c) (by omega) (by omega)).mp cc9; omega
      rw [hk9] at hl
      have hl := lv_sub (l' := [(2, .int (nI n)), (1, .int (smC S.2.1 v n)), (0, .ref x)]) hl [0, 1, 2] rfl
      exact kk τ_1 _ _ H locs ls (by omega) (by omega) hC hF hR hS hl
    · have hk9 : c < n := Nat.lt_of_not_le (fun z => cc9 ((nI_leI (a := n) (b := c) (by omega) (by omega)).mpr z))
      refine lv_iconst (v := 0) hx hb dL_state_161 (by decide) ?_
      refine lv_istore_n (lv' := [(3, .int 0), (2, .int (nI c)), (1, .int (smC S.2.1 v c)), (0, .ref x)]) hx hb dL_state_162 rfl hl (by decide) rfl (fun ls hl => ?_)
      have hl := lv_sub (l' := [(3, .int (nI 0)), (2, .int (nI c)), (1, .int (smK S.2.1 c (smC S.2.1 v c) 0)), (0, .ref x)]) hl [0, 1, 2, 3] rfl
      refine st_K (v := smC S.2.1 v c) C h1 hk9 hn (fun τ8 cells8 slots8 H locs ls hc8 hs8 hC hF hR hS hl => ?_) _ 0 τ_1 _ _ (Nat.lt_succ_self _) (Nat.zero_le _) (by omega) (by omega) hC hF H locs ls hR hS hl
      refine lv_iinc (v := nI (c + 1)) (lv' := [(2, .int (nI (c + 1))), (3, .int (nI 2)), (1, .int (smK S.2.1 c (smC S.2.1 v c) 2)), (0, .ref x)]) hx hb dL_state_186 hl (k := 1) rfl (by rw [← nI_1]; rfl) (by decide) rfl (fun ls hl => ?_)
      refine lv_goto (tgt := 152) hx hb dL_state_189 (by decide) ?_
      have hl := lv_sub (l' := [(2, .int (nI (c + 1))), (1, .int (smC S.2.1 v (c + 1))), (0, .ref x)]) hl [0, 2, 3] rfl
      exact ih (c + 1) τ8 _ _ (by omega) (by omega) (by omega) (by omega) hC hF H locs ls hR hS hl
end STZ
set_option maxHeartbeats 4000000 in
set_option maxRecDepth 100000 in
theorem h_state (G : FG) (hL : FL G) (l : Launch) (hX0 : FX0 G l) (ω : FWd) (x : Nat) (S : StZ) (h : CI G ω.2 x S) : FMet G l yL_state wsL_state SRm [.ref x] ω (RQ G x ω (.int (stM S.2.1)) S) 2000 12000 := by
  refine fw_ofW (cc := cL_state) (maxL := 5) (ret := some .int) (by decide) rfl (Nat.le_of_ble_eq_true rfl) ?_
  intro pP eE sS mI ar9 bl9 meth cD ls hx hb hr hlocks hml hts hown hnm hW hR hl
  have hS : va_S (fwA G) sS.heap sS.heap [] := va_S.rf
  have C : SCx G l pP sS mI ar9 cD := ⟨hx, hb, hml, hown, hts, hW, hL, hX0⟩
  obtain ⟨hwf, -⟩ := h.wf
  obtain ⟨n, hn, h0, hn2⟩ := okN_of hwf.1.1.1
  obtain ⟨n1, hn1, h1, hn3⟩ := okN_of hwf.1.1.2.1
  have hsp : ∀ j, j < n → okN (S.2.1 (18 + j)) 8 := fun j hj => (hwf.1.1.2.2 j (by rw [hn2]; exact hj)).1
  have hl : lv_has ls 5 [(0, .ref x)] := hl
  refine lv_iconst (v := 0) hx hb dL_state_0 (by decide) ?_
  refine lv_istore_n (lv' := [(1, .int 0), (0, .ref x)]) hx hb dL_state_1 rfl hl (by decide) rfl (fun ls hl => ?_)
  refine lv_iconst (v := 0) hx hb dL_state_2 (by decide) ?_
  refine lv_istore_n (lv' := [(2, .int 0), (1, .int 0), (0, .ref x)]) hx hb dL_state_3 rfl hl (by decide) rfl (fun ls hl => ?_)
  have hl := lv_sub (l' := [(2, .int (nI 0)), (1, .int (smA S.2.1 0)), (0, .ref x)]) hl [0, 1, 2] rfl
  refine st_A C  (fun τ1 c1 s1 H locs ls hc1 hs1 hC hF hR hS hl => ?_) _ 0 ω 0 0 (Nat.lt_succ_self _) (Nat.zero_le _) (Nat.le_refl _) (Nat.le_refl _) h FrX.rf _ _ _ hR hS hl
  refine lv_iconst (v := 0) hx hb dL_state_27 (by decide) ?_
  refine lv_istore_n (lv' := [(2, .int 0), (1, .int (smA S.2.1 9)), (0, .ref x)]) hx hb dL_state_28 rfl hl (by decide) rfl (fun ls hl => ?_)
  have hl := lv_sub (l' := [(2, .int (nI 0)), (1, .int (smT S.2.1 (smA S.2.1 9) 0)), (0, .ref x)]) hl [0, 1, 2] rfl
  refine st_T C  (fun τ2 c2 s2 H locs ls hc2 hs2 hC hF hR hS hl => ?_) _ 0 τ1 _ _ (Nat.lt_succ_self _) (Nat.zero_le _) (by omega) (by omega) hC hF _ _ _ hR hS hl
  refine lv_iconst (v := 0) hx hb dL_state_61 (by decide) ?_
  refine lv_istore_n (lv' := [(2, .int 0), (1, .int (smT S.2.1 (smA S.2.1 9) 6)), (0, .ref x)]) hx hb dL_state_62 rfl hl (by decide) rfl (fun ls hl => ?_)
  have hl := lv_sub (l' := [(2, .int (nI 0)), (1, .int (smL S.2.1 (smT S.2.1 (smA S.2.1 9) 6) 0)), (0, .ref x)]) hl [0, 1, 2] rfl
  refine st_L C h0 hn hsp (fun τ3 c3 s3 H locs ls hc3 hs3 hC hF hR hS hl => ?_) _ 0 τ2 _ _ (Nat.lt_succ_self _) (Nat.zero_le _) (by omega) (by omega) hC hF _ _ _ hR hS hl
  refine lv_iconst (v := 0) hx hb dL_state_150 (by decide) ?_
  refine lv_istore_n (lv' := [(2, .int 0), (1, .int (smL S.2.1 (smT S.2.1 (smA S.2.1 9) 6) n)), (0, .ref x)]) hx hb dL_state_151 rfl hl (by decide) rfl (fun ls hl => ?_)
  have hl := lv_sub (l' := [(2, .int (nI 0)), (1, .int (smC S.2.1 (smL S.2.1 (smT S.2.1 (smA S.2.1 9) 6) n) 0)), (0, .ref x)]) hl [0, 1, 2] rfl
  refine st_C C h1 hn1 (fun τ4 c4 s4 H locs ls hc4 hs4 hC hF hR hS hl => ?_) _ 0 τ3 _ _ (Nat.lt_succ_self _) (Nat.zero_le _) (by omega) (by omega) hC hF _ _ _ hR hS hl
  refine lv_iload_n hx hb dL_state_192 rfl (lv_at hl 1 rfl) ?_
  have e9 : smC S.2.1 (smL S.2.1 (smT S.2.1 (smA S.2.1 9) 6) n) n1 = stM S.2.1 := by unfold stM; rw [hn2, hn3]
  refine W.eq (g2 := F0 mI 193 ls [.int (stM S.2.1)]) (by rw [e9]) ?_
  refine W.widen (k := 2000) (n := 12000) (by omega) (by omega) ?_
  exact fw_iret hx hb hr hlocks hR hS dL_state_193 ⟨rfl, hC, hF⟩
