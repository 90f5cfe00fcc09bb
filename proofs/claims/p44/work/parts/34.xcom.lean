/-! ===== what commands do; which is the first that is refused ===== -/
def doC (v : Nat → Nat → Int32) (k1 k2 k3 : Int32) (C : CM) : CR :=
  if C.1 = 83 then addC v k1 k2 k3 (C.2.1 0) (C.2.1 1) (C.2.1 2) C.2.2.2 1 else if C.1 = 98 then buildC v k1 k2 k3 (C.2.1 0) (C.2.1 1) else if C.1 = 99 then comeC v k1 k2 k3 (C.2.1 0) C.2.2.2 else if C.1 = 100 then finC v k1 k2 k3 (C.2.1 0) (C.2.1 1) else if C.1 = 102 then foldC v k1 k2 k3 (C.2.1 0) 1 else if C.1 = 108 then layC v k1 k2 k3 (C.2.1 0) else if C.1 = 109 then moveC v k1 k2 k3 (C.2.1 0) (C.2.1 1) else if C.1 = 115 then addC v k1 k2 k3 (C.2.1 0) (C.2.1 1) (C.2.1 2) C.2.2.2 0 else if C.1 = 116 then apaC v k1 k2 k3 (C.2.1 0) else if C.1 = 117 then foldC v k1 k2 k3 (C.2.1 0) (-1) else if C.1 = 120 then loseC v k1 k2 k3 (C.2.1 0) (C.2.1 1) else findC v k1 k2 k3 (C.2.1 0) (C.2.1 1)
abbrev S4 : Type := (Nat → Nat → Int32) × Int32 × Int32 × Int32
def itC (Cs : Nat → CM) (S : S4) : Nat → S4
  | 0 => S
  | k + 1 => (doC (itC Cs S k).1 (itC Cs S k).2.1 (itC Cs S k).2.2.1 (itC Cs S k).2.2.2 (Cs k)).2
def atC (Cs : Nat → CM) (S : S4) (k : Nat) : CR := doC (itC Cs S k).1 (itC Cs S k).2.1 (itC Cs S k).2.2.1 (itC Cs S k).2.2.2 (Cs k)
/-- the first m are made; behind them either all are made, or the m-th is refused -/
theorem nI_mm1 {n : Nat} (h : n < 2 ^ 31) : ¬ nI n = -1 := fun z => by
  have := congrArg Int32.toInt z
  rw [nI_toInt h, show ((-1 : Int32)).toInt = -1 by decide] at this
  omega
theorem updR_at {R : Nat → Nat → Nat → Int32} {p : Nat} {w : Nat → Nat → Int32} : updR R p w p = w := if_pos rfl
theorem Live.tr {a b c : Nat → Nat → Int32} (h : Live a b) (k : Live b c) : Live a c := by
  obtain ⟨a0, a1, a2, a3, a4⟩ := h
  obtain ⟨b0, b1, b2, b3, b4⟩ := k
  exact ⟨fun i hi => (a0 i hi).trans (b0 i hi), a1.trans b1, a2.trans b2, fun i hi => (a3 i (by rw [b0 0 (by decide)]; exact hi)).tr (b3 i hi), fun i hi => ⟨(a4 i (by rw [b0 1 (by decide)]; exact hi)).1.trans (b4 i hi).1, (a4 i (by rw [b0 1 (by decide)]; exact hi)).2.trans (b4 i hi).2⟩⟩
theorem WF.live {w v : Nat → Nat → Int32} (h : Live w v) (hv : WF v) : WF w := by
  obtain ⟨a0, a1, a2, a3, a4⟩ := h
  refine ⟨by rw [a0 0 (by decide)]; exact hv.1, by rw [a0 1 (by decide)]; exact hv.2.1, fun j hj => ?_⟩
  rw [a0 0 (by decide)] at hj
  obtain ⟨b1, b2, -⟩ := a3 j hj
  rw [b1, b2]; exact hv.2.2 j hj
theorem csR_le {f : Nat → Int32} {len : Nat} : ∀ (n k pos : Nat) {Cs : Nat → CM}, k + n ≤ 20 → (csR f len n k pos Cs).2.2.1 ≤ 20
  | 0, k, pos, Cs, h => h
  | n + 1, k, pos, Cs, h => by
    rw [csR]
    split
    · show k ≤ 20; omega
    · split
      · show k + 1 ≤ 20; omega
      · split
        · exact csR_le n (k + 1) _ (by omega)
        · show k + 1 ≤ 20; omega
theorem csR_pos {f : Nat → Int32} {len : Nat} (h60 : len ≤ 60) : ∀ (n k pos : Nat) (Cs : Nat → CM), pos ≤ len → (∀ i, i < 20 → (Cs i).2.2.1 ≤ 3) → k + n ≤ 20 → (csR f len n k pos Cs).2.1 ≤ len
  | 0, k, pos, Cs, h, _, _ => h
  | n + 1, k, pos, Cs, h, h3, hk => by
    obtain ⟨a, b⟩ := cmR_le (f := f) (C := Cs k) h60 h (h3 k (by omega))
    rw [csR]
    split
    · exact a
    · split
      · exact a
      · split
        · rename_i h1 h2 h4
          refine csR_pos h60 n (k + 1) _ _ (by omega) (fun i hi => ?_) (by omega)
          unfold updC
          by_cases hik : i = k
          · rw [if_pos hik]; exact b
          · rw [if_neg hik]; exact h3 i hi
        · exact a
def RunP (Cs : Nat → CM) (S : S4) (n : Nat) (r : Int32) (Z : S4) : Prop := ∃ m : Nat, m ≤ n ∧ (∀ j, j < m → ¬ (atC Cs S j).1 = -1) ∧ ((m = n ∧ r = -1 ∧ Z = itC Cs S n) ∨ (m < n ∧ (atC Cs S m).1 = -1 ∧ r = nI m ∧ Z = (atC Cs S m).2))
theorem RunP.no {Cs : Nat → CM} {S Z : S4} {n : Nat} {r : Int32} (h : RunP Cs S n r Z) (hr : ¬ r = -1) : ∃ m, m < n ∧ r = nI m := by
  obtain ⟨m, -, -, h⟩ := h
  rcases h with ⟨-, e, -⟩ | ⟨h1, -, h2, -⟩
  · exact absurd e hr
  · exact ⟨m, h1, h2⟩
set_option maxHeartbeats 4000000 in
set_option maxRecDepth 100000 in
theorem c_X10_carriedOut (G : FG) (hL : FL G) (l : Launch) (ω : FWd) (x y a hs0 sn tx ln tt : Nat) (v : Nat → Nat → Int32) (hsn k1 k2 k3 : Int32) (hXA : XA x y a hs0 sn tx ln tt) (hx0 : ω.2 x = some (.inr (12, [.ref y, .ref a, .ref (a + 51), .ref hs0, .ref sn, .int hsn, .ref tx, .ref ln, .ref tt]))) (hy : ω.2 y = some (.inr (3, [.ref a, .ref (a + 51)]))) (hA : ArcS G ω.2 a v) (hk : ω.2 (a + 51) = some (.inr (9, [.int k1, .int k2, .int k3]))) (hW0 : WF v) (b : Nat) (C : CM) (hC : CmdS G ω.2 b C.1 C.2.1 C.2.2.1 C.2.2.2) : FMet G l yX10_carriedOut wsX10_carriedOut ({ frames := 4, cells := 0, slots := 0, locals := 93 } : Room) [.ref x, .ref b] ω (CQ G a ω (doC v k1 k2 k3 C)) 0 0 := by
  refine fw_ofW (cc := cX10_carriedOut) (maxL := 5) (ret := (some .int)) (by decide) rfl (Nat.le_of_ble_eq_true rfl) ?_
  intro pP eE sS mI ar9 bl9 meth cD ls hx hb hr hlocks hml hts hown hnm hW hR hl
  have hK := hL.K hW
  have hS : va_S (fwA G) sS.heap sS.heap [] := va_S.rf
  have hin2 : ∀ w ∈ u_ws RX2 TX2 4, w ∈ wsX10_carriedOut := by decide +kernel
  have hin10 : ∀ w ∈ u_ws RX10 TX10 9, w ∈ wsX10_carriedOut := by decide +kernel
  have hl : lv_has ls 5 [(0, .ref x), (1, .ref b)] := hl
  obtain ⟨h0, h1, h2, h3, h4, h5, hLf, hCo⟩ := id hA
  obtain ⟨hxy, hxa, hxh, hxs, hxt, hxl, hxu⟩ := id hXA
  obtain ⟨b0, b1⟩ := id hC
  refine lv_aload_n hx hb dX10_carriedOut_0 rfl (lv_at hl 1 rfl) ?_
  refine fw_get (v := .ref (b + 1)) (C := RX2) (T := TX2) (N := 4) hx hb hts hin2 hown hK hR b0 rfl 1 (by decide) (hts (.fieldLink RX10 362 "UnreadLeaflets$Command" "numbers" "[I") (by decide +kernel)) rfl dX10_carriedOut_1 ?_
  refine lv_iconst (v := 0) hx hb dX10_carriedOut_4 (by decide) ?_
  refine fw_iald hx hb hK hR b1 (vp_in_nI (n := 0) (by omega) (by omega)) dX10_carriedOut_5 ?_
  refine W.eq (g2 := F0 mI 6 ls [.int (C.2.1 0)]) (by rw [show (0 : Int32).toNatClampNeg = 0 from rfl]) ?_
  refine lv_istore_n (lv' := [(2, .int (C.2.1 0)), (0, .ref x), (1, .ref b)]) hx hb dX10_carriedOut_6 rfl hl (by decide) rfl (fun ls hl => ?_)
  refine lv_aload_n hx hb dX10_carriedOut_7 rfl (lv_at hl 2 rfl) ?_
  refine fw_get (v := .ref (b + 1)) (C := RX2) (T := TX2) (N := 4) hx hb hts hin2 hown hK hR b0 rfl 1 (by decide) (hts (.fieldLink RX10 362 "UnreadLeaflets$Command" "numbers" "[I") (by decide +kernel)) rfl dX10_carriedOut_8 ?_
  refine lv_iconst (v := 1) hx hb dX10_carriedOut_11 (by decide) ?_
  refine fw_iald hx hb hK hR b1 (vp_in_nI (n := 1) (by omega) (by omega)) dX10_carriedOut_12 ?_
  refine W.eq (g2 := F0 mI 13 ls [.int (C.2.1 1)]) (by rw [show (1 : Int32).toNatClampNeg = 1 from rfl]) ?_
  refine lv_istore_n (lv' := [(3, .int (C.2.1 1)), (2, .int (C.2.1 0)), (0, .ref x), (1, .ref b)]) hx hb dX10_carriedOut_13 rfl hl (by decide) rfl (fun ls hl => ?_)
  refine lv_aload_n hx hb dX10_carriedOut_14 rfl (lv_at hl 3 rfl) ?_
  refine fw_get (v := .ref (b + 1)) (C := RX2) (T := TX2) (N := 4) hx hb hts hin2 hown hK hR b0 rfl 1 (by decide) (hts (.fieldLink RX10 362 "UnreadLeaflets$Command" "numbers" "[I") (by decide +kernel)) rfl dX10_carriedOut_15 ?_
  refine lv_iconst (v := 2) hx hb dX10_carriedOut_18 (by decide) ?_
  refine fw_iald hx hb hK hR b1 (vp_in_nI (n := 2) (by omega) (by omega)) dX10_carriedOut_19 ?_
  refine W.eq (g2 := F0 mI 20 ls [.int (C.2.1 2)]) (by rw [show (2 : Int32).toNatClampNeg = 2 from rfl]) ?_
  refine lv_istore (lv' := [(4, .int (C.2.1 2)), (3, .int (C.2.1 1)), (2, .int (C.2.1 0)), (0, .ref x), (1, .ref b)]) hx hb dX10_carriedOut_20 hl (by decide) rfl (fun ls hl => ?_)
  refine lv_aload_n hx hb dX10_carriedOut_22 rfl (lv_at hl 4 rfl) ?_
  refine fw_get (v := .int C.1) (C := RX2) (T := TX2) (N := 4) hx hb hts hin2 hown hK hR b0 rfl 0 (by decide) (hts (.fieldLink RX10 367 "UnreadLeaflets$Command" "letter" "C") (by decide +kernel)) rfl dX10_carriedOut_23 ?_
  by_cases c_1 : C.1 = 83
  · skip
    refine lv_tableIn (off := 192) (tgt := 218) hx hb dX10_carriedOut_26 (by rw [c_1]; decide) (by rw [c_1]; decide) (by rw [c_1]; rfl) (by decide) ?_
    refine lv_aload_n hx hb dX10_carriedOut_218 rfl (lv_at hl 3 rfl) ?_
    refine fw_get (v := .ref y) (C := RX10) (T := TX10) (N := 9) hx hb hts hin10 hown hK hR hx0 rfl 0 (by decide) (hts (.fieldLink RX10 10 "UnreadLeaflets" "changes" "LUnreadLeaflets$Changes;") (by decide +kernel)) rfl dX10_carriedOut_219 ?_
    refine lv_iload_n hx hb dX10_carriedOut_222 rfl (lv_at hl 2 rfl) ?_
    refine lv_iload_n hx hb dX10_carriedOut_223 rfl (lv_at hl 1 rfl) ?_
    refine lv_iload hx hb dX10_carriedOut_224 (lv_at hl 0 rfl) ?_
    refine lv_aload_n hx hb dX10_carriedOut_226 rfl (lv_at hl 4 rfl) ?_
    refine fw_get (v := .int C.2.2.2) (C := RX2) (T := TX2) (N := 4) hx hb hts hin2 hown hK hR b0 rfl 3 (by decide) (hts (.fieldLink RX10 371 "UnreadLeaflets$Command" "languages" "I") (by decide +kernel)) rfl dX10_carriedOut_227 ?_
    refine lv_iconst (v := 1) hx hb dX10_carriedOut_230 (by decide) ?_
    have hAk : ArcS G ω.2 a v := hA
    refine fw_call (va_runV (As := [.int (C.2.1 0), .int (C.2.1 1), .int (C.2.1 2), .int C.2.2.2, .int 1]) (rest := []) ⟨hx, hb, hml, hown, hts⟩ (c_X1_addStep G hL l ω y a v k1 k2 k3 hy (by omega) hAk hk hW0 (C.2.1 0) (C.2.1 1) (C.2.1 2) C.2.2.2 1) (cwV 5 hts gX10_carriedOut_X1_addStep rfl rfl rfl (by decide +kernel) ⟨Nat.le_of_ble_eq_true rfl, Nat.le_of_ble_eq_true rfl⟩) (fw_preV hW hK hR hy rfl) rfl rfl hl.1 rfl (lv_room (Nat.le_of_ble_eq_true rfl)) dX10_carriedOut_231 ⟨Nat.le_of_ble_eq_true rfl, Nat.le_of_ble_eq_true rfl⟩) hS (fun v_2 ω_3 H locs hq_4 hR hS => ?_)
    obtain ⟨rfl, z_5, hA2, hk2, fr_6⟩ := hq_4
    refine W.eq (g2 := F0 mI 234 ls [.int ((addC v k1 k2 k3 (C.2.1 0) (C.2.1 1) (C.2.1 2) C.2.2.2 1).1)]) rfl ?_
    refine fw_iret hx hb hr hlocks hR hS dX10_carriedOut_234 ?_
    have hr_7 : doC v k1 k2 k3 C = (addC v k1 k2 k3 (C.2.1 0) (C.2.1 1) (C.2.1 2) C.2.2.2 1) := by
      unfold doC
      rw [if_pos c_1]
    rw [hr_7]
    exact ⟨rfl, z_5, hA2, hk2, fr_6⟩
  by_cases c_8 : C.1 = 98
  · skip
    refine lv_tableIn (off := 242) (tgt := 268) hx hb dX10_carriedOut_26 (by rw [c_8]; decide) (by rw [c_8]; decide) (by rw [c_8]; rfl) (by decide) ?_
    refine lv_aload_n hx hb dX10_carriedOut_268 rfl (lv_at hl 3 rfl) ?_
    refine fw_get (v := .ref y) (C := RX10) (T := TX10) (N := 9) hx hb hts hin10 hown hK hR hx0 rfl 0 (by decide) (hts (.fieldLink RX10 10 "UnreadLeaflets" "changes" "LUnreadLeaflets$Changes;") (by decide +kernel)) rfl dX10_carriedOut_269 ?_
    refine lv_iload_n hx hb dX10_carriedOut_272 rfl (lv_at hl 2 rfl) ?_
    refine lv_iload_n hx hb dX10_carriedOut_273 rfl (lv_at hl 1 rfl) ?_
    have hAk : ArcS G ω.2 a v := hA
    refine fw_call (va_runV (As := [.int (C.2.1 0), .int (C.2.1 1)]) (rest := []) ⟨hx, hb, hml, hown, hts⟩ (c_X1_letBuild G hL l ω y a v k1 k2 k3 hy (by omega) hAk hk hW0 (C.2.1 0) (C.2.1 1)) (cwV 2 hts gX10_carriedOut_X1_letBuild rfl rfl rfl (by decide +kernel) ⟨Nat.le_of_ble_eq_true rfl, Nat.le_of_ble_eq_true rfl⟩) (fw_preV hW hK hR hy rfl) rfl rfl hl.1 rfl (lv_room (Nat.le_of_ble_eq_true rfl)) dX10_carriedOut_274 ⟨Nat.le_of_ble_eq_true rfl, Nat.le_of_ble_eq_true rfl⟩) hS (fun v_9 ω_10 H locs hq_11 hR hS => ?_)
    obtain ⟨rfl, z_12, hA2, hk2, fr_13⟩ := hq_11
    refine W.eq (g2 := F0 mI 277 ls [.int ((buildC v k1 k2 k3 (C.2.1 0) (C.2.1 1)).1)]) rfl ?_
    refine fw_iret hx hb hr hlocks hR hS dX10_carriedOut_277 ?_
    have hr_14 : doC v k1 k2 k3 C = (buildC v k1 k2 k3 (C.2.1 0) (C.2.1 1)) := by
      unfold doC
      rw [if_neg c_1, if_pos c_8]
    rw [hr_14]
    exact ⟨rfl, z_12, hA2, hk2, fr_13⟩
  by_cases c_15 : C.1 = 99
  · skip
    refine lv_tableIn (off := 229) (tgt := 255) hx hb dX10_carriedOut_26 (by rw [c_15]; decide) (by rw [c_15]; decide) (by rw [c_15]; rfl) (by decide) ?_
    refine lv_aload_n hx hb dX10_carriedOut_255 rfl (lv_at hl 3 rfl) ?_
    refine fw_get (v := .ref y) (C := RX10) (T := TX10) (N := 9) hx hb hts hin10 hown hK hR hx0 rfl 0 (by decide) (hts (.fieldLink RX10 10 "UnreadLeaflets" "changes" "LUnreadLeaflets$Changes;") (by decide +kernel)) rfl dX10_carriedOut_256 ?_
    refine lv_iload_n hx hb dX10_carriedOut_259 rfl (lv_at hl 2 rfl) ?_
    refine lv_aload_n hx hb dX10_carriedOut_260 rfl (lv_at hl 4 rfl) ?_
    refine fw_get (v := .int C.2.2.2) (C := RX2) (T := TX2) (N := 4) hx hb hts hin2 hown hK hR b0 rfl 3 (by decide) (hts (.fieldLink RX10 371 "UnreadLeaflets$Command" "languages" "I") (by decide +kernel)) rfl dX10_carriedOut_261 ?_
    have hAk : ArcS G ω.2 a v := hA
    refine fw_call (va_runV (As := [.int (C.2.1 0), .int C.2.2.2]) (rest := []) ⟨hx, hb, hml, hown, hts⟩ (c_X1_letCome G hL l ω y a v k1 k2 k3 hy (by omega) hAk hk hW0 (C.2.1 0) C.2.2.2) (cwV 2 hts gX10_carriedOut_X1_letCome rfl rfl rfl (by decide +kernel) ⟨Nat.le_of_ble_eq_true rfl, Nat.le_of_ble_eq_true rfl⟩) (fw_preV hW hK hR hy rfl) rfl rfl hl.1 rfl (lv_room (Nat.le_of_ble_eq_true rfl)) dX10_carriedOut_264 ⟨Nat.le_of_ble_eq_true rfl, Nat.le_of_ble_eq_true rfl⟩) hS (fun v_16 ω_17 H locs hq_18 hR hS => ?_)
    obtain ⟨rfl, z_19, hA2, hk2, fr_20⟩ := hq_18
    refine W.eq (g2 := F0 mI 267 ls [.int ((comeC v k1 k2 k3 (C.2.1 0) C.2.2.2).1)]) rfl ?_
    refine fw_iret hx hb hr hlocks hR hS dX10_carriedOut_267 ?_
    have hr_21 : doC v k1 k2 k3 C = (comeC v k1 k2 k3 (C.2.1 0) C.2.2.2) := by
      unfold doC
      rw [if_neg c_1, if_neg c_8, if_pos c_15]
    rw [hr_21]
    exact ⟨rfl, z_19, hA2, hk2, fr_20⟩
  by_cases c_22 : C.1 = 100
  · skip
    refine lv_tableIn (off := 252) (tgt := 278) hx hb dX10_carriedOut_26 (by rw [c_22]; decide) (by rw [c_22]; decide) (by rw [c_22]; rfl) (by decide) ?_
    refine lv_aload_n hx hb dX10_carriedOut_278 rfl (lv_at hl 3 rfl) ?_
    refine fw_get (v := .ref y) (C := RX10) (T := TX10) (N := 9) hx hb hts hin10 hown hK hR hx0 rfl 0 (by decide) (hts (.fieldLink RX10 10 "UnreadLeaflets" "changes" "LUnreadLeaflets$Changes;") (by decide +kernel)) rfl dX10_carriedOut_279 ?_
    refine lv_iload_n hx hb dX10_carriedOut_282 rfl (lv_at hl 2 rfl) ?_
    refine lv_iload_n hx hb dX10_carriedOut_283 rfl (lv_at hl 1 rfl) ?_
    have hAk : ArcS G ω.2 a v := hA
    refine fw_call (va_runV (As := [.int (C.2.1 0), .int (C.2.1 1)]) (rest := []) ⟨hx, hb, hml, hown, hts⟩ (c_X1_doLater G hL l ω y a v k1 k2 k3 hy (by omega) hAk hk hW0 (C.2.1 0) (C.2.1 1)) (cwV 2 hts gX10_carriedOut_X1_doLater rfl rfl rfl (by decide +kernel) ⟨Nat.le_of_ble_eq_true rfl, Nat.le_of_ble_eq_true rfl⟩) (fw_preV hW hK hR hy rfl) rfl rfl hl.1 rfl (lv_room (Nat.le_of_ble_eq_true rfl)) dX10_carriedOut_284 ⟨Nat.le_of_ble_eq_true rfl, Nat.le_of_ble_eq_true rfl⟩) hS (fun v_23 ω_24 H locs hq_25 hR hS => ?_)
    obtain ⟨rfl, z_26, hA2, hk2, fr_27⟩ := hq_25
    refine W.eq (g2 := F0 mI 287 ls [.int ((finC v k1 k2 k3 (C.2.1 0) (C.2.1 1)).1)]) rfl ?_
    refine fw_iret hx hb hr hlocks hR hS dX10_carriedOut_287 ?_
    have hr_28 : doC v k1 k2 k3 C = (finC v k1 k2 k3 (C.2.1 0) (C.2.1 1)) := by
      unfold doC
      rw [if_neg c_1, if_neg c_8, if_neg c_15, if_pos c_22]
    rw [hr_28]
    exact ⟨rfl, z_26, hA2, hk2, fr_27⟩
  by_cases c_29 : C.1 = 102
  · skip
    refine lv_tableIn (off := 209) (tgt := 235) hx hb dX10_carriedOut_26 (by rw [c_29]; decide) (by rw [c_29]; decide) (by rw [c_29]; rfl) (by decide) ?_
    refine lv_aload_n hx hb dX10_carriedOut_235 rfl (lv_at hl 3 rfl) ?_
    refine fw_get (v := .ref y) (C := RX10) (T := TX10) (N := 9) hx hb hts hin10 hown hK hR hx0 rfl 0 (by decide) (hts (.fieldLink RX10 10 "UnreadLeaflets" "changes" "LUnreadLeaflets$Changes;") (by decide +kernel)) rfl dX10_carriedOut_236 ?_
    refine lv_iload_n hx hb dX10_carriedOut_239 rfl (lv_at hl 2 rfl) ?_
    refine lv_iconst (v := 1) hx hb dX10_carriedOut_240 (by decide) ?_
    have hAk : ArcS G ω.2 a v := hA
    refine fw_call (va_runV (As := [.int (C.2.1 0), .int 1]) (rest := []) ⟨hx, hb, hml, hown, hts⟩ (c_X1_changeFolds G hL l ω y a v k1 k2 k3 hy (by omega) hAk hk hW0 (C.2.1 0) 1) (cwV 2 hts gX10_carriedOut_X1_changeFolds rfl rfl rfl (by decide +kernel) ⟨Nat.le_of_ble_eq_true rfl, Nat.le_of_ble_eq_true rfl⟩) (fw_preV hW hK hR hy rfl) rfl rfl hl.1 rfl (lv_room (Nat.le_of_ble_eq_true rfl)) dX10_carriedOut_241 ⟨Nat.le_of_ble_eq_true rfl, Nat.le_of_ble_eq_true rfl⟩) hS (fun v_30 ω_31 H locs hq_32 hR hS => ?_)
    obtain ⟨rfl, z_33, hA2, hk2, fr_34⟩ := hq_32
    refine W.eq (g2 := F0 mI 244 ls [.int ((foldC v k1 k2 k3 (C.2.1 0) 1).1)]) rfl ?_
    refine fw_iret hx hb hr hlocks hR hS dX10_carriedOut_244 ?_
    have hr_35 : doC v k1 k2 k3 C = (foldC v k1 k2 k3 (C.2.1 0) 1) := by
      unfold doC
      rw [if_neg c_1, if_neg c_8, if_neg c_15, if_neg c_22, if_pos c_29]
    rw [hr_35]
    exact ⟨rfl, z_33, hA2, hk2, fr_34⟩
  by_cases c_36 : C.1 = 108
  · skip
    refine lv_tableIn (off := 166) (tgt := 192) hx hb dX10_carriedOut_26 (by rw [c_36]; decide) (by rw [c_36]; decide) (by rw [c_36]; rfl) (by decide) ?_
    refine lv_aload_n hx hb dX10_carriedOut_192 rfl (lv_at hl 3 rfl) ?_
    refine fw_get (v := .ref y) (C := RX10) (T := TX10) (N := 9) hx hb hts hin10 hown hK hR hx0 rfl 0 (by decide) (hts (.fieldLink RX10 10 "UnreadLeaflets" "changes" "LUnreadLeaflets$Changes;") (by decide +kernel)) rfl dX10_carriedOut_193 ?_
    refine lv_iload_n hx hb dX10_carriedOut_196 rfl (lv_at hl 2 rfl) ?_
    have hAk : ArcS G ω.2 a v := hA
    refine fw_call (va_runV (As := [.int (C.2.1 0)]) (rest := []) ⟨hx, hb, hml, hown, hts⟩ (c_X1_layLeaflet G hL l ω y a v k1 k2 k3 hy (by omega) hAk hk hW0 (C.2.1 0)) (cwV 1 hts gX10_carriedOut_X1_layLeaflet rfl rfl rfl (by decide +kernel) ⟨Nat.le_of_ble_eq_true rfl, Nat.le_of_ble_eq_true rfl⟩) (fw_preV hW hK hR hy rfl) rfl rfl hl.1 rfl (lv_room (Nat.le_of_ble_eq_true rfl)) dX10_carriedOut_197 ⟨Nat.le_of_ble_eq_true rfl, Nat.le_of_ble_eq_true rfl⟩) hS (fun v_37 ω_38 H locs hq_39 hR hS => ?_)
    obtain ⟨rfl, z_40, hA2, hk2, fr_41⟩ := hq_39
    refine W.eq (g2 := F0 mI 200 ls [.int ((layC v k1 k2 k3 (C.2.1 0)).1)]) rfl ?_
    refine fw_iret hx hb hr hlocks hR hS dX10_carriedOut_200 ?_
    have hr_42 : doC v k1 k2 k3 C = (layC v k1 k2 k3 (C.2.1 0)) := by
      unfold doC
      rw [if_neg c_1, if_neg c_8, if_neg c_15, if_neg c_22, if_neg c_29, if_pos c_36]
    rw [hr_42]
    exact ⟨rfl, z_40, hA2, hk2, fr_41⟩
  by_cases c_43 : C.1 = 109
  · skip
    refine lv_tableIn (off := 271) (tgt := 297) hx hb dX10_carriedOut_26 (by rw [c_43]; decide) (by rw [c_43]; decide) (by rw [c_43]; rfl) (by decide) ?_
    refine lv_aload_n hx hb dX10_carriedOut_297 rfl (lv_at hl 3 rfl) ?_
    refine fw_get (v := .ref y) (C := RX10) (T := TX10) (N := 9) hx hb hts hin10 hown hK hR hx0 rfl 0 (by decide) (hts (.fieldLink RX10 10 "UnreadLeaflets" "changes" "LUnreadLeaflets$Changes;") (by decide +kernel)) rfl dX10_carriedOut_298 ?_
    refine lv_iload_n hx hb dX10_carriedOut_301 rfl (lv_at hl 2 rfl) ?_
    refine lv_iload_n hx hb dX10_carriedOut_302 rfl (lv_at hl 1 rfl) ?_
    have hAk : ArcS G ω.2 a v := hA
    refine fw_call (va_runV (As := [.int (C.2.1 0), .int (C.2.1 1)]) (rest := []) ⟨hx, hb, hml, hown, hts⟩ (c_X1_moveBox G hL l ω y a v k1 k2 k3 hy (by omega) hAk hk hW0 (C.2.1 0) (C.2.1 1)) (cwV 2 hts gX10_carriedOut_X1_moveBox rfl rfl rfl (by decide +kernel) ⟨Nat.le_of_ble_eq_true rfl, Nat.le_of_ble_eq_true rfl⟩) (fw_preV hW hK hR hy rfl) rfl rfl hl.1 rfl (lv_room (Nat.le_of_ble_eq_true rfl)) dX10_carriedOut_303 ⟨Nat.le_of_ble_eq_true rfl, Nat.le_of_ble_eq_true rfl⟩) hS (fun v_44 ω_45 H locs hq_46 hR hS => ?_)
    obtain ⟨rfl, z_47, hA2, hk2, fr_48⟩ := hq_46
    refine W.eq (g2 := F0 mI 306 ls [.int ((moveC v k1 k2 k3 (C.2.1 0) (C.2.1 1)).1)]) rfl ?_
    refine fw_iret hx hb hr hlocks hR hS dX10_carriedOut_306 ?_
    have hr_49 : doC v k1 k2 k3 C = (moveC v k1 k2 k3 (C.2.1 0) (C.2.1 1)) := by
      unfold doC
      rw [if_neg c_1, if_neg c_8, if_neg c_15, if_neg c_22, if_neg c_29, if_neg c_36, if_pos c_43]
    rw [hr_49]
    exact ⟨rfl, z_47, hA2, hk2, fr_48⟩
  by_cases c_50 : C.1 = 115
  · skip
    refine lv_tableIn (off := 175) (tgt := 201) hx hb dX10_carriedOut_26 (by rw [c_50]; decide) (by rw [c_50]; decide) (by rw [c_50]; rfl) (by decide) ?_
    refine lv_aload_n hx hb dX10_carriedOut_201 rfl (lv_at hl 3 rfl) ?_
    refine fw_get (v := .ref y) (C := RX10) (T := TX10) (N := 9) hx hb hts hin10 hown hK hR hx0 rfl 0 (by decide) (hts (.fieldLink RX10 10 "UnreadLeaflets" "changes" "LUnreadLeaflets$Changes;") (by decide +kernel)) rfl dX10_carriedOut_202 ?_
    refine lv_iload_n hx hb dX10_carriedOut_205 rfl (lv_at hl 2 rfl) ?_
    refine lv_iload_n hx hb dX10_carriedOut_206 rfl (lv_at hl 1 rfl) ?_
    refine lv_iload hx hb dX10_carriedOut_207 (lv_at hl 0 rfl) ?_
    refine lv_aload_n hx hb dX10_carriedOut_209 rfl (lv_at hl 4 rfl) ?_
    refine fw_get (v := .int C.2.2.2) (C := RX2) (T := TX2) (N := 4) hx hb hts hin2 hown hK hR b0 rfl 3 (by decide) (hts (.fieldLink RX10 371 "UnreadLeaflets$Command" "languages" "I") (by decide +kernel)) rfl dX10_carriedOut_210 ?_
    refine lv_iconst (v := 0) hx hb dX10_carriedOut_213 (by decide) ?_
    have hAk : ArcS G ω.2 a v := hA
    refine fw_call (va_runV (As := [.int (C.2.1 0), .int (C.2.1 1), .int (C.2.1 2), .int C.2.2.2, .int 0]) (rest := []) ⟨hx, hb, hml, hown, hts⟩ (c_X1_addStep G hL l ω y a v k1 k2 k3 hy (by omega) hAk hk hW0 (C.2.1 0) (C.2.1 1) (C.2.1 2) C.2.2.2 0) (cwV 5 hts gX10_carriedOut_X1_addStep rfl rfl rfl (by decide +kernel) ⟨Nat.le_of_ble_eq_true rfl, Nat.le_of_ble_eq_true rfl⟩) (fw_preV hW hK hR hy rfl) rfl rfl hl.1 rfl (lv_room (Nat.le_of_ble_eq_true rfl)) dX10_carriedOut_214 ⟨Nat.le_of_ble_eq_true rfl, Nat.le_of_ble_eq_true rfl⟩) hS (fun v_51 ω_52 H locs hq_53 hR hS => ?_)
    obtain ⟨rfl, z_54, hA2, hk2, fr_55⟩ := hq_53
    refine W.eq (g2 := F0 mI 217 ls [.int ((addC v k1 k2 k3 (C.2.1 0) (C.2.1 1) (C.2.1 2) C.2.2.2 0).1)]) rfl ?_
    refine fw_iret hx hb hr hlocks hR hS dX10_carriedOut_217 ?_
    have hr_56 : doC v k1 k2 k3 C = (addC v k1 k2 k3 (C.2.1 0) (C.2.1 1) (C.2.1 2) C.2.2.2 0) := by
      unfold doC
      rw [if_neg c_1, if_neg c_8, if_neg c_15, if_neg c_22, if_neg c_29, if_neg c_36, if_neg c_43, if_pos c_50]
    rw [hr_56]
    exact ⟨rfl, z_54, hA2, hk2, fr_55⟩
  by_cases c_57 : C.1 = 116
  · skip
    refine lv_tableIn (off := 262) (tgt := 288) hx hb dX10_carriedOut_26 (by rw [c_57]; decide) (by rw [c_57]; decide) (by rw [c_57]; rfl) (by decide) ?_
    refine lv_aload_n hx hb dX10_carriedOut_288 rfl (lv_at hl 3 rfl) ?_
    refine fw_get (v := .ref y) (C := RX10) (T := TX10) (N := 9) hx hb hts hin10 hown hK hR hx0 rfl 0 (by decide) (hts (.fieldLink RX10 10 "UnreadLeaflets" "changes" "LUnreadLeaflets$Changes;") (by decide +kernel)) rfl dX10_carriedOut_289 ?_
    refine lv_iload_n hx hb dX10_carriedOut_292 rfl (lv_at hl 2 rfl) ?_
    have hAk : ArcS G ω.2 a v := hA
    refine fw_call (va_runV (As := [.int (C.2.1 0)]) (rest := []) ⟨hx, hb, hml, hown, hts⟩ (c_X1_takeApart G hL l ω y a v k1 k2 k3 hy (by omega) hAk hk hW0 (C.2.1 0)) (cwV 1 hts gX10_carriedOut_X1_takeApart rfl rfl rfl (by decide +kernel) ⟨Nat.le_of_ble_eq_true rfl, Nat.le_of_ble_eq_true rfl⟩) (fw_preV hW hK hR hy rfl) rfl rfl hl.1 rfl (lv_room (Nat.le_of_ble_eq_true rfl)) dX10_carriedOut_293 ⟨Nat.le_of_ble_eq_true rfl, Nat.le_of_ble_eq_true rfl⟩) hS (fun v_58 ω_59 H locs hq_60 hR hS => ?_)
    obtain ⟨rfl, z_61, hA2, hk2, fr_62⟩ := hq_60
    refine W.eq (g2 := F0 mI 296 ls [.int ((apaC v k1 k2 k3 (C.2.1 0)).1)]) rfl ?_
    refine fw_iret hx hb hr hlocks hR hS dX10_carriedOut_296 ?_
    have hr_63 : doC v k1 k2 k3 C = (apaC v k1 k2 k3 (C.2.1 0)) := by
      unfold doC
      rw [if_neg c_1, if_neg c_8, if_neg c_15, if_neg c_22, if_neg c_29, if_neg c_36, if_neg c_43, if_neg c_50, if_pos c_57]
    rw [hr_63]
    exact ⟨rfl, z_61, hA2, hk2, fr_62⟩
  by_cases c_64 : C.1 = 117
  · skip
    refine lv_tableIn (off := 219) (tgt := 245) hx hb dX10_carriedOut_26 (by rw [c_64]; decide) (by rw [c_64]; decide) (by rw [c_64]; rfl) (by decide) ?_
    refine lv_aload_n hx hb dX10_carriedOut_245 rfl (lv_at hl 3 rfl) ?_
    refine fw_get (v := .ref y) (C := RX10) (T := TX10) (N := 9) hx hb hts hin10 hown hK hR hx0 rfl 0 (by decide) (hts (.fieldLink RX10 10 "UnreadLeaflets" "changes" "LUnreadLeaflets$Changes;") (by decide +kernel)) rfl dX10_carriedOut_246 ?_
    refine lv_iload_n hx hb dX10_carriedOut_249 rfl (lv_at hl 2 rfl) ?_
    refine lv_iconst (v := (-1)) hx hb dX10_carriedOut_250 (by decide) ?_
    have hAk : ArcS G ω.2 a v := hA
    refine fw_call (va_runV (As := [.int (C.2.1 0), .int (-1)]) (rest := []) ⟨hx, hb, hml, hown, hts⟩ (c_X1_changeFolds G hL l ω y a v k1 k2 k3 hy (by omega) hAk hk hW0 (C.2.1 0) (-1)) (cwV 2 hts gX10_carriedOut_X1_changeFolds rfl rfl rfl (by decide +kernel) ⟨Nat.le_of_ble_eq_true rfl, Nat.le_of_ble_eq_true rfl⟩) (fw_preV hW hK hR hy rfl) rfl rfl hl.1 rfl (lv_room (Nat.le_of_ble_eq_true rfl)) dX10_carriedOut_251 ⟨Nat.le_of_ble_eq_true rfl, Nat.le_of_ble_eq_true rfl⟩) hS (fun v_65 ω_66 H locs hq_67 hR hS => ?_)
    obtain ⟨rfl, z_68, hA2, hk2, fr_69⟩ := hq_67
    refine W.eq (g2 := F0 mI 254 ls [.int ((foldC v k1 k2 k3 (C.2.1 0) (-1)).1)]) rfl ?_
    refine fw_iret hx hb hr hlocks hR hS dX10_carriedOut_254 ?_
    have hr_70 : doC v k1 k2 k3 C = (foldC v k1 k2 k3 (C.2.1 0) (-1)) := by
      unfold doC
      rw [if_neg c_1, if_neg c_8, if_neg c_15, if_neg c_22, if_neg c_29, if_neg c_36, if_neg c_43, if_neg c_50, if_neg c_57, if_pos c_64]
    rw [hr_70]
    exact ⟨rfl, z_68, hA2, hk2, fr_69⟩
  by_cases c_71 : C.1 = 120
  · skip
    refine lv_tableIn (off := 281) (tgt := 307) hx hb dX10_carriedOut_26 (by rw [c_71]; decide) (by rw [c_71]; decide) (by rw [c_71]; rfl) (by decide) ?_
    refine lv_aload_n hx hb dX10_carriedOut_307 rfl (lv_at hl 3 rfl) ?_
    refine fw_get (v := .ref y) (C := RX10) (T := TX10) (N := 9) hx hb hts hin10 hown hK hR hx0 rfl 0 (by decide) (hts (.fieldLink RX10 10 "UnreadLeaflets" "changes" "LUnreadLeaflets$Changes;") (by decide +kernel)) rfl dX10_carriedOut_308 ?_
    refine lv_iload_n hx hb dX10_carriedOut_311 rfl (lv_at hl 2 rfl) ?_
    refine lv_iload_n hx hb dX10_carriedOut_312 rfl (lv_at hl 1 rfl) ?_
    have hAk : ArcS G ω.2 a v := hA
    refine fw_call (va_runV (As := [.int (C.2.1 0), .int (C.2.1 1)]) (rest := []) ⟨hx, hb, hml, hown, hts⟩ (c_X1_loseParts G hL l ω y a v k1 k2 k3 hy (by omega) hAk hk hW0 (C.2.1 0) (C.2.1 1)) (cwV 2 hts gX10_carriedOut_X1_loseParts rfl rfl rfl (by decide +kernel) ⟨Nat.le_of_ble_eq_true rfl, Nat.le_of_ble_eq_true rfl⟩) (fw_preV hW hK hR hy rfl) rfl rfl hl.1 rfl (lv_room (Nat.le_of_ble_eq_true rfl)) dX10_carriedOut_313 ⟨Nat.le_of_ble_eq_true rfl, Nat.le_of_ble_eq_true rfl⟩) hS (fun v_72 ω_73 H locs hq_74 hR hS => ?_)
    obtain ⟨rfl, z_75, hA2, hk2, fr_76⟩ := hq_74
    refine W.eq (g2 := F0 mI 316 ls [.int ((loseC v k1 k2 k3 (C.2.1 0) (C.2.1 1)).1)]) rfl ?_
    refine fw_iret hx hb hr hlocks hR hS dX10_carriedOut_316 ?_
    have hr_77 : doC v k1 k2 k3 C = (loseC v k1 k2 k3 (C.2.1 0) (C.2.1 1)) := by
      unfold doC
      rw [if_neg c_1, if_neg c_8, if_neg c_15, if_neg c_22, if_neg c_29, if_neg c_36, if_neg c_43, if_neg c_50, if_neg c_57, if_neg c_64, if_pos c_71]
    rw [hr_77]
    exact ⟨rfl, z_75, hA2, hk2, fr_76⟩
  have tc_1 := lv_neT c_1 (show (83 : Int32).toInt = 83 by decide)
  have tc_8 := lv_neT c_8 (show (98 : Int32).toInt = 98 by decide)
  have tc_15 := lv_neT c_15 (show (99 : Int32).toInt = 99 by decide)
  have tc_22 := lv_neT c_22 (show (100 : Int32).toInt = 100 by decide)
  have tc_29 := lv_neT c_29 (show (102 : Int32).toInt = 102 by decide)
  have tc_36 := lv_neT c_36 (show (108 : Int32).toInt = 108 by decide)
  have tc_43 := lv_neT c_43 (show (109 : Int32).toInt = 109 by decide)
  have tc_50 := lv_neT c_50 (show (115 : Int32).toInt = 115 by decide)
  have tc_57 := lv_neT c_57 (show (116 : Int32).toInt = 116 by decide)
  have tc_64 := lv_neT c_64 (show (117 : Int32).toInt = 117 by decide)
  have tc_71 := lv_neT c_71 (show (120 : Int32).toInt = 120 by decide)
  have hg_78 : ∀ n9 : Nat, n9 < 38 → (decide (n9 ∈ [0, 15, 16, 17, 19, 25, 26, 32, 33, 34, 37]) || (#[192, 291, 291, 291, 291, 291, 291, 291, 291, 291, 291, 291, 291, 291, 291, 242, 229, 252, 291, 209, 291, 291, 291, 291, 291, 166, 271, 291, 291, 291, 291, 291, 175, 262, 219, 291, 291, 281] : Array Int)[n9]? == some (291 : Int)) = true := by decide
  have hgd_79 : (C.1).toInt < 83 ∨ 120 < (C.1).toInt ∨ (#[192, 291, 291, 291, 291, 291, 291, 291, 291, 291, 291, 291, 291, 291, 291, 242, 229, 252, 291, 209, 291, 291, 291, 291, 291, 166, 271, 291, 291, 291, 291, 291, 175, 262, 219, 291, 291, 281] : Array Int)[((C.1).toInt - 83).toNat]? = some (291 : Int) := by
    by_cases h8 : (C.1).toInt < 83 ∨ 120 < (C.1).toInt
    · exact h8.elim Or.inl (fun z => Or.inr (Or.inl z))
    · rcases (Bool.or_eq_true _ _).mp (hg_78 ((C.1).toInt - 83).toNat (by omega)) with h6 | h6
      · exfalso
        have h5 := of_decide_eq_true h6
        simp only [List.mem_cons, List.not_mem_nil, or_false] at h5
        omega
      · exact Or.inr (Or.inr (eq_of_beq h6))
  refine lv_tableD (tgt := 317) hx hb dX10_carriedOut_26 hgd_79 (by decide) ?_
  refine lv_aload_n hx hb dX10_carriedOut_317 rfl (lv_at hl 3 rfl) ?_
  refine fw_get (v := .ref y) (C := RX10) (T := TX10) (N := 9) hx hb hts hin10 hown hK hR hx0 rfl 0 (by decide) (hts (.fieldLink RX10 10 "UnreadLeaflets" "changes" "LUnreadLeaflets$Changes;") (by decide +kernel)) rfl dX10_carriedOut_318 ?_
  refine lv_iload_n hx hb dX10_carriedOut_321 rfl (lv_at hl 2 rfl) ?_
  refine lv_iload_n hx hb dX10_carriedOut_322 rfl (lv_at hl 1 rfl) ?_
  have hAk : ArcS G ω.2 a v := hA
  refine fw_call (va_runV (As := [.int (C.2.1 0), .int (C.2.1 1)]) (rest := []) ⟨hx, hb, hml, hown, hts⟩ (c_X1_findParts G hL l ω y a v k1 k2 k3 hy (by omega) hAk hk hW0 (C.2.1 0) (C.2.1 1)) (cwV 2 hts gX10_carriedOut_X1_findParts rfl rfl rfl (by decide +kernel) ⟨Nat.le_of_ble_eq_true rfl, Nat.le_of_ble_eq_true rfl⟩) (fw_preV hW hK hR hy rfl) rfl rfl hl.1 rfl (lv_room (Nat.le_of_ble_eq_true rfl)) dX10_carriedOut_323 ⟨Nat.le_of_ble_eq_true rfl, Nat.le_of_ble_eq_true rfl⟩) hS (fun v_80 ω_81 H locs hq_82 hR hS => ?_)
  obtain ⟨rfl, z_83, hA2, hk2, fr_84⟩ := hq_82
  refine W.eq (g2 := F0 mI 326 ls [.int ((findC v k1 k2 k3 (C.2.1 0) (C.2.1 1)).1)]) rfl ?_
  refine fw_iret hx hb hr hlocks hR hS dX10_carriedOut_326 ?_
  have hr_85 : doC v k1 k2 k3 C = (findC v k1 k2 k3 (C.2.1 0) (C.2.1 1)) := by
    unfold doC
    rw [if_neg c_1, if_neg c_8, if_neg c_15, if_neg c_22, if_neg c_29, if_neg c_36, if_neg c_43, if_neg c_50, if_neg c_57, if_neg c_64, if_neg c_71]
  rw [hr_85]
  exact ⟨rfl, z_83, hA2, hk2, fr_84⟩
set_option maxHeartbeats 4000000 in
set_option maxRecDepth 100000 in
theorem c_X10_firstRefused (G : FG) (hL : FL G) (l : Launch) (ω : FWd) (x y a hs0 sn tx ln tt : Nat) (v : Nat → Nat → Int32) (hsn k1 k2 k3 : Int32) (hXA : XA x y a hs0 sn tx ln tt) (hx0 : ω.2 x = some (.inr (12, [.ref y, .ref a, .ref (a + 51), .ref hs0, .ref sn, .int hsn, .ref tx, .ref ln, .ref tt]))) (hy : ω.2 y = some (.inr (3, [.ref a, .ref (a + 51)]))) (hA : ArcS G ω.2 a v) (hk : ω.2 (a + 51) = some (.inr (9, [.int k1, .int k2, .int k3]))) (hW0 : WF v) (tl tp cn : Nat) (tft : Int32) (htx : ω.2 tx = some (.inr (10, [.ref (tx + 1), .int (nI tl), .int (nI tp), .ref (tx + 2), .int (nI cn), .int tft]))) (hrow : ω.2 (tx + 2) = some (.inl (G.2.1 5, 20, .inr (.inr (.inr (.inr (fun z9 => some (tx + 3 + 2 * z9)))))))) (Cs : Nat → CM) (hCs : (∀ i, i < 20 → CmdS G ω.2 (tx + 3 + 2 * i) (Cs i).1 (Cs i).2.1 (Cs i).2.2.1 (Cs i).2.2.2 ∧ (Cs i).2.2.1 ≤ 3)) (hcn : cn ≤ 20) (hWk : ∀ k, k < cn → (∀ j, j < k → ¬ (atC Cs (v, k1, k2, k3) j).1 = -1) → WF (itC Cs (v, k1, k2, k3) k).1) : FMet G l yX10_firstRefused wsX10_firstRefused ({ frames := 5, cells := 0, slots := 0, locals := 117 } : Room) [.ref x] ω (fun vv9 τ9 => ∃ (r9 : Int32) (Z9 : S4), vv9 = some (.int r9) ∧ RunP Cs (v, k1, k2, k3) cn r9 Z9 ∧ τ9.1 = ω.1 ∧ ArcS G τ9.2 a Z9.1 ∧ τ9.2 (a + 51) = some (.inr (9, [.int Z9.2.1, .int Z9.2.2.1, .int Z9.2.2.2])) ∧ ∀ q : Nat, (q < a ∨ a + 52 ≤ q) → τ9.2 q = ω.2 q) 0 0 := by
  refine fw_ofW (cc := cX10_firstRefused) (maxL := 2) (ret := (some .int)) (by decide) rfl (Nat.le_of_ble_eq_true rfl) ?_
  intro pP eE sS mI ar9 bl9 meth cD ls hx hb hr hlocks hml hts hown hnm hW hR hl
  have hK := hL.K hW
  have hS : va_S (fwA G) sS.heap sS.heap [] := va_S.rf
  have hin8 : ∀ w ∈ u_ws RX8 TX8 6, w ∈ wsX10_firstRefused := by decide +kernel
  have hin10 : ∀ w ∈ u_ws RX10 TX10 9, w ∈ wsX10_firstRefused := by decide +kernel
  have hl : lv_has ls 2 [(0, .ref x)] := hl
  obtain ⟨h0, h1, h2, h3, h4, h5, hLf, hCo⟩ := id hA
  obtain ⟨hxy, hxa, hxh, hxs, hxt, hxl, hxu⟩ := id hXA
  refine lv_iconst (v := 0) hx hb dX10_firstRefused_0 (by decide) ?_
  refine lv_istore_n (lv' := [(1, .int 0), (0, .ref x)]) hx hb dX10_firstRefused_1 rfl hl (by decide) rfl (fun ls hl => ?_)
  have loop_1 : ∀ (fu : Nat) (k : Nat) (τ1 : FWd), (cn - k) < fu → (k ≤ cn) → (∀ j, j < k → ¬ (atC Cs (v, k1, k2, k3) j).1 = -1) → (ArcS G τ1.2 a (itC Cs (v, k1, k2, k3) k).1) → (∀ i, i < 20 → CmdS G τ1.2 (tx + 3 + 2 * i) (Cs i).1 (Cs i).2.1 (Cs i).2.2.1 (Cs i).2.2.2) → τ1.1 = ω.1 → τ1.2 x = some (.inr (12, [.ref y, .ref a, .ref (a + 51), .ref hs0, .ref sn, .int hsn, .ref tx, .ref ln, .ref tt])) → τ1.2 y = some (.inr (3, [.ref a, .ref (a + 51)])) → τ1.2 (a + 51) = some (.inr (9, [.int (itC Cs (v, k1, k2, k3) k).2.1, .int (itC Cs (v, k1, k2, k3) k).2.2.1, .int (itC Cs (v, k1, k2, k3) k).2.2.2])) → τ1.2 tx = some (.inr (10, [.ref (tx + 1), .int (nI tl), .int (nI tp), .ref (tx + 2), .int (nI cn), .int tft])) → τ1.2 (tx + 2) = some (.inl (G.2.1 5, 20, .inr (.inr (.inr (.inr (fun z9 => some (tx + 3 + 2 * z9))))))) → (∀ q : Nat, (q < a ∨ a + 52 ≤ q) → τ1.2 q = ω.2 q) → ∀ (H : Heap) (locs : List Loc) (ls : Array Slot), fR G τ1 H → va_S (fwA G) sS.heap H locs → lv_has ls 2 [(1, .int (nI k)), (0, .ref x)] → W pP l eE ({ frames := 5, cells := 0, slots := 0, locals := 117 } : Room) sS mI ar9 bl9 meth cD H locs 0 0 (MQ bl9 (fQ G (fun vv9 τ9 => ∃ (r9 : Int32) (Z9 : S4), vv9 = some (.int r9) ∧ RunP Cs (v, k1, k2, k3) cn r9 Z9 ∧ τ9.1 = ω.1 ∧ ArcS G τ9.2 a Z9.1 ∧ τ9.2 (a + 51) = some (.inr (9, [.int Z9.2.1, .int Z9.2.2.1, .int Z9.2.2.2])) ∧ ∀ q : Nat, (q < a ∨ a + 52 ≤ q) → τ9.2 q = ω.2 q)) ar9 sS 0 0 (fwA G)) (F0 mI 2 ls []) := by
    intro fu
    induction fu with
    | zero => intro k τ1 hfu; exact absurd hfu (Nat.not_lt_zero _)
    | succ fu ih =>
      intro k τ1 hfu hk9 hok hA1 hCs1 hzτ1 w0 w1 hk1 w3 w4 hfrτ1 H locs ls hR hS hl
      refine lv_iload_n hx hb dX10_firstRefused_2 rfl (lv_at hl 0 rfl) ?_
      refine lv_aload_n hx hb dX10_firstRefused_3 rfl (lv_at hl 1 rfl) ?_
      refine fw_get (v := .ref tx) (C := RX10) (T := TX10) (N := 9) hx hb hts hin10 hown hK hR w0 rfl 6 (by decide) (hts (.fieldLink RX10 42 "UnreadLeaflets" "text" "LUnreadLeaflets$Text;") (by decide +kernel)) rfl dX10_firstRefused_4 ?_
      refine fw_get (v := .int (nI cn)) (C := RX8) (T := TX8) (N := 6) hx hb hts hin8 hown hK hR w3 rfl 4 (by decide) (hts (.fieldLink RX10 351 "UnreadLeaflets$Text" "commandCount" "I") (by decide +kernel)) rfl dX10_firstRefused_7 ?_
      refine lv_icmp_ge (tgt := 38) hx hb dX10_firstRefused_10 (by decide) (fun c_2 => ?_) (fun c_2 => ?_)
      · skip
        have hkn : cn = k := by have h9 := (nI_leI (by omega) (by omega)).mp c_2; omega
        subst hkn
        refine lv_iconst (v := (-1)) hx hb dX10_firstRefused_38 (by decide) ?_
        refine fw_iret hx hb hr hlocks hR hS dX10_firstRefused_39 ?_
        have hfr9 : ∀ q : Nat, (q < a ∨ a + 52 ≤ q) → τ1.2 q = ω.2 q := by
          intro q hq0
          rw [hfrτ1 q (by omega)]
        have hz9 : τ1.1 = ω.1 := by rw [hzτ1]
        exact ⟨_, itC Cs (v, k1, k2, k3) cn, rfl, ⟨cn, Nat.le_refl _, hok, Or.inl ⟨rfl, rfl, rfl⟩⟩, hz9, hA1, hk1, hfr9⟩
      · skip
        have hk2 : k < cn := Nat.lt_of_not_le (fun z => c_2 ((nI_leI (by omega) (by omega)).mpr z))
        refine lv_aload_n hx hb dX10_firstRefused_13 rfl (lv_at hl 1 rfl) ?_
        refine lv_aload_n hx hb dX10_firstRefused_14 rfl (lv_at hl 1 rfl) ?_
        refine fw_get (v := .ref tx) (C := RX10) (T := TX10) (N := 9) hx hb hts hin10 hown hK hR w0 rfl 6 (by decide) (hts (.fieldLink RX10 42 "UnreadLeaflets" "text" "LUnreadLeaflets$Text;") (by decide +kernel)) rfl dX10_firstRefused_15 ?_
        refine fw_get (v := .ref (tx + 2)) (C := RX8) (T := TX8) (N := 6) hx hb hts hin8 hown hK hR w3 rfl 3 (by decide) (hts (.fieldLink RX10 354 "UnreadLeaflets$Text" "commands" "[LUnreadLeaflets$Command;") (by decide +kernel)) rfl dX10_firstRefused_18 ?_
        refine lv_iload_n hx hb dX10_firstRefused_21 rfl (lv_at hl 0 rfl) ?_
        refine fw_aald (b := tx + 3 + 2 * k) hx hb hK hR w4 rfl (vp_in_nI (by omega) (by omega)) (by rw [nI_clamp (by omega)]) dX10_firstRefused_22 ?_
        have f_3 : τ1.2 (tx + 3 + 2 * k) = some (.inr (4, [.int (Cs k).1, .ref (tx + 3 + 2 * k + 1), .int (nI (Cs k).2.2.1), .int (Cs k).2.2.2])) := (hCs1 k (by omega)).1
        have f_4 : τ1.2 (tx + 3 + 2 * k + 1) = some (.inl (G.2.1 0, 3, .inl (Cs k).2.1)) := (hCs1 k (by omega)).2
        refine fw_call (va_runV (As := [.ref (tx + 3 + 2 * k)]) (rest := []) ⟨hx, hb, hml, hown, hts⟩ (c_X10_carriedOut G hL l τ1 x y a hs0 sn tx ln tt (itC Cs (v, k1, k2, k3) k).1 hsn (itC Cs (v, k1, k2, k3) k).2.1 (itC Cs (v, k1, k2, k3) k).2.2.1 (itC Cs (v, k1, k2, k3) k).2.2.2 hXA w0 w1 hA1 hk1 (hWk k hk2 hok) (tx + 3 + 2 * k) (Cs k) ⟨f_3, f_4⟩) (cwV 1 hts gX10_firstRefused_X10_carriedOut rfl rfl rfl (by decide +kernel) ⟨Nat.le_of_ble_eq_true rfl, Nat.le_of_ble_eq_true rfl⟩) (fw_preV hW hK hR w0 rfl) rfl rfl hl.1 rfl (lv_room (Nat.le_of_ble_eq_true rfl)) dX10_firstRefused_23 ⟨Nat.le_of_ble_eq_true rfl, Nat.le_of_ble_eq_true rfl⟩) hS (fun v_5 ω_6 H locs hq_7 hR hS => ?_)
        obtain ⟨rfl, z_8, hA2, hk3, fr_9⟩ := hq_7
        refine W.eq (g2 := F0 mI 26 ls [.int ((atC Cs (v, k1, k2, k3) k).1)]) rfl ?_
        refine lv_iconst (v := (-1)) hx hb dX10_firstRefused_26 (by decide) ?_
        refine lv_icmp_ne (tgt := 32) hx hb dX10_firstRefused_27 (by decide) (fun c_10 => ?_) (fun c_10 => ?_)
        · skip
          obtain ⟨x_11, ex_11⟩ : ∃ y : Int32, y = (nI k) + 1 := ⟨_, rfl⟩
          refine lv_iinc (v := x_11) (lv' := [(1, .int x_11), (0, .ref x)]) hx hb dX10_firstRefused_32 hl (k := 0) rfl (by rw [ex_11]; rfl) (by decide) rfl (fun ls hl => ?_)
          refine lv_goto (tgt := 2) hx hb dX10_firstRefused_35 (by decide) ?_
          have el_1 : x_11 = nI (k + 1) := by rw [ex_11]; exact nI_1 k
          have hl := lv_sub (l' := [(1, .int x_11), (0, .ref x)]) hl [0, 1] rfl
          rw [el_1] at hl
          have f_12 : ω_6.2 x = some (.inr (12, [.ref y, .ref a, .ref (a + 51), .ref hs0, .ref sn, .int hsn, .ref tx, .ref ln, .ref tt])) := (fr_9 x (by omega)).trans w0
          have f_13 : ω_6.2 y = some (.inr (3, [.ref a, .ref (a + 51)])) := (fr_9 y (by omega)).trans w1
          have wf_14 : ω_6.2 (a + 51) = some (.inr (9, [.int (itC Cs (v, k1, k2, k3) (k + 1)).2.1, .int (itC Cs (v, k1, k2, k3) (k + 1)).2.2.1, .int (itC Cs (v, k1, k2, k3) (k + 1)).2.2.2])) := hk3.trans (congrArg some (by rfl))
          have f_15 : ω_6.2 tx = some (.inr (10, [.ref (tx + 1), .int (nI tl), .int (nI tp), .ref (tx + 2), .int (nI cn), .int tft])) := (fr_9 tx (by omega)).trans w3
          have f_16 : ω_6.2 (tx + 2) = some (.inl (G.2.1 5, 20, .inr (.inr (.inr (.inr (fun z9 => some (tx + 3 + 2 * z9))))))) := (fr_9 (tx + 2) (by omega)).trans w4
          have fr_17 : ∀ q : Nat, (q < a ∨ a + 52 ≤ q) → ω_6.2 q = ω.2 q := by
            intro q hq0
            rw [fr_9 q (by omega)]
            rw [hfrτ1 q (by omega)]
          have z_18 : ω_6.1 = ω.1 := by rw [z_8, hzτ1]
          exact ih (k + 1) ω_6 (by omega) (by omega) (by intro j hj; by_cases hjk : j = k; (subst hjk; exact c_10); exact hok j (by omega)) (by exact hA2) (by intro i hi; exact ⟨(by rw [fr_9 _ (by omega)]; exact (hCs1 i hi).1), (by rw [fr_9 _ (by omega)]; exact (hCs1 i hi).2)⟩) z_18 f_12 f_13 wf_14 f_15 f_16 fr_17 _ _ _ hR hS hl
        · skip
          refine lv_iload_n hx hb dX10_firstRefused_30 rfl (lv_at hl 0 rfl) ?_
          refine fw_iret hx hb hr hlocks hR hS dX10_firstRefused_31 ?_
          have hfr9 : ∀ q : Nat, (q < a ∨ a + 52 ≤ q) → ω_6.2 q = ω.2 q := by
            intro q hq0
            rw [fr_9 q (by omega)]
            rw [hfrτ1 q (by omega)]
          have hz9 : ω_6.1 = ω.1 := by rw [z_8, hzτ1]
          exact ⟨_, (atC Cs (v, k1, k2, k3) k).2, rfl, ⟨k, hk9, hok, Or.inr ⟨hk2, c_10, rfl, rfl⟩⟩, hz9, hA2, hk3, hfr9⟩
  exact loop_1 _ 0 ω (Nat.lt_succ_self _) (by first | rfl | assumption | omega | (simp; done)) (by intro j hj; exact absurd hj (Nat.not_lt_zero _)) (by exact hA) (by intro i hi; exact (hCs i hi).1) rfl hx0 hy hk htx hrow (fun _ _ => rfl) _ _ _ hR hS (lv_sub hl [0, 1] rfl)
set_option maxHeartbeats 4000000 in
set_option maxRecDepth 100000 in
theorem c_X10_commands (G : FG) (hL : FL G) (l : Launch) (hX0 : FX0 G l) (ω : FWd) (adr : Nat → Nat) (hF : FTx G adr) (hJ : FJ G) (x y a hs0 sn tx ln tt : Nat) (v : Nat → Nat → Int32) (hsn k1 k2 k3 : Int32) (R : Nat → Nat → Nat → Int32) (p ct : Nat) (hXA : XA x y a hs0 sn tx ln tt) (hx0 : ω.2 x = some (.inr (12, [.ref y, .ref a, .ref (a + 51), .ref hs0, .ref sn, .int hsn, .ref tx, .ref ln, .ref tt]))) (hy : ω.2 y = some (.inr (3, [.ref a, .ref (a + 51)]))) (hA : ArcS G ω.2 a v) (hk : ω.2 (a + 51) = some (.inr (9, [.int k1, .int k2, .int k3]))) (hH : HisS G ω.2 hs0 R p ct) (hp : p < 9) (hct : ct ≤ 8) (hW0 : WF v) (f : Nat → Int32) (tl tp cn : Nat) (tft : Int32) (hT : TxtS G ω.2 tx f tl tp cn tft) (hl60 : tl ≤ 60) (hrow : ω.2 (tx + 2) = some (.inl (G.2.1 5, 20, .inr (.inr (.inr (.inr (fun z9 => some (tx + 3 + 2 * z9)))))))) (Cs : Nat → CM) (hCs : (∀ i, i < 20 → CmdS G ω.2 (tx + 3 + 2 * i) (Cs i).1 (Cs i).2.1 (Cs i).2.2.1 (Cs i).2.2.2 ∧ (Cs i).2.2.1 ≤ 3)) (hfc : ∀ i, i < tl → ∃ z, f i = chC z) (hWk : ∀ k, k < (csR f tl 20 0 0 Cs).2.2.1 → (∀ j, j < k → ¬ (atC (csR f tl 20 0 0 Cs).2.2.2 (v, k1, k2, k3) j).1 = -1) → WF (itC (csR f tl 20 0 0 Cs).2.2.2 (v, k1, k2, k3) k).1) : FMetX G l yX10_commands wsX10_commands ({ frames := 7, cells := 1, slots := 6, locals := 152 } : Room) [.ref x] ω (fun vv9 τ9 => vv9 = some (.int (nI (csR f tl 20 0 0 Cs).2.2.1)) ∧ ¬ (csR f tl 20 0 0 Cs).1 = 0 ∧ (∃ Z9 : S4, RunP (csR f tl 20 0 0 Cs).2.2.2 (v, k1, k2, k3) (csR f tl 20 0 0 Cs).2.2.1 (-1) Z9 ∧ ArcS G τ9.2 a Z9.1 ∧ τ9.2 (a + 51) = some (.inr (9, [.int Z9.2.1, .int Z9.2.2.1, .int Z9.2.2.2]))) ∧ (∃ w9, HisS G τ9.2 hs0 (updR R p w9) ((p + 1) % 9) (min (ct + 1) 8) ∧ Live w9 v) ∧ (τ9.2 tx = some (.inr (10, [.ref (tx + 1), .int (nI 0), .int (nI (csR f tl 20 0 0 Cs).2.1), .ref (tx + 2), .int (nI (csR f tl 20 0 0 Cs).2.2.1), .int (if (csR f tl 20 0 0 Cs).1 = 0 then nI (csR f tl 20 0 0 Cs).2.1 else -1)])) ∧ (∀ i, i < 20 → CmdS G τ9.2 (tx + 3 + 2 * i) ((csR f tl 20 0 0 Cs).2.2.2 i).1 ((csR f tl 20 0 0 Cs).2.2.2 i).2.1 ((csR f tl 20 0 0 Cs).2.2.2 i).2.2.1 ((csR f tl 20 0 0 Cs).2.2.2 i).2.2.2 ∧ ((csR f tl 20 0 0 Cs).2.2.2 i).2.2.1 ≤ 3)) ∧ ∀ q : Nat, (q < a ∨ (hs0 + 461 ≤ q ∧ q < tx) ∨ tx + 43 ≤ q ∨ q = tx + 1 ∨ q = tx + 2) → τ9.2 q = ω.2 q) (fun E9 τ9 => (E9 = "java/lang/IllegalArgumentException" ∧ (csR f tl 20 0 0 Cs).1 = 0 ∧ (τ9.2 tx = some (.inr (10, [.ref (tx + 1), .int (nI 0), .int (nI (csR f tl 20 0 0 Cs).2.1), .ref (tx + 2), .int (nI (csR f tl 20 0 0 Cs).2.2.1), .int (if (csR f tl 20 0 0 Cs).1 = 0 then nI (csR f tl 20 0 0 Cs).2.1 else -1)])) ∧ (∀ i, i < 20 → CmdS G τ9.2 (tx + 3 + 2 * i) ((csR f tl 20 0 0 Cs).2.2.2 i).1 ((csR f tl 20 0 0 Cs).2.2.2 i).2.1 ((csR f tl 20 0 0 Cs).2.2.2 i).2.2.1 ((csR f tl 20 0 0 Cs).2.2.2 i).2.2.2 ∧ ((csR f tl 20 0 0 Cs).2.2.2 i).2.2.1 ≤ 3)) ∧ ∀ q : Nat, (q < tx ∨ tx + 43 ≤ q ∨ q = tx + 1 ∨ q = tx + 2) → τ9.2 q = ω.2 q) ∨ (E9 = "java/lang/UnsupportedOperationException" ∧ ¬ (csR f tl 20 0 0 Cs).1 = 0 ∧ (∃ (m9 : Nat) (Z9 : S4), m9 < (csR f tl 20 0 0 Cs).2.2.1 ∧ RunP (csR f tl 20 0 0 Cs).2.2.2 (v, k1, k2, k3) (csR f tl 20 0 0 Cs).2.2.1 (nI m9) Z9 ∧ τ9.2 (a + 51) = some (.inr (9, [.int Z9.2.1, .int Z9.2.2.1, .int (nI m9)]))) ∧ (∃ w9, HisS G τ9.2 hs0 (updR R p w9) p ct ∧ Live w9 v) ∧ (∃ w8, ArcS G τ9.2 a w8 ∧ Live w8 v) ∧ (τ9.2 tx = some (.inr (10, [.ref (tx + 1), .int (nI 0), .int (nI (csR f tl 20 0 0 Cs).2.1), .ref (tx + 2), .int (nI (csR f tl 20 0 0 Cs).2.2.1), .int (if (csR f tl 20 0 0 Cs).1 = 0 then nI (csR f tl 20 0 0 Cs).2.1 else -1)])) ∧ (∀ i, i < 20 → CmdS G τ9.2 (tx + 3 + 2 * i) ((csR f tl 20 0 0 Cs).2.2.2 i).1 ((csR f tl 20 0 0 Cs).2.2.2 i).2.1 ((csR f tl 20 0 0 Cs).2.2.2 i).2.2.1 ((csR f tl 20 0 0 Cs).2.2.2 i).2.2.2 ∧ ((csR f tl 20 0 0 Cs).2.2.2 i).2.2.1 ≤ 3)) ∧ ∀ q : Nat, (q < a ∨ (hs0 + 461 ≤ q ∧ q < tx) ∨ tx + 43 ≤ q ∨ q = tx + 1 ∨ q = tx + 2) → τ9.2 q = ω.2 q)) 1 6 := by
  refine fx_ofW (cc := cX10_commands) (maxL := 2) (ret := (some .int)) (by decide) rfl (Nat.le_of_ble_eq_true rfl) ?_
  intro pP eE sS mI ar9 bl9 meth cD ls hx hb hr hlocks hml hts hown hnm hW hR ht9 hl
  have hK := hL.K hW
  have hR0 := hR
  have hS : va_S (fwA G) sS.heap sS.heap [] := va_S.rf
  have hin7 : ∀ w ∈ u_ws RX7 TX7 3, w ∈ wsX10_commands := by decide +kernel
  have hin8 : ∀ w ∈ u_ws RX8 TX8 6, w ∈ wsX10_commands := by decide +kernel
  have hin10 : ∀ w ∈ u_ws RX10 TX10 9, w ∈ wsX10_commands := by decide +kernel
  have hl : lv_has ls 2 [(0, .ref x)] := hl
  obtain ⟨g0, g1, g2⟩ := id hH
  obtain ⟨h0, h1, h2, h3, h4, h5, hLf, hCo⟩ := id hA
  obtain ⟨hxy, hxa, hxh, hxs, hxt, hxl, hxu⟩ := id hXA
  obtain ⟨t0, t1⟩ := id hT
  refine lv_aload_n hx hb dX10_commands_0 rfl (lv_at hl 0 rfl) ?_
  refine fw_get (v := .ref tx) (C := RX10) (T := TX10) (N := 9) hx hb hts hin10 hown hK hR hx0 rfl 6 (by decide) (hts (.fieldLink RX10 42 "UnreadLeaflets" "text" "LUnreadLeaflets$Text;") (by decide +kernel)) rfl dX10_commands_1 ?_
  refine fw_call (va_runV (As := []) (rest := []) ⟨hx, hb, hml, hown, hts⟩ (c_X8_readAndEmpty G hL l ω adr hF hJ tx f tl tp cn tft hT hl60 hrow Cs hCs hfc) (cwV 0 hts gX10_commands_X8_readAndEmpty rfl rfl rfl (by decide +kernel) ⟨Nat.le_of_ble_eq_true rfl, Nat.le_of_ble_eq_true rfl⟩) (fw_preV hW hK hR t0 rfl) rfl rfl hl.1 rfl (lv_room (Nat.le_of_ble_eq_true rfl)) dX10_commands_4 ⟨Nat.le_of_ble_eq_true rfl, Nat.le_of_ble_eq_true rfl⟩) hS (fun v_1 ω_2 H locs hq_3 hR hS => ?_)
  obtain ⟨rfl, z_4, htx9, hCs9, fr_5⟩ := hq_3
  refine W.eq (g2 := F0 mI 7 ls []) rfl ?_
  refine lv_aload_n hx hb dX10_commands_7 rfl (lv_at hl 0 rfl) ?_
  have f_6 : ω_2.2 x = some (.inr (12, [.ref y, .ref a, .ref (a + 51), .ref hs0, .ref sn, .int hsn, .ref tx, .ref ln, .ref tt])) := (fr_5 x (by omega)).trans hx0
  refine fw_get (v := .ref tx) (C := RX10) (T := TX10) (N := 9) hx hb hts hin10 hown hK hR f_6 rfl 6 (by decide) (hts (.fieldLink RX10 42 "UnreadLeaflets" "text" "LUnreadLeaflets$Text;") (by decide +kernel)) rfl dX10_commands_8 ?_
  refine fw_get (v := .int (if (csR f tl 20 0 0 Cs).1 = 0 then nI (csR f tl 20 0 0 Cs).2.1 else -1)) (C := RX8) (T := TX8) (N := 6) hx hb hts hin8 hown hK hR htx9 rfl 5 (by decide) (hts (.fieldLink RX10 333 "UnreadLeaflets$Text" "fault" "I") (by decide +kernel)) rfl dX10_commands_11 ?_
  refine lv_iconst (v := (-1)) hx hb dX10_commands_14 (by decide) ?_
  refine lv_icmp_eq (tgt := 29) hx hb dX10_commands_15 (by decide) (fun c_7 => ?_) (fun c_7 => ?_)
  · skip
    have hne : ¬ (csR f tl 20 0 0 Cs).1 = 0 := fun z9 => by have h9 := c_7; rw [if_pos z9] at h9; exact nI_mm1 (by have := csR_pos (f := f) (len := tl) (h60 := hl60) 20 0 0 Cs (Nat.zero_le _) (fun i hi => (hCs i (by omega)).2) (by omega); omega) h9
    refine lv_aload_n hx hb dX10_commands_29 rfl (lv_at hl 0 rfl) ?_
    refine fw_get (v := .ref hs0) (C := RX10) (T := TX10) (N := 9) hx hb hts hin10 hown hK hR f_6 rfl 3 (by decide) (hts (.fieldLink RX10 29 "UnreadLeaflets" "history" "LUnreadLeaflets$History;") (by decide +kernel)) rfl dX10_commands_30 ?_
    refine lv_aload_n hx hb dX10_commands_33 rfl (lv_at hl 0 rfl) ?_
    refine fw_get (v := .ref a) (C := RX10) (T := TX10) (N := 9) hx hb hts hin10 hown hK hR f_6 rfl 1 (by decide) (hts (.fieldLink RX10 20 "UnreadLeaflets" "archive" "LUnreadLeaflets$Archive;") (by decide +kernel)) rfl dX10_commands_34 ?_
    have hAn : ArcS G ω_2.2 a v := (hA).keep (fun q q1 q2 => by
      rw [fr_5 q (by omega)])
    have hHn0 : HisS G ω_2.2 hs0 R p ct := (hH).keep (fun q q1 q2 => by
      rw [fr_5 q (by omega)])
    have f_8 : ω_2.2 hs0 = some (.inr (6, [.ref (hs0 + 1), .int (nI p), .int (nI ct)])) := (fr_5 hs0 (by omega)).trans g0
    refine fw_call (va_runV (As := [.ref a]) (rest := []) ⟨hx, hb, hml, hown, hts⟩ (c_X4_note G hL l ω_2 hs0 R p ct hHn0 hp hct a v hAn (by omega) hW0) (cwV 1 hts gX10_commands_X4_note rfl rfl rfl (by decide +kernel) ⟨Nat.le_of_ble_eq_true rfl, Nat.le_of_ble_eq_true rfl⟩) (fw_preV hW hK hR f_8 rfl) rfl rfl hl.1 rfl (lv_room (Nat.le_of_ble_eq_true rfl)) dX10_commands_37 ⟨Nat.le_of_ble_eq_true rfl, Nat.le_of_ble_eq_true rfl⟩) hS (fun v_9 ω_10 H locs hq_11 hR hS => ?_)
    obtain ⟨rfl, z_12, ⟨t_14, hA_15, hv_16⟩, fr_13⟩ := hq_11
    have hHn : HisS G ω_10.2 hs0 (updR R p t_14) p ct := (hHn0).set1 hp hA_15 (fun q hq => fr_13 q hq)
    refine W.eq (g2 := F0 mI 40 ls []) rfl ?_
    refine lv_aload_n hx hb dX10_commands_40 rfl (lv_at hl 0 rfl) ?_
    have hA1 : ArcS G ω_10.2 a v := (hA).keep (fun q q1 q2 => by
      rw [fr_13 q (by omega)]
      rw [fr_5 q (by omega)])
    have f_17 : ω_10.2 x = some (.inr (12, [.ref y, .ref a, .ref (a + 51), .ref hs0, .ref sn, .int hsn, .ref tx, .ref ln, .ref tt])) := (fr_13 x (by omega)).trans f_6
    have f_18 : ω_2.2 y = some (.inr (3, [.ref a, .ref (a + 51)])) := (fr_5 y (by omega)).trans hy
    have f_19 : ω_10.2 y = some (.inr (3, [.ref a, .ref (a + 51)])) := (fr_13 y (by omega)).trans f_18
    have f_20 : ω_2.2 (a + 51) = some (.inr (9, [.int k1, .int k2, .int k3])) := (fr_5 (a + 51) (by omega)).trans hk
    have f_21 : ω_10.2 (a + 51) = some (.inr (9, [.int k1, .int k2, .int k3])) := (fr_13 (a + 51) (by omega)).trans f_20
    have f_22 : ω_10.2 tx = some (.inr (10, [.ref (tx + 1), .int (nI 0), .int (nI (csR f tl 20 0 0 Cs).2.1), .ref (tx + 2), .int (nI (csR f tl 20 0 0 Cs).2.2.1), .int (if (csR f tl 20 0 0 Cs).1 = 0 then nI (csR f tl 20 0 0 Cs).2.1 else -1)])) := (fr_13 tx (by omega)).trans htx9
    have f_23 : ω_2.2 (tx + 2) = some (.inl (G.2.1 5, 20, .inr (.inr (.inr (.inr (fun z9 => some (tx + 3 + 2 * z9))))))) := (fr_5 (tx + 2) (by omega)).trans hrow
    have f_24 : ω_10.2 (tx + 2) = some (.inl (G.2.1 5, 20, .inr (.inr (.inr (.inr (fun z9 => some (tx + 3 + 2 * z9))))))) := (fr_13 (tx + 2) (by omega)).trans f_23
    have hCs8 : (∀ i, i < 20 → CmdS G ω_10.2 (tx + 3 + 2 * i) ((csR f tl 20 0 0 Cs).2.2.2 i).1 ((csR f tl 20 0 0 Cs).2.2.2 i).2.1 ((csR f tl 20 0 0 Cs).2.2.2 i).2.2.1 ((csR f tl 20 0 0 Cs).2.2.2 i).2.2.2 ∧ ((csR f tl 20 0 0 Cs).2.2.2 i).2.2.1 ≤ 3) := by
      intro i hi
      refine ⟨⟨?_, ?_⟩, (hCs9 i hi).2⟩
      · rw [fr_13 _ (by omega)]
        exact (hCs9 i hi).1.1
      · rw [fr_13 _ (by omega)]
        exact (hCs9 i hi).1.2
    refine fw_call (va_runV (As := []) (rest := []) ⟨hx, hb, hml, hown, hts⟩ (c_X10_firstRefused G hL l ω_10 x y a hs0 sn tx ln tt v hsn k1 k2 k3 hXA f_17 f_19 hA1 f_21 hW0 0 (csR f tl 20 0 0 Cs).2.1 (csR f tl 20 0 0 Cs).2.2.1 (if (csR f tl 20 0 0 Cs).1 = 0 then nI (csR f tl 20 0 0 Cs).2.1 else -1) f_22 f_24 (csR f tl 20 0 0 Cs).2.2.2 hCs8 (csR_le _ _ _ (by omega)) hWk) (cwV 0 hts gX10_commands_X10_firstRefused rfl rfl rfl (by decide +kernel) ⟨Nat.le_of_ble_eq_true rfl, Nat.le_of_ble_eq_true rfl⟩) (fw_preV hW hK hR f_17 rfl) rfl rfl hl.1 rfl (lv_room (Nat.le_of_ble_eq_true rfl)) dX10_commands_41 ⟨Nat.le_of_ble_eq_true rfl, Nat.le_of_ble_eq_true rfl⟩) hS (fun v_25 ω_26 H locs hq_27 hR hS => ?_)
    obtain ⟨r9, Z9, rfl, hrun, z_28, hA2, hk2, fr_29⟩ := hq_27
    refine W.eq (g2 := F0 mI 44 ls [.int r9]) rfl ?_
    refine lv_istore_n (lv' := [(1, .int r9), (0, .ref x)]) hx hb dX10_commands_44 rfl hl (by decide) rfl (fun ls hl => ?_)
    refine lv_iload_n hx hb dX10_commands_45 rfl (lv_at hl 0 rfl) ?_
    refine lv_iconst (v := (-1)) hx hb dX10_commands_46 (by decide) ?_
    refine lv_icmp_eq (tgt := 80) hx hb dX10_commands_47 (by decide) (fun c_30 => ?_) (fun c_30 => ?_)
    · skip
      have hr9 : r9 = -1 := c_30
      refine lv_aload_n hx hb dX10_commands_80 rfl (lv_at hl 1 rfl) ?_
      have f_31 : ω_26.2 x = some (.inr (12, [.ref y, .ref a, .ref (a + 51), .ref hs0, .ref sn, .int hsn, .ref tx, .ref ln, .ref tt])) := (fr_29 x (by omega)).trans f_17
      refine fw_get (v := .ref hs0) (C := RX10) (T := TX10) (N := 9) hx hb hts hin10 hown hK hR f_31 rfl 3 (by decide) (hts (.fieldLink RX10 29 "UnreadLeaflets" "history" "LUnreadLeaflets$History;") (by decide +kernel)) rfl dX10_commands_81 ?_
      have hHk : HisS G ω_26.2 hs0 (updR R p t_14) p ct := (hHn).keep (fun q q1 q2 => by
        rw [fr_29 q (by omega)])
      have f_32 : ω_10.2 hs0 = some (.inr (6, [.ref (hs0 + 1), .int (nI p), .int (nI ct)])) := (fr_13 hs0 (by omega)).trans f_8
      have f_33 : ω_26.2 hs0 = some (.inr (6, [.ref (hs0 + 1), .int (nI p), .int (nI ct)])) := (fr_29 hs0 (by omega)).trans f_32
      refine fw_call (va_runV (As := []) (rest := []) ⟨hx, hb, hml, hown, hts⟩ (c_X4_keep G hL l ω_26 hs0 (updR R p t_14) p ct hHk hp hct) (cwV 0 hts gX10_commands_X4_keep rfl rfl rfl (by decide +kernel) ⟨Nat.le_of_ble_eq_true rfl, Nat.le_of_ble_eq_true rfl⟩) (fw_preV hW hK hR f_33 rfl) rfl rfl hl.1 rfl (lv_room (Nat.le_of_ble_eq_true rfl)) dX10_commands_84 ⟨Nat.le_of_ble_eq_true rfl, Nat.le_of_ble_eq_true rfl⟩) hS (fun v_34 ω_35 H locs hq_36 hR hS => ?_)
      obtain ⟨rfl, z_37, f_39, fr_38⟩ := hq_36
      refine W.eq (g2 := F0 mI 87 ls []) rfl ?_
      refine lv_aload_n hx hb dX10_commands_87 rfl (lv_at hl 1 rfl) ?_
      have f_40 : ω_35.2 x = some (.inr (12, [.ref y, .ref a, .ref (a + 51), .ref hs0, .ref sn, .int hsn, .ref tx, .ref ln, .ref tt])) := (fr_38 x (by omega)).trans f_31
      refine fw_get (v := .ref tx) (C := RX10) (T := TX10) (N := 9) hx hb hts hin10 hown hK hR f_40 rfl 6 (by decide) (hts (.fieldLink RX10 42 "UnreadLeaflets" "text" "LUnreadLeaflets$Text;") (by decide +kernel)) rfl dX10_commands_88 ?_
      have f_41 : ω_26.2 tx = some (.inr (10, [.ref (tx + 1), .int (nI 0), .int (nI (csR f tl 20 0 0 Cs).2.1), .ref (tx + 2), .int (nI (csR f tl 20 0 0 Cs).2.2.1), .int (if (csR f tl 20 0 0 Cs).1 = 0 then nI (csR f tl 20 0 0 Cs).2.1 else -1)])) := (fr_29 tx (by omega)).trans f_22
      have f_42 : ω_35.2 tx = some (.inr (10, [.ref (tx + 1), .int (nI 0), .int (nI (csR f tl 20 0 0 Cs).2.1), .ref (tx + 2), .int (nI (csR f tl 20 0 0 Cs).2.2.1), .int (if (csR f tl 20 0 0 Cs).1 = 0 then nI (csR f tl 20 0 0 Cs).2.1 else -1)])) := (fr_38 tx (by omega)).trans f_41
      refine fw_get (v := .int (nI (csR f tl 20 0 0 Cs).2.2.1)) (C := RX8) (T := TX8) (N := 6) hx hb hts hin8 hown hK hR f_42 rfl 4 (by decide) (hts (.fieldLink RX10 351 "UnreadLeaflets$Text" "commandCount" "I") (by decide +kernel)) rfl dX10_commands_91 ?_
      refine W.widen (k := 1) (n := 6) (by first | omega | decide) (by first | omega | decide) ?_
      refine vx_ret ?_
      refine fw_iret hx hb hr hlocks hR hS dX10_commands_94 ?_
      have hfr9 : ∀ q : Nat, (q < a ∨ (hs0 + 461 ≤ q ∧ q < tx) ∨ tx + 43 ≤ q ∨ q = tx + 1 ∨ q = tx + 2) → ω_35.2 q = ω.2 q := by
        intro q hq0
        rw [fr_38 q (by omega)]
        rw [fr_29 q (by omega)]
        rw [fr_13 q (by omega)]
        rw [fr_5 q (by omega)]
      have hCs7 : (∀ i, i < 20 → CmdS G ω_35.2 (tx + 3 + 2 * i) ((csR f tl 20 0 0 Cs).2.2.2 i).1 ((csR f tl 20 0 0 Cs).2.2.2 i).2.1 ((csR f tl 20 0 0 Cs).2.2.2 i).2.2.1 ((csR f tl 20 0 0 Cs).2.2.2 i).2.2.2 ∧ ((csR f tl 20 0 0 Cs).2.2.2 i).2.2.1 ≤ 3) := by
        intro i hi
        refine ⟨⟨?_, ?_⟩, (hCs9 i hi).2⟩
        · rw [fr_38 _ (by omega), fr_29 _ (by omega), fr_13 _ (by omega)]
          exact (hCs9 i hi).1.1
        · rw [fr_38 _ (by omega), fr_29 _ (by omega), fr_13 _ (by omega)]
          exact (hCs9 i hi).1.2
      have hAf : ArcS G ω_35.2 a Z9.1 := (hA2).keep (fun q q1 q2 => by
        rw [fr_38 q (by omega)])
      have f_43 : ω_35.2 (a + 51) = some (.inr (9, [.int Z9.2.1, .int Z9.2.2.1, .int Z9.2.2.2])) := (fr_38 (a + 51) (by omega)).trans hk2
      have hHf : HisS G ω_35.2 hs0 (updR R p t_14) ((p + 1) % 9) (min (ct + 1) 8) := hHk.head f_39 fr_38
      exact ⟨rfl, hne, ⟨Z9, hr9 ▸ hrun, hAf, f_43⟩, ⟨_, hHf, hv_16⟩, ⟨f_42, hCs7⟩, hfr9⟩
    · skip
      obtain ⟨m9, hm9, rfl⟩ := RunP.no hrun c_30
      refine lv_aload_n hx hb dX10_commands_50 rfl (lv_at hl 1 rfl) ?_
      have f_44 : ω_26.2 x = some (.inr (12, [.ref y, .ref a, .ref (a + 51), .ref hs0, .ref sn, .int hsn, .ref tx, .ref ln, .ref tt])) := (fr_29 x (by omega)).trans f_17
      refine fw_get (v := .ref hs0) (C := RX10) (T := TX10) (N := 9) hx hb hts hin10 hown hK hR f_44 rfl 3 (by decide) (hts (.fieldLink RX10 29 "UnreadLeaflets" "history" "LUnreadLeaflets$History;") (by decide +kernel)) rfl dX10_commands_51 ?_
      refine lv_aload_n hx hb dX10_commands_54 rfl (lv_at hl 1 rfl) ?_
      refine fw_get (v := .ref a) (C := RX10) (T := TX10) (N := 9) hx hb hts hin10 hown hK hR f_44 rfl 1 (by decide) (hts (.fieldLink RX10 20 "UnreadLeaflets" "archive" "LUnreadLeaflets$Archive;") (by decide +kernel)) rfl dX10_commands_55 ?_
      have hHk : HisS G ω_26.2 hs0 (updR R p t_14) p ct := (hHn).keep (fun q q1 q2 => by
        rw [fr_29 q (by omega)])
      have hWp : WF (updR R p t_14 p) := by rw [updR_at]; exact WF.live hv_16 hW0
      have f_45 : ω_10.2 hs0 = some (.inr (6, [.ref (hs0 + 1), .int (nI p), .int (nI ct)])) := (fr_13 hs0 (by omega)).trans f_8
      have f_46 : ω_26.2 hs0 = some (.inr (6, [.ref (hs0 + 1), .int (nI p), .int (nI ct)])) := (fr_29 hs0 (by omega)).trans f_45
      refine fw_call (va_runV (As := [.ref a]) (rest := []) ⟨hx, hb, hml, hown, hts⟩ (c_X4_takeBack G hL l ω_26 hs0 (updR R p t_14) p ct hHk hp hct a Z9.1 hA2 (by omega) hWp) (cwV 1 hts gX10_commands_X4_takeBack rfl rfl rfl (by decide +kernel) ⟨Nat.le_of_ble_eq_true rfl, Nat.le_of_ble_eq_true rfl⟩) (fw_preV hW hK hR f_46 rfl) rfl rfl hl.1 rfl (lv_room (Nat.le_of_ble_eq_true rfl)) dX10_commands_58 ⟨Nat.le_of_ble_eq_true rfl, Nat.le_of_ble_eq_true rfl⟩) hS (fun v_47 ω_48 H locs hq_49 hR hS => ?_)
      obtain ⟨rfl, z_50, ⟨wt, hA4, hlt⟩, fr_51⟩ := hq_49
      refine W.eq (g2 := F0 mI 61 ls []) rfl ?_
      refine lv_aload_n hx hb dX10_commands_61 rfl (lv_at hl 1 rfl) ?_
      have f_52 : ω_48.2 x = some (.inr (12, [.ref y, .ref a, .ref (a + 51), .ref hs0, .ref sn, .int hsn, .ref tx, .ref ln, .ref tt])) := (fr_51 x (by omega)).trans f_44
      refine fw_get (v := .ref (a + 51)) (C := RX10) (T := TX10) (N := 9) hx hb hts hin10 hown hK hR f_52 rfl 2 (by decide) (hts (.fieldLink RX10 25 "UnreadLeaflets" "kept" "LUnreadLeaflets$Reason;") (by decide +kernel)) rfl dX10_commands_62 ?_
      refine lv_iload_n hx hb dX10_commands_65 rfl (lv_at hl 0 rfl) ?_
      have f_53 : ω_48.2 (a + 51) = some (.inr (9, [.int Z9.2.1, .int Z9.2.2.1, .int Z9.2.2.2])) := (fr_51 (a + 51) (by omega)).trans hk2
      refine fw_put (v := .int (nI m9)) (C := RX7) (T := TX7) (N := 3) hx hb hts hin7 tyX7 tyX7_ok nmX7 hown hK hR hS f_53 rfl 2 (by decide) (hts (.fieldLink RX10 344 "UnreadLeaflets$Reason" "command" "I") (by decide +kernel)) rfl rfl rfl (Nat.le_of_ble_eq_true rfl) dX10_commands_66 (fun H locs hR hS => ?_)
      obtain ⟨ω_54, hw_55⟩ : ∃ τ : FWd, τ = (ω_48.1, va_up ω_48.2 (a + 51) (some (.inr (9, [.int Z9.2.1, .int Z9.2.2.1, .int (nI m9)])))) := ⟨_, rfl⟩
      have hR : fR G ω_54 H := by rw [hw_55]; exact hR
      have f_56 : ω_54.2 (a + 51) = some (.inr (9, [.int Z9.2.1, .int Z9.2.2.1, .int (nI m9)])) := by rw [hw_55]; exact va_up_at
      have fr_57 : ∀ q : Nat, ¬ q = (a + 51) → ω_54.2 q = ω_48.2 q := fun q hq => by rw [hw_55]; exact va_up_off hq
      have z_58 : ω_54.1 = ω_48.1 := by rw [hw_55]
      have hfr9 : ∀ q : Nat, (q < a ∨ (hs0 + 461 ≤ q ∧ q < tx) ∨ tx + 43 ≤ q ∨ q = tx + 1 ∨ q = tx + 2) → ω_54.2 q = ω.2 q := by
        intro q hq0
        rw [fr_57 q (by omega)]
        rw [fr_51 q (by omega)]
        rw [fr_29 q (by omega)]
        rw [fr_13 q (by omega)]
        rw [fr_5 q (by omega)]
      have f_59 : ω_26.2 tx = some (.inr (10, [.ref (tx + 1), .int (nI 0), .int (nI (csR f tl 20 0 0 Cs).2.1), .ref (tx + 2), .int (nI (csR f tl 20 0 0 Cs).2.2.1), .int (if (csR f tl 20 0 0 Cs).1 = 0 then nI (csR f tl 20 0 0 Cs).2.1 else -1)])) := (fr_29 tx (by omega)).trans f_22
      have f_60 : ω_48.2 tx = some (.inr (10, [.ref (tx + 1), .int (nI 0), .int (nI (csR f tl 20 0 0 Cs).2.1), .ref (tx + 2), .int (nI (csR f tl 20 0 0 Cs).2.2.1), .int (if (csR f tl 20 0 0 Cs).1 = 0 then nI (csR f tl 20 0 0 Cs).2.1 else -1)])) := (fr_51 tx (by omega)).trans f_59
      have f_61 : ω_54.2 tx = some (.inr (10, [.ref (tx + 1), .int (nI 0), .int (nI (csR f tl 20 0 0 Cs).2.1), .ref (tx + 2), .int (nI (csR f tl 20 0 0 Cs).2.2.1), .int (if (csR f tl 20 0 0 Cs).1 = 0 then nI (csR f tl 20 0 0 Cs).2.1 else -1)])) := (fr_57 tx (by omega)).trans f_60
      have hCs7 : (∀ i, i < 20 → CmdS G ω_54.2 (tx + 3 + 2 * i) ((csR f tl 20 0 0 Cs).2.2.2 i).1 ((csR f tl 20 0 0 Cs).2.2.2 i).2.1 ((csR f tl 20 0 0 Cs).2.2.2 i).2.2.1 ((csR f tl 20 0 0 Cs).2.2.2 i).2.2.2 ∧ ((csR f tl 20 0 0 Cs).2.2.2 i).2.2.1 ≤ 3) := by
        intro i hi
        refine ⟨⟨?_, ?_⟩, (hCs9 i hi).2⟩
        · rw [fr_57 _ (by omega), fr_51 _ (by omega), fr_29 _ (by omega), fr_13 _ (by omega)]
          exact (hCs9 i hi).1.1
        · rw [fr_57 _ (by omega), fr_51 _ (by omega), fr_29 _ (by omega), fr_13 _ (by omega)]
          exact (hCs9 i hi).1.2
      have hHf : HisS G ω_54.2 hs0 (updR R p t_14) p ct := (hHn).keep (fun q q1 q2 => by
        rw [fr_57 q (by omega)]
        rw [fr_51 q (by omega)]
        rw [fr_29 q (by omega)])
      have hAf : ArcS G ω_54.2 a wt := (hA4).keep (fun q q1 q2 => by
        rw [fr_57 q (by omega)])
      have hlv : Live wt v := Live.tr hlt (by rw [updR_at]; exact hv_16)
      exact fx_throwW (ω := ω) (τ := ω_54) (cls := "java/lang/UnsupportedOperationException") (text := "a command is refused") (ws := wsX10_commands) hx hb hX0 hW hts hown (by decide) (by decide) (by decide +kernel) (by decide +kernel) (by decide) (fun w9 h9 => List.mem_cons_of_mem _ (List.mem_append_right _ h9)) xn_107 xg_107 hR0 hR hS (hl.1.trans hml.symm) dX10_commands_69 dX10_commands_72 dX10_commands_73 dX10_commands_76 dX10_commands_79 ht9 (by decide) (Nat.le_of_ble_eq_true rfl) (Nat.le_of_ble_eq_true rfl) (Nat.le_of_ble_eq_true rfl) hlocks (fun n9 => Or.inr ⟨rfl, hne, ⟨m9, Z9, hm9, hrun, f_56⟩, ⟨_, hHf, hv_16⟩, ⟨wt, hAf, hlv⟩, ⟨f_61, hCs7⟩, hfr9⟩) (Nat.le_of_ble_eq_true rfl) (Nat.le_of_ble_eq_true rfl)
  · skip
    have hz9 : (csR f tl 20 0 0 Cs).1 = 0 := Decidable.byContradiction (fun z9 => c_7 (by rw [if_neg z9]))
    have hfr9 : ∀ q : Nat, (q < tx ∨ tx + 43 ≤ q ∨ q = tx + 1 ∨ q = tx + 2) → ω_2.2 q = ω.2 q := by
      intro q hq0
      rw [fr_5 q (by omega)]
    exact fx_throwW (ω := ω) (τ := ω_2) (cls := "java/lang/IllegalArgumentException") (text := "the text has a fault") (ws := wsX10_commands) hx hb hX0 hW hts hown (by decide) (by decide) (by decide +kernel) (by decide +kernel) (by decide) (fun w9 h9 => List.mem_cons_of_mem _ (List.mem_append_left _ (List.mem_append_right _ h9))) xn_152 xg_152 hR0 hR hS (hl.1.trans hml.symm) dX10_commands_18 dX10_commands_21 dX10_commands_22 dX10_commands_25 dX10_commands_28 ht9 (by decide) (Nat.le_of_ble_eq_true rfl) (Nat.le_of_ble_eq_true rfl) (Nat.le_of_ble_eq_true rfl) hlocks (fun n9 => Or.inl ⟨rfl, hz9, ⟨htx9, hCs9⟩, hfr9⟩) (Nat.le_of_ble_eq_true rfl) (Nat.le_of_ble_eq_true rfl)
