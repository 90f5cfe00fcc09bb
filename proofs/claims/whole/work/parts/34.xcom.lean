/-! ===== what commands do; which is the first that is refused ===== -/
def doC (v : Nat → Nat → Int32) (k1 k2 k3 : Int32) (C : CM) : CR :=
  if C.1 = 83 then addC v k1 k2 k3 (C.2.1 0) (C.2.1 1) (C.2.1 2) C.2.2.2 1 else if C.1 = 98 then buildC v k1 k2 k3 (C.2.1 0) (C.2.1 1) else if C.1 = 99 then comeC v k1 k2 k3 (C.2.1 0) C.2.2.2 else if C.1 = 100 then finC v k1 k2 k3 (C.2.1 0) (C.2.1 1) else if C.1 = 102 then foldC v k1 k2 k3 (C.2.1 0) 1 else if C.1 = 108 then layC v k1 k2 k3 (C.2.1 0) else if C.1 = 109 then moveC v k1 k2 k3 (C.2.1 0) (C.2.1 1) else if C.1 = 115 then addC v k1 k2 k3 (C.2.1 0) (C.2.1 1) (C.2.1 2) C.2.2.2 0 else if C.1 = 116 then apaC v k1 k2 k3 (C.2.1 0) else if C.1 = 117 then foldC v k1 k2 k3 (C.2.1 0) (-1) else if C.1 = 120 then loseC v k1 k2 k3 (C.2.1 0) (C.2.1 1) else findC v k1 k2 k3 (C.2.1 0) (C.2.1 1)
abbrev S4 : Type := (Nat → Nat → Int32) × Int32 × Int32 × Int32
def itC (Cs : Nat → CM) (S : S4) : Nat → S4
  | 0 => S
  | k + 1 => (doC (itC Cs S k).1 (itC Cs S k).2.1 (itC Cs S k).2.2.1 (itC Cs S k).2.2.2 (Cs k)).2
def atC (Cs : Nat → CM) (S : S4) (k : Nat) : CR := doC (itC Cs S k).1 (itC Cs S k).2.1 (itC Cs S k).2.2.1 (itC Cs S k).2.2.2 (Cs k)
/-- the first m are made; behind them either all are made, or the m-th is refused -/
def RunP (Cs : Nat → CM) (S : S4) (n : Nat) (r : Int32) (Z : S4) : Prop := ∃ m : Nat, m ≤ n ∧ (∀ j, j < m → ¬ (atC Cs S j).1 = -1) ∧ ((m = n ∧ r = -1 ∧ Z = itC Cs S n) ∨ (m < n ∧ (atC Cs S m).1 = -1 ∧ r = nI m ∧ Z = (atC Cs S m).2))
set_option maxHeartbeats 4000000 in
set_option maxRecDepth 100000 in
theorem c_X10_carriedOut (G : FG) (hL : FL G) (l : Launch) (ω : FWd) (x y a hs0 sn tx ln tt : Nat) (v : Nat → Nat → Int32) (hsn k1 k2 k3 : Int32) (hXA : XA x y a hs0 sn tx ln tt) (hx0 : ω.2 x = some (.inr (12, [.ref y, .ref a, .ref (a + 51), .ref hs0, .ref sn, .int hsn, .ref tx, .ref ln, .ref tt]))) (hy : ω.2 y = some (.inr (3, [.ref a, .ref (a + 51)]))) (hA : ArcS G ω.2 a v) (hk : ω.2 (a + 51) = some (.inr (9, [.int k1, .int k2, .int k3]))) (hW0 : WF v) (b : Nat) (C : CM) (hC : CmdS G ω.2 b C.1 C.2.1 C.2.2.1 C.2.2.2) : FMet G l yX10_carriedOut wsX10_carriedOut ({ frames := 4, cells := 0, slots := 0, locals := 93 } : Room) [.ref x, .ref b] ω (CQ G a ω (doC v k1 k2 k3 C)) 0 0 := by
  refine fw_ofW (cc := cX10_carriedOut) (maxL := 5) (ret := (some .int)) (by decide) rfl (Nat.le_of_ble_eq_true rfl) ?_
  intro pP eE sS mI ar9 bl9 meth cD ls hx hb hr hlocks hml hts hown hnm hW hR hl
  have hK := hL.K hW
  have hS : va_S (fwA G) sS.heap sS.heap [] := va_S.rf
  have hin2 : ∀ w ∈ u_ws RX2 TX2 4, w ∈ wsX10_carriedOut := by decide +kernel
  have hin10 : ∀ w ∈ u_ws RX10 TX10 9, w ∈ wsX10_carriedOut := by decide +kernel
  have hl : lv_has ls 5 [(0, .ref x), (1, .ref b)] := hl
  obtain ⟨h0, h1, h2, h3, h4, h5, hLf, hCo⟩ := id hA
  obtain ⟨hxy, hxa, hxh, hxs, hxt, hxl, hxu⟩ := id hXA
  obtain ⟨b0, b1⟩ := id hC
  refine lv_aload_n hx hb dX10_carriedOut_0 rfl (lv_at hl 1 rfl) ?_
  refine fw_get (v := .ref (b + 1)) (C := RX2) (T := TX2) (N := 4) hx hb hts hin2 hown hK hR b0 rfl 1 (by decide) (hts (.fieldLink RX10 362 "UnreadLeaflets$Command" "numbers" "[I") (by decide +kernel)) rfl dX10_carriedOut_1 ?_
  refine lv_iconst (v := 0) hx hb dX10_carriedOut_4 (by decide) ?_
  refine fw_iald hx hb hK hR b1 (vp_in_nI (n := 0) (by omega) (by omega)) dX10_carriedOut_5 ?_
  refine W.eq (g2 := F0 mI 6 ls [.int (C.2.1 0)]) (by rw [show (0 : Int32).toNatClampNeg = 0 from rfl]) ?_
  refine lv_istore_n (lv' := [(2, .int (C.2.1 0)), (0, .ref x), (1, .ref b)]) hx hb dX10_carriedOut_6 rfl hl (by decide) rfl (fun ls hl => ?_)
  refine lv_aload_n hx hb dX10_carriedOut_7 rfl (lv_at hl 2 rfl) ?_
  refine fw_get (v := .ref (b + 1)) (C := RX2) (T := TX2) (N := 4) hx hb hts hin2 hown hK hR b0 rfl 1 (by decide) (hts (.fieldLink RX10 362 "UnreadLeaflets$Command" "numbers" "[I") (by decide +kernel)) rfl dX10_carriedOut_8 ?_
  refine lv_iconst (v := 1) hx hb dX10_carriedOut_11 (by decide) ?_
  refine fw_iald hx hb hK hR b1 (vp_in_nI (n := 1) (by omega) (by omega)) dX10_carriedOut_12 ?_
  refine W.eq (g2 := F0 mI 13 ls [.int (C.2.1 1)]) (by rw [show (1 : Int32).toNatClampNeg = 1 from rfl]) ?_
  refine lv_istore_n (lv' := [(3, .int (C.2.1 1)), (2, .int (C.2.1 0)), (0, .ref x), (1, .ref b)]) hx hb dX10_carriedOut_13 rfl hl (by decide) rfl (fun ls hl => ?_)
  refine lv_aload_n hx hb dX10_carriedOut_14 rfl (lv_at hl 3 rfl) ?_
  refine fw_get (v := .ref (b + 1)) (C := RX2) (T := TX2) (N := 4) hx hb hts hin2 hown hK hR b0 rfl 1 (by decide) (hts (.fieldLink RX10 362 "UnreadLeaflets$Command" "numbers" "[I") (by decide +kernel)) rfl dX10_carriedOut_15 ?_
  refine lv_iconst (v := 2) hx hb dX10_carriedOut_18 (by decide) ?_
  refine fw_iald hx hb hK hR b1 (vp_in_nI (n := 2) (by omega) (by omega)) dX10_carriedOut_19 ?_
  refine W.eq (g2 := F0 mI 20 ls [.int (C.2.1 2)]) (by rw [show (2 : Int32).toNatClampNeg = 2 from rfl]) ?_
  refine lv_istore (lv' := [(4, .int (C.2.1 2)), (3, .int (C.2.1 1)), (2, .int (C.2.1 0)), (0, .ref x), (1, .ref b)]) hx hb dX10_carriedOut_20 hl (by decide) rfl (fun ls hl => ?_)
  refine lv_aload_n hx hb dX10_carriedOut_22 rfl (lv_at hl 4 rfl) ?_
  refine fw_get (v := .int C.1) (C := RX2) (T := TX2) (N := 4) hx hb hts hin2 hown hK hR b0 rfl 0 (by decide) (hts (.fieldLink RX10 367 "UnreadLeaflets$Command" "letter" "C") (by decide +kernel)) rfl dX10_carriedOut_23 ?_
  by_cases c_1 : C.1 = 83
  · skip
    refine lv_tableIn (off := 192) (tgt := 218) hx hb dX10_carriedOut_26 (by rw [c_1]; decide) (by rw [c_1]; decide) (by rw [c_1]; rfl) (by decide) ?_
    refine lv_aload_n hx hb dX10_carriedOut_218 rfl (lv_at hl 3 rfl) ?_
    refine fw_get (v := .ref y) (C := RX10) (T := TX10) (N := 9) hx hb hts hin10 hown hK hR hx0 rfl 0 (by decide) (hts (.fieldLink RX10 10 "UnreadLeaflets" "changes" "LUnreadLeaflets$Changes;") (by decide +kernel)) rfl dX10_carriedOut_219 ?_
    refine lv_iload_n hx hb dX10_carriedOut_222 rfl (lv_at hl 2 rfl) ?_
    refine lv_iload_n hx hb dX10_carriedOut_223 rfl (lv_at hl 1 rfl) ?_
    refine lv_iload hx hb dX10_carriedOut_224 (lv_at hl 0 rfl) ?_
    refine lv_aload_n hx hb dX10_carriedOut_226 rfl (lv_at hl 4 rfl) ?_
    refine fw_get (v := .int C.2.2.2) (C := RX2) (T := TX2) (N := 4) hx hb hts hin2 hown hK hR b0 rfl 3 (by decide) (hts (.fieldLink RX10 371 "UnreadLeaflets$Command" "languages" "I") (by decide +kernel)) rfl dX10_carriedOut_227 ?_
    refine lv_iconst (v := 1) hx hb dX10_carriedOut_230 (by decide) ?_
    have hAk : ArcS G ω.2 a v := hA
    refine fw_call (va_runV (As := [.int (C.2.1 0), .int (C.2.1 1), .int (C.2.1 2), .int C.2.2.2, .int 1]) (rest := []) ⟨hx, hb, hml, hown, hts⟩ (c_X1_addStep G hL l ω y a v k1 k2 k3 hy (by omega) hAk hk hW0 (C.2.1 0) (C.2.1 1) (C.2.1 2) C.2.2.2 1) (cwV 5 hts gX10_carriedOut_X1_addStep rfl rfl rfl (by decide +kernel) ⟨Nat.le_of_ble_eq_true rfl, Nat.le_of_ble_eq_true rfl⟩) (fw_preV hW hK hR hy rfl) rfl rfl hl.1 rfl (lv_room (Nat.le_of_ble_eq_true rfl)) dX10_carriedOut_231 ⟨Nat.le_of_ble_eq_true rfl, Nat.le_of_ble_eq_true rfl⟩) hS (fun v_2 ω_3 H locs hq_4 hR hS => ?_)
    obtain ⟨rfl, z_5, hA2, hk2, fr_6⟩ := hq_4
    refine W.eq (g2 := F0 mI 234 ls [.int ((addC v k1 k2 k3 (C.2.1 0) (C.2.1 1) (C.2.1 2) C.2.2.2 1).1)]) rfl ?_
    refine fw_iret hx hb hr hlocks hR hS dX10_carriedOut_234 ?_
    have hr_7 : doC v k1 k2 k3 C = (addC v k1 k2 k3 (C.2.1 0) (C.2.1 1) (C.2.1 2) C.2.2.2 1) := by
      unfold doC
      rw [if_pos c_1]
    rw [hr_7]
    exact ⟨rfl, z_5, hA2, hk2, fr_6⟩
  by_cases c_8 : C.1 = 98
  · skip
    refine lv_tableIn (off := 242) (tgt := 268) hx hb dX10_carriedOut_26 (by rw [c_8]; decide) (by rw [c_8]; decide) (by rw [c_8]; rfl) (by decide) ?_
    refine lv_aload_n hx hb dX10_carriedOut_268 rfl (lv_at hl 3 rfl) ?_
    refine fw_get (v := .ref y) (C := RX10) (T := TX10) (N := 9) hx hb hts hin10 hown hK hR hx0 rfl 0 (by decide) (hts (.fieldLink RX10 10 "UnreadLeaflets" "changes" "LUnreadLeaflets$Changes;") (by decide +kernel)) rfl dX10_carriedOut_269 ?_
    refine lv_iload_n hx hb dX10_carriedOut_272 rfl (lv_at hl 2 rfl) ?_
    refine lv_iload_n hx hb dX10_carriedOut_273 rfl (lv_at hl 1 rfl) ?_
    have hAk : ArcS G ω.2 a v := hA
    refine fw_call (va_runV (As := [.int (C.2.1 0), .int (C.2.1 1)]) (rest := []) ⟨hx, hb, hml, hown, hts⟩ (c_X1_letBuild G hL l ω y a v k1 k2 k3 hy (by omega) hAk hk hW0 (C.2.1 0) (C.2.1 1)) (cwV 2 hts gX10_carriedOut_X1_letBuild rfl rfl rfl (by decide +kernel) ⟨Nat.le_of_ble_eq_true rfl, Nat.le_of_ble_eq_true rfl⟩) (fw_preV hW hK hR hy rfl) rfl rfl hl.1 rfl (lv_room (Nat.le_of_ble_eq_true rfl)) dX10_carriedOut_274 ⟨Nat.le_of_ble_eq_true rfl, Nat.le_of_ble_eq_true rfl⟩) hS (fun v_9 ω_10 H locs hq_11 hR hS => ?_)
    obtain ⟨rfl, z_12, hA2, hk2, fr_13⟩ := hq_11
    refine W.eq (g2 := F0 mI 277 ls [.int ((buildC v k1 k2 k3 (C.2.1 0) (C.2.1 1)).1)]) rfl ?_
    refine fw_iret hx hb hr hlocks hR hS dX10_carriedOut_277 ?_
    have hr_14 : doC v k1 k2 k3 C = (buildC v k1 k2 k3 (C.2.1 0) (C.2.1 1)) := by
      unfold doC
      rw [if_neg c_1, if_pos c_8]
    rw [hr_14]
    exact ⟨rfl, z_12, hA2, hk2, fr_13⟩
  by_cases c_15 : C.1 = 99
  · skip
    refine lv_tableIn (off := 229) (tgt := 255) hx hb dX10_carriedOut_26 (by rw [c_15]; decide) (by rw [c_15]; decide) (by rw [c_15]; rfl) (by decide) ?_
    refine lv_aload_n hx hb dX10_carriedOut_255 rfl (lv_at hl 3 rfl) ?_
    refine fw_get (v := .ref y) (C := RX10) (T := TX10) (N := 9) hx hb hts hin10 hown hK hR hx0 rfl 0 (by decide) (hts (.fieldLink RX10 10 "UnreadLeaflets" "changes" "LUnreadLeaflets$Changes;") (by decide +kernel)) rfl dX10_carriedOut_256 ?_
    refine lv_iload_n hx hb dX10_carriedOut_259 rfl (lv_at hl 2 rfl) ?_
    refine lv_aload_n hx hb dX10_carriedOut_260 rfl (lv_at hl 4 rfl) ?_
    refine fw_get (v := .int C.2.2.2) (C := RX2) (T := TX2) (N := 4) hx hb hts hin2 hown hK hR b0 rfl 3 (by decide) (hts (.fieldLink RX10 371 "UnreadLeaflets$Command" "languages" "I") (by decide +kernel)) rfl dX10_carriedOut_261 ?_
    have hAk : ArcS G ω.2 a v := hA
    refine fw_call (va_runV (As := [.int (C.2.1 0), .int C.2.2.2]) (rest := []) ⟨hx, hb, hml, hown, hts⟩ (c_X1_letCome G hL l ω y a v k1 k2 k3 hy (by omega) hAk hk hW0 (C.2.1 0) C.2.2.2) (cwV 2 hts gX10_carriedOut_X1_letCome rfl rfl rfl (by decide +kernel) ⟨Nat.le_of_ble_eq_true rfl, Nat.le_of_ble_eq_true rfl⟩) (fw_preV hW hK hR hy rfl) rfl rfl hl.1 rfl (lv_room (Nat.le_of_ble_eq_true rfl)) dX10_carriedOut_264 ⟨Nat.le_of_ble_eq_true rfl, Nat.le_of_ble_eq_true rfl⟩) hS (fun v_16 ω_17 H locs hq_18 hR hS => ?_)
    obtain ⟨rfl, z_19, hA2, hk2, fr_20⟩ := hq_18
    refine W.eq (g2 := F0 mI 267 ls [.int ((comeC v k1 k2 k3 (C.2.1 0) C.2.2.2).1)]) rfl ?_
    refine fw_iret hx hb hr hlocks hR hS dX10_carriedOut_267 ?_
    have hr_21 : doC v k1 k2 k3 C = (comeC v k1 k2 k3 (C.2.1 0) C.2.2.2) := by
      unfold doC
      rw [if_neg c_1, if_neg c_8, if_pos c_15]
    rw [hr_21]
    exact ⟨rfl, z_19, hA2, hk2, fr_20⟩
  by_cases c_22 : C.1 = 100
  · skip
    refine lv_tableIn (off := 252) (tgt := 278) hx hb dX10_carriedOut_26 (by rw [c_22]; decide) (by rw [c_22]; decide) (by rw [c_22]; rfl) (by decide) ?_
    refine lv_aload_n hx hb dX10_carriedOut_278 rfl (lv_at hl 3 rfl) ?_
    refine fw_get (v := .ref y) (C := RX10) (T := TX10) (N := 9) hx hb hts hin10 hown hK hR hx0 rfl 0 (by decide) (hts (.fieldLink RX10 10 "UnreadLeaflets" "changes" "LUnreadLeaflets$Changes;") (by decide +kernel)) rfl dX10_carriedOut_279 ?_
    refine lv_iload_n hx hb dX10_carriedOut_282 rfl (lv_at hl 2 rfl) ?_
    refine lv_iload_n hx hb dX10_carriedOut_283 rfl (lv_at hl 1 rfl) ?_
    have hAk : ArcS G ω.2 a v := hA
    refine fw_call (va_runV (As := [.int (C.2.1 0), .int (C.2.1 1)]) (rest := []) ⟨hx, hb, hml, hown, hts⟩ (c_X1_doLater G hL l ω y a v k1 k2 k3 hy (by omega) hAk hk hW0 (C.2.1 0) (C.2.1 1)) (cwV 2 hts gX10_carriedOut_X1_doLater rfl rfl rfl (by decide +kernel) ⟨Nat.le_of_ble_eq_true rfl, Nat.le_of_ble_eq_true rfl⟩) (fw_preV hW hK hR hy rfl) rfl rfl hl.1 rfl (lv_room (Nat.le_of_ble_eq_true rfl)) dX10_carriedOut_284 ⟨Nat.le_of_ble_eq_true rfl, Nat.le_of_ble_eq_true rfl⟩) hS (fun v_23 ω_24 H locs hq_25 hR hS => ?_)
    obtain ⟨rfl, z_26, hA2, hk2, fr_27⟩ := hq_25
    refine W.eq (g2 := F0 mI 287 ls [.int ((finC v k1 k2 k3 (C.2.1 0) (C.2.1 1)).1)]) rfl ?_
    refine fw_iret hx hb hr hlocks hR hS dX10_carriedOut_287 ?_
    have hr_28 : doC v k1 k2 k3 C = (finC v k1 k2 k3 (C.2.1 0) (C.2.1 1)) := by
      unfold doC
      rw [if_neg c_1, if_neg c_8, if_neg c_15, if_pos c_22]
    rw [hr_28]
    exact ⟨rfl, z_26, hA2, hk2, fr_27⟩
  by_cases c_29 : C.1 = 102
  · skip
    refine lv_tableIn (off := 209) (tgt := 235) hx hb dX10_carriedOut_26 (by rw [c_29]; decide) (by rw [c_29]; decide) (by rw [c_29]; rfl) (by decide) ?_
    refine lv_aload_n hx hb dX10_carriedOut_235 rfl (lv_at hl 3 rfl) ?_
    refine fw_get (v := .ref y) (C := RX10) (T := TX10) (N := 9) hx hb hts hin10 hown hK hR hx0 rfl 0 (by decide) (hts (.fieldLink RX10 10 "UnreadLeaflets" "changes" "LUnreadLeaflets$Changes;") (by decide +kernel)) rfl dX10_carriedOut_236 ?_
    refine lv_iload_n hx hb dX10_carriedOut_239 rfl (lv_at hl 2 rfl) ?_
    refine lv_iconst (v := 1) hx hb dX10_carriedOut_240 (by decide) ?_
    have hAk : ArcS G ω.2 a v := hA
    refine fw_call (va_runV (As := [.int (C.2.1 0), .int 1]) (rest := []) ⟨hx, hb, hml, hown, hts⟩ (c_X1_changeFolds G hL l ω y a v k1 k2 k3 hy (by omega) hAk hk hW0 (C.2.1 0) 1) (cwV 2 hts gX10_carriedOut_X1_changeFolds rfl rfl rfl (by decide +kernel) ⟨Nat.le_of_ble_eq_true rfl, Nat.le_of_ble_eq_true rfl⟩) (fw_preV hW hK hR hy rfl) rfl rfl hl.1 rfl (lv_room (Nat.le_of_ble_eq_true rfl)) dX10_carriedOut_241 ⟨Nat.le_of_ble_eq_true rfl, Nat.le_of_ble_eq_true rfl⟩) hS (fun v_30 ω_31 H locs hq_32 hR hS => ?_)
    obtain ⟨rfl, z_33, hA2, hk2, fr_34⟩ := hq_32
    refine W.eq (g2 := F0 mI 244 ls [.int ((foldC v k1 k2 k3 (C.2.1 0) 1).1)]) rfl ?_
    refine fw_iret hx hb hr hlocks hR hS dX10_carriedOut_244 ?_
    have hr_35 : doC v k1 k2 k3 C = (foldC v k1 k2 k3 (C.2.1 0) 1) := by
      unfold doC
      rw [if_neg c_1, if_neg c_8, if_neg c_15, if_neg c_22, if_pos c_29]
    rw [hr_35]
    exact ⟨rfl, z_33, hA2, hk2, fr_34⟩
  by_cases c_36 : C.1 = 108
  · skip
    refine lv_tableIn (off := 166) (tgt := 192) hx hb dX10_carriedOut_26 (by rw [c_36]; decide) (by rw [c_36]; decide) (by rw [c_36]; rfl) (by decide) ?_
    refine lv_aload_n hx hb dX10_carriedOut_192 rfl (lv_at hl 3 rfl) ?_
    refine fw_get (v := .ref y) (C := RX10) (T := TX10) (N := 9) hx hb hts hin10 hown hK hR hx0 rfl 0 (by decide) (hts (.fieldLink RX10 10 "UnreadLeaflets" "changes" "LUnreadLeaflets$Changes;") (by decide +kernel)) rfl dX10_carriedOut_193 ?_
    refine lv_iload_n hx hb dX10_carriedOut_196 rfl (lv_at hl 2 rfl) ?_
    have hAk : ArcS G ω.2 a v := hA
    refine fw_call (va_runV (As := [.int (C.2.1 0)]) (rest := []) ⟨hx, hb, hml, hown, hts⟩ (c_X1_layLeaflet G hL l ω y a v k1 k2 k3 hy (by omega) hAk hk hW0 (C.2.1 0)) (cwV 1 hts gX10_carriedOut_X1_layLeaflet rfl rfl rfl (by decide +kernel) ⟨Nat.le_of_ble_eq_true rfl, Nat.le_of_ble_eq_true rfl⟩) (fw_preV hW hK hR hy rfl) rfl rfl hl.1 rfl (lv_room (Nat.le_of_ble_eq_true rfl)) dX10_carriedOut_197 ⟨Nat.le_of_ble_eq_true rfl, Nat.le_of_ble_eq_true rfl⟩) hS (fun v_37 ω_38 H locs hq_39 hR hS => ?_)
    obtain ⟨rfl, z_40, hA2, hk2, fr_41⟩ := hq_39
    refine W.eq (g2 := F0 mI 200 ls [.int ((layC v k1 k2 k3 (C.2.1 0)).1)]) rfl ?_
    refine fw_iret hx hb hr hlocks hR hS dX10_carriedOut_200 ?_
    have hr_42 : doC v k1 k2 k3 C = (layC v k1 k2 k3 (C.2.1 0)) := by
      unfold doC
      rw [if_neg c_1, if_neg c_8, if_neg c_15, if_neg c_22, if_neg c_29, if_pos c_36]
    rw [hr_42]
    exact ⟨rfl, z_40, hA2, hk2, fr_41⟩
  by_cases c_43 : C.1 = 109
  · skip
    refine lv_tableIn (off := 271) (tgt := 297) hx hb dX10_carriedOut_26 (by rw [c_43]; decide) (by rw [c_43]; decide) (by rw [c_43]; rfl) (by decide) ?_
    refine lv_aload_n hx hb dX10_carriedOut_297 rfl (lv_at hl 3 rfl) ?_
    refine fw_get (v := .ref y) (C := RX10) (T := TX10) (N := 9) hx hb hts hin10 hown hK hR hx0 rfl 0 (by decide) (hts (.fieldLink RX10 10 "UnreadLeaflets" "changes" "LUnreadLeaflets$Changes;") (by decide +kernel)) rfl dX10_carriedOut_298 ?_
    refine lv_iload_n hx hb dX10_carriedOut_301 rfl (lv_at hl 2 rfl) ?_
    refine lv_iload_n hx hb dX10_carriedOut_302 rfl (lv_at hl 1 rfl) ?_
    have hAk : ArcS G ω.2 a v := hA
    refine fw_call (va_runV (As := [.int (C.2.1 0), .int (C.2.1 1)]) (rest := []) ⟨hx, hb, hml, hown, hts⟩ (c_X1_moveBox G hL l ω y a v k1 k2 k3 hy (by omega) hAk hk hW0 (C.2.1 0) (C.2.1 1)) (cwV 2 hts gX10_carriedOut_X1_moveBox rfl rfl rfl (by decide +kernel) ⟨Nat.le_of_ble_eq_true rfl, Nat.le_of_ble_eq_true rfl⟩) (fw_preV hW hK hR hy rfl) rfl rfl hl.1 rfl (lv_room (Nat.le_of_ble_eq_true rfl)) dX10_carriedOut_303 ⟨Nat.le_of_ble_eq_true rfl, Nat.le_of_ble_eq_true rfl⟩) hS (fun v_44 ω_45 H locs hq_46 hR hS => ?_)
    obtain ⟨rfl, z_47, hA2, hk2, fr_48⟩ := hq_46
    refine W.eq (g2 := F0 mI 306 ls [.int ((moveC v k1 k2 k3 (C.2.1 0) (C.2.1 1)).1)]) rfl ?_
    refine fw_iret hx hb hr hlocks hR hS dX10_carriedOut_306 ?_
    have hr_49 : doC v k1 k2 k3 C = (moveC v k1 k2 k3 (C.2.1 0) (C.2.1 1)) := by
      unfold doC
      rw [if_neg c_1, if_neg c_8, if_neg c_15, if_neg c_22, if_neg c_29, if_neg c_36, if_pos c_43]
    rw [hr_49]
    exact ⟨rfl, z_47, hA2, hk2, fr_48⟩
  by_cases c_50 : C.1 = 115
  · skip
    refine lv_tableIn (off := 175) (tgt := 201) hx hb dX10_carriedOut_26 (by rw [c_50]; decide) (by rw [c_50]; decide) (by rw [c_50]; rfl) (by decide) ?_
    refine lv_aload_n hx hb dX10_carriedOut_201 rfl (lv_at hl 3 rfl) ?_
    refine fw_get (v := .ref y) (C := RX10) (T := TX10) (N := 9) hx hb hts hin10 hown hK hR hx0 rfl 0 (by decide) (hts (.fieldLink RX10 10 "UnreadLeaflets" "changes" "LUnreadLeaflets$Changes;") (by decide +kernel)) rfl dX10_carriedOut_202 ?_
    refine lv_iload_n hx hb dX10_carriedOut_205 rfl (lv_at hl 2 rfl) ?_
    refine lv_iload_n hx hb dX10_carriedOut_206 rfl (lv_at hl 1 rfl) ?_
    refine lv_iload hx hb dX10_carriedOut_207 (lv_at hl 0 rfl) ?_
    refine lv_aload_n hx hb dX10_carriedOut_209 rfl (lv_at hl 4 rfl) ?_
    refine fw_get (v := .int C.2.2.2) (C := RX2) (T := TX2) (N := 4) hx hb hts hin2 hown hK hR b0 rfl 3 (by decide) (hts (.fieldLink RX10 371 "UnreadLeaflets$Command" "languages" "I") (by decide +kernel)) rfl dX10_carriedOut_210 ?_
    refine lv_iconst (v := 0) hx hb dX10_carriedOut_213 (by decide) ?_
    have hAk : ArcS G ω.2 a v := hA
    refine fw_call (va_runV (As := [.int (C.2.1 0), .int (C.2.1 1), .int (C.2.1 2), .int C.2.2.2, .int 0]) (rest := []) ⟨hx, hb, hml, hown, hts⟩ (c_X1_addStep G hL l ω y a v k1 k2 k3 hy (by omega) hAk hk hW0 (C.2.1 0) (C.2.1 1) (C.2.1 2) C.2.2.2 0) (cwV 5 hts gX10_carriedOut_X1_addStep rfl rfl rfl (by decide +kernel) ⟨Nat.le_of_ble_eq_true rfl, Nat.le_of_ble_eq_true rfl⟩) (fw_preV hW hK hR hy rfl) rfl rfl hl.1 rfl (lv_room (Nat.le_of_ble_eq_true rfl)) dX10_carriedOut_214 ⟨Nat.le_of_ble_eq_true rfl, Nat.le_of_ble_eq_true rfl⟩) hS (fun v_51 ω_52 H locs hq_53 hR hS => ?_)
    obtain ⟨rfl, z_54, hA2, hk2, fr_55⟩ := hq_53
    refine W.eq (g2 := F0 mI 217 ls [.int ((addC v k1 k2 k3 (C.2.1 0) (C.2.1 1) (C.2.1 2) C.2.2.2 0).1)]) rfl ?_
    refine fw_iret hx hb hr hlocks hR hS dX10_carriedOut_217 ?_
    have hr_56 : doC v k1 k2 k3 C = (addC v k1 k2 k3 (C.2.1 0) (C.2.1 1) (C.2.1 2) C.2.2.2 0) := by
      unfold doC
      rw [if_neg c_1, if_neg c_8, if_neg c_15, if_neg c_22, if_neg c_29, if_neg c_36, if_neg c_43, if_pos c_50]
    rw [hr_56]
    exact ⟨rfl, z_54, hA2, hk2, fr_55⟩
  by_cases c_57 : C.1 = 116
  · skip
    refine lv_tableIn (off := 262) (tgt := 288) hx hb dX10_carriedOut_26 (by rw [c_57]; decide) (by rw [c_57]; decide) (by rw [c_57]; rfl) (by decide) ?_
    refine lv_aload_n hx hb dX10_carriedOut_288 rfl (lv_at hl 3 rfl) ?_
    refine fw_get (v := .ref y) (C := RX10) (T := TX10) (N := 9) hx hb hts hin10 hown hK hR hx0 rfl 0 (by decide) (hts (.fieldLink RX10 10 "UnreadLeaflets" "changes" "LUnreadLeaflets$Changes;") (by decide +kernel)) rfl dX10_carriedOut_289 ?_
    refine lv_iload_n hx hb dX10_carriedOut_292 rfl (lv_at hl 2 rfl) ?_
    have hAk : ArcS G ω.2 a v := hA
    refine fw_call (va_runV (As := [.int (C.2.1 0)]) (rest := []) ⟨hx, hb, hml, hown, hts⟩ (c_X1_takeApart G hL l ω y a v k1 k2 k3 hy (by omega) hAk hk hW0 (C.2.1 0)) (cwV 1 hts gX10_carriedOut_X1_takeApart rfl rfl rfl (by decide +kernel) ⟨Nat.le_of_ble_eq_true rfl, Nat.le_of_ble_eq_true rfl⟩) (fw_preV hW hK hR hy rfl) rfl rfl hl.1 rfl (lv_room (Nat.le_of_ble_eq_true rfl)) dX10_carriedOut_293 ⟨Nat.le_of_ble_eq_true rfl, Nat.le_of_ble_eq_true rfl⟩) hS (fun v_58 ω_59 H locs hq_60 hR hS => ?_)
    obtain ⟨rfl, z_61, hA2, hk2, fr_62⟩ := hq_60
    refine W.eq (g2 := F0 mI 296 ls [.int ((apaC v k1 k2 k3 (C.2.1 0)).1)]) rfl ?_
    refine fw_iret hx hb hr hlocks hR hS dX10_carriedOut_296 ?_
    have hr_63 : doC v k1 k2 k3 C = (apaC v k1 k2 k3 (C.2.1 0)) := by
      unfold doC
      rw [if_neg c_1, if_neg c_8, if_neg c_15, if_neg c_22, if_neg c_29, if_neg c_36, if_neg c_43, if_neg c_50, if_pos c_57]
    rw [hr_63]
    exact ⟨rfl, z_61, hA2, hk2, fr_62⟩
  by_cases c_64 : C.1 = 117
  · skip
    refine lv_tableIn (off := 219) (tgt := 245) hx hb dX10_carriedOut_26 (by rw [c_64]; decide) (by rw [c_64]; decide) (by rw [c_64]; rfl) (by decide) ?_
    refine lv_aload_n hx hb dX10_carriedOut_245 rfl (lv_at hl 3 rfl) ?_
    refine fw_get (v := .ref y) (C := RX10) (T := TX10) (N := 9) hx hb hts hin10 hown hK hR hx0 rfl 0 (by decide) (hts (.fieldLink RX10 10 "UnreadLeaflets" "changes" "LUnreadLeaflets$Changes;") (by decide +kernel)) rfl dX10_carriedOut_246 ?_
    refine lv_iload_n hx hb dX10_carriedOut_249 rfl (lv_at hl 2 rfl) ?_
    refine lv_iconst (v := (-1)) hx hb dX10_carriedOut_250 (by decide) ?_
    have hAk : ArcS G ω.2 a v := hA
    refine fw_call (va_runV (As := [.int (C.2.1 0), .int (-1)]) (rest := []) ⟨hx, hb, hml, hown, hts⟩ (c_X1_changeFolds G hL l ω y a v k1 k2 k3 hy (by omega) hAk hk hW0 (C.2.1 0) (-1)) (cwV 2 hts gX10_carriedOut_X1_changeFolds rfl rfl rfl (by decide +kernel) ⟨Nat.le_of_ble_eq_true rfl, Nat.le_of_ble_eq_true rfl⟩) (fw_preV hW hK hR hy rfl) rfl rfl hl.1 rfl (lv_room (Nat.le_of_ble_eq_true rfl)) dX10_carriedOut_251 ⟨Nat.le_of_ble_eq_true rfl, Nat.le_of_ble_eq_true rfl⟩) hS (fun v_65 ω_66 H locs hq_67 hR hS => ?_)
    obtain ⟨rfl, z_68, hA2, hk2, fr_69⟩ := hq_67
    refine W.eq (g2 := F0 mI 254 ls [.int ((foldC v k1 k2 k3 (C.2.1 0) (-1)).1)]) rfl ?_
    refine fw_iret hx hb hr hlocks hR hS dX10_carriedOut_254 ?_
    have hr_70 : doC v k1 k2 k3 C = (foldC v k1 k2 k3 (C.2.1 0) (-1)) := by
      unfold doC
      rw [if_neg c_1, if_neg c_8, if_neg c_15, if_neg c_22, if_neg c_29, if_neg c_36, if_neg c_43, if_neg c_50, if_neg c_57, if_pos c_64]
    rw [hr_70]
    exact ⟨rfl, z_68, hA2, hk2, fr_69⟩
  by_cases c_71 : C.1 = 120
  · skip
    refine lv_tableIn (off := 281) (tgt := 307) hx hb dX10_carriedOut_26 (by rw [c_71]; decide) (by rw [c_71]; decide) (by rw [c_71]; rfl) (by decide) ?_
    refine lv_aload_n hx hb dX10_carriedOut_307 rfl (lv_at hl 3 rfl) ?_
    refine fw_get (v := .ref y) (C := RX10) (T := TX10) (N := 9) hx hb hts hin10 hown hK hR hx0 rfl 0 (by decide) (hts (.fieldLink RX10 10 "UnreadLeaflets" "changes" "LUnreadLeaflets$Changes;") (by decide +kernel)) rfl dX10_carriedOut_308 ?_
    refine lv_iload_n hx hb dX10_carriedOut_311 rfl (lv_at hl 2 rfl) ?_
    refine lv_iload_n hx hb dX10_carriedOut_312 rfl (lv_at hl 1 rfl) ?_
    have hAk : ArcS G ω.2 a v := hA
    refine fw_call (va_runV (As := [.int (C.2.1 0), .int (C.2.1 1)]) (rest := []) ⟨hx, hb, hml, hown, hts⟩ (c_X1_loseParts G hL l ω y a v k1 k2 k3 hy (by omega) hAk hk hW0 (C.2.1 0) (C.2.1 1)) (cwV 2 hts gX10_carriedOut_X1_loseParts rfl rfl rfl (by decide +kernel) ⟨Nat.le_of_ble_eq_true rfl, Nat.le_of_ble_eq_true rfl⟩) (fw_preV hW hK hR hy rfl) rfl rfl hl.1 rfl (lv_room (Nat.le_of_ble_eq_true rfl)) dX10_carriedOut_313 ⟨Nat.le_of_ble_eq_true rfl, Nat.le_of_ble_eq_true rfl⟩) hS (fun v_72 ω_73 H locs hq_74 hR hS => ?_)
    obtain ⟨rfl, z_75, hA2, hk2, fr_76⟩ := hq_74
    refine W.eq (g2 := F0 mI 316 ls [.int ((loseC v k1 k2 k3 (C.2.1 0) (C.2.1 1)).1)]) rfl ?_
    refine fw_iret hx hb hr hlocks hR hS dX10_carriedOut_316 ?_
    have hr_77 : doC v k1 k2 k3 C = (loseC v k1 k2 k3 (C.2.1 0) (C.2.1 1)) := by
      unfold doC
      rw [if_neg c_1, if_neg c_8, if_neg c_15, if_neg c_22, if_neg c_29, if_neg c_36, if_neg c_43, if_neg c_50, if_neg c_57, if_neg c_64, if_pos c_71]
    rw [hr_77]
    exact ⟨rfl, z_75, hA2, hk2, fr_76⟩
  have tc_1 := lv_neT c_1 (show (83 : Int32).toInt = 83 by decide)
  have tc_8 := lv_neT c_8 (show (98 : Int32).toInt = 98 by decide)
  have tc_15 := lv_neT c_15 (show (99 : Int32).toInt = 99 by decide)
  have tc_22 := lv_neT c_22 (show (100 : Int32).toInt = 100 by decide)
  have tc_29 := lv_neT c_29 (show (102 : Int32).toInt = 102 by decide)
  have tc_36 := lv_neT c_36 (show (108 : Int32).toInt = 108 by decide)
  have tc_43 := lv_neT c_43 (show (109 : Int32).toInt = 109 by decide)
  have tc_50 := lv_neT c_50 (show (115 : Int32).toInt = 115 by decide)
  have tc_57 := lv_neT c_57 (show (116 : Int32).toInt = 116 by decide)
  have tc_64 := lv_neT c_64 (show (117 : Int32).toInt = 117 by decide)
  have tc_71 := lv_neT c_71 (show (120 : Int32).toInt = 120 by decide)
  have hg_78 : ∀ n9 : Nat, n9 < 38 → (decide (n9 ∈ [0, 15, 16, 17, 19, 25, 26, 32, 33, 34, 37]) || (#[192, 291, 291, 291, 291, 291, 291, 291, 291, 291, 291, 291, 291, 291, 291, 242, 229, 252, 291, 209, 291, 291, 291, 291, 291, 166, 271, 291, 291, 291, 291, 291, 175, 262, 219, 291, 291, 281] : Array Int)[n9]? == some (291 : Int)) = true := by decide
  have hgd_79 : (C.1).toInt < 83 ∨ 120 < (C.1).toInt ∨ (#[192, 291, 291, 291, 291, 291, 291, 291, 291, 291, 291, 291, 291, 291, 291, 242, 229, 252, 291, 209, 291, 291, 291, 291, 291, 166, 271, 291, 291, 291, 291, 291, 175, 262, 219, 291, 291, 281] : Array Int)[((C.1).toInt - 83).toNat]? = some (291 : Int) := by
    by_cases h8 : (C.1).toInt < 83 ∨ 120 < (C.1).toInt
    · exact h8.elim Or.inl (fun z => Or.inr (Or.inl z))
    · rcases (Bool.or_eq_true _ _).mp (hg_78 ((C.1).toInt - 83).toNat (by omega)) with h6 | h6
      · exfalso
        have h5 := of_decide_eq_true h6
        simp only [List.mem_cons, List.not_mem_nil, or_false] at h5
        omega
      · exact Or.inr (Or.inr (eq_of_beq h6))
  refine lv_tableD (tgt := 317) hx hb dX10_carriedOut_26 hgd_79 (by decide) ?_
  refine lv_aload_n hx hb dX10_carriedOut_317 rfl (lv_at hl 3 rfl) ?_
  refine fw_get (v := .ref y) (C := RX10) (T := TX10) (N := 9) hx hb hts hin10 hown hK hR hx0 rfl 0 (by decide) (hts (.fieldLink RX10 10 "UnreadLeaflets" "changes" "LUnreadLeaflets$Changes;") (by decide +kernel)) rfl dX10_carriedOut_318 ?_
  refine lv_iload_n hx hb dX10_carriedOut_321 rfl (lv_at hl 2 rfl) ?_
  refine lv_iload_n hx hb dX10_carriedOut_322 rfl (lv_at hl 1 rfl) ?_
  have hAk : ArcS G ω.2 a v := hA
  refine fw_call (va_runV (As := [.int (C.2.1 0), .int (C.2.1 1)]) (rest := []) ⟨hx, hb, hml, hown, hts⟩ (c_X1_findParts G hL l ω y a v k1 k2 k3 hy (by omega) hAk hk hW0 (C.2.1 0) (C.2.1 1)) (cwV 2 hts gX10_carriedOut_X1_findParts rfl rfl rfl (by decide +kernel) ⟨Nat.le_of_ble_eq_true rfl, Nat.le_of_ble_eq_true rfl⟩) (fw_preV hW hK hR hy rfl) rfl rfl hl.1 rfl (lv_room (Nat.le_of_ble_eq_true rfl)) dX10_carriedOut_323 ⟨Nat.le_of_ble_eq_true rfl, Nat.le_of_ble_eq_true rfl⟩) hS (fun v_80 ω_81 H locs hq_82 hR hS => ?_)
  obtain ⟨rfl, z_83, hA2, hk2, fr_84⟩ := hq_82
  refine W.eq (g2 := F0 mI 326 ls [.int ((findC v k1 k2 k3 (C.2.1 0) (C.2.1 1)).1)]) rfl ?_
  refine fw_iret hx hb hr hlocks hR hS dX10_carriedOut_326 ?_
  have hr_85 : doC v k1 k2 k3 C = (findC v k1 k2 k3 (C.2.1 0) (C.2.1 1)) := by
    unfold doC
    rw [if_neg c_1, if_neg c_8, if_neg c_15, if_neg c_22, if_neg c_29, if_neg c_36, if_neg c_43, if_neg c_50, if_neg c_57, if_neg c_64, if_neg c_71]
  rw [hr_85]
  exact ⟨rfl, z_83, hA2, hk2, fr_84⟩
