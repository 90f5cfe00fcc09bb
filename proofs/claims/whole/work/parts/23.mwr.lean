/-! ===== printed by program (wip/whole/gen): the reference's calls that change, what they leave alone ===== -/
theorem laysM_3 {s g : Nat → Int32} {sh : Int32} : (laysM s g sh).2.1 3 = s 3 := by
  unfold laysM
  (repeat' split) <;> rfl
theorem addsM_3 {s g : Nat → Int32} {lf : Int32} {kd : Int32} {ps : Int32} {la : Int32} {sd : Int32} : (addsM s g lf kd ps la sd).2.1 3 = s 3 := by
  unfold addsM
  (repeat' split) <;> rfl
theorem foldsM_3 {s g : Nat → Int32} {lf : Int32} {by_ : Int32} : (foldsM s g lf by_).2.1 3 = s 3 := by
  unfold foldsM
  (repeat' split) <;> rfl
theorem comesM_3 {s g : Nat → Int32} {bo : Int32} {la : Int32} : (comesM s g bo la).2.1 3 = s 3 := by
  unfold comesM
  (repeat' split) <;> rfl
theorem learnsM_3 {s g : Nat → Int32} {co : Int32} {la : Int32} : (learnsM s g co la).2.1 3 = s 3 := by
  unfold learnsM
  (repeat' split) <;> rfl
theorem buildsM_3 {s g nd : Nat → Int32} {co : Int32} {lf : Int32} : (buildsM s g nd co lf).2.1 3 = s 3 := by
  unfold buildsM
  (repeat' split) <;> rfl
theorem finishesM_3 {s g nd : Nat → Int32} {lf : Int32} {sp : Int32} : (finishesM s g nd lf sp).2.1 3 = s 3 := by
  unfold finishesM
  (repeat' split) <;> rfl
theorem apartM_3 {s g nd : Nat → Int32} {lf : Int32} : (apartM s g nd lf).2.1 3 = s 3 := by
  unfold apartM
  (repeat' split) <;> rfl
theorem movesM_3 {s g : Nat → Int32} {lf : Int32} {sh : Int32} : (movesM s g lf sh).2.1 3 = s 3 := by
  unfold movesM
  (repeat' split) <;> rfl
theorem losesM_3 {s g : Nat → Int32} {kd : Int32} {ps : Int32} : (losesM s g kd ps).2.1 3 = s 3 := by
  unfold losesM
  (repeat' split) <;> rfl
theorem findsM_3 {s g : Nat → Int32} {kd : Int32} {ps : Int32} : (findsM s g kd ps).2.1 3 = s 3 := by
  unfold findsM
  (repeat' split) <;> rfl
def looksM (s g bf : Nat → Int32) : (Nat → Int32) := g
set_option maxHeartbeats 4000000 in
set_option maxRecDepth 100000 in
theorem c_X11_looksBack (G : FG) (hL : FL G) (l : Launch) (ω : FWd) (m : Nat) (s g : Nat → Int32) (m0 : ω.2 m = some (.inr (13, [.ref (m + 1), .ref (m + 2), .ref (m + 3), .int (s 3), .ref (m + 4), .int (s 5), .ref (m + 5), .int (s 7), .int (s 8), .int (s 9), .int (s 10), .int (s 11), .ref (m + 6), .int (s 13), .int (s 14), .ref (m + 7), .int (s 16), .int (s 17), .ref (m + 8)]))) (m1 : ω.2 (m + 1) = some (.inl (G.2.1 0, 324, .inl g))) (bf : Nat → Int32) (m2 : ω.2 (m + 2) = some (.inl (G.2.1 0, 324, .inl bf))) : FMet G l yX11_looksBack wsX11_looksBack ({ frames := 1, cells := 0, slots := 0, locals := 24 } : Room) [.ref m] ω (fun vv9 τ9 => vv9 = none ∧ τ9.1 = ω.1 ∧ τ9.2 (m + 2) = some (.inl (G.2.1 0, 324, .inl (looksM s g bf))) ∧ ∀ q : Nat, ¬ q = (m + 2) → τ9.2 q = ω.2 q) 0 0 := by
  refine fw_ofW (cc := cX11_looksBack) (maxL := 1) (ret := none) (by decide) rfl (Nat.le_of_ble_eq_true rfl) ?_
  intro pP eE sS mI ar9 bl9 meth cD ls hx hb hr hlocks hml hts hown hnm hW hR hl
  have hK := hL.K hW
  have hS : va_S (fwA G) sS.heap sS.heap [] := va_S.rf
  have hin11 : ∀ w ∈ u_ws RX11 TX11 19, w ∈ wsX11_looksBack := by decide +kernel
  have hl : lv_has ls 1 [(0, .ref m)] := hl
  refine lv_aload_n hx hb dX11_looksBack_0 rfl (lv_at hl 0 rfl) ?_
  refine fw_get (v := .ref (m + 1)) (C := RX11) (T := TX11) (N := 19) hx hb hts hin11 hown hK hR m0 rfl 0 (by decide) (hts (.fieldLink RX11 7 "UnreadLeafletsModel" "g" "[I") (by decide +kernel)) rfl dX11_looksBack_1 ?_
  refine lv_iconst (v := 0) hx hb dX11_looksBack_4 (by decide) ?_
  refine lv_aload_n hx hb dX11_looksBack_5 rfl (lv_at hl 0 rfl) ?_
  refine fw_get (v := .ref (m + 2)) (C := RX11) (T := TX11) (N := 19) hx hb hts hin11 hown hK hR m0 rfl 1 (by decide) (hts (.fieldLink RX11 13 "UnreadLeafletsModel" "before" "[I") (by decide +kernel)) rfl dX11_looksBack_6 ?_
  refine lv_iconst (v := 0) hx hb dX11_looksBack_9 (by decide) ?_
  refine fw_call (va_runS (As := [.ref (m + 1), .int 0, .ref (m + 2), .int 0]) (rest := []) ⟨hx, hb, hml, hown, hts⟩ (c_X11_copy G hL l ω (m + 1) (m + 2) 324 324 0 0 g bf m1 m2 (by omega) (by omega) (by omega) (by omega) (by omega)) (va_cwS 4 hts gX11_looksBack_X11_copy rfl rfl rfl (by decide +kernel) ⟨Nat.le_of_ble_eq_true rfl, Nat.le_of_ble_eq_true rfl⟩) (fw_preS hW hR) rfl rfl hl.1 rfl (lv_room (Nat.le_of_ble_eq_true rfl)) dX11_looksBack_10 ⟨Nat.le_of_ble_eq_true rfl, Nat.le_of_ble_eq_true rfl⟩) hS (fun v_1 ω_2 H locs hq_3 hR hS => ?_)
  obtain ⟨rfl, z_4, f_6, fr_5⟩ := hq_3
  refine W.eq (g2 := F0 mI 13 ls []) rfl ?_
  have hR := hR.rowAt f_6 (g := g) (fun j9 hj9 => by have h9 := cpyJ_at (f := g) (h := bf) (p := 0) (q := 0) hj9; rw [Nat.zero_add] at h9; exact h9)
  obtain ⟨ω_7, hw_8⟩ : ∃ τ : FWd, τ = (ω_2.1, va_up ω_2.2 (m + 2) (some (.inl (G.2.1 0, 324, .inl g)))) := ⟨_, rfl⟩
  have hR : fR G ω_7 H := by rw [hw_8]; exact hR
  have f_9 : ω_7.2 (m + 2) = some (.inl (G.2.1 0, 324, .inl g)) := by rw [hw_8]; exact va_up_at
  have fr_10 : ∀ q : Nat, ¬ q = (m + 2) → ω_7.2 q = ω_2.2 q := fun q hq => by rw [hw_8]; exact va_up_off hq
  have z_11 : ω_7.1 = ω_2.1 := by rw [hw_8]
  have fr_12 : ∀ q : Nat, ¬ q = (m + 2) → ω_7.2 q = ω.2 q := by
    intro q h0
    rw [fr_10 q (by omega)]
    rw [fr_5 q (by omega)]
  have z_13 : ω_7.1 = ω.1 := by rw [z_11, z_4]
  have hr_14 : looksM s g bf = (g : (Nat → Int32)) := by
    rfl
  refine fw_vret hx hb hr hlocks hR hS dX11_looksBack_13 ?_
  rw [hr_14]
  exact ⟨rfl, z_13, f_9, fr_12⟩
def keptM (s g bf hs : Nat → Int32) (v : Int32) : Int32 × (Nat → Int32) × (Nat → Int32) × (Nat → Int32) := if (s 14) = 0 then (if (s 3) = 8 then ((v, (upd (upd s 3 ((s 3) - 1)) 3 (((s 3) - 1) + 1)), g, (cpyJ bf (shJ hs 2268) 0 (7 * 324) 324))) else ((v, (upd s 3 ((s 3) + 1)), g, (cpyJ bf hs 0 ((cN (s 3)) * 324) 324)))) else ((0, s, bf, hs))
set_option maxHeartbeats 4000000 in
set_option maxRecDepth 100000 in
theorem c_X11_kept (G : FG) (hL : FL G) (l : Launch) (ω : FWd) (m : Nat) (s g : Nat → Int32) (m0 : ω.2 m = some (.inr (13, [.ref (m + 1), .ref (m + 2), .ref (m + 3), .int (s 3), .ref (m + 4), .int (s 5), .ref (m + 5), .int (s 7), .int (s 8), .int (s 9), .int (s 10), .int (s 11), .ref (m + 6), .int (s 13), .int (s 14), .ref (m + 7), .int (s 16), .int (s 17), .ref (m + 8)]))) (m1 : ω.2 (m + 1) = some (.inl (G.2.1 0, 324, .inl g))) (bf : Nat → Int32) (m2 : ω.2 (m + 2) = some (.inl (G.2.1 0, 324, .inl bf))) (hs : Nat → Int32) (m3 : ω.2 (m + 3) = some (.inl (G.2.1 0, 2592, .inl hs))) (hk : okN (s 3) 8) (v : Int32) : FMet G l yX11_kept wsX11_kept ({ frames := 1, cells := 0, slots := 0, locals := 24 } : Room) [.ref m, .int v] ω (fun vv9 τ9 => vv9 = some (.int ((keptM s g bf hs v).1)) ∧ τ9.1 = ω.1 ∧ τ9.2 m = some (.inr (13, [.ref (m + 1), .ref (m + 2), .ref (m + 3), .int (((keptM s g bf hs v).2.1) 3), .ref (m + 4), .int (((keptM s g bf hs v).2.1) 5), .ref (m + 5), .int (((keptM s g bf hs v).2.1) 7), .int (((keptM s g bf hs v).2.1) 8), .int (((keptM s g bf hs v).2.1) 9), .int (((keptM s g bf hs v).2.1) 10), .int (((keptM s g bf hs v).2.1) 11), .ref (m + 6), .int (((keptM s g bf hs v).2.1) 13), .int (((keptM s g bf hs v).2.1) 14), .ref (m + 7), .int (((keptM s g bf hs v).2.1) 16), .int (((keptM s g bf hs v).2.1) 17), .ref (m + 8)])) ∧ τ9.2 (m + 1) = some (.inl (G.2.1 0, 324, .inl ((keptM s g bf hs v).2.2.1))) ∧ τ9.2 (m + 3) = some (.inl (G.2.1 0, 2592, .inl ((keptM s g bf hs v).2.2.2))) ∧ ∀ q : Nat, ¬ q = m → ¬ q = (m + 1) → ¬ q = (m + 3) → τ9.2 q = ω.2 q) 0 0 := by
  refine fw_ofW (cc := cX11_kept) (maxL := 3) (ret := (some .int)) (by decide) rfl (Nat.le_of_ble_eq_true rfl) ?_
  intro pP eE sS mI ar9 bl9 meth cD ls hx hb hr hlocks hml hts hown hnm hW hR hl
  have hK := hL.K hW
  have hS : va_S (fwA G) sS.heap sS.heap [] := va_S.rf
  have hin11 : ∀ w ∈ u_ws RX11 TX11 19, w ∈ wsX11_kept := by decide +kernel
  have hl : lv_has ls 3 [(0, .ref m), (1, .int v)] := hl
  obtain ⟨ch, hch8, hch, hchc⟩ := okN_of hk
  refine lv_aload_n hx hb dX11_kept_0 rfl (lv_at hl 0 rfl) ?_
  refine fw_get (v := .int (s 14)) (C := RX11) (T := TX11) (N := 19) hx hb hts hin11 hown hK hR m0 rfl 14 (by decide) (hts (.fieldLink RX11 39 "UnreadLeafletsModel" "thrown" "I") (by decide +kernel)) rfl dX11_kept_1 ?_
  refine lv_if_eq (tgt := 22) hx hb dX11_kept_4 (by decide) (fun c_1 => ?_) (fun c_1 => ?_)
  · skip
    refine lv_aload_n hx hb dX11_kept_22 rfl (lv_at hl 0 rfl) ?_
    refine fw_get (v := .int (s 3)) (C := RX11) (T := TX11) (N := 19) hx hb hts hin11 hown hK hR m0 rfl 3 (by decide) (hts (.fieldLink RX11 59 "UnreadLeafletsModel" "changes" "I") (by decide +kernel)) rfl dX11_kept_23 ?_
    refine lv_bipush (v := 8) hx hb dX11_kept_26 (by decide) ?_
    refine lv_icmp_ne (tgt := 72) hx hb dX11_kept_28 (by decide) (fun c_2 => ?_) (fun c_2 => ?_)
    · skip
      have hch7 : ch < 8 := by rcases Nat.lt_or_ge ch 8 with h9 | h9; exact h9; exact absurd (by rw [hch, show ch = 8 by omega]; rfl) c_2
      refine lv_aload_n hx hb dX11_kept_72 rfl (lv_at hl 0 rfl) ?_
      refine fw_get (v := .ref (m + 2)) (C := RX11) (T := TX11) (N := 19) hx hb hts hin11 hown hK hR m0 rfl 1 (by decide) (hts (.fieldLink RX11 13 "UnreadLeafletsModel" "before" "[I") (by decide +kernel)) rfl dX11_kept_73 ?_
      refine lv_iconst (v := 0) hx hb dX11_kept_76 (by decide) ?_
      refine lv_aload_n hx hb dX11_kept_77 rfl (lv_at hl 0 rfl) ?_
      refine fw_get (v := .ref (m + 3)) (C := RX11) (T := TX11) (N := 19) hx hb hts hin11 hown hK hR m0 rfl 2 (by decide) (hts (.fieldLink RX11 16 "UnreadLeafletsModel" "history" "[I") (by decide +kernel)) rfl dX11_kept_78 ?_
      refine lv_aload_n hx hb dX11_kept_81 rfl (lv_at hl 0 rfl) ?_
      refine fw_get (v := .int (s 3)) (C := RX11) (T := TX11) (N := 19) hx hb hts hin11 hown hK hR m0 rfl 3 (by decide) (hts (.fieldLink RX11 59 "UnreadLeafletsModel" "changes" "I") (by decide +kernel)) rfl dX11_kept_82 ?_
      refine lv_sipush (v := 324) hx hb dX11_kept_85 (by decide) ?_
      refine lv_imul hx hb dX11_kept_88 ?_
      have hi_3 : (s 3) * 324 = nI (ch * 324) := by
        show (s 3) * (nI 324) = _
        simp only [pk_mul, nI_add, Nat.add_assoc, hch]
      refine W.eq (g2 := F0 mI 89 ls [.int (nI (ch * 324)), .ref (m + 3), .int 0, .ref (m + 2)]) (by rw [hi_3]) ?_
      refine fw_call (va_runS (As := [.ref (m + 2), .int 0, .ref (m + 3), .int (nI (ch * 324))]) (rest := []) ⟨hx, hb, hml, hown, hts⟩ (c_X11_copy G hL l ω (m + 2) (m + 3) 324 2592 0 (ch * 324) bf hs m2 m3 (by omega) (by omega) (by omega) (by omega) (by omega)) (va_cwS 4 hts gX11_kept_X11_copy rfl rfl rfl (by decide +kernel) ⟨Nat.le_of_ble_eq_true rfl, Nat.le_of_ble_eq_true rfl⟩) (fw_preS hW hR) rfl rfl hl.1 rfl (lv_room (Nat.le_of_ble_eq_true rfl)) dX11_kept_89 ⟨Nat.le_of_ble_eq_true rfl, Nat.le_of_ble_eq_true rfl⟩) hS (fun v_4 ω_5 H locs hq_6 hR hS => ?_)
      obtain ⟨rfl, z_7, f_9, fr_8⟩ := hq_6
      refine W.eq (g2 := F0 mI 92 ls []) rfl ?_
      refine lv_aload_n hx hb dX11_kept_92 rfl (lv_at hl 0 rfl) ?_
      refine lv_dup hx hb dX11_kept_93 rfl ?_
      have f_10 : ω_5.2 m = some (.inr (13, [.ref (m + 1), .ref (m + 2), .ref (m + 3), .int (s 3), .ref (m + 4), .int (s 5), .ref (m + 5), .int (s 7), .int (s 8), .int (s 9), .int (s 10), .int (s 11), .ref (m + 6), .int (s 13), .int (s 14), .ref (m + 7), .int (s 16), .int (s 17), .ref (m + 8)])) := (fr_8 m (by omega)).trans m0
      refine fw_get (v := .int (s 3)) (C := RX11) (T := TX11) (N := 19) hx hb hts hin11 hown hK hR f_10 rfl 3 (by decide) (hts (.fieldLink RX11 59 "UnreadLeafletsModel" "changes" "I") (by decide +kernel)) rfl dX11_kept_94 ?_
      refine lv_iconst (v := 1) hx hb dX11_kept_97 (by decide) ?_
      refine lv_iadd hx hb dX11_kept_98 ?_
      refine fw_put (v := .int ((s 3) + 1)) (C := RX11) (T := TX11) (N := 19) hx hb hts hin11 tyX11 tyX11_ok nmX11 hown hK hR hS f_10 rfl 3 (by decide) (hts (.fieldLink RX11 59 "UnreadLeafletsModel" "changes" "I") (by decide +kernel)) rfl rfl rfl (Nat.le_of_ble_eq_true rfl) dX11_kept_99 (fun H locs hR hS => ?_)
      obtain ⟨ω_11, hw_12⟩ : ∃ τ : FWd, τ = (ω_5.1, va_up ω_5.2 m (some (.inr (13, [.ref (m + 1), .ref (m + 2), .ref (m + 3), .int ((upd s 3 ((s 3) + 1)) 3), .ref (m + 4), .int ((upd s 3 ((s 3) + 1)) 5), .ref (m + 5), .int ((upd s 3 ((s 3) + 1)) 7), .int ((upd s 3 ((s 3) + 1)) 8), .int ((upd s 3 ((s 3) + 1)) 9), .int ((upd s 3 ((s 3) + 1)) 10), .int ((upd s 3 ((s 3) + 1)) 11), .ref (m + 6), .int ((upd s 3 ((s 3) + 1)) 13), .int ((upd s 3 ((s 3) + 1)) 14), .ref (m + 7), .int ((upd s 3 ((s 3) + 1)) 16), .int ((upd s 3 ((s 3) + 1)) 17), .ref (m + 8)])))) := ⟨_, rfl⟩
      have hR : fR G ω_11 H := by rw [hw_12]; exact hR
      have f_13 : ω_11.2 m = some (.inr (13, [.ref (m + 1), .ref (m + 2), .ref (m + 3), .int ((upd s 3 ((s 3) + 1)) 3), .ref (m + 4), .int ((upd s 3 ((s 3) + 1)) 5), .ref (m + 5), .int ((upd s 3 ((s 3) + 1)) 7), .int ((upd s 3 ((s 3) + 1)) 8), .int ((upd s 3 ((s 3) + 1)) 9), .int ((upd s 3 ((s 3) + 1)) 10), .int ((upd s 3 ((s 3) + 1)) 11), .ref (m + 6), .int ((upd s 3 ((s 3) + 1)) 13), .int ((upd s 3 ((s 3) + 1)) 14), .ref (m + 7), .int ((upd s 3 ((s 3) + 1)) 16), .int ((upd s 3 ((s 3) + 1)) 17), .ref (m + 8)])) := by rw [hw_12]; exact va_up_at
      have fr_14 : ∀ q : Nat, ¬ q = m → ω_11.2 q = ω_5.2 q := fun q hq => by rw [hw_12]; exact va_up_off hq
      have z_15 : ω_11.1 = ω_5.1 := by rw [hw_12]
      refine lv_iload_n hx hb dX11_kept_102 rfl (lv_at hl 1 rfl) ?_
      have f_16 : ω_5.2 (m + 1) = some (.inl (G.2.1 0, 324, .inl g)) := (fr_8 (m + 1) (by omega)).trans m1
      have f_17 : ω_11.2 (m + 1) = some (.inl (G.2.1 0, 324, .inl g)) := (fr_14 (m + 1) (by omega)).trans f_16
      have f_18 : ω_11.2 (m + 3) = some (.inl (G.2.1 0, 2592, .inl (cpyJ bf hs 0 (ch * 324) 324))) := (fr_14 (m + 3) (by omega)).trans f_9
      have fr_19 : ∀ q : Nat, ¬ q = m → ¬ q = (m + 1) → ¬ q = (m + 3) → ω_11.2 q = ω.2 q := by
        intro q h0 h1 h2
        rw [fr_14 q (by omega)]
        rw [fr_8 q (by omega)]
      have z_20 : ω_11.1 = ω.1 := by rw [z_15, z_7]
      have hr_21 : keptM s g bf hs v = ((v, (upd s 3 ((s 3) + 1)), g, (cpyJ bf hs 0 (ch * 324) 324)) : Int32 × (Nat → Int32) × (Nat → Int32) × (Nat → Int32)) := by
        simp only [keptM, hchc]
        rw [if_pos c_1, if_neg c_2]
      refine fw_iret hx hb hr hlocks hR hS dX11_kept_103 ?_
      rw [hr_21]
      exact ⟨rfl, z_20, f_13, f_17, f_18, fr_19⟩
    · skip
      refine lv_iconst (v := 0) hx hb dX11_kept_31 (by decide) ?_
      refine lv_istore_n (lv' := [(2, .int 0), (0, .ref m), (1, .int v)]) hx hb dX11_kept_32 rfl hl (by decide) rfl (fun ls hl => ?_)
      have loop_22 : ∀ (fu : Nat) (k : Nat) (τ1 : FWd), (2268 - k) < fu → (k ≤ 2268) → τ1.1 = ω.1 → τ1.2 (m + 3) = some (.inl (G.2.1 0, 2592, .inl (shJ hs k))) → (∀ q : Nat, ¬ q = (m + 3) → τ1.2 q = ω.2 q) → ∀ (H : Heap) (locs : List Loc) (ls : Array Slot), fR G τ1 H → va_S (fwA G) sS.heap H locs → lv_has ls 3 [(2, .int (nI k)), (0, .ref m), (1, .int v)] → W pP l eE ({ frames := 1, cells := 0, slots := 0, locals := 24 } : Room) sS mI ar9 bl9 meth cD H locs 0 0 (MQ bl9 (fQ G (fun vv9 τ9 => vv9 = some (.int ((keptM s g bf hs v).1)) ∧ τ9.1 = ω.1 ∧ τ9.2 m = some (.inr (13, [.ref (m + 1), .ref (m + 2), .ref (m + 3), .int (((keptM s g bf hs v).2.1) 3), .ref (m + 4), .int (((keptM s g bf hs v).2.1) 5), .ref (m + 5), .int (((keptM s g bf hs v).2.1) 7), .int (((keptM s g bf hs v).2.1) 8), .int (((keptM s g bf hs v).2.1) 9), .int (((keptM s g bf hs v).2.1) 10), .int (((keptM s g bf hs v).2.1) 11), .ref (m + 6), .int (((keptM s g bf hs v).2.1) 13), .int (((keptM s g bf hs v).2.1) 14), .ref (m + 7), .int (((keptM s g bf hs v).2.1) 16), .int (((keptM s g bf hs v).2.1) 17), .ref (m + 8)])) ∧ τ9.2 (m + 1) = some (.inl (G.2.1 0, 324, .inl ((keptM s g bf hs v).2.2.1))) ∧ τ9.2 (m + 3) = some (.inl (G.2.1 0, 2592, .inl ((keptM s g bf hs v).2.2.2))) ∧ ∀ q : Nat, ¬ q = m → ¬ q = (m + 1) → ¬ q = (m + 3) → τ9.2 q = ω.2 q)) ar9 sS 0 0 (fwA G)) (F0 mI 33 ls []) := by
        intro fu
        induction fu with
        | zero => intro k τ1 hfu; exact absurd hfu (Nat.not_lt_zero _)
        | succ fu ih =>
          intro k τ1 hfu hk2 hzτ1 w1 hfrτ1 H locs ls hR hS hl
          refine lv_iload_n hx hb dX11_kept_33 rfl (lv_at hl 0 rfl) ?_
          refine lv_sipush (v := 2268) hx hb dX11_kept_34 (by decide) ?_
          refine lv_icmp_ge (tgt := 62) hx hb dX11_kept_37 (by decide) (fun c_23 => ?_) (fun c_23 => ?_)
          · skip
            have hj2 := lp_ge (n := 2268) rfl c_23 (by omega) (by omega)
            have hkn : k = 2268 := by omega
            subst hkn
            refine lv_aload_n hx hb dX11_kept_62 rfl (lv_at hl 1 rfl) ?_
            refine lv_dup hx hb dX11_kept_63 rfl ?_
            have f_24 : τ1.2 m = some (.inr (13, [.ref (m + 1), .ref (m + 2), .ref (m + 3), .int (s 3), .ref (m + 4), .int (s 5), .ref (m + 5), .int (s 7), .int (s 8), .int (s 9), .int (s 10), .int (s 11), .ref (m + 6), .int (s 13), .int (s 14), .ref (m + 7), .int (s 16), .int (s 17), .ref (m + 8)])) := (hfrτ1 m (by omega)).trans m0
            refine fw_get (v := .int (s 3)) (C := RX11) (T := TX11) (N := 19) hx hb hts hin11 hown hK hR f_24 rfl 3 (by decide) (hts (.fieldLink RX11 59 "UnreadLeafletsModel" "changes" "I") (by decide +kernel)) rfl dX11_kept_64 ?_
            refine lv_iconst (v := 1) hx hb dX11_kept_67 (by decide) ?_
            refine lv_isub hx hb dX11_kept_68 ?_
            refine fw_put (v := .int ((s 3) - 1)) (C := RX11) (T := TX11) (N := 19) hx hb hts hin11 tyX11 tyX11_ok nmX11 hown hK hR hS f_24 rfl 3 (by decide) (hts (.fieldLink RX11 59 "UnreadLeafletsModel" "changes" "I") (by decide +kernel)) rfl rfl rfl (Nat.le_of_ble_eq_true rfl) dX11_kept_69 (fun H locs hR hS => ?_)
            obtain ⟨ω_25, hw_26⟩ : ∃ τ : FWd, τ = (τ1.1, va_up τ1.2 m (some (.inr (13, [.ref (m + 1), .ref (m + 2), .ref (m + 3), .int ((upd s 3 ((s 3) - 1)) 3), .ref (m + 4), .int ((upd s 3 ((s 3) - 1)) 5), .ref (m + 5), .int ((upd s 3 ((s 3) - 1)) 7), .int ((upd s 3 ((s 3) - 1)) 8), .int ((upd s 3 ((s 3) - 1)) 9), .int ((upd s 3 ((s 3) - 1)) 10), .int ((upd s 3 ((s 3) - 1)) 11), .ref (m + 6), .int ((upd s 3 ((s 3) - 1)) 13), .int ((upd s 3 ((s 3) - 1)) 14), .ref (m + 7), .int ((upd s 3 ((s 3) - 1)) 16), .int ((upd s 3 ((s 3) - 1)) 17), .ref (m + 8)])))) := ⟨_, rfl⟩
            have hR : fR G ω_25 H := by rw [hw_26]; exact hR
            have f_27 : ω_25.2 m = some (.inr (13, [.ref (m + 1), .ref (m + 2), .ref (m + 3), .int ((upd s 3 ((s 3) - 1)) 3), .ref (m + 4), .int ((upd s 3 ((s 3) - 1)) 5), .ref (m + 5), .int ((upd s 3 ((s 3) - 1)) 7), .int ((upd s 3 ((s 3) - 1)) 8), .int ((upd s 3 ((s 3) - 1)) 9), .int ((upd s 3 ((s 3) - 1)) 10), .int ((upd s 3 ((s 3) - 1)) 11), .ref (m + 6), .int ((upd s 3 ((s 3) - 1)) 13), .int ((upd s 3 ((s 3) - 1)) 14), .ref (m + 7), .int ((upd s 3 ((s 3) - 1)) 16), .int ((upd s 3 ((s 3) - 1)) 17), .ref (m + 8)])) := by rw [hw_26]; exact va_up_at
            have fr_28 : ∀ q : Nat, ¬ q = m → ω_25.2 q = τ1.2 q := fun q hq => by rw [hw_26]; exact va_up_off hq
            have z_29 : ω_25.1 = τ1.1 := by rw [hw_26]
            refine lv_aload_n hx hb dX11_kept_72 rfl (lv_at hl 1 rfl) ?_
            refine fw_get (v := .ref (m + 2)) (C := RX11) (T := TX11) (N := 19) hx hb hts hin11 hown hK hR f_27 rfl 1 (by decide) (hts (.fieldLink RX11 13 "UnreadLeafletsModel" "before" "[I") (by decide +kernel)) rfl dX11_kept_73 ?_
            refine lv_iconst (v := 0) hx hb dX11_kept_76 (by decide) ?_
            refine lv_aload_n hx hb dX11_kept_77 rfl (lv_at hl 1 rfl) ?_
            refine fw_get (v := .ref (m + 3)) (C := RX11) (T := TX11) (N := 19) hx hb hts hin11 hown hK hR f_27 rfl 2 (by decide) (hts (.fieldLink RX11 16 "UnreadLeafletsModel" "history" "[I") (by decide +kernel)) rfl dX11_kept_78 ?_
            refine lv_aload_n hx hb dX11_kept_81 rfl (lv_at hl 1 rfl) ?_
            refine fw_get (v := .int ((s 3) - 1)) (C := RX11) (T := TX11) (N := 19) hx hb hts hin11 hown hK hR f_27 rfl 3 (by decide) (hts (.fieldLink RX11 59 "UnreadLeafletsModel" "changes" "I") (by decide +kernel)) rfl dX11_kept_82 ?_
            refine W.eq (g2 := F0 mI 85 ls [.int 7, .ref (m + 3), .int 0, .ref (m + 2)]) (by rw [show s 3 - 1 = 7 by rw [c_2]; rfl]) ?_
            refine lv_sipush (v := 324) hx hb dX11_kept_85 (by decide) ?_
            refine lv_imul hx hb dX11_kept_88 ?_
            have hi_30 : 7 * 324 = nI (7 * 324) := by
              show (nI 7) * (nI 324) = _
              simp only [pk_mul, nI_add, Nat.add_assoc, hch]
            refine W.eq (g2 := F0 mI 89 ls [.int (nI (7 * 324)), .ref (m + 3), .int 0, .ref (m + 2)]) (by rw [hi_30]) ?_
            have f_31 : τ1.2 (m + 2) = some (.inl (G.2.1 0, 324, .inl bf)) := (hfrτ1 (m + 2) (by omega)).trans m2
            have f_32 : ω_25.2 (m + 2) = some (.inl (G.2.1 0, 324, .inl bf)) := (fr_28 (m + 2) (by omega)).trans f_31
            have f_33 : ω_25.2 (m + 3) = some (.inl (G.2.1 0, 2592, .inl (shJ hs 2268))) := (fr_28 (m + 3) (by omega)).trans w1
            refine fw_call (va_runS (As := [.ref (m + 2), .int 0, .ref (m + 3), .int (nI (7 * 324))]) (rest := []) ⟨hx, hb, hml, hown, hts⟩ (c_X11_copy G hL l ω_25 (m + 2) (m + 3) 324 2592 0 (7 * 324) bf (shJ hs 2268) f_32 f_33 (by omega) (by omega) (by omega) (by omega) (by omega)) (va_cwS 4 hts gX11_kept_X11_copy rfl rfl rfl (by decide +kernel) ⟨Nat.le_of_ble_eq_true rfl, Nat.le_of_ble_eq_true rfl⟩) (fw_preS hW hR) rfl rfl hl.1 rfl (lv_room (Nat.le_of_ble_eq_true rfl)) dX11_kept_89 ⟨Nat.le_of_ble_eq_true rfl, Nat.le_of_ble_eq_true rfl⟩) hS (fun v_34 ω_35 H locs hq_36 hR hS => ?_)
            obtain ⟨rfl, z_37, f_39, fr_38⟩ := hq_36
            refine W.eq (g2 := F0 mI 92 ls []) rfl ?_
            refine lv_aload_n hx hb dX11_kept_92 rfl (lv_at hl 1 rfl) ?_
            refine lv_dup hx hb dX11_kept_93 rfl ?_
            have f_40 : ω_35.2 m = some (.inr (13, [.ref (m + 1), .ref (m + 2), .ref (m + 3), .int ((upd s 3 ((s 3) - 1)) 3), .ref (m + 4), .int ((upd s 3 ((s 3) - 1)) 5), .ref (m + 5), .int ((upd s 3 ((s 3) - 1)) 7), .int ((upd s 3 ((s 3) - 1)) 8), .int ((upd s 3 ((s 3) - 1)) 9), .int ((upd s 3 ((s 3) - 1)) 10), .int ((upd s 3 ((s 3) - 1)) 11), .ref (m + 6), .int ((upd s 3 ((s 3) - 1)) 13), .int ((upd s 3 ((s 3) - 1)) 14), .ref (m + 7), .int ((upd s 3 ((s 3) - 1)) 16), .int ((upd s 3 ((s 3) - 1)) 17), .ref (m + 8)])) := (fr_38 m (by omega)).trans f_27
            refine fw_get (v := .int ((s 3) - 1)) (C := RX11) (T := TX11) (N := 19) hx hb hts hin11 hown hK hR f_40 rfl 3 (by decide) (hts (.fieldLink RX11 59 "UnreadLeafletsModel" "changes" "I") (by decide +kernel)) rfl dX11_kept_94 ?_
            refine lv_iconst (v := 1) hx hb dX11_kept_97 (by decide) ?_
            refine lv_iadd hx hb dX11_kept_98 ?_
            refine fw_put (v := .int (((s 3) - 1) + 1)) (C := RX11) (T := TX11) (N := 19) hx hb hts hin11 tyX11 tyX11_ok nmX11 hown hK hR hS f_40 rfl 3 (by decide) (hts (.fieldLink RX11 59 "UnreadLeafletsModel" "changes" "I") (by decide +kernel)) rfl rfl rfl (Nat.le_of_ble_eq_true rfl) dX11_kept_99 (fun H locs hR hS => ?_)
            obtain ⟨ω_41, hw_42⟩ : ∃ τ : FWd, τ = (ω_35.1, va_up ω_35.2 m (some (.inr (13, [.ref (m + 1), .ref (m + 2), .ref (m + 3), .int ((upd (upd s 3 ((s 3) - 1)) 3 (((s 3) - 1) + 1)) 3), .ref (m + 4), .int ((upd (upd s 3 ((s 3) - 1)) 3 (((s 3) - 1) + 1)) 5), .ref (m + 5), .int ((upd (upd s 3 ((s 3) - 1)) 3 (((s 3) - 1) + 1)) 7), .int ((upd (upd s 3 ((s 3) - 1)) 3 (((s 3) - 1) + 1)) 8), .int ((upd (upd s 3 ((s 3) - 1)) 3 (((s 3) - 1) + 1)) 9), .int ((upd (upd s 3 ((s 3) - 1)) 3 (((s 3) - 1) + 1)) 10), .int ((upd (upd s 3 ((s 3) - 1)) 3 (((s 3) - 1) + 1)) 11), .ref (m + 6), .int ((upd (upd s 3 ((s 3) - 1)) 3 (((s 3) - 1) + 1)) 13), .int ((upd (upd s 3 ((s 3) - 1)) 3 (((s 3) - 1) + 1)) 14), .ref (m + 7), .int ((upd (upd s 3 ((s 3) - 1)) 3 (((s 3) - 1) + 1)) 16), .int ((upd (upd s 3 ((s 3) - 1)) 3 (((s 3) - 1) + 1)) 17), .ref (m + 8)])))) := ⟨_, rfl⟩
            have hR : fR G ω_41 H := by rw [hw_42]; exact hR
            have f_43 : ω_41.2 m = some (.inr (13, [.ref (m + 1), .ref (m + 2), .ref (m + 3), .int ((upd (upd s 3 ((s 3) - 1)) 3 (((s 3) - 1) + 1)) 3), .ref (m + 4), .int ((upd (upd s 3 ((s 3) - 1)) 3 (((s 3) - 1) + 1)) 5), .ref (m + 5), .int ((upd (upd s 3 ((s 3) - 1)) 3 (((s 3) - 1) + 1)) 7), .int ((upd (upd s 3 ((s 3) - 1)) 3 (((s 3) - 1) + 1)) 8), .int ((upd (upd s 3 ((s 3) - 1)) 3 (((s 3) - 1) + 1)) 9), .int ((upd (upd s 3 ((s 3) - 1)) 3 (((s 3) - 1) + 1)) 10), .int ((upd (upd s 3 ((s 3) - 1)) 3 (((s 3) - 1) + 1)) 11), .ref (m + 6), .int ((upd (upd s 3 ((s 3) - 1)) 3 (((s 3) - 1) + 1)) 13), .int ((upd (upd s 3 ((s 3) - 1)) 3 (((s 3) - 1) + 1)) 14), .ref (m + 7), .int ((upd (upd s 3 ((s 3) - 1)) 3 (((s 3) - 1) + 1)) 16), .int ((upd (upd s 3 ((s 3) - 1)) 3 (((s 3) - 1) + 1)) 17), .ref (m + 8)])) := by rw [hw_42]; exact va_up_at
            have fr_44 : ∀ q : Nat, ¬ q = m → ω_41.2 q = ω_35.2 q := fun q hq => by rw [hw_42]; exact va_up_off hq
            have z_45 : ω_41.1 = ω_35.1 := by rw [hw_42]
            refine lv_iload_n hx hb dX11_kept_102 rfl (lv_at hl 2 rfl) ?_
            have f_46 : τ1.2 (m + 1) = some (.inl (G.2.1 0, 324, .inl g)) := (hfrτ1 (m + 1) (by omega)).trans m1
            have f_47 : ω_25.2 (m + 1) = some (.inl (G.2.1 0, 324, .inl g)) := (fr_28 (m + 1) (by omega)).trans f_46
            have f_48 : ω_35.2 (m + 1) = some (.inl (G.2.1 0, 324, .inl g)) := (fr_38 (m + 1) (by omega)).trans f_47
            have f_49 : ω_41.2 (m + 1) = some (.inl (G.2.1 0, 324, .inl g)) := (fr_44 (m + 1) (by omega)).trans f_48
            have f_50 : ω_41.2 (m + 3) = some (.inl (G.2.1 0, 2592, .inl (cpyJ bf (shJ hs 2268) 0 (7 * 324) 324))) := (fr_44 (m + 3) (by omega)).trans f_39
            have fr_51 : ∀ q : Nat, ¬ q = m → ¬ q = (m + 1) → ¬ q = (m + 3) → ω_41.2 q = ω.2 q := by
              intro q h0 h1 h2
              rw [fr_44 q (by omega)]
              rw [fr_38 q (by omega)]
              rw [fr_28 q (by omega)]
              rw [hfrτ1 q (by omega)]
            have z_52 : ω_41.1 = ω.1 := by rw [z_45, z_37, z_29, hzτ1]
            have hr_53 : keptM s g bf hs v = ((v, (upd (upd s 3 ((s 3) - 1)) 3 (((s 3) - 1) + 1)), g, (cpyJ bf (shJ hs 2268) 0 (7 * 324) 324)) : Int32 × (Nat → Int32) × (Nat → Int32) × (Nat → Int32)) := by
              simp only [keptM, hchc]
              rw [if_pos c_1, if_pos c_2]
            refine fw_iret hx hb hr hlocks hR hS dX11_kept_103 ?_
            rw [hr_53]
            exact ⟨rfl, z_52, f_43, f_49, f_50, fr_51⟩
          · skip
            have hj2 := lp_lt (n := 2268) rfl c_23 (by omega) (by omega)
            refine lv_aload_n hx hb dX11_kept_40 rfl (lv_at hl 1 rfl) ?_
            have f_54 : τ1.2 m = some (.inr (13, [.ref (m + 1), .ref (m + 2), .ref (m + 3), .int (s 3), .ref (m + 4), .int (s 5), .ref (m + 5), .int (s 7), .int (s 8), .int (s 9), .int (s 10), .int (s 11), .ref (m + 6), .int (s 13), .int (s 14), .ref (m + 7), .int (s 16), .int (s 17), .ref (m + 8)])) := (hfrτ1 m (by omega)).trans m0
            refine fw_get (v := .ref (m + 3)) (C := RX11) (T := TX11) (N := 19) hx hb hts hin11 hown hK hR f_54 rfl 2 (by decide) (hts (.fieldLink RX11 16 "UnreadLeafletsModel" "history" "[I") (by decide +kernel)) rfl dX11_kept_41 ?_
            refine lv_iload_n hx hb dX11_kept_44 rfl (lv_at hl 0 rfl) ?_
            refine lv_aload_n hx hb dX11_kept_45 rfl (lv_at hl 1 rfl) ?_
            refine fw_get (v := .ref (m + 3)) (C := RX11) (T := TX11) (N := 19) hx hb hts hin11 hown hK hR f_54 rfl 2 (by decide) (hts (.fieldLink RX11 16 "UnreadLeafletsModel" "history" "[I") (by decide +kernel)) rfl dX11_kept_46 ?_
            refine lv_iload_n hx hb dX11_kept_49 rfl (lv_at hl 0 rfl) ?_
            refine lv_sipush (v := 324) hx hb dX11_kept_50 (by decide) ?_
            refine lv_iadd hx hb dX11_kept_53 ?_
            have hi_55 : (nI k) + 324 = nI (k + 324) := by
              show (nI k) + (nI 324) = _
              simp only [pk_mul, nI_add, Nat.add_assoc, hch]
            refine W.eq (g2 := F0 mI 54 ls [.int (nI (k + 324)), .ref (m + 3), .int (nI k), .ref (m + 3)]) (by rw [hi_55]) ?_
            refine fw_iald hx hb hK hR w1 (vp_in_nI (by omega) (by omega)) dX11_kept_54 ?_
            refine W.eq (g2 := F0 mI 55 ls [.int ((shJ hs k) (k + 324)), .int (nI k), .ref (m + 3)]) (by rw [nI_clamp (by omega)]) ?_
            refine fw_iast hx hb hK hR hS w1 (vp_in_nI (by omega) (by omega)) dX11_kept_55 (fun H locs hR hS => ?_)
            rw [show (nI k).toNatClampNeg = k from nI_clamp (by omega)] at hR
            obtain ⟨ω_56, hw_57⟩ : ∃ τ : FWd, τ = (τ1.1, va_up τ1.2 (m + 3) (some (.inl (G.2.1 0, 2592, .inl (upd (shJ hs k) k ((shJ hs k) (k + 324))))))) := ⟨_, rfl⟩
            have hR : fR G ω_56 H := by rw [hw_57]; exact hR
            have f_58 : ω_56.2 (m + 3) = some (.inl (G.2.1 0, 2592, .inl (upd (shJ hs k) k ((shJ hs k) (k + 324))))) := by rw [hw_57]; exact va_up_at
            have fr_59 : ∀ q : Nat, ¬ q = (m + 3) → ω_56.2 q = τ1.2 q := fun q hq => by rw [hw_57]; exact va_up_off hq
            have z_60 : ω_56.1 = τ1.1 := by rw [hw_57]
            obtain ⟨x_61, ex_61⟩ : ∃ y : Int32, y = (nI k) + 1 := ⟨_, rfl⟩
            refine lv_iinc (v := x_61) (lv' := [(2, .int x_61), (0, .ref m), (1, .int v)]) hx hb dX11_kept_56 hl (k := 0) rfl (by rw [ex_61]; rfl) (by decide) rfl (fun ls hl => ?_)
            refine lv_goto (tgt := 33) hx hb dX11_kept_59 (by decide) ?_
            have el_2 : x_61 = nI (k + 1) := by rw [ex_61]; exact nI_1 k
            have hl := lv_sub (l' := [(2, .int x_61), (0, .ref m), (1, .int v)]) hl [0, 1, 2] rfl
            rw [el_2] at hl
            have wf_62 : ω_56.2 (m + 3) = some (.inl (G.2.1 0, 2592, .inl (shJ hs (k + 1)))) := f_58.trans (congrArg some (by rw [shJ_up]))
            have fr_63 : ∀ q : Nat, ¬ q = (m + 3) → ω_56.2 q = ω.2 q := by
              intro q h0
              rw [fr_59 q (by omega)]
              rw [hfrτ1 q (by omega)]
            have z_64 : ω_56.1 = ω.1 := by rw [z_60, hzτ1]
            exact ih (k + 1) ω_56 (by omega) (by first | assumption | omega | (simp; done)) z_64 wf_62 fr_63 _ _ _ hR hS hl
      have hw0 : ω.2 (m + 3) = some (.inl (G.2.1 0, 2592, .inl (shJ hs 0))) := m3
      exact loop_22 _ 0 ω (Nat.lt_succ_self _) (by first | rfl | assumption | omega | (simp; done)) rfl m3 (fun _ _ => rfl) _ _ _ hR hS (lv_sub hl [0, 1, 2] rfl)
  · skip
    refine lv_aload_n hx hb dX11_kept_7 rfl (lv_at hl 0 rfl) ?_
    refine fw_get (v := .ref (m + 2)) (C := RX11) (T := TX11) (N := 19) hx hb hts hin11 hown hK hR m0 rfl 1 (by decide) (hts (.fieldLink RX11 13 "UnreadLeafletsModel" "before" "[I") (by decide +kernel)) rfl dX11_kept_8 ?_
    refine lv_iconst (v := 0) hx hb dX11_kept_11 (by decide) ?_
    refine lv_aload_n hx hb dX11_kept_12 rfl (lv_at hl 0 rfl) ?_
    refine fw_get (v := .ref (m + 1)) (C := RX11) (T := TX11) (N := 19) hx hb hts hin11 hown hK hR m0 rfl 0 (by decide) (hts (.fieldLink RX11 7 "UnreadLeafletsModel" "g" "[I") (by decide +kernel)) rfl dX11_kept_13 ?_
    refine lv_iconst (v := 0) hx hb dX11_kept_16 (by decide) ?_
    refine fw_call (va_runS (As := [.ref (m + 2), .int 0, .ref (m + 1), .int 0]) (rest := []) ⟨hx, hb, hml, hown, hts⟩ (c_X11_copy G hL l ω (m + 2) (m + 1) 324 324 0 0 bf g m2 m1 (by omega) (by omega) (by omega) (by omega) (by omega)) (va_cwS 4 hts gX11_kept_X11_copy rfl rfl rfl (by decide +kernel) ⟨Nat.le_of_ble_eq_true rfl, Nat.le_of_ble_eq_true rfl⟩) (fw_preS hW hR) rfl rfl hl.1 rfl (lv_room (Nat.le_of_ble_eq_true rfl)) dX11_kept_17 ⟨Nat.le_of_ble_eq_true rfl, Nat.le_of_ble_eq_true rfl⟩) hS (fun v_65 ω_66 H locs hq_67 hR hS => ?_)
    obtain ⟨rfl, z_68, f_70, fr_69⟩ := hq_67
    refine W.eq (g2 := F0 mI 20 ls []) rfl ?_
    have hR := hR.rowAt f_70 (g := bf) (fun j9 hj9 => by have h9 := cpyJ_at (f := bf) (h := g) (p := 0) (q := 0) hj9; rw [Nat.zero_add] at h9; exact h9)
    obtain ⟨ω_71, hw_72⟩ : ∃ τ : FWd, τ = (ω_66.1, va_up ω_66.2 (m + 1) (some (.inl (G.2.1 0, 324, .inl bf)))) := ⟨_, rfl⟩
    have hR : fR G ω_71 H := by rw [hw_72]; exact hR
    have f_73 : ω_71.2 (m + 1) = some (.inl (G.2.1 0, 324, .inl bf)) := by rw [hw_72]; exact va_up_at
    have fr_74 : ∀ q : Nat, ¬ q = (m + 1) → ω_71.2 q = ω_66.2 q := fun q hq => by rw [hw_72]; exact va_up_off hq
    have z_75 : ω_71.1 = ω_66.1 := by rw [hw_72]
    refine lv_iconst (v := 0) hx hb dX11_kept_20 (by decide) ?_
    have f_76 : ω_66.2 m = some (.inr (13, [.ref (m + 1), .ref (m + 2), .ref (m + 3), .int (s 3), .ref (m + 4), .int (s 5), .ref (m + 5), .int (s 7), .int (s 8), .int (s 9), .int (s 10), .int (s 11), .ref (m + 6), .int (s 13), .int (s 14), .ref (m + 7), .int (s 16), .int (s 17), .ref (m + 8)])) := (fr_69 m (by omega)).trans m0
    have f_77 : ω_71.2 m = some (.inr (13, [.ref (m + 1), .ref (m + 2), .ref (m + 3), .int (s 3), .ref (m + 4), .int (s 5), .ref (m + 5), .int (s 7), .int (s 8), .int (s 9), .int (s 10), .int (s 11), .ref (m + 6), .int (s 13), .int (s 14), .ref (m + 7), .int (s 16), .int (s 17), .ref (m + 8)])) := (fr_74 m (by omega)).trans f_76
    have f_78 : ω_66.2 (m + 3) = some (.inl (G.2.1 0, 2592, .inl hs)) := (fr_69 (m + 3) (by omega)).trans m3
    have f_79 : ω_71.2 (m + 3) = some (.inl (G.2.1 0, 2592, .inl hs)) := (fr_74 (m + 3) (by omega)).trans f_78
    have fr_80 : ∀ q : Nat, ¬ q = m → ¬ q = (m + 1) → ¬ q = (m + 3) → ω_71.2 q = ω.2 q := by
      intro q h0 h1 h2
      rw [fr_74 q (by omega)]
      rw [fr_69 q (by omega)]
    have z_81 : ω_71.1 = ω.1 := by rw [z_75, z_68]
    have hr_82 : keptM s g bf hs v = ((0, s, bf, hs) : Int32 × (Nat → Int32) × (Nat → Int32) × (Nat → Int32)) := by
      simp only [keptM, hchc]
      rw [if_neg c_1]
    refine fw_iret hx hb hr hlocks hR hS dX11_kept_21 ?_
    rw [hr_82]
    exact ⟨rfl, z_81, f_77, f_73, f_79, fr_80⟩
def leafletM (s g bf hs : Nat → Int32) (sh : Int32) : Int32 × (Nat → Int32) × (Nat → Int32) × (Nat → Int32) × (Nat → Int32) := ((keptM ((laysM s g sh).2.1) ((laysM s g sh).2.2) (looksM s g bf) hs ((laysM s g sh).1)).1, ((keptM ((laysM s g sh).2.1) ((laysM s g sh).2.2) (looksM s g bf) hs ((laysM s g sh).1)).2.1), ((keptM ((laysM s g sh).2.1) ((laysM s g sh).2.2) (looksM s g bf) hs ((laysM s g sh).1)).2.2.1), (looksM s g bf), ((keptM ((laysM s g sh).2.1) ((laysM s g sh).2.2) (looksM s g bf) hs ((laysM s g sh).1)).2.2.2))
set_option maxHeartbeats 4000000 in
set_option maxRecDepth 100000 in
theorem c_X11_leaflet (G : FG) (hL : FL G) (l : Launch) (ω : FWd) (m : Nat) (s g : Nat → Int32) (m0 : ω.2 m = some (.inr (13, [.ref (m + 1), .ref (m + 2), .ref (m + 3), .int (s 3), .ref (m + 4), .int (s 5), .ref (m + 5), .int (s 7), .int (s 8), .int (s 9), .int (s 10), .int (s 11), .ref (m + 6), .int (s 13), .int (s 14), .ref (m + 7), .int (s 16), .int (s 17), .ref (m + 8)]))) (m1 : ω.2 (m + 1) = some (.inl (G.2.1 0, 324, .inl g))) (bf : Nat → Int32) (m2 : ω.2 (m + 2) = some (.inl (G.2.1 0, 324, .inl bf))) (hs : Nat → Int32) (m3 : ω.2 (m + 3) = some (.inl (G.2.1 0, 2592, .inl hs))) (hM : WFM g) (hk : okN (s 3) 8) (sh : Int32) : FMet G l yX11_leaflet wsX11_leaflet ({ frames := 3, cells := 0, slots := 0, locals := 65 } : Room) [.ref m, .int sh] ω (fun vv9 τ9 => vv9 = some (.int ((leafletM s g bf hs sh).1)) ∧ τ9.1 = ω.1 ∧ τ9.2 m = some (.inr (13, [.ref (m + 1), .ref (m + 2), .ref (m + 3), .int (((leafletM s g bf hs sh).2.1) 3), .ref (m + 4), .int (((leafletM s g bf hs sh).2.1) 5), .ref (m + 5), .int (((leafletM s g bf hs sh).2.1) 7), .int (((leafletM s g bf hs sh).2.1) 8), .int (((leafletM s g bf hs sh).2.1) 9), .int (((leafletM s g bf hs sh).2.1) 10), .int (((leafletM s g bf hs sh).2.1) 11), .ref (m + 6), .int (((leafletM s g bf hs sh).2.1) 13), .int (((leafletM s g bf hs sh).2.1) 14), .ref (m + 7), .int (((leafletM s g bf hs sh).2.1) 16), .int (((leafletM s g bf hs sh).2.1) 17), .ref (m + 8)])) ∧ τ9.2 (m + 1) = some (.inl (G.2.1 0, 324, .inl ((leafletM s g bf hs sh).2.2.1))) ∧ τ9.2 (m + 2) = some (.inl (G.2.1 0, 324, .inl ((leafletM s g bf hs sh).2.2.2.1))) ∧ τ9.2 (m + 3) = some (.inl (G.2.1 0, 2592, .inl ((leafletM s g bf hs sh).2.2.2.2))) ∧ ∀ q : Nat, ¬ q = m → ¬ q = (m + 1) → ¬ q = (m + 2) → ¬ q = (m + 3) → τ9.2 q = ω.2 q) 0 0 := by
  refine fw_ofW (cc := cX11_leaflet) (maxL := 2) (ret := (some .int)) (by decide) rfl (Nat.le_of_ble_eq_true rfl) ?_
  intro pP eE sS mI ar9 bl9 meth cD ls hx hb hr hlocks hml hts hown hnm hW hR hl
  have hK := hL.K hW
  have hS : va_S (fwA G) sS.heap sS.heap [] := va_S.rf
  have hl : lv_has ls 2 [(0, .ref m), (1, .int sh)] := hl
  obtain ⟨c, hc8, hc, hcc⟩ := okN_of hM.1
  obtain ⟨cc, hd5, hd, hdd⟩ := okN_of hM.2.1
  obtain ⟨ch, hch8, hch, hchc⟩ := okN_of hk
  refine lv_aload_n hx hb dX11_leaflet_0 rfl (lv_at hl 0 rfl) ?_
  refine fw_call (va_runV (As := []) (rest := []) ⟨hx, hb, hml, hown, hts⟩ (c_X11_looksBack G hL l ω m s g m0 m1 bf m2   ) (cwV 0 hts gX11_leaflet_X11_looksBack rfl rfl rfl (by decide +kernel) ⟨Nat.le_of_ble_eq_true rfl, Nat.le_of_ble_eq_true rfl⟩) (fw_preV hW hK hR m0 rfl) rfl rfl hl.1 rfl (lv_room (Nat.le_of_ble_eq_true rfl)) dX11_leaflet_1 ⟨Nat.le_of_ble_eq_true rfl, Nat.le_of_ble_eq_true rfl⟩) hS (fun v_1 ω_2 H locs hq_3 hR hS => ?_)
  obtain ⟨rfl, z_4, f_6, fr_5⟩ := hq_3
  refine W.eq (g2 := F0 mI 4 ls []) rfl ?_
  refine lv_aload_n hx hb dX11_leaflet_4 rfl (lv_at hl 0 rfl) ?_
  refine lv_aload_n hx hb dX11_leaflet_5 rfl (lv_at hl 0 rfl) ?_
  refine lv_iload_n hx hb dX11_leaflet_6 rfl (lv_at hl 1 rfl) ?_
  have f_7 : ω_2.2 m = some (.inr (13, [.ref (m + 1), .ref (m + 2), .ref (m + 3), .int (s 3), .ref (m + 4), .int (s 5), .ref (m + 5), .int (s 7), .int (s 8), .int (s 9), .int (s 10), .int (s 11), .ref (m + 6), .int (s 13), .int (s 14), .ref (m + 7), .int (s 16), .int (s 17), .ref (m + 8)])) := (fr_5 m (by omega)).trans m0
  have f_8 : ω_2.2 (m + 1) = some (.inl (G.2.1 0, 324, .inl g)) := (fr_5 (m + 1) (by omega)).trans m1
  refine fw_call (va_runV (As := [.int sh]) (rest := [.ref m]) ⟨hx, hb, hml, hown, hts⟩ (c_X11_lays G hL l ω_2 m s g f_7 f_8 hM sh ) (cwV 1 hts gX11_leaflet_X11_lays rfl rfl rfl (by decide +kernel) ⟨Nat.le_of_ble_eq_true rfl, Nat.le_of_ble_eq_true rfl⟩) (fw_preV hW hK hR f_7 rfl) rfl rfl hl.1 rfl (lv_room (Nat.le_of_ble_eq_true rfl)) dX11_leaflet_7 ⟨Nat.le_of_ble_eq_true rfl, Nat.le_of_ble_eq_true rfl⟩) hS (fun v_9 ω_10 H locs hq_11 hR hS => ?_)
  obtain ⟨rfl, z_12, f_14, f_15, fr_13⟩ := hq_11
  refine W.eq (g2 := F0 mI 10 ls [.int ((laysM s g sh).1), .ref m]) rfl ?_
  have f_16 : ω_10.2 (m + 2) = some (.inl (G.2.1 0, 324, .inl (looksM s g bf))) := (fr_13 (m + 2) (by omega) (by omega)).trans f_6
  have f_17 : ω_2.2 (m + 3) = some (.inl (G.2.1 0, 2592, .inl hs)) := (fr_5 (m + 3) (by omega)).trans m3
  have f_18 : ω_10.2 (m + 3) = some (.inl (G.2.1 0, 2592, .inl hs)) := (fr_13 (m + 3) (by omega) (by omega)).trans f_17
  refine fw_call (va_runV (As := [.int ((laysM s g sh).1)]) (rest := []) ⟨hx, hb, hml, hown, hts⟩ (c_X11_kept G hL l ω_10 m ((laysM s g sh).2.1) ((laysM s g sh).2.2) f_14 f_15 (looksM s g bf) f_16 hs f_18 (by rw [laysM_3]; exact hk) ((laysM s g sh).1) ) (cwV 1 hts gX11_leaflet_X11_kept rfl rfl rfl (by decide +kernel) ⟨Nat.le_of_ble_eq_true rfl, Nat.le_of_ble_eq_true rfl⟩) (fw_preV hW hK hR f_14 rfl) rfl rfl hl.1 rfl (lv_room (Nat.le_of_ble_eq_true rfl)) dX11_leaflet_10 ⟨Nat.le_of_ble_eq_true rfl, Nat.le_of_ble_eq_true rfl⟩) hS (fun v_19 ω_20 H locs hq_21 hR hS => ?_)
  obtain ⟨rfl, z_22, f_24, f_25, f_26, fr_23⟩ := hq_21
  refine W.eq (g2 := F0 mI 13 ls [.int ((keptM ((laysM s g sh).2.1) ((laysM s g sh).2.2) (looksM s g bf) hs ((laysM s g sh).1)).1)]) rfl ?_
  have f_27 : ω_20.2 (m + 2) = some (.inl (G.2.1 0, 324, .inl (looksM s g bf))) := (fr_23 (m + 2) (by omega) (by omega) (by omega)).trans f_16
  have fr_28 : ∀ q : Nat, ¬ q = m → ¬ q = (m + 1) → ¬ q = (m + 2) → ¬ q = (m + 3) → ω_20.2 q = ω.2 q := by
    intro q h0 h1 h2 h3
    rw [fr_23 q (by omega) (by omega) (by omega)]
    rw [fr_13 q (by omega) (by omega)]
    rw [fr_5 q (by omega)]
  have z_29 : ω_20.1 = ω.1 := by rw [z_22, z_12, z_4]
  have hr_30 : leafletM s g bf hs sh = (((keptM ((laysM s g sh).2.1) ((laysM s g sh).2.2) (looksM s g bf) hs ((laysM s g sh).1)).1, ((keptM ((laysM s g sh).2.1) ((laysM s g sh).2.2) (looksM s g bf) hs ((laysM s g sh).1)).2.1), ((keptM ((laysM s g sh).2.1) ((laysM s g sh).2.2) (looksM s g bf) hs ((laysM s g sh).1)).2.2.1), (looksM s g bf), ((keptM ((laysM s g sh).2.1) ((laysM s g sh).2.2) (looksM s g bf) hs ((laysM s g sh).1)).2.2.2)) : Int32 × (Nat → Int32) × (Nat → Int32) × (Nat → Int32) × (Nat → Int32)) := by
    simp only [leafletM, hcc, hdd, hchc]
  refine fw_iret hx hb hr hlocks hR hS dX11_leaflet_13 ?_
  rw [hr_30]
  exact ⟨rfl, z_29, f_24, f_25, f_27, f_26, fr_28⟩
def stepM (s g bf hs : Nat → Int32) (lf : Int32) (kd : Int32) (ps : Int32) (la : Int32) (z : Int32) : Int32 × (Nat → Int32) × (Nat → Int32) × (Nat → Int32) × (Nat → Int32) := if z = 0 then (((keptM ((addsM s g lf kd ps la 0).2.1) ((addsM s g lf kd ps la 0).2.2) (looksM s g bf) hs ((addsM s g lf kd ps la 0).1)).1, ((keptM ((addsM s g lf kd ps la 0).2.1) ((addsM s g lf kd ps la 0).2.2) (looksM s g bf) hs ((addsM s g lf kd ps la 0).1)).2.1), ((keptM ((addsM s g lf kd ps la 0).2.1) ((addsM s g lf kd ps la 0).2.2) (looksM s g bf) hs ((addsM s g lf kd ps la 0).1)).2.2.1), (looksM s g bf), ((keptM ((addsM s g lf kd ps la 0).2.1) ((addsM s g lf kd ps la 0).2.2) (looksM s g bf) hs ((addsM s g lf kd ps la 0).1)).2.2.2))) else (((keptM ((addsM s g lf kd ps la 1).2.1) ((addsM s g lf kd ps la 1).2.2) (looksM s g bf) hs ((addsM s g lf kd ps la 1).1)).1, ((keptM ((addsM s g lf kd ps la 1).2.1) ((addsM s g lf kd ps la 1).2.2) (looksM s g bf) hs ((addsM s g lf kd ps la 1).1)).2.1), ((keptM ((addsM s g lf kd ps la 1).2.1) ((addsM s g lf kd ps la 1).2.2) (looksM s g bf) hs ((addsM s g lf kd ps la 1).1)).2.2.1), (looksM s g bf), ((keptM ((addsM s g lf kd ps la 1).2.1) ((addsM s g lf kd ps la 1).2.2) (looksM s g bf) hs ((addsM s g lf kd ps la 1).1)).2.2.2)))
set_option maxHeartbeats 4000000 in
set_option maxRecDepth 100000 in
theorem c_X11_step (G : FG) (hL : FL G) (l : Launch) (ω : FWd) (m : Nat) (s g : Nat → Int32) (m0 : ω.2 m = some (.inr (13, [.ref (m + 1), .ref (m + 2), .ref (m + 3), .int (s 3), .ref (m + 4), .int (s 5), .ref (m + 5), .int (s 7), .int (s 8), .int (s 9), .int (s 10), .int (s 11), .ref (m + 6), .int (s 13), .int (s 14), .ref (m + 7), .int (s 16), .int (s 17), .ref (m + 8)]))) (m1 : ω.2 (m + 1) = some (.inl (G.2.1 0, 324, .inl g))) (bf : Nat → Int32) (m2 : ω.2 (m + 2) = some (.inl (G.2.1 0, 324, .inl bf))) (hs : Nat → Int32) (m3 : ω.2 (m + 3) = some (.inl (G.2.1 0, 2592, .inl hs))) (hM : WFM g) (hk : okN (s 3) 8) (lf : Int32) (kd : Int32) (ps : Int32) (la : Int32) (z : Int32) : FMet G l yX11_step wsX11_step ({ frames := 3, cells := 0, slots := 0, locals := 70 } : Room) [.ref m, .int lf, .int kd, .int ps, .int la, .int z] ω (fun vv9 τ9 => vv9 = some (.int ((stepM s g bf hs lf kd ps la z).1)) ∧ τ9.1 = ω.1 ∧ τ9.2 m = some (.inr (13, [.ref (m + 1), .ref (m + 2), .ref (m + 3), .int (((stepM s g bf hs lf kd ps la z).2.1) 3), .ref (m + 4), .int (((stepM s g bf hs lf kd ps la z).2.1) 5), .ref (m + 5), .int (((stepM s g bf hs lf kd ps la z).2.1) 7), .int (((stepM s g bf hs lf kd ps la z).2.1) 8), .int (((stepM s g bf hs lf kd ps la z).2.1) 9), .int (((stepM s g bf hs lf kd ps la z).2.1) 10), .int (((stepM s g bf hs lf kd ps la z).2.1) 11), .ref (m + 6), .int (((stepM s g bf hs lf kd ps la z).2.1) 13), .int (((stepM s g bf hs lf kd ps la z).2.1) 14), .ref (m + 7), .int (((stepM s g bf hs lf kd ps la z).2.1) 16), .int (((stepM s g bf hs lf kd ps la z).2.1) 17), .ref (m + 8)])) ∧ τ9.2 (m + 1) = some (.inl (G.2.1 0, 324, .inl ((stepM s g bf hs lf kd ps la z).2.2.1))) ∧ τ9.2 (m + 2) = some (.inl (G.2.1 0, 324, .inl ((stepM s g bf hs lf kd ps la z).2.2.2.1))) ∧ τ9.2 (m + 3) = some (.inl (G.2.1 0, 2592, .inl ((stepM s g bf hs lf kd ps la z).2.2.2.2))) ∧ ∀ q : Nat, ¬ q = m → ¬ q = (m + 1) → ¬ q = (m + 2) → ¬ q = (m + 3) → τ9.2 q = ω.2 q) 0 0 := by
  refine fw_ofW (cc := cX11_step) (maxL := 6) (ret := (some .int)) (by decide) rfl (Nat.le_of_ble_eq_true rfl) ?_
  intro pP eE sS mI ar9 bl9 meth cD ls hx hb hr hlocks hml hts hown hnm hW hR hl
  have hK := hL.K hW
  have hS : va_S (fwA G) sS.heap sS.heap [] := va_S.rf
  have hl : lv_has ls 6 [(0, .ref m), (1, .int lf), (2, .int kd), (3, .int ps), (4, .int la), (5, .int z)] := hl
  obtain ⟨c, hc8, hc, hcc⟩ := okN_of hM.1
  obtain ⟨cc, hd5, hd, hdd⟩ := okN_of hM.2.1
  obtain ⟨ch, hch8, hch, hchc⟩ := okN_of hk
  refine lv_aload_n hx hb dX11_step_0 rfl (lv_at hl 0 rfl) ?_
  refine fw_call (va_runV (As := []) (rest := []) ⟨hx, hb, hml, hown, hts⟩ (c_X11_looksBack G hL l ω m s g m0 m1 bf m2   ) (cwV 0 hts gX11_step_X11_looksBack rfl rfl rfl (by decide +kernel) ⟨Nat.le_of_ble_eq_true rfl, Nat.le_of_ble_eq_true rfl⟩) (fw_preV hW hK hR m0 rfl) rfl rfl hl.1 rfl (lv_room (Nat.le_of_ble_eq_true rfl)) dX11_step_1 ⟨Nat.le_of_ble_eq_true rfl, Nat.le_of_ble_eq_true rfl⟩) hS (fun v_1 ω_2 H locs hq_3 hR hS => ?_)
  obtain ⟨rfl, z_4, f_6, fr_5⟩ := hq_3
  refine W.eq (g2 := F0 mI 4 ls []) rfl ?_
  refine lv_aload_n hx hb dX11_step_4 rfl (lv_at hl 0 rfl) ?_
  refine lv_aload_n hx hb dX11_step_5 rfl (lv_at hl 0 rfl) ?_
  refine lv_iload_n hx hb dX11_step_6 rfl (lv_at hl 1 rfl) ?_
  refine lv_iload_n hx hb dX11_step_7 rfl (lv_at hl 2 rfl) ?_
  refine lv_iload_n hx hb dX11_step_8 rfl (lv_at hl 3 rfl) ?_
  refine lv_iload hx hb dX11_step_9 (lv_at hl 4 rfl) ?_
  refine lv_iload hx hb dX11_step_11 (lv_at hl 5 rfl) ?_
  refine lv_if_eq (tgt := 20) hx hb dX11_step_13 (by decide) (fun c_7 => ?_) (fun c_7 => ?_)
  · skip
    refine lv_iconst (v := 0) hx hb dX11_step_20 (by decide) ?_
    have f_8 : ω_2.2 m = some (.inr (13, [.ref (m + 1), .ref (m + 2), .ref (m + 3), .int (s 3), .ref (m + 4), .int (s 5), .ref (m + 5), .int (s 7), .int (s 8), .int (s 9), .int (s 10), .int (s 11), .ref (m + 6), .int (s 13), .int (s 14), .ref (m + 7), .int (s 16), .int (s 17), .ref (m + 8)])) := (fr_5 m (by omega)).trans m0
    have f_9 : ω_2.2 (m + 1) = some (.inl (G.2.1 0, 324, .inl g)) := (fr_5 (m + 1) (by omega)).trans m1
    refine fw_call (va_runV (As := [.int lf, .int kd, .int ps, .int la, .int 0]) (rest := [.ref m]) ⟨hx, hb, hml, hown, hts⟩ (c_X11_adds G hL l ω_2 m s g f_8 f_9 hM lf kd ps la 0 ) (cwV 5 hts gX11_step_X11_adds rfl rfl rfl (by decide +kernel) ⟨Nat.le_of_ble_eq_true rfl, Nat.le_of_ble_eq_true rfl⟩) (fw_preV hW hK hR f_8 rfl) rfl rfl hl.1 rfl (lv_room (Nat.le_of_ble_eq_true rfl)) dX11_step_21 ⟨Nat.le_of_ble_eq_true rfl, Nat.le_of_ble_eq_true rfl⟩) hS (fun v_10 ω_11 H locs hq_12 hR hS => ?_)
    obtain ⟨rfl, z_13, f_15, f_16, fr_14⟩ := hq_12
    refine W.eq (g2 := F0 mI 24 ls [.int ((addsM s g lf kd ps la 0).1), .ref m]) rfl ?_
    have f_17 : ω_11.2 (m + 2) = some (.inl (G.2.1 0, 324, .inl (looksM s g bf))) := (fr_14 (m + 2) (by omega) (by omega)).trans f_6
    have f_18 : ω_2.2 (m + 3) = some (.inl (G.2.1 0, 2592, .inl hs)) := (fr_5 (m + 3) (by omega)).trans m3
    have f_19 : ω_11.2 (m + 3) = some (.inl (G.2.1 0, 2592, .inl hs)) := (fr_14 (m + 3) (by omega) (by omega)).trans f_18
    refine fw_call (va_runV (As := [.int ((addsM s g lf kd ps la 0).1)]) (rest := []) ⟨hx, hb, hml, hown, hts⟩ (c_X11_kept G hL l ω_11 m ((addsM s g lf kd ps la 0).2.1) ((addsM s g lf kd ps la 0).2.2) f_15 f_16 (looksM s g bf) f_17 hs f_19 (by rw [addsM_3]; exact hk) ((addsM s g lf kd ps la 0).1) ) (cwV 1 hts gX11_step_X11_kept rfl rfl rfl (by decide +kernel) ⟨Nat.le_of_ble_eq_true rfl, Nat.le_of_ble_eq_true rfl⟩) (fw_preV hW hK hR f_15 rfl) rfl rfl hl.1 rfl (lv_room (Nat.le_of_ble_eq_true rfl)) dX11_step_24 ⟨Nat.le_of_ble_eq_true rfl, Nat.le_of_ble_eq_true rfl⟩) hS (fun v_20 ω_21 H locs hq_22 hR hS => ?_)
    obtain ⟨rfl, z_23, f_25, f_26, f_27, fr_24⟩ := hq_22
    refine W.eq (g2 := F0 mI 27 ls [.int ((keptM ((addsM s g lf kd ps la 0).2.1) ((addsM s g lf kd ps la 0).2.2) (looksM s g bf) hs ((addsM s g lf kd ps la 0).1)).1)]) rfl ?_
    have f_28 : ω_21.2 (m + 2) = some (.inl (G.2.1 0, 324, .inl (looksM s g bf))) := (fr_24 (m + 2) (by omega) (by omega) (by omega)).trans f_17
    have fr_29 : ∀ q : Nat, ¬ q = m → ¬ q = (m + 1) → ¬ q = (m + 2) → ¬ q = (m + 3) → ω_21.2 q = ω.2 q := by
      intro q h0 h1 h2 h3
      rw [fr_24 q (by omega) (by omega) (by omega)]
      rw [fr_14 q (by omega) (by omega)]
      rw [fr_5 q (by omega)]
    have z_30 : ω_21.1 = ω.1 := by rw [z_23, z_13, z_4]
    have hr_31 : stepM s g bf hs lf kd ps la z = (((keptM ((addsM s g lf kd ps la 0).2.1) ((addsM s g lf kd ps la 0).2.2) (looksM s g bf) hs ((addsM s g lf kd ps la 0).1)).1, ((keptM ((addsM s g lf kd ps la 0).2.1) ((addsM s g lf kd ps la 0).2.2) (looksM s g bf) hs ((addsM s g lf kd ps la 0).1)).2.1), ((keptM ((addsM s g lf kd ps la 0).2.1) ((addsM s g lf kd ps la 0).2.2) (looksM s g bf) hs ((addsM s g lf kd ps la 0).1)).2.2.1), (looksM s g bf), ((keptM ((addsM s g lf kd ps la 0).2.1) ((addsM s g lf kd ps la 0).2.2) (looksM s g bf) hs ((addsM s g lf kd ps la 0).1)).2.2.2)) : Int32 × (Nat → Int32) × (Nat → Int32) × (Nat → Int32) × (Nat → Int32)) := by
      simp only [stepM, hcc, hdd, hchc]
      rw [if_pos c_7]
    refine fw_iret hx hb hr hlocks hR hS dX11_step_27 ?_
    rw [hr_31]
    exact ⟨rfl, z_30, f_25, f_26, f_28, f_27, fr_29⟩
  · skip
    refine lv_iconst (v := 1) hx hb dX11_step_16 (by decide) ?_
    refine lv_goto (tgt := 21) hx hb dX11_step_17 (by decide) ?_
    have f_32 : ω_2.2 m = some (.inr (13, [.ref (m + 1), .ref (m + 2), .ref (m + 3), .int (s 3), .ref (m + 4), .int (s 5), .ref (m + 5), .int (s 7), .int (s 8), .int (s 9), .int (s 10), .int (s 11), .ref (m + 6), .int (s 13), .int (s 14), .ref (m + 7), .int (s 16), .int (s 17), .ref (m + 8)])) := (fr_5 m (by omega)).trans m0
    have f_33 : ω_2.2 (m + 1) = some (.inl (G.2.1 0, 324, .inl g)) := (fr_5 (m + 1) (by omega)).trans m1
    refine fw_call (va_runV (As := [.int lf, .int kd, .int ps, .int la, .int 1]) (rest := [.ref m]) ⟨hx, hb, hml, hown, hts⟩ (c_X11_adds G hL l ω_2 m s g f_32 f_33 hM lf kd ps la 1 ) (cwV 5 hts gX11_step_X11_adds rfl rfl rfl (by decide +kernel) ⟨Nat.le_of_ble_eq_true rfl, Nat.le_of_ble_eq_true rfl⟩) (fw_preV hW hK hR f_32 rfl) rfl rfl hl.1 rfl (lv_room (Nat.le_of_ble_eq_true rfl)) dX11_step_21 ⟨Nat.le_of_ble_eq_true rfl, Nat.le_of_ble_eq_true rfl⟩) hS (fun v_34 ω_35 H locs hq_36 hR hS => ?_)
    obtain ⟨rfl, z_37, f_39, f_40, fr_38⟩ := hq_36
    refine W.eq (g2 := F0 mI 24 ls [.int ((addsM s g lf kd ps la 1).1), .ref m]) rfl ?_
    have f_41 : ω_35.2 (m + 2) = some (.inl (G.2.1 0, 324, .inl (looksM s g bf))) := (fr_38 (m + 2) (by omega) (by omega)).trans f_6
    have f_42 : ω_2.2 (m + 3) = some (.inl (G.2.1 0, 2592, .inl hs)) := (fr_5 (m + 3) (by omega)).trans m3
    have f_43 : ω_35.2 (m + 3) = some (.inl (G.2.1 0, 2592, .inl hs)) := (fr_38 (m + 3) (by omega) (by omega)).trans f_42
    refine fw_call (va_runV (As := [.int ((addsM s g lf kd ps la 1).1)]) (rest := []) ⟨hx, hb, hml, hown, hts⟩ (c_X11_kept G hL l ω_35 m ((addsM s g lf kd ps la 1).2.1) ((addsM s g lf kd ps la 1).2.2) f_39 f_40 (looksM s g bf) f_41 hs f_43 (by rw [addsM_3]; exact hk) ((addsM s g lf kd ps la 1).1) ) (cwV 1 hts gX11_step_X11_kept rfl rfl rfl (by decide +kernel) ⟨Nat.le_of_ble_eq_true rfl, Nat.le_of_ble_eq_true rfl⟩) (fw_preV hW hK hR f_39 rfl) rfl rfl hl.1 rfl (lv_room (Nat.le_of_ble_eq_true rfl)) dX11_step_24 ⟨Nat.le_of_ble_eq_true rfl, Nat.le_of_ble_eq_true rfl⟩) hS (fun v_44 ω_45 H locs hq_46 hR hS => ?_)
    obtain ⟨rfl, z_47, f_49, f_50, f_51, fr_48⟩ := hq_46
    refine W.eq (g2 := F0 mI 27 ls [.int ((keptM ((addsM s g lf kd ps la 1).2.1) ((addsM s g lf kd ps la 1).2.2) (looksM s g bf) hs ((addsM s g lf kd ps la 1).1)).1)]) rfl ?_
    have f_52 : ω_45.2 (m + 2) = some (.inl (G.2.1 0, 324, .inl (looksM s g bf))) := (fr_48 (m + 2) (by omega) (by omega) (by omega)).trans f_41
    have fr_53 : ∀ q : Nat, ¬ q = m → ¬ q = (m + 1) → ¬ q = (m + 2) → ¬ q = (m + 3) → ω_45.2 q = ω.2 q := by
      intro q h0 h1 h2 h3
      rw [fr_48 q (by omega) (by omega) (by omega)]
      rw [fr_38 q (by omega) (by omega)]
      rw [fr_5 q (by omega)]
    have z_54 : ω_45.1 = ω.1 := by rw [z_47, z_37, z_4]
    have hr_55 : stepM s g bf hs lf kd ps la z = (((keptM ((addsM s g lf kd ps la 1).2.1) ((addsM s g lf kd ps la 1).2.2) (looksM s g bf) hs ((addsM s g lf kd ps la 1).1)).1, ((keptM ((addsM s g lf kd ps la 1).2.1) ((addsM s g lf kd ps la 1).2.2) (looksM s g bf) hs ((addsM s g lf kd ps la 1).1)).2.1), ((keptM ((addsM s g lf kd ps la 1).2.1) ((addsM s g lf kd ps la 1).2.2) (looksM s g bf) hs ((addsM s g lf kd ps la 1).1)).2.2.1), (looksM s g bf), ((keptM ((addsM s g lf kd ps la 1).2.1) ((addsM s g lf kd ps la 1).2.2) (looksM s g bf) hs ((addsM s g lf kd ps la 1).1)).2.2.2)) : Int32 × (Nat → Int32) × (Nat → Int32) × (Nat → Int32) × (Nat → Int32)) := by
      simp only [stepM, hcc, hdd, hchc]
      rw [if_neg c_7]
    refine fw_iret hx hb hr hlocks hR hS dX11_step_27 ?_
    rw [hr_55]
    exact ⟨rfl, z_54, f_49, f_50, f_52, f_51, fr_53⟩
def foldM (s g bf hs : Nat → Int32) (lf : Int32) : Int32 × (Nat → Int32) × (Nat → Int32) × (Nat → Int32) × (Nat → Int32) := ((keptM ((foldsM s g lf 1).2.1) ((foldsM s g lf 1).2.2) (looksM s g bf) hs ((foldsM s g lf 1).1)).1, ((keptM ((foldsM s g lf 1).2.1) ((foldsM s g lf 1).2.2) (looksM s g bf) hs ((foldsM s g lf 1).1)).2.1), ((keptM ((foldsM s g lf 1).2.1) ((foldsM s g lf 1).2.2) (looksM s g bf) hs ((foldsM s g lf 1).1)).2.2.1), (looksM s g bf), ((keptM ((foldsM s g lf 1).2.1) ((foldsM s g lf 1).2.2) (looksM s g bf) hs ((foldsM s g lf 1).1)).2.2.2))
set_option maxHeartbeats 4000000 in
set_option maxRecDepth 100000 in
theorem c_X11_fold (G : FG) (hL : FL G) (l : Launch) (ω : FWd) (m : Nat) (s g : Nat → Int32) (m0 : ω.2 m = some (.inr (13, [.ref (m + 1), .ref (m + 2), .ref (m + 3), .int (s 3), .ref (m + 4), .int (s 5), .ref (m + 5), .int (s 7), .int (s 8), .int (s 9), .int (s 10), .int (s 11), .ref (m + 6), .int (s 13), .int (s 14), .ref (m + 7), .int (s 16), .int (s 17), .ref (m + 8)]))) (m1 : ω.2 (m + 1) = some (.inl (G.2.1 0, 324, .inl g))) (bf : Nat → Int32) (m2 : ω.2 (m + 2) = some (.inl (G.2.1 0, 324, .inl bf))) (hs : Nat → Int32) (m3 : ω.2 (m + 3) = some (.inl (G.2.1 0, 2592, .inl hs))) (hM : WFM g) (hk : okN (s 3) 8) (lf : Int32) : FMet G l yX11_fold wsX11_fold ({ frames := 3, cells := 0, slots := 0, locals := 68 } : Room) [.ref m, .int lf] ω (fun vv9 τ9 => vv9 = some (.int ((foldM s g bf hs lf).1)) ∧ τ9.1 = ω.1 ∧ τ9.2 m = some (.inr (13, [.ref (m + 1), .ref (m + 2), .ref (m + 3), .int (((foldM s g bf hs lf).2.1) 3), .ref (m + 4), .int (((foldM s g bf hs lf).2.1) 5), .ref (m + 5), .int (((foldM s g bf hs lf).2.1) 7), .int (((foldM s g bf hs lf).2.1) 8), .int (((foldM s g bf hs lf).2.1) 9), .int (((foldM s g bf hs lf).2.1) 10), .int (((foldM s g bf hs lf).2.1) 11), .ref (m + 6), .int (((foldM s g bf hs lf).2.1) 13), .int (((foldM s g bf hs lf).2.1) 14), .ref (m + 7), .int (((foldM s g bf hs lf).2.1) 16), .int (((foldM s g bf hs lf).2.1) 17), .ref (m + 8)])) ∧ τ9.2 (m + 1) = some (.inl (G.2.1 0, 324, .inl ((foldM s g bf hs lf).2.2.1))) ∧ τ9.2 (m + 2) = some (.inl (G.2.1 0, 324, .inl ((foldM s g bf hs lf).2.2.2.1))) ∧ τ9.2 (m + 3) = some (.inl (G.2.1 0, 2592, .inl ((foldM s g bf hs lf).2.2.2.2))) ∧ ∀ q : Nat, ¬ q = m → ¬ q = (m + 1) → ¬ q = (m + 2) → ¬ q = (m + 3) → τ9.2 q = ω.2 q) 0 0 := by
  refine fw_ofW (cc := cX11_fold) (maxL := 2) (ret := (some .int)) (by decide) rfl (Nat.le_of_ble_eq_true rfl) ?_
  intro pP eE sS mI ar9 bl9 meth cD ls hx hb hr hlocks hml hts hown hnm hW hR hl
  have hK := hL.K hW
  have hS : va_S (fwA G) sS.heap sS.heap [] := va_S.rf
  have hl : lv_has ls 2 [(0, .ref m), (1, .int lf)] := hl
  obtain ⟨c, hc8, hc, hcc⟩ := okN_of hM.1
  obtain ⟨cc, hd5, hd, hdd⟩ := okN_of hM.2.1
  obtain ⟨ch, hch8, hch, hchc⟩ := okN_of hk
  refine lv_aload_n hx hb dX11_fold_0 rfl (lv_at hl 0 rfl) ?_
  refine fw_call (va_runV (As := []) (rest := []) ⟨hx, hb, hml, hown, hts⟩ (c_X11_looksBack G hL l ω m s g m0 m1 bf m2   ) (cwV 0 hts gX11_fold_X11_looksBack rfl rfl rfl (by decide +kernel) ⟨Nat.le_of_ble_eq_true rfl, Nat.le_of_ble_eq_true rfl⟩) (fw_preV hW hK hR m0 rfl) rfl rfl hl.1 rfl (lv_room (Nat.le_of_ble_eq_true rfl)) dX11_fold_1 ⟨Nat.le_of_ble_eq_true rfl, Nat.le_of_ble_eq_true rfl⟩) hS (fun v_1 ω_2 H locs hq_3 hR hS => ?_)
  obtain ⟨rfl, z_4, f_6, fr_5⟩ := hq_3
  refine W.eq (g2 := F0 mI 4 ls []) rfl ?_
  refine lv_aload_n hx hb dX11_fold_4 rfl (lv_at hl 0 rfl) ?_
  refine lv_aload_n hx hb dX11_fold_5 rfl (lv_at hl 0 rfl) ?_
  refine lv_iload_n hx hb dX11_fold_6 rfl (lv_at hl 1 rfl) ?_
  refine lv_iconst (v := 1) hx hb dX11_fold_7 (by decide) ?_
  have f_7 : ω_2.2 m = some (.inr (13, [.ref (m + 1), .ref (m + 2), .ref (m + 3), .int (s 3), .ref (m + 4), .int (s 5), .ref (m + 5), .int (s 7), .int (s 8), .int (s 9), .int (s 10), .int (s 11), .ref (m + 6), .int (s 13), .int (s 14), .ref (m + 7), .int (s 16), .int (s 17), .ref (m + 8)])) := (fr_5 m (by omega)).trans m0
  have f_8 : ω_2.2 (m + 1) = some (.inl (G.2.1 0, 324, .inl g)) := (fr_5 (m + 1) (by omega)).trans m1
  refine fw_call (va_runV (As := [.int lf, .int 1]) (rest := [.ref m]) ⟨hx, hb, hml, hown, hts⟩ (c_X11_foldsBy G hL l ω_2 m s g f_7 f_8 hM lf 1 ) (cwV 2 hts gX11_fold_X11_foldsBy rfl rfl rfl (by decide +kernel) ⟨Nat.le_of_ble_eq_true rfl, Nat.le_of_ble_eq_true rfl⟩) (fw_preV hW hK hR f_7 rfl) rfl rfl hl.1 rfl (lv_room (Nat.le_of_ble_eq_true rfl)) dX11_fold_8 ⟨Nat.le_of_ble_eq_true rfl, Nat.le_of_ble_eq_true rfl⟩) hS (fun v_9 ω_10 H locs hq_11 hR hS => ?_)
  obtain ⟨rfl, z_12, f_14, f_15, fr_13⟩ := hq_11
  refine W.eq (g2 := F0 mI 11 ls [.int ((foldsM s g lf 1).1), .ref m]) rfl ?_
  have f_16 : ω_10.2 (m + 2) = some (.inl (G.2.1 0, 324, .inl (looksM s g bf))) := (fr_13 (m + 2) (by omega) (by omega)).trans f_6
  have f_17 : ω_2.2 (m + 3) = some (.inl (G.2.1 0, 2592, .inl hs)) := (fr_5 (m + 3) (by omega)).trans m3
  have f_18 : ω_10.2 (m + 3) = some (.inl (G.2.1 0, 2592, .inl hs)) := (fr_13 (m + 3) (by omega) (by omega)).trans f_17
  refine fw_call (va_runV (As := [.int ((foldsM s g lf 1).1)]) (rest := []) ⟨hx, hb, hml, hown, hts⟩ (c_X11_kept G hL l ω_10 m ((foldsM s g lf 1).2.1) ((foldsM s g lf 1).2.2) f_14 f_15 (looksM s g bf) f_16 hs f_18 (by rw [foldsM_3]; exact hk) ((foldsM s g lf 1).1) ) (cwV 1 hts gX11_fold_X11_kept rfl rfl rfl (by decide +kernel) ⟨Nat.le_of_ble_eq_true rfl, Nat.le_of_ble_eq_true rfl⟩) (fw_preV hW hK hR f_14 rfl) rfl rfl hl.1 rfl (lv_room (Nat.le_of_ble_eq_true rfl)) dX11_fold_11 ⟨Nat.le_of_ble_eq_true rfl, Nat.le_of_ble_eq_true rfl⟩) hS (fun v_19 ω_20 H locs hq_21 hR hS => ?_)
  obtain ⟨rfl, z_22, f_24, f_25, f_26, fr_23⟩ := hq_21
  refine W.eq (g2 := F0 mI 14 ls [.int ((keptM ((foldsM s g lf 1).2.1) ((foldsM s g lf 1).2.2) (looksM s g bf) hs ((foldsM s g lf 1).1)).1)]) rfl ?_
  have f_27 : ω_20.2 (m + 2) = some (.inl (G.2.1 0, 324, .inl (looksM s g bf))) := (fr_23 (m + 2) (by omega) (by omega) (by omega)).trans f_16
  have fr_28 : ∀ q : Nat, ¬ q = m → ¬ q = (m + 1) → ¬ q = (m + 2) → ¬ q = (m + 3) → ω_20.2 q = ω.2 q := by
    intro q h0 h1 h2 h3
    rw [fr_23 q (by omega) (by omega) (by omega)]
    rw [fr_13 q (by omega) (by omega)]
    rw [fr_5 q (by omega)]
  have z_29 : ω_20.1 = ω.1 := by rw [z_22, z_12, z_4]
  have hr_30 : foldM s g bf hs lf = (((keptM ((foldsM s g lf 1).2.1) ((foldsM s g lf 1).2.2) (looksM s g bf) hs ((foldsM s g lf 1).1)).1, ((keptM ((foldsM s g lf 1).2.1) ((foldsM s g lf 1).2.2) (looksM s g bf) hs ((foldsM s g lf 1).1)).2.1), ((keptM ((foldsM s g lf 1).2.1) ((foldsM s g lf 1).2.2) (looksM s g bf) hs ((foldsM s g lf 1).1)).2.2.1), (looksM s g bf), ((keptM ((foldsM s g lf 1).2.1) ((foldsM s g lf 1).2.2) (looksM s g bf) hs ((foldsM s g lf 1).1)).2.2.2)) : Int32 × (Nat → Int32) × (Nat → Int32) × (Nat → Int32) × (Nat → Int32)) := by
    simp only [foldM, hcc, hdd, hchc]
  refine fw_iret hx hb hr hlocks hR hS dX11_fold_14 ?_
  rw [hr_30]
  exact ⟨rfl, z_29, f_24, f_25, f_27, f_26, fr_28⟩
def unfoldM (s g bf hs : Nat → Int32) (lf : Int32) : Int32 × (Nat → Int32) × (Nat → Int32) × (Nat → Int32) × (Nat → Int32) := ((keptM ((foldsM s g lf (-1)).2.1) ((foldsM s g lf (-1)).2.2) (looksM s g bf) hs ((foldsM s g lf (-1)).1)).1, ((keptM ((foldsM s g lf (-1)).2.1) ((foldsM s g lf (-1)).2.2) (looksM s g bf) hs ((foldsM s g lf (-1)).1)).2.1), ((keptM ((foldsM s g lf (-1)).2.1) ((foldsM s g lf (-1)).2.2) (looksM s g bf) hs ((foldsM s g lf (-1)).1)).2.2.1), (looksM s g bf), ((keptM ((foldsM s g lf (-1)).2.1) ((foldsM s g lf (-1)).2.2) (looksM s g bf) hs ((foldsM s g lf (-1)).1)).2.2.2))
set_option maxHeartbeats 4000000 in
set_option maxRecDepth 100000 in
theorem c_X11_unfold (G : FG) (hL : FL G) (l : Launch) (ω : FWd) (m : Nat) (s g : Nat → Int32) (m0 : ω.2 m = some (.inr (13, [.ref (m + 1), .ref (m + 2), .ref (m + 3), .int (s 3), .ref (m + 4), .int (s 5), .ref (m + 5), .int (s 7), .int (s 8), .int (s 9), .int (s 10), .int (s 11), .ref (m + 6), .int (s 13), .int (s 14), .ref (m + 7), .int (s 16), .int (s 17), .ref (m + 8)]))) (m1 : ω.2 (m + 1) = some (.inl (G.2.1 0, 324, .inl g))) (bf : Nat → Int32) (m2 : ω.2 (m + 2) = some (.inl (G.2.1 0, 324, .inl bf))) (hs : Nat → Int32) (m3 : ω.2 (m + 3) = some (.inl (G.2.1 0, 2592, .inl hs))) (hM : WFM g) (hk : okN (s 3) 8) (lf : Int32) : FMet G l yX11_unfold wsX11_unfold ({ frames := 3, cells := 0, slots := 0, locals := 68 } : Room) [.ref m, .int lf] ω (fun vv9 τ9 => vv9 = some (.int ((unfoldM s g bf hs lf).1)) ∧ τ9.1 = ω.1 ∧ τ9.2 m = some (.inr (13, [.ref (m + 1), .ref (m + 2), .ref (m + 3), .int (((unfoldM s g bf hs lf).2.1) 3), .ref (m + 4), .int (((unfoldM s g bf hs lf).2.1) 5), .ref (m + 5), .int (((unfoldM s g bf hs lf).2.1) 7), .int (((unfoldM s g bf hs lf).2.1) 8), .int (((unfoldM s g bf hs lf).2.1) 9), .int (((unfoldM s g bf hs lf).2.1) 10), .int (((unfoldM s g bf hs lf).2.1) 11), .ref (m + 6), .int (((unfoldM s g bf hs lf).2.1) 13), .int (((unfoldM s g bf hs lf).2.1) 14), .ref (m + 7), .int (((unfoldM s g bf hs lf).2.1) 16), .int (((unfoldM s g bf hs lf).2.1) 17), .ref (m + 8)])) ∧ τ9.2 (m + 1) = some (.inl (G.2.1 0, 324, .inl ((unfoldM s g bf hs lf).2.2.1))) ∧ τ9.2 (m + 2) = some (.inl (G.2.1 0, 324, .inl ((unfoldM s g bf hs lf).2.2.2.1))) ∧ τ9.2 (m + 3) = some (.inl (G.2.1 0, 2592, .inl ((unfoldM s g bf hs lf).2.2.2.2))) ∧ ∀ q : Nat, ¬ q = m → ¬ q = (m + 1) → ¬ q = (m + 2) → ¬ q = (m + 3) → τ9.2 q = ω.2 q) 0 0 := by
  refine fw_ofW (cc := cX11_unfold) (maxL := 2) (ret := (some .int)) (by decide) rfl (Nat.le_of_ble_eq_true rfl) ?_
  intro pP eE sS mI ar9 bl9 meth cD ls hx hb hr hlocks hml hts hown hnm hW hR hl
  have hK := hL.K hW
  have hS : va_S (fwA G) sS.heap sS.heap [] := va_S.rf
  have hl : lv_has ls 2 [(0, .ref m), (1, .int lf)] := hl
  obtain ⟨c, hc8, hc, hcc⟩ := okN_of hM.1
  obtain ⟨cc, hd5, hd, hdd⟩ := okN_of hM.2.1
  obtain ⟨ch, hch8, hch, hchc⟩ := okN_of hk
  refine lv_aload_n hx hb dX11_unfold_0 rfl (lv_at hl 0 rfl) ?_
  refine fw_call (va_runV (As := []) (rest := []) ⟨hx, hb, hml, hown, hts⟩ (c_X11_looksBack G hL l ω m s g m0 m1 bf m2   ) (cwV 0 hts gX11_unfold_X11_looksBack rfl rfl rfl (by decide +kernel) ⟨Nat.le_of_ble_eq_true rfl, Nat.le_of_ble_eq_true rfl⟩) (fw_preV hW hK hR m0 rfl) rfl rfl hl.1 rfl (lv_room (Nat.le_of_ble_eq_true rfl)) dX11_unfold_1 ⟨Nat.le_of_ble_eq_true rfl, Nat.le_of_ble_eq_true rfl⟩) hS (fun v_1 ω_2 H locs hq_3 hR hS => ?_)
  obtain ⟨rfl, z_4, f_6, fr_5⟩ := hq_3
  refine W.eq (g2 := F0 mI 4 ls []) rfl ?_
  refine lv_aload_n hx hb dX11_unfold_4 rfl (lv_at hl 0 rfl) ?_
  refine lv_aload_n hx hb dX11_unfold_5 rfl (lv_at hl 0 rfl) ?_
  refine lv_iload_n hx hb dX11_unfold_6 rfl (lv_at hl 1 rfl) ?_
  refine lv_iconst (v := (-1)) hx hb dX11_unfold_7 (by decide) ?_
  have f_7 : ω_2.2 m = some (.inr (13, [.ref (m + 1), .ref (m + 2), .ref (m + 3), .int (s 3), .ref (m + 4), .int (s 5), .ref (m + 5), .int (s 7), .int (s 8), .int (s 9), .int (s 10), .int (s 11), .ref (m + 6), .int (s 13), .int (s 14), .ref (m + 7), .int (s 16), .int (s 17), .ref (m + 8)])) := (fr_5 m (by omega)).trans m0
  have f_8 : ω_2.2 (m + 1) = some (.inl (G.2.1 0, 324, .inl g)) := (fr_5 (m + 1) (by omega)).trans m1
  refine fw_call (va_runV (As := [.int lf, .int (-1)]) (rest := [.ref m]) ⟨hx, hb, hml, hown, hts⟩ (c_X11_foldsBy G hL l ω_2 m s g f_7 f_8 hM lf (-1) ) (cwV 2 hts gX11_unfold_X11_foldsBy rfl rfl rfl (by decide +kernel) ⟨Nat.le_of_ble_eq_true rfl, Nat.le_of_ble_eq_true rfl⟩) (fw_preV hW hK hR f_7 rfl) rfl rfl hl.1 rfl (lv_room (Nat.le_of_ble_eq_true rfl)) dX11_unfold_8 ⟨Nat.le_of_ble_eq_true rfl, Nat.le_of_ble_eq_true rfl⟩) hS (fun v_9 ω_10 H locs hq_11 hR hS => ?_)
  obtain ⟨rfl, z_12, f_14, f_15, fr_13⟩ := hq_11
  refine W.eq (g2 := F0 mI 11 ls [.int ((foldsM s g lf (-1)).1), .ref m]) rfl ?_
  have f_16 : ω_10.2 (m + 2) = some (.inl (G.2.1 0, 324, .inl (looksM s g bf))) := (fr_13 (m + 2) (by omega) (by omega)).trans f_6
  have f_17 : ω_2.2 (m + 3) = some (.inl (G.2.1 0, 2592, .inl hs)) := (fr_5 (m + 3) (by omega)).trans m3
  have f_18 : ω_10.2 (m + 3) = some (.inl (G.2.1 0, 2592, .inl hs)) := (fr_13 (m + 3) (by omega) (by omega)).trans f_17
  refine fw_call (va_runV (As := [.int ((foldsM s g lf (-1)).1)]) (rest := []) ⟨hx, hb, hml, hown, hts⟩ (c_X11_kept G hL l ω_10 m ((foldsM s g lf (-1)).2.1) ((foldsM s g lf (-1)).2.2) f_14 f_15 (looksM s g bf) f_16 hs f_18 (by rw [foldsM_3]; exact hk) ((foldsM s g lf (-1)).1) ) (cwV 1 hts gX11_unfold_X11_kept rfl rfl rfl (by decide +kernel) ⟨Nat.le_of_ble_eq_true rfl, Nat.le_of_ble_eq_true rfl⟩) (fw_preV hW hK hR f_14 rfl) rfl rfl hl.1 rfl (lv_room (Nat.le_of_ble_eq_true rfl)) dX11_unfold_11 ⟨Nat.le_of_ble_eq_true rfl, Nat.le_of_ble_eq_true rfl⟩) hS (fun v_19 ω_20 H locs hq_21 hR hS => ?_)
  obtain ⟨rfl, z_22, f_24, f_25, f_26, fr_23⟩ := hq_21
  refine W.eq (g2 := F0 mI 14 ls [.int ((keptM ((foldsM s g lf (-1)).2.1) ((foldsM s g lf (-1)).2.2) (looksM s g bf) hs ((foldsM s g lf (-1)).1)).1)]) rfl ?_
  have f_27 : ω_20.2 (m + 2) = some (.inl (G.2.1 0, 324, .inl (looksM s g bf))) := (fr_23 (m + 2) (by omega) (by omega) (by omega)).trans f_16
  have fr_28 : ∀ q : Nat, ¬ q = m → ¬ q = (m + 1) → ¬ q = (m + 2) → ¬ q = (m + 3) → ω_20.2 q = ω.2 q := by
    intro q h0 h1 h2 h3
    rw [fr_23 q (by omega) (by omega) (by omega)]
    rw [fr_13 q (by omega) (by omega)]
    rw [fr_5 q (by omega)]
  have z_29 : ω_20.1 = ω.1 := by rw [z_22, z_12, z_4]
  have hr_30 : unfoldM s g bf hs lf = (((keptM ((foldsM s g lf (-1)).2.1) ((foldsM s g lf (-1)).2.2) (looksM s g bf) hs ((foldsM s g lf (-1)).1)).1, ((keptM ((foldsM s g lf (-1)).2.1) ((foldsM s g lf (-1)).2.2) (looksM s g bf) hs ((foldsM s g lf (-1)).1)).2.1), ((keptM ((foldsM s g lf (-1)).2.1) ((foldsM s g lf (-1)).2.2) (looksM s g bf) hs ((foldsM s g lf (-1)).1)).2.2.1), (looksM s g bf), ((keptM ((foldsM s g lf (-1)).2.1) ((foldsM s g lf (-1)).2.2) (looksM s g bf) hs ((foldsM s g lf (-1)).1)).2.2.2)) : Int32 × (Nat → Int32) × (Nat → Int32) × (Nat → Int32) × (Nat → Int32)) := by
    simp only [unfoldM, hcc, hdd, hchc]
  refine fw_iret hx hb hr hlocks hR hS dX11_unfold_14 ?_
  rw [hr_30]
  exact ⟨rfl, z_29, f_24, f_25, f_27, f_26, fr_28⟩
def cousinM (s g bf hs : Nat → Int32) (bo : Int32) (la : Int32) : Int32 × (Nat → Int32) × (Nat → Int32) × (Nat → Int32) × (Nat → Int32) := ((keptM ((comesM s g bo la).2.1) ((comesM s g bo la).2.2) (looksM s g bf) hs ((comesM s g bo la).1)).1, ((keptM ((comesM s g bo la).2.1) ((comesM s g bo la).2.2) (looksM s g bf) hs ((comesM s g bo la).1)).2.1), ((keptM ((comesM s g bo la).2.1) ((comesM s g bo la).2.2) (looksM s g bf) hs ((comesM s g bo la).1)).2.2.1), (looksM s g bf), ((keptM ((comesM s g bo la).2.1) ((comesM s g bo la).2.2) (looksM s g bf) hs ((comesM s g bo la).1)).2.2.2))
set_option maxHeartbeats 4000000 in
set_option maxRecDepth 100000 in
theorem c_X11_cousin (G : FG) (hL : FL G) (l : Launch) (ω : FWd) (m : Nat) (s g : Nat → Int32) (m0 : ω.2 m = some (.inr (13, [.ref (m + 1), .ref (m + 2), .ref (m + 3), .int (s 3), .ref (m + 4), .int (s 5), .ref (m + 5), .int (s 7), .int (s 8), .int (s 9), .int (s 10), .int (s 11), .ref (m + 6), .int (s 13), .int (s 14), .ref (m + 7), .int (s 16), .int (s 17), .ref (m + 8)]))) (m1 : ω.2 (m + 1) = some (.inl (G.2.1 0, 324, .inl g))) (bf : Nat → Int32) (m2 : ω.2 (m + 2) = some (.inl (G.2.1 0, 324, .inl bf))) (hs : Nat → Int32) (m3 : ω.2 (m + 3) = some (.inl (G.2.1 0, 2592, .inl hs))) (hM : WFM g) (hk : okN (s 3) 8) (bo : Int32) (la : Int32) : FMet G l yX11_cousin wsX11_cousin ({ frames := 3, cells := 0, slots := 0, locals := 66 } : Room) [.ref m, .int bo, .int la] ω (fun vv9 τ9 => vv9 = some (.int ((cousinM s g bf hs bo la).1)) ∧ τ9.1 = ω.1 ∧ τ9.2 m = some (.inr (13, [.ref (m + 1), .ref (m + 2), .ref (m + 3), .int (((cousinM s g bf hs bo la).2.1) 3), .ref (m + 4), .int (((cousinM s g bf hs bo la).2.1) 5), .ref (m + 5), .int (((cousinM s g bf hs bo la).2.1) 7), .int (((cousinM s g bf hs bo la).2.1) 8), .int (((cousinM s g bf hs bo la).2.1) 9), .int (((cousinM s g bf hs bo la).2.1) 10), .int (((cousinM s g bf hs bo la).2.1) 11), .ref (m + 6), .int (((cousinM s g bf hs bo la).2.1) 13), .int (((cousinM s g bf hs bo la).2.1) 14), .ref (m + 7), .int (((cousinM s g bf hs bo la).2.1) 16), .int (((cousinM s g bf hs bo la).2.1) 17), .ref (m + 8)])) ∧ τ9.2 (m + 1) = some (.inl (G.2.1 0, 324, .inl ((cousinM s g bf hs bo la).2.2.1))) ∧ τ9.2 (m + 2) = some (.inl (G.2.1 0, 324, .inl ((cousinM s g bf hs bo la).2.2.2.1))) ∧ τ9.2 (m + 3) = some (.inl (G.2.1 0, 2592, .inl ((cousinM s g bf hs bo la).2.2.2.2))) ∧ ∀ q : Nat, ¬ q = m → ¬ q = (m + 1) → ¬ q = (m + 2) → ¬ q = (m + 3) → τ9.2 q = ω.2 q) 0 0 := by
  refine fw_ofW (cc := cX11_cousin) (maxL := 3) (ret := (some .int)) (by decide) rfl (Nat.le_of_ble_eq_true rfl) ?_
  intro pP eE sS mI ar9 bl9 meth cD ls hx hb hr hlocks hml hts hown hnm hW hR hl
  have hK := hL.K hW
  have hS : va_S (fwA G) sS.heap sS.heap [] := va_S.rf
  have hl : lv_has ls 3 [(0, .ref m), (1, .int bo), (2, .int la)] := hl
  obtain ⟨c, hc8, hc, hcc⟩ := okN_of hM.1
  obtain ⟨cc, hd5, hd, hdd⟩ := okN_of hM.2.1
  obtain ⟨ch, hch8, hch, hchc⟩ := okN_of hk
  refine lv_aload_n hx hb dX11_cousin_0 rfl (lv_at hl 0 rfl) ?_
  refine fw_call (va_runV (As := []) (rest := []) ⟨hx, hb, hml, hown, hts⟩ (c_X11_looksBack G hL l ω m s g m0 m1 bf m2   ) (cwV 0 hts gX11_cousin_X11_looksBack rfl rfl rfl (by decide +kernel) ⟨Nat.le_of_ble_eq_true rfl, Nat.le_of_ble_eq_true rfl⟩) (fw_preV hW hK hR m0 rfl) rfl rfl hl.1 rfl (lv_room (Nat.le_of_ble_eq_true rfl)) dX11_cousin_1 ⟨Nat.le_of_ble_eq_true rfl, Nat.le_of_ble_eq_true rfl⟩) hS (fun v_1 ω_2 H locs hq_3 hR hS => ?_)
  obtain ⟨rfl, z_4, f_6, fr_5⟩ := hq_3
  refine W.eq (g2 := F0 mI 4 ls []) rfl ?_
  refine lv_aload_n hx hb dX11_cousin_4 rfl (lv_at hl 0 rfl) ?_
  refine lv_aload_n hx hb dX11_cousin_5 rfl (lv_at hl 0 rfl) ?_
  refine lv_iload_n hx hb dX11_cousin_6 rfl (lv_at hl 1 rfl) ?_
  refine lv_iload_n hx hb dX11_cousin_7 rfl (lv_at hl 2 rfl) ?_
  have f_7 : ω_2.2 m = some (.inr (13, [.ref (m + 1), .ref (m + 2), .ref (m + 3), .int (s 3), .ref (m + 4), .int (s 5), .ref (m + 5), .int (s 7), .int (s 8), .int (s 9), .int (s 10), .int (s 11), .ref (m + 6), .int (s 13), .int (s 14), .ref (m + 7), .int (s 16), .int (s 17), .ref (m + 8)])) := (fr_5 m (by omega)).trans m0
  have f_8 : ω_2.2 (m + 1) = some (.inl (G.2.1 0, 324, .inl g)) := (fr_5 (m + 1) (by omega)).trans m1
  refine fw_call (va_runV (As := [.int bo, .int la]) (rest := [.ref m]) ⟨hx, hb, hml, hown, hts⟩ (c_X11_comes G hL l ω_2 m s g f_7 f_8 hM bo la ) (cwV 2 hts gX11_cousin_X11_comes rfl rfl rfl (by decide +kernel) ⟨Nat.le_of_ble_eq_true rfl, Nat.le_of_ble_eq_true rfl⟩) (fw_preV hW hK hR f_7 rfl) rfl rfl hl.1 rfl (lv_room (Nat.le_of_ble_eq_true rfl)) dX11_cousin_8 ⟨Nat.le_of_ble_eq_true rfl, Nat.le_of_ble_eq_true rfl⟩) hS (fun v_9 ω_10 H locs hq_11 hR hS => ?_)
  obtain ⟨rfl, z_12, f_14, f_15, fr_13⟩ := hq_11
  refine W.eq (g2 := F0 mI 11 ls [.int ((comesM s g bo la).1), .ref m]) rfl ?_
  have f_16 : ω_10.2 (m + 2) = some (.inl (G.2.1 0, 324, .inl (looksM s g bf))) := (fr_13 (m + 2) (by omega) (by omega)).trans f_6
  have f_17 : ω_2.2 (m + 3) = some (.inl (G.2.1 0, 2592, .inl hs)) := (fr_5 (m + 3) (by omega)).trans m3
  have f_18 : ω_10.2 (m + 3) = some (.inl (G.2.1 0, 2592, .inl hs)) := (fr_13 (m + 3) (by omega) (by omega)).trans f_17
  refine fw_call (va_runV (As := [.int ((comesM s g bo la).1)]) (rest := []) ⟨hx, hb, hml, hown, hts⟩ (c_X11_kept G hL l ω_10 m ((comesM s g bo la).2.1) ((comesM s g bo la).2.2) f_14 f_15 (looksM s g bf) f_16 hs f_18 (by rw [comesM_3]; exact hk) ((comesM s g bo la).1) ) (cwV 1 hts gX11_cousin_X11_kept rfl rfl rfl (by decide +kernel) ⟨Nat.le_of_ble_eq_true rfl, Nat.le_of_ble_eq_true rfl⟩) (fw_preV hW hK hR f_14 rfl) rfl rfl hl.1 rfl (lv_room (Nat.le_of_ble_eq_true rfl)) dX11_cousin_11 ⟨Nat.le_of_ble_eq_true rfl, Nat.le_of_ble_eq_true rfl⟩) hS (fun v_19 ω_20 H locs hq_21 hR hS => ?_)
  obtain ⟨rfl, z_22, f_24, f_25, f_26, fr_23⟩ := hq_21
  refine W.eq (g2 := F0 mI 14 ls [.int ((keptM ((comesM s g bo la).2.1) ((comesM s g bo la).2.2) (looksM s g bf) hs ((comesM s g bo la).1)).1)]) rfl ?_
  have f_27 : ω_20.2 (m + 2) = some (.inl (G.2.1 0, 324, .inl (looksM s g bf))) := (fr_23 (m + 2) (by omega) (by omega) (by omega)).trans f_16
  have fr_28 : ∀ q : Nat, ¬ q = m → ¬ q = (m + 1) → ¬ q = (m + 2) → ¬ q = (m + 3) → ω_20.2 q = ω.2 q := by
    intro q h0 h1 h2 h3
    rw [fr_23 q (by omega) (by omega) (by omega)]
    rw [fr_13 q (by omega) (by omega)]
    rw [fr_5 q (by omega)]
  have z_29 : ω_20.1 = ω.1 := by rw [z_22, z_12, z_4]
  have hr_30 : cousinM s g bf hs bo la = (((keptM ((comesM s g bo la).2.1) ((comesM s g bo la).2.2) (looksM s g bf) hs ((comesM s g bo la).1)).1, ((keptM ((comesM s g bo la).2.1) ((comesM s g bo la).2.2) (looksM s g bf) hs ((comesM s g bo la).1)).2.1), ((keptM ((comesM s g bo la).2.1) ((comesM s g bo la).2.2) (looksM s g bf) hs ((comesM s g bo la).1)).2.2.1), (looksM s g bf), ((keptM ((comesM s g bo la).2.1) ((comesM s g bo la).2.2) (looksM s g bf) hs ((comesM s g bo la).1)).2.2.2)) : Int32 × (Nat → Int32) × (Nat → Int32) × (Nat → Int32) × (Nat → Int32)) := by
    simp only [cousinM, hcc, hdd, hchc]
  refine fw_iret hx hb hr hlocks hR hS dX11_cousin_14 ?_
  rw [hr_30]
  exact ⟨rfl, z_29, f_24, f_25, f_27, f_26, fr_28⟩
def learnM (s g bf hs : Nat → Int32) (co : Int32) (la : Int32) : Int32 × (Nat → Int32) × (Nat → Int32) × (Nat → Int32) × (Nat → Int32) := ((keptM ((learnsM s g co la).2.1) ((learnsM s g co la).2.2) (looksM s g bf) hs ((learnsM s g co la).1)).1, ((keptM ((learnsM s g co la).2.1) ((learnsM s g co la).2.2) (looksM s g bf) hs ((learnsM s g co la).1)).2.1), ((keptM ((learnsM s g co la).2.1) ((learnsM s g co la).2.2) (looksM s g bf) hs ((learnsM s g co la).1)).2.2.1), (looksM s g bf), ((keptM ((learnsM s g co la).2.1) ((learnsM s g co la).2.2) (looksM s g bf) hs ((learnsM s g co la).1)).2.2.2))
set_option maxHeartbeats 4000000 in
set_option maxRecDepth 100000 in
theorem c_X11_learn (G : FG) (hL : FL G) (l : Launch) (ω : FWd) (m : Nat) (s g : Nat → Int32) (m0 : ω.2 m = some (.inr (13, [.ref (m + 1), .ref (m + 2), .ref (m + 3), .int (s 3), .ref (m + 4), .int (s 5), .ref (m + 5), .int (s 7), .int (s 8), .int (s 9), .int (s 10), .int (s 11), .ref (m + 6), .int (s 13), .int (s 14), .ref (m + 7), .int (s 16), .int (s 17), .ref (m + 8)]))) (m1 : ω.2 (m + 1) = some (.inl (G.2.1 0, 324, .inl g))) (bf : Nat → Int32) (m2 : ω.2 (m + 2) = some (.inl (G.2.1 0, 324, .inl bf))) (hs : Nat → Int32) (m3 : ω.2 (m + 3) = some (.inl (G.2.1 0, 2592, .inl hs))) (hM : WFM g) (hk : okN (s 3) 8) (co : Int32) (la : Int32) : FMet G l yX11_learn wsX11_learn ({ frames := 3, cells := 0, slots := 0, locals := 65 } : Room) [.ref m, .int co, .int la] ω (fun vv9 τ9 => vv9 = some (.int ((learnM s g bf hs co la).1)) ∧ τ9.1 = ω.1 ∧ τ9.2 m = some (.inr (13, [.ref (m + 1), .ref (m + 2), .ref (m + 3), .int (((learnM s g bf hs co la).2.1) 3), .ref (m + 4), .int (((learnM s g bf hs co la).2.1) 5), .ref (m + 5), .int (((learnM s g bf hs co la).2.1) 7), .int (((learnM s g bf hs co la).2.1) 8), .int (((learnM s g bf hs co la).2.1) 9), .int (((learnM s g bf hs co la).2.1) 10), .int (((learnM s g bf hs co la).2.1) 11), .ref (m + 6), .int (((learnM s g bf hs co la).2.1) 13), .int (((learnM s g bf hs co la).2.1) 14), .ref (m + 7), .int (((learnM s g bf hs co la).2.1) 16), .int (((learnM s g bf hs co la).2.1) 17), .ref (m + 8)])) ∧ τ9.2 (m + 1) = some (.inl (G.2.1 0, 324, .inl ((learnM s g bf hs co la).2.2.1))) ∧ τ9.2 (m + 2) = some (.inl (G.2.1 0, 324, .inl ((learnM s g bf hs co la).2.2.2.1))) ∧ τ9.2 (m + 3) = some (.inl (G.2.1 0, 2592, .inl ((learnM s g bf hs co la).2.2.2.2))) ∧ ∀ q : Nat, ¬ q = m → ¬ q = (m + 1) → ¬ q = (m + 2) → ¬ q = (m + 3) → τ9.2 q = ω.2 q) 0 0 := by
  refine fw_ofW (cc := cX11_learn) (maxL := 3) (ret := (some .int)) (by decide) rfl (Nat.le_of_ble_eq_true rfl) ?_
  intro pP eE sS mI ar9 bl9 meth cD ls hx hb hr hlocks hml hts hown hnm hW hR hl
  have hK := hL.K hW
  have hS : va_S (fwA G) sS.heap sS.heap [] := va_S.rf
  have hl : lv_has ls 3 [(0, .ref m), (1, .int co), (2, .int la)] := hl
  obtain ⟨c, hc8, hc, hcc⟩ := okN_of hM.1
  obtain ⟨cc, hd5, hd, hdd⟩ := okN_of hM.2.1
  obtain ⟨ch, hch8, hch, hchc⟩ := okN_of hk
  refine lv_aload_n hx hb dX11_learn_0 rfl (lv_at hl 0 rfl) ?_
  refine fw_call (va_runV (As := []) (rest := []) ⟨hx, hb, hml, hown, hts⟩ (c_X11_looksBack G hL l ω m s g m0 m1 bf m2   ) (cwV 0 hts gX11_learn_X11_looksBack rfl rfl rfl (by decide +kernel) ⟨Nat.le_of_ble_eq_true rfl, Nat.le_of_ble_eq_true rfl⟩) (fw_preV hW hK hR m0 rfl) rfl rfl hl.1 rfl (lv_room (Nat.le_of_ble_eq_true rfl)) dX11_learn_1 ⟨Nat.le_of_ble_eq_true rfl, Nat.le_of_ble_eq_true rfl⟩) hS (fun v_1 ω_2 H locs hq_3 hR hS => ?_)
  obtain ⟨rfl, z_4, f_6, fr_5⟩ := hq_3
  refine W.eq (g2 := F0 mI 4 ls []) rfl ?_
  refine lv_aload_n hx hb dX11_learn_4 rfl (lv_at hl 0 rfl) ?_
  refine lv_aload_n hx hb dX11_learn_5 rfl (lv_at hl 0 rfl) ?_
  refine lv_iload_n hx hb dX11_learn_6 rfl (lv_at hl 1 rfl) ?_
  refine lv_iload_n hx hb dX11_learn_7 rfl (lv_at hl 2 rfl) ?_
  have f_7 : ω_2.2 m = some (.inr (13, [.ref (m + 1), .ref (m + 2), .ref (m + 3), .int (s 3), .ref (m + 4), .int (s 5), .ref (m + 5), .int (s 7), .int (s 8), .int (s 9), .int (s 10), .int (s 11), .ref (m + 6), .int (s 13), .int (s 14), .ref (m + 7), .int (s 16), .int (s 17), .ref (m + 8)])) := (fr_5 m (by omega)).trans m0
  have f_8 : ω_2.2 (m + 1) = some (.inl (G.2.1 0, 324, .inl g)) := (fr_5 (m + 1) (by omega)).trans m1
  refine fw_call (va_runV (As := [.int co, .int la]) (rest := [.ref m]) ⟨hx, hb, hml, hown, hts⟩ (c_X11_learns G hL l ω_2 m s g f_7 f_8 hM co la ) (cwV 2 hts gX11_learn_X11_learns rfl rfl rfl (by decide +kernel) ⟨Nat.le_of_ble_eq_true rfl, Nat.le_of_ble_eq_true rfl⟩) (fw_preV hW hK hR f_7 rfl) rfl rfl hl.1 rfl (lv_room (Nat.le_of_ble_eq_true rfl)) dX11_learn_8 ⟨Nat.le_of_ble_eq_true rfl, Nat.le_of_ble_eq_true rfl⟩) hS (fun v_9 ω_10 H locs hq_11 hR hS => ?_)
  obtain ⟨rfl, z_12, f_14, f_15, fr_13⟩ := hq_11
  refine W.eq (g2 := F0 mI 11 ls [.int ((learnsM s g co la).1), .ref m]) rfl ?_
  have f_16 : ω_10.2 (m + 2) = some (.inl (G.2.1 0, 324, .inl (looksM s g bf))) := (fr_13 (m + 2) (by omega) (by omega)).trans f_6
  have f_17 : ω_2.2 (m + 3) = some (.inl (G.2.1 0, 2592, .inl hs)) := (fr_5 (m + 3) (by omega)).trans m3
  have f_18 : ω_10.2 (m + 3) = some (.inl (G.2.1 0, 2592, .inl hs)) := (fr_13 (m + 3) (by omega) (by omega)).trans f_17
  refine fw_call (va_runV (As := [.int ((learnsM s g co la).1)]) (rest := []) ⟨hx, hb, hml, hown, hts⟩ (c_X11_kept G hL l ω_10 m ((learnsM s g co la).2.1) ((learnsM s g co la).2.2) f_14 f_15 (looksM s g bf) f_16 hs f_18 (by rw [learnsM_3]; exact hk) ((learnsM s g co la).1) ) (cwV 1 hts gX11_learn_X11_kept rfl rfl rfl (by decide +kernel) ⟨Nat.le_of_ble_eq_true rfl, Nat.le_of_ble_eq_true rfl⟩) (fw_preV hW hK hR f_14 rfl) rfl rfl hl.1 rfl (lv_room (Nat.le_of_ble_eq_true rfl)) dX11_learn_11 ⟨Nat.le_of_ble_eq_true rfl, Nat.le_of_ble_eq_true rfl⟩) hS (fun v_19 ω_20 H locs hq_21 hR hS => ?_)
  obtain ⟨rfl, z_22, f_24, f_25, f_26, fr_23⟩ := hq_21
  refine W.eq (g2 := F0 mI 14 ls [.int ((keptM ((learnsM s g co la).2.1) ((learnsM s g co la).2.2) (looksM s g bf) hs ((learnsM s g co la).1)).1)]) rfl ?_
  have f_27 : ω_20.2 (m + 2) = some (.inl (G.2.1 0, 324, .inl (looksM s g bf))) := (fr_23 (m + 2) (by omega) (by omega) (by omega)).trans f_16
  have fr_28 : ∀ q : Nat, ¬ q = m → ¬ q = (m + 1) → ¬ q = (m + 2) → ¬ q = (m + 3) → ω_20.2 q = ω.2 q := by
    intro q h0 h1 h2 h3
    rw [fr_23 q (by omega) (by omega) (by omega)]
    rw [fr_13 q (by omega) (by omega)]
    rw [fr_5 q (by omega)]
  have z_29 : ω_20.1 = ω.1 := by rw [z_22, z_12, z_4]
  have hr_30 : learnM s g bf hs co la = (((keptM ((learnsM s g co la).2.1) ((learnsM s g co la).2.2) (looksM s g bf) hs ((learnsM s g co la).1)).1, ((keptM ((learnsM s g co la).2.1) ((learnsM s g co la).2.2) (looksM s g bf) hs ((learnsM s g co la).1)).2.1), ((keptM ((learnsM s g co la).2.1) ((learnsM s g co la).2.2) (looksM s g bf) hs ((learnsM s g co la).1)).2.2.1), (looksM s g bf), ((keptM ((learnsM s g co la).2.1) ((learnsM s g co la).2.2) (looksM s g bf) hs ((learnsM s g co la).1)).2.2.2)) : Int32 × (Nat → Int32) × (Nat → Int32) × (Nat → Int32) × (Nat → Int32)) := by
    simp only [learnM, hcc, hdd, hchc]
  refine fw_iret hx hb hr hlocks hR hS dX11_learn_14 ?_
  rw [hr_30]
  exact ⟨rfl, z_29, f_24, f_25, f_27, f_26, fr_28⟩
def buildM (s g nd bf hs : Nat → Int32) (co : Int32) (lf : Int32) : Int32 × (Nat → Int32) × (Nat → Int32) × (Nat → Int32) × (Nat → Int32) × (Nat → Int32) := ((keptM ((buildsM s g nd co lf).2.1) ((buildsM s g nd co lf).2.2.1) (looksM s g bf) hs ((buildsM s g nd co lf).1)).1, ((keptM ((buildsM s g nd co lf).2.1) ((buildsM s g nd co lf).2.2.1) (looksM s g bf) hs ((buildsM s g nd co lf).1)).2.1), ((keptM ((buildsM s g nd co lf).2.1) ((buildsM s g nd co lf).2.2.1) (looksM s g bf) hs ((buildsM s g nd co lf).1)).2.2.1), ((buildsM s g nd co lf).2.2.2), (looksM s g bf), ((keptM ((buildsM s g nd co lf).2.1) ((buildsM s g nd co lf).2.2.1) (looksM s g bf) hs ((buildsM s g nd co lf).1)).2.2.2))
set_option maxHeartbeats 4000000 in
set_option maxRecDepth 100000 in
theorem c_X11_build (G : FG) (hL : FL G) (l : Launch) (ω : FWd) (m : Nat) (s g : Nat → Int32) (m0 : ω.2 m = some (.inr (13, [.ref (m + 1), .ref (m + 2), .ref (m + 3), .int (s 3), .ref (m + 4), .int (s 5), .ref (m + 5), .int (s 7), .int (s 8), .int (s 9), .int (s 10), .int (s 11), .ref (m + 6), .int (s 13), .int (s 14), .ref (m + 7), .int (s 16), .int (s 17), .ref (m + 8)]))) (m1 : ω.2 (m + 1) = some (.inl (G.2.1 0, 324, .inl g))) (nd : Nat → Int32) (m7 : ω.2 (m + 7) = some (.inl (G.2.1 0, 6, .inl nd))) (bf : Nat → Int32) (m2 : ω.2 (m + 2) = some (.inl (G.2.1 0, 324, .inl bf))) (hs : Nat → Int32) (m3 : ω.2 (m + 3) = some (.inl (G.2.1 0, 2592, .inl hs))) (hM : WFM g) (hk : okN (s 3) 8) (co : Int32) (lf : Int32) : FMet G l yX11_build wsX11_build ({ frames := 5, cells := 0, slots := 0, locals := 121 } : Room) [.ref m, .int co, .int lf] ω (fun vv9 τ9 => vv9 = some (.int ((buildM s g nd bf hs co lf).1)) ∧ τ9.1 = ω.1 ∧ τ9.2 m = some (.inr (13, [.ref (m + 1), .ref (m + 2), .ref (m + 3), .int (((buildM s g nd bf hs co lf).2.1) 3), .ref (m + 4), .int (((buildM s g nd bf hs co lf).2.1) 5), .ref (m + 5), .int (((buildM s g nd bf hs co lf).2.1) 7), .int (((buildM s g nd bf hs co lf).2.1) 8), .int (((buildM s g nd bf hs co lf).2.1) 9), .int (((buildM s g nd bf hs co lf).2.1) 10), .int (((buildM s g nd bf hs co lf).2.1) 11), .ref (m + 6), .int (((buildM s g nd bf hs co lf).2.1) 13), .int (((buildM s g nd bf hs co lf).2.1) 14), .ref (m + 7), .int (((buildM s g nd bf hs co lf).2.1) 16), .int (((buildM s g nd bf hs co lf).2.1) 17), .ref (m + 8)])) ∧ τ9.2 (m + 1) = some (.inl (G.2.1 0, 324, .inl ((buildM s g nd bf hs co lf).2.2.1))) ∧ τ9.2 (m + 7) = some (.inl (G.2.1 0, 6, .inl ((buildM s g nd bf hs co lf).2.2.2.1))) ∧ τ9.2 (m + 2) = some (.inl (G.2.1 0, 324, .inl ((buildM s g nd bf hs co lf).2.2.2.2.1))) ∧ τ9.2 (m + 3) = some (.inl (G.2.1 0, 2592, .inl ((buildM s g nd bf hs co lf).2.2.2.2.2))) ∧ ∀ q : Nat, ¬ q = m → ¬ q = (m + 1) → ¬ q = (m + 7) → ¬ q = (m + 2) → ¬ q = (m + 3) → τ9.2 q = ω.2 q) 0 0 := by
  refine fw_ofW (cc := cX11_build) (maxL := 3) (ret := (some .int)) (by decide) rfl (Nat.le_of_ble_eq_true rfl) ?_
  intro pP eE sS mI ar9 bl9 meth cD ls hx hb hr hlocks hml hts hown hnm hW hR hl
  have hK := hL.K hW
  have hS : va_S (fwA G) sS.heap sS.heap [] := va_S.rf
  have hl : lv_has ls 3 [(0, .ref m), (1, .int co), (2, .int lf)] := hl
  obtain ⟨c, hc8, hc, hcc⟩ := okN_of hM.1
  obtain ⟨cc, hd5, hd, hdd⟩ := okN_of hM.2.1
  obtain ⟨ch, hch8, hch, hchc⟩ := okN_of hk
  refine lv_aload_n hx hb dX11_build_0 rfl (lv_at hl 0 rfl) ?_
  refine fw_call (va_runV (As := []) (rest := []) ⟨hx, hb, hml, hown, hts⟩ (c_X11_looksBack G hL l ω m s g m0 m1 bf m2   ) (cwV 0 hts gX11_build_X11_looksBack rfl rfl rfl (by decide +kernel) ⟨Nat.le_of_ble_eq_true rfl, Nat.le_of_ble_eq_true rfl⟩) (fw_preV hW hK hR m0 rfl) rfl rfl hl.1 rfl (lv_room (Nat.le_of_ble_eq_true rfl)) dX11_build_1 ⟨Nat.le_of_ble_eq_true rfl, Nat.le_of_ble_eq_true rfl⟩) hS (fun v_1 ω_2 H locs hq_3 hR hS => ?_)
  obtain ⟨rfl, z_4, f_6, fr_5⟩ := hq_3
  refine W.eq (g2 := F0 mI 4 ls []) rfl ?_
  refine lv_aload_n hx hb dX11_build_4 rfl (lv_at hl 0 rfl) ?_
  refine lv_aload_n hx hb dX11_build_5 rfl (lv_at hl 0 rfl) ?_
  refine lv_iload_n hx hb dX11_build_6 rfl (lv_at hl 1 rfl) ?_
  refine lv_iload_n hx hb dX11_build_7 rfl (lv_at hl 2 rfl) ?_
  have f_7 : ω_2.2 m = some (.inr (13, [.ref (m + 1), .ref (m + 2), .ref (m + 3), .int (s 3), .ref (m + 4), .int (s 5), .ref (m + 5), .int (s 7), .int (s 8), .int (s 9), .int (s 10), .int (s 11), .ref (m + 6), .int (s 13), .int (s 14), .ref (m + 7), .int (s 16), .int (s 17), .ref (m + 8)])) := (fr_5 m (by omega)).trans m0
  have f_8 : ω_2.2 (m + 1) = some (.inl (G.2.1 0, 324, .inl g)) := (fr_5 (m + 1) (by omega)).trans m1
  have f_9 : ω_2.2 (m + 7) = some (.inl (G.2.1 0, 6, .inl nd)) := (fr_5 (m + 7) (by omega)).trans m7
  refine fw_call (va_runV (As := [.int co, .int lf]) (rest := [.ref m]) ⟨hx, hb, hml, hown, hts⟩ (c_X11_builds G hL l ω_2 m s g f_7 f_8 nd f_9 hM co lf ) (cwV 2 hts gX11_build_X11_builds rfl rfl rfl (by decide +kernel) ⟨Nat.le_of_ble_eq_true rfl, Nat.le_of_ble_eq_true rfl⟩) (fw_preV hW hK hR f_7 rfl) rfl rfl hl.1 rfl (lv_room (Nat.le_of_ble_eq_true rfl)) dX11_build_8 ⟨Nat.le_of_ble_eq_true rfl, Nat.le_of_ble_eq_true rfl⟩) hS (fun v_10 ω_11 H locs hq_12 hR hS => ?_)
  obtain ⟨rfl, z_13, f_15, f_16, f_17, fr_14⟩ := hq_12
  refine W.eq (g2 := F0 mI 11 ls [.int ((buildsM s g nd co lf).1), .ref m]) rfl ?_
  have f_18 : ω_11.2 (m + 2) = some (.inl (G.2.1 0, 324, .inl (looksM s g bf))) := (fr_14 (m + 2) (by omega) (by omega) (by omega)).trans f_6
  have f_19 : ω_2.2 (m + 3) = some (.inl (G.2.1 0, 2592, .inl hs)) := (fr_5 (m + 3) (by omega)).trans m3
  have f_20 : ω_11.2 (m + 3) = some (.inl (G.2.1 0, 2592, .inl hs)) := (fr_14 (m + 3) (by omega) (by omega) (by omega)).trans f_19
  refine fw_call (va_runV (As := [.int ((buildsM s g nd co lf).1)]) (rest := []) ⟨hx, hb, hml, hown, hts⟩ (c_X11_kept G hL l ω_11 m ((buildsM s g nd co lf).2.1) ((buildsM s g nd co lf).2.2.1) f_15 f_16 (looksM s g bf) f_18 hs f_20 (by rw [buildsM_3]; exact hk) ((buildsM s g nd co lf).1) ) (cwV 1 hts gX11_build_X11_kept rfl rfl rfl (by decide +kernel) ⟨Nat.le_of_ble_eq_true rfl, Nat.le_of_ble_eq_true rfl⟩) (fw_preV hW hK hR f_15 rfl) rfl rfl hl.1 rfl (lv_room (Nat.le_of_ble_eq_true rfl)) dX11_build_11 ⟨Nat.le_of_ble_eq_true rfl, Nat.le_of_ble_eq_true rfl⟩) hS (fun v_21 ω_22 H locs hq_23 hR hS => ?_)
  obtain ⟨rfl, z_24, f_26, f_27, f_28, fr_25⟩ := hq_23
  refine W.eq (g2 := F0 mI 14 ls [.int ((keptM ((buildsM s g nd co lf).2.1) ((buildsM s g nd co lf).2.2.1) (looksM s g bf) hs ((buildsM s g nd co lf).1)).1)]) rfl ?_
  have f_29 : ω_22.2 (m + 7) = some (.inl (G.2.1 0, 6, .inl ((buildsM s g nd co lf).2.2.2))) := (fr_25 (m + 7) (by omega) (by omega) (by omega)).trans f_17
  have f_30 : ω_22.2 (m + 2) = some (.inl (G.2.1 0, 324, .inl (looksM s g bf))) := (fr_25 (m + 2) (by omega) (by omega) (by omega)).trans f_18
  have fr_31 : ∀ q : Nat, ¬ q = m → ¬ q = (m + 1) → ¬ q = (m + 7) → ¬ q = (m + 2) → ¬ q = (m + 3) → ω_22.2 q = ω.2 q := by
    intro q h0 h1 h2 h3 h4
    rw [fr_25 q (by omega) (by omega) (by omega)]
    rw [fr_14 q (by omega) (by omega) (by omega)]
    rw [fr_5 q (by omega)]
  have z_32 : ω_22.1 = ω.1 := by rw [z_24, z_13, z_4]
  have hr_33 : buildM s g nd bf hs co lf = (((keptM ((buildsM s g nd co lf).2.1) ((buildsM s g nd co lf).2.2.1) (looksM s g bf) hs ((buildsM s g nd co lf).1)).1, ((keptM ((buildsM s g nd co lf).2.1) ((buildsM s g nd co lf).2.2.1) (looksM s g bf) hs ((buildsM s g nd co lf).1)).2.1), ((keptM ((buildsM s g nd co lf).2.1) ((buildsM s g nd co lf).2.2.1) (looksM s g bf) hs ((buildsM s g nd co lf).1)).2.2.1), ((buildsM s g nd co lf).2.2.2), (looksM s g bf), ((keptM ((buildsM s g nd co lf).2.1) ((buildsM s g nd co lf).2.2.1) (looksM s g bf) hs ((buildsM s g nd co lf).1)).2.2.2)) : Int32 × (Nat → Int32) × (Nat → Int32) × (Nat → Int32) × (Nat → Int32) × (Nat → Int32)) := by
    simp only [buildM, hcc, hdd, hchc]
  refine fw_iret hx hb hr hlocks hR hS dX11_build_14 ?_
  rw [hr_33]
  exact ⟨rfl, z_32, f_26, f_27, f_29, f_30, f_28, fr_31⟩
def finishM (s g nd bf hs : Nat → Int32) (lf : Int32) (sp : Int32) : Int32 × (Nat → Int32) × (Nat → Int32) × (Nat → Int32) × (Nat → Int32) × (Nat → Int32) := ((keptM ((finishesM s g nd lf sp).2.1) ((finishesM s g nd lf sp).2.2.1) (looksM s g bf) hs ((finishesM s g nd lf sp).1)).1, ((keptM ((finishesM s g nd lf sp).2.1) ((finishesM s g nd lf sp).2.2.1) (looksM s g bf) hs ((finishesM s g nd lf sp).1)).2.1), ((keptM ((finishesM s g nd lf sp).2.1) ((finishesM s g nd lf sp).2.2.1) (looksM s g bf) hs ((finishesM s g nd lf sp).1)).2.2.1), ((finishesM s g nd lf sp).2.2.2), (looksM s g bf), ((keptM ((finishesM s g nd lf sp).2.1) ((finishesM s g nd lf sp).2.2.1) (looksM s g bf) hs ((finishesM s g nd lf sp).1)).2.2.2))
set_option maxHeartbeats 4000000 in
set_option maxRecDepth 100000 in
theorem c_X11_finish (G : FG) (hL : FL G) (l : Launch) (ω : FWd) (m : Nat) (s g : Nat → Int32) (m0 : ω.2 m = some (.inr (13, [.ref (m + 1), .ref (m + 2), .ref (m + 3), .int (s 3), .ref (m + 4), .int (s 5), .ref (m + 5), .int (s 7), .int (s 8), .int (s 9), .int (s 10), .int (s 11), .ref (m + 6), .int (s 13), .int (s 14), .ref (m + 7), .int (s 16), .int (s 17), .ref (m + 8)]))) (m1 : ω.2 (m + 1) = some (.inl (G.2.1 0, 324, .inl g))) (nd : Nat → Int32) (m7 : ω.2 (m + 7) = some (.inl (G.2.1 0, 6, .inl nd))) (bf : Nat → Int32) (m2 : ω.2 (m + 2) = some (.inl (G.2.1 0, 324, .inl bf))) (hs : Nat → Int32) (m3 : ω.2 (m + 3) = some (.inl (G.2.1 0, 2592, .inl hs))) (hM : WFM g) (hk : okN (s 3) 8) (lf : Int32) (sp : Int32) : FMet G l yX11_finish wsX11_finish ({ frames := 3, cells := 0, slots := 0, locals := 71 } : Room) [.ref m, .int lf, .int sp] ω (fun vv9 τ9 => vv9 = some (.int ((finishM s g nd bf hs lf sp).1)) ∧ τ9.1 = ω.1 ∧ τ9.2 m = some (.inr (13, [.ref (m + 1), .ref (m + 2), .ref (m + 3), .int (((finishM s g nd bf hs lf sp).2.1) 3), .ref (m + 4), .int (((finishM s g nd bf hs lf sp).2.1) 5), .ref (m + 5), .int (((finishM s g nd bf hs lf sp).2.1) 7), .int (((finishM s g nd bf hs lf sp).2.1) 8), .int (((finishM s g nd bf hs lf sp).2.1) 9), .int (((finishM s g nd bf hs lf sp).2.1) 10), .int (((finishM s g nd bf hs lf sp).2.1) 11), .ref (m + 6), .int (((finishM s g nd bf hs lf sp).2.1) 13), .int (((finishM s g nd bf hs lf sp).2.1) 14), .ref (m + 7), .int (((finishM s g nd bf hs lf sp).2.1) 16), .int (((finishM s g nd bf hs lf sp).2.1) 17), .ref (m + 8)])) ∧ τ9.2 (m + 1) = some (.inl (G.2.1 0, 324, .inl ((finishM s g nd bf hs lf sp).2.2.1))) ∧ τ9.2 (m + 7) = some (.inl (G.2.1 0, 6, .inl ((finishM s g nd bf hs lf sp).2.2.2.1))) ∧ τ9.2 (m + 2) = some (.inl (G.2.1 0, 324, .inl ((finishM s g nd bf hs lf sp).2.2.2.2.1))) ∧ τ9.2 (m + 3) = some (.inl (G.2.1 0, 2592, .inl ((finishM s g nd bf hs lf sp).2.2.2.2.2))) ∧ ∀ q : Nat, ¬ q = m → ¬ q = (m + 1) → ¬ q = (m + 7) → ¬ q = (m + 2) → ¬ q = (m + 3) → τ9.2 q = ω.2 q) 0 0 := by
  refine fw_ofW (cc := cX11_finish) (maxL := 3) (ret := (some .int)) (by decide) rfl (Nat.le_of_ble_eq_true rfl) ?_
  intro pP eE sS mI ar9 bl9 meth cD ls hx hb hr hlocks hml hts hown hnm hW hR hl
  have hK := hL.K hW
  have hS : va_S (fwA G) sS.heap sS.heap [] := va_S.rf
  have hl : lv_has ls 3 [(0, .ref m), (1, .int lf), (2, .int sp)] := hl
  obtain ⟨c, hc8, hc, hcc⟩ := okN_of hM.1
  obtain ⟨cc, hd5, hd, hdd⟩ := okN_of hM.2.1
  obtain ⟨ch, hch8, hch, hchc⟩ := okN_of hk
  refine lv_aload_n hx hb dX11_finish_0 rfl (lv_at hl 0 rfl) ?_
  refine fw_call (va_runV (As := []) (rest := []) ⟨hx, hb, hml, hown, hts⟩ (c_X11_looksBack G hL l ω m s g m0 m1 bf m2   ) (cwV 0 hts gX11_finish_X11_looksBack rfl rfl rfl (by decide +kernel) ⟨Nat.le_of_ble_eq_true rfl, Nat.le_of_ble_eq_true rfl⟩) (fw_preV hW hK hR m0 rfl) rfl rfl hl.1 rfl (lv_room (Nat.le_of_ble_eq_true rfl)) dX11_finish_1 ⟨Nat.le_of_ble_eq_true rfl, Nat.le_of_ble_eq_true rfl⟩) hS (fun v_1 ω_2 H locs hq_3 hR hS => ?_)
  obtain ⟨rfl, z_4, f_6, fr_5⟩ := hq_3
  refine W.eq (g2 := F0 mI 4 ls []) rfl ?_
  refine lv_aload_n hx hb dX11_finish_4 rfl (lv_at hl 0 rfl) ?_
  refine lv_aload_n hx hb dX11_finish_5 rfl (lv_at hl 0 rfl) ?_
  refine lv_iload_n hx hb dX11_finish_6 rfl (lv_at hl 1 rfl) ?_
  refine lv_iload_n hx hb dX11_finish_7 rfl (lv_at hl 2 rfl) ?_
  have f_7 : ω_2.2 m = some (.inr (13, [.ref (m + 1), .ref (m + 2), .ref (m + 3), .int (s 3), .ref (m + 4), .int (s 5), .ref (m + 5), .int (s 7), .int (s 8), .int (s 9), .int (s 10), .int (s 11), .ref (m + 6), .int (s 13), .int (s 14), .ref (m + 7), .int (s 16), .int (s 17), .ref (m + 8)])) := (fr_5 m (by omega)).trans m0
  have f_8 : ω_2.2 (m + 1) = some (.inl (G.2.1 0, 324, .inl g)) := (fr_5 (m + 1) (by omega)).trans m1
  have f_9 : ω_2.2 (m + 7) = some (.inl (G.2.1 0, 6, .inl nd)) := (fr_5 (m + 7) (by omega)).trans m7
  refine fw_call (va_runV (As := [.int lf, .int sp]) (rest := [.ref m]) ⟨hx, hb, hml, hown, hts⟩ (c_X11_finishes G hL l ω_2 m s g f_7 f_8 nd f_9 hM lf sp ) (cwV 2 hts gX11_finish_X11_finishes rfl rfl rfl (by decide +kernel) ⟨Nat.le_of_ble_eq_true rfl, Nat.le_of_ble_eq_true rfl⟩) (fw_preV hW hK hR f_7 rfl) rfl rfl hl.1 rfl (lv_room (Nat.le_of_ble_eq_true rfl)) dX11_finish_8 ⟨Nat.le_of_ble_eq_true rfl, Nat.le_of_ble_eq_true rfl⟩) hS (fun v_10 ω_11 H locs hq_12 hR hS => ?_)
  obtain ⟨rfl, z_13, f_15, f_16, f_17, fr_14⟩ := hq_12
  refine W.eq (g2 := F0 mI 11 ls [.int ((finishesM s g nd lf sp).1), .ref m]) rfl ?_
  have f_18 : ω_11.2 (m + 2) = some (.inl (G.2.1 0, 324, .inl (looksM s g bf))) := (fr_14 (m + 2) (by omega) (by omega) (by omega)).trans f_6
  have f_19 : ω_2.2 (m + 3) = some (.inl (G.2.1 0, 2592, .inl hs)) := (fr_5 (m + 3) (by omega)).trans m3
  have f_20 : ω_11.2 (m + 3) = some (.inl (G.2.1 0, 2592, .inl hs)) := (fr_14 (m + 3) (by omega) (by omega) (by omega)).trans f_19
  refine fw_call (va_runV (As := [.int ((finishesM s g nd lf sp).1)]) (rest := []) ⟨hx, hb, hml, hown, hts⟩ (c_X11_kept G hL l ω_11 m ((finishesM s g nd lf sp).2.1) ((finishesM s g nd lf sp).2.2.1) f_15 f_16 (looksM s g bf) f_18 hs f_20 (by rw [finishesM_3]; exact hk) ((finishesM s g nd lf sp).1) ) (cwV 1 hts gX11_finish_X11_kept rfl rfl rfl (by decide +kernel) ⟨Nat.le_of_ble_eq_true rfl, Nat.le_of_ble_eq_true rfl⟩) (fw_preV hW hK hR f_15 rfl) rfl rfl hl.1 rfl (lv_room (Nat.le_of_ble_eq_true rfl)) dX11_finish_11 ⟨Nat.le_of_ble_eq_true rfl, Nat.le_of_ble_eq_true rfl⟩) hS (fun v_21 ω_22 H locs hq_23 hR hS => ?_)
  obtain ⟨rfl, z_24, f_26, f_27, f_28, fr_25⟩ := hq_23
  refine W.eq (g2 := F0 mI 14 ls [.int ((keptM ((finishesM s g nd lf sp).2.1) ((finishesM s g nd lf sp).2.2.1) (looksM s g bf) hs ((finishesM s g nd lf sp).1)).1)]) rfl ?_
  have f_29 : ω_22.2 (m + 7) = some (.inl (G.2.1 0, 6, .inl ((finishesM s g nd lf sp).2.2.2))) := (fr_25 (m + 7) (by omega) (by omega) (by omega)).trans f_17
  have f_30 : ω_22.2 (m + 2) = some (.inl (G.2.1 0, 324, .inl (looksM s g bf))) := (fr_25 (m + 2) (by omega) (by omega) (by omega)).trans f_18
  have fr_31 : ∀ q : Nat, ¬ q = m → ¬ q = (m + 1) → ¬ q = (m + 7) → ¬ q = (m + 2) → ¬ q = (m + 3) → ω_22.2 q = ω.2 q := by
    intro q h0 h1 h2 h3 h4
    rw [fr_25 q (by omega) (by omega) (by omega)]
    rw [fr_14 q (by omega) (by omega) (by omega)]
    rw [fr_5 q (by omega)]
  have z_32 : ω_22.1 = ω.1 := by rw [z_24, z_13, z_4]
  have hr_33 : finishM s g nd bf hs lf sp = (((keptM ((finishesM s g nd lf sp).2.1) ((finishesM s g nd lf sp).2.2.1) (looksM s g bf) hs ((finishesM s g nd lf sp).1)).1, ((keptM ((finishesM s g nd lf sp).2.1) ((finishesM s g nd lf sp).2.2.1) (looksM s g bf) hs ((finishesM s g nd lf sp).1)).2.1), ((keptM ((finishesM s g nd lf sp).2.1) ((finishesM s g nd lf sp).2.2.1) (looksM s g bf) hs ((finishesM s g nd lf sp).1)).2.2.1), ((finishesM s g nd lf sp).2.2.2), (looksM s g bf), ((keptM ((finishesM s g nd lf sp).2.1) ((finishesM s g nd lf sp).2.2.1) (looksM s g bf) hs ((finishesM s g nd lf sp).1)).2.2.2)) : Int32 × (Nat → Int32) × (Nat → Int32) × (Nat → Int32) × (Nat → Int32) × (Nat → Int32)) := by
    simp only [finishM, hcc, hdd, hchc]
  refine fw_iret hx hb hr hlocks hR hS dX11_finish_14 ?_
  rw [hr_33]
  exact ⟨rfl, z_32, f_26, f_27, f_29, f_30, f_28, fr_31⟩
def apartsM (s g nd bf hs : Nat → Int32) (lf : Int32) : Int32 × (Nat → Int32) × (Nat → Int32) × (Nat → Int32) × (Nat → Int32) × (Nat → Int32) := ((keptM ((apartM s g nd lf).2.1) ((apartM s g nd lf).2.2.1) (looksM s g bf) hs ((apartM s g nd lf).1)).1, ((keptM ((apartM s g nd lf).2.1) ((apartM s g nd lf).2.2.1) (looksM s g bf) hs ((apartM s g nd lf).1)).2.1), ((keptM ((apartM s g nd lf).2.1) ((apartM s g nd lf).2.2.1) (looksM s g bf) hs ((apartM s g nd lf).1)).2.2.1), ((apartM s g nd lf).2.2.2), (looksM s g bf), ((keptM ((apartM s g nd lf).2.1) ((apartM s g nd lf).2.2.1) (looksM s g bf) hs ((apartM s g nd lf).1)).2.2.2))
set_option maxHeartbeats 4000000 in
set_option maxRecDepth 100000 in
theorem c_X11_apart (G : FG) (hL : FL G) (l : Launch) (ω : FWd) (m : Nat) (s g : Nat → Int32) (m0 : ω.2 m = some (.inr (13, [.ref (m + 1), .ref (m + 2), .ref (m + 3), .int (s 3), .ref (m + 4), .int (s 5), .ref (m + 5), .int (s 7), .int (s 8), .int (s 9), .int (s 10), .int (s 11), .ref (m + 6), .int (s 13), .int (s 14), .ref (m + 7), .int (s 16), .int (s 17), .ref (m + 8)]))) (m1 : ω.2 (m + 1) = some (.inl (G.2.1 0, 324, .inl g))) (nd : Nat → Int32) (m7 : ω.2 (m + 7) = some (.inl (G.2.1 0, 6, .inl nd))) (bf : Nat → Int32) (m2 : ω.2 (m + 2) = some (.inl (G.2.1 0, 324, .inl bf))) (hs : Nat → Int32) (m3 : ω.2 (m + 3) = some (.inl (G.2.1 0, 2592, .inl hs))) (hM : WFM g) (hk : okN (s 3) 8) (lf : Int32) : FMet G l yX11_apart wsX11_apart ({ frames := 3, cells := 0, slots := 0, locals := 70 } : Room) [.ref m, .int lf] ω (fun vv9 τ9 => vv9 = some (.int ((apartsM s g nd bf hs lf).1)) ∧ τ9.1 = ω.1 ∧ τ9.2 m = some (.inr (13, [.ref (m + 1), .ref (m + 2), .ref (m + 3), .int (((apartsM s g nd bf hs lf).2.1) 3), .ref (m + 4), .int (((apartsM s g nd bf hs lf).2.1) 5), .ref (m + 5), .int (((apartsM s g nd bf hs lf).2.1) 7), .int (((apartsM s g nd bf hs lf).2.1) 8), .int (((apartsM s g nd bf hs lf).2.1) 9), .int (((apartsM s g nd bf hs lf).2.1) 10), .int (((apartsM s g nd bf hs lf).2.1) 11), .ref (m + 6), .int (((apartsM s g nd bf hs lf).2.1) 13), .int (((apartsM s g nd bf hs lf).2.1) 14), .ref (m + 7), .int (((apartsM s g nd bf hs lf).2.1) 16), .int (((apartsM s g nd bf hs lf).2.1) 17), .ref (m + 8)])) ∧ τ9.2 (m + 1) = some (.inl (G.2.1 0, 324, .inl ((apartsM s g nd bf hs lf).2.2.1))) ∧ τ9.2 (m + 7) = some (.inl (G.2.1 0, 6, .inl ((apartsM s g nd bf hs lf).2.2.2.1))) ∧ τ9.2 (m + 2) = some (.inl (G.2.1 0, 324, .inl ((apartsM s g nd bf hs lf).2.2.2.2.1))) ∧ τ9.2 (m + 3) = some (.inl (G.2.1 0, 2592, .inl ((apartsM s g nd bf hs lf).2.2.2.2.2))) ∧ ∀ q : Nat, ¬ q = m → ¬ q = (m + 1) → ¬ q = (m + 7) → ¬ q = (m + 2) → ¬ q = (m + 3) → τ9.2 q = ω.2 q) 0 0 := by
  refine fw_ofW (cc := cX11_apart) (maxL := 2) (ret := (some .int)) (by decide) rfl (Nat.le_of_ble_eq_true rfl) ?_
  intro pP eE sS mI ar9 bl9 meth cD ls hx hb hr hlocks hml hts hown hnm hW hR hl
  have hK := hL.K hW
  have hS : va_S (fwA G) sS.heap sS.heap [] := va_S.rf
  have hl : lv_has ls 2 [(0, .ref m), (1, .int lf)] := hl
  obtain ⟨c, hc8, hc, hcc⟩ := okN_of hM.1
  obtain ⟨cc, hd5, hd, hdd⟩ := okN_of hM.2.1
  obtain ⟨ch, hch8, hch, hchc⟩ := okN_of hk
  refine lv_aload_n hx hb dX11_apart_0 rfl (lv_at hl 0 rfl) ?_
  refine fw_call (va_runV (As := []) (rest := []) ⟨hx, hb, hml, hown, hts⟩ (c_X11_looksBack G hL l ω m s g m0 m1 bf m2   ) (cwV 0 hts gX11_apart_X11_looksBack rfl rfl rfl (by decide +kernel) ⟨Nat.le_of_ble_eq_true rfl, Nat.le_of_ble_eq_true rfl⟩) (fw_preV hW hK hR m0 rfl) rfl rfl hl.1 rfl (lv_room (Nat.le_of_ble_eq_true rfl)) dX11_apart_1 ⟨Nat.le_of_ble_eq_true rfl, Nat.le_of_ble_eq_true rfl⟩) hS (fun v_1 ω_2 H locs hq_3 hR hS => ?_)
  obtain ⟨rfl, z_4, f_6, fr_5⟩ := hq_3
  refine W.eq (g2 := F0 mI 4 ls []) rfl ?_
  refine lv_aload_n hx hb dX11_apart_4 rfl (lv_at hl 0 rfl) ?_
  refine lv_aload_n hx hb dX11_apart_5 rfl (lv_at hl 0 rfl) ?_
  refine lv_iload_n hx hb dX11_apart_6 rfl (lv_at hl 1 rfl) ?_
  have f_7 : ω_2.2 m = some (.inr (13, [.ref (m + 1), .ref (m + 2), .ref (m + 3), .int (s 3), .ref (m + 4), .int (s 5), .ref (m + 5), .int (s 7), .int (s 8), .int (s 9), .int (s 10), .int (s 11), .ref (m + 6), .int (s 13), .int (s 14), .ref (m + 7), .int (s 16), .int (s 17), .ref (m + 8)])) := (fr_5 m (by omega)).trans m0
  have f_8 : ω_2.2 (m + 1) = some (.inl (G.2.1 0, 324, .inl g)) := (fr_5 (m + 1) (by omega)).trans m1
  have f_9 : ω_2.2 (m + 7) = some (.inl (G.2.1 0, 6, .inl nd)) := (fr_5 (m + 7) (by omega)).trans m7
  refine fw_call (va_runV (As := [.int lf]) (rest := [.ref m]) ⟨hx, hb, hml, hown, hts⟩ (c_X11_takesApart G hL l ω_2 m s g f_7 f_8 nd f_9 hM lf ) (cwV 1 hts gX11_apart_X11_takesApart rfl rfl rfl (by decide +kernel) ⟨Nat.le_of_ble_eq_true rfl, Nat.le_of_ble_eq_true rfl⟩) (fw_preV hW hK hR f_7 rfl) rfl rfl hl.1 rfl (lv_room (Nat.le_of_ble_eq_true rfl)) dX11_apart_7 ⟨Nat.le_of_ble_eq_true rfl, Nat.le_of_ble_eq_true rfl⟩) hS (fun v_10 ω_11 H locs hq_12 hR hS => ?_)
  obtain ⟨rfl, z_13, f_15, f_16, f_17, fr_14⟩ := hq_12
  refine W.eq (g2 := F0 mI 10 ls [.int ((apartM s g nd lf).1), .ref m]) rfl ?_
  have f_18 : ω_11.2 (m + 2) = some (.inl (G.2.1 0, 324, .inl (looksM s g bf))) := (fr_14 (m + 2) (by omega) (by omega) (by omega)).trans f_6
  have f_19 : ω_2.2 (m + 3) = some (.inl (G.2.1 0, 2592, .inl hs)) := (fr_5 (m + 3) (by omega)).trans m3
  have f_20 : ω_11.2 (m + 3) = some (.inl (G.2.1 0, 2592, .inl hs)) := (fr_14 (m + 3) (by omega) (by omega) (by omega)).trans f_19
  refine fw_call (va_runV (As := [.int ((apartM s g nd lf).1)]) (rest := []) ⟨hx, hb, hml, hown, hts⟩ (c_X11_kept G hL l ω_11 m ((apartM s g nd lf).2.1) ((apartM s g nd lf).2.2.1) f_15 f_16 (looksM s g bf) f_18 hs f_20 (by rw [apartM_3]; exact hk) ((apartM s g nd lf).1) ) (cwV 1 hts gX11_apart_X11_kept rfl rfl rfl (by decide +kernel) ⟨Nat.le_of_ble_eq_true rfl, Nat.le_of_ble_eq_true rfl⟩) (fw_preV hW hK hR f_15 rfl) rfl rfl hl.1 rfl (lv_room (Nat.le_of_ble_eq_true rfl)) dX11_apart_10 ⟨Nat.le_of_ble_eq_true rfl, Nat.le_of_ble_eq_true rfl⟩) hS (fun v_21 ω_22 H locs hq_23 hR hS => ?_)
  obtain ⟨rfl, z_24, f_26, f_27, f_28, fr_25⟩ := hq_23
  refine W.eq (g2 := F0 mI 13 ls [.int ((keptM ((apartM s g nd lf).2.1) ((apartM s g nd lf).2.2.1) (looksM s g bf) hs ((apartM s g nd lf).1)).1)]) rfl ?_
  have f_29 : ω_22.2 (m + 7) = some (.inl (G.2.1 0, 6, .inl ((apartM s g nd lf).2.2.2))) := (fr_25 (m + 7) (by omega) (by omega) (by omega)).trans f_17
  have f_30 : ω_22.2 (m + 2) = some (.inl (G.2.1 0, 324, .inl (looksM s g bf))) := (fr_25 (m + 2) (by omega) (by omega) (by omega)).trans f_18
  have fr_31 : ∀ q : Nat, ¬ q = m → ¬ q = (m + 1) → ¬ q = (m + 7) → ¬ q = (m + 2) → ¬ q = (m + 3) → ω_22.2 q = ω.2 q := by
    intro q h0 h1 h2 h3 h4
    rw [fr_25 q (by omega) (by omega) (by omega)]
    rw [fr_14 q (by omega) (by omega) (by omega)]
    rw [fr_5 q (by omega)]
  have z_32 : ω_22.1 = ω.1 := by rw [z_24, z_13, z_4]
  have hr_33 : apartsM s g nd bf hs lf = (((keptM ((apartM s g nd lf).2.1) ((apartM s g nd lf).2.2.1) (looksM s g bf) hs ((apartM s g nd lf).1)).1, ((keptM ((apartM s g nd lf).2.1) ((apartM s g nd lf).2.2.1) (looksM s g bf) hs ((apartM s g nd lf).1)).2.1), ((keptM ((apartM s g nd lf).2.1) ((apartM s g nd lf).2.2.1) (looksM s g bf) hs ((apartM s g nd lf).1)).2.2.1), ((apartM s g nd lf).2.2.2), (looksM s g bf), ((keptM ((apartM s g nd lf).2.1) ((apartM s g nd lf).2.2.1) (looksM s g bf) hs ((apartM s g nd lf).1)).2.2.2)) : Int32 × (Nat → Int32) × (Nat → Int32) × (Nat → Int32) × (Nat → Int32) × (Nat → Int32)) := by
    simp only [apartsM, hcc, hdd, hchc]
  refine fw_iret hx hb hr hlocks hR hS dX11_apart_13 ?_
  rw [hr_33]
  exact ⟨rfl, z_32, f_26, f_27, f_29, f_30, f_28, fr_31⟩
def moveM (s g bf hs : Nat → Int32) (lf : Int32) (sh : Int32) : Int32 × (Nat → Int32) × (Nat → Int32) × (Nat → Int32) × (Nat → Int32) := ((keptM ((movesM s g lf sh).2.1) ((movesM s g lf sh).2.2) (looksM s g bf) hs ((movesM s g lf sh).1)).1, ((keptM ((movesM s g lf sh).2.1) ((movesM s g lf sh).2.2) (looksM s g bf) hs ((movesM s g lf sh).1)).2.1), ((keptM ((movesM s g lf sh).2.1) ((movesM s g lf sh).2.2) (looksM s g bf) hs ((movesM s g lf sh).1)).2.2.1), (looksM s g bf), ((keptM ((movesM s g lf sh).2.1) ((movesM s g lf sh).2.2) (looksM s g bf) hs ((movesM s g lf sh).1)).2.2.2))
set_option maxHeartbeats 4000000 in
set_option maxRecDepth 100000 in
theorem c_X11_move (G : FG) (hL : FL G) (l : Launch) (ω : FWd) (m : Nat) (s g : Nat → Int32) (m0 : ω.2 m = some (.inr (13, [.ref (m + 1), .ref (m + 2), .ref (m + 3), .int (s 3), .ref (m + 4), .int (s 5), .ref (m + 5), .int (s 7), .int (s 8), .int (s 9), .int (s 10), .int (s 11), .ref (m + 6), .int (s 13), .int (s 14), .ref (m + 7), .int (s 16), .int (s 17), .ref (m + 8)]))) (m1 : ω.2 (m + 1) = some (.inl (G.2.1 0, 324, .inl g))) (bf : Nat → Int32) (m2 : ω.2 (m + 2) = some (.inl (G.2.1 0, 324, .inl bf))) (hs : Nat → Int32) (m3 : ω.2 (m + 3) = some (.inl (G.2.1 0, 2592, .inl hs))) (hM : WFM g) (hk : okN (s 3) 8) (lf : Int32) (sh : Int32) : FMet G l yX11_move wsX11_move ({ frames := 3, cells := 0, slots := 0, locals := 66 } : Room) [.ref m, .int lf, .int sh] ω (fun vv9 τ9 => vv9 = some (.int ((moveM s g bf hs lf sh).1)) ∧ τ9.1 = ω.1 ∧ τ9.2 m = some (.inr (13, [.ref (m + 1), .ref (m + 2), .ref (m + 3), .int (((moveM s g bf hs lf sh).2.1) 3), .ref (m + 4), .int (((moveM s g bf hs lf sh).2.1) 5), .ref (m + 5), .int (((moveM s g bf hs lf sh).2.1) 7), .int (((moveM s g bf hs lf sh).2.1) 8), .int (((moveM s g bf hs lf sh).2.1) 9), .int (((moveM s g bf hs lf sh).2.1) 10), .int (((moveM s g bf hs lf sh).2.1) 11), .ref (m + 6), .int (((moveM s g bf hs lf sh).2.1) 13), .int (((moveM s g bf hs lf sh).2.1) 14), .ref (m + 7), .int (((moveM s g bf hs lf sh).2.1) 16), .int (((moveM s g bf hs lf sh).2.1) 17), .ref (m + 8)])) ∧ τ9.2 (m + 1) = some (.inl (G.2.1 0, 324, .inl ((moveM s g bf hs lf sh).2.2.1))) ∧ τ9.2 (m + 2) = some (.inl (G.2.1 0, 324, .inl ((moveM s g bf hs lf sh).2.2.2.1))) ∧ τ9.2 (m + 3) = some (.inl (G.2.1 0, 2592, .inl ((moveM s g bf hs lf sh).2.2.2.2))) ∧ ∀ q : Nat, ¬ q = m → ¬ q = (m + 1) → ¬ q = (m + 2) → ¬ q = (m + 3) → τ9.2 q = ω.2 q) 0 0 := by
  refine fw_ofW (cc := cX11_move) (maxL := 3) (ret := (some .int)) (by decide) rfl (Nat.le_of_ble_eq_true rfl) ?_
  intro pP eE sS mI ar9 bl9 meth cD ls hx hb hr hlocks hml hts hown hnm hW hR hl
  have hK := hL.K hW
  have hS : va_S (fwA G) sS.heap sS.heap [] := va_S.rf
  have hl : lv_has ls 3 [(0, .ref m), (1, .int lf), (2, .int sh)] := hl
  obtain ⟨c, hc8, hc, hcc⟩ := okN_of hM.1
  obtain ⟨cc, hd5, hd, hdd⟩ := okN_of hM.2.1
  obtain ⟨ch, hch8, hch, hchc⟩ := okN_of hk
  refine lv_aload_n hx hb dX11_move_0 rfl (lv_at hl 0 rfl) ?_
  refine fw_call (va_runV (As := []) (rest := []) ⟨hx, hb, hml, hown, hts⟩ (c_X11_looksBack G hL l ω m s g m0 m1 bf m2   ) (cwV 0 hts gX11_move_X11_looksBack rfl rfl rfl (by decide +kernel) ⟨Nat.le_of_ble_eq_true rfl, Nat.le_of_ble_eq_true rfl⟩) (fw_preV hW hK hR m0 rfl) rfl rfl hl.1 rfl (lv_room (Nat.le_of_ble_eq_true rfl)) dX11_move_1 ⟨Nat.le_of_ble_eq_true rfl, Nat.le_of_ble_eq_true rfl⟩) hS (fun v_1 ω_2 H locs hq_3 hR hS => ?_)
  obtain ⟨rfl, z_4, f_6, fr_5⟩ := hq_3
  refine W.eq (g2 := F0 mI 4 ls []) rfl ?_
  refine lv_aload_n hx hb dX11_move_4 rfl (lv_at hl 0 rfl) ?_
  refine lv_aload_n hx hb dX11_move_5 rfl (lv_at hl 0 rfl) ?_
  refine lv_iload_n hx hb dX11_move_6 rfl (lv_at hl 1 rfl) ?_
  refine lv_iload_n hx hb dX11_move_7 rfl (lv_at hl 2 rfl) ?_
  have f_7 : ω_2.2 m = some (.inr (13, [.ref (m + 1), .ref (m + 2), .ref (m + 3), .int (s 3), .ref (m + 4), .int (s 5), .ref (m + 5), .int (s 7), .int (s 8), .int (s 9), .int (s 10), .int (s 11), .ref (m + 6), .int (s 13), .int (s 14), .ref (m + 7), .int (s 16), .int (s 17), .ref (m + 8)])) := (fr_5 m (by omega)).trans m0
  have f_8 : ω_2.2 (m + 1) = some (.inl (G.2.1 0, 324, .inl g)) := (fr_5 (m + 1) (by omega)).trans m1
  refine fw_call (va_runV (As := [.int lf, .int sh]) (rest := [.ref m]) ⟨hx, hb, hml, hown, hts⟩ (c_X11_moves G hL l ω_2 m s g f_7 f_8 hM lf sh ) (cwV 2 hts gX11_move_X11_moves rfl rfl rfl (by decide +kernel) ⟨Nat.le_of_ble_eq_true rfl, Nat.le_of_ble_eq_true rfl⟩) (fw_preV hW hK hR f_7 rfl) rfl rfl hl.1 rfl (lv_room (Nat.le_of_ble_eq_true rfl)) dX11_move_8 ⟨Nat.le_of_ble_eq_true rfl, Nat.le_of_ble_eq_true rfl⟩) hS (fun v_9 ω_10 H locs hq_11 hR hS => ?_)
  obtain ⟨rfl, z_12, f_14, f_15, fr_13⟩ := hq_11
  refine W.eq (g2 := F0 mI 11 ls [.int ((movesM s g lf sh).1), .ref m]) rfl ?_
  have f_16 : ω_10.2 (m + 2) = some (.inl (G.2.1 0, 324, .inl (looksM s g bf))) := (fr_13 (m + 2) (by omega) (by omega)).trans f_6
  have f_17 : ω_2.2 (m + 3) = some (.inl (G.2.1 0, 2592, .inl hs)) := (fr_5 (m + 3) (by omega)).trans m3
  have f_18 : ω_10.2 (m + 3) = some (.inl (G.2.1 0, 2592, .inl hs)) := (fr_13 (m + 3) (by omega) (by omega)).trans f_17
  refine fw_call (va_runV (As := [.int ((movesM s g lf sh).1)]) (rest := []) ⟨hx, hb, hml, hown, hts⟩ (c_X11_kept G hL l ω_10 m ((movesM s g lf sh).2.1) ((movesM s g lf sh).2.2) f_14 f_15 (looksM s g bf) f_16 hs f_18 (by rw [movesM_3]; exact hk) ((movesM s g lf sh).1) ) (cwV 1 hts gX11_move_X11_kept rfl rfl rfl (by decide +kernel) ⟨Nat.le_of_ble_eq_true rfl, Nat.le_of_ble_eq_true rfl⟩) (fw_preV hW hK hR f_14 rfl) rfl rfl hl.1 rfl (lv_room (Nat.le_of_ble_eq_true rfl)) dX11_move_11 ⟨Nat.le_of_ble_eq_true rfl, Nat.le_of_ble_eq_true rfl⟩) hS (fun v_19 ω_20 H locs hq_21 hR hS => ?_)
  obtain ⟨rfl, z_22, f_24, f_25, f_26, fr_23⟩ := hq_21
  refine W.eq (g2 := F0 mI 14 ls [.int ((keptM ((movesM s g lf sh).2.1) ((movesM s g lf sh).2.2) (looksM s g bf) hs ((movesM s g lf sh).1)).1)]) rfl ?_
  have f_27 : ω_20.2 (m + 2) = some (.inl (G.2.1 0, 324, .inl (looksM s g bf))) := (fr_23 (m + 2) (by omega) (by omega) (by omega)).trans f_16
  have fr_28 : ∀ q : Nat, ¬ q = m → ¬ q = (m + 1) → ¬ q = (m + 2) → ¬ q = (m + 3) → ω_20.2 q = ω.2 q := by
    intro q h0 h1 h2 h3
    rw [fr_23 q (by omega) (by omega) (by omega)]
    rw [fr_13 q (by omega) (by omega)]
    rw [fr_5 q (by omega)]
  have z_29 : ω_20.1 = ω.1 := by rw [z_22, z_12, z_4]
  have hr_30 : moveM s g bf hs lf sh = (((keptM ((movesM s g lf sh).2.1) ((movesM s g lf sh).2.2) (looksM s g bf) hs ((movesM s g lf sh).1)).1, ((keptM ((movesM s g lf sh).2.1) ((movesM s g lf sh).2.2) (looksM s g bf) hs ((movesM s g lf sh).1)).2.1), ((keptM ((movesM s g lf sh).2.1) ((movesM s g lf sh).2.2) (looksM s g bf) hs ((movesM s g lf sh).1)).2.2.1), (looksM s g bf), ((keptM ((movesM s g lf sh).2.1) ((movesM s g lf sh).2.2) (looksM s g bf) hs ((movesM s g lf sh).1)).2.2.2)) : Int32 × (Nat → Int32) × (Nat → Int32) × (Nat → Int32) × (Nat → Int32)) := by
    simp only [moveM, hcc, hdd, hchc]
  refine fw_iret hx hb hr hlocks hR hS dX11_move_14 ?_
  rw [hr_30]
  exact ⟨rfl, z_29, f_24, f_25, f_27, f_26, fr_28⟩
def loseM (s g bf hs : Nat → Int32) (kd : Int32) (ps : Int32) : Int32 × (Nat → Int32) × (Nat → Int32) × (Nat → Int32) × (Nat → Int32) := ((keptM ((losesM s g kd ps).2.1) ((losesM s g kd ps).2.2) (looksM s g bf) hs ((losesM s g kd ps).1)).1, ((keptM ((losesM s g kd ps).2.1) ((losesM s g kd ps).2.2) (looksM s g bf) hs ((losesM s g kd ps).1)).2.1), ((keptM ((losesM s g kd ps).2.1) ((losesM s g kd ps).2.2) (looksM s g bf) hs ((losesM s g kd ps).1)).2.2.1), (looksM s g bf), ((keptM ((losesM s g kd ps).2.1) ((losesM s g kd ps).2.2) (looksM s g bf) hs ((losesM s g kd ps).1)).2.2.2))
set_option maxHeartbeats 4000000 in
set_option maxRecDepth 100000 in
theorem c_X11_lose (G : FG) (hL : FL G) (l : Launch) (ω : FWd) (m : Nat) (s g : Nat → Int32) (m0 : ω.2 m = some (.inr (13, [.ref (m + 1), .ref (m + 2), .ref (m + 3), .int (s 3), .ref (m + 4), .int (s 5), .ref (m + 5), .int (s 7), .int (s 8), .int (s 9), .int (s 10), .int (s 11), .ref (m + 6), .int (s 13), .int (s 14), .ref (m + 7), .int (s 16), .int (s 17), .ref (m + 8)]))) (m1 : ω.2 (m + 1) = some (.inl (G.2.1 0, 324, .inl g))) (bf : Nat → Int32) (m2 : ω.2 (m + 2) = some (.inl (G.2.1 0, 324, .inl bf))) (hs : Nat → Int32) (m3 : ω.2 (m + 3) = some (.inl (G.2.1 0, 2592, .inl hs))) (hM : WFM g) (hk : okN (s 3) 8) (kd : Int32) (ps : Int32) : FMet G l yX11_lose wsX11_lose ({ frames := 3, cells := 0, slots := 0, locals := 65 } : Room) [.ref m, .int kd, .int ps] ω (fun vv9 τ9 => vv9 = some (.int ((loseM s g bf hs kd ps).1)) ∧ τ9.1 = ω.1 ∧ τ9.2 m = some (.inr (13, [.ref (m + 1), .ref (m + 2), .ref (m + 3), .int (((loseM s g bf hs kd ps).2.1) 3), .ref (m + 4), .int (((loseM s g bf hs kd ps).2.1) 5), .ref (m + 5), .int (((loseM s g bf hs kd ps).2.1) 7), .int (((loseM s g bf hs kd ps).2.1) 8), .int (((loseM s g bf hs kd ps).2.1) 9), .int (((loseM s g bf hs kd ps).2.1) 10), .int (((loseM s g bf hs kd ps).2.1) 11), .ref (m + 6), .int (((loseM s g bf hs kd ps).2.1) 13), .int (((loseM s g bf hs kd ps).2.1) 14), .ref (m + 7), .int (((loseM s g bf hs kd ps).2.1) 16), .int (((loseM s g bf hs kd ps).2.1) 17), .ref (m + 8)])) ∧ τ9.2 (m + 1) = some (.inl (G.2.1 0, 324, .inl ((loseM s g bf hs kd ps).2.2.1))) ∧ τ9.2 (m + 2) = some (.inl (G.2.1 0, 324, .inl ((loseM s g bf hs kd ps).2.2.2.1))) ∧ τ9.2 (m + 3) = some (.inl (G.2.1 0, 2592, .inl ((loseM s g bf hs kd ps).2.2.2.2))) ∧ ∀ q : Nat, ¬ q = m → ¬ q = (m + 1) → ¬ q = (m + 2) → ¬ q = (m + 3) → τ9.2 q = ω.2 q) 0 0 := by
  refine fw_ofW (cc := cX11_lose) (maxL := 3) (ret := (some .int)) (by decide) rfl (Nat.le_of_ble_eq_true rfl) ?_
  intro pP eE sS mI ar9 bl9 meth cD ls hx hb hr hlocks hml hts hown hnm hW hR hl
  have hK := hL.K hW
  have hS : va_S (fwA G) sS.heap sS.heap [] := va_S.rf
  have hl : lv_has ls 3 [(0, .ref m), (1, .int kd), (2, .int ps)] := hl
  obtain ⟨c, hc8, hc, hcc⟩ := okN_of hM.1
  obtain ⟨cc, hd5, hd, hdd⟩ := okN_of hM.2.1
  obtain ⟨ch, hch8, hch, hchc⟩ := okN_of hk
  refine lv_aload_n hx hb dX11_lose_0 rfl (lv_at hl 0 rfl) ?_
  refine fw_call (va_runV (As := []) (rest := []) ⟨hx, hb, hml, hown, hts⟩ (c_X11_looksBack G hL l ω m s g m0 m1 bf m2   ) (cwV 0 hts gX11_lose_X11_looksBack rfl rfl rfl (by decide +kernel) ⟨Nat.le_of_ble_eq_true rfl, Nat.le_of_ble_eq_true rfl⟩) (fw_preV hW hK hR m0 rfl) rfl rfl hl.1 rfl (lv_room (Nat.le_of_ble_eq_true rfl)) dX11_lose_1 ⟨Nat.le_of_ble_eq_true rfl, Nat.le_of_ble_eq_true rfl⟩) hS (fun v_1 ω_2 H locs hq_3 hR hS => ?_)
  obtain ⟨rfl, z_4, f_6, fr_5⟩ := hq_3
  refine W.eq (g2 := F0 mI 4 ls []) rfl ?_
  refine lv_aload_n hx hb dX11_lose_4 rfl (lv_at hl 0 rfl) ?_
  refine lv_aload_n hx hb dX11_lose_5 rfl (lv_at hl 0 rfl) ?_
  refine lv_iload_n hx hb dX11_lose_6 rfl (lv_at hl 1 rfl) ?_
  refine lv_iload_n hx hb dX11_lose_7 rfl (lv_at hl 2 rfl) ?_
  have f_7 : ω_2.2 m = some (.inr (13, [.ref (m + 1), .ref (m + 2), .ref (m + 3), .int (s 3), .ref (m + 4), .int (s 5), .ref (m + 5), .int (s 7), .int (s 8), .int (s 9), .int (s 10), .int (s 11), .ref (m + 6), .int (s 13), .int (s 14), .ref (m + 7), .int (s 16), .int (s 17), .ref (m + 8)])) := (fr_5 m (by omega)).trans m0
  have f_8 : ω_2.2 (m + 1) = some (.inl (G.2.1 0, 324, .inl g)) := (fr_5 (m + 1) (by omega)).trans m1
  refine fw_call (va_runV (As := [.int kd, .int ps]) (rest := [.ref m]) ⟨hx, hb, hml, hown, hts⟩ (c_X11_loses G hL l ω_2 m s g f_7 f_8 hM kd ps ) (cwV 2 hts gX11_lose_X11_loses rfl rfl rfl (by decide +kernel) ⟨Nat.le_of_ble_eq_true rfl, Nat.le_of_ble_eq_true rfl⟩) (fw_preV hW hK hR f_7 rfl) rfl rfl hl.1 rfl (lv_room (Nat.le_of_ble_eq_true rfl)) dX11_lose_8 ⟨Nat.le_of_ble_eq_true rfl, Nat.le_of_ble_eq_true rfl⟩) hS (fun v_9 ω_10 H locs hq_11 hR hS => ?_)
  obtain ⟨rfl, z_12, f_14, f_15, fr_13⟩ := hq_11
  refine W.eq (g2 := F0 mI 11 ls [.int ((losesM s g kd ps).1), .ref m]) rfl ?_
  have f_16 : ω_10.2 (m + 2) = some (.inl (G.2.1 0, 324, .inl (looksM s g bf))) := (fr_13 (m + 2) (by omega) (by omega)).trans f_6
  have f_17 : ω_2.2 (m + 3) = some (.inl (G.2.1 0, 2592, .inl hs)) := (fr_5 (m + 3) (by omega)).trans m3
  have f_18 : ω_10.2 (m + 3) = some (.inl (G.2.1 0, 2592, .inl hs)) := (fr_13 (m + 3) (by omega) (by omega)).trans f_17
  refine fw_call (va_runV (As := [.int ((losesM s g kd ps).1)]) (rest := []) ⟨hx, hb, hml, hown, hts⟩ (c_X11_kept G hL l ω_10 m ((losesM s g kd ps).2.1) ((losesM s g kd ps).2.2) f_14 f_15 (looksM s g bf) f_16 hs f_18 (by rw [losesM_3]; exact hk) ((losesM s g kd ps).1) ) (cwV 1 hts gX11_lose_X11_kept rfl rfl rfl (by decide +kernel) ⟨Nat.le_of_ble_eq_true rfl, Nat.le_of_ble_eq_true rfl⟩) (fw_preV hW hK hR f_14 rfl) rfl rfl hl.1 rfl (lv_room (Nat.le_of_ble_eq_true rfl)) dX11_lose_11 ⟨Nat.le_of_ble_eq_true rfl, Nat.le_of_ble_eq_true rfl⟩) hS (fun v_19 ω_20 H locs hq_21 hR hS => ?_)
  obtain ⟨rfl, z_22, f_24, f_25, f_26, fr_23⟩ := hq_21
  refine W.eq (g2 := F0 mI 14 ls [.int ((keptM ((losesM s g kd ps).2.1) ((losesM s g kd ps).2.2) (looksM s g bf) hs ((losesM s g kd ps).1)).1)]) rfl ?_
  have f_27 : ω_20.2 (m + 2) = some (.inl (G.2.1 0, 324, .inl (looksM s g bf))) := (fr_23 (m + 2) (by omega) (by omega) (by omega)).trans f_16
  have fr_28 : ∀ q : Nat, ¬ q = m → ¬ q = (m + 1) → ¬ q = (m + 2) → ¬ q = (m + 3) → ω_20.2 q = ω.2 q := by
    intro q h0 h1 h2 h3
    rw [fr_23 q (by omega) (by omega) (by omega)]
    rw [fr_13 q (by omega) (by omega)]
    rw [fr_5 q (by omega)]
  have z_29 : ω_20.1 = ω.1 := by rw [z_22, z_12, z_4]
  have hr_30 : loseM s g bf hs kd ps = (((keptM ((losesM s g kd ps).2.1) ((losesM s g kd ps).2.2) (looksM s g bf) hs ((losesM s g kd ps).1)).1, ((keptM ((losesM s g kd ps).2.1) ((losesM s g kd ps).2.2) (looksM s g bf) hs ((losesM s g kd ps).1)).2.1), ((keptM ((losesM s g kd ps).2.1) ((losesM s g kd ps).2.2) (looksM s g bf) hs ((losesM s g kd ps).1)).2.2.1), (looksM s g bf), ((keptM ((losesM s g kd ps).2.1) ((losesM s g kd ps).2.2) (looksM s g bf) hs ((losesM s g kd ps).1)).2.2.2)) : Int32 × (Nat → Int32) × (Nat → Int32) × (Nat → Int32) × (Nat → Int32)) := by
    simp only [loseM, hcc, hdd, hchc]
  refine fw_iret hx hb hr hlocks hR hS dX11_lose_14 ?_
  rw [hr_30]
  exact ⟨rfl, z_29, f_24, f_25, f_27, f_26, fr_28⟩
def findM (s g bf hs : Nat → Int32) (kd : Int32) (ps : Int32) : Int32 × (Nat → Int32) × (Nat → Int32) × (Nat → Int32) × (Nat → Int32) := ((keptM ((findsM s g kd ps).2.1) ((findsM s g kd ps).2.2) (looksM s g bf) hs ((findsM s g kd ps).1)).1, ((keptM ((findsM s g kd ps).2.1) ((findsM s g kd ps).2.2) (looksM s g bf) hs ((findsM s g kd ps).1)).2.1), ((keptM ((findsM s g kd ps).2.1) ((findsM s g kd ps).2.2) (looksM s g bf) hs ((findsM s g kd ps).1)).2.2.1), (looksM s g bf), ((keptM ((findsM s g kd ps).2.1) ((findsM s g kd ps).2.2) (looksM s g bf) hs ((findsM s g kd ps).1)).2.2.2))
set_option maxHeartbeats 4000000 in
set_option maxRecDepth 100000 in
theorem c_X11_find (G : FG) (hL : FL G) (l : Launch) (ω : FWd) (m : Nat) (s g : Nat → Int32) (m0 : ω.2 m = some (.inr (13, [.ref (m + 1), .ref (m + 2), .ref (m + 3), .int (s 3), .ref (m + 4), .int (s 5), .ref (m + 5), .int (s 7), .int (s 8), .int (s 9), .int (s 10), .int (s 11), .ref (m + 6), .int (s 13), .int (s 14), .ref (m + 7), .int (s 16), .int (s 17), .ref (m + 8)]))) (m1 : ω.2 (m + 1) = some (.inl (G.2.1 0, 324, .inl g))) (bf : Nat → Int32) (m2 : ω.2 (m + 2) = some (.inl (G.2.1 0, 324, .inl bf))) (hs : Nat → Int32) (m3 : ω.2 (m + 3) = some (.inl (G.2.1 0, 2592, .inl hs))) (hM : WFM g) (hk : okN (s 3) 8) (kd : Int32) (ps : Int32) : FMet G l yX11_find wsX11_find ({ frames := 3, cells := 0, slots := 0, locals := 65 } : Room) [.ref m, .int kd, .int ps] ω (fun vv9 τ9 => vv9 = some (.int ((findM s g bf hs kd ps).1)) ∧ τ9.1 = ω.1 ∧ τ9.2 m = some (.inr (13, [.ref (m + 1), .ref (m + 2), .ref (m + 3), .int (((findM s g bf hs kd ps).2.1) 3), .ref (m + 4), .int (((findM s g bf hs kd ps).2.1) 5), .ref (m + 5), .int (((findM s g bf hs kd ps).2.1) 7), .int (((findM s g bf hs kd ps).2.1) 8), .int (((findM s g bf hs kd ps).2.1) 9), .int (((findM s g bf hs kd ps).2.1) 10), .int (((findM s g bf hs kd ps).2.1) 11), .ref (m + 6), .int (((findM s g bf hs kd ps).2.1) 13), .int (((findM s g bf hs kd ps).2.1) 14), .ref (m + 7), .int (((findM s g bf hs kd ps).2.1) 16), .int (((findM s g bf hs kd ps).2.1) 17), .ref (m + 8)])) ∧ τ9.2 (m + 1) = some (.inl (G.2.1 0, 324, .inl ((findM s g bf hs kd ps).2.2.1))) ∧ τ9.2 (m + 2) = some (.inl (G.2.1 0, 324, .inl ((findM s g bf hs kd ps).2.2.2.1))) ∧ τ9.2 (m + 3) = some (.inl (G.2.1 0, 2592, .inl ((findM s g bf hs kd ps).2.2.2.2))) ∧ ∀ q : Nat, ¬ q = m → ¬ q = (m + 1) → ¬ q = (m + 2) → ¬ q = (m + 3) → τ9.2 q = ω.2 q) 0 0 := by
  refine fw_ofW (cc := cX11_find) (maxL := 3) (ret := (some .int)) (by decide) rfl (Nat.le_of_ble_eq_true rfl) ?_
  intro pP eE sS mI ar9 bl9 meth cD ls hx hb hr hlocks hml hts hown hnm hW hR hl
  have hK := hL.K hW
  have hS : va_S (fwA G) sS.heap sS.heap [] := va_S.rf
  have hl : lv_has ls 3 [(0, .ref m), (1, .int kd), (2, .int ps)] := hl
  obtain ⟨c, hc8, hc, hcc⟩ := okN_of hM.1
  obtain ⟨cc, hd5, hd, hdd⟩ := okN_of hM.2.1
  obtain ⟨ch, hch8, hch, hchc⟩ := okN_of hk
  refine lv_aload_n hx hb dX11_find_0 rfl (lv_at hl 0 rfl) ?_
  refine fw_call (va_runV (As := []) (rest := []) ⟨hx, hb, hml, hown, hts⟩ (c_X11_looksBack G hL l ω m s g m0 m1 bf m2   ) (cwV 0 hts gX11_find_X11_looksBack rfl rfl rfl (by decide +kernel) ⟨Nat.le_of_ble_eq_true rfl, Nat.le_of_ble_eq_true rfl⟩) (fw_preV hW hK hR m0 rfl) rfl rfl hl.1 rfl (lv_room (Nat.le_of_ble_eq_true rfl)) dX11_find_1 ⟨Nat.le_of_ble_eq_true rfl, Nat.le_of_ble_eq_true rfl⟩) hS (fun v_1 ω_2 H locs hq_3 hR hS => ?_)
  obtain ⟨rfl, z_4, f_6, fr_5⟩ := hq_3
  refine W.eq (g2 := F0 mI 4 ls []) rfl ?_
  refine lv_aload_n hx hb dX11_find_4 rfl (lv_at hl 0 rfl) ?_
  refine lv_aload_n hx hb dX11_find_5 rfl (lv_at hl 0 rfl) ?_
  refine lv_iload_n hx hb dX11_find_6 rfl (lv_at hl 1 rfl) ?_
  refine lv_iload_n hx hb dX11_find_7 rfl (lv_at hl 2 rfl) ?_
  have f_7 : ω_2.2 m = some (.inr (13, [.ref (m + 1), .ref (m + 2), .ref (m + 3), .int (s 3), .ref (m + 4), .int (s 5), .ref (m + 5), .int (s 7), .int (s 8), .int (s 9), .int (s 10), .int (s 11), .ref (m + 6), .int (s 13), .int (s 14), .ref (m + 7), .int (s 16), .int (s 17), .ref (m + 8)])) := (fr_5 m (by omega)).trans m0
  have f_8 : ω_2.2 (m + 1) = some (.inl (G.2.1 0, 324, .inl g)) := (fr_5 (m + 1) (by omega)).trans m1
  refine fw_call (va_runV (As := [.int kd, .int ps]) (rest := [.ref m]) ⟨hx, hb, hml, hown, hts⟩ (c_X11_findsAgain G hL l ω_2 m s g f_7 f_8 hM kd ps ) (cwV 2 hts gX11_find_X11_findsAgain rfl rfl rfl (by decide +kernel) ⟨Nat.le_of_ble_eq_true rfl, Nat.le_of_ble_eq_true rfl⟩) (fw_preV hW hK hR f_7 rfl) rfl rfl hl.1 rfl (lv_room (Nat.le_of_ble_eq_true rfl)) dX11_find_8 ⟨Nat.le_of_ble_eq_true rfl, Nat.le_of_ble_eq_true rfl⟩) hS (fun v_9 ω_10 H locs hq_11 hR hS => ?_)
  obtain ⟨rfl, z_12, f_14, f_15, fr_13⟩ := hq_11
  refine W.eq (g2 := F0 mI 11 ls [.int ((findsM s g kd ps).1), .ref m]) rfl ?_
  have f_16 : ω_10.2 (m + 2) = some (.inl (G.2.1 0, 324, .inl (looksM s g bf))) := (fr_13 (m + 2) (by omega) (by omega)).trans f_6
  have f_17 : ω_2.2 (m + 3) = some (.inl (G.2.1 0, 2592, .inl hs)) := (fr_5 (m + 3) (by omega)).trans m3
  have f_18 : ω_10.2 (m + 3) = some (.inl (G.2.1 0, 2592, .inl hs)) := (fr_13 (m + 3) (by omega) (by omega)).trans f_17
  refine fw_call (va_runV (As := [.int ((findsM s g kd ps).1)]) (rest := []) ⟨hx, hb, hml, hown, hts⟩ (c_X11_kept G hL l ω_10 m ((findsM s g kd ps).2.1) ((findsM s g kd ps).2.2) f_14 f_15 (looksM s g bf) f_16 hs f_18 (by rw [findsM_3]; exact hk) ((findsM s g kd ps).1) ) (cwV 1 hts gX11_find_X11_kept rfl rfl rfl (by decide +kernel) ⟨Nat.le_of_ble_eq_true rfl, Nat.le_of_ble_eq_true rfl⟩) (fw_preV hW hK hR f_14 rfl) rfl rfl hl.1 rfl (lv_room (Nat.le_of_ble_eq_true rfl)) dX11_find_11 ⟨Nat.le_of_ble_eq_true rfl, Nat.le_of_ble_eq_true rfl⟩) hS (fun v_19 ω_20 H locs hq_21 hR hS => ?_)
  obtain ⟨rfl, z_22, f_24, f_25, f_26, fr_23⟩ := hq_21
  refine W.eq (g2 := F0 mI 14 ls [.int ((keptM ((findsM s g kd ps).2.1) ((findsM s g kd ps).2.2) (looksM s g bf) hs ((findsM s g kd ps).1)).1)]) rfl ?_
  have f_27 : ω_20.2 (m + 2) = some (.inl (G.2.1 0, 324, .inl (looksM s g bf))) := (fr_23 (m + 2) (by omega) (by omega) (by omega)).trans f_16
  have fr_28 : ∀ q : Nat, ¬ q = m → ¬ q = (m + 1) → ¬ q = (m + 2) → ¬ q = (m + 3) → ω_20.2 q = ω.2 q := by
    intro q h0 h1 h2 h3
    rw [fr_23 q (by omega) (by omega) (by omega)]
    rw [fr_13 q (by omega) (by omega)]
    rw [fr_5 q (by omega)]
  have z_29 : ω_20.1 = ω.1 := by rw [z_22, z_12, z_4]
  have hr_30 : findM s g bf hs kd ps = (((keptM ((findsM s g kd ps).2.1) ((findsM s g kd ps).2.2) (looksM s g bf) hs ((findsM s g kd ps).1)).1, ((keptM ((findsM s g kd ps).2.1) ((findsM s g kd ps).2.2) (looksM s g bf) hs ((findsM s g kd ps).1)).2.1), ((keptM ((findsM s g kd ps).2.1) ((findsM s g kd ps).2.2) (looksM s g bf) hs ((findsM s g kd ps).1)).2.2.1), (looksM s g bf), ((keptM ((findsM s g kd ps).2.1) ((findsM s g kd ps).2.2) (looksM s g bf) hs ((findsM s g kd ps).1)).2.2.2)) : Int32 × (Nat → Int32) × (Nat → Int32) × (Nat → Int32) × (Nat → Int32)) := by
    simp only [findM, hcc, hdd, hchc]
  refine fw_iret hx hb hr hlocks hR hS dX11_find_14 ?_
  rw [hr_30]
  exact ⟨rfl, z_29, f_24, f_25, f_27, f_26, fr_28⟩
