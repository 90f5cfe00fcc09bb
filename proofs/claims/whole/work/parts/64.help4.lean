/-! ===== printed by program (wip/whole/gen/lay_help.py): step and append ===== -/
theorem h_step (G : FG) (hL : FL G) (l : Launch) (hX0 : FX0 G l) (ω : FWd) (x : Nat) (s g hs sv ip lt bf : Nat → Int32) (h : CInv G ω.2 x s g hs sv ip lt) (o : Nat) (f0 : Nat → Int64) (ho : ω.2 o = some (.inl (G.2.1 2, 1, .inr (.inl f0)))) (hd : o < x ∨ x + 614 ≤ o) (lf : Int32) (kd : Int32) (ps : Int32) (la : Int32) (two : Int32) : FMetX G l yL_step wsL_step ({ frames := 8, cells := 1, slots := 6, locals := 160 } : Room) [.ref x, .int lf, .int kd, .int ps, .int la, .int two, .ref o] ω (QH G x ω o (stepM s g bf hs lf kd ps la two).1.toInt64 (stepM s g bf hs lf kd ps la two).2.1 (stepM s g bf hs lf kd ps la two).2.2.1 (stepM s g bf hs lf kd ps la two).2.2.2.2 sv ip lt) (fun _ _ => False) 1 6 := by
  refine fx_ofWH (cc := cL_step) (maxL := 8) (ret := (some .int)) (hh := [(0, 16, 19, 13)]) (by decide) rfl (Nat.le_of_ble_eq_true rfl) ?_
  intro pP eE sS mI ar9 bl9 meth cD ls hx hb hr hlocks hml hts hown hnm hW hR htb hl
  have hK := hL.K hW
  have hS : va_S (fwA G) sS.heap sS.heap [] := va_S.rf
  have hl : lv_has ls 8 [(0, .ref x), (1, .int lf), (2, .int kd), (3, .int ps), (4, .int la), (5, .int two), (6, .ref o)] := hl
  refine lv_aload hx hb dL_step_0 (lv_at hl 6 rfl) ?_
  refine lv_iconst (v := 0) hx hb dL_step_2 (by decide) ?_
  refine lv_aload_n hx hb dL_step_3 rfl (lv_at hl 0 rfl) ?_
  refine lv_iload_n hx hb dL_step_4 rfl (lv_at hl 1 rfl) ?_
  refine lv_iload_n hx hb dL_step_5 rfl (lv_at hl 2 rfl) ?_
  refine lv_iload_n hx hb dL_step_6 rfl (lv_at hl 3 rfl) ?_
  refine lv_iload hx hb dL_step_7 (lv_at hl 4 rfl) ?_
  refine lv_iload hx hb dL_step_9 (lv_at hl 5 rfl) ?_
  refine fx_call (vx_runV (As := [.int lf, .int kd, .int ps, .int la, .int two]) (rest := [.int 0, .ref o]) ⟨hx, hb, hml, hown, hts⟩ (i_step G hL l hX0 ω x s g hs sv ip lt bf h lf kd ps la two) (cwV 5 hts gL_step_X10_step rfl rfl rfl (by decide +kernel) ⟨Nat.le_of_ble_eq_true rfl, Nat.le_of_ble_eq_true rfl⟩) (fw_preV hW hK hR h.1.1 rfl) rfl rfl hl.1 rfl (lv_room (Nat.le_of_ble_eq_true rfl)) dL_step_11 ⟨Nat.le_of_ble_eq_true rfl, Nat.le_of_ble_eq_true rfl⟩) hS (fun E ce q9 τ H locs hx_1 hR hS hce hcv hcl => ?_) (fun v τ H locs hq hR hS => ?_)
  · obtain ⟨⟨k1, rfl⟩, hI, hF⟩ := hx_1
    refine vx_catch (own := RL) (name := "java/lang/UnsupportedOperationException") hown [] ⟨0, 16, 19, 13⟩ [] htb (fun z hz => by cases hz) (by decide) (by decide) (hts _ (by decide +kernel)) (cast_at hX0 hW (by decide)) hce hcv hcl ?_
    refine lv_astore (lv' := [(7, .ref q9), (0, .ref x), (1, .int lf), (2, .int kd), (3, .int ps), (4, .int la), (5, .int two), (6, .ref o)]) hx hb dL_step_19 hl (by decide) rfl (fun ls hl => ?_)
    refine lv_iconst (v := 1) hx hb dL_step_21 (by decide) ?_
    refine vx_ret ?_
    refine fw_iret hx hb hr hlocks hR hS dL_step_22 ?_
    exact qh_no k1 (by decide) hI hF hd ho
  · obtain ⟨rfl, k0, hI, hF⟩ := hq
    refine W.eq (g2 := F0 mI 14 ls [.int (stepM s g bf hs lf kd ps la two).1, .int 0, .ref o]) rfl ?_
    refine lv_i2l hx hb dL_step_14 rfl ?_
    refine fw_last hx hb hK hR hS ((hF o hd).trans ho) (show vp_in 0 1 by unfold vp_in; decide) dL_step_15 (fun H1 locs1 hR hS => ?_)
    refine lv_goto (tgt := 23) hx hb dL_step_16 (by decide) ?_
    refine lv_iconst (v := 0) hx hb dL_step_23 (by decide) ?_
    refine vx_ret ?_
    refine fw_iret hx hb hr hlocks hR hS dL_step_24 ?_
    exact qh_yes k0 hI hF hd
theorem h_append (G : FG) (hL : FL G) (l : Launch) (hX0 : FX0 G l) (ω : FWd) (x : Nat) (s g hs sv ip lt : Nat → Int32) (h : CInv G ω.2 x s g hs sv ip lt) (o : Nat) (f0 : Nat → Int64) (ho : ω.2 o = some (.inl (G.2.1 2, 1, .inr (.inl f0)))) (hd : o < x ∨ x + 614 ≤ o) (ch : Int32) (hch : vp_nar .char ch = ch) : FMetX G l yL_append wsL_append ({ frames := 7, cells := 1, slots := 6, locals := 136 } : Room) [.ref x, .int ch, .ref o] ω (QH G x ω o (appM s g ip ch).1.toInt64 (appM s g ip ch).2.1 g hs sv (appM s g ip ch).2.2 lt) (fun _ _ => False) 1 6 := by
  refine fx_ofWH (cc := cL_append) (maxL := 4) (ret := (some .int)) (hh := [(0, 9, 12, 110)]) (by decide) rfl (Nat.le_of_ble_eq_true rfl) ?_
  intro pP eE sS mI ar9 bl9 meth cD ls hx hb hr hlocks hml hts hown hnm hW hR htb hl
  have hK := hL.K hW
  have hS : va_S (fwA G) sS.heap sS.heap [] := va_S.rf
  have hl : lv_has ls 4 [(0, .ref x), (1, .int ch), (2, .ref o)] := hl
  refine lv_aload_n hx hb dL_append_0 rfl (lv_at hl 2 rfl) ?_
  refine lv_iconst (v := 0) hx hb dL_append_1 (by decide) ?_
  refine lv_aload_n hx hb dL_append_2 rfl (lv_at hl 0 rfl) ?_
  refine lv_iload_n hx hb dL_append_3 rfl (lv_at hl 1 rfl) ?_
  refine fx_call (vx_runV (As := [.int ch]) (rest := [.int 0, .ref o]) ⟨hx, hb, hml, hown, hts⟩ (i_append G hL l hX0 ω x s g hs sv ip lt h ch hch) (cwV 1 hts gL_append_X10_append rfl rfl rfl (by decide +kernel) ⟨Nat.le_of_ble_eq_true rfl, Nat.le_of_ble_eq_true rfl⟩) (fw_preV hW hK hR h.1.1 rfl) rfl rfl hl.1 rfl (lv_room (Nat.le_of_ble_eq_true rfl)) dL_append_4 ⟨Nat.le_of_ble_eq_true rfl, Nat.le_of_ble_eq_true rfl⟩) hS (fun E ce q9 τ H locs hx_1 hR hS hce hcv hcl => ?_) (fun v τ H locs hq hR hS => ?_)
  · obtain ⟨⟨k1, rfl⟩, hI, hF⟩ := hx_1
    refine vx_catch (own := RL) (name := "java/lang/IllegalStateException") hown [] ⟨0, 9, 12, 110⟩ [] htb (fun z hz => by cases hz) (by decide) (by decide) (hts _ (by decide +kernel)) (cast_at hX0 hW (by decide)) hce hcv hcl ?_
    refine lv_astore_n (lv' := [(3, .ref q9), (0, .ref x), (1, .int ch), (2, .ref o)]) hx hb dL_append_12 rfl hl (by decide) rfl (fun ls hl => ?_)
    refine lv_iconst (v := 1) hx hb dL_append_13 (by decide) ?_
    refine vx_ret ?_
    refine fw_iret hx hb hr hlocks hR hS dL_append_14 ?_
    exact qh_no k1 (by decide) hI hF hd ho
  · obtain ⟨rfl, k0, hI, hF⟩ := hq
    refine W.eq (g2 := F0 mI 7 ls [.int (appM s g ip ch).1, .int 0, .ref o]) rfl ?_
    refine lv_i2l hx hb dL_append_7 rfl ?_
    refine fw_last hx hb hK hR hS ((hF o hd).trans ho) (show vp_in 0 1 by unfold vp_in; decide) dL_append_8 (fun H1 locs1 hR hS => ?_)
    refine lv_goto (tgt := 15) hx hb dL_append_9 (by decide) ?_
    refine lv_iconst (v := 0) hx hb dL_append_15 (by decide) ?_
    refine vx_ret ?_
    refine fw_iret hx hb hr hlocks hR hS dL_append_16 ?_
    exact qh_yes k0 hI hF hd
