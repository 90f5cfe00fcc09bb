/-! ===== printed by program (wip/whole/gen/lay_help.py): the helpers with one catch ===== -/
theorem h_fold (G : FG) (hL : FL G) (l : Launch) (hX0 : FX0 G l) (ω : FWd) (x : Nat) (s g hs sv ip lt bf : Nat → Int32) (h : CInv G ω.2 x s g hs sv ip lt) (o : Nat) (f0 : Nat → Int64) (ho : ω.2 o = some (.inl (G.2.1 2, 1, .inr (.inl f0)))) (hd : o < x ∨ x + 614 ≤ o) (lf : Int32) : FMetX G l yL_fold wsL_fold ({ frames := 8, cells := 1, slots := 6, locals := 160 } : Room) [.ref x, .int lf, .ref o] ω (QH G x ω o (foldM s g bf hs lf).1.toInt64 (foldM s g bf hs lf).2.1 (foldM s g bf hs lf).2.2.1 (foldM s g bf hs lf).2.2.2.2 sv ip lt) (fun _ _ => False) 1 6 := by
  refine fx_ofWH (cc := cL_fold) (maxL := 4) (ret := (some .int)) (hh := [(0, 9, 12, 13)]) (by decide) rfl (Nat.le_of_ble_eq_true rfl) ?_
  intro pP eE sS mI ar9 bl9 meth cD ls hx hb hr hlocks hml hts hown hnm hW hR htb hl
  have hK := hL.K hW
  have hS : va_S (fwA G) sS.heap sS.heap [] := va_S.rf
  have hl : lv_has ls 4 [(0, .ref x), (1, .int lf), (2, .ref o)] := hl
  refine lv_aload_n hx hb dL_fold_0 rfl (lv_at hl 2 rfl) ?_
  refine lv_iconst (v := 0) hx hb dL_fold_1 (by decide) ?_
  refine lv_aload_n hx hb dL_fold_2 rfl (lv_at hl 0 rfl) ?_
  refine lv_iload_n hx hb dL_fold_3 rfl (lv_at hl 1 rfl) ?_
  refine fx_call (vx_runV (As := [.int lf]) (rest := [.int 0, .ref o]) ⟨hx, hb, hml, hown, hts⟩ (i_fold G hL l hX0 ω x s g hs sv ip lt bf h lf) (cwV 1 hts gL_fold_X10_fold rfl rfl rfl (by decide +kernel) ⟨Nat.le_of_ble_eq_true rfl, Nat.le_of_ble_eq_true rfl⟩) (fw_preV hW hK hR h.1.1 rfl) rfl rfl hl.1 rfl (lv_room (Nat.le_of_ble_eq_true rfl)) dL_fold_4 ⟨Nat.le_of_ble_eq_true rfl, Nat.le_of_ble_eq_true rfl⟩) hS (fun E ce q9 τ H locs hx_1 hR hS hce hcv hcl => ?_) (fun v τ H locs hq hR hS => ?_)
  · obtain ⟨⟨k1, rfl⟩, hI, hF⟩ := hx_1
    refine vx_catch (own := RL) (name := "java/lang/UnsupportedOperationException") hown [] ⟨0, 9, 12, 13⟩ [] htb (fun z hz => by cases hz) (by decide) (by decide) (hts _ (by decide +kernel)) (cast_at hX0 hW (by decide)) hce hcv hcl ?_
    refine lv_astore_n (lv' := [(3, .ref q9), (0, .ref x), (1, .int lf), (2, .ref o)]) hx hb dL_fold_12 rfl hl (by decide) rfl (fun ls hl => ?_)
    refine lv_iconst (v := 1) hx hb dL_fold_13 (by decide) ?_
    refine vx_ret ?_
    refine fw_iret hx hb hr hlocks hR hS dL_fold_14 ?_
    exact qh_no k1 (by decide) hI hF hd ho
  · obtain ⟨rfl, k0, hI, hF⟩ := hq
    refine W.eq (g2 := F0 mI 7 ls [.int (foldM s g bf hs lf).1, .int 0, .ref o]) rfl ?_
    refine lv_i2l hx hb dL_fold_7 rfl ?_
    refine fw_last hx hb hK hR hS ((hF o hd).trans ho) (show vp_in 0 1 by unfold vp_in; decide) dL_fold_8 (fun H1 locs1 hR hS => ?_)
    refine lv_goto (tgt := 15) hx hb dL_fold_9 (by decide) ?_
    refine lv_iconst (v := 0) hx hb dL_fold_15 (by decide) ?_
    refine vx_ret ?_
    refine fw_iret hx hb hr hlocks hR hS dL_fold_16 ?_
    exact qh_yes k0 hI hF hd
theorem h_unfold (G : FG) (hL : FL G) (l : Launch) (hX0 : FX0 G l) (ω : FWd) (x : Nat) (s g hs sv ip lt bf : Nat → Int32) (h : CInv G ω.2 x s g hs sv ip lt) (o : Nat) (f0 : Nat → Int64) (ho : ω.2 o = some (.inl (G.2.1 2, 1, .inr (.inl f0)))) (hd : o < x ∨ x + 614 ≤ o) (lf : Int32) : FMetX G l yL_unfold wsL_unfold ({ frames := 8, cells := 1, slots := 6, locals := 160 } : Room) [.ref x, .int lf, .ref o] ω (QH G x ω o (unfoldM s g bf hs lf).1.toInt64 (unfoldM s g bf hs lf).2.1 (unfoldM s g bf hs lf).2.2.1 (unfoldM s g bf hs lf).2.2.2.2 sv ip lt) (fun _ _ => False) 1 6 := by
  refine fx_ofWH (cc := cL_unfold) (maxL := 4) (ret := (some .int)) (hh := [(0, 9, 12, 13)]) (by decide) rfl (Nat.le_of_ble_eq_true rfl) ?_
  intro pP eE sS mI ar9 bl9 meth cD ls hx hb hr hlocks hml hts hown hnm hW hR htb hl
  have hK := hL.K hW
  have hS : va_S (fwA G) sS.heap sS.heap [] := va_S.rf
  have hl : lv_has ls 4 [(0, .ref x), (1, .int lf), (2, .ref o)] := hl
  refine lv_aload_n hx hb dL_unfold_0 rfl (lv_at hl 2 rfl) ?_
  refine lv_iconst (v := 0) hx hb dL_unfold_1 (by decide) ?_
  refine lv_aload_n hx hb dL_unfold_2 rfl (lv_at hl 0 rfl) ?_
  refine lv_iload_n hx hb dL_unfold_3 rfl (lv_at hl 1 rfl) ?_
  refine fx_call (vx_runV (As := [.int lf]) (rest := [.int 0, .ref o]) ⟨hx, hb, hml, hown, hts⟩ (i_unfold G hL l hX0 ω x s g hs sv ip lt bf h lf) (cwV 1 hts gL_unfold_X10_unfold rfl rfl rfl (by decide +kernel) ⟨Nat.le_of_ble_eq_true rfl, Nat.le_of_ble_eq_true rfl⟩) (fw_preV hW hK hR h.1.1 rfl) rfl rfl hl.1 rfl (lv_room (Nat.le_of_ble_eq_true rfl)) dL_unfold_4 ⟨Nat.le_of_ble_eq_true rfl, Nat.le_of_ble_eq_true rfl⟩) hS (fun E ce q9 τ H locs hx_1 hR hS hce hcv hcl => ?_) (fun v τ H locs hq hR hS => ?_)
  · obtain ⟨⟨k1, rfl⟩, hI, hF⟩ := hx_1
    refine vx_catch (own := RL) (name := "java/lang/UnsupportedOperationException") hown [] ⟨0, 9, 12, 13⟩ [] htb (fun z hz => by cases hz) (by decide) (by decide) (hts _ (by decide +kernel)) (cast_at hX0 hW (by decide)) hce hcv hcl ?_
    refine lv_astore_n (lv' := [(3, .ref q9), (0, .ref x), (1, .int lf), (2, .ref o)]) hx hb dL_unfold_12 rfl hl (by decide) rfl (fun ls hl => ?_)
    refine lv_iconst (v := 1) hx hb dL_unfold_13 (by decide) ?_
    refine vx_ret ?_
    refine fw_iret hx hb hr hlocks hR hS dL_unfold_14 ?_
    exact qh_no k1 (by decide) hI hF hd ho
  · obtain ⟨rfl, k0, hI, hF⟩ := hq
    refine W.eq (g2 := F0 mI 7 ls [.int (unfoldM s g bf hs lf).1, .int 0, .ref o]) rfl ?_
    refine lv_i2l hx hb dL_unfold_7 rfl ?_
    refine fw_last hx hb hK hR hS ((hF o hd).trans ho) (show vp_in 0 1 by unfold vp_in; decide) dL_unfold_8 (fun H1 locs1 hR hS => ?_)
    refine lv_goto (tgt := 15) hx hb dL_unfold_9 (by decide) ?_
    refine lv_iconst (v := 0) hx hb dL_unfold_15 (by decide) ?_
    refine vx_ret ?_
    refine fw_iret hx hb hr hlocks hR hS dL_unfold_16 ?_
    exact qh_yes k0 hI hF hd
theorem h_cousin (G : FG) (hL : FL G) (l : Launch) (hX0 : FX0 G l) (ω : FWd) (x : Nat) (s g hs sv ip lt bf : Nat → Int32) (h : CInv G ω.2 x s g hs sv ip lt) (o : Nat) (f0 : Nat → Int64) (ho : ω.2 o = some (.inl (G.2.1 2, 1, .inr (.inl f0)))) (hd : o < x ∨ x + 614 ≤ o) (bo : Int32) (la : Int32) : FMetX G l yL_cousin wsL_cousin ({ frames := 8, cells := 1, slots := 6, locals := 160 } : Room) [.ref x, .int bo, .int la, .ref o] ω (QH G x ω o (cousinM s g bf hs bo la).1.toInt64 (cousinM s g bf hs bo la).2.1 (cousinM s g bf hs bo la).2.2.1 (cousinM s g bf hs bo la).2.2.2.2 sv ip lt) (fun _ _ => False) 1 6 := by
  refine fx_ofWH (cc := cL_cousin) (maxL := 5) (ret := (some .int)) (hh := [(0, 10, 13, 13)]) (by decide) rfl (Nat.le_of_ble_eq_true rfl) ?_
  intro pP eE sS mI ar9 bl9 meth cD ls hx hb hr hlocks hml hts hown hnm hW hR htb hl
  have hK := hL.K hW
  have hS : va_S (fwA G) sS.heap sS.heap [] := va_S.rf
  have hl : lv_has ls 5 [(0, .ref x), (1, .int bo), (2, .int la), (3, .ref o)] := hl
  refine lv_aload_n hx hb dL_cousin_0 rfl (lv_at hl 3 rfl) ?_
  refine lv_iconst (v := 0) hx hb dL_cousin_1 (by decide) ?_
  refine lv_aload_n hx hb dL_cousin_2 rfl (lv_at hl 0 rfl) ?_
  refine lv_iload_n hx hb dL_cousin_3 rfl (lv_at hl 1 rfl) ?_
  refine lv_iload_n hx hb dL_cousin_4 rfl (lv_at hl 2 rfl) ?_
  refine fx_call (vx_runV (As := [.int bo, .int la]) (rest := [.int 0, .ref o]) ⟨hx, hb, hml, hown, hts⟩ (i_cousin G hL l hX0 ω x s g hs sv ip lt bf h bo la) (cwV 2 hts gL_cousin_X10_cousin rfl rfl rfl (by decide +kernel) ⟨Nat.le_of_ble_eq_true rfl, Nat.le_of_ble_eq_true rfl⟩) (fw_preV hW hK hR h.1.1 rfl) rfl rfl hl.1 rfl (lv_room (Nat.le_of_ble_eq_true rfl)) dL_cousin_5 ⟨Nat.le_of_ble_eq_true rfl, Nat.le_of_ble_eq_true rfl⟩) hS (fun E ce q9 τ H locs hx_1 hR hS hce hcv hcl => ?_) (fun v τ H locs hq hR hS => ?_)
  · obtain ⟨⟨k1, rfl⟩, hI, hF⟩ := hx_1
    refine vx_catch (own := RL) (name := "java/lang/UnsupportedOperationException") hown [] ⟨0, 10, 13, 13⟩ [] htb (fun z hz => by cases hz) (by decide) (by decide) (hts _ (by decide +kernel)) (cast_at hX0 hW (by decide)) hce hcv hcl ?_
    refine lv_astore (lv' := [(4, .ref q9), (0, .ref x), (1, .int bo), (2, .int la), (3, .ref o)]) hx hb dL_cousin_13 hl (by decide) rfl (fun ls hl => ?_)
    refine lv_iconst (v := 1) hx hb dL_cousin_15 (by decide) ?_
    refine vx_ret ?_
    refine fw_iret hx hb hr hlocks hR hS dL_cousin_16 ?_
    exact qh_no k1 (by decide) hI hF hd ho
  · obtain ⟨rfl, k0, hI, hF⟩ := hq
    refine W.eq (g2 := F0 mI 8 ls [.int (cousinM s g bf hs bo la).1, .int 0, .ref o]) rfl ?_
    refine lv_i2l hx hb dL_cousin_8 rfl ?_
    refine fw_last hx hb hK hR hS ((hF o hd).trans ho) (show vp_in 0 1 by unfold vp_in; decide) dL_cousin_9 (fun H1 locs1 hR hS => ?_)
    refine lv_goto (tgt := 17) hx hb dL_cousin_10 (by decide) ?_
    refine lv_iconst (v := 0) hx hb dL_cousin_17 (by decide) ?_
    refine vx_ret ?_
    refine fw_iret hx hb hr hlocks hR hS dL_cousin_18 ?_
    exact qh_yes k0 hI hF hd
theorem h_learn (G : FG) (hL : FL G) (l : Launch) (hX0 : FX0 G l) (ω : FWd) (x : Nat) (s g hs sv ip lt bf : Nat → Int32) (h : CInv G ω.2 x s g hs sv ip lt) (o : Nat) (f0 : Nat → Int64) (ho : ω.2 o = some (.inl (G.2.1 2, 1, .inr (.inl f0)))) (hd : o < x ∨ x + 614 ≤ o) (co : Int32) (la : Int32) : FMetX G l yL_learn wsL_learn ({ frames := 8, cells := 1, slots := 6, locals := 160 } : Room) [.ref x, .int co, .int la, .ref o] ω (QH G x ω o (learnM s g bf hs co la).1.toInt64 (learnM s g bf hs co la).2.1 (learnM s g bf hs co la).2.2.1 (learnM s g bf hs co la).2.2.2.2 sv ip lt) (fun _ _ => False) 1 6 := by
  refine fx_ofWH (cc := cL_learn) (maxL := 5) (ret := (some .int)) (hh := [(0, 10, 13, 13)]) (by decide) rfl (Nat.le_of_ble_eq_true rfl) ?_
  intro pP eE sS mI ar9 bl9 meth cD ls hx hb hr hlocks hml hts hown hnm hW hR htb hl
  have hK := hL.K hW
  have hS : va_S (fwA G) sS.heap sS.heap [] := va_S.rf
  have hl : lv_has ls 5 [(0, .ref x), (1, .int co), (2, .int la), (3, .ref o)] := hl
  refine lv_aload_n hx hb dL_learn_0 rfl (lv_at hl 3 rfl) ?_
  refine lv_iconst (v := 0) hx hb dL_learn_1 (by decide) ?_
  refine lv_aload_n hx hb dL_learn_2 rfl (lv_at hl 0 rfl) ?_
  refine lv_iload_n hx hb dL_learn_3 rfl (lv_at hl 1 rfl) ?_
  refine lv_iload_n hx hb dL_learn_4 rfl (lv_at hl 2 rfl) ?_
  refine fx_call (vx_runV (As := [.int co, .int la]) (rest := [.int 0, .ref o]) ⟨hx, hb, hml, hown, hts⟩ (i_learn G hL l hX0 ω x s g hs sv ip lt bf h co la) (cwV 2 hts gL_learn_X10_learn rfl rfl rfl (by decide +kernel) ⟨Nat.le_of_ble_eq_true rfl, Nat.le_of_ble_eq_true rfl⟩) (fw_preV hW hK hR h.1.1 rfl) rfl rfl hl.1 rfl (lv_room (Nat.le_of_ble_eq_true rfl)) dL_learn_5 ⟨Nat.le_of_ble_eq_true rfl, Nat.le_of_ble_eq_true rfl⟩) hS (fun E ce q9 τ H locs hx_1 hR hS hce hcv hcl => ?_) (fun v τ H locs hq hR hS => ?_)
  · obtain ⟨⟨k1, rfl⟩, hI, hF⟩ := hx_1
    refine vx_catch (own := RL) (name := "java/lang/UnsupportedOperationException") hown [] ⟨0, 10, 13, 13⟩ [] htb (fun z hz => by cases hz) (by decide) (by decide) (hts _ (by decide +kernel)) (cast_at hX0 hW (by decide)) hce hcv hcl ?_
    refine lv_astore (lv' := [(4, .ref q9), (0, .ref x), (1, .int co), (2, .int la), (3, .ref o)]) hx hb dL_learn_13 hl (by decide) rfl (fun ls hl => ?_)
    refine lv_iconst (v := 1) hx hb dL_learn_15 (by decide) ?_
    refine vx_ret ?_
    refine fw_iret hx hb hr hlocks hR hS dL_learn_16 ?_
    exact qh_no k1 (by decide) hI hF hd ho
  · obtain ⟨rfl, k0, hI, hF⟩ := hq
    refine W.eq (g2 := F0 mI 8 ls [.int (learnM s g bf hs co la).1, .int 0, .ref o]) rfl ?_
    refine lv_i2l hx hb dL_learn_8 rfl ?_
    refine fw_last hx hb hK hR hS ((hF o hd).trans ho) (show vp_in 0 1 by unfold vp_in; decide) dL_learn_9 (fun H1 locs1 hR hS => ?_)
    refine lv_goto (tgt := 17) hx hb dL_learn_10 (by decide) ?_
    refine lv_iconst (v := 0) hx hb dL_learn_17 (by decide) ?_
    refine vx_ret ?_
    refine fw_iret hx hb hr hlocks hR hS dL_learn_18 ?_
    exact qh_yes k0 hI hF hd
theorem h_build (G : FG) (hL : FL G) (l : Launch) (hX0 : FX0 G l) (ω : FWd) (x : Nat) (s g hs sv ip lt nd bf : Nat → Int32) (h : CInv G ω.2 x s g hs sv ip lt) (o : Nat) (f0 : Nat → Int64) (ho : ω.2 o = some (.inl (G.2.1 2, 1, .inr (.inl f0)))) (hd : o < x ∨ x + 614 ≤ o) (co : Int32) (lf : Int32) : FMetX G l yL_build wsL_build ({ frames := 8, cells := 1, slots := 6, locals := 160 } : Room) [.ref x, .int co, .int lf, .ref o] ω (QH G x ω o (buildM s g nd bf hs co lf).1.toInt64 (buildM s g nd bf hs co lf).2.1 (buildM s g nd bf hs co lf).2.2.1 (buildM s g nd bf hs co lf).2.2.2.2.2 sv ip lt) (fun _ _ => False) 1 6 := by
  refine fx_ofWH (cc := cL_build) (maxL := 5) (ret := (some .int)) (hh := [(0, 10, 13, 13)]) (by decide) rfl (Nat.le_of_ble_eq_true rfl) ?_
  intro pP eE sS mI ar9 bl9 meth cD ls hx hb hr hlocks hml hts hown hnm hW hR htb hl
  have hK := hL.K hW
  have hS : va_S (fwA G) sS.heap sS.heap [] := va_S.rf
  have hl : lv_has ls 5 [(0, .ref x), (1, .int co), (2, .int lf), (3, .ref o)] := hl
  refine lv_aload_n hx hb dL_build_0 rfl (lv_at hl 3 rfl) ?_
  refine lv_iconst (v := 0) hx hb dL_build_1 (by decide) ?_
  refine lv_aload_n hx hb dL_build_2 rfl (lv_at hl 0 rfl) ?_
  refine lv_iload_n hx hb dL_build_3 rfl (lv_at hl 1 rfl) ?_
  refine lv_iload_n hx hb dL_build_4 rfl (lv_at hl 2 rfl) ?_
  refine fx_call (vx_runV (As := [.int co, .int lf]) (rest := [.int 0, .ref o]) ⟨hx, hb, hml, hown, hts⟩ (i_build G hL l hX0 ω x s g hs sv ip lt nd bf h co lf) (cwV 2 hts gL_build_X10_build rfl rfl rfl (by decide +kernel) ⟨Nat.le_of_ble_eq_true rfl, Nat.le_of_ble_eq_true rfl⟩) (fw_preV hW hK hR h.1.1 rfl) rfl rfl hl.1 rfl (lv_room (Nat.le_of_ble_eq_true rfl)) dL_build_5 ⟨Nat.le_of_ble_eq_true rfl, Nat.le_of_ble_eq_true rfl⟩) hS (fun E ce q9 τ H locs hx_1 hR hS hce hcv hcl => ?_) (fun v τ H locs hq hR hS => ?_)
  · obtain ⟨⟨k1, rfl⟩, hI, hF⟩ := hx_1
    refine vx_catch (own := RL) (name := "java/lang/UnsupportedOperationException") hown [] ⟨0, 10, 13, 13⟩ [] htb (fun z hz => by cases hz) (by decide) (by decide) (hts _ (by decide +kernel)) (cast_at hX0 hW (by decide)) hce hcv hcl ?_
    refine lv_astore (lv' := [(4, .ref q9), (0, .ref x), (1, .int co), (2, .int lf), (3, .ref o)]) hx hb dL_build_13 hl (by decide) rfl (fun ls hl => ?_)
    refine lv_iconst (v := 1) hx hb dL_build_15 (by decide) ?_
    refine vx_ret ?_
    refine fw_iret hx hb hr hlocks hR hS dL_build_16 ?_
    exact qh_no k1 (by decide) hI hF hd ho
  · obtain ⟨rfl, k0, hI, hF⟩ := hq
    refine W.eq (g2 := F0 mI 8 ls [.int (buildM s g nd bf hs co lf).1, .int 0, .ref o]) rfl ?_
    refine lv_i2l hx hb dL_build_8 rfl ?_
    refine fw_last hx hb hK hR hS ((hF o hd).trans ho) (show vp_in 0 1 by unfold vp_in; decide) dL_build_9 (fun H1 locs1 hR hS => ?_)
    refine lv_goto (tgt := 17) hx hb dL_build_10 (by decide) ?_
    refine lv_iconst (v := 0) hx hb dL_build_17 (by decide) ?_
    refine vx_ret ?_
    refine fw_iret hx hb hr hlocks hR hS dL_build_18 ?_
    exact qh_yes k0 hI hF hd
theorem h_finish (G : FG) (hL : FL G) (l : Launch) (hX0 : FX0 G l) (ω : FWd) (x : Nat) (s g hs sv ip lt nd bf : Nat → Int32) (h : CInv G ω.2 x s g hs sv ip lt) (o : Nat) (f0 : Nat → Int64) (ho : ω.2 o = some (.inl (G.2.1 2, 1, .inr (.inl f0)))) (hd : o < x ∨ x + 614 ≤ o) (lf : Int32) (sp : Int32) : FMetX G l yL_finish wsL_finish ({ frames := 8, cells := 1, slots := 6, locals := 160 } : Room) [.ref x, .int lf, .int sp, .ref o] ω (QH G x ω o (finishM s g nd bf hs lf sp).1.toInt64 (finishM s g nd bf hs lf sp).2.1 (finishM s g nd bf hs lf sp).2.2.1 (finishM s g nd bf hs lf sp).2.2.2.2.2 sv ip lt) (fun _ _ => False) 1 6 := by
  refine fx_ofWH (cc := cL_finish) (maxL := 5) (ret := (some .int)) (hh := [(0, 10, 13, 13)]) (by decide) rfl (Nat.le_of_ble_eq_true rfl) ?_
  intro pP eE sS mI ar9 bl9 meth cD ls hx hb hr hlocks hml hts hown hnm hW hR htb hl
  have hK := hL.K hW
  have hS : va_S (fwA G) sS.heap sS.heap [] := va_S.rf
  have hl : lv_has ls 5 [(0, .ref x), (1, .int lf), (2, .int sp), (3, .ref o)] := hl
  refine lv_aload_n hx hb dL_finish_0 rfl (lv_at hl 3 rfl) ?_
  refine lv_iconst (v := 0) hx hb dL_finish_1 (by decide) ?_
  refine lv_aload_n hx hb dL_finish_2 rfl (lv_at hl 0 rfl) ?_
  refine lv_iload_n hx hb dL_finish_3 rfl (lv_at hl 1 rfl) ?_
  refine lv_iload_n hx hb dL_finish_4 rfl (lv_at hl 2 rfl) ?_
  refine fx_call (vx_runV (As := [.int lf, .int sp]) (rest := [.int 0, .ref o]) ⟨hx, hb, hml, hown, hts⟩ (i_finish G hL l hX0 ω x s g hs sv ip lt nd bf h lf sp) (cwV 2 hts gL_finish_X10_finish rfl rfl rfl (by decide +kernel) ⟨Nat.le_of_ble_eq_true rfl, Nat.le_of_ble_eq_true rfl⟩) (fw_preV hW hK hR h.1.1 rfl) rfl rfl hl.1 rfl (lv_room (Nat.le_of_ble_eq_true rfl)) dL_finish_5 ⟨Nat.le_of_ble_eq_true rfl, Nat.le_of_ble_eq_true rfl⟩) hS (fun E ce q9 τ H locs hx_1 hR hS hce hcv hcl => ?_) (fun v τ H locs hq hR hS => ?_)
  · obtain ⟨⟨k1, rfl⟩, hI, hF⟩ := hx_1
    refine vx_catch (own := RL) (name := "java/lang/UnsupportedOperationException") hown [] ⟨0, 10, 13, 13⟩ [] htb (fun z hz => by cases hz) (by decide) (by decide) (hts _ (by decide +kernel)) (cast_at hX0 hW (by decide)) hce hcv hcl ?_
    refine lv_astore (lv' := [(4, .ref q9), (0, .ref x), (1, .int lf), (2, .int sp), (3, .ref o)]) hx hb dL_finish_13 hl (by decide) rfl (fun ls hl => ?_)
    refine lv_iconst (v := 1) hx hb dL_finish_15 (by decide) ?_
    refine vx_ret ?_
    refine fw_iret hx hb hr hlocks hR hS dL_finish_16 ?_
    exact qh_no k1 (by decide) hI hF hd ho
  · obtain ⟨rfl, k0, hI, hF⟩ := hq
    refine W.eq (g2 := F0 mI 8 ls [.int (finishM s g nd bf hs lf sp).1, .int 0, .ref o]) rfl ?_
    refine lv_i2l hx hb dL_finish_8 rfl ?_
    refine fw_last hx hb hK hR hS ((hF o hd).trans ho) (show vp_in 0 1 by unfold vp_in; decide) dL_finish_9 (fun H1 locs1 hR hS => ?_)
    refine lv_goto (tgt := 17) hx hb dL_finish_10 (by decide) ?_
    refine lv_iconst (v := 0) hx hb dL_finish_17 (by decide) ?_
    refine vx_ret ?_
    refine fw_iret hx hb hr hlocks hR hS dL_finish_18 ?_
    exact qh_yes k0 hI hF hd
theorem h_apart (G : FG) (hL : FL G) (l : Launch) (hX0 : FX0 G l) (ω : FWd) (x : Nat) (s g hs sv ip lt nd bf : Nat → Int32) (h : CInv G ω.2 x s g hs sv ip lt) (o : Nat) (f0 : Nat → Int64) (ho : ω.2 o = some (.inl (G.2.1 2, 1, .inr (.inl f0)))) (hd : o < x ∨ x + 614 ≤ o) (lf : Int32) : FMetX G l yL_apart wsL_apart ({ frames := 8, cells := 1, slots := 6, locals := 160 } : Room) [.ref x, .int lf, .ref o] ω (QH G x ω o (apartsM s g nd bf hs lf).1.toInt64 (apartsM s g nd bf hs lf).2.1 (apartsM s g nd bf hs lf).2.2.1 (apartsM s g nd bf hs lf).2.2.2.2.2 sv ip lt) (fun _ _ => False) 1 6 := by
  refine fx_ofWH (cc := cL_apart) (maxL := 4) (ret := (some .int)) (hh := [(0, 9, 12, 13)]) (by decide) rfl (Nat.le_of_ble_eq_true rfl) ?_
  intro pP eE sS mI ar9 bl9 meth cD ls hx hb hr hlocks hml hts hown hnm hW hR htb hl
  have hK := hL.K hW
  have hS : va_S (fwA G) sS.heap sS.heap [] := va_S.rf
  have hl : lv_has ls 4 [(0, .ref x), (1, .int lf), (2, .ref o)] := hl
  refine lv_aload_n hx hb dL_apart_0 rfl (lv_at hl 2 rfl) ?_
  refine lv_iconst (v := 0) hx hb dL_apart_1 (by decide) ?_
  refine lv_aload_n hx hb dL_apart_2 rfl (lv_at hl 0 rfl) ?_
  refine lv_iload_n hx hb dL_apart_3 rfl (lv_at hl 1 rfl) ?_
  refine fx_call (vx_runV (As := [.int lf]) (rest := [.int 0, .ref o]) ⟨hx, hb, hml, hown, hts⟩ (i_apart G hL l hX0 ω x s g hs sv ip lt nd bf h lf) (cwV 1 hts gL_apart_X10_apart rfl rfl rfl (by decide +kernel) ⟨Nat.le_of_ble_eq_true rfl, Nat.le_of_ble_eq_true rfl⟩) (fw_preV hW hK hR h.1.1 rfl) rfl rfl hl.1 rfl (lv_room (Nat.le_of_ble_eq_true rfl)) dL_apart_4 ⟨Nat.le_of_ble_eq_true rfl, Nat.le_of_ble_eq_true rfl⟩) hS (fun E ce q9 τ H locs hx_1 hR hS hce hcv hcl => ?_) (fun v τ H locs hq hR hS => ?_)
  · obtain ⟨⟨k1, rfl⟩, hI, hF⟩ := hx_1
    refine vx_catch (own := RL) (name := "java/lang/UnsupportedOperationException") hown [] ⟨0, 9, 12, 13⟩ [] htb (fun z hz => by cases hz) (by decide) (by decide) (hts _ (by decide +kernel)) (cast_at hX0 hW (by decide)) hce hcv hcl ?_
    refine lv_astore_n (lv' := [(3, .ref q9), (0, .ref x), (1, .int lf), (2, .ref o)]) hx hb dL_apart_12 rfl hl (by decide) rfl (fun ls hl => ?_)
    refine lv_iconst (v := 1) hx hb dL_apart_13 (by decide) ?_
    refine vx_ret ?_
    refine fw_iret hx hb hr hlocks hR hS dL_apart_14 ?_
    exact qh_no k1 (by decide) hI hF hd ho
  · obtain ⟨rfl, k0, hI, hF⟩ := hq
    refine W.eq (g2 := F0 mI 7 ls [.int (apartsM s g nd bf hs lf).1, .int 0, .ref o]) rfl ?_
    refine lv_i2l hx hb dL_apart_7 rfl ?_
    refine fw_last hx hb hK hR hS ((hF o hd).trans ho) (show vp_in 0 1 by unfold vp_in; decide) dL_apart_8 (fun H1 locs1 hR hS => ?_)
    refine lv_goto (tgt := 15) hx hb dL_apart_9 (by decide) ?_
    refine lv_iconst (v := 0) hx hb dL_apart_15 (by decide) ?_
    refine vx_ret ?_
    refine fw_iret hx hb hr hlocks hR hS dL_apart_16 ?_
    exact qh_yes k0 hI hF hd
theorem h_move (G : FG) (hL : FL G) (l : Launch) (hX0 : FX0 G l) (ω : FWd) (x : Nat) (s g hs sv ip lt bf : Nat → Int32) (h : CInv G ω.2 x s g hs sv ip lt) (o : Nat) (f0 : Nat → Int64) (ho : ω.2 o = some (.inl (G.2.1 2, 1, .inr (.inl f0)))) (hd : o < x ∨ x + 614 ≤ o) (lf : Int32) (sh : Int32) : FMetX G l yL_move wsL_move ({ frames := 8, cells := 1, slots := 6, locals := 160 } : Room) [.ref x, .int lf, .int sh, .ref o] ω (QH G x ω o (moveM s g bf hs lf sh).1.toInt64 (moveM s g bf hs lf sh).2.1 (moveM s g bf hs lf sh).2.2.1 (moveM s g bf hs lf sh).2.2.2.2 sv ip lt) (fun _ _ => False) 1 6 := by
  refine fx_ofWH (cc := cL_move) (maxL := 5) (ret := (some .int)) (hh := [(0, 10, 13, 13)]) (by decide) rfl (Nat.le_of_ble_eq_true rfl) ?_
  intro pP eE sS mI ar9 bl9 meth cD ls hx hb hr hlocks hml hts hown hnm hW hR htb hl
  have hK := hL.K hW
  have hS : va_S (fwA G) sS.heap sS.heap [] := va_S.rf
  have hl : lv_has ls 5 [(0, .ref x), (1, .int lf), (2, .int sh), (3, .ref o)] := hl
  refine lv_aload_n hx hb dL_move_0 rfl (lv_at hl 3 rfl) ?_
  refine lv_iconst (v := 0) hx hb dL_move_1 (by decide) ?_
  refine lv_aload_n hx hb dL_move_2 rfl (lv_at hl 0 rfl) ?_
  refine lv_iload_n hx hb dL_move_3 rfl (lv_at hl 1 rfl) ?_
  refine lv_iload_n hx hb dL_move_4 rfl (lv_at hl 2 rfl) ?_
  refine fx_call (vx_runV (As := [.int lf, .int sh]) (rest := [.int 0, .ref o]) ⟨hx, hb, hml, hown, hts⟩ (i_move G hL l hX0 ω x s g hs sv ip lt bf h lf sh) (cwV 2 hts gL_move_X10_move rfl rfl rfl (by decide +kernel) ⟨Nat.le_of_ble_eq_true rfl, Nat.le_of_ble_eq_true rfl⟩) (fw_preV hW hK hR h.1.1 rfl) rfl rfl hl.1 rfl (lv_room (Nat.le_of_ble_eq_true rfl)) dL_move_5 ⟨Nat.le_of_ble_eq_true rfl, Nat.le_of_ble_eq_true rfl⟩) hS (fun E ce q9 τ H locs hx_1 hR hS hce hcv hcl => ?_) (fun v τ H locs hq hR hS => ?_)
  · obtain ⟨⟨k1, rfl⟩, hI, hF⟩ := hx_1
    refine vx_catch (own := RL) (name := "java/lang/UnsupportedOperationException") hown [] ⟨0, 10, 13, 13⟩ [] htb (fun z hz => by cases hz) (by decide) (by decide) (hts _ (by decide +kernel)) (cast_at hX0 hW (by decide)) hce hcv hcl ?_
    refine lv_astore (lv' := [(4, .ref q9), (0, .ref x), (1, .int lf), (2, .int sh), (3, .ref o)]) hx hb dL_move_13 hl (by decide) rfl (fun ls hl => ?_)
    refine lv_iconst (v := 1) hx hb dL_move_15 (by decide) ?_
    refine vx_ret ?_
    refine fw_iret hx hb hr hlocks hR hS dL_move_16 ?_
    exact qh_no k1 (by decide) hI hF hd ho
  · obtain ⟨rfl, k0, hI, hF⟩ := hq
    refine W.eq (g2 := F0 mI 8 ls [.int (moveM s g bf hs lf sh).1, .int 0, .ref o]) rfl ?_
    refine lv_i2l hx hb dL_move_8 rfl ?_
    refine fw_last hx hb hK hR hS ((hF o hd).trans ho) (show vp_in 0 1 by unfold vp_in; decide) dL_move_9 (fun H1 locs1 hR hS => ?_)
    refine lv_goto (tgt := 17) hx hb dL_move_10 (by decide) ?_
    refine lv_iconst (v := 0) hx hb dL_move_17 (by decide) ?_
    refine vx_ret ?_
    refine fw_iret hx hb hr hlocks hR hS dL_move_18 ?_
    exact qh_yes k0 hI hF hd
theorem h_lose (G : FG) (hL : FL G) (l : Launch) (hX0 : FX0 G l) (ω : FWd) (x : Nat) (s g hs sv ip lt bf : Nat → Int32) (h : CInv G ω.2 x s g hs sv ip lt) (o : Nat) (f0 : Nat → Int64) (ho : ω.2 o = some (.inl (G.2.1 2, 1, .inr (.inl f0)))) (hd : o < x ∨ x + 614 ≤ o) (kd : Int32) (ps : Int32) : FMetX G l yL_lose wsL_lose ({ frames := 8, cells := 1, slots := 6, locals := 160 } : Room) [.ref x, .int kd, .int ps, .ref o] ω (QH G x ω o (loseM s g bf hs kd ps).1.toInt64 (loseM s g bf hs kd ps).2.1 (loseM s g bf hs kd ps).2.2.1 (loseM s g bf hs kd ps).2.2.2.2 sv ip lt) (fun _ _ => False) 1 6 := by
  refine fx_ofWH (cc := cL_lose) (maxL := 5) (ret := (some .int)) (hh := [(0, 10, 13, 13)]) (by decide) rfl (Nat.le_of_ble_eq_true rfl) ?_
  intro pP eE sS mI ar9 bl9 meth cD ls hx hb hr hlocks hml hts hown hnm hW hR htb hl
  have hK := hL.K hW
  have hS : va_S (fwA G) sS.heap sS.heap [] := va_S.rf
  have hl : lv_has ls 5 [(0, .ref x), (1, .int kd), (2, .int ps), (3, .ref o)] := hl
  refine lv_aload_n hx hb dL_lose_0 rfl (lv_at hl 3 rfl) ?_
  refine lv_iconst (v := 0) hx hb dL_lose_1 (by decide) ?_
  refine lv_aload_n hx hb dL_lose_2 rfl (lv_at hl 0 rfl) ?_
  refine lv_iload_n hx hb dL_lose_3 rfl (lv_at hl 1 rfl) ?_
  refine lv_iload_n hx hb dL_lose_4 rfl (lv_at hl 2 rfl) ?_
  refine fx_call (vx_runV (As := [.int kd, .int ps]) (rest := [.int 0, .ref o]) ⟨hx, hb, hml, hown, hts⟩ (i_lose G hL l hX0 ω x s g hs sv ip lt bf h kd ps) (cwV 2 hts gL_lose_X10_lose rfl rfl rfl (by decide +kernel) ⟨Nat.le_of_ble_eq_true rfl, Nat.le_of_ble_eq_true rfl⟩) (fw_preV hW hK hR h.1.1 rfl) rfl rfl hl.1 rfl (lv_room (Nat.le_of_ble_eq_true rfl)) dL_lose_5 ⟨Nat.le_of_ble_eq_true rfl, Nat.le_of_ble_eq_true rfl⟩) hS (fun E ce q9 τ H locs hx_1 hR hS hce hcv hcl => ?_) (fun v τ H locs hq hR hS => ?_)
  · obtain ⟨⟨k1, rfl⟩, hI, hF⟩ := hx_1
    refine vx_catch (own := RL) (name := "java/lang/UnsupportedOperationException") hown [] ⟨0, 10, 13, 13⟩ [] htb (fun z hz => by cases hz) (by decide) (by decide) (hts _ (by decide +kernel)) (cast_at hX0 hW (by decide)) hce hcv hcl ?_
    refine lv_astore (lv' := [(4, .ref q9), (0, .ref x), (1, .int kd), (2, .int ps), (3, .ref o)]) hx hb dL_lose_13 hl (by decide) rfl (fun ls hl => ?_)
    refine lv_iconst (v := 1) hx hb dL_lose_15 (by decide) ?_
    refine vx_ret ?_
    refine fw_iret hx hb hr hlocks hR hS dL_lose_16 ?_
    exact qh_no k1 (by decide) hI hF hd ho
  · obtain ⟨rfl, k0, hI, hF⟩ := hq
    refine W.eq (g2 := F0 mI 8 ls [.int (loseM s g bf hs kd ps).1, .int 0, .ref o]) rfl ?_
    refine lv_i2l hx hb dL_lose_8 rfl ?_
    refine fw_last hx hb hK hR hS ((hF o hd).trans ho) (show vp_in 0 1 by unfold vp_in; decide) dL_lose_9 (fun H1 locs1 hR hS => ?_)
    refine lv_goto (tgt := 17) hx hb dL_lose_10 (by decide) ?_
    refine lv_iconst (v := 0) hx hb dL_lose_17 (by decide) ?_
    refine vx_ret ?_
    refine fw_iret hx hb hr hlocks hR hS dL_lose_18 ?_
    exact qh_yes k0 hI hF hd
theorem h_find (G : FG) (hL : FL G) (l : Launch) (hX0 : FX0 G l) (ω : FWd) (x : Nat) (s g hs sv ip lt bf : Nat → Int32) (h : CInv G ω.2 x s g hs sv ip lt) (o : Nat) (f0 : Nat → Int64) (ho : ω.2 o = some (.inl (G.2.1 2, 1, .inr (.inl f0)))) (hd : o < x ∨ x + 614 ≤ o) (kd : Int32) (ps : Int32) : FMetX G l yL_find wsL_find ({ frames := 8, cells := 1, slots := 6, locals := 160 } : Room) [.ref x, .int kd, .int ps, .ref o] ω (QH G x ω o (findM s g bf hs kd ps).1.toInt64 (findM s g bf hs kd ps).2.1 (findM s g bf hs kd ps).2.2.1 (findM s g bf hs kd ps).2.2.2.2 sv ip lt) (fun _ _ => False) 1 6 := by
  refine fx_ofWH (cc := cL_find) (maxL := 5) (ret := (some .int)) (hh := [(0, 10, 13, 13)]) (by decide) rfl (Nat.le_of_ble_eq_true rfl) ?_
  intro pP eE sS mI ar9 bl9 meth cD ls hx hb hr hlocks hml hts hown hnm hW hR htb hl
  have hK := hL.K hW
  have hS : va_S (fwA G) sS.heap sS.heap [] := va_S.rf
  have hl : lv_has ls 5 [(0, .ref x), (1, .int kd), (2, .int ps), (3, .ref o)] := hl
  refine lv_aload_n hx hb dL_find_0 rfl (lv_at hl 3 rfl) ?_
  refine lv_iconst (v := 0) hx hb dL_find_1 (by decide) ?_
  refine lv_aload_n hx hb dL_find_2 rfl (lv_at hl 0 rfl) ?_
  refine lv_iload_n hx hb dL_find_3 rfl (lv_at hl 1 rfl) ?_
  refine lv_iload_n hx hb dL_find_4 rfl (lv_at hl 2 rfl) ?_
  refine fx_call (vx_runV (As := [.int kd, .int ps]) (rest := [.int 0, .ref o]) ⟨hx, hb, hml, hown, hts⟩ (i_find G hL l hX0 ω x s g hs sv ip lt bf h kd ps) (cwV 2 hts gL_find_X10_find rfl rfl rfl (by decide +kernel) ⟨Nat.le_of_ble_eq_true rfl, Nat.le_of_ble_eq_true rfl⟩) (fw_preV hW hK hR h.1.1 rfl) rfl rfl hl.1 rfl (lv_room (Nat.le_of_ble_eq_true rfl)) dL_find_5 ⟨Nat.le_of_ble_eq_true rfl, Nat.le_of_ble_eq_true rfl⟩) hS (fun E ce q9 τ H locs hx_1 hR hS hce hcv hcl => ?_) (fun v τ H locs hq hR hS => ?_)
  · obtain ⟨⟨k1, rfl⟩, hI, hF⟩ := hx_1
    refine vx_catch (own := RL) (name := "java/lang/UnsupportedOperationException") hown [] ⟨0, 10, 13, 13⟩ [] htb (fun z hz => by cases hz) (by decide) (by decide) (hts _ (by decide +kernel)) (cast_at hX0 hW (by decide)) hce hcv hcl ?_
    refine lv_astore (lv' := [(4, .ref q9), (0, .ref x), (1, .int kd), (2, .int ps), (3, .ref o)]) hx hb dL_find_13 hl (by decide) rfl (fun ls hl => ?_)
    refine lv_iconst (v := 1) hx hb dL_find_15 (by decide) ?_
    refine vx_ret ?_
    refine fw_iret hx hb hr hlocks hR hS dL_find_16 ?_
    exact qh_no k1 (by decide) hI hF hd ho
  · obtain ⟨rfl, k0, hI, hF⟩ := hq
    refine W.eq (g2 := F0 mI 8 ls [.int (findM s g bf hs kd ps).1, .int 0, .ref o]) rfl ?_
    refine lv_i2l hx hb dL_find_8 rfl ?_
    refine fw_last hx hb hK hR hS ((hF o hd).trans ho) (show vp_in 0 1 by unfold vp_in; decide) dL_find_9 (fun H1 locs1 hR hS => ?_)
    refine lv_goto (tgt := 17) hx hb dL_find_10 (by decide) ?_
    refine lv_iconst (v := 0) hx hb dL_find_17 (by decide) ?_
    refine vx_ret ?_
    refine fw_iret hx hb hr hlocks hR hS dL_find_18 ?_
    exact qh_yes k0 hI hF hd
theorem h_wouldSkip (G : FG) (hL : FL G) (l : Launch) (hX0 : FX0 G l) (ω : FWd) (x : Nat) (s g hs sv ip lt : Nat → Int32) (h : CInv G ω.2 x s g hs sv ip lt) (o : Nat) (f0 : Nat → Int64) (ho : ω.2 o = some (.inl (G.2.1 2, 1, .inr (.inl f0)))) (hd : o < x ∨ x + 614 ≤ o) (co : Int32) (lf : Int32) : FMetX G l yL_wouldSkip wsL_wouldSkip ({ frames := 8, cells := 2, slots := 12, locals := 157 } : Room) [.ref x, .int co, .int lf, .ref o] ω (QH G x ω o (wskipM s g co lf).1.toInt64 (wskipM s g co lf).2 g hs sv ip lt) (fun _ _ => False) 2 12 := by
  refine fx_ofWH (cc := cL_wouldSkip) (maxL := 5) (ret := (some .int)) (hh := [(0, 10, 13, 53)]) (by decide) rfl (Nat.le_of_ble_eq_true rfl) ?_
  intro pP eE sS mI ar9 bl9 meth cD ls hx hb hr hlocks hml hts hown hnm hW hR htb hl
  have hK := hL.K hW
  have hS : va_S (fwA G) sS.heap sS.heap [] := va_S.rf
  have hl : lv_has ls 5 [(0, .ref x), (1, .int co), (2, .int lf), (3, .ref o)] := hl
  refine lv_aload_n hx hb dL_wouldSkip_0 rfl (lv_at hl 3 rfl) ?_
  refine lv_iconst (v := 0) hx hb dL_wouldSkip_1 (by decide) ?_
  refine lv_aload_n hx hb dL_wouldSkip_2 rfl (lv_at hl 0 rfl) ?_
  refine lv_iload_n hx hb dL_wouldSkip_3 rfl (lv_at hl 1 rfl) ?_
  refine lv_iload_n hx hb dL_wouldSkip_4 rfl (lv_at hl 2 rfl) ?_
  refine fx_call (vx_runV (As := [.int co, .int lf]) (rest := [.int 0, .ref o]) ⟨hx, hb, hml, hown, hts⟩ (i_wouldSkip G hL l hX0 ω x s g hs sv ip lt h co lf) (cwV 2 hts gL_wouldSkip_X10_wouldSkip rfl rfl rfl (by decide +kernel) ⟨Nat.le_of_ble_eq_true rfl, Nat.le_of_ble_eq_true rfl⟩) (fw_preV hW hK hR h.1.1 rfl) rfl rfl hl.1 rfl (lv_room (Nat.le_of_ble_eq_true rfl)) dL_wouldSkip_5 ⟨Nat.le_of_ble_eq_true rfl, Nat.le_of_ble_eq_true rfl⟩) hS (fun E ce q9 τ H locs hx_1 hR hS hce hcv hcl => ?_) (fun v τ H locs hq hR hS => ?_)
  · obtain ⟨⟨k1, rfl⟩, hI, hF⟩ := hx_1
    refine vx_catch (own := RL) (name := "java/lang/IndexOutOfBoundsException") hown [] ⟨0, 10, 13, 53⟩ [] htb (fun z hz => by cases hz) (by decide) (by decide) (hts _ (by decide +kernel)) (cast_at hX0 hW (by decide)) hce hcv hcl ?_
    refine lv_astore (lv' := [(4, .ref q9), (0, .ref x), (1, .int co), (2, .int lf), (3, .ref o)]) hx hb dL_wouldSkip_13 hl (by decide) rfl (fun ls hl => ?_)
    refine lv_iconst (v := 1) hx hb dL_wouldSkip_15 (by decide) ?_
    refine vx_ret ?_
    refine fw_iret hx hb hr hlocks hR hS dL_wouldSkip_16 ?_
    exact qh_no k1 (by decide) hI hF hd ho
  · obtain ⟨rfl, k0, hI, hF⟩ := hq
    refine W.eq (g2 := F0 mI 8 ls [.int (wskipM s g co lf).1, .int 0, .ref o]) rfl ?_
    refine lv_i2l hx hb dL_wouldSkip_8 rfl ?_
    refine fw_last hx hb hK hR hS ((hF o hd).trans ho) (show vp_in 0 1 by unfold vp_in; decide) dL_wouldSkip_9 (fun H1 locs1 hR hS => ?_)
    refine lv_goto (tgt := 17) hx hb dL_wouldSkip_10 (by decide) ?_
    refine lv_iconst (v := 0) hx hb dL_wouldSkip_17 (by decide) ?_
    refine vx_ret ?_
    refine fw_iret hx hb hr hlocks hR hS dL_wouldSkip_18 ?_
    exact qh_yes k0 hI hF hd
theorem h_bestFolds (G : FG) (hL : FL G) (l : Launch) (hX0 : FX0 G l) (ω : FWd) (x : Nat) (s g hs sv ip lt : Nat → Int32) (h : CInv G ω.2 x s g hs sv ip lt) (o : Nat) (f0 : Nat → Int64) (ho : ω.2 o = some (.inl (G.2.1 2, 1, .inr (.inl f0)))) (hd : o < x ∨ x + 614 ≤ o) (co : Int32) (lf : Int32) : FMetX G l yL_bestFolds wsL_bestFolds ({ frames := 8, cells := 2, slots := 12, locals := 157 } : Room) [.ref x, .int co, .int lf, .ref o] ω (QH G x ω o (bfolM s g co lf).1.toInt64 (bfolM s g co lf).2 g hs sv ip lt) (fun _ _ => False) 2 12 := by
  refine fx_ofWH (cc := cL_bestFolds) (maxL := 5) (ret := (some .int)) (hh := [(0, 10, 13, 53)]) (by decide) rfl (Nat.le_of_ble_eq_true rfl) ?_
  intro pP eE sS mI ar9 bl9 meth cD ls hx hb hr hlocks hml hts hown hnm hW hR htb hl
  have hK := hL.K hW
  have hS : va_S (fwA G) sS.heap sS.heap [] := va_S.rf
  have hl : lv_has ls 5 [(0, .ref x), (1, .int co), (2, .int lf), (3, .ref o)] := hl
  refine lv_aload_n hx hb dL_bestFolds_0 rfl (lv_at hl 3 rfl) ?_
  refine lv_iconst (v := 0) hx hb dL_bestFolds_1 (by decide) ?_
  refine lv_aload_n hx hb dL_bestFolds_2 rfl (lv_at hl 0 rfl) ?_
  refine lv_iload_n hx hb dL_bestFolds_3 rfl (lv_at hl 1 rfl) ?_
  refine lv_iload_n hx hb dL_bestFolds_4 rfl (lv_at hl 2 rfl) ?_
  refine fx_call (vx_runV (As := [.int co, .int lf]) (rest := [.int 0, .ref o]) ⟨hx, hb, hml, hown, hts⟩ (i_bestFolds G hL l hX0 ω x s g hs sv ip lt h co lf) (cwV 2 hts gL_bestFolds_X10_bestFolds rfl rfl rfl (by decide +kernel) ⟨Nat.le_of_ble_eq_true rfl, Nat.le_of_ble_eq_true rfl⟩) (fw_preV hW hK hR h.1.1 rfl) rfl rfl hl.1 rfl (lv_room (Nat.le_of_ble_eq_true rfl)) dL_bestFolds_5 ⟨Nat.le_of_ble_eq_true rfl, Nat.le_of_ble_eq_true rfl⟩) hS (fun E ce q9 τ H locs hx_1 hR hS hce hcv hcl => ?_) (fun v τ H locs hq hR hS => ?_)
  · obtain ⟨⟨k1, rfl⟩, hI, hF⟩ := hx_1
    refine vx_catch (own := RL) (name := "java/lang/IndexOutOfBoundsException") hown [] ⟨0, 10, 13, 53⟩ [] htb (fun z hz => by cases hz) (by decide) (by decide) (hts _ (by decide +kernel)) (cast_at hX0 hW (by decide)) hce hcv hcl ?_
    refine lv_astore (lv' := [(4, .ref q9), (0, .ref x), (1, .int co), (2, .int lf), (3, .ref o)]) hx hb dL_bestFolds_13 hl (by decide) rfl (fun ls hl => ?_)
    refine lv_iconst (v := 1) hx hb dL_bestFolds_15 (by decide) ?_
    refine vx_ret ?_
    refine fw_iret hx hb hr hlocks hR hS dL_bestFolds_16 ?_
    exact qh_no k1 (by decide) hI hF hd ho
  · obtain ⟨rfl, k0, hI, hF⟩ := hq
    refine W.eq (g2 := F0 mI 8 ls [.int (bfolM s g co lf).1, .int 0, .ref o]) rfl ?_
    refine lv_i2l hx hb dL_bestFolds_8 rfl ?_
    refine fw_last hx hb hK hR hS ((hF o hd).trans ho) (show vp_in 0 1 by unfold vp_in; decide) dL_bestFolds_9 (fun H1 locs1 hR hS => ?_)
    refine lv_goto (tgt := 17) hx hb dL_bestFolds_10 (by decide) ?_
    refine lv_iconst (v := 0) hx hb dL_bestFolds_17 (by decide) ?_
    refine vx_ret ?_
    refine fw_iret hx hb hr hlocks hR hS dL_bestFolds_18 ?_
    exact qh_yes k0 hI hF hd
theorem h_tin (G : FG) (hL : FL G) (l : Launch) (hX0 : FX0 G l) (ω : FWd) (x : Nat) (s g hs sv ip lt : Nat → Int32) (h : CInv G ω.2 x s g hs sv ip lt) (o : Nat) (f0 : Nat → Int64) (ho : ω.2 o = some (.inl (G.2.1 2, 1, .inr (.inl f0)))) (hd : o < x ∨ x + 614 ≤ o) (kd : Int32) : FMetX G l yL_tin wsL_tin ({ frames := 8, cells := 1, slots := 6, locals := 157 } : Room) [.ref x, .int kd, .ref o] ω (QH G x ω o (tinM s g kd).1.toInt64 (tinM s g kd).2 g hs sv ip lt) (fun _ _ => False) 1 6 := by
  refine fx_ofWH (cc := cL_tin) (maxL := 4) (ret := (some .int)) (hh := [(0, 9, 12, 55)]) (by decide) rfl (Nat.le_of_ble_eq_true rfl) ?_
  intro pP eE sS mI ar9 bl9 meth cD ls hx hb hr hlocks hml hts hown hnm hW hR htb hl
  have hK := hL.K hW
  have hS : va_S (fwA G) sS.heap sS.heap [] := va_S.rf
  have hl : lv_has ls 4 [(0, .ref x), (1, .int kd), (2, .ref o)] := hl
  refine lv_aload_n hx hb dL_tin_0 rfl (lv_at hl 2 rfl) ?_
  refine lv_iconst (v := 0) hx hb dL_tin_1 (by decide) ?_
  refine lv_aload_n hx hb dL_tin_2 rfl (lv_at hl 0 rfl) ?_
  refine lv_iload_n hx hb dL_tin_3 rfl (lv_at hl 1 rfl) ?_
  refine fx_call (vx_runV (As := [.int kd]) (rest := [.int 0, .ref o]) ⟨hx, hb, hml, hown, hts⟩ (i_tin G hL l hX0 ω x s g hs sv ip lt h kd) (cwV 1 hts gL_tin_X10_tin rfl rfl rfl (by decide +kernel) ⟨Nat.le_of_ble_eq_true rfl, Nat.le_of_ble_eq_true rfl⟩) (fw_preV hW hK hR h.1.1 rfl) rfl rfl hl.1 rfl (lv_room (Nat.le_of_ble_eq_true rfl)) dL_tin_4 ⟨Nat.le_of_ble_eq_true rfl, Nat.le_of_ble_eq_true rfl⟩) hS (fun E ce q9 τ H locs hx_1 hR hS hce hcv hcl => ?_) (fun v τ H locs hq hR hS => ?_)
  · obtain ⟨⟨k1, rfl⟩, hI, hF⟩ := hx_1
    refine vx_catch (own := RL) (name := "java/lang/IllegalArgumentException") hown [] ⟨0, 9, 12, 55⟩ [] htb (fun z hz => by cases hz) (by decide) (by decide) (hts _ (by decide +kernel)) (cast_at hX0 hW (by decide)) hce hcv hcl ?_
    refine lv_astore_n (lv' := [(3, .ref q9), (0, .ref x), (1, .int kd), (2, .ref o)]) hx hb dL_tin_12 rfl hl (by decide) rfl (fun ls hl => ?_)
    refine lv_iconst (v := 1) hx hb dL_tin_13 (by decide) ?_
    refine vx_ret ?_
    refine fw_iret hx hb hr hlocks hR hS dL_tin_14 ?_
    exact qh_no k1 (by decide) hI hF hd ho
  · obtain ⟨rfl, k0, hI, hF⟩ := hq
    refine W.eq (g2 := F0 mI 7 ls [.int (tinM s g kd).1, .int 0, .ref o]) rfl ?_
    refine lv_i2l hx hb dL_tin_7 rfl ?_
    refine fw_last hx hb hK hR hS ((hF o hd).trans ho) (show vp_in 0 1 by unfold vp_in; decide) dL_tin_8 (fun H1 locs1 hR hS => ?_)
    refine lv_goto (tgt := 15) hx hb dL_tin_9 (by decide) ?_
    refine lv_iconst (v := 0) hx hb dL_tin_15 (by decide) ?_
    refine vx_ret ?_
    refine fw_iret hx hb hr hlocks hR hS dL_tin_16 ?_
    exact qh_yes k0 hI hF hd
theorem h_lost (G : FG) (hL : FL G) (l : Launch) (hX0 : FX0 G l) (ω : FWd) (x : Nat) (s g hs sv ip lt : Nat → Int32) (h : CInv G ω.2 x s g hs sv ip lt) (o : Nat) (f0 : Nat → Int64) (ho : ω.2 o = some (.inl (G.2.1 2, 1, .inr (.inl f0)))) (hd : o < x ∨ x + 614 ≤ o) (kd : Int32) : FMetX G l yL_lost wsL_lost ({ frames := 8, cells := 1, slots := 6, locals := 157 } : Room) [.ref x, .int kd, .ref o] ω (QH G x ω o (lostM s g kd).1.toInt64 (lostM s g kd).2 g hs sv ip lt) (fun _ _ => False) 1 6 := by
  refine fx_ofWH (cc := cL_lost) (maxL := 4) (ret := (some .int)) (hh := [(0, 9, 12, 55)]) (by decide) rfl (Nat.le_of_ble_eq_true rfl) ?_
  intro pP eE sS mI ar9 bl9 meth cD ls hx hb hr hlocks hml hts hown hnm hW hR htb hl
  have hK := hL.K hW
  have hS : va_S (fwA G) sS.heap sS.heap [] := va_S.rf
  have hl : lv_has ls 4 [(0, .ref x), (1, .int kd), (2, .ref o)] := hl
  refine lv_aload_n hx hb dL_lost_0 rfl (lv_at hl 2 rfl) ?_
  refine lv_iconst (v := 0) hx hb dL_lost_1 (by decide) ?_
  refine lv_aload_n hx hb dL_lost_2 rfl (lv_at hl 0 rfl) ?_
  refine lv_iload_n hx hb dL_lost_3 rfl (lv_at hl 1 rfl) ?_
  refine fx_call (vx_runV (As := [.int kd]) (rest := [.int 0, .ref o]) ⟨hx, hb, hml, hown, hts⟩ (i_lost G hL l hX0 ω x s g hs sv ip lt h kd) (cwV 1 hts gL_lost_X10_lost rfl rfl rfl (by decide +kernel) ⟨Nat.le_of_ble_eq_true rfl, Nat.le_of_ble_eq_true rfl⟩) (fw_preV hW hK hR h.1.1 rfl) rfl rfl hl.1 rfl (lv_room (Nat.le_of_ble_eq_true rfl)) dL_lost_4 ⟨Nat.le_of_ble_eq_true rfl, Nat.le_of_ble_eq_true rfl⟩) hS (fun E ce q9 τ H locs hx_1 hR hS hce hcv hcl => ?_) (fun v τ H locs hq hR hS => ?_)
  · obtain ⟨⟨k1, rfl⟩, hI, hF⟩ := hx_1
    refine vx_catch (own := RL) (name := "java/lang/IllegalArgumentException") hown [] ⟨0, 9, 12, 55⟩ [] htb (fun z hz => by cases hz) (by decide) (by decide) (hts _ (by decide +kernel)) (cast_at hX0 hW (by decide)) hce hcv hcl ?_
    refine lv_astore_n (lv' := [(3, .ref q9), (0, .ref x), (1, .int kd), (2, .ref o)]) hx hb dL_lost_12 rfl hl (by decide) rfl (fun ls hl => ?_)
    refine lv_iconst (v := 1) hx hb dL_lost_13 (by decide) ?_
    refine vx_ret ?_
    refine fw_iret hx hb hr hlocks hR hS dL_lost_14 ?_
    exact qh_no k1 (by decide) hI hF hd ho
  · obtain ⟨rfl, k0, hI, hF⟩ := hq
    refine W.eq (g2 := F0 mI 7 ls [.int (lostM s g kd).1, .int 0, .ref o]) rfl ?_
    refine lv_i2l hx hb dL_lost_7 rfl ?_
    refine fw_last hx hb hK hR hS ((hF o hd).trans ho) (show vp_in 0 1 by unfold vp_in; decide) dL_lost_8 (fun H1 locs1 hR hS => ?_)
    refine lv_goto (tgt := 15) hx hb dL_lost_9 (by decide) ?_
    refine lv_iconst (v := 0) hx hb dL_lost_15 (by decide) ?_
    refine vx_ret ?_
    refine fw_iret hx hb hr hlocks hR hS dL_lost_16 ?_
    exact qh_yes k0 hI hF hd
theorem h_shelfOf (G : FG) (hL : FL G) (l : Launch) (hX0 : FX0 G l) (ω : FWd) (x : Nat) (s g hs sv ip lt : Nat → Int32) (h : CInv G ω.2 x s g hs sv ip lt) (o : Nat) (f0 : Nat → Int64) (ho : ω.2 o = some (.inl (G.2.1 2, 1, .inr (.inl f0)))) (hd : o < x ∨ x + 614 ≤ o) (sh : Int32) : FMetX G l yL_shelfOf wsL_shelfOf ({ frames := 7, cells := 1, slots := 6, locals := 136 } : Room) [.ref x, .int sh, .ref o] ω (QH G x ω o (shelfM s g sh).1.toInt64 (shelfM s g sh).2 g hs sv ip lt) (fun _ _ => False) 1 6 := by
  refine fx_ofWH (cc := cL_shelfOf) (maxL := 4) (ret := (some .int)) (hh := [(0, 9, 12, 55)]) (by decide) rfl (Nat.le_of_ble_eq_true rfl) ?_
  intro pP eE sS mI ar9 bl9 meth cD ls hx hb hr hlocks hml hts hown hnm hW hR htb hl
  have hK := hL.K hW
  have hS : va_S (fwA G) sS.heap sS.heap [] := va_S.rf
  have hl : lv_has ls 4 [(0, .ref x), (1, .int sh), (2, .ref o)] := hl
  refine lv_aload_n hx hb dL_shelfOf_0 rfl (lv_at hl 2 rfl) ?_
  refine lv_iconst (v := 0) hx hb dL_shelfOf_1 (by decide) ?_
  refine lv_aload_n hx hb dL_shelfOf_2 rfl (lv_at hl 0 rfl) ?_
  refine lv_iload_n hx hb dL_shelfOf_3 rfl (lv_at hl 1 rfl) ?_
  refine fx_call (vx_runV (As := [.int sh]) (rest := [.int 0, .ref o]) ⟨hx, hb, hml, hown, hts⟩ (i_shelfOf G hL l hX0 ω x s g hs sv ip lt h sh) (cwV 1 hts gL_shelfOf_X10_shelfOf rfl rfl rfl (by decide +kernel) ⟨Nat.le_of_ble_eq_true rfl, Nat.le_of_ble_eq_true rfl⟩) (fw_preV hW hK hR h.1.1 rfl) rfl rfl hl.1 rfl (lv_room (Nat.le_of_ble_eq_true rfl)) dL_shelfOf_4 ⟨Nat.le_of_ble_eq_true rfl, Nat.le_of_ble_eq_true rfl⟩) hS (fun E ce q9 τ H locs hx_1 hR hS hce hcv hcl => ?_) (fun v τ H locs hq hR hS => ?_)
  · obtain ⟨⟨k1, rfl⟩, hI, hF⟩ := hx_1
    refine vx_catch (own := RL) (name := "java/lang/IllegalArgumentException") hown [] ⟨0, 9, 12, 55⟩ [] htb (fun z hz => by cases hz) (by decide) (by decide) (hts _ (by decide +kernel)) (cast_at hX0 hW (by decide)) hce hcv hcl ?_
    refine lv_astore_n (lv' := [(3, .ref q9), (0, .ref x), (1, .int sh), (2, .ref o)]) hx hb dL_shelfOf_12 rfl hl (by decide) rfl (fun ls hl => ?_)
    refine lv_iconst (v := 1) hx hb dL_shelfOf_13 (by decide) ?_
    refine vx_ret ?_
    refine fw_iret hx hb hr hlocks hR hS dL_shelfOf_14 ?_
    exact qh_no k1 (by decide) hI hF hd ho
  · obtain ⟨rfl, k0, hI, hF⟩ := hq
    refine W.eq (g2 := F0 mI 7 ls [.int (shelfM s g sh).1, .int 0, .ref o]) rfl ?_
    refine lv_i2l hx hb dL_shelfOf_7 rfl ?_
    refine fw_last hx hb hK hR hS ((hF o hd).trans ho) (show vp_in 0 1 by unfold vp_in; decide) dL_shelfOf_8 (fun H1 locs1 hR hS => ?_)
    refine lv_goto (tgt := 15) hx hb dL_shelfOf_9 (by decide) ?_
    refine lv_iconst (v := 0) hx hb dL_shelfOf_15 (by decide) ?_
    refine vx_ret ?_
    refine fw_iret hx hb hr hlocks hR hS dL_shelfOf_16 ?_
    exact qh_yes k0 hI hF hd
theorem h_line (G : FG) (hL : FL G) (l : Launch) (hX0 : FX0 G l) (ω : FWd) (x : Nat) (s g hs sv ip lt : Nat → Int32) (h : CInv G ω.2 x s g hs sv ip lt) (o : Nat) (f0 : Nat → Int64) (ho : ω.2 o = some (.inl (G.2.1 2, 1, .inr (.inl f0)))) (hd : o < x ∨ x + 614 ≤ o) (lf : Int32) : FMetX G l yL_line wsL_line ({ frames := 8, cells := 1, slots := 6, locals := 157 } : Room) [.ref x, .int lf, .ref o] ω (QH G x ω o (lineM s g lt lf).1.toInt64 (lineM s g lt lf).2.1 g hs sv ip (lineM s g lt lf).2.2) (fun _ _ => False) 1 6 := by
  refine fx_ofWH (cc := cL_line) (maxL := 4) (ret := (some .int)) (hh := [(0, 9, 12, 53)]) (by decide) rfl (Nat.le_of_ble_eq_true rfl) ?_
  intro pP eE sS mI ar9 bl9 meth cD ls hx hb hr hlocks hml hts hown hnm hW hR htb hl
  have hK := hL.K hW
  have hS : va_S (fwA G) sS.heap sS.heap [] := va_S.rf
  have hl : lv_has ls 4 [(0, .ref x), (1, .int lf), (2, .ref o)] := hl
  refine lv_aload_n hx hb dL_line_0 rfl (lv_at hl 2 rfl) ?_
  refine lv_iconst (v := 0) hx hb dL_line_1 (by decide) ?_
  refine lv_aload_n hx hb dL_line_2 rfl (lv_at hl 0 rfl) ?_
  refine lv_iload_n hx hb dL_line_3 rfl (lv_at hl 1 rfl) ?_
  refine fx_call (vx_runV (As := [.int lf]) (rest := [.int 0, .ref o]) ⟨hx, hb, hml, hown, hts⟩ (i_line G hL l hX0 ω x s g hs sv ip lt h lf) (cwV 1 hts gL_line_X10_line rfl rfl rfl (by decide +kernel) ⟨Nat.le_of_ble_eq_true rfl, Nat.le_of_ble_eq_true rfl⟩) (fw_preV hW hK hR h.1.1 rfl) rfl rfl hl.1 rfl (lv_room (Nat.le_of_ble_eq_true rfl)) dL_line_4 ⟨Nat.le_of_ble_eq_true rfl, Nat.le_of_ble_eq_true rfl⟩) hS (fun E ce q9 τ H locs hx_1 hR hS hce hcv hcl => ?_) (fun v τ H locs hq hR hS => ?_)
  · obtain ⟨⟨k1, rfl⟩, hI, hF⟩ := hx_1
    refine vx_catch (own := RL) (name := "java/lang/IndexOutOfBoundsException") hown [] ⟨0, 9, 12, 53⟩ [] htb (fun z hz => by cases hz) (by decide) (by decide) (hts _ (by decide +kernel)) (cast_at hX0 hW (by decide)) hce hcv hcl ?_
    refine lv_astore_n (lv' := [(3, .ref q9), (0, .ref x), (1, .int lf), (2, .ref o)]) hx hb dL_line_12 rfl hl (by decide) rfl (fun ls hl => ?_)
    refine lv_iconst (v := 1) hx hb dL_line_13 (by decide) ?_
    refine vx_ret ?_
    refine fw_iret hx hb hr hlocks hR hS dL_line_14 ?_
    exact qh_no k1 (by decide) hI hF hd ho
  · obtain ⟨rfl, k0, hI, hF⟩ := hq
    refine W.eq (g2 := F0 mI 7 ls [.int (lineM s g lt lf).1, .int 0, .ref o]) rfl ?_
    refine lv_i2l hx hb dL_line_7 rfl ?_
    refine fw_last hx hb hK hR hS ((hF o hd).trans ho) (show vp_in 0 1 by unfold vp_in; decide) dL_line_8 (fun H1 locs1 hR hS => ?_)
    refine lv_goto (tgt := 15) hx hb dL_line_9 (by decide) ?_
    refine lv_iconst (v := 0) hx hb dL_line_15 (by decide) ?_
    refine vx_ret ?_
    refine fw_iret hx hb hr hlocks hR hS dL_line_16 ?_
    exact qh_yes k0 hI hF hd
theorem h_account (G : FG) (hL : FL G) (l : Launch) (hX0 : FX0 G l) (ω : FWd) (x : Nat) (s g hs sv ip lt : Nat → Int32) (h : CInv G ω.2 x s g hs sv ip lt) (o : Nat) (f0 : Nat → Int64) (ho : ω.2 o = some (.inl (G.2.1 2, 1, .inr (.inl f0)))) (hd : o < x ∨ x + 614 ≤ o) (wh : Int32) : FMetX G l yL_account wsL_account ({ frames := 7, cells := 1, slots := 6, locals := 136 } : Room) [.ref x, .int wh, .ref o] ω (QH G x ω o (accM s g wh).1.toInt64 (accM s g wh).2 g hs sv ip lt) (fun _ _ => False) 1 6 := by
  refine fx_ofWH (cc := cL_account) (maxL := 4) (ret := (some .int)) (hh := [(0, 9, 12, 55)]) (by decide) rfl (Nat.le_of_ble_eq_true rfl) ?_
  intro pP eE sS mI ar9 bl9 meth cD ls hx hb hr hlocks hml hts hown hnm hW hR htb hl
  have hK := hL.K hW
  have hS : va_S (fwA G) sS.heap sS.heap [] := va_S.rf
  have hl : lv_has ls 4 [(0, .ref x), (1, .int wh), (2, .ref o)] := hl
  refine lv_aload_n hx hb dL_account_0 rfl (lv_at hl 2 rfl) ?_
  refine lv_iconst (v := 0) hx hb dL_account_1 (by decide) ?_
  refine lv_aload_n hx hb dL_account_2 rfl (lv_at hl 0 rfl) ?_
  refine lv_iload_n hx hb dL_account_3 rfl (lv_at hl 1 rfl) ?_
  refine fx_call (vx_runV (As := [.int wh]) (rest := [.int 0, .ref o]) ⟨hx, hb, hml, hown, hts⟩ (i_account G hL l hX0 ω x s g hs sv ip lt h wh) (cwV 1 hts gL_account_X10_account rfl rfl rfl (by decide +kernel) ⟨Nat.le_of_ble_eq_true rfl, Nat.le_of_ble_eq_true rfl⟩) (fw_preV hW hK hR h.1.1 rfl) rfl rfl hl.1 rfl (lv_room (Nat.le_of_ble_eq_true rfl)) dL_account_4 ⟨Nat.le_of_ble_eq_true rfl, Nat.le_of_ble_eq_true rfl⟩) hS (fun E ce q9 τ H locs hx_1 hR hS hce hcv hcl => ?_) (fun v τ H locs hq hR hS => ?_)
  · obtain ⟨⟨k1, rfl⟩, hI, hF⟩ := hx_1
    refine vx_catch (own := RL) (name := "java/lang/IllegalArgumentException") hown [] ⟨0, 9, 12, 55⟩ [] htb (fun z hz => by cases hz) (by decide) (by decide) (hts _ (by decide +kernel)) (cast_at hX0 hW (by decide)) hce hcv hcl ?_
    refine lv_astore_n (lv' := [(3, .ref q9), (0, .ref x), (1, .int wh), (2, .ref o)]) hx hb dL_account_12 rfl hl (by decide) rfl (fun ls hl => ?_)
    refine lv_iconst (v := 1) hx hb dL_account_13 (by decide) ?_
    refine vx_ret ?_
    refine fw_iret hx hb hr hlocks hR hS dL_account_14 ?_
    exact qh_no k1 (by decide) hI hF hd ho
  · obtain ⟨rfl, k0, hI, hF⟩ := hq
    refine W.eq (g2 := F0 mI 7 ls [.int (accM s g wh).1, .int 0, .ref o]) rfl ?_
    refine lv_i2l hx hb dL_account_7 rfl ?_
    refine fw_last hx hb hK hR hS ((hF o hd).trans ho) (show vp_in 0 1 by unfold vp_in; decide) dL_account_8 (fun H1 locs1 hR hS => ?_)
    refine lv_goto (tgt := 15) hx hb dL_account_9 (by decide) ?_
    refine lv_iconst (v := 0) hx hb dL_account_15 (by decide) ?_
    refine vx_ret ?_
    refine fw_iret hx hb hr hlocks hR hS dL_account_16 ?_
    exact qh_yes k0 hI hF hd
theorem h_undo (G : FG) (hL : FL G) (l : Launch) (hX0 : FX0 G l) (ω : FWd) (x : Nat) (s g hs sv ip lt : Nat → Int32) (h : CInv G ω.2 x s g hs sv ip lt) (o : Nat) (f0 : Nat → Int64) (ho : ω.2 o = some (.inl (G.2.1 2, 1, .inr (.inl f0)))) (hd : o < x ∨ x + 614 ≤ o) : FMetX G l yL_undo wsL_undo ({ frames := 7, cells := 1, slots := 6, locals := 160 } : Room) [.ref x, .ref o] ω (QH G x ω o (undoM s g hs).1.toInt64 (undoM s g hs).2.1 (undoM s g hs).2.2 hs sv ip lt) (fun _ _ => False) 1 6 := by
  refine fx_ofWH (cc := cL_undo) (maxL := 3) (ret := (some .int)) (hh := [(0, 8, 11, 110)]) (by decide) rfl (Nat.le_of_ble_eq_true rfl) ?_
  intro pP eE sS mI ar9 bl9 meth cD ls hx hb hr hlocks hml hts hown hnm hW hR htb hl
  have hK := hL.K hW
  have hS : va_S (fwA G) sS.heap sS.heap [] := va_S.rf
  have hl : lv_has ls 3 [(0, .ref x), (1, .ref o)] := hl
  refine lv_aload_n hx hb dL_undo_0 rfl (lv_at hl 1 rfl) ?_
  refine lv_iconst (v := 0) hx hb dL_undo_1 (by decide) ?_
  refine lv_aload_n hx hb dL_undo_2 rfl (lv_at hl 0 rfl) ?_
  refine fx_call (vx_runV (As := []) (rest := [.int 0, .ref o]) ⟨hx, hb, hml, hown, hts⟩ (i_undo G hL l hX0 ω x s g hs sv ip lt h) (cwV 0 hts gL_undo_X10_undo rfl rfl rfl (by decide +kernel) ⟨Nat.le_of_ble_eq_true rfl, Nat.le_of_ble_eq_true rfl⟩) (fw_preV hW hK hR h.1.1 rfl) rfl rfl hl.1 rfl (lv_room (Nat.le_of_ble_eq_true rfl)) dL_undo_3 ⟨Nat.le_of_ble_eq_true rfl, Nat.le_of_ble_eq_true rfl⟩) hS (fun E ce q9 τ H locs hx_1 hR hS hce hcv hcl => ?_) (fun v τ H locs hq hR hS => ?_)
  · obtain ⟨⟨k1, rfl⟩, hI, hF⟩ := hx_1
    refine vx_catch (own := RL) (name := "java/lang/IllegalStateException") hown [] ⟨0, 8, 11, 110⟩ [] htb (fun z hz => by cases hz) (by decide) (by decide) (hts _ (by decide +kernel)) (cast_at hX0 hW (by decide)) hce hcv hcl ?_
    refine lv_astore_n (lv' := [(2, .ref q9), (0, .ref x), (1, .ref o)]) hx hb dL_undo_11 rfl hl (by decide) rfl (fun ls hl => ?_)
    refine lv_iconst (v := 1) hx hb dL_undo_12 (by decide) ?_
    refine vx_ret ?_
    refine fw_iret hx hb hr hlocks hR hS dL_undo_13 ?_
    exact qh_no k1 (by decide) hI hF hd ho
  · obtain ⟨rfl, k0, hI, hF⟩ := hq
    refine W.eq (g2 := F0 mI 6 ls [.int (undoM s g hs).1, .int 0, .ref o]) rfl ?_
    refine lv_i2l hx hb dL_undo_6 rfl ?_
    refine fw_last hx hb hK hR hS ((hF o hd).trans ho) (show vp_in 0 1 by unfold vp_in; decide) dL_undo_7 (fun H1 locs1 hR hS => ?_)
    refine lv_goto (tgt := 14) hx hb dL_undo_8 (by decide) ?_
    refine lv_iconst (v := 0) hx hb dL_undo_14 (by decide) ?_
    refine vx_ret ?_
    refine fw_iret hx hb hr hlocks hR hS dL_undo_15 ?_
    exact qh_yes k0 hI hF hd
theorem h_restore (G : FG) (hL : FL G) (l : Launch) (hX0 : FX0 G l) (ω : FWd) (x : Nat) (s g hs sv ip lt : Nat → Int32) (h : CInv G ω.2 x s g hs sv ip lt) (o : Nat) (f0 : Nat → Int64) (ho : ω.2 o = some (.inl (G.2.1 2, 1, .inr (.inl f0)))) (hd : o < x ∨ x + 614 ≤ o) : FMetX G l yL_restore wsL_restore ({ frames := 7, cells := 1, slots := 6, locals := 139 } : Room) [.ref x, .ref o] ω (QH G x ω o (restM s g sv).1.toInt64 (restM s g sv).2.1 (restM s g sv).2.2 hs sv ip lt) (fun _ _ => False) 1 6 := by
  refine fx_ofWH (cc := cL_restore) (maxL := 3) (ret := (some .int)) (hh := [(0, 8, 11, 110)]) (by decide) rfl (Nat.le_of_ble_eq_true rfl) ?_
  intro pP eE sS mI ar9 bl9 meth cD ls hx hb hr hlocks hml hts hown hnm hW hR htb hl
  have hK := hL.K hW
  have hS : va_S (fwA G) sS.heap sS.heap [] := va_S.rf
  have hl : lv_has ls 3 [(0, .ref x), (1, .ref o)] := hl
  refine lv_aload_n hx hb dL_restore_0 rfl (lv_at hl 1 rfl) ?_
  refine lv_iconst (v := 0) hx hb dL_restore_1 (by decide) ?_
  refine lv_aload_n hx hb dL_restore_2 rfl (lv_at hl 0 rfl) ?_
  refine fx_call (vx_runV (As := []) (rest := [.int 0, .ref o]) ⟨hx, hb, hml, hown, hts⟩ (i_restore G hL l hX0 ω x s g hs sv ip lt h) (cwV 0 hts gL_restore_X10_restore rfl rfl rfl (by decide +kernel) ⟨Nat.le_of_ble_eq_true rfl, Nat.le_of_ble_eq_true rfl⟩) (fw_preV hW hK hR h.1.1 rfl) rfl rfl hl.1 rfl (lv_room (Nat.le_of_ble_eq_true rfl)) dL_restore_3 ⟨Nat.le_of_ble_eq_true rfl, Nat.le_of_ble_eq_true rfl⟩) hS (fun E ce q9 τ H locs hx_1 hR hS hce hcv hcl => ?_) (fun v τ H locs hq hR hS => ?_)
  · obtain ⟨⟨k1, rfl⟩, hI, hF⟩ := hx_1
    refine vx_catch (own := RL) (name := "java/lang/IllegalStateException") hown [] ⟨0, 8, 11, 110⟩ [] htb (fun z hz => by cases hz) (by decide) (by decide) (hts _ (by decide +kernel)) (cast_at hX0 hW (by decide)) hce hcv hcl ?_
    refine lv_astore_n (lv' := [(2, .ref q9), (0, .ref x), (1, .ref o)]) hx hb dL_restore_11 rfl hl (by decide) rfl (fun ls hl => ?_)
    refine lv_iconst (v := 1) hx hb dL_restore_12 (by decide) ?_
    refine vx_ret ?_
    refine fw_iret hx hb hr hlocks hR hS dL_restore_13 ?_
    exact qh_no k1 (by decide) hI hF hd ho
  · obtain ⟨rfl, k0, hI, hF⟩ := hq
    refine W.eq (g2 := F0 mI 6 ls [.int (restM s g sv).1, .int 0, .ref o]) rfl ?_
    refine lv_i2l hx hb dL_restore_6 rfl ?_
    refine fw_last hx hb hK hR hS ((hF o hd).trans ho) (show vp_in 0 1 by unfold vp_in; decide) dL_restore_7 (fun H1 locs1 hR hS => ?_)
    refine lv_goto (tgt := 14) hx hb dL_restore_8 (by decide) ?_
    refine lv_iconst (v := 0) hx hb dL_restore_14 (by decide) ?_
    refine vx_ret ?_
    refine fw_iret hx hb hr hlocks hR hS dL_restore_15 ?_
    exact qh_yes k0 hI hF hd
theorem h_couldFinish (G : FG) (hL : FL G) (l : Launch) (hX0 : FX0 G l) (ω : FWd) (x : Nat) (s g hs sv ip lt nd bf : Nat → Int32) (h : CInv G ω.2 x s g hs sv ip lt) (o : Nat) (f0 : Nat → Int64) (ho : ω.2 o = some (.inl (G.2.1 2, 1, .inr (.inl f0)))) (hd : o < x ∨ x + 614 ≤ o) (lf : Int32) : FMetX G l yL_couldFinish wsL_couldFinish ({ frames := 8, cells := 1, slots := 6, locals := 157 } : Room) [.ref x, .int lf, .ref o] ω (QH G x ω o (couldM s g nd bf lf).1.toInt64 (couldM s g nd bf lf).2.1 (couldM s g nd bf lf).2.2.1 hs sv ip lt) (fun _ _ => False) 1 6 := by
  refine fx_ofWH (cc := cL_couldFinish) (maxL := 4) (ret := (some .int)) (hh := [(0, 9, 12, 53)]) (by decide) rfl (Nat.le_of_ble_eq_true rfl) ?_
  intro pP eE sS mI ar9 bl9 meth cD ls hx hb hr hlocks hml hts hown hnm hW hR htb hl
  have hK := hL.K hW
  have hS : va_S (fwA G) sS.heap sS.heap [] := va_S.rf
  have hl : lv_has ls 4 [(0, .ref x), (1, .int lf), (2, .ref o)] := hl
  refine lv_aload_n hx hb dL_couldFinish_0 rfl (lv_at hl 2 rfl) ?_
  refine lv_iconst (v := 0) hx hb dL_couldFinish_1 (by decide) ?_
  refine lv_aload_n hx hb dL_couldFinish_2 rfl (lv_at hl 0 rfl) ?_
  refine lv_iload_n hx hb dL_couldFinish_3 rfl (lv_at hl 1 rfl) ?_
  refine fx_call (vx_runV (As := [.int lf]) (rest := [.int 0, .ref o]) ⟨hx, hb, hml, hown, hts⟩ (i_couldFinish G hL l hX0 ω x s g hs sv ip lt nd bf h lf) (cwV 1 hts gL_couldFinish_X10_couldFinish rfl rfl rfl (by decide +kernel) ⟨Nat.le_of_ble_eq_true rfl, Nat.le_of_ble_eq_true rfl⟩) (fw_preV hW hK hR h.1.1 rfl) rfl rfl hl.1 rfl (lv_room (Nat.le_of_ble_eq_true rfl)) dL_couldFinish_4 ⟨Nat.le_of_ble_eq_true rfl, Nat.le_of_ble_eq_true rfl⟩) hS (fun E ce q9 τ H locs hx_1 hR hS hce hcv hcl => ?_) (fun v τ H locs hq hR hS => ?_)
  · obtain ⟨⟨k1, rfl⟩, hI, hF⟩ := hx_1
    refine vx_catch (own := RL) (name := "java/lang/IndexOutOfBoundsException") hown [] ⟨0, 9, 12, 53⟩ [] htb (fun z hz => by cases hz) (by decide) (by decide) (hts _ (by decide +kernel)) (cast_at hX0 hW (by decide)) hce hcv hcl ?_
    refine lv_astore_n (lv' := [(3, .ref q9), (0, .ref x), (1, .int lf), (2, .ref o)]) hx hb dL_couldFinish_12 rfl hl (by decide) rfl (fun ls hl => ?_)
    refine lv_iconst (v := 1) hx hb dL_couldFinish_13 (by decide) ?_
    refine vx_ret ?_
    refine fw_iret hx hb hr hlocks hR hS dL_couldFinish_14 ?_
    exact qh_no k1 (by decide) hI hF hd ho
  · obtain ⟨rfl, k0, hI, hF⟩ := hq
    refine W.eq (g2 := F0 mI 7 ls [.int (couldM s g nd bf lf).1, .int 0, .ref o]) rfl ?_
    refine lv_i2l hx hb dL_couldFinish_7 rfl ?_
    refine fw_last hx hb hK hR hS ((hF o hd).trans ho) (show vp_in 0 1 by unfold vp_in; decide) dL_couldFinish_8 (fun H1 locs1 hR hS => ?_)
    refine lv_goto (tgt := 15) hx hb dL_couldFinish_9 (by decide) ?_
    refine lv_iconst (v := 0) hx hb dL_couldFinish_15 (by decide) ?_
    refine vx_ret ?_
    refine fw_iret hx hb hr hlocks hR hS dL_couldFinish_16 ?_
    exact qh_yes k0 hI hF hd
theorem h_character (G : FG) (hL : FL G) (l : Launch) (hX0 : FX0 G l) (ω : FWd) (x : Nat) (s g hs sv ip lt : Nat → Int32) (h : CInv G ω.2 x s g hs sv ip lt) (o : Nat) (f0 : Nat → Int64) (ho : ω.2 o = some (.inl (G.2.1 2, 1, .inr (.inl f0)))) (hd : o < x ∨ x + 614 ≤ o) (ix : Int32) : FMetX G l yL_character wsL_character ({ frames := 7, cells := 1, slots := 6, locals := 136 } : Room) [.ref x, .int ix, .ref o] ω (QH G x ω o (charM s g lt ix).1.toInt64 (charM s g lt ix).2 g hs sv ip lt) (fun _ _ => False) 1 6 := by
  refine fx_ofWH (cc := cL_character) (maxL := 4) (ret := (some .int)) (hh := [(0, 9, 12, 53)]) (by decide) rfl (Nat.le_of_ble_eq_true rfl) ?_
  intro pP eE sS mI ar9 bl9 meth cD ls hx hb hr hlocks hml hts hown hnm hW hR htb hl
  have hK := hL.K hW
  have hS : va_S (fwA G) sS.heap sS.heap [] := va_S.rf
  have hl : lv_has ls 4 [(0, .ref x), (1, .int ix), (2, .ref o)] := hl
  refine lv_aload_n hx hb dL_character_0 rfl (lv_at hl 2 rfl) ?_
  refine lv_iconst (v := 0) hx hb dL_character_1 (by decide) ?_
  refine lv_aload_n hx hb dL_character_2 rfl (lv_at hl 0 rfl) ?_
  refine lv_iload_n hx hb dL_character_3 rfl (lv_at hl 1 rfl) ?_
  refine fx_call (vx_runV (As := [.int ix]) (rest := [.int 0, .ref o]) ⟨hx, hb, hml, hown, hts⟩ (i_character G hL l hX0 ω x s g hs sv ip lt h ix) (cwV 1 hts gL_character_X10_character rfl rfl rfl (by decide +kernel) ⟨Nat.le_of_ble_eq_true rfl, Nat.le_of_ble_eq_true rfl⟩) (fw_preV hW hK hR h.1.1 rfl) rfl rfl hl.1 rfl (lv_room (Nat.le_of_ble_eq_true rfl)) dL_character_4 ⟨Nat.le_of_ble_eq_true rfl, Nat.le_of_ble_eq_true rfl⟩) hS (fun E ce q9 τ H locs hx_1 hR hS hce hcv hcl => ?_) (fun v τ H locs hq hR hS => ?_)
  · obtain ⟨⟨k1, rfl⟩, hI, hF⟩ := hx_1
    refine vx_catch (own := RL) (name := "java/lang/IndexOutOfBoundsException") hown [] ⟨0, 9, 12, 53⟩ [] htb (fun z hz => by cases hz) (by decide) (by decide) (hts _ (by decide +kernel)) (cast_at hX0 hW (by decide)) hce hcv hcl ?_
    refine lv_astore_n (lv' := [(3, .ref q9), (0, .ref x), (1, .int ix), (2, .ref o)]) hx hb dL_character_12 rfl hl (by decide) rfl (fun ls hl => ?_)
    refine lv_iconst (v := 1) hx hb dL_character_13 (by decide) ?_
    refine vx_ret ?_
    refine fw_iret hx hb hr hlocks hR hS dL_character_14 ?_
    exact qh_no k1 (by decide) hI hF hd ho
  · obtain ⟨rfl, k0, hI, hF⟩ := hq
    refine W.eq (g2 := F0 mI 7 ls [.int (charM s g lt ix).1, .int 0, .ref o]) rfl ?_
    refine lv_i2l hx hb dL_character_7 rfl ?_
    refine fw_last hx hb hK hR hS ((hF o hd).trans ho) (show vp_in 0 1 by unfold vp_in; decide) dL_character_8 (fun H1 locs1 hR hS => ?_)
    refine lv_goto (tgt := 15) hx hb dL_character_9 (by decide) ?_
    refine lv_iconst (v := 0) hx hb dL_character_15 (by decide) ?_
    refine vx_ret ?_
    refine fw_iret hx hb hr hlocks hR hS dL_character_16 ?_
    exact qh_yes k0 hI hF hd
