/-! ===== printed by program (wip/whole/gen/lay_help.py): the helpers with two and three catches ===== -/
/-- the class that isn't a kind of the other -/
def xnP : List (String × String) := [("java/lang/IllegalArgumentException", "java/lang/IndexOutOfBoundsException"), ("java/util/NoSuchElementException", "java/lang/IndexOutOfBoundsException"), ("java/lang/IllegalArgumentException", "java/util/NoSuchElementException"), ("java/util/NoSuchElementException", "java/lang/IllegalArgumentException"), ("java/lang/UnsupportedOperationException", "java/lang/IllegalArgumentException")]
theorem h_leafletOf (G : FG) (hL : FL G) (l : Launch) (hX0 : FX0 G l) (hN : ∀ q ∈ xnP, va_Nc q.1 q.2 G.2.2) (ω : FWd) (x : Nat) (s g hs sv ip lt nd : Nat → Int32) (h : CInv G ω.2 x s g hs sv ip lt) (o : Nat) (f0 : Nat → Int64) (ho : ω.2 o = some (.inl (G.2.1 2, 1, .inr (.inl f0)))) (hd : o < x ∨ x + 614 ≤ o) (lf : Int32) (wh : Int32) : FMetX G l yL_leafletOf wsL_leafletOf ({ frames := 8, cells := 2, slots := 12, locals := 157 } : Room) [.ref x, .int lf, .int wh, .ref o] ω (QH G x ω o (leafOfM s g nd lf wh).1.toInt64 (leafOfM s g nd lf wh).2.1 g hs sv ip lt) (fun _ _ => False) 2 12 := by
  refine fx_ofWH (cc := cL_leafletOf) (maxL := 5) (ret := (some .int)) (hh := [(0, 10, 13, 53), (0, 10, 17, 55)]) (by decide) rfl (Nat.le_of_ble_eq_true rfl) ?_
  intro pP eE sS mI ar9 bl9 meth cD ls hx hb hr hlocks hml hts hown hnm hW hR htb hl
  have hK := hL.K hW
  have hS : va_S (fwA G) sS.heap sS.heap [] := va_S.rf
  have hl : lv_has ls 5 [(0, .ref x), (1, .int lf), (2, .int wh), (3, .ref o)] := hl
  refine lv_aload_n hx hb dL_leafletOf_0 rfl (lv_at hl 3 rfl) ?_
  refine lv_iconst (v := 0) hx hb dL_leafletOf_1 (by decide) ?_
  refine lv_aload_n hx hb dL_leafletOf_2 rfl (lv_at hl 0 rfl) ?_
  refine lv_iload_n hx hb dL_leafletOf_3 rfl (lv_at hl 1 rfl) ?_
  refine lv_iload_n hx hb dL_leafletOf_4 rfl (lv_at hl 2 rfl) ?_
  refine fx_call (vx_runV (As := [.int lf, .int wh]) (rest := [.int 0, .ref o]) ⟨hx, hb, hml, hown, hts⟩ (i_leafletOf G hL l hX0 ω x s g hs sv ip lt nd h lf wh) (cwV 2 hts gL_leafletOf_X10_leafletOf rfl rfl rfl (by decide +kernel) ⟨Nat.le_of_ble_eq_true rfl, Nat.le_of_ble_eq_true rfl⟩) (fw_preV hW hK hR h.1.1 rfl) rfl rfl hl.1 rfl (lv_room (Nat.le_of_ble_eq_true rfl)) dL_leafletOf_5 ⟨Nat.le_of_ble_eq_true rfl, Nat.le_of_ble_eq_true rfl⟩) hS (fun E ce q9 τ H locs hx_1 hR hS hce hcv hcl => ?_) (fun v τ H locs hq hR hS => ?_)
  · obtain ⟨hk9, hI, hF⟩ := hx_1
    rcases hk9 with ⟨k1, rfl⟩ | ⟨k1, rfl⟩
    · refine vx_catch (own := RL) (name := "java/lang/IndexOutOfBoundsException") hown [] ⟨0, 10, 13, 53⟩ [⟨0, 10, 17, 55⟩] htb (fun z hz => by cases hz) (by decide) (by decide) (hts _ (by decide +kernel)) (cast_at hX0 hW (by decide)) hce hcv hcl ?_
      refine lv_astore (lv' := [(4, .ref q9), (0, .ref x), (1, .int lf), (2, .int wh), (3, .ref o)]) hx hb dL_leafletOf_13 hl (by decide) rfl (fun ls hl => ?_)
      refine lv_iconst (v := 1) hx hb dL_leafletOf_15 (by decide) ?_
      refine vx_ret ?_
      refine fw_iret hx hb hr hlocks hR hS dL_leafletOf_16 ?_
      exact qh_no k1 (by decide) hI hF hd ho
    · refine vx_catch (own := RL) (name := "java/lang/IllegalArgumentException") hown [⟨0, 10, 13, 53⟩] ⟨0, 10, 17, 55⟩ [] htb (fun z hz => by rw [List.mem_singleton.mp hz]; exact Or.inr ⟨by decide, "java/lang/IndexOutOfBoundsException", hts _ (by decide +kernel), va_Nc.moved hW.alike (hN (_, _) (by decide))⟩) (by decide) (by decide) (hts _ (by decide +kernel)) (cast_at hX0 hW (by decide)) hce hcv hcl ?_
      refine lv_astore (lv' := [(4, .ref q9), (0, .ref x), (1, .int lf), (2, .int wh), (3, .ref o)]) hx hb dL_leafletOf_17 hl (by decide) rfl (fun ls hl => ?_)
      refine lv_iconst (v := 2) hx hb dL_leafletOf_19 (by decide) ?_
      refine vx_ret ?_
      refine fw_iret hx hb hr hlocks hR hS dL_leafletOf_20 ?_
      exact qh_no k1 (by decide) hI hF hd ho
  · obtain ⟨rfl, k0, hI, hF⟩ := hq
    refine W.eq (g2 := F0 mI 8 ls [.int (leafOfM s g nd lf wh).1, .int 0, .ref o]) rfl ?_
    refine lv_i2l hx hb dL_leafletOf_8 rfl ?_
    refine fw_last hx hb hK hR hS ((hF o hd).trans ho) (show vp_in 0 1 by unfold vp_in; decide) dL_leafletOf_9 (fun H1 locs1 hR hS => ?_)
    refine lv_goto (tgt := 21) hx hb dL_leafletOf_10 (by decide) ?_
    refine lv_iconst (v := 0) hx hb dL_leafletOf_21 (by decide) ?_
    refine vx_ret ?_
    refine fw_iret hx hb hr hlocks hR hS dL_leafletOf_22 ?_
    exact qh_yes k0 hI hF hd
theorem h_cousinOf (G : FG) (hL : FL G) (l : Launch) (hX0 : FX0 G l) (hN : ∀ q ∈ xnP, va_Nc q.1 q.2 G.2.2) (ω : FWd) (x : Nat) (s g hs sv ip lt : Nat → Int32) (h : CInv G ω.2 x s g hs sv ip lt) (o : Nat) (f0 : Nat → Int64) (ho : ω.2 o = some (.inl (G.2.1 2, 1, .inr (.inl f0)))) (hd : o < x ∨ x + 614 ≤ o) (co : Int32) (wh : Int32) : FMetX G l yL_cousinOf wsL_cousinOf ({ frames := 8, cells := 2, slots := 12, locals := 157 } : Room) [.ref x, .int co, .int wh, .ref o] ω (QH G x ω o (cousOfM s g co wh).1.toInt64 (cousOfM s g co wh).2 g hs sv ip lt) (fun _ _ => False) 2 12 := by
  refine fx_ofWH (cc := cL_cousinOf) (maxL := 5) (ret := (some .int)) (hh := [(0, 10, 13, 53), (0, 10, 17, 55)]) (by decide) rfl (Nat.le_of_ble_eq_true rfl) ?_
  intro pP eE sS mI ar9 bl9 meth cD ls hx hb hr hlocks hml hts hown hnm hW hR htb hl
  have hK := hL.K hW
  have hS : va_S (fwA G) sS.heap sS.heap [] := va_S.rf
  have hl : lv_has ls 5 [(0, .ref x), (1, .int co), (2, .int wh), (3, .ref o)] := hl
  refine lv_aload_n hx hb dL_cousinOf_0 rfl (lv_at hl 3 rfl) ?_
  refine lv_iconst (v := 0) hx hb dL_cousinOf_1 (by decide) ?_
  refine lv_aload_n hx hb dL_cousinOf_2 rfl (lv_at hl 0 rfl) ?_
  refine lv_iload_n hx hb dL_cousinOf_3 rfl (lv_at hl 1 rfl) ?_
  refine lv_iload_n hx hb dL_cousinOf_4 rfl (lv_at hl 2 rfl) ?_
  refine fx_call (vx_runV (As := [.int co, .int wh]) (rest := [.int 0, .ref o]) ⟨hx, hb, hml, hown, hts⟩ (i_cousinOf G hL l hX0 ω x s g hs sv ip lt h co wh) (cwV 2 hts gL_cousinOf_X10_cousinOf rfl rfl rfl (by decide +kernel) ⟨Nat.le_of_ble_eq_true rfl, Nat.le_of_ble_eq_true rfl⟩) (fw_preV hW hK hR h.1.1 rfl) rfl rfl hl.1 rfl (lv_room (Nat.le_of_ble_eq_true rfl)) dL_cousinOf_5 ⟨Nat.le_of_ble_eq_true rfl, Nat.le_of_ble_eq_true rfl⟩) hS (fun E ce q9 τ H locs hx_1 hR hS hce hcv hcl => ?_) (fun v τ H locs hq hR hS => ?_)
  · obtain ⟨hk9, hI, hF⟩ := hx_1
    rcases hk9 with ⟨k1, rfl⟩ | ⟨k1, rfl⟩
    · refine vx_catch (own := RL) (name := "java/lang/IndexOutOfBoundsException") hown [] ⟨0, 10, 13, 53⟩ [⟨0, 10, 17, 55⟩] htb (fun z hz => by cases hz) (by decide) (by decide) (hts _ (by decide +kernel)) (cast_at hX0 hW (by decide)) hce hcv hcl ?_
      refine lv_astore (lv' := [(4, .ref q9), (0, .ref x), (1, .int co), (2, .int wh), (3, .ref o)]) hx hb dL_cousinOf_13 hl (by decide) rfl (fun ls hl => ?_)
      refine lv_iconst (v := 1) hx hb dL_cousinOf_15 (by decide) ?_
      refine vx_ret ?_
      refine fw_iret hx hb hr hlocks hR hS dL_cousinOf_16 ?_
      exact qh_no k1 (by decide) hI hF hd ho
    · refine vx_catch (own := RL) (name := "java/lang/IllegalArgumentException") hown [⟨0, 10, 13, 53⟩] ⟨0, 10, 17, 55⟩ [] htb (fun z hz => by rw [List.mem_singleton.mp hz]; exact Or.inr ⟨by decide, "java/lang/IndexOutOfBoundsException", hts _ (by decide +kernel), va_Nc.moved hW.alike (hN (_, _) (by decide))⟩) (by decide) (by decide) (hts _ (by decide +kernel)) (cast_at hX0 hW (by decide)) hce hcv hcl ?_
      refine lv_astore (lv' := [(4, .ref q9), (0, .ref x), (1, .int co), (2, .int wh), (3, .ref o)]) hx hb dL_cousinOf_17 hl (by decide) rfl (fun ls hl => ?_)
      refine lv_iconst (v := 2) hx hb dL_cousinOf_19 (by decide) ?_
      refine vx_ret ?_
      refine fw_iret hx hb hr hlocks hR hS dL_cousinOf_20 ?_
      exact qh_no k1 (by decide) hI hF hd ho
  · obtain ⟨rfl, k0, hI, hF⟩ := hq
    refine W.eq (g2 := F0 mI 8 ls [.int (cousOfM s g co wh).1, .int 0, .ref o]) rfl ?_
    refine lv_i2l hx hb dL_cousinOf_8 rfl ?_
    refine fw_last hx hb hK hR hS ((hF o hd).trans ho) (show vp_in 0 1 by unfold vp_in; decide) dL_cousinOf_9 (fun H1 locs1 hR hS => ?_)
    refine lv_goto (tgt := 21) hx hb dL_cousinOf_10 (by decide) ?_
    refine lv_iconst (v := 0) hx hb dL_cousinOf_21 (by decide) ?_
    refine vx_ret ?_
    refine fw_iret hx hb hr hlocks hR hS dL_cousinOf_22 ?_
    exact qh_yes k0 hI hF hd
theorem h_why (G : FG) (hL : FL G) (l : Launch) (hX0 : FX0 G l) (hN : ∀ q ∈ xnP, va_Nc q.1 q.2 G.2.2) (ω : FWd) (x : Nat) (s g hs sv ip lt : Nat → Int32) (h : CInv G ω.2 x s g hs sv ip lt) (o : Nat) (f0 : Nat → Int64) (ho : ω.2 o = some (.inl (G.2.1 2, 1, .inr (.inl f0)))) (hd : o < x ∨ x + 614 ≤ o) (co : Int32) (lf : Int32) (sp : Int32) : FMetX G l yL_why wsL_why ({ frames := 8, cells := 3, slots := 18, locals := 158 } : Room) [.ref x, .int co, .int lf, .int sp, .ref o] ω (QH G x ω o (whyM s g co lf sp).1.toInt64 (whyM s g co lf sp).2 g hs sv ip lt) (fun _ _ => False) 3 18 := by
  refine fx_ofWH (cc := cL_why) (maxL := 6) (ret := (some .int)) (hh := [(0, 12, 15, 53), (0, 12, 19, 61)]) (by decide) rfl (Nat.le_of_ble_eq_true rfl) ?_
  intro pP eE sS mI ar9 bl9 meth cD ls hx hb hr hlocks hml hts hown hnm hW hR htb hl
  have hK := hL.K hW
  have hS : va_S (fwA G) sS.heap sS.heap [] := va_S.rf
  have hl : lv_has ls 6 [(0, .ref x), (1, .int co), (2, .int lf), (3, .int sp), (4, .ref o)] := hl
  refine lv_aload hx hb dL_why_0 (lv_at hl 4 rfl) ?_
  refine lv_iconst (v := 0) hx hb dL_why_2 (by decide) ?_
  refine lv_aload_n hx hb dL_why_3 rfl (lv_at hl 0 rfl) ?_
  refine lv_iload_n hx hb dL_why_4 rfl (lv_at hl 1 rfl) ?_
  refine lv_iload_n hx hb dL_why_5 rfl (lv_at hl 2 rfl) ?_
  refine lv_iload_n hx hb dL_why_6 rfl (lv_at hl 3 rfl) ?_
  refine fx_call (vx_runV (As := [.int co, .int lf, .int sp]) (rest := [.int 0, .ref o]) ⟨hx, hb, hml, hown, hts⟩ (i_why G hL l hX0 ω x s g hs sv ip lt h co lf sp) (cwV 3 hts gL_why_X10_why rfl rfl rfl (by decide +kernel) ⟨Nat.le_of_ble_eq_true rfl, Nat.le_of_ble_eq_true rfl⟩) (fw_preV hW hK hR h.1.1 rfl) rfl rfl hl.1 rfl (lv_room (Nat.le_of_ble_eq_true rfl)) dL_why_7 ⟨Nat.le_of_ble_eq_true rfl, Nat.le_of_ble_eq_true rfl⟩) hS (fun E ce q9 τ H locs hx_1 hR hS hce hcv hcl => ?_) (fun v τ H locs hq hR hS => ?_)
  · obtain ⟨hk9, hI, hF⟩ := hx_1
    rcases hk9 with ⟨k1, rfl⟩ | ⟨k1, rfl⟩
    · refine vx_catch (own := RL) (name := "java/lang/IndexOutOfBoundsException") hown [] ⟨0, 12, 15, 53⟩ [⟨0, 12, 19, 61⟩] htb (fun z hz => by cases hz) (by decide) (by decide) (hts _ (by decide +kernel)) (cast_at hX0 hW (by decide)) hce hcv hcl ?_
      refine lv_astore (lv' := [(5, .ref q9), (0, .ref x), (1, .int co), (2, .int lf), (3, .int sp), (4, .ref o)]) hx hb dL_why_15 hl (by decide) rfl (fun ls hl => ?_)
      refine lv_iconst (v := 1) hx hb dL_why_17 (by decide) ?_
      refine vx_ret ?_
      refine fw_iret hx hb hr hlocks hR hS dL_why_18 ?_
      exact qh_no k1 (by decide) hI hF hd ho
    · refine vx_catch (own := RL) (name := "java/util/NoSuchElementException") hown [⟨0, 12, 15, 53⟩] ⟨0, 12, 19, 61⟩ [] htb (fun z hz => by rw [List.mem_singleton.mp hz]; exact Or.inr ⟨by decide, "java/lang/IndexOutOfBoundsException", hts _ (by decide +kernel), va_Nc.moved hW.alike (hN (_, _) (by decide))⟩) (by decide) (by decide) (hts _ (by decide +kernel)) (cast_at hX0 hW (by decide)) hce hcv hcl ?_
      refine lv_astore (lv' := [(5, .ref q9), (0, .ref x), (1, .int co), (2, .int lf), (3, .int sp), (4, .ref o)]) hx hb dL_why_19 hl (by decide) rfl (fun ls hl => ?_)
      refine lv_iconst (v := 2) hx hb dL_why_21 (by decide) ?_
      refine vx_ret ?_
      refine fw_iret hx hb hr hlocks hR hS dL_why_22 ?_
      exact qh_no k1 (by decide) hI hF hd ho
  · obtain ⟨rfl, k0, hI, hF⟩ := hq
    refine W.eq (g2 := F0 mI 10 ls [.int (whyM s g co lf sp).1, .int 0, .ref o]) rfl ?_
    refine lv_i2l hx hb dL_why_10 rfl ?_
    refine fw_last hx hb hK hR hS ((hF o hd).trans ho) (show vp_in 0 1 by unfold vp_in; decide) dL_why_11 (fun H1 locs1 hR hS => ?_)
    refine lv_goto (tgt := 23) hx hb dL_why_12 (by decide) ?_
    refine lv_iconst (v := 0) hx hb dL_why_23 (by decide) ?_
    refine vx_ret ?_
    refine fw_iret hx hb hr hlocks hR hS dL_why_24 ?_
    exact qh_yes k0 hI hF hd
theorem h_whyAgain (G : FG) (hL : FL G) (l : Launch) (hX0 : FX0 G l) (hN : ∀ q ∈ xnP, va_Nc q.1 q.2 G.2.2) (ω : FWd) (x : Nat) (s g hs sv ip lt : Nat → Int32) (h : CInv G ω.2 x s g hs sv ip lt) (o : Nat) (f0 : Nat → Int64) (ho : ω.2 o = some (.inl (G.2.1 2, 1, .inr (.inl f0)))) (hd : o < x ∨ x + 614 ≤ o) (co : Int32) (lf : Int32) (sp : Int32) : FMetX G l yL_whyAgain wsL_whyAgain ({ frames := 8, cells := 3, slots := 18, locals := 158 } : Room) [.ref x, .int co, .int lf, .int sp, .ref o] ω (QH G x ω o (whyAgM s g co lf sp).1.toInt64 (whyAgM s g co lf sp).2 g hs sv ip lt) (fun _ _ => False) 3 18 := by
  refine fx_ofWH (cc := cL_whyAgain) (maxL := 6) (ret := (some .int)) (hh := [(0, 12, 15, 53), (0, 12, 19, 61)]) (by decide) rfl (Nat.le_of_ble_eq_true rfl) ?_
  intro pP eE sS mI ar9 bl9 meth cD ls hx hb hr hlocks hml hts hown hnm hW hR htb hl
  have hK := hL.K hW
  have hS : va_S (fwA G) sS.heap sS.heap [] := va_S.rf
  have hl : lv_has ls 6 [(0, .ref x), (1, .int co), (2, .int lf), (3, .int sp), (4, .ref o)] := hl
  refine lv_aload hx hb dL_whyAgain_0 (lv_at hl 4 rfl) ?_
  refine lv_iconst (v := 0) hx hb dL_whyAgain_2 (by decide) ?_
  refine lv_aload_n hx hb dL_whyAgain_3 rfl (lv_at hl 0 rfl) ?_
  refine lv_iload_n hx hb dL_whyAgain_4 rfl (lv_at hl 1 rfl) ?_
  refine lv_iload_n hx hb dL_whyAgain_5 rfl (lv_at hl 2 rfl) ?_
  refine lv_iload_n hx hb dL_whyAgain_6 rfl (lv_at hl 3 rfl) ?_
  refine fx_call (vx_runV (As := [.int co, .int lf, .int sp]) (rest := [.int 0, .ref o]) ⟨hx, hb, hml, hown, hts⟩ (i_whyAgain G hL l hX0 ω x s g hs sv ip lt h co lf sp) (cwV 3 hts gL_whyAgain_X10_whyAgain rfl rfl rfl (by decide +kernel) ⟨Nat.le_of_ble_eq_true rfl, Nat.le_of_ble_eq_true rfl⟩) (fw_preV hW hK hR h.1.1 rfl) rfl rfl hl.1 rfl (lv_room (Nat.le_of_ble_eq_true rfl)) dL_whyAgain_7 ⟨Nat.le_of_ble_eq_true rfl, Nat.le_of_ble_eq_true rfl⟩) hS (fun E ce q9 τ H locs hx_1 hR hS hce hcv hcl => ?_) (fun v τ H locs hq hR hS => ?_)
  · obtain ⟨hk9, hI, hF⟩ := hx_1
    rcases hk9 with ⟨k1, rfl⟩ | ⟨k1, rfl⟩
    · refine vx_catch (own := RL) (name := "java/lang/IndexOutOfBoundsException") hown [] ⟨0, 12, 15, 53⟩ [⟨0, 12, 19, 61⟩] htb (fun z hz => by cases hz) (by decide) (by decide) (hts _ (by decide +kernel)) (cast_at hX0 hW (by decide)) hce hcv hcl ?_
      refine lv_astore (lv' := [(5, .ref q9), (0, .ref x), (1, .int co), (2, .int lf), (3, .int sp), (4, .ref o)]) hx hb dL_whyAgain_15 hl (by decide) rfl (fun ls hl => ?_)
      refine lv_iconst (v := 1) hx hb dL_whyAgain_17 (by decide) ?_
      refine vx_ret ?_
      refine fw_iret hx hb hr hlocks hR hS dL_whyAgain_18 ?_
      exact qh_no k1 (by decide) hI hF hd ho
    · refine vx_catch (own := RL) (name := "java/util/NoSuchElementException") hown [⟨0, 12, 15, 53⟩] ⟨0, 12, 19, 61⟩ [] htb (fun z hz => by rw [List.mem_singleton.mp hz]; exact Or.inr ⟨by decide, "java/lang/IndexOutOfBoundsException", hts _ (by decide +kernel), va_Nc.moved hW.alike (hN (_, _) (by decide))⟩) (by decide) (by decide) (hts _ (by decide +kernel)) (cast_at hX0 hW (by decide)) hce hcv hcl ?_
      refine lv_astore (lv' := [(5, .ref q9), (0, .ref x), (1, .int co), (2, .int lf), (3, .int sp), (4, .ref o)]) hx hb dL_whyAgain_19 hl (by decide) rfl (fun ls hl => ?_)
      refine lv_iconst (v := 2) hx hb dL_whyAgain_21 (by decide) ?_
      refine vx_ret ?_
      refine fw_iret hx hb hr hlocks hR hS dL_whyAgain_22 ?_
      exact qh_no k1 (by decide) hI hF hd ho
  · obtain ⟨rfl, k0, hI, hF⟩ := hq
    refine W.eq (g2 := F0 mI 10 ls [.int (whyAgM s g co lf sp).1, .int 0, .ref o]) rfl ?_
    refine lv_i2l hx hb dL_whyAgain_10 rfl ?_
    refine fw_last hx hb hK hR hS ((hF o hd).trans ho) (show vp_in 0 1 by unfold vp_in; decide) dL_whyAgain_11 (fun H1 locs1 hR hS => ?_)
    refine lv_goto (tgt := 23) hx hb dL_whyAgain_12 (by decide) ?_
    refine lv_iconst (v := 0) hx hb dL_whyAgain_23 (by decide) ?_
    refine vx_ret ?_
    refine fw_iret hx hb hr hlocks hR hS dL_whyAgain_24 ?_
    exact qh_yes k0 hI hF hd
theorem h_wouldLeave (G : FG) (hL : FL G) (l : Launch) (hX0 : FX0 G l) (hN : ∀ q ∈ xnP, va_Nc q.1 q.2 G.2.2) (ω : FWd) (x : Nat) (s g hs sv ip lt nd : Nat → Int32) (h : CInv G ω.2 x s g hs sv ip lt) (o : Nat) (f0 : Nat → Int64) (ho : ω.2 o = some (.inl (G.2.1 2, 1, .inr (.inl f0)))) (hd : o < x ∨ x + 614 ≤ o) (co : Int32) (lf : Int32) (kd : Int32) : FMetX G l yL_wouldLeave wsL_wouldLeave ({ frames := 8, cells := 3, slots := 18, locals := 157 } : Room) [.ref x, .int co, .int lf, .int kd, .ref o] ω (QH G x ω o (wleaveM s g nd co lf kd).1.toInt64 (wleaveM s g nd co lf kd).2.1 g hs sv ip lt) (fun _ _ => False) 3 18 := by
  refine fx_ofWH (cc := cL_wouldLeave) (maxL := 6) (ret := (some .int)) (hh := [(0, 12, 15, 53), (0, 12, 19, 55)]) (by decide) rfl (Nat.le_of_ble_eq_true rfl) ?_
  intro pP eE sS mI ar9 bl9 meth cD ls hx hb hr hlocks hml hts hown hnm hW hR htb hl
  have hK := hL.K hW
  have hS : va_S (fwA G) sS.heap sS.heap [] := va_S.rf
  have hl : lv_has ls 6 [(0, .ref x), (1, .int co), (2, .int lf), (3, .int kd), (4, .ref o)] := hl
  refine lv_aload hx hb dL_wouldLeave_0 (lv_at hl 4 rfl) ?_
  refine lv_iconst (v := 0) hx hb dL_wouldLeave_2 (by decide) ?_
  refine lv_aload_n hx hb dL_wouldLeave_3 rfl (lv_at hl 0 rfl) ?_
  refine lv_iload_n hx hb dL_wouldLeave_4 rfl (lv_at hl 1 rfl) ?_
  refine lv_iload_n hx hb dL_wouldLeave_5 rfl (lv_at hl 2 rfl) ?_
  refine lv_iload_n hx hb dL_wouldLeave_6 rfl (lv_at hl 3 rfl) ?_
  refine fx_call (vx_runV (As := [.int co, .int lf, .int kd]) (rest := [.int 0, .ref o]) ⟨hx, hb, hml, hown, hts⟩ (i_wouldLeave G hL l hX0 ω x s g hs sv ip lt nd h co lf kd) (cwV 3 hts gL_wouldLeave_X10_wouldLeave rfl rfl rfl (by decide +kernel) ⟨Nat.le_of_ble_eq_true rfl, Nat.le_of_ble_eq_true rfl⟩) (fw_preV hW hK hR h.1.1 rfl) rfl rfl hl.1 rfl (lv_room (Nat.le_of_ble_eq_true rfl)) dL_wouldLeave_7 ⟨Nat.le_of_ble_eq_true rfl, Nat.le_of_ble_eq_true rfl⟩) hS (fun E ce q9 τ H locs hx_1 hR hS hce hcv hcl => ?_) (fun v τ H locs hq hR hS => ?_)
  · obtain ⟨hk9, hI, hF⟩ := hx_1
    rcases hk9 with ⟨k1, rfl⟩ | ⟨k1, rfl⟩
    · refine vx_catch (own := RL) (name := "java/lang/IndexOutOfBoundsException") hown [] ⟨0, 12, 15, 53⟩ [⟨0, 12, 19, 55⟩] htb (fun z hz => by cases hz) (by decide) (by decide) (hts _ (by decide +kernel)) (cast_at hX0 hW (by decide)) hce hcv hcl ?_
      refine lv_astore (lv' := [(5, .ref q9), (0, .ref x), (1, .int co), (2, .int lf), (3, .int kd), (4, .ref o)]) hx hb dL_wouldLeave_15 hl (by decide) rfl (fun ls hl => ?_)
      refine lv_iconst (v := 1) hx hb dL_wouldLeave_17 (by decide) ?_
      refine vx_ret ?_
      refine fw_iret hx hb hr hlocks hR hS dL_wouldLeave_18 ?_
      exact qh_no k1 (by decide) hI hF hd ho
    · refine vx_catch (own := RL) (name := "java/lang/IllegalArgumentException") hown [⟨0, 12, 15, 53⟩] ⟨0, 12, 19, 55⟩ [] htb (fun z hz => by rw [List.mem_singleton.mp hz]; exact Or.inr ⟨by decide, "java/lang/IndexOutOfBoundsException", hts _ (by decide +kernel), va_Nc.moved hW.alike (hN (_, _) (by decide))⟩) (by decide) (by decide) (hts _ (by decide +kernel)) (cast_at hX0 hW (by decide)) hce hcv hcl ?_
      refine lv_astore (lv' := [(5, .ref q9), (0, .ref x), (1, .int co), (2, .int lf), (3, .int kd), (4, .ref o)]) hx hb dL_wouldLeave_19 hl (by decide) rfl (fun ls hl => ?_)
      refine lv_iconst (v := 2) hx hb dL_wouldLeave_21 (by decide) ?_
      refine vx_ret ?_
      refine fw_iret hx hb hr hlocks hR hS dL_wouldLeave_22 ?_
      exact qh_no k1 (by decide) hI hF hd ho
  · obtain ⟨rfl, k0, hI, hF⟩ := hq
    refine W.eq (g2 := F0 mI 10 ls [.int (wleaveM s g nd co lf kd).1, .int 0, .ref o]) rfl ?_
    refine lv_i2l hx hb dL_wouldLeave_10 rfl ?_
    refine fw_last hx hb hK hR hS ((hF o hd).trans ho) (show vp_in 0 1 by unfold vp_in; decide) dL_wouldLeave_11 (fun H1 locs1 hR hS => ?_)
    refine lv_goto (tgt := 23) hx hb dL_wouldLeave_12 (by decide) ?_
    refine lv_iconst (v := 0) hx hb dL_wouldLeave_23 (by decide) ?_
    refine vx_ret ?_
    refine fw_iret hx hb hr hlocks hR hS dL_wouldLeave_24 ?_
    exact qh_yes k0 hI hF hd
theorem h_bestCousin (G : FG) (hL : FL G) (l : Launch) (hX0 : FX0 G l) (hN : ∀ q ∈ xnP, va_Nc q.1 q.2 G.2.2) (ω : FWd) (x : Nat) (s g hs sv ip lt : Nat → Int32) (h : CInv G ω.2 x s g hs sv ip lt) (o : Nat) (f0 : Nat → Int64) (ho : ω.2 o = some (.inl (G.2.1 2, 1, .inr (.inl f0)))) (hd : o < x ∨ x + 614 ≤ o) (lf : Int32) : FMetX G l yL_bestCousin wsL_bestCousin ({ frames := 8, cells := 2, slots := 12, locals := 157 } : Room) [.ref x, .int lf, .ref o] ω (QH G x ω o (bcouM s g lf).1.toInt64 (bcouM s g lf).2 g hs sv ip lt) (fun _ _ => False) 2 12 := by
  refine fx_ofWH (cc := cL_bestCousin) (maxL := 4) (ret := (some .int)) (hh := [(0, 9, 12, 53), (0, 9, 15, 61)]) (by decide) rfl (Nat.le_of_ble_eq_true rfl) ?_
  intro pP eE sS mI ar9 bl9 meth cD ls hx hb hr hlocks hml hts hown hnm hW hR htb hl
  have hK := hL.K hW
  have hS : va_S (fwA G) sS.heap sS.heap [] := va_S.rf
  have hl : lv_has ls 4 [(0, .ref x), (1, .int lf), (2, .ref o)] := hl
  refine lv_aload_n hx hb dL_bestCousin_0 rfl (lv_at hl 2 rfl) ?_
  refine lv_iconst (v := 0) hx hb dL_bestCousin_1 (by decide) ?_
  refine lv_aload_n hx hb dL_bestCousin_2 rfl (lv_at hl 0 rfl) ?_
  refine lv_iload_n hx hb dL_bestCousin_3 rfl (lv_at hl 1 rfl) ?_
  refine fx_call (vx_runV (As := [.int lf]) (rest := [.int 0, .ref o]) ⟨hx, hb, hml, hown, hts⟩ (i_bestCousin G hL l hX0 ω x s g hs sv ip lt h lf) (cwV 1 hts gL_bestCousin_X10_bestCousin rfl rfl rfl (by decide +kernel) ⟨Nat.le_of_ble_eq_true rfl, Nat.le_of_ble_eq_true rfl⟩) (fw_preV hW hK hR h.1.1 rfl) rfl rfl hl.1 rfl (lv_room (Nat.le_of_ble_eq_true rfl)) dL_bestCousin_4 ⟨Nat.le_of_ble_eq_true rfl, Nat.le_of_ble_eq_true rfl⟩) hS (fun E ce q9 τ H locs hx_1 hR hS hce hcv hcl => ?_) (fun v τ H locs hq hR hS => ?_)
  · obtain ⟨hk9, hI, hF⟩ := hx_1
    rcases hk9 with ⟨k1, rfl⟩ | ⟨k1, rfl⟩
    · refine vx_catch (own := RL) (name := "java/lang/IndexOutOfBoundsException") hown [] ⟨0, 9, 12, 53⟩ [⟨0, 9, 15, 61⟩] htb (fun z hz => by cases hz) (by decide) (by decide) (hts _ (by decide +kernel)) (cast_at hX0 hW (by decide)) hce hcv hcl ?_
      refine lv_astore_n (lv' := [(3, .ref q9), (0, .ref x), (1, .int lf), (2, .ref o)]) hx hb dL_bestCousin_12 rfl hl (by decide) rfl (fun ls hl => ?_)
      refine lv_iconst (v := 1) hx hb dL_bestCousin_13 (by decide) ?_
      refine vx_ret ?_
      refine fw_iret hx hb hr hlocks hR hS dL_bestCousin_14 ?_
      exact qh_no k1 (by decide) hI hF hd ho
    · refine vx_catch (own := RL) (name := "java/util/NoSuchElementException") hown [⟨0, 9, 12, 53⟩] ⟨0, 9, 15, 61⟩ [] htb (fun z hz => by rw [List.mem_singleton.mp hz]; exact Or.inr ⟨by decide, "java/lang/IndexOutOfBoundsException", hts _ (by decide +kernel), va_Nc.moved hW.alike (hN (_, _) (by decide))⟩) (by decide) (by decide) (hts _ (by decide +kernel)) (cast_at hX0 hW (by decide)) hce hcv hcl ?_
      refine lv_astore_n (lv' := [(3, .ref q9), (0, .ref x), (1, .int lf), (2, .ref o)]) hx hb dL_bestCousin_15 rfl hl (by decide) rfl (fun ls hl => ?_)
      refine lv_iconst (v := 2) hx hb dL_bestCousin_16 (by decide) ?_
      refine vx_ret ?_
      refine fw_iret hx hb hr hlocks hR hS dL_bestCousin_17 ?_
      exact qh_no k1 (by decide) hI hF hd ho
  · obtain ⟨rfl, k0, hI, hF⟩ := hq
    refine W.eq (g2 := F0 mI 7 ls [.int (bcouM s g lf).1, .int 0, .ref o]) rfl ?_
    refine lv_i2l hx hb dL_bestCousin_7 rfl ?_
    refine fw_last hx hb hK hR hS ((hF o hd).trans ho) (show vp_in 0 1 by unfold vp_in; decide) dL_bestCousin_8 (fun H1 locs1 hR hS => ?_)
    refine lv_goto (tgt := 18) hx hb dL_bestCousin_9 (by decide) ?_
    refine lv_iconst (v := 0) hx hb dL_bestCousin_18 (by decide) ?_
    refine vx_ret ?_
    refine fw_iret hx hb hr hlocks hR hS dL_bestCousin_19 ?_
    exact qh_yes k0 hI hF hd
theorem h_bestLanguage (G : FG) (hL : FL G) (l : Launch) (hX0 : FX0 G l) (hN : ∀ q ∈ xnP, va_Nc q.1 q.2 G.2.2) (ω : FWd) (x : Nat) (s g hs sv ip lt : Nat → Int32) (h : CInv G ω.2 x s g hs sv ip lt) (o : Nat) (f0 : Nat → Int64) (ho : ω.2 o = some (.inl (G.2.1 2, 1, .inr (.inl f0)))) (hd : o < x ∨ x + 614 ≤ o) (co : Int32) (lf : Int32) : FMetX G l yL_bestLanguage wsL_bestLanguage ({ frames := 8, cells := 3, slots := 18, locals := 157 } : Room) [.ref x, .int co, .int lf, .ref o] ω (QH G x ω o (blanM s g co lf).1.toInt64 (blanM s g co lf).2 g hs sv ip lt) (fun _ _ => False) 3 18 := by
  refine fx_ofWH (cc := cL_bestLanguage) (maxL := 5) (ret := (some .int)) (hh := [(0, 10, 13, 53), (0, 10, 17, 61)]) (by decide) rfl (Nat.le_of_ble_eq_true rfl) ?_
  intro pP eE sS mI ar9 bl9 meth cD ls hx hb hr hlocks hml hts hown hnm hW hR htb hl
  have hK := hL.K hW
  have hS : va_S (fwA G) sS.heap sS.heap [] := va_S.rf
  have hl : lv_has ls 5 [(0, .ref x), (1, .int co), (2, .int lf), (3, .ref o)] := hl
  refine lv_aload_n hx hb dL_bestLanguage_0 rfl (lv_at hl 3 rfl) ?_
  refine lv_iconst (v := 0) hx hb dL_bestLanguage_1 (by decide) ?_
  refine lv_aload_n hx hb dL_bestLanguage_2 rfl (lv_at hl 0 rfl) ?_
  refine lv_iload_n hx hb dL_bestLanguage_3 rfl (lv_at hl 1 rfl) ?_
  refine lv_iload_n hx hb dL_bestLanguage_4 rfl (lv_at hl 2 rfl) ?_
  refine fx_call (vx_runV (As := [.int co, .int lf]) (rest := [.int 0, .ref o]) ⟨hx, hb, hml, hown, hts⟩ (i_bestLanguage G hL l hX0 ω x s g hs sv ip lt h co lf) (cwV 2 hts gL_bestLanguage_X10_bestLanguage rfl rfl rfl (by decide +kernel) ⟨Nat.le_of_ble_eq_true rfl, Nat.le_of_ble_eq_true rfl⟩) (fw_preV hW hK hR h.1.1 rfl) rfl rfl hl.1 rfl (lv_room (Nat.le_of_ble_eq_true rfl)) dL_bestLanguage_5 ⟨Nat.le_of_ble_eq_true rfl, Nat.le_of_ble_eq_true rfl⟩) hS (fun E ce q9 τ H locs hx_1 hR hS hce hcv hcl => ?_) (fun v τ H locs hq hR hS => ?_)
  · obtain ⟨hk9, hI, hF⟩ := hx_1
    rcases hk9 with ⟨k1, rfl⟩ | ⟨k1, rfl⟩
    · refine vx_catch (own := RL) (name := "java/lang/IndexOutOfBoundsException") hown [] ⟨0, 10, 13, 53⟩ [⟨0, 10, 17, 61⟩] htb (fun z hz => by cases hz) (by decide) (by decide) (hts _ (by decide +kernel)) (cast_at hX0 hW (by decide)) hce hcv hcl ?_
      refine lv_astore (lv' := [(4, .ref q9), (0, .ref x), (1, .int co), (2, .int lf), (3, .ref o)]) hx hb dL_bestLanguage_13 hl (by decide) rfl (fun ls hl => ?_)
      refine lv_iconst (v := 1) hx hb dL_bestLanguage_15 (by decide) ?_
      refine vx_ret ?_
      refine fw_iret hx hb hr hlocks hR hS dL_bestLanguage_16 ?_
      exact qh_no k1 (by decide) hI hF hd ho
    · refine vx_catch (own := RL) (name := "java/util/NoSuchElementException") hown [⟨0, 10, 13, 53⟩] ⟨0, 10, 17, 61⟩ [] htb (fun z hz => by rw [List.mem_singleton.mp hz]; exact Or.inr ⟨by decide, "java/lang/IndexOutOfBoundsException", hts _ (by decide +kernel), va_Nc.moved hW.alike (hN (_, _) (by decide))⟩) (by decide) (by decide) (hts _ (by decide +kernel)) (cast_at hX0 hW (by decide)) hce hcv hcl ?_
      refine lv_astore (lv' := [(4, .ref q9), (0, .ref x), (1, .int co), (2, .int lf), (3, .ref o)]) hx hb dL_bestLanguage_17 hl (by decide) rfl (fun ls hl => ?_)
      refine lv_iconst (v := 2) hx hb dL_bestLanguage_19 (by decide) ?_
      refine vx_ret ?_
      refine fw_iret hx hb hr hlocks hR hS dL_bestLanguage_20 ?_
      exact qh_no k1 (by decide) hI hF hd ho
  · obtain ⟨rfl, k0, hI, hF⟩ := hq
    refine W.eq (g2 := F0 mI 8 ls [.int (blanM s g co lf).1, .int 0, .ref o]) rfl ?_
    refine lv_i2l hx hb dL_bestLanguage_8 rfl ?_
    refine fw_last hx hb hK hR hS ((hF o hd).trans ho) (show vp_in 0 1 by unfold vp_in; decide) dL_bestLanguage_9 (fun H1 locs1 hR hS => ?_)
    refine lv_goto (tgt := 21) hx hb dL_bestLanguage_10 (by decide) ?_
    refine lv_iconst (v := 0) hx hb dL_bestLanguage_21 (by decide) ?_
    refine vx_ret ?_
    refine fw_iret hx hb hr hlocks hR hS dL_bestLanguage_22 ?_
    exact qh_yes k0 hI hF hd
theorem h_ranked (G : FG) (hL : FL G) (l : Launch) (hX0 : FX0 G l) (hN : ∀ q ∈ xnP, va_Nc q.1 q.2 G.2.2) (ω : FWd) (x : Nat) (s g hs sv ip lt : Nat → Int32) (h : CInv G ω.2 x s g hs sv ip lt) (o : Nat) (f0 : Nat → Int64) (ho : ω.2 o = some (.inl (G.2.1 2, 1, .inr (.inl f0)))) (hd : o < x ∨ x + 614 ≤ o) (ms : Int32) (pl : Int32) : FMetX G l yL_ranked wsL_ranked ({ frames := 7, cells := 1, slots := 6, locals := 136 } : Room) [.ref x, .int ms, .int pl, .ref o] ω (QH G x ω o (rankM s g ms pl).1.toInt64 (rankM s g ms pl).2 g hs sv ip lt) (fun _ _ => False) 1 6 := by
  refine fx_ofWH (cc := cL_ranked) (maxL := 5) (ret := (some .int)) (hh := [(0, 10, 13, 55), (0, 10, 17, 61)]) (by decide) rfl (Nat.le_of_ble_eq_true rfl) ?_
  intro pP eE sS mI ar9 bl9 meth cD ls hx hb hr hlocks hml hts hown hnm hW hR htb hl
  have hK := hL.K hW
  have hS : va_S (fwA G) sS.heap sS.heap [] := va_S.rf
  have hl : lv_has ls 5 [(0, .ref x), (1, .int ms), (2, .int pl), (3, .ref o)] := hl
  refine lv_aload_n hx hb dL_ranked_0 rfl (lv_at hl 3 rfl) ?_
  refine lv_iconst (v := 0) hx hb dL_ranked_1 (by decide) ?_
  refine lv_aload_n hx hb dL_ranked_2 rfl (lv_at hl 0 rfl) ?_
  refine lv_iload_n hx hb dL_ranked_3 rfl (lv_at hl 1 rfl) ?_
  refine lv_iload_n hx hb dL_ranked_4 rfl (lv_at hl 2 rfl) ?_
  refine fx_call (vx_runV (As := [.int ms, .int pl]) (rest := [.int 0, .ref o]) ⟨hx, hb, hml, hown, hts⟩ (i_ranked G hL l hX0 ω x s g hs sv ip lt h ms pl) (cwV 2 hts gL_ranked_X10_ranked rfl rfl rfl (by decide +kernel) ⟨Nat.le_of_ble_eq_true rfl, Nat.le_of_ble_eq_true rfl⟩) (fw_preV hW hK hR h.1.1 rfl) rfl rfl hl.1 rfl (lv_room (Nat.le_of_ble_eq_true rfl)) dL_ranked_5 ⟨Nat.le_of_ble_eq_true rfl, Nat.le_of_ble_eq_true rfl⟩) hS (fun E ce q9 τ H locs hx_1 hR hS hce hcv hcl => ?_) (fun v τ H locs hq hR hS => ?_)
  · obtain ⟨hk9, hI, hF⟩ := hx_1
    rcases hk9 with ⟨k1, rfl⟩ | ⟨k1, rfl⟩
    · refine vx_catch (own := RL) (name := "java/lang/IllegalArgumentException") hown [] ⟨0, 10, 13, 55⟩ [⟨0, 10, 17, 61⟩] htb (fun z hz => by cases hz) (by decide) (by decide) (hts _ (by decide +kernel)) (cast_at hX0 hW (by decide)) hce hcv hcl ?_
      refine lv_astore (lv' := [(4, .ref q9), (0, .ref x), (1, .int ms), (2, .int pl), (3, .ref o)]) hx hb dL_ranked_13 hl (by decide) rfl (fun ls hl => ?_)
      refine lv_iconst (v := 1) hx hb dL_ranked_15 (by decide) ?_
      refine vx_ret ?_
      refine fw_iret hx hb hr hlocks hR hS dL_ranked_16 ?_
      exact qh_no k1 (by decide) hI hF hd ho
    · refine vx_catch (own := RL) (name := "java/util/NoSuchElementException") hown [⟨0, 10, 13, 55⟩] ⟨0, 10, 17, 61⟩ [] htb (fun z hz => by rw [List.mem_singleton.mp hz]; exact Or.inr ⟨by decide, "java/lang/IllegalArgumentException", hts _ (by decide +kernel), va_Nc.moved hW.alike (hN (_, _) (by decide))⟩) (by decide) (by decide) (hts _ (by decide +kernel)) (cast_at hX0 hW (by decide)) hce hcv hcl ?_
      refine lv_astore (lv' := [(4, .ref q9), (0, .ref x), (1, .int ms), (2, .int pl), (3, .ref o)]) hx hb dL_ranked_17 hl (by decide) rfl (fun ls hl => ?_)
      refine lv_iconst (v := 2) hx hb dL_ranked_19 (by decide) ?_
      refine vx_ret ?_
      refine fw_iret hx hb hr hlocks hR hS dL_ranked_20 ?_
      exact qh_no k1 (by decide) hI hF hd ho
  · obtain ⟨rfl, k0, hI, hF⟩ := hq
    refine W.eq (g2 := F0 mI 8 ls [.int (rankM s g ms pl).1, .int 0, .ref o]) rfl ?_
    refine lv_i2l hx hb dL_ranked_8 rfl ?_
    refine fw_last hx hb hK hR hS ((hF o hd).trans ho) (show vp_in 0 1 by unfold vp_in; decide) dL_ranked_9 (fun H1 locs1 hR hS => ?_)
    refine lv_goto (tgt := 21) hx hb dL_ranked_10 (by decide) ?_
    refine lv_iconst (v := 0) hx hb dL_ranked_21 (by decide) ?_
    refine vx_ret ?_
    refine fw_iret hx hb hr hlocks hR hS dL_ranked_22 ?_
    exact qh_yes k0 hI hF hd
theorem h_reason (G : FG) (hL : FL G) (l : Launch) (hX0 : FX0 G l) (hN : ∀ q ∈ xnP, va_Nc q.1 q.2 G.2.2) (ω : FWd) (x : Nat) (s g hs sv ip lt : Nat → Int32) (h : CInv G ω.2 x s g hs sv ip lt) (o : Nat) (f0 : Nat → Int64) (ho : ω.2 o = some (.inl (G.2.1 2, 1, .inr (.inl f0)))) (hd : o < x ∨ x + 614 ≤ o) (wh : Int32) : FMetX G l yL_reason wsL_reason ({ frames := 7, cells := 1, slots := 6, locals := 136 } : Room) [.ref x, .int wh, .ref o] ω (QH G x ω o (reasM s g wh).1.toInt64 (reasM s g wh).2 g hs sv ip lt) (fun _ _ => False) 1 6 := by
  refine fx_ofWH (cc := cL_reason) (maxL := 4) (ret := (some .int)) (hh := [(0, 9, 12, 55), (0, 9, 15, 61)]) (by decide) rfl (Nat.le_of_ble_eq_true rfl) ?_
  intro pP eE sS mI ar9 bl9 meth cD ls hx hb hr hlocks hml hts hown hnm hW hR htb hl
  have hK := hL.K hW
  have hS : va_S (fwA G) sS.heap sS.heap [] := va_S.rf
  have hl : lv_has ls 4 [(0, .ref x), (1, .int wh), (2, .ref o)] := hl
  refine lv_aload_n hx hb dL_reason_0 rfl (lv_at hl 2 rfl) ?_
  refine lv_iconst (v := 0) hx hb dL_reason_1 (by decide) ?_
  refine lv_aload_n hx hb dL_reason_2 rfl (lv_at hl 0 rfl) ?_
  refine lv_iload_n hx hb dL_reason_3 rfl (lv_at hl 1 rfl) ?_
  refine fx_call (vx_runV (As := [.int wh]) (rest := [.int 0, .ref o]) ⟨hx, hb, hml, hown, hts⟩ (i_reason G hL l hX0 ω x s g hs sv ip lt h wh) (cwV 1 hts gL_reason_X10_reason rfl rfl rfl (by decide +kernel) ⟨Nat.le_of_ble_eq_true rfl, Nat.le_of_ble_eq_true rfl⟩) (fw_preV hW hK hR h.1.1 rfl) rfl rfl hl.1 rfl (lv_room (Nat.le_of_ble_eq_true rfl)) dL_reason_4 ⟨Nat.le_of_ble_eq_true rfl, Nat.le_of_ble_eq_true rfl⟩) hS (fun E ce q9 τ H locs hx_1 hR hS hce hcv hcl => ?_) (fun v τ H locs hq hR hS => ?_)
  · obtain ⟨hk9, hI, hF⟩ := hx_1
    rcases hk9 with ⟨k1, rfl⟩ | ⟨k1, rfl⟩
    · refine vx_catch (own := RL) (name := "java/lang/IllegalArgumentException") hown [] ⟨0, 9, 12, 55⟩ [⟨0, 9, 15, 61⟩] htb (fun z hz => by cases hz) (by decide) (by decide) (hts _ (by decide +kernel)) (cast_at hX0 hW (by decide)) hce hcv hcl ?_
      refine lv_astore_n (lv' := [(3, .ref q9), (0, .ref x), (1, .int wh), (2, .ref o)]) hx hb dL_reason_12 rfl hl (by decide) rfl (fun ls hl => ?_)
      refine lv_iconst (v := 1) hx hb dL_reason_13 (by decide) ?_
      refine vx_ret ?_
      refine fw_iret hx hb hr hlocks hR hS dL_reason_14 ?_
      exact qh_no k1 (by decide) hI hF hd ho
    · refine vx_catch (own := RL) (name := "java/util/NoSuchElementException") hown [⟨0, 9, 12, 55⟩] ⟨0, 9, 15, 61⟩ [] htb (fun z hz => by rw [List.mem_singleton.mp hz]; exact Or.inr ⟨by decide, "java/lang/IllegalArgumentException", hts _ (by decide +kernel), va_Nc.moved hW.alike (hN (_, _) (by decide))⟩) (by decide) (by decide) (hts _ (by decide +kernel)) (cast_at hX0 hW (by decide)) hce hcv hcl ?_
      refine lv_astore_n (lv' := [(3, .ref q9), (0, .ref x), (1, .int wh), (2, .ref o)]) hx hb dL_reason_15 rfl hl (by decide) rfl (fun ls hl => ?_)
      refine lv_iconst (v := 2) hx hb dL_reason_16 (by decide) ?_
      refine vx_ret ?_
      refine fw_iret hx hb hr hlocks hR hS dL_reason_17 ?_
      exact qh_no k1 (by decide) hI hF hd ho
  · obtain ⟨rfl, k0, hI, hF⟩ := hq
    refine W.eq (g2 := F0 mI 7 ls [.int (reasM s g wh).1, .int 0, .ref o]) rfl ?_
    refine lv_i2l hx hb dL_reason_7 rfl ?_
    refine fw_last hx hb hK hR hS ((hF o hd).trans ho) (show vp_in 0 1 by unfold vp_in; decide) dL_reason_8 (fun H1 locs1 hR hS => ?_)
    refine lv_goto (tgt := 18) hx hb dL_reason_9 (by decide) ?_
    refine lv_iconst (v := 0) hx hb dL_reason_18 (by decide) ?_
    refine vx_ret ?_
    refine fw_iret hx hb hr hlocks hR hS dL_reason_19 ?_
    exact qh_yes k0 hI hF hd
theorem h_stepOf (G : FG) (hL : FL G) (l : Launch) (hX0 : FX0 G l) (hN : ∀ q ∈ xnP, va_Nc q.1 q.2 G.2.2) (ω : FWd) (x : Nat) (s g hs sv ip lt : Nat → Int32) (h : CInv G ω.2 x s g hs sv ip lt) (o : Nat) (f0 : Nat → Int64) (ho : ω.2 o = some (.inl (G.2.1 2, 1, .inr (.inl f0)))) (hd : o < x ∨ x + 614 ≤ o) (lf : Int32) (sp : Int32) (wh : Int32) : FMetX G l yL_stepOf wsL_stepOf ({ frames := 8, cells := 3, slots := 18, locals := 158 } : Room) [.ref x, .int lf, .int sp, .int wh, .ref o] ω (QH G x ω o (stepOfM s g lf sp wh).1.toInt64 (stepOfM s g lf sp wh).2 g hs sv ip lt) (fun _ _ => False) 3 18 := by
  refine fx_ofWH (cc := cL_stepOf) (maxL := 6) (ret := (some .int)) (hh := [(0, 12, 15, 53), (0, 12, 19, 61), (0, 12, 23, 55)]) (by decide) rfl (Nat.le_of_ble_eq_true rfl) ?_
  intro pP eE sS mI ar9 bl9 meth cD ls hx hb hr hlocks hml hts hown hnm hW hR htb hl
  have hK := hL.K hW
  have hS : va_S (fwA G) sS.heap sS.heap [] := va_S.rf
  have hl : lv_has ls 6 [(0, .ref x), (1, .int lf), (2, .int sp), (3, .int wh), (4, .ref o)] := hl
  refine lv_aload hx hb dL_stepOf_0 (lv_at hl 4 rfl) ?_
  refine lv_iconst (v := 0) hx hb dL_stepOf_2 (by decide) ?_
  refine lv_aload_n hx hb dL_stepOf_3 rfl (lv_at hl 0 rfl) ?_
  refine lv_iload_n hx hb dL_stepOf_4 rfl (lv_at hl 1 rfl) ?_
  refine lv_iload_n hx hb dL_stepOf_5 rfl (lv_at hl 2 rfl) ?_
  refine lv_iload_n hx hb dL_stepOf_6 rfl (lv_at hl 3 rfl) ?_
  refine fx_call (vx_runV (As := [.int lf, .int sp, .int wh]) (rest := [.int 0, .ref o]) ⟨hx, hb, hml, hown, hts⟩ (i_stepOf G hL l hX0 ω x s g hs sv ip lt h lf sp wh) (cwV 3 hts gL_stepOf_X10_stepOf rfl rfl rfl (by decide +kernel) ⟨Nat.le_of_ble_eq_true rfl, Nat.le_of_ble_eq_true rfl⟩) (fw_preV hW hK hR h.1.1 rfl) rfl rfl hl.1 rfl (lv_room (Nat.le_of_ble_eq_true rfl)) dL_stepOf_7 ⟨Nat.le_of_ble_eq_true rfl, Nat.le_of_ble_eq_true rfl⟩) hS (fun E ce q9 τ H locs hx_1 hR hS hce hcv hcl => ?_) (fun v τ H locs hq hR hS => ?_)
  · obtain ⟨hk9, hI, hF⟩ := hx_1
    rcases hk9 with ⟨k1, rfl⟩ | ⟨k1, rfl⟩ | ⟨k1, rfl⟩
    · refine vx_catch (own := RL) (name := "java/lang/IndexOutOfBoundsException") hown [] ⟨0, 12, 15, 53⟩ [⟨0, 12, 19, 61⟩, ⟨0, 12, 23, 55⟩] htb (fun z hz => by cases hz) (by decide) (by decide) (hts _ (by decide +kernel)) (cast_at hX0 hW (by decide)) hce hcv hcl ?_
      refine lv_astore (lv' := [(5, .ref q9), (0, .ref x), (1, .int lf), (2, .int sp), (3, .int wh), (4, .ref o)]) hx hb dL_stepOf_15 hl (by decide) rfl (fun ls hl => ?_)
      refine lv_iconst (v := 1) hx hb dL_stepOf_17 (by decide) ?_
      refine vx_ret ?_
      refine fw_iret hx hb hr hlocks hR hS dL_stepOf_18 ?_
      exact qh_no k1 (by decide) hI hF hd ho
    · refine vx_catch (own := RL) (name := "java/util/NoSuchElementException") hown [⟨0, 12, 15, 53⟩] ⟨0, 12, 19, 61⟩ [⟨0, 12, 23, 55⟩] htb (fun z hz => by rw [List.mem_singleton.mp hz]; exact Or.inr ⟨by decide, "java/lang/IndexOutOfBoundsException", hts _ (by decide +kernel), va_Nc.moved hW.alike (hN (_, _) (by decide))⟩) (by decide) (by decide) (hts _ (by decide +kernel)) (cast_at hX0 hW (by decide)) hce hcv hcl ?_
      refine lv_astore (lv' := [(5, .ref q9), (0, .ref x), (1, .int lf), (2, .int sp), (3, .int wh), (4, .ref o)]) hx hb dL_stepOf_19 hl (by decide) rfl (fun ls hl => ?_)
      refine lv_iconst (v := 2) hx hb dL_stepOf_21 (by decide) ?_
      refine vx_ret ?_
      refine fw_iret hx hb hr hlocks hR hS dL_stepOf_22 ?_
      exact qh_no k1 (by decide) hI hF hd ho
    · refine vx_catch (own := RL) (name := "java/lang/IllegalArgumentException") hown [⟨0, 12, 15, 53⟩, ⟨0, 12, 19, 61⟩] ⟨0, 12, 23, 55⟩ [] htb (fun z hz => by rcases List.mem_cons.mp hz with h9 | h9; rw [h9]; exact Or.inr ⟨by decide, "java/lang/IndexOutOfBoundsException", hts _ (by decide +kernel), va_Nc.moved hW.alike (hN (_, _) (by decide))⟩; rw [List.mem_singleton.mp h9]; exact Or.inr ⟨by decide, "java/util/NoSuchElementException", hts _ (by decide +kernel), va_Nc.moved hW.alike (hN (_, _) (by decide))⟩) (by decide) (by decide) (hts _ (by decide +kernel)) (cast_at hX0 hW (by decide)) hce hcv hcl ?_
      refine lv_astore (lv' := [(5, .ref q9), (0, .ref x), (1, .int lf), (2, .int sp), (3, .int wh), (4, .ref o)]) hx hb dL_stepOf_23 hl (by decide) rfl (fun ls hl => ?_)
      refine lv_iconst (v := 3) hx hb dL_stepOf_25 (by decide) ?_
      refine vx_ret ?_
      refine fw_iret hx hb hr hlocks hR hS dL_stepOf_26 ?_
      exact qh_no k1 (by decide) hI hF hd ho
  · obtain ⟨rfl, k0, hI, hF⟩ := hq
    refine W.eq (g2 := F0 mI 10 ls [.int (stepOfM s g lf sp wh).1, .int 0, .ref o]) rfl ?_
    refine lv_i2l hx hb dL_stepOf_10 rfl ?_
    refine fw_last hx hb hK hR hS ((hF o hd).trans ho) (show vp_in 0 1 by unfold vp_in; decide) dL_stepOf_11 (fun H1 locs1 hR hS => ?_)
    refine lv_goto (tgt := 27) hx hb dL_stepOf_12 (by decide) ?_
    refine lv_iconst (v := 0) hx hb dL_stepOf_27 (by decide) ?_
    refine vx_ret ?_
    refine fw_iret hx hb hr hlocks hR hS dL_stepOf_28 ?_
    exact qh_yes k0 hI hF hd
