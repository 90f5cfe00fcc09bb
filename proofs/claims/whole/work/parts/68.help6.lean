/-! ===== printed by program (wip/whole/gen/lay_help6.py): canFinish, skippedShare, commands ===== -/
theorem goodIn_c1 {big a : List Cond} {c : Cond} (h : GoodIn big [c]) (ha : GoodIn big a) : GoodIn big (c :: a) := fun w hw => (List.mem_cons.mp hw).elim (fun e => h w (List.mem_singleton.mpr e)) (ha w)
set_option maxRecDepth 100000 in
theorem ggL_commands_X10_commands_p0 : GoodIn wsL_commands [.code yX10_commands cX10_commands 2 (some .int)] := goodIn_r _ [7] (by decide +kernel) (by decide +kernel)
set_option maxRecDepth 100000 in
theorem ggL_commands_X10_commands_p1 : GoodIn wsL_commands wsX10_commands_r1 := goodIn_r _ [8, 9, 10, 11, 12, 13, 14, 15, 16, 17, 18, 19, 20, 21, 22, 23, 24, 25, 26, 27, 28, 29, 30, 31] (by decide +kernel) (by decide +kernel)
set_option maxRecDepth 100000 in
theorem ggL_commands_X10_commands_p2 : GoodIn wsL_commands wsX10_commands_r2 := goodIn_r _ [32, 33, 34, 35, 36, 37, 38, 39, 40, 41, 42, 43, 44, 45, 46, 47, 48, 49, 50, 51, 52, 53, 54, 55] (by decide +kernel) (by decide +kernel)
set_option maxRecDepth 100000 in
theorem ggL_commands_X10_commands_p3 : GoodIn wsL_commands wsX10_commands_r3 := goodIn_r _ [56, 57, 58, 59, 60, 61, 62, 63, 64, 65, 66, 67, 68, 69, 70, 71, 72, 73, 74, 75, 76, 77, 78, 79] (by decide +kernel) (by decide +kernel)
set_option maxRecDepth 100000 in
theorem ggL_commands_X10_commands_p4 : GoodIn wsL_commands wsX10_commands_r4 := goodIn_r _ [80, 81, 82, 83, 84, 85, 86, 87, 88, 89, 90, 91, 92, 93, 94, 95, 96, 97, 98, 99, 100, 101, 102, 103] (by decide +kernel) (by decide +kernel)
set_option maxRecDepth 100000 in
theorem ggL_commands_X10_commands_p5 : GoodIn wsL_commands wsX10_commands_r5 := goodIn_r _ [104, 105, 106, 107, 108, 109, 110, 111, 112, 113, 114, 115, 116, 117, 118, 119, 120, 121, 122, 123, 124, 125, 126, 127] (by decide +kernel) (by decide +kernel)
set_option maxRecDepth 100000 in
theorem ggL_commands_X10_commands_p6 : GoodIn wsL_commands wsX10_commands_r6 := goodIn_r _ [128, 129, 130, 131, 132, 133, 134, 135, 136, 137, 138, 139, 140, 141, 142, 143, 144, 145, 146, 147, 148, 149, 150, 151] (by decide +kernel) (by decide +kernel)
set_option maxRecDepth 100000 in
theorem ggL_commands_X10_commands_p7 : GoodIn wsL_commands wsX10_commands_r7 := goodIn_r _ [152, 153, 154, 155, 156, 157, 158, 159, 160, 161, 162, 163, 164, 165, 166, 167, 168, 169, 170, 171, 172, 173, 174, 175] (by decide +kernel) (by decide +kernel)
set_option maxRecDepth 100000 in
theorem ggL_commands_X10_commands_p8 : GoodIn wsL_commands wsX10_commands_r8 := goodIn_r _ [176, 177, 178, 179, 180, 181, 182, 183, 184, 185, 186, 187, 6, 188, 189, 190, 191, 192, 193, 194, 195, 196, 197, 198] (by decide +kernel) (by decide +kernel)
set_option maxRecDepth 100000 in
theorem ggL_commands_X10_commands_p9 : GoodIn wsL_commands wsX10_commands_r9 := goodIn_r _ [199, 200, 201, 202, 203, 204, 205, 206, 207, 208, 209, 210, 211, 212, 213, 214, 215, 216, 217, 218, 219, 220, 221, 222] (by decide +kernel) (by decide +kernel)
set_option maxRecDepth 100000 in
theorem ggL_commands_X10_commands_p10 : GoodIn wsL_commands wsX10_commands_r10 := goodIn_r _ [223, 224, 225, 226, 227, 228, 229, 230, 231, 232, 233, 234, 235, 236, 237, 238, 239, 240, 241, 242, 243, 244, 245, 246] (by decide +kernel) (by decide +kernel)
set_option maxRecDepth 100000 in
theorem ggL_commands_X10_commands_p11 : GoodIn wsL_commands wsX10_commands_r11 := goodIn_r _ [247, 248, 249, 250, 251, 252, 253, 254, 255, 256, 257, 258, 259, 260, 261, 262, 263, 264, 265, 266, 267, 268, 269, 270] (by decide +kernel) (by decide +kernel)
set_option maxRecDepth 100000 in
theorem ggL_commands_X10_commands_p12 : GoodIn wsL_commands wsX10_commands_r12 := goodIn_r _ [271, 272, 273, 274, 275, 276, 277, 278, 279, 280, 281, 282, 283, 284, 285, 286, 287, 288, 289, 290, 291, 292, 293, 294] (by decide +kernel) (by decide +kernel)
set_option maxRecDepth 100000 in
theorem ggL_commands_X10_commands_p13 : GoodIn wsL_commands wsX10_commands_r13 := goodIn_r _ [295, 296, 297, 298, 299, 300, 301, 302, 303, 304, 305, 306, 307, 308, 309, 310, 311, 312, 313, 314, 315, 316, 317, 318] (by decide +kernel) (by decide +kernel)
set_option maxRecDepth 100000 in
theorem ggL_commands_X10_commands_p14 : GoodIn wsL_commands wsX10_commands_r14 := goodIn_r _ [319, 320, 321, 322, 323, 324, 325, 326, 327, 328, 329, 330, 331, 332, 333, 334, 335, 336, 337, 338, 339, 340, 341, 342] (by decide +kernel) (by decide +kernel)
set_option maxRecDepth 100000 in
theorem ggL_commands_X10_commands_p15 : GoodIn wsL_commands wsX10_commands_r15 := goodIn_r _ [343, 344, 345, 346, 347, 348, 349, 350, 351, 352, 353, 354, 355, 356, 357, 358, 359, 360, 361, 362, 363, 364, 365, 366] (by decide +kernel) (by decide +kernel)
set_option maxRecDepth 100000 in
theorem ggL_commands_X10_commands_p16 : GoodIn wsL_commands wsX10_commands_r16 := goodIn_r _ [367, 368, 369, 370, 371, 372, 373, 374, 375, 376, 377, 378, 379, 380, 381, 382, 383, 384, 385, 386, 387, 388, 389, 390] (by decide +kernel) (by decide +kernel)
set_option maxRecDepth 100000 in
theorem ggL_commands_X10_commands_p17 : GoodIn wsL_commands wsX10_commands_r17 := goodIn_r _ [391, 392, 393, 394, 395] (by decide +kernel) (by decide +kernel)
set_option maxRecDepth 100000 in
theorem ggL_commands_X10_commands : GoodIn wsL_commands wsX10_commands := goodIn_c1 ggL_commands_X10_commands_p0 (goodIn_app (goodIn_app (goodIn_app (goodIn_app (goodIn_app (goodIn_app (goodIn_app (goodIn_app (goodIn_app (goodIn_app (goodIn_app (goodIn_app (goodIn_app (goodIn_app (goodIn_app (ggL_commands_X10_commands_p1) (goodIn_app (ggL_commands_X10_commands_p2) (goodIn_app (ggL_commands_X10_commands_p3) (goodIn_app (ggL_commands_X10_commands_p4) (goodIn_app (ggL_commands_X10_commands_p5) (goodIn_app (ggL_commands_X10_commands_p6) (goodIn_app (ggL_commands_X10_commands_p7) (goodIn_app (ggL_commands_X10_commands_p8) (goodIn_app (ggL_commands_X10_commands_p9) (goodIn_app (ggL_commands_X10_commands_p10) (goodIn_app (ggL_commands_X10_commands_p11) (goodIn_app (ggL_commands_X10_commands_p12) (goodIn_app (ggL_commands_X10_commands_p13) (goodIn_app (ggL_commands_X10_commands_p14) (goodIn_app (ggL_commands_X10_commands_p15) (goodIn_app (ggL_commands_X10_commands_p16) (ggL_commands_X10_commands_p17))))))))))))))))) (goodIn_sub (fun _ h => List.mem_cons_of_mem _ (List.mem_append_left _ (List.mem_append_left _ (List.mem_append_left _ (List.mem_append_left _ (List.mem_append_left _ (List.mem_append_left _ (List.mem_append_left _ (List.mem_append_left _ (List.mem_append_left _ (List.mem_append_left _ (List.mem_append_left _ (List.mem_append_left _ (List.mem_append_left _ (List.mem_append_right _ (h)))))))))))))))) (by decide +kernel))) (goodIn_sub (fun _ h => List.mem_cons_of_mem _ (List.mem_append_left _ (List.mem_append_left _ (List.mem_append_left _ (List.mem_append_left _ (List.mem_append_left _ (List.mem_append_left _ (List.mem_append_left _ (List.mem_append_left _ (List.mem_append_left _ (List.mem_append_left _ (List.mem_append_left _ (List.mem_append_left _ (List.mem_append_right _ (h))))))))))))))) (by decide +kernel))) (goodIn_sub (fun _ h => List.mem_cons_of_mem _ (List.mem_append_left _ (List.mem_append_left _ (List.mem_append_left _ (List.mem_append_left _ (List.mem_append_left _ (List.mem_append_left _ (List.mem_append_left _ (List.mem_append_left _ (List.mem_append_left _ (List.mem_append_left _ (List.mem_append_left _ (List.mem_append_right _ (h)))))))))))))) (by decide +kernel))) (goodIn_sub (fun _ h => List.mem_cons_of_mem _ (List.mem_append_left _ (List.mem_append_left _ (List.mem_append_left _ (List.mem_append_left _ (List.mem_append_left _ (List.mem_append_left _ (List.mem_append_left _ (List.mem_append_left _ (List.mem_append_left _ (List.mem_append_left _ (List.mem_append_right _ (h))))))))))))) (by decide +kernel))) (goodIn_sub (fun _ h => List.mem_cons_of_mem _ (List.mem_append_left _ (List.mem_append_left _ (List.mem_append_left _ (List.mem_append_left _ (List.mem_append_left _ (List.mem_append_left _ (List.mem_append_left _ (List.mem_append_left _ (List.mem_append_left _ (List.mem_append_right _ (h)))))))))))) (by decide +kernel))) (goodIn_sub (fun _ h => List.mem_cons_of_mem _ (List.mem_append_left _ (List.mem_append_left _ (List.mem_append_left _ (List.mem_append_left _ (List.mem_append_left _ (List.mem_append_left _ (List.mem_append_left _ (List.mem_append_left _ (List.mem_append_right _ (h))))))))))) (by decide +kernel))) (goodIn_sub (fun _ h => List.mem_cons_of_mem _ (List.mem_append_left _ (List.mem_append_left _ (List.mem_append_left _ (List.mem_append_left _ (List.mem_append_left _ (List.mem_append_left _ (List.mem_append_left _ (List.mem_append_right _ (h)))))))))) (by decide +kernel))) (goodIn_sub (fun _ h => List.mem_cons_of_mem _ (List.mem_append_left _ (List.mem_append_left _ (List.mem_append_left _ (List.mem_append_left _ (List.mem_append_left _ (List.mem_append_left _ (List.mem_append_right _ (h))))))))) (by decide +kernel))) (goodIn_sub (fun _ h => List.mem_cons_of_mem _ (List.mem_append_left _ (List.mem_append_left _ (List.mem_append_left _ (List.mem_append_left _ (List.mem_append_left _ (List.mem_append_right _ (h)))))))) (by decide +kernel))) (goodIn_sub (fun _ h => List.mem_cons_of_mem _ (List.mem_append_left _ (List.mem_append_left _ (List.mem_append_left _ (List.mem_append_left _ (List.mem_append_right _ (h))))))) (by decide +kernel))) (goodIn_sub (fun _ h => List.mem_cons_of_mem _ (List.mem_append_left _ (List.mem_append_left _ (List.mem_append_left _ (List.mem_append_right _ (h)))))) (by decide +kernel))) (goodIn_sub (fun _ h => List.mem_cons_of_mem _ (List.mem_append_left _ (List.mem_append_right _ (h)))) (by decide +kernel))) (goodIn_sub (fun _ h => List.mem_cons_of_mem _ (List.mem_append_right _ (h))) (by decide +kernel))) (goodIn_sub (fun _ h => List.mem_cons_of_mem _ (List.mem_append_left _ (List.mem_append_left _ (List.mem_append_right _ (h))))) (by decide +kernel)))
set_option maxRecDepth 100000 in
theorem gL_commands_X10_commands : GoodIn wsL_commands (wsV RL 112 RX10 yX10_commands wsX10_commands) := goodIn_app (goodIn_of _ (by decide +kernel)) ggL_commands_X10_commands
theorem qh_yesL {G : FG} {x o : Nat} {ω τ : FWd} {a : Int64} {s g hs sv ip lt : Nat → Int32} {f0 : Nat → Int64} (k0 : s 14 = 0) (hI : CInv G τ.2 x s g hs sv ip lt) (hF : ∀ q, (q < x ∨ x + 614 ≤ q) → τ.2 q = ω.2 q) (hd : o < x ∨ x + 614 ≤ o) : QH G x ω o a s g hs sv ip lt (some (.int 0)) (τ.1, va_up τ.2 o (some (.inl (G.2.1 2, 1, .inr (.inl (vp_updL f0 (0 : Int32).toNatClampNeg a)))))) :=
  ⟨0, _, rfl, k0.symm, fun _ => if_pos rfl, if_pos rfl, hI.fr (fun q q1 q2 => if_neg (by omega)), fun q q1 q2 => (if_neg q2).trans (hF q q1)⟩
theorem h_canFinish (G : FG) (hL : FL G) (l : Launch) (hX0 : FX0 G l) (hN : ∀ q ∈ xnP, va_Nc q.1 q.2 G.2.2) (ω : FWd) (x : Nat) (s g hs sv ip lt nd : Nat → Int32) (h : CInv G ω.2 x s g hs sv ip lt) (o : Nat) (f0 : Nat → Int64) (ho : ω.2 o = some (.inl (G.2.1 2, 1, .inr (.inl f0)))) (hd : o < x ∨ x + 614 ≤ o) (lf : Int32) (sp : Int32) : FMetX G l yL_canFinish wsL_canFinish ({ frames := 8, cells := 2, slots := 12, locals := 158 } : Room) [.ref x, .int lf, .int sp, .ref o] ω (QH G x ω o (if (canM s g nd lf sp).1 = 0 then (0 : Int64) else 1) (canM s g nd lf sp).2.1 g hs sv ip lt) (fun _ _ => False) 2 12 := by
  refine fx_ofWH (cc := cL_canFinish) (maxL := 5) (ret := (some .int)) (hh := [(0, 17, 20, 53), (0, 17, 24, 61)]) (by decide) rfl (Nat.le_of_ble_eq_true rfl) ?_
  intro pP eE sS mI ar9 bl9 meth cD ls hx hb hr hlocks hml hts hown hnm hW hR htb hl
  have hK := hL.K hW
  have hS : va_S (fwA G) sS.heap sS.heap [] := va_S.rf
  have hl : lv_has ls 5 [(0, .ref x), (1, .int lf), (2, .int sp), (3, .ref o)] := hl
  refine lv_aload_n hx hb dL_canFinish_0 rfl (lv_at hl 3 rfl) ?_
  refine lv_iconst (v := 0) hx hb dL_canFinish_1 (by decide) ?_
  refine lv_aload_n hx hb dL_canFinish_2 rfl (lv_at hl 0 rfl) ?_
  refine lv_iload_n hx hb dL_canFinish_3 rfl (lv_at hl 1 rfl) ?_
  refine lv_iload_n hx hb dL_canFinish_4 rfl (lv_at hl 2 rfl) ?_
  refine fx_call (vx_runV (As := [.int lf, .int sp]) (rest := [.int 0, .ref o]) ⟨hx, hb, hml, hown, hts⟩ (i_canFinish G hL l hX0 ω x s g hs sv ip lt nd h lf sp) (cwV 2 hts gL_canFinish_X10_canFinish rfl rfl rfl (by decide +kernel) ⟨Nat.le_of_ble_eq_true rfl, Nat.le_of_ble_eq_true rfl⟩) (fw_preV hW hK hR h.1.1 rfl) rfl rfl hl.1 rfl (lv_room (Nat.le_of_ble_eq_true rfl)) dL_canFinish_5 ⟨Nat.le_of_ble_eq_true rfl, Nat.le_of_ble_eq_true rfl⟩) hS (fun E ce q9 τ H locs hx_1 hR hS hce hcv hcl => ?_) (fun v τ H locs hq hR hS => ?_)
  · obtain ⟨hk9, hI, hF⟩ := hx_1
    rcases hk9 with ⟨k1, rfl⟩ | ⟨k1, rfl⟩
    · refine vx_catch (own := RL) (name := "java/lang/IndexOutOfBoundsException") hown [] ⟨0, 17, 20, 53⟩ [⟨0, 17, 24, 61⟩] htb (fun z hz => by cases hz) (by decide) (by decide) (hts _ (by decide +kernel)) (cast_at hX0 hW (by decide)) hce hcv hcl ?_
      refine lv_astore (lv' := [(4, .ref q9), (0, .ref x), (1, .int lf), (2, .int sp), (3, .ref o)]) hx hb dL_canFinish_20 hl (by decide) rfl (fun ls hl => ?_)
      refine lv_iconst (v := 1) hx hb dL_canFinish_22 (by decide) ?_
      refine vx_ret ?_
      refine fw_iret hx hb hr hlocks hR hS dL_canFinish_23 ?_
      exact qh_no k1 (by decide) hI hF hd ho
    · refine vx_catch (own := RL) (name := "java/util/NoSuchElementException") hown [⟨0, 17, 20, 53⟩] ⟨0, 17, 24, 61⟩ [] htb (fun z hz => by rw [List.mem_singleton.mp hz]; exact Or.inr ⟨by decide, "java/lang/IndexOutOfBoundsException", hts _ (by decide +kernel), va_Nc.moved hW.alike (hN (_, _) (by decide))⟩) (by decide) (by decide) (hts _ (by decide +kernel)) (cast_at hX0 hW (by decide)) hce hcv hcl ?_
      refine lv_astore (lv' := [(4, .ref q9), (0, .ref x), (1, .int lf), (2, .int sp), (3, .ref o)]) hx hb dL_canFinish_24 hl (by decide) rfl (fun ls hl => ?_)
      refine lv_iconst (v := 2) hx hb dL_canFinish_26 (by decide) ?_
      refine vx_ret ?_
      refine fw_iret hx hb hr hlocks hR hS dL_canFinish_27 ?_
      exact qh_no k1 (by decide) hI hF hd ho
  · obtain ⟨rfl, k0, hI, hF⟩ := hq
    refine W.eq (g2 := F0 mI 8 ls [.int (canM s g nd lf sp).1, .int 0, .ref o]) rfl ?_
    have tl9 : W pP l eE ({ frames := 8, cells := 2, slots := 12, locals := 158 } : Room) sS mI ar9 bl9 meth cD H locs (0 + 2) (0 + 12) (vx_MQ bl9 (fQ G (QH G x ω o (if (canM s g nd lf sp).1 = 0 then (0 : Int64) else 1) (canM s g nd lf sp).2.1 g hs sv ip lt)) (fXX G (fun _ _ => False)) ar9 sS 2 12 (fwA G)) (F0 mI 16 ls [.long (if (canM s g nd lf sp).1 = 0 then (0 : Int64) else 1), .int 0, .ref o]) := by
      refine fw_last hx hb hK hR hS ((hF o hd).trans ho) (show vp_in 0 1 by unfold vp_in; decide) dL_canFinish_16 (fun H1 locs1 hR hS => ?_)
      refine lv_goto (tgt := 28) hx hb dL_canFinish_17 (by decide) ?_
      refine lv_iconst (v := 0) hx hb dL_canFinish_28 (by decide) ?_
      refine vx_ret ?_
      refine fw_iret hx hb hr hlocks hR hS dL_canFinish_29 ?_
      exact qh_yesL k0 hI hF hd
    refine lv_if_eq (tgt := 15) hx hb dL_canFinish_8 (by decide) (fun c9 => ?_) (fun c9 => ?_)
    · refine lv_lconst (v := 0) hx hb dL_canFinish_15 (by decide) ?_
      exact W.eq (g2 := F0 mI 16 ls [.long (if (canM s g nd lf sp).1 = 0 then (0 : Int64) else 1), .int 0, .ref o]) (by rw [if_pos c9]) tl9
    · refine lv_lconst (v := 1) hx hb dL_canFinish_11 (by decide) ?_
      refine lv_goto (tgt := 16) hx hb dL_canFinish_12 (by decide) ?_
      exact W.eq (g2 := F0 mI 16 ls [.long (if (canM s g nd lf sp).1 = 0 then (0 : Int64) else 1), .int 0, .ref o]) (by rw [if_neg c9]) tl9
theorem share_f2d {v : Nat → Nat → Int32} {s g : Nat → Int32} (hte : Tell v (gV g)) (hwf : WFG g) (k0 : (shareM s g).2 14 = 0) : (vf_n64 (FP.f2d (shareM s g).1)) ∧ ∃ a b : Nat, a < 73 ∧ b < 65 ∧ ¬ b = 0 ∧ (shareM s g).1 = FP.fdiv (FP.i2f (nI a)) (FP.i2f (nI b)) := by
  obtain ⟨⟨a, ha, e1⟩, b, hb, e2⟩ := share_nn hte hwf
  by_cases h : (shareL s g (cN (g 0))).1 = 0
  · have e : shareM s g = (FP.fconst0, upd s 14 1) := if_pos h
    rw [e] at k0
    have k1 : upd s 14 1 14 = 0 := k0
    rw [upd_at] at k1
    exact absurd k1 (by decide)
  · have e : shareM s g = (FP.fdiv (FP.i2f ((shareL s g (cN (g 0))).2)) (FP.i2f ((shareL s g (cN (g 0))).1)), upd s 14 0) := if_neg h
    rw [share_eq hte hwf] at e h
    dsimp only at e h
    rw [e1, e2] at e
    rw [e1] at h
    have hn : ¬ a = 0 := fun y => h (by rw [y]; rfl)
    rw [e]
    exact ⟨f2d_ok b hb a ha hn, b, a, hb, ha, hn, rfl⟩
theorem h_skippedShare (G : FG) (hL : FL G) (l : Launch) (hX0 : FX0 G l) (ω : FWd) (x : Nat) (s g hs sv ip lt : Nat → Int32) (h : CInv G ω.2 x s g hs sv ip lt) (o : Nat) (f0 : Nat → UInt64) (ho : ω.2 o = some (.inl (G.2.1 3, 1, .inr (.inr (.inr (.inl f0)))))) (hd : o < x ∨ x + 614 ≤ o) : FMetX G l yL_skippedShare wsL_skippedShare ({ frames := 7, cells := 1, slots := 6, locals := 136 } : Room) [.ref x, .ref o] ω (QD G x ω o (FP.f2d (shareM s g).1) (shareM s g).2 g hs sv ip lt) (fun _ _ => False) 1 6 := by
  refine fx_ofWH (cc := cL_skippedShare) (maxL := 3) (ret := (some .int)) (hh := [(0, 8, 11, 130)]) (by decide) rfl (Nat.le_of_ble_eq_true rfl) ?_
  intro pP eE sS mI ar9 bl9 meth cD ls hx hb hr hlocks hml hts hown hnm hW hR htb hl
  have hK := hL.K hW
  have hS : va_S (fwA G) sS.heap sS.heap [] := va_S.rf
  have hl : lv_has ls 3 [(0, .ref x), (1, .ref o)] := hl
  refine lv_aload_n hx hb dL_skippedShare_0 rfl (lv_at hl 1 rfl) ?_
  refine lv_iconst (v := 0) hx hb dL_skippedShare_1 (by decide) ?_
  refine lv_aload_n hx hb dL_skippedShare_2 rfl (lv_at hl 0 rfl) ?_
  refine fx_call (vx_runV (As := []) (rest := [.int 0, .ref o]) ⟨hx, hb, hml, hown, hts⟩ (i_skippedShare G hL l hX0 ω x s g hs sv ip lt h) (cwV 0 hts gL_skippedShare_X10_skippedShare rfl rfl rfl (by decide +kernel) ⟨Nat.le_of_ble_eq_true rfl, Nat.le_of_ble_eq_true rfl⟩) (fw_preV hW hK hR h.1.1 rfl) rfl rfl hl.1 rfl (lv_room (Nat.le_of_ble_eq_true rfl)) dL_skippedShare_3 ⟨Nat.le_of_ble_eq_true rfl, Nat.le_of_ble_eq_true rfl⟩) hS (fun E ce q9 τ H locs hx_1 hR hS hce hcv hcl => ?_) (fun v τ H locs hq hR hS => ?_)
  · obtain ⟨⟨k1, rfl⟩, hI, hF⟩ := hx_1
    refine vx_catch (own := RL) (name := "java/lang/ArithmeticException") hown [] ⟨0, 8, 11, 130⟩ [] htb (fun z hz => by cases hz) (by decide) (by decide) (hts _ (by decide +kernel)) (cast_at hX0 hW (by decide)) hce hcv hcl ?_
    refine lv_astore_n (lv' := [(2, .ref q9), (0, .ref x), (1, .ref o)]) hx hb dL_skippedShare_11 rfl hl (by decide) rfl (fun ls hl => ?_)
    refine lv_iconst (v := 1) hx hb dL_skippedShare_12 (by decide) ?_
    refine vx_ret ?_
    refine fw_iret hx hb hr hlocks hR hS dL_skippedShare_13 ?_
    exact qd_no k1 (by decide) hI hF hd ho
  · obtain ⟨rfl, k0, hI, hF⟩ := hq
    obtain ⟨-, ⟨v9, -, hte, hwf⟩, -⟩ := id h
    refine W.eq (g2 := F0 mI 6 ls [.float (shareM s g).1, .int 0, .ref o]) rfl ?_
    refine lv_f2d hx hb dL_skippedShare_6 (share_f2d hte hwf k0).1 ?_
    refine fw_dast hx hb hK hR hS ((hF o hd).trans ho) (show vp_in 0 1 by unfold vp_in; decide) dL_skippedShare_7 (fun H1 locs1 hR hS => ?_)
    refine lv_goto (tgt := 14) hx hb dL_skippedShare_8 (by decide) ?_
    refine lv_iconst (v := 0) hx hb dL_skippedShare_14 (by decide) ?_
    refine vx_ret ?_
    refine fw_iret hx hb hr hlocks hR hS dL_skippedShare_15 ?_
    exact qd_yes k0 hI hF hd
theorem h_commands (G : FG) (hL : FL G) (l : Launch) (hX0 : FX0 G l) (hN : ∀ q ∈ xnP, va_Nc q.1 q.2 G.2.2) (adr : Nat → Nat) (hFT : FTx G adr) (hJ : FJ G) (ω : FWd) (x : Nat) (s g hs sv ip lt nd bf td : Nat → Int32) (h : CInv G ω.2 x s g hs sv ip lt) (o : Nat) (f0 : Nat → Int64) (ho : ω.2 o = some (.inl (G.2.1 2, 1, .inr (.inl f0)))) (hd : o < x ∨ x + 614 ≤ o) : FMetX G l yL_commands wsL_commands ({ frames := 8, cells := 1, slots := 6, locals := 188 } : Room) [.ref x, .ref o] ω (QH G x ω o (comM s g nd bf hs ip td).1.toInt64 (comM s g nd bf hs ip td).2.1 (comM s g nd bf hs ip td).2.2.1 (comM s g nd bf hs ip td).2.2.2.2.2.1 sv ip lt) (fun _ _ => False) 1 6 := by
  refine fx_ofWH (cc := cL_commands) (maxL := 3) (ret := (some .int)) (hh := [(0, 8, 11, 55), (0, 8, 14, 13)]) (by decide) rfl (Nat.le_of_ble_eq_true rfl) ?_
  intro pP eE sS mI ar9 bl9 meth cD ls hx hb hr hlocks hml hts hown hnm hW hR htb hl
  have hK := hL.K hW
  have hS : va_S (fwA G) sS.heap sS.heap [] := va_S.rf
  have hl : lv_has ls 3 [(0, .ref x), (1, .ref o)] := hl
  refine lv_aload_n hx hb dL_commands_0 rfl (lv_at hl 1 rfl) ?_
  refine lv_iconst (v := 0) hx hb dL_commands_1 (by decide) ?_
  refine lv_aload_n hx hb dL_commands_2 rfl (lv_at hl 0 rfl) ?_
  refine fx_call (vx_runV (As := []) (rest := [.int 0, .ref o]) ⟨hx, hb, hml, hown, hts⟩ (i_commands G hL l hX0 adr hFT hJ ω x s g hs sv ip lt nd bf td h) (cwV 0 hts gL_commands_X10_commands rfl rfl rfl (by decide +kernel) ⟨Nat.le_of_ble_eq_true rfl, Nat.le_of_ble_eq_true rfl⟩) (fw_preV hW hK hR h.1.1 rfl) rfl rfl hl.1 rfl (lv_room (Nat.le_of_ble_eq_true rfl)) dL_commands_3 ⟨Nat.le_of_ble_eq_true rfl, Nat.le_of_ble_eq_true rfl⟩) hS (fun E ce q9 τ H locs hx_1 hR hS hce hcv hcl => ?_) (fun v τ H locs hq hR hS => ?_)
  · obtain ⟨hk9, hI, hF⟩ := hx_1
    rcases hk9 with ⟨k1, rfl⟩ | ⟨k1, rfl⟩
    · refine vx_catch (own := RL) (name := "java/lang/IllegalArgumentException") hown [] ⟨0, 8, 11, 55⟩ [⟨0, 8, 14, 13⟩] htb (fun z hz => by cases hz) (by decide) (by decide) (hts _ (by decide +kernel)) (cast_at hX0 hW (by decide)) hce hcv hcl ?_
      refine lv_astore_n (lv' := [(2, .ref q9), (0, .ref x), (1, .ref o)]) hx hb dL_commands_11 rfl hl (by decide) rfl (fun ls hl => ?_)
      refine lv_iconst (v := 1) hx hb dL_commands_12 (by decide) ?_
      refine vx_ret ?_
      refine fw_iret hx hb hr hlocks hR hS dL_commands_13 ?_
      exact qh_no k1 (by decide) hI hF hd ho
    · refine vx_catch (own := RL) (name := "java/lang/UnsupportedOperationException") hown [⟨0, 8, 11, 55⟩] ⟨0, 8, 14, 13⟩ [] htb (fun z hz => by rw [List.mem_singleton.mp hz]; exact Or.inr ⟨by decide, "java/lang/IllegalArgumentException", hts _ (by decide +kernel), va_Nc.moved hW.alike (hN (_, _) (by decide))⟩) (by decide) (by decide) (hts _ (by decide +kernel)) (cast_at hX0 hW (by decide)) hce hcv hcl ?_
      refine lv_astore_n (lv' := [(2, .ref q9), (0, .ref x), (1, .ref o)]) hx hb dL_commands_14 rfl hl (by decide) rfl (fun ls hl => ?_)
      refine lv_iconst (v := 2) hx hb dL_commands_15 (by decide) ?_
      refine vx_ret ?_
      refine fw_iret hx hb hr hlocks hR hS dL_commands_16 ?_
      exact qh_no k1 (by decide) hI hF hd ho
  · obtain ⟨rfl, k0, hI, hF⟩ := hq
    refine W.eq (g2 := F0 mI 6 ls [.int (comM s g nd bf hs ip td).1, .int 0, .ref o]) rfl ?_
    refine lv_i2l hx hb dL_commands_6 rfl ?_
    refine fw_last hx hb hK hR hS ((hF o hd).trans ho) (show vp_in 0 1 by unfold vp_in; decide) dL_commands_7 (fun H1 locs1 hR hS => ?_)
    refine lv_goto (tgt := 17) hx hb dL_commands_8 (by decide) ?_
    refine lv_iconst (v := 0) hx hb dL_commands_17 (by decide) ?_
    refine vx_ret ?_
    refine fw_iret hx hb hr hlocks hR hS dL_commands_18 ?_
    exact qh_yes k0 hI hF hd
