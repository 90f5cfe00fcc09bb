/-! ===== the helper of meanSteps ===== -/
def QD (G : FG) (x : Nat) (ω : FWd) (o : Nat) (a : UInt64) (s g hs sv ip lt : Nat → Int32) : Option Value → FWd → Prop := fun vv τ => ∃ (k : Int32) (f9 : Nat → UInt64), vv = some (.int k) ∧ k = s 14 ∧ (k = 0 → f9 0 = a) ∧ τ.2 o = some (.inl (G.2.1 3, 1, .inr (.inr (.inr (.inl f9))))) ∧ CInv G τ.2 x s g hs sv ip lt ∧ ∀ q, (q < x ∨ x + 614 ≤ q) → ¬ q = o → τ.2 q = ω.2 q
theorem qd_yes {G : FG} {x o : Nat} {ω τ : FWd} {a : UInt64} {s g hs sv ip lt : Nat → Int32} {f0 : Nat → UInt64} (k0 : s 14 = 0) (hI : CInv G τ.2 x s g hs sv ip lt) (hF : ∀ q, (q < x ∨ x + 614 ≤ q) → τ.2 q = ω.2 q) (hd : o < x ∨ x + 614 ≤ o) : QD G x ω o a s g hs sv ip lt (some (.int 0)) (τ.1, va_up τ.2 o (some (.inl (G.2.1 3, 1, .inr (.inr (.inr (.inl (va_up f0 (0 : Int32).toNatClampNeg a)))))))) :=
  ⟨0, _, rfl, k0.symm, fun _ => if_pos rfl, if_pos rfl, hI.fr (fun q q1 q2 => if_neg (by omega)), fun q q1 q2 => (if_neg q2).trans (hF q q1)⟩
theorem qd_no {G : FG} {x o : Nat} {ω τ : FWd} {a : UInt64} {s g hs sv ip lt : Nat → Int32} {f0 : Nat → UInt64} {k : Int32} (hk : s 14 = k) (hk0 : ¬ k = 0) (hI : CInv G τ.2 x s g hs sv ip lt) (hF : ∀ q, (q < x ∨ x + 614 ≤ q) → τ.2 q = ω.2 q) (hd : o < x ∨ x + 614 ≤ o) (ho : ω.2 o = some (.inl (G.2.1 3, 1, .inr (.inr (.inr (.inl f0)))))) : QD G x ω o a s g hs sv ip lt (some (.int k)) τ :=
  ⟨k, f0, rfl, hk.symm, fun z => absurd z hk0, (hF o hd).trans ho, hI, fun q q1 _ => hF q q1⟩
theorem h_meanSteps (G : FG) (hL : FL G) (l : Launch) (hX0 : FX0 G l) (ω : FWd) (x : Nat) (s g hs sv ip lt : Nat → Int32) (h : CInv G ω.2 x s g hs sv ip lt) (o : Nat) (f0 : Nat → UInt64) (ho : ω.2 o = some (.inl (G.2.1 3, 1, .inr (.inr (.inr (.inl f0)))))) (hd : o < x ∨ x + 614 ≤ o) : FMetX G l yL_meanSteps wsL_meanSteps ({ frames := 7, cells := 1, slots := 6, locals := 136 } : Room) [.ref x, .ref o] ω (QD G x ω o (meanM s g).1 (meanM s g).2 g hs sv ip lt) (fun _ _ => False) 1 6 := by
  refine fx_ofWH (cc := cL_meanSteps) (maxL := 3) (ret := (some .int)) (hh := [(0, 7, 10, 130)]) (by decide) rfl (Nat.le_of_ble_eq_true rfl) ?_
  intro pP eE sS mI ar9 bl9 meth cD ls hx hb hr hlocks hml hts hown hnm hW hR htb hl
  have hK := hL.K hW
  have hS : va_S (fwA G) sS.heap sS.heap [] := va_S.rf
  have hl : lv_has ls 3 [(0, .ref x), (1, .ref o)] := hl
  refine lv_aload_n hx hb dL_meanSteps_0 rfl (lv_at hl 1 rfl) ?_
  refine lv_iconst (v := 0) hx hb dL_meanSteps_1 (by decide) ?_
  refine lv_aload_n hx hb dL_meanSteps_2 rfl (lv_at hl 0 rfl) ?_
  refine fx_call (vx_runV (As := []) (rest := [.int 0, .ref o]) ⟨hx, hb, hml, hown, hts⟩ (i_meanSteps G hL l hX0 ω x s g hs sv ip lt h) (cwV 0 hts gL_meanSteps_X10_meanSteps rfl rfl rfl (by decide +kernel) ⟨Nat.le_of_ble_eq_true rfl, Nat.le_of_ble_eq_true rfl⟩) (fw_preV hW hK hR h.1.1 rfl) rfl rfl hl.1 rfl (lv_room (Nat.le_of_ble_eq_true rfl)) dL_meanSteps_3 ⟨Nat.le_of_ble_eq_true rfl, Nat.le_of_ble_eq_true rfl⟩) hS (fun E ce q9 τ H locs hx_1 hR hS hce hcv hcl => ?_) (fun v τ H locs hq hR hS => ?_)
  · obtain ⟨⟨k1, rfl⟩, hI, hF⟩ := hx_1
    refine vx_catch (own := RL) (name := "java/lang/ArithmeticException") hown [] ⟨0, 7, 10, 130⟩ [] htb (fun z hz => by cases hz) (by decide) (by decide) (hts _ (by decide +kernel)) (cast_at hX0 hW (by decide)) hce hcv hcl ?_
    refine lv_astore_n (lv' := [(2, .ref q9), (0, .ref x), (1, .ref o)]) hx hb dL_meanSteps_10 rfl hl (by decide) rfl (fun ls hl => ?_)
    refine lv_iconst (v := 1) hx hb dL_meanSteps_11 (by decide) ?_
    refine vx_ret ?_
    refine fw_iret hx hb hr hlocks hR hS dL_meanSteps_12 ?_
    exact qd_no k1 (by decide) hI hF hd ho
  · obtain ⟨rfl, k0, hI, hF⟩ := hq
    refine W.eq (g2 := F0 mI 6 ls [.double (meanM s g).1, .int 0, .ref o]) rfl ?_
    refine fw_dast hx hb hK hR hS ((hF o hd).trans ho) (show vp_in 0 1 by unfold vp_in; decide) dL_meanSteps_6 (fun H1 locs1 hR hS => ?_)
    refine lv_goto (tgt := 13) hx hb dL_meanSteps_7 (by decide) ?_
    refine lv_iconst (v := 0) hx hb dL_meanSteps_13 (by decide) ?_
    refine vx_ret ?_
    refine fw_iret hx hb hr hlocks hR hS dL_meanSteps_14 ?_
    exact qd_yes k0 hI hF hd
