/-! ===== the law's helpers: a call, its throw caught and told by a number ===== -/
section FWH
variable {G : FG} {l : Launch} {ω : FWd}
theorem fx_ofWH {y : MethodName} {ws ws' : List Cond} {rm : Room} {av : List Value} {Q2 : Option Value → FWd → Prop} {X : String → FWd → Prop} {mc ms : Nat} {cc : ByteArray} {maxL : Nat} {ret : Option FieldType} {hh : List (Nat × Nat × Nat × Nat)} (hy : plainName y.cls = true) (hw : ws = Cond.codeWith y cc maxL ret hh :: ws') (hlen : (lg_sl av).length ≤ maxL)
    (body : ∀ (p : Program) (e : Env) (s : State) (m : MethodId) (args : Array Value) (below : List Frame) (meth : Method) (c : Code) (ls : Array Slot), p.tables.exec = Jvm.exec → c.code = cc → meth.sig.returnType = ret → meth.locks = false → c.maxLocals = maxL → (∀ w ∈ ws, w.before args s = true) → s.vm.findClass y.cls = some m.cls → meth.name = y.name → G.2.2.WarmedH s.vm → fR G ω s.heap → c.exceptionTable.toList = tableOf hh → lv_has ls maxL (lv_args 0 av) →
      W p l e rm s m args below meth c s.heap [] 0 0 (vx_MQ below (fQ G Q2) (fXX G X) args s mc ms (fwA G)) (F0 m 0 ls [])) : FMetX G l y ws rm av ω Q2 X mc ms := by
  refine vx_ofWH (cc := cc) (maxL := maxL) (ret := ret) (hh := hh) hy hw ?_
  intro p e s m args below meth c s₁ B hml hv
  obtain ⟨rfl, hW, hR⟩ := hv
  have ht := vx_table (x := y) B (atoms_spec (ws := ws) B.pre _ (by rw [hw]; exact List.mem_cons_self))
  rw [lg_entry_eq]
  have hl := lv_entry av (n := maxL) hlen
  exact body p e s m _ below meth c _ B.exec B.bytes B.returns B.notSynchronized hml (atoms_spec (ws := ws) B.pre) (findClass_of_methodNamed B.named) (name_of_methodNamed B.named B.method).1 hW hR ht hl
end FWH
/-- what a helper leaves: the number of the throw or 0, and then the answer in the array's first place -/
def QH (G : FG) (x : Nat) (ω : FWd) (o : Nat) (a : Int64) (s g hs sv ip lt : Nat → Int32) : Option Value → FWd → Prop := fun vv τ => ∃ (k : Int32) (f9 : Nat → Int64), vv = some (.int k) ∧ k = s 14 ∧ (k = 0 → f9 0 = a) ∧ τ.2 o = some (.inl (G.2.1 2, 1, .inr (.inl f9))) ∧ CInv G τ.2 x s g hs sv ip lt ∧ ∀ q, (q < x ∨ x + 614 ≤ q) → ¬ q = o → τ.2 q = ω.2 q
theorem qh_yes {G : FG} {x o : Nat} {ω τ : FWd} {a : Int32} {s g hs sv ip lt : Nat → Int32} {f0 : Nat → Int64} (k0 : s 14 = 0) (hI : CInv G τ.2 x s g hs sv ip lt) (hF : ∀ q, (q < x ∨ x + 614 ≤ q) → τ.2 q = ω.2 q) (hd : o < x ∨ x + 614 ≤ o) : QH G x ω o a.toInt64 s g hs sv ip lt (some (.int 0)) (τ.1, va_up τ.2 o (some (.inl (G.2.1 2, 1, .inr (.inl (vp_updL f0 (0 : Int32).toNatClampNeg a.toInt64)))))) :=
  ⟨0, _, rfl, k0.symm, fun _ => if_pos rfl, if_pos rfl, hI.fr (fun q q1 q2 => if_neg (by omega)), fun q q1 q2 => (if_neg q2).trans (hF q q1)⟩
theorem qh_no {G : FG} {x o : Nat} {ω τ : FWd} {a : Int64} {s g hs sv ip lt : Nat → Int32} {f0 : Nat → Int64} {k : Int32} (hk : s 14 = k) (hk0 : ¬ k = 0) (hI : CInv G τ.2 x s g hs sv ip lt) (hF : ∀ q, (q < x ∨ x + 614 ≤ q) → τ.2 q = ω.2 q) (hd : o < x ∨ x + 614 ≤ o) (ho : ω.2 o = some (.inl (G.2.1 2, 1, .inr (.inl f0)))) : QH G x ω o a s g hs sv ip lt (some (.int k)) τ :=
  ⟨k, f0, rfl, hk.symm, fun z => absurd z hk0, (hF o hd).trans ho, hI, fun q q1 _ => hF q q1⟩
theorem cast_at {G : FG} {l : Launch} {cls : String} {args : Array Value} {s : State} (hX0 : FX0 G l) (hW : G.2.2.WarmedH s.vm) (hc : cls ∈ xwC) : (Cond.castable cls cls).before args s = true :=
  xwB_at hW (hX0.2.1 cls hc) _ (List.mem_cons_of_mem _ (List.mem_cons_of_mem _ (List.mem_cons_of_mem _ List.mem_cons_self)))
theorem h_leaflet (G : FG) (hL : FL G) (l : Launch) (hX0 : FX0 G l) (ω : FWd) (x : Nat) (s g hs sv ip lt bf : Nat → Int32) (h : CInv G ω.2 x s g hs sv ip lt) (o : Nat) (f0 : Nat → Int64) (ho : ω.2 o = some (.inl (G.2.1 2, 1, .inr (.inl f0)))) (hd : o < x ∨ x + 614 ≤ o) (sh : Int32) : FMetX G l yL_leaflet wsL_leaflet ({ frames := 8, cells := 1, slots := 6, locals := 160 } : Room) [.ref x, .int sh, .ref o] ω (QH G x ω o (leafletM s g bf hs sh).1.toInt64 (leafletM s g bf hs sh).2.1 (leafletM s g bf hs sh).2.2.1 (leafletM s g bf hs sh).2.2.2.2 sv ip lt) (fun _ _ => False) 1 6 := by
  refine fx_ofWH (cc := cL_leaflet) (maxL := 4) (ret := (some .int)) (hh := [(0, 9, 12, 13)]) (by decide) rfl (Nat.le_of_ble_eq_true rfl) ?_
  intro pP eE sS mI ar9 bl9 meth cD ls hx hb hr hlocks hml hts hown hnm hW hR htb hl
  have hK := hL.K hW
  have hS : va_S (fwA G) sS.heap sS.heap [] := va_S.rf
  have hl : lv_has ls 4 [(0, .ref x), (1, .int sh), (2, .ref o)] := hl
  refine lv_aload_n hx hb dL_leaflet_0 rfl (lv_at hl 2 rfl) ?_
  refine lv_iconst (v := 0) hx hb dL_leaflet_1 (by decide) ?_
  refine lv_aload_n hx hb dL_leaflet_2 rfl (lv_at hl 0 rfl) ?_
  refine lv_iload_n hx hb dL_leaflet_3 rfl (lv_at hl 1 rfl) ?_
  refine fx_call (vx_runV (As := [.int sh]) (rest := [.int 0, .ref o]) ⟨hx, hb, hml, hown, hts⟩ (i_leaflet G hL l hX0 ω x s g hs sv ip lt bf h sh) (cwV 1 hts gL_leaflet_X10_leaflet rfl rfl rfl (by decide +kernel) ⟨Nat.le_of_ble_eq_true rfl, Nat.le_of_ble_eq_true rfl⟩) (fw_preV hW hK hR h.1.1 rfl) rfl rfl hl.1 rfl (lv_room (Nat.le_of_ble_eq_true rfl)) dL_leaflet_4 ⟨Nat.le_of_ble_eq_true rfl, Nat.le_of_ble_eq_true rfl⟩) hS (fun E ce q9 τ H locs hx_1 hR hS hce hcv hcl => ?_) (fun v τ H locs hq hR hS => ?_)
  · obtain ⟨⟨k1, rfl⟩, hI, hF⟩ := hx_1
    refine vx_catch (own := RL) (name := "java/lang/UnsupportedOperationException") hown [] ⟨0, 9, 12, 13⟩ [] htb (fun z hz => by cases hz) (by decide) (by decide) (hts _ (by decide +kernel)) (cast_at hX0 hW (by decide)) hce hcv hcl ?_
    refine lv_astore_n (lv' := [(3, .ref q9), (0, .ref x), (1, .int sh), (2, .ref o)]) hx hb dL_leaflet_12 rfl hl (by decide) rfl (fun ls hl => ?_)
    refine lv_iconst (v := 1) hx hb dL_leaflet_13 (by decide) ?_
    refine vx_ret ?_
    refine fw_iret hx hb hr hlocks hR hS dL_leaflet_14 ?_
    exact qh_no k1 (by decide) hI hF hd ho
  · obtain ⟨rfl, k0, hI, hF⟩ := hq
    refine W.eq (g2 := F0 mI 7 ls [.int (leafletM s g bf hs sh).1, .int 0, .ref o]) rfl ?_
    refine lv_i2l hx hb dL_leaflet_7 rfl ?_
    refine fw_last hx hb hK hR hS ((hF o hd).trans ho) (show vp_in 0 1 by unfold vp_in; decide) dL_leaflet_8 (fun H1 locs1 hR hS => ?_)
    refine lv_goto (tgt := 15) hx hb dL_leaflet_9 (by decide) ?_
    refine lv_iconst (v := 0) hx hb dL_leaflet_15 (by decide) ?_
    refine vx_ret ?_
    refine fw_iret hx hb hr hlocks hR hS dL_leaflet_16 ?_
    exact qh_yes k0 hI hF hd
