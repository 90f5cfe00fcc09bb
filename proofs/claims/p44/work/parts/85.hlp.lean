/-! ===== printed by program (wip/p44/lay_hlp.py): the law's helpers act, runs ===== -/
section FWH
variable {G : FG} {l : Launch} {ω : FWd}
theorem fx_ofWH {y : MethodName} {ws ws' : List Cond} {rm : Room} {av : List Value} {Q2 : Option Value → FWd → Prop} {X : String → FWd → Prop} {mc ms : Nat} {cc : ByteArray} {maxL : Nat} {ret : Option FieldType} {hh : List (Nat × Nat × Nat × Nat)} (hy : plainName y.cls = true) (hw : ws = Cond.codeWith y cc maxL ret hh :: ws') (hlen : (lg_sl av).length ≤ maxL)
    (body : ∀ (p : Program) (e : Env) (s : State) (m : MethodId) (args : Array Value) (below : List Frame) (meth : Method) (c : Code) (ls : Array Slot), p.tables.exec = Jvm.exec → c.code = cc → meth.sig.returnType = ret → meth.locks = false → c.maxLocals = maxL → (∀ w ∈ ws, w.before args s = true) → s.vm.findClass y.cls = some m.cls → meth.name = y.name → G.2.2.WarmedH s.vm → fR G ω s.heap → c.exceptionTable.toList = tableOf hh → lv_has ls maxL (lv_args 0 av) →
      W p l e rm s m args below meth c s.heap [] 0 0 (vx_MQ below (fQ G Q2) (fXX G X) args s mc ms (fwA G)) (F0 m 0 ls [])) : FMetX G l y ws rm av ω Q2 X mc ms := by
  refine vx_ofWH (cc := cc) (maxL := maxL) (ret := ret) (hh := hh) hy hw ?_
  intro p e s m args below meth c s₁ B hml hv
  obtain ⟨rfl, hW, hR⟩ := hv
  have ht := vx_table (x := y) B (atoms_spec (ws := ws) B.pre _ (by rw [hw]; exact List.mem_cons_self))
  rw [lg_entry_eq]
  have hl := lv_entry av (n := maxL) hlen
  exact body p e s m _ below meth c _ B.exec B.bytes B.returns B.notSynchronized hml (atoms_spec (ws := ws) B.pre) (findClass_of_methodNamed B.named) (name_of_methodNamed B.named B.method).1 hW hR ht hl
end FWH
theorem cast_at {G : FG} {l : Launch} {cls : String} {args : Array Value} {s : State} (hX0 : FX0 G l) (hW : G.2.2.WarmedH s.vm) (hc : cls ∈ xwC) : (Cond.castable cls cls).before args s = true :=
  xwB_at hW (hX0.2.1 cls hc) _ (List.mem_cons_of_mem _ (List.mem_cons_of_mem _ (List.mem_cons_of_mem _ List.mem_cons_self)))
theorem lz_eq1 {p : Program} {l : Launch} {e : Env} {R : Room} {s : State} {m : MethodId} {args : Array Value} {below : List Frame} {meth : Method} {c : Code} {H : Heap} {locs : List Loc} {cells slots : Nat} {Q : State → Prop} {cc : ByteArray} {pc : Nat} {ls : Array Slot} {rest : List Value} (hx : p.tables.exec = Jvm.exec) (hb : c.code = cc) {x : Int32} (d0 : decode cc pc = .ok (.if_icmp .ne 7, 3)) (d3 : decode cc (pc + 3) = .ok (.iconst 1, 1)) (d4 : decode cc (pc + 4) = .ok (.goto 4, 3)) (d7 : decode cc (pc + 7) = .ok (.iconst 0, 1))
    (k : W p l e R s m args below meth c H locs cells slots Q (F0 m (pc + 8) ls (.int (if x = 1 then 1 else 0) :: rest))) : W p l e R s m args below meth c H locs cells slots Q (F0 m pc ls (.int 1 :: .int x :: rest)) := by
  refine lv_icmp_ne (tgt := pc + 7) hx hb d0 (by omega) (fun h => ?_) (fun h => ?_)
  · rw [if_neg h] at k
    exact lv_iconst (v := 0) hx hb d7 (by decide) k
  · have h9 : x = 1 := by first | exact h | exact Classical.not_not.mp h
    rw [if_pos h9] at k
    exact lv_iconst (v := 1) hx hb d3 (by decide) (lv_goto (tgt := pc + 8) hx hb d4 (by omega) k)
/-- what runs() needs, and the class that it catches last -/
def wrX : List Cond := wsL_runs ++ [.classLink RL 81 "java/lang/UnsupportedOperationException"]
set_option maxHeartbeats 4000000 in
set_option maxRecDepth 100000 in
theorem h_act_0 (G : FG) (hL : FL G) (l : Launch) (hX0 : FX0 G l) (ω : FWd) (x : Nat) (S : StZ) (h : CI G ω.2 x S) (a b c d e : Int32) : FMetX G l yL_act wsL_act ({ frames := 8, cells := 1, slots := 6, locals := 160 } : Room) [.ref x, .int 0, .int a, .int b, .int c, .int d, .int e] ω (fun vv9 τ9 => vv9 = some (.int ((ob_act S 0 a b c d e).1)) ∧ CI G τ9.2 x ((ob_act S 0 a b c d e).2) ∧ FrX x ω.2 τ9.2) (fun _ _ => False) 1 6 := by
  refine fx_ofWH (cc := cL_act) (maxL := 8) (ret := (some .int)) (hh := [(0, 65, 155, 81), (66, 87, 155, 81), (88, 93, 155, 81), (94, 99, 155, 81), (100, 106, 155, 81), (107, 113, 155, 81), (114, 120, 155, 81), (121, 127, 155, 81), (128, 133, 155, 81), (134, 140, 155, 81), (141, 147, 155, 81), (148, 154, 155, 81)]) (by decide) rfl (Nat.le_of_ble_eq_true rfl) ?_
  intro pP eE sS mI ar9 bl9 meth cD ls hx hb hr hlocks hml hts hown hnm hW hR htb hl
  have hK := hL.K hW
  have hS : va_S (fwA G) sS.heap sS.heap [] := va_S.rf
  have hl : lv_has ls 8 [(0, .ref x), (1, .int 0), (2, .int a), (3, .int b), (4, .int c), (5, .int d), (6, .int e)] := hl
  refine lv_iload_n hx hb dL_act_0 rfl (lv_at hl 1 rfl) ?_
  refine lv_tableIn (off := 59) (tgt := 60) hx hb dL_act_1 (by decide) (by decide) (by rfl) (by decide) ?_
  refine lv_aload_n hx hb dL_act_60 rfl (lv_at hl 0 rfl) ?_
  refine lv_iload_n hx hb dL_act_61 rfl (lv_at hl 2 rfl) ?_
  refine fx_call (vx_runV (As := [.int a]) (rest := []) ⟨hx, hb, hml, hown, hts⟩ (i_leaflet G hL l hX0 ω x S.1 S.2.1 S.2.2.1 S.2.2.2.1 S.2.2.2.2.1 S.2.2.2.2.2 zR h a) (cwV 1 hts gL_act_X10_leaflet rfl rfl rfl (by decide +kernel) ⟨Nat.le_of_ble_eq_true rfl, Nat.le_of_ble_eq_true rfl⟩) (fw_preV hW hK hR h.at0 rfl) rfl rfl hl.1 rfl (lv_room (Nat.le_of_ble_eq_true rfl)) dL_act_62 ⟨Nat.le_of_ble_eq_true rfl, Nat.le_of_ble_eq_true rfl⟩) hS (fun E ce q9 τ_1 H locs hx_1 hR hS hce hcv hcl => ?_) (fun v_1 τ_1 H locs hq_1 hR hS => ?_)
  · obtain ⟨⟨k1, rfl⟩, hI, hF⟩ := hx_1
    have e9 : (ob_act S 0 a b c d e).1 = -2 := if_neg (fun z => absurd (k1.symm.trans z) (by decide))
    refine vx_catch (own := RL) (name := "java/lang/UnsupportedOperationException") hown [] ⟨0, 65, 155, 81⟩ [⟨66, 87, 155, 81⟩, ⟨88, 93, 155, 81⟩, ⟨94, 99, 155, 81⟩, ⟨100, 106, 155, 81⟩, ⟨107, 113, 155, 81⟩, ⟨114, 120, 155, 81⟩, ⟨121, 127, 155, 81⟩, ⟨128, 133, 155, 81⟩, ⟨134, 140, 155, 81⟩, ⟨141, 147, 155, 81⟩, ⟨148, 154, 155, 81⟩] htb (fun z hz => Or.inl ((by decide : ∀ z ∈ ([] : List ExceptionTableEntry), covers z 62 = false) z hz)) (by decide) (by decide) (hts _ (by decide +kernel)) (cast_at hX0 hW (by decide)) hce hcv hcl ?_
    refine lv_astore (lv' := [(7, .ref q9), (0, .ref x), (1, .int 0), (2, .int a), (3, .int b), (4, .int c), (5, .int d), (6, .int e)]) hx hb dL_act_155 hl (by decide) rfl (fun ls hl => ?_)
    refine lv_bipush (v := (-2)) hx hb dL_act_157 (by decide) ?_
    refine vx_ret ?_
    refine fw_iret hx hb hr hlocks hR hS dL_act_159 ?_
    exact ⟨by rw [e9], hI, hF⟩
  · obtain ⟨rfl, k0, hI, hF⟩ := hq_1
    refine W.eq (g2 := F0 mI 65 ls [.int (actR S 0 a b c d e).1]) rfl ?_
    refine vx_ret ?_
    refine fw_iret hx hb hr hlocks hR hS dL_act_65 ?_
    have e9 : (ob_act S 0 a b c d e).1 = (actR S 0 a b c d e).1 := if_pos k0
    exact ⟨by rw [e9], hI, hF⟩

set_option maxHeartbeats 4000000 in
set_option maxRecDepth 100000 in
theorem h_act_1 (G : FG) (hL : FL G) (l : Launch) (hX0 : FX0 G l) (ω : FWd) (x : Nat) (S : StZ) (h : CI G ω.2 x S) (a b c d e : Int32) : FMetX G l yL_act wsL_act ({ frames := 8, cells := 1, slots := 6, locals := 160 } : Room) [.ref x, .int 1, .int a, .int b, .int c, .int d, .int e] ω (fun vv9 τ9 => vv9 = some (.int ((ob_act S 1 a b c d e).1)) ∧ CI G τ9.2 x ((ob_act S 1 a b c d e).2) ∧ FrX x ω.2 τ9.2) (fun _ _ => False) 1 6 := by
  refine fx_ofWH (cc := cL_act) (maxL := 8) (ret := (some .int)) (hh := [(0, 65, 155, 81), (66, 87, 155, 81), (88, 93, 155, 81), (94, 99, 155, 81), (100, 106, 155, 81), (107, 113, 155, 81), (114, 120, 155, 81), (121, 127, 155, 81), (128, 133, 155, 81), (134, 140, 155, 81), (141, 147, 155, 81), (148, 154, 155, 81)]) (by decide) rfl (Nat.le_of_ble_eq_true rfl) ?_
  intro pP eE sS mI ar9 bl9 meth cD ls hx hb hr hlocks hml hts hown hnm hW hR htb hl
  have hK := hL.K hW
  have hS : va_S (fwA G) sS.heap sS.heap [] := va_S.rf
  have hl : lv_has ls 8 [(0, .ref x), (1, .int 1), (2, .int a), (3, .int b), (4, .int c), (5, .int d), (6, .int e)] := hl
  refine lv_iload_n hx hb dL_act_0 rfl (lv_at hl 1 rfl) ?_
  refine lv_tableIn (off := 65) (tgt := 66) hx hb dL_act_1 (by decide) (by decide) (by rfl) (by decide) ?_
  refine lv_aload_n hx hb dL_act_66 rfl (lv_at hl 0 rfl) ?_
  refine lv_iload_n hx hb dL_act_67 rfl (lv_at hl 2 rfl) ?_
  refine lv_iload_n hx hb dL_act_68 rfl (lv_at hl 3 rfl) ?_
  refine lv_iload hx hb dL_act_69 (lv_at hl 4 rfl) ?_
  refine lv_iload hx hb dL_act_71 (lv_at hl 5 rfl) ?_
  refine lv_iload hx hb dL_act_73 (lv_at hl 6 rfl) ?_
  refine lv_iconst (v := 1) hx hb dL_act_75 (by decide) ?_
  refine lz_eq1 hx hb dL_act_76 dL_act_79 dL_act_80 dL_act_83 ?_
  refine fx_call (vx_runV (As := [.int a, .int b, .int c, .int d, .int (if e = 1 then 1 else 0)]) (rest := []) ⟨hx, hb, hml, hown, hts⟩ (i_step G hL l hX0 ω x S.1 S.2.1 S.2.2.1 S.2.2.2.1 S.2.2.2.2.1 S.2.2.2.2.2 zR h a b c d (if e = 1 then 1 else 0)) (cwV 5 hts gL_act_X10_step rfl rfl rfl (by decide +kernel) ⟨Nat.le_of_ble_eq_true rfl, Nat.le_of_ble_eq_true rfl⟩) (fw_preV hW hK hR h.at0 rfl) rfl rfl hl.1 rfl (lv_room (Nat.le_of_ble_eq_true rfl)) dL_act_84 ⟨Nat.le_of_ble_eq_true rfl, Nat.le_of_ble_eq_true rfl⟩) hS (fun E ce q9 τ_1 H locs hx_1 hR hS hce hcv hcl => ?_) (fun v_1 τ_1 H locs hq_1 hR hS => ?_)
  · obtain ⟨⟨k1, rfl⟩, hI, hF⟩ := hx_1
    have e9 : (ob_act S 1 a b c d e).1 = -2 := if_neg (fun z => absurd (k1.symm.trans z) (by decide))
    refine vx_catch (own := RL) (name := "java/lang/UnsupportedOperationException") hown [⟨0, 65, 155, 81⟩] ⟨66, 87, 155, 81⟩ [⟨88, 93, 155, 81⟩, ⟨94, 99, 155, 81⟩, ⟨100, 106, 155, 81⟩, ⟨107, 113, 155, 81⟩, ⟨114, 120, 155, 81⟩, ⟨121, 127, 155, 81⟩, ⟨128, 133, 155, 81⟩, ⟨134, 140, 155, 81⟩, ⟨141, 147, 155, 81⟩, ⟨148, 154, 155, 81⟩] htb (fun z hz => Or.inl ((by decide : ∀ z ∈ ([⟨0, 65, 155, 81⟩] : List ExceptionTableEntry), covers z 84 = false) z hz)) (by decide) (by decide) (hts _ (by decide +kernel)) (cast_at hX0 hW (by decide)) hce hcv hcl ?_
    refine lv_astore (lv' := [(7, .ref q9), (0, .ref x), (1, .int 1), (2, .int a), (3, .int b), (4, .int c), (5, .int d), (6, .int e)]) hx hb dL_act_155 hl (by decide) rfl (fun ls hl => ?_)
    refine lv_bipush (v := (-2)) hx hb dL_act_157 (by decide) ?_
    refine vx_ret ?_
    refine fw_iret hx hb hr hlocks hR hS dL_act_159 ?_
    exact ⟨by rw [e9], hI, hF⟩
  · obtain ⟨rfl, k0, hI, hF⟩ := hq_1
    refine W.eq (g2 := F0 mI 87 ls [.int (actR S 1 a b c d e).1]) rfl ?_
    refine vx_ret ?_
    refine fw_iret hx hb hr hlocks hR hS dL_act_87 ?_
    have e9 : (ob_act S 1 a b c d e).1 = (actR S 1 a b c d e).1 := if_pos k0
    exact ⟨by rw [e9], hI, hF⟩

set_option maxHeartbeats 4000000 in
set_option maxRecDepth 100000 in
theorem h_act_2 (G : FG) (hL : FL G) (l : Launch) (hX0 : FX0 G l) (ω : FWd) (x : Nat) (S : StZ) (h : CI G ω.2 x S) (a b c d e : Int32) : FMetX G l yL_act wsL_act ({ frames := 8, cells := 1, slots := 6, locals := 160 } : Room) [.ref x, .int 2, .int a, .int b, .int c, .int d, .int e] ω (fun vv9 τ9 => vv9 = some (.int ((ob_act S 2 a b c d e).1)) ∧ CI G τ9.2 x ((ob_act S 2 a b c d e).2) ∧ FrX x ω.2 τ9.2) (fun _ _ => False) 1 6 := by
  refine fx_ofWH (cc := cL_act) (maxL := 8) (ret := (some .int)) (hh := [(0, 65, 155, 81), (66, 87, 155, 81), (88, 93, 155, 81), (94, 99, 155, 81), (100, 106, 155, 81), (107, 113, 155, 81), (114, 120, 155, 81), (121, 127, 155, 81), (128, 133, 155, 81), (134, 140, 155, 81), (141, 147, 155, 81), (148, 154, 155, 81)]) (by decide) rfl (Nat.le_of_ble_eq_true rfl) ?_
  intro pP eE sS mI ar9 bl9 meth cD ls hx hb hr hlocks hml hts hown hnm hW hR htb hl
  have hK := hL.K hW
  have hS : va_S (fwA G) sS.heap sS.heap [] := va_S.rf
  have hl : lv_has ls 8 [(0, .ref x), (1, .int 2), (2, .int a), (3, .int b), (4, .int c), (5, .int d), (6, .int e)] := hl
  refine lv_iload_n hx hb dL_act_0 rfl (lv_at hl 1 rfl) ?_
  refine lv_tableIn (off := 87) (tgt := 88) hx hb dL_act_1 (by decide) (by decide) (by rfl) (by decide) ?_
  refine lv_aload_n hx hb dL_act_88 rfl (lv_at hl 0 rfl) ?_
  refine lv_iload_n hx hb dL_act_89 rfl (lv_at hl 2 rfl) ?_
  refine fx_call (vx_runV (As := [.int a]) (rest := []) ⟨hx, hb, hml, hown, hts⟩ (i_fold G hL l hX0 ω x S.1 S.2.1 S.2.2.1 S.2.2.2.1 S.2.2.2.2.1 S.2.2.2.2.2 zR h a) (cwV 1 hts gL_act_X10_fold rfl rfl rfl (by decide +kernel) ⟨Nat.le_of_ble_eq_true rfl, Nat.le_of_ble_eq_true rfl⟩) (fw_preV hW hK hR h.at0 rfl) rfl rfl hl.1 rfl (lv_room (Nat.le_of_ble_eq_true rfl)) dL_act_90 ⟨Nat.le_of_ble_eq_true rfl, Nat.le_of_ble_eq_true rfl⟩) hS (fun E ce q9 τ_1 H locs hx_1 hR hS hce hcv hcl => ?_) (fun v_1 τ_1 H locs hq_1 hR hS => ?_)
  · obtain ⟨⟨k1, rfl⟩, hI, hF⟩ := hx_1
    have e9 : (ob_act S 2 a b c d e).1 = -2 := if_neg (fun z => absurd (k1.symm.trans z) (by decide))
    refine vx_catch (own := RL) (name := "java/lang/UnsupportedOperationException") hown [⟨0, 65, 155, 81⟩, ⟨66, 87, 155, 81⟩] ⟨88, 93, 155, 81⟩ [⟨94, 99, 155, 81⟩, ⟨100, 106, 155, 81⟩, ⟨107, 113, 155, 81⟩, ⟨114, 120, 155, 81⟩, ⟨121, 127, 155, 81⟩, ⟨128, 133, 155, 81⟩, ⟨134, 140, 155, 81⟩, ⟨141, 147, 155, 81⟩, ⟨148, 154, 155, 81⟩] htb (fun z hz => Or.inl ((by decide : ∀ z ∈ ([⟨0, 65, 155, 81⟩, ⟨66, 87, 155, 81⟩] : List ExceptionTableEntry), covers z 90 = false) z hz)) (by decide) (by decide) (hts _ (by decide +kernel)) (cast_at hX0 hW (by decide)) hce hcv hcl ?_
    refine lv_astore (lv' := [(7, .ref q9), (0, .ref x), (1, .int 2), (2, .int a), (3, .int b), (4, .int c), (5, .int d), (6, .int e)]) hx hb dL_act_155 hl (by decide) rfl (fun ls hl => ?_)
    refine lv_bipush (v := (-2)) hx hb dL_act_157 (by decide) ?_
    refine vx_ret ?_
    refine fw_iret hx hb hr hlocks hR hS dL_act_159 ?_
    exact ⟨by rw [e9], hI, hF⟩
  · obtain ⟨rfl, k0, hI, hF⟩ := hq_1
    refine W.eq (g2 := F0 mI 93 ls [.int (actR S 2 a b c d e).1]) rfl ?_
    refine vx_ret ?_
    refine fw_iret hx hb hr hlocks hR hS dL_act_93 ?_
    have e9 : (ob_act S 2 a b c d e).1 = (actR S 2 a b c d e).1 := if_pos k0
    exact ⟨by rw [e9], hI, hF⟩

set_option maxHeartbeats 4000000 in
set_option maxRecDepth 100000 in
theorem h_act_3 (G : FG) (hL : FL G) (l : Launch) (hX0 : FX0 G l) (ω : FWd) (x : Nat) (S : StZ) (h : CI G ω.2 x S) (a b c d e : Int32) : FMetX G l yL_act wsL_act ({ frames := 8, cells := 1, slots := 6, locals := 160 } : Room) [.ref x, .int 3, .int a, .int b, .int c, .int d, .int e] ω (fun vv9 τ9 => vv9 = some (.int ((ob_act S 3 a b c d e).1)) ∧ CI G τ9.2 x ((ob_act S 3 a b c d e).2) ∧ FrX x ω.2 τ9.2) (fun _ _ => False) 1 6 := by
  refine fx_ofWH (cc := cL_act) (maxL := 8) (ret := (some .int)) (hh := [(0, 65, 155, 81), (66, 87, 155, 81), (88, 93, 155, 81), (94, 99, 155, 81), (100, 106, 155, 81), (107, 113, 155, 81), (114, 120, 155, 81), (121, 127, 155, 81), (128, 133, 155, 81), (134, 140, 155, 81), (141, 147, 155, 81), (148, 154, 155, 81)]) (by decide) rfl (Nat.le_of_ble_eq_true rfl) ?_
  intro pP eE sS mI ar9 bl9 meth cD ls hx hb hr hlocks hml hts hown hnm hW hR htb hl
  have hK := hL.K hW
  have hS : va_S (fwA G) sS.heap sS.heap [] := va_S.rf
  have hl : lv_has ls 8 [(0, .ref x), (1, .int 3), (2, .int a), (3, .int b), (4, .int c), (5, .int d), (6, .int e)] := hl
  refine lv_iload_n hx hb dL_act_0 rfl (lv_at hl 1 rfl) ?_
  refine lv_tableIn (off := 93) (tgt := 94) hx hb dL_act_1 (by decide) (by decide) (by rfl) (by decide) ?_
  refine lv_aload_n hx hb dL_act_94 rfl (lv_at hl 0 rfl) ?_
  refine lv_iload_n hx hb dL_act_95 rfl (lv_at hl 2 rfl) ?_
  refine fx_call (vx_runV (As := [.int a]) (rest := []) ⟨hx, hb, hml, hown, hts⟩ (i_unfold G hL l hX0 ω x S.1 S.2.1 S.2.2.1 S.2.2.2.1 S.2.2.2.2.1 S.2.2.2.2.2 zR h a) (cwV 1 hts gL_act_X10_unfold rfl rfl rfl (by decide +kernel) ⟨Nat.le_of_ble_eq_true rfl, Nat.le_of_ble_eq_true rfl⟩) (fw_preV hW hK hR h.at0 rfl) rfl rfl hl.1 rfl (lv_room (Nat.le_of_ble_eq_true rfl)) dL_act_96 ⟨Nat.le_of_ble_eq_true rfl, Nat.le_of_ble_eq_true rfl⟩) hS (fun E ce q9 τ_1 H locs hx_1 hR hS hce hcv hcl => ?_) (fun v_1 τ_1 H locs hq_1 hR hS => ?_)
  · obtain ⟨⟨k1, rfl⟩, hI, hF⟩ := hx_1
    have e9 : (ob_act S 3 a b c d e).1 = -2 := if_neg (fun z => absurd (k1.symm.trans z) (by decide))
    refine vx_catch (own := RL) (name := "java/lang/UnsupportedOperationException") hown [⟨0, 65, 155, 81⟩, ⟨66, 87, 155, 81⟩, ⟨88, 93, 155, 81⟩] ⟨94, 99, 155, 81⟩ [⟨100, 106, 155, 81⟩, ⟨107, 113, 155, 81⟩, ⟨114, 120, 155, 81⟩, ⟨121, 127, 155, 81⟩, ⟨128, 133, 155, 81⟩, ⟨134, 140, 155, 81⟩, ⟨141, 147, 155, 81⟩, ⟨148, 154, 155, 81⟩] htb (fun z hz => Or.inl ((by decide : ∀ z ∈ ([⟨0, 65, 155, 81⟩, ⟨66, 87, 155, 81⟩, ⟨88, 93, 155, 81⟩] : List ExceptionTableEntry), covers z 96 = false) z hz)) (by decide) (by decide) (hts _ (by decide +kernel)) (cast_at hX0 hW (by decide)) hce hcv hcl ?_
    refine lv_astore (lv' := [(7, .ref q9), (0, .ref x), (1, .int 3), (2, .int a), (3, .int b), (4, .int c), (5, .int d), (6, .int e)]) hx hb dL_act_155 hl (by decide) rfl (fun ls hl => ?_)
    refine lv_bipush (v := (-2)) hx hb dL_act_157 (by decide) ?_
    refine vx_ret ?_
    refine fw_iret hx hb hr hlocks hR hS dL_act_159 ?_
    exact ⟨by rw [e9], hI, hF⟩
  · obtain ⟨rfl, k0, hI, hF⟩ := hq_1
    refine W.eq (g2 := F0 mI 99 ls [.int (actR S 3 a b c d e).1]) rfl ?_
    refine vx_ret ?_
    refine fw_iret hx hb hr hlocks hR hS dL_act_99 ?_
    have e9 : (ob_act S 3 a b c d e).1 = (actR S 3 a b c d e).1 := if_pos k0
    exact ⟨by rw [e9], hI, hF⟩

set_option maxHeartbeats 4000000 in
set_option maxRecDepth 100000 in
theorem h_act_4 (G : FG) (hL : FL G) (l : Launch) (hX0 : FX0 G l) (ω : FWd) (x : Nat) (S : StZ) (h : CI G ω.2 x S) (a b c d e : Int32) : FMetX G l yL_act wsL_act ({ frames := 8, cells := 1, slots := 6, locals := 160 } : Room) [.ref x, .int 4, .int a, .int b, .int c, .int d, .int e] ω (fun vv9 τ9 => vv9 = some (.int ((ob_act S 4 a b c d e).1)) ∧ CI G τ9.2 x ((ob_act S 4 a b c d e).2) ∧ FrX x ω.2 τ9.2) (fun _ _ => False) 1 6 := by
  refine fx_ofWH (cc := cL_act) (maxL := 8) (ret := (some .int)) (hh := [(0, 65, 155, 81), (66, 87, 155, 81), (88, 93, 155, 81), (94, 99, 155, 81), (100, 106, 155, 81), (107, 113, 155, 81), (114, 120, 155, 81), (121, 127, 155, 81), (128, 133, 155, 81), (134, 140, 155, 81), (141, 147, 155, 81), (148, 154, 155, 81)]) (by decide) rfl (Nat.le_of_ble_eq_true rfl) ?_
  intro pP eE sS mI ar9 bl9 meth cD ls hx hb hr hlocks hml hts hown hnm hW hR htb hl
  have hK := hL.K hW
  have hS : va_S (fwA G) sS.heap sS.heap [] := va_S.rf
  have hl : lv_has ls 8 [(0, .ref x), (1, .int 4), (2, .int a), (3, .int b), (4, .int c), (5, .int d), (6, .int e)] := hl
  refine lv_iload_n hx hb dL_act_0 rfl (lv_at hl 1 rfl) ?_
  refine lv_tableIn (off := 99) (tgt := 100) hx hb dL_act_1 (by decide) (by decide) (by rfl) (by decide) ?_
  refine lv_aload_n hx hb dL_act_100 rfl (lv_at hl 0 rfl) ?_
  refine lv_iload_n hx hb dL_act_101 rfl (lv_at hl 2 rfl) ?_
  refine lv_iload_n hx hb dL_act_102 rfl (lv_at hl 3 rfl) ?_
  refine fx_call (vx_runV (As := [.int a, .int b]) (rest := []) ⟨hx, hb, hml, hown, hts⟩ (i_cousin G hL l hX0 ω x S.1 S.2.1 S.2.2.1 S.2.2.2.1 S.2.2.2.2.1 S.2.2.2.2.2 zR h a b) (cwV 2 hts gL_act_X10_cousin rfl rfl rfl (by decide +kernel) ⟨Nat.le_of_ble_eq_true rfl, Nat.le_of_ble_eq_true rfl⟩) (fw_preV hW hK hR h.at0 rfl) rfl rfl hl.1 rfl (lv_room (Nat.le_of_ble_eq_true rfl)) dL_act_103 ⟨Nat.le_of_ble_eq_true rfl, Nat.le_of_ble_eq_true rfl⟩) hS (fun E ce q9 τ_1 H locs hx_1 hR hS hce hcv hcl => ?_) (fun v_1 τ_1 H locs hq_1 hR hS => ?_)
  · obtain ⟨⟨k1, rfl⟩, hI, hF⟩ := hx_1
    have e9 : (ob_act S 4 a b c d e).1 = -2 := if_neg (fun z => absurd (k1.symm.trans z) (by decide))
    refine vx_catch (own := RL) (name := "java/lang/UnsupportedOperationException") hown [⟨0, 65, 155, 81⟩, ⟨66, 87, 155, 81⟩, ⟨88, 93, 155, 81⟩, ⟨94, 99, 155, 81⟩] ⟨100, 106, 155, 81⟩ [⟨107, 113, 155, 81⟩, ⟨114, 120, 155, 81⟩, ⟨121, 127, 155, 81⟩, ⟨128, 133, 155, 81⟩, ⟨134, 140, 155, 81⟩, ⟨141, 147, 155, 81⟩, ⟨148, 154, 155, 81⟩] htb (fun z hz => Or.inl ((by decide : ∀ z ∈ ([⟨0, 65, 155, 81⟩, ⟨66, 87, 155, 81⟩, ⟨88, 93, 155, 81⟩, ⟨94, 99, 155, 81⟩] : List ExceptionTableEntry), covers z 103 = false) z hz)) (by decide) (by decide) (hts _ (by decide +kernel)) (cast_at hX0 hW (by decide)) hce hcv hcl ?_
    refine lv_astore (lv' := [(7, .ref q9), (0, .ref x), (1, .int 4), (2, .int a), (3, .int b), (4, .int c), (5, .int d), (6, .int e)]) hx hb dL_act_155 hl (by decide) rfl (fun ls hl => ?_)
    refine lv_bipush (v := (-2)) hx hb dL_act_157 (by decide) ?_
    refine vx_ret ?_
    refine fw_iret hx hb hr hlocks hR hS dL_act_159 ?_
    exact ⟨by rw [e9], hI, hF⟩
  · obtain ⟨rfl, k0, hI, hF⟩ := hq_1
    refine W.eq (g2 := F0 mI 106 ls [.int (actR S 4 a b c d e).1]) rfl ?_
    refine vx_ret ?_
    refine fw_iret hx hb hr hlocks hR hS dL_act_106 ?_
    have e9 : (ob_act S 4 a b c d e).1 = (actR S 4 a b c d e).1 := if_pos k0
    exact ⟨by rw [e9], hI, hF⟩

set_option maxHeartbeats 4000000 in
set_option maxRecDepth 100000 in
theorem h_act_5 (G : FG) (hL : FL G) (l : Launch) (hX0 : FX0 G l) (ω : FWd) (x : Nat) (S : StZ) (h : CI G ω.2 x S) (a b c d e : Int32) : FMetX G l yL_act wsL_act ({ frames := 8, cells := 1, slots := 6, locals := 160 } : Room) [.ref x, .int 5, .int a, .int b, .int c, .int d, .int e] ω (fun vv9 τ9 => vv9 = some (.int ((ob_act S 5 a b c d e).1)) ∧ CI G τ9.2 x ((ob_act S 5 a b c d e).2) ∧ FrX x ω.2 τ9.2) (fun _ _ => False) 1 6 := by
  refine fx_ofWH (cc := cL_act) (maxL := 8) (ret := (some .int)) (hh := [(0, 65, 155, 81), (66, 87, 155, 81), (88, 93, 155, 81), (94, 99, 155, 81), (100, 106, 155, 81), (107, 113, 155, 81), (114, 120, 155, 81), (121, 127, 155, 81), (128, 133, 155, 81), (134, 140, 155, 81), (141, 147, 155, 81), (148, 154, 155, 81)]) (by decide) rfl (Nat.le_of_ble_eq_true rfl) ?_
  intro pP eE sS mI ar9 bl9 meth cD ls hx hb hr hlocks hml hts hown hnm hW hR htb hl
  have hK := hL.K hW
  have hS : va_S (fwA G) sS.heap sS.heap [] := va_S.rf
  have hl : lv_has ls 8 [(0, .ref x), (1, .int 5), (2, .int a), (3, .int b), (4, .int c), (5, .int d), (6, .int e)] := hl
  refine lv_iload_n hx hb dL_act_0 rfl (lv_at hl 1 rfl) ?_
  refine lv_tableIn (off := 106) (tgt := 107) hx hb dL_act_1 (by decide) (by decide) (by rfl) (by decide) ?_
  refine lv_aload_n hx hb dL_act_107 rfl (lv_at hl 0 rfl) ?_
  refine lv_iload_n hx hb dL_act_108 rfl (lv_at hl 2 rfl) ?_
  refine lv_iload_n hx hb dL_act_109 rfl (lv_at hl 3 rfl) ?_
  refine fx_call (vx_runV (As := [.int a, .int b]) (rest := []) ⟨hx, hb, hml, hown, hts⟩ (i_learn G hL l hX0 ω x S.1 S.2.1 S.2.2.1 S.2.2.2.1 S.2.2.2.2.1 S.2.2.2.2.2 zR h a b) (cwV 2 hts gL_act_X10_learn rfl rfl rfl (by decide +kernel) ⟨Nat.le_of_ble_eq_true rfl, Nat.le_of_ble_eq_true rfl⟩) (fw_preV hW hK hR h.at0 rfl) rfl rfl hl.1 rfl (lv_room (Nat.le_of_ble_eq_true rfl)) dL_act_110 ⟨Nat.le_of_ble_eq_true rfl, Nat.le_of_ble_eq_true rfl⟩) hS (fun E ce q9 τ_1 H locs hx_1 hR hS hce hcv hcl => ?_) (fun v_1 τ_1 H locs hq_1 hR hS => ?_)
  · obtain ⟨⟨k1, rfl⟩, hI, hF⟩ := hx_1
    have e9 : (ob_act S 5 a b c d e).1 = -2 := if_neg (fun z => absurd (k1.symm.trans z) (by decide))
    refine vx_catch (own := RL) (name := "java/lang/UnsupportedOperationException") hown [⟨0, 65, 155, 81⟩, ⟨66, 87, 155, 81⟩, ⟨88, 93, 155, 81⟩, ⟨94, 99, 155, 81⟩, ⟨100, 106, 155, 81⟩] ⟨107, 113, 155, 81⟩ [⟨114, 120, 155, 81⟩, ⟨121, 127, 155, 81⟩, ⟨128, 133, 155, 81⟩, ⟨134, 140, 155, 81⟩, ⟨141, 147, 155, 81⟩, ⟨148, 154, 155, 81⟩] htb (fun z hz => Or.inl ((by decide : ∀ z ∈ ([⟨0, 65, 155, 81⟩, ⟨66, 87, 155, 81⟩, ⟨88, 93, 155, 81⟩, ⟨94, 99, 155, 81⟩, ⟨100, 106, 155, 81⟩] : List ExceptionTableEntry), covers z 110 = false) z hz)) (by decide) (by decide) (hts _ (by decide +kernel)) (cast_at hX0 hW (by decide)) hce hcv hcl ?_
    refine lv_astore (lv' := [(7, .ref q9), (0, .ref x), (1, .int 5), (2, .int a), (3, .int b), (4, .int c), (5, .int d), (6, .int e)]) hx hb dL_act_155 hl (by decide) rfl (fun ls hl => ?_)
    refine lv_bipush (v := (-2)) hx hb dL_act_157 (by decide) ?_
    refine vx_ret ?_
    refine fw_iret hx hb hr hlocks hR hS dL_act_159 ?_
    exact ⟨by rw [e9], hI, hF⟩
  · obtain ⟨rfl, k0, hI, hF⟩ := hq_1
    refine W.eq (g2 := F0 mI 113 ls [.int (actR S 5 a b c d e).1]) rfl ?_
    refine vx_ret ?_
    refine fw_iret hx hb hr hlocks hR hS dL_act_113 ?_
    have e9 : (ob_act S 5 a b c d e).1 = (actR S 5 a b c d e).1 := if_pos k0
    exact ⟨by rw [e9], hI, hF⟩

set_option maxHeartbeats 4000000 in
set_option maxRecDepth 100000 in
theorem h_act_6 (G : FG) (hL : FL G) (l : Launch) (hX0 : FX0 G l) (ω : FWd) (x : Nat) (S : StZ) (h : CI G ω.2 x S) (a b c d e : Int32) : FMetX G l yL_act wsL_act ({ frames := 8, cells := 1, slots := 6, locals := 160 } : Room) [.ref x, .int 6, .int a, .int b, .int c, .int d, .int e] ω (fun vv9 τ9 => vv9 = some (.int ((ob_act S 6 a b c d e).1)) ∧ CI G τ9.2 x ((ob_act S 6 a b c d e).2) ∧ FrX x ω.2 τ9.2) (fun _ _ => False) 1 6 := by
  refine fx_ofWH (cc := cL_act) (maxL := 8) (ret := (some .int)) (hh := [(0, 65, 155, 81), (66, 87, 155, 81), (88, 93, 155, 81), (94, 99, 155, 81), (100, 106, 155, 81), (107, 113, 155, 81), (114, 120, 155, 81), (121, 127, 155, 81), (128, 133, 155, 81), (134, 140, 155, 81), (141, 147, 155, 81), (148, 154, 155, 81)]) (by decide) rfl (Nat.le_of_ble_eq_true rfl) ?_
  intro pP eE sS mI ar9 bl9 meth cD ls hx hb hr hlocks hml hts hown hnm hW hR htb hl
  have hK := hL.K hW
  have hS : va_S (fwA G) sS.heap sS.heap [] := va_S.rf
  have hl : lv_has ls 8 [(0, .ref x), (1, .int 6), (2, .int a), (3, .int b), (4, .int c), (5, .int d), (6, .int e)] := hl
  refine lv_iload_n hx hb dL_act_0 rfl (lv_at hl 1 rfl) ?_
  refine lv_tableIn (off := 113) (tgt := 114) hx hb dL_act_1 (by decide) (by decide) (by rfl) (by decide) ?_
  refine lv_aload_n hx hb dL_act_114 rfl (lv_at hl 0 rfl) ?_
  refine lv_iload_n hx hb dL_act_115 rfl (lv_at hl 2 rfl) ?_
  refine lv_iload_n hx hb dL_act_116 rfl (lv_at hl 3 rfl) ?_
  refine fx_call (vx_runV (As := [.int a, .int b]) (rest := []) ⟨hx, hb, hml, hown, hts⟩ (i_build G hL l hX0 ω x S.1 S.2.1 S.2.2.1 S.2.2.2.1 S.2.2.2.2.1 S.2.2.2.2.2 zR zR h a b) (cwV 2 hts gL_act_X10_build rfl rfl rfl (by decide +kernel) ⟨Nat.le_of_ble_eq_true rfl, Nat.le_of_ble_eq_true rfl⟩) (fw_preV hW hK hR h.at0 rfl) rfl rfl hl.1 rfl (lv_room (Nat.le_of_ble_eq_true rfl)) dL_act_117 ⟨Nat.le_of_ble_eq_true rfl, Nat.le_of_ble_eq_true rfl⟩) hS (fun E ce q9 τ_1 H locs hx_1 hR hS hce hcv hcl => ?_) (fun v_1 τ_1 H locs hq_1 hR hS => ?_)
  · obtain ⟨⟨k1, rfl⟩, hI, hF⟩ := hx_1
    have e9 : (ob_act S 6 a b c d e).1 = -2 := if_neg (fun z => absurd (k1.symm.trans z) (by decide))
    refine vx_catch (own := RL) (name := "java/lang/UnsupportedOperationException") hown [⟨0, 65, 155, 81⟩, ⟨66, 87, 155, 81⟩, ⟨88, 93, 155, 81⟩, ⟨94, 99, 155, 81⟩, ⟨100, 106, 155, 81⟩, ⟨107, 113, 155, 81⟩] ⟨114, 120, 155, 81⟩ [⟨121, 127, 155, 81⟩, ⟨128, 133, 155, 81⟩, ⟨134, 140, 155, 81⟩, ⟨141, 147, 155, 81⟩, ⟨148, 154, 155, 81⟩] htb (fun z hz => Or.inl ((by decide : ∀ z ∈ ([⟨0, 65, 155, 81⟩, ⟨66, 87, 155, 81⟩, ⟨88, 93, 155, 81⟩, ⟨94, 99, 155, 81⟩, ⟨100, 106, 155, 81⟩, ⟨107, 113, 155, 81⟩] : List ExceptionTableEntry), covers z 117 = false) z hz)) (by decide) (by decide) (hts _ (by decide +kernel)) (cast_at hX0 hW (by decide)) hce hcv hcl ?_
    refine lv_astore (lv' := [(7, .ref q9), (0, .ref x), (1, .int 6), (2, .int a), (3, .int b), (4, .int c), (5, .int d), (6, .int e)]) hx hb dL_act_155 hl (by decide) rfl (fun ls hl => ?_)
    refine lv_bipush (v := (-2)) hx hb dL_act_157 (by decide) ?_
    refine vx_ret ?_
    refine fw_iret hx hb hr hlocks hR hS dL_act_159 ?_
    exact ⟨by rw [e9], hI, hF⟩
  · obtain ⟨rfl, k0, hI, hF⟩ := hq_1
    refine W.eq (g2 := F0 mI 120 ls [.int (actR S 6 a b c d e).1]) rfl ?_
    refine vx_ret ?_
    refine fw_iret hx hb hr hlocks hR hS dL_act_120 ?_
    have e9 : (ob_act S 6 a b c d e).1 = (actR S 6 a b c d e).1 := if_pos k0
    exact ⟨by rw [e9], hI, hF⟩

set_option maxHeartbeats 4000000 in
set_option maxRecDepth 100000 in
theorem h_act_7 (G : FG) (hL : FL G) (l : Launch) (hX0 : FX0 G l) (ω : FWd) (x : Nat) (S : StZ) (h : CI G ω.2 x S) (a b c d e : Int32) : FMetX G l yL_act wsL_act ({ frames := 8, cells := 1, slots := 6, locals := 160 } : Room) [.ref x, .int 7, .int a, .int b, .int c, .int d, .int e] ω (fun vv9 τ9 => vv9 = some (.int ((ob_act S 7 a b c d e).1)) ∧ CI G τ9.2 x ((ob_act S 7 a b c d e).2) ∧ FrX x ω.2 τ9.2) (fun _ _ => False) 1 6 := by
  refine fx_ofWH (cc := cL_act) (maxL := 8) (ret := (some .int)) (hh := [(0, 65, 155, 81), (66, 87, 155, 81), (88, 93, 155, 81), (94, 99, 155, 81), (100, 106, 155, 81), (107, 113, 155, 81), (114, 120, 155, 81), (121, 127, 155, 81), (128, 133, 155, 81), (134, 140, 155, 81), (141, 147, 155, 81), (148, 154, 155, 81)]) (by decide) rfl (Nat.le_of_ble_eq_true rfl) ?_
  intro pP eE sS mI ar9 bl9 meth cD ls hx hb hr hlocks hml hts hown hnm hW hR htb hl
  have hK := hL.K hW
  have hS : va_S (fwA G) sS.heap sS.heap [] := va_S.rf
  have hl : lv_has ls 8 [(0, .ref x), (1, .int 7), (2, .int a), (3, .int b), (4, .int c), (5, .int d), (6, .int e)] := hl
  refine lv_iload_n hx hb dL_act_0 rfl (lv_at hl 1 rfl) ?_
  refine lv_tableIn (off := 120) (tgt := 121) hx hb dL_act_1 (by decide) (by decide) (by rfl) (by decide) ?_
  refine lv_aload_n hx hb dL_act_121 rfl (lv_at hl 0 rfl) ?_
  refine lv_iload_n hx hb dL_act_122 rfl (lv_at hl 2 rfl) ?_
  refine lv_iload_n hx hb dL_act_123 rfl (lv_at hl 3 rfl) ?_
  refine fx_call (vx_runV (As := [.int a, .int b]) (rest := []) ⟨hx, hb, hml, hown, hts⟩ (i_finish G hL l hX0 ω x S.1 S.2.1 S.2.2.1 S.2.2.2.1 S.2.2.2.2.1 S.2.2.2.2.2 zR zR h a b) (cwV 2 hts gL_act_X10_finish rfl rfl rfl (by decide +kernel) ⟨Nat.le_of_ble_eq_true rfl, Nat.le_of_ble_eq_true rfl⟩) (fw_preV hW hK hR h.at0 rfl) rfl rfl hl.1 rfl (lv_room (Nat.le_of_ble_eq_true rfl)) dL_act_124 ⟨Nat.le_of_ble_eq_true rfl, Nat.le_of_ble_eq_true rfl⟩) hS (fun E ce q9 τ_1 H locs hx_1 hR hS hce hcv hcl => ?_) (fun v_1 τ_1 H locs hq_1 hR hS => ?_)
  · obtain ⟨⟨k1, rfl⟩, hI, hF⟩ := hx_1
    have e9 : (ob_act S 7 a b c d e).1 = -2 := if_neg (fun z => absurd (k1.symm.trans z) (by decide))
    refine vx_catch (own := RL) (name := "java/lang/UnsupportedOperationException") hown [⟨0, 65, 155, 81⟩, ⟨66, 87, 155, 81⟩, ⟨88, 93, 155, 81⟩, ⟨94, 99, 155, 81⟩, ⟨100, 106, 155, 81⟩, ⟨107, 113, 155, 81⟩, ⟨114, 120, 155, 81⟩] ⟨121, 127, 155, 81⟩ [⟨128, 133, 155, 81⟩, ⟨134, 140, 155, 81⟩, ⟨141, 147, 155, 81⟩, ⟨148, 154, 155, 81⟩] htb (fun z hz => Or.inl ((by decide : ∀ z ∈ ([⟨0, 65, 155, 81⟩, ⟨66, 87, 155, 81⟩, ⟨88, 93, 155, 81⟩, ⟨94, 99, 155, 81⟩, ⟨100, 106, 155, 81⟩, ⟨107, 113, 155, 81⟩, ⟨114, 120, 155, 81⟩] : List ExceptionTableEntry), covers z 124 = false) z hz)) (by decide) (by decide) (hts _ (by decide +kernel)) (cast_at hX0 hW (by decide)) hce hcv hcl ?_
    refine lv_astore (lv' := [(7, .ref q9), (0, .ref x), (1, .int 7), (2, .int a), (3, .int b), (4, .int c), (5, .int d), (6, .int e)]) hx hb dL_act_155 hl (by decide) rfl (fun ls hl => ?_)
    refine lv_bipush (v := (-2)) hx hb dL_act_157 (by decide) ?_
    refine vx_ret ?_
    refine fw_iret hx hb hr hlocks hR hS dL_act_159 ?_
    exact ⟨by rw [e9], hI, hF⟩
  · obtain ⟨rfl, k0, hI, hF⟩ := hq_1
    refine W.eq (g2 := F0 mI 127 ls [.int (actR S 7 a b c d e).1]) rfl ?_
    refine vx_ret ?_
    refine fw_iret hx hb hr hlocks hR hS dL_act_127 ?_
    have e9 : (ob_act S 7 a b c d e).1 = (actR S 7 a b c d e).1 := if_pos k0
    exact ⟨by rw [e9], hI, hF⟩

set_option maxHeartbeats 4000000 in
set_option maxRecDepth 100000 in
theorem h_act_8 (G : FG) (hL : FL G) (l : Launch) (hX0 : FX0 G l) (ω : FWd) (x : Nat) (S : StZ) (h : CI G ω.2 x S) (a b c d e : Int32) : FMetX G l yL_act wsL_act ({ frames := 8, cells := 1, slots := 6, locals := 160 } : Room) [.ref x, .int 8, .int a, .int b, .int c, .int d, .int e] ω (fun vv9 τ9 => vv9 = some (.int ((ob_act S 8 a b c d e).1)) ∧ CI G τ9.2 x ((ob_act S 8 a b c d e).2) ∧ FrX x ω.2 τ9.2) (fun _ _ => False) 1 6 := by
  refine fx_ofWH (cc := cL_act) (maxL := 8) (ret := (some .int)) (hh := [(0, 65, 155, 81), (66, 87, 155, 81), (88, 93, 155, 81), (94, 99, 155, 81), (100, 106, 155, 81), (107, 113, 155, 81), (114, 120, 155, 81), (121, 127, 155, 81), (128, 133, 155, 81), (134, 140, 155, 81), (141, 147, 155, 81), (148, 154, 155, 81)]) (by decide) rfl (Nat.le_of_ble_eq_true rfl) ?_
  intro pP eE sS mI ar9 bl9 meth cD ls hx hb hr hlocks hml hts hown hnm hW hR htb hl
  have hK := hL.K hW
  have hS : va_S (fwA G) sS.heap sS.heap [] := va_S.rf
  have hl : lv_has ls 8 [(0, .ref x), (1, .int 8), (2, .int a), (3, .int b), (4, .int c), (5, .int d), (6, .int e)] := hl
  refine lv_iload_n hx hb dL_act_0 rfl (lv_at hl 1 rfl) ?_
  refine lv_tableIn (off := 127) (tgt := 128) hx hb dL_act_1 (by decide) (by decide) (by rfl) (by decide) ?_
  refine lv_aload_n hx hb dL_act_128 rfl (lv_at hl 0 rfl) ?_
  refine lv_iload_n hx hb dL_act_129 rfl (lv_at hl 2 rfl) ?_
  refine fx_call (vx_runV (As := [.int a]) (rest := []) ⟨hx, hb, hml, hown, hts⟩ (i_apart G hL l hX0 ω x S.1 S.2.1 S.2.2.1 S.2.2.2.1 S.2.2.2.2.1 S.2.2.2.2.2 zR zR h a) (cwV 1 hts gL_act_X10_apart rfl rfl rfl (by decide +kernel) ⟨Nat.le_of_ble_eq_true rfl, Nat.le_of_ble_eq_true rfl⟩) (fw_preV hW hK hR h.at0 rfl) rfl rfl hl.1 rfl (lv_room (Nat.le_of_ble_eq_true rfl)) dL_act_130 ⟨Nat.le_of_ble_eq_true rfl, Nat.le_of_ble_eq_true rfl⟩) hS (fun E ce q9 τ_1 H locs hx_1 hR hS hce hcv hcl => ?_) (fun v_1 τ_1 H locs hq_1 hR hS => ?_)
  · obtain ⟨⟨k1, rfl⟩, hI, hF⟩ := hx_1
    have e9 : (ob_act S 8 a b c d e).1 = -2 := if_neg (fun z => absurd (k1.symm.trans z) (by decide))
    refine vx_catch (own := RL) (name := "java/lang/UnsupportedOperationException") hown [⟨0, 65, 155, 81⟩, ⟨66, 87, 155, 81⟩, ⟨88, 93, 155, 81⟩, ⟨94, 99, 155, 81⟩, ⟨100, 106, 155, 81⟩, ⟨107, 113, 155, 81⟩, ⟨114, 120, 155, 81⟩, ⟨121, 127, 155, 81⟩] ⟨128, 133, 155, 81⟩ [⟨134, 140, 155, 81⟩, ⟨141, 147, 155, 81⟩, ⟨148, 154, 155, 81⟩] htb (fun z hz => Or.inl ((by decide : ∀ z ∈ ([⟨0, 65, 155, 81⟩, ⟨66, 87, 155, 81⟩, ⟨88, 93, 155, 81⟩, ⟨94, 99, 155, 81⟩, ⟨100, 106, 155, 81⟩, ⟨107, 113, 155, 81⟩, ⟨114, 120, 155, 81⟩, ⟨121, 127, 155, 81⟩] : List ExceptionTableEntry), covers z 130 = false) z hz)) (by decide) (by decide) (hts _ (by decide +kernel)) (cast_at hX0 hW (by decide)) hce hcv hcl ?_
    refine lv_astore (lv' := [(7, .ref q9), (0, .ref x), (1, .int 8), (2, .int a), (3, .int b), (4, .int c), (5, .int d), (6, .int e)]) hx hb dL_act_155 hl (by decide) rfl (fun ls hl => ?_)
    refine lv_bipush (v := (-2)) hx hb dL_act_157 (by decide) ?_
    refine vx_ret ?_
    refine fw_iret hx hb hr hlocks hR hS dL_act_159 ?_
    exact ⟨by rw [e9], hI, hF⟩
  · obtain ⟨rfl, k0, hI, hF⟩ := hq_1
    refine W.eq (g2 := F0 mI 133 ls [.int (actR S 8 a b c d e).1]) rfl ?_
    refine vx_ret ?_
    refine fw_iret hx hb hr hlocks hR hS dL_act_133 ?_
    have e9 : (ob_act S 8 a b c d e).1 = (actR S 8 a b c d e).1 := if_pos k0
    exact ⟨by rw [e9], hI, hF⟩

set_option maxHeartbeats 4000000 in
set_option maxRecDepth 100000 in
theorem h_act_9 (G : FG) (hL : FL G) (l : Launch) (hX0 : FX0 G l) (ω : FWd) (x : Nat) (S : StZ) (h : CI G ω.2 x S) (a b c d e : Int32) : FMetX G l yL_act wsL_act ({ frames := 8, cells := 1, slots := 6, locals := 160 } : Room) [.ref x, .int 9, .int a, .int b, .int c, .int d, .int e] ω (fun vv9 τ9 => vv9 = some (.int ((ob_act S 9 a b c d e).1)) ∧ CI G τ9.2 x ((ob_act S 9 a b c d e).2) ∧ FrX x ω.2 τ9.2) (fun _ _ => False) 1 6 := by
  refine fx_ofWH (cc := cL_act) (maxL := 8) (ret := (some .int)) (hh := [(0, 65, 155, 81), (66, 87, 155, 81), (88, 93, 155, 81), (94, 99, 155, 81), (100, 106, 155, 81), (107, 113, 155, 81), (114, 120, 155, 81), (121, 127, 155, 81), (128, 133, 155, 81), (134, 140, 155, 81), (141, 147, 155, 81), (148, 154, 155, 81)]) (by decide) rfl (Nat.le_of_ble_eq_true rfl) ?_
  intro pP eE sS mI ar9 bl9 meth cD ls hx hb hr hlocks hml hts hown hnm hW hR htb hl
  have hK := hL.K hW
  have hS : va_S (fwA G) sS.heap sS.heap [] := va_S.rf
  have hl : lv_has ls 8 [(0, .ref x), (1, .int 9), (2, .int a), (3, .int b), (4, .int c), (5, .int d), (6, .int e)] := hl
  refine lv_iload_n hx hb dL_act_0 rfl (lv_at hl 1 rfl) ?_
  refine lv_tableIn (off := 133) (tgt := 134) hx hb dL_act_1 (by decide) (by decide) (by rfl) (by decide) ?_
  refine lv_aload_n hx hb dL_act_134 rfl (lv_at hl 0 rfl) ?_
  refine lv_iload_n hx hb dL_act_135 rfl (lv_at hl 2 rfl) ?_
  refine lv_iload_n hx hb dL_act_136 rfl (lv_at hl 3 rfl) ?_
  refine fx_call (vx_runV (As := [.int a, .int b]) (rest := []) ⟨hx, hb, hml, hown, hts⟩ (i_move G hL l hX0 ω x S.1 S.2.1 S.2.2.1 S.2.2.2.1 S.2.2.2.2.1 S.2.2.2.2.2 zR h a b) (cwV 2 hts gL_act_X10_move rfl rfl rfl (by decide +kernel) ⟨Nat.le_of_ble_eq_true rfl, Nat.le_of_ble_eq_true rfl⟩) (fw_preV hW hK hR h.at0 rfl) rfl rfl hl.1 rfl (lv_room (Nat.le_of_ble_eq_true rfl)) dL_act_137 ⟨Nat.le_of_ble_eq_true rfl, Nat.le_of_ble_eq_true rfl⟩) hS (fun E ce q9 τ_1 H locs hx_1 hR hS hce hcv hcl => ?_) (fun v_1 τ_1 H locs hq_1 hR hS => ?_)
  · obtain ⟨⟨k1, rfl⟩, hI, hF⟩ := hx_1
    have e9 : (ob_act S 9 a b c d e).1 = -2 := if_neg (fun z => absurd (k1.symm.trans z) (by decide))
    refine vx_catch (own := RL) (name := "java/lang/UnsupportedOperationException") hown [⟨0, 65, 155, 81⟩, ⟨66, 87, 155, 81⟩, ⟨88, 93, 155, 81⟩, ⟨94, 99, 155, 81⟩, ⟨100, 106, 155, 81⟩, ⟨107, 113, 155, 81⟩, ⟨114, 120, 155, 81⟩, ⟨121, 127, 155, 81⟩, ⟨128, 133, 155, 81⟩] ⟨134, 140, 155, 81⟩ [⟨141, 147, 155, 81⟩, ⟨148, 154, 155, 81⟩] htb (fun z hz => Or.inl ((by decide : ∀ z ∈ ([⟨0, 65, 155, 81⟩, ⟨66, 87, 155, 81⟩, ⟨88, 93, 155, 81⟩, ⟨94, 99, 155, 81⟩, ⟨100, 106, 155, 81⟩, ⟨107, 113, 155, 81⟩, ⟨114, 120, 155, 81⟩, ⟨121, 127, 155, 81⟩, ⟨128, 133, 155, 81⟩] : List ExceptionTableEntry), covers z 137 = false) z hz)) (by decide) (by decide) (hts _ (by decide +kernel)) (cast_at hX0 hW (by decide)) hce hcv hcl ?_
    refine lv_astore (lv' := [(7, .ref q9), (0, .ref x), (1, .int 9), (2, .int a), (3, .int b), (4, .int c), (5, .int d), (6, .int e)]) hx hb dL_act_155 hl (by decide) rfl (fun ls hl => ?_)
    refine lv_bipush (v := (-2)) hx hb dL_act_157 (by decide) ?_
    refine vx_ret ?_
    refine fw_iret hx hb hr hlocks hR hS dL_act_159 ?_
    exact ⟨by rw [e9], hI, hF⟩
  · obtain ⟨rfl, k0, hI, hF⟩ := hq_1
    refine W.eq (g2 := F0 mI 140 ls [.int (actR S 9 a b c d e).1]) rfl ?_
    refine vx_ret ?_
    refine fw_iret hx hb hr hlocks hR hS dL_act_140 ?_
    have e9 : (ob_act S 9 a b c d e).1 = (actR S 9 a b c d e).1 := if_pos k0
    exact ⟨by rw [e9], hI, hF⟩

set_option maxHeartbeats 4000000 in
set_option maxRecDepth 100000 in
theorem h_act_10 (G : FG) (hL : FL G) (l : Launch) (hX0 : FX0 G l) (ω : FWd) (x : Nat) (S : StZ) (h : CI G ω.2 x S) (a b c d e : Int32) : FMetX G l yL_act wsL_act ({ frames := 8, cells := 1, slots := 6, locals := 160 } : Room) [.ref x, .int 10, .int a, .int b, .int c, .int d, .int e] ω (fun vv9 τ9 => vv9 = some (.int ((ob_act S 10 a b c d e).1)) ∧ CI G τ9.2 x ((ob_act S 10 a b c d e).2) ∧ FrX x ω.2 τ9.2) (fun _ _ => False) 1 6 := by
  refine fx_ofWH (cc := cL_act) (maxL := 8) (ret := (some .int)) (hh := [(0, 65, 155, 81), (66, 87, 155, 81), (88, 93, 155, 81), (94, 99, 155, 81), (100, 106, 155, 81), (107, 113, 155, 81), (114, 120, 155, 81), (121, 127, 155, 81), (128, 133, 155, 81), (134, 140, 155, 81), (141, 147, 155, 81), (148, 154, 155, 81)]) (by decide) rfl (Nat.le_of_ble_eq_true rfl) ?_
  intro pP eE sS mI ar9 bl9 meth cD ls hx hb hr hlocks hml hts hown hnm hW hR htb hl
  have hK := hL.K hW
  have hS : va_S (fwA G) sS.heap sS.heap [] := va_S.rf
  have hl : lv_has ls 8 [(0, .ref x), (1, .int 10), (2, .int a), (3, .int b), (4, .int c), (5, .int d), (6, .int e)] := hl
  refine lv_iload_n hx hb dL_act_0 rfl (lv_at hl 1 rfl) ?_
  refine lv_tableIn (off := 140) (tgt := 141) hx hb dL_act_1 (by decide) (by decide) (by rfl) (by decide) ?_
  refine lv_aload_n hx hb dL_act_141 rfl (lv_at hl 0 rfl) ?_
  refine lv_iload_n hx hb dL_act_142 rfl (lv_at hl 2 rfl) ?_
  refine lv_iload_n hx hb dL_act_143 rfl (lv_at hl 3 rfl) ?_
  refine fx_call (vx_runV (As := [.int a, .int b]) (rest := []) ⟨hx, hb, hml, hown, hts⟩ (i_lose G hL l hX0 ω x S.1 S.2.1 S.2.2.1 S.2.2.2.1 S.2.2.2.2.1 S.2.2.2.2.2 zR h a b) (cwV 2 hts gL_act_X10_lose rfl rfl rfl (by decide +kernel) ⟨Nat.le_of_ble_eq_true rfl, Nat.le_of_ble_eq_true rfl⟩) (fw_preV hW hK hR h.at0 rfl) rfl rfl hl.1 rfl (lv_room (Nat.le_of_ble_eq_true rfl)) dL_act_144 ⟨Nat.le_of_ble_eq_true rfl, Nat.le_of_ble_eq_true rfl⟩) hS (fun E ce q9 τ_1 H locs hx_1 hR hS hce hcv hcl => ?_) (fun v_1 τ_1 H locs hq_1 hR hS => ?_)
  · obtain ⟨⟨k1, rfl⟩, hI, hF⟩ := hx_1
    have e9 : (ob_act S 10 a b c d e).1 = -2 := if_neg (fun z => absurd (k1.symm.trans z) (by decide))
    refine vx_catch (own := RL) (name := "java/lang/UnsupportedOperationException") hown [⟨0, 65, 155, 81⟩, ⟨66, 87, 155, 81⟩, ⟨88, 93, 155, 81⟩, ⟨94, 99, 155, 81⟩, ⟨100, 106, 155, 81⟩, ⟨107, 113, 155, 81⟩, ⟨114, 120, 155, 81⟩, ⟨121, 127, 155, 81⟩, ⟨128, 133, 155, 81⟩, ⟨134, 140, 155, 81⟩] ⟨141, 147, 155, 81⟩ [⟨148, 154, 155, 81⟩] htb (fun z hz => Or.inl ((by decide : ∀ z ∈ ([⟨0, 65, 155, 81⟩, ⟨66, 87, 155, 81⟩, ⟨88, 93, 155, 81⟩, ⟨94, 99, 155, 81⟩, ⟨100, 106, 155, 81⟩, ⟨107, 113, 155, 81⟩, ⟨114, 120, 155, 81⟩, ⟨121, 127, 155, 81⟩, ⟨128, 133, 155, 81⟩, ⟨134, 140, 155, 81⟩] : List ExceptionTableEntry), covers z 144 = false) z hz)) (by decide) (by decide) (hts _ (by decide +kernel)) (cast_at hX0 hW (by decide)) hce hcv hcl ?_
    refine lv_astore (lv' := [(7, .ref q9), (0, .ref x), (1, .int 10), (2, .int a), (3, .int b), (4, .int c), (5, .int d), (6, .int e)]) hx hb dL_act_155 hl (by decide) rfl (fun ls hl => ?_)
    refine lv_bipush (v := (-2)) hx hb dL_act_157 (by decide) ?_
    refine vx_ret ?_
    refine fw_iret hx hb hr hlocks hR hS dL_act_159 ?_
    exact ⟨by rw [e9], hI, hF⟩
  · obtain ⟨rfl, k0, hI, hF⟩ := hq_1
    refine W.eq (g2 := F0 mI 147 ls [.int (actR S 10 a b c d e).1]) rfl ?_
    refine vx_ret ?_
    refine fw_iret hx hb hr hlocks hR hS dL_act_147 ?_
    have e9 : (ob_act S 10 a b c d e).1 = (actR S 10 a b c d e).1 := if_pos k0
    exact ⟨by rw [e9], hI, hF⟩

set_option maxHeartbeats 4000000 in
set_option maxRecDepth 100000 in
theorem h_act_11 (G : FG) (hL : FL G) (l : Launch) (hX0 : FX0 G l) (ω : FWd) (x : Nat) (S : StZ) (h : CI G ω.2 x S) (a b c d e : Int32) : FMetX G l yL_act wsL_act ({ frames := 8, cells := 1, slots := 6, locals := 160 } : Room) [.ref x, .int 11, .int a, .int b, .int c, .int d, .int e] ω (fun vv9 τ9 => vv9 = some (.int ((ob_act S 11 a b c d e).1)) ∧ CI G τ9.2 x ((ob_act S 11 a b c d e).2) ∧ FrX x ω.2 τ9.2) (fun _ _ => False) 1 6 := by
  refine fx_ofWH (cc := cL_act) (maxL := 8) (ret := (some .int)) (hh := [(0, 65, 155, 81), (66, 87, 155, 81), (88, 93, 155, 81), (94, 99, 155, 81), (100, 106, 155, 81), (107, 113, 155, 81), (114, 120, 155, 81), (121, 127, 155, 81), (128, 133, 155, 81), (134, 140, 155, 81), (141, 147, 155, 81), (148, 154, 155, 81)]) (by decide) rfl (Nat.le_of_ble_eq_true rfl) ?_
  intro pP eE sS mI ar9 bl9 meth cD ls hx hb hr hlocks hml hts hown hnm hW hR htb hl
  have hK := hL.K hW
  have hS : va_S (fwA G) sS.heap sS.heap [] := va_S.rf
  have hl : lv_has ls 8 [(0, .ref x), (1, .int 11), (2, .int a), (3, .int b), (4, .int c), (5, .int d), (6, .int e)] := hl
  refine lv_iload_n hx hb dL_act_0 rfl (lv_at hl 1 rfl) ?_
  refine lv_tableOut (tgt := 148) hx hb dL_act_1 (by decide) (by decide) ?_
  refine lv_aload_n hx hb dL_act_148 rfl (lv_at hl 0 rfl) ?_
  refine lv_iload_n hx hb dL_act_149 rfl (lv_at hl 2 rfl) ?_
  refine lv_iload_n hx hb dL_act_150 rfl (lv_at hl 3 rfl) ?_
  refine fx_call (vx_runV (As := [.int a, .int b]) (rest := []) ⟨hx, hb, hml, hown, hts⟩ (i_find G hL l hX0 ω x S.1 S.2.1 S.2.2.1 S.2.2.2.1 S.2.2.2.2.1 S.2.2.2.2.2 zR h a b) (cwV 2 hts gL_act_X10_find rfl rfl rfl (by decide +kernel) ⟨Nat.le_of_ble_eq_true rfl, Nat.le_of_ble_eq_true rfl⟩) (fw_preV hW hK hR h.at0 rfl) rfl rfl hl.1 rfl (lv_room (Nat.le_of_ble_eq_true rfl)) dL_act_151 ⟨Nat.le_of_ble_eq_true rfl, Nat.le_of_ble_eq_true rfl⟩) hS (fun E ce q9 τ_1 H locs hx_1 hR hS hce hcv hcl => ?_) (fun v_1 τ_1 H locs hq_1 hR hS => ?_)
  · obtain ⟨⟨k1, rfl⟩, hI, hF⟩ := hx_1
    have e9 : (ob_act S 11 a b c d e).1 = -2 := if_neg (fun z => absurd (k1.symm.trans z) (by decide))
    refine vx_catch (own := RL) (name := "java/lang/UnsupportedOperationException") hown [⟨0, 65, 155, 81⟩, ⟨66, 87, 155, 81⟩, ⟨88, 93, 155, 81⟩, ⟨94, 99, 155, 81⟩, ⟨100, 106, 155, 81⟩, ⟨107, 113, 155, 81⟩, ⟨114, 120, 155, 81⟩, ⟨121, 127, 155, 81⟩, ⟨128, 133, 155, 81⟩, ⟨134, 140, 155, 81⟩, ⟨141, 147, 155, 81⟩] ⟨148, 154, 155, 81⟩ [] htb (fun z hz => Or.inl ((by decide : ∀ z ∈ ([⟨0, 65, 155, 81⟩, ⟨66, 87, 155, 81⟩, ⟨88, 93, 155, 81⟩, ⟨94, 99, 155, 81⟩, ⟨100, 106, 155, 81⟩, ⟨107, 113, 155, 81⟩, ⟨114, 120, 155, 81⟩, ⟨121, 127, 155, 81⟩, ⟨128, 133, 155, 81⟩, ⟨134, 140, 155, 81⟩, ⟨141, 147, 155, 81⟩] : List ExceptionTableEntry), covers z 151 = false) z hz)) (by decide) (by decide) (hts _ (by decide +kernel)) (cast_at hX0 hW (by decide)) hce hcv hcl ?_
    refine lv_astore (lv' := [(7, .ref q9), (0, .ref x), (1, .int 11), (2, .int a), (3, .int b), (4, .int c), (5, .int d), (6, .int e)]) hx hb dL_act_155 hl (by decide) rfl (fun ls hl => ?_)
    refine lv_bipush (v := (-2)) hx hb dL_act_157 (by decide) ?_
    refine vx_ret ?_
    refine fw_iret hx hb hr hlocks hR hS dL_act_159 ?_
    exact ⟨by rw [e9], hI, hF⟩
  · obtain ⟨rfl, k0, hI, hF⟩ := hq_1
    refine W.eq (g2 := F0 mI 154 ls [.int (actR S 11 a b c d e).1]) rfl ?_
    refine vx_ret ?_
    refine fw_iret hx hb hr hlocks hR hS dL_act_154 ?_
    have e9 : (ob_act S 11 a b c d e).1 = (actR S 11 a b c d e).1 := if_pos k0
    exact ⟨by rw [e9], hI, hF⟩

set_option maxHeartbeats 4000000 in
set_option maxRecDepth 100000 in
theorem h_runsA (G : FG) (hL : FL G) (l : Launch) (hX0 : FX0 G l) (hN : va_Nc "java/lang/UnsupportedOperationException" "java/lang/IllegalArgumentException" G.2.2) (adr : Nat → Nat) (hFT : FTx G adr) (hJ : FJ G) (ω : FWd) (x : Nat) (S : StZ) (h : CI G ω.2 x S) (h14 : (ob_com S).2.1 14 = 1) : FMetX G l yL_runs wsL_runs ({ frames := 8, cells := 1, slots := 6, locals := 188 } : Room) [.ref x] ω (fun vv9 τ9 => vv9 = some (.int ((ob_runs S).1)) ∧ CI G τ9.2 x ((ob_runs S).2) ∧ FrX x ω.2 τ9.2) (fun _ _ => False) 1 6 := by
  refine fx_ofWH (cc := cL_runs) (maxL := 2) (ret := (some .int)) (hh := [(0, 4, 5, 270), (0, 4, 8, 81)]) (by decide) rfl (Nat.le_of_ble_eq_true rfl) ?_
  intro pP eE sS mI ar9 bl9 meth cD ls hx hb hr hlocks hml hts hown hnm hW hR htb hl
  have hK := hL.K hW
  have hS : va_S (fwA G) sS.heap sS.heap [] := va_S.rf
  have hl : lv_has ls 2 [(0, .ref x)] := hl
  have hm9 := i_commands G hL l hX0 adr hFT hJ ω x S.1 S.2.1 S.2.2.1 S.2.2.2.1 S.2.2.2.2.1 S.2.2.2.2.2 zR zR zR h
  have hob : ob_com S = ((comM S.1 S.2.1 zR zR S.2.2.1 S.2.2.2.2.1 zR).1, (comM S.1 S.2.1 zR zR S.2.2.1 S.2.2.2.2.1 zR).2.1, (comM S.1 S.2.1 zR zR S.2.2.1 S.2.2.2.2.1 zR).2.2.1, (comM S.1 S.2.1 zR zR S.2.2.1 S.2.2.2.2.1 zR).2.2.2.2.2.1, S.2.2.2) := rfl
  generalize comM S.1 S.2.1 zR zR S.2.2.1 S.2.2.2.2.1 zR = C at hm9 hob
  rw [hob] at h14
  have hor : ob_runs S = (if C.2.1 14 = 0 then C.1 else if C.2.1 14 = 1 then -1 else -2, (C.2.1, C.2.2.1, C.2.2.2.2.2.1, S.2.2.2)) := by unfold ob_runs; rw [hob]
  have hox : (ob_runs S).1 = (if C.2.1 14 = 0 then C.1 else if C.2.1 14 = 1 then -1 else -2) := by rw [hor]
  refine lv_aload_n hx hb dL_runs_0 rfl (lv_at hl 0 rfl) ?_
  refine fx_call (vx_runV (As := []) (rest := []) ⟨hx, hb, hml, hown, hts⟩ hm9 (cwV 0 hts gL_runs_X10_commands rfl rfl rfl (by decide +kernel) ⟨Nat.le_of_ble_eq_true rfl, Nat.le_of_ble_eq_true rfl⟩) (fw_preV hW hK hR h.at0 rfl) rfl rfl hl.1 rfl (lv_room (Nat.le_of_ble_eq_true rfl)) dL_runs_1 ⟨Nat.le_of_ble_eq_true rfl, Nat.le_of_ble_eq_true rfl⟩) hS (fun E ce q9 τ_1 H locs hx_1 hR hS hce hcv hcl => ?_) (fun v_1 τ_1 H locs hq_1 hR hS => ?_)
  · obtain ⟨hk9, hI, hF⟩ := hx_1
    rcases hk9 with ⟨k1, rfl⟩ | ⟨k1, rfl⟩
    · skip
      have e9 : (ob_runs S).1 = -1 := hox.trans ((if_neg (fun z => absurd (k1.symm.trans z) (by decide))).trans (if_pos k1))
      refine vx_catch (own := RL) (name := "java/lang/IllegalArgumentException") hown [] ⟨0, 4, 5, 270⟩ [⟨0, 4, 8, 81⟩] htb (fun z hz => by cases hz) (by decide) (by decide) (hts _ (by decide +kernel)) (cast_at hX0 hW (by decide)) hce hcv hcl ?_
      refine lv_astore_n (lv' := [(1, .ref q9), (0, .ref x)]) hx hb dL_runs_5 rfl hl (by decide) rfl (fun ls hl => ?_)
      refine lv_iconst (v := (-1)) hx hb dL_runs_6 (by decide) ?_
      refine vx_ret ?_
      refine fw_iret hx hb hr hlocks hR hS dL_runs_7 ?_
      exact ⟨by rw [e9], by rw [hor]; exact hI, hF⟩
    · exact absurd (k1.symm.trans h14) (by decide)
  · obtain ⟨rfl, k0, hI, hF⟩ := hq_1
    refine W.eq (g2 := F0 mI 4 ls [.int C.1]) rfl ?_
    refine vx_ret ?_
    refine fw_iret hx hb hr hlocks hR hS dL_runs_4 ?_
    have e9 : (ob_runs S).1 = C.1 := hox.trans (if_pos k0)
    exact ⟨by rw [e9], by rw [hor]; exact hI, hF⟩

set_option maxHeartbeats 4000000 in
set_option maxRecDepth 100000 in
theorem h_runs (G : FG) (hL : FL G) (l : Launch) (hX0 : FX0 G l) (hN : va_Nc "java/lang/UnsupportedOperationException" "java/lang/IllegalArgumentException" G.2.2) (adr : Nat → Nat) (hFT : FTx G adr) (hJ : FJ G) (ω : FWd) (x : Nat) (S : StZ) (h : CI G ω.2 x S) : FMetX G l yL_runs wrX ({ frames := 8, cells := 1, slots := 6, locals := 188 } : Room) [.ref x] ω (fun vv9 τ9 => vv9 = some (.int ((ob_runs S).1)) ∧ CI G τ9.2 x ((ob_runs S).2) ∧ FrX x ω.2 τ9.2) (fun _ _ => False) 1 6 := by
  refine fx_ofWH (cc := cL_runs) (maxL := 2) (ret := (some .int)) (hh := [(0, 4, 5, 270), (0, 4, 8, 81)]) (by decide) rfl (Nat.le_of_ble_eq_true rfl) ?_
  intro pP eE sS mI ar9 bl9 meth cD ls hx hb hr hlocks hml hts hown hnm hW hR htb hl
  have hK := hL.K hW
  have hS : va_S (fwA G) sS.heap sS.heap [] := va_S.rf
  have hl : lv_has ls 2 [(0, .ref x)] := hl
  have htsB := hts
  have hts : ∀ w ∈ wsL_runs, w.before ar9 sS = true := fun w hw => htsB w (List.mem_append_left _ hw)
  have hm9 := i_commands G hL l hX0 adr hFT hJ ω x S.1 S.2.1 S.2.2.1 S.2.2.2.1 S.2.2.2.2.1 S.2.2.2.2.2 zR zR zR h
  have hob : ob_com S = ((comM S.1 S.2.1 zR zR S.2.2.1 S.2.2.2.2.1 zR).1, (comM S.1 S.2.1 zR zR S.2.2.1 S.2.2.2.2.1 zR).2.1, (comM S.1 S.2.1 zR zR S.2.2.1 S.2.2.2.2.1 zR).2.2.1, (comM S.1 S.2.1 zR zR S.2.2.1 S.2.2.2.2.1 zR).2.2.2.2.2.1, S.2.2.2) := rfl
  generalize comM S.1 S.2.1 zR zR S.2.2.1 S.2.2.2.2.1 zR = C at hm9 hob
  have hor : ob_runs S = (if C.2.1 14 = 0 then C.1 else if C.2.1 14 = 1 then -1 else -2, (C.2.1, C.2.2.1, C.2.2.2.2.2.1, S.2.2.2)) := by unfold ob_runs; rw [hob]
  have hox : (ob_runs S).1 = (if C.2.1 14 = 0 then C.1 else if C.2.1 14 = 1 then -1 else -2) := by rw [hor]
  refine lv_aload_n hx hb dL_runs_0 rfl (lv_at hl 0 rfl) ?_
  refine fx_call (vx_runV (As := []) (rest := []) ⟨hx, hb, hml, hown, hts⟩ hm9 (cwV 0 hts gL_runs_X10_commands rfl rfl rfl (by decide +kernel) ⟨Nat.le_of_ble_eq_true rfl, Nat.le_of_ble_eq_true rfl⟩) (fw_preV hW hK hR h.at0 rfl) rfl rfl hl.1 rfl (lv_room (Nat.le_of_ble_eq_true rfl)) dL_runs_1 ⟨Nat.le_of_ble_eq_true rfl, Nat.le_of_ble_eq_true rfl⟩) hS (fun E ce q9 τ_1 H locs hx_1 hR hS hce hcv hcl => ?_) (fun v_1 τ_1 H locs hq_1 hR hS => ?_)
  · obtain ⟨hk9, hI, hF⟩ := hx_1
    rcases hk9 with ⟨k1, rfl⟩ | ⟨k1, rfl⟩
    · skip
      have e9 : (ob_runs S).1 = -1 := hox.trans ((if_neg (fun z => absurd (k1.symm.trans z) (by decide))).trans (if_pos k1))
      refine vx_catch (own := RL) (name := "java/lang/IllegalArgumentException") hown [] ⟨0, 4, 5, 270⟩ [⟨0, 4, 8, 81⟩] htb (fun z hz => by cases hz) (by decide) (by decide) (hts _ (by decide +kernel)) (cast_at hX0 hW (by decide)) hce hcv hcl ?_
      refine lv_astore_n (lv' := [(1, .ref q9), (0, .ref x)]) hx hb dL_runs_5 rfl hl (by decide) rfl (fun ls hl => ?_)
      refine lv_iconst (v := (-1)) hx hb dL_runs_6 (by decide) ?_
      refine vx_ret ?_
      refine fw_iret hx hb hr hlocks hR hS dL_runs_7 ?_
      exact ⟨by rw [e9], by rw [hor]; exact hI, hF⟩
    · skip
      have e9 : (ob_runs S).1 = -2 := hox.trans ((if_neg (fun z => absurd (k1.symm.trans z) (by decide))).trans (if_neg (fun z => absurd (k1.symm.trans z) (by decide))))
      refine vx_catch (own := RL) (name := "java/lang/UnsupportedOperationException") hown [⟨0, 4, 5, 270⟩] ⟨0, 4, 8, 81⟩ [] htb (fun z hz => by rw [List.mem_singleton.mp hz]; exact Or.inr ⟨by decide, "java/lang/IllegalArgumentException", hts (.classLink RL 270 "java/lang/IllegalArgumentException") (by decide +kernel), va_Nc.moved hW.alike hN⟩) (by decide) (by decide) (htsB _ (List.mem_append_right _ List.mem_cons_self)) (cast_at hX0 hW (by decide)) hce hcv hcl ?_
      refine lv_astore_n (lv' := [(1, .ref q9), (0, .ref x)]) hx hb dL_runs_8 rfl hl (by decide) rfl (fun ls hl => ?_)
      refine lv_bipush (v := (-2)) hx hb dL_runs_9 (by decide) ?_
      refine vx_ret ?_
      refine fw_iret hx hb hr hlocks hR hS dL_runs_11 ?_
      exact ⟨by rw [e9], by rw [hor]; exact hI, hF⟩
  · obtain ⟨rfl, k0, hI, hF⟩ := hq_1
    refine W.eq (g2 := F0 mI 4 ls [.int C.1]) rfl ?_
    refine vx_ret ?_
    refine fw_iret hx hb hr hlocks hR hS dL_runs_4 ?_
    have e9 : (ob_runs S).1 = C.1 := hox.trans (if_pos k0)
    exact ⟨by rw [e9], by rw [hor]; exact hI, hF⟩
