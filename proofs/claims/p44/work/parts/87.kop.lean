/-! ===== printed by program (wip/p44/lay_kop.py): the class's calls that answer ===== -/
/-- it answers v, and then the object is S -/
abbrev RQ (G : FG) (x : Nat) (ω : FWd) (v : Value) (S : StZ) : Option Value → FWd → Prop := fun vv τ => vv = some v ∧ CI G τ.2 x S ∧ FrX x ω.2 τ.2
section KOP
variable {G : FG} {l : Launch} {y : MethodName} {ws : List Cond} {rm : Room} {av : List Value} {ω : FWd} {x : Nat} {a : Value} {K : Int32 → String → Prop} {s s' g hs sv ip lt : PR} {mc ms : Nat}
theorem ci_read (hm : FMetX G l y ws rm av ω (QI G x ω a s' g hs sv ip lt) (XI G x ω K s' g hs sv ip lt) mc ms) (e : ∃ c, s' = upd s 14 c) (e0 : s' 14 = 0) (hK : ∀ E, ¬ K 0 E) : FMetX G l y ws rm av ω (RQ G x ω a (s, g, hs, sv, ip, lt)) (fun _ _ => False) mc ms := by
  obtain ⟨c, rfl⟩ := e
  refine fx_mono hm (fun v τ hq => ?_) (fun E τ hx => ?_)
  · obtain ⟨q1, -, q3, q4⟩ := hq
    exact ⟨q1, CI.st (S := (upd s 14 c, g, hs, sv, ip, lt)) q3 (fun q hq => by show s q = upd s 14 c q; rw [upd_off (show ¬ q = 14 by omega)]), q4⟩
  · have h1 := hx.1
    rw [e0] at h1
    exact hK E h1
theorem ci_readN (hm : FMet G l y ws rm av ω (QI G x ω a s' g hs sv ip lt) mc ms) (e : ∃ c, s' = upd s 14 c) : FMet G l y ws rm av ω (RQ G x ω a (s, g, hs, sv, ip, lt)) mc ms := by
  obtain ⟨c, rfl⟩ := e
  refine fx_met hm (fun v τ hq => ?_)
  obtain ⟨q1, -, q3, q4⟩ := hq
  exact ⟨q1, CI.st (S := (upd s 14 c, g, hs, sv, ip, lt)) q3 (fun q hq => by show s q = upd s 14 c q; rw [upd_off (show ¬ q = 14 by omega)]), q4⟩
theorem ci_make (hm : FMetX G l y ws rm av ω (QI G x ω a s' g hs sv ip lt) (XI G x ω K s' g hs sv ip lt) mc ms) (e0 : s' 14 = 0) (hK : ∀ E, ¬ K 0 E) : FMetX G l y ws rm av ω (RQ G x ω a (s', g, hs, sv, ip, lt)) (fun _ _ => False) mc ms := by
  refine fx_mono hm (fun v τ hq => ⟨hq.1, hq.2.2.1, hq.2.2.2⟩) (fun E τ hx => ?_)
  have h1 := hx.1
  rw [e0] at h1
  exact hK E h1
end KOP
theorem xc1_0 {e1 : String} : ∀ E, ¬ XC1 e1 0 E := fun E h => absurd h.1 (by decide)
theorem xc2_0 {e1 e2 : String} : ∀ E, ¬ XC2 e1 e2 0 E := fun E h => h.elim (fun z => absurd z.1 (by decide)) (fun z => absurd z.1 (by decide))
theorem xc3_0 {e1 e2 e3 : String} : ∀ E, ¬ XC3 e1 e2 e3 0 E := fun E h => h.elim (fun z => absurd z.1 (by decide)) (fun z => z.elim (fun z => absurd z.1 (by decide)) (fun z => absurd z.1 (by decide)))
theorem leafOfM_s (s g nd : PR) (lf wh : Int32) : ∃ c, (leafOfM s g nd lf wh).2.1 = upd s 14 c := by
  unfold leafOfM
  (repeat' split) <;> exact ⟨_, rfl⟩
theorem k_leafletOf (G : FG) (hL : FL G) (l : Launch) (hX0 : FX0 G l) (ω : FWd) (x : Nat) (S : StZ) (h : CI G ω.2 x S) (lf : Int32) (wh : Int32) (v : Int32) (e : ob_leafletOf S lf wh = (v, 0)) : FMetX G l yX10_leafletOf wsX10_leafletOf ({ frames := 7, cells := 2, slots := 12, locals := 121 } : Room) [.ref x, .int lf, .int wh] ω (RQ G x ω (.int v) S) (fun _ _ => False) 2 12 := by
  have e1 : (ob_leafletOf S lf wh).1 = v := congrArg Prod.fst e
  rw [← e1]
  exact ci_read (i_leafletOf G hL l hX0 ω x S.1 S.2.1 S.2.2.1 S.2.2.2.1 S.2.2.2.2.1 S.2.2.2.2.2 zR h lf wh) (leafOfM_s _ _ _ _ _) (congrArg Prod.snd e) xc2_0
theorem stepOfM_s (s g : PR) (lf sp wh : Int32) : ∃ c, (stepOfM s g lf sp wh).2 = upd s 14 c := by
  unfold stepOfM
  (repeat' split) <;> exact ⟨_, rfl⟩
theorem k_stepOf (G : FG) (hL : FL G) (l : Launch) (hX0 : FX0 G l) (ω : FWd) (x : Nat) (S : StZ) (h : CI G ω.2 x S) (lf : Int32) (sp : Int32) (wh : Int32) (v : Int32) (e : ob_stepOf S lf sp wh = (v, 0)) : FMetX G l yX10_stepOf wsX10_stepOf ({ frames := 7, cells := 3, slots := 18, locals := 122 } : Room) [.ref x, .int lf, .int sp, .int wh] ω (RQ G x ω (.int v) S) (fun _ _ => False) 3 18 := by
  have e1 : (ob_stepOf S lf sp wh).1 = v := congrArg Prod.fst e
  rw [← e1]
  exact ci_read (i_stepOf G hL l hX0 ω x S.1 S.2.1 S.2.2.1 S.2.2.2.1 S.2.2.2.2.1 S.2.2.2.2.2 h lf sp wh) (stepOfM_s _ _ _ _ _) (congrArg Prod.snd e) xc3_0
theorem cousOfM_s (s g : PR) (co wh : Int32) : ∃ c, (cousOfM s g co wh).2 = upd s 14 c := by
  unfold cousOfM
  (repeat' split) <;> exact ⟨_, rfl⟩
theorem k_cousinOf (G : FG) (hL : FL G) (l : Launch) (hX0 : FX0 G l) (ω : FWd) (x : Nat) (S : StZ) (h : CI G ω.2 x S) (co : Int32) (wh : Int32) (v : Int32) (e : ob_cousinOf S co wh = (v, 0)) : FMetX G l yX10_cousinOf wsX10_cousinOf ({ frames := 7, cells := 2, slots := 12, locals := 121 } : Room) [.ref x, .int co, .int wh] ω (RQ G x ω (.int v) S) (fun _ _ => False) 2 12 := by
  have e1 : (ob_cousinOf S co wh).1 = v := congrArg Prod.fst e
  rw [← e1]
  exact ci_read (i_cousinOf G hL l hX0 ω x S.1 S.2.1 S.2.2.1 S.2.2.2.1 S.2.2.2.2.1 S.2.2.2.2.2 h co wh) (cousOfM_s _ _ _ _) (congrArg Prod.snd e) xc2_0
theorem whyM_s (s g : PR) (co lf sp : Int32) : ∃ c, (whyM s g co lf sp).2 = upd s 14 c := by
  unfold whyM
  (repeat' split) <;> exact ⟨_, rfl⟩
theorem k_why (G : FG) (hL : FL G) (l : Launch) (hX0 : FX0 G l) (ω : FWd) (x : Nat) (S : StZ) (h : CI G ω.2 x S) (co : Int32) (lf : Int32) (sp : Int32) (v : Int32) (e : ob_why S co lf sp = (v, 0)) : FMetX G l yX10_why wsX10_why ({ frames := 7, cells := 3, slots := 18, locals := 122 } : Room) [.ref x, .int co, .int lf, .int sp] ω (RQ G x ω (.int v) S) (fun _ _ => False) 3 18 := by
  have e1 : (ob_why S co lf sp).1 = v := congrArg Prod.fst e
  rw [← e1]
  exact ci_read (i_why G hL l hX0 ω x S.1 S.2.1 S.2.2.1 S.2.2.2.1 S.2.2.2.2.1 S.2.2.2.2.2 h co lf sp) (whyM_s _ _ _ _ _) (congrArg Prod.snd e) xc2_0
theorem whyAgM_s (s g : PR) (co lf sp : Int32) : ∃ c, (whyAgM s g co lf sp).2 = upd s 14 c := by
  unfold whyAgM whyM
  (repeat' split) <;> exact ⟨_, rfl⟩
theorem k_whyAgain (G : FG) (hL : FL G) (l : Launch) (hX0 : FX0 G l) (ω : FWd) (x : Nat) (S : StZ) (h : CI G ω.2 x S) (co : Int32) (lf : Int32) (sp : Int32) (v : Int32) (e : ob_whyAgain S co lf sp = (v, 0)) : FMetX G l yX10_whyAgain wsX10_whyAgain ({ frames := 7, cells := 3, slots := 18, locals := 122 } : Room) [.ref x, .int co, .int lf, .int sp] ω (RQ G x ω (.int v) S) (fun _ _ => False) 3 18 := by
  have e1 : (ob_whyAgain S co lf sp).1 = v := congrArg Prod.fst e
  rw [← e1]
  exact ci_read (i_whyAgain G hL l hX0 ω x S.1 S.2.1 S.2.2.1 S.2.2.2.1 S.2.2.2.2.1 S.2.2.2.2.2 h co lf sp) (whyAgM_s _ _ _ _ _) (congrArg Prod.snd e) xc2_0
theorem wskipM_s (s g : PR) (co lf : Int32) : ∃ c, (wskipM s g co lf).2 = upd s 14 c := by
  unfold wskipM
  (repeat' split) <;> exact ⟨_, rfl⟩
theorem k_wouldSkip (G : FG) (hL : FL G) (l : Launch) (hX0 : FX0 G l) (ω : FWd) (x : Nat) (S : StZ) (h : CI G ω.2 x S) (co : Int32) (lf : Int32) (v : Int32) (e : ob_wouldSkip S co lf = (v, 0)) : FMetX G l yX10_wouldSkip wsX10_wouldSkip ({ frames := 7, cells := 2, slots := 12, locals := 121 } : Room) [.ref x, .int co, .int lf] ω (RQ G x ω (.int v) S) (fun _ _ => False) 2 12 := by
  have e1 : (ob_wouldSkip S co lf).1 = v := congrArg Prod.fst e
  rw [← e1]
  exact ci_read (i_wouldSkip G hL l hX0 ω x S.1 S.2.1 S.2.2.1 S.2.2.2.1 S.2.2.2.2.1 S.2.2.2.2.2 h co lf) (wskipM_s _ _ _ _) (congrArg Prod.snd e) xc1_0
theorem wleaveM_s (s g nd : PR) (co lf kd : Int32) : ∃ c, (wleaveM s g nd co lf kd).2.1 = upd s 14 c := by
  unfold wleaveM
  (repeat' split) <;> exact ⟨_, rfl⟩
theorem k_wouldLeave (G : FG) (hL : FL G) (l : Launch) (hX0 : FX0 G l) (ω : FWd) (x : Nat) (S : StZ) (h : CI G ω.2 x S) (co : Int32) (lf : Int32) (kd : Int32) (v : Int32) (e : ob_wouldLeave S co lf kd = (v, 0)) : FMetX G l yX10_wouldLeave wsX10_wouldLeave ({ frames := 7, cells := 3, slots := 18, locals := 121 } : Room) [.ref x, .int co, .int lf, .int kd] ω (RQ G x ω (.int v) S) (fun _ _ => False) 3 18 := by
  have e1 : (ob_wouldLeave S co lf kd).1 = v := congrArg Prod.fst e
  rw [← e1]
  exact ci_read (i_wouldLeave G hL l hX0 ω x S.1 S.2.1 S.2.2.1 S.2.2.2.1 S.2.2.2.2.1 S.2.2.2.2.2 zR h co lf kd) (wleaveM_s _ _ _ _ _ _) (congrArg Prod.snd e) xc2_0
theorem bcouM_s (s g : PR) (lf : Int32) : ∃ c, (bcouM s g lf).2 = upd s 14 c := by
  unfold bcouM
  (repeat' split) <;> exact ⟨_, rfl⟩
theorem k_bestCousin (G : FG) (hL : FL G) (l : Launch) (hX0 : FX0 G l) (ω : FWd) (x : Nat) (S : StZ) (h : CI G ω.2 x S) (lf : Int32) (v : Int32) (e : ob_bestCousin S lf = (v, 0)) : FMetX G l yX10_bestCousin wsX10_bestCousin ({ frames := 7, cells := 2, slots := 12, locals := 121 } : Room) [.ref x, .int lf] ω (RQ G x ω (.int v) S) (fun _ _ => False) 2 12 := by
  have e1 : (ob_bestCousin S lf).1 = v := congrArg Prod.fst e
  rw [← e1]
  exact ci_read (i_bestCousin G hL l hX0 ω x S.1 S.2.1 S.2.2.1 S.2.2.2.1 S.2.2.2.2.1 S.2.2.2.2.2 h lf) (bcouM_s _ _ _) (congrArg Prod.snd e) xc2_0
theorem blanM_s (s g : PR) (co lf : Int32) : ∃ c, (blanM s g co lf).2 = upd s 14 c := by
  unfold blanM
  (repeat' split) <;> exact ⟨_, rfl⟩
theorem k_bestLanguage (G : FG) (hL : FL G) (l : Launch) (hX0 : FX0 G l) (ω : FWd) (x : Nat) (S : StZ) (h : CI G ω.2 x S) (co : Int32) (lf : Int32) (v : Int32) (e : ob_bestLanguage S co lf = (v, 0)) : FMetX G l yX10_bestLanguage wsX10_bestLanguage ({ frames := 7, cells := 3, slots := 18, locals := 121 } : Room) [.ref x, .int co, .int lf] ω (RQ G x ω (.int v) S) (fun _ _ => False) 3 18 := by
  have e1 : (ob_bestLanguage S co lf).1 = v := congrArg Prod.fst e
  rw [← e1]
  exact ci_read (i_bestLanguage G hL l hX0 ω x S.1 S.2.1 S.2.2.1 S.2.2.2.1 S.2.2.2.2.1 S.2.2.2.2.2 h co lf) (blanM_s _ _ _ _) (congrArg Prod.snd e) xc2_0
theorem bfolM_s (s g : PR) (co lf : Int32) : ∃ c, (bfolM s g co lf).2 = upd s 14 c := by
  unfold bfolM
  (repeat' split) <;> exact ⟨_, rfl⟩
theorem k_bestFolds (G : FG) (hL : FL G) (l : Launch) (hX0 : FX0 G l) (ω : FWd) (x : Nat) (S : StZ) (h : CI G ω.2 x S) (co : Int32) (lf : Int32) (v : Int32) (e : ob_bestFolds S co lf = (v, 0)) : FMetX G l yX10_bestFolds wsX10_bestFolds ({ frames := 7, cells := 2, slots := 12, locals := 121 } : Room) [.ref x, .int co, .int lf] ω (RQ G x ω (.int v) S) (fun _ _ => False) 2 12 := by
  have e1 : (ob_bestFolds S co lf).1 = v := congrArg Prod.fst e
  rw [← e1]
  exact ci_read (i_bestFolds G hL l hX0 ω x S.1 S.2.1 S.2.2.1 S.2.2.2.1 S.2.2.2.2.1 S.2.2.2.2.2 h co lf) (bfolM_s _ _ _ _) (congrArg Prod.snd e) xc1_0
theorem canM_s (s g nd : PR) (lf sp : Int32) : ∃ c, (canM s g nd lf sp).2.1 = upd s 14 c := by
  unfold canM
  (repeat' split) <;> exact ⟨_, rfl⟩
theorem k_canFinish (G : FG) (hL : FL G) (l : Launch) (hX0 : FX0 G l) (ω : FWd) (x : Nat) (S : StZ) (h : CI G ω.2 x S) (lf : Int32) (sp : Int32) (v : Int32) (e : ob_canFinish S lf sp = (v, 0)) : FMetX G l yX10_canFinish wsX10_canFinish ({ frames := 7, cells := 2, slots := 12, locals := 122 } : Room) [.ref x, .int lf, .int sp] ω (RQ G x ω (.int v) S) (fun _ _ => False) 2 12 := by
  have e1 : (ob_canFinish S lf sp).1 = v := congrArg Prod.fst e
  rw [← e1]
  exact ci_read (i_canFinish G hL l hX0 ω x S.1 S.2.1 S.2.2.1 S.2.2.2.1 S.2.2.2.2.1 S.2.2.2.2.2 zR h lf sp) (canM_s _ _ _ _ _) (congrArg Prod.snd e) xc2_0
theorem tinM_s (s g : PR) (kd : Int32) : ∃ c, (tinM s g kd).2 = upd s 14 c := by
  unfold tinM
  (repeat' split) <;> exact ⟨_, rfl⟩
theorem k_tin (G : FG) (hL : FL G) (l : Launch) (hX0 : FX0 G l) (ω : FWd) (x : Nat) (S : StZ) (h : CI G ω.2 x S) (kd : Int32) (v : Int32) (e : ob_tin S kd = (v, 0)) : FMetX G l yX10_tin wsX10_tin ({ frames := 7, cells := 1, slots := 6, locals := 121 } : Room) [.ref x, .int kd] ω (RQ G x ω (.int v) S) (fun _ _ => False) 1 6 := by
  have e1 : (ob_tin S kd).1 = v := congrArg Prod.fst e
  rw [← e1]
  exact ci_read (i_tin G hL l hX0 ω x S.1 S.2.1 S.2.2.1 S.2.2.2.1 S.2.2.2.2.1 S.2.2.2.2.2 h kd) (tinM_s _ _ _) (congrArg Prod.snd e) xc1_0
theorem lostM_s (s g : PR) (kd : Int32) : ∃ c, (lostM s g kd).2 = upd s 14 c := by
  unfold lostM
  (repeat' split) <;> exact ⟨_, rfl⟩
theorem k_lost (G : FG) (hL : FL G) (l : Launch) (hX0 : FX0 G l) (ω : FWd) (x : Nat) (S : StZ) (h : CI G ω.2 x S) (kd : Int32) (v : Int32) (e : ob_lost S kd = (v, 0)) : FMetX G l yX10_lost wsX10_lost ({ frames := 7, cells := 1, slots := 6, locals := 121 } : Room) [.ref x, .int kd] ω (RQ G x ω (.int v) S) (fun _ _ => False) 1 6 := by
  have e1 : (ob_lost S kd).1 = v := congrArg Prod.fst e
  rw [← e1]
  exact ci_read (i_lost G hL l hX0 ω x S.1 S.2.1 S.2.2.1 S.2.2.2.1 S.2.2.2.2.1 S.2.2.2.2.2 h kd) (lostM_s _ _ _) (congrArg Prod.snd e) xc1_0
theorem shelfM_s (s g : PR) (sh : Int32) : ∃ c, (shelfM s g sh).2 = upd s 14 c := by
  unfold shelfM
  (repeat' split) <;> exact ⟨_, rfl⟩
theorem k_shelfOf (G : FG) (hL : FL G) (l : Launch) (hX0 : FX0 G l) (ω : FWd) (x : Nat) (S : StZ) (h : CI G ω.2 x S) (sh : Int32) (v : Int32) (e : ob_shelfOf S sh = (v, 0)) : FMetX G l yX10_shelfOf wsX10_shelfOf ({ frames := 6, cells := 1, slots := 6, locals := 100 } : Room) [.ref x, .int sh] ω (RQ G x ω (.int v) S) (fun _ _ => False) 1 6 := by
  have e1 : (ob_shelfOf S sh).1 = v := congrArg Prod.fst e
  rw [← e1]
  exact ci_read (i_shelfOf G hL l hX0 ω x S.1 S.2.1 S.2.2.1 S.2.2.2.1 S.2.2.2.2.1 S.2.2.2.2.2 h sh) (shelfM_s _ _ _) (congrArg Prod.snd e) xc1_0
theorem rankM_s (s g : PR) (ms pl : Int32) : ∃ c, (rankM s g ms pl).2 = upd s 14 c := by
  unfold rankM
  (repeat' split) <;> exact ⟨_, rfl⟩
theorem k_ranked (G : FG) (hL : FL G) (l : Launch) (hX0 : FX0 G l) (ω : FWd) (x : Nat) (S : StZ) (h : CI G ω.2 x S) (ms : Int32) (pl : Int32) (v : Int32) (e : ob_ranked S ms pl = (v, 0)) : FMetX G l yX10_ranked wsX10_ranked ({ frames := 6, cells := 1, slots := 6, locals := 100 } : Room) [.ref x, .int ms, .int pl] ω (RQ G x ω (.int v) S) (fun _ _ => False) 1 6 := by
  have e1 : (ob_ranked S ms pl).1 = v := congrArg Prod.fst e
  rw [← e1]
  exact ci_read (i_ranked G hL l hX0 ω x S.1 S.2.1 S.2.2.1 S.2.2.2.1 S.2.2.2.2.1 S.2.2.2.2.2 h ms pl) (rankM_s _ _ _ _) (congrArg Prod.snd e) xc2_0
theorem reasM_s (s g : PR) (wh : Int32) : ∃ c, (reasM s g wh).2 = upd s 14 c := by
  unfold reasM
  (repeat' split) <;> exact ⟨_, rfl⟩
theorem k_reason (G : FG) (hL : FL G) (l : Launch) (hX0 : FX0 G l) (ω : FWd) (x : Nat) (S : StZ) (h : CI G ω.2 x S) (wh : Int32) (v : Int32) (e : ob_reason S wh = (v, 0)) : FMetX G l yX10_reason wsX10_reason ({ frames := 6, cells := 1, slots := 6, locals := 100 } : Room) [.ref x, .int wh] ω (RQ G x ω (.int v) S) (fun _ _ => False) 1 6 := by
  have e1 : (ob_reason S wh).1 = v := congrArg Prod.fst e
  rw [← e1]
  exact ci_read (i_reason G hL l hX0 ω x S.1 S.2.1 S.2.2.1 S.2.2.2.1 S.2.2.2.2.1 S.2.2.2.2.2 h wh) (reasM_s _ _ _) (congrArg Prod.snd e) xc2_0
theorem accM_s (s g : PR) (wh : Int32) : ∃ c, (accM s g wh).2 = upd s 14 c := by
  unfold accM
  (repeat' split) <;> exact ⟨_, rfl⟩
theorem k_account (G : FG) (hL : FL G) (l : Launch) (hX0 : FX0 G l) (ω : FWd) (x : Nat) (S : StZ) (h : CI G ω.2 x S) (wh : Int32) (v : Int32) (e : ob_account S wh = (v, 0)) : FMetX G l yX10_account wsX10_account ({ frames := 6, cells := 1, slots := 6, locals := 100 } : Room) [.ref x, .int wh] ω (RQ G x ω (.int v) S) (fun _ _ => False) 1 6 := by
  have e1 : (ob_account S wh).1 = v := congrArg Prod.fst e
  rw [← e1]
  exact ci_read (i_account G hL l hX0 ω x S.1 S.2.1 S.2.2.1 S.2.2.2.1 S.2.2.2.2.1 S.2.2.2.2.2 h wh) (accM_s _ _ _) (congrArg Prod.snd e) xc1_0
theorem evenM_s (s g : PR) : ∃ c, (evenM s g ).2 = upd s 14 c := by
  unfold evenM
  (repeat' split) <;> exact ⟨_, rfl⟩
theorem k_isEven (G : FG) (hL : FL G) (l : Launch) (hX0 : FX0 G l) (ω : FWd) (x : Nat) (S : StZ) (h : CI G ω.2 x S) (v : Int32) (e : ob_isEven S  = (v, 0)) : FMet G l yX10_isEven wsX10_isEven ({ frames := 3, cells := 0, slots := 0, locals := 69 } : Room) [.ref x] ω (RQ G x ω (.int v) S) 0 0 := by
  have e1 : (ob_isEven S ).1 = v := congrArg Prod.fst e
  rw [← e1]
  exact ci_readN (i_isEven G hL l ω x S.1 S.2.1 S.2.2.1 S.2.2.2.1 S.2.2.2.2.1 S.2.2.2.2.2 h) (evenM_s _ _)
theorem fposM_s (s g : PR) : ∃ c, (fposM s g ).2 = upd s 14 c := by
  unfold fposM
  (repeat' split) <;> exact ⟨_, rfl⟩
theorem k_faultPosition (G : FG) (hL : FL G) (l : Launch) (hX0 : FX0 G l) (ω : FWd) (x : Nat) (S : StZ) (h : CI G ω.2 x S) (v : Int32) (e : ob_faultPosition S  = (v, 0)) : FMet G l yX10_faultPosition wsX10_faultPosition ({ frames := 0, cells := 0, slots := 0, locals := 0 } : Room) [.ref x] ω (RQ G x ω (.int v) S) 0 0 := by
  have e1 : (ob_faultPosition S ).1 = v := congrArg Prod.fst e
  rw [← e1]
  exact ci_readN (i_faultPosition G hL l ω x S.1 S.2.1 S.2.2.1 S.2.2.2.1 S.2.2.2.2.1 S.2.2.2.2.2 h) (fposM_s _ _)
theorem couldM_s (s g nd bf : PR) (lf : Int32) : (∃ c, (couldM s g nd bf lf).2.1 = upd s 14 c) ∧ (couldM s g nd bf lf).2.2.1 = g := by
  unfold couldM
  split
  · exact ⟨⟨0, rfl⟩, rfl⟩
  · exact ⟨⟨1, rfl⟩, rfl⟩
theorem k_couldFinish (G : FG) (hL : FL G) (l : Launch) (hX0 : FX0 G l) (ω : FWd) (x : Nat) (S : StZ) (h : CI G ω.2 x S) (lf : Int32) (v : Int32) (e : ob_could S lf = (v, 0)) : FMetX G l yX10_couldFinish wsX10_couldFinish ({ frames := 7, cells := 1, slots := 6, locals := 121 } : Room) [.ref x, .int lf] ω (RQ G x ω (.int v) S) (fun _ _ => False) 1 6 := by
  have e1 : (ob_could S lf).1 = v := congrArg Prod.fst e
  rw [← e1]
  have hm := i_couldFinish G hL l hX0 ω x S.1 S.2.1 S.2.2.1 S.2.2.2.1 S.2.2.2.2.1 S.2.2.2.2.2 zR zR h lf
  rw [(couldM_s S.1 S.2.1 zR zR lf).2] at hm
  exact ci_read hm (couldM_s _ _ _ _ _).1 (congrArg Prod.snd e) xc1_0
theorem shareM_s (s g : PR) : ∃ c, (shareM s g).2 = upd s 14 c := by
  unfold shareM
  (repeat' split) <;> exact ⟨_, rfl⟩
theorem k_skippedShare (G : FG) (hL : FL G) (l : Launch) (hX0 : FX0 G l) (ω : FWd) (x : Nat) (S : StZ) (h : CI G ω.2 x S) (v : UInt32) (e : ob_share S = (v, 0)) : FMetX G l yX10_skippedShare wsX10_skippedShare ({ frames := 6, cells := 1, slots := 6, locals := 100 } : Room) [.ref x] ω (RQ G x ω (.float v) S) (fun _ _ => False) 1 6 := by
  have e1 : (ob_share S).1 = v := congrArg Prod.fst e
  rw [← e1]
  exact ci_read (i_skippedShare G hL l hX0 ω x S.1 S.2.1 S.2.2.1 S.2.2.2.1 S.2.2.2.2.1 S.2.2.2.2.2 h) (shareM_s _ _) (congrArg Prod.snd e) xc1_0
theorem k_leaflet (G : FG) (hL : FL G) (l : Launch) (hX0 : FX0 G l) (ω : FWd) (x : Nat) (S : StZ) (h : CI G ω.2 x S) (sh : Int32) (v : Int32) (e : (ob_leaflet S sh).1 = v) (e0 : (ob_leaflet S sh).2.1 14 = 0) : FMetX G l yX10_leaflet wsX10_leaflet ({ frames := 7, cells := 1, slots := 6, locals := 124 } : Room) [.ref x, .int sh] ω (RQ G x ω (.int v) (ob_leaflet S sh).2) (fun _ _ => False) 1 6 := by
  rw [← e]
  exact ci_make (i_leaflet G hL l hX0 ω x S.1 S.2.1 S.2.2.1 S.2.2.2.1 S.2.2.2.2.1 S.2.2.2.2.2 zR h sh) e0 xc1_0
theorem k_step (G : FG) (hL : FL G) (l : Launch) (hX0 : FX0 G l) (ω : FWd) (x : Nat) (S : StZ) (h : CI G ω.2 x S) (lf : Int32) (kd : Int32) (ps : Int32) (la : Int32) (two : Int32) (v : Int32) (e : (ob_step S lf kd ps la two).1 = v) (e0 : (ob_step S lf kd ps la two).2.1 14 = 0) : FMetX G l yX10_step wsX10_step ({ frames := 7, cells := 1, slots := 6, locals := 124 } : Room) [.ref x, .int lf, .int kd, .int ps, .int la, .int two] ω (RQ G x ω (.int v) (ob_step S lf kd ps la two).2) (fun _ _ => False) 1 6 := by
  rw [← e]
  exact ci_make (i_step G hL l hX0 ω x S.1 S.2.1 S.2.2.1 S.2.2.2.1 S.2.2.2.2.1 S.2.2.2.2.2 zR h lf kd ps la two) e0 xc1_0
theorem k_fold (G : FG) (hL : FL G) (l : Launch) (hX0 : FX0 G l) (ω : FWd) (x : Nat) (S : StZ) (h : CI G ω.2 x S) (lf : Int32) (v : Int32) (e : (ob_fold S lf).1 = v) (e0 : (ob_fold S lf).2.1 14 = 0) : FMetX G l yX10_fold wsX10_fold ({ frames := 7, cells := 1, slots := 6, locals := 124 } : Room) [.ref x, .int lf] ω (RQ G x ω (.int v) (ob_fold S lf).2) (fun _ _ => False) 1 6 := by
  rw [← e]
  exact ci_make (i_fold G hL l hX0 ω x S.1 S.2.1 S.2.2.1 S.2.2.2.1 S.2.2.2.2.1 S.2.2.2.2.2 zR h lf) e0 xc1_0
theorem k_unfold (G : FG) (hL : FL G) (l : Launch) (hX0 : FX0 G l) (ω : FWd) (x : Nat) (S : StZ) (h : CI G ω.2 x S) (lf : Int32) (v : Int32) (e : (ob_unfold S lf).1 = v) (e0 : (ob_unfold S lf).2.1 14 = 0) : FMetX G l yX10_unfold wsX10_unfold ({ frames := 7, cells := 1, slots := 6, locals := 124 } : Room) [.ref x, .int lf] ω (RQ G x ω (.int v) (ob_unfold S lf).2) (fun _ _ => False) 1 6 := by
  rw [← e]
  exact ci_make (i_unfold G hL l hX0 ω x S.1 S.2.1 S.2.2.1 S.2.2.2.1 S.2.2.2.2.1 S.2.2.2.2.2 zR h lf) e0 xc1_0
theorem k_cousin (G : FG) (hL : FL G) (l : Launch) (hX0 : FX0 G l) (ω : FWd) (x : Nat) (S : StZ) (h : CI G ω.2 x S) (bo : Int32) (la : Int32) (v : Int32) (e : (ob_cousin S bo la).1 = v) (e0 : (ob_cousin S bo la).2.1 14 = 0) : FMetX G l yX10_cousin wsX10_cousin ({ frames := 7, cells := 1, slots := 6, locals := 124 } : Room) [.ref x, .int bo, .int la] ω (RQ G x ω (.int v) (ob_cousin S bo la).2) (fun _ _ => False) 1 6 := by
  rw [← e]
  exact ci_make (i_cousin G hL l hX0 ω x S.1 S.2.1 S.2.2.1 S.2.2.2.1 S.2.2.2.2.1 S.2.2.2.2.2 zR h bo la) e0 xc1_0
theorem k_learn (G : FG) (hL : FL G) (l : Launch) (hX0 : FX0 G l) (ω : FWd) (x : Nat) (S : StZ) (h : CI G ω.2 x S) (co : Int32) (la : Int32) (v : Int32) (e : (ob_learn S co la).1 = v) (e0 : (ob_learn S co la).2.1 14 = 0) : FMetX G l yX10_learn wsX10_learn ({ frames := 7, cells := 1, slots := 6, locals := 124 } : Room) [.ref x, .int co, .int la] ω (RQ G x ω (.int v) (ob_learn S co la).2) (fun _ _ => False) 1 6 := by
  rw [← e]
  exact ci_make (i_learn G hL l hX0 ω x S.1 S.2.1 S.2.2.1 S.2.2.2.1 S.2.2.2.2.1 S.2.2.2.2.2 zR h co la) e0 xc1_0
theorem k_build (G : FG) (hL : FL G) (l : Launch) (hX0 : FX0 G l) (ω : FWd) (x : Nat) (S : StZ) (h : CI G ω.2 x S) (co : Int32) (lf : Int32) (v : Int32) (e : (ob_build S co lf).1 = v) (e0 : (ob_build S co lf).2.1 14 = 0) : FMetX G l yX10_build wsX10_build ({ frames := 7, cells := 1, slots := 6, locals := 124 } : Room) [.ref x, .int co, .int lf] ω (RQ G x ω (.int v) (ob_build S co lf).2) (fun _ _ => False) 1 6 := by
  rw [← e]
  exact ci_make (i_build G hL l hX0 ω x S.1 S.2.1 S.2.2.1 S.2.2.2.1 S.2.2.2.2.1 S.2.2.2.2.2 zR zR h co lf) e0 xc1_0
theorem k_finish (G : FG) (hL : FL G) (l : Launch) (hX0 : FX0 G l) (ω : FWd) (x : Nat) (S : StZ) (h : CI G ω.2 x S) (lf : Int32) (sp : Int32) (v : Int32) (e : (ob_finish S lf sp).1 = v) (e0 : (ob_finish S lf sp).2.1 14 = 0) : FMetX G l yX10_finish wsX10_finish ({ frames := 7, cells := 1, slots := 6, locals := 124 } : Room) [.ref x, .int lf, .int sp] ω (RQ G x ω (.int v) (ob_finish S lf sp).2) (fun _ _ => False) 1 6 := by
  rw [← e]
  exact ci_make (i_finish G hL l hX0 ω x S.1 S.2.1 S.2.2.1 S.2.2.2.1 S.2.2.2.2.1 S.2.2.2.2.2 zR zR h lf sp) e0 xc1_0
theorem k_apart (G : FG) (hL : FL G) (l : Launch) (hX0 : FX0 G l) (ω : FWd) (x : Nat) (S : StZ) (h : CI G ω.2 x S) (lf : Int32) (v : Int32) (e : (ob_apart S lf).1 = v) (e0 : (ob_apart S lf).2.1 14 = 0) : FMetX G l yX10_apart wsX10_apart ({ frames := 7, cells := 1, slots := 6, locals := 124 } : Room) [.ref x, .int lf] ω (RQ G x ω (.int v) (ob_apart S lf).2) (fun _ _ => False) 1 6 := by
  rw [← e]
  exact ci_make (i_apart G hL l hX0 ω x S.1 S.2.1 S.2.2.1 S.2.2.2.1 S.2.2.2.2.1 S.2.2.2.2.2 zR zR h lf) e0 xc1_0
theorem k_move (G : FG) (hL : FL G) (l : Launch) (hX0 : FX0 G l) (ω : FWd) (x : Nat) (S : StZ) (h : CI G ω.2 x S) (lf : Int32) (sh : Int32) (v : Int32) (e : (ob_move S lf sh).1 = v) (e0 : (ob_move S lf sh).2.1 14 = 0) : FMetX G l yX10_move wsX10_move ({ frames := 7, cells := 1, slots := 6, locals := 124 } : Room) [.ref x, .int lf, .int sh] ω (RQ G x ω (.int v) (ob_move S lf sh).2) (fun _ _ => False) 1 6 := by
  rw [← e]
  exact ci_make (i_move G hL l hX0 ω x S.1 S.2.1 S.2.2.1 S.2.2.2.1 S.2.2.2.2.1 S.2.2.2.2.2 zR h lf sh) e0 xc1_0
theorem k_lose (G : FG) (hL : FL G) (l : Launch) (hX0 : FX0 G l) (ω : FWd) (x : Nat) (S : StZ) (h : CI G ω.2 x S) (kd : Int32) (ps : Int32) (v : Int32) (e : (ob_lose S kd ps).1 = v) (e0 : (ob_lose S kd ps).2.1 14 = 0) : FMetX G l yX10_lose wsX10_lose ({ frames := 7, cells := 1, slots := 6, locals := 124 } : Room) [.ref x, .int kd, .int ps] ω (RQ G x ω (.int v) (ob_lose S kd ps).2) (fun _ _ => False) 1 6 := by
  rw [← e]
  exact ci_make (i_lose G hL l hX0 ω x S.1 S.2.1 S.2.2.1 S.2.2.2.1 S.2.2.2.2.1 S.2.2.2.2.2 zR h kd ps) e0 xc1_0
theorem k_find (G : FG) (hL : FL G) (l : Launch) (hX0 : FX0 G l) (ω : FWd) (x : Nat) (S : StZ) (h : CI G ω.2 x S) (kd : Int32) (ps : Int32) (v : Int32) (e : (ob_find S kd ps).1 = v) (e0 : (ob_find S kd ps).2.1 14 = 0) : FMetX G l yX10_find wsX10_find ({ frames := 7, cells := 1, slots := 6, locals := 124 } : Room) [.ref x, .int kd, .int ps] ω (RQ G x ω (.int v) (ob_find S kd ps).2) (fun _ _ => False) 1 6 := by
  rw [← e]
  exact ci_make (i_find G hL l hX0 ω x S.1 S.2.1 S.2.2.1 S.2.2.2.1 S.2.2.2.2.1 S.2.2.2.2.2 zR h kd ps) e0 xc1_0
theorem k_undo (G : FG) (hL : FL G) (l : Launch) (hX0 : FX0 G l) (ω : FWd) (x : Nat) (S : StZ) (h : CI G ω.2 x S)  (v : Int32) (e : (ob_undo S).1 = v) (e0 : (ob_undo S).2.1 14 = 0) : FMetX G l yX10_undo wsX10_undo ({ frames := 6, cells := 1, slots := 6, locals := 124 } : Room) [.ref x] ω (RQ G x ω (.int v) (ob_undo S).2) (fun _ _ => False) 1 6 := by
  rw [← e]
  exact ci_make (i_undo G hL l hX0 ω x S.1 S.2.1 S.2.2.1 S.2.2.2.1 S.2.2.2.2.1 S.2.2.2.2.2 h ) e0 xc1_0
theorem k_restore (G : FG) (hL : FL G) (l : Launch) (hX0 : FX0 G l) (ω : FWd) (x : Nat) (S : StZ) (h : CI G ω.2 x S)  (v : Int32) (e : (ob_restore S).1 = v) (e0 : (ob_restore S).2.1 14 = 0) : FMetX G l yX10_restore wsX10_restore ({ frames := 6, cells := 1, slots := 6, locals := 103 } : Room) [.ref x] ω (RQ G x ω (.int v) (ob_restore S).2) (fun _ _ => False) 1 6 := by
  rw [← e]
  exact ci_make (i_restore G hL l hX0 ω x S.1 S.2.1 S.2.2.1 S.2.2.2.1 S.2.2.2.2.1 S.2.2.2.2.2 h ) e0 xc1_0
theorem k_line (G : FG) (hL : FL G) (l : Launch) (hX0 : FX0 G l) (ω : FWd) (x : Nat) (S : StZ) (h : CI G ω.2 x S) (lf : Int32) (v : Int32) (e : (ob_line S lf).1 = v) (e0 : (ob_line S lf).2.1 14 = 0) : FMetX G l yX10_line wsX10_line ({ frames := 7, cells := 1, slots := 6, locals := 121 } : Room) [.ref x, .int lf] ω (RQ G x ω (.int v) (ob_line S lf).2) (fun _ _ => False) 1 6 := by
  rw [← e]
  exact ci_make (i_line G hL l hX0 ω x S.1 S.2.1 S.2.2.1 S.2.2.2.1 S.2.2.2.2.1 S.2.2.2.2.2 h lf) e0 xc1_0
theorem k_save (G : FG) (hL : FL G) (l : Launch) (hX0 : FX0 G l) (ω : FWd) (x : Nat) (S : StZ) (h : CI G ω.2 x S) : FMet G l yX10_save wsX10_save ({ frames := 3, cells := 0, slots := 0, locals := 103 } : Room) [.ref x] ω (RQ G x ω (.int (ob_save S).1) (ob_save S).2) 0 0 := fx_met (i_save G hL l ω x S.1 S.2.1 S.2.2.1 S.2.2.2.1 S.2.2.2.2.1 S.2.2.2.2.2 h) (fun v τ hq => ⟨hq.1, hq.2.2.1, hq.2.2.2⟩)
theorem k_commands (G : FG) (hL : FL G) (l : Launch) (hX0 : FX0 G l) (ω : FWd) (x : Nat) (S : StZ) (h : CI G ω.2 x S) (adr : Nat → Nat) (hFT : FTx G adr) (hJ : FJ G) (v : Int32) (e : (ob_com S).1 = v) (e0 : (ob_com S).2.1 14 = 0) : FMetX G l yX10_commands wsX10_commands ({ frames := 7, cells := 1, slots := 6, locals := 152 } : Room) [.ref x] ω (RQ G x ω (.int v) (ob_com S).2) (fun _ _ => False) 1 6 := by
  rw [← e]
  clear e
  have hm := i_commands G hL l hX0 adr hFT hJ ω x S.1 S.2.1 S.2.2.1 S.2.2.2.1 S.2.2.2.2.1 S.2.2.2.2.2 zR zR zR h
  have hob : ob_com S = ((comM S.1 S.2.1 zR zR S.2.2.1 S.2.2.2.2.1 zR).1, (comM S.1 S.2.1 zR zR S.2.2.1 S.2.2.2.2.1 zR).2.1, (comM S.1 S.2.1 zR zR S.2.2.1 S.2.2.2.2.1 zR).2.2.1, (comM S.1 S.2.1 zR zR S.2.2.1 S.2.2.2.2.1 zR).2.2.2.2.2.1, S.2.2.2) := rfl
  generalize comM S.1 S.2.1 zR zR S.2.2.1 S.2.2.2.2.1 zR = C at hm hob
  rw [hob] at e0 ⊢
  exact ci_make hm e0 xc2_0
