/-! ===== printed by program (wip/p44/lay_pst.py): an object as six rows, what each call does to it ===== -/
abbrev PR : Type := Nat → Int32
abbrev StZ : Type := PR × PR × PR × PR × PR × PR
def ob_leaflet (S : StZ) (sh : Int32) : Int32 × StZ := ((leafletM S.1 S.2.1 zR S.2.2.1 sh).1, (leafletM S.1 S.2.1 zR S.2.2.1 sh).2.1, (leafletM S.1 S.2.1 zR S.2.2.1 sh).2.2.1, (leafletM S.1 S.2.1 zR S.2.2.1 sh).2.2.2.2, S.2.2.2)
def ob_step (S : StZ) (lf kd ps la two : Int32) : Int32 × StZ := ((stepM S.1 S.2.1 zR S.2.2.1 lf kd ps la two).1, (stepM S.1 S.2.1 zR S.2.2.1 lf kd ps la two).2.1, (stepM S.1 S.2.1 zR S.2.2.1 lf kd ps la two).2.2.1, (stepM S.1 S.2.1 zR S.2.2.1 lf kd ps la two).2.2.2.2, S.2.2.2)
def ob_fold (S : StZ) (lf : Int32) : Int32 × StZ := ((foldM S.1 S.2.1 zR S.2.2.1 lf).1, (foldM S.1 S.2.1 zR S.2.2.1 lf).2.1, (foldM S.1 S.2.1 zR S.2.2.1 lf).2.2.1, (foldM S.1 S.2.1 zR S.2.2.1 lf).2.2.2.2, S.2.2.2)
def ob_unfold (S : StZ) (lf : Int32) : Int32 × StZ := ((unfoldM S.1 S.2.1 zR S.2.2.1 lf).1, (unfoldM S.1 S.2.1 zR S.2.2.1 lf).2.1, (unfoldM S.1 S.2.1 zR S.2.2.1 lf).2.2.1, (unfoldM S.1 S.2.1 zR S.2.2.1 lf).2.2.2.2, S.2.2.2)
def ob_cousin (S : StZ) (bo la : Int32) : Int32 × StZ := ((cousinM S.1 S.2.1 zR S.2.2.1 bo la).1, (cousinM S.1 S.2.1 zR S.2.2.1 bo la).2.1, (cousinM S.1 S.2.1 zR S.2.2.1 bo la).2.2.1, (cousinM S.1 S.2.1 zR S.2.2.1 bo la).2.2.2.2, S.2.2.2)
def ob_learn (S : StZ) (co la : Int32) : Int32 × StZ := ((learnM S.1 S.2.1 zR S.2.2.1 co la).1, (learnM S.1 S.2.1 zR S.2.2.1 co la).2.1, (learnM S.1 S.2.1 zR S.2.2.1 co la).2.2.1, (learnM S.1 S.2.1 zR S.2.2.1 co la).2.2.2.2, S.2.2.2)
def ob_build (S : StZ) (co lf : Int32) : Int32 × StZ := ((buildM S.1 S.2.1 zR zR S.2.2.1 co lf).1, (buildM S.1 S.2.1 zR zR S.2.2.1 co lf).2.1, (buildM S.1 S.2.1 zR zR S.2.2.1 co lf).2.2.1, (buildM S.1 S.2.1 zR zR S.2.2.1 co lf).2.2.2.2.2, S.2.2.2)
def ob_finish (S : StZ) (lf sp : Int32) : Int32 × StZ := ((finishM S.1 S.2.1 zR zR S.2.2.1 lf sp).1, (finishM S.1 S.2.1 zR zR S.2.2.1 lf sp).2.1, (finishM S.1 S.2.1 zR zR S.2.2.1 lf sp).2.2.1, (finishM S.1 S.2.1 zR zR S.2.2.1 lf sp).2.2.2.2.2, S.2.2.2)
def ob_apart (S : StZ) (lf : Int32) : Int32 × StZ := ((apartsM S.1 S.2.1 zR zR S.2.2.1 lf).1, (apartsM S.1 S.2.1 zR zR S.2.2.1 lf).2.1, (apartsM S.1 S.2.1 zR zR S.2.2.1 lf).2.2.1, (apartsM S.1 S.2.1 zR zR S.2.2.1 lf).2.2.2.2.2, S.2.2.2)
def ob_move (S : StZ) (lf sh : Int32) : Int32 × StZ := ((moveM S.1 S.2.1 zR S.2.2.1 lf sh).1, (moveM S.1 S.2.1 zR S.2.2.1 lf sh).2.1, (moveM S.1 S.2.1 zR S.2.2.1 lf sh).2.2.1, (moveM S.1 S.2.1 zR S.2.2.1 lf sh).2.2.2.2, S.2.2.2)
def ob_lose (S : StZ) (kd ps : Int32) : Int32 × StZ := ((loseM S.1 S.2.1 zR S.2.2.1 kd ps).1, (loseM S.1 S.2.1 zR S.2.2.1 kd ps).2.1, (loseM S.1 S.2.1 zR S.2.2.1 kd ps).2.2.1, (loseM S.1 S.2.1 zR S.2.2.1 kd ps).2.2.2.2, S.2.2.2)
def ob_find (S : StZ) (kd ps : Int32) : Int32 × StZ := ((findM S.1 S.2.1 zR S.2.2.1 kd ps).1, (findM S.1 S.2.1 zR S.2.2.1 kd ps).2.1, (findM S.1 S.2.1 zR S.2.2.1 kd ps).2.2.1, (findM S.1 S.2.1 zR S.2.2.1 kd ps).2.2.2.2, S.2.2.2)
def ob_leafletOf (S : StZ) (lf wh : Int32) : Int32 × Int32 := ((leafOfM S.1 S.2.1 zR lf wh).1, (leafOfM S.1 S.2.1 zR lf wh).2.1 14)
def ob_stepOf (S : StZ) (lf sp wh : Int32) : Int32 × Int32 := ((stepOfM S.1 S.2.1 lf sp wh).1, (stepOfM S.1 S.2.1 lf sp wh).2 14)
def ob_cousinOf (S : StZ) (co wh : Int32) : Int32 × Int32 := ((cousOfM S.1 S.2.1 co wh).1, (cousOfM S.1 S.2.1 co wh).2 14)
def ob_why (S : StZ) (co lf sp : Int32) : Int32 × Int32 := ((whyM S.1 S.2.1 co lf sp).1, (whyM S.1 S.2.1 co lf sp).2 14)
def ob_whyAgain (S : StZ) (co lf sp : Int32) : Int32 × Int32 := ((whyAgM S.1 S.2.1 co lf sp).1, (whyAgM S.1 S.2.1 co lf sp).2 14)
def ob_wouldSkip (S : StZ) (co lf : Int32) : Int32 × Int32 := ((wskipM S.1 S.2.1 co lf).1, (wskipM S.1 S.2.1 co lf).2 14)
def ob_wouldLeave (S : StZ) (co lf kd : Int32) : Int32 × Int32 := ((wleaveM S.1 S.2.1 zR co lf kd).1, (wleaveM S.1 S.2.1 zR co lf kd).2.1 14)
def ob_bestCousin (S : StZ) (lf : Int32) : Int32 × Int32 := ((bcouM S.1 S.2.1 lf).1, (bcouM S.1 S.2.1 lf).2 14)
def ob_bestLanguage (S : StZ) (co lf : Int32) : Int32 × Int32 := ((blanM S.1 S.2.1 co lf).1, (blanM S.1 S.2.1 co lf).2 14)
def ob_bestFolds (S : StZ) (co lf : Int32) : Int32 × Int32 := ((bfolM S.1 S.2.1 co lf).1, (bfolM S.1 S.2.1 co lf).2 14)
def ob_canFinish (S : StZ) (lf sp : Int32) : Int32 × Int32 := ((canM S.1 S.2.1 zR lf sp).1, (canM S.1 S.2.1 zR lf sp).2.1 14)
def ob_tin (S : StZ) (kd : Int32) : Int32 × Int32 := ((tinM S.1 S.2.1 kd).1, (tinM S.1 S.2.1 kd).2 14)
def ob_lost (S : StZ) (kd : Int32) : Int32 × Int32 := ((lostM S.1 S.2.1 kd).1, (lostM S.1 S.2.1 kd).2 14)
def ob_shelfOf (S : StZ) (sh : Int32) : Int32 × Int32 := ((shelfM S.1 S.2.1 sh).1, (shelfM S.1 S.2.1 sh).2 14)
def ob_ranked (S : StZ) (ms pl : Int32) : Int32 × Int32 := ((rankM S.1 S.2.1 ms pl).1, (rankM S.1 S.2.1 ms pl).2 14)
def ob_reason (S : StZ) (wh : Int32) : Int32 × Int32 := ((reasM S.1 S.2.1 wh).1, (reasM S.1 S.2.1 wh).2 14)
def ob_account (S : StZ) (wh : Int32) : Int32 × Int32 := ((accM S.1 S.2.1 wh).1, (accM S.1 S.2.1 wh).2 14)
def ob_isEven (S : StZ) : Int32 × Int32 := ((evenM S.1 S.2.1 ).1, (evenM S.1 S.2.1 ).2 14)
def ob_faultPosition (S : StZ) : Int32 × Int32 := ((fposM S.1 S.2.1 ).1, (fposM S.1 S.2.1 ).2 14)
def ob_could (S : StZ) (lf : Int32) : Int32 × Int32 := ((couldM S.1 S.2.1 zR zR lf).1, (couldM S.1 S.2.1 zR zR lf).2.1 14)
def ob_share (S : StZ) : UInt32 × Int32 := ((shareM S.1 S.2.1).1, (shareM S.1 S.2.1).2 14)
def ob_undo (S : StZ) : Int32 × StZ := ((undoM S.1 S.2.1 S.2.2.1).1, (undoM S.1 S.2.1 S.2.2.1).2.1, (undoM S.1 S.2.1 S.2.2.1).2.2, S.2.2)
def ob_save (S : StZ) : Int32 × StZ := ((saveM S.1 S.2.1 S.2.2.2.1).1, (saveM S.1 S.2.1 S.2.2.2.1).2.1, S.2.1, S.2.2.1, (saveM S.1 S.2.1 S.2.2.2.1).2.2, S.2.2.2.2)
def ob_restore (S : StZ) : Int32 × StZ := ((restM S.1 S.2.1 S.2.2.2.1).1, (restM S.1 S.2.1 S.2.2.2.1).2.1, (restM S.1 S.2.1 S.2.2.2.1).2.2, S.2.2)
def ob_line (S : StZ) (lf : Int32) : Int32 × StZ := ((lineM S.1 S.2.1 S.2.2.2.2.2 lf).1, (lineM S.1 S.2.1 S.2.2.2.2.2 lf).2.1, S.2.1, S.2.2.1, S.2.2.2.1, S.2.2.2.2.1, (lineM S.1 S.2.1 S.2.2.2.2.2 lf).2.2)
def ob_char (S : StZ) (ix : Int32) : Int32 × Int32 := ((charM S.1 S.2.1 S.2.2.2.2.2 ix).1, (charM S.1 S.2.1 S.2.2.2.2.2 ix).2 14)
def ob_com (S : StZ) : Int32 × StZ := ((comM S.1 S.2.1 zR zR S.2.2.1 S.2.2.2.2.1 zR).1, (comM S.1 S.2.1 zR zR S.2.2.1 S.2.2.2.2.1 zR).2.1, (comM S.1 S.2.1 zR zR S.2.2.1 S.2.2.2.2.1 zR).2.2.1, (comM S.1 S.2.1 zR zR S.2.2.1 S.2.2.2.2.1 zR).2.2.2.2.2.1, S.2.2.2)
/-- a text put behind an empty one -/
def putS (S : StZ) (cs : List Int32) : StZ := (upd S.1 7 (nI cs.length), S.2.1, S.2.2.1, S.2.2.2.1, (fun i => cs.getD i 0), S.2.2.2.2.2)
def actR (S : StZ) (w : Nat) (a b c d e : Int32) : Int32 × StZ := match w with
  | 0 => ob_leaflet S a
  | 1 => ob_step S a b c d (if e = 1 then 1 else 0)
  | 2 => ob_fold S a
  | 3 => ob_unfold S a
  | 4 => ob_cousin S a b
  | 5 => ob_learn S a b
  | 6 => ob_build S a b
  | 7 => ob_finish S a b
  | 8 => ob_apart S a
  | 9 => ob_move S a b
  | 10 => ob_lose S a b
  | _ => ob_find S a b
/-- an act: what is answered, -2 if refused -/
def ob_act (S : StZ) (w : Nat) (a b c d e : Int32) : Int32 × StZ := (if (actR S w a b c d e).2.1 14 = 0 then (actR S w a b c d e).1 else -2, (actR S w a b c d e).2)
/-- how a call of commands is told: how many, -1: no text, -2: refused -/
def ob_runs (S : StZ) : Int32 × StZ := (if (ob_com S).2.1 14 = 0 then (ob_com S).1 else if (ob_com S).2.1 14 = 1 then -1 else -2, (ob_com S).2)
/-- whether the written line is this text -/
def isL (S : StZ) (n : Int32) (cs : List Int32) : Bool := decide (n = nI cs.length) && (List.range cs.length).all (fun k => decide ((ob_char S (nI k)).1 = cs.getD k 0 ∧ (ob_char S (nI k)).2 = 0))
