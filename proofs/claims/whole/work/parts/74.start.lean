/-! ===== what the law's start gives ===== -/
abbrev stC : Cond := Jvm.Cond.and given_1 narrow_1
def strA (own : String) (k : Nat) (cs : List Int32) : List Cond := [.exactly (.string own k) "java/lang/String", .eq (.field (.string own k) "java/lang/String" "coder" "B") (.int 0), .arrayOf (.field (.string own k) "java/lang/String" "value" "[B") .byte, .eq (.length (.field (.string own k) "java/lang/String" "value" "[B")) (.int (Int32.ofNat cs.length))] ++ (List.range cs.length).map (fun j => .eq (.elem (.field (.string own k) "java/lang/String" "value" "[B") (.int (Int32.ofNat j))) (.int (cs.getD j 0)))
set_option maxRecDepth 100000 in
theorem strA_ok : ∀ k, k < 8 → ∀ w ∈ strA RX8 (74 + 2 * k) (frmL k), w ∈ flatC stC := by decide +kernel
set_option maxRecDepth 100000 in
theorem strB_ok : ∀ k, k < 8 → Cond.stringRef RX8 (74 + 2 * k) (frmT k) ∈ lw_tbl := by decide +kernel
set_option maxRecDepth 100000 in
theorem xwT_ok : ∀ q ∈ xwT, Cond.exactly (.string RX10 q.1) "java/lang/String" ∈ flatC stC ∧ Cond.stringRef RX10 q.1 q.2 ∈ lw_tbl := by decide +kernel
set_option maxRecDepth 100000 in
theorem xwB_ok : ∀ cls ∈ xwC, ∀ w ∈ xwB cls, w ∈ lw_tbl ∧ w.onTables = true := by decide +kernel
set_option maxRecDepth 100000 in
theorem xnP_ok : ∀ q ∈ xnP, Cond.not (.castable q.1 q.2) ∈ flatC stC := by decide +kernel
set_option maxRecDepth 100000 in
theorem vwCl_ok : ∀ q ∈ vwCl, (∀ w ∈ u_ws q.1 q.2.1 q.2.2, w ∈ lw_tbl) ∧ ∃ n ∈ [2, 3, 4, 6, 9, 19], Cond.instantiable q.1 n ∈ lw_tbl := by decide +kernel
set_option maxRecDepth 100000 in
theorem fwNest_ok : ∀ w ∈ fwNest, w ∈ lw_tbl ∧ w.onTables = true := by decide +kernel
set_option maxRecDepth 100000 in
theorem fwAO_ok : ∀ C ∈ fwAO, Cond.arrayOver (.object C) ∈ lw_tbl := by decide +kernel
def stW : List Cond := [.arrayClass .int, .arrayClass .char, .arrayClass .long, .arrayClass .double, .laysStatic Bundle.tN "UNASSIGNED_STACK" Bundle.steD, .laysStatic Bundle.tN "SUPPRESSED_SENTINEL" Bundle.listD, .initialized Bundle.tN, .laysStatic "java/lang/String" "COMPACT_STRINGS" "Z", .initialized "java/lang/String", .laysStatic "jdk/internal/util/Preconditions" "SIOOBE_FORMATTER" "Ljava/util/function/BiFunction;", .initialized "jdk/internal/util/Preconditions"]
set_option maxRecDepth 100000 in
theorem stW_ok : ∀ w ∈ stW, w ∈ lw_tbl := by decide +kernel
def stQ9 : List Cond := [.isRef (.static Bundle.tN "UNASSIGNED_STACK" Bundle.steD), .isRef (.static Bundle.tN "SUPPRESSED_SENTINEL" Bundle.listD), .eq (.static "java/lang/String" "COMPACT_STRINGS" "Z") (.int 1), .isRef (.static "jdk/internal/util/Preconditions" "SIOOBE_FORMATTER" "Ljava/util/function/BiFunction;")]
set_option maxRecDepth 100000 in
theorem stQ9_ok : ∀ w ∈ stQ9, w ∈ flatC stC := by decide +kernel
theorem st_arr {args : Array Value} {s : State} {ty : FieldType} (h : (Cond.arrayClass ty).before args s = true) : ∃ c, ArrOfT s c ty ∧ s.vm.findClass ("[" ++ ty.toString) = some c := by
  obtain ⟨c, k, comp, h1, h2, h3⟩ := Cond.arrayClass_spec (args := args) (first := s) (o := none) (s := s) (idx := []) h
  exact ⟨c, fun n z => ⟨(fun k h => by cases h), k, h2, comp, h3⟩, h1⟩
theorem st_ao {args : Array Value} {s : State} {C : String} (h : (Cond.arrayOver (.object C)).before args s = true) : ∃ c, ArrOfT s c (.object C) ∧ va_RA s c (.object C) := by
  obtain ⟨comp, c, k, h1, -, h2, h3, h4⟩ := Cond.arrayOver_spec (args := args) (first := s) (o := none) (s := s) (idx := []) h
  exact ⟨c, fun n z => ⟨(fun k h => by cases h), k, h2, comp, h3⟩, k, comp, h2, h3, h1, h4⟩
theorem st_str {G : FG} {args : Array Value} {own tx : String} {k : Nat} {cs : List Int32} (hcs : cs.length < 2 ^ 31) (h : ∀ w ∈ strA own k cs, w.before args G.2.2 = true) (hs : (Cond.stringRef own k tx).before args G.2.2 = true) : ∃ a, vk_R own k tx a G.2.2 ∧ StrF G a cs := by
  have hA : ∀ a : Nat, a < G.2.2.heap.size → ¬ fwA G a := fun a h => Nat.not_le.mpr h
  have hex := h (.exactly (.string own k) "java/lang/String") (by simp [strA])
  obtain ⟨a, c, cA, kA, q1, q2, q3, q4, q5, q6, -⟩ := Cond.exactly_spec (args := args) (first := G.2.2) (o := none) (s := G.2.2) (idx := []) (t := .string own k) (cls := "java/lang/String") hex
  obtain ⟨t, ht, hT⟩ := va_Tof (f := fun j => .int (cs.getD j 0)) (A := fwA G) (N := cs.length) hcs (h (.arrayOf (.field (.string own k) "java/lang/String" "value" "[B") .byte) (by simp [strA])) (va_eqt (h (.eq (.length (.field (.string own k) "java/lang/String" "value" "[B")) (.int (Int32.ofNat cs.length))) (by simp [strA]))) (fun j hj => va_eqt (h (.eq (.elem (.field (.string own k) "java/lang/String" "value" "[B") (.int (Int32.ofNat j))) (.int (cs.getD j 0))) (List.mem_append_right _ (List.mem_map.mpr ⟨j, List.mem_range.mpr hj, rfl⟩)))) hA
  exact ⟨a, vk_R.of hs q1, va_Oof hex q1 hA, vk_OFof q1 (va_eqt (h (.eq (.field (.string own k) "java/lang/String" "coder" "B") (.int 0)) (by simp [strA]))) hA, t, vk_OFof q1 ht hA, hT⟩
def stTy : List FieldType := [.int, .char, .long, .double, .object RX0, .object RX2, .object RX3, .object RX5]
theorem st_all {l : Launch} {s : State} {args : Array Value} (hflags : l.flags = flags0) (hts : ∀ w ∈ lw_tbl, w.before args s = true) (hgv : stC.before args s = true) :
    ∃ (D : va_G) (tC : Nat → ClassId) (adr : Nat → Nat), FL (D, tC, s) ∧ FX0 (D, tC, s) l ∧ (∀ q ∈ xnP, va_Nc q.1 q.2 s) ∧ FTx (D, tC, s) adr ∧ FJ (D, tC, s) := by
  have hfl := flat_of_before _ hgv
  have h1 : ∀ k : Nat, ∃ c : ClassId × (Nat → Nat), ∀ q : vw_C, vwCl[k]? = some q → u_Kn s q.1 q.2.1 q.2.2 c.1 c.2 := fun k => by
    cases hq : vwCl[k]? with
    | none => exact ⟨(0, fun _ => 0), fun q h => by cases h⟩
    | some q =>
      obtain ⟨h2, n, -, h3⟩ := vwCl_ok q (List.mem_of_getElem? hq)
      obtain ⟨c, i, h4⟩ := u_known (ws := lw_tbl) hts h2 (hts _ h3)
      exact ⟨(c, i), fun q' h => by cases h; exact h4⟩
  obtain ⟨d, hd⟩ := Classical.axiomOfChoice h1
  have h2 : ∀ j : Nat, ∃ c : ClassId, ∀ ty : FieldType, stTy[j]? = some ty → ArrOfT s c ty ∧ va_RA s c ty := fun j => by
    have prim : ∀ ty : FieldType, Cond.arrayClass ty ∈ lw_tbl → ∃ c, ArrOfT s c ty ∧ s.vm.findClass ("[" ++ ty.toString) = some c := fun ty h => st_arr (hts _ h)
    match j with
    | 0 => obtain ⟨c, a, b⟩ := prim .int (stW_ok _ (by decide)); exact ⟨c, fun ty h => by cases h; exact ⟨a, b⟩⟩
    | 1 => obtain ⟨c, a, b⟩ := prim .char (stW_ok _ (by decide)); exact ⟨c, fun ty h => by cases h; exact ⟨a, b⟩⟩
    | 2 => obtain ⟨c, a, b⟩ := prim .long (stW_ok _ (by decide)); exact ⟨c, fun ty h => by cases h; exact ⟨a, b⟩⟩
    | 3 => obtain ⟨c, a, b⟩ := prim .double (stW_ok _ (by decide)); exact ⟨c, fun ty h => by cases h; exact ⟨a, b⟩⟩
    | 4 => obtain ⟨c, a, b⟩ := st_ao (hts _ (fwAO_ok RX0 (by decide))); exact ⟨c, fun ty h => by cases h; exact ⟨a, b⟩⟩
    | 5 => obtain ⟨c, a, b⟩ := st_ao (hts _ (fwAO_ok RX2 (by decide))); exact ⟨c, fun ty h => by cases h; exact ⟨a, b⟩⟩
    | 6 => obtain ⟨c, a, b⟩ := st_ao (hts _ (fwAO_ok RX3 (by decide))); exact ⟨c, fun ty h => by cases h; exact ⟨a, b⟩⟩
    | 7 => obtain ⟨c, a, b⟩ := st_ao (hts _ (fwAO_ok RX5 (by decide))); exact ⟨c, fun ty h => by cases h; exact ⟨a, b⟩⟩
    | j + 8 => exact ⟨0, fun ty h => by simp [stTy] at h⟩
  obtain ⟨tC, ht⟩ := Classical.axiomOfChoice h2
  have h3 : ∀ k : Nat, ∃ a : Nat, k < 8 → vk_R RX8 (74 + 2 * k) (frmT k) a s ∧ StrF ((fun k => (d k).1, fun k => (d k).2), tC, s) a (frmL k) := fun k => by
    by_cases hk : k < 8
    · obtain ⟨a, ha⟩ := st_str (G := ((fun k => (d k).1, fun k => (d k).2), tC, s)) (args := args) (own := RX8) (k := 74 + 2 * k) (cs := frmL k) (tx := frmT k) (Nat.lt_trans (frmL_100 k) (by decide)) (fun w hw => hfl w (strA_ok k hk w hw)) (hts _ (strB_ok k hk))
      exact ⟨a, fun _ => ha⟩
    · exact ⟨0, fun h => absurd h hk⟩
  obtain ⟨adr, ha⟩ := Classical.axiomOfChoice h3
  have hA : ∀ a : Nat, a < s.heap.size → ¬ fwA ((fun k => (d k).1, fun k => (d k).2), tC, s) a := fun a h => Nat.not_le.mpr h
  refine ⟨(fun k => (d k).1, fun k => (d k).2), tC, adr, ⟨⟨fun k q hq => hd k q hq, fun k q hq => ?_⟩, fun w hw => va_Nw.of (fwNest_ok w hw).2 (hts _ (fwNest_ok w hw).1), fun C hC => va_AO.of (hts _ (fwAO_ok C hC))⟩, ⟨?_, fun cls hc w hw => va_Nw.of (xwB_ok cls hc w hw).2 (hts _ (xwB_ok cls hc w hw).1), fun q hq => ?_, ?_, ?_⟩, fun q hq => va_Nc.of (hfl _ (xnP_ok q hq)), fun k hk => ha k hk, ?_, ?_⟩
  · match k, hq with
    | 0, hq => cases hq; exact ht 0 _ rfl
    | 1, hq => cases hq; exact ht 1 _ rfl
    | 2, hq => cases hq; exact ht 2 _ rfl
    | 3, hq => cases hq; exact ht 3 _ rfl
    | 4, hq => cases hq; exact ht 4 _ rfl
    | 5, hq => cases hq; exact ht 5 _ rfl
    | 6, hq => cases hq; exact ht 6 _ rfl
    | 7, hq => cases hq; exact ht 7 _ rfl
    | k + 8, hq => simp [fwT] at hq
  · unfold Launch.stackTraces
    rw [hflags]
    decide
  · obtain ⟨a, c, cA, kA, q1, -⟩ := Cond.exactly_spec (args := args) (first := s) (o := none) (s := s) (idx := []) (t := .string RX10 q.1) (cls := "java/lang/String") (hfl _ (xwT_ok q hq).1)
    exact ⟨a, vk_R.of (hts _ (xwT_ok q hq).2) q1⟩
  · exact vx_Zqof (hts _ (stW_ok _ (by decide))) (hts _ (stW_ok _ (by decide))) (hfl _ (stQ9_ok _ (by decide))) hA
  · exact vx_Zqof (hts _ (stW_ok _ (by decide))) (hts _ (stW_ok _ (by decide))) (hfl _ (stQ9_ok _ (by decide))) hA
  · exact va_Zof (hts _ (stW_ok _ (by decide))) (hts _ (stW_ok _ (by decide))) (va_eqt (hfl _ (stQ9_ok (.eq (.static "java/lang/String" "COMPACT_STRINGS" "Z") (.int 1)) (by decide)))) hA
  · exact va_Zqof (hts _ (stW_ok _ (by decide))) (hts _ (stW_ok _ (by decide))) (hfl _ (stQ9_ok _ (by decide))) hA
