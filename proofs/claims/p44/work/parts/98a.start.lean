/-! ===== what the law's start gives ===== -/
abbrev stC : Cond := Jvm.Cond.and given_1 narrow_1
def strA (own : String) (k : Nat) (cs : List Int32) : List Cond := [.exactly (.string own k) "java/lang/String", .eq (.field (.string own k) "java/lang/String" "coder" "B") (.int 0), .arrayOf (.field (.string own k) "java/lang/String" "value" "[B") .byte, .eq (.length (.field (.string own k) "java/lang/String" "value" "[B")) (.int (Int32.ofNat cs.length))] ++ (List.range cs.length).map (fun j => .eq (.elem (.field (.string own k) "java/lang/String" "value" "[B") (.int (Int32.ofNat j))) (.int (cs.getD j 0)))
theorem memP {big ws : List Cond} (ps : List Nat) (h : ps.map (fun i => big[i]?) = ws.map some) : ∀ w ∈ ws, w ∈ big := fun w hw => by
  have h1 : some w ∈ ps.map (fun i => big[i]?) := by rw [h]; exact List.mem_map.mpr ⟨w, hw, rfl⟩
  obtain ⟨i, -, hi⟩ := List.mem_map.mp h1
  exact List.mem_of_getElem? hi
set_option maxRecDepth 100000 in
theorem strA_0 : ∀ w ∈ strA RX8 74 (frmL 0), w ∈ flatC stC := memP [597, 598, 599, 600, 601] (by decide +kernel)
set_option maxRecDepth 100000 in
theorem strA_1 : ∀ w ∈ strA RX8 76 (frmL 1), w ∈ flatC stC := memP [602, 603, 604, 605, 606, 607, 608, 609, 610, 611, 612] (by decide +kernel)
set_option maxRecDepth 100000 in
theorem strA_2 : ∀ w ∈ strA RX8 78 (frmL 2), w ∈ flatC stC := memP [613, 614, 615, 616, 617, 618, 619] (by decide +kernel)
set_option maxRecDepth 100000 in
theorem strA_3 : ∀ w ∈ strA RX8 80 (frmL 3), w ∈ flatC stC := memP [620, 621, 622, 623, 624, 625, 626] (by decide +kernel)
set_option maxRecDepth 100000 in
theorem strA_4 : ∀ w ∈ strA RX8 82 (frmL 4), w ∈ flatC stC := memP [627, 628, 629, 630, 631, 632, 633] (by decide +kernel)
set_option maxRecDepth 100000 in
theorem strA_5 : ∀ w ∈ strA RX8 84 (frmL 5), w ∈ flatC stC := memP [634, 635, 636, 637, 638, 639, 640] (by decide +kernel)
set_option maxRecDepth 100000 in
theorem strA_6 : ∀ w ∈ strA RX8 86 (frmL 6), w ∈ flatC stC := memP [641, 642, 643, 644, 645, 646, 647] (by decide +kernel)
set_option maxRecDepth 100000 in
theorem strA_7 : ∀ w ∈ strA RX8 88 (frmL 7), w ∈ flatC stC := memP [648, 649, 650, 651] (by decide +kernel)
theorem strA_ok : ∀ k, k < 8 → ∀ w ∈ strA RX8 (74 + 2 * k) (frmL k), w ∈ flatC stC := fun k hk => by
  rcases (show k = 0 ∨ k = 1 ∨ k = 2 ∨ k = 3 ∨ k = 4 ∨ k = 5 ∨ k = 6 ∨ k = 7 by omega) with rfl | rfl | rfl | rfl | rfl | rfl | rfl | rfl
  · exact strA_0
  · exact strA_1
  · exact strA_2
  · exact strA_3
  · exact strA_4
  · exact strA_5
  · exact strA_6
  · exact strA_7
set_option maxRecDepth 100000 in
theorem strB_ok : ∀ k, k < 8 → Cond.stringRef RX8 (74 + 2 * k) (frmT k) ∈ lw_tbl := by decide +kernel
set_option maxRecDepth 100000 in
theorem xwT_ok : ∀ q ∈ xwT, Cond.exactly (.string RX10 q.1) "java/lang/String" ∈ flatC stC ∧ Cond.stringRef RX10 q.1 q.2 ∈ lw_tbl := by decide +kernel
set_option maxRecDepth 100000 in
theorem xwB_ok : ∀ cls ∈ xwC, ∀ w ∈ xwB cls, w ∈ lw_tbl ∧ w.onTables = true := by decide +kernel
set_option maxRecDepth 100000 in
theorem xnU_ok : Cond.not (.castable "java/lang/UnsupportedOperationException" "java/lang/IllegalArgumentException") ∈ flatC stC := by decide +kernel
set_option maxRecDepth 100000 in
theorem lwA_134 : ∀ w ∈ strA RL 134 [109, 48, 64], w ∈ flatC stC := memP [941, 942, 943, 944, 945, 946, 947] (by decide +kernel)
set_option maxRecDepth 100000 in
theorem lwA_142 : ∀ w ∈ strA RL 142 [59, 109, 48, 64], w ∈ flatC stC := memP [948, 949, 950, 951, 952, 953, 954, 955] (by decide +kernel)
set_option maxRecDepth 100000 in
theorem lwA_167 : ∀ w ∈ strA RL 167 [102, 57], w ∈ flatC stC := memP [956, 957, 958, 959, 960, 961] (by decide +kernel)
set_option maxRecDepth 100000 in
theorem lwA_169 : ∀ w ∈ strA RL 169 [115, 48, 58, 51, 42, 50, 61, 55], w ∈ flatC stC := memP [962, 963, 964, 965, 966, 967, 968, 969, 970, 971, 972, 973] (by decide +kernel)
set_option maxRecDepth 100000 in
theorem lwA_171 : ∀ w ∈ strA RL 171 [115, 48, 58, 51, 42, 50, 61], w ∈ flatC stC := memP [974, 975, 976, 977, 978, 979, 980, 981, 982, 983, 984] (by decide +kernel)
set_option maxRecDepth 100000 in
theorem lwA_177 : ∀ w ∈ strA RL 177 [115, 48, 58, 51, 42, 50, 61, 48, 49, 50, 51, 52, 48], w ∈ flatC stC := memP [985, 986, 987, 988, 989, 990, 991, 992, 993, 994, 995, 996, 997, 998, 999, 1000, 1001] (by decide +kernel)
set_option maxRecDepth 100000 in
theorem lwA_179 : ∀ w ∈ strA RL 179 [99, 51, 61, 48, 49, 50, 51, 52, 53], w ∈ flatC stC := memP [1002, 1003, 1004, 1005, 1006, 1007, 1008, 1009, 1010, 1011, 1012, 1013, 1014] (by decide +kernel)
set_option maxRecDepth 100000 in
theorem lwA_181 : ∀ w ∈ strA RL 181 [108, 48, 49], w ∈ flatC stC := memP [1015, 1016, 1017, 1018, 1019, 1020, 1021] (by decide +kernel)
set_option maxRecDepth 100000 in
theorem lwA_183 : ∀ w ∈ strA RL 183 [], w ∈ flatC stC := memP [1022, 1023, 1024, 1025] (by decide +kernel)
set_option maxRecDepth 100000 in
theorem lwA_185 : ∀ w ∈ strA RL 185 [102, 48, 59], w ∈ flatC stC := memP [1027, 1028, 1029, 1030, 1031, 1032, 1033] (by decide +kernel)
set_option maxRecDepth 100000 in
theorem lwA_187 : ∀ w ∈ strA RL 187 [98, 48], w ∈ flatC stC := memP [1034, 1035, 1036, 1037, 1038, 1039] (by decide +kernel)
set_option maxRecDepth 100000 in
theorem lwA_189 : ∀ w ∈ strA RL 189 [100, 48, 62, 49], w ∈ flatC stC := memP [1040, 1041, 1042, 1043, 1044, 1045, 1046, 1047] (by decide +kernel)
set_option maxRecDepth 100000 in
theorem lwA_191 : ∀ w ∈ strA RL 191 [122], w ∈ flatC stC := memP [1048, 1049, 1050, 1051, 1052] (by decide +kernel)
set_option maxRecDepth 100000 in
theorem lwA_193 : ∀ w ∈ strA RL 193 [120, 49, 42], w ∈ flatC stC := memP [1053, 1054, 1055, 1056, 1057, 1058, 1059] (by decide +kernel)
set_option maxRecDepth 100000 in
theorem lwA_199 : ∀ w ∈ strA RL 199 [108, 49, 59, 83, 48, 58], w ∈ flatC stC := memP [1060, 1061, 1062, 1063, 1064, 1065, 1066, 1067, 1068, 1069] (by decide +kernel)
set_option maxRecDepth 100000 in
theorem lwA_201 : ∀ w ∈ strA RL 201 [42], w ∈ flatC stC := memP [1070, 1071, 1072, 1073, 1074] (by decide +kernel)
set_option maxRecDepth 100000 in
theorem lwA_203 : ∀ w ∈ strA RL 203 [61, 48, 59, 115, 48, 58], w ∈ flatC stC := memP [1075, 1076, 1077, 1078, 1079, 1080, 1081, 1082, 1083, 1084] (by decide +kernel)
set_option maxRecDepth 100000 in
theorem lwA_205 : ∀ w ∈ strA RL 205 [42, 52, 61, 49, 50, 59, 115, 48, 58], w ∈ flatC stC := memP [1085, 1086, 1087, 1088, 1089, 1090, 1091, 1092, 1093, 1094, 1095, 1096, 1097] (by decide +kernel)
set_option maxRecDepth 100000 in
theorem lwA_207 : ∀ w ∈ strA RL 207 [42, 49, 61, 48, 51, 59, 99, 50, 61, 48, 49, 59, 99, 48, 61], w ∈ flatC stC := memP [1098, 1099, 1100, 1101, 1102, 1103, 1104, 1105, 1106, 1107, 1108, 1109, 1110, 1111, 1112, 1113, 1114, 1115, 1116] (by decide +kernel)
set_option maxRecDepth 100000 in
theorem lwA_212 : ∀ w ∈ strA RL 212 [43, 32], w ∈ flatC stC := memP [1117, 1118, 1119, 1120, 1121, 1122] (by decide +kernel)
set_option maxRecDepth 100000 in
theorem lwA_214 : ∀ w ∈ strA RL 214 [42, 52, 32], w ∈ flatC stC := memP [1123, 1124, 1125, 1126, 1127, 1128, 1129] (by decide +kernel)
set_option maxRecDepth 100000 in
theorem lwA_216 : ∀ w ∈ strA RL 216 [42, 49], w ∈ flatC stC := memP [1130, 1131, 1132, 1133, 1134, 1135] (by decide +kernel)
set_option maxRecDepth 100000 in
theorem lwA_240 : ∀ w ∈ strA RL 240 [43, 47, 32], w ∈ flatC stC := memP [1136, 1137, 1138, 1139, 1140, 1141, 1142] (by decide +kernel)
set_option maxRecDepth 100000 in
theorem lwA_247 : ∀ w ∈ strA RL 247 [42, 52, 47, 32], w ∈ flatC stC := memP [1143, 1144, 1145, 1146, 1147, 1148, 1149, 1150] (by decide +kernel)
set_option maxRecDepth 100000 in
theorem lwA_249 : ∀ w ∈ strA RL 249 [42, 49, 63], w ∈ flatC stC := memP [1151, 1152, 1153, 1154, 1155, 1156, 1157] (by decide +kernel)
def lwS : List Cond := lwT.map (fun q => Cond.stringRef RL q.1 q.2.1)
set_option maxRecDepth 100000 in
theorem lwS_ok : ∀ w ∈ lwS, w ∈ lw_tbl := memP [1384, 1385, 1386, 1387, 1388, 1389, 1390, 1391, 1392, 1393, 1394, 1395, 1396, 1397, 1398, 1399, 1400, 1401, 1402, 1403, 1404, 1405, 1406, 1408, 1409] (by decide +kernel)
theorem lwL_ok : ∀ q ∈ lwT, q.2.2.length < 100 := by decide
theorem lwQ_ok : ∀ q ∈ lwT, ∀ w ∈ strA RL q.1 q.2.2, w ∈ flatC stC := List.forall_mem_cons.mpr ⟨lwA_134, List.forall_mem_cons.mpr ⟨lwA_142, List.forall_mem_cons.mpr ⟨lwA_167, List.forall_mem_cons.mpr ⟨lwA_169, List.forall_mem_cons.mpr ⟨lwA_171, List.forall_mem_cons.mpr ⟨lwA_177, List.forall_mem_cons.mpr ⟨lwA_179, List.forall_mem_cons.mpr ⟨lwA_181, List.forall_mem_cons.mpr ⟨lwA_183, List.forall_mem_cons.mpr ⟨lwA_185, List.forall_mem_cons.mpr ⟨lwA_187, List.forall_mem_cons.mpr ⟨lwA_189, List.forall_mem_cons.mpr ⟨lwA_191, List.forall_mem_cons.mpr ⟨lwA_193, List.forall_mem_cons.mpr ⟨lwA_199, List.forall_mem_cons.mpr ⟨lwA_201, List.forall_mem_cons.mpr ⟨lwA_203, List.forall_mem_cons.mpr ⟨lwA_205, List.forall_mem_cons.mpr ⟨lwA_207, List.forall_mem_cons.mpr ⟨lwA_212, List.forall_mem_cons.mpr ⟨lwA_214, List.forall_mem_cons.mpr ⟨lwA_216, List.forall_mem_cons.mpr ⟨lwA_240, List.forall_mem_cons.mpr ⟨lwA_247, List.forall_mem_cons.mpr ⟨lwA_249, fun _ h => absurd h List.not_mem_nil⟩⟩⟩⟩⟩⟩⟩⟩⟩⟩⟩⟩⟩⟩⟩⟩⟩⟩⟩⟩⟩⟩⟩⟩⟩
theorem lwT_ok : ∀ q ∈ lwT, ((∀ w ∈ strA RL q.1 q.2.2, w ∈ flatC stC) ∧ Cond.stringRef RL q.1 q.2.1 ∈ lw_tbl) ∧ q.2.2.length < 100 := fun q hq => ⟨⟨lwQ_ok q hq, lwS_ok _ (List.mem_map.mpr ⟨q, hq, rfl⟩)⟩, lwL_ok q hq⟩
abbrev dgT : Term := .static "java/lang/Integer" "DigitOnes" "[B"
def dgA : List Cond := [.arrayOf dgT .byte, .eq (.length dgT) (.int 100)]
set_option maxRecDepth 100000 in
theorem dgA_ok : ∀ w ∈ dgA, w ∈ flatC stC := by decide +kernel
def dgE : List Cond := (List.range 100).map (fun j => Cond.eq (.elem dgT (.int (Int32.ofNat j))) (.int (nI (48 + j % 10))))
set_option maxRecDepth 100000 in
theorem dgE_all : ∀ w ∈ dgE, w ∈ flatC stC := memP [14, 15, 16, 17, 18, 19, 20, 21, 22, 23, 24, 25, 26, 27, 28, 29, 30, 31, 32, 33, 34, 35, 36, 37, 38, 39, 40, 41, 42, 43, 44, 45, 46, 47, 48, 49, 50, 51, 52, 53, 54, 55, 56, 57, 58, 59, 60, 61, 62, 63, 64, 65, 66, 67, 68, 69, 70, 71, 72, 73, 74, 75, 76, 77, 78, 79, 80, 81, 82, 83, 84, 85, 86, 87, 88, 89, 90, 91, 92, 93, 94, 95, 96, 97, 98, 99, 100, 101, 102, 103, 104, 105, 106, 107, 108, 109, 110, 111, 112, 113] (by decide +kernel)
theorem dgE_ok : ∀ j, j < 100 → Cond.eq (.elem dgT (.int (Int32.ofNat j))) (.int (nI (48 + j % 10))) ∈ flatC stC := fun j hj => dgE_all _ (List.mem_map.mpr ⟨j, List.mem_range.mpr hj, rfl⟩)
set_option maxRecDepth 100000 in
theorem vwCl_ok : ∀ q ∈ vwCl, (∀ w ∈ u_ws q.1 q.2.1 q.2.2, w ∈ lw_tbl) ∧ ∃ n ∈ [2, 3, 4, 6, 9, 19], Cond.instantiable q.1 n ∈ lw_tbl := by decide +kernel
set_option maxRecDepth 100000 in
theorem fwNest_ok : ∀ w ∈ fwNest, w ∈ lw_tbl ∧ w.onTables = true := by decide +kernel
set_option maxRecDepth 100000 in
theorem fwAO_ok : ∀ C ∈ fwAO, Cond.arrayOver (.object C) ∈ lw_tbl := by decide +kernel
def stW : List Cond := [.arrayClass .int, .arrayClass .char, .arrayClass .byte, .laysStatic Bundle.tN "UNASSIGNED_STACK" Bundle.steD, .laysStatic Bundle.tN "SUPPRESSED_SENTINEL" Bundle.listD, .initialized Bundle.tN, .laysStatic "java/lang/String" "COMPACT_STRINGS" "Z", .initialized "java/lang/String", .laysStatic "jdk/internal/util/Preconditions" "SIOOBE_FORMATTER" "Ljava/util/function/BiFunction;", .initialized "jdk/internal/util/Preconditions", .laysStatic "java/lang/Integer" "DigitOnes" "[B", .initialized "java/lang/Integer"]
set_option maxRecDepth 100000 in
theorem stW_ok : ∀ w ∈ stW, w ∈ lw_tbl := by decide +kernel
def stQ9 : List Cond := [.isRef (.static Bundle.tN "UNASSIGNED_STACK" Bundle.steD), .isRef (.static Bundle.tN "SUPPRESSED_SENTINEL" Bundle.listD), .eq (.static "java/lang/String" "COMPACT_STRINGS" "Z") (.int 1), .isRef (.static "jdk/internal/util/Preconditions" "SIOOBE_FORMATTER" "Ljava/util/function/BiFunction;")]
set_option maxRecDepth 100000 in
theorem stQ9_ok : ∀ w ∈ stQ9, w ∈ flatC stC := by decide +kernel
set_option maxRecDepth 100000 in
theorem lwT_in : ∀ q ∈ lwT, ∀ q2 ∈ lwT, q.1 = q2.1 → q = q2 := by decide +kernel
theorem st_arr {args : Array Value} {s : State} {ty : FieldType} (h : (Cond.arrayClass ty).before args s = true) : ∃ c, ArrOfT s c ty ∧ s.vm.findClass ("[" ++ ty.toString) = some c := by
  obtain ⟨c, k, comp, h1, h2, h3⟩ := Cond.arrayClass_spec (args := args) (first := s) (o := none) (s := s) (idx := []) h
  exact ⟨c, fun n z => ⟨(fun k h => by cases h), k, h2, comp, h3⟩, h1⟩
theorem st_ao {args : Array Value} {s : State} {C : String} (h : (Cond.arrayOver (.object C)).before args s = true) : ∃ c, ArrOfT s c (.object C) ∧ va_RA s c (.object C) := by
  obtain ⟨comp, c, k, h1, -, h2, h3, h4⟩ := Cond.arrayOver_spec (args := args) (first := s) (o := none) (s := s) (idx := []) h
  exact ⟨c, fun n z => ⟨(fun k h => by cases h), k, h2, comp, h3⟩, k, comp, h2, h3, h1, h4⟩
theorem st_str {G : FG} {args : Array Value} {own tx : String} {k : Nat} {cs : List Int32} (hcs : cs.length < 2 ^ 31) (h : ∀ w ∈ strA own k cs, w.before args G.2.2 = true) (hs : (Cond.stringRef own k tx).before args G.2.2 = true) : ∃ a, vk_R own k tx a G.2.2 ∧ StrF G a cs := by
  have hA : ∀ a : Nat, a < G.2.2.heap.size → ¬ fwA G a := fun a h => Nat.not_le.mpr h
  have hex := h (.exactly (.string own k) "java/lang/String") (by simp [strA])
  obtain ⟨a, c, cA, kA, q1, q2, q3, q4, q5, q6, -⟩ := Cond.exactly_spec (args := args) (first := G.2.2) (o := none) (s := G.2.2) (idx := []) (t := .string own k) (cls := "java/lang/String") hex
  obtain ⟨t, ht, hT⟩ := va_Tof (f := fun j => .int (cs.getD j 0)) (A := fwA G) (N := cs.length) hcs (h (.arrayOf (.field (.string own k) "java/lang/String" "value" "[B") .byte) (by simp [strA])) (va_eqt (h (.eq (.length (.field (.string own k) "java/lang/String" "value" "[B")) (.int (Int32.ofNat cs.length))) (by simp [strA]))) (fun j hj => va_eqt (h (.eq (.elem (.field (.string own k) "java/lang/String" "value" "[B") (.int (Int32.ofNat j))) (.int (cs.getD j 0))) (List.mem_append_right _ (List.mem_map.mpr ⟨j, List.mem_range.mpr hj, rfl⟩)))) hA
  exact ⟨a, vk_R.of hs q1, va_Oof hex q1 hA, vk_OFof q1 (va_eqt (h (.eq (.field (.string own k) "java/lang/String" "coder" "B") (.int 0)) (by simp [strA]))) hA, t, vk_OFof q1 ht hA, hT⟩
def stTy : List FieldType := [.int, .char, .byte, .byte, .object RX0, .object RX2, .object RX3, .object RX5]
theorem st_all {l : Launch} {s : State} {args : Array Value} (hflags : l.flags = flags0) (hts : ∀ w ∈ lw_tbl, w.before args s = true) (hgv : stC.before args s = true) :
    ∃ (D : va_G) (tC : Nat → ClassId) (adr lad : Nat → Nat) (dd : Nat), FL (D, tC, s) ∧ FX0 (D, tC, s) l ∧ va_Nc "java/lang/UnsupportedOperationException" "java/lang/IllegalArgumentException" s ∧ FTx (D, tC, s) adr ∧ FJ (D, tC, s) ∧ FDg (D, tC, s) dd ∧ (∀ q ∈ lwT, vk_R RL q.1 q.2.1 (lad q.1) s ∧ StrF (D, tC, s) (lad q.1) q.2.2) := by
  have hfl := flat_of_before _ hgv
  have h1 : ∀ k : Nat, ∃ c : ClassId × (Nat → Nat), ∀ q : vw_C, vwCl[k]? = some q → u_Kn s q.1 q.2.1 q.2.2 c.1 c.2 := fun k => by
    cases hq : vwCl[k]? with
    | none => exact ⟨(0, fun _ => 0), fun q h => by cases h⟩
    | some q =>
      obtain ⟨h2, n, -, h3⟩ := vwCl_ok q (List.mem_of_getElem? hq)
      obtain ⟨c, i, h4⟩ := u_known (ws := lw_tbl) hts h2 (hts _ h3)
      exact ⟨(c, i), fun q' h => by cases h; exact h4⟩
  obtain ⟨d, hd⟩ := Classical.axiomOfChoice h1
  have h2 : ∀ j : Nat, ∃ c : ClassId, ∀ ty : FieldType, stTy[j]? = some ty → ArrOfT s c ty ∧ va_RA s c ty := fun j => by
    have prim : ∀ ty : FieldType, Cond.arrayClass ty ∈ lw_tbl → ∃ c, ArrOfT s c ty ∧ s.vm.findClass ("[" ++ ty.toString) = some c := fun ty h => st_arr (hts _ h)
    match j with
    | 0 => obtain ⟨c, a, b⟩ := prim .int (stW_ok _ (by decide)); exact ⟨c, fun ty h => by cases h; exact ⟨a, b⟩⟩
    | 1 => obtain ⟨c, a, b⟩ := prim .char (stW_ok _ (by decide)); exact ⟨c, fun ty h => by cases h; exact ⟨a, b⟩⟩
    | 2 => obtain ⟨c, a, b⟩ := prim .byte (stW_ok _ (by decide)); exact ⟨c, fun ty h => by cases h; exact ⟨a, b⟩⟩
    | 3 => obtain ⟨c, a, b⟩ := prim .byte (stW_ok _ (by decide)); exact ⟨c, fun ty h => by cases h; exact ⟨a, b⟩⟩
    | 4 => obtain ⟨c, a, b⟩ := st_ao (hts _ (fwAO_ok RX0 (by decide))); exact ⟨c, fun ty h => by cases h; exact ⟨a, b⟩⟩
    | 5 => obtain ⟨c, a, b⟩ := st_ao (hts _ (fwAO_ok RX2 (by decide))); exact ⟨c, fun ty h => by cases h; exact ⟨a, b⟩⟩
    | 6 => obtain ⟨c, a, b⟩ := st_ao (hts _ (fwAO_ok RX3 (by decide))); exact ⟨c, fun ty h => by cases h; exact ⟨a, b⟩⟩
    | 7 => obtain ⟨c, a, b⟩ := st_ao (hts _ (fwAO_ok RX5 (by decide))); exact ⟨c, fun ty h => by cases h; exact ⟨a, b⟩⟩
    | j + 8 => exact ⟨0, fun ty h => by simp [stTy] at h⟩
  obtain ⟨tC, ht⟩ := Classical.axiomOfChoice h2
  have h3 : ∀ k : Nat, ∃ a : Nat, k < 8 → vk_R RX8 (74 + 2 * k) (frmT k) a s ∧ StrF ((fun k => (d k).1, fun k => (d k).2), tC, s) a (frmL k) := fun k => by
    by_cases hk : k < 8
    · obtain ⟨a, ha⟩ := st_str (G := ((fun k => (d k).1, fun k => (d k).2), tC, s)) (args := args) (own := RX8) (k := 74 + 2 * k) (cs := frmL k) (tx := frmT k) (Nat.lt_trans (frmL_100 k) (by decide)) (fun w hw => hfl w (strA_ok k hk w hw)) (hts _ (strB_ok k hk))
      exact ⟨a, fun _ => ha⟩
    · exact ⟨0, fun h => absurd h hk⟩
  obtain ⟨adr, ha⟩ := Classical.axiomOfChoice h3
  have h5 : ∀ k : Nat, ∃ a : Nat, ∀ q ∈ lwT, q.1 = k → vk_R RL q.1 q.2.1 a s ∧ StrF ((fun k => (d k).1, fun k => (d k).2), tC, s) a q.2.2 := fun k => by
    by_cases hk : ∃ q ∈ lwT, q.1 = k
    · obtain ⟨q, hq, rfl⟩ := hk
      obtain ⟨⟨b1, b2⟩, b3⟩ := lwT_ok q hq
      obtain ⟨a, ha⟩ := st_str (G := ((fun k => (d k).1, fun k => (d k).2), tC, s)) (args := args) (own := RL) (k := q.1) (cs := q.2.2) (tx := q.2.1) (Nat.lt_trans b3 (by decide)) (fun w hw => hfl w (b1 w hw)) (hts _ b2)
      exact ⟨a, fun q2 hq2 e2 => by rw [lwT_in q2 hq2 q hq e2]; exact ha⟩
    · exact ⟨0, fun q hq e => absurd ⟨q, hq, e⟩ hk⟩
  obtain ⟨lad, hlad⟩ := Classical.axiomOfChoice h5
  have hA : ∀ a : Nat, a < s.heap.size → ¬ fwA ((fun k => (d k).1, fun k => (d k).2), tC, s) a := fun a h => Nat.not_le.mpr h
  obtain ⟨dd, hdd, hdT⟩ := va_Tof (f := fun j => .int (nI (48 + j % 10))) (A := fwA ((fun k => (d k).1, fun k => (d k).2), tC, s)) (N := 100) (by decide) (hfl _ (dgA_ok (.arrayOf dgT .byte) (by decide))) (va_eqt (hfl _ (dgA_ok (.eq (.length dgT) (.int 100)) (by decide)))) (fun j hj => va_eqt (hfl _ (dgE_ok j hj))) hA
  refine ⟨(fun k => (d k).1, fun k => (d k).2), tC, adr, lad, dd, ⟨⟨fun k q hq => hd k q hq, fun k q hq => ?_⟩, fun w hw => va_Nw.of (fwNest_ok w hw).2 (hts _ (fwNest_ok w hw).1), fun C hC => va_AO.of (hts _ (fwAO_ok C hC))⟩, ⟨?_, fun cls hc w hw => va_Nw.of (xwB_ok cls hc w hw).2 (hts _ (xwB_ok cls hc w hw).1), fun q hq => ?_, ?_, ?_⟩, va_Nc.of (hfl _ xnU_ok), fun k hk => ha k hk, ⟨?_, ?_⟩, ⟨va_Zof (hts _ (stW_ok _ (by decide))) (hts _ (stW_ok _ (by decide))) hdd hA, hdT⟩, fun q hq => hlad q.1 q hq rfl⟩
  · match k, hq with
    | 0, hq => cases hq; exact ht 0 _ rfl
    | 1, hq => cases hq; exact ht 1 _ rfl
    | 2, hq => cases hq; exact ht 2 _ rfl
    | 3, hq => cases hq; exact ht 3 _ rfl
    | 4, hq => cases hq; exact ht 4 _ rfl
    | 5, hq => cases hq; exact ht 5 _ rfl
    | 6, hq => cases hq; exact ht 6 _ rfl
    | 7, hq => cases hq; exact ht 7 _ rfl
    | k + 8, hq => simp [fwT] at hq
  · unfold Launch.stackTraces
    rw [hflags]
    decide
  · obtain ⟨a, c, cA, kA, q1, -⟩ := Cond.exactly_spec (args := args) (first := s) (o := none) (s := s) (idx := []) (t := .string RX10 q.1) (cls := "java/lang/String") (hfl _ (xwT_ok q hq).1)
    exact ⟨a, vk_R.of (hts _ (xwT_ok q hq).2) q1⟩
  · exact vx_Zqof (hts _ (stW_ok _ (by decide))) (hts _ (stW_ok _ (by decide))) (hfl _ (stQ9_ok _ (by decide))) hA
  · exact vx_Zqof (hts _ (stW_ok _ (by decide))) (hts _ (stW_ok _ (by decide))) (hfl _ (stQ9_ok _ (by decide))) hA
  · exact va_Zof (hts _ (stW_ok _ (by decide))) (hts _ (stW_ok _ (by decide))) (va_eqt (hfl _ (stQ9_ok (.eq (.static "java/lang/String" "COMPACT_STRINGS" "Z") (.int 1)) (by decide)))) hA
  · exact va_Zqof (hts _ (stW_ok _ (by decide))) (hts _ (stW_ok _ (by decide))) (hfl _ (stQ9_ok _ (by decide))) hA
