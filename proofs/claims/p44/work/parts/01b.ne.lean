/-! ===== java/util/NoSuchElementException: its constructor calls on by another number than its kin ===== -/
def neN : String := "java/util/NoSuchElementException"
def neR : String := "java/lang/RuntimeException"
/-- the two words that differ -/
def vy_swN (w : Cond) : Cond := if w = .code (Bundle.initS neN) Bundle.six 2 none then .code (Bundle.initS neN) prog_39_method_4_code 2 none else if w = .methodLink neN 7 (Bundle.initS neR) then .methodLink neN 13 (Bundle.initS neR) else w
def vy_atN (own : String) (ic : Nat) : List Cond := ((Bundle.ownAtoms own ic neN [neR, "java/lang/Exception"]).map vy_swN).filter vx_no
theorem ne_0 : decode prog_39_method_4_code 0 = .ok (.aload_n 0, 1) := by decide +kernel
theorem ne_1 : decode prog_39_method_4_code 1 = .ok (.aload_n 1, 1) := by decide +kernel
theorem ne_2 : decode prog_39_method_4_code 2 = .ok (.invokespecial 13, 3) := by decide +kernel
theorem ne_5 : decode prog_39_method_4_code 5 = .ok (.return_, 1) := by decide +kernel
theorem ne_good : ((vy_atN "UnreadLeaflets" 228).filter goodWord).all (fun w => decide (w ∈ lw_tbl)) = true := by decide +kernel
