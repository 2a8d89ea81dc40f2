/-! 'throw new NoSuchElementException(..)': its constructor passes the message on at index 13 -/
abbrev neN : String := "java/util/NoSuchElementException"
abbrev neR : String := "java/lang/RuntimeException"
abbrev neE : List String := ["java/lang/Exception"]
abbrev neB : ByteArray := prog_18_method_4_code
theorem neB_0 : decode neB 0 = .ok (.aload_n 0, 1) := by decide +kernel
theorem neB_1 : decode neB 1 = .ok (.aload_n 1, 1) := by decide +kernel
theorem neB_2 : decode neB 2 = .ok (.invokespecial 13, 3) := by decide +kernel
theorem neB_5 : decode neB 5 = .ok (.return_, 1) := by decide +kernel
/-- the words of the throw: the superclasses' as the library has them, this class's own with its own index -/
def neT (own : String) (ic : Nat) : List Cond := [.methodLink own ic (Bundle.initS neN), .instantiable neN 6, .castable neN neN, .selects neN Bundle.tFill0 Bundle.tFill0, .selects neN Bundle.tFill Bundle.tFill, .lays neN Bundle.tN "cause" "Ljava/lang/Throwable;", .lays neN Bundle.tN "stackTrace" Bundle.steD, .lays neN Bundle.tN "suppressedExceptions" Bundle.listD, .lays neN Bundle.tN "detailMessage" "Ljava/lang/String;", .isRef (.static Bundle.tN "UNASSIGNED_STACK" Bundle.steD), .isRef (.static Bundle.tN "SUPPRESSED_SENTINEL" Bundle.listD), .fieldLink Bundle.tN 198 Bundle.tN "backtrace" "Ljava/lang/Object;", .lays Bundle.tN Bundle.tN "backtrace" "Ljava/lang/Object;", .lays neN Bundle.tN "backtrace" "Ljava/lang/Object;"]
def neA (own : String) (ic : Nat) : List Cond := Bundle.throwableAtoms ++ (Bundle.throwableSAtoms ++ (Bundle.passSAtoms neN neR 13 neB ++ (Bundle.chainSAtoms neR neE ++ neT own ic)))
set_option maxRecDepth 100000 in
theorem neA_in : ∀ w ∈ (neA RX9 148).filter goodWord, w ∈ kp_tb := by decide +kernel
set_option maxRecDepth 100000 in
theorem neA_tb : ∀ w ∈ neA RX9 148, w ∈ lw_tbl := by decide +kernel
