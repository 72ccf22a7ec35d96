/-! led: it throws, the law catches -/
def nse : String := "java/util/NoSuchElementException"
def nsR : String := "java/lang/RuntimeException"
def nsX : String := "java/lang/Exception"
def b13 : ByteArray := prog_29_method_4_code
/-- the words that the making of this exception rests on: as Bundle.ownAtoms, but its own constructor's entry is 13 -/
def nA : List Cond := Bundle.throwableAtoms ++ (Bundle.throwableSAtoms ++ (Bundle.passSAtoms nse nsR 13 b13 ++ (Bundle.chainSAtoms nsR [nsX] ++
  [.methodLink RX10 220 (Bundle.initS nse), .instantiable nse 6, .castable nse nse, .selects nse Bundle.tFill0 Bundle.tFill0, .selects nse Bundle.tFill Bundle.tFill,
   .lays nse Bundle.tN "cause" "Ljava/lang/Throwable;", .lays nse Bundle.tN "stackTrace" Bundle.steD, .lays nse Bundle.tN "suppressedExceptions" Bundle.listD, .lays nse Bundle.tN "detailMessage" "Ljava/lang/String;",
   .isRef (.static Bundle.tN "UNASSIGNED_STACK" Bundle.steD), .isRef (.static Bundle.tN "SUPPRESSED_SENTINEL" Bundle.listD),
   .fieldLink Bundle.tN 198 Bundle.tN "backtrace" "Ljava/lang/Object;", .lays Bundle.tN Bundle.tN "backtrace" "Ljava/lang/Object;", .lays nse Bundle.tN "backtrace" "Ljava/lang/Object;"])))
theorem led_t1 : (nA.filter vx_no).all (fun w => decide (w ∈ lw_tbl)) = true := by decide +kernel
theorem led_t2 : (nA.filter vx_no).all (fun w => okw w || decide (w ∈ [Cond.declares (Bundle.initS nsR), .declares (Bundle.initS nsX), .declares (Bundle.initS Bundle.tN), .castable nse nse])) = true := by decide +kernel
theorem led_t3 : (nA.filter vx_no).all vx_ot = true := by decide +kernel
theorem led_t4 : Bundle.fit nse = true ∧ Bundle.fit nsR = true ∧ Bundle.fit nsX = true := by decide +kernel
