/-! led: it throws, the law catches -/
def nse : String := "java/util/NoSuchElementException"
def nsR : String := "java/lang/RuntimeException"
def nsX : String := "java/lang/Exception"
def b13 : ByteArray := prog_29_method_4_code
/-- the words that the making of this exception rests on: as Bundle.ownAtoms, but its own constructor's entry is 13 -/
def nA : List Cond := Bundle.throwableAtoms ++ (Bundle.throwableSAtoms ++ (Bundle.passSAtoms nse nsR 13 b13 ++ (Bundle.chainSAtoms nsR [nsX] ++
  [.methodLink RX10 220 (Bundle.initS nse), .instantiable nse 6, .castable nse nse, .selects nse Bundle.tFill0 Bundle.tFill0, .selects nse Bundle.tFill Bundle.tFill,
   .lays nse Bundle.tN "cause" "Ljava/lang/Throwable;", .lays nse Bundle.tN "stackTrace" Bundle.steD, .lays nse Bundle.tN "suppressedExceptions" Bundle.listD, .lays nse Bundle.tN "detailMessage" "Ljava/lang/String;",
   .isRef (.static Bundle.tN "UNASSIGNED_STACK" Bundle.steD), .isRef (.static Bundle.tN "SUPPRESSED_SENTINEL" Bundle.listD),
   .fieldLink Bundle.tN 198 Bundle.tN "backtrace" "Ljava/lang/Object;", .lays Bundle.tN Bundle.tN "backtrace" "Ljava/lang/Object;", .lays nse Bundle.tN "backtrace" "Ljava/lang/Object;"])))
theorem led_t1 : (nA.filter vx_no).all (fun w => decide (w ∈ lw_tbl)) = true := by decide +kernel
theorem led_t2 : (nA.filter vx_no).all (fun w => okw w || decide (w ∈ [Cond.declares (Bundle.initS nsR), .declares (Bundle.initS nsX), .declares (Bundle.initS Bundle.tN), .castable nse nse])) = true := by decide +kernel
theorem led_t3 : (nA.filter vx_no).all vx_ot = true := by decide +kernel
theorem led_t4 : Bundle.fit nse = true ∧ Bundle.fit nsR = true ∧ Bundle.fit nsX = true := by decide +kernel
theorem b13_0 : decode b13 0 = .ok (.aload_n 0, 1) := by decide +kernel
theorem b13_1 : decode b13 1 = .ok (.aload_n 1, 1) := by decide +kernel
theorem b13_2 : decode b13 2 = .ok (.invokespecial 13, 3) := by decide +kernel
theorem b13_5 : decode b13 5 = .ok (.return_, 1) := by decide +kernel
theorem nA_1 : ∀ w ∈ Bundle.throwableAtoms, w ∈ nA := fun w h => List.mem_append_left _ h
theorem nA_2 : ∀ w ∈ Bundle.throwableSAtoms, w ∈ nA := fun w h => List.mem_append_right _ (List.mem_append_left _ h)
theorem nA_3 : ∀ w ∈ Bundle.passSAtoms nse nsR 13 b13, w ∈ nA := fun w h => List.mem_append_right _ (List.mem_append_right _ (List.mem_append_left _ h))
theorem nA_4 : ∀ w ∈ Bundle.chainSAtoms nsR [nsX], w ∈ nA := fun w h => List.mem_append_right _ (List.mem_append_right _ (List.mem_append_right _ (List.mem_append_left _ h)))
theorem nA_5 {w : Cond} (i : Nat) (h : ([.methodLink RX10 220 (Bundle.initS nse), .instantiable nse 6, .castable nse nse, .selects nse Bundle.tFill0 Bundle.tFill0, .selects nse Bundle.tFill Bundle.tFill,
   .lays nse Bundle.tN "cause" "Ljava/lang/Throwable;", .lays nse Bundle.tN "stackTrace" Bundle.steD, .lays nse Bundle.tN "suppressedExceptions" Bundle.listD, .lays nse Bundle.tN "detailMessage" "Ljava/lang/String;",
   .isRef (.static Bundle.tN "UNASSIGNED_STACK" Bundle.steD), .isRef (.static Bundle.tN "SUPPRESSED_SENTINEL" Bundle.listD),
   .fieldLink Bundle.tN 198 Bundle.tN "backtrace" "Ljava/lang/Object;", .lays Bundle.tN Bundle.tN "backtrace" "Ljava/lang/Object;", .lays nse Bundle.tN "backtrace" "Ljava/lang/Object;"] : List Cond)[i]? = some w) : w ∈ nA := List.mem_append_right _ (List.mem_append_right _ (List.mem_append_right _ (List.mem_append_right _ (List.mem_of_getElem? h))))
/-- the three constructors that hand the text on, and what they are called by -/
theorem nse_pass {args : Array Value} {s : State} {pl : Platform} (hpl : pl.magicAccessors = ({} : Platform).magicAccessors) {top : MethodId} (htop : s.methodNamed? (Bundle.initS Bundle.tN) = some top) (h : ∀ w ∈ nA, w.before args s = true) :
    ∃ (P : PassC) (Ps : List PassC), Ps.length = 2 ∧ (∀ Q, Q ∈ P :: Ps → Q.LinksS pl s) ∧ s.methodNamed? (Bundle.initS nse) = some P.m ∧ PassesOn top ((P :: Ps).map (·.toPassT)) := by
  obtain ⟨P1, P2, hlen, L1, L2, hm1, hs1, hp1⟩ := Bundle.chainS (args := args) hpl htop [nsX] nsR led_t4.2.1 (fun n hn => by rw [List.mem_singleton.mp hn]; exact led_t4.2.2) (fun w hw => h w (nA_4 w hw))
  obtain ⟨P, L, hm, hs⟩ := PassC.ofS_atoms (args := args) (s := s) hpl (X := nse) (Y := nsR) (Bundle.fit_spec led_t4.1).1 (Bundle.fit_spec led_t4.2.1).2 b13_0 b13_1 b13_2 b13_5 (fun w hw => h w (nA_3 w hw))
  refine ⟨P, P1 :: P2, by rw [List.length_cons, hlen]; rfl, fun Q hQ => ?_, hm, Option.some.inj (hs.symm.trans hm1), hs1, hp1⟩
  rcases List.mem_cons.mp hQ with rfl | hQ
  · exact L
  · rcases List.mem_cons.mp hQ with rfl | hQ
    · exact L1
    · exact L2 Q hQ
