/-! the exception is made, and leaves the method -/
theorem nse_sel {pl : Platform} {s : State} {args : Array Value} {t : MethodName} {mt : MethodId} {cX : ClassId} (hsm : selectMethod pl s.vm cX mt = selectMethod {} s.vm cX mt) (hm : s.methodNamed? t = some mt) (ht : t.cls ≠ "java/lang/invoke/MethodHandle" ∧ t.cls ≠ "java/lang/invoke/VarHandle") (hs : (Cond.selects nse t t).before args s = true) (hf : s.vm.findClass nse = some cX) : selectMethod pl s.vm cX mt = .method mt := by
  obtain ⟨c2, r2, m2, q1, q2, q3, q4, -⟩ := Cond.selects_spec hs
  have e1 : c2 = cX := Option.some.inj (q1.symm.trans hf)
  have e2 : r2 = mt := Option.some.inj (q2.symm.trans (State.methodFound?_of_named hm ht))
  have e3 : m2 = mt := Option.some.inj (q3.symm.trans hm)
  rw [hsm, ← e1, ← e2, q4, e3, e2]
set_option maxHeartbeats 1000000 in
theorem nse_make {p : Program} {l : Launch} {e : Env} {R : Room} {s : State} {m₀ : MethodId} {args : Array Value} {below : List Frame} {meth : Method} {c : Code} {V : State} {cells slots : Nat} (X : Stand p l e R s m₀ args below meth c V [] cells slots) (hexec : p.tables.exec = Jvm.exec) (htr : e.platform.stackTraces = false) (hown : s.vm.findClass RX10 = some m₀.cls) (h : ∀ w ∈ nA, w.before args s = true)
    {a : Addr} {cX : ClassId} {kX : Class} (hfX : s.vm.findClass nse = some cX) (hkX : s.vm.classes[cX]? = some kX) (hcell : V.heap[a]? = some (freshCell cX kX)) (hnew : s.heap.size ≤ a) {msg : Value} (hmsg : msg.isRef = true) {g : JFrame} (hg : g.method = m₀) (hsize : g.locals.size = c.maxLocals) (hlocked : g.locked = none) (hentered : g.entered = []) {rest : List Value} (hstack : g.stack = msg :: .ref a :: .ref a :: rest)
    (hd6 : decode c.code g.pc = .ok (.invokespecial 220, 3)) (hd9 : decode c.code (g.pc + 3) = .ok (.athrow, 1)) (hout : ∀ x ∈ c.exceptionTable.toList, covers x (g.pc + 3) = false) (hRf : 5 < R.frames) (hRl : 2 * g.monitorRoom + ((Value.ref a :: rest).map fun v => v.category).sum + 81 ≤ R.locals) (hlocks : meth.locks = false) :
    ∃ U : State, Steps p.tables e below (V.setTop g) U ∧ U.status = .running ∧ Ended U below (.threw a) ∧ s.WarmedH U.vm ∧ s.sameButNew ({ U with vm := s.vm } : State) [] cells slots ∧ ∃ ce : Cell, U.heap[a]? = some ce ∧ ce.vm = .none ∧ s.vm.findClass nse = some ce.cls := by
  have o1 : e.platform.frameOwnsMonitors = true := by rw [X.admits.platform]
  have o2 : e.platform.finalization = false := by rw [X.admits.platform]
  have o3 : e.platform.magicAccessors = ({} : Platform).magicAccessors := by rw [X.admits.platform]
  obtain ⟨T, Z0, L, -, Y⟩ := ThrowableC.of_atoms (args := args) o1 o2 o3 (fun w hw => h w (nA_1 w hw))
  obtain ⟨Z, M, LZ, LM, hnZ⟩ := Init0T.ofS_atoms (args := args) o3 L Y (fun w hw => h w (nA_2 w hw))
  obtain ⟨P, Ps, hlen, hLs, hPm, hlink⟩ := nse_pass (args := args) o3 hnZ h
  -- the kind of the cell
  have hPc : P.m.cls = cX := Option.some.inj ((findClass_of_methodNamed hPm).symm.trans hfX)
  obtain ⟨c1, k1, hc1, hk1, hord, -, -, -⟩ := Cond.instantiable_spec (h (.instantiable nse 6) (nA_5 1 rfl))
  have ec : c1 = cX := Option.some.inj (hc1.symm.trans hfX)
  subst ec
  have ek : k1 = kX := Option.some.inj (hk1.symm.trans hkX)
  subst ek
  have s0 := nse_sel (pl := e.platform) (by rw [Launch.admits_selectMethod X.admits]) Y.fill0 (by decide) (h (.selects nse Bundle.tFill0 Bundle.tFill0) (nA_5 3 rfl)) hfX
  have sF := nse_sel (pl := e.platform) (by rw [Launch.admits_selectMethod X.admits]) Y.fill (by decide) (h (.selects nse Bundle.tFill Bundle.tFill) (nA_5 4 rfl)) hfX
  -- the statics
  obtain ⟨cS0, hS0, hSs⟩ := Y.statics
  obtain ⟨u0, hu0⟩ := Cond.staticRefV Y.unassigned L.unassignedStatic L.statics hS0 hSs (h (.isRef (.static Bundle.tN "UNASSIGNED_STACK" Bundle.steD)) (nA_5 9 rfl))
  obtain ⟨sn, hsn⟩ := Cond.staticRefV Y.sentinel L.sentinelStatic L.statics hS0 hSs (h (.isRef (.static Bundle.tN "SUPPRESSED_SENTINEL" Bundle.listD)) (nA_5 10 rfl))
  obtain ⟨cS, hS1, heS, -, hkeep⟩ := X.same.2.2.2.2.2 T.aS cS0 hS0
  have hSk : cS.vm ≠ .unknown := by
    rw [heS]
    intro hu
    rw [show cS0.vm = .unknown from hu] at hSs
    cases hSs
  have hSa : T.aS ≠ a := Nat.ne_of_lt (Nat.lt_of_lt_of_le (Array.getElem?_eq_some_iff.mp hS0).1 hnew)
  -- the slots
  obtain ⟨iM, hfM⟩ := Y.msg
  obtain ⟨ci9, i9, fB, hk9, hg9, ha9, hsB, -, hnB, htB, hfB⟩ := Cond.ownField (t := .object "java/lang/Object") Y.found L.cls (by decide +kernel) (h (.fieldLink Bundle.tN 198 Bundle.tN "backtrace" "Ljava/lang/Object;") (nA_5 11 rfl)) (h (.lays Bundle.tN Bundle.tN "backtrace" "Ljava/lang/Object;") (nA_5 12 rfl)) e.platform o3
  obtain ⟨tC, dC, hdC, hnC⟩ := Cond.laysAt hfX hkX Y.cause (h (.lays nse Bundle.tN "cause" "Ljava/lang/Throwable;") (nA_5 5 rfl))
  obtain ⟨tS, dS, hdS, hnS⟩ := Cond.laysAt hfX hkX Y.stack (h (.lays nse Bundle.tN "stackTrace" Bundle.steD) (nA_5 6 rfl))
  obtain ⟨tP, dP, hdP, hnP⟩ := Cond.laysAt hfX hkX Y.supp (h (.lays nse Bundle.tN "suppressedExceptions" Bundle.listD) (nA_5 7 rfl))
  obtain ⟨tM, dM, hdM, hnM⟩ := Cond.laysAt hfX hkX hfM (h (.lays nse Bundle.tN "detailMessage" "Ljava/lang/String;") (nA_5 8 rfl))
  obtain ⟨tB, dB, hdB, hnB2⟩ := Cond.laysAt hfX hkX hfB (h (.lays nse Bundle.tN "backtrace" "Ljava/lang/Object;") (nA_5 13 rfl))
  have bC := Cond.laysApart hdB hdC hnB2 hnC (by rw [hnB, Y.causeName]; decide)
  have bS := Cond.laysApart hdB hdS hnB2 hnS (by rw [hnB, Y.stackName]; decide)
  have bP := Cond.laysApart hdB hdP hnB2 hnP (by rw [hnB, Y.suppName]; decide)
  have hnull : ((preparedCellV T.toThrowableT (freshCell c1 k1) a u0 sn).withEntry V.cur).slots[fB.slot]? = some .null := by
    have h0 := fresh_default (c := c1) tB
    rw [htB] at h0
    simpa [preparedCellV, Cell.setSlot, Cell.withEntry, Array.getElem?_setIfInBounds, bC, bS, bP, bC.symm, bS.symm, bP.symm, defaultValue] using h0
  -- the call, the throw
  obtain ⟨tm, mC, cdC, kC, v1, hn1, -, -, -, -, -, -, -, hW1, st1⟩ := Steps.initColdS (tb := p.tables) (e := e) (below := below) (s := s) (U := V) X.here hexec X.warmed o3 hown (t := Bundle.initS nse) rfl rfl (Bundle.fit_spec led_t4.1).2 (h (.methodLink RX10 220 (Bundle.initS nse)) (nA_5 0 rfl)) (h (.instanceMethod (Bundle.initS nse)) (nA_3 _ (by decide +kernel))) (bytes := b13) (maxL := 2) (h (.code (Bundle.initS nse) b13 2 none) (nA_3 _ (by decide +kernel))) (f := g) hg (a := a) (msg := msg) (rest := .ref a :: rest) hstack hd6
  have etm : tm = P.m := Option.some.inj (hn1.symm.trans hPm)
  subst etm
  obtain ⟨v2, X2, st2⟩ := (X.noted hW1).ctorMessageOffV hexec (g := { g with stack := .ref a :: rest }) hg hsize T L Z LZ M LM (P :: Ps) hLs hlink (u0 := u0) (sen := sn) (self := a) hmsg (cell := freshCell c1 k1) (cellS := cS) hcell (fun _ => by simp) (by simp) rfl rfl s0 sF hS1 hSa hSk (by rw [hkeep _ (fun hm => nomatch hm)]; exact hu0) (by rw [hkeep _ (fun hm => nomatch hm)]; exact hsn)
    (Takes.of_laid hkX hord tC (by rw [Y.causeType]; rfl)) (Takes.of_laid hkX hord tS (by rw [Y.stackType]; exact fits_refV_array _ u0)) (Takes.of_laid hkX hord tP (by rw [Y.suppType]; exact fits_refV_object _ sn)) (Takes.of_laid hkX hord tM (by rw [Y.msgType]; exact fits_refV_object _ ⟨msg, hmsg⟩)) Y.objLocals ⟨{ ci198 := ci9, i198 := i9, fBack := fB }, ⟨hk9, hg9, ha9, hsB⟩, hnull, fun _ _ => rfl⟩ htr [] hd6 (by rw [List.length_cons, hlen]; omega) (by rw [List.length_cons, hlen]; exact hRl)
  obtain ⟨hwalk, hrun, hend, hWU, hsame⟩ := X2.athrowLeaves hexec (g := { g with stack := .ref a :: rest, pc := g.pc + 3 }) hg hlocked hentered hout (a := a) (rest := rest) rfl hd9
  have hlt : a < ((V.setVm v1).setVm v2).heap.size := (Array.getElem?_eq_some_iff.mp hcell).1
  have hU := heapAt_setCell_self (s := (V.setVm v1).setVm v2) (plainBareV T.toThrowableT (freshCell c1 k1) a u0 sn msg) hlt
  refine ⟨_, st1 _ (fun acts => ?_), hrun, hend, hWU, hsame.weaken (fun y hy hl9 => ?_) (Nat.le_refl _) (Nat.le_refl _), _, hU, rfl, hfX⟩
  · rw [doInvoke_state]
    exact st2 _ hwalk
  · exfalso
    rw [List.nil_append] at hy
    have hb : y.base = a := by
      simp only [List.mem_cons, List.not_mem_nil, or_false] at hy
      rcases hy with rfl | rfl | rfl | rfl | rfl <;> rfl
    rw [hb] at hl9
    exact Nat.not_lt.mpr hnew hl9
