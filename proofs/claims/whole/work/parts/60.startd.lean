/-! THE LAW'S START: statics, the base, the exception's words -/
def aWd (tm : Term) (l : List Int) : List Cond := [.arrayOf tm .int, .eq (.length tm) (.int (Int32.ofNat l.length))] ++ (List.range l.length).map fun j => .eq (.elem tm (.int (Int32.ofNat j))) (.int (Int32.ofInt (l.getD j 0)))
theorem aw_room : (aWd (.static "TollBars" "ROOM" "[I") roomL).all (fun w => decide (w ∈ fl0)) = true := by decide +kernel
theorem aw_cnt : (aWd (.static "TollBars" "COUNTED" "[I") cntL).all (fun w => decide (w ∈ fl0)) = true := by decide +kernel
def zWd : List Cond := [.eq (.static "java/lang/String" "COMPACT_STRINGS" "Z") (.int 1), .isRef (.static "jdk/internal/util/Preconditions" "SIOOBE_FORMATTER" "Ljava/util/function/BiFunction;"), .isRef (.static Bundle.tN "UNASSIGNED_STACK" Bundle.steD), .isRef (.static Bundle.tN "SUPPRESSED_SENTINEL" Bundle.listD)]
theorem zw_all : zWd.all (fun w => decide (w ∈ fl0)) = true := by decide +kernel
def yWd : List Cond := [.laysStatic "TollBars" "ROOM" "[I", .initialized "TollBars", .laysStatic "TollBars" "COUNTED" "[I", .laysStatic "java/lang/String" "COMPACT_STRINGS" "Z", .initialized "java/lang/String", .laysStatic "jdk/internal/util/Preconditions" "SIOOBE_FORMATTER" "Ljava/util/function/BiFunction;", .initialized "jdk/internal/util/Preconditions", .laysStatic Bundle.tN "UNASSIGNED_STACK" Bundle.steD, .laysStatic Bundle.tN "SUPPRESSED_SENTINEL" Bundle.listD, .initialized Bundle.tN] ++ nX
theorem yw_all : yWd.all (fun w => decide (w ∈ lw_tbl)) = true := by decide +kernel
theorem st_row {args : Array Value} {s : State} (hgv : gvC.before args s = true) {tm : Term} {l : List Int} (hl : l.length < 2 ^ 31) (hw : (aWd tm l).all (fun w => decide (w ∈ fl0)) = true) : ∃ t : Nat, tm.eval args s none [] s = some (.ref t) ∧ va_T .int t l.length (fun j => .int (Int32.ofInt (l.getD j 0))) (fun q => s.heap.size ≤ q) s s.heap := by
  have hm : ∀ w ∈ aWd tm l, w.before args s = true := fun w h => flat_of_before _ hgv w (of_decide_eq_true (List.all_eq_true.mp hw w h))
  refine va_Tof hl (hm _ (List.mem_append.mpr (Or.inl (by simp)))) (va_eqt (hm _ (List.mem_append.mpr (Or.inl (by simp))))) (fun j hj => ?_) (fun a ha => by omega)
  exact va_eqt (hm _ (List.mem_append.mpr (Or.inr (List.mem_map.mpr ⟨j, List.mem_range.mpr hj, rfl⟩))))
theorem st_SF {b : Nat} {s : State} (hgv : gvC.before #[Value.ref b] s = true) (hts : ∀ w ∈ lw_tbl, w.before #[Value.ref b] s = true) : ∃ sa : Nat → Nat, sa 993 = b ∧ SF s.heap.size sa s := by
  have hy : ∀ w ∈ yWd, w.before #[Value.ref b] s = true := fun w h => hts w (of_decide_eq_true (List.all_eq_true.mp yw_all w h))
  have hz : ∀ w ∈ zWd, w.before #[Value.ref b] s = true := fun w h => flat_of_before _ hgv w (of_decide_eq_true (List.all_eq_true.mp zw_all w h))
  have hA : ∀ a : Nat, a < s.heap.size → ¬ s.heap.size ≤ a := fun a ha => by omega
  obtain ⟨ad, h1, h2⟩ := st_S hgv
  obtain ⟨t0, a1, a2⟩ := st_row hgv (l := roomL) (by decide) aw_room
  obtain ⟨t1, b1, b2⟩ := st_row hgv (l := cntL) (by decide) aw_cnt
  have c1 := va_Zof (hy (.laysStatic "java/lang/String" "COMPACT_STRINGS" "Z") (by simp [yWd])) (hy (.initialized "java/lang/String") (by simp [yWd])) (va_eqt (hz (.eq (.static "java/lang/String" "COMPACT_STRINGS" "Z") (.int 1)) (by simp [zWd]))) hA
  have d1 := va_Zqof (hy (.laysStatic "jdk/internal/util/Preconditions" "SIOOBE_FORMATTER" "Ljava/util/function/BiFunction;") (by simp [yWd])) (hy (.initialized "jdk/internal/util/Preconditions") (by simp [yWd])) (hz (.isRef (.static "jdk/internal/util/Preconditions" "SIOOBE_FORMATTER" "Ljava/util/function/BiFunction;")) (by simp [zWd])) hA
  have d2 : ∃ t2 : Nat, va_Z "jdk/internal/util/Preconditions" "SIOOBE_FORMATTER" "Ljava/util/function/BiFunction;" .null (fun q => s.heap.size ≤ q) s s.heap ∨ va_Z "jdk/internal/util/Preconditions" "SIOOBE_FORMATTER" "Ljava/util/function/BiFunction;" (.ref t2) (fun q => s.heap.size ≤ q) s s.heap := by
    rcases d1 with d1 | ⟨t, d1⟩
    · exact ⟨0, Or.inl d1⟩
    · exact ⟨t, Or.inr d1⟩
  obtain ⟨t2, d2⟩ := d2
  obtain ⟨sa, hsa⟩ : ∃ sa : Nat → Nat, sa = fun k => if k < 51 then (ad k).1 else if k < 151 then (ad (k - 100)).2 else if k = 990 then t0 else if k = 991 then t1 else if k = 992 then t2 else b := ⟨_, rfl⟩
  have e0 : ∀ i, i < 51 → sa i = (ad i).1 := fun i hi => by rw [hsa]; exact if_pos hi
  have e1 : ∀ i, i < 51 → sa (100 + i) = (ad i).2 := fun i hi => by
    rw [hsa]
    show (if 100 + i < 51 then _ else if 100 + i < 151 then (ad (100 + i - 100)).2 else _) = _
    rw [if_neg (by omega), if_pos (by omega), show 100 + i - 100 = i by omega]
  have e2 : sa 990 = t0 := by rw [hsa]; rfl
  have e3 : sa 991 = t1 := by rw [hsa]; rfl
  have e4 : sa 992 = t2 := by rw [hsa]; rfl
  refine ⟨sa, by rw [hsa]; rfl, ⟨fun i hi => ?_, fun i j hi hj e => ?_⟩, fun q hq => ?_, ⟨?_, ?_⟩, ⟨?_, ?_⟩, c1, ?_⟩
  · have := h1.1 i hi
    simp only [e0 i hi, e1 i hi]
    exact this
  · have e' : sa i = sa j := e
    rw [e0 i hi, e0 j hj] at e'
    exact h1.2 i j hi hj e'
  · have h3 := st_R hgv hts (ad := sa) (fun i hi => by rw [e0 i hi]; exact h2 i hi) q hq
    exact h3
  · rw [e2]
    exact va_Zref (hy (.laysStatic "TollBars" "ROOM" "[I") (by simp [yWd])) (hy (.initialized "TollBars") (by simp [yWd])) a1 hA
  · rw [e2]
    exact a2
  · rw [e3]
    exact va_Zref (hy (.laysStatic "TollBars" "COUNTED" "[I") (by simp [yWd])) (hy (.initialized "TollBars") (by simp [yWd])) b1 hA
  · rw [e3]
    exact b2
  · rw [e4]
    exact d2
theorem st_TH {b : Nat} {s : State} (hgv : gvC.before #[Value.ref b] s = true) (hts : ∀ w ∈ lw_tbl, w.before #[Value.ref b] s = true) : TH s.heap.size s := by
  have hy : ∀ w ∈ yWd, w.before #[Value.ref b] s = true := fun w h => hts w (of_decide_eq_true (List.all_eq_true.mp yw_all w h))
  have hz : ∀ w ∈ zWd, w.before #[Value.ref b] s = true := fun w h => flat_of_before _ hgv w (of_decide_eq_true (List.all_eq_true.mp zw_all w h))
  have hA : ∀ a : Nat, a < s.heap.size → ¬ s.heap.size ≤ a := fun a ha => by omega
  refine ⟨fun w hw => ?_, ?_, ?_⟩
  · have h1 := hy w (List.mem_append.mpr (Or.inr hw))
    unfold nX at hw
    rcases List.mem_cons.mp hw with rfl | hw
    · exact h1
    rcases List.mem_cons.mp hw with rfl | hw
    · exact h1
    rcases List.mem_cons.mp hw with rfl | hw
    · exact h1
    rcases List.mem_cons.mp hw with rfl | hw
    · exact h1
    · cases hw
  · exact vx_Zqof (hy (.laysStatic Bundle.tN "UNASSIGNED_STACK" Bundle.steD) (by simp [yWd])) (hy (.initialized Bundle.tN) (by simp [yWd])) (hz (.isRef (.static Bundle.tN "UNASSIGNED_STACK" Bundle.steD)) (by simp [zWd])) hA
  · exact vx_Zqof (hy (.laysStatic Bundle.tN "SUPPRESSED_SENTINEL" Bundle.listD) (by simp [yWd])) (hy (.initialized Bundle.tN) (by simp [yWd])) (hz (.isRef (.static Bundle.tN "SUPPRESSED_SENTINEL" Bundle.listD)) (by simp [zWd])) hA
