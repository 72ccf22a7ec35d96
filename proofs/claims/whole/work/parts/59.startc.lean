/-! THE LAW'S START: what stands below the base -/
theorem st_OFu {o n d : String} {v w : Value} {t : Nat} {A : Nat → Prop} {U : State} {H : Heap} (h : va_OF o n d v t A U H) (h' : va_OF o n d w t A U H) : v = w := by
  obtain ⟨cf, k, i, f, cell, e1, -, e2, -, e3, -⟩ := h
  obtain ⟨cf', k', i', f', cell', g1, -, g2, -, g3, -⟩ := h'
  rw [e1] at g1
  cases g1
  rw [e2] at g2
  cases g2
  rw [e3] at g3
  cases g3
  rfl
theorem st_Tu {ty : FieldType} {t N M : Nat} {f g : Nat → Value} {A : Nat → Prop} {U : State} {H : Heap} (h : va_T ty t N f A U H) (h' : va_T ty t M g A U H) : Int32.ofNat N = Int32.ofNat M ∧ ∀ j, j < N → j < M → f j = g j := by
  obtain ⟨cell, e1, -, -, -, e2, e3, -⟩ := h
  obtain ⟨cell', g1, -, -, -, g2, g3, -⟩ := h'
  rw [e1] at g1
  cases g1
  refine ⟨by rw [← e2, ← g2], fun j hj hk => ?_⟩
  have h1 := e3 j hj
  rw [g3 j hk] at h1
  exact (Option.some.inj h1).symm
def sDif (i j : Nat) : Bool := i == j || decide (Int32.ofNat (sLen.getD i 0) ≠ Int32.ofNat (sLen.getD j 0)) || (List.range (min (sLen.getD i 0) (sLen.getD j 0))).any fun k => decide ((sByt.getD i []).getD k 0 ≠ (sByt.getD j []).getD k 0)
theorem sdif_all : ((List.range 51).all fun i => (List.range 51).all fun j => sDif i j) = true := by decide +kernel
theorem sdif {i j : Nat} (hi : i < 51) (hj : j < 51) : sDif i j = true := List.all_eq_true.mp (List.all_eq_true.mp sdif_all i (List.mem_range.mpr hi)) j (List.mem_range.mpr hj)
theorem slen_lt : ∀ i, i < 51 → sLen.getD i 0 < 2 ^ 31 := by decide +kernel
theorem st_w {args : Array Value} {s : State} (hgv : gvC.before args s = true) {i : Nat} (hi : i < 51) {w : Cond} (hw : w ∈ sWd i) : w.before args s = true := by
  have h1 := List.all_eq_true.mp (sw_all i hi) w hw
  exact flat_of_before _ hgv w (of_decide_eq_true h1)
theorem st_one {args : Array Value} {s : State} (hgv : gvC.before args s = true) {i : Nat} (hi : i < 51) : ∃ q : Nat × Nat, (sTm i).eval args s none [] s = some (.ref q.1) ∧ va_O "java/lang/String" q.1 (fun q => s.heap.size ≤ q) s s.heap ∧ va_OF "java/lang/String" "coder" "B" (.int 0) q.1 (fun q => s.heap.size ≤ q) s s.heap ∧ va_OF "java/lang/String" "value" "[B" (.ref q.2) q.1 (fun q => s.heap.size ≤ q) s s.heap ∧ va_T .byte q.2 (sLen.getD i 0) (fun j => .int ((sByt.getD i []).getD j 0)) (fun q => s.heap.size ≤ q) s s.heap := by
  have hm : ∀ w ∈ sWd i, w.before args s = true := fun w hw => st_w hgv hi hw
  have hel : ∀ j : Nat, j < sLen.getD i 0 → (Cond.eq (.elem (sVl i) (.int (Int32.ofNat j))) (.int ((sByt.getD i []).getD j 0))).before args s = true := fun j hj =>
    hm _ (List.mem_append.mpr (Or.inr (List.mem_map.mpr ⟨j, List.mem_range.mpr hj, rfl⟩)))
  obtain ⟨adK, adV, h1, h2⟩ := vk_Sof (args := args) (s := s) (N := 1) (tm := fun _ => sTm i) (len := [sLen.getD i 0]) (byt := [sByt.getD i []]) (A := fun q => s.heap.size ≤ q)
    (fun k hk => by obtain rfl : k = 0 := by omega
                    exact slen_lt i hi)
    (fun k hk => hm _ (List.mem_append.mpr (Or.inl (by simp))))
    (fun k hk => hm _ (List.mem_append.mpr (Or.inl (by simp))))
    (fun k hk => hm _ (List.mem_append.mpr (Or.inl (by simp [sVl]))))
    (fun k hk => by obtain rfl : k = 0 := by omega
                    exact hm _ (List.mem_append.mpr (Or.inl (by simp [sVl]))))
    (fun k hk => by obtain rfl : k = 0 := by omega
                    exact hel)
    (fun k j hk hj hkj => absurd (show k = j by omega) hkj)
    (fun a ha => by omega)
  exact ⟨(adK 0, adV 0), h2 0 (by omega), h1.1 0 (by omega)⟩
theorem st_S {args : Array Value} {s : State} (hgv : gvC.before args s = true) : ∃ ad : Nat → Nat × Nat, vk_S 51 sLen sByt (fun i => (ad i).1) (fun i => (ad i).2) (fun q => s.heap.size ≤ q) s s.heap ∧ ∀ i, i < 51 → (sTm i).eval args s none [] s = some (.ref (ad i).1) := by
  have h0 : ∀ i : Nat, ∃ q : Nat × Nat, i < 51 → (sTm i).eval args s none [] s = some (.ref q.1) ∧ va_O "java/lang/String" q.1 (fun q => s.heap.size ≤ q) s s.heap ∧ va_OF "java/lang/String" "coder" "B" (.int 0) q.1 (fun q => s.heap.size ≤ q) s s.heap ∧ va_OF "java/lang/String" "value" "[B" (.ref q.2) q.1 (fun q => s.heap.size ≤ q) s s.heap ∧ va_T .byte q.2 (sLen.getD i 0) (fun j => .int ((sByt.getD i []).getD j 0)) (fun q => s.heap.size ≤ q) s s.heap := by
    intro i
    by_cases hi : i < 51
    · obtain ⟨q, h⟩ := st_one hgv hi
      exact ⟨q, fun _ => h⟩
    · exact ⟨(0, 0), fun h => absurd h hi⟩
  obtain ⟨ad, had⟩ := Classical.axiomOfChoice h0
  refine ⟨ad, ⟨fun i hi => (had i hi).2, fun i j hi hj e => ?_⟩, fun i hi => (had i hi).1⟩
  have e' : (ad i).1 = (ad j).1 := e
  have h1 := (had i hi).2.2.2.1
  have h2 := (had j hj).2.2.2.1
  rw [e'] at h1
  have h3 := st_OFu h1 h2
  injection h3 with h3
  have h4 := (had i hi).2.2.2.2
  rw [h3] at h4
  obtain ⟨h5, h6⟩ := st_Tu h4 (had j hj).2.2.2.2
  have hd := sdif hi hj
  unfold sDif at hd
  rw [Bool.or_eq_true, Bool.or_eq_true] at hd
  rcases hd with (hd | hd) | hd
  · exact beq_iff_eq.mp hd
  · exact absurd h5 (of_decide_eq_true hd)
  · obtain ⟨k, hk, hk2⟩ := List.any_eq_true.mp hd
    have hk3 := List.mem_range.mp hk
    have h7 := h6 k (by omega) (by omega)
    injection h7 with h7
    exact absurd h7 (of_decide_eq_true hk2)
def sDup (q : String × Nat × String × Nat) : Bool := decide (q.2.2.2 < 51) && (decide (Term.string q.1 q.2.1 = sTm q.2.2.2) || decide (Cond.eq (sTm q.2.2.2) (.string q.1 q.2.1) ∈ fl0))
theorem sdup_all : sTab.all sDup = true := by decide +kernel
theorem sref_all : (sTab.all fun q => decide (Cond.stringRef q.1 q.2.1 q.2.2.1 ∈ lw_tbl)) = true := by decide +kernel
theorem st_R {args : Array Value} {s : State} (hgv : gvC.before args s = true) (hts : ∀ w ∈ lw_tbl, w.before args s = true) {ad : Nat → Nat} (h : ∀ i, i < 51 → (sTm i).eval args s none [] s = some (.ref (ad i))) : ∀ q ∈ sTab, vk_R q.1 q.2.1 q.2.2.1 (ad q.2.2.2) s := by
  intro q hq
  have h1 := List.all_eq_true.mp sdup_all q hq
  have h2 := List.all_eq_true.mp sref_all q hq
  unfold sDup at h1
  rw [Bool.and_eq_true, Bool.or_eq_true] at h1
  have h3 := hts _ (of_decide_eq_true h2)
  have h4 := h _ (of_decide_eq_true h1.1)
  rcases h1.2 with h5 | h5
  · exact vk_R.of h3 (by rw [of_decide_eq_true h5]; exact h4)
  · exact vk_R.of h3 (va_eqR (flat_of_before _ hgv _ (of_decide_eq_true h5)) h4)
