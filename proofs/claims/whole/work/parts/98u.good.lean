/-! THE READER: behind each line the ranges stand -/
/-- behind a line of sort r: good, one more of that sort, none of another -/
def Nxt (r : Nat) (R : IV) (v : Ps) : Prop := GoodV v ∧ v.2.2.2.2.2 1 r = R 1 r + 1 ∧ ∀ s, s < 12 → s ≠ r → v.2.2.2.2.2 1 s = R 1 s
theorem own {m lo hi : Nat} {r x v : Int} {so nu : F1} (h : ∃ j, j < m + 1 ∧ (lo : Int) ≤ up1 so m r j ∧ up1 so m r j ≤ (hi : Int) ∧ v = up1 nu m x j) (hr : r < lo ∨ (hi : Int) < r) : ∃ j, j < m ∧ (lo : Int) ≤ so j ∧ so j ≤ (hi : Int) ∧ v = nu j := by
  obtain ⟨j, h1, h2, h3, h4⟩ := h
  by_cases z : j = m
  · rw [z, up1_eq] at h2 h3; omega
  · rw [up1_ne z] at h2 h3 h4; exact ⟨j, by omega, h2, h3, h4⟩
theorem us0 {m : Nat} {v : Int} {so nu : F1} {R : IV} (N : NI m so nu R) (h : ∃ j, j < m ∧ ((0 : Nat) : Int) ≤ so j ∧ so j ≤ ((0 : Nat) : Int) ∧ v = nu j) : 0 ≤ v ∧ v < R 1 0 := by
  obtain ⟨j, h1, h2, h3, h4⟩ := h
  have n := N.2.2 j h1
  rw [h4]; exact ⟨n.1, n.2.1 (by omega)⟩
theorem us1 {m : Nat} {v : Int} {so nu : F1} {R : IV} (N : NI m so nu R) (h : ∃ j, j < m ∧ ((1 : Nat) : Int) ≤ so j ∧ so j ≤ ((1 : Nat) : Int) ∧ v = nu j) : 0 ≤ v ∧ v < R 1 1 := by
  obtain ⟨j, h1, h2, h3, h4⟩ := h
  have n := N.2.2 j h1
  rw [h4]; exact ⟨n.1, n.2.2.1 (by omega)⟩
theorem us2 {m : Nat} {v : Int} {so nu : F1} {R : IV} (N : NI m so nu R) (h : ∃ j, j < m ∧ ((2 : Nat) : Int) ≤ so j ∧ so j ≤ ((2 : Nat) : Int) ∧ v = nu j) : 0 ≤ v ∧ v < R 1 2 := by
  obtain ⟨j, h1, h2, h3, h4⟩ := h
  have n := N.2.2 j h1
  rw [h4]; exact ⟨n.1, n.2.2.2.1 (by omega)⟩
theorem us56 {m : Nat} {v : Int} {so nu : F1} {R : IV} (N : NI m so nu R) (h : ∃ j, j < m ∧ ((5 : Nat) : Int) ≤ so j ∧ so j ≤ ((6 : Nat) : Int) ∧ v = nu j) : 0 ≤ v ∧ v < 12 := by
  obtain ⟨j, h1, h2, h3, h4⟩ := h
  have cp := N.cap
  obtain ⟨n0, -, -, -, -, n5, n6, -⟩ := N.2.2 j h1
  rcases (show so j = 5 ∨ so j = 6 by omega) with z | z
  · have := n5 z; omega
  · have := n6 z; omega
theorem us57 {m : Nat} {v : Int} {so nu : F1} {R : IV} (N : NI m so nu R) (h : ∃ j, j < m ∧ ((5 : Nat) : Int) ≤ so j ∧ so j ≤ ((7 : Nat) : Int) ∧ v = nu j) : 0 ≤ v ∧ v < 16 ∧ hasG R v.toNat := by
  obtain ⟨j, h1, h2, h3, h4⟩ := h
  have cp := N.cap
  obtain ⟨n0, -, -, -, -, n5, n6, n7⟩ := N.2.2 j h1
  unfold hasG
  rcases (show so j = 5 ∨ so j = 6 ∨ so j = 7 by omega) with z | z | z
  · have := n5 z; omega
  · have := n6 z; omega
  · have := n7 z; omega
theorem cap3 {m : Nat} {so nu : F1} {R : IV} (N : NI m so nu R) : R 1 5 ≤ 6 ∧ R 1 6 ≤ 6 ∧ R 1 7 ≤ 4 ∧ 0 ≤ R 1 4 := by
  have cp := N.cap
  omega
theorem am45 (cd : Int) : amg cd (bs 45) 0 0 = if wc 44 = cd then 0 else if wc 26 = cd then 1 else if wc 20 = cd then 2 else -1 := rfl
theorem am32 (cd : Int) : amg cd (bs 32) 0 0 = if wc 31 = cd then 0 else if wc 18 = cd then 1 else -1 := rfl
theorem am35 (cd : Int) : amg cd (bs 35) 0 0 = if wc 34 = cd then 0 else if wc 16 = cd then 1 else -1 := rfl
theorem am28 (cd : Int) : amg cd (bs 28) 0 0 = if wc 27 = cd then 0 else if wc 0 = cd then 1 else -1 := rfl
theorem am11 (cd : Int) : amg cd (bs 11) 0 0 = if wc 10 = cd then 0 else if wc 38 = cd then 1 else -1 := rfl
theorem am36 (cd : Int) : amg cd (bs 36) 0 0 = if wc 34 = cd then 0 else if wc 49 = cd then 1 else -1 := rfl
theorem le45 (cd : Int) : amg cd (bs 45) 0 0 ≤ 2 := by rw [am45]; split <;> (try split) <;> (try split) <;> decide
theorem w_man {x : Nat} {v2 v3 : Int} {R R' : IV} (W : RW R) (cp : R 1 5 ≤ 6 ∧ R 1 6 ≤ 6 ∧ R 1 7 ≤ 4 ∧ 0 ≤ R 1 4) (room : 0 ≤ R 1 2 ∧ R 1 2 < roomL.getD 2 0) (hx : R 1 2 = (x : Nat))  (e : R' 1 2 = R 1 2 + 1) (n2 : R' 2 x = v2) (n3 : R' 3 x = v3) (o : ∀ k j, ¬ ((k = 1 ∧ j = 2) ∨ (k = 2 ∧ j = x) ∨ (k = 3 ∧ j = x)) → R' k j = R k j) (hr2 : 0 ≤ v2 ∧ v2 < R 1 0) (hr3 : 0 ≤ v3 ∧ v3 ≤ 999) : RW R' := by
  replace room : 0 ≤ R 1 2 ∧ R 1 2 < 6 := room
  have q0 := o 1 0 (by omega)
  have q1 := o 1 1 (by omega)
  have q3 := o 1 3 (by omega)
  have q4 := o 1 4 (by omega)
  have q5 := o 1 5 (by omega)
  have q6 := o 1 6 (by omega)
  have q7 := o 1 7 (by omega)
  have q8 := o 1 8 (by omega)
  have q9 := o 1 9 (by omega)
  have q10 := o 1 10 (by omega)
  have q11 := o 1 11 (by omega)
  have hg := hasG_eq q5 q6 q7
  refine RW.grow W (by omega) (by omega) (by omega) ?_ ?_ ?_ ?_ ?_ ?_
  · exact fun i hi => by
      by_cases z : i = x
      · subst z; right; rw [n2, n3]; omega
      · exact Or.inl ⟨by omega, o _ _ (by omega), o _ _ (by omega)⟩
  · exact fun i hi => Or.inl ⟨by omega, o _ _ (by omega), o _ _ (by omega), o _ _ (by omega), o _ _ (by omega)⟩
  · exact fun g q => Or.inl ⟨(hg g).mp q, o _ _ (by omega), o _ _ (by omega), o _ _ (by omega), o _ _ (by omega), o _ _ (by omega)⟩
  · exact fun g _ q => ⟨fun y => q ((hg g).mpr y), o _ _ (by omega), o _ _ (by omega), o _ _ (by omega)⟩
  · exact fun i hi => Or.inl ⟨by omega, o _ _ (by omega), o _ _ (by omega), o _ _ (by omega)⟩
  · exact fun i hi => Or.inl ⟨by omega, fun f _ => o _ _ (by omega)⟩
theorem w_road {x l : Nat} {v4 v5 v6 v7 : Int} {R R' : IV} (W : RW R) (cp : R 1 5 ≤ 6 ∧ R 1 6 ≤ 6 ∧ R 1 7 ≤ 4 ∧ 0 ≤ R 1 4) (room : 0 ≤ R 1 3 ∧ R 1 3 < roomL.getD 3 0) (hx : R 1 3 = (x : Nat)) (hl : R 1 3 + R 1 4 = (l : Nat)) (e : R' 1 3 = R 1 3 + 1) (n4 : R' 4 l = v4) (n5 : R' 5 l = v5) (n6 : R' 6 l = v6) (n7 : R' 7 l = v7) (o : ∀ k j, ¬ ((k = 1 ∧ j = 3) ∨ (k = 4 ∧ j = l) ∨ (k = 5 ∧ j = l) ∨ (k = 6 ∧ j = l) ∨ (k = 7 ∧ j = l)) → R' k j = R k j) (hr4 : 0 ≤ v4 ∧ v4 < R 1 0) (hr5 : 0 ≤ v5 ∧ v5 < R 1 0) (hne : v4 ≠ v5) (hr6 : 1 ≤ v6 ∧ v6 ≤ 99) (hr7 : v7 = -1) : RW R' := by
  replace room : 0 ≤ R 1 3 ∧ R 1 3 < 12 := room
  have q0 := o 1 0 (by omega)
  have q1 := o 1 1 (by omega)
  have q2 := o 1 2 (by omega)
  have q4 := o 1 4 (by omega)
  have q5 := o 1 5 (by omega)
  have q6 := o 1 6 (by omega)
  have q7 := o 1 7 (by omega)
  have q8 := o 1 8 (by omega)
  have q9 := o 1 9 (by omega)
  have q10 := o 1 10 (by omega)
  have q11 := o 1 11 (by omega)
  have hg := hasG_eq q5 q6 q7
  refine RW.grow W (by omega) (by omega) (by omega) ?_ ?_ ?_ ?_ ?_ ?_
  · exact fun i hi => Or.inl ⟨by omega, o _ _ (by omega), o _ _ (by omega)⟩
  · exact fun i hi => by
      by_cases z : i = l
      · subst z; right; rw [n4, n5, n6, n7]; omega
      · exact Or.inl ⟨by omega, o _ _ (by omega), o _ _ (by omega), o _ _ (by omega), o _ _ (by omega)⟩
  · exact fun g q => Or.inl ⟨(hg g).mp q, o _ _ (by omega), o _ _ (by omega), o _ _ (by omega), o _ _ (by omega), o _ _ (by omega)⟩
  · exact fun g _ q => ⟨fun y => q ((hg g).mpr y), o _ _ (by omega), o _ _ (by omega), o _ _ (by omega)⟩
  · exact fun i hi => Or.inl ⟨by omega, o _ _ (by omega), o _ _ (by omega), o _ _ (by omega)⟩
  · exact fun i hi => Or.inl ⟨by omega, fun f _ => o _ _ (by omega)⟩
theorem w_bridge {x l : Nat} {v4 v5 v6 v7 : Int} {R R' : IV} (W : RW R) (cp : R 1 5 ≤ 6 ∧ R 1 6 ≤ 6 ∧ R 1 7 ≤ 4 ∧ 0 ≤ R 1 4) (room : 0 ≤ R 1 4 ∧ R 1 4 < roomL.getD 4 0) (hx : R 1 4 = (x : Nat)) (hl : R 1 3 + R 1 4 = (l : Nat)) (e : R' 1 4 = R 1 4 + 1) (n4 : R' 4 l = v4) (n5 : R' 5 l = v5) (n6 : R' 6 l = v6) (n7 : R' 7 l = v7) (o : ∀ k j, ¬ ((k = 1 ∧ j = 4) ∨ (k = 4 ∧ j = l) ∨ (k = 5 ∧ j = l) ∨ (k = 6 ∧ j = l) ∨ (k = 7 ∧ j = l)) → R' k j = R k j) (hr4 : 0 ≤ v4 ∧ v4 < R 1 0) (hr5 : 0 ≤ v5 ∧ v5 < R 1 0) (hne : v4 ≠ v5) (hr6 : 1 ≤ v6 ∧ v6 ≤ 99) (hr7 : v7 = (x : Nat)) : RW R' := by
  replace room : 0 ≤ R 1 4 ∧ R 1 4 < 8 := room
  have q0 := o 1 0 (by omega)
  have q1 := o 1 1 (by omega)
  have q2 := o 1 2 (by omega)
  have q3 := o 1 3 (by omega)
  have q5 := o 1 5 (by omega)
  have q6 := o 1 6 (by omega)
  have q7 := o 1 7 (by omega)
  have q8 := o 1 8 (by omega)
  have q9 := o 1 9 (by omega)
  have q10 := o 1 10 (by omega)
  have q11 := o 1 11 (by omega)
  have hg := hasG_eq q5 q6 q7
  refine RW.grow W (by omega) (by omega) (by omega) ?_ ?_ ?_ ?_ ?_ ?_
  · exact fun i hi => Or.inl ⟨by omega, o _ _ (by omega), o _ _ (by omega)⟩
  · exact fun i hi => by
      by_cases z : i = l
      · subst z; right; rw [n4, n5, n6, n7]; omega
      · exact Or.inl ⟨by omega, o _ _ (by omega), o _ _ (by omega), o _ _ (by omega), o _ _ (by omega)⟩
  · exact fun g q => Or.inl ⟨(hg g).mp q, o _ _ (by omega), o _ _ (by omega), o _ _ (by omega), o _ _ (by omega), o _ _ (by omega)⟩
  · exact fun g _ q => ⟨fun y => q ((hg g).mpr y), o _ _ (by omega), o _ _ (by omega), o _ _ (by omega)⟩
  · exact fun i hi => Or.inl ⟨by omega, o _ _ (by omega), o _ _ (by omega), o _ _ (by omega)⟩
  · exact fun i hi => Or.inl ⟨by omega, fun f _ => o _ _ (by omega)⟩
theorem w_take {x : Nat} {v11 v12 v13 v8 v9 : Int} {R R' : IV} (W : RW R) (cp : R 1 5 ≤ 6 ∧ R 1 6 ≤ 6 ∧ R 1 7 ≤ 4 ∧ 0 ≤ R 1 4) (room : 0 ≤ R 1 5 ∧ R 1 5 < roomL.getD 5 0) (hx : R 1 5 = (x : Nat))  (e : R' 1 5 = R 1 5 + 1) (n11 : R' 11 x = v11) (n12 : R' 12 x = v12) (n13 : R' 13 x = v13) (n8 : R' 8 x = v8) (n9 : R' 9 x = v9) (o : ∀ k j, ¬ ((k = 1 ∧ j = 5) ∨ (k = 11 ∧ j = x) ∨ (k = 12 ∧ j = x) ∨ (k = 13 ∧ j = x) ∨ (k = 8 ∧ j = x) ∨ (k = 9 ∧ j = x)) → R' k j = R k j) (hr13 : 1 ≤ v13 ∧ v13 ≤ 99) (hr8 : 0 ≤ v8 ∧ v8 ≤ v9 ∧ v9 ≤ v8 + 20 ∧ v9 ≤ 999) : RW R' := by
  replace room : 0 ≤ R 1 5 ∧ R 1 5 < 6 := room
  have q0 := o 1 0 (by omega)
  have q1 := o 1 1 (by omega)
  have q2 := o 1 2 (by omega)
  have q3 := o 1 3 (by omega)
  have q4 := o 1 4 (by omega)
  have q6 := o 1 6 (by omega)
  have q7 := o 1 7 (by omega)
  have q8 := o 1 8 (by omega)
  have q9 := o 1 9 (by omega)
  have q10 := o 1 10 (by omega)
  have q11 := o 1 11 (by omega)
  refine RW.grow W (by omega) (by omega) (by omega) ?_ ?_ ?_ ?_ ?_ ?_
  · exact fun i hi => Or.inl ⟨by omega, o _ _ (by omega), o _ _ (by omega)⟩
  · exact fun i hi => Or.inl ⟨by omega, o _ _ (by omega), o _ _ (by omega), o _ _ (by omega), o _ _ (by omega)⟩
  · exact fun g q => by
      by_cases z : g = x
      · subst z; right; rw [n8, n9, n11, n12, n13]; exact ⟨by omega, fun _ => by omega, fun _ => by omega, fun _ => by omega⟩
      · refine Or.inl ⟨?_, o _ _ (by omega), o _ _ (by omega), o _ _ (by omega), o _ _ (by omega), o _ _ (by omega)⟩
        unfold hasG at *; omega
  · exact fun g hg q => by
      have z : g ≠ x := fun y => q (by unfold hasG; omega)
      refine ⟨?_, o _ _ (by omega), o _ _ (by omega), o _ _ (by omega)⟩
      unfold hasG at *; omega
  · exact fun i hi => Or.inl ⟨by omega, o _ _ (by omega), o _ _ (by omega), o _ _ (by omega)⟩
  · exact fun i hi => Or.inl ⟨by omega, fun f _ => o _ _ (by omega)⟩
theorem w_free {x : Nat} {v11 v12 v13 v8 v9 : Int} {R R' : IV} (W : RW R) (cp : R 1 5 ≤ 6 ∧ R 1 6 ≤ 6 ∧ R 1 7 ≤ 4 ∧ 0 ≤ R 1 4) (room : 0 ≤ R 1 6 ∧ R 1 6 < roomL.getD 6 0) (hx : R 1 6 = (x : Nat))  (e : R' 1 6 = R 1 6 + 1) (n11 : R' 11 (6 + x) = v11) (n12 : R' 12 (6 + x) = v12) (n13 : R' 13 (6 + x) = v13) (n8 : R' 8 (6 + x) = v8) (n9 : R' 9 (6 + x) = v9) (o : ∀ k j, ¬ ((k = 1 ∧ j = 6) ∨ (k = 11 ∧ j = (6 + x)) ∨ (k = 12 ∧ j = (6 + x)) ∨ (k = 13 ∧ j = (6 + x)) ∨ (k = 8 ∧ j = (6 + x)) ∨ (k = 9 ∧ j = (6 + x))) → R' k j = R k j) (hr11 : 0 ≤ v11 ∧ v11 < R 1 0) (hr8 : 0 ≤ v8 ∧ v8 ≤ v9 ∧ v9 ≤ v8 + 20 ∧ v9 ≤ 999) : RW R' := by
  replace room : 0 ≤ R 1 6 ∧ R 1 6 < 6 := room
  have q0 := o 1 0 (by omega)
  have q1 := o 1 1 (by omega)
  have q2 := o 1 2 (by omega)
  have q3 := o 1 3 (by omega)
  have q4 := o 1 4 (by omega)
  have q5 := o 1 5 (by omega)
  have q7 := o 1 7 (by omega)
  have q8 := o 1 8 (by omega)
  have q9 := o 1 9 (by omega)
  have q10 := o 1 10 (by omega)
  have q11 := o 1 11 (by omega)
  refine RW.grow W (by omega) (by omega) (by omega) ?_ ?_ ?_ ?_ ?_ ?_
  · exact fun i hi => Or.inl ⟨by omega, o _ _ (by omega), o _ _ (by omega)⟩
  · exact fun i hi => Or.inl ⟨by omega, o _ _ (by omega), o _ _ (by omega), o _ _ (by omega), o _ _ (by omega)⟩
  · exact fun g q => by
      by_cases z : g = (6 + x)
      · subst z; right; rw [n8, n9, n11, n12, n13]; exact ⟨by omega, fun _ => by omega, fun _ => by omega, fun _ => by omega⟩
      · refine Or.inl ⟨?_, o _ _ (by omega), o _ _ (by omega), o _ _ (by omega), o _ _ (by omega), o _ _ (by omega)⟩
        unfold hasG at *; omega
  · exact fun g hg q => by
      have z : g ≠ (6 + x) := fun y => q (by unfold hasG; omega)
      refine ⟨?_, o _ _ (by omega), o _ _ (by omega), o _ _ (by omega)⟩
      unfold hasG at *; omega
  · exact fun i hi => Or.inl ⟨by omega, o _ _ (by omega), o _ _ (by omega), o _ _ (by omega)⟩
  · exact fun i hi => Or.inl ⟨by omega, fun f _ => o _ _ (by omega)⟩
theorem w_as {x : Nat} {v11 v12 v13 v8 v9 : Int} {R R' : IV} (W : RW R) (cp : R 1 5 ≤ 6 ∧ R 1 6 ≤ 6 ∧ R 1 7 ≤ 4 ∧ 0 ≤ R 1 4) (room : 0 ≤ R 1 7 ∧ R 1 7 < roomL.getD 7 0) (hx : R 1 7 = (x : Nat))  (e : R' 1 7 = R 1 7 + 1) (n11 : R' 11 (12 + x) = v11) (n12 : R' 12 (12 + x) = v12) (n13 : R' 13 (12 + x) = v13) (n8 : R' 8 (12 + x) = v8) (n9 : R' 9 (12 + x) = v9) (o : ∀ k j, ¬ ((k = 1 ∧ j = 7) ∨ (k = 11 ∧ j = (12 + x)) ∨ (k = 12 ∧ j = (12 + x)) ∨ (k = 13 ∧ j = (12 + x)) ∨ (k = 8 ∧ j = (12 + x)) ∨ (k = 9 ∧ j = (12 + x))) → R' k j = R k j) (hr11 : 0 ≤ v11 ∧ v11 < R 1 0) (hr12 : 0 ≤ v12 ∧ v12 < R 1 0) (hr8 : 0 ≤ v8 ∧ v8 ≤ v9 ∧ v9 ≤ v8 + 20 ∧ v9 ≤ 999) : RW R' := by
  replace room : 0 ≤ R 1 7 ∧ R 1 7 < 4 := room
  have q0 := o 1 0 (by omega)
  have q1 := o 1 1 (by omega)
  have q2 := o 1 2 (by omega)
  have q3 := o 1 3 (by omega)
  have q4 := o 1 4 (by omega)
  have q5 := o 1 5 (by omega)
  have q6 := o 1 6 (by omega)
  have q8 := o 1 8 (by omega)
  have q9 := o 1 9 (by omega)
  have q10 := o 1 10 (by omega)
  have q11 := o 1 11 (by omega)
  refine RW.grow W (by omega) (by omega) (by omega) ?_ ?_ ?_ ?_ ?_ ?_
  · exact fun i hi => Or.inl ⟨by omega, o _ _ (by omega), o _ _ (by omega)⟩
  · exact fun i hi => Or.inl ⟨by omega, o _ _ (by omega), o _ _ (by omega), o _ _ (by omega), o _ _ (by omega)⟩
  · exact fun g q => by
      by_cases z : g = (12 + x)
      · subst z; right; rw [n8, n9, n11, n12, n13]; exact ⟨by omega, fun _ => by omega, fun _ => by omega, fun _ => by omega⟩
      · refine Or.inl ⟨?_, o _ _ (by omega), o _ _ (by omega), o _ _ (by omega), o _ _ (by omega), o _ _ (by omega)⟩
        unfold hasG at *; omega
  · exact fun g hg q => by
      have z : g ≠ (12 + x) := fun y => q (by unfold hasG; omega)
      refine ⟨?_, o _ _ (by omega), o _ _ (by omega), o _ _ (by omega)⟩
      unfold hasG at *; omega
  · exact fun i hi => Or.inl ⟨by omega, o _ _ (by omega), o _ _ (by omega), o _ _ (by omega)⟩
  · exact fun i hi => Or.inl ⟨by omega, fun f _ => o _ _ (by omega)⟩
theorem w_renew {x : Nat} {v14 v15 v16 : Int} {R R' : IV} (W : RW R) (cp : R 1 5 ≤ 6 ∧ R 1 6 ≤ 6 ∧ R 1 7 ≤ 4 ∧ 0 ≤ R 1 4) (room : 0 ≤ R 1 8 ∧ R 1 8 < roomL.getD 8 0) (hx : R 1 8 = (x : Nat))  (e : R' 1 8 = R 1 8 + 1) (n14 : R' 14 x = v14) (n15 : R' 15 x = v15) (n16 : R' 16 x = v16) (o : ∀ k j, ¬ ((k = 1 ∧ j = 8) ∨ (k = 14 ∧ j = x) ∨ (k = 15 ∧ j = x) ∨ (k = 16 ∧ j = x)) → R' k j = R k j) (hr14 : 0 ≤ v14 ∧ v14 < 12) (hr15 : 0 ≤ v15 ∧ v15 ≤ 2) (hr16 : 0 ≤ v16 ∧ v16 ≤ 999) : RW R' := by
  replace room : 0 ≤ R 1 8 ∧ R 1 8 < 4 := room
  have q0 := o 1 0 (by omega)
  have q1 := o 1 1 (by omega)
  have q2 := o 1 2 (by omega)
  have q3 := o 1 3 (by omega)
  have q4 := o 1 4 (by omega)
  have q5 := o 1 5 (by omega)
  have q6 := o 1 6 (by omega)
  have q7 := o 1 7 (by omega)
  have q9 := o 1 9 (by omega)
  have q10 := o 1 10 (by omega)
  have q11 := o 1 11 (by omega)
  have hg := hasG_eq q5 q6 q7
  refine RW.grow W (by omega) (by omega) (by omega) ?_ ?_ ?_ ?_ ?_ ?_
  · exact fun i hi => Or.inl ⟨by omega, o _ _ (by omega), o _ _ (by omega)⟩
  · exact fun i hi => Or.inl ⟨by omega, o _ _ (by omega), o _ _ (by omega), o _ _ (by omega), o _ _ (by omega)⟩
  · exact fun g q => Or.inl ⟨(hg g).mp q, o _ _ (by omega), o _ _ (by omega), o _ _ (by omega), o _ _ (by omega), o _ _ (by omega)⟩
  · exact fun g _ q => ⟨fun y => q ((hg g).mpr y), o _ _ (by omega), o _ _ (by omega), o _ _ (by omega)⟩
  · exact fun i hi => by
      by_cases z : i = x
      · subst z; right; rw [n14, n15, n16]; omega
      · exact Or.inl ⟨by omega, o _ _ (by omega), o _ _ (by omega), o _ _ (by omega)⟩
  · exact fun i hi => Or.inl ⟨by omega, fun f _ => o _ _ (by omega)⟩
theorem w_lost {x : Nat} {v10 : Int} {R R' : IV} (W : RW R) (cp : R 1 5 ≤ 6 ∧ R 1 6 ≤ 6 ∧ R 1 7 ≤ 4 ∧ 0 ≤ R 1 4) (room : 0 ≤ R 1 9 ∧ R 1 9 < roomL.getD 9 0)   (e : R' 1 9 = R 1 9 + 1) (n10 : R' 10 x = v10) (o : ∀ k j, ¬ ((k = 1 ∧ j = 9) ∨ (k = 10 ∧ j = x)) → R' k j = R k j) (hgx : hasG R x) : RW R' := by
  replace room : 0 ≤ R 1 9 ∧ R 1 9 < 4 := room
  have q0 := o 1 0 (by omega)
  have q1 := o 1 1 (by omega)
  have q2 := o 1 2 (by omega)
  have q3 := o 1 3 (by omega)
  have q4 := o 1 4 (by omega)
  have q5 := o 1 5 (by omega)
  have q6 := o 1 6 (by omega)
  have q7 := o 1 7 (by omega)
  have q8 := o 1 8 (by omega)
  have q10 := o 1 10 (by omega)
  have q11 := o 1 11 (by omega)
  have hg := hasG_eq q5 q6 q7
  refine RW.grow W (by omega) (by omega) (by omega) ?_ ?_ ?_ ?_ ?_ ?_
  · exact fun i hi => Or.inl ⟨by omega, o _ _ (by omega), o _ _ (by omega)⟩
  · exact fun i hi => Or.inl ⟨by omega, o _ _ (by omega), o _ _ (by omega), o _ _ (by omega), o _ _ (by omega)⟩
  · exact fun g q => Or.inl ⟨(hg g).mp q, o _ _ (by omega), o _ _ (by omega), o _ _ (by omega), o _ _ (by omega), o _ _ (by omega)⟩
  · exact fun g hg' q => by
      have z : g ≠ x := fun y => q ((hg g).mpr (by rw [y]; exact hgx))
      exact ⟨fun y => q ((hg g).mpr y), o _ _ (by omega), o _ _ (by omega), o _ _ (by omega)⟩
  · exact fun i hi => Or.inl ⟨by omega, o _ _ (by omega), o _ _ (by omega), o _ _ (by omega)⟩
  · exact fun i hi => Or.inl ⟨by omega, fun f _ => o _ _ (by omega)⟩
theorem w_law {x : Nat} {v17 : Int} {R R' : IV} (W : RW R) (cp : R 1 5 ≤ 6 ∧ R 1 6 ≤ 6 ∧ R 1 7 ≤ 4 ∧ 0 ≤ R 1 4) (room : 0 ≤ R 1 10 ∧ R 1 10 < roomL.getD 10 0) (hx : R 1 10 = (x : Nat))  (e : R' 1 10 = R 1 10 + 1) (n17 : R' 17 x = v17) (o : ∀ k j, ¬ ((k = 1 ∧ j = 10) ∨ (k = 17 ∧ j = x)) → R' k j = R k j)  : RW R' := by
  replace room : 0 ≤ R 1 10 ∧ R 1 10 < 3 := room
  have q0 := o 1 0 (by omega)
  have q1 := o 1 1 (by omega)
  have q2 := o 1 2 (by omega)
  have q3 := o 1 3 (by omega)
  have q4 := o 1 4 (by omega)
  have q5 := o 1 5 (by omega)
  have q6 := o 1 6 (by omega)
  have q7 := o 1 7 (by omega)
  have q8 := o 1 8 (by omega)
  have q9 := o 1 9 (by omega)
  have q11 := o 1 11 (by omega)
  have hg := hasG_eq q5 q6 q7
  refine RW.grow W (by omega) (by omega) (by omega) ?_ ?_ ?_ ?_ ?_ ?_
  · exact fun i hi => Or.inl ⟨by omega, o _ _ (by omega), o _ _ (by omega)⟩
  · exact fun i hi => Or.inl ⟨by omega, o _ _ (by omega), o _ _ (by omega), o _ _ (by omega), o _ _ (by omega)⟩
  · exact fun g q => Or.inl ⟨(hg g).mp q, o _ _ (by omega), o _ _ (by omega), o _ _ (by omega), o _ _ (by omega), o _ _ (by omega)⟩
  · exact fun g _ q => ⟨fun y => q ((hg g).mpr y), o _ _ (by omega), o _ _ (by omega), o _ _ (by omega)⟩
  · exact fun i hi => Or.inl ⟨by omega, o _ _ (by omega), o _ _ (by omega), o _ _ (by omega)⟩
  · exact fun i hi => Or.inl ⟨by omega, fun f _ => o _ _ (by omega)⟩
theorem w_cart {x : Nat} {R R' : IV} (W : RW R) (cp : R 1 5 ≤ 6 ∧ R 1 6 ≤ 6 ∧ R 1 7 ≤ 4 ∧ 0 ≤ R 1 4) (room : 0 ≤ R 1 11 ∧ R 1 11 < roomL.getD 11 0) (hx : R 1 11 = (x : Nat))  (e : R' 1 11 = R 1 11 + 1)  (o : ∀ k j, ¬ ((k = 1 ∧ j = 11) ∨ (k = 18 ∧ x * 7 ≤ j ∧ j < x * 7 + 7)) → R' k j = R k j) (c0 : 0 ≤ R' 18 (7 * x) ∧ R' 18 (7 * x) < R 1 2) (c3 : 1 ≤ R' 18 (7 * x + 3) ∧ R' 18 (7 * x + 3) ≤ 99) (c4 : 0 ≤ R' 18 (7 * x + 4) ∧ R' 18 (7 * x + 4) < R 1 0) (c5 : 0 ≤ R' 18 (7 * x + 5) ∧ R' 18 (7 * x + 5) < R 1 0) (c6 : 0 ≤ R' 18 (7 * x + 6) ∧ R' 18 (7 * x + 6) ≤ 999) : RW R' := by
  replace room : 0 ≤ R 1 11 ∧ R 1 11 < 6 := room
  have q0 := o 1 0 (by omega)
  have q1 := o 1 1 (by omega)
  have q2 := o 1 2 (by omega)
  have q3 := o 1 3 (by omega)
  have q4 := o 1 4 (by omega)
  have q5 := o 1 5 (by omega)
  have q6 := o 1 6 (by omega)
  have q7 := o 1 7 (by omega)
  have q8 := o 1 8 (by omega)
  have q9 := o 1 9 (by omega)
  have q10 := o 1 10 (by omega)
  have hg := hasG_eq q5 q6 q7
  refine RW.grow W (by omega) (by omega) (by omega) ?_ ?_ ?_ ?_ ?_ ?_
  · exact fun i hi => Or.inl ⟨by omega, o _ _ (by omega), o _ _ (by omega)⟩
  · exact fun i hi => Or.inl ⟨by omega, o _ _ (by omega), o _ _ (by omega), o _ _ (by omega), o _ _ (by omega)⟩
  · exact fun g q => Or.inl ⟨(hg g).mp q, o _ _ (by omega), o _ _ (by omega), o _ _ (by omega), o _ _ (by omega), o _ _ (by omega)⟩
  · exact fun g _ q => ⟨fun y => q ((hg g).mpr y), o _ _ (by omega), o _ _ (by omega), o _ _ (by omega)⟩
  · exact fun i hi => Or.inl ⟨by omega, o _ _ (by omega), o _ _ (by omega), o _ _ (by omega)⟩
  · exact fun i hi => by
      by_cases z : i = x
      · subst z; right; omega
      · exact Or.inl ⟨by omega, fun f hf => o _ _ (by omega)⟩
theorem g_man {m a x : Nat} {cd : Int} {v2 v3 : Int} {c so nu : F1} {R : IV} (N : NI m so nu R) (W : RW R) (room : R 1 2 < roomL.getD 2 0) (hx : R 1 2 = (x : Nat)) (hr2 : 0 ≤ v2 ∧ v2 < R 1 0) (hr3 : 0 ≤ v3 ∧ v3 ≤ 999) : Nxt 2 R (bump 2 (a, m + 1, up1 c m cd, up1 so m 2, up1 nu m ((x : Nat) : Int), (w2 (w2 R 2 x v2) 3 x v3))) := by
  have cp := N.cap
  have o0 : ∀ k j, ¬ ((k = 2 ∧ j = x) ∨ (k = 3 ∧ j = x)) → (w2 (w2 R 2 x v2) 3 x v3) k j = R k j := fun k j q => by rw [w2_ne (by omega), w2_ne (by omega)]
  have m2 : (w2 (w2 R 2 x v2) 3 x v3) 2 x = v2 := by rw [w2_ne (by omega), w2_eq]
  have m3 : (w2 (w2 R 2 x v2) 3 x v3) 3 x = v3 := by rw [w2_eq]
  generalize (w2 (w2 R 2 x v2) 3 x v3) = Q at *
  have b0 : Q 1 2 = R 1 2 := o0 1 2 (by omega)
  have b1 : w2 Q 1 2 (w32 (Q 1 2 + 1)) 1 2 = R 1 2 + 1 := by rw [bmp (x := R 1 2) (by omega) b0]
  have b2 : ∀ k j, ¬ (k = 1 ∧ j = 2) → w2 Q 1 2 (w32 (Q 1 2 + 1)) k j = Q k j := fun k j q => w2_ne q
  show (NI (m + 1) _ _ (w2 Q 1 2 (w32 (Q 1 2 + 1))) ∧ RW (w2 Q 1 2 (w32 (Q 1 2 + 1)))) ∧ w2 Q 1 2 (w32 (Q 1 2 + 1)) 1 2 = R 1 2 + 1 ∧ ∀ s, s < 12 → s ≠ 2 → w2 Q 1 2 (w32 (Q 1 2 + 1)) 1 s = R 1 s
  generalize w2 Q 1 2 (w32 (Q 1 2 + 1)) = R' at *
  refine ⟨⟨NI.add (r := 2) (R := R) N (by omega) (by omega) room b1 (fun s _ q => by rw [b2 _ _ (by omega), o0 _ _ (by omega)]), ?_⟩, b1, fun s _ q => by rw [b2 _ _ (by omega), o0 _ _ (by omega)]⟩
  exact w_man (R := R) (v2 := v2) (v3 := v3) W (cap3 N) ⟨by omega, room⟩ hx b1 (by rw [b2 _ _ (by omega)]; exact m2) (by rw [b2 _ _ (by omega)]; exact m3) (fun k j q => by rw [b2 _ _ (by omega), o0 _ _ (by omega)]) hr2 hr3
theorem g_road {m a x l : Nat} {v4 v5 v6 v7 : Int} {c so nu : F1} {R : IV} (N : NI m so nu R) (W : RW R) (room : R 1 3 < roomL.getD 3 0) (hx : R 1 3 = (x : Nat)) (hl : R 1 3 + R 1 4 = (l : Nat)) (hr4 : 0 ≤ v4 ∧ v4 < R 1 0) (hr5 : 0 ≤ v5 ∧ v5 < R 1 0) (hne : v4 ≠ v5) (hr6 : 1 ≤ v6 ∧ v6 ≤ 99) (hr7 : v7 = -1) : Nxt 3 R (bump 3 (a, m, c, so, nu, (w2 (w2 (w2 (w2 R 4 l v4) 5 l v5) 6 l v6) 7 l v7))) := by
  have cp := N.cap
  have o0 : ∀ k j, ¬ ((k = 4 ∧ j = l) ∨ (k = 5 ∧ j = l) ∨ (k = 6 ∧ j = l) ∨ (k = 7 ∧ j = l)) → (w2 (w2 (w2 (w2 R 4 l v4) 5 l v5) 6 l v6) 7 l v7) k j = R k j := fun k j q => by rw [w2_ne (by omega), w2_ne (by omega), w2_ne (by omega), w2_ne (by omega)]
  have m4 : (w2 (w2 (w2 (w2 R 4 l v4) 5 l v5) 6 l v6) 7 l v7) 4 l = v4 := by rw [w2_ne (by omega), w2_ne (by omega), w2_ne (by omega), w2_eq]
  have m5 : (w2 (w2 (w2 (w2 R 4 l v4) 5 l v5) 6 l v6) 7 l v7) 5 l = v5 := by rw [w2_ne (by omega), w2_ne (by omega), w2_eq]
  have m6 : (w2 (w2 (w2 (w2 R 4 l v4) 5 l v5) 6 l v6) 7 l v7) 6 l = v6 := by rw [w2_ne (by omega), w2_eq]
  have m7 : (w2 (w2 (w2 (w2 R 4 l v4) 5 l v5) 6 l v6) 7 l v7) 7 l = v7 := by rw [w2_eq]
  generalize (w2 (w2 (w2 (w2 R 4 l v4) 5 l v5) 6 l v6) 7 l v7) = Q at *
  have b0 : Q 1 3 = R 1 3 := o0 1 3 (by omega)
  have b1 : w2 Q 1 3 (w32 (Q 1 3 + 1)) 1 3 = R 1 3 + 1 := by rw [bmp (x := R 1 3) (by omega) b0]
  have b2 : ∀ k j, ¬ (k = 1 ∧ j = 3) → w2 Q 1 3 (w32 (Q 1 3 + 1)) k j = Q k j := fun k j q => w2_ne q
  show (NI m _ _ (w2 Q 1 3 (w32 (Q 1 3 + 1))) ∧ RW (w2 Q 1 3 (w32 (Q 1 3 + 1)))) ∧ w2 Q 1 3 (w32 (Q 1 3 + 1)) 1 3 = R 1 3 + 1 ∧ ∀ s, s < 12 → s ≠ 3 → w2 Q 1 3 (w32 (Q 1 3 + 1)) 1 s = R 1 s
  generalize w2 Q 1 3 (w32 (Q 1 3 + 1)) = R' at *
  refine ⟨⟨NI.same (r := 3) (R := R) N (by omega) room b1 (fun s _ q => by rw [b2 _ _ (by omega), o0 _ _ (by omega)]), ?_⟩, b1, fun s _ q => by rw [b2 _ _ (by omega), o0 _ _ (by omega)]⟩
  exact w_road (R := R) (v4 := v4) (v5 := v5) (v6 := v6) (v7 := v7) W (cap3 N) ⟨by omega, room⟩ hx hl b1 (by rw [b2 _ _ (by omega)]; exact m4) (by rw [b2 _ _ (by omega)]; exact m5) (by rw [b2 _ _ (by omega)]; exact m6) (by rw [b2 _ _ (by omega)]; exact m7) (fun k j q => by rw [b2 _ _ (by omega), o0 _ _ (by omega)]) hr4 hr5 hne hr6 hr7
theorem g_bridge {m a x l : Nat} {cd : Int} {v4 v5 v6 v7 : Int} {c so nu : F1} {R : IV} (N : NI m so nu R) (W : RW R) (room : R 1 4 < roomL.getD 4 0) (hx : R 1 4 = (x : Nat)) (hl : R 1 3 + R 1 4 = (l : Nat)) (hr4 : 0 ≤ v4 ∧ v4 < R 1 0) (hr5 : 0 ≤ v5 ∧ v5 < R 1 0) (hne : v4 ≠ v5) (hr6 : 1 ≤ v6 ∧ v6 ≤ 99) (hr7 : v7 = (x : Nat)) : Nxt 4 R (bump 4 (a, m + 1, up1 c m cd, up1 so m 4, up1 nu m ((x : Nat) : Int), (w2 (w2 (w2 (w2 R 4 l v4) 5 l v5) 6 l v6) 7 l v7))) := by
  have cp := N.cap
  have o0 : ∀ k j, ¬ ((k = 4 ∧ j = l) ∨ (k = 5 ∧ j = l) ∨ (k = 6 ∧ j = l) ∨ (k = 7 ∧ j = l)) → (w2 (w2 (w2 (w2 R 4 l v4) 5 l v5) 6 l v6) 7 l v7) k j = R k j := fun k j q => by rw [w2_ne (by omega), w2_ne (by omega), w2_ne (by omega), w2_ne (by omega)]
  have m4 : (w2 (w2 (w2 (w2 R 4 l v4) 5 l v5) 6 l v6) 7 l v7) 4 l = v4 := by rw [w2_ne (by omega), w2_ne (by omega), w2_ne (by omega), w2_eq]
  have m5 : (w2 (w2 (w2 (w2 R 4 l v4) 5 l v5) 6 l v6) 7 l v7) 5 l = v5 := by rw [w2_ne (by omega), w2_ne (by omega), w2_eq]
  have m6 : (w2 (w2 (w2 (w2 R 4 l v4) 5 l v5) 6 l v6) 7 l v7) 6 l = v6 := by rw [w2_ne (by omega), w2_eq]
  have m7 : (w2 (w2 (w2 (w2 R 4 l v4) 5 l v5) 6 l v6) 7 l v7) 7 l = v7 := by rw [w2_eq]
  generalize (w2 (w2 (w2 (w2 R 4 l v4) 5 l v5) 6 l v6) 7 l v7) = Q at *
  have b0 : Q 1 4 = R 1 4 := o0 1 4 (by omega)
  have b1 : w2 Q 1 4 (w32 (Q 1 4 + 1)) 1 4 = R 1 4 + 1 := by rw [bmp (x := R 1 4) (by omega) b0]
  have b2 : ∀ k j, ¬ (k = 1 ∧ j = 4) → w2 Q 1 4 (w32 (Q 1 4 + 1)) k j = Q k j := fun k j q => w2_ne q
  show (NI (m + 1) _ _ (w2 Q 1 4 (w32 (Q 1 4 + 1))) ∧ RW (w2 Q 1 4 (w32 (Q 1 4 + 1)))) ∧ w2 Q 1 4 (w32 (Q 1 4 + 1)) 1 4 = R 1 4 + 1 ∧ ∀ s, s < 12 → s ≠ 4 → w2 Q 1 4 (w32 (Q 1 4 + 1)) 1 s = R 1 s
  generalize w2 Q 1 4 (w32 (Q 1 4 + 1)) = R' at *
  refine ⟨⟨NI.add (r := 4) (R := R) N (by omega) (by omega) room b1 (fun s _ q => by rw [b2 _ _ (by omega), o0 _ _ (by omega)]), ?_⟩, b1, fun s _ q => by rw [b2 _ _ (by omega), o0 _ _ (by omega)]⟩
  exact w_bridge (R := R) (v4 := v4) (v5 := v5) (v6 := v6) (v7 := v7) W (cap3 N) ⟨by omega, room⟩ hx hl b1 (by rw [b2 _ _ (by omega)]; exact m4) (by rw [b2 _ _ (by omega)]; exact m5) (by rw [b2 _ _ (by omega)]; exact m6) (by rw [b2 _ _ (by omega)]; exact m7) (fun k j q => by rw [b2 _ _ (by omega), o0 _ _ (by omega)]) hr4 hr5 hne hr6 hr7
theorem g_take {m a x : Nat} {cd : Int} {v11 v12 v13 v8 v9 : Int} {c so nu : F1} {R : IV} (N : NI m so nu R) (W : RW R) (room : R 1 5 < roomL.getD 5 0) (hx : R 1 5 = (x : Nat)) (hr13 : 1 ≤ v13 ∧ v13 ≤ 99) (hr8 : 0 ≤ v8 ∧ v8 ≤ v9 ∧ v9 ≤ v8 + 20 ∧ v9 ≤ 999) : Nxt 5 R (bump 5 (a, m + 1, up1 c m cd, up1 so m 5, up1 nu m ((x : Nat) : Int), (w2 (w2 (w2 (w2 (w2 R 11 x v11) 12 x v12) 13 x v13) 8 x v8) 9 x v9))) := by
  have cp := N.cap
  have o0 : ∀ k j, ¬ ((k = 11 ∧ j = x) ∨ (k = 12 ∧ j = x) ∨ (k = 13 ∧ j = x) ∨ (k = 8 ∧ j = x) ∨ (k = 9 ∧ j = x)) → (w2 (w2 (w2 (w2 (w2 R 11 x v11) 12 x v12) 13 x v13) 8 x v8) 9 x v9) k j = R k j := fun k j q => by rw [w2_ne (by omega), w2_ne (by omega), w2_ne (by omega), w2_ne (by omega), w2_ne (by omega)]
  have m11 : (w2 (w2 (w2 (w2 (w2 R 11 x v11) 12 x v12) 13 x v13) 8 x v8) 9 x v9) 11 x = v11 := by rw [w2_ne (by omega), w2_ne (by omega), w2_ne (by omega), w2_ne (by omega), w2_eq]
  have m12 : (w2 (w2 (w2 (w2 (w2 R 11 x v11) 12 x v12) 13 x v13) 8 x v8) 9 x v9) 12 x = v12 := by rw [w2_ne (by omega), w2_ne (by omega), w2_ne (by omega), w2_eq]
  have m13 : (w2 (w2 (w2 (w2 (w2 R 11 x v11) 12 x v12) 13 x v13) 8 x v8) 9 x v9) 13 x = v13 := by rw [w2_ne (by omega), w2_ne (by omega), w2_eq]
  have m8 : (w2 (w2 (w2 (w2 (w2 R 11 x v11) 12 x v12) 13 x v13) 8 x v8) 9 x v9) 8 x = v8 := by rw [w2_ne (by omega), w2_eq]
  have m9 : (w2 (w2 (w2 (w2 (w2 R 11 x v11) 12 x v12) 13 x v13) 8 x v8) 9 x v9) 9 x = v9 := by rw [w2_eq]
  generalize (w2 (w2 (w2 (w2 (w2 R 11 x v11) 12 x v12) 13 x v13) 8 x v8) 9 x v9) = Q at *
  have b0 : Q 1 5 = R 1 5 := o0 1 5 (by omega)
  have b1 : w2 Q 1 5 (w32 (Q 1 5 + 1)) 1 5 = R 1 5 + 1 := by rw [bmp (x := R 1 5) (by omega) b0]
  have b2 : ∀ k j, ¬ (k = 1 ∧ j = 5) → w2 Q 1 5 (w32 (Q 1 5 + 1)) k j = Q k j := fun k j q => w2_ne q
  show (NI (m + 1) _ _ (w2 Q 1 5 (w32 (Q 1 5 + 1))) ∧ RW (w2 Q 1 5 (w32 (Q 1 5 + 1)))) ∧ w2 Q 1 5 (w32 (Q 1 5 + 1)) 1 5 = R 1 5 + 1 ∧ ∀ s, s < 12 → s ≠ 5 → w2 Q 1 5 (w32 (Q 1 5 + 1)) 1 s = R 1 s
  generalize w2 Q 1 5 (w32 (Q 1 5 + 1)) = R' at *
  refine ⟨⟨NI.add (r := 5) (R := R) N (by omega) (by omega) room b1 (fun s _ q => by rw [b2 _ _ (by omega), o0 _ _ (by omega)]), ?_⟩, b1, fun s _ q => by rw [b2 _ _ (by omega), o0 _ _ (by omega)]⟩
  exact w_take (R := R) (v11 := v11) (v12 := v12) (v13 := v13) (v8 := v8) (v9 := v9) W (cap3 N) ⟨by omega, room⟩ hx b1 (by rw [b2 _ _ (by omega)]; exact m11) (by rw [b2 _ _ (by omega)]; exact m12) (by rw [b2 _ _ (by omega)]; exact m13) (by rw [b2 _ _ (by omega)]; exact m8) (by rw [b2 _ _ (by omega)]; exact m9) (fun k j q => by rw [b2 _ _ (by omega), o0 _ _ (by omega)]) hr13 hr8
theorem g_free {m a x : Nat} {cd : Int} {v11 v12 v13 v8 v9 : Int} {c so nu : F1} {R : IV} (N : NI m so nu R) (W : RW R) (room : R 1 6 < roomL.getD 6 0) (hx : R 1 6 = (x : Nat)) (hr11 : 0 ≤ v11 ∧ v11 < R 1 0) (hr8 : 0 ≤ v8 ∧ v8 ≤ v9 ∧ v9 ≤ v8 + 20 ∧ v9 ≤ 999) : Nxt 6 R (bump 6 (a, m + 1, up1 c m cd, up1 so m 6, up1 nu m ((6 + x : Nat) : Int), (w2 (w2 (w2 (w2 (w2 R 11 (6 + x) v11) 12 (6 + x) v12) 13 (6 + x) v13) 8 (6 + x) v8) 9 (6 + x) v9))) := by
  have cp := N.cap
  have o0 : ∀ k j, ¬ ((k = 11 ∧ j = (6 + x)) ∨ (k = 12 ∧ j = (6 + x)) ∨ (k = 13 ∧ j = (6 + x)) ∨ (k = 8 ∧ j = (6 + x)) ∨ (k = 9 ∧ j = (6 + x))) → (w2 (w2 (w2 (w2 (w2 R 11 (6 + x) v11) 12 (6 + x) v12) 13 (6 + x) v13) 8 (6 + x) v8) 9 (6 + x) v9) k j = R k j := fun k j q => by rw [w2_ne (by omega), w2_ne (by omega), w2_ne (by omega), w2_ne (by omega), w2_ne (by omega)]
  have m11 : (w2 (w2 (w2 (w2 (w2 R 11 (6 + x) v11) 12 (6 + x) v12) 13 (6 + x) v13) 8 (6 + x) v8) 9 (6 + x) v9) 11 (6 + x) = v11 := by rw [w2_ne (by omega), w2_ne (by omega), w2_ne (by omega), w2_ne (by omega), w2_eq]
  have m12 : (w2 (w2 (w2 (w2 (w2 R 11 (6 + x) v11) 12 (6 + x) v12) 13 (6 + x) v13) 8 (6 + x) v8) 9 (6 + x) v9) 12 (6 + x) = v12 := by rw [w2_ne (by omega), w2_ne (by omega), w2_ne (by omega), w2_eq]
  have m13 : (w2 (w2 (w2 (w2 (w2 R 11 (6 + x) v11) 12 (6 + x) v12) 13 (6 + x) v13) 8 (6 + x) v8) 9 (6 + x) v9) 13 (6 + x) = v13 := by rw [w2_ne (by omega), w2_ne (by omega), w2_eq]
  have m8 : (w2 (w2 (w2 (w2 (w2 R 11 (6 + x) v11) 12 (6 + x) v12) 13 (6 + x) v13) 8 (6 + x) v8) 9 (6 + x) v9) 8 (6 + x) = v8 := by rw [w2_ne (by omega), w2_eq]
  have m9 : (w2 (w2 (w2 (w2 (w2 R 11 (6 + x) v11) 12 (6 + x) v12) 13 (6 + x) v13) 8 (6 + x) v8) 9 (6 + x) v9) 9 (6 + x) = v9 := by rw [w2_eq]
  generalize (w2 (w2 (w2 (w2 (w2 R 11 (6 + x) v11) 12 (6 + x) v12) 13 (6 + x) v13) 8 (6 + x) v8) 9 (6 + x) v9) = Q at *
  have b0 : Q 1 6 = R 1 6 := o0 1 6 (by omega)
  have b1 : w2 Q 1 6 (w32 (Q 1 6 + 1)) 1 6 = R 1 6 + 1 := by rw [bmp (x := R 1 6) (by omega) b0]
  have b2 : ∀ k j, ¬ (k = 1 ∧ j = 6) → w2 Q 1 6 (w32 (Q 1 6 + 1)) k j = Q k j := fun k j q => w2_ne q
  show (NI (m + 1) _ _ (w2 Q 1 6 (w32 (Q 1 6 + 1))) ∧ RW (w2 Q 1 6 (w32 (Q 1 6 + 1)))) ∧ w2 Q 1 6 (w32 (Q 1 6 + 1)) 1 6 = R 1 6 + 1 ∧ ∀ s, s < 12 → s ≠ 6 → w2 Q 1 6 (w32 (Q 1 6 + 1)) 1 s = R 1 s
  generalize w2 Q 1 6 (w32 (Q 1 6 + 1)) = R' at *
  refine ⟨⟨NI.add (r := 6) (R := R) N (by omega) (by omega) room b1 (fun s _ q => by rw [b2 _ _ (by omega), o0 _ _ (by omega)]), ?_⟩, b1, fun s _ q => by rw [b2 _ _ (by omega), o0 _ _ (by omega)]⟩
  exact w_free (R := R) (v11 := v11) (v12 := v12) (v13 := v13) (v8 := v8) (v9 := v9) W (cap3 N) ⟨by omega, room⟩ hx b1 (by rw [b2 _ _ (by omega)]; exact m11) (by rw [b2 _ _ (by omega)]; exact m12) (by rw [b2 _ _ (by omega)]; exact m13) (by rw [b2 _ _ (by omega)]; exact m8) (by rw [b2 _ _ (by omega)]; exact m9) (fun k j q => by rw [b2 _ _ (by omega), o0 _ _ (by omega)]) hr11 hr8
theorem g_as {m a x : Nat} {cd : Int} {v11 v12 v13 v8 v9 : Int} {c so nu : F1} {R : IV} (N : NI m so nu R) (W : RW R) (room : R 1 7 < roomL.getD 7 0) (hx : R 1 7 = (x : Nat)) (hr11 : 0 ≤ v11 ∧ v11 < R 1 0) (hr12 : 0 ≤ v12 ∧ v12 < R 1 0) (hr8 : 0 ≤ v8 ∧ v8 ≤ v9 ∧ v9 ≤ v8 + 20 ∧ v9 ≤ 999) : Nxt 7 R (bump 7 (a, m + 1, up1 c m cd, up1 so m 7, up1 nu m ((12 + x : Nat) : Int), (w2 (w2 (w2 (w2 (w2 R 11 (12 + x) v11) 12 (12 + x) v12) 13 (12 + x) v13) 8 (12 + x) v8) 9 (12 + x) v9))) := by
  have cp := N.cap
  have o0 : ∀ k j, ¬ ((k = 11 ∧ j = (12 + x)) ∨ (k = 12 ∧ j = (12 + x)) ∨ (k = 13 ∧ j = (12 + x)) ∨ (k = 8 ∧ j = (12 + x)) ∨ (k = 9 ∧ j = (12 + x))) → (w2 (w2 (w2 (w2 (w2 R 11 (12 + x) v11) 12 (12 + x) v12) 13 (12 + x) v13) 8 (12 + x) v8) 9 (12 + x) v9) k j = R k j := fun k j q => by rw [w2_ne (by omega), w2_ne (by omega), w2_ne (by omega), w2_ne (by omega), w2_ne (by omega)]
  have m11 : (w2 (w2 (w2 (w2 (w2 R 11 (12 + x) v11) 12 (12 + x) v12) 13 (12 + x) v13) 8 (12 + x) v8) 9 (12 + x) v9) 11 (12 + x) = v11 := by rw [w2_ne (by omega), w2_ne (by omega), w2_ne (by omega), w2_ne (by omega), w2_eq]
  have m12 : (w2 (w2 (w2 (w2 (w2 R 11 (12 + x) v11) 12 (12 + x) v12) 13 (12 + x) v13) 8 (12 + x) v8) 9 (12 + x) v9) 12 (12 + x) = v12 := by rw [w2_ne (by omega), w2_ne (by omega), w2_ne (by omega), w2_eq]
  have m13 : (w2 (w2 (w2 (w2 (w2 R 11 (12 + x) v11) 12 (12 + x) v12) 13 (12 + x) v13) 8 (12 + x) v8) 9 (12 + x) v9) 13 (12 + x) = v13 := by rw [w2_ne (by omega), w2_ne (by omega), w2_eq]
  have m8 : (w2 (w2 (w2 (w2 (w2 R 11 (12 + x) v11) 12 (12 + x) v12) 13 (12 + x) v13) 8 (12 + x) v8) 9 (12 + x) v9) 8 (12 + x) = v8 := by rw [w2_ne (by omega), w2_eq]
  have m9 : (w2 (w2 (w2 (w2 (w2 R 11 (12 + x) v11) 12 (12 + x) v12) 13 (12 + x) v13) 8 (12 + x) v8) 9 (12 + x) v9) 9 (12 + x) = v9 := by rw [w2_eq]
  generalize (w2 (w2 (w2 (w2 (w2 R 11 (12 + x) v11) 12 (12 + x) v12) 13 (12 + x) v13) 8 (12 + x) v8) 9 (12 + x) v9) = Q at *
  have b0 : Q 1 7 = R 1 7 := o0 1 7 (by omega)
  have b1 : w2 Q 1 7 (w32 (Q 1 7 + 1)) 1 7 = R 1 7 + 1 := by rw [bmp (x := R 1 7) (by omega) b0]
  have b2 : ∀ k j, ¬ (k = 1 ∧ j = 7) → w2 Q 1 7 (w32 (Q 1 7 + 1)) k j = Q k j := fun k j q => w2_ne q
  show (NI (m + 1) _ _ (w2 Q 1 7 (w32 (Q 1 7 + 1))) ∧ RW (w2 Q 1 7 (w32 (Q 1 7 + 1)))) ∧ w2 Q 1 7 (w32 (Q 1 7 + 1)) 1 7 = R 1 7 + 1 ∧ ∀ s, s < 12 → s ≠ 7 → w2 Q 1 7 (w32 (Q 1 7 + 1)) 1 s = R 1 s
  generalize w2 Q 1 7 (w32 (Q 1 7 + 1)) = R' at *
  refine ⟨⟨NI.add (r := 7) (R := R) N (by omega) (by omega) room b1 (fun s _ q => by rw [b2 _ _ (by omega), o0 _ _ (by omega)]), ?_⟩, b1, fun s _ q => by rw [b2 _ _ (by omega), o0 _ _ (by omega)]⟩
  exact w_as (R := R) (v11 := v11) (v12 := v12) (v13 := v13) (v8 := v8) (v9 := v9) W (cap3 N) ⟨by omega, room⟩ hx b1 (by rw [b2 _ _ (by omega)]; exact m11) (by rw [b2 _ _ (by omega)]; exact m12) (by rw [b2 _ _ (by omega)]; exact m13) (by rw [b2 _ _ (by omega)]; exact m8) (by rw [b2 _ _ (by omega)]; exact m9) (fun k j q => by rw [b2 _ _ (by omega), o0 _ _ (by omega)]) hr11 hr12 hr8
theorem g_renew {m a x : Nat} {v14 v15 v16 : Int} {c so nu : F1} {R : IV} (N : NI m so nu R) (W : RW R) (room : R 1 8 < roomL.getD 8 0) (hx : R 1 8 = (x : Nat)) (hr14 : 0 ≤ v14 ∧ v14 < 12) (hr15 : 0 ≤ v15 ∧ v15 ≤ 2) (hr16 : 0 ≤ v16 ∧ v16 ≤ 999) : Nxt 8 R (bump 8 (a, m, c, so, nu, (w2 (w2 (w2 R 14 x v14) 15 x v15) 16 x v16))) := by
  have cp := N.cap
  have o0 : ∀ k j, ¬ ((k = 14 ∧ j = x) ∨ (k = 15 ∧ j = x) ∨ (k = 16 ∧ j = x)) → (w2 (w2 (w2 R 14 x v14) 15 x v15) 16 x v16) k j = R k j := fun k j q => by rw [w2_ne (by omega), w2_ne (by omega), w2_ne (by omega)]
  have m14 : (w2 (w2 (w2 R 14 x v14) 15 x v15) 16 x v16) 14 x = v14 := by rw [w2_ne (by omega), w2_ne (by omega), w2_eq]
  have m15 : (w2 (w2 (w2 R 14 x v14) 15 x v15) 16 x v16) 15 x = v15 := by rw [w2_ne (by omega), w2_eq]
  have m16 : (w2 (w2 (w2 R 14 x v14) 15 x v15) 16 x v16) 16 x = v16 := by rw [w2_eq]
  generalize (w2 (w2 (w2 R 14 x v14) 15 x v15) 16 x v16) = Q at *
  have b0 : Q 1 8 = R 1 8 := o0 1 8 (by omega)
  have b1 : w2 Q 1 8 (w32 (Q 1 8 + 1)) 1 8 = R 1 8 + 1 := by rw [bmp (x := R 1 8) (by omega) b0]
  have b2 : ∀ k j, ¬ (k = 1 ∧ j = 8) → w2 Q 1 8 (w32 (Q 1 8 + 1)) k j = Q k j := fun k j q => w2_ne q
  show (NI m _ _ (w2 Q 1 8 (w32 (Q 1 8 + 1))) ∧ RW (w2 Q 1 8 (w32 (Q 1 8 + 1)))) ∧ w2 Q 1 8 (w32 (Q 1 8 + 1)) 1 8 = R 1 8 + 1 ∧ ∀ s, s < 12 → s ≠ 8 → w2 Q 1 8 (w32 (Q 1 8 + 1)) 1 s = R 1 s
  generalize w2 Q 1 8 (w32 (Q 1 8 + 1)) = R' at *
  refine ⟨⟨NI.same (r := 8) (R := R) N (by omega) room b1 (fun s _ q => by rw [b2 _ _ (by omega), o0 _ _ (by omega)]), ?_⟩, b1, fun s _ q => by rw [b2 _ _ (by omega), o0 _ _ (by omega)]⟩
  exact w_renew (R := R) (v14 := v14) (v15 := v15) (v16 := v16) W (cap3 N) ⟨by omega, room⟩ hx b1 (by rw [b2 _ _ (by omega)]; exact m14) (by rw [b2 _ _ (by omega)]; exact m15) (by rw [b2 _ _ (by omega)]; exact m16) (fun k j q => by rw [b2 _ _ (by omega), o0 _ _ (by omega)]) hr14 hr15 hr16
theorem g_lost {m a x : Nat} {v10 : Int} {c so nu : F1} {R : IV} (N : NI m so nu R) (W : RW R) (room : R 1 9 < roomL.getD 9 0)  (hgx : hasG R x) : Nxt 9 R (bump 9 (a, m, c, so, nu, (w2 R 10 x v10))) := by
  have cp := N.cap
  have o0 : ∀ k j, ¬ ((k = 10 ∧ j = x)) → (w2 R 10 x v10) k j = R k j := fun k j q => by rw [w2_ne (by omega)]
  have m10 : (w2 R 10 x v10) 10 x = v10 := by rw [w2_eq]
  generalize (w2 R 10 x v10) = Q at *
  have b0 : Q 1 9 = R 1 9 := o0 1 9 (by omega)
  have b1 : w2 Q 1 9 (w32 (Q 1 9 + 1)) 1 9 = R 1 9 + 1 := by rw [bmp (x := R 1 9) (by omega) b0]
  have b2 : ∀ k j, ¬ (k = 1 ∧ j = 9) → w2 Q 1 9 (w32 (Q 1 9 + 1)) k j = Q k j := fun k j q => w2_ne q
  show (NI m _ _ (w2 Q 1 9 (w32 (Q 1 9 + 1))) ∧ RW (w2 Q 1 9 (w32 (Q 1 9 + 1)))) ∧ w2 Q 1 9 (w32 (Q 1 9 + 1)) 1 9 = R 1 9 + 1 ∧ ∀ s, s < 12 → s ≠ 9 → w2 Q 1 9 (w32 (Q 1 9 + 1)) 1 s = R 1 s
  generalize w2 Q 1 9 (w32 (Q 1 9 + 1)) = R' at *
  refine ⟨⟨NI.same (r := 9) (R := R) N (by omega) room b1 (fun s _ q => by rw [b2 _ _ (by omega), o0 _ _ (by omega)]), ?_⟩, b1, fun s _ q => by rw [b2 _ _ (by omega), o0 _ _ (by omega)]⟩
  exact w_lost (R := R) (v10 := v10) W (cap3 N) ⟨by omega, room⟩  b1 (by rw [b2 _ _ (by omega)]; exact m10) (fun k j q => by rw [b2 _ _ (by omega), o0 _ _ (by omega)]) hgx
theorem g_law {m a x : Nat} {cd : Int} {v17 : Int} {c so nu : F1} {R : IV} (N : NI m so nu R) (W : RW R) (room : R 1 10 < roomL.getD 10 0) (hx : R 1 10 = (x : Nat))  : Nxt 10 R (bump 10 (a, m + 1, up1 c m cd, up1 so m 10, up1 nu m ((x : Nat) : Int), (w2 R 17 x v17))) := by
  have cp := N.cap
  have o0 : ∀ k j, ¬ ((k = 17 ∧ j = x)) → (w2 R 17 x v17) k j = R k j := fun k j q => by rw [w2_ne (by omega)]
  have m17 : (w2 R 17 x v17) 17 x = v17 := by rw [w2_eq]
  generalize (w2 R 17 x v17) = Q at *
  have b0 : Q 1 10 = R 1 10 := o0 1 10 (by omega)
  have b1 : w2 Q 1 10 (w32 (Q 1 10 + 1)) 1 10 = R 1 10 + 1 := by rw [bmp (x := R 1 10) (by omega) b0]
  have b2 : ∀ k j, ¬ (k = 1 ∧ j = 10) → w2 Q 1 10 (w32 (Q 1 10 + 1)) k j = Q k j := fun k j q => w2_ne q
  show (NI (m + 1) _ _ (w2 Q 1 10 (w32 (Q 1 10 + 1))) ∧ RW (w2 Q 1 10 (w32 (Q 1 10 + 1)))) ∧ w2 Q 1 10 (w32 (Q 1 10 + 1)) 1 10 = R 1 10 + 1 ∧ ∀ s, s < 12 → s ≠ 10 → w2 Q 1 10 (w32 (Q 1 10 + 1)) 1 s = R 1 s
  generalize w2 Q 1 10 (w32 (Q 1 10 + 1)) = R' at *
  refine ⟨⟨NI.add (r := 10) (R := R) N (by omega) (by omega) room b1 (fun s _ q => by rw [b2 _ _ (by omega), o0 _ _ (by omega)]), ?_⟩, b1, fun s _ q => by rw [b2 _ _ (by omega), o0 _ _ (by omega)]⟩
  exact w_law (R := R) (v17 := v17) W (cap3 N) ⟨by omega, room⟩ hx b1 (by rw [b2 _ _ (by omega)]; exact m17) (fun k j q => by rw [b2 _ _ (by omega), o0 _ _ (by omega)])
theorem g_cart {m a x : Nat} {cd : Int} {td : F1} {c so nu : F1} {R : IV} (N : NI m so nu R) (W : RW R) (room : R 1 11 < roomL.getD 11 0) (hx : R 1 11 = (x : Nat)) (c0 : 0 ≤ td 0 ∧ td 0 < R 1 2) (c3 : 1 ≤ td 3 ∧ td 3 ≤ 99) (c4 : 0 ≤ td 4 ∧ td 4 < R 1 0) (c5 : 0 ≤ td 5 ∧ td 5 < R 1 0) (c6 : 0 ≤ td 6 ∧ td 6 ≤ 999) : Nxt 11 R (bump 11 (a, m + 1, up1 c m cd, up1 so m 11, up1 nu m ((x : Nat) : Int), (crt R x td))) := by
  have cp := N.cap
  have o0 : ∀ k j, ¬ (k = 18 ∧ x * 7 ≤ j ∧ j < x * 7 + 7) → crt R x td k j = R k j := fun k j q => if_neg q
  have c0' : ∀ f, f < 7 → crt R x td 18 (7 * x + f) = td f := fun f hf => by
    have e : crt R x td 18 (7 * x + f) = td (7 * x + f - x * 7) := if_pos ⟨rfl, by omega, by omega⟩
    rw [e, show 7 * x + f - x * 7 = f by omega]
  generalize (crt R x td) = Q at *
  have b0 : Q 1 11 = R 1 11 := o0 1 11 (by omega)
  have b1 : w2 Q 1 11 (w32 (Q 1 11 + 1)) 1 11 = R 1 11 + 1 := by rw [bmp (x := R 1 11) (by omega) b0]
  have b2 : ∀ k j, ¬ (k = 1 ∧ j = 11) → w2 Q 1 11 (w32 (Q 1 11 + 1)) k j = Q k j := fun k j q => w2_ne q
  show (NI (m + 1) _ _ (w2 Q 1 11 (w32 (Q 1 11 + 1))) ∧ RW (w2 Q 1 11 (w32 (Q 1 11 + 1)))) ∧ w2 Q 1 11 (w32 (Q 1 11 + 1)) 1 11 = R 1 11 + 1 ∧ ∀ s, s < 12 → s ≠ 11 → w2 Q 1 11 (w32 (Q 1 11 + 1)) 1 s = R 1 s
  generalize w2 Q 1 11 (w32 (Q 1 11 + 1)) = R' at *
  refine ⟨⟨NI.add (r := 11) (R := R) N (by omega) (by omega) room b1 (fun s _ q => by rw [b2 _ _ (by omega), o0 _ _ (by omega)]), ?_⟩, b1, fun s _ q => by rw [b2 _ _ (by omega), o0 _ _ (by omega)]⟩
  have d : ∀ f, f < 7 → R' 18 (7 * x + f) = td f := fun f hf => by rw [b2 _ _ (by omega)]; exact c0' f hf
  have d0 : R' 18 (7 * x) = td 0 := d 0 (by omega)
  exact w_cart W (cap3 N) ⟨by omega, room⟩ hx b1 (fun k j q => by rw [b2 _ _ (by omega), o0 _ _ (by omega)]) (by rw [d0]; exact c0) (by rw [d 3 (by omega)]; exact c3) (by rw [d 4 (by omega)]; exact c4) (by rw [d 5 (by omega)]; exact c5) (by rw [d 6 (by omega)]; exact c6)
