/-! THE READER: names grow with the lines -/
theorem NI.add {m r : Nat} {y : Int} {so nu : F1} {R R' : IV} (N : NI m so nu R) (hr : r = 0 ∨ r = 1 ∨ r = 2 ∨ r = 4 ∨ r = 5 ∨ r = 6 ∨ r = 7 ∨ r = 10 ∨ r = 11) (hy : (r = 6 ∧ y = R 1 r + 6) ∨ (r = 7 ∧ y = R 1 r + 12) ∨ (r ≠ 6 ∧ r ≠ 7 ∧ y = R 1 r)) (room : R 1 r < roomL.getD r 0) (e1 : R' 1 r = R 1 r + 1) (e2 : ∀ s, s < 12 → s ≠ r → R' 1 s = R 1 s) : NI (m + 1) (up1 so m (r : Nat)) (up1 nu m y) R' := by
  have cp := N.cap
  obtain ⟨n1, n2, n3⟩ := N
  have d0 := e2 0 (by omega)
  have d1 := e2 1 (by omega)
  have d2 := e2 2 (by omega)
  have d4 := e2 4 (by omega)
  have d5 := e2 5 (by omega)
  have d6 := e2 6 (by omega)
  have d7 := e2 7 (by omega)
  have d10 := e2 10 (by omega)
  have d11 := e2 11 (by omega)
  refine ⟨?_, fun s hs => ?_, fun j hj => ?_⟩
  · rcases hr with z | z | z | z | z | z | z | z | z <;> subst z <;> omega
  · by_cases z : s = r
    · subst z
      rw [e1]
      have := (n2 s hs).1
      omega
    · rw [e2 s hs z]; exact n2 s hs
  · by_cases z : j = m
    · subst z
      rw [up1_eq, up1_eq]
      rcases hr with z | z | z | z | z | z | z | z | z <;> subst z <;> refine ⟨by omega, ?_, ?_, ?_, ?_, ?_, ?_, ?_⟩ <;> intro q <;> omega
    · rw [up1_ne z, up1_ne z]
      obtain ⟨o0, o1, o2, o3, o4, o5, o6, o7⟩ := n3 j (by omega)
      have le : ∀ s, s < 12 → R 1 s ≤ R' 1 s := fun s hs => by
        by_cases y : s = r
        · subst y; omega
        · rw [e2 s hs y]; exact Int.le_refl _
      exact ⟨o0, fun q => Int.lt_of_lt_of_le (o1 q) (le 0 (by omega)), fun q => Int.lt_of_lt_of_le (o2 q) (le 1 (by omega)), fun q => Int.lt_of_lt_of_le (o3 q) (le 2 (by omega)), fun q => Int.lt_of_lt_of_le (o4 q) (le 4 (by omega)), fun q => Int.lt_of_lt_of_le (o5 q) (le 5 (by omega)), fun q => ⟨(o6 q).1, Int.lt_of_lt_of_le (o6 q).2 (Int.add_le_add_left (le 6 (by omega)) 6)⟩, fun q => ⟨(o7 q).1, Int.lt_of_lt_of_le (o7 q).2 (Int.add_le_add_left (le 7 (by omega)) 12)⟩⟩
theorem NI.same {m r : Nat} {so nu : F1} {R R' : IV} (N : NI m so nu R) (hr : r = 3 ∨ r = 8 ∨ r = 9) (room : R 1 r < roomL.getD r 0) (e1 : R' 1 r = R 1 r + 1) (e2 : ∀ s, s < 12 → s ≠ r → R' 1 s = R 1 s) : NI m so nu R' := by
  obtain ⟨n1, n2, n3⟩ := N
  have d0 := e2 0 (by omega) (by omega)
  have d1 := e2 1 (by omega) (by omega)
  have d2 := e2 2 (by omega) (by omega)
  have d4 := e2 4 (by omega) (by omega)
  have d5 := e2 5 (by omega) (by omega)
  have d6 := e2 6 (by omega) (by omega)
  have d7 := e2 7 (by omega) (by omega)
  have d10 := e2 10 (by omega) (by omega)
  have d11 := e2 11 (by omega) (by omega)
  refine ⟨by omega, fun s hs => ?_, fun j hj => ?_⟩
  · by_cases z : s = r
    · subst z
      rw [e1]
      have := (n2 s hs).1
      omega
    · rw [e2 s hs z]; exact n2 s hs
  · rw [d0, d1, d2, d4, d5, d6, d7]; exact n3 j hj
