/-! THE READER: ranges grow with the lines -/
theorem v0_ok (R : IV) (z : R0ok R) : GoodV (v0 R) := by
  have c := z.1
  have c0 := c 0 (by omega)
  have c1 := c 1 (by omega)
  have c2 := c 2 (by omega)
  have c3 := c 3 (by omega)
  have c4 := c 4 (by omega)
  have c5 := c 5 (by omega)
  have c6 := c 6 (by omega)
  have c7 := c 7 (by omega)
  have c8 := c 8 (by omega)
  have c10 := c 10 (by omega)
  have c11 := c 11 (by omega)
  have ng : ∀ g, ¬ hasG R g := fun g q => by unfold hasG at q; omega
  refine ⟨⟨by show ((0 : Nat) : Int) = R 1 0 + R 1 1 + R 1 2 + R 1 4 + R 1 5 + R 1 6 + R 1 7 + R 1 10 + R 1 11; omega, fun s hs => ?_, fun j hj => absurd hj (Nat.not_lt_zero j)⟩, ?_⟩
  · show 0 ≤ R 1 s ∧ R 1 s ≤ _
    rw [c s hs]
    refine ⟨by omega, ?_⟩
    have r : ∀ s, s < 12 → (0 : Int) ≤ roomL.getD s 0 := by decide
    exact r s hs
  · exact ⟨fun i hi => absurd hi (by show ¬ ((i : Int) < R 1 2); omega), fun i hi => absurd hi (by show ¬ ((i : Int) < R 1 3 + R 1 4); omega), fun g hg => absurd hg (ng g), fun g hg => absurd hg (ng g), fun g hg _ => z.2 g hg, fun i hi => absurd hi (by show ¬ ((i : Int) < R 1 8); omega), fun i hi => absurd hi (by show ¬ ((i : Int) < R 1 11); omega)⟩
theorem RW.grow {R R' : IV} (h : RW R) (c0 : R 1 0 ≤ R' 1 0) (c2 : R 1 2 ≤ R' 1 2) (c4 : R 1 4 ≤ R' 1 4)
    (a1 : ∀ i : Nat, (i : Int) < R' 1 2 → ((i : Int) < R 1 2 ∧ R' 2 i = R 2 i ∧ R' 3 i = R 3 i) ∨ (0 ≤ R' 2 i ∧ R' 2 i < R' 1 0 ∧ 0 ≤ R' 3 i ∧ R' 3 i ≤ 999))
    (a2 : ∀ i : Nat, (i : Int) < R' 1 3 + R' 1 4 → ((i : Int) < R 1 3 + R 1 4 ∧ R' 4 i = R 4 i ∧ R' 5 i = R 5 i ∧ R' 6 i = R 6 i ∧ R' 7 i = R 7 i) ∨ (0 ≤ R' 4 i ∧ R' 4 i < R' 1 0 ∧ 0 ≤ R' 5 i ∧ R' 5 i < R' 1 0 ∧ R' 4 i ≠ R' 5 i ∧ 1 ≤ R' 6 i ∧ R' 6 i ≤ 99 ∧ -1 ≤ R' 7 i ∧ R' 7 i < R' 1 4))
    (a3 : ∀ g : Nat, hasG R' g → (hasG R g ∧ R' 8 g = R 8 g ∧ R' 9 g = R 9 g ∧ R' 11 g = R 11 g ∧ R' 12 g = R 12 g ∧ R' 13 g = R 13 g) ∨ ((0 ≤ R' 8 g ∧ R' 8 g ≤ R' 9 g ∧ R' 9 g ≤ R' 8 g + 20 ∧ R' 9 g ≤ 999) ∧ (6 ≤ g → 0 ≤ R' 11 g ∧ R' 11 g < R' 1 0) ∧ (12 ≤ g → 0 ≤ R' 12 g ∧ R' 12 g < R' 1 0) ∧ (g < 6 → 1 ≤ R' 13 g ∧ R' 13 g ≤ 99)))
    (a5 : ∀ g : Nat, g < 16 → ¬ hasG R' g → ¬ hasG R g ∧ R' 8 g = R 8 g ∧ R' 9 g = R 9 g ∧ R' 10 g = R 10 g)
    (a8 : ∀ i : Nat, (i : Int) < R' 1 8 → ((i : Int) < R 1 8 ∧ R' 14 i = R 14 i ∧ R' 15 i = R 15 i ∧ R' 16 i = R 16 i) ∨ (0 ≤ R' 14 i ∧ R' 14 i < 12 ∧ 0 ≤ R' 15 i ∧ R' 15 i ≤ 2 ∧ 0 ≤ R' 16 i ∧ R' 16 i ≤ 999))
    (a11 : ∀ i : Nat, (i : Int) < R' 1 11 → ((i : Int) < R 1 11 ∧ ∀ f, f < 7 → R' 18 (7 * i + f) = R 18 (7 * i + f)) ∨ (0 ≤ R' 18 (7 * i) ∧ R' 18 (7 * i) < R' 1 2 ∧ 1 ≤ R' 18 (7 * i + 3) ∧ R' 18 (7 * i + 3) ≤ 99 ∧ 0 ≤ R' 18 (7 * i + 4) ∧ R' 18 (7 * i + 4) < R' 1 0 ∧ 0 ≤ R' 18 (7 * i + 5) ∧ R' 18 (7 * i + 5) < R' 1 0 ∧ 0 ≤ R' 18 (7 * i + 6) ∧ R' 18 (7 * i + 6) ≤ 999)) : RW R' := by
  obtain ⟨h1, h2, h3, h4, h5, h8, h11⟩ := h
  refine ⟨fun i hi => ?_, fun i hi => ?_, fun g hg => ?_, fun g hg => ?_, fun g hg ng => ?_, fun i hi => ?_, fun i hi => ?_⟩
  · rcases a1 i hi with ⟨q, e1, e2⟩ | q
    · have o := h1 i q
      rw [e1, e2]; exact ⟨o.1, Int.lt_of_lt_of_le o.2.1 c0, o.2.2⟩
    · exact q
  · rcases a2 i hi with ⟨q, e1, e2, e3, e4⟩ | q
    · obtain ⟨o1, o2, o3, o4, o5, o6, o7, o8, o9⟩ := h2 i q
      rw [e1, e2, e3, e4]; exact ⟨o1, Int.lt_of_lt_of_le o2 c0, o3, Int.lt_of_lt_of_le o4 c0, o5, o6, o7, o8, Int.lt_of_lt_of_le o9 c4⟩
    · exact q
  · rcases a3 g hg with ⟨q, e8, e9, _⟩ | q
    · rw [e8, e9]; exact h3 g q
    · exact q.1
  · rcases a3 g hg with ⟨q, e8, e9, e11, e12, e13⟩ | q
    · obtain ⟨o1, o2, o3⟩ := h4 g q
      rw [e11, e12, e13]
      exact ⟨fun y => ⟨(o1 y).1, Int.lt_of_lt_of_le (o1 y).2 c0⟩, fun y => ⟨(o2 y).1, Int.lt_of_lt_of_le (o2 y).2 c0⟩, o3⟩
    · exact q.2
  · obtain ⟨q, e8, e9, e10⟩ := a5 g hg ng
    rw [e8, e9, e10]; exact h5 g hg q
  · rcases a8 i hi with ⟨q, e1, e2, e3⟩ | q
    · rw [e1, e2, e3]; exact h8 i q
    · exact q
  · rcases a11 i hi with ⟨q, e⟩ | q
    · obtain ⟨o1, o2, o3, o4, o5, o6, o7, o8, o9, o10⟩ := h11 i q
      have e0 : R' 18 (7 * i) = R 18 (7 * i) := e 0 (by omega)
      rw [e0, e 3 (by omega), e 4 (by omega), e 5 (by omega), e 6 (by omega)]
      exact ⟨o1, Int.lt_of_lt_of_le o2 c2, o3, o4, o5, Int.lt_of_lt_of_le o6 c0, o7, Int.lt_of_lt_of_le o8 c0, o9, o10⟩
    · exact q
