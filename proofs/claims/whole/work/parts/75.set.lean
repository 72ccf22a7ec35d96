/-! WHAT find, lose AND date CHANGE -/
theorem Inv.set {n : Nat} {iv iv' : IV} {rv : RV} (h : Inv n iv rv) (hS : Sc iv') (hR : ∀ r i, r < 19 → r ≠ 8 → r ≠ 9 → r ≠ 10 → iv' (gR rv 0 2 + r) i = iv (gR rv 0 2 + r) i) (hG : ∀ k, 80 ≤ k → k ≠ 90 → k ≠ 91 → k ≠ 92 → iv' k = iv k)
    (hl : n = 110 → ∀ g : Nat, hasG (Rw iv (gR rv 0 2)) g → iv' 90 g = iv' (gR rv 0 2 + 8) g ∧ iv' 91 g = iv' (gR rv 0 2 + 9) g ∧ iv' 92 g = iv' (gR rv 0 2 + 10) g ∧ 0 ≤ iv' (gR rv 0 2 + 10) g ∧ iv' (gR rv 0 2 + 10) g ≤ 2)
    (hd : ∀ g : Nat, hasG (Rw iv (gR rv 0 2)) g → 0 ≤ iv' (gR rv 0 2 + 8) g ∧ iv' (gR rv 0 2 + 8) g ≤ iv' (gR rv 0 2 + 9) g ∧ iv' (gR rv 0 2 + 9) g ≤ iv' (gR rv 0 2 + 8) g + 20 ∧ iv' (gR rv 0 2 + 9) g ≤ 999)
    (hu : ∀ g : Nat, ¬ hasG (Rw iv (gR rv 0 2)) g → iv' (gR rv 0 2 + 8) g = iv (gR rv 0 2 + 8) g ∧ iv' (gR rv 0 2 + 9) g = iv (gR rv 0 2 + 9) g ∧ iv' (gR rv 0 2 + 10) g = iv (gR rv 0 2 + 10) g ∧ iv' 90 g = iv 90 g ∧ iv' 91 g = iv 91 g ∧ iv' 92 g = iv 92 g) : Inv n iv' rv := by
  obtain ⟨h1, h2, h3, h4, h5, h6, h7⟩ := h
  have eR : ∀ r, r < 19 → r ≠ 8 → r ≠ 9 → r ≠ 10 → ∀ i, Rw iv' (gR rv 0 2) r i = Rw iv (gR rv 0 2) r i := fun r a b c d i => hR r i a b c d
  have eG : ∀ g, hasG (Rw iv' (gR rv 0 2)) g ↔ hasG (Rw iv (gR rv 0 2)) g := fun g => by
    unfold hasG
    rw [eR 1 (by omega) (by omega) (by omega) (by omega) 5, eR 1 (by omega) (by omega) (by omega) (by omega) 6, eR 1 (by omega) (by omega) (by omega) (by omega) 7]
  refine ⟨h1, h2, hS, h4, ?_, ?_, ?_⟩
  · have q1 := eR 1 (by omega) (by omega) (by omega) (by omega)
    obtain ⟨c0, c1, c2, c3, c4, c5, c6, c7⟩ := h5
    refine ⟨fun s hs => ?_, fun i hi => ?_, fun i hi => ?_, fun g hg => ?_, fun g hg => ?_, fun g hg hn => ?_, fun i hi => ?_, fun i hi => ?_⟩
    · rw [q1]; exact c0 s hs
    · rw [q1] at hi
      rw [q1, eR 2 (by omega) (by omega) (by omega) (by omega), eR 3 (by omega) (by omega) (by omega) (by omega)]; exact c1 i hi
    · rw [q1, q1] at hi
      rw [q1, q1, eR 4 (by omega) (by omega) (by omega) (by omega), eR 5 (by omega) (by omega) (by omega) (by omega), eR 6 (by omega) (by omega) (by omega) (by omega), eR 7 (by omega) (by omega) (by omega) (by omega)]; exact c2 i hi
    · exact hd g ((eG g).mp hg)
    · rw [q1, eR 11 (by omega) (by omega) (by omega) (by omega), eR 12 (by omega) (by omega) (by omega) (by omega), eR 13 (by omega) (by omega) (by omega) (by omega)]; exact c4 g ((eG g).mp hg)
    · have hn' := fun z => hn ((eG g).mpr z)
      obtain ⟨u1, u2, u3, -⟩ := hu g hn'
      have := c5 g hg hn'
      exact ⟨u1.trans this.1, u2.trans this.2.1, u3.trans this.2.2⟩
    · rw [q1] at hi
      rw [eR 14 (by omega) (by omega) (by omega) (by omega), eR 15 (by omega) (by omega) (by omega) (by omega), eR 16 (by omega) (by omega) (by omega) (by omega)]; exact c6 i hi
    · rw [q1] at hi
      simp only [q1, eR 18 (by omega) (by omega) (by omega) (by omega)]; exact c7 i hi
  · intro hn
    refine ⟨(h6 hn).1, fun s hs => ?_⟩
    rw [hR 1 s (by omega) (by omega) (by omega) (by omega)]
    exact (h6 hn).2 s hs
  · intro hn
    refine ⟨(h7 hn).1, ?_⟩
    obtain ⟨k1, k2, k3, k4, k5, k6, k7, k8⟩ := (h7 hn).2
    have q1 := eR 1 (by omega) (by omega) (by omega) (by omega)
    have b := fun k (hk : 80 ≤ k ∧ k ≠ 90 ∧ k ≠ 91 ∧ k ≠ 92) => hG k hk.1 hk.2.1 hk.2.2.1 hk.2.2.2
    refine ⟨fun s hs => ?_, ?_, fun i hi => ?_, fun i hi => ?_, fun g hg => ?_, fun i hi => ?_, fun i hi => ?_, fun i hi f hf => ?_⟩
    · rw [b 80 (by omega), q1]; exact k1 s hs
    · rw [b 80 (by omega), q1, q1]
      refine ⟨k2.1, fun g hg hn => ?_⟩
      have hn' := fun z => hn ((eG g).mpr z)
      obtain ⟨-, -, -, u1, u2, u3⟩ := hu g hn'
      rw [u1, u2, u3]
      exact k2.2 g hg hn'
    · rw [q1] at hi
      rw [b 81 (by omega), b 82 (by omega), eR 2 (by omega) (by omega) (by omega) (by omega), eR 3 (by omega) (by omega) (by omega) (by omega)]; exact k3 i hi
    · rw [q1, q1] at hi
      rw [b 83 (by omega), b 84 (by omega), b 85 (by omega), b 86 (by omega), eR 4 (by omega) (by omega) (by omega) (by omega), eR 5 (by omega) (by omega) (by omega) (by omega), eR 6 (by omega) (by omega) (by omega) (by omega), eR 7 (by omega) (by omega) (by omega) (by omega)]; exact k4 i hi
    · have hg' := (eG g).mp hg
      obtain ⟨m1, m2, m3, -⟩ := k5 g hg'
      rw [b 87 (by omega), b 88 (by omega), b 89 (by omega), eR 11 (by omega) (by omega) (by omega) (by omega), eR 12 (by omega) (by omega) (by omega) (by omega), eR 13 (by omega) (by omega) (by omega) (by omega)]
      exact ⟨m1, m2, m3, hl hn g hg'⟩
    · rw [q1] at hi
      rw [b 93 (by omega), b 94 (by omega), b 95 (by omega), eR 14 (by omega) (by omega) (by omega) (by omega), eR 15 (by omega) (by omega) (by omega) (by omega), eR 16 (by omega) (by omega) (by omega) (by omega)]; exact k6 i hi
    · rw [q1] at hi
      rw [b 96 (by omega), b 97 (by omega), b 98 (by omega), b 99 (by omega), eR 17 (by omega) (by omega) (by omega) (by omega)]; exact k7 i hi
    · rw [q1] at hi
      rw [b (100 + f) (by omega), eR 18 (by omega) (by omega) (by omega) (by omega)]; exact k8 i hi f hf
/-- the answers alone change -/
theorem Sc.ans {iv iv' : IV} (h : Sc iv) (he : ∀ k j, (k = 1 ∨ (63 ≤ k ∧ k ≤ 65) ∨ k = 67 ∨ k = 73 ∨ k = 74 ∨ (k = 0 ∧ j = 1) ∨ (k = 40 ∧ j = 6) ∨ (k = 66 ∧ (j = 6 ∨ j = 12 ∨ j = 27 ∨ j = 28 ∨ j = 29))) → iv' k j = iv k j) (h1 : iv' 66 1 = iv' 0 7) (h4 : iv' 0 7 ≠ 4) (h2 : iv' 66 2 = -1) : Sc iv' := by
  obtain ⟨a1, -, a3, -, -, a6, a7, a8, a9⟩ := h
  refine ⟨?_, h1, ?_, fun c => absurd c h4, fun _ => h2, ?_, ?_, ?_, ?_⟩
  · rw [he 0 1 (by omega), he 66 6 (by omega), show iv' 67 = iv 67 from funext fun j => he 67 j (by omega), show iv' 1 = iv 1 from funext fun j => he 1 j (by omega)]; exact a1
  · rw [he 66 12 (by omega), he 40 6 (by omega)]; exact a3
  · rw [he 63 2 (by omega), he 66 27 (by omega), show iv' 73 = iv 73 from funext fun j => he 73 j (by omega), show iv' 64 = iv 64 from funext fun j => he 64 j (by omega)]; exact a6
  · rw [he 63 3 (by omega), he 66 29 (by omega), show iv' 74 = iv 74 from funext fun j => he 74 j (by omega), show iv' 65 = iv 65 from funext fun j => he 65 j (by omega)]; exact a7
  · rw [he 63 2 (by omega), he 66 28 (by omega), he 63 4 (by omega)]; exact a8
  · rw [he 63 2 (by omega), he 66 28 (by omega)]; exact a9
