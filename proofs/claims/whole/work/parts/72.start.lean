/-! THE START; PAIR: cart -/
theorem lk_start : Lk 80 rv9 := by
  refine ⟨by decide, by decide, by decide +kernel, fun c => absurd c (by decide), fun c => absurd c (by decide), ⟨?_, ?_, ?_, ?_, ?_⟩, fun b hb => ?_, fun b hb => ?_⟩
  · unfold hR5 isR; decide +kernel
  · unfold hR5 isR; decide +kernel
  · unfold hR5 isR; decide +kernel
  · unfold hR5 isR; decide +kernel
  · unfold hR5 isR; decide +kernel
  · rw [show rv9 66 3 = none by decide +kernel] at hb; cases hb
  · rw [show rv9 66 4 = none by decide +kernel] at hb; cases hb
theorem inv_start : Inv 80 iv9 rv9 := by
  have e2 : gR rv9 0 2 = 2 := gR_of (by decide +kernel)
  have z1 : iv9 0 1 = 0 := by decide +kernel
  have z2 : iv9 63 2 = 0 := by decide +kernel
  have z3 : iv9 63 3 = 0 := by decide +kernel
  have z4 : iv9 0 7 = 0 := by decide +kernel
  have z5 : iv9 66 28 = -1 := by decide +kernel
  have z6 : iv9 66 2 = -1 := by decide +kernel
  have z7 : iv9 66 6 = 0 := by decide +kernel
  have z8 : iv9 66 1 = 0 := by decide +kernel
  have z9 : iv9 66 12 = iv9 40 6 := by decide +kernel
  have za : iv9 66 27 = 0 := by decide +kernel
  have zb : iv9 66 29 = 0 := by decide +kernel
  have zc : ∀ s, s < 12 → iv9 3 s = 0 := by decide +kernel
  refine ⟨lk_start, Or.inl rfl, ⟨⟨by omega, by omega, by omega, fun j hj => by omega⟩, by omega, z9, fun c => by omega, fun _ => z6, ⟨by omega, by omega, by omega, fun j hj => by omega⟩, ⟨by omega, by omega, by omega, fun j hj => by omega⟩, fun c => by omega, fun _ => z5⟩, Or.inl ⟨by decide +kernel, by decide +kernel⟩, ⟨fun s hs => ?_, ?_⟩, fun _ => ⟨by decide +kernel, fun s hs => ?_⟩, fun c => absurd c (by decide)⟩
  · show 0 ≤ iv9 (gR rv9 0 2 + 1) s ∧ iv9 (gR rv9 0 2 + 1) s ≤ _
    rw [e2, zc s hs]
    refine ⟨Int.le_refl _, ?_⟩
    revert s
    decide +kernel
  · have q : ∀ s, s < 12 → Rw iv9 (gR rv9 0 2) 1 s = 0 := fun s hs => by
      show iv9 (gR rv9 0 2 + 1) s = 0
      rw [e2]; exact zc s hs
    have zd : ∀ s, s < 16 → iv9 10 s = 0 ∧ iv9 11 s = 0 ∧ iv9 12 s = 0 := by decide +kernel
    have ng : ∀ g, ¬ hasG (Rw iv9 (gR rv9 0 2)) g := fun g => by
      unfold hasG
      rw [q 5 (by omega), q 6 (by omega), q 7 (by omega)]
      omega
    refine ⟨fun i hi => ?_, fun i hi => ?_, fun g hg => absurd hg (ng g), fun g hg => absurd hg (ng g), fun g hg _ => ?_, fun i hi => ?_, fun i hi => ?_⟩
    · rw [q 2 (by omega)] at hi; omega
    · rw [q 3 (by omega), q 4 (by omega)] at hi; omega
    · show iv9 (gR rv9 0 2 + 8) g = 0 ∧ iv9 (gR rv9 0 2 + 9) g = 0 ∧ iv9 (gR rv9 0 2 + 10) g = 0
      rw [e2]; exact zd g hg
    · rw [q 8 (by omega)] at hi; omega
    · rw [q 11 (by omega)] at hi; omega
  · rw [e2]
    exact zc s hs
theorem pr_cart : Pr_cart Inv := by
  intro n iv rv a b h ha hb
  have hC := h.2.2.2.2.1.1 11 (by omega)
  have hC1 : 0 ≤ iv (gR rv 0 2 + 1) 11 := hC.1
  have hC2 : iv (gR rv 0 2 + 1) 11 ≤ 6 := hC.2
  have bad : a < 0 ∨ iv (gR rv 0 2 + 1) 11 ≤ a → wp_X12_cart a b iv rv (fun r2 iv2 => r2 = -1 ∧ Inv n iv2 rv) := by
    intro hbad iv1 e1
    subst e1
    refine ⟨h.z80, fun _ => ⟨fun _ => ⟨rfl, h.t⟩, fun c => absurd rfl c⟩, fun hn => ⟨fun _ => ⟨fun _ => ⟨rfl, h.t⟩, fun c => absurd rfl c⟩, fun c1 => ⟨(h.some hn).2.1, fun _ => ⟨fun _ => ⟨rfl, h.t⟩, fun c => absurd rfl c⟩, fun c2 => ?_⟩⟩⟩
    have g2 := (h.some hn).2.2.1 11 (by omega)
    rw [w2_ne (by omega), g2] at c2
    exact absurd (show iv (gR rv 0 2 + 1) 11 ≤ a by omega) c2
  have good : ∀ r : Int, ¬ a < 0 → ¬ iv (gR rv 0 2 + 1) 11 ≤ a → (b < 0 ∨ 7 ≤ b → r = -1) → (∀ k : Nat, k < 7 → b = (k : Int) → r = iv (gR rv 0 2 + 18) (7 * a.toNat + k)) → wp_X12_cart a b iv rv (fun r2 iv2 => r2 = r ∧ Inv n iv2 rv) := by
    intro r c1 c2 hr1 hr2 iv1 e1
    subst e1
    have hn : rv 66 3 ≠ Option.none := by
      intro hn
      have := h.none hn 11 (by omega)
      omega
    obtain ⟨-, g1, g2⟩ := h.some hn
    have g3 : ∀ x, w2 iv 66 0 x 80 11 = iv (gR rv 0 2 + 1) 11 := fun x => (w2_ne (by omega)).trans (g2.1 11 (by omega))
    have g4 := g2.2.2.2.2.2.2.2 a.toNat (show (a.toNat : Int) < iv (gR rv 0 2 + 1) 11 by omega)
    have g5 : ∀ x f, f < 7 → w2 iv 66 0 x (100 + f) a.toNat = iv (gR rv 0 2 + 18) (7 * a.toNat + f) := fun x f hf => (w2_ne (by omega)).trans (g4 f hf)
    refine ⟨h.z80, fun c => absurd c hn, fun _ => ⟨fun c => absurd c c1, fun _ => ⟨g1, fun c => absurd (by rw [g3] at c; exact c) c2, fun _ => ⟨fun c => by omega, fun _ => ⟨fun c3 => ⟨fun c => absurd rfl c, fun _ => ⟨(hr1 (by omega)).symm, h.t⟩⟩, fun c3 => ⟨fun c4 => ⟨fun c => absurd rfl c, fun _ => ⟨(hr1 (by omega)).symm, h.t⟩⟩, fun c4 => ⟨fun _ => ?_, fun c => by omega⟩⟩⟩⟩⟩⟩⟩
    refine ⟨fun c => ⟨g1, ⟨by omega, by omega⟩, (g5 0 6 (by omega)).trans (hr2 6 (by omega) (by omega)).symm, h.t⟩, fun c => ⟨g1, ⟨by omega, by omega⟩, (g5 0 0 (by omega)).trans (hr2 0 (by omega) (by omega)).symm, h.t⟩, fun c => ⟨g1, ⟨by omega, by omega⟩, (g5 0 1 (by omega)).trans (hr2 1 (by omega) (by omega)).symm, h.t⟩, fun c => ⟨g1, ⟨by omega, by omega⟩, (g5 0 2 (by omega)).trans (hr2 2 (by omega) (by omega)).symm, h.t⟩, fun c => ⟨g1, ⟨by omega, by omega⟩, (g5 0 3 (by omega)).trans (hr2 3 (by omega) (by omega)).symm, h.t⟩, fun c => ⟨g1, ⟨by omega, by omega⟩, (g5 0 4 (by omega)).trans (hr2 4 (by omega) (by omega)).symm, h.t⟩, fun c => ⟨g1, ⟨by omega, by omega⟩, (g5 0 5 (by omega)).trans (hr2 5 (by omega) (by omega)).symm, h.t⟩⟩
  refine ⟨fun c1 => ⟨fun _ => bad (Or.inl c1), fun c => absurd rfl c⟩, fun c1 => ⟨⟨by omega, by omega⟩, fun c2 => ⟨fun _ => bad (Or.inr c2), fun c => absurd rfl c⟩, fun c2 => ⟨fun c => by omega, fun _ => ?_⟩⟩⟩
  have c2' : ¬ iv (gR rv 0 2 + 1) 11 ≤ a := c2
  refine ⟨fun c3 => good (-1) c1 c2' (fun _ => rfl) (fun k hk hbk => by omega), fun c3 => ⟨fun c4 => good (-1) c1 c2' (fun _ => rfl) (fun k hk hbk => by omega), fun c4 => ?_⟩⟩
  have e1 : w32 (w32 (a * 7) + b) = a * 7 + b := by rw [w32_id (x := a * 7) (by omega) (by omega), w32_id (by omega) (by omega)]
  refine ⟨⟨by rw [e1]; omega, by rw [e1]; omega⟩, ?_⟩
  refine good _ c1 c2' (fun c => by omega) (fun k hk hbk => ?_)
  rw [e1, show (a * 7 + b).toNat = 7 * a.toNat + k by omega]
