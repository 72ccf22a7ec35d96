/-! PAIR: led -/
theorem pr_led : Pr_led Inv := by
  intro n iv rv a h ha
  obtain ⟨s1, s2, s3, s4⟩ := h.2.2.1.2.2.2.2.2.2.1
  refine ⟨fun hk iv1 e1 => ?_, fun hk => ?_⟩
  · obtain ⟨k1, k2⟩ := hk
    have e29 : iv1 66 29 = iv 63 3 := by
      subst e1
      exact (w2_ne (by omega)).trans s3
    refine ⟨fun c => by omega, fun _ => ⟨fun _ iv2 e2 => ⟨fun _ => ⟨⟨by omega, by omega⟩, ?_⟩, fun c => ?_⟩, fun c => by omega⟩⟩
    · subst e2; subst e1
      refine ⟨w2_eq, ?_, (h.w rfl).w rfl⟩
      rw [w2_ne (by omega), w2_eq, w2_ne (by omega), w2_ne (by omega)]
      exact (s4 a.toNat (by omega)).symm
    · subst e2
      rw [w2_eq] at c
      exact absurd (Int.le_refl 0) c
  · have fin : bd_X12_led_18 a 1 iv rv (fun _ iv2 => wp_X12_thrown iv2 rv (fun t => t = 1 ∧ Inv n iv2 rv)) := by
      intro iv2 e2
      subst e2
      refine ⟨fun c => ?_, fun _ => ⟨w2_eq, h.t⟩⟩
      rw [w2_eq] at c
      exact absurd c (by decide)
    refine ⟨fun _ => fin, fun c => ⟨fun c2 => absurd ⟨by omega, by omega⟩ hk, fun _ => fin⟩⟩
