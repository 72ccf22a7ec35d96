/-! WHICH GRANTS ARE TOLD: both sides -/
def hasI (R : Nat → Nat → Int) (a : Int) : Prop := 0 ≤ a ∧ hasG R a.toNat
theorem hasI_iff {R : Nat → Nat → Int} {a : Int} (hc : RC R) : hasI R a ↔ (0 ≤ a ∧ a < R 1 5) ∨ (6 ≤ a ∧ a - 6 < R 1 6) ∨ (12 ≤ a ∧ a - 12 < R 1 7) := by
  have h5 : R 1 5 ≤ 6 := (hc.1 5 (by omega)).2
  have h6 : R 1 6 ≤ 6 := (hc.1 6 (by omega)).2
  have h7 : R 1 7 ≤ 4 := (hc.1 7 (by omega)).2
  unfold hasI hasG
  omega
theorem hg5 {h : Nat} {a : Int} {iv : IV} {rv : RV} {K : Int → Prop} (ha : inI a) (hc : RC (Rw iv h)) (h1 : hasI (Rw iv h) a → K 1) (h0 : ¬ hasI (Rw iv h) a → K 0) : wp_X5_hasGrant h a iv rv K := by
  have hi := hasI_iff (R := Rw iv h) (a := a) hc
  have r5 : iv (h + 1) 5 ≤ 6 := (hc.1 5 (by omega)).2
  have r6 : iv (h + 1) 6 ≤ 6 := (hc.1 6 (by omega)).2
  have r7 : iv (h + 1) 7 ≤ 4 := (hc.1 7 (by omega)).2
  have q5 : 0 ≤ iv (h + 1) 5 := (hc.1 5 (by omega)).1
  have q6 : 0 ≤ iv (h + 1) 6 := (hc.1 6 (by omega)).1
  have q7 : 0 ≤ iv (h + 1) 7 := (hc.1 7 (by omega)).1
  have hi' : hasI (Rw iv h) a ↔ (0 ≤ a ∧ a < iv (h + 1) 5) ∨ (6 ≤ a ∧ a - 6 < iv (h + 1) 6) ∨ (12 ≤ a ∧ a - 12 < iv (h + 1) 7) := hi
  have e12 : 12 ≤ a → w32 (a - 12) = a - 12 := fun c => w32_id (by omega) (by unfold inI at ha; omega)
  have e6 : 6 ≤ a → w32 (a - 6) = a - 6 := fun c => w32_id (by omega) (by unfold inI at ha; omega)
  refine ⟨fun c1 => ⟨fun c2 => ?_, fun c2 => ?_⟩, fun c1 => ?_⟩
  · rw [e12 c2]
    refine ⟨fun c => by omega, fun _ => ⟨⟨by omega, by omega⟩, fun c3 => h0 ?_, fun c3 => h1 ?_⟩⟩
    · have c3' : iv (h + 1) 7 ≤ a - 12 := c3
      rw [hi']; omega
    · have c3' : ¬ iv (h + 1) 7 ≤ a - 12 := c3
      rw [hi']; omega
  · rw [e6 c1]
    refine ⟨fun c => by omega, fun _ => ⟨⟨by omega, by omega⟩, fun c3 => h0 ?_, fun c3 => h1 ?_⟩⟩
    · have c3' : iv (h + 1) 6 ≤ a - 6 := c3
      rw [hi']; omega
    · have c3' : ¬ iv (h + 1) 6 ≤ a - 6 := c3
      rw [hi']; omega
  · refine ⟨fun c => h0 ?_, fun c2 => ⟨⟨by omega, by omega⟩, fun c3 => h0 ?_, fun c3 => h1 ?_⟩⟩
    · rw [hi']; omega
    · have c3' : iv (h + 1) 5 ≤ a := c3
      rw [hi']; omega
    · have c3' : ¬ iv (h + 1) 5 ≤ a := c3
      rw [hi']; omega
