/-! WHICH GRANTS ARE TOLD: the reference's side -/
theorem Inv.notold {n : Nat} {iv : IV} {rv : RV} (h : Inv n iv rv) (hn : rv 66 3 = Option.none) (a : Int) : ¬ hasI (Rw iv (gR rv 0 2)) a := by
  have z := h.none hn
  have z5 : Rw iv (gR rv 0 2) 1 5 = 0 := z 5 (by omega)
  have z6 : Rw iv (gR rv 0 2) 1 6 = 0 := z 6 (by omega)
  have z7 : Rw iv (gR rv 0 2) 1 7 = 0 := z 7 (by omega)
  rw [hasI_iff h.2.2.2.2.1, z5, z6, z7]
  omega
theorem hg12 {n : Nat} {a : Int} {iv : IV} {rv : RV} {K : Int → Prop} (h : Inv n iv rv) (h1 : rv 66 3 = some 80 → RM (Rw iv (gR rv 0 2)) iv → hasI (Rw iv (gR rv 0 2)) a → K 1) (h0 : ¬ hasI (Rw iv (gR rv 0 2)) a → K 0) : wp_X12_isGrant a iv rv K := by
  refine ⟨h.z80, fun hn => h0 (h.notold hn a), fun hn => ?_⟩
  obtain ⟨-, g1, g2⟩ := h.some hn
  have hc := h.2.2.2.2.1
  have hi := hasI_iff (R := Rw iv (gR rv 0 2)) (a := a) hc
  have r5 := hc.1 5 (by omega)
  have r6 := hc.1 6 (by omega)
  have r7 := hc.1 7 (by omega)
  have r6' : Rw iv (gR rv 0 2) 1 6 ≤ 6 := r6.2
  have r7' : Rw iv (gR rv 0 2) 1 7 ≤ 4 := r7.2
  have r5' : Rw iv (gR rv 0 2) 1 5 ≤ 6 := r5.2
  have s5 := g2.1 5 (by omega)
  have s6 := g2.1 6 (by omega)
  have s7 := g2.1 7 (by omega)
  have e6 : w32 (6 + iv 80 6) = 6 + iv 80 6 := w32_id (by omega) (by omega)
  have e7 : w32 (12 + iv 80 7) = 12 + iv 80 7 := w32_id (by omega) (by omega)
  have y1 : hasI (Rw iv (gR rv 0 2)) a → ((1 : Int) = 0 → K 0) ∧ (¬ ((1 : Int) = 0) → K 1) := fun z => ⟨fun c => absurd c (by decide), fun _ => h1 g1 g2 z⟩
  have y0 : ¬ hasI (Rw iv (gR rv 0 2)) a → ((0 : Int) = 0 → K 0) ∧ (¬ ((0 : Int) = 0) → K 1) := fun z => ⟨fun _ => h0 z, fun c => absurd rfl c⟩
  refine ⟨g1, ?_⟩
  have t29 : ¬ ((0 ≤ a ∧ a < iv 80 5) ∨ (6 ≤ a ∧ a < 6 + iv 80 6)) → bd_X11_isGrant_29 80 a iv rv (fun r3 => ((r3 = 0) → (K 0)) ∧ ((¬ (r3 = 0)) → (K 1))) := by
    intro hh
    refine ⟨fun c => y0 (by rw [hi]; omega), fun c => ⟨fun c2 => y0 ?_, fun c2 => y1 ?_⟩⟩
    · rw [e7] at c2
      rw [hi]; omega
    · rw [e7] at c2
      rw [hi]; omega
  have t12 : ¬ (0 ≤ a ∧ a < iv 80 5) → bd_X11_isGrant_12 80 a iv rv (fun r3 => ((r3 = 0) → (K 0)) ∧ ((¬ (r3 = 0)) → (K 1))) := by
    intro hh
    refine ⟨fun c => t29 (by omega), fun c => ⟨fun c2 => y1 ?_, fun c2 => t29 ?_⟩⟩
    · rw [e6] at c2
      rw [hi]; omega
    · rw [e6] at c2
      omega
  exact ⟨fun c => t12 (by omega), fun c => ⟨fun c2 => y1 (by rw [hi]; omega), fun c2 => t12 (by omega)⟩⟩
theorem hasI_congr {R R' : Nat → Nat → Int} (h : ∀ s, R' 1 s = R 1 s) (a : Int) : hasI R' a ↔ hasI R a := by
  unfold hasI hasG
  rw [h 5, h 6, h 7]
theorem hasI_t {n : Nat} {iv : IV} {rv : RV} (h : Inv n iv rv) (x a : Int) : hasI (Rw (w2 iv 66 0 x) (gR rv 0 2)) a ↔ hasI (Rw iv (gR rv 0 2)) a :=
  hasI_congr (fun s => by
    have := h.h
    show w2 iv 66 0 x (gR rv 0 2 + 1) s = iv (gR rv 0 2 + 1) s
    exact w2_ne (by omega)) a
theorem hasI_lt {R : Nat → Nat → Int} {a : Int} (h : hasI R a) : 0 ≤ a ∧ a < 16 := by
  unfold hasI hasG at h
  omega
