/-! PAIR: grant, proved -/
theorem pr_grant : Pr_grant Inv := by
  intro n iv rv a b h ha hb
  have hh := h.h
  have good : ∀ r : Int, hasI (Rw iv (gR rv 0 2)) a → (b < 0 ∨ 6 < b → r = -1) → (b = 0 → r = iv 90 a.toNat) → (b = 1 → r = iv 91 a.toNat) → (b = 2 → r = iv 92 a.toNat) → (b = 3 → r = iv 87 a.toNat) → (b = 4 → r = iv 88 a.toNat) → (b = 5 → r = iv 89 a.toNat) → (b = 6 → r = cntM (iv 93) a (iv 80 8).toNat) → wp_X12_grant a b iv rv (fun r2 iv2 => r2 = r ∧ Inv n iv2 rv) := by
    intro r ht q q0 q1 q2 q3 q4 q5 q6 iv1 e1
    have hlt := hasI_lt ht
    subst e1
    have f : ∀ k j, k ≠ 66 → w2 iv 66 0 0 k j = iv k j := fun k j hk => w2_ne (by omega)
    refine isG_congr (iv := iv) (w2_row (by omega)) (hg12 h (fun g1 g2 _ => ⟨fun c => absurd c (by decide), fun _ => ?_⟩) (fun c => absurd ht c))
    have c8 := h.2.2.2.2.1.1 8 (by omega)
    have c8a : iv 80 8 = Rw iv (gR rv 0 2) 1 8 := g2.1 8 (by omega)
    have c8b : Rw iv (gR rv 0 2) 1 8 ≤ 4 := c8.2
    refine ⟨fun c => ⟨fun z => absurd rfl z, fun _ => ⟨(q (by omega)).symm, h.t⟩⟩, fun c => ⟨fun c2 => ⟨fun z => absurd rfl z, fun _ => ⟨(q (by omega)).symm, h.t⟩⟩, fun c2 => ⟨fun _ => ?_, fun z => absurd z (by decide)⟩⟩⟩
    refine ⟨fun d3 => ⟨fun d6 => rnw12 g1 (by rw [f 80 8 (by omega)]; omega) ⟨?_, h.t⟩, fun d6 => ⟨fun e3 => ⟨fun e4 => ⟨g1, hlt, ?_, h.t⟩, fun e4 => ⟨g1, hlt, ?_, h.t⟩⟩, fun e3 => ⟨g1, hlt, ?_, h.t⟩⟩⟩, fun d3 => ⟨fun e0 => ⟨fun e1 => ⟨g1, hlt, ?_, h.t⟩, fun e1 => ⟨g1, hlt, ?_, h.t⟩⟩, fun e0 => ⟨g1, hlt, ?_, h.t⟩⟩⟩
    · rw [f 80 8 (by omega), show w2 iv 66 0 0 93 = iv 93 from w2_row (by omega)]
      exact (q6 (by omega)).symm
    · rw [f 89 _ (by omega)]; exact (q5 (by omega)).symm
    · rw [f 88 _ (by omega)]; exact (q4 (by omega)).symm
    · rw [f 87 _ (by omega)]; exact (q3 (by omega)).symm
    · rw [f 92 _ (by omega)]; exact (q2 (by omega)).symm
    · rw [f 91 _ (by omega)]; exact (q1 (by omega)).symm
    · rw [f 90 _ (by omega)]; exact (q0 (by omega)).symm
  refine hg5 ha h.2.2.2.2.1 (fun ht => ⟨fun _ => ?_, fun c => absurd c (by decide)⟩) (fun ht => ⟨fun c => absurd rfl c, fun _ iv1 e1 => ?_⟩)
  · have hlt := hasI_lt ht
    have hn : rv 66 3 ≠ Option.none := fun hn => h.notold hn a ht
    obtain ⟨-, g1, g2⟩ := h.some hn
    obtain ⟨m1, m2, m3, m4, m5, m6, -, -⟩ := g2.2.2.2.2.1 _ ht.2
    have c8 := h.2.2.2.2.1.1 8 (by omega)
    have c8b : Rw iv (gR rv 0 2) 1 8 ≤ 4 := c8.2
    refine ⟨fun c => good _ ht (fun _ => rfl) (fun _ => by omega) (fun _ => by omega) (fun _ => by omega) (fun _ => by omega) (fun _ => by omega) (fun _ => by omega) (fun _ => by omega), fun c => ⟨hlt, good _ ht (fun _ => by omega) (fun _ => m4.symm) (fun _ => by omega) (fun _ => by omega) (fun _ => by omega) (fun _ => by omega) (fun _ => by omega) (fun _ => by omega)⟩, fun c => ⟨hlt, good _ ht (fun _ => by omega) (fun _ => by omega) (fun _ => m5.symm) (fun _ => by omega) (fun _ => by omega) (fun _ => by omega) (fun _ => by omega) (fun _ => by omega)⟩, fun c => ⟨hlt, good _ ht (fun _ => by omega) (fun _ => by omega) (fun _ => by omega) (fun _ => m6.symm) (fun _ => by omega) (fun _ => by omega) (fun _ => by omega) (fun _ => by omega)⟩, fun c => ⟨hlt, good _ ht (fun _ => by omega) (fun _ => by omega) (fun _ => by omega) (fun _ => by omega) (fun _ => m1.symm) (fun _ => by omega) (fun _ => by omega) (fun _ => by omega)⟩, fun c => ⟨hlt, good _ ht (fun _ => by omega) (fun _ => by omega) (fun _ => by omega) (fun _ => by omega) (fun _ => by omega) (fun _ => m2.symm) (fun _ => by omega) (fun _ => by omega)⟩, fun c => ⟨hlt, good _ ht (fun _ => by omega) (fun _ => by omega) (fun _ => by omega) (fun _ => by omega) (fun _ => by omega) (fun _ => by omega) (fun _ => m3.symm) (fun _ => by omega)⟩, fun c => rnw5 ⟨c8.1, c8b⟩ (good _ ht (fun _ => by omega) (fun _ => by omega) (fun _ => by omega) (fun _ => by omega) (fun _ => by omega) (fun _ => by omega) (fun _ => by omega) (fun _ => ?_))⟩
    have e8 := g2.1 8 (by omega)
    rw [e8]
    exact cntM_congr _ (fun i hi => ((g2.2.2.2.2.2.1 i (show (i : Int) < iv (gR rv 0 2 + 1) 8 by have hq : 0 ≤ iv (gR rv 0 2 + 1) 8 := c8.1; have hi2 : i < (iv (gR rv 0 2 + 1) 8).toNat := hi; omega)).1).symm)
  · subst e1
    exact isG_congr (iv := iv) (w2_row (by omega)) (hg12 h (fun _ _ c => absurd c ht) (fun _ => ⟨fun _ => ⟨rfl, h.t⟩, fun c => absurd rfl c⟩))
