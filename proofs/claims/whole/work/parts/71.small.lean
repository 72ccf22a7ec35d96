/-! PAIRS: length, stop, size, cart -/
theorem Inv.t {n : Nat} {iv : IV} {rv : RV} (h : Inv n iv rv) {x : Int} : Inv n (w2 iv 66 0 x) rv := h.w rfl
theorem pr_length : Pr_length Inv := by
  intro n iv rv h
  refine ⟨fun h4 => ?_, fun h4 => ?_⟩
  · intro iv1 e1
    subst e1
    exact ⟨(w2_ne (by omega)).trans (h.2.2.1.2.2.2.2.2.2.2.2 h4), h.t⟩
  · intro iv1 e1
    subst e1
    exact ⟨(w2_ne (by omega)).trans (h.2.2.1.2.2.2.2.2.2.2.1 (by omega)), h.t⟩
theorem pr_stop : Pr_stop Inv := by
  intro n iv rv a h ha
  obtain ⟨s1, s2, s3, s4⟩ := h.2.2.1.2.2.2.2.2.1
  have e27 : ∀ x, w2 iv 66 0 x 66 27 = iv 63 2 := fun x => (w2_ne (by omega)).trans s3
  refine ⟨fun c1 iv1 e1 => ?_, fun c1 => ⟨fun c2 iv1 e1 => ?_, fun c2 => ⟨⟨by omega, by omega⟩, fun iv1 e1 => ?_⟩⟩⟩
  · subst e1
    exact ⟨fun _ => ⟨rfl, h.t⟩, fun c => absurd c1 c⟩
  · subst e1
    exact ⟨fun c => absurd c c1, fun _ => ⟨fun _ => ⟨rfl, h.t⟩, fun c => absurd (by rw [e27]; exact c2) c⟩⟩
  · subst e1
    refine ⟨fun c => absurd c c1, fun _ => ⟨fun c => absurd (by rw [e27] at c; exact c) c2, fun _ => ⟨⟨by omega, by omega⟩, ?_, h.t⟩⟩⟩
    rw [w2_ne (by omega)]
    exact s4 a.toNat (by omega)
/-- the reference's realm, where there is one -/
theorem Inv.some {n : Nat} {iv : IV} {rv : RV} (h : Inv n iv rv) (h3 : rv 66 3 ≠ none) : n = 110 ∧ rv 66 3 = Option.some 80 ∧ RM (Rw iv (gR rv 0 2)) iv := by
  rcases h.2.1 with rfl | rfl
  · exact absurd (h.2.2.2.2.2.1 rfl).1 h3
  · exact ⟨rfl, h.2.2.2.2.2.2 rfl⟩
theorem Inv.none {n : Nat} {iv : IV} {rv : RV} (h : Inv n iv rv) (h3 : rv 66 3 = Option.none) : ∀ s, s < 12 → iv (gR rv 0 2 + 1) s = 0 := by
  rcases h.2.1 with rfl | rfl
  · exact (h.2.2.2.2.2.1 rfl).2
  · rw [(h.2.2.2.2.2.2 rfl).1] at h3
    cases h3
theorem Inv.z80 {n : Nat} {iv : IV} {rv : RV} (h : Inv n iv rv) : ∀ z, rv 66 3 = Option.some z → z = 80 := by
  intro z hz
  have := (h.some (by rw [hz]; exact fun c => by cases c)).2.1
  rw [hz] at this
  cases this
  rfl
theorem cnt_le : ∀ k, k < 11 → 0 ≤ cntL.getD k 0 ∧ cntL.getD k 0 < 12 := by decide
theorem pr_size : Pr_size Inv := by
  intro n iv rv a h ha
  have fin : ∀ (x : Int) (r : Int), r = r ∧ Inv n (w2 iv 66 0 x) rv := fun x r => ⟨rfl, h.t⟩
  refine ⟨fun c0 => ⟨fun c1 => ?_, fun c1 => ⟨fun c2 => ?_, fun c2 => ?_⟩⟩, fun c0 => ?_⟩
  · intro iv1 e1
    subst e1
    exact ⟨fun _ => ⟨fun _ => ⟨fun c => absurd rfl c, fun _ => ⟨rfl, h.t⟩⟩, fun c => absurd c1 c⟩, fun c => absurd c c0⟩
  · intro iv1 e1
    subst e1
    exact ⟨fun _ => ⟨fun c => absurd c c1, fun _ => ⟨fun _ => ⟨fun c => absurd rfl c, fun _ => ⟨rfl, h.t⟩⟩, fun c => absurd (by omega) c⟩⟩, fun c => absurd c c0⟩
  · refine ⟨⟨by omega, by omega⟩, cnt_le a.toNat (by omega), fun iv1 e1 => ?_⟩
    subst e1
    refine ⟨fun _ => ⟨fun c => absurd c c1, fun _ => ⟨fun c => by omega, fun _ => ⟨fun _ => ⟨h.z80, fun hn => ?_, fun hn => ?_⟩, fun c => by omega⟩⟩⟩, fun c => absurd c c0⟩
    · obtain ⟨-, g1, g2⟩ := h.some hn
      have g3 : ∀ s x, s < 12 → w2 iv 66 0 x 80 s = iv (gR rv 0 2 + 1) s := fun s x hs => (w2_ne (by omega)).trans (g2.1 s hs)
      have hk : a = 0 ∨ a = 1 ∨ a = 2 ∨ a = 3 ∨ a = 4 ∨ a = 5 ∨ a = 6 ∨ a = 7 ∨ a = 8 ∨ a = 9 ∨ a = 10 := by omega
      refine ⟨fun c => ⟨g1, ?_, h.t⟩, fun c => ⟨g1, ?_, h.t⟩, fun c => ⟨g1, ?_, h.t⟩, fun c => ⟨g1, ?_, h.t⟩, fun c => ⟨g1, ?_, h.t⟩, fun c => ⟨g1, ?_, h.t⟩, fun c => ⟨g1, ?_, h.t⟩, fun c => ⟨g1, ?_, h.t⟩, fun c => ⟨g1, ?_, h.t⟩, fun c => ⟨g1, ?_, h.t⟩, fun c => ⟨g1, ?_, h.t⟩⟩
      · obtain rfl : a = 10 := by omega
        exact g3 11 0 (by omega)
      all_goals (subst c; exact g3 _ 0 (by decide))
    · refine ⟨?_, h.t⟩
      have h0 := h.none hn (cntL.getD a.toNat 0).toNat (by have := cnt_le a.toNat (by omega); omega)
      exact h0.symm
  · intro iv1 e1
    subst e1
    exact ⟨fun c => absurd c0 c, fun _ => ⟨(w2_ne (by omega)).trans h.2.2.1.1.2.2.1, h.t⟩⟩
