/-! PAIR: lose -/
theorem pr_lose : Pr_lose Inv := by
  intro n iv rv a b h ha hb
  have hh := h.h
  have good : ∀ x : Int, (0 ≤ x ∧ x ≤ 2) → (b = 0 → x = 1) → (b ≠ 0 → x = 2) → hasI (Rw iv (gR rv 0 2)) a → iv (gR rv 0 2 + 10) a.toNat = 0 → ∀ iv9, iv9 = w2 (w2 iv 0 7 0) (gR rv 0 2 + 10) a.toNat x → wp_X12_lose a b iv9 rv (fun r2 iv2 => r2 = 1 ∧ Inv n iv2 rv) := by
    intro x hx hb1 hb2 ht c' iv9 e9 iv1 e1
    have hlt := hasI_lt ht
    refine isG_congr (iv := iv) (by subst e1; subst e9; rw [w2_row (by omega), w2_row (by omega), w2_row (by omega)]) (hg12 h (fun g1 g2 _ => ?_) (fun c => absurd ht c))
    obtain ⟨-, -, -, -, -, m6, -, -⟩ := g2.2.2.2.2.1 _ ht.2
    have e92 : iv1 92 a.toNat = 0 := by
      subst e1; subst e9
      rw [w2_ne (by omega), w2_ne (by omega), w2_ne (by omega)]
      exact m6.trans c'
    have fin : bd_X12_lose_54 x a iv1 rv (fun r2 iv2 => r2 = 1 ∧ Inv n iv2 rv) := by
      refine ⟨g1, hlt, fun iv2 e2 iva ea ivb eb => ⟨rfl, ?_⟩⟩
      subst eb; subst ea; subst e2; subst e1; subst e9
      exact setL h hx ht
    refine ⟨fun _ => ⟨g1, hlt, fun _ => ⟨fun c => ?_, fun c => ?_⟩, fun cc => absurd (by omega) cc⟩, fun cc => absurd cc (by decide)⟩
    · rw [hb1 c] at fin; exact fin
    · rw [hb2 c] at fin; exact fin
  refine hg5 ha h.2.2.2.2.1 (fun ht => admit1 (by omega) ?_) (fun ht => admit0 ?_ 0)
  · have hlt := hasI_lt ht
    have eq0 : w2 iv 0 7 0 (gR rv 0 2 + 10) a.toNat = iv (gR rv 0 2 + 10) a.toNat := w2_ne (by omega)
    refine ⟨fun _ => ⟨hlt, fun c => ⟨fun cb => ⟨hlt, good 1 (by omega) (fun _ => rfl) (fun z => absurd cb z) ht (eq0 ▸ c)⟩, fun cb => ⟨hlt, good 2 (by omega) (fun z => absurd z cb) (fun _ => rfl) ht (eq0 ▸ c)⟩⟩, fun c iv9 e9 iv1 e1 => ?_⟩, fun c => absurd c (by decide)⟩
    refine isG_congr (iv := iv) (by subst e1; subst e9; rw [w2_row (by omega), w2_row (by omega), w2_row (by omega)]) (hg12 h (fun g1 g2 _ => ?_) (fun c => absurd ht c))
    obtain ⟨-, -, -, -, -, m6, m7, -⟩ := g2.2.2.2.2.1 _ ht.2
    have m7' : 0 ≤ iv (gR rv 0 2 + 10) a.toNat := m7
    rw [eq0] at c
    have e92 : iv1 92 a.toNat = iv (gR rv 0 2 + 10) a.toNat := by
      subst e1; subst e9
      rw [w2_ne (by omega), w2_ne (by omega), w2_ne (by omega)]
      exact m6
    refine ⟨fun _ => ⟨g1, hlt, fun cc => absurd (by omega) c, fun _ iva ea ivb eb => ⟨rfl, ?_⟩⟩, fun cc => absurd cc (by decide)⟩
    subst eb; subst ea; subst e1; subst e9
    refine h.ans (c := 5) (fun k j p1 p2 => ?_) ?_ ?_ w2_eq (by decide)
    · rw [w2_ne (by omega), w2_ne (by omega), w2_ne (by omega), w2_ne (by omega), w2_ne (by omega)]
    · rw [w2_ne (by omega), w2_ne (by omega), w2_ne (by omega), w2_eq]
    · rw [w2_ne (by omega), w2_eq]
  · refine ⟨fun c => absurd rfl c, fun _ iv1 e1 => ?_⟩
    refine isG_congr (iv := iv) (by subst e1; rw [w2_row (by omega), w2_row (by omega), w2_row (by omega)]) (hg12 h (fun _ _ c => absurd c ht) (fun _ => ⟨fun c => absurd rfl c, fun _ iva ea ivb eb => ⟨rfl, ?_⟩⟩))
    subst eb; subst ea; subst e1
    refine h.ans (c := 1) (fun k j p1 p2 => ?_) ?_ ?_ w2_eq (by decide)
    · rw [w2_ne (by omega), w2_ne (by omega), w2_ne (by omega), w2_ne (by omega), w2_ne (by omega)]
    · rw [w2_ne (by omega), w2_ne (by omega), w2_ne (by omega), w2_eq]
    · rw [w2_ne (by omega), w2_eq]
