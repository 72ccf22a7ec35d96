/-! PAIR: find, proved -/
theorem setL {n : Nat} {iv : IV} {rv : RV} {a x : Int} (h : Inv n iv rv) (hx : 0 ≤ x ∧ x ≤ 2) (ht : hasI (Rw iv (gR rv 0 2)) a) : Inv n (w2 (w2 (w2 (w2 (w2 (w2 iv 0 7 0) (gR rv 0 2 + 10) a.toNat x) 66 0 0) 92 a.toNat x) 66 1 0) 66 2 (-1)) rv := by
  have hh := h.h
  refine h.set (h.2.2.1.ans (fun k j hkj => ?_) ?_ ?_ w2_eq) (fun r i _ _ _ hr => ?_) (fun k hk _ _ hk2 => ?_) (fun hn g hgg => ?_) (fun g hgg => ?_) (fun g hgg => ?_)
  · rw [w2_ne (by omega), w2_ne (by omega), w2_ne (by omega), w2_ne (by omega), w2_ne (by omega), w2_ne (by omega)]
  · rw [w2_ne (by omega), w2_eq, w2_ne (by omega), w2_ne (by omega), w2_ne (by omega), w2_ne (by omega), w2_ne (by omega), w2_eq]
  · rw [w2_ne (by omega), w2_ne (by omega), w2_ne (by omega), w2_ne (by omega), w2_ne (by omega), w2_eq]
    decide
  · rw [w2_ne (by omega), w2_ne (by omega), w2_ne (by omega), w2_ne (by omega), w2_ne (by omega), w2_ne (by omega)]
  · rw [w2_row (by omega), w2_row (by omega), w2_row (by omega), w2_row (by omega), w2_row (by omega), w2_row (by omega)]
  · obtain ⟨-, -, -, n4, n5, n6, n7, n8⟩ := (h.2.2.2.2.2.2 hn).2.2.2.2.2.1 _ hgg
    have f : ∀ k j, k ≠ 66 → k ≠ 92 → k ≠ gR rv 0 2 + 10 → k ≠ 0 → w2 (w2 (w2 (w2 (w2 (w2 iv 0 7 0) (gR rv 0 2 + 10) a.toNat x) 66 0 0) 92 a.toNat x) 66 1 0) 66 2 (-1) k j = iv k j := fun k j p1 p2 p3 p4 => by
      rw [w2_ne (by omega), w2_ne (by omega), w2_ne (by omega), w2_ne (by omega), w2_ne (by omega), w2_ne (by omega)]
    refine ⟨by rw [f _ _ (by omega) (by omega) (by omega) (by omega), f _ _ (by omega) (by omega) (by omega) (by omega)]; exact n4, by rw [f _ _ (by omega) (by omega) (by omega) (by omega), f _ _ (by omega) (by omega) (by omega) (by omega)]; exact n5, ?_⟩
    by_cases hga : g = a.toNat
    · subst hga
      rw [w2_ne (by omega), w2_ne (by omega), w2_eq, w2_ne (by omega), w2_ne (by omega), w2_ne (by omega), w2_ne (by omega), w2_eq]
      exact ⟨rfl, hx⟩
    · rw [w2_ne (by omega), w2_ne (by omega), w2_ne (by omega), w2_ne (by omega), w2_ne (by omega), w2_ne (by omega), w2_ne (by omega), w2_ne (by omega), w2_ne (by omega), w2_ne (by omega), w2_ne (by omega), w2_ne (by omega)]
      exact ⟨n6, n7, n8⟩
  · simp (disch := omega) only [w2_ne]
    exact h.2.2.2.2.1.2.2.2.1 g hgg
  · have hga : g ≠ a.toNat := by rintro rfl; exact hgg ht.2
    simp (disch := omega) only [w2_ne]
    exact ⟨trivial, trivial, trivial, trivial, trivial, trivial⟩
theorem pr_find : Pr_find Inv := by
  intro n iv rv a h ha
  have hh := h.h
  refine hg5 ha h.2.2.2.2.1 (fun ht => admit1 (by omega) ?_) (fun ht => admit0 ?_ 0)
  · have hlt := hasI_lt ht
    have hg : hasG (Rw iv (gR rv 0 2)) a.toNat := ht.2
    refine ⟨fun _ => ⟨hlt, fun c => ⟨hlt, fun iv8 e8 iv1 e1 => ?_⟩, fun c iv9 e9 iv1 e1 => ?_⟩, fun c => absurd c (by decide)⟩
    · refine isG_congr (iv := iv) (by subst e1; subst e8; rw [w2_row (by omega), w2_row (by omega), w2_row (by omega)]) (hg12 h (fun g1 g2 _ => ?_) (fun c => absurd ht c))
      obtain ⟨-, -, -, -, -, m6, -, -⟩ := g2.2.2.2.2.1 _ hg
      have e92 : iv1 92 a.toNat = iv (gR rv 0 2 + 10) a.toNat := by
        subst e1; subst e8
        rw [w2_ne (by omega), w2_ne (by omega), w2_ne (by omega)]
        exact m6
      have c' : iv (gR rv 0 2 + 10) a.toNat ≠ 0 := by
        rw [w2_ne (by omega)] at c
        exact c
      refine ⟨fun _ => ⟨g1, hlt, fun _ => ⟨hlt, fun iv7 e7 iva ea ivb eb => ⟨rfl, ?_⟩⟩, fun cc => absurd (e92 ▸ cc) c'⟩, fun cc => absurd cc (by decide)⟩
      subst eb; subst ea; subst e7; subst e1; subst e8
      exact setL h (by omega) ht
    · refine isG_congr (iv := iv) (by subst e1; subst e9; rw [w2_row (by omega), w2_row (by omega), w2_row (by omega)]) (hg12 h (fun g1 g2 _ => ?_) (fun c => absurd ht c))
      obtain ⟨-, -, -, -, -, m6, -, -⟩ := g2.2.2.2.2.1 _ hg
      have c' : iv (gR rv 0 2 + 10) a.toNat = 0 := by
        rw [w2_ne (by omega)] at c
        exact c
      have e92 : iv1 92 a.toNat = 0 := by
        subst e1; subst e9
        rw [w2_ne (by omega), w2_ne (by omega), w2_ne (by omega)]
        exact m6.trans c'
      refine ⟨fun _ => ⟨g1, hlt, fun cc => absurd e92 cc, fun _ iva ea ivb eb => ⟨rfl, ?_⟩⟩, fun cc => absurd cc (by decide)⟩
      subst eb; subst ea; subst e1; subst e9
      refine h.ans (c := 5) (fun k j p1 p2 => ?_) ?_ ?_ w2_eq (by decide)
      · rw [w2_ne (by omega), w2_ne (by omega), w2_ne (by omega), w2_ne (by omega), w2_ne (by omega)]
      · rw [w2_ne (by omega), w2_ne (by omega), w2_ne (by omega), w2_eq]
      · rw [w2_ne (by omega), w2_eq]
  · refine ⟨fun c => absurd rfl c, fun _ iv1 e1 => ?_⟩
    refine isG_congr (iv := iv) (by subst e1; rw [w2_row (by omega), w2_row (by omega), w2_row (by omega)]) (hg12 h (fun _ _ c => absurd c ht) (fun _ => ⟨fun c => absurd rfl c, fun _ iva ea ivb eb => ⟨rfl, ?_⟩⟩))
    subst eb; subst ea; subst e1
    refine h.ans (c := 1) (fun k j p1 p2 => ?_) ?_ ?_ w2_eq (by decide)
    · rw [w2_ne (by omega), w2_ne (by omega), w2_ne (by omega), w2_ne (by omega), w2_ne (by omega)]
    · rw [w2_ne (by omega), w2_ne (by omega), w2_ne (by omega), w2_eq]
    · rw [w2_ne (by omega), w2_eq]
