/-! PAIR: date -/
theorem admit2 {iv : IV} {rv : RV} {K : Int → IV → Prop} {d : Int} (hd : ¬ (0 ≤ d ∧ d ≤ 999)) (hk : K 0 (w2 (w2 iv 0 7 0) 0 7 2)) : wp_X10_admitted 1 d iv rv K := by
  intro iv1 e1
  have f : bd_X10_admitted_28 iv1 rv K := by
    intro iv5 e5
    refine ⟨fun _ => ?_, fun c => ?_⟩
    · subst e1; subst e5; exact hk
    · subst e5
      rw [w2_eq] at c
      exact absurd c (by decide)
  exact ⟨fun _ => ⟨fun _ => f, fun _ => ⟨fun c => by omega, fun _ => f⟩⟩, fun c => absurd c (by decide)⟩
theorem setD {n : Nat} {iv : IV} {rv : RV} {a x : Int} (h : Inv n iv rv) (hx : 0 ≤ x ∧ x ≤ 999) (ht : hasI (Rw iv (gR rv 0 2)) a) : Inv n (w2 (w2 (w2 (w2 (w2 (w2 (w2 (w2 iv 0 7 0) (gR rv 0 2 + 8) a.toNat x) (gR rv 0 2 + 9) a.toNat x) 66 0 0) 90 a.toNat x) 91 a.toNat x) 66 1 0) 66 2 (-1)) rv := by
  have hh := h.h
  refine h.set (h.2.2.1.ans (fun k j hkj => ?_) ?_ ?_ w2_eq) (fun r i _ _ _ hr => ?_) (fun k hk _ _ hk2 => ?_) (fun hn g hgg => ?_) (fun g hgg => ?_) (fun g hgg => ?_)
  · rw [w2_ne (by omega), w2_ne (by omega), w2_ne (by omega), w2_ne (by omega), w2_ne (by omega), w2_ne (by omega), w2_ne (by omega), w2_ne (by omega)]
  · rw [w2_ne (by omega), w2_eq, w2_ne (by omega), w2_ne (by omega), w2_ne (by omega), w2_ne (by omega), w2_ne (by omega), w2_ne (by omega), w2_ne (by omega), w2_eq]
  · rw [w2_ne (by omega), w2_ne (by omega), w2_ne (by omega), w2_ne (by omega), w2_ne (by omega), w2_ne (by omega), w2_ne (by omega), w2_eq]
    decide
  · rw [w2_ne (by omega), w2_ne (by omega), w2_ne (by omega), w2_ne (by omega), w2_ne (by omega), w2_ne (by omega), w2_ne (by omega), w2_ne (by omega)]
  · rw [w2_row (by omega), w2_row (by omega), w2_row (by omega), w2_row (by omega), w2_row (by omega), w2_row (by omega), w2_row (by omega), w2_row (by omega)]
  · obtain ⟨-, -, -, n4, n5, n6, n7, n8⟩ := (h.2.2.2.2.2.2 hn).2.2.2.2.2.1 _ hgg
    have n4' : iv 90 g = iv (gR rv 0 2 + 8) g := n4
    have n5' : iv 91 g = iv (gR rv 0 2 + 9) g := n5
    have n6' : iv 92 g = iv (gR rv 0 2 + 10) g := n6
    have n7' : 0 ≤ iv (gR rv 0 2 + 10) g := n7
    have n8' : iv (gR rv 0 2 + 10) g ≤ 2 := n8
    by_cases hga : g = a.toNat
    · subst hga
      refine ⟨?_, ?_, ?_⟩
      · rw [w2_ne (by omega), w2_ne (by omega), w2_ne (by omega), w2_eq, w2_ne (by omega), w2_ne (by omega), w2_ne (by omega), w2_ne (by omega), w2_ne (by omega), w2_ne (by omega), w2_eq]
      · rw [w2_ne (by omega), w2_ne (by omega), w2_eq, w2_ne (by omega), w2_ne (by omega), w2_ne (by omega), w2_ne (by omega), w2_ne (by omega), w2_eq]
      · rw [w2_ne (by omega), w2_ne (by omega), w2_ne (by omega), w2_ne (by omega), w2_ne (by omega), w2_ne (by omega), w2_ne (by omega), w2_ne (by omega), w2_ne (by omega), w2_ne (by omega), w2_ne (by omega), w2_ne (by omega), w2_ne (by omega), w2_ne (by omega), w2_ne (by omega), w2_ne (by omega)]
        exact ⟨n6, n7, n8⟩
    · have f : ∀ k, k ≠ 66 → k ≠ 0 → w2 (w2 (w2 (w2 (w2 (w2 (w2 (w2 iv 0 7 0) (gR rv 0 2 + 8) a.toNat x) (gR rv 0 2 + 9) a.toNat x) 66 0 0) 90 a.toNat x) 91 a.toNat x) 66 1 0) 66 2 (-1) k g = iv k g := fun k p1 p2 => by
        rw [w2_ne (by omega), w2_ne (by omega), w2_ne (by omega), w2_ne (by omega), w2_ne (by omega), w2_ne (by omega), w2_ne (by omega), w2_ne (by omega)]
      rw [f 90 (by omega) (by omega), f 91 (by omega) (by omega), f 92 (by omega) (by omega), f (gR rv 0 2 + 8) (by omega) (by omega), f (gR rv 0 2 + 9) (by omega) (by omega), f (gR rv 0 2 + 10) (by omega) (by omega)]
      exact ⟨n4, n5, n6, n7, n8⟩
  · by_cases hga : g = a.toNat
    · subst hga
      simp (disch := omega) only [w2_eq, w2_ne]
      omega
    · simp (disch := omega) only [w2_ne]
      exact h.2.2.2.2.1.2.2.2.1 g hgg
  · have hga : g ≠ a.toNat := by rintro rfl; exact hgg ht.2
    simp (disch := omega) only [w2_ne]
    exact ⟨trivial, trivial, trivial, trivial, trivial, trivial⟩
theorem pr_date : Pr_date Inv := by
  intro n iv rv a b h ha hb
  have hh := h.h
  refine hg5 ha h.2.2.2.2.1 (fun ht => ?_) (fun ht => admit0 ?_ b)
  · have hlt := hasI_lt ht
    by_cases hd : 0 ≤ b ∧ b ≤ 999
    · refine admit1 hd ⟨fun _ => ⟨hlt, fun iv6 e6 => ⟨hlt, fun iv8 e8 iv1 e1 => ?_⟩⟩, fun c => absurd c (by decide)⟩
      refine isG_congr (iv := iv) (by subst e1; subst e8; subst e6; rw [w2_row (by omega), w2_row (by omega), w2_row (by omega), w2_row (by omega)]) (hg12 h (fun g1 g2 _ => ?_) (fun c => absurd ht c))
      refine ⟨fun _ => ⟨fun c => by omega, fun _ => ⟨fun c => by omega, fun _ => ⟨fun _ => ⟨g1, hlt, fun iv7 e7 => ⟨hlt, fun iv9 e9 iva ea ivb eb => ⟨rfl, ?_⟩⟩⟩, fun c => absurd c (by decide)⟩⟩⟩, fun cc => absurd cc (by decide)⟩
      subst eb; subst ea; subst e9; subst e7; subst e1; subst e8; subst e6
      exact setD h hd ht
    · refine admit2 hd ⟨fun c => absurd rfl c, fun _ iv1 e1 => ?_⟩
      have fin : ∀ iva, iva = w2 iv1 66 1 2 → ∀ ivb, ivb = w2 iva 66 2 (-1) → (0 : Int) = 0 ∧ Inv n ivb rv := by
        intro iva ea ivb eb
        refine ⟨rfl, ?_⟩
        subst eb; subst ea; subst e1
        refine h.ans (c := 2) (fun k j p1 p2 => ?_) ?_ ?_ w2_eq (by decide)
        · rw [w2_ne (by omega), w2_ne (by omega), w2_ne (by omega), w2_ne (by omega), w2_ne (by omega)]
        · rw [w2_ne (by omega), w2_ne (by omega), w2_ne (by omega), w2_eq]
        · rw [w2_ne (by omega), w2_eq]
      refine isG_congr (iv := iv) (by subst e1; rw [w2_row (by omega), w2_row (by omega), w2_row (by omega)]) (hg12 h (fun g1 g2 _ => ?_) (fun c => absurd ht c))
      exact ⟨fun _ => ⟨fun c => ⟨fun z => absurd rfl z, fun _ => fin⟩, fun c1 => ⟨fun c => ⟨fun z => absurd rfl z, fun _ => fin⟩, fun c2 => by omega⟩⟩, fun cc => absurd cc (by decide)⟩
  · refine ⟨fun c => absurd rfl c, fun _ iv1 e1 => ?_⟩
    refine isG_congr (iv := iv) (by subst e1; rw [w2_row (by omega), w2_row (by omega), w2_row (by omega)]) (hg12 h (fun _ _ c => absurd c ht) (fun _ => ⟨fun c => absurd rfl c, fun _ iva ea ivb eb => ⟨rfl, ?_⟩⟩))
    subst eb; subst ea; subst e1
    refine h.ans (c := 1) (fun k j p1 p2 => ?_) ?_ ?_ w2_eq (by decide)
    · rw [w2_ne (by omega), w2_ne (by omega), w2_ne (by omega), w2_ne (by omega), w2_ne (by omega)]
    · rw [w2_ne (by omega), w2_ne (by omega), w2_ne (by omega), w2_eq]
    · rw [w2_ne (by omega), w2_eq]
