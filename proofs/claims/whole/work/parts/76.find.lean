/-! PAIR: find -/
theorem isG_congr {a : Int} {iv iv' : IV} {rv : RV} {K : Int → Prop} (he : iv' 80 = iv 80) (h : wp_X12_isGrant a iv rv K) : wp_X12_isGrant a iv' rv K := by
  unfold wp_X12_isGrant wp_X11_isGrant bd_X11_isGrant_12 bd_X11_isGrant_29 bd_X11_isGrant_46 at h ⊢
  rw [he]
  exact h
theorem admit0 {iv : IV} {rv : RV} {K : Int → IV → Prop} (hk : K 0 (w2 (w2 iv 0 7 0) 0 7 1)) (d : Int) : wp_X10_admitted 0 d iv rv K := by
  intro iv1 e1
  refine ⟨fun c => absurd rfl c, fun _ iv5 e5 => ⟨fun _ => ?_, fun c => ?_⟩⟩
  · subst e1; subst e5; exact hk
  · subst e5
    rw [w2_eq] at c
    exact absurd c (by decide)
theorem admit1 {iv : IV} {rv : RV} {K : Int → IV → Prop} {d : Int} (hd : 0 ≤ d ∧ d ≤ 999) (hk : K 1 (w2 iv 0 7 0)) : wp_X10_admitted 1 d iv rv K := by
  intro iv1 e1
  refine ⟨fun _ => ⟨fun c => by omega, fun _ => ⟨fun _ => ⟨fun c => ?_, fun _ => ?_⟩, fun c => by omega⟩⟩, fun c => absurd c (by decide)⟩
  · subst e1
    rw [w2_eq] at c
    exact absurd rfl c
  · subst e1; exact hk
/-- only the answer changes -/
theorem Inv.ans {n : Nat} {iv iv' : IV} {rv : RV} {c : Int} (h : Inv n iv rv) (he : ∀ k j, ¬ (k = 0 ∧ j = 7) → ¬ (k = 66 ∧ (j = 0 ∨ j = 1 ∨ j = 2)) → iv' k j = iv k j) (h7 : iv' 0 7 = c) (h1 : iv' 66 1 = c) (h2 : iv' 66 2 = -1) (hc : c ≠ 4) : Inv n iv' rv := by
  have hh := h.h
  have f8 : ∀ g, iv' (gR rv 0 2 + 8) g = iv (gR rv 0 2 + 8) g := fun g => he _ _ (by omega) (by omega)
  have f9 : ∀ g, iv' (gR rv 0 2 + 9) g = iv (gR rv 0 2 + 9) g := fun g => he _ _ (by omega) (by omega)
  have f10 : ∀ g, iv' (gR rv 0 2 + 10) g = iv (gR rv 0 2 + 10) g := fun g => he _ _ (by omega) (by omega)
  have f90 : ∀ g, iv' 90 g = iv 90 g := fun g => he _ _ (by omega) (by omega)
  have f91 : ∀ g, iv' 91 g = iv 91 g := fun g => he _ _ (by omega) (by omega)
  have f92 : ∀ g, iv' 92 g = iv 92 g := fun g => he _ _ (by omega) (by omega)
  refine h.set (h.2.2.1.ans (fun k j hkj => he k j (by omega) (by omega)) (by rw [h1, h7]) (by rw [h7]; exact hc) h2) (fun r i _ _ _ _ => he _ _ (by omega) (by omega)) (fun k hk _ _ _ => funext fun j => he k j (by omega) (by omega)) (fun hn g hg => ?_) (fun g hg => ?_) (fun g _ => ⟨f8 g, f9 g, f10 g, f90 g, f91 g, f92 g⟩)
  · obtain ⟨-, -, -, m4, m5, m6, m7, m8⟩ := (h.2.2.2.2.2.2 hn).2.2.2.2.2.1 g hg
    rw [f90, f91, f92, f8, f9, f10]
    exact ⟨m4, m5, m6, m7, m8⟩
  · rw [f8, f9]
    exact h.2.2.2.2.1.2.2.2.1 g hg
