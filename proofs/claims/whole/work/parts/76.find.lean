/-! PAIR: find -/
theorem isG_congr {a : Int} {iv iv' : IV} {rv : RV} {K : Int → Prop} (he : iv' 80 = iv 80) (h : wp_X12_isGrant a iv rv K) : wp_X12_isGrant a iv' rv K := by
  unfold wp_X12_isGrant wp_X11_isGrant bd_X11_isGrant_12 bd_X11_isGrant_29 bd_X11_isGrant_46 at h ⊢
  rw [he]
  exact h
theorem admit0 {iv : IV} {rv : RV} {K : Int → IV → Prop} (hk : K 0 (w2 (w2 iv 0 7 0) 0 7 1)) (d : Int) : wp_X10_admitted 0 d iv rv K := by
  intro iv1 e1
  refine ⟨fun c => absurd rfl c, fun _ iv5 e5 => ⟨fun _ => ?_, fun c => ?_⟩⟩
  · subst e1; subst e5; exact hk
  · subst e5
    rw [w2_eq] at c
    exact absurd c (by decide)
theorem admit1 {iv : IV} {rv : RV} {K : Int → IV → Prop} {d : Int} (hd : 0 ≤ d ∧ d ≤ 999) (hk : K 1 (w2 iv 0 7 0)) : wp_X10_admitted 1 d iv rv K := by
  intro iv1 e1
  refine ⟨fun _ => ⟨fun c => by omega, fun _ => ⟨fun _ => ⟨fun c => ?_, fun _ => ?_⟩, fun c => by omega⟩⟩, fun c => absurd c (by decide)⟩
  · subst e1
    rw [w2_eq] at c
    exact absurd rfl c
  · subst e1; exact hk
