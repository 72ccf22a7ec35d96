/-! PAIR: grant -/
def cntM (f : Nat → Int) (a : Int) : Nat → Int
  | 0 => 0
  | m + 1 => cntM f a m + (if f m = a then 1 else 0)
theorem cntM_le (f : Nat → Int) (a : Int) : ∀ m, 0 ≤ cntM f a m ∧ cntM f a m ≤ m
  | 0 => ⟨Int.le_refl _, Int.le_refl _⟩
  | m + 1 => by
    have := cntM_le f a m
    unfold cntM
    split <;> omega
theorem cntM_congr {f g : Nat → Int} {a : Int} : ∀ m, (∀ i, i < m → f i = g i) → cntM f a m = cntM g a m
  | 0, _ => rfl
  | m + 1, h => by
    unfold cntM
    rw [cntM_congr m (fun i hi => h i (by omega)), h m (by omega)]
theorem rnw5 {b : Nat} {a : Int} {iv : IV} {rv : RV} {K : Int → Prop} (h8 : 0 ≤ iv (b + 1) 8 ∧ iv (b + 1) 8 ≤ 4) (hK : K (cntM (iv (b + 14)) a (iv (b + 1) 8).toNat)) : wp_X5_renewalsOf b a iv rv K := by
  intro P hP
  have key : ∀ d m : Nat, m + d = (iv (b + 1) 8).toNat → P a (cntM (iv (b + 14)) a m) (m : Int) := by
    intro d
    induction d with
    | zero =>
      intro m hm
      refine hP _ _ _ ⟨fun _ => ?_, fun c => absurd (by omega) c⟩
      rw [show m = (iv (b + 1) 8).toNat by omega]
      exact hK
    | succ d ih =>
      intro m hm
      have hc := cntM_le (iv (b + 14)) a m
      have e1 : w32 ((m : Int) + 1) = ((m + 1 : Nat) : Int) := w32_id (by omega) (by omega)
      refine hP _ _ _ ⟨fun c => by omega, fun c => ⟨⟨by omega, by omega⟩, fun cc => ?_, fun cc => ?_⟩⟩
      · show P a _ (w32 ((m : Int) + 1))
        have h9 := ih (m + 1) (by omega)
        unfold cntM at h9
        rw [if_neg (by rw [Int.toNat_natCast] at cc; exact cc), Int.add_zero] at h9
        rw [e1]
        exact h9
      · show P a _ (w32 ((m : Int) + 1))
        have h9 := ih (m + 1) (by omega)
        unfold cntM at h9
        rw [if_pos (by rw [Int.toNat_natCast] at cc; exact cc)] at h9
        rw [e1, w32_id (by omega) (by omega)]
        exact h9
  exact key (iv (b + 1) 8).toNat 0 (by omega)
theorem rnw12 {a : Int} {iv : IV} {rv : RV} {K : Int → IV → Prop} (g1 : rv 66 3 = some 80) (h8 : 0 ≤ iv 80 8 ∧ iv 80 8 ≤ 4) (hK : K (cntM (iv 93) a (iv 80 8).toNat) iv) : wl_X12_grant_128 a 0 0 iv rv K := by
  intro P hP
  have key : ∀ d m : Nat, m + d = (iv 80 8).toNat → P a (cntM (iv 93) a m) (m : Int) iv := by
    intro d
    induction d with
    | zero =>
      intro m hm
      refine hP _ _ _ _ ⟨g1, fun _ => ?_, fun c => absurd (by omega) c⟩
      rw [show m = (iv 80 8).toNat by omega]
      exact hK
    | succ d ih =>
      intro m hm
      have hc := cntM_le (iv 93) a m
      have e1 : w32 ((m : Int) + 1) = ((m + 1 : Nat) : Int) := w32_id (by omega) (by omega)
      have h9 := ih (m + 1) (by omega)
      unfold cntM at h9
      refine hP _ _ _ _ ⟨g1, fun c => by omega, fun c => ⟨⟨by omega, by omega⟩, fun cc x ex => ?_, fun cc x ex => ?_⟩⟩
      · rw [if_neg (by rw [Int.toNat_natCast] at cc; exact cc)] at h9
        rw [ex, e1, w32_id (by omega) (by omega)]
        exact h9
      · rw [if_pos (by rw [Int.toNat_natCast] at cc; exact cc)] at h9
        rw [ex, e1, w32_id (by omega) (by omega)]
        exact h9
  exact key (iv 80 8).toNat 0 (by omega)
