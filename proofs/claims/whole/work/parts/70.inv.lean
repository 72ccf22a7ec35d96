/-! THE PURE PART: the invariant -/
/-- tape, answers, the latest way: class beside reference -/
def Sc (iv : IV) : Prop :=
  (0 ≤ iv 0 1 ∧ iv 0 1 ≤ 900 ∧ iv 66 6 = iv 0 1 ∧ ∀ j : Nat, (j : Int) < iv 0 1 → iv 67 j = iv 1 j ∧ -128 ≤ iv 1 j ∧ iv 1 j ≤ 127) ∧
  iv 66 1 = iv 0 7 ∧ iv 66 12 = iv 40 6 ∧ (iv 0 7 = 4 → iv 66 2 = iv 40 7) ∧ (iv 0 7 ≠ 4 → iv 66 2 = -1) ∧
  (0 ≤ iv 63 2 ∧ iv 63 2 ≤ 8 ∧ iv 66 27 = iv 63 2 ∧ ∀ j : Nat, (j : Int) < iv 63 2 → iv 73 j = iv 64 j) ∧
  (0 ≤ iv 63 3 ∧ iv 63 3 ≤ 8 ∧ iv 66 29 = iv 63 3 ∧ ∀ j : Nat, (j : Int) < iv 63 3 → iv 74 j = iv 65 j) ∧
  (0 < iv 63 2 → iv 66 28 = iv 63 4) ∧ (iv 63 2 ≤ 0 → iv 66 28 = -1)
/-- the class's realm, row by row -/
abbrev Rw (iv : IV) (h : Nat) : Nat → Nat → Int := fun r i => iv (h + r) i
/-- a grant is told: 0..5 takes, 6..11 frees, 12..15 alikes -/
def hasG (R : Nat → Nat → Int) (g : Nat) : Prop := (g < 6 ∧ (g : Int) < R 1 5) ∨ (6 ≤ g ∧ g < 12 ∧ (g : Int) - 6 < R 1 6) ∨ (12 ≤ g ∧ g < 16 ∧ (g : Int) - 12 < R 1 7)
/-- the reference's realm (at 80) shows what the class's rows show -/
def RM (R : Nat → Nat → Int) (iv : IV) : Prop :=
  (∀ s, s < 12 → iv 80 s = R 1 s) ∧ (iv 80 13 = R 1 3 + R 1 4 ∧ ∀ g : Nat, g < 16 → ¬ hasG R g → iv 90 g = 0 ∧ iv 91 g = 0 ∧ iv 92 g = 0) ∧
  (∀ i : Nat, (i : Int) < R 1 2 → iv 81 i = R 2 i ∧ iv 82 i = R 3 i) ∧
  (∀ i : Nat, (i : Int) < R 1 3 + R 1 4 → iv 83 i = R 4 i ∧ iv 84 i = R 5 i ∧ iv 85 i = R 6 i ∧ iv 86 i = R 7 i) ∧
  (∀ g : Nat, hasG R g → iv 87 g = R 11 g ∧ iv 88 g = R 12 g ∧ iv 89 g = R 13 g ∧ iv 90 g = R 8 g ∧ iv 91 g = R 9 g ∧ iv 92 g = R 10 g ∧ 0 ≤ R 10 g ∧ R 10 g ≤ 2) ∧
  (∀ i : Nat, (i : Int) < R 1 8 → iv 93 i = R 14 i ∧ iv 94 i = R 15 i ∧ iv 95 i = R 16 i) ∧
  (∀ i : Nat, (i : Int) < R 1 10 → (iv 96 i = 0 ∨ iv 96 i = 1) ∧ (iv 97 i = 0 ∨ iv 97 i = 1) ∧ (iv 98 i = 0 ∨ iv 98 i = 1) ∧ (iv 99 i = 0 ∨ iv 99 i = 1) ∧ R 17 i = iv 96 i + 2 * iv 97 i + 4 * (1 - iv 98 i) + 8 * (1 - iv 99 i)) ∧
  (∀ i : Nat, (i : Int) < R 1 11 → ∀ f, f < 7 → iv (100 + f) i = R 18 (7 * i + f))
/-- the class's realm by itself: what is told is within bounds -/
def RW (R : Nat → Nat → Int) : Prop :=
  (∀ i : Nat, (i : Int) < R 1 2 → 0 ≤ R 2 i ∧ R 2 i < R 1 0 ∧ 0 ≤ R 3 i ∧ R 3 i ≤ 999) ∧
  (∀ i : Nat, (i : Int) < R 1 3 + R 1 4 → 0 ≤ R 4 i ∧ R 4 i < R 1 0 ∧ 0 ≤ R 5 i ∧ R 5 i < R 1 0 ∧ R 4 i ≠ R 5 i ∧ 1 ≤ R 6 i ∧ R 6 i ≤ 99 ∧ -1 ≤ R 7 i ∧ R 7 i < R 1 4) ∧
  (∀ g : Nat, hasG R g → 0 ≤ R 8 g ∧ R 8 g ≤ R 9 g ∧ R 9 g ≤ R 8 g + 20 ∧ R 9 g ≤ 999) ∧
  (∀ g : Nat, hasG R g → (6 ≤ g → 0 ≤ R 11 g ∧ R 11 g < R 1 0) ∧ (12 ≤ g → 0 ≤ R 12 g ∧ R 12 g < R 1 0) ∧ (g < 6 → 1 ≤ R 13 g ∧ R 13 g ≤ 99)) ∧
  (∀ g : Nat, g < 16 → ¬ hasG R g → R 8 g = 0 ∧ R 9 g = 0 ∧ R 10 g = 0) ∧
  (∀ i : Nat, (i : Int) < R 1 8 → 0 ≤ R 14 i ∧ R 14 i < 12 ∧ 0 ≤ R 15 i ∧ R 15 i ≤ 2 ∧ 0 ≤ R 16 i ∧ R 16 i ≤ 999) ∧
  (∀ i : Nat, (i : Int) < R 1 11 → 0 ≤ R 18 (7 * i) ∧ R 18 (7 * i) < R 1 2 ∧ 1 ≤ R 18 (7 * i + 3) ∧ R 18 (7 * i + 3) ≤ 99 ∧ 0 ≤ R 18 (7 * i + 4) ∧ R 18 (7 * i + 4) < R 1 0 ∧ 0 ≤ R 18 (7 * i + 5) ∧ R 18 (7 * i + 5) < R 1 0 ∧ 0 ≤ R 18 (7 * i + 6) ∧ R 18 (7 * i + 6) ≤ 999)
def RC (R : Nat → Nat → Int) : Prop := (∀ s, s < 12 → 0 ≤ R 1 s ∧ R 1 s ≤ roomL.getD s 0) ∧ RW R
theorem RC.congr {R R' : Nat → Nat → Int} (h : RC R) (he : ∀ r, r < 19 → ∀ i, R' r i = R r i) : RC R' := by
  unfold RC RW hasG at h ⊢
  simp only [he 1 (by omega), he 2 (by omega), he 3 (by omega), he 4 (by omega), he 5 (by omega), he 6 (by omega), he 7 (by omega), he 8 (by omega), he 9 (by omega), he 10 (by omega), he 11 (by omega), he 12 (by omega), he 13 (by omega), he 14 (by omega), he 15 (by omega), he 16 (by omega), he 17 (by omega), he 18 (by omega)]
  exact h
def Inv (n : Nat) (iv : IV) (rv : RV) : Prop :=
  Lk n rv ∧ (n = 80 ∨ n = 110) ∧ Sc iv ∧ ((rv 0 2 = some 2 ∧ rv 0 3 = some 21) ∨ (rv 0 2 = some 21 ∧ rv 0 3 = some 2)) ∧ RC (Rw iv (gR rv 0 2)) ∧
  (n = 80 → rv 66 3 = none ∧ ∀ s, s < 12 → iv (gR rv 0 2 + 1) s = 0) ∧ (n = 110 → rv 66 3 = some 80 ∧ RM (Rw iv (gR rv 0 2)) iv)
theorem inv_ok : InvOk Inv := fun _ _ _ h => ⟨h.1, h.2.1, h.2.2.1.2.2.2.2.2.2.1.2.1⟩
theorem Inv.h {n : Nat} {iv : IV} {rv : RV} (h : Inv n iv rv) : gR rv 0 2 = 2 ∨ gR rv 0 2 = 21 := by
  rcases h.2.2.2.1 with z | z
  · exact Or.inl (gR_of z.1)
  · exact Or.inr (gR_of z.1)
/-- cells that the invariant does not watch -/
def scr (k j : Nat) : Bool := (k == 66 && !(j == 1 || j == 2 || j == 6 || j == 12 || j == 27 || j == 28 || j == 29)) || (decide (68 ≤ k) && decide (k ≤ 72)) || (decide (75 ≤ k) && decide (k ≤ 79)) || (decide (41 ≤ k) && decide (k ≤ 62)) || (k == 40 && !(j == 6 || j == 7))
theorem Inv.congr {n : Nat} {iv iv' : IV} {rv : RV} (h : Inv n iv rv) (he : ∀ k j, scr k j = false → iv' k j = iv k j) : Inv n iv' rv := by
  have h0 := h.h
  obtain ⟨h1, h2, h3, h4, h5, h6, h7⟩ := h
  have a1 : ∀ k j, k < 40 → iv' k j = iv k j := fun k j hk => he k j (by
    unfold scr
    simp only [Bool.or_eq_false_iff, Bool.and_eq_false_iff, beq_eq_false_iff_ne, decide_eq_false_iff_not]
    refine ⟨⟨⟨⟨Or.inl (by omega), Or.inl (by omega)⟩, Or.inl (by omega)⟩, Or.inl (by omega)⟩, Or.inl (by omega)⟩)
  have a2 : ∀ k j, 80 ≤ k → iv' k j = iv k j := fun k j hk => he k j (by
    unfold scr
    simp only [Bool.or_eq_false_iff, Bool.and_eq_false_iff, beq_eq_false_iff_ne, decide_eq_false_iff_not]
    refine ⟨⟨⟨⟨Or.inl (by omega), Or.inr (by omega)⟩, Or.inr (by omega)⟩, Or.inr (by omega)⟩, Or.inl (by omega)⟩)
  have eR : ∀ r, r < 19 → ∀ i, Rw iv' (gR rv 0 2) r i = Rw iv (gR rv 0 2) r i := fun r hr i => a1 _ i (by omega)
  refine ⟨h1, h2, ?_, h4, ?_, ?_, ?_⟩
  · unfold Sc at h3 ⊢
    rw [he 0 1 rfl, he 66 6 rfl, he 66 1 rfl, he 0 7 rfl, he 66 12 rfl, he 40 6 rfl, he 66 2 rfl, he 40 7 rfl, he 63 2 rfl, he 66 27 rfl, he 63 3 rfl, he 66 29 rfl, he 66 28 rfl, he 63 4 rfl]
    rw [show iv' 67 = iv 67 from funext fun j => he 67 j rfl, show iv' 1 = iv 1 from funext fun j => he 1 j rfl, show iv' 73 = iv 73 from funext fun j => he 73 j rfl, show iv' 64 = iv 64 from funext fun j => he 64 j rfl, show iv' 74 = iv 74 from funext fun j => he 74 j rfl, show iv' 65 = iv 65 from funext fun j => he 65 j rfl]
    exact h3
  · exact h5.congr eR
  · intro hn
    refine ⟨(h6 hn).1, fun s hs => ?_⟩
    rw [a1 _ s (by omega)]
    exact (h6 hn).2 s hs
  · intro hn
    refine ⟨(h7 hn).1, ?_⟩
    have h8 := (h7 hn).2
    unfold RM hasG at h8 ⊢
    simp only [eR 1 (by omega), eR 2 (by omega), eR 3 (by omega), eR 4 (by omega), eR 5 (by omega), eR 6 (by omega), eR 7 (by omega), eR 8 (by omega), eR 9 (by omega), eR 10 (by omega), eR 11 (by omega), eR 12 (by omega), eR 13 (by omega), eR 14 (by omega), eR 15 (by omega), eR 16 (by omega), eR 17 (by omega), eR 18 (by omega)]
    have b : ∀ k, 80 ≤ k → iv' k = iv k := fun k hk => funext fun j => a2 k j hk
    rw [b 80 (by omega), b 81 (by omega), b 82 (by omega), b 83 (by omega), b 84 (by omega), b 85 (by omega), b 86 (by omega), b 87 (by omega), b 88 (by omega), b 89 (by omega), b 90 (by omega), b 91 (by omega), b 92 (by omega), b 93 (by omega), b 94 (by omega), b 95 (by omega), b 96 (by omega), b 97 (by omega), b 98 (by omega), b 99 (by omega)]
    refine ⟨h8.1, h8.2.1, h8.2.2.1, h8.2.2.2.1, h8.2.2.2.2.1, h8.2.2.2.2.2.1, h8.2.2.2.2.2.2.1, fun i hi f hf => ?_⟩
    rw [b (100 + f) (by omega)]
    exact h8.2.2.2.2.2.2.2 i hi f hf
theorem Inv.w {n : Nat} {iv : IV} {rv : RV} (h : Inv n iv rv) {k j : Nat} {x : Int} (hs : scr k j = true) : Inv n (w2 iv k j x) rv := h.congr fun a b hab => w2_ne (by rintro ⟨rfl, rfl⟩; rw [hs] at hab; cases hab)
theorem pr_fault : Pr_fault Inv := by
  intro n iv rv h iv1 e1
  subst e1
  exact ⟨(w2_ne (by omega)).trans h.2.2.1.2.2.1, h.w rfl⟩
theorem pr_trouble : Pr_trouble Inv := by
  intro n iv rv h iv1 e1
  subst e1
  exact ⟨(w2_ne (by omega)).trans h.2.2.1.2.1, h.w rfl⟩
theorem pr_where : Pr_where Inv := by
  intro n iv rv h
  refine ⟨fun h4 => ?_, fun h4 => ?_⟩
  · intro iv1 e1
    subst e1
    exact ⟨(w2_ne (by omega)).trans (h.2.2.1.2.2.2.2.1 h4), h.w rfl⟩
  · intro iv1 e1
    subst e1
    exact ⟨(w2_ne (by omega)).trans (h.2.2.1.2.2.2.1 h4), h.w rfl⟩
