/-! WAYS: places and links, the pure picture -/
abbrev jn (a b : Nat → Nat) (e p q : Nat) : Prop := (a e = p ∧ b e = q) ∨ (a e = q ∧ b e = p)
/-- a walk of at most k links from p to g that weighs x -/
def Wk (a b : Nat → Nat) (w : F1) (L g : Nat) : Nat → Nat → Int → Prop
  | 0, p, x => p = g ∧ x = 0
  | k + 1, p, x => (p = g ∧ x = 0) ∨ ∃ e q : Nat, ∃ z : Int, e < L ∧ jn a b e p q ∧ Wk a b w L g k q z ∧ x = w e + z
/-- what stands at every moment of measuring -/
def RI (a b : Nat → Nat) (w : F1) (L g : Nat) (r : F1) : Prop :=
  r g = 0 ∧ (∀ p, p < 8 → 0 ≤ r p ∧ r p ≤ 1000000000) ∧ (∀ p, p < 8 → p ≠ g → r p < 1000000000 → ∃ e q : Nat, e < L ∧ q < 8 ∧ jn a b e p q ∧ r q + w e ≤ r p)
def Lks (a b : Nat → Nat) (w : F1) (L : Nat) : Prop := ∀ e, e < L → a e < 8 ∧ b e < 8 ∧ 1 ≤ w e ∧ w e ≤ 58806099
theorem RI.lower {a b : Nat → Nat} {w : F1} {L g : Nat} {r : F1} (h : RI a b w L g r) (hL : Lks a b w L) {e p q : Nat} (he : e < L) (hj : jn a b e p q) (hlt : r q + w e < r p) : RI a b w L g (up1 r p (r q + w e)) := by
  obtain ⟨h1, h2, h3⟩ := h
  obtain ⟨l1, l2, l3, l4⟩ := hL e he
  have hp : p < 8 := by rcases hj with ⟨x, y⟩ | ⟨x, y⟩ <;> omega
  have hq : q < 8 := by rcases hj with ⟨x, y⟩ | ⟨x, y⟩ <;> omega
  have q0 := h2 q hq
  have p0 := h2 p hp
  have hg : p ≠ g := fun e => by rw [e, h1] at hlt; omega
  have hqp : q ≠ p := fun e => by rw [e] at hlt; omega
  refine ⟨by rw [up1_ne (fun e => hg e.symm)]; exact h1, fun v hv => ?_, fun v hv hvg hvl => ?_⟩
  · by_cases z : v = p
    · rw [z, up1_eq]; omega
    · rw [up1_ne z]; exact h2 v hv
  · by_cases z : v = p
    · rw [z, up1_eq]
      exact ⟨e, q, he, hq, hj, by rw [up1_ne hqp]; omega⟩
    · rw [up1_ne z] at hvl ⊢
      obtain ⟨e', q', x1, x2, x3, x4⟩ := h3 v hv hvg hvl
      refine ⟨e', q', x1, x2, x3, ?_⟩
      by_cases y : q' = p
      · rw [y, up1_eq]; rw [y] at x4; omega
      · rw [up1_ne y]; exact x4
def ck (r : F1) (x : Int) : Nat → Nat
  | 0 => 0
  | n + 1 => ck r x n + (if r n < x then 1 else 0)
theorem ck_le {r : F1} {x y : Int} (h : x ≤ y) : ∀ n, ck r x n ≤ ck r y n
  | 0 => Nat.le_refl _
  | n + 1 => by
    have := ck_le (r := r) h n
    unfold ck
    by_cases z : r n < x
    · rw [if_pos z, if_pos (by omega)]; omega
    · rw [if_neg z]; omega
theorem ck_lt {r : F1} {q : Nat} {y : Int} (h : r q < y) : ∀ n, q < n → ck r (r q) n < ck r y n
  | 0, hq => by omega
  | n + 1, hq => by
    have := ck_le (r := r) (show r q ≤ y by omega) n
    unfold ck
    by_cases z : q = n
    · subst z
      rw [if_neg (by omega), if_pos h]; omega
    · have := ck_lt h n (by omega)
      by_cases z2 : r n < r q
      · rw [if_pos z2, if_pos (by omega)]; omega
      · rw [if_neg z2]; omega
theorem ck_n {r : F1} {x : Int} : ∀ n, ck r x n ≤ n
  | 0 => Nat.le_refl _
  | n + 1 => by
    have := ck_n (r := r) (x := x) n
    unfold ck
    split <;> omega
theorem ck_self {r : F1} {p : Nat} : ∀ n, p < n → ck r (r p) n < n
  | 0, h => by omega
  | n + 1, h => by
    unfold ck
    by_cases z : p = n
    · subst z
      have := ck_n (r := r) (x := r p) p
      rw [if_neg (by omega)]; omega
    · have := ck_self (r := r) (p := p) n (by omega)
      split <;> omega
theorem RI.walk {a b : Nat → Nat} {w : F1} {L g : Nat} {r : F1} (h : RI a b w L g r) (hL : Lks a b w L) : ∀ (k p : Nat), p < 8 → r p < 1000000000 → ck r (r p) 8 ≤ k → ∃ x, x ≤ r p ∧ Wk a b w L g k p x
  | 0, p, hp, hf, hk => by
    by_cases z : p = g
    · exact ⟨0, by rw [z, h.1]; exact Int.le_refl _, z, rfl⟩
    · obtain ⟨e, q, x1, x2, x3, x4⟩ := h.2.2 p hp z hf
      have := (hL e x1).2.2.1
      have := ck_lt (r := r) (q := q) (y := r p) (by omega) 8 x2
      omega
  | k + 1, p, hp, hf, hk => by
    by_cases z : p = g
    · exact ⟨0, by rw [z, h.1]; exact Int.le_refl _, Or.inl ⟨z, rfl⟩⟩
    · obtain ⟨e, q, x1, x2, x3, x4⟩ := h.2.2 p hp z hf
      have l3 := (hL e x1).2.2.1
      have := ck_lt (r := r) (q := q) (y := r p) (by omega) 8 x2
      obtain ⟨y, y1, y2⟩ := RI.walk h hL k q x2 (by omega) (by omega)
      exact ⟨w e + y, by omega, Or.inr ⟨e, q, y, x1, x3, y2, rfl⟩⟩
theorem RI.walk7 {a b : Nat → Nat} {w : F1} {L g : Nat} {r : F1} (h : RI a b w L g r) (hL : Lks a b w L) {p : Nat} (hp : p < 8) (hf : r p < 1000000000) : ∃ x, x ≤ r p ∧ Wk a b w L g 7 p x := by
  have := ck_self (r := r) (p := p) 8 hp
  exact h.walk hL 7 p hp hf (by omega)
/-- no link brings nearer -/
def Fix (a b : Nat → Nat) (w : F1) (m : Nat) (r : F1) : Prop := ∀ e, e < m → r (a e) ≤ r (b e) + w e ∧ r (b e) ≤ r (a e) + w e
def Up (a b : Nat → Nat) (w : F1) (L g k : Nat) (r : F1) : Prop := ∀ p x, p < 8 → Wk a b w L g k p x → r p ≤ x
theorem Fix.j {a b : Nat → Nat} {w : F1} {m : Nat} {r : F1} (h : Fix a b w m r) {e p q : Nat} (he : e < m) (hj : jn a b e p q) : r p ≤ r q + w e := by
  have := h e he
  rcases hj with ⟨x, y⟩ | ⟨x, y⟩
  · rw [x, y] at this; exact this.1
  · rw [x, y] at this; exact this.2
theorem Fix.up {a b : Nat → Nat} {w : F1} {L g : Nat} {r : F1} (h : Fix a b w L r) (hg : r g = 0) (hL : Lks a b w L) : ∀ k, Up a b w L g k r
  | 0, p, x, hp, hw => by rw [hw.1, hw.2, hg]; exact Int.le_refl _
  | k + 1, p, x, hp, hw => by
    rcases hw with hw | ⟨e, q, z, x1, x2, x3, x4⟩
    · rw [hw.1, hw.2, hg]; exact Int.le_refl _
    · have hq : q < 8 := by have := hL e x1; rcases x2 with ⟨x, y⟩ | ⟨x, y⟩ <;> omega
      have i1 := Fix.up h hg hL k q z hq x3
      have i2 := h.j x1 x2
      omega
theorem up_fix {a b : Nat → Nat} {w : F1} {L g : Nat} {r : F1} (h : RI a b w L g r) (hL : Lks a b w L) (hU : Up a b w L g 8 r) : Fix a b w L r := by
  have key : ∀ e p q, e < L → jn a b e p q → r p ≤ r q + w e := by
    intro e p q he hj
    obtain ⟨l1, l2, l3, l4⟩ := hL e he
    have hp : p < 8 := by rcases hj with ⟨x, y⟩ | ⟨x, y⟩ <;> omega
    have hq : q < 8 := by rcases hj with ⟨x, y⟩ | ⟨x, y⟩ <;> omega
    by_cases z : r q < 1000000000
    · obtain ⟨y, y1, y2⟩ := h.walk7 hL hq z
      have := hU p (w e + y) hp (Or.inr ⟨e, q, y, he, hj, y2, rfl⟩)
      omega
    · have := (h.2.1 p hp).2
      omega
  exact fun e he => ⟨key e _ _ he (Or.inl ⟨rfl, rfl⟩), key e _ _ he (Or.inr ⟨rfl, rfl⟩)⟩
theorem Wk.le {a b : Nat → Nat} {w : F1} {L g : Nat} (hL : Lks a b w L) : ∀ (k p : Nat) (x : Int), Wk a b w L g k p x → x ≤ 58806099 * k
  | 0, p, x, h => by rw [h.2]; exact Int.le_refl _
  | k + 1, p, x, h => by
    rcases h with h | ⟨e, q, z, x1, x2, x3, x4⟩
    · rw [h.2]; omega
    · have := Wk.le hL k q z x3
      have := (hL e x1).2.2.2
      omega
/-- what measuring leaves -/
def Msd (a b : Nat → Nat) (w : F1) (L g : Nat) (r : F1) : Prop := RI a b w L g r ∧ Fix a b w L r
theorem Msd.lt {a b : Nat → Nat} {w : F1} {L g : Nat} {r : F1} (h : Msd a b w L g r) (hL : Lks a b w L) {p : Nat} (hp : p < 8) (hf : r p < 1000000000) : r p ≤ 411642693 := by
  obtain ⟨x, x1, x2⟩ := h.1.walk7 hL hp hf
  have u := h.2.up h.1.1 hL 7 p x hp x2
  have := Wk.le hL 7 p x x2
  omega
theorem Msd.tight {a b : Nat → Nat} {w : F1} {L g : Nat} {r : F1} (h : Msd a b w L g r) {p : Nat} (hp : p < 8) (hg : p ≠ g) (hf : r p < 1000000000) : ∃ e q : Nat, e < L ∧ q < 8 ∧ jn a b e p q ∧ r q + w e = r p := by
  obtain ⟨e, q, x1, x2, x3, x4⟩ := h.1.2.2 p hp hg hf
  have := h.2.j x1 x3
  exact ⟨e, q, x1, x2, x3, by omega⟩
theorem Msd.far {a b : Nat → Nat} {w : F1} {L g : Nat} {r : F1} (h : Msd a b w L g r) (hL : Lks a b w L) {e p q : Nat} (he : e < L) (hj : jn a b e p q) (hf : r p = 1000000000) : r q = 1000000000 := by
  obtain ⟨l1, l2, l3, l4⟩ := hL e he
  have hq : q < 8 := by rcases hj with ⟨x, y⟩ | ⟨x, y⟩ <;> omega
  have i := h.2.j he hj
  have b := (h.1.2.1 q hq).2
  by_cases z : r q < 1000000000
  · have := h.lt hL hq z
    omega
  · omega
/-! the first of the lightest links between two places -/
def bl (a b : Nat → Nat) (w : F1) (p q : Nat) : Nat → Int
  | 0 => -1
  | m + 1 => if jn a b m p q ∧ (bl a b w p q m = -1 ∨ w m < w (bl a b w p q m).toNat) then (m : Int) else bl a b w p q m
def BlS (a b : Nat → Nat) (w : F1) (p q m : Nat) (x : Int) : Prop := (x = -1 ∧ ∀ e, e < m → ¬ jn a b e p q) ∨ (∃ e : Nat, x = (e : Int) ∧ e < m ∧ jn a b e p q ∧ (∀ e', e' < m → jn a b e' p q → w e ≤ w e') ∧ ∀ e', e' < e → jn a b e' p q → w e < w e')
theorem bl_spec {a b : Nat → Nat} {w : F1} {p q : Nat} : ∀ m, BlS a b w p q m (bl a b w p q m)
  | 0 => Or.inl ⟨rfl, fun e he => by omega⟩
  | m + 1 => by
    have ih := bl_spec (a := a) (b := b) (w := w) (p := p) (q := q) m
    unfold bl
    by_cases c : jn a b m p q ∧ (bl a b w p q m = -1 ∨ w m < w (bl a b w p q m).toNat)
    · rw [if_pos c]
      refine Or.inr ⟨m, rfl, by omega, c.1, fun e' he' hj => ?_, fun e' he' hj => ?_⟩
      · by_cases z : e' = m
        · rw [z]; exact Int.le_refl _
        · rcases ih with ⟨i1, i2⟩ | ⟨e, i1, i2, i3, i4, i5⟩
          · exact absurd hj (i2 e' (by omega))
          · have h1 := i4 e' (by omega) hj
            have h2 := c.2
            rw [i1] at h2
            have h3 : w m < w e := by
              rcases h2 with h2 | h2
              · omega
              · exact h2
            omega
      · rcases ih with ⟨i1, i2⟩ | ⟨e, i1, i2, i3, i4, i5⟩
        · exact absurd hj (i2 e' (by omega))
        · have h1 := i4 e' (by omega) hj
          have h2 := c.2
          rw [i1] at h2
          have h3 : w m < w e := by
            rcases h2 with h2 | h2
            · omega
            · exact h2
          omega
    · rw [if_neg c]
      rcases ih with ⟨i1, i2⟩ | ⟨e, i1, i2, i3, i4, i5⟩
      · refine Or.inl ⟨i1, fun e he hj => ?_⟩
        by_cases z : e = m
        · rw [z] at hj; exact c ⟨hj, Or.inl i1⟩
        · exact i2 e (by omega) hj
      · refine Or.inr ⟨e, i1, by omega, i3, fun e' he' hj => ?_, i5⟩
        by_cases z : e' = m
        · rw [z] at hj ⊢
          have : ¬ w m < w e := fun y => c ⟨hj, Or.inr (by rw [i1]; exact y)⟩
          omega
        · exact i4 e' (by omega) hj
theorem BlS.uniq {a b : Nat → Nat} {w : F1} {p q m : Nat} {x y : Int} (h : BlS a b w p q m x) (h' : BlS a b w p q m y) : x = y := by
  rcases h with ⟨i1, i2⟩ | ⟨e, i1, i2, i3, i4, i5⟩
  · rcases h' with ⟨j1, j2⟩ | ⟨e', j1, j2, j3, j4, j5⟩
    · rw [i1, j1]
    · exact absurd j3 (i2 e' j2)
  · rcases h' with ⟨j1, j2⟩ | ⟨e', j1, j2, j3, j4, j5⟩
    · exact absurd i3 (j2 e i2)
    · have a1 := i4 e' j2 j3
      have a2 := j4 e i2 i3
      have : e = e' := by
        by_cases z : e < e'
        · have := j5 e z i3; omega
        · by_cases z2 : e' < e
          · have := i5 e' z2 j3; omega
          · omega
      rw [i1, j1, this]
theorem BlS.sym {a b : Nat → Nat} {w : F1} {p q m : Nat} {x : Int} (h : BlS a b w p q m x) : BlS a b w q p m x := by
  have s : ∀ e, jn a b e q p ↔ jn a b e p q := fun e => ⟨fun z => z.elim Or.inr Or.inl, fun z => z.elim Or.inr Or.inl⟩
  rcases h with ⟨i1, i2⟩ | ⟨e, i1, i2, i3, i4, i5⟩
  · exact Or.inl ⟨i1, fun e he hj => i2 e he ((s e).mp hj)⟩
  · exact Or.inr ⟨e, i1, i2, (s e).mpr i3, fun e' he hj => i4 e' he ((s e').mp hj), fun e' he hj => i5 e' he ((s e').mp hj)⟩
theorem bl_sym {a b : Nat → Nat} {w : F1} {p q m : Nat} : bl a b w p q m = bl a b w q p m := (bl_spec m).uniq (bl_spec m).sym
/-- q is a next place on a cheapest way from p -/
def Cd (a b : Nat → Nat) (w : F1) (L : Nat) (r : F1) (p q : Nat) : Prop := 0 ≤ bl a b w p q L ∧ r q + w (bl a b w p q L).toNat = r p
theorem Cd_of {a b : Nat → Nat} {w : F1} {L : Nat} {r : F1} (hF : Fix a b w L r) {e p q : Nat} (he : e < L) (hj : jn a b e p q) (ht : r q + w e = r p) : Cd a b w L r p q ∧ (∀ e', e' < L → jn a b e' p q → r q + w e' = r p → (bl a b w p q L).toNat ≤ e') := by
  rcases bl_spec (a := a) (b := b) (w := w) (p := p) (q := q) L with ⟨i1, i2⟩ | ⟨e1, i1, i2, i3, i4, i5⟩
  · exact absurd hj (i2 e he)
  · have h1 := i4 e he hj
    have h2 := hF.j i2 i3
    unfold Cd
    rw [i1]
    refine ⟨⟨by omega, by show r q + w e1 = r p; omega⟩, fun e' he' hj' ht' => ?_⟩
    show e1 ≤ e'
    by_cases z : e' < e1
    · have := i5 e' z hj'
      omega
    · omega
theorem bl_jn {a b : Nat → Nat} {w : F1} {L p q : Nat} (h : 0 ≤ bl a b w p q L) : (bl a b w p q L).toNat < L ∧ jn a b (bl a b w p q L).toNat p q ∧ (((bl a b w p q L).toNat : Nat) : Int) = bl a b w p q L := by
  rcases bl_spec (a := a) (b := b) (w := w) (p := p) (q := q) L with ⟨i1, i2⟩ | ⟨e, i1, i2, i3, i4, i5⟩
  · omega
  · rw [i1]; exact ⟨i2, i3, rfl⟩
theorem Msd.cd {a b : Nat → Nat} {w : F1} {L g : Nat} {r : F1} (h : Msd a b w L g r) {p : Nat} (hp : p < 8) (hg : p ≠ g) (hf : r p < 1000000000) : ∃ q, q < 8 ∧ Cd a b w L r p q := by
  obtain ⟨e, q, x1, x2, x3, x4⟩ := h.tight hp hg hf
  exact ⟨q, x2, (Cd_of h.2 x1 x3 x4).1⟩
