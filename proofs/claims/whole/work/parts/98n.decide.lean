/-! THE READER: each step stands fast -/
theorem Dc.ret {α : Type} {Q : α → Prop} {v : α} (h : Q v) : Dc (fun _ S => S v) Q := Or.inr ⟨v, h, fun _ _ => Iff.rfl⟩
theorem Dc.err {α : Type} {Q : α → Prop} {k : Int} {p : Nat} (h : 1 ≤ k ∧ k ≤ 6) : Dc (fun F (_ : α → Prop) => F k p) Q := Or.inl ⟨k, p, h, fun _ _ => Iff.rfl⟩
theorem Dc.congr {α : Type} {f g : (Int → Nat → Prop) → (α → Prop) → Prop} {Q : α → Prop} (h : Dc f Q) (e : ∀ F S, g F S ↔ f F S) : Dc g Q := by
  rcases h with ⟨k, p, kp, h⟩ | ⟨v, hv, h⟩
  · exact Or.inl ⟨k, p, kp, fun F S => (e F S).trans (h F S)⟩
  · exact Or.inr ⟨v, hv, fun F S => (e F S).trans (h F S)⟩
theorem if_t {A X Y : Prop} (h : A) : ((A → X) ∧ (¬ A → Y)) ↔ X := ⟨fun q => q.1 h, fun q => ⟨fun _ => q, fun z => absurd h z⟩⟩
theorem if_f {A X Y : Prop} (h : ¬ A) : ((A → X) ∧ (¬ A → Y)) ↔ Y := ⟨fun q => q.2 h, fun q => ⟨fun z => absurd z h, fun _ => q⟩⟩
theorem dc_word {b : Nat → Int} {n w a : Nat} : Dc (pw_word b n w a) (fun _ => True) := by
  by_cases z : kd b n a = 1 ∧ wc w = co b n a
  · exact (Dc.ret (v := nx b n a) trivial).congr fun F S => if_t z
  · exact (Dc.err (k := 1) (p := st b n a) (by decide)).congr fun F S => if_f z
theorem dc_choice {b : Nat → Int} {n w a : Nat} : Dc (pw_choice b n w a) (fun v => 0 ≤ v.1 ∧ ∃ cd, v.1 = amg cd (bs w) 0 0) := by
  by_cases z : kd b n a = 1 ∧ 0 ≤ amg (co b n a) (bs w) 0 0
  · exact (Dc.ret (v := (amg (co b n a) (bs w) 0 0, nx b n a)) ⟨z.2, co b n a, rfl⟩).congr fun F S => if_t z
  · exact (Dc.err (k := 1) (p := st b n a) (by decide)).congr fun F S => if_f z
theorem dc_whole {b : Nat → Int} {n a : Nat} {lo hi : Int} : Dc (pw_whole b n lo hi a) (fun v => lo ≤ v.1 ∧ v.1 ≤ hi ∧ 0 ≤ v.1 ∧ v.1 ≤ 999) := by
  by_cases z : kd b n a = 2
  · by_cases y : lo ≤ co b n a ∧ co b n a ≤ hi
    · exact (Dc.ret (v := (co b n a, nx b n a)) ⟨y.1, y.2, (tok_cd z).1, (tok_cd z).2⟩).congr fun F S => ⟨fun q => q.2.2 z y, fun q => ⟨fun u => absurd z u, fun _ u => absurd y u, fun _ _ => q⟩⟩
    · exact (Dc.err (k := 4) (p := st b n a) (by decide)).congr fun F S => ⟨fun q => q.2.1 z y, fun q => ⟨fun u => absurd z u, fun _ _ => q, fun _ u => absurd u y⟩⟩
  · exact (Dc.err (k := 1) (p := st b n a) (by decide)).congr fun F S => ⟨fun q => q.1 z, fun q => ⟨fun _ => q, fun u => absurd u z, fun u => absurd u z⟩⟩
theorem dc_new {b : Nat → Int} {n m a : Nat} {c : F1} : Dc (pw_new b n c m a) (fun _ => True) := by
  by_cases z : isNm b n a
  · by_cases y : 0 ≤ ixf c (co b n a) m 0
    · exact (Dc.err (k := 3) (p := st b n a) (by decide)).congr fun F S => ⟨fun q => q.2.1 z y, fun q => ⟨fun u => absurd z u, fun _ _ => q, fun _ u => absurd y (Int.not_le.mpr u)⟩⟩
    · exact (Dc.ret (v := (co b n a, nx b n a)) trivial).congr fun F S => ⟨fun q => q.2.2 z (Int.not_le.mp y), fun q => ⟨fun u => absurd z u, fun _ u => absurd u y, fun _ _ => q⟩⟩
  · exact (Dc.err (k := 1) (p := st b n a) (by decide)).congr fun F S => ⟨fun q => q.1 z, fun q => ⟨fun _ => q, fun u => absurd u z, fun u => absurd u z⟩⟩
theorem dc_use {b : Nat → Int} {n m a lo hi : Nat} {c so nu : F1} : Dc (pw_use b n c so nu m lo hi a) (fun v => ∃ j, j < m ∧ (lo : Int) ≤ so j ∧ so j ≤ (hi : Int) ∧ v.1 = nu j) := by
  by_cases z : isNm b n a
  · by_cases y : fnd b n c so m lo hi a
    · refine (Dc.ret (v := (nu (ixf c (co b n a) m 0).toNat, nx b n a, st b n a)) ?_).congr fun F S => ⟨fun q => q.2.2 z y, fun q => ⟨fun u => absurd z u, fun _ u => absurd y u, fun _ _ => q⟩⟩
      rcases ixf_ok (c := c) (cd := co b n a) m 0 with ⟨i1, i2⟩ | ⟨j, i1, i2, i3, i4⟩
      · have := y.1
        rw [i1] at this
        exact absurd this (by decide)
      · have e : (ixf c (co b n a) m 0).toNat = j := by rw [i1]; exact Int.toNat_natCast j
        have r2 := y.2
        rw [e] at r2
        exact ⟨j, by omega, r2.1, r2.2, by rw [e]⟩
    · exact (Dc.err (k := 2) (p := st b n a) (by decide)).congr fun F S => ⟨fun q => q.2.1 z y, fun q => ⟨fun u => absurd z u, fun _ _ => q, fun _ u => absurd u y⟩⟩
  · exact (Dc.err (k := 1) (p := st b n a) (by decide)).congr fun F S => ⟨fun q => q.1 z, fun q => ⟨fun _ => q, fun u => absurd u z, fun u => absurd u z⟩⟩
theorem dc_differ {x y : Int} {ta : Nat} : Dc (pw_differ x y ta) (fun _ => x ≠ y) := by
  by_cases z : x = y
  · exact (Dc.err (k := 3) (p := ta) (by decide)).congr fun F S => if_t z
  · exact (Dc.ret (v := ()) z).congr fun F S => if_f z
theorem dc_good {b : Nat → Int} {n m ta a : Nat} {c so nu : F1} : Dc (pw_good b n c so nu m ta a) (fun v => v.1 = -2 ∨ ∃ j, j < m ∧ 1 ≤ so j ∧ so j ≤ 1 ∧ v.1 = nu j) := by
  by_cases z : isWd b n 1 a
  · exact (Dc.ret (v := ((-2 : Int), nx b n a, ta)) (Or.inl rfl)).congr fun F S => if_t z
  · exact ((dc_use (lo := 1) (hi := 1)).weak fun v h => Or.inr h).congr fun F S => if_f z
theorem dc_span {b : Nat → Int} {n a : Nat} : Dc (pw_span b n a) (fun v => 0 ≤ v.1 ∧ v.1 ≤ v.2.1 ∧ v.2.1 ≤ v.1 + 20 ∧ v.2.1 ≤ 999) := by
  unfold pw_span
  refine Dc.bind dc_word (fun a1 _ => Dc.bind dc_whole (fun q hq => ?_))
  by_cases z : isWd b n 48 q.2
  · exact (Dc.bind (dc_whole (lo := q.1) (hi := q.1 + 20)) (fun q2 h2 => Dc.ret (v := (q.1, q2.1, q2.2)) ⟨hq.1, h2.1, h2.2.1, h2.2.2.2⟩)).congr fun F S => if_t z
  · exact (Dc.ret (v := (q.1, q.1, q.2)) ⟨hq.1, Int.le_refl _, by show q.1 ≤ q.1 + 20; omega, hq.2.1⟩).congr fun F S => if_f z
theorem dc_loss {b : Nat → Int} {n g ta a : Nat} {R : IV} : Dc (pw_loss b n R g ta a) (fun q => R 10 g = 0 ∧ (q.1 = w2 R 10 g 1 ∨ q.1 = w2 R 10 g 2)) := by
  by_cases z : R 10 g = 0
  · by_cases y : isWd b n 9 a
    · exact (Dc.ret (v := (w2 R 10 g 2, nx b n a)) ⟨z, Or.inr rfl⟩).congr fun F S => ⟨fun q => q.2.1 z y, fun q => ⟨fun u => absurd z u, fun _ _ => q, fun _ u => absurd y u⟩⟩
    · exact (Dc.ret (v := (w2 R 10 g 1, a)) ⟨z, Or.inl rfl⟩).congr fun F S => ⟨fun q => q.2.2 z y, fun q => ⟨fun u => absurd z u, fun _ u => absurd u y, fun _ _ => q⟩⟩
  · exact (Dc.err (k := 3) (p := ta) (by decide)).congr fun F S => ⟨fun q => q.1 z, fun q => ⟨fun _ => q, fun u => absurd u z, fun u => absurd u z⟩⟩
