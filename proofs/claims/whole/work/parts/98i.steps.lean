/-! THE READER: steps, decided ahead; the class's side -/
/-- what a reading comes to stands fast: it fails with k at p, or gives v -/
def Dc {α : Type} (f : (Int → Nat → Prop) → (α → Prop) → Prop) (Q : α → Prop) : Prop := (∃ (k : Int) (p : Nat), (1 ≤ k ∧ k ≤ 6) ∧ ∀ F S, f F S ↔ F k p) ∨ (∃ v, Q v ∧ ∀ F S, f F S ↔ S v)
theorem Dc.bind {α β : Type} {f : (Int → Nat → Prop) → (α → Prop) → Prop} {Q : α → Prop} {g : α → (Int → Nat → Prop) → (β → Prop) → Prop} {Q' : β → Prop} (h : Dc f Q) (hg : ∀ v, Q v → Dc (g v) Q') : Dc (fun F S => f F (fun v => g v F S)) Q' := by
  rcases h with ⟨k, p, kp, h⟩ | ⟨v, hv, h⟩
  · exact Or.inl ⟨k, p, kp, fun F S => h F _⟩
  · rcases hg v hv with ⟨k, p, kp, h'⟩ | ⟨u, hu, h'⟩
    · exact Or.inl ⟨k, p, kp, fun F S => (h F _).trans (h' F S)⟩
    · exact Or.inr ⟨u, hu, fun F S => (h F _).trans (h' F S)⟩
theorem Dc.weak {α : Type} {f : (Int → Nat → Prop) → (α → Prop) → Prop} {Q Q' : α → Prop} (h : Dc f Q) (hq : ∀ v, Q v → Q' v) : Dc f Q' := by
  rcases h with h | ⟨v, hv, h⟩
  · exact Or.inl h
  · exact Or.inr ⟨v, hq v hv, h⟩
abbrev kd (b : Nat → Int) (n a : Nat) : Int := (tok b n a).1
abbrev st (b : Nat → Int) (n a : Nat) : Nat := (tok b n a).2.1
abbrev co (b : Nat → Int) (n a : Nat) : Int := (tok b n a).2.2.1
abbrev nx (b : Nat → Int) (n a : Nat) : Nat := (tok b n a).2.2.2
theorem tok_nx {b : Nat → Int} {n a : Nat} (ha : a ≤ n) : nx b n a ≤ n := by
  have s := sk_le (b := b) (n - a) a
  have r1 := rn_le (lo := 97) (hi := 122) (b := b) (n - sk b (n - a) a) (sk b (n - a) a)
  have r2 := rn_le (lo := 48) (hi := 57) (b := b) (n - sk b (n - a) a) (sk b (n - a) a)
  show (tok b n a).2.2.2 ≤ n
  unfold tok
  split
  · show sk b (n - a) a ≤ n; omega
  · split
    · split
      · show rn 97 122 b (n - sk b (n - a) a) (sk b (n - a) a) ≤ n; omega
      · exact Nat.zero_le _
    · split
      · split
        · show rn 48 57 b (n - sk b (n - a) a) (sk b (n - a) a) ≤ n; omega
        · exact Nat.zero_le _
      · split
        · show sk b (n - a) a + 1 ≤ n; omega
        · exact Nat.zero_le _
theorem rn_ltr {lo hi : Int} {b : Nat → Int} : ∀ d i j, i ≤ j → j < rn lo hi b d i → lo ≤ b j ∧ b j ≤ hi
  | 0, i, j, h1, h2 => by have h2' : j < i := h2; omega
  | d + 1, i, j, h1, h2 => by
    by_cases c : lo ≤ b i ∧ b i ≤ hi
    · have e : rn lo hi b (d + 1) i = rn lo hi b d (i + 1) := by show (if _ then _ else _) = _; rw [if_pos c]
      rw [e] at h2
      by_cases z : j = i
      · rw [z]; exact c
      · exact rn_ltr d (i + 1) j (by omega) h2
    · have e : rn lo hi b (d + 1) i = i := by show (if _ then _ else _) = _; rw [if_neg c]
      rw [e] at h2
      omega
theorem tok_cd {b : Nat → Int} {n a : Nat} (h : kd b n a = 2) : 0 ≤ co b n a ∧ co b n a ≤ 999 := by
  revert h
  show (tok b n a).1 = 2 → 0 ≤ (tok b n a).2.2.1 ∧ (tok b n a).2.2.1 ≤ 999
  have lt := fun j => rn_ltr (lo := 48) (hi := 57) (b := b) (n - sk b (n - a) a) (sk b (n - a) a) j
  have r2 := rn_le (lo := 48) (hi := 57) (b := b) (n - sk b (n - a) a) (sk b (n - a) a)
  unfold tok
  split
  · intro h; exact absurd (show (0 : Int) = 2 from h) (by decide)
  · split
    · split
      · intro h; exact absurd (show (1 : Int) = 2 from h) (by decide)
      · intro h; exact absurd (show (4 : Int) = 2 from h) (by decide)
    · split
      · split
        · rename_i c
          intro _
          exact cdd_le _ (fun j hj => lt _ (by omega) (by omega)) (by omega)
        · intro h; exact absurd (show (4 : Int) = 2 from h) (by decide)
      · split
        · intro h; exact absurd (show (3 : Int) = 2 from h) (by decide)
        · intro h; exact absurd (show (4 : Int) = 2 from h) (by decide)
def isNm (b : Nat → Int) (n a : Nat) : Prop := kd b n a = 1 ∧ amg (co b n a) (bs 41) 0 0 < 0
def pw_word (b : Nat → Int) (n w a : Nat) (F : Int → Nat → Prop) (S : Nat → Prop) : Prop := (kd b n a = 1 ∧ wc w = co b n a → S (nx b n a)) ∧ (¬ (kd b n a = 1 ∧ wc w = co b n a) → F 1 (st b n a))
def pw_new (b : Nat → Int) (n : Nat) (c : F1) (m a : Nat) (F : Int → Nat → Prop) (S : Int × Nat → Prop) : Prop := (¬ isNm b n a → F 1 (st b n a)) ∧ (isNm b n a → 0 ≤ ixf c (co b n a) m 0 → F 3 (st b n a)) ∧ (isNm b n a → ixf c (co b n a) m 0 < 0 → S (co b n a, nx b n a))
abbrev fnd (b : Nat → Int) (n : Nat) (c so : F1) (m lo hi a : Nat) : Prop := 0 ≤ ixf c (co b n a) m 0 ∧ (lo : Int) ≤ so (ixf c (co b n a) m 0).toNat ∧ so (ixf c (co b n a) m 0).toNat ≤ (hi : Int)
def pw_use (b : Nat → Int) (n : Nat) (c so nu : F1) (m lo hi a : Nat) (F : Int → Nat → Prop) (S : Int × Nat × Nat → Prop) : Prop := (¬ isNm b n a → F 1 (st b n a)) ∧ (isNm b n a → ¬ fnd b n c so m lo hi a → F 2 (st b n a)) ∧ (isNm b n a → fnd b n c so m lo hi a → S (nu (ixf c (co b n a) m 0).toNat, nx b n a, st b n a))
def pw_whole (b : Nat → Int) (n : Nat) (lo hi : Int) (a : Nat) (F : Int → Nat → Prop) (S : Int × Nat → Prop) : Prop := (kd b n a ≠ 2 → F 1 (st b n a)) ∧ (kd b n a = 2 → ¬ (lo ≤ co b n a ∧ co b n a ≤ hi) → F 4 (st b n a)) ∧ (kd b n a = 2 → lo ≤ co b n a ∧ co b n a ≤ hi → S (co b n a, nx b n a))
def pw_choice (b : Nat → Int) (n w a : Nat) (F : Int → Nat → Prop) (S : Int × Nat → Prop) : Prop := (kd b n a = 1 ∧ 0 ≤ amg (co b n a) (bs w) 0 0 → S (amg (co b n a) (bs w) 0 0, nx b n a)) ∧ (¬ (kd b n a = 1 ∧ 0 ≤ amg (co b n a) (bs w) 0 0) → F 1 (st b n a))
/-- the class's reader: text, token, names -/
def CR (b : Nat → Int) (n a m : Nat) (c so nu : F1) (iv : IV) : Prop := n ≤ 900 ∧ (∀ j, j < n → iv 1 j = b j) ∧ iv 46 1 = (n : Nat) ∧ CTk (tok b n a) iv ∧ a ≤ n ∧ m ≤ 51 ∧ iv 41 3 = (m : Nat) ∧ (∀ j, j < m → iv 42 j = c j ∧ iv 43 j = so j ∧ iv 44 j = nu j) ∧ iv 40 6 = 0
/-- the numbers told on a line -/
def CT (tc : Nat) (td : F1) (ta : Int) (iv : IV) : Prop := iv 40 3 = (tc : Nat) ∧ (∀ j, j < tc → iv 45 j = td j) ∧ iv 40 4 = ta
def FrR (iv iv' : IV) : Prop := ∀ k j, ¬ (40 ≤ k ∧ k ≤ 46) → iv' k j = iv k j
theorem FrR.tr {iv iv' iv'' : IV} (h : FrR iv iv') (h' : FrR iv' iv'') : FrR iv iv'' := fun k j q => (h' k j q).trans (h k j q)
theorem CR.congr {b : Nat → Int} {n a m : Nat} {c so nu : F1} {iv iv' : IV} (h : CR b n a m c so nu iv) (he : ∀ k j, k = 1 ∨ (41 ≤ k ∧ k ≤ 44) ∨ k = 46 ∨ (k = 40 ∧ j = 6) → iv' k j = iv k j) : CR b n a m c so nu iv' := by
  obtain ⟨h1, h2, h3, ⟨t1, t2, t3, t4⟩, h5, h6, h7, h8, h9⟩ := h
  refine ⟨h1, fun j hj => by rw [he _ _ (by omega)]; exact h2 j hj, by rw [he _ _ (by omega)]; exact h3, ⟨by rw [he _ _ (by omega)]; exact t1, by rw [he _ _ (by omega)]; exact t2, fun z => by rw [he _ _ (by omega)]; exact t3 z, fun z => by rw [he _ _ (by omega)]; exact t4 z⟩, h5, h6, by rw [he _ _ (by omega)]; exact h7, fun j hj => by rw [he _ _ (by omega), he _ _ (by omega), he _ _ (by omega)]; exact h8 j hj, by rw [he _ _ (by omega)]; exact h9⟩
theorem CT.congr {tc : Nat} {td : F1} {ta : Int} {iv iv' : IV} (h : CT tc td ta iv) (he : ∀ k j, (k = 40 ∧ (j = 3 ∨ j = 4)) ∨ k = 45 → iv' k j = iv k j) : CT tc td ta iv' :=
  ⟨by rw [he _ _ (by omega)]; exact h.1, fun j hj => by rw [he _ _ (by omega)]; exact h.2.1 j hj, by rw [he _ _ (by omega)]; exact h.2.2⟩
theorem c_adv {b : Nat → Int} {n a m : Nat} {c so nu : F1} {iv : IV} {rv : RV} {K : IV → Prop} (C : CR b n a m c so nu iv) (hk : kd b n a ≠ 4) (hK : ∀ iv' : IV, (∀ k j, ¬ (k = 46) → iv' k j = iv k j) → CR b n (nx b n a) m c so nu iv' → K iv') : wp_X7_advance iv rv K := by
  obtain ⟨h1, h2, h3, h4, h5, h6, h7, h8, h9⟩ := C
  refine c_advance (b := b) (n := n) (a := nx b n a) h1 (tok_nx h5) h2 h3 (h4.2.2.2 hk) (fun iv' fr T => hK iv' (fun k j q => fr k j (by omega)) ⟨h1, fun j hj => by rw [fr _ _ (by omega)]; exact h2 j hj, by rw [fr _ _ (by omega)]; exact h3, T, tok_nx h5, h6, by rw [fr _ _ (by omega)]; exact h7, fun j hj => by rw [fr _ _ (by omega), fr _ _ (by omega), fr _ _ (by omega)]; exact h8 j hj, by rw [fr _ _ (by omega)]; exact h9⟩)
theorem c_fail {b : Nat → Int} {n a m : Nat} {c so nu : F1} {iv : IV} {rv : RV} {w : Int} {K : Int → IV → Prop} (C : CR b n a m c so nu iv) (hK : ∀ iv' : IV, FrR iv iv' → iv' 40 6 = w → iv' 40 7 = (st b n a : Nat) → K 0 iv') : wp_X4_failHere w iv rv K := by
  intro iv1 e1 iv2 e2
  have p := C.2.2.2.1.2.1
  rw [p] at e2
  exact hK iv2 (fun k j q => by rw [e2, w2_ne (by omega), e1, w2_ne (by omega)]) (by rw [e2, w2_ne (by omega), e1, w2_eq]) (by rw [e2, w2_eq])
theorem c_word {b : Nat → Int} {n a m w tc : Nat} {ta : Int} {c so nu td : F1} {iv : IV} {rv : RV} {K : Int → IV → Prop} (hw : w < 51) (hs : ∀ cd, amg cd (bs w) 0 0 = if wc w = cd then 0 else -1) (C : CR b n a m c so nu iv) (D : CT tc td ta iv)
    (h : pw_word b n w a (fun k p => ∀ iv' : IV, FrR iv iv' → iv' 40 6 = k → iv' 40 7 = (p : Nat) → K 0 iv') (fun a' => ∀ iv' : IV, FrR iv iv' → CR b n a' m c so nu iv' → CT tc td ta iv' → K 1 iv')) : wp_X4_word w iv rv K := by
  have t := C.2.2.2.1
  have no : ¬ (kd b n a = 1 ∧ wc w = co b n a) → wp_X4_failHere 1 iv rv (fun r4 iv5 => K r4 iv5) := fun q => c_fail C (h.2 q)
  refine c_among hw (fun z => ?_) (fun z => ⟨fun y => absurd y (by decide), fun _ => no (fun q => z (t.1.trans q.1))⟩)
  have k1 : kd b n a = 1 := by rw [← z]; exact t.1.symm
  rw [hs, t.2.2.1 (Or.inl k1)]
  by_cases e : wc w = co b n a
  · rw [if_pos e]
    refine ⟨fun _ => c_adv C (by rw [k1]; decide) (fun iv' fr C' => h.1 ⟨k1, e⟩ iv' (fun k j q => fr k j (by omega)) C' (D.congr fun k j q => fr k j (by omega))), fun y => absurd rfl y⟩
  · rw [if_neg e]
    exact ⟨fun y => absurd y (by decide), fun _ => no (fun q => e q.2)⟩
theorem c_tell {tc : Nat} {ta : Int} {td : F1} {v : Int} {iv : IV} {rv : RV} {K : Int → IV → Prop} (D : CT tc td ta iv) (h8 : tc < 8) (hK : ∀ iv' : IV, (∀ k j, ¬ (k = 45) → ¬ (k = 40 ∧ j = 3) → iv' k j = iv k j) → CT (tc + 1) (up1 td tc v) ta iv' → K 1 iv') : wp_X4_tell v iv rv K := by
  obtain ⟨d1, d2, d3⟩ := D
  refine ⟨fun z => by omega, fun _ => ⟨⟨by omega, by omega⟩, fun iv3 e3 iv4 e4 => ?_⟩⟩
  rw [d1, Int.toNat_natCast] at e3
  have a3 : iv3 40 3 = (tc : Nat) := by rw [e3, w2_ne (by omega)]; exact d1
  rw [a3, w32_id (by omega) (by omega)] at e4
  refine hK iv4 (fun k j q1 q2 => by rw [e4, w2_ne q2, e3, w2_ne (by omega)]) ⟨by rw [e4, w2_eq]; omega, fun j hj => ?_, by rw [e4, w2_ne (by omega), e3, w2_ne (by omega)]; exact d3⟩
  rw [e4, w2_ne (by omega), e3]
  by_cases z : j = tc
  · rw [z, w2_eq, up1_eq]
  · rw [w2_ne (by omega), up1_ne z]; exact d2 j (by omega)
theorem c_isName {b : Nat → Int} {n a m : Nat} {c so nu : F1} {iv : IV} {rv : RV} {K : Int → Prop} (C : CR b n a m c so nu iv) (h1 : Unit → isNm b n a → K 1) (h0 : Unit → ¬ isNm b n a → K 0) : wp_X4_isName iv rv K := by
  have t := C.2.2.2.1
  refine ⟨fun z => h0 () (fun q => z (t.1.trans q.1)), fun z => c_among (by omega) (fun _ => ?_) (fun y => absurd z y)⟩
  have k1 : kd b n a = 1 := by rw [← z]; exact t.1.symm
  rw [t.2.2.1 (Or.inl k1)]
  exact ⟨fun y => h0 () (fun q => absurd q.2 (Int.not_lt.mpr y)), fun y => h1 () ⟨k1, Int.not_le.mp y⟩⟩
theorem c_whole {b : Nat → Int} {n a m tc : Nat} {ta : Int} {lo hi : Int} {c so nu td : F1} {iv : IV} {rv : RV} {K : Int → IV → Prop} (C : CR b n a m c so nu iv) (D : CT tc td ta iv) (h8 : tc < 8)
    (h : pw_whole b n lo hi a (fun k p => ∀ iv' : IV, FrR iv iv' → iv' 40 6 = k → iv' 40 7 = (p : Nat) → K 0 iv') (fun q => ∀ iv' : IV, FrR iv iv' → CR b n q.2 m c so nu iv' → CT (tc + 1) (up1 td tc q.1) ta iv' → K 1 iv')) : wp_X4_whole lo hi iv rv K := by
  have t := C.2.2.2.1
  refine ⟨fun z x2 e2 => ?_, fun z => c_fail C (h.1 (fun q => z (t.1.trans q)))⟩
  have k2 : kd b n a = 2 := by rw [← z]; exact t.1.symm
  have cb := tok_cd k2
  have tv := t.2.2.1 (Or.inr k2)
  change _ = co b n a at tv
  rw [tv, w32_id (x := co b n a) (by omega) (by omega)] at e2
  subst e2
  have bad : ¬ (lo ≤ co b n a ∧ co b n a ≤ hi) → bd_X4_whole_36 iv rv K := fun q => c_fail C (h.2.1 k2 q)
  refine ⟨fun y => bad (fun q => by omega), fun y => ⟨fun y2 => c_adv C (by rw [k2]; decide) (fun iv5 fr5 C5 => c_tell (D.congr fun k j q => fr5 k j (by omega)) h8 (fun iv6 fr6 D6 => h.2.2 k2 ⟨by omega, y2⟩ iv6 (fun k j q => by rw [fr6 _ _ (by omega) (by omega), fr5 _ _ (by omega)]) (C5.congr fun k j q => fr6 k j (by omega) (by omega)) D6)), fun y2 => bad (fun q => by omega)⟩⟩
theorem c_choice {b : Nat → Int} {n a m w tc : Nat} {ta : Int} {c so nu td : F1} {iv : IV} {rv : RV} {K : Int → IV → Prop} (hw : w < 51) (C : CR b n a m c so nu iv) (D : CT tc td ta iv) (h8 : tc < 8)
    (h : pw_choice b n w a (fun k p => ∀ iv' : IV, FrR iv iv' → iv' 40 6 = k → iv' 40 7 = (p : Nat) → K 0 iv') (fun q => ∀ iv' : IV, FrR iv iv' → CR b n q.2 m c so nu iv' → CT (tc + 1) (up1 td tc q.1) ta iv' → K 1 iv')) : wp_X4_choice w iv rv K := by
  have t := C.2.2.2.1
  have no : ¬ (kd b n a = 1 ∧ 0 ≤ amg (co b n a) (bs w) 0 0) → wp_X4_failHere 1 iv rv (fun r4 iv5 => K r4 iv5) := fun q => c_fail C (h.2 q)
  refine c_among hw (fun z => ?_) (fun z => ⟨fun y => absurd y (by decide), fun _ => no (fun q => z (t.1.trans q.1))⟩)
  have k1 : kd b n a = 1 := by rw [← z]; exact t.1.symm
  rw [t.2.2.1 (Or.inl k1)]
  refine ⟨fun y => c_adv C (by rw [k1]; decide) (fun iv5 fr5 C5 => c_tell (D.congr fun k j q => fr5 k j (by omega)) h8 (fun iv6 fr6 D6 => h.1 ⟨k1, y⟩ iv6 (fun k j q => by rw [fr6 _ _ (by omega) (by omega), fr5 _ _ (by omega)]) (C5.congr fun k j q => fr6 k j (by omega) (by omega)) D6)), fun y => no (fun q => y q.2)⟩
theorem c_use {b : Nat → Int} {n a m lo hi tc : Nat} {ta : Int} {c so nu td : F1} {iv : IV} {rv : RV} {K : Int → IV → Prop} (C : CR b n a m c so nu iv) (D : CT tc td ta iv) (h8 : tc < 8) (hnu : ∀ j, j < m → 0 ≤ nu j)
    (h : pw_use b n c so nu m lo hi a (fun k p => ∀ iv' : IV, FrR iv iv' → iv' 40 6 = k → iv' 40 7 = (p : Nat) → K 0 iv') (fun q => ∀ iv' : IV, FrR iv iv' → CR b n q.2.1 m c so nu iv' → CT (tc + 1) (up1 td tc q.1) q.2.2 iv' → K 1 iv')) : wp_X4_use lo hi iv rv K := by
  have t := C.2.2.2.1
  have C0 := C
  obtain ⟨-, -, -, -, -, m51, e3, h42, -⟩ := C0
  refine c_isName C (fun _ hn => ⟨fun _ => ?_, fun y => absurd y (by decide)⟩) (fun _ hn => ⟨fun y => absurd rfl y, fun _ => c_fail C (h.1 hn)⟩)
  have k1 := hn.1
  rw [t.2.2.1 (Or.inl k1)]
  have no : Unit → ¬ fnd b n c so m lo hi a → wp_X4_failHere 2 iv rv (fun r9 iv10 => K r9 iv10) := fun _ q => c_fail C (h.2.1 hn q)
  refine c_indexOf (c := c) m51 e3 (fun j hj => (h42 j hj).1) ?_
  rcases ixf_ok (c := c) (cd := co b n a) m 0 with ⟨i1, i2⟩ | ⟨j, i1, i2, i3, i4⟩
  · rw [i1]
    exact ⟨fun _ => ⟨fun y => absurd y (by decide), fun _ => no () (fun q => by have := q.1; rw [i1] at this; exact absurd this (by decide))⟩, fun y => absurd (by decide) y⟩
  · have hj : j < m := by omega
    obtain ⟨-, v43, v44⟩ := h42 j hj
    have n0 := hnu j hj
    have tj : ((j : Nat) : Int).toNat = j := Int.toNat_natCast j
    have no' : Unit → ¬ ((lo : Int) ≤ so j ∧ so j ≤ (hi : Int)) → wp_X4_failHere 2 iv rv (fun r9 iv10 => K r9 iv10) := fun _ q => no () (fun y => by
      have := y.2
      rw [i1, tj] at this
      exact q this)
    rw [i1, tj, v43, v44]
    refine ⟨fun y => by omega, fun _ => ⟨⟨by omega, by omega⟩, fun y => ⟨fun u => absurd u (by decide), fun _ => no' () (fun q => by omega)⟩, fun y => ⟨⟨by omega, by omega⟩, fun y2 => ⟨fun u => absurd u (by decide), fun _ => no' () (fun q => by omega)⟩, fun y2 => ⟨⟨by omega, by omega⟩, ?_⟩⟩⟩⟩
    refine ⟨fun _ iv5 e5 => ?_, fun u => by omega⟩
    rw [t.2.1] at e5
    have f5 : ∀ k j, ¬ (k = 40 ∧ j = 4) → iv5 k j = iv k j := fun k j q => by rw [e5, w2_ne q]
    have C5 := C.congr (iv' := iv5) fun k j q => f5 k j (by omega)
    have D5 : CT tc td (st b n a) iv5 := ⟨by rw [f5 _ _ (by omega)]; exact D.1, fun j hj => by rw [f5 _ _ (by omega)]; exact D.2.1 j hj, by rw [e5, w2_eq]⟩
    refine c_adv C5 (by rw [k1]; decide) (fun iv6 fr6 C6 => c_tell (D5.congr fun k j q => fr6 k j (by omega)) h8 (fun iv7 fr7 D7 => ?_))
    have fin := h.2.2 hn ⟨by rw [i1]; omega, by rw [i1, tj]; omega, by rw [i1, tj]; omega⟩ iv7 (fun k j q => by rw [fr7 _ _ (by omega) (by omega), fr6 _ _ (by omega), f5 _ _ (by omega)]) (C6.congr fun k j q => fr7 k j (by omega) (by omega))
    rw [i1, tj] at fin
    exact fin D7
theorem c_new {b : Nat → Int} {n a m tc : Nat} {ta : Int} {so2 num : Int} {c so nu td : F1} {iv : IV} {rv : RV} {K : Int → IV → Prop} (C : CR b n a m c so nu iv) (D : CT tc td ta iv) (hm : m < 51)
    (h : pw_new b n c m a (fun k p => ∀ iv' : IV, FrR iv iv' → iv' 40 6 = k → iv' 40 7 = (p : Nat) → K 0 iv') (fun q => ∀ iv' : IV, FrR iv iv' → CR b n q.2 (m + 1) (up1 c m q.1) (up1 so m so2) (up1 nu m num) iv' → CT tc td ta iv' → K 1 iv')) : wp_X4_newName so2 num iv rv K := by
  have t := C.2.2.2.1
  have C0 := C
  obtain ⟨n9, h2, h3, h4, h5, m51, e3, h42, h9⟩ := C0
  refine c_isName C (fun _ hn => ⟨fun _ => ?_, fun y => absurd y (by decide)⟩) (fun _ hn => ⟨fun y => absurd rfl y, fun _ => c_fail C (h.1 hn)⟩)
  have k1 := hn.1
  rw [t.2.2.1 (Or.inl k1)]
  refine c_indexOf (c := c) m51 e3 (fun j hj => (h42 j hj).1) ⟨fun z => ?_, fun z => c_fail C (h.2.1 hn (Int.not_lt.mp z))⟩
  refine ⟨fun y => by omega, fun _ => ⟨⟨by omega, by omega⟩, fun iva ea => ?_⟩⟩
  rw [e3, Int.toNat_natCast] at ea
  have a3 : iva 41 3 = (m : Nat) := by rw [ea, w2_ne (by omega)]; exact e3
  refine ⟨⟨by omega, by omega⟩, fun ivb eb => ?_⟩
  rw [a3, Int.toNat_natCast] at eb
  have b3 : ivb 41 3 = (m : Nat) := by rw [eb, w2_ne (by omega)]; exact a3
  refine ⟨⟨by omega, by omega⟩, fun ivc ec ivd ed => ?_⟩
  rw [b3, Int.toNat_natCast] at ec
  have c3 : ivc 41 3 = (m : Nat) := by rw [ec, w2_ne (by omega)]; exact b3
  rw [c3, w32_id (by omega) (by omega)] at ed
  have fd : ∀ k j, ¬ (k = 42 ∧ j = m) → ¬ (k = 43 ∧ j = m) → ¬ (k = 44 ∧ j = m) → ¬ (k = 41 ∧ j = 3) → ivd k j = iv k j := fun k j q1 q2 q3 q4 => by rw [ed, w2_ne q4, ec, w2_ne q3, eb, w2_ne q2, ea, w2_ne q1]
  have Cd : CR b n a (m + 1) (up1 c m (co b n a)) (up1 so m so2) (up1 nu m num) ivd := by
    obtain ⟨t1, t2, t3, t4⟩ := h4
    refine ⟨n9, fun j hj => by rw [fd _ _ (by omega) (by omega) (by omega) (by omega)]; exact h2 j hj, by rw [fd _ _ (by omega) (by omega) (by omega) (by omega)]; exact h3, ⟨by rw [fd _ _ (by omega) (by omega) (by omega) (by omega)]; exact t1, by rw [fd _ _ (by omega) (by omega) (by omega) (by omega)]; exact t2, fun z => by rw [fd _ _ (by omega) (by omega) (by omega) (by omega)]; exact t3 z, fun z => by rw [fd _ _ (by omega) (by omega) (by omega) (by omega)]; exact t4 z⟩, h5, by omega, by rw [ed, w2_eq]; omega, fun j hj => ?_, by rw [fd _ _ (by omega) (by omega) (by omega) (by omega)]; exact h9⟩
    by_cases y : j = m
    · rw [y, up1_eq, up1_eq, up1_eq]
      refine ⟨?_, ?_, ?_⟩
      · rw [ed, w2_ne (by omega), ec, w2_ne (by omega), eb, w2_ne (by omega), ea, w2_eq]
      · rw [ed, w2_ne (by omega), ec, w2_ne (by omega), eb, w2_eq]
      · rw [ed, w2_ne (by omega), ec, w2_eq]
    · rw [up1_ne y, up1_ne y, up1_ne y, fd _ _ (by omega) (by omega) (by omega) (by omega), fd _ _ (by omega) (by omega) (by omega) (by omega), fd _ _ (by omega) (by omega) (by omega) (by omega)]
      exact h42 j (by omega)
  refine c_adv Cd (by rw [k1]; decide) (fun iv6 fr6 C6 => h.2.2 hn z iv6 (fun k j q => by rw [fr6 _ _ (by omega), fd _ _ (by omega) (by omega) (by omega) (by omega)]) C6 (D.congr fun k j q => by rw [fr6 _ _ (by omega), fd _ _ (by omega) (by omega) (by omega) (by omega)]))
