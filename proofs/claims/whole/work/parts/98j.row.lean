/-! THE READER: the class's steps in a row -/
/-- a fault, told -/
def Fl (F : Int → Nat → Prop) (iv0 : IV) (K0 : IV → Prop) : Prop := ∀ (k : Int) (p : Nat), F k p → ∀ iv' : IV, FrR iv0 iv' → iv' 40 6 = k → iv' 40 7 = (p : Nat) → K0 iv'
theorem no_ {K0 X : Prop} (h : K0) : ((0 : Int) = 0 → K0) ∧ (¬ (0 : Int) = 0 → X) := ⟨fun _ => h, fun y => absurd rfl y⟩
theorem ye_ {K0 X : Prop} (h : X) : ((1 : Int) = 0 → K0) ∧ (¬ (1 : Int) = 0 → X) := ⟨fun y => absurd y (by decide), fun _ => h⟩
theorem q_word {b : Nat → Int} {n a m w tc : Nat} {ta : Int} {c so nu td : F1} {iv0 iv : IV} {rv : RV} {K0 X : IV → Prop} {F : Int → Nat → Prop} {S : Nat → Prop} (hw : w < 51) (hs : ∀ cd, amg cd (bs w) 0 0 = if wc w = cd then 0 else -1) (h : pw_word b n w a F S) (hF : Fl F iv0 K0) (fr : FrR iv0 iv) (C : CR b n a m c so nu iv) (D : CT tc td ta iv) (hS : ∀ a', S a' → ∀ iv' : IV, FrR iv0 iv' → CR b n a' m c so nu iv' → CT tc td ta iv' → X iv') : wp_X4_word w iv rv (fun r iv' => (r = 0 → K0 iv') ∧ (¬ r = 0 → X iv')) :=
  c_word hw hs C D ⟨fun q iv' f C' D' => ye_ (hS _ (h.1 q) iv' (fr.tr f) C' D'), fun q iv' f e1 e2 => no_ (hF _ _ (h.2 q) iv' (fr.tr f) e1 e2)⟩
theorem q_whole {b : Nat → Int} {n a m tc : Nat} {ta : Int} {lo hi : Int} {c so nu td : F1} {iv0 iv : IV} {rv : RV} {K0 X : IV → Prop} {F : Int → Nat → Prop} {S : Int × Nat → Prop} (h8 : tc < 8) (h : pw_whole b n lo hi a F S) (hF : Fl F iv0 K0) (fr : FrR iv0 iv) (C : CR b n a m c so nu iv) (D : CT tc td ta iv) (hS : ∀ q, S q → ∀ iv' : IV, FrR iv0 iv' → CR b n q.2 m c so nu iv' → CT (tc + 1) (up1 td tc q.1) ta iv' → X iv') : wp_X4_whole lo hi iv rv (fun r iv' => (r = 0 → K0 iv') ∧ (¬ r = 0 → X iv')) :=
  c_whole C D h8 ⟨fun q iv' f e1 e2 => no_ (hF _ _ (h.1 q) iv' (fr.tr f) e1 e2), fun q q2 iv' f e1 e2 => no_ (hF _ _ (h.2.1 q q2) iv' (fr.tr f) e1 e2), fun q q2 iv' f C' D' => ye_ (hS _ (h.2.2 q q2) iv' (fr.tr f) C' D')⟩
theorem q_choice {b : Nat → Int} {n a m w tc : Nat} {ta : Int} {c so nu td : F1} {iv0 iv : IV} {rv : RV} {K0 X : IV → Prop} {F : Int → Nat → Prop} {S : Int × Nat → Prop} (hw : w < 51) (h8 : tc < 8) (h : pw_choice b n w a F S) (hF : Fl F iv0 K0) (fr : FrR iv0 iv) (C : CR b n a m c so nu iv) (D : CT tc td ta iv) (hS : ∀ q, S q → ∀ iv' : IV, FrR iv0 iv' → CR b n q.2 m c so nu iv' → CT (tc + 1) (up1 td tc q.1) ta iv' → X iv') : wp_X4_choice w iv rv (fun r iv' => (r = 0 → K0 iv') ∧ (¬ r = 0 → X iv')) :=
  c_choice hw C D h8 ⟨fun q iv' f C' D' => ye_ (hS _ (h.1 q) iv' (fr.tr f) C' D'), fun q iv' f e1 e2 => no_ (hF _ _ (h.2 q) iv' (fr.tr f) e1 e2)⟩
theorem q_use {b : Nat → Int} {n a m lo hi tc : Nat} {ta : Int} {c so nu td : F1} {iv0 iv : IV} {rv : RV} {K0 X : IV → Prop} {F : Int → Nat → Prop} {S : Int × Nat × Nat → Prop} (h8 : tc < 8) (hnu : ∀ j, j < m → 0 ≤ nu j) (h : pw_use b n c so nu m lo hi a F S) (hF : Fl F iv0 K0) (fr : FrR iv0 iv) (C : CR b n a m c so nu iv) (D : CT tc td ta iv) (hS : ∀ q, S q → ∀ iv' : IV, FrR iv0 iv' → CR b n q.2.1 m c so nu iv' → CT (tc + 1) (up1 td tc q.1) q.2.2 iv' → X iv') : wp_X4_use lo hi iv rv (fun r iv' => (r = 0 → K0 iv') ∧ (¬ r = 0 → X iv')) :=
  c_use C D h8 hnu ⟨fun q iv' f e1 e2 => no_ (hF _ _ (h.1 q) iv' (fr.tr f) e1 e2), fun q q2 iv' f e1 e2 => no_ (hF _ _ (h.2.1 q q2) iv' (fr.tr f) e1 e2), fun q q2 iv' f C' D' => ye_ (hS _ (h.2.2 q q2) iv' (fr.tr f) C' D')⟩
theorem q_new {b : Nat → Int} {n a m tc : Nat} {ta : Int} {so2 num : Int} {c so nu td : F1} {iv0 iv : IV} {rv : RV} {K0 X : IV → Prop} {F : Int → Nat → Prop} {S : Int × Nat → Prop} (hm : m < 51) (h : pw_new b n c m a F S) (hF : Fl F iv0 K0) (fr : FrR iv0 iv) (C : CR b n a m c so nu iv) (D : CT tc td ta iv) (hS : ∀ q, S q → ∀ iv' : IV, FrR iv0 iv' → CR b n q.2 (m + 1) (up1 c m q.1) (up1 so m so2) (up1 nu m num) iv' → CT tc td ta iv' → X iv') : wp_X4_newName so2 num iv rv (fun r iv' => (r = 0 → K0 iv') ∧ (¬ r = 0 → X iv')) :=
  c_new C D hm ⟨fun q iv' f e1 e2 => no_ (hF _ _ (h.1 q) iv' (fr.tr f) e1 e2), fun q q2 iv' f e1 e2 => no_ (hF _ _ (h.2.1 q q2) iv' (fr.tr f) e1 e2), fun q q2 iv' f C' D' => ye_ (hS _ (h.2.2 q q2) iv' (fr.tr f) C' D')⟩
def pw_differ (x y : Int) (ta : Nat) (F : Int → Nat → Prop) (S : Unit → Prop) : Prop := (x = y → F 3 ta) ∧ (x ≠ y → S ())
theorem c_latest {tc : Nat} {ta : Int} {k : Nat} {td : F1} {iv : IV} {rv : RV} {K : Int → Prop} (D : CT tc td ta iv) (h8 : tc ≤ 8) (hk : k < tc) (hK : K (td (tc - 1 - k))) : wp_X4_latest k iv rv K := by
  intro x1 e1
  rw [D.1, w32_id (x := ((tc : Nat) : Int) - 1) (by omega) (by omega), w32_id (by omega) (by omega)] at e1
  have ex : x1 = ((tc - 1 - k : Nat) : Int) := by omega
  refine ⟨fun y => by omega, fun _ => ⟨fun y => by omega, fun _ => ⟨⟨by omega, by omega⟩, ?_⟩⟩⟩
  rw [ex, Int.toNat_natCast, D.2.1 _ (by omega)]
  exact hK
theorem q_differ {b : Nat → Int} {n a m tc ta : Nat} {c so nu td : F1} {iv0 iv : IV} {rv : RV} {K0 X : IV → Prop} {F : Int → Nat → Prop} {S : Unit → Prop} (h8 : tc ≤ 8) (h2 : 2 ≤ tc) (h : pw_differ (td (tc - 1)) (td (tc - 2)) ta F S) (hF : Fl F iv0 K0) (fr : FrR iv0 iv) (C : CR b n a m c so nu iv) (D : CT tc td ta iv) (hS : S () → X iv) : wp_X4_differ iv rv (fun r iv' => (r = 0 → K0 iv') ∧ (¬ r = 0 → X iv')) := by
  refine c_latest (k := 0) D h8 (by omega) (c_latest (k := 1) D h8 (by omega) ?_)
  refine ⟨fun y => ye_ (hS (h.2 y)), fun y iv1 e1 iv2 e2 => ?_⟩
  refine no_ (no_ (hF _ _ (h.1 y) iv2 (fr.tr fun k j q => by rw [e2, w2_ne (by omega), e1, w2_ne (by omega)]) (by rw [e2, w2_ne (by omega), e1, w2_eq]) (by rw [e2, w2_eq]; exact D.2.2)))
theorem am1 (cd : Int) : amg cd (bs 1) 0 0 = if wc 1 = cd then 0 else -1 := rfl
theorem am48 (cd : Int) : amg cd (bs 48) 0 0 = if wc 48 = cd then 0 else -1 := rfl
theorem am12 (cd : Int) : amg cd (bs 12) 0 0 = if wc 12 = cd then 0 else -1 := rfl
theorem am9 (cd : Int) : amg cd (bs 9) 0 0 = if wc 9 = cd then 0 else -1 := rfl
/-- is the token this word -/
abbrev isWd (b : Nat → Int) (n w a : Nat) : Prop := kd b n a = 1 ∧ wc w = co b n a
theorem c_is {b : Nat → Int} {n a m w : Nat} {c so nu : F1} {iv : IV} {rv : RV} {K : Int → Prop} (hw : w < 51) (hs : ∀ cd, amg cd (bs w) 0 0 = if wc w = cd then 0 else -1) (C : CR b n a m c so nu iv) (h1 : Unit → isWd b n w a → K 0) (h0 : Unit → ¬ isWd b n w a → K (-1)) : wp_X7_among w iv rv K := by
  have t := C.2.2.2.1
  refine c_among hw (fun z => ?_) (fun z => h0 () (fun q => z (t.1.trans q.1)))
  have k1 : kd b n a = 1 := by rw [← z]; exact t.1.symm
  rw [hs, t.2.2.1 (Or.inl k1)]
  by_cases e : wc w = co b n a
  · rw [if_pos e]; exact h1 () ⟨k1, e⟩
  · rw [if_neg e]; exact h0 () (fun q => e q.2)
def pw_good (b : Nat → Int) (n : Nat) (c so nu : F1) (m ta a : Nat) (F : Int → Nat → Prop) (S : Int × Nat × Nat → Prop) : Prop := (isWd b n 1 a → S (-2, nx b n a, ta)) ∧ (¬ isWd b n 1 a → pw_use b n c so nu m 1 1 a F S)
theorem q_good {b : Nat → Int} {n a m tc ta : Nat} {c so nu td : F1} {iv0 iv : IV} {rv : RV} {K0 X : IV → Prop} {F : Int → Nat → Prop} {S : Int × Nat × Nat → Prop} (h8 : tc < 8) (hnu : ∀ j, j < m → 0 ≤ nu j) (h : pw_good b n c so nu m ta a F S) (hF : Fl F iv0 K0) (fr : FrR iv0 iv) (C : CR b n a m c so nu iv) (D : CT tc td ta iv) (hS : ∀ q, S q → ∀ iv' : IV, FrR iv0 iv' → CR b n q.2.1 m c so nu iv' → CT (tc + 1) (up1 td tc q.1) q.2.2 iv' → X iv') : wp_X4_all iv rv (fun r iv' => (r ≠ 0 → X iv') ∧ (r = 0 → wp_X4_use 1 1 iv' rv (fun s iv2 => (s = 0 → K0 iv2) ∧ (¬ s = 0 → X iv2)))) := by
  refine c_is (by omega) am1 C (fun _ q => ⟨fun _ => ?_, fun y => absurd rfl y⟩) (fun _ q => ⟨fun y => absurd y (by decide), fun _ => ⟨fun y => absurd rfl y, fun _ => q_use (lo := 1) (hi := 1) h8 hnu (h.2 q) hF fr C D hS⟩⟩)
  refine c_adv C (by rw [q.1]; decide) (fun iv5 fr5 C5 => c_tell (D.congr fun k j q => fr5 k j (by omega)) h8 (fun iv6 fr6 D6 => ⟨fun _ => hS _ (h.1 q) iv6 (fr.tr fun k j q => by rw [fr6 _ _ (by omega) (by omega), fr5 _ _ (by omega)]) (C5.congr fun k j q => fr6 k j (by omega) (by omega)) D6, fun y => absurd y (by decide)⟩))
def pw_span (b : Nat → Int) (n a : Nat) (F : Int → Nat → Prop) (S : Int × Int × Nat → Prop) : Prop := pw_word b n 12 a F (fun a1 => pw_whole b n 0 999 a1 F (fun q => (isWd b n 48 q.2 → pw_whole b n q.1 (q.1 + 20) (nx b n q.2) F (fun q2 => S (q.1, q2.1, q2.2))) ∧ (¬ isWd b n 48 q.2 → S (q.1, q.1, q.2))))
theorem pw_whole.rng {b : Nat → Int} {n a : Nat} {lo hi : Int} {F : Int → Nat → Prop} {S : Int × Nat → Prop} (h : pw_whole b n lo hi a F S) : pw_whole b n lo hi a F (fun q => S q ∧ lo ≤ q.1 ∧ q.1 ≤ hi) := ⟨h.1, h.2.1, fun q r => ⟨h.2.2 q r, r.1, r.2⟩⟩
theorem q_span {b : Nat → Int} {n a m tc : Nat} {ta : Int} {c so nu td : F1} {iv0 iv : IV} {rv : RV} {K0 X : IV → Prop} {F : Int → Nat → Prop} {S : Int × Int × Nat → Prop} (h8 : tc < 7) (h : pw_span b n a F S) (hF : Fl F iv0 K0) (fr : FrR iv0 iv) (C : CR b n a m c so nu iv) (D : CT tc td ta iv) (hS : ∀ q, S q → ∀ iv' : IV, FrR iv0 iv' → CR b n q.2.2 m c so nu iv' → CT (tc + 2) (up1 (up1 td tc q.1) (tc + 1) q.2.1) ta iv' → X iv') : wp_X4_span iv rv (fun r iv' => (r = 0 → K0 iv') ∧ (¬ r = 0 → X iv')) := by
  refine c_word (by omega) am12 C D ⟨fun q iv1 f1 C1 D1 => ye_ ?_, fun q iv' f e1 e2 => no_ (no_ (hF _ _ (h.2 q) iv' (fr.tr f) e1 e2))⟩
  have h1 := (h.1 q).rng
  refine c_whole C1 D1 (by omega) ⟨fun q iv' f e1 e2 => ⟨fun y => absurd rfl y, fun _ => no_ (hF _ _ (h1.1 q) iv' ((fr.tr f1).tr f) e1 e2)⟩, fun q q2 iv' f e1 e2 => ⟨fun y => absurd rfl y, fun _ => no_ (hF _ _ (h1.2.1 q q2) iv' ((fr.tr f1).tr f) e1 e2)⟩, fun q q2 iv2 f2 C2 D2 => ⟨fun _ => ?_, fun y => absurd y (by decide)⟩⟩
  have h2 := h1.2.2 q q2
  generalize co b n (nx b n a) = v at *
  generalize nx b n (nx b n a) = a2 at *
  obtain ⟨⟨h2, h3⟩, v0, v9⟩ := h2
  have fr2 := (fr.tr f1).tr f2
  refine c_latest (k := 0) D2 (by omega) (by omega) ?_
  rw [show tc + 1 - 1 - 0 = tc from rfl, up1_eq]
  refine c_is (by omega) am48 C2 (fun _ y => ⟨fun _ => ?_, fun y => absurd rfl y⟩) (fun _ y => ⟨fun y => absurd y (by decide), fun _ => ?_⟩)
  · refine c_adv C2 (by rw [y.1]; decide) (fun iv3 f3 C3 => ?_)
    rw [w32_id (x := v + 20) (by omega) (by omega)]
    have h4 := h2 y
    refine c_whole C3 (D2.congr fun k j q => f3 k j (by omega)) (by omega) ⟨fun q iv' f e1 e2 => no_ (hF _ _ (h4.1 q) iv' (fr2.tr fun k j q => by rw [f _ _ q, f3 _ _ (by omega)]) e1 e2), fun q q2 iv' f e1 e2 => no_ (hF _ _ (h4.2.1 q q2) iv' (fr2.tr fun k j q => by rw [f _ _ q, f3 _ _ (by omega)]) e1 e2), fun q q2 iv' f C' D' => ye_ (hS _ (h4.2.2 q q2) iv' (fr2.tr fun k j q => by rw [f _ _ q, f3 _ _ (by omega)]) C' D')⟩
  · exact c_tell D2 (by omega) (fun iv3 f3 D3 => ye_ (hS _ (h3 y) iv3 (fr2.tr fun k j q => f3 k j (by omega) (by omega)) (C2.congr fun k j q => f3 k j (by omega) (by omega)) D3))
