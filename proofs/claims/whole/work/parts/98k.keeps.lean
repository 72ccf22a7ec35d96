/-! THE READER: what the class keeps of a line -/
/-- the realm that is read, row by row -/
def CHr (h : Nat) (R iv : IV) : Prop := ∀ k j, 1 ≤ k ∧ k ≤ 18 → iv (h + k) j = R k j
def FrH (h : Nat) (iv iv' : IV) : Prop := ∀ k j, ¬ (h + 1 ≤ k ∧ k ≤ h + 18) → iv' k j = iv k j
theorem HW {h k j : Nat} {v : Int} {R iv0 iv iv' : IV} (hk : 1 ≤ k ∧ k ≤ 18) (H : CHr h R iv) (fr : FrH h iv0 iv) (e : iv' = w2 iv (h + k) j v) : CHr h (w2 R k j v) iv' ∧ FrH h iv0 iv' := by
  refine ⟨fun k' j' q => ?_, fun k' j' q => ?_⟩
  · rw [e]
    by_cases z : k' = k ∧ j' = j
    · rw [z.1, z.2, w2_eq, w2_eq]
    · rw [w2_ne z, w2_ne (by omega)]; exact H k' j' q
  · rw [e, w2_ne (by omega)]; exact fr k' j' q
theorem CHr.congr {h : Nat} {R iv iv' : IV} (H : CHr h R iv) (hh : h = 2 ∨ h = 21) (fr : FrR iv iv') : CHr h R iv' := fun k j q => by
  rw [fr _ _ (by omega)]; exact H k j q
theorem k_man {h x : Nat} {tc : Nat} {ta : Int} {td : F1} {R iv : IV} {rv : RV} {K0 X : IV → Prop} (hh : h = 2 ∨ h = 21) (hr : gR rv 40 5 = h) (hx : x < 6) (H : CHr h R iv) (D : CT tc td ta iv) (h2 : 2 ≤ tc) (hX : ∀ iv' : IV, FrH h iv iv' → CHr h (w2 (w2 R 2 x (td 0)) 3 x (td 1)) iv' → X iv') : wp_X4_keepMan x iv rv (fun r iv' => (r = 0 → K0 iv') ∧ (¬ r = 0 → X iv')) := by
  refine ⟨⟨by omega, by omega⟩, fun iv2 e2 => ⟨⟨by omega, by omega⟩, fun iv4 e4 => ?_⟩⟩
  rw [hr, Int.toNat_natCast, D.2.1 0 (by omega)] at e2
  obtain ⟨H2, f2⟩ := HW (by omega) H (fun _ _ _ => rfl) e2
  rw [hr, Int.toNat_natCast, f2 45 1 (by omega), D.2.1 1 (by omega)] at e4
  obtain ⟨H4, f4⟩ := HW (by omega) H2 f2 e4
  exact ye_ (hX iv4 f4 H4)
theorem k_link {h : Nat} {l : Nat} {w : Int} {tc : Nat} {ta : Int} {td : F1} {R iv : IV} {rv : RV} {K0 X : IV → Prop} (hh : h = 2 ∨ h = 21) (hr : gR rv 40 5 = h) (hl : R 1 3 + R 1 4 = (l : Nat)) (hx : l < 20) (H : CHr h R iv) (D : CT tc td ta iv) (h2 : 3 ≤ tc) (hX : ∀ iv' : IV, FrH h iv iv' → CHr h (w2 (w2 (w2 (w2 R 4 l (td 0)) 5 l (td 1)) 6 l (td 2)) 7 l w) iv' → X iv') : wp_X4_keepLink w iv rv (fun r iv' => (r = 0 → K0 iv') ∧ (¬ r = 0 → X iv')) := by
  show wp_X5_links _ _ _ _
  rw [hr]
  unfold wp_X5_links
  rw [H 1 3 (by omega), H 1 4 (by omega), hl, w32_id (by omega) (by omega)]
  refine ⟨fun y => by omega, fun _ => ⟨⟨by omega, by omega⟩, fun iv2 e2 => ⟨⟨by omega, by omega⟩, fun iv4 e4 => ⟨⟨by omega, by omega⟩, fun iv6 e6 => ⟨⟨by omega, by omega⟩, fun iv8 e8 => ?_⟩⟩⟩⟩⟩
  rw [Int.toNat_natCast, D.2.1 0 (by omega)] at e2
  obtain ⟨H2, f2⟩ := HW (by omega) H (fun _ _ _ => rfl) e2
  rw [Int.toNat_natCast, f2 45 1 (by omega), D.2.1 1 (by omega)] at e4
  obtain ⟨H4, f4⟩ := HW (by omega) H2 f2 e4
  rw [Int.toNat_natCast, f4 45 2 (by omega), D.2.1 2 (by omega)] at e6
  obtain ⟨H6, f6⟩ := HW (by omega) H4 f4 e6
  rw [Int.toNat_natCast] at e8
  obtain ⟨H8, f8⟩ := HW (by omega) H6 f6 e8
  exact ye_ (hX iv8 f8 H8)
theorem k_grant {h x : Nat} {tc : Nat} {ta : Int} {td : F1} {R iv : IV} {rv : RV} {K0 X : IV → Prop} (hh : h = 2 ∨ h = 21) (hr : gR rv 40 5 = h) (hx : x < 16) (H : CHr h R iv) (D : CT tc td ta iv) (h2 : 5 ≤ tc) (hX : ∀ iv' : IV, FrH h iv iv' → CHr h (w2 (w2 (w2 (w2 (w2 R 11 x (td 0)) 12 x (td 1)) 13 x (td 2)) 8 x (td 3)) 9 x (td 4)) iv' → X iv') : wp_X4_keepGrant x iv rv (fun r iv' => (r = 0 → K0 iv') ∧ (¬ r = 0 → X iv')) := by
  refine ⟨⟨by omega, by omega⟩, fun iv2 e2 => ⟨⟨by omega, by omega⟩, fun iv4 e4 => ⟨⟨by omega, by omega⟩, fun iv6 e6 => ⟨⟨by omega, by omega⟩, fun iv8 e8 => ⟨⟨by omega, by omega⟩, fun iv10 e10 => ?_⟩⟩⟩⟩⟩
  rw [hr, Int.toNat_natCast, D.2.1 0 (by omega)] at e2
  obtain ⟨H2, f2⟩ := HW (by omega) H (fun _ _ _ => rfl) e2
  rw [hr, Int.toNat_natCast, f2 45 1 (by omega), D.2.1 1 (by omega)] at e4
  obtain ⟨H4, f4⟩ := HW (by omega) H2 f2 e4
  rw [hr, Int.toNat_natCast, f4 45 2 (by omega), D.2.1 2 (by omega)] at e6
  obtain ⟨H6, f6⟩ := HW (by omega) H4 f4 e6
  rw [hr, Int.toNat_natCast, f6 45 3 (by omega), D.2.1 3 (by omega)] at e8
  obtain ⟨H8, f8⟩ := HW (by omega) H6 f6 e8
  rw [hr, Int.toNat_natCast, f8 45 4 (by omega), D.2.1 4 (by omega)] at e10
  obtain ⟨H10, f10⟩ := HW (by omega) H8 f8 e10
  exact ye_ (hX iv10 f10 H10)
theorem k_renewal {h x : Nat} {tc : Nat} {ta : Int} {td : F1} {R iv : IV} {rv : RV} {K0 X : IV → Prop} (hh : h = 2 ∨ h = 21) (hr : gR rv 40 5 = h) (hx : x < 4) (H : CHr h R iv) (D : CT tc td ta iv) (h2 : 3 ≤ tc) (hX : ∀ iv' : IV, FrH h iv iv' → CHr h (w2 (w2 (w2 R 14 x (td 0)) 15 x (td 1)) 16 x (td 2)) iv' → X iv') : wp_X4_keepRenewal x iv rv (fun r iv' => (r = 0 → K0 iv') ∧ (¬ r = 0 → X iv')) := by
  refine ⟨⟨by omega, by omega⟩, fun iv2 e2 => ⟨⟨by omega, by omega⟩, fun iv4 e4 => ⟨⟨by omega, by omega⟩, fun iv6 e6 => ?_⟩⟩⟩
  rw [hr, Int.toNat_natCast, D.2.1 0 (by omega)] at e2
  obtain ⟨H2, f2⟩ := HW (by omega) H (fun _ _ _ => rfl) e2
  rw [hr, Int.toNat_natCast, f2 45 1 (by omega), D.2.1 1 (by omega)] at e4
  obtain ⟨H4, f4⟩ := HW (by omega) H2 f2 e4
  rw [hr, Int.toNat_natCast, f4 45 2 (by omega), D.2.1 2 (by omega)] at e6
  obtain ⟨H6, f6⟩ := HW (by omega) H4 f4 e6
  exact ye_ (hX iv6 f6 H6)
/-- a law's four words as bits -/
def lwb (t : F1) : Int := (Int32.ofInt ((Int32.ofInt ((Int32.ofInt (t 0) ||| Int32.ofInt ((Int32.ofInt (t 1) <<< (Int32.ofInt 1 &&& 31)).toInt)).toInt) ||| Int32.ofInt ((Int32.ofInt (t 2) <<< (Int32.ofInt 2 &&& 31)).toInt)).toInt) ||| Int32.ofInt ((Int32.ofInt (t 3) <<< (Int32.ofInt 3 &&& 31)).toInt)).toInt
theorem lwb_eq {t : F1} (h0 : t 0 = 0 ∨ t 0 = 1) (h1 : t 1 = 0 ∨ t 1 = 1) (h2 : t 2 = 0 ∨ t 2 = 1) (h3 : t 3 = 0 ∨ t 3 = 1) : lwb t = t 0 + 2 * t 1 + 4 * t 2 + 8 * t 3 := by
  unfold lwb
  rcases h0 with h0 | h0 <;> rcases h1 with h1 | h1 <;> rcases h2 with h2 | h2 <;> rcases h3 with h3 | h3 <;> rw [h0, h1, h2, h3] <;> decide
theorem k_law {h x : Nat} {tc : Nat} {ta : Int} {td : F1} {R iv : IV} {rv : RV} {K0 X : IV → Prop} (hh : h = 2 ∨ h = 21) (hr : gR rv 40 5 = h) (hx : x < 3) (H : CHr h R iv) (D : CT tc td ta iv) (h2 : 4 ≤ tc) (hX : ∀ iv' : IV, FrH h iv iv' → CHr h (w2 R 17 x (lwb td)) iv' → X iv') : wp_X4_keepLaw x iv rv (fun r iv' => (r = 0 → K0 iv') ∧ (¬ r = 0 → X iv')) := by
  refine ⟨⟨by omega, by omega⟩, fun iv2 e2 => ?_⟩
  rw [hr, Int.toNat_natCast, D.2.1 0 (by omega), D.2.1 1 (by omega), D.2.1 2 (by omega), D.2.1 3 (by omega)] at e2
  obtain ⟨H2, f2⟩ := HW (by omega) H (fun _ _ _ => rfl) (show iv2 = w2 iv (h + 17) x (lwb td) from e2)
  exact ye_ (hX iv2 f2 H2)
def crt (R : IV) (x : Nat) (td : F1) : IV := fun k j => if k = 18 ∧ x * 7 ≤ j ∧ j < x * 7 + 7 then td (j - x * 7) else R k j
theorem k_cart {h x : Nat} {tc : Nat} {ta : Int} {td : F1} {R iv : IV} {rv : RV} {K0 X : IV → Prop} (hh : h = 2 ∨ h = 21) (hr : gR rv 40 5 = h) (hx : x < 6) (H : CHr h R iv) (D : CT tc td ta iv) (h2 : 7 ≤ tc) (hX : ∀ iv' : IV, FrH h iv iv' → CHr h (crt R x td) iv' → X iv') : wp_X4_keepCart x iv rv (fun r iv' => (r = 0 → K0 iv') ∧ (¬ r = 0 → X iv')) := by
  have ew : Unit → w32 ((x : Int) * 7) = ((x * 7 : Nat) : Int) := fun _ => by rw [w32_id (by omega) (by omega)]; omega
  unfold wp_X4_keepCart
  rw [ew (), hr, Int.toNat_natCast]
  refine ⟨⟨by omega, by omega, by omega, by omega, by omega⟩, fun iv2 e2 => ye_ (hX iv2 (fun k j q => ?_) (fun k j q => ?_))⟩
  · rw [e2]; exact if_neg (fun z => q ⟨by omega, by omega⟩)
  · rw [e2]
    by_cases z : k = 18 ∧ x * 7 ≤ j ∧ j < x * 7 + 7
    · have l : cpy iv 45 (h + 18) 0 (x * 7) 7 (h + k) j = iv 45 (0 + (j - x * 7)) := if_pos ⟨by omega, z.2⟩
      have r : crt R x td k j = td (j - x * 7) := if_pos z
      rw [l, r, Nat.zero_add]; exact D.2.1 _ (by omega)
    · have l : cpy iv 45 (h + 18) 0 (x * 7) 7 (h + k) j = iv (h + k) j := if_neg (fun y => z ⟨by omega, y.2⟩)
      have r : crt R x td k j = R k j := if_neg z
      rw [l, r]; exact H k j q
def pw_loss (b : Nat → Int) (n : Nat) (R : IV) (g ta a : Nat) (F : Int → Nat → Prop) (S : IV × Nat → Prop) : Prop := (R 10 g ≠ 0 → F 3 ta) ∧ (R 10 g = 0 → isWd b n 9 a → S (w2 R 10 g 2, nx b n a)) ∧ (R 10 g = 0 → ¬ isWd b n 9 a → S (w2 R 10 g 1, a))
theorem w2_w2 {R : IV} {k j : Nat} {u v : Int} : w2 (w2 R k j u) k j v = w2 R k j v := by
  funext a c
  by_cases z : a = k ∧ c = j
  · rw [z.1, z.2, w2_eq, w2_eq]
  · rw [w2_ne z, w2_ne z, w2_ne z]
theorem k_loss {b : Nat → Int} {n a m : Nat} {c so nu : F1} {h g : Nat} {tc ta : Nat} {td : F1} {R iv0 iv : IV} {rv : RV} {K0 X : IV → Prop} {F : Int → Nat → Prop} {S : IV × Nat → Prop} (hh : h = 2 ∨ h = 21) (hr : gR rv 40 5 = h) (hx : g < 16) (p : pw_loss b n R g ta a F S) (hF : Fl F iv0 K0) (fr : FrR iv0 iv) (C : CR b n a m c so nu iv) (H : CHr h R iv) (D : CT tc td ta iv) (hX : ∀ q, S q → ∀ iv' : IV, (∀ k j, ¬ (h + 1 ≤ k ∧ k ≤ h + 18) → ¬ (40 ≤ k ∧ k ≤ 46) → iv' k j = iv k j) → CR b n q.2 m c so nu iv' → CHr h q.1 iv' → X iv') : wp_X4_keepLoss g iv rv (fun r iv' => (r = 0 → K0 iv') ∧ (¬ r = 0 → X iv')) := by
  unfold wp_X4_keepLoss
  rw [hr, Int.toNat_natCast, H 10 g (by omega)]
  refine ⟨⟨by omega, by omega⟩, fun z => ⟨⟨by omega, by omega⟩, fun iv4 e4 => ?_⟩, fun z iv1 e1 iv2 e2 => no_ (hF _ _ (p.1 z) iv2 (fr.tr fun k j q => by rw [e2, w2_ne (by omega), e1, w2_ne (by omega)]) (by rw [e2, w2_ne (by omega), e1, w2_eq]) (by rw [e2, w2_eq]; exact D.2.2))⟩
  obtain ⟨H4, f4⟩ := HW (by omega) H (fun _ _ _ => rfl) e4
  have C4 := C.congr (iv' := iv4) fun k j q => f4 k j (by omega)
  refine c_is (by omega) am9 C4 (fun _ y => ⟨fun u => absurd rfl u, fun _ => ⟨⟨by omega, by omega⟩, fun iv8 e8 => ?_⟩⟩) (fun _ y => ⟨fun _ => ye_ (hX _ (p.2.2 z y) iv4 (fun k j q _ => f4 k j q) C4 H4), fun u => absurd u (by decide)⟩)
  obtain ⟨H8, f8⟩ := HW (by omega) H4 f4 e8
  have C8 := C.congr (iv' := iv8) fun k j q => f8 k j (by omega)
  rw [w2_w2] at H8
  exact c_adv C8 (by rw [y.1]; decide) (fun iv9 f9 C9 => ye_ (hX _ (p.2.1 z y) iv9 (fun k j q1 q2 => by rw [f9 _ _ (by omega)]; exact f8 k j q1) C9 (fun k j q => by rw [f9 _ _ (by omega)]; exact H8 k j q)))
