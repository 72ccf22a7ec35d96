/-! CALLS: what every call that may be refused shares -/
def nsc (k j : Nat) : Prop := (k < 40 ∧ ¬ (k = 0 ∧ j = 7)) ∨ (k = 40 ∧ (j = 6 ∨ j = 7)) ∨ (63 ≤ k ∧ k ≤ 65) ∨ (k = 66 ∧ (j = 6 ∨ j = 12 ∨ j = 27 ∨ j = 28 ∨ j = 29)) ∨ k = 67 ∨ k = 73 ∨ k = 74 ∨ 80 ≤ k
theorem scr_nsc {k j : Nat} (h : scr k j = false) (h1 : ¬ (k = 0 ∧ j = 7)) (h2 : ¬ (k = 66 ∧ (j = 0 ∨ j = 1 ∨ j = 2))) : nsc k j := by
  unfold scr at h
  simp only [Bool.or_eq_false_iff, Bool.and_eq_false_iff, Bool.not_eq_false', Bool.or_eq_true, beq_eq_false_iff_ne, beq_iff_eq, decide_eq_false_iff_not] at h
  unfold nsc
  omega
theorem Inv.fin {n : Nat} {iv iv' : IV} {rv : RV} (h : Inv n iv rv) (he : ∀ k j, nsc k j → iv' k j = iv k j) (h1 : iv' 66 1 = iv' 0 7) (h4 : iv' 0 7 ≠ 4) (h2 : iv' 66 2 = -1) : Inv n iv' rv := by
  have a : Inv n (fun k j => if scr k j = true then iv k j else iv' k j) rv := by
    refine h.ans (c := iv' 0 7) (fun k j p1 p2 => ?_) rfl h1 h2 h4
    show (if scr k j = true then iv k j else iv' k j) = iv k j
    by_cases z : scr k j = true
    · rw [if_pos z]
    · rw [if_neg z]
      exact he k j (scr_nsc (by simpa using z) p1 p2)
  refine a.congr (fun k j hs => ?_)
  show iv' k j = if scr k j = true then iv k j else iv' k j
  rw [hs]
  rfl
def rvo (rv : RV) (h : Nat) : RV := r2 (r2 rv 47 3 (some h)) 51 6 (some h)
theorem rvo_ne {rv : RV} {h a b : Nat} (h1 : ¬ (a = 47 ∧ b = 3)) (h2 : ¬ (a = 51 ∧ b = 6)) : rvo rv h a b = rv a b := by
  unfold rvo
  rw [r2_ne h2, r2_ne h1]
theorem rvo_51 {rv : RV} {h : Nat} : rvo rv h 51 6 = some h := r2_eq
theorem rvo_47 {rv : RV} {h : Nat} : rvo rv h 47 3 = some h := by
  unfold rvo
  rw [r2_ne (by omega), r2_eq]
theorem lnkL_no : ∀ q ∈ lnkL, ¬ (q.1 = 47 ∧ q.2.1 = 3) ∧ ¬ (q.1 = 51 ∧ q.2.1 = 6) := by decide
theorem lnkA_no : ∀ q ∈ lnkA, ¬ (q.1 = 47 ∧ q.2.1 = 3) ∧ ¬ (q.1 = 51 ∧ q.2.1 = 6) := by decide
theorem lnkB_no : ∀ q ∈ lnkB, ¬ (q.1 = 47 ∧ q.2.1 = 3) ∧ ¬ (q.1 = 51 ∧ q.2.1 = 6) := by decide
theorem gR_rvo {rv : RV} {h a b : Nat} (h1 : ¬ (a = 47 ∧ b = 3)) (h2 : ¬ (a = 51 ∧ b = 6)) : gR (rvo rv h) a b = gR rv a b := by
  unfold gR
  rw [rvo_ne h1 h2]
theorem Lk.rvo {n : Nat} {rv : RV} {h : Nat} (hL : Lk n rv) (hh : h = 2 ∨ h = 21) : Lk n (rvo rv h) := by
  obtain ⟨a1, a2, a3, a4, a5, ⟨b1, b2, b3, b4, b5⟩, a7, a8⟩ := hL
  refine ⟨a1, a2, fun q hq => ?_, fun c q hq => ?_, fun c q hq => ?_, ⟨?_, ?_, ?_, ?_, ?_⟩, ?_, ?_⟩
  · rw [rvo_ne (lnkL_no q hq).1 (lnkL_no q hq).2]; exact a3 q hq
  · rw [rvo_ne (lnkA_no q hq).1 (lnkA_no q hq).2]; exact a4 c q hq
  · rw [rvo_ne (lnkB_no q hq).1 (lnkB_no q hq).2]; exact a5 c q hq
  · unfold hR5 at *; rw [gR_rvo (by omega) (by omega), rvo_ne (by omega) (by omega)]; exact b1
  · unfold hR5 at *; rw [gR_rvo (by omega) (by omega), rvo_ne (by omega) (by omega)]; exact b2
  · unfold hR5 at *; rw [gR_rvo (by omega) (by omega), rvo_ne (by omega) (by omega)]; exact b3
  · unfold hR5; rw [gR_of rvo_47]; exact ⟨rvo_47, hh⟩
  · unfold hR5; rw [gR_of rvo_51]; exact ⟨rvo_51, hh⟩
  · rw [rvo_ne (by omega) (by omega)]; exact a7
  · rw [rvo_ne (by omega) (by omega)]; exact a8
theorem Inv.rvo {n : Nat} {iv : IV} {rv : RV} {h : Nat} (hI : Inv n iv rv) (hh : h = 2 ∨ h = 21) : Inv n iv (rvo rv h) := by
  obtain ⟨a1, a2, a3, a4, a5, a6, a7⟩ := hI
  unfold Inv
  rw [gR_rvo (by omega) (by omega), rvo_ne (by omega) (by omega), rvo_ne (by omega) (by omega), rvo_ne (by omega) (by omega)]
  exact ⟨a1.rvo hh, a2, a3, a4, a5, a6, a7⟩
/-- what the reference has of a realm -/
def MC (R : Nat → Nat → Int) (iv : IV) (rv : RV) : Prop := (rv 66 3 = some 80 ∧ RM R iv) ∨ (rv 66 3 = none ∧ ∀ s, s < 12 → R 1 s = 0)
theorem Inv.mc {n : Nat} {iv : IV} {rv : RV} (h : Inv n iv rv) : MC (Rw iv (gR rv 0 2)) iv rv := by
  rcases h.2.1 with rfl | rfl
  · exact Or.inr (h.2.2.2.2.2.1 rfl)
  · exact Or.inl (h.2.2.2.2.2.2 rfl)
theorem MC.congr {R : Nat → Nat → Int} {iv iv' : IV} {rv rv' : RV} (h : MC R iv rv) (he : ∀ k j, 80 ≤ k → iv' k j = iv k j) (hr : rv' 66 3 = rv 66 3) : MC R iv' rv' := by
  unfold MC at *
  rw [hr]
  rcases h with h | h
  · exact Or.inl ⟨h.1, h.2.congr he⟩
  · exact Or.inr h
theorem m_has {R : Nat → Nat → Int} {iv : IV} {rv : RV} {a : Int} {s : Nat} {K : Int → Prop} (hs : s < 12) (hM : MC R iv rv) (h1 : 0 ≤ a → a < R 1 s → rv 66 3 = some 80 → RM R iv → K 1) (h0 : ¬ (0 ≤ a ∧ a < R 1 s) → K 0) :
    (∀ z, rv 66 3 = some z → z = 80) ∧ ((rv 66 3 = none) → (K 0)) ∧ ((¬ (rv 66 3 = none)) → (((a < 0) → (K 0)) ∧ ((¬ (a < 0)) → ((rv 66 3 = some 80) ∧ (((iv 80 s) ≤ a) → (K 0)) ∧ ((¬ ((iv 80 s) ≤ a)) → (K 1)))))) := by
  rcases hM with ⟨m1, m2⟩ | ⟨m1, m2⟩
  · rw [m1, m2.1 s hs]
    refine ⟨fun z e => by cases e; rfl, fun c => (by cases c), fun _ => ⟨fun z => h0 (by omega), fun z => ⟨rfl, fun y => h0 (by omega), fun y => h1 (by omega) (by omega) m1 m2⟩⟩⟩
  · rw [m1]
    have := m2 s hs
    exact ⟨fun z e => (by cases e), fun _ => h0 (by omega), fun c => absurd rfl c⟩
theorem m_isCart {R : Nat → Nat → Int} {iv : IV} {rv : RV} {a : Int} {K : Int → Prop} (hM : MC R iv rv) (h1 : 0 ≤ a → a < R 1 11 → rv 66 3 = some 80 → RM R iv → K 1) (h0 : ¬ (0 ≤ a ∧ a < R 1 11) → K 0) : wp_X12_isCart a iv rv K := m_has (by omega) hM h1 h0
theorem m_isLaw {R : Nat → Nat → Int} {iv : IV} {rv : RV} {a : Int} {K : Int → Prop} (hM : MC R iv rv) (h1 : 0 ≤ a → a < R 1 10 → rv 66 3 = some 80 → RM R iv → K 1) (h0 : ¬ (0 ≤ a ∧ a < R 1 10) → K 0) : wp_X12_isLaw a iv rv K := m_has (by omega) hM h1 h0
theorem m_isBridge {R : Nat → Nat → Int} {iv : IV} {rv : RV} {a : Int} {K : Int → Prop} (hM : MC R iv rv) (h1 : 0 ≤ a → a < R 1 4 → rv 66 3 = some 80 → RM R iv → K 1) (h0 : ¬ (0 ≤ a ∧ a < R 1 4) → K 0) : wp_X12_isBridge a iv rv K := m_has (by omega) hM h1 h0
theorem m_isPlace {R : Nat → Nat → Int} {iv : IV} {rv : RV} {a : Int} {K : Int → Prop} (hM : MC R iv rv) (h1 : 0 ≤ a → a < R 1 0 → rv 66 3 = some 80 → RM R iv → K 1) (h0 : ¬ (0 ≤ a ∧ a < R 1 0) → K 0) : wp_X12_isPlace a iv rv K := m_has (by omega) hM h1 h0
theorem m_isG {R : Nat → Nat → Int} {a : Int} {iv : IV} {rv : RV} {K : Int → Prop} (hM : MC R iv rv) (hc : RC R) (h1 : rv 66 3 = some 80 → RM R iv → hasI R a → K 1) (h0 : ¬ hasI R a → K 0) : wp_X12_isGrant a iv rv K := by
  have hi := hasI_iff (R := R) (a := a) hc
  rcases hM with ⟨m1, m2⟩ | ⟨m1, m2⟩
  · have r5' : 0 ≤ R 1 5 ∧ R 1 5 ≤ 6 := hc.1 5 (by omega)
    have r6' : 0 ≤ R 1 6 ∧ R 1 6 ≤ 6 := hc.1 6 (by omega)
    have r7' : 0 ≤ R 1 7 ∧ R 1 7 ≤ 4 := hc.1 7 (by omega)
    have s5 := m2.1 5 (by omega)
    have s6 := m2.1 6 (by omega)
    have s7 := m2.1 7 (by omega)
    have e6 : w32 (6 + iv 80 6) = 6 + iv 80 6 := w32_id (by omega) (by omega)
    have e7 : w32 (12 + iv 80 7) = 12 + iv 80 7 := w32_id (by omega) (by omega)
    unfold wp_X12_isGrant wp_X11_isGrant bd_X11_isGrant_12 bd_X11_isGrant_29 bd_X11_isGrant_46
    rw [e6, e7]
    refine ⟨fun z e => by rw [m1] at e; cases e; rfl, fun c => by rw [m1] at c; (cases c), fun _ => ⟨m1, ?_⟩⟩
    by_cases hx : hasI R a
    · have y := h1 m1 m2 hx
      rw [hi] at hx
      (repeat' (first | exact y | intro _ | refine And.intro ?_ ?_)) <;> omega
    · have y := h0 hx
      rw [hi] at hx
      (repeat' (first | exact y | intro _ | refine And.intro ?_ ?_)) <;> omega
  · have z5 := m2 5 (by omega)
    have z6 := m2 6 (by omega)
    have z7 := m2 7 (by omega)
    refine ⟨fun z e => by rw [m1] at e; (cases e), fun _ => h0 (by rw [hi]; omega), fun c => absurd m1 c⟩
theorem c_has {h : Nat} {R : Nat → Nat → Int} {iv : IV} {rv : RV} {a : Int} {s : Nat} {K : Int → Prop} (hR : ∀ r i, r < 19 → iv (h + r) i = R r i) (hs : s < 12) (h1 : 0 ≤ a → a < R 1 s → K 1) (h0 : ¬ (0 ≤ a ∧ a < R 1 s) → K 0) : wp_X5_has h s a iv rv K := by
  have ts : ((s : Int)).toNat = s := Int.toNat_natCast s
  unfold wp_X5_has
  rw [ts, hR 1 s (by omega)]
  exact ⟨fun z => h0 (by omega), fun z => ⟨⟨by omega, by omega⟩, fun y => h0 (by omega), fun y => h1 (by omega) (by omega)⟩⟩
/-- the words of a law -/
def lf (R : Nat → Nat → Int) (law : Nat) : F1 := fun j => if j = 7 then R 17 law % 2 else if j = 8 then R 17 law / 2 % 2 else if j = 9 then 1 - R 17 law / 4 % 2 else if j = 10 then 1 - R 17 law / 8 % 2 else -1
theorem lf7 {R : Nat → Nat → Int} {law : Nat} : lf R law 7 = R 17 law % 2 := rfl
theorem lf8 {R : Nat → Nat → Int} {law : Nat} : lf R law 8 = R 17 law / 2 % 2 := rfl
theorem lf9 {R : Nat → Nat → Int} {law : Nat} : lf R law 9 = 1 - R 17 law / 4 % 2 := rfl
theorem lf10 {R : Nat → Nat → Int} {law : Nat} : lf R law 10 = 1 - R 17 law / 8 % 2 := rfl
theorem lf12 {R : Nat → Nat → Int} {law : Nat} : lf R law 12 = -1 := rfl
theorem lf_sup {R : Nat → Nat → Int} {law : Nat} : Sup (lf R law) := Or.inl rfl
theorem bits (x : Int) (h0 : 0 ≤ x) (h1 : x ≤ 15) : ((Int32.ofInt x &&& Int32.ofInt 1).toInt = 0 ↔ x % 2 = 0) ∧ ((Int32.ofInt x &&& Int32.ofInt 2).toInt = 0 ↔ x / 2 % 2 = 0) ∧ ((Int32.ofInt x &&& Int32.ofInt 4).toInt = 0 ↔ x / 4 % 2 = 0) ∧ ((Int32.ofInt x &&& Int32.ofInt 8).toInt = 0 ↔ x / 8 % 2 = 0) := by
  have : x = 0 ∨ x = 1 ∨ x = 2 ∨ x = 3 ∨ x = 4 ∨ x = 5 ∨ x = 6 ∨ x = 7 ∨ x = 8 ∨ x = 9 ∨ x = 10 ∨ x = 11 ∨ x = 12 ∨ x = 13 ∨ x = 14 ∨ x = 15 := by omega
  rcases this with rfl | rfl | rfl | rfl | rfl | rfl | rfl | rfl | rfl | rfl | rfl | rfl | rfl | rfl | rfl | rfl <;> decide
theorem cpy_at {iv : IV} {k0 k1 : Nat} {m j : Nat} (h : j < m) : cpy iv k0 k1 0 0 m k1 j = iv k0 j := by
  unfold cpy
  rw [if_pos ⟨rfl, by omega, by omega⟩]
  congr 1
  omega
theorem c_open73 {h : Nat} {R : Nat → Nat → Int} {iv ia ib ic : IV} {rv : RV} {law : Nat} {K : IV → RV → Prop} {b7 b8 b9 b10 : Int} (hh : h = 2 ∨ h = 21) (g6 : gR (rvo rv h) 51 6 = h) (hR : ∀ r i, r < 19 → iv (h + r) i = R r i) (p7 : b7 = lf R law 7) (p8 : b8 = lf R law 8) (p9 : b9 = lf R law 9) (p10 : b10 = lf R law 10) (hb : b10 = 0 ∨ b10 = 1)
    (ea : ia = w2 iv 51 7 b7) (eb : ib = w2 ia 51 8 b8) (ec : ic = w2 ib 51 9 b9)
    (hK : ∀ iv', (∀ k j, ¬ (51 ≤ k ∧ k ≤ 53) → iv' k j = iv k j) → CS h R (R 8) (R 10) (lf R law) iv' → K iv' (rvo rv h)) : bd_X6_open_73 h b10 ic (rvo rv h) (fun iv2 rv3 => K iv2 rv3) := by
  refine ⟨hb, fun id ed ie ee ig eg ih_ eh => ?_⟩
  rw [g6] at eg eh
  clear hb
  have b0 : ∀ k j, k ≠ 51 → ie k j = iv k j := fun k j q => by rw [ee, w2_ne (by omega), ed, w2_ne (by omega), ec, w2_ne (by omega), eb, w2_ne (by omega), ea, w2_ne (by omega)]
  have b1 : ∀ j, ih_ 51 j = ie 51 j := fun j => by rw [eh, cpy_row (by omega), eg, cpy_row (by omega)]
  have fr : ∀ k j, ¬ (51 ≤ k ∧ k ≤ 53) → ih_ k j = iv k j := fun k j q => by rw [eh, cpy_row (by omega), eg, cpy_row (by omega)]; exact b0 k j (by omega)
  refine hK ih_ fr ⟨fun r i hr => ?_, fun g hg => ⟨?_, ?_⟩, fun j j1 j2 => ?_, ?_, fun z => absurd rfl z⟩
  · rw [fr _ _ (by omega)]; exact hR r i hr
  · rw [eh, cpy_row (by omega), eg, cpy_at hg, b0 _ _ (by omega)]
    exact hR 8 g (by omega)
  · rw [eh, cpy_at hg, eg, cpy_row (by omega), b0 _ _ (by omega)]
    exact hR 10 g (by omega)
  · rw [b1]
    have : j = 7 ∨ j = 8 ∨ j = 9 ∨ j = 10 := by omega
    rcases this with rfl | rfl | rfl | rfl
    · rw [ee, w2_ne (by omega), ed, w2_ne (by omega), ec, w2_ne (by omega), eb, w2_ne (by omega), ea, w2_eq]; exact p7
    · rw [ee, w2_ne (by omega), ed, w2_ne (by omega), ec, w2_ne (by omega), eb, w2_eq]; exact p8
    · rw [ee, w2_ne (by omega), ed, w2_ne (by omega), ec, w2_eq]; exact p9
    · rw [ee, w2_ne (by omega), ed, w2_eq]; exact p10
  · rw [b1, ee, w2_eq]; rfl
theorem c_open {h : Nat} {R : Nat → Nat → Int} {iv : IV} {rv : RV} {law : Nat} {K : IV → RV → Prop} (hh : h = 2 ∨ h = 21) (hR : ∀ r i, r < 19 → iv (h + r) i = R r i) (hc : RC R) (hM : RM R iv) (hl : (law : Int) < R 1 10)
    (hK : ∀ iv', (∀ k j, ¬ (51 ≤ k ∧ k ≤ 53) → iv' k j = iv k j) → CS h R (R 8) (R 10) (lf R law) iv' → K iv' (rvo rv h)) : wp_X1_open h law iv rv K := by
  have l3 : R 1 10 ≤ 3 := (hc.1 10 (by omega)).2
  obtain ⟨q1, q2, q3, q4, q5⟩ := hM.2.2.2.2.2.2.1 law hl
  have tl : ((law : Int)).toNat = law := Int.toNat_natCast law
  have r0 : 0 ≤ R 17 law ∧ R 17 law ≤ 15 := by omega
  clear q1 q2 q3 q4 q5
  intro rv1 er1 rv2 er2
  have e2 : rv2 = rvo rv h := by rw [er2, er1]; rfl
  have g6 : gR rv2 51 6 = h := by rw [e2]; exact gR_of rvo_51
  clear er1 er2
  subst e2
  refine ⟨⟨by omega, by omega⟩, fun x3 ex => ?_⟩
  rw [g6, tl, hR 17 law (by omega)] at ex
  subst ex
  have hz := fun (_ : Unit) => bits (R 17 law) r0.1 r0.2
  have f57 : ∀ b7 b8 b9 : Int, b7 = lf R law 7 → b8 = lf R law 8 → b9 = lf R law 9 → ∀ ia, ia = w2 iv 51 7 b7 → ∀ ib, ib = w2 ia 51 8 b8 → bd_X6_open_57 h (R 17 law) b9 ib (rvo rv h) (fun iv2 rv3 => K iv2 rv3) := by
    intro b7 b8 b9 p7 p8 p9 ia ea ib eb
    refine ⟨by rw [p9, lf9]; omega, fun ic ec => ⟨fun z => c_open73 hh g6 hR p7 p8 p9 ?_ (Or.inl rfl) ea eb ec hK, fun z => c_open73 hh g6 hR p7 p8 p9 ?_ (Or.inr rfl) ea eb ec hK⟩⟩
    · have y : ¬ (R 17 law / 8 % 2 = 0) := fun q => z ((hz ()).2.2.2.mpr q)
      rw [lf10]; omega
    · have y := (hz ()).2.2.2.mp z
      rw [lf10]; omega
  have f42 : ∀ b7 b8 : Int, b7 = lf R law 7 → b8 = lf R law 8 → ∀ ia, ia = w2 iv 51 7 b7 → bd_X6_open_42 h (R 17 law) b8 ia (rvo rv h) (fun iv2 rv3 => K iv2 rv3) := by
    intro b7 b8 p7 p8 ia ea
    refine ⟨by rw [p8, lf8]; omega, fun ib eb => ⟨fun z => f57 b7 b8 0 p7 p8 ?_ ia ea ib eb, fun z => f57 b7 b8 1 p7 p8 ?_ ia ea ib eb⟩⟩
    · have y : ¬ (R 17 law / 4 % 2 = 0) := fun q => z ((hz ()).2.2.1.mpr q)
      rw [lf9]; omega
    · have y := (hz ()).2.2.1.mp z
      rw [lf9]; omega
  have f27 : ∀ b7 : Int, b7 = lf R law 7 → bd_X6_open_27 h (R 17 law) b7 iv (rvo rv h) (fun iv2 rv3 => K iv2 rv3) := by
    intro b7 p7
    refine ⟨by rw [p7, lf7]; omega, fun ia ea => ⟨fun z => f42 b7 0 p7 ?_ ia ea, fun z => f42 b7 1 p7 ?_ ia ea⟩⟩
    · have y := (hz ()).2.1.mp z
      rw [lf8]; omega
    · have y : ¬ (R 17 law / 2 % 2 = 0) := fun q => z ((hz ()).2.1.mpr q)
      rw [lf8]; omega
  refine ⟨fun z => f27 0 ?_, fun z => f27 1 ?_⟩
  · have y := (hz ()).1.mp z
    rw [lf7]; omega
  · have y : ¬ (R 17 law % 2 = 0) := fun q => z ((hz ()).1.mpr q)
    rw [lf7]; omega
theorem rm_days {R : Nat → Nat → Int} {iv : IV} (hc : RC R) (hM : RM R iv) : ∀ g, g < 16 → iv 90 g = R 8 g ∧ iv 92 g = R 10 g := by
  intro g hg
  by_cases z : hasG R g
  · obtain ⟨-, -, -, m4, -, m6, -⟩ := hM.2.2.2.2.1 g z
    exact ⟨m4, m6⟩
  · have a := hM.2.1.2 g hg z
    have b := hc.2.2.2.2.2.1 g hg z
    exact ⟨by omega, by omega⟩
theorem m_lays {R : Nat → Nat → Int} {iv : IV} {rv : RV} {law : Int} {K : IV → Prop} (g1 : rv 66 3 = some 80) (hM : RM R iv) (hc : RC R)
    (hK : ∀ iv', (∀ k j, ¬ (68 ≤ k ∧ k ≤ 69) → ¬ (k = 66 ∧ (j = 17 ∨ j = 20)) → iv' k j = iv k j) → (∀ g, g < 16 → iv' 68 g = R 8 g ∧ iv' 69 g = R 10 g) → iv' 66 20 = law → iv' 66 17 = -1 → K iv') : wp_X12_lays law iv rv K := by
  have hd := rm_days hc hM
  intro iv1 e1 iv2 e2 P hP
  have key : ∀ d m : Nat, m + d = 16 → ∀ (x : Int) (iv' : IV), x = m → (∀ k j, ¬ (68 ≤ k ∧ k ≤ 69) → iv' k j = iv2 k j) → (∀ g, g < m → iv' 68 g = R 8 g ∧ iv' 69 g = R 10 g) → P x iv' := by
    intro d
    induction d with
    | zero =>
      intro m hm x iv' ex fr hd
      refine hP _ _ ⟨fun _ => hK iv' (fun k j p1 p2 => ?_) (fun g hg => hd g (by omega)) ?_ ?_, fun z => by omega⟩
      · rw [fr k j p1, e2, w2_ne (by omega), e1, w2_ne (by omega)]
      · rw [fr _ _ (by omega), e2, w2_ne (by omega), e1, w2_eq]
      · rw [fr _ _ (by omega), e2, w2_eq]
    | succ d ih =>
      intro m hm x iv' ex fr hd2
      subst ex
      have tm : ((m : Int)).toNat = m := Int.toNat_natCast m
      have a90 : iv' 90 m = R 8 m := by rw [fr _ _ (by omega), e2, w2_ne (by omega), e1, w2_ne (by omega)]; exact (hd m (by omega)).1
      have a92 : iv' 92 m = R 10 m := by rw [fr _ _ (by omega), e2, w2_ne (by omega), e1, w2_ne (by omega)]; exact (hd m (by omega)).2
      refine hP _ _ ⟨fun z => by omega, fun _ => ⟨g1, ⟨by omega, by omega⟩, ⟨by omega, by omega⟩, fun iv4 e4 => ⟨⟨by omega, by omega⟩, ⟨by omega, by omega⟩, fun iv7 e7 => ?_⟩⟩⟩
      rw [tm] at e4 e7
      rw [a90] at e4
      have b92 : iv4 92 m = R 10 m := by rw [e4, w2_ne (by omega)]; exact a92
      rw [b92] at e7
      rw [w32_id (by omega) (by omega)]
      refine ih (m + 1) (by omega) _ iv7 (by omega) (fun k j p1 => ?_) (fun g hg => ?_)
      · rw [e7, w2_ne (by omega), e4, w2_ne (by omega)]; exact fr k j p1
      · by_cases z : g = m
        · subst z
          rw [e7, w2_eq, w2_ne (by omega), e4, w2_eq]
          exact ⟨rfl, rfl⟩
        · rw [e7, w2_ne (by omega), w2_ne (by omega), e4, w2_ne (by omega), w2_ne (by omega)]
          exact hd2 g (by omega)
  exact key 16 0 (by omega) _ iv2 rfl (fun _ _ _ => rfl) (fun g hg => by omega)
theorem m_names {R : Nat → Nat → Int} {iv : IV} {rv : RV} {man : Nat} {K : IV → Prop} (g1 : rv 66 3 = some 80) (hM : RM R iv) (hc : RC R) (hm : (man : Int) < R 1 2)
    (hK : ∀ iv', (∀ k j, ¬ (k = 66 ∧ (j = 21 ∨ j = 22)) → iv' k j = iv k j) → iv' 66 21 = R 2 man → iv' 66 22 = R 3 man → K iv') : wp_X12_names man iv rv K := by
  have h2 : R 1 2 ≤ 6 := (hc.1 2 (by omega)).2
  have tm : ((man : Int)).toNat = man := Int.toNat_natCast man
  obtain ⟨a, b⟩ := hM.2.2.1 man hm
  refine ⟨g1, ⟨by omega, by omega⟩, fun iv2 e2 => ⟨⟨by omega, by omega⟩, fun iv4 e4 => hK iv4 (fun k j hkj => ?_) ?_ ?_⟩⟩
  · rw [e4, w2_ne (by omega), e2, w2_ne (by omega)]
  · rw [e4, w2_ne (by omega), e2, w2_eq, tm, a]
  · rw [e4, w2_eq, tm, e2, w2_ne (by omega), b]
/-- the man of a cart -/
abbrev mn (R : Nat → Nat → Int) (c : Nat) : Nat := (R 18 (7 * c)).toNat
theorem mn_ok {R : Nat → Nat → Int} {c : Nat} (hc : RC R) (hcc : (c : Int) < R 1 11) : ((mn R c : Nat) : Int) = R 18 (7 * c) ∧ (mn R c : Int) < R 1 2 ∧ mn R c < 6 ∧ 0 ≤ R 2 (mn R c) ∧ R 2 (mn R c) < R 1 0 := by
  have h2 : R 1 2 ≤ 6 := (hc.1 2 (by omega)).2
  have hq := hc.2.2.2.2.2.2.2 c hcc
  have e : ((mn R c : Nat) : Int) = R 18 (7 * c) := by show (((R 18 (7 * c)).toNat : Nat) : Int) = _; omega
  have hm := hc.2.1 (mn R c) (by omega)
  exact ⟨e, by omega, by omega, hm.1, hm.2.1⟩
theorem m_laysFor {R : Nat → Nat → Int} {iv : IV} {rv : RV} {law : Int} {c : Nat} {K : IV → Prop} (g1 : rv 66 3 = some 80) (hM : RM R iv) (hc : RC R) (hcc : (c : Int) < R 1 11)
    (hK : ∀ iv', (∀ k j, ¬ (68 ≤ k ∧ k ≤ 69) → ¬ (k = 66 ∧ (j = 17 ∨ j = 20 ∨ j = 21 ∨ j = 22)) → iv' k j = iv k j) → (∀ g, g < 16 → iv' 68 g = R 8 g ∧ iv' 69 g = R 10 g) → iv' 66 20 = law → iv' 66 17 = -1 → iv' 66 21 = R 2 (mn R c) → iv' 66 22 = R 3 (mn R c) → K iv') : wp_X12_laysFor c law iv rv K := by
  have h11 : R 1 11 ≤ 6 := (hc.1 11 (by omega)).2
  have tc : ((c : Int)).toNat = c := Int.toNat_natCast c
  obtain ⟨o1, o2, o3, o4, o5⟩ := mn_ok hc hcc
  refine m_lays g1 hM hc (fun iv1 fr hd e20 e17 => ⟨g1, ⟨by omega, by omega⟩, ?_⟩)
  have hM1 : RM R iv1 := hM.congr fun k j hk => fr k j (by omega) (by omega)
  have e100 : iv1 100 c = R 18 (7 * c) := hM1.2.2.2.2.2.2.2 c hcc 0 (by omega)
  rw [tc, e100, ← o1]
  refine m_names g1 hM1 hc o2 (fun iv2 fr2 p1 p2 => hK iv2 (fun k j q1 q2 => (fr2 k j (by omega)).trans (fr k j q1 (by omega))) (fun g hg => ?_) ?_ ?_ p1 p2)
  · rw [fr2 _ _ (by omega), fr2 _ _ (by omega)]; exact hd g hg
  · rw [fr2 _ _ (by omega)]; exact e20
  · rw [fr2 _ _ (by omega)]; exact e17
theorem MS.of {R : Nat → Nat → Int} {law : Nat} {iv : IV} (hM : RM R iv) (hd : ∀ g, g < 16 → iv 68 g = R 8 g ∧ iv 69 g = R 10 g) (e20 : iv 66 20 = law) (e17 : iv 66 17 = -1) (hl : (law : Int) < R 1 10) : MS R (R 8) (R 10) (lf R law) law iv := by
  obtain ⟨q1, q2, q3, q4, q5⟩ := hM.2.2.2.2.2.2.1 law hl
  refine ⟨hM, hd, ⟨e20, hl⟩, ⟨?_, ?_, ?_, ?_⟩, e17, fun c => absurd rfl c⟩
  · rw [lf7]; omega
  · rw [lf8]; omega
  · rw [lf9]; omega
  · rw [lf10]; omega
theorem RC.dys {R : Nat → Nat → Int} (hc : RC R) : Dys R (R 8) := fun g hg => by
  have := hc.2.2.2.1 g hg
  omega
/-! THE CLASS: Exchequer's owedAt, winner -/
noncomputable def pOwe (R : Nat → Nat → Int) (dy ls f : F1) (day : Int) (c : Nat) (b : Int) : Int := pOw R dy ls f day (R 3 (mn R c)) c (bGo R dy ls f day (R 2 (mn R c))) b (R 1 5).toNat
theorem c_hearOwner {h : Nat} {R : Nat → Nat → Int} {dy ls f : F1} {iv : IV} {rv : RV} {day : Int} {c : Nat} {K : IV → Prop} (hh : h = 2 ∨ h = 21) (h6 : gR rv 51 6 = h) (h47 : gR rv 47 3 = h) (C : CS h R dy ls f iv) (hc : RC R) (hs : Sup f) (hd : iv 51 11 = day) (hW : ∀ g, hasG R g → WG R dy ls f day iv g) (hcc : (c : Int) < R 1 11)
    (hK : ∀ iv', (∀ k j, ¬ (58 ≤ k ∧ k ≤ 62) → iv' k j = iv k j) → CH R dy ls f day (R 3 (mn R c)) c (bGo R dy ls f day (R 2 (mn R c))) iv' → K iv') : wp_X1_hearOwner c iv rv K := by
  have h11 : R 1 11 ≤ 6 := (hc.1 11 (by omega)).2
  obtain ⟨o1, o2, o3, o4, o5⟩ := mn_ok hc hcc
  have tm : (R 18 (7 * c)).toNat = mn R c := rfl
  unfold wp_X1_hearOwner
  rw [h47]
  refine c_ofCart (w := 0) C.1 (by omega) (by omega) ?_
  simp only [Nat.add_zero]
  refine ⟨⟨by omega, by omega⟩, ⟨by omega, by omega⟩, ?_⟩
  rw [tm, C.1 2 _ (by omega), C.1 3 _ (by omega)]
  refine c_hear hh h6 C hc hs hd hW hcc ⟨o4, o5⟩ (fun iv' fr hB e3 e4 hF => hK iv' fr ⟨fun g hg => ?_, e3, e4, hF⟩)
  obtain ⟨w1, w2', w3, w4⟩ := hW g hg
  exact ⟨(fr _ _ (by omega)).trans w1, (fr _ _ (by omega)).trans w2', (fr _ _ (by omega)).trans w3, (fr _ _ (by omega)).trans w4⟩
theorem c_owed1 {h : Nat} {R : Nat → Nat → Int} {dy ls f : F1} {iv : IV} {rv : RV} {day : Int} {c : Nat} {b : Int} {K : Int → IV → Prop} (hh : h = 2 ∨ h = 21) (h6 : gR rv 51 6 = h) (h47 : gR rv 47 3 = h) (C : CS h R dy ls f iv) (hc : RC R) (hs : Sup f) (hcc : (c : Int) < R 1 11)
    (hK : ∀ iv', (∀ k j, ¬ (54 ≤ k ∧ k ≤ 62) → ¬ (k = 51 ∧ j = 11) → iv' k j = iv k j) → iv' 51 11 = day → (∀ g, hasG R g → WG R dy ls f day iv' g) → K (pOwe R dy ls f day c b) iv') : wp_X1_owedAt c b day iv rv K := by
  refine c_sit hh h6 C hc (fun iv1 fr1 hd hW => ?_)
  have C1 : CS h R dy ls f iv1 := C.congr hh fun k j hkj => fr1 k j (by omega) (by omega)
  refine c_hearOwner hh h6 h47 C1 hc hs hd hW hcc (fun iv2 fr2 H => ?_)
  have C2 : CS h R dy ls f iv2 := C1.congr hh fun k j hkj => fr2 k j (by omega)
  exact c_owedAt h6 C2 hc H hcc (hK iv2 (fun k j p q => (fr2 k j (by omega)).trans (fr1 k j (by omega) q)) (by rw [fr2 _ _ (by omega)]; exact hd) H.1)
theorem c_wins1 {h : Nat} {R : Nat → Nat → Int} {dy ls f : F1} {iv : IV} {rv : RV} {day : Int} {c t : Nat} {K : Int → IV → Prop} (hh : h = 2 ∨ h = 21) (h6 : gR rv 51 6 = h) (h47 : gR rv 47 3 = h) (C : CS h R dy ls f iv) (hc : RC R) (hs : Sup f) (hcc : (c : Int) < R 1 11) (ht : hasG R t) (hl : t < 6)
    (hK : ∀ iv', (∀ k j, ¬ (54 ≤ k ∧ k ≤ 62) → ¬ (k = 51 ∧ j = 11) → iv' k j = iv k j) → K (pW R dy ls f day (R 3 (mn R c)) c (bGo R dy ls f day (R 2 (mn R c))) t (R 1 6).toNat) iv') : wp_X1_winner c t day iv rv K := by
  refine c_sit hh h6 C hc (fun iv1 fr1 hd hW => ?_)
  have C1 : CS h R dy ls f iv1 := C.congr hh fun k j hkj => fr1 k j (by omega) (by omega)
  refine c_hearOwner hh h6 h47 C1 hc hs hd hW hcc (fun iv2 fr2 H => ?_)
  have C2 : CS h R dy ls f iv2 := C1.congr hh fun k j hkj => fr2 k j (by omega)
  exact c_winner h6 C2 hc H ht hl (hK iv2 (fun k j p q => (fr2 k j (by omega)).trans (fr1 k j (by omega) q)))
