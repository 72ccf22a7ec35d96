/-! CHOICES OF DAYS: the pure picture -/
def sp (R : Nat → Nat → Int) (g : Nat) : Nat := (R 9 g - R 8 g + 1).toNat
def qt (R : Nat → Nat → Int) (c : Nat) : Nat → Nat
  | 0 => c
  | g + 1 => qt R c g / sp R g
def pc (R : Nat → Nat → Int) : Nat → Nat
  | 0 => 1
  | g + 1 => pc R g * sp R g
theorem sp_ok {R : Nat → Nat → Int} (hc : RC R) {g : Nat} (hg : g < 16) : ((sp R g : Nat) : Int) = R 9 g - R 8 g + 1 ∧ 1 ≤ sp R g ∧ sp R g ≤ 21 ∧ (¬ hasG R g → sp R g = 1) := by
  unfold sp
  by_cases z : hasG R g
  · have := hc.2.2.2.1 g z
    exact ⟨by omega, by omega, by omega, fun y => absurd z y⟩
  · have := hc.2.2.2.2.2.1 g hg z
    exact ⟨by omega, by omega, by omega, fun _ => by omega⟩
theorem qt_eq {R : Nat → Nat → Int} {c : Nat} : ∀ g, qt R c g = c / pc R g
  | 0 => by show c = c / 1; rw [Nat.div_one]
  | g + 1 => by
    show qt R c g / sp R g = c / (pc R g * sp R g)
    rw [qt_eq g, Nat.div_div_eq_div_mul]
theorem qt_zero {R : Nat → Nat → Int} : ∀ g, qt R 0 g = 0
  | 0 => rfl
  | g + 1 => by
    show qt R 0 g / sp R g = 0
    rw [qt_zero g, Nat.zero_div]
theorem pc_pos {R : Nat → Nat → Int} (hc : RC R) : ∀ g, g ≤ 16 → 1 ≤ pc R g
  | 0, _ => Nat.le_refl _
  | g + 1, h => by
    have a := pc_pos hc g (by omega)
    have b := (sp_ok hc (show g < 16 by omega)).2.1
    exact Nat.mul_le_mul a b
theorem pc_step {R : Nat → Nat → Int} (hc : RC R) {g : Nat} (h : g < 16) : pc R g ≤ pc R (g + 1) := by
  have b := (sp_ok hc h).2.1
  have := Nat.mul_le_mul (Nat.le_refl (pc R g)) b
  rw [Nat.mul_one] at this
  exact this
theorem pc_mono {R : Nat → Nat → Int} (hc : RC R) : ∀ d g, g + d = 16 → pc R g ≤ pc R 16
  | 0, g, h => by rw [show g = 16 by omega]; exact Nat.le_refl _
  | d + 1, g, h => Nat.le_trans (pc_step hc (by omega)) (pc_mono hc d (g + 1) (by omega))
theorem succ_dm {s q : Nat} (hs : 0 < s) : (q % s + 1 = s → (q + 1) / s = q / s + 1 ∧ (q + 1) % s = 0) ∧ (q % s + 1 ≠ s → (q + 1) / s = q / s ∧ (q + 1) % s = q % s + 1) := by
  have e := Nat.div_add_mod q s
  have l := Nat.mod_lt q hs
  have e2 : q + 1 = s * (q / s) + (q % s + 1) := by omega
  refine ⟨fun h => ?_, fun h => ?_⟩
  · have d1 : (q + 1) / s = q / s + (q % s + 1) / s := by
      conv => lhs; rw [e2]
      exact Nat.mul_add_div hs _ _
    have d2 : (q + 1) % s = (q % s + 1) % s := by
      conv => lhs; rw [e2]
      exact Nat.mul_add_mod _ _ _
    rw [d1, d2, h, Nat.div_self hs, Nat.mod_self]
    exact ⟨rfl, rfl⟩
  · have d1 : (q + 1) / s = q / s + (q % s + 1) / s := by
      conv => lhs; rw [e2]
      exact Nat.mul_add_div hs _ _
    have d2 : (q + 1) % s = (q % s + 1) % s := by
      conv => lhs; rw [e2]
      exact Nat.mul_add_mod _ _ _
    rw [d1, d2, Nat.div_eq_of_lt (show q % s + 1 < s by omega), Nat.mod_eq_of_lt (show q % s + 1 < s by omega)]
    exact ⟨rfl, rfl⟩
def pDyb (R : Nat → Nat → Int) (c g : Nat) : Int := R 8 g + ((qt R c g % sp R g : Nat) : Int)
theorem pDy_ex : ∃ F : (Nat → Nat → Int) → Nat → Nat → Int, F = pDyb := ⟨pDyb, rfl⟩
/-- the days of a choice; not to be unfolded -/
noncomputable def pDy : (Nat → Nat → Int) → Nat → Nat → Int := Classical.choose pDy_ex
theorem pDy_eq {R : Nat → Nat → Int} {c g : Nat} : pDy R c g = R 8 g + ((qt R c g % sp R g : Nat) : Int) := by
  show Classical.choose pDy_ex R c g = _
  rw [Classical.choose_spec pDy_ex]
  rfl
theorem pDy_zero {R : Nat → Nat → Int} : pDy R 0 = R 8 := by
  funext g
  rw [pDy_eq, qt_zero, Nat.zero_mod]
  exact Int.add_zero _
theorem pDy_un {R : Nat → Nat → Int} (hc : RC R) {c g : Nat} (hg : g < 16) (hn : ¬ hasG R g) : pDy R c g = R 8 g := by
  rw [pDy_eq, (sp_ok hc hg).2.2.2 hn, Nat.mod_one]
  exact Int.add_zero _
theorem pDy_dys {R : Nat → Nat → Int} (hc : RC R) (c : Nat) : Dys R (pDy R c) := fun g hg => by
  have hl : g < 16 := by unfold hasG at hg; omega
  have a := sp_ok hc hl
  have b := hc.2.2.2.1 g hg
  have m := Nat.mod_lt (qt R c g) (show 0 < sp R g by omega)
  rw [pDy_eq]
  omega
/-- no carry: the days behind stay -/
theorem pDy_stay {R : Nat → Nat → Int} {c g : Nat} (h : qt R (c + 1) g = qt R c g) : ∀ d, qt R (c + 1) (g + d) = qt R c (g + d) ∧ pDy R (c + 1) (g + d) = pDy R c (g + d) := by
  intro d
  have a : ∀ d, qt R (c + 1) (g + d) = qt R c (g + d) := by
    intro d
    induction d with
    | zero => exact h
    | succ d ih =>
      show qt R (c + 1) (g + d) / sp R (g + d) = qt R c (g + d) / sp R (g + d)
      rw [ih]
  exact ⟨a d, by rw [pDy_eq, pDy_eq, a d]⟩
theorem WG.dy {R : Nat → Nat → Int} {dy dy' ls f : F1} {day : Int} {iv : IV} {g : Nat} (h : WG R dy ls f day iv g) (e : dy' g = dy g) : WG R dy' ls f day iv g := by
  obtain ⟨w1, w2', w3, w4⟩ := h
  refine ⟨?_, ?_, w3, w4⟩
  · rw [w1]
    unfold pIn
    rw [e]
  · rw [w2', pDay_eq, pDay_eq, e]
/-! THE CLASS: choices, nextChoice -/
theorem c_choices {h : Nat} {R : Nat → Nat → Int} {iv : IV} {rv : RV} {K : Int → Prop} (hR : ∀ r i, r < 19 → iv (h + r) i = R r i) (hc : RC R)
    (hK : ∀ r : Int, (r ≤ 2000 ∧ r = (pc R 16 : Nat) ∨ 2000 < r ∧ 2000 < pc R 16) → K r) : wp_X5_choices h iv rv K := by
  intro P hP
  have key : ∀ d m : Nat, m + d = 16 → ∀ x y : Int, x = (pc R m : Nat) → y = m → P x y := by
    intro d
    induction d with
    | zero =>
      intro m hm x y ex ey
      refine hP _ _ ⟨fun _ => hK x ?_, fun z => by omega⟩
      rw [show m = 16 by omega] at ex
      omega
    | succ d ih =>
      intro m hm x y ex ey
      subst ey
      have tm : ((m : Int)).toNat = m := Int.toNat_natCast m
      have ew : Unit → w32 ((m : Int) + 1) = (m : Int) + 1 := fun _ => w32_id (by omega) (by omega)
      have mono := pc_mono hc (d + 1) m hm
      obtain ⟨s1, s2, s3, -⟩ := sp_ok hc (show m < 16 by omega)
      refine hP _ _ ⟨fun z => by omega, fun _ => ⟨fun z => hK x (Or.inr ⟨z, by omega⟩), fun z => ⟨⟨by omega, by omega⟩, ⟨by omega, by omega⟩, fun x5 e5 => ?_⟩⟩⟩
      rw [ew ()]
      refine ih (m + 1) (by omega) _ _ ?_ (by omega)
      have hq : ((pc R (m + 1) : Nat) : Int) = (pc R m : Nat) * (sp R m : Nat) := by
        show ((pc R m * sp R m : Nat) : Int) = _
        exact Int.natCast_mul _ _
      have hb : pc R (m + 1) ≤ 2000 * 21 := Nat.mul_le_mul (show pc R m ≤ 2000 by omega) s3
      rw [e5, tm, hR 9 m (by omega), hR 8 m (by omega), hq]
      rw [w32_id (x := R 9 m - R 8 m) (by omega) (by omega), w32_id (x := R 9 m - R 8 m + 1) (by omega) (by omega), ← s1, ex, ← hq]
      exact w32_id (by omega) (by omega)
  exact key 16 0 (by omega) _ _ rfl rfl
theorem c_next {h : Nat} {R : Nat → Nat → Int} {ls f : F1} {iv : IV} {rv : RV} {day : Int} {c : Nat} {K : Int → IV → Prop} (hh : h = 2 ∨ h = 21) (h6 : gR rv 51 6 = h) (C : CS h R (pDy R c) ls f iv) (hc : RC R) (hd : iv 51 11 = day) (hW : ∀ g, hasG R g → WG R (pDy R c) ls f day iv g)
    (hK1 : ∀ iv', (∀ k j, ¬ (k = 52 ∨ (54 ≤ k ∧ k ≤ 57)) → iv' k j = iv k j) → CS h R (pDy R (c + 1)) ls f iv' → (∀ g, hasG R g → WG R (pDy R (c + 1)) ls f day iv' g) → qt R (c + 1) 16 = qt R c 16 → K 1 iv')
    (hK0 : ∀ iv', (∀ k j, ¬ (k = 52 ∨ (54 ≤ k ∧ k ≤ 57)) → iv' k j = iv k j) → qt R (c + 1) 16 = qt R c 16 + 1 → K 0 iv') : wp_X6_nextChoice iv rv K := by
  intro P hP
  have key : ∀ d m : Nat, m + d = 16 → ∀ (x : Int) (iv' : IV) (dy : F1), x = m → (∀ g, g < m → dy g = pDy R (c + 1) g) → (∀ g, m ≤ g → dy g = pDy R c g) → (∀ k j, ¬ (k = 52 ∨ (54 ≤ k ∧ k ≤ 57)) → iv' k j = iv k j) → CS h R dy ls f iv' → (∀ g, hasG R g → WG R dy ls f day iv' g) → qt R (c + 1) m = qt R c m + 1 → P x iv' := by
    intro d
    induction d with
    | zero =>
      intro m hm x iv' dy ex h1 h2 fr C' W' hq
      rw [show m = 16 by omega] at hq
      exact hP _ _ ⟨fun _ => hK0 iv' fr hq, fun z => by omega⟩
    | succ d ih =>
      intro m hm x iv' dy ex h1 h2 fr C' W' hq
      subst ex
      have tm : ((m : Int)).toNat = m := Int.toNat_natCast m
      have ew : Unit → w32 ((m : Int) + 1) = (m : Int) + 1 := fun _ => w32_id (by omega) (by omega)
      obtain ⟨s1, s2, s3, s4⟩ := sp_ok hc (show m < 16 by omega)
      have i9 : iv' (gR rv 51 6 + 9) m = R 9 m := by rw [h6]; exact C'.1 9 m (by omega)
      have i8 : iv' (gR rv 51 6 + 8) m = R 8 m := by rw [h6]; exact C'.1 8 m (by omega)
      have i52 := (C'.2.1 m (by omega)).1
      rw [h2 m (Nat.le_refl _), pDy_eq] at i52
      have dm := succ_dm (s := sp R m) (q := qt R c m) (by omega)
      rw [← hq] at dm
      have ml := Nat.mod_lt (qt R c m) (show 0 < sp R m by omega)
      have nq : ∀ e, qt R e (m + 1) = qt R e m / sp R m := fun e => rfl
      have hb : hasG R m → m < 6 → 0 ≤ R 13 m ∧ R 13 m ≤ 99 := fun q z => by
        have := (hc.2.2.2.2.1 m q).2.2 z
        omega
      -- a wheel set anew, weighed
      have put : ∀ (v : Int) (dy2 : F1), (∀ g, g ≠ m → g < 16 → dy2 g = dy g) → dy2 m = v → hasG R m → ∀ (l2 : Int), (∀ iv3, (∀ k j, ¬ (k = 52 ∨ (54 ≤ k ∧ k ≤ 57)) → iv3 k j = iv k j) → CS h R dy2 ls f iv3 → (∀ g, hasG R g → WG R dy2 ls f day iv3 g) → bd_X6_nextChoice_89 P m l2 iv3 rv K) → bd_X6_nextChoice_83 P m l2 v m iv' rv K := by
        intro v dy2 hd2 hv hgm l2 hN
        refine ⟨⟨by omega, by omega⟩, fun iv2 e2 => ?_⟩
        rw [tm] at e2
        have C2 : CS h R dy2 ls f iv2 := by
          obtain ⟨q1, q2, q3, q4, q5⟩ := C'
          refine ⟨fun r i hr => ?_, fun g hg => ?_, fun j j1 j2 => ?_, ?_, ?_⟩
          · rw [e2, w2_ne (by omega)]; exact q1 r i hr
          · by_cases z : g = m
            · subst z
              rw [e2, w2_eq, w2_ne (by omega), hv]
              exact ⟨rfl, (q2 g hg).2⟩
            · rw [e2, w2_ne (by omega), w2_ne (by omega), hd2 g z hg]
              exact q2 g hg
          · rw [e2, w2_ne (by omega)]; exact q3 j j1 j2
          · rw [e2, w2_ne (by omega)]; exact q4
          · rw [e2, w2_ne (by omega), w2_ne (by omega)]; exact q5
        refine c_weigh hh h6 C2 hc (day := day) (by rw [e2, w2_ne (by omega), fr _ _ (by omega)]; exact hd) (by omega) (hb hgm) (fun iv3 fr3 hw => hN iv3 (fun k j q => ?_) (C2.congr hh fun k j q => fr3 k j (by omega)) (fun g hg => ?_))
        · rw [fr3 _ _ (by omega), e2, w2_ne (by omega)]; exact fr k j q
        · by_cases z : g = m
          · subst z; exact hw
          · have hl : g < 16 := by unfold hasG at hg; omega
            obtain ⟨w1, w2', w3, w4⟩ := (W' g hg).dy (hd2 g z hl)
            refine ⟨?_, ?_, ?_, ?_⟩
            · rw [fr3 _ _ (by omega), e2, w2_ne (by omega)]; exact w1
            · rw [fr3 _ _ (by omega), e2, w2_ne (by omega)]; exact w2'
            · rw [fr3 _ _ (by omega), e2, w2_ne (by omega)]; exact w3
            · rw [fr3 _ _ (by omega), e2, w2_ne (by omega)]; exact w4
      apply hP
      unfold bd_X6_nextChoice_2
      rw [tm, i9, i52]
      by_cases full : qt R c m % sp R m + 1 = sp R m
      · obtain ⟨d1, d2⟩ := dm.1 full
        have pn : pDy R (c + 1) m = R 8 m := by
          rw [pDy_eq, d2]; exact Int.add_zero _
        refine ⟨fun z => by omega, fun _ => ⟨⟨by omega, by omega⟩, ⟨by omega, by omega⟩, fun _ => ?_, fun z => by omega⟩⟩
        unfold bd_X6_nextChoice_31
        rw [tm, i8, i52]
        refine ⟨fun z => absurd rfl z, fun _ => ⟨⟨by omega, by omega⟩, ⟨by omega, by omega⟩, fun z => ?_, fun z => ?_⟩⟩
        · refine ⟨fun _ => ?_, fun z => absurd rfl z⟩
          rw [ew ()]
          refine ih (m + 1) (by omega) _ iv' dy (by omega) (fun g hg => ?_) (fun g hg => h2 g (by omega)) fr C' W' (by rw [nq, nq]; exact d1)
          by_cases e : g = m
          · rw [e, h2 m (Nat.le_refl _), pn, pDy_eq]; exact z
          · exact h1 g (by omega)
        · have hgm : hasG R m := by
            by_cases q : hasG R m
            · exact q
            · have := s4 q
              omega
          refine ⟨fun _ => ⟨⟨by omega, by omega⟩, ?_⟩, fun z => absurd rfl z⟩
          rw [tm, i8]
          refine put (R 8 m) (up1 dy m (R 8 m)) (fun g q _ => up1_ne q) up1_eq hgm 0 (fun iv3 fr3 C3 W3 => ⟨fun _ => ?_, fun z => absurd rfl z⟩)
          rw [ew ()]
          refine ih (m + 1) (by omega) _ iv3 (up1 dy m (R 8 m)) (by omega) (fun g hg => ?_) (fun g hg => ?_) fr3 C3 W3 (by rw [nq, nq]; exact d1)
          · by_cases e : g = m
            · rw [e, up1_eq, pn]
            · rw [up1_ne e]; exact h1 g (by omega)
          · rw [up1_ne (by omega)]; exact h2 g (by omega)
      · obtain ⟨d1, d2⟩ := dm.2 full
        have hgm : hasG R m := by
          by_cases q : hasG R m
          · exact q
          · have := s4 q
            omega
        have pn : pDy R (c + 1) m = R 8 m + ((qt R c m % sp R m : Nat) : Int) + 1 := by
          rw [pDy_eq, d2]; omega
        have st := pDy_stay (R := R) (c := c) (g := m + 1) (by rw [nq, nq]; exact d1)
        have day8 := hc.2.2.2.1 m hgm
        refine ⟨fun z => by omega, fun _ => ⟨⟨by omega, by omega⟩, ⟨by omega, by omega⟩, fun z => by omega, fun _ => ?_⟩⟩
        unfold bd_X6_nextChoice_31
        refine ⟨fun _ => ?_, fun z => absurd z (by decide)⟩
        refine ⟨fun z => absurd z (by decide), fun _ => ⟨⟨by omega, by omega⟩, ?_⟩⟩
        rw [tm, i52, w32_id (by omega) (by omega), ← pn]
        refine put (pDy R (c + 1) m) (pDy R (c + 1)) (fun g q hl => ?_) rfl hgm 1 (fun iv3 fr3 C3 W3 => ⟨fun z => absurd z (by decide), fun _ => hK1 iv3 fr3 C3 W3 ?_⟩)
        · by_cases e : g < m
          · exact (h1 g e).symm
          · obtain ⟨j, rfl⟩ : ∃ j, g = m + 1 + j := ⟨g - (m + 1), by omega⟩
            rw [h2 _ (by omega)]
            exact (st j).2
        · obtain ⟨j, hj⟩ : ∃ j, 16 = m + 1 + j := ⟨16 - (m + 1), by omega⟩
          rw [hj]; exact (st j).1
  exact key 16 0 (by omega) _ iv (pDy R c) rfl (fun g hg => by omega) (fun g _ => rfl) (fun _ _ _ => rfl) C hW rfl
