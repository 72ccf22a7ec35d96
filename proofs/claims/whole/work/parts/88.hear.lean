/-! WHO WINS: the pure picture -/
noncomputable def pFvb (R : Nat → Nat → Int) (dy f : F1) (day by_ : Int) (g : Nat) : Int := if by_ < 0 ∨ f 8 ≠ 0 then pDay R dy f g day else max (pDay R dy f g day) (dy by_.toNat)
theorem pFv_ex : ∃ F : (Nat → Nat → Int) → F1 → F1 → Int → Int → Nat → Int, F = pFvb := ⟨pFvb, rfl⟩
/-- not to be unfolded: pFv_eq says what it is -/
noncomputable def pFv : (Nat → Nat → Int) → F1 → F1 → Int → Int → Nat → Int := Classical.choose pFv_ex
theorem pFv_eq {R : Nat → Nat → Int} {dy f : F1} {day by_ : Int} {g : Nat} : pFv R dy f day by_ g = if by_ < 0 ∨ f 8 ≠ 0 then pDay R dy f g day else max (pDay R dy f g day) (dy by_.toNat) := by
  show Classical.choose pFv_ex R dy f day by_ g = _
  rw [Classical.choose_spec pFv_ex]
  rfl
abbrev pUse (R : Nat → Nat → Int) (f : F1) (day : Int) (c g : Nat) : Prop := (pGood R f g day = R 18 (7 * c + 1) ∨ pGood R f g day = -2) ∧ (pAmt R f g day = R 18 (7 * c + 2) ∨ pAmt R f g day = 2)
abbrev pPl (R : Nat → Nat → Int) (s : BS) (g : Nat) : Int := pBy s.2.1 s.2.2 (R 11 g) s.1
noncomputable def pFDb (R : Nat → Nat → Int) (dy ls f : F1) (day since : Int) (c : Nat) (s : BS) (g : Nat) : Int := if pIn dy ls f g day ∧ pUse R f day c g ∧ since ≤ day ∧ pPl R s g ≠ -2 then pFv R dy f day (pPl R s g) g else -1
theorem pFD_ex : ∃ F : (Nat → Nat → Int) → F1 → F1 → F1 → Int → Int → Nat → BS → Nat → Int, F = pFDb := ⟨pFDb, rfl⟩
/-- not to be unfolded: pFD_eq says what it is -/
noncomputable def pFD : (Nat → Nat → Int) → F1 → F1 → F1 → Int → Int → Nat → BS → Nat → Int := Classical.choose pFD_ex
theorem pFD_eq {R : Nat → Nat → Int} {dy ls f : F1} {day since : Int} {c : Nat} {s : BS} {g : Nat} : pFD R dy ls f day since c s g = if pIn dy ls f g day ∧ pUse R f day c g ∧ since ≤ day ∧ pPl R s g ≠ -2 then pFv R dy f day (pPl R s g) g else -1 := by
  show Classical.choose pFD_ex R dy ls f day since c s g = _
  rw [Classical.choose_spec pFD_ex]
  rfl
abbrev pWon (R : Nat → Nat → Int) (dy f : F1) (day fd : Int) (g t : Nat) : Prop :=
  (f 9 ≠ 0 ∧ pGood R f g day ≠ -2 ∧ pGood R f t day = -2) ∨ (¬ (f 9 ≠ 0 ∧ ¬ (pGood R f g day = -2 ↔ pGood R f t day = -2)) ∧ ((f 7 ≠ 0 ∧ pDay R dy f t day ≤ fd) ∨ (f 7 = 0 ∧ fd ≤ pDay R dy f t day)))
abbrev pBt (R : Nat → Nat → Int) (dy ls f : F1) (day since : Int) (c : Nat) (s : BS) (t g : Nat) : Prop := pFD R dy ls f day since c s g ≠ -1 ∧ pWon R dy f day (pFD R dy ls f day since c s g) g t
noncomputable def pW (R : Nat → Nat → Int) (dy ls f : F1) (day since : Int) (c : Nat) (s : BS) (t : Nat) : Nat → Int
  | 0 => -2
  | m + 1 => if pW R dy ls f day since c s t m ≠ -2 then pW R dy ls f day since c s t m else if pBt R dy ls f day since c s t (6 + m) then ((6 + m : Nat) : Int) else -2
noncomputable def pOw (R : Nat → Nat → Int) (dy ls f : F1) (day since : Int) (c : Nat) (s : BS) (b : Int) : Nat → Int
  | 0 => 0
  | m + 1 => pOw R dy ls f day since c s b m + (if R 11 m = b ∧ pIn dy ls f m day ∧ (pGood R f m day = R 18 (7 * c + 1) ∨ pGood R f m day = -2) ∧ pW R dy ls f day since c s m (R 1 6).toNat = -2 then pAmt R f m day * R 18 (7 * c + 3) else 0)
theorem pW_none {R : Nat → Nat → Int} {dy ls f : F1} {day since : Int} {c : Nat} {s : BS} {t : Nat} : ∀ m, (∀ j, j < m → ¬ pBt R dy ls f day since c s t (6 + j)) → pW R dy ls f day since c s t m = -2
  | 0, _ => rfl
  | m + 1, h => by
    have ih := pW_none m (fun j hj => h j (by omega))
    unfold pW
    rw [if_neg (fun z => z ih), if_neg (h m (by omega))]
theorem pW_first {R : Nat → Nat → Int} {dy ls f : F1} {day since : Int} {c : Nat} {s : BS} {t i : Nat} (hi : pBt R dy ls f day since c s t (6 + i)) (hb : ∀ j, j < i → ¬ pBt R dy ls f day since c s t (6 + j)) : ∀ m, i < m → pW R dy ls f day since c s t m = ((6 + i : Nat) : Int)
  | 0, h => by omega
  | m + 1, h => by
    unfold pW
    by_cases e : i = m
    · subst e
      rw [if_neg (fun z => z (pW_none _ hb)), if_pos hi]
    · have ih := pW_first hi hb m (by omega)
      rw [ih, if_pos (by omega)]
theorem mul99 {x y : Int} (h1 : 0 ≤ x) (h2 : x ≤ 99) (h3 : 0 ≤ y) (h4 : y ≤ 99) : 0 ≤ x * y ∧ x * y ≤ 9801 := by
  have a := Int.mul_le_mul h2 h4 h3 (by omega)
  have b := Int.mul_nonneg h1 h3
  exact ⟨b, by omega⟩
theorem pOw_le {R : Nat → Nat → Int} {dy ls f : F1} {day since : Int} {c : Nat} {s : BS} {b : Int} (hc : RC R) (hl : (c : Int) < R 1 11) : ∀ m : Nat, (m : Int) ≤ R 1 5 → 0 ≤ pOw R dy ls f day since c s b m ∧ pOw R dy ls f day since c s b m ≤ 9801 * m
  | 0, _ => ⟨Int.le_refl _, Int.le_refl _⟩
  | m + 1, h => by
    have ih := pOw_le (dy := dy) (ls := ls) (f := f) (day := day) (since := since) (s := s) (b := b) hc hl m (by omega)
    have h5 : R 1 5 ≤ 6 := (hc.1 5 (by omega)).2
    have ha := pAmt_le (f := f) (day := day) hc.2 (show hasG R m from Or.inl ⟨by omega, by omega⟩) (by omega)
    have hq := hc.2.2.2.2.2.2.2 c hl
    have hm := mul99 ha.1 ha.2 (show 0 ≤ R 18 (7 * c + 3) by omega) (by omega)
    unfold pOw
    split <;> omega
/-! THE CLASS: Court -/
theorem c_ofCart {h : Nat} {R : Nat → Nat → Int} {iv : IV} {rv : RV} {c w : Nat} {K : Int → Prop} (hR : ∀ r i, r < 19 → iv (h + r) i = R r i) (hcc : c < 6) (hw : w < 7) (hK : K (R 18 (7 * c + w))) : wp_X5_ofCart h c w iv rv K := by
  have e : w32 (w32 ((c : Int) * 7) + (w : Int)) = ((7 * c + w : Nat) : Int) := by rw [w32_id (x := (c : Int) * 7) (by omega) (by omega), w32_id (by omega) (by omega)]; omega
  unfold wp_X5_ofCart
  rw [e, Int.toNat_natCast, hR _ _ (by omega)]
  exact ⟨⟨by omega, by omega⟩, hK⟩
theorem c_isOn {iv : IV} {rv : RV} {g : Nat} {K : Int → Prop} (hg : g < 16) (h1 : (iv 56 g = iv 58 3 ∨ iv 56 g = -2) → K 1) (h0 : ¬ (iv 56 g = iv 58 3 ∨ iv 56 g = -2) → K 0) : wp_X0_isOn g iv rv K := by
  have t : ((g : Int)).toNat = g := Int.toNat_natCast g
  unfold wp_X0_isOn
  rw [t]
  exact ⟨⟨by omega, by omega⟩, fun z => h1 (Or.inl z), fun z => ⟨⟨by omega, by omega⟩, fun y => h0 (by omega), fun y => h1 (Or.inr y)⟩⟩
theorem c_has3 {s : BS} {iv : IV} {rv : RV} {p : Int} {K : Int → Prop} (hB : CB s iv) (hp : 0 ≤ p ∧ p < 8) (h1 : pBy s.2.1 s.2.2 p s.1 ≠ -2 → K 1) (h0 : pBy s.2.1 s.2.2 p s.1 = -2 → K 0) : wp_X3_has p iv rv K := by
  have q := hB.2.2 p.toNat (by omega)
  rw [show ((p.toNat : Nat) : Int) = p by omega] at q
  unfold wp_X3_has
  rw [q]
  exact ⟨hp, h0, h1⟩
theorem BI.by_ {R : Nat → Nat → Int} {s : BS} (h : BI R s) (p : Int) : pBy s.2.1 s.2.2 p s.1 = -2 ∨ pBy s.2.1 s.2.2 p s.1 = -1 ∨ (12 ≤ pBy s.2.1 s.2.2 p s.1 ∧ pBy s.2.1 s.2.2 p s.1 < 12 + R 1 7) := by
  obtain ⟨-, -, h3, -⟩ := h
  have key : ∀ n, n ≤ s.1 → (pBy s.2.1 s.2.2 p n = -2 ∨ pBy s.2.1 s.2.2 p n = -1 ∨ (12 ≤ pBy s.2.1 s.2.2 p n ∧ pBy s.2.1 s.2.2 p n < 12 + R 1 7)) := by
    intro n
    induction n with
    | zero => intro _; exact Or.inl rfl
    | succ n ih =>
      intro hn
      unfold pBy
      split
      · exact Or.inr (h3 n (by omega))
      · exact ih (by omega)
  exact key s.1 (Nat.le_refl _)
theorem c_dof {h : Nat} {R : Nat → Nat → Int} {dy ls f : F1} {iv : IV} {rv : RV} {day : Int} {s : BS} {g : Nat} {K : Int → Prop} (h6 : gR rv 51 6 = h) (C : CS h R dy ls f iv) (hc : RC R) (hs : Sup f) (hW : ∀ g, hasG R g → WG R dy ls f day iv g) (hB : CB s iv) (hI : BI R s) (hg : hasG R g) (h6g : 6 ≤ g) (hn : pPl R s g ≠ -2)
    (hK : K (pFv R dy f day (pPl R s g) g)) : wp_X0_dayOfFreedom g iv rv K := by
  have t : ((g : Int)).toNat = g := Int.toNat_natCast g
  have hl : g < 16 := by unfold hasG at hg; omega
  have h0 : R 1 0 ≤ 8 := (hc.1 0 (by omega)).2
  have h7 : R 1 7 ≤ 4 := (hc.1 7 (by omega)).2
  have hw := (hc.2.2.2.2.1 g hg).1 h6g
  have w11 : iv (gR rv 51 6 + 11) g = R 11 g := by rw [h6]; exact C.1 11 g (by omega)
  have q := hB.2.2 (R 11 g).toNat (by omega)
  rw [show (((R 11 g).toNat : Nat) : Int) = R 11 g by omega] at q
  have hb := hI.by_ (R 11 g)
  have w55 := (hW g hg).2.1
  have f8 := C.2.2.1 8 (by omega) (by omega)
  unfold wp_X0_dayOfFreedom bd_X0_dayOfFreedom_45
  rw [t, w11, q, w55, f8]
  rw [pFv_eq] at hK
  refine ⟨⟨by omega, by omega⟩, ⟨by omega, by omega⟩, fun x3 e3 => ⟨⟨by omega, by omega⟩, fun x5 e5 => ?_⟩⟩
  subst e3; subst e5
  refine ⟨fun z => ?_, fun z => ⟨fun y => ⟨⟨by omega, by omega⟩, fun r9 e9 => ?_⟩, fun y => ?_⟩⟩
  · rw [if_pos (Or.inl z)] at hK; exact hK
  · rw [if_neg (fun q => q.elim z (fun w => w y))] at hK
    have hg2 : hasG R (pBy s.2.1 s.2.2 (R 11 g) s.1).toNat := Or.inr (Or.inr ⟨by omega, by omega, by omega⟩)
    have v55 := (hW _ hg2).2.1
    rw [pDay_as hc hs (by omega)] at v55
    rw [e9, v55]
    exact hK
  · rw [if_pos (Or.inr y)] at hK; exact hK
theorem c_hear {h : Nat} {R : Nat → Nat → Int} {dy ls f : F1} {iv : IV} {rv : RV} {day : Int} {c : Nat} {p since : Int} {K : IV → Prop} (hh : h = 2 ∨ h = 21) (h6 : gR rv 51 6 = h) (C : CS h R dy ls f iv) (hc : RC R) (hs : Sup f) (hd : iv 51 11 = day) (hW : ∀ g, hasG R g → WG R dy ls f day iv g) (hcc : (c : Int) < R 1 11) (hp : 0 ≤ p ∧ p < R 1 0)
    (hK : ∀ iv', (∀ k j, ¬ (58 ≤ k ∧ k ≤ 62) → iv' k j = iv k j) → CB (bGo R dy ls f day p) iv' → iv' 58 3 = R 18 (7 * c + 1) → iv' 58 4 = R 18 (7 * c + 3) → (∀ m : Nat, (m : Int) < R 1 6 → iv' 62 (6 + m) = pFD R dy ls f day since c (bGo R dy ls f day p) (6 + m)) → K iv') : wp_X0_hear c p since iv rv K := by
  have h11 : R 1 11 ≤ 6 := (hc.1 11 (by omega)).2
  have h0 : R 1 0 ≤ 8 := (hc.1 0 (by omega)).2
  have h6c : 0 ≤ R 1 6 ∧ R 1 6 ≤ 6 := hc.1 6 (by omega)
  unfold wp_X0_hear
  rw [h6]
  refine c_ofCart (w := 1) C.1 (by omega) (by omega) (fun iv2 e2 => ?_)
  have C2 : CS h R dy ls f iv2 := C.congr hh fun k j hkj => by rw [e2, w2_ne (by omega)]
  refine c_ofCart (w := 3) C2.1 (by omega) (by omega) (fun iv4 e4 => ?_)
  have fr4 : ∀ k j, ¬ (58 ≤ k ∧ k ≤ 62) → iv4 k j = iv k j := fun k j hkj => by rw [e4, e2, w2_ne (by omega), w2_ne (by omega)]
  have C4 : CS h R dy ls f iv4 := C.congr hh fun k j hkj => fr4 k j (by omega)
  refine c_ofCart (w := 2) C4.1 (by omega) (by omega) ?_
  have wgc : ∀ iv', (∀ k j, ¬ (58 ≤ k ∧ k ≤ 62) → iv' k j = iv k j) → ∀ g, hasG R g → WG R dy ls f day iv' g := fun iv' fr g hg => by
    obtain ⟨w1, w2', w3, w4⟩ := hW g hg
    exact ⟨(fr _ _ (by omega)).trans w1, (fr _ _ (by omega)).trans w2', (fr _ _ (by omega)).trans w3, (fr _ _ (by omega)).trans w4⟩
  refine c_from hh h6 C4 hc (wgc iv4 fr4) hp (fun iv6 fr6 hB6 => ?_)
  have hI : BI R (bGo R dy ls f day p) := BI.go hc hp
  generalize hsx : bGo R dy ls f day p = s at *
  intro P hP
  have key : ∀ d m : Nat, m + d = (R 1 6).toNat → ∀ (x : Int) (iv' : IV), x = m → (∀ k j, k ≠ 62 → iv' k j = iv6 k j) → (∀ i, i < m → iv' 62 (6 + i) = pFD R dy ls f day since c s (6 + i)) → P since (R 18 (7 * c + 2)) x iv' := by
    intro d
    induction d with
    | zero =>
      intro m hm x iv' ex fr hF
      subst ex
      have fr' : ∀ k j, ¬ (58 ≤ k ∧ k ≤ 62) → iv' k j = iv k j := fun k j hkj => by rw [fr _ _ (by omega), fr6 _ _ (by omega), fr4 _ _ hkj]
      have e6 : iv' (gR rv 51 6 + 1) 6 = R 1 6 := by rw [fr' _ _ (by omega), h6]; exact C.1 1 6 (by omega)
      refine hP _ _ _ _ ⟨fun _ => hK iv' fr' (hB6.congr fun k j hkj => fr k j (by omega)) ?_ ?_ (fun i hi => hF i (by omega)), fun z => by omega⟩
      · rw [fr _ _ (by omega), fr6 _ _ (by omega), e4, w2_ne (by omega), e2, w2_eq]
      · rw [fr _ _ (by omega), fr6 _ _ (by omega), e4, w2_eq]
    | succ d ih =>
      intro m hm x iv' ex fr hF
      subst ex
      have fr' : ∀ k j, ¬ (58 ≤ k ∧ k ≤ 62) → iv' k j = iv k j := fun k j hkj => by rw [fr _ _ (by omega), fr6 _ _ (by omega), fr4 _ _ hkj]
      have e6 : iv' (gR rv 51 6 + 1) 6 = R 1 6 := by rw [fr' _ _ (by omega), h6]; exact C.1 1 6 (by omega)
      have C' : CS h R dy ls f iv' := C.congr hh fun k j hkj => fr' k j (by omega)
      have hB' : CB s iv' := hB6.congr fun k j hkj => fr k j (by omega)
      have hW' := wgc iv' fr'
      have ew : Unit → w32 ((m : Int) + 1) = (m : Int) + 1 := fun _ => w32_id (by omega) (by omega)
      have e12 : Unit → w32 (6 + (m : Int)) = ((6 + m : Nat) : Int) := fun _ => w32_id (by omega) (by omega)
      have t12 : (((6 + m : Nat) : Int)).toNat = 6 + m := Int.toNat_natCast _
      have hg : hasG R (6 + m) := Or.inr (Or.inl ⟨by omega, by omega, by omega⟩)
      have hw := (hc.2.2.2.2.1 (6 + m) hg).1 (by omega)
      obtain ⟨w54, w55, w56, w57⟩ := hW' _ hg
      have w11 : iv' (gR rv 51 6 + 11) (6 + m) = R 11 (6 + m) := by rw [h6]; exact C'.1 11 _ (by omega)
      have g3 : iv' 58 3 = R 18 (7 * c + 1) := by rw [fr _ _ (by omega), fr6 _ _ (by omega), e4, w2_ne (by omega), e2, w2_eq]
      have hd' : iv' 51 11 = day := by rw [fr' _ _ (by omega)]; exact hd
      have fin : ∀ t0, t0 = pFD R dy ls f day since c s (6 + m) → bd_X0_hear_195 P since (R 18 (7 * c + 2)) m t0 ((6 + m : Nat) : Int) iv' rv K := by
        intro t0 et
        refine ⟨⟨by omega, by omega⟩, fun iv2 e2 => ?_⟩
        rw [ew ()]
        rw [t12] at e2
        refine ih (m + 1) (by omega) _ iv2 (by omega) (fun k j hk => by rw [e2, w2_ne (by omega)]; exact fr k j hk) (fun i hi => ?_)
        by_cases z : i = m
        · rw [z, e2, w2_eq, et]
        · rw [e2, w2_ne (by omega)]; exact hF i (by omega)
      have bad : Unit → (¬ (pIn dy ls f (6 + m) day ∧ pUse R f day c (6 + m) ∧ since ≤ day ∧ pPl R s (6 + m) ≠ -2) → bd_X0_hear_195 P since (R 18 (7 * c + 2)) m (-1) ((6 + m : Nat) : Int) iv' rv K) := fun _ z => fin _ (by rw [pFD_eq]; rw [if_neg z])
      have serve : ∀ t0 : Int, (t0 = 1 ∧ pIn dy ls f (6 + m) day ∧ pUse R f day c (6 + m)) ∨ (t0 = 0 ∧ ¬ (pIn dy ls f (6 + m) day ∧ pUse R f day c (6 + m))) → bd_X0_hear_131 P since (R 18 (7 * c + 2)) m ((6 + m : Nat) : Int) t0 iv' rv K := by
        intro t0 ht
        unfold bd_X0_hear_131 bd_X0_hear_166 bd_X0_hear_167 bd_X0_hear_194
        rw [hd', t12, w11]
        refine ⟨fun z => ⟨fun y => bad () (by omega), fun y => ⟨fun _ => bad () (by omega), fun y => by omega⟩⟩, fun z => ⟨⟨by omega, by omega⟩, c_has3 hB' (by omega) (fun hr => ⟨fun y => by omega, fun _ => ⟨fun y => bad () (fun q => ?_), fun y => ⟨fun y => by omega, fun _ => ?_⟩⟩⟩) (fun hr => ⟨fun _ => ⟨fun y => bad () (fun q => q.2.2.2 hr), fun y => ⟨fun _ => bad () (fun q => q.2.2.2 hr), fun y => by omega⟩⟩, fun y => by omega⟩)⟩⟩
        · rcases ht with ht | ht
          · omega
          · exact ht.2 ⟨q.1, q.2.1⟩
        · rcases ht with ht | ht
          · refine c_dof h6 C' hc hs hW' hB' hI hg (by omega) hr (fin _ ?_)
            rw [pFD_eq]
            rw [if_pos ⟨ht.2.1, ht.2.2, by omega, hr⟩]
          · omega
      apply hP
      unfold bd_X0_hear_55 bd_X0_hear_130 bd_X0_hear_126
      rw [e12 ()]
      refine ⟨fun z => by omega, fun _ x2 e2 => ?_⟩
      subst e2
      rw [t12, w54, w57]
      have s0 : Unit → ¬ (pIn dy ls f (6 + m) day ∧ pUse R f day c (6 + m)) → _ := fun _ z => serve 0 (Or.inr ⟨rfl, z⟩)
      have s1 : Unit → (pIn dy ls f (6 + m) day ∧ pUse R f day c (6 + m)) → _ := fun _ z => serve 1 (Or.inl ⟨rfl, z⟩)
      by_cases hi : pIn dy ls f (6 + m) day
      · rw [if_pos hi]
        refine ⟨⟨by omega, by omega⟩, fun z => by omega, fun _ => c_isOn (by omega) (fun hon => ⟨fun z => by omega, fun _ => ?_⟩) (fun hon => ⟨fun _ => s0 () (fun q => ?_), fun z => by omega⟩)⟩
        · rw [w56, g3] at hon
          exact ⟨⟨by omega, by omega⟩, fun z => s1 () ⟨hi, hon, Or.inl z⟩, fun z => ⟨⟨by omega, by omega⟩, fun y => s0 () (fun q => by have := q.2.2; omega), fun y => s1 () ⟨hi, hon, Or.inr y⟩⟩⟩
        · rw [w56, g3] at hon
          exact hon q.2.1
      · rw [if_neg hi]
        exact ⟨⟨by omega, by omega⟩, fun _ => s0 () (fun q => hi q.1), fun z => by omega⟩
  exact key (R 1 6).toNat 0 (by omega) _ _ rfl (fun _ _ _ => rfl) (fun i hi => by omega)
/-- what hear leaves -/
def CH (R : Nat → Nat → Int) (dy ls f : F1) (day since : Int) (c : Nat) (s : BS) (iv : IV) : Prop := (∀ g, hasG R g → WG R dy ls f day iv g) ∧ iv 58 3 = R 18 (7 * c + 1) ∧ iv 58 4 = R 18 (7 * c + 3) ∧ (∀ m : Nat, (m : Int) < R 1 6 → iv 62 (6 + m) = pFD R dy ls f day since c s (6 + m))
theorem c_winner {h : Nat} {R : Nat → Nat → Int} {dy ls f : F1} {iv : IV} {rv : RV} {day since : Int} {c : Nat} {s : BS} {t : Nat} {K : Int → Prop} (h6 : gR rv 51 6 = h) (C : CS h R dy ls f iv) (hc : RC R) (H : CH R dy ls f day since c s iv) (ht : hasG R t) (hl : t < 6)
    (hK : K (pW R dy ls f day since c s t (R 1 6).toNat)) : wp_X0_winner t iv rv K := by
  have h6c : 0 ≤ R 1 6 ∧ R 1 6 ≤ 6 := hc.1 6 (by omega)
  have tt : ((t : Int)).toNat = t := Int.toNat_natCast t
  have e6 : iv (gR rv 51 6 + 1) 6 = R 1 6 := by rw [h6]; exact C.1 1 6 (by omega)
  obtain ⟨-, v55, v56, -⟩ := H.1 t ht
  have f7 := C.2.2.1 7 (by omega) (by omega)
  have f9 := C.2.2.1 9 (by omega) (by omega)
  have main : ∀ l2 : Int, (l2 = 0 ∧ pGood R f t day = -2) ∨ (l2 = 1 ∧ pGood R f t day ≠ -2) → bd_X0_winner_19 t l2 iv rv K := by
    intro l2 hl2 P hP
    have key : ∀ d m : Nat, m + d = (R 1 6).toNat → (∀ j, j < m → ¬ pBt R dy ls f day since c s t (6 + j)) → ∀ x : Int, x = m → P t l2 x := by
      intro d
      induction d with
      | zero =>
        intro m hm hn x ex
        refine hP _ _ _ ⟨fun _ => ?_, fun z => by omega⟩
        rw [pW_none _ (fun j hj => hn j (by omega))] at hK
        exact hK
      | succ d ih =>
        intro m hm hn x ex
        subst ex
        have ew : Unit → w32 ((m : Int) + 1) = (m : Int) + 1 := fun _ => w32_id (by omega) (by omega)
        have e12 : Unit → w32 (6 + (m : Int)) = ((6 + m : Nat) : Int) := fun _ => w32_id (by omega) (by omega)
        have t12 : (((6 + m : Nat) : Int)).toNat = 6 + m := Int.toNat_natCast _
        have hg : hasG R (6 + m) := Or.inr (Or.inl ⟨by omega, by omega, by omega⟩)
        obtain ⟨w54, w55, w56, w57⟩ := H.1 _ hg
        have w62 := H.2.2.2 m (by omega)
        apply hP
        unfold bd_X0_winner_22 bd_X0_winner_83 bd_X0_winner_108 bd_X0_winner_159 bd_X0_winner_161 bd_X0_winner_169
        rw [e12 (), ew (), tt]
        refine ⟨fun z => by omega, fun _ x2 e2 => ?_⟩
        subst e2
        rw [t12, w62, w56, v55, f7, f9]
        refine ⟨⟨by omega, by omega⟩, fun x4 e4 => ?_⟩
        subst e4
        by_cases hx : pBt R dy ls f day since c s t (6 + m)
        · have y : K ((6 + m : Nat) : Int) := by rw [pW_first hx hn _ (by omega)] at hK; exact hK
          unfold pBt pWon at hx
          (repeat' (first | exact y | intro _ | refine And.intro ?_ ?_)) <;> omega
        · have y : P t l2 ((m : Int) + 1) := ih (m + 1) (by omega) (fun j hj => by
            by_cases z : j = m
            · subst z; exact hx
            · exact hn j (by omega)) _ (by omega)
          unfold pBt pWon at hx
          (repeat' (first | exact y | intro _ | refine And.intro ?_ ?_)) <;> omega
    exact key (R 1 6).toNat 0 (by omega) (fun j hj => by omega) _ rfl
  unfold wp_X0_winner
  rw [tt, v56]
  exact ⟨⟨by omega, by omega⟩, fun z => main 0 (Or.inl ⟨rfl, z⟩), fun z => main 1 (Or.inr ⟨rfl, z⟩)⟩
theorem c_owedAt {h : Nat} {R : Nat → Nat → Int} {dy ls f : F1} {iv : IV} {rv : RV} {day since : Int} {c : Nat} {s : BS} {b : Int} {K : Int → Prop} (h6 : gR rv 51 6 = h) (C : CS h R dy ls f iv) (hc : RC R) (H : CH R dy ls f day since c s iv) (hcc : (c : Int) < R 1 11)
    (hK : K (pOw R dy ls f day since c s b (R 1 5).toNat)) : wp_X0_owedAt b iv rv K := by
  have h5 : 0 ≤ R 1 5 ∧ R 1 5 ≤ 6 := hc.1 5 (by omega)
  have e5 : iv (gR rv 51 6 + 1) 5 = R 1 5 := by rw [h6]; exact C.1 1 5 (by omega)
  intro P hP
  have key : ∀ d m : Nat, m + d = (R 1 5).toNat → ∀ a x : Int, a = pOw R dy ls f day since c s b m → x = m → P b a x := by
    intro d
    induction d with
    | zero =>
      intro m hm a x ea ex
      refine hP _ _ _ ⟨fun _ => ?_, fun z => by omega⟩
      rw [ea, show m = (R 1 5).toNat by omega]
      exact hK
    | succ d ih =>
      intro m hm a x ea ex
      subst ex
      have ew : Unit → w32 ((m : Int) + 1) = (m : Int) + 1 := fun _ => w32_id (by omega) (by omega)
      have tm : ((m : Int)).toNat = m := Int.toNat_natCast m
      have hg : hasG R m := Or.inl ⟨by omega, by omega⟩
      obtain ⟨w54, w55, w56, w57⟩ := H.1 _ hg
      have w11 : iv (gR rv 51 6 + 11) m = R 11 m := by rw [h6]; exact C.1 11 _ (by omega)
      have bo := pOw_le (dy := dy) (ls := ls) (f := f) (day := day) (since := since) (s := s) (b := b) hc hcc m (by omega)
      have ha := pAmt_le (f := f) (day := day) hc.2 hg (by omega)
      have hq := hc.2.2.2.2.2.2.2 c hcc
      have hm9 := mul99 ha.1 ha.2 (show 0 ≤ R 18 (7 * c + 3) by omega) (by omega)
      have ih' := ih (m + 1) (by omega)
      unfold pOw at ih'
      have y0 : Unit → (¬ (R 11 m = b ∧ pIn dy ls f m day ∧ (pGood R f m day = R 18 (7 * c + 1) ∨ pGood R f m day = -2) ∧ pW R dy ls f day since c s m (R 1 6).toNat = -2) → P b a ((m : Int) + 1)) := fun _ z => ih' _ _ (by rw [if_neg z, ea, Int.add_zero]) (by omega)
      apply hP
      unfold bd_X0_owedAt_4 bd_X0_owedAt_83
      rw [ew (), tm, w11, w54, w57, H.2.2.1]
      refine ⟨fun z => by omega, fun _ => ⟨⟨by omega, by omega⟩, fun z => y0 () (fun q => z q.1), fun z => ⟨⟨by omega, by omega⟩, fun z1 => y0 () (fun q => ?_), fun z1 => c_isOn (by omega) (fun hon => ⟨fun z => by omega, fun _ => c_winner h6 C hc H hg (by omega) ⟨fun z2 => y0 () (fun q => z2 q.2.2.2), fun z2 => ⟨⟨by omega, by omega⟩, fun x11 e11 => ?_⟩⟩⟩) (fun hon => ⟨fun _ => y0 () (fun q => ?_), fun z => by omega⟩)⟩⟩⟩
      · rw [if_pos q.2.1] at z1; omega
      · rw [w56, H.2.1] at hon
        refine ih' _ _ ?_ (by omega)
        rw [if_pos ⟨z, (by
          by_cases hi : pIn dy ls f m day
          · exact hi
          · rw [if_neg hi] at z1; omega), hon, z2⟩, e11, ← ea, w32_id (x := pAmt R f m day * R 18 (7 * c + 3)) (by omega) (by omega), w32_id (by omega) (by omega)]
      · rw [w56, H.2.1] at hon
        exact hon q.2.2.1
  exact key (R 1 5).toNat 0 (by omega) _ _ rfl rfl
