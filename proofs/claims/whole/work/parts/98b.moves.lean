/-! PAIRS: moves, hangs -/
theorem up1_up1 {q : F1} {i : Nat} {x y : Int} : up1 (up1 q i x) i y = up1 q i y := by
  funext j
  by_cases z : j = i
  · rw [z, up1_eq, up1_eq]
  · rw [up1_ne z, up1_ne z, up1_ne z]
theorem up1_id {q : F1} {i : Nat} {x : Int} (h : x = q i) : up1 q i x = q := by
  funext j
  by_cases z : j = i
  · rw [z, up1_eq, h]
  · rw [up1_ne z]
def pMn (v : Nat → Int) : Nat → Int
  | 0 => v 0
  | m + 1 => min (pMn v m) (v (m + 1))
def pMx (v : Nat → Int) : Nat → Int
  | 0 => v 0
  | m + 1 => max (pMx v m) (v (m + 1))
theorem pMM {v : Nat → Int} {b : Int} (h : ∀ i, 0 ≤ v i ∧ v i ≤ b) : ∀ m, 0 ≤ pMn v m ∧ pMn v m ≤ pMx v m ∧ pMx v m ≤ b
  | 0 => ⟨(h 0).1, Int.le_refl _, (h 0).2⟩
  | m + 1 => by
    have a := pMM h m
    have c := h (m + 1)
    show 0 ≤ min (pMn v m) (v (m + 1)) ∧ min (pMn v m) (v (m + 1)) ≤ max (pMx v m) (v (m + 1)) ∧ max (pMx v m) (v (m + 1)) ≤ b
    omega
/-- coin by the day of a grant -/
noncomputable def cv (R : Nat → Nat → Int) (f : F1) (g i : Nat) : Int := pCoin R (up1 (R 8) g (R 8 g + i)) (R 10) f (R 1 11).toNat
theorem cv_le {R : Nat → Nat → Int} {f : F1} {g : Nat} (hc : RC R) (i : Nat) : 0 ≤ cv R f g i ∧ cv R f g i ≤ 2469852 := by
  have h11 : 0 ≤ R 1 11 ∧ R 1 11 ≤ 6 := hc.1 11 (by omega)
  have := pCoin_le (dy := up1 (R 8) g (R 8 g + i)) (ls := R 10) (f := f) hc (R 1 11).toNat (by omega)
  unfold cv
  omega
noncomputable def pMvb (R : Nat → Nat → Int) (f : F1) (g : Nat) : Int := pMx (cv R f g) (R 9 g - R 8 g).toNat - pMn (cv R f g) (R 9 g - R 8 g).toNat
theorem pMv_ex : ∃ F : (Nat → Nat → Int) → F1 → Nat → Int, F = pMvb := ⟨pMvb, rfl⟩
noncomputable def pMv : (Nat → Nat → Int) → F1 → Nat → Int := Classical.choose pMv_ex
theorem pMv_eq {R : Nat → Nat → Int} {f : F1} {g : Nat} : pMv R f g = pMx (cv R f g) (R 9 g - R 8 g).toNat - pMn (cv R f g) (R 9 g - R 8 g).toNat := by
  show Classical.choose pMv_ex R f g = _
  rw [Classical.choose_spec pMv_ex]
  rfl
theorem pMv_le {R : Nat → Nat → Int} {f : F1} {g : Nat} (hc : RC R) : 0 ≤ pMv R f g ∧ pMv R f g ≤ 2469852 := by
  have := pMM (fun i => cv_le (f := f) (g := g) hc i) (R 9 g - R 8 g).toNat
  rw [pMv_eq]
  omega
theorem CS.day {h : Nat} {R : Nat → Nat → Int} {dy ls f : F1} {iv : IV} {g : Nat} {x : Int} (C : CS h R dy ls f iv) (hh : h = 2 ∨ h = 21) : CS h R (up1 dy g x) ls f (w2 iv 52 g x) := by
  obtain ⟨c1, c2, c3, c4, c5⟩ := C
  refine ⟨fun r i hr => by rw [w2_ne (by omega)]; exact c1 r i hr, fun v hv => ?_, fun j j1 j2 => by rw [w2_ne (by omega)]; exact c3 j j1 j2, by rw [w2_ne (by omega)]; exact c4, by rw [w2_ne (by omega), w2_ne (by omega)]; exact c5⟩
  rw [w2_ne (k := 52) (a := 53) (by omega)]
  by_cases z : v = g
  · rw [z, w2_eq, up1_eq]; rw [z] at hv; exact ⟨rfl, (c2 g hv).2⟩
  · rw [w2_ne (by omega), up1_ne z]; exact c2 v hv
theorem MS.day {R : Nat → Nat → Int} {dy ls f : F1} {law : Nat} {iv : IV} {g : Nat} {x : Int} (S : MS R dy ls f law iv) : MS R (up1 dy g x) ls f law (w2 iv 68 g x) := by
  obtain ⟨s1, s2, s3, s4, s5, s6⟩ := S
  refine ⟨s1.congr fun k j hk => w2_ne (by omega), fun v hv => ?_, by rw [w2_ne (by omega)]; exact s3, by rw [w2_ne (by omega), w2_ne (by omega), w2_ne (by omega), w2_ne (by omega)]; exact s4, by rw [w2_ne (by omega)]; exact s5, by rw [w2_ne (by omega), w2_ne (by omega)]; exact s6⟩
  rw [w2_ne (k := 68) (a := 69) (by omega)]
  by_cases z : v = g
  · rw [z, w2_eq, up1_eq]; rw [z] at hv; exact ⟨rfl, (s2 g hv).2⟩
  · rw [w2_ne (by omega), up1_ne z]; exact s2 v hv
theorem dys_up {R : Nat → Nat → Int} (hc : RC R) {g : Nat} {x : Int} (hx : 0 ≤ x ∧ x ≤ 1000) : Dys R (up1 (R 8) g x) := fun v hv => by
  by_cases z : v = g
  · rw [z, up1_eq]; exact hx
  · rw [up1_ne z]; exact hc.dys v hv
theorem c_moved {h : Nat} {R : Nat → Nat → Int} {f : F1} {iv : IV} {rv : RV} {g : Nat} {K : Int → IV → Prop} (hh : h = 2 ∨ h = 21) (h6 : gR rv 51 6 = h) (h47 : gR rv 47 3 = h) (C : CS h R (R 8) (R 10) f iv) (hc : RC R) (hs : Sup f) (hg : hasG R g)
    (hK : ∀ iv', (∀ k j, ¬ (49 ≤ k ∧ k ≤ 50) → ¬ (54 ≤ k ∧ k ≤ 62) → ¬ (k = 51 ∧ j = 11) → k ≠ 52 → iv' k j = iv k j) → CS h R (R 8) (R 10) f iv' → K (pMv R f g) iv') : wp_X1_moved g iv rv K := by
  have hl : g < 16 := by unfold hasG at hg; omega
  have tg : ((g : Int)).toNat = g := Int.toNat_natCast g
  have d8 := hc.2.2.2.1 g hg
  have mm := fun m => pMM (fun i => cv_le (f := f) (g := g) hc i) m
  refine ⟨⟨by omega, by omega⟩, fun x2 e2 => ?_⟩
  rw [tg, h47, C.1 8 g (by omega)] at e2
  subst e2
  refine c_coin hh h6 h47 C hc hs (fun iv4 fr4 => ?_)
  have C4 : CS h R (R 8) (R 10) f iv4 := C.congr hh fun k j q => fr4 k j (by omega) (by omega) (by omega)
  intro x5 e5
  have e5' : x5 = R 8 g + 1 := by rw [e5]; exact w32_id (by omega) (by omega)
  clear e5
  intro P hP
  have key : ∀ d m : Nat, m + d = (R 9 g - R 8 g).toNat → ∀ (x le mo : Int) (iv' : IV), x = R 8 g + m + 1 → le = pMn (cv R f g) m → mo = pMx (cv R f g) m → (∀ k j, ¬ (49 ≤ k ∧ k ≤ 50) → ¬ (54 ≤ k ∧ k ≤ 62) → ¬ (k = 51 ∧ j = 11) → k ≠ 52 → iv' k j = iv k j) → CS h R (up1 (R 8) g (R 8 g + m)) (R 10) f iv' → P g (R 8 g) le mo x iv' := by
    intro d
    induction d with
    | zero =>
      intro m hm x le mo iv' ex el em fr C'
      have i9 : iv' (gR rv 47 3 + 9) g = R 9 g := by rw [h47]; exact C'.1 9 g (by omega)
      apply hP
      unfold bd_X1_moved_23
      rw [tg, i9]
      refine ⟨⟨by omega, by omega⟩, fun _ => ⟨⟨by omega, by omega⟩, fun iv5 e5 => ?_⟩, fun z => by omega⟩
      have m1 := mm m
      rw [← el, ← em] at m1
      rw [w32_id (by omega) (by omega)]
      have e : mo - le = pMv R f g := by rw [pMv_eq, ← show m = (R 9 g - R 8 g).toNat by omega, el, em]
      rw [e]
      refine hK iv5 (fun k j q1 q2 q3 q4 => by rw [e5, w2_ne (by omega)]; exact fr k j q1 q2 q3 q4) ?_
      have := C'.day (g := g) (x := R 8 g) hh
      rw [up1_up1, up1_id rfl, ← e5] at this
      exact this
    | succ d ih =>
      intro m hm x le mo iv' ex el em fr C'
      have i9 : iv' (gR rv 47 3 + 9) g = R 9 g := by rw [h47]; exact C'.1 9 g (by omega)
      have ew : Unit → w32 (x + 1) = x + 1 := fun _ => w32_id (by omega) (by omega)
      apply hP
      unfold bd_X1_moved_23
      rw [tg, i9, ew ()]
      refine ⟨⟨by omega, by omega⟩, fun z => by omega, fun _ => ⟨⟨by omega, by omega⟩, fun iv6 e6 => ?_⟩⟩
      have C6 : CS h R (up1 (R 8) g (R 8 g + ((m + 1 : Nat) : Int))) (R 10) f iv6 := by
        have := C'.day (g := g) (x := x) hh
        rw [up1_up1, ← e6, show x = R 8 g + ((m + 1 : Nat) : Int) by omega] at this
        exact this
      refine c_coin hh h6 h47 C6 hc hs (fun iv8 fr8 => ?_)
      intro r9 e9 r10 e10
      refine ih (m + 1) (by omega) _ _ _ iv8 (by omega) ?_ ?_ (fun k j q1 q2 q3 q4 => by rw [fr8 _ _ q1 q2 q3, e6, w2_ne (by omega)]; exact fr k j q1 q2 q3 q4) (C6.congr hh fun k j q => fr8 k j (by omega) (by omega) (by omega))
      · rw [e9, el]; rfl
      · rw [e10, em]; rfl
  refine key (R 9 g - R 8 g).toNat 0 (by omega) _ _ _ iv4 (by omega) ?_ ?_ (fun k j q1 q2 q3 q4 => fr4 k j q1 q2 q3) ?_
  · show _ = cv R f g 0
    unfold cv
    rw [up1_id (by omega)]
  · show _ = cv R f g 0
    unfold cv
    rw [up1_id (by omega)]
  · rw [up1_id (by omega)]; exact C4
theorem m_swing {R : Nat → Nat → Int} {law : Nat} {iv : IV} {rv : RV} {g : Nat} {K : Int → IV → Prop} (g1 : rv 66 3 = some 80) (hM : RM R iv) (hc : RC R) (hl : (law : Int) < R 1 10) (hg : hasG R g)
    (hK : ∀ iv', (∀ k j, ¬ (68 ≤ k ∧ k ≤ 72) → ¬ (75 ≤ k ∧ k ≤ 78) → ¬ (k = 66 ∧ 17 ≤ j ∧ j ≤ 26) → ¬ (k = 66 ∧ 36 ≤ j ∧ j ≤ 38) → iv' k j = iv k j) → K (pMv R (lf R law) g) iv') : wp_X12_swing g law iv rv K := by
  have hl16 : g < 16 := by unfold hasG at hg; omega
  have tg : ((g : Int)).toNat = g := Int.toNat_natCast g
  have d8 := hc.2.2.2.1 g hg
  have mm := fun m => pMM (fun i => cv_le (f := lf R law) (g := g) hc i) m
  refine m_lays g1 hM hc (fun iv1 fr1 hd1 e20 e17 => ⟨g1, ⟨by omega, by omega⟩, fun x3 e3 => ?_⟩)
  have M1 : RM R iv1 := hM.congr fun k j hk => fr1 k j (by omega) (by omega)
  have S1 := MS.of M1 hd1 e20 e17 hl
  obtain ⟨-, -, -, a4, a5, -⟩ := M1.2.2.2.2.1 g hg
  rw [tg, a4] at e3
  subst e3
  intro P hP
  have key : ∀ d m : Nat, m + d = (R 9 g - R 8 g).toNat + 1 → ∀ (x le mo y : Int) (iv' : IV), x = R 8 g + m → (0 < m → le = pMn (cv R (lf R law) g) (m - 1) ∧ mo = pMx (cv R (lf R law) g) (m - 1)) → (∀ k j, ¬ (68 ≤ k ∧ k ≤ 72) → ¬ (75 ≤ k ∧ k ≤ 78) → ¬ (k = 66 ∧ 17 ≤ j ∧ j ≤ 26) → ¬ (k = 66 ∧ 36 ≤ j ∧ j ≤ 38) → iv' k j = iv k j) → MS R (up1 (R 8) g y) (R 10) (lf R law) law iv' → P g le mo x iv' := by
    intro d
    induction d with
    | zero =>
      intro m hm x le mo y iv' ex hlm fr S'
      obtain ⟨el, em⟩ := hlm (by omega)
      obtain ⟨-, -, -, b4, b5, -⟩ := S'.1.2.2.2.2.1 g hg
      apply hP
      unfold bd_X12_swing_21
      rw [tg, b5]
      have m1 := mm (m - 1)
      rw [← el, ← em] at m1
      refine ⟨g1, ⟨by omega, by omega⟩, fun _ => ?_, fun z => by omega⟩
      rw [w32_id (by omega) (by omega)]
      have e : mo - le = pMv R (lf R law) g := by rw [pMv_eq, ← show m - 1 = (R 9 g - R 8 g).toNat by omega, el, em]
      rw [e]
      exact hK iv' fr
    | succ d ih =>
      intro m hm x le mo y iv' ex hlm fr S'
      replace hlm := fun (_ : Unit) => hlm
      obtain ⟨-, -, -, b4, b5, -⟩ := S'.1.2.2.2.2.1 g hg
      have ew : Unit → w32 (x + 1) = x + 1 := fun _ => w32_id (by omega) (by omega)
      apply hP
      unfold bd_X12_swing_21
      rw [tg, b5]
      refine ⟨g1, ⟨by omega, by omega⟩, fun z => by omega, fun _ => ⟨⟨by omega, by omega⟩, fun iv4 e4 => ?_⟩⟩
      have S4 : MS R (up1 (R 8) g (R 8 g + m)) (R 10) (lf R law) law iv4 := by
        have := S'.day (g := g) (x := x)
        rw [up1_up1, ← e4, ex] at this
        exact this
      refine m_coin g1 S4 hc lf_sup (dys_up hc (by omega)) (fun iv6 fr6 => ⟨⟨by omega, by omega⟩, ?_⟩)
      have S6 := S4.congr (iv' := iv6) fun k j q => fr6 k j (by omega) (by omega) (by omega) (by omega)
      have f6 : ∀ k j, ¬ (68 ≤ k ∧ k ≤ 72) → ¬ (75 ≤ k ∧ k ≤ 78) → ¬ (k = 66 ∧ 17 ≤ j ∧ j ≤ 26) → ¬ (k = 66 ∧ 36 ≤ j ∧ j ≤ 38) → iv6 k j = iv k j := fun k j q1 q2 q3 q4 => by
        rw [fr6 _ _ (by omega) q2 (by omega) q4, e4, w2_ne (by omega)]; exact fr k j q1 q2 q3 q4
      have c4 := (S6.1.2.2.2.2.1 g hg).2.2.2.1
      have cvm : cv R (lf R law) g m = pCoin R (up1 (R 8) g (R 8 g + m)) (R 10) (lf R law) (R 1 11).toNat := rfl
      rw [c4, ← cvm]
      have nx : ∀ a b : Int, (m = 0 ∧ a = cv R (lf R law) g m ∧ b = cv R (lf R law) g m) ∨ (0 < m ∧ a = min le (cv R (lf R law) g m) ∧ b = max mo (cv R (lf R law) g m)) → P g a b (w32 (x + 1)) iv6 := by
        intro a b hab
        rw [ew ()]
        refine ih (m + 1) (by omega) _ _ _ _ iv6 (by omega) (fun _ => ?_) f6 S6
        rcases hab with ⟨h1, h2, h3⟩ | ⟨h1, h2, h3⟩
        · subst h1; exact ⟨h2, h3⟩
        · obtain ⟨el, em⟩ := hlm () h1
          obtain ⟨k, rfl⟩ : ∃ k, m = k + 1 := ⟨m - 1, by omega⟩
          rw [Nat.add_sub_cancel] at el em
          rw [el] at h2
          rw [em] at h3
          exact ⟨h2, h3⟩
      clear cvm S6 S4 fr6 f6 ih hlm mm
      generalize cv R (lf R law) g m = v at *
      unfold bd_X12_swing_68 bd_X12_swing_81 bd_X12_swing_87 bd_X12_swing_100 bd_X12_swing_107
      refine ⟨fun z => ⟨fun y => absurd rfl y, fun _ => ⟨fun q => ⟨fun y => absurd rfl y, fun _ => ⟨fun u => nx _ _ (Or.inr ⟨by omega, by omega, by omega⟩), fun u => nx _ _ (Or.inr ⟨by omega, by omega, by omega⟩)⟩⟩, fun q => ⟨fun y => absurd rfl y, fun _ => ⟨fun u => nx _ _ (Or.inr ⟨by omega, by omega, by omega⟩), fun u => nx _ _ (Or.inr ⟨by omega, by omega, by omega⟩)⟩⟩⟩⟩, fun z => ⟨fun _ => ⟨fun _ => nx _ _ (Or.inl ⟨by omega, rfl, rfl⟩), fun y => absurd y (by decide)⟩, fun y => absurd y (by decide)⟩⟩
  refine key ((R 9 g - R 8 g).toNat + 1) 0 (by omega) _ _ _ (R 8 g) iv1 (by omega) (fun z => by omega) (fun k j q1 q2 q3 q4 => fr1 k j (by omega) (by omega)) ?_
  rw [up1_id rfl]
  exact S1
theorem pr_moves : Pr_moves Inv := by
  intro n iv rv a1 a2 h i1 i2
  obtain ⟨H, R, eH, hh, hc, hM, hR⟩ := h.beg
  have bad : Unit → ¬ (hasI R a1 ∧ (0 ≤ a2 ∧ a2 < R 1 10)) → bd_X10_moves_30 a1 a2 0 iv rv (fun r1 iv1 rv1 => wp_X12_moves a1 a2 iv1 rv1 (fun r2 iv2 => r2 = r1 ∧ Inv n iv2 rv1)) := by
    intro _ k
    refine admit0 ⟨fun z => absurd rfl z, fun _ iv1 e1 => ?_⟩ 0
    obtain ⟨f1, f2, f3⟩ := fr_adm e1
    have fin : wp_X12_refused 1 iv1 rv (fun r2 iv2 => r2 = -1 ∧ Inv n iv2 rv) := m_refused h f1 f2 (by decide)
    exact m_isG (hM.congr f3 rfl) hc (fun _ _ p1 => ⟨fun z => absurd z (by decide), fun _ => m_isLaw (hM.congr f3 rfl) (fun p3 p4 g1 hRM => absurd ⟨p1, p3, p4⟩ k) (fun p3 => ⟨fun _ => fin, fun z => absurd rfl z⟩)⟩) (fun p1 => ⟨fun _ => fin, fun z => absurd rfl z⟩)
  unfold wp_X10_moves
  rw [eH]
  refine c_hasG i1 hR hc (fun k1 => ⟨fun z => absurd z (by decide), fun _ => c_has (s := 10) hR (by omega) (fun k5 k6 => ⟨fun z => absurd z (by decide), fun _ => ?_⟩) (fun p => ⟨fun _ => bad () (fun q => p q.2), fun z => absurd rfl z⟩)⟩) (fun p => ⟨fun _ => bad () (fun q => p q.1), fun z => absurd rfl z⟩)
  unfold bd_X10_moves_30
  rw [eH]
  obtain ⟨g1, hRM⟩ := hM.of (by omega) k5 k6
  refine admit1 (by omega) ⟨fun _ => ?_, fun z => absurd z (by decide)⟩
  have hlt := hasI_lt k1
  obtain ⟨g, rfl⟩ := Int.eq_ofNat_of_zero_le hlt.1
  obtain ⟨law, rfl⟩ := Int.eq_ofNat_of_zero_le k5
  have hg : hasG R g := k1.2
  refine c_open hh (R := R) (fun r i hr => by rw [w2_ne (by omega)]; exact hR r i hr) hc (hRM.congr fun k j hk => w2_ne (by omega)) k6 (fun iv5 fr5 C5 => ?_)
  refine c_moved hh (gR_of rvo_51) (gR_of rvo_47) C5 hc lf_sup hg (fun iv8 fr8 _ => ?_)
  intro iv1 e1
  have fr1 : ∀ k j, nsc k j → iv1 k j = iv k j := fun k j q => by
    unfold nsc at q
    rw [e1, w2_ne (by omega), fr8 _ _ (by omega) (by omega) (by omega) (by omega), fr5 _ _ (by omega), w2_ne (by omega)]
  have e07 : iv1 0 7 = 0 := by rw [e1, w2_ne (by omega), fr8 _ _ (by omega) (by omega) (by omega) (by omega), fr5 _ _ (by omega), w2_eq]
  have h80 : ∀ k j, 80 ≤ k → iv1 k j = iv k j := fun k j q => fr1 k j (by unfold nsc; omega)
  have g1' : rvo rv H 66 3 = some 80 := by rw [rvo_ne (by omega) (by omega)]; exact g1
  have hM1 : MC R iv1 (rvo rv H) := hM.congr h80 (rvo_ne (by omega) (by omega))
  refine m_isG hM1 hc (fun _ _ _ => ⟨fun z => absurd z (by decide), fun _ => m_isLaw hM1 (fun p3 p4 _ _ => ⟨fun z => absurd z (by decide), fun _ => ?_⟩) (fun p3 => absurd ⟨k5, k6⟩ p3)⟩) (fun p1 => absurd k1 p1)
  refine m_swing g1' (hRM.congr h80) hc k6 hg (fun iv6 fr6 => m_done (h.rvo hh) (fun k j q => ?_) ?_)
  · have q' := q
    unfold nsc at q'
    rw [fr6 _ _ (by omega) (by omega) (by omega) (by omega)]
    exact fr1 k j q
  · rw [fr6 _ _ (by omega) (by omega) (by omega) (by omega)]; exact e07
/-- the first grant with a span that moves most -/
noncomputable def pHg (R : Nat → Nat → Int) (f : F1) : Nat → Int × Int
  | 0 => (-1, -1)
  | m + 1 => if R 8 m < R 9 m ∧ (pHg R f m).2 < pMv R f m then ((m : Int), pMv R f m) else pHg R f m
theorem pHg_ok {R : Nat → Nat → Int} {f : F1} (hc : RC R) : ∀ m, m ≤ 16 → ((pHg R f m).1 = -1 ∧ (pHg R f m).2 = -1) ∨ (0 ≤ (pHg R f m).1 ∧ (pHg R f m).1 < 16 ∧ 0 ≤ (pHg R f m).2)
  | 0, _ => Or.inl ⟨rfl, rfl⟩
  | m + 1, h => by
    have ih := pHg_ok (f := f) hc m (by omega)
    have p := pMv_le (f := f) (g := m) hc
    unfold pHg
    split
    · exact Or.inr ⟨by show (0 : Int) ≤ (m : Int); omega, by show (m : Int) < 16; omega, p.1⟩
    · exact ih
theorem c_mover {h : Nat} {R : Nat → Nat → Int} {f : F1} {iv : IV} {rv : RV} {K : Int → IV → Prop} (hh : h = 2 ∨ h = 21) (h6 : gR rv 51 6 = h) (h47 : gR rv 47 3 = h) (C : CS h R (R 8) (R 10) f iv) (hc : RC R) (hs : Sup f)
    (hK : ∀ iv', (∀ k j, ¬ (49 ≤ k ∧ k ≤ 50) → ¬ (54 ≤ k ∧ k ≤ 62) → ¬ (k = 51 ∧ j = 11) → k ≠ 52 → iv' k j = iv k j) → K (pHg R f 16).1 iv') : wp_X1_greatestMover iv rv K := by
  intro P hP
  have key : ∀ d m : Nat, m + d = 16 → ∀ (x be mo : Int) (iv' : IV), x = m → be = (pHg R f m).1 → mo = (pHg R f m).2 → (∀ k j, ¬ (49 ≤ k ∧ k ≤ 50) → ¬ (54 ≤ k ∧ k ≤ 62) → ¬ (k = 51 ∧ j = 11) → k ≠ 52 → iv' k j = iv k j) → CS h R (R 8) (R 10) f iv' → P be mo x iv' := by
    intro d
    induction d with
    | zero =>
      intro m hm x be mo iv' ex eb em fr C'
      obtain rfl : m = 16 := by omega
      refine hP _ _ _ _ ⟨fun _ => ?_, fun z => by omega⟩
      rw [eb]
      exact hK iv' fr
    | succ d ih =>
      intro m hm x be mo iv' ex eb em fr C'
      subst ex
      have tm : ((m : Int)).toNat = m := Int.toNat_natCast m
      have ew : Unit → w32 ((m : Int) + 1) = (m : Int) + 1 := fun _ => w32_id (by omega) (by omega)
      have i9 : iv' (gR rv 47 3 + 9) m = R 9 m := by rw [h47]; exact C'.1 9 m (by omega)
      have i8 : iv' (gR rv 47 3 + 8) m = R 8 m := by rw [h47]; exact C'.1 8 m (by omega)
      have nx : pHg R f (m + 1) = if R 8 m < R 9 m ∧ (pHg R f m).2 < pMv R f m then ((m : Int), pMv R f m) else pHg R f m := rfl
      have stay : ∀ iv2, ¬ (R 8 m < R 9 m ∧ (pHg R f m).2 < pMv R f m) → (∀ k j, ¬ (49 ≤ k ∧ k ≤ 50) → ¬ (54 ≤ k ∧ k ≤ 62) → ¬ (k = 51 ∧ j = 11) → k ≠ 52 → iv2 k j = iv k j) → CS h R (R 8) (R 10) f iv2 → P be mo ((m : Int) + 1) iv2 := fun iv2 hn fr2 C2 => ih (m + 1) (by omega) _ _ _ iv2 (by omega) (by rw [nx, if_neg hn]; exact eb) (by rw [nx, if_neg hn]; exact em) fr2 C2
      apply hP
      unfold bd_X1_greatestMover_6 bd_X1_greatestMover_51
      rw [tm, i9, i8, ew ()]
      refine ⟨fun z => by omega, fun _ => ⟨⟨by omega, by omega⟩, ⟨by omega, by omega⟩, fun z => stay iv' (fun q => by omega) fr C', fun z => ?_⟩⟩
      have hg : hasG R m := by
        by_cases q : hasG R m
        · exact q
        · have := hc.2.2.2.2.2.1 m (by omega) q
          omega
      refine c_moved hh h6 h47 C' hc hs hg (fun iv2 fr2 C2 => ?_)
      have f2 : ∀ k j, ¬ (49 ≤ k ∧ k ≤ 50) → ¬ (54 ≤ k ∧ k ≤ 62) → ¬ (k = 51 ∧ j = 11) → k ≠ 52 → iv2 k j = iv k j := fun k j q1 q2 q3 q4 => (fr2 k j q1 q2 q3 q4).trans (fr k j q1 q2 q3 q4)
      rw [em]
      refine ⟨fun y => ?_, fun y => ih (m + 1) (by omega) _ _ _ iv2 (by omega) ?_ ?_ f2 C2⟩
      · have := stay iv2 (fun q => by omega) f2 C2
        rw [em] at this; exact this
      · rw [nx, if_pos ⟨by omega, by omega⟩]
      · rw [nx, if_pos ⟨by omega, by omega⟩]
  exact key 16 0 (by omega) _ _ _ iv rfl rfl rfl (fun _ _ _ _ _ _ => rfl) C
theorem pr_hangs : Pr_hangs Inv := by
  intro n iv rv a1 h i1
  obtain ⟨H, R, eH, hh, hc, hM, hR⟩ := h.beg
  unfold wp_X10_hangs
  rw [eH]
  refine c_has (s := 10) hR (by omega) (fun k5 k6 => admit1 (by omega) ⟨fun _ => ?_, fun z => by omega⟩) (fun p => admit0 ⟨fun z => absurd rfl z, fun _ iv1 e1 => ?_⟩ 0)
  · obtain ⟨g1, hRM⟩ := hM.of (by omega) k5 k6
    obtain ⟨law, rfl⟩ := Int.eq_ofNat_of_zero_le k5
    refine c_open hh (R := R) (fun r i hr => by rw [w2_ne (by omega)]; exact hR r i hr) hc (hRM.congr fun k j hk => w2_ne (by omega)) k6 (fun iv5 fr5 C5 => ?_)
    refine c_mover hh (gR_of rvo_51) (gR_of rvo_47) C5 hc lf_sup (fun iv8 fr8 => ?_)
    have f8 : ∀ k j, ¬ (49 ≤ k ∧ k ≤ 62) → ¬ (k = 0 ∧ j = 7) → iv8 k j = iv k j := fun k j q1 q2 => by rw [fr8 _ _ (by omega) (by omega) (by omega) (by omega), fr5 _ _ (by omega), w2_ne q2]
    have e8 : iv8 0 7 = 0 := by rw [fr8 _ _ (by omega) (by omega) (by omega) (by omega), fr5 _ _ (by omega), w2_eq]
    have ok := pHg_ok (f := lf R law) hc 16 (Nat.le_refl _)
    have main : ∀ (v w : Int) (iv9 : IV), (∀ k j, ¬ (k = 0 ∧ j = 7) → iv9 k j = iv8 k j) → iv9 0 7 = w → ((pHg R (lf R law) 16).1 = -1 → v = -1 ∧ w = 6) → ((pHg R (lf R law) 16).1 ≠ -1 → v = (pHg R (lf R law) 16).1 ∧ w = 0) → wp_X12_hangs law iv9 (rvo rv H) (fun r2 iv2 => r2 = v ∧ Inv n iv2 (rvo rv H)) := ?_
    · refine ⟨fun z => main _ 0 iv8 (fun _ _ _ => rfl) e8 (fun q => by omega) (fun _ => ⟨rfl, rfl⟩), fun z iv9 e9 => main (-1) 6 iv9 (fun k j q => by rw [e9, w2_ne q]) (by rw [e9, w2_eq]) (fun _ => ⟨rfl, rfl⟩) (fun q => by omega)⟩
    intro v w iv9 f9 w9 hv1 hv0 iv1 e1
    have fr1 : ∀ k j, nsc k j → iv1 k j = iv k j := fun k j q => by
      unfold nsc at q
      rw [e1, w2_ne (by omega), f9 _ _ (by omega), f8 _ _ (by omega) (by omega)]
    have e07 : iv1 0 7 = w := by rw [e1, w2_ne (by omega)]; exact w9
    have h80 : ∀ k j, 80 ≤ k → iv1 k j = iv k j := fun k j q => fr1 k j (by unfold nsc; omega)
    have g1' : rvo rv H 66 3 = some 80 := by rw [rvo_ne (by omega) (by omega)]; exact g1
    have hM1 : MC R iv1 (rvo rv H) := hM.congr h80 (rvo_ne (by omega) (by omega))
    clear f8 f9 fr8 fr5 C5
    refine m_isLaw hM1 (fun p3 p4 _ _ => ⟨fun _ => ?_, fun z => by omega⟩) (fun p3 => absurd ⟨k5, k6⟩ p3)
    replace hv1 := fun (_ : Unit) => hv1
    replace hv0 := fun (_ : Unit) => hv0
    intro P hP
    have key : ∀ d m : Nat, m + d = 16 → ∀ (x be mo : Int) (iv' : IV), x = m → be = (pHg R (lf R law) m).1 → (be ≠ -1 → mo = (pHg R (lf R law) m).2) → (∀ k j, ¬ (68 ≤ k ∧ k ≤ 72) → ¬ (75 ≤ k ∧ k ≤ 78) → ¬ (k = 66 ∧ 17 ≤ j ∧ j ≤ 26) → ¬ (k = 66 ∧ 36 ≤ j ∧ j ≤ 38) → iv' k j = iv1 k j) → P law be mo x iv' := by
      intro d
      induction d with
      | zero =>
        intro m hm x be mo iv' ex eb em fr
        obtain rfl : m = 16 := by omega
        have f' : ∀ k j, nsc k j → iv' k j = iv k j := fun k j q => by
          have q' := q
          unfold nsc at q'
          rw [fr _ _ (by omega) (by omega) (by omega) (by omega)]
          exact fr1 k j q
        have w' : iv' 0 7 = w := by rw [fr _ _ (by omega) (by omega) (by omega) (by omega)]; exact e07
        refine hP _ _ _ _ _ ⟨fun _ => ⟨fun z => ?_, fun z => ?_⟩, fun z => by omega⟩
        · obtain ⟨v1, v2⟩ := hv0 () (by rw [← eb]; exact z)
          rw [v1, ← eb]
          exact m_done (h.rvo hh) f' (by rw [w']; exact v2)
        · obtain ⟨v1, v2⟩ := hv1 () (by rw [← eb]; exact z)
          rw [v1]
          exact m_refused (h.rvo hh) f' (by rw [w']; exact v2) (by decide)
      | succ d ih =>
        intro m hm x be mo iv' ex eb em fr
        subst ex
        replace em := fun (_ : Unit) => em
        have tm : ((m : Int)).toNat = m := Int.toNat_natCast m
        have ew : Unit → w32 ((m : Int) + 1) = (m : Int) + 1 := fun _ => w32_id (by omega) (by omega)
        have M' : RM R iv' := hRM.congr fun k j hk => (fr k j (by omega) (by omega) (by omega) (by omega)).trans (h80 k j hk)
        have nx : pHg R (lf R law) (m + 1) = if R 8 m < R 9 m ∧ (pHg R (lf R law) m).2 < pMv R (lf R law) m then ((m : Int), pMv R (lf R law) m) else pHg R (lf R law) m := rfl
        have okm := pHg_ok (f := lf R law) hc m (by omega)
        have pl := pMv_le (f := lf R law) (g := m) hc
        have stay : ∀ iv2, ¬ (R 8 m < R 9 m ∧ (pHg R (lf R law) m).2 < pMv R (lf R law) m) → (∀ k j, ¬ (68 ≤ k ∧ k ≤ 72) → ¬ (75 ≤ k ∧ k ≤ 78) → ¬ (k = 66 ∧ 17 ≤ j ∧ j ≤ 26) → ¬ (k = 66 ∧ 36 ≤ j ∧ j ≤ 38) → iv2 k j = iv1 k j) → P law be mo ((m : Int) + 1) iv2 := fun iv2 hn fr2 => ih (m + 1) (by omega) _ _ _ iv2 (by omega) (by rw [nx, if_neg hn]; exact eb) (by rw [nx, if_neg hn]; exact em ()) fr2
        apply hP
        unfold bd_X12_hangs_26 bd_X12_hangs_94 bd_X12_hangs_100
        rw [tm, ew ()]
        refine ⟨fun z => by omega, fun _ => ⟨g1', m_isG11 M' hc (fun _ hg => ⟨fun z => absurd z (by decide), fun _ => ⟨⟨by omega, by omega⟩, ⟨by omega, by omega⟩, ?_⟩⟩) (fun _ hg => ⟨fun _ => stay iv' (fun q => ?_) fr, fun z => absurd rfl z⟩)⟩⟩
        · obtain ⟨-, -, -, b4, b5, -⟩ := M'.2.2.2.2.1 m hg
          have d8 := hc.2.2.2.1 m hg
          rw [b4, b5]
          refine ⟨fun z => ?_, fun z => stay iv' (fun q => by omega) fr⟩
          refine m_swing g1' M' hc k6 hg (fun iv2 fr2 => ?_)
          have f2 : ∀ k j, ¬ (68 ≤ k ∧ k ≤ 72) → ¬ (75 ≤ k ∧ k ≤ 78) → ¬ (k = 66 ∧ 17 ≤ j ∧ j ≤ 26) → ¬ (k = 66 ∧ 36 ≤ j ∧ j ≤ 38) → iv2 k j = iv1 k j := fun k j q1 q2 q3 q4 => (fr2 k j q1 q2 q3 q4).trans (fr k j q1 q2 q3 q4)
          have take : Unit → (pHg R (lf R law) m).2 < pMv R (lf R law) m → P law m (pMv R (lf R law) m) ((m : Int) + 1) iv2 := fun _ hy => ih (m + 1) (by omega) _ _ _ iv2 (by omega) (by rw [nx, if_pos ⟨by omega, hy⟩]) (fun _ => by rw [nx, if_pos ⟨by omega, hy⟩]) f2
          refine ⟨fun y => take () (by omega), fun y => ⟨fun u => take () ?_, fun u => stay iv2 (fun q => ?_) f2⟩⟩
          · have := em () y
            omega
          · have := em () y
            omega
        · have := hc.2.2.2.2.2.1 m (by omega) hg
          omega
    exact key 16 0 (by omega) _ _ _ iv1 rfl rfl (fun z => absurd rfl z) (fun _ _ _ _ _ _ => rfl)
  · obtain ⟨f1, f2, f3⟩ := fr_adm e1
    exact m_isLaw (hM.congr f3 rfl) (fun p3 p4 _ _ => absurd ⟨p3, p4⟩ p) (fun p3 => ⟨fun z => absurd rfl z, fun _ => m_refused h f1 f2 (by decide)⟩)
