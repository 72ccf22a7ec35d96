/-! PAIR: sure -/
def pEx (v : Nat → Int) (most : Int) : Nat → Int
  | 0 => v 0
  | m + 1 => if most = 0 then min (pEx v most m) (v (m + 1)) else max (pEx v most m) (v (m + 1))
theorem qt_lt {R : Nat → Nat → Int} {c : Nat} (h : c < pc R 16) : qt R c 16 = 0 := by rw [qt_eq]; exact Nat.div_eq_of_lt h
theorem qt_ge {R : Nat → Nat → Int} {c : Nat} (hc : RC R) (h : qt R c 16 = 0) : c < pc R 16 := by
  rw [qt_eq] at h
  have hp := pc_pos hc 16 (Nat.le_refl _)
  rcases Nat.div_eq_zero_iff.mp h with z | z
  · omega
  · exact z
theorem c_extreme {H : Nat} {R : Nat → Nat → Int} {ls f : F1} {iv : IV} {rv : RV} {day : Int} {c : Nat} {b most : Int} {K : Int → IV → Prop} (hh : H = 2 ∨ H = 21) (h6 : gR rv 51 6 = H) (h47 : gR rv 47 3 = H) (C : CS H R (R 8) ls f iv) (hc : RC R) (hs : Sup f) (hcc : (c : Int) < R 1 11) (hn : pc R 16 ≤ 2000)
    (hK : ∀ iv', (∀ k j, ¬ (51 ≤ k ∧ k ≤ 62) → iv' k j = iv k j) → K (pEx (fun m => pOwe R (pDy R m) ls f day c b) most (pc R 16 - 1)) iv') : wp_X1_extreme c b day most iv rv K := by
  have hp := pc_pos hc 16 (Nat.le_refl _)
  rw [← pDy_zero (R := R)] at C
  refine c_owed1 hh h6 h47 C hc hs hcc (fun iv1 fr1 hd1 hW1 => ?_)
  have C1 : CS H R (pDy R 0) ls f iv1 := C.congr hh fun k j q => fr1 k j (by omega) (by omega)
  intro P hP
  have key : ∀ d m : Nat, m + d + 1 = pc R 16 → ∀ (x found : Int) (iv' : IV), x = (m : Int) + 1 → found = pEx (fun m => pOwe R (pDy R m) ls f day c b) most m → (∀ k j, ¬ (51 ≤ k ∧ k ≤ 62) → iv' k j = iv k j) → CS H R (pDy R m) ls f iv' → iv' 51 11 = day → (∀ g, hasG R g → WG R (pDy R m) ls f day iv' g) → P c b most found x iv' := by
    intro d
    induction d with
    | zero =>
      intro m hm x found iv' ex ef fr C' hd W'
      have hq := qt_lt (R := R) (c := m) (by omega)
      have fin : ∀ iv2, (∀ k j, ¬ (51 ≤ k ∧ k ≤ 62) → iv2 k j = iv k j) → K found iv2 := fun iv2 fr2 => by
        rw [ef, show m = pc R 16 - 1 by omega]
        exact hK iv2 fr2
      refine hP _ _ _ _ _ _ ⟨fun _ => fin iv' fr, fun _ => c_next hh h6 C' hc hd W' (fun iv2 fr2 C2 W2 q2 => ?_) (fun iv2 fr2 q2 => ⟨fun _ => fin iv2 (fun k j q => ?_), fun z => absurd rfl z⟩)⟩
      · have := qt_ge hc (q2.trans hq)
        omega
      · rw [fr2 _ _ (by omega)]; exact fr k j q
    | succ d ih =>
      intro m hm x found iv' ex ef fr C' hd W'
      have hq := qt_lt (R := R) (c := m) (by omega)
      have hq1 := qt_lt (R := R) (c := m + 1) (by omega)
      have ew : Unit → w32 (x + 1) = x + 1 := fun _ => w32_id (by omega) (by omega)
      refine hP _ _ _ _ _ _ ⟨fun z => by omega, fun _ => c_next hh h6 C' hc hd W' (fun iv2 fr2 C2 W2 q2 => ⟨fun z => absurd z (by decide), fun _ => ?_⟩) (fun iv2 fr2 q2 => by omega)⟩
      refine c_hearOwner hh h6 h47 C2 hc hs (day := day) (by rw [fr2 _ _ (by omega)]; exact hd) W2 hcc (fun iv5 fr5 HH => ?_)
      have C5 : CS H R (pDy R (m + 1)) ls f iv5 := C2.congr hh fun k j q => fr5 k j (by omega)
      have f5 : ∀ k j, ¬ (51 ≤ k ∧ k ≤ 62) → iv5 k j = iv k j := fun k j q => by rw [fr5 _ _ (by omega), fr2 _ _ (by omega), fr _ _ q]
      have d5 : iv5 51 11 = day := by rw [fr5 _ _ (by omega), fr2 _ _ (by omega)]; exact hd
      refine c_owedAt h6 C5 hc HH hcc ?_
      have nx : ∀ r : Int, r = pEx (fun m => pOwe R (pDy R m) ls f day c b) most (m + 1) → P c b most r (w32 (x + 1)) iv5 := fun r er => by
        rw [ew ()]
        exact ih (m + 1) (by omega) _ _ iv5 (by omega) er f5 C5 d5 HH.1
      refine ⟨fun z r8 e8 => nx r8 ?_, fun z r9 e9 => nx r9 ?_⟩
      · rw [e8, ef]; show _ = if most = 0 then _ else _; rw [if_pos z]; rfl
      · rw [e9, ef]; show _ = if most = 0 then _ else _; rw [if_neg z]; rfl
  refine key (pc R 16 - 1) 0 (by omega) _ _ iv1 rfl ?_ (fun k j q => fr1 k j (by omega) (by omega)) C1 hd1 hW1
  rfl
theorem m_isG11 {R : Nat → Nat → Int} {g : Nat} {iv : IV} {rv : RV} {K : Int → Prop} (m2 : RM R iv) (hc : RC R) (h1 : Unit → hasG R g → K 1) (h0 : Unit → ¬ hasG R g → K 0) : wp_X11_isGrant 80 g iv rv K := by
  have r5' : 0 ≤ R 1 5 ∧ R 1 5 ≤ 6 := hc.1 5 (by omega)
  have r6' : 0 ≤ R 1 6 ∧ R 1 6 ≤ 6 := hc.1 6 (by omega)
  have r7' : 0 ≤ R 1 7 ∧ R 1 7 ≤ 4 := hc.1 7 (by omega)
  have s5 := m2.1 5 (by omega)
  have s6 := m2.1 6 (by omega)
  have s7 := m2.1 7 (by omega)
  have e6 : w32 (6 + iv 80 6) = 6 + iv 80 6 := w32_id (by omega) (by omega)
  have e7 : w32 (12 + iv 80 7) = 12 + iv 80 7 := w32_id (by omega) (by omega)
  unfold wp_X11_isGrant bd_X11_isGrant_12 bd_X11_isGrant_29 bd_X11_isGrant_46
  rw [e6, e7]
  clear e6 e7
  by_cases hx : hasG R g
  · have y := h1 () hx
    unfold hasG at hx
    (repeat' (first | exact y | intro _ | refine And.intro ?_ ?_)) <;> omega
  · have y := h0 () hx
    unfold hasG at hx
    (repeat' (first | exact y | intro _ | refine And.intro ?_ ?_)) <;> omega
theorem m_choices {R : Nat → Nat → Int} {iv : IV} {rv : RV} {K : Int → Prop} (g1 : rv 66 3 = some 80) (hM : RM R iv) (hc : RC R)
    (hK : ∀ r : Int, (r ≤ 2000 ∧ r = (pc R 16 : Nat) ∨ 2000 < r ∧ 2000 < pc R 16) → K r) : wp_X12_choices iv rv K := by
  intro P hP
  have key : ∀ d m : Nat, m + d = 16 → ∀ x y : Int, x = (pc R m : Nat) → pc R m ≤ 2000 → y = m → P x y := by
    intro d
    induction d with
    | zero =>
      intro m hm x y ex hl ey
      refine hP _ _ ⟨fun _ => hK x ?_, fun z => by omega⟩
      rw [show m = 16 by omega] at ex hl
      omega
    | succ d ih =>
      intro m hm x y ex hl ey
      subst ey
      have tm : ((m : Int)).toNat = m := Int.toNat_natCast m
      have ew : Unit → w32 ((m : Int) + 1) = (m : Int) + 1 := fun _ => w32_id (by omega) (by omega)
      have mono := pc_mono hc d (m + 1) (by omega)
      obtain ⟨s1, s2, s3, s4⟩ := sp_ok hc (show m < 16 by omega)
      have hq : ((pc R (m + 1) : Nat) : Int) = (pc R m : Nat) * (sp R m : Nat) := by
        show ((pc R m * sp R m : Nat) : Int) = _
        exact Int.natCast_mul _ _
      have hb : pc R (m + 1) ≤ 2000 * 21 := Nat.mul_le_mul hl s3
      have fin : ∀ z : Int, z = (pc R (m + 1) : Nat) → bd_X12_choices_45 P z m iv rv K := by
        intro z ez
        refine ⟨fun q => ?_, fun q => hK 2001 (Or.inr ⟨by decide, by omega⟩)⟩
        rw [ew ()]
        exact ih (m + 1) (by omega) _ _ ez (by omega) (by omega)
      refine hP _ _ ⟨fun z => by omega, fun _ => ⟨g1, m_isG11 hM hc (fun _ hg => ⟨fun z => absurd z (by decide), fun _ => ⟨⟨by omega, by omega⟩, ⟨by omega, by omega⟩, fun x6 e6 => fin x6 ?_⟩⟩) (fun _ hg => ⟨fun _ => fin x ?_, fun z => absurd rfl z⟩)⟩⟩
      · obtain ⟨-, -, -, a4, a5, -⟩ := hM.2.2.2.2.1 m hg
        have day8 := hc.2.2.2.1 m hg
        rw [e6, tm, a4, a5, w32_id (x := R 9 m - R 8 m) (by omega) (by omega), w32_id (x := R 9 m - R 8 m + 1) (by omega) (by omega), ← s1, ex, ← hq]
        exact w32_id (by omega) (by omega)
      · rw [ex, hq, s4 hg]; omega
  exact key 16 0 (by omega) _ _ rfl (by show 1 ≤ 2000; decide) rfl
/-- the reference's inner loop: the days of choice c -/
theorem m_days {R : Nat → Nat → Int} {iv : IV} {rv : RV} {law cart : Nat} {b day most : Int} {n best x : Int} {c : Nat} {K : Int → IV → Prop} {P67 : Int → Int → Int → Int → Int → Int → Int → IV → Prop} (g1 : rv 66 3 = some 80) (hM : RM R iv) (hc : RC R) (hcl : c < 4000) (hu : ∀ g, g < 16 → ¬ hasG R g → iv 68 g = R 8 g)
    (hN : ∀ iv', (∀ k j, k ≠ 68 → iv' k j = iv k j) → (∀ g, g < 16 → iv' 68 g = pDy R c g) → wp_X12_owed cart b day iv' rv (fun r2 iv3 => ((most = 0) → (((best ≤ r2) → (bd_X12_sure_199 P67 cart b day most n best x iv3 rv K)) ∧ ((¬ (best ≤ r2)) → (bd_X12_sure_195 P67 cart b day most n x r2 iv3 rv K)))) ∧ ((¬ (most = 0)) → (((r2 ≤ best) → (bd_X12_sure_199 P67 cart b day most n best x iv3 rv K)) ∧ ((¬ (r2 ≤ best)) → (bd_X12_sure_195 P67 cart b day most n x r2 iv3 rv K)))))) : wl_X12_sure_81 P67 cart b day most n best x c 0 iv rv K := by
  intro P hP
  have key : ∀ d m : Nat, m + d = 16 → ∀ (y left : Int) (iv' : IV), y = m → left = (qt R c m : Nat) → qt R c m < 4000 → (∀ k j, k ≠ 68 → iv' k j = iv k j) → (∀ g, g < m → iv' 68 g = pDy R c g) → (∀ g, g < 16 → ¬ hasG R g → iv' 68 g = R 8 g) → P cart b day most n best x left y iv' := by
    intro d
    induction d with
    | zero =>
      intro m hm y left iv' ey el hl fr hd hu'
      exact hP _ _ _ _ _ _ _ _ _ _ ⟨fun _ => hN iv' fr (fun g hg => hd g (by omega)), fun z => by omega⟩
    | succ d ih =>
      intro m hm y left iv' ey el hl fr hd hu'
      subst ey
      have tm : ((m : Int)).toNat = m := Int.toNat_natCast m
      have ew : Unit → w32 ((m : Int) + 1) = (m : Int) + 1 := fun _ => w32_id (by omega) (by omega)
      obtain ⟨s1, s2, s3, s4⟩ := sp_ok hc (show m < 16 by omega)
      have M' : RM R iv' := hM.congr fun k j hk => fr k j (by omega)
      have nq : qt R c (m + 1) = qt R c m / sp R m := rfl
      have ml := Nat.mod_lt (qt R c m) (show 0 < sp R m by omega)
      have dl : qt R c (m + 1) < 4000 := by rw [nq]; exact Nat.lt_of_le_of_lt (Nat.div_le_self _ _) hl
      apply hP
      unfold bd_X12_sure_81 bd_X12_sure_158
      rw [tm, ew ()]
      refine ⟨fun z => by omega, fun _ => ⟨g1, m_isG11 M' hc (fun _ hg => ⟨fun _ => ⟨⟨by omega, by omega⟩, ⟨by omega, by omega⟩, fun x11 e11 => ?_⟩, fun z => absurd z (by decide)⟩) (fun _ hg => ⟨fun z => absurd rfl z, fun _ => ?_⟩)⟩⟩
      · obtain ⟨-, -, -, a4, a5, -⟩ := M'.2.2.2.2.1 m hg
        have day8 := hc.2.2.2.1 m hg
        rw [a4, a5, w32_id (x := R 9 m - R 8 m) (by omega) (by omega), w32_id (x := R 9 m - R 8 m + 1) (by omega) (by omega), ← s1] at e11
        subst e11
        refine ⟨⟨by omega, by omega⟩, by omega, ⟨by omega, by omega⟩, fun iv15 e15 => ⟨by omega, fun x17 e17 => ?_⟩⟩
        have em : Int.tmod left (sp R m : Nat) = ((qt R c m % sp R m : Nat) : Int) := by
          rw [el, Int.tmod_eq_emod_of_nonneg (by omega)]
          exact (Int.natCast_emod _ _).symm
        have ed : Int.tdiv left (sp R m : Nat) = ((qt R c (m + 1) : Nat) : Int) := by
          rw [el, Int.tdiv_eq_ediv_of_nonneg (by omega), nq]
          exact (Int.natCast_ediv _ _).symm
        rw [a4, em, w32_id (by omega) (by omega)] at e15
        rw [ed, w32_id (by omega) (by omega)] at e17
        refine ih (m + 1) (by omega) _ _ iv15 (by omega) e17 dl (fun k j hk => ?_) (fun g hg2 => ?_) (fun g hg2 hn2 => ?_)
        · rw [e15, w2_ne (by omega)]; exact fr k j hk
        · by_cases z : g = m
          · rw [z, e15, w2_eq, pDy_eq]
          · rw [e15, w2_ne (by omega)]; exact hd g (by omega)
        · have z : g ≠ m := fun e => hn2 (e ▸ hg)
          rw [e15, w2_ne (by omega)]; exact hu' g hg2 hn2
      · refine ih (m + 1) (by omega) _ _ iv' (by omega) ?_ dl fr (fun g hg2 => ?_) hu'
        · rw [el, nq, s4 hg, Nat.div_one]
        · by_cases z : g = m
          · rw [z, hu' m (by omega) hg, pDy_un hc (by omega) hg]
          · exact hd g (by omega)
  exact key 16 0 (by omega) _ _ iv rfl rfl hcl (fun _ _ _ => rfl) (fun g hg => by omega) hu
theorem pr_sure : Pr_sure Inv := by
  intro n iv rv a1 a2 a3 a4 a5 h i1 i2 i3 i4 i5
  obtain ⟨H, R, eH, hh, hc, hM, hR⟩ := h.beg
  unfold wp_X10_sure
  rw [eH]
  refine c_known (R := R) (by rw [eH]; exact hR) (fun k => ?_) (fun k => ?_)
  · by_cases hd : 0 ≤ a3 ∧ a3 ≤ 999
    · refine admit1 hd ⟨fun _ => ?_, fun z => by omega⟩
      obtain ⟨⟨k1, k2⟩, ⟨k3, k4⟩, ⟨k5, k6⟩⟩ := k
      obtain ⟨g1, hRM⟩ := hM.of (by omega) k5 k6
      obtain ⟨c, rfl⟩ := Int.eq_ofNat_of_zero_le k1
      obtain ⟨law, rfl⟩ := Int.eq_ofNat_of_zero_le k5
      have hp := pc_pos hc 16 (Nat.le_refl _)
      refine c_choices (R := R) (fun r i hr => by rw [w2_ne (by omega)]; exact hR r i hr) hc (fun r hr => ⟨fun z => ?_, fun z => ?_⟩)
      · have hn : pc R 16 ≤ 2000 := by omega
        refine c_open hh (R := R) (fun r i hr => by rw [w2_ne (by omega)]; exact hR r i hr) hc (hRM.congr fun k j hk => w2_ne (by omega)) k6 (fun iv5 fr5 C5 => ?_)
        refine c_extreme hh (gR_of rvo_51) (gR_of rvo_47) C5 hc lf_sup k2 hn (fun iv8 fr8 => ?_)
        intro iv1 e1
        have fr1 : ∀ k j, nsc k j → iv1 k j = iv k j := fun k j q => by
          unfold nsc at q
          rw [e1, w2_ne (by omega), fr8 _ _ (by omega), fr5 _ _ (by omega), w2_ne (by omega)]
        have e07 : iv1 0 7 = 0 := by rw [e1, w2_ne (by omega), fr8 _ _ (by omega), fr5 _ _ (by omega), w2_eq]
        have h80 : ∀ k j, 80 ≤ k → iv1 k j = iv k j := fun k j q => fr1 k j (by unfold nsc; omega)
        have g1' : rvo rv H 66 3 = some 80 := by rw [rvo_ne (by omega) (by omega)]; exact g1
        clear fr8 fr5 C5 e1 hr z
        refine m_refuses (R := R) (hM.congr h80 (rvo_ne (by omega) (by omega))) (fun _ _ => ⟨fun _ => ?_, fun z => by omega⟩) (fun z => absurd ⟨⟨k1, k2⟩, ⟨k3, k4⟩, ⟨k5, k6⟩⟩ z) (fun _ z => absurd hd z)
        refine m_choices g1' (hRM.congr h80) hc (fun r2 hr2 => ⟨fun _ => ?_, fun z => by omega⟩)
        have er2 : r2 = (pc R 16 : Nat) := by omega
        obtain ⟨o1, o2, o3, o4, o5⟩ := mn_ok hc k2
        refine m_laysFor g1' (hRM.congr h80) hc k2 (fun iv4 fr4 hd4 e20 e17 e21 e22 => ?_)
        have S := MS.of (hRM.congr fun k j hk => (fr4 k j (by omega) (by omega)).trans (h80 k j hk)) hd4 e20 e17 k6
        have f4 : ∀ k j, nsc k j → iv4 k j = iv k j := fun k j q => by
          have q' := q
          unfold nsc at q'
          rw [fr4 _ _ (by omega) (by omega)]
          exact fr1 k j q
        have e47 : iv4 0 7 = 0 := by rw [fr4 _ _ (by omega) (by omega)]; exact e07
        clear fr4
        have hu4 : ∀ g, g < 16 → ¬ hasG R g → iv4 68 g = R 8 g := fun g hg _ => (hd4 g hg).1
        rw [← pDy_zero (R := R)] at S
        refine m_owed g1' S hc lf_sup (pDy_dys hc 0) k2 ⟨o4, o5⟩ e21 e22 (fun iv6 fr6 => ?_)
        intro P hP
        have key : ∀ d m : Nat, m + d + 1 = pc R 16 → ∀ (x best : Int) (iv' : IV), x = (m : Int) + 1 → best = pEx (fun m => pOwe R (pDy R m) (R 10) (lf R law) a3 c a2) a5 m → (∀ k j, ¬ (68 ≤ k ∧ k ≤ 72) → ¬ (k = 66 ∧ j = 26) → iv' k j = iv4 k j) → (∀ g, g < 16 → iv' 69 g = R 10 g) → (∀ g, g < 16 → ¬ hasG R g → iv' 68 g = R 8 g) → P c a2 a3 a5 r2 best x iv' := by
          intro d
          induction d with
          | zero =>
            intro m hm x best iv' ex eb fr h69 hu'
            refine hP _ _ _ _ _ _ _ _ ⟨fun _ => ?_, fun z => by omega⟩
            rw [eb, show m = pc R 16 - 1 by omega]
            refine m_done (h.rvo hh) (fun k j q => ?_) ?_
            · have q' := q
              unfold nsc at q'
              rw [fr _ _ (by omega) (by omega)]
              exact f4 k j q
            · rw [fr _ _ (by omega) (by omega)]; exact e47
          | succ d ih =>
            intro m hm x best iv' ex eb fr h69 hu'
            have ew : Unit → w32 (x + 1) = x + 1 := fun _ => w32_id (by omega) (by omega)
            have ex' : x = ((m + 1 : Nat) : Int) := by omega
            refine hP _ _ _ _ _ _ _ _ ⟨fun z => by omega, fun _ => ?_⟩
            rw [ex']
            refine m_days (law := law) g1' (S.1.congr fun k j hk => fr k j (by omega) (by omega)) hc (by omega) hu' (fun iv2 fr2 hd2 => ?_)
            have f2 : ∀ k j, ¬ (68 ≤ k ∧ k ≤ 72) → ¬ (k = 66 ∧ j = 26) → iv2 k j = iv4 k j := fun k j q1 q2 => (fr2 k j (by omega)).trans (fr k j q1 q2)
            have S2 : MS R (pDy R (m + 1)) (R 10) (lf R law) law iv2 := by
              obtain ⟨s1, s2, s3, s4, s5, s6⟩ := S
              refine ⟨s1.congr fun k j hk => f2 k j (by omega) (by omega), fun g hg => ⟨hd2 g hg, by rw [fr2 _ _ (by omega)]; exact h69 g hg⟩, ?_, ?_, ?_, ?_⟩
              · rw [f2 _ _ (by omega) (by omega)]; exact s3
              · rw [f2 _ _ (by omega) (by omega), f2 _ _ (by omega) (by omega), f2 _ _ (by omega) (by omega), f2 _ _ (by omega) (by omega)]; exact s4
              · rw [f2 _ _ (by omega) (by omega)]; exact s5
              · rw [f2 _ _ (by omega) (by omega), f2 _ _ (by omega) (by omega)]; exact s6
            refine m_owed (p := R 2 (mn R c)) (since := R 3 (mn R c)) g1' S2 hc lf_sup (pDy_dys hc (m + 1)) k2 ⟨o4, o5⟩ (by rw [f2 _ _ (by omega) (by omega)]; exact e21) (by rw [f2 _ _ (by omega) (by omega)]; exact e22) (fun iv3 fr3 => ?_)
            have nx : ∀ r : Int, r = pEx (fun m => pOwe R (pDy R m) (R 10) (lf R law) a3 c a2) a5 (m + 1) → P c a2 a3 a5 r2 r (w32 (((m + 1 : Nat) : Int) + 1)) iv3 := fun r er => by
              rw [← ex', ew ()]
              refine ih (m + 1) (by omega) _ _ iv3 (by omega) er (fun k j q1 q2 => (fr3 k j (by omega) q2).trans (f2 k j q1 q2)) (fun g hg => ?_) (fun g hg hn2 => ?_)
              · rw [fr3 _ _ (by omega) (by omega)]; exact (S2.2.1 g hg).2
              · rw [fr3 _ _ (by omega) (by omega), hd2 g hg]; exact pDy_un hc hg hn2
            have pe : pEx (fun m => pOwe R (pDy R m) (R 10) (lf R law) a3 c a2) a5 (m + 1) = if a5 = 0 then min best (pOwe R (pDy R (m + 1)) (R 10) (lf R law) a3 c a2) else max best (pOwe R (pDy R (m + 1)) (R 10) (lf R law) a3 c a2) := by rw [eb]; rfl
            have po : pOwe R (pDy R (m + 1)) (R 10) (lf R law) a3 c a2 = pOw R (pDy R (m + 1)) (R 10) (lf R law) a3 (R 3 (mn R c)) c (bGo R (pDy R (m + 1)) (R 10) (lf R law) a3 (R 2 (mn R c))) a2 (R 1 5).toNat := rfl
            rw [← po]
            generalize pOwe R (pDy R (m + 1)) (R 10) (lf R law) a3 c a2 = w at *
            refine ⟨fun z => ⟨fun y => nx _ ?_, fun y => nx _ ?_⟩, fun z => ⟨fun y => nx _ ?_, fun y => nx _ ?_⟩⟩
            · rw [pe, if_pos z]; exact (Int.min_eq_left y).symm
            · rw [pe, if_pos z]; exact (Int.min_eq_right (by omega)).symm
            · rw [pe, if_neg z]; exact (Int.max_eq_left y).symm
            · rw [pe, if_neg z]; exact (Int.max_eq_right (by omega)).symm
        refine key (pc R 16 - 1) 0 (by omega) _ _ iv6 rfl ?_ (fun k j q1 q2 => fr6 k j (by omega) q2) (fun g hg => ?_) (fun g hg hn2 => ?_)
        · rfl
        · rw [fr6 _ _ (by omega) (by omega)]; exact (hd4 g hg).2
        · rw [fr6 _ _ (by omega) (by omega)]; exact hu4 g hg hn2
      · intro iv9 e9 iv1 e1
        refine m_refuses (R := R) (hM.congr (fun k j q => by rw [e1, w2_ne (by omega), e9, w2_ne (by omega), w2_ne (by omega)]) rfl) (fun _ _ => ⟨fun _ => ?_, fun z => by omega⟩) (fun z => absurd ⟨⟨k1, k2⟩, ⟨k3, k4⟩, ⟨k5, k6⟩⟩ z) (fun _ z => absurd hd z)
        refine m_choices g1 (hRM.congr (fun k j q => by rw [e1, w2_ne (by omega), e9, w2_ne (by omega), w2_ne (by omega)])) hc (fun r2 hr2 => ⟨fun y => by omega, fun _ => m_refused h (fun k j q => ?_) ?_ (by decide)⟩)
        · unfold nsc at q
          rw [e1, w2_ne (by omega), e9, w2_ne (by omega), w2_ne (by omega)]
        · rw [e1, w2_ne (by omega), e9, w2_eq]
    · refine admit2 hd ⟨fun z => by omega, fun _ iv1 e1 => ?_⟩
      refine m_refuses (R := R) (hM.congr (fun k j q => by rw [e1, w2_ne (by omega), w2_ne (by omega), w2_ne (by omega)]) rfl) (fun _ z => absurd z hd) (fun z => absurd k z) (fun _ _ => ⟨fun z => by omega, fun _ => m_refused h (fun k j q => ?_) ?_ (by decide)⟩)
      · unfold nsc at q
        rw [e1, w2_ne (by omega), w2_ne (by omega), w2_ne (by omega)]
      · rw [e1, w2_ne (by omega), w2_eq]
  · refine admit0 ⟨fun z => by omega, fun _ iv1 e1 => ?_⟩ a3
    refine m_refuses (R := R) (hM.congr (fun k j q => by rw [e1, w2_ne (by omega), w2_ne (by omega), w2_ne (by omega)]) rfl) (fun z => absurd z k) (fun z => ⟨fun z => by omega, fun _ => m_refused h (fun k j q => ?_) ?_ (by decide)⟩) (fun z => absurd z k)
    · unfold nsc at q
      rw [e1, w2_ne (by omega), w2_ne (by omega), w2_ne (by omega)]
    · rw [e1, w2_ne (by omega), w2_eq]
