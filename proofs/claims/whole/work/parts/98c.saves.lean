/-! PAIRS: saves, partner -/
theorem Wk.other {a b : Nat → Nat} {w w' : F1} {L g : Nat} : ∀ (k p : Nat) (x : Int), Wk a b w L g k p x → ∃ x', Wk a b w' L g k p x'
  | 0, p, x, h => ⟨0, h.1, rfl⟩
  | k + 1, p, x, h => by
    rcases h with h | ⟨e, q, z, x1, x2, x3, x4⟩
    · exact ⟨0, Or.inl ⟨h.1, rfl⟩⟩
    · obtain ⟨z', hz⟩ := Wk.other (w' := w') k q z x3
      exact ⟨w' e + z', Or.inr ⟨e, q, z', x1, x2, hz, rfl⟩⟩
theorem pOn_reach {R : Nat → Nat → Int} {dy ls f dy' ls' f' : F1} {c : Nat} {p since p' since' : Int} (hc : RC R) (hcc : (c : Int) < R 1 11) (h : 0 ≤ pOn R dy ls f c p since) : 0 ≤ pOn R dy' ls' f' c p' since' := by
  have hL := (TT_ok (dy := dy) (ls := ls) (f := f) (p := p) (since := since) hc hcc).lks hc
  have hL' := (TT_ok (dy := dy') (ls := ls') (f := f') (p := p') (since := since') hc hcc).lks hc
  obtain ⟨r, hr⟩ := Msd.ex (g := crT R c) hL
  obtain ⟨r', hr'⟩ := Msd.ex (g := crT R c) hL'
  have h8 := (cFT_ok hc hcc).2.2.2.2.1
  rw [pOn_eq hc hcc hr] at h
  rw [pOn_eq hc hcc hr']
  have h0 := hr'.1.2.1 (crF R c) h8
  by_cases z : r (crF R c) < 1000000000
  · obtain ⟨x, x1, x2⟩ := hr.1.walk7 hL h8 z
    obtain ⟨x', hx⟩ := Wk.other (w' := WW R dy' ls' f' c p' since') 7 _ x x2
    have u := hr'.2.up hr'.1.1 hL' 7 _ x' h8 hx
    have l := Wk.le hL' 7 _ x' hx
    rw [if_pos (by omega)]
    omega
  · rw [if_neg z] at h
    omega
theorem pr_saves : Pr_saves Inv := by
  intro n iv rv a1 a2 a3 h i1 i2 i3
  obtain ⟨H, R, eH, hh, hc, hM, hR⟩ := h.beg
  have bad : Unit → ¬ ((0 ≤ a1 ∧ a1 < R 1 11) ∧ (0 ≤ a2 ∧ a2 < R 1 0) ∧ (0 ≤ a3 ∧ a3 < R 1 10)) → bd_X10_saves_44 a1 a2 a3 0 iv rv (fun r1 iv1 rv1 => wp_X12_saves a1 a2 a3 iv1 rv1 (fun r2 iv2 => r2 = r1 ∧ Inv n iv2 rv1)) := by
    intro _ k
    refine admit0 ⟨fun z => absurd rfl z, fun _ iv1 e1 => ?_⟩ 0
    obtain ⟨f1, f2, f3⟩ := fr_adm e1
    have fin : wp_X12_lost 1 iv1 rv (fun r2 iv2 => r2 = -1000000 ∧ Inv n iv2 rv) := m_lost h f1 f2 (by decide)
    have hM1 : MC R iv1 rv := hM.congr f3 rfl
    exact m_isCart hM1 (fun p1 p2 _ _ => ⟨fun z => absurd z (by decide), fun _ => m_isPlace hM1 (fun p3 p4 _ _ => ⟨fun z => absurd z (by decide), fun _ => m_isLaw hM1 (fun p5 p6 _ _ => absurd ⟨⟨p1, p2⟩, ⟨p3, p4⟩, p5, p6⟩ k) (fun p5 => ⟨fun z => absurd rfl z, fun _ => fin⟩)⟩) (fun p3 => ⟨fun _ => fin, fun z => absurd rfl z⟩)⟩) (fun p1 => ⟨fun _ => fin, fun z => absurd rfl z⟩)
  unfold wp_X10_saves
  rw [eH]
  refine c_has (s := 11) hR (by omega) (fun k1 k2 => ⟨fun z => absurd z (by decide), fun _ => c_has (s := 0) hR (by omega) (fun k3 k4 => ⟨fun z => absurd z (by decide), fun _ => c_has (s := 10) hR (by omega) (fun k5 k6 => ⟨fun z => absurd z (by decide), fun _ => ?_⟩) (fun p => ⟨fun _ => bad () (fun q => p q.2.2), fun z => absurd rfl z⟩)⟩) (fun p => ⟨fun _ => bad () (fun q => p q.2.1), fun z => absurd rfl z⟩)⟩) (fun p => ⟨fun _ => bad () (fun q => p q.1), fun z => absurd rfl z⟩)
  unfold bd_X10_saves_44
  rw [eH]
  obtain ⟨g1, hRM⟩ := hM.of (by omega) k5 k6
  refine admit1 (by omega) ⟨fun _ => ?_, fun z => absurd z (by decide)⟩
  obtain ⟨c, rfl⟩ := Int.eq_ofNat_of_zero_le k1
  obtain ⟨law, rfl⟩ := Int.eq_ofNat_of_zero_le k5
  obtain ⟨o1, o2, o3, o4, o5⟩ := mn_ok hc k2
  have g1' : rvo rv H 66 3 = some 80 := by rw [rvo_ne (by omega) (by omega)]; exact g1
  refine c_open hh (R := R) (fun r i hr => by rw [w2_ne (by omega)]; exact hR r i hr) hc (hRM.congr fun k j hk => w2_ne (by omega)) k6 (fun iv5 fr5 C5 => ?_)
  refine c_byOwner hh (gR_of rvo_51) (gR_of rvo_47) C5 hc lf_sup k2 (fun iv7 _ fr7 _ _ _ => ?_)
  have C7 : CS H R (R 8) (R 10) (lf R law) iv7 := C5.congr hh fun k j q => fr7 k j (by omega) (by omega) (by omega)
  have ref : ∀ (v w : Int) (iv9 : IV), (∀ k j, nsc k j → iv9 k j = iv k j) → iv9 0 7 = w → (pOn R (R 8) (R 10) (lf R law) c (R 2 (mn R c)) (R 3 (mn R c)) = -1 → v = -1000000 ∧ w = 6) → (0 ≤ pOn R (R 8) (R 10) (lf R law) c (R 2 (mn R c)) (R 3 (mn R c)) → v = w32 (pOn R (R 8) (R 10) (lf R law) c (R 2 (mn R c)) (R 3 (mn R c)) - pOn R (R 8) (R 10) (lf R law) c a2 0) ∧ w = 0) → wp_X12_saves c a2 law iv9 (rvo rv H) (fun r2 iv2 => r2 = v ∧ Inv n iv2 (rvo rv H)) := by
    intro v w iv9 f9 w9 hv1 hv0 iv1 e1
    replace hv1 := fun (_ : Unit) => hv1
    replace hv0 := fun (_ : Unit) => hv0
    have fr1 : ∀ k j, nsc k j → iv1 k j = iv k j := fun k j q => by
      have q' := q
      unfold nsc at q'
      rw [e1, w2_ne (by omega)]; exact f9 k j q
    have e07 : iv1 0 7 = w := by rw [e1, w2_ne (by omega)]; exact w9
    have h80 : ∀ k j, 80 ≤ k → iv1 k j = iv k j := fun k j q => fr1 k j (by unfold nsc; omega)
    have hM1 : MC R iv1 (rvo rv H) := hM.congr h80 (rvo_ne (by omega) (by omega))
    refine m_isCart hM1 (fun _ _ _ _ => ⟨fun z => absurd z (by decide), fun _ => m_isPlace hM1 (fun _ _ _ _ => ⟨fun z => absurd z (by decide), fun _ => m_isLaw hM1 (fun _ _ _ _ => ⟨fun _ => ?_, fun z => absurd z (by decide)⟩) (fun p => absurd ⟨k5, k6⟩ p)⟩) (fun p => absurd ⟨k3, k4⟩ p)⟩) (fun p => absurd ⟨k1, k2⟩ p)
    refine m_laysFor g1' (hRM.congr h80) hc k2 (fun iv4 fr4 hd4 e20 e17 e21 e22 => ?_)
    have S := MS.of (hRM.congr fun k j hk => (fr4 k j (by omega) (by omega)).trans (h80 k j hk)) hd4 e20 e17 k6
    refine m_onWay g1' S hc lf_sup hc.dys k2 ⟨o4, o5⟩ e21 e22 (fun iv10 ret fr10 hr => ?_)
    have f10 : ∀ k j, nsc k j → iv10 k j = iv k j := fun k j q => by
      have q' := q
      unfold nsc at q'
      rw [fr10 _ _ (by omega) (by omega) (by omega), fr4 _ _ (by omega) (by omega)]
      exact fr1 k j q
    have w10 : iv10 0 7 = w := by rw [fr10 _ _ (by omega) (by omega) (by omega), fr4 _ _ (by omega) (by omega)]; exact e07
    rcases hr with ⟨r1, r2⟩ | ⟨r1, r2, r3⟩
    · refine ⟨fun z => absurd r2 z, fun _ => ?_⟩
      obtain ⟨v1, v2⟩ := hv1 () r1
      rw [v1]
      exact m_lost (h.rvo hh) f10 (by rw [w10]; exact v2) (by decide)
    · refine ⟨fun _ x12 e12 iv13 e13 iv14 e14 => ?_, fun z => by rw [r2] at z; exact absurd z (by decide)⟩
      have f14 : ∀ k j, ¬ (k = 66 ∧ (j = 21 ∨ j = 22)) → iv14 k j = iv10 k j := fun k j q => by rw [e14, w2_ne (by omega), e13, w2_ne (by omega)]
      have S14 : MS R (R 8) (R 10) (lf R law) law iv14 := (S.congr (iv' := iv10) fun k j q => fr10 k j (by omega) (by omega) (by omega)).congr fun k j q => f14 k j (by omega)
      refine m_onWay (p := a2) (since := 0) g1' S14 hc lf_sup hc.dys k2 ⟨k3, k4⟩ (by rw [e14, w2_ne (by omega), e13, w2_eq]) (by rw [e14, w2_eq]) (fun iv16 ret2 fr16 hr2 => ?_)
      have re := pOn_reach (dy' := R 8) (ls' := R 10) (f' := lf R law) (p' := a2) (since' := 0) hc k2 r1
      obtain ⟨v1, v2⟩ := hv0 () r1
      have r4 : iv16 66 37 = pOn R (R 8) (R 10) (lf R law) c a2 0 := by
        rcases hr2 with ⟨q1, -⟩ | ⟨-, -, q3⟩
        · rw [q1] at re; exact absurd re (by decide)
        · exact q3
      rw [e12, r3, r4, v1]
      refine m_done (h.rvo hh) (fun k j q => ?_) ?_
      · have q' := q
        unfold nsc at q'
        rw [fr16 _ _ (by omega) (by omega) (by omega), f14 _ _ (by omega)]
        exact f10 k j q
      · rw [fr16 _ _ (by omega) (by omega) (by omega), f14 _ _ (by omega), w10]; exact v2
  have pl := pOn_le (dy := R 8) (ls := R 10) (f := lf R law) (p := R 2 (mn R c)) (since := R 3 (mn R c)) hc k2
  have f7 : ∀ k j, nsc k j → iv7 k j = iv k j := fun k j q => by
    unfold nsc at q
    rw [fr7 _ _ (by omega) (by omega) (by omega), fr5 _ _ (by omega), w2_ne (by omega)]
  have w7 : iv7 0 7 = 0 := by rw [fr7 _ _ (by omega) (by omega) (by omega), fr5 _ _ (by omega), w2_eq]
  refine ⟨fun z => ?_, fun z iv9 e9 => ref _ 6 iv9 (fun k j q => ?_) (by rw [e9, w2_eq]) (fun _ => ⟨rfl, rfl⟩) (fun q => absurd q z)⟩
  · refine c_onWay hh (gR_of rvo_51) (gR_of rvo_47) C7 hc lf_sup k2 ⟨k3, k4⟩ (fun iv10 _ fr10 _ _ _ => ref _ 0 iv10 (fun k j q => ?_) ?_ (fun q => by rw [q] at z; exact absurd z (by decide)) (fun _ => ⟨rfl, rfl⟩))
    · have q' := q
      unfold nsc at q'
      rw [fr10 _ _ (by omega) (by omega) (by omega)]
      exact f7 k j q
    · rw [fr10 _ _ (by omega) (by omega) (by omega)]; exact w7
  · have q' := q
    unfold nsc at q'
    rw [e9, w2_ne (by omega)]
    exact f7 k j q
/-- the man in whose name least is owed -/
noncomputable def pPt (R : Nat → Nat → Int) (dy ls f : F1) (c : Nat) : Nat → Int × Int
  | 0 => (R 18 (7 * c), pOn R dy ls f c (R 2 (mn R c)) (R 3 (mn R c)))
  | m + 1 => if pOn R dy ls f c (R 2 m) (R 3 m) < (pPt R dy ls f c m).2 then ((m : Int), pOn R dy ls f c (R 2 m) (R 3 m)) else pPt R dy ls f c m
theorem pPt_ge {R : Nat → Nat → Int} {dy ls f : F1} {c : Nat} (hc : RC R) (hcc : (c : Int) < R 1 11) : ∀ m, 0 ≤ (pPt R dy ls f c m).1
  | 0 => by
    have := mn_ok hc hcc
    show 0 ≤ R 18 (7 * c)
    omega
  | m + 1 => by
    have := pPt_ge (dy := dy) (ls := ls) (f := f) hc hcc m
    unfold pPt
    split
    · show (0 : Int) ≤ (m : Int); omega
    · exact this
theorem c_cheapest {h : Nat} {R : Nat → Nat → Int} {dy ls f : F1} {iv : IV} {rv : RV} {c : Nat} {K : Int → IV → Prop} (hh : h = 2 ∨ h = 21) (h6 : gR rv 51 6 = h) (h47 : gR rv 47 3 = h) (C : CS h R dy ls f iv) (hc : RC R) (hs : Sup f) (hcc : (c : Int) < R 1 11)
    (hK : ∀ (iv' : IV) (v : Int), (∀ k j, ¬ (49 ≤ k ∧ k ≤ 50) → ¬ (54 ≤ k ∧ k ≤ 62) → ¬ (k = 51 ∧ j = 11) → iv' k j = iv k j) → ((pOn R dy ls f c (R 2 (mn R c)) (R 3 (mn R c)) = -1 ∧ v = -1) ∨ (0 ≤ pOn R dy ls f c (R 2 (mn R c)) (R 3 (mn R c)) ∧ v = (pPt R dy ls f c (R 1 2).toNat).1)) → K v iv') : wp_X1_cheapestMan c iv rv K := by
  have h11 : R 1 11 ≤ 6 := (hc.1 11 (by omega)).2
  have h2 : 0 ≤ R 1 2 ∧ R 1 2 ≤ 6 := hc.1 2 (by omega)
  have pl := pOn_le (dy := dy) (ls := ls) (f := f) (p := R 2 (mn R c)) (since := R 3 (mn R c)) hc hcc
  unfold wp_X1_cheapestMan
  rw [h47]
  refine c_ofCart (w := 0) C.1 (by omega) (by omega) ?_
  simp only [Nat.add_zero]
  refine c_byOwner hh h6 h47 C hc hs hcc (fun iv3 _ fr3 _ _ _ => ⟨fun z => ?_, fun z => hK iv3 _ fr3 (Or.inl ⟨by omega, rfl⟩)⟩)
  intro P hP
  have key : ∀ d m : Nat, m + d = (R 1 2).toNat → ∀ (x be le : Int) (iv' : IV), x = m → be = (pPt R dy ls f c m).1 → le = (pPt R dy ls f c m).2 → (∀ k j, ¬ (49 ≤ k ∧ k ≤ 50) → ¬ (54 ≤ k ∧ k ≤ 62) → ¬ (k = 51 ∧ j = 11) → iv' k j = iv k j) → P c be le x iv' := by
    intro d
    induction d with
    | zero =>
      intro m hm x be le iv' ex eb el fr
      have e2 : iv' (gR rv 47 3 + 1) 2 = R 1 2 := by rw [h47, fr _ _ (by omega) (by omega) (by omega)]; exact C.1 1 2 (by omega)
      refine hP _ _ _ _ _ ⟨fun _ => hK iv' _ fr (Or.inr ⟨z, ?_⟩), fun z => by omega⟩
      rw [eb, show m = (R 1 2).toNat by omega]
    | succ d ih =>
      intro m hm x be le iv' ex eb el fr
      subst ex
      have C' : CS h R dy ls f iv' := C.congr hh fun k j q => fr k j (by omega) (by omega) (by omega)
      have e2 : iv' (gR rv 47 3 + 1) 2 = R 1 2 := by rw [h47]; exact C'.1 1 2 (by omega)
      have tm : ((m : Int)).toNat = m := Int.toNat_natCast m
      have ew : Unit → w32 ((m : Int) + 1) = (m : Int) + 1 := fun _ => w32_id (by omega) (by omega)
      have mp := hc.2.1 m (by omega)
      have nx : pPt R dy ls f c (m + 1) = if pOn R dy ls f c (R 2 m) (R 3 m) < (pPt R dy ls f c m).2 then ((m : Int), pOn R dy ls f c (R 2 m) (R 3 m)) else pPt R dy ls f c m := rfl
      apply hP
      unfold bd_X1_cheapestMan_25 bd_X1_cheapestMan_78
      rw [e2, tm, ew (), h47, C'.1 2 m (by omega), C'.1 3 m (by omega)]
      refine ⟨fun z => by omega, fun _ => ⟨⟨by omega, by omega⟩, ⟨by omega, by omega⟩, ?_⟩⟩
      refine c_onWay hh h6 h47 C' hc hs hcc ⟨mp.1, mp.2.1⟩ (fun iv5 _ fr5 _ _ _ => ?_)
      have f5 : ∀ k j, ¬ (49 ≤ k ∧ k ≤ 50) → ¬ (54 ≤ k ∧ k ≤ 62) → ¬ (k = 51 ∧ j = 11) → iv5 k j = iv k j := fun k j q1 q2 q3 => (fr5 k j q1 q2 q3).trans (fr k j q1 q2 q3)
      rw [el]
      refine ⟨fun y => ih (m + 1) (by omega) _ _ _ iv5 (by omega) ?_ ?_ f5, fun y => ih (m + 1) (by omega) _ _ _ iv5 (by omega) ?_ ?_ f5⟩
      · rw [nx, if_neg (by omega)]; exact eb
      · rw [nx, if_neg (by omega)]
      · rw [nx, if_pos (by omega)]
      · rw [nx, if_pos (by omega)]
  exact key (R 1 2).toNat 0 (by omega) _ _ _ iv3 rfl rfl rfl fr3
theorem pr_partner : Pr_partner Inv := by
  intro n iv rv a1 a2 h i1 i2
  obtain ⟨H, R, eH, hh, hc, hM, hR⟩ := h.beg
  have h2 : 0 ≤ R 1 2 ∧ R 1 2 ≤ 6 := hc.1 2 (by omega)
  have bad : Unit → ¬ ((0 ≤ a1 ∧ a1 < R 1 11) ∧ (0 ≤ a2 ∧ a2 < R 1 10)) → bd_X10_partner_32 a1 a2 0 iv rv (fun r1 iv1 rv1 => wp_X12_partner a1 a2 iv1 rv1 (fun r2 iv2 => r2 = r1 ∧ Inv n iv2 rv1)) := by
    intro _ k
    refine admit0 ⟨fun z => absurd rfl z, fun _ iv1 e1 => ?_⟩ 0
    obtain ⟨f1, f2, f3⟩ := fr_adm e1
    have fin : wp_X12_refused 1 iv1 rv (fun r2 iv2 => r2 = -1 ∧ Inv n iv2 rv) := m_refused h f1 f2 (by decide)
    have hM1 : MC R iv1 rv := hM.congr f3 rfl
    exact m_isCart hM1 (fun p1 p2 _ _ => ⟨fun z => absurd z (by decide), fun _ => m_isLaw hM1 (fun p5 p6 _ _ => absurd ⟨⟨p1, p2⟩, p5, p6⟩ k) (fun p5 => ⟨fun z => absurd rfl z, fun _ => fin⟩)⟩) (fun p1 => ⟨fun _ => fin, fun z => absurd rfl z⟩)
  unfold wp_X10_partner
  rw [eH]
  refine c_has (s := 11) hR (by omega) (fun k1 k2 => ⟨fun z => absurd z (by decide), fun _ => c_has (s := 10) hR (by omega) (fun k5 k6 => ⟨fun z => absurd z (by decide), fun _ => ?_⟩) (fun p => ⟨fun _ => bad () (fun q => p q.2), fun z => absurd rfl z⟩)⟩) (fun p => ⟨fun _ => bad () (fun q => p q.1), fun z => absurd rfl z⟩)
  unfold bd_X10_partner_32
  rw [eH]
  obtain ⟨g1, hRM⟩ := hM.of (by omega) k5 k6
  refine admit1 (by omega) ⟨fun _ => ?_, fun z => absurd z (by decide)⟩
  obtain ⟨c, rfl⟩ := Int.eq_ofNat_of_zero_le k1
  obtain ⟨law, rfl⟩ := Int.eq_ofNat_of_zero_le k5
  obtain ⟨o1, o2, o3, o4, o5⟩ := mn_ok hc k2
  have h11 : R 1 11 ≤ 6 := (hc.1 11 (by omega)).2
  have tc : ((c : Int)).toNat = c := Int.toNat_natCast c
  have g1' : rvo rv H 66 3 = some 80 := by rw [rvo_ne (by omega) (by omega)]; exact g1
  refine c_open hh (R := R) (fun r i hr => by rw [w2_ne (by omega)]; exact hR r i hr) hc (hRM.congr fun k j hk => w2_ne (by omega)) k6 (fun iv5 fr5 C5 => ?_)
  have ref : ∀ (v w : Int) (iv9 : IV), (∀ k j, nsc k j → iv9 k j = iv k j) → iv9 0 7 = w → (pOn R (R 8) (R 10) (lf R law) c (R 2 (mn R c)) (R 3 (mn R c)) = -1 → v = -1 ∧ w = 6) → (0 ≤ pOn R (R 8) (R 10) (lf R law) c (R 2 (mn R c)) (R 3 (mn R c)) → v = (pPt R (R 8) (R 10) (lf R law) c (R 1 2).toNat).1 ∧ w = 0) → wp_X12_partner c law iv9 (rvo rv H) (fun r2 iv2 => r2 = v ∧ Inv n iv2 (rvo rv H)) := by
    intro v w iv9 f9 w9 hv1 hv0 iv1 e1
    replace hv1 := fun (_ : Unit) => hv1
    replace hv0 := fun (_ : Unit) => hv0
    have fr1 : ∀ k j, nsc k j → iv1 k j = iv k j := fun k j q => by
      have q' := q
      unfold nsc at q'
      rw [e1, w2_ne (by omega)]; exact f9 k j q
    have e07 : iv1 0 7 = w := by rw [e1, w2_ne (by omega)]; exact w9
    have h80 : ∀ k j, 80 ≤ k → iv1 k j = iv k j := fun k j q => fr1 k j (by unfold nsc; omega)
    have hM1 : MC R iv1 (rvo rv H) := hM.congr h80 (rvo_ne (by omega) (by omega))
    refine m_isCart hM1 (fun _ _ _ _ => ⟨fun z => absurd z (by decide), fun _ => m_isLaw hM1 (fun _ _ _ _ => ⟨fun _ => ?_, fun z => absurd z (by decide)⟩) (fun p => absurd ⟨k5, k6⟩ p)⟩) (fun p => absurd ⟨k1, k2⟩ p)
    refine m_laysFor g1' (hRM.congr h80) hc k2 (fun iv4 fr4 hd4 e20 e17 e21 e22 => ?_)
    have S := MS.of (hRM.congr fun k j hk => (fr4 k j (by omega) (by omega)).trans (h80 k j hk)) hd4 e20 e17 k6
    refine m_onWay g1' S hc lf_sup hc.dys k2 ⟨o4, o5⟩ e21 e22 (fun iv10 ret fr10 hr => ?_)
    have f10 : ∀ k j, nsc k j → iv10 k j = iv k j := fun k j q => by
      have q' := q
      unfold nsc at q'
      rw [fr10 _ _ (by omega) (by omega) (by omega), fr4 _ _ (by omega) (by omega)]
      exact fr1 k j q
    have w10 : iv10 0 7 = w := by rw [fr10 _ _ (by omega) (by omega) (by omega), fr4 _ _ (by omega) (by omega)]; exact e07
    have S10 := S.congr (iv' := iv10) fun k j q => fr10 k j (by omega) (by omega) (by omega)
    rcases hr with ⟨r1, r2⟩ | ⟨r1, r2, r3⟩
    · refine ⟨fun z => absurd r2 z, fun _ => ?_⟩
      obtain ⟨v1, v2⟩ := hv1 () r1
      rw [v1]
      exact m_refused (h.rvo hh) f10 (by rw [w10]; exact v2) (by decide)
    · obtain ⟨v1, v2⟩ := hv0 () r1
      refine ⟨fun _ => ⟨g1', ⟨by omega, by omega⟩, fun x11 e11 x12 e12 => ?_⟩, fun z => by rw [r2] at z; exact absurd z (by decide)⟩
      have e100 : iv10 100 c = R 18 (7 * c) := S10.1.2.2.2.2.2.2.2 c k2 0 (by omega)
      rw [tc, e100] at e11
      rw [r3] at e12
      intro P hP
      have key : ∀ d m : Nat, m + d = (R 1 2).toNat → ∀ (x be le : Int) (iv' : IV), x = m → be = (pPt R (R 8) (R 10) (lf R law) c m).1 → le = (pPt R (R 8) (R 10) (lf R law) c m).2 → (∀ k j, ¬ (70 ≤ k ∧ k ≤ 72) → ¬ (75 ≤ k ∧ k ≤ 78) → ¬ (k = 66 ∧ 21 ≤ j ∧ j ≤ 26) → ¬ (k = 66 ∧ 36 ≤ j ∧ j ≤ 38) → iv' k j = iv10 k j) → P c be le x iv' := by
        intro d
        induction d with
        | zero =>
          intro m hm x be le iv' ex eb el fr
          have e2 : iv' 80 2 = R 1 2 := by rw [fr _ _ (by omega) (by omega) (by omega) (by omega)]; exact S10.1.1 2 (by omega)
          refine hP _ _ _ _ _ ⟨g1', fun _ => ?_, fun z => by omega⟩
          rw [v1, eb, show m = (R 1 2).toNat by omega]
          refine m_done (h.rvo hh) (fun k j q => ?_) ?_
          · have q' := q
            unfold nsc at q'
            rw [fr _ _ (by omega) (by omega) (by omega) (by omega)]
            exact f10 k j q
          · rw [fr _ _ (by omega) (by omega) (by omega) (by omega), w10]; exact v2
        | succ d ih =>
          intro m hm x be le iv' ex eb el fr
          subst ex
          have S' := S10.congr (iv' := iv') fun k j q => fr k j (by omega) (by omega) (by omega) (by omega)
          have e2 : iv' 80 2 = R 1 2 := S'.1.1 2 (by omega)
          have ew : Unit → w32 ((m : Int) + 1) = (m : Int) + 1 := fun _ => w32_id (by omega) (by omega)
          have mp := hc.2.1 m (by omega)
          have nx : pPt R (R 8) (R 10) (lf R law) c (m + 1) = if pOn R (R 8) (R 10) (lf R law) c (R 2 m) (R 3 m) < (pPt R (R 8) (R 10) (lf R law) c m).2 then ((m : Int), pOn R (R 8) (R 10) (lf R law) c (R 2 m) (R 3 m)) else pPt R (R 8) (R 10) (lf R law) c m := rfl
          have re := pOn_reach (dy' := R 8) (ls' := R 10) (f' := lf R law) (p' := R 2 m) (since' := R 3 m) hc k2 r1
          apply hP
          unfold bd_X12_partner_67 bd_X12_partner_112
          rw [e2, ew ()]
          refine ⟨g1', fun z => by omega, fun _ => ?_⟩
          refine m_names g1' S'.1 hc (by omega) (fun iv3 fr3 n21 n22 => ?_)
          refine m_onWay (p := R 2 m) (since := R 3 m) g1' (S'.congr (iv' := iv3) fun k j q => fr3 k j (by omega)) hc lf_sup hc.dys k2 ⟨mp.1, mp.2.1⟩ n21 n22 (fun iv6 ret2 fr6 hr2 => ?_)
          have f6 : ∀ k j, ¬ (70 ≤ k ∧ k ≤ 72) → ¬ (75 ≤ k ∧ k ≤ 78) → ¬ (k = 66 ∧ 21 ≤ j ∧ j ≤ 26) → ¬ (k = 66 ∧ 36 ≤ j ∧ j ≤ 38) → iv6 k j = iv10 k j := fun k j q1 q2 q3 q4 => by
            rw [fr6 _ _ q1 q2 (by omega), fr3 _ _ (by omega), fr _ _ q1 q2 q3 q4]
          have r4 : iv6 66 37 = pOn R (R 8) (R 10) (lf R law) c (R 2 m) (R 3 m) := by
            rcases hr2 with ⟨q1, -⟩ | ⟨-, -, q3⟩
            · rw [q1] at re; exact absurd re (by decide)
            · exact q3
          rw [r4, el]
          refine ⟨fun y x8 e8 => ih (m + 1) (by omega) _ _ _ iv6 (by omega) ?_ ?_ f6, fun y => ih (m + 1) (by omega) _ _ _ iv6 (by omega) ?_ ?_ f6⟩
          · rw [nx, if_pos y]
          · rw [nx, if_pos y]; exact e8
          · rw [nx, if_neg y]; exact eb
          · rw [nx, if_neg y]
      exact key (R 1 2).toNat 0 (by omega) _ _ _ iv10 rfl (by rw [e11]; rfl) (by rw [e12]; rfl) (fun _ _ _ _ _ _ => rfl)
  refine c_cheapest hh (gR_of rvo_51) (gR_of rvo_47) C5 hc lf_sup k2 (fun iv7 v fr7 hv => ?_)
  have f7 : ∀ k j, nsc k j → iv7 k j = iv k j := fun k j q => by
    unfold nsc at q
    rw [fr7 _ _ (by omega) (by omega) (by omega), fr5 _ _ (by omega), w2_ne (by omega)]
  have w7 : iv7 0 7 = 0 := by rw [fr7 _ _ (by omega) (by omega) (by omega), fr5 _ _ (by omega), w2_eq]
  have ge := pPt_ge (dy := R 8) (ls := R 10) (f := lf R law) hc k2 (R 1 2).toNat
  rcases hv with ⟨v1, v2⟩ | ⟨v1, v2⟩
  · refine ⟨fun z => by omega, fun _ iv9 e9 => ref _ 6 iv9 (fun k j q => ?_) (by rw [e9, w2_eq]) (fun _ => ⟨rfl, rfl⟩) (fun q => by omega)⟩
    have q' := q
    unfold nsc at q'
    rw [e9, w2_ne (by omega)]
    exact f7 k j q
  · refine ⟨fun _ => ref v 0 iv7 f7 w7 (fun q => by omega) (fun _ => ⟨v2, rfl⟩), fun z => by omega⟩
