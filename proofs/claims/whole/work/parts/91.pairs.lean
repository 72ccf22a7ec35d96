/-! PAIRS: owes, judge, wins, force, chain, ring -/
theorem m_refused {n : Nat} {iv iv3 : IV} {rv rv1 : RV} {w : Int} (h : Inv n iv rv1) (he : ∀ k j, nsc k j → iv3 k j = iv k j) (e7 : iv3 0 7 = w) (hw : w ≠ 4) : wp_X12_refused w iv3 rv (fun r iv2 => r = -1 ∧ Inv n iv2 rv1) := by
  intro iva ea ivb eb
  refine ⟨rfl, h.fin (fun k j q => ?_) ?_ ?_ ?_⟩
  · rw [eb, ea]
    have q' := q
    unfold nsc at q'
    rw [w2_ne (by omega), w2_ne (by omega)]
    exact he k j q
  · rw [eb, ea, w2_ne (by omega), w2_eq, w2_ne (by omega), w2_ne (by omega), e7]
  · rw [eb, ea, w2_ne (by omega), w2_ne (by omega), e7]; exact hw
  · rw [eb, w2_eq]
theorem m_done {n : Nat} {iv iv3 : IV} {rv rv1 : RV} {v : Int} (h : Inv n iv rv1) (he : ∀ k j, nsc k j → iv3 k j = iv k j) (e7 : iv3 0 7 = 0) : wp_X12_done v iv3 rv (fun r iv2 => r = v ∧ Inv n iv2 rv1) := by
  intro iva ea ivb eb
  refine ⟨rfl, h.fin (fun k j q => ?_) ?_ ?_ ?_⟩
  · rw [eb, ea]
    have q' := q
    unfold nsc at q'
    rw [w2_ne (by omega), w2_ne (by omega)]
    exact he k j q
  · rw [eb, ea, w2_ne (by omega), w2_eq, w2_ne (by omega), w2_ne (by omega), e7]
  · rw [eb, ea, w2_ne (by omega), w2_ne (by omega), e7]; decide
  · rw [eb, w2_eq]
theorem c_known {R : Nat → Nat → Int} {iv : IV} {rv : RV} {a1 a2 a3 : Int} {K : Int → Prop} (hR : ∀ r i, r < 19 → iv (gR rv 0 2 + r) i = R r i) (h1 : (0 ≤ a1 ∧ a1 < R 1 11) ∧ (0 ≤ a2 ∧ a2 < R 1 4) ∧ (0 ≤ a3 ∧ a3 < R 1 10) → K 1) (h0 : ¬ ((0 ≤ a1 ∧ a1 < R 1 11) ∧ (0 ≤ a2 ∧ a2 < R 1 4) ∧ (0 ≤ a3 ∧ a3 < R 1 10)) → K 0) : wp_X10_knownCase a1 a2 a3 iv rv K :=
  c_has (s := 11) hR (by omega) (fun p1 p2 => ⟨fun z => by omega, fun _ => c_has (s := 4) hR (by omega) (fun p3 p4 => ⟨fun z => by omega, fun _ => c_has (s := 10) hR (by omega) (fun p5 p6 => ⟨fun z => by omega, fun _ => h1 (by omega)⟩) (fun p5 => ⟨fun _ => h0 (by omega), fun z => by omega⟩)⟩) (fun p3 => ⟨fun _ => h0 (by omega), fun z => by omega⟩)⟩) (fun p1 => ⟨fun _ => h0 (by omega), fun z => by omega⟩)
theorem m_in {a l u : Int} {iv : IV} {rv : RV} {K : Int → Prop} (h1 : l ≤ a ∧ a ≤ u → K 1) (h0 : ¬ (l ≤ a ∧ a ≤ u) → K 0) : wp_X12_in a l u iv rv K :=
  ⟨fun z => h0 (by omega), fun z => ⟨fun y => h0 (by omega), fun y => h1 (by omega)⟩⟩
theorem m_refuses {R : Nat → Nat → Int} {iv : IV} {rv : RV} {a1 a2 a3 a4 : Int} {K : Int → Prop} (hM : MC R iv rv) (h0 : (0 ≤ a1 ∧ a1 < R 1 11) ∧ (0 ≤ a2 ∧ a2 < R 1 4) ∧ (0 ≤ a4 ∧ a4 < R 1 10) → (0 ≤ a3 ∧ a3 ≤ 999) → K 0) (h1 : ¬ ((0 ≤ a1 ∧ a1 < R 1 11) ∧ (0 ≤ a2 ∧ a2 < R 1 4) ∧ (0 ≤ a4 ∧ a4 < R 1 10)) → K 1) (h2 : (0 ≤ a1 ∧ a1 < R 1 11) ∧ (0 ≤ a2 ∧ a2 < R 1 4) ∧ (0 ≤ a4 ∧ a4 < R 1 10) → ¬ (0 ≤ a3 ∧ a3 ≤ 999) → K 2) : wp_X12_refusesOwes a1 a2 a3 a4 iv rv K :=
  m_isCart hM (fun p1 p2 _ _ => ⟨fun z => by omega, fun _ => m_isBridge hM (fun p3 p4 _ _ => ⟨fun z => by omega, fun _ => m_isLaw hM (fun p5 p6 _ _ => ⟨fun _ => m_in (fun p7 => ⟨fun z => by omega, fun _ => h0 (by omega) (by omega)⟩) (fun p7 => ⟨fun _ => h2 (by omega) (by omega), fun z => by omega⟩), fun z => by omega⟩) (fun p5 => ⟨fun z => by omega, fun _ => h1 (by omega)⟩)⟩) (fun p3 => ⟨fun _ => h1 (by omega), fun z => by omega⟩)⟩) (fun p1 => ⟨fun _ => h1 (by omega), fun z => by omega⟩)
theorem MC.of {R : Nat → Nat → Int} {iv : IV} {rv : RV} (h : MC R iv rv) {s : Nat} (hs : s < 12) {a : Int} (h0 : 0 ≤ a) (h1 : a < R 1 s) : rv 66 3 = some 80 ∧ RM R iv := by
  rcases h with h | h
  · exact h
  · have := h.2 s hs
    omega
/-- what a call of the class begins with -/
theorem Inv.beg {n : Nat} {iv : IV} {rv : RV} (h : Inv n iv rv) : ∃ (H : Nat) (R : Nat → Nat → Int), gR rv 0 2 = H ∧ (H = 2 ∨ H = 21) ∧ RC R ∧ MC R iv rv ∧ (∀ r i, r < 19 → iv (H + r) i = R r i) :=
  ⟨gR rv 0 2, Rw iv (gR rv 0 2), rfl, h.h, h.2.2.2.2.1, h.mc, fun _ _ _ => rfl⟩
theorem pr_owes : Pr_owes Inv := by
  intro n iv rv a1 a2 a3 a4 h i1 i2 i3 i4
  obtain ⟨H, R, eH, hh, hc, hM, hR⟩ := h.beg
  unfold wp_X10_owes
  rw [eH]
  refine c_known (R := R) (by rw [eH]; exact hR) (fun k => ?_) (fun k => ?_)
  · by_cases hd : 0 ≤ a3 ∧ a3 ≤ 999
    · refine admit1 hd ⟨fun _ => ?_, fun z => by omega⟩
      obtain ⟨⟨k1, k2⟩, ⟨k3, k4⟩, ⟨k5, k6⟩⟩ := k
      obtain ⟨g1, hRM⟩ := hM.of (by omega) k5 k6
      obtain ⟨c, rfl⟩ := Int.eq_ofNat_of_zero_le k1
      obtain ⟨law, rfl⟩ := Int.eq_ofNat_of_zero_le k5
      refine c_open hh (R := R) (fun r i hr => by rw [w2_ne (by omega)]; exact hR r i hr) hc (hRM.congr fun k j hk => w2_ne (by omega)) k6 (fun iv5 fr5 C5 => ?_)
      refine c_owed1 hh (gR_of rvo_51) (gR_of rvo_47) C5 hc lf_sup k2 (fun iv8 fr8 _ _ => ?_)
      intro iv1 e1
      have fr1 : ∀ k j, nsc k j → iv1 k j = iv k j := fun k j q => by
        unfold nsc at q
        rw [e1, w2_ne (by omega), fr8 _ _ (by omega) (by omega), fr5 _ _ (by omega), w2_ne (by omega)]
      have h80 : ∀ k j, 80 ≤ k → iv1 k j = iv k j := fun k j q => fr1 k j (by unfold nsc; omega)
      have g1' : rvo rv H 66 3 = some 80 := by rw [rvo_ne (by omega) (by omega)]; exact g1
      refine m_refuses (R := R) (hM.congr h80 (rvo_ne (by omega) (by omega))) (fun _ _ => ⟨fun _ => ?_, fun z => by omega⟩) (fun z => absurd ⟨⟨k1, k2⟩, ⟨k3, k4⟩, ⟨k5, k6⟩⟩ z) (fun _ z => absurd hd z)
      obtain ⟨o1, o2, o3, o4, o5⟩ := mn_ok hc k2
      refine m_laysFor g1' (hRM.congr h80) hc k2 (fun iv4 fr4 hd4 e20 e17 e21 e22 => ?_)
      have S := MS.of (hRM.congr fun k j hk => (fr4 k j (by omega) (by omega)).trans (h80 k j hk)) hd4 e20 e17 k6
      refine m_owed g1' S hc lf_sup hc.dys k2 ⟨o4, o5⟩ e21 e22 (fun iv6 fr6 => m_done (h.rvo hh) (fun k j q => ?_) ?_)
      · have q' := q
        unfold nsc at q'
        rw [fr6 _ _ (by omega) (by omega), fr4 _ _ (by omega) (by omega)]
        exact fr1 k j q
      · rw [fr6 _ _ (by omega) (by omega), fr4 _ _ (by omega) (by omega), e1, w2_ne (by omega), fr8 _ _ (by omega) (by omega), fr5 _ _ (by omega), w2_eq]
    · refine admit2 hd ⟨fun z => by omega, fun _ iv1 e1 => ?_⟩
      refine m_refuses (R := R) (hM.congr (fun k j q => by rw [e1, w2_ne (by omega), w2_ne (by omega), w2_ne (by omega)]) rfl) (fun _ z => absurd z hd) (fun z => absurd k z) (fun _ _ => ⟨fun z => by omega, fun _ => m_refused h (fun k j q => ?_) ?_ (by decide)⟩)
      · unfold nsc at q
        rw [e1, w2_ne (by omega), w2_ne (by omega), w2_ne (by omega)]
      · rw [e1, w2_ne (by omega), w2_eq]
  · refine admit0 ⟨fun z => by omega, fun _ iv1 e1 => ?_⟩ a3
    refine m_refuses (R := R) (hM.congr (fun k j q => by rw [e1, w2_ne (by omega), w2_ne (by omega), w2_ne (by omega)]) rfl) (fun z => absurd z k) (fun z => ⟨fun z => by omega, fun _ => m_refused h (fun k j q => ?_) ?_ (by decide)⟩) (fun z => absurd z k)
    · unfold nsc at q
      rw [e1, w2_ne (by omega), w2_ne (by omega), w2_ne (by omega)]
    · rw [e1, w2_ne (by omega), w2_eq]
theorem pr_judge : Pr_judge Inv := by
  intro n iv rv a1 a2 a3 a4 a5 h i1 i2 i3 i4 i5
  obtain ⟨H, R, eH, hh, hc, hM, hR⟩ := h.beg
  unfold wp_X10_judge
  rw [eH]
  refine c_known (R := R) (by rw [eH]; exact hR) (fun k => ?_) (fun k => ?_)
  · by_cases hd : 0 ≤ a3 ∧ a3 ≤ 999
    · refine admit1 hd ⟨fun _ => ?_, fun z => by omega⟩
      obtain ⟨⟨k1, k2⟩, ⟨k3, k4⟩, ⟨k5, k6⟩⟩ := k
      obtain ⟨g1, hRM⟩ := hM.of (by omega) k5 k6
      obtain ⟨c, rfl⟩ := Int.eq_ofNat_of_zero_le k1
      obtain ⟨law, rfl⟩ := Int.eq_ofNat_of_zero_le k5
      refine c_open hh (R := R) (fun r i hr => by rw [w2_ne (by omega)]; exact hR r i hr) hc (hRM.congr fun k j hk => w2_ne (by omega)) k6 (fun iv5 fr5 C5 => ?_)
      refine c_owed1 hh (gR_of rvo_51) (gR_of rvo_47) C5 hc lf_sup k2 (fun iv8 fr8 _ _ => ?_)
      have main : ∀ v : Int, (pOwe R (R 8) (R 10) (lf R law) a3 c a2 = a5 → v = 1) → (pOwe R (R 8) (R 10) (lf R law) a3 c a2 ≠ a5 → v = 0) → wp_X12_judge c a2 a3 law a5 iv8 (rvo rv H) (fun r2 iv2 => r2 = v ∧ Inv n iv2 (rvo rv H)) := ?_
      · exact ⟨fun z => main 0 (fun y => absurd y z) (fun _ => rfl), fun z => main 1 (fun _ => rfl) (fun y => absurd z y)⟩
      intro v hv1 hv0 iv1 e1
      have fr1 : ∀ k j, nsc k j → iv1 k j = iv k j := fun k j q => by
        unfold nsc at q
        rw [e1, w2_ne (by omega), fr8 _ _ (by omega) (by omega), fr5 _ _ (by omega), w2_ne (by omega)]
      have h80 : ∀ k j, 80 ≤ k → iv1 k j = iv k j := fun k j q => fr1 k j (by unfold nsc; omega)
      have g1' : rvo rv H 66 3 = some 80 := by rw [rvo_ne (by omega) (by omega)]; exact g1
      refine m_refuses (R := R) (hM.congr h80 (rvo_ne (by omega) (by omega))) (fun _ _ => ⟨fun _ => ?_, fun z => by omega⟩) (fun z => absurd ⟨⟨k1, k2⟩, ⟨k3, k4⟩, ⟨k5, k6⟩⟩ z) (fun _ z => absurd hd z)
      obtain ⟨o1, o2, o3, o4, o5⟩ := mn_ok hc k2
      refine m_laysFor g1' (hRM.congr h80) hc k2 (fun iv4 fr4 hd4 e20 e17 e21 e22 => ?_)
      have S := MS.of (hRM.congr fun k j hk => (fr4 k j (by omega) (by omega)).trans (h80 k j hk)) hd4 e20 e17 k6
      refine m_owed g1' S hc lf_sup hc.dys k2 ⟨o4, o5⟩ e21 e22 (fun iv6 fr6 => ?_)
      have d : wp_X12_done v iv6 (rvo rv H) (fun r2 iv2 => r2 = v ∧ Inv n iv2 (rvo rv H)) := by
        refine m_done (h.rvo hh) (fun k j q => ?_) ?_
        · have q' := q
          unfold nsc at q'
          rw [fr6 _ _ (by omega) (by omega), fr4 _ _ (by omega) (by omega)]
          exact fr1 k j q
        · rw [fr6 _ _ (by omega) (by omega), fr4 _ _ (by omega) (by omega), e1, w2_ne (by omega), fr8 _ _ (by omega) (by omega), fr5 _ _ (by omega), w2_eq]
      refine ⟨fun z => ?_, fun z => ?_⟩
      · rw [hv0 z] at d ⊢; exact d
      · rw [hv1 z] at d ⊢; exact d
    · refine admit2 hd ⟨fun z => by omega, fun _ iv1 e1 => ?_⟩
      refine m_refuses (R := R) (hM.congr (fun k j q => by rw [e1, w2_ne (by omega), w2_ne (by omega), w2_ne (by omega)]) rfl) (fun _ z => absurd z hd) (fun z => absurd k z) (fun _ _ => ⟨fun z => by omega, fun _ => m_refused h (fun k j q => ?_) ?_ (by decide)⟩)
      · unfold nsc at q
        rw [e1, w2_ne (by omega), w2_ne (by omega), w2_ne (by omega)]
      · rw [e1, w2_ne (by omega), w2_eq]
  · refine admit0 ⟨fun z => by omega, fun _ iv1 e1 => ?_⟩ a3
    refine m_refuses (R := R) (hM.congr (fun k j q => by rw [e1, w2_ne (by omega), w2_ne (by omega), w2_ne (by omega)]) rfl) (fun z => absurd z k) (fun z => ⟨fun z => by omega, fun _ => m_refused h (fun k j q => ?_) ?_ (by decide)⟩) (fun z => absurd z k)
    · unfold nsc at q
      rw [e1, w2_ne (by omega), w2_ne (by omega), w2_ne (by omega)]
    · rw [e1, w2_ne (by omega), w2_eq]
theorem pr_wins : Pr_wins Inv := by
  intro n iv rv a1 a2 a3 a4 h i1 i2 i3 i4
  obtain ⟨H, R, eH, hh, hc, hM, hR⟩ := h.beg
  have bad : ¬ ((0 ≤ a1 ∧ a1 < R 1 11) ∧ (0 ≤ a2 ∧ a2 < R 1 5) ∧ (0 ≤ a4 ∧ a4 < R 1 10)) → bd_X10_wins_44 a1 a2 a3 a4 0 iv rv (fun r1 iv1 rv1 => wp_X12_wins a1 a2 a3 a4 iv1 rv1 (fun r2 iv2 => r2 = r1 ∧ Inv n iv2 rv1)) := by
    intro k
    refine admit0 ⟨fun z => by omega, fun _ iv1 e1 => ?_⟩ a3
    have hM1 : MC R iv1 rv := hM.congr (fun k j q => by rw [e1, w2_ne (by omega), w2_ne (by omega), w2_ne (by omega)]) rfl
    have fin : wp_X12_refused 1 iv1 rv (fun r2 iv2 => r2 = -1 ∧ Inv n iv2 rv) := by
      refine m_refused h (fun k j q => ?_) ?_ (by decide)
      · unfold nsc at q
        rw [e1, w2_ne (by omega), w2_ne (by omega), w2_ne (by omega)]
      · rw [e1, w2_ne (by omega), w2_eq]
    refine m_isCart hM1 (fun p1 p2 _ _ => ⟨fun z => by omega, fun _ => m_isLaw hM1 (fun p3 p4 g1 hRM => ⟨fun z => by omega, fun _ => ⟨fun _ => fin, fun z => ⟨g1, fun y => ?_, fun _ => fin⟩⟩⟩) (fun p3 => ⟨fun _ => fin, fun z => by omega⟩)⟩) (fun p1 => ⟨fun _ => fin, fun z => by omega⟩)
    have := hRM.1 5 (by omega)
    exact absurd ⟨⟨p1, p2⟩, ⟨by omega, by omega⟩, ⟨p3, p4⟩⟩ k
  unfold wp_X10_wins
  rw [eH]
  refine c_has (s := 11) hR (by omega) (fun k1 k2 => ⟨fun z => by omega, fun _ => c_has (s := 5) hR (by omega) (fun k3 k4 => ⟨fun z => by omega, fun _ => c_has (s := 10) hR (by omega) (fun k5 k6 => ⟨fun z => by omega, fun _ => ?_⟩) (fun p => ⟨fun _ => bad (by omega), fun z => by omega⟩)⟩) (fun p => ⟨fun _ => bad (by omega), fun z => by omega⟩)⟩) (fun p => ⟨fun _ => bad (by omega), fun z => by omega⟩)
  unfold bd_X10_wins_44
  rw [eH]
  obtain ⟨g1, hRM⟩ := hM.of (by omega) k5 k6
  by_cases hd : 0 ≤ a3 ∧ a3 ≤ 999
  · refine admit1 hd ⟨fun _ => ?_, fun z => by omega⟩
    obtain ⟨c, rfl⟩ := Int.eq_ofNat_of_zero_le k1
    obtain ⟨t, rfl⟩ := Int.eq_ofNat_of_zero_le k3
    obtain ⟨law, rfl⟩ := Int.eq_ofNat_of_zero_le k5
    have h5 : R 1 5 ≤ 6 := (hc.1 5 (by omega)).2
    have ht : hasG R t := Or.inl ⟨by omega, k4⟩
    refine c_open hh (R := R) (fun r i hr => by rw [w2_ne (by omega)]; exact hR r i hr) hc (hRM.congr fun k j hk => w2_ne (by omega)) k6 (fun iv5 fr5 C5 => ?_)
    refine c_wins1 hh (gR_of rvo_51) (gR_of rvo_47) C5 hc lf_sup k2 ht (by omega) (fun iv8 fr8 => ?_)
    intro iv1 e1
    have fr1 : ∀ k j, nsc k j → iv1 k j = iv k j := fun k j q => by
      unfold nsc at q
      rw [e1, w2_ne (by omega), fr8 _ _ (by omega) (by omega), fr5 _ _ (by omega), w2_ne (by omega)]
    have h80 : ∀ k j, 80 ≤ k → iv1 k j = iv k j := fun k j q => fr1 k j (by unfold nsc; omega)
    have g1' : rvo rv H 66 3 = some 80 := by rw [rvo_ne (by omega) (by omega)]; exact g1
    have hM1 : MC R iv1 (rvo rv H) := hM.congr h80 (rvo_ne (by omega) (by omega))
    obtain ⟨o1, o2, o3, o4, o5⟩ := mn_ok hc k2
    have e5 := (hRM.congr h80).1 5 (by omega)
    refine m_isCart hM1 (fun p1 p2 _ _ => ⟨fun z => by omega, fun _ => m_isLaw hM1 (fun p3 p4 _ _ => ⟨fun z => by omega, fun _ => ⟨fun z => by omega, fun z => ⟨g1', fun y => m_in (fun p7 => ⟨fun _ => ?_, fun z => by omega⟩) (fun p7 => absurd hd p7), fun z => by omega⟩⟩⟩) (fun p3 => absurd ⟨k5, k6⟩ p3)⟩) (fun p1 => absurd ⟨k1, k2⟩ p1)
    refine m_laysFor g1' (hRM.congr h80) hc k2 (fun iv4 fr4 hd4 e20 e17 e21 e22 => ?_)
    have S := MS.of (hRM.congr fun k j hk => (fr4 k j (by omega) (by omega)).trans (h80 k j hk)) hd4 e20 e17 k6
    refine m_winner g1' S hc lf_sup hc.dys k2 ht (by omega) ⟨o4, o5⟩ e21 e22 (fun iv6 r fr6 hr => ?_)
    have d : ∀ v : Int, wp_X12_done v iv6 (rvo rv H) (fun r2 iv2 => r2 = v ∧ Inv n iv2 (rvo rv H)) := by
      intro v
      refine m_done (h.rvo hh) (fun k j q => ?_) ?_
      · have q' := q
        unfold nsc at q'
        rw [fr6 _ _ (by omega) (by omega), fr4 _ _ (by omega) (by omega)]
        exact fr1 k j q
      · rw [fr6 _ _ (by omega) (by omega), fr4 _ _ (by omega) (by omega), e1, w2_ne (by omega), fr8 _ _ (by omega) (by omega), fr5 _ _ (by omega), w2_eq]
    rcases hr with ⟨r1, r2⟩ | ⟨r1, r2⟩
    · refine ⟨fun z => absurd r2 z, fun _ => ?_⟩
      rw [r1]
      exact d (-2)
    · refine ⟨fun z => ?_, fun z => ?_⟩
      · rw [← r2]; exact d r
      · exfalso
        rw [r2] at z
        have : ∀ n, pW R (R 8) (R 10) (lf R law) a3 (R 3 (mn R c)) c (bGo R (R 8) (R 10) (lf R law) a3 (R 2 (mn R c))) t n ≠ -1 := by
          intro n
          induction n with
          | zero => show (-2 : Int) ≠ -1; decide
          | succ n ihn =>
            unfold pW
            split
            · exact ihn
            · split
              · omega
              · decide
        exact this _ z
  · refine admit2 hd ⟨fun z => by omega, fun _ iv1 e1 => ?_⟩
    have h80 : ∀ k j, 80 ≤ k → iv1 k j = iv k j := fun k j q => by rw [e1, w2_ne (by omega), w2_ne (by omega), w2_ne (by omega)]
    have hM1 : MC R iv1 rv := hM.congr h80 rfl
    have e5 := (hRM.congr h80).1 5 (by omega)
    refine m_isCart hM1 (fun p1 p2 _ _ => ⟨fun z => by omega, fun _ => m_isLaw hM1 (fun p3 p4 _ _ => ⟨fun z => by omega, fun _ => ⟨fun z => by omega, fun z => ⟨g1, fun y => m_in (fun p7 => absurd p7 hd) (fun p7 => ⟨fun z => by omega, fun _ => ?_⟩), fun z => by omega⟩⟩⟩) (fun p3 => absurd ⟨k5, k6⟩ p3)⟩) (fun p1 => absurd ⟨k1, k2⟩ p1)
    refine m_refused h (fun k j q => ?_) ?_ (by decide)
    · unfold nsc at q
      rw [e1, w2_ne (by omega), w2_ne (by omega), w2_ne (by omega)]
    · rw [e1, w2_ne (by omega), w2_eq]
theorem pr_force : Pr_force Inv := by
  intro n iv rv a1 a2 a3 h i1 i2 i3
  obtain ⟨H, R, eH, hh, hc, hM, hR⟩ := h.beg
  have bad : ¬ (hasI R a1 ∧ (0 ≤ a3 ∧ a3 < R 1 10)) → bd_X10_force_30 a1 a2 a3 0 iv rv (fun r1 iv1 rv1 => wp_X12_force a1 a2 a3 iv1 rv1 (fun r2 iv2 => r2 = r1 ∧ Inv n iv2 rv1)) := by
    intro k
    refine admit0 ⟨fun z => by omega, fun _ iv1 e1 => ?_⟩ a2
    have hM1 : MC R iv1 rv := hM.congr (fun k j q => by rw [e1, w2_ne (by omega), w2_ne (by omega), w2_ne (by omega)]) rfl
    have fin : wp_X12_refused 1 iv1 rv (fun r2 iv2 => r2 = -1 ∧ Inv n iv2 rv) := by
      refine m_refused h (fun k j q => ?_) ?_ (by decide)
      · unfold nsc at q
        rw [e1, w2_ne (by omega), w2_ne (by omega), w2_ne (by omega)]
      · rw [e1, w2_ne (by omega), w2_eq]
    exact m_isG hM1 hc (fun _ _ p1 => ⟨fun z => by omega, fun _ => m_isLaw hM1 (fun p3 p4 g1 hRM => absurd ⟨p1, p3, p4⟩ k) (fun p3 => ⟨fun z => by omega, fun _ => fin⟩)⟩) (fun p1 => ⟨fun _ => fin, fun z => by omega⟩)
  unfold wp_X10_force
  rw [eH]
  refine c_hasG i1 hR hc (fun k1 => ⟨fun z => by omega, fun _ => c_has (s := 10) hR (by omega) (fun k5 k6 => ⟨fun z => by omega, fun _ => ?_⟩) (fun p => ⟨fun _ => bad (fun q => p q.2), fun z => by omega⟩)⟩) (fun p => ⟨fun _ => bad (fun q => p q.1), fun z => by omega⟩)
  unfold bd_X10_force_30
  rw [eH]
  obtain ⟨g1, hRM⟩ := hM.of (by omega) k5 k6
  by_cases hd : 0 ≤ a2 ∧ a2 ≤ 999
  · refine admit1 hd ⟨fun _ => ?_, fun z => by omega⟩
    have hlt := hasI_lt k1
    obtain ⟨g, rfl⟩ := Int.eq_ofNat_of_zero_le hlt.1
    obtain ⟨law, rfl⟩ := Int.eq_ofNat_of_zero_le k5
    have tg : ((g : Int)).toNat = g := Int.toNat_natCast g
    have hg : hasG R g := k1.2
    refine c_open hh (R := R) (fun r i hr => by rw [w2_ne (by omega)]; exact hR r i hr) hc (hRM.congr fun k j hk => w2_ne (by omega)) k6 (fun iv5 fr5 C5 => ?_)
    refine c_sit hh (gR_of rvo_51) C5 hc (fun iv8 fr8 _ hW => ⟨hlt, ?_⟩)
    have w54 := (hW g hg).1
    rw [tg, w54]
    have main : ∀ v : Int, (pIn (R 8) (R 10) (lf R law) g a2 → v = 1) → (¬ pIn (R 8) (R 10) (lf R law) g a2 → v = 0) → wp_X12_force g a2 law iv8 (rvo rv H) (fun r2 iv2 => r2 = v ∧ Inv n iv2 (rvo rv H)) := ?_
    · by_cases hi : pIn (R 8) (R 10) (lf R law) g a2
      · rw [if_pos hi]
        exact ⟨fun z => by omega, fun _ => main 1 (fun _ => rfl) (fun y => absurd hi y)⟩
      · rw [if_neg hi]
        exact ⟨fun _ => main 0 (fun y => absurd y hi) (fun _ => rfl), fun z => by omega⟩
    intro v hv1 hv0 iv1 e1
    have fr1 : ∀ k j, nsc k j → iv1 k j = iv k j := fun k j q => by
      unfold nsc at q
      rw [e1, w2_ne (by omega), fr8 _ _ (by omega) (by omega), fr5 _ _ (by omega), w2_ne (by omega)]
    have h80 : ∀ k j, 80 ≤ k → iv1 k j = iv k j := fun k j q => fr1 k j (by unfold nsc; omega)
    have g1' : rvo rv H 66 3 = some 80 := by rw [rvo_ne (by omega) (by omega)]; exact g1
    have hM1 : MC R iv1 (rvo rv H) := hM.congr h80 (rvo_ne (by omega) (by omega))
    refine m_isG hM1 hc (fun _ _ _ => ⟨fun z => by omega, fun _ => m_isLaw hM1 (fun p3 p4 _ _ => ⟨fun _ => m_in (fun p7 => ⟨fun _ => ?_, fun z => by omega⟩) (fun p7 => absurd hd p7), fun z => by omega⟩) (fun p3 => absurd ⟨k5, k6⟩ p3)⟩) (fun p1 => absurd k1 p1)
    refine m_lays g1' (hRM.congr h80) hc (fun iv4 fr4 hd4 e20 e17 => ?_)
    have S := MS.of (hRM.congr fun k j hk => (fr4 k j (by omega) (by omega)).trans (h80 k j hk)) hd4 e20 e17 k6
    have d : wp_X12_done v iv4 (rvo rv H) (fun r2 iv2 => r2 = v ∧ Inv n iv2 (rvo rv H)) := by
      refine m_done (h.rvo hh) (fun k j q => ?_) ?_
      · have q' := q
        unfold nsc at q'
        rw [fr4 _ _ (by omega) (by omega)]
        exact fr1 k j q
      · rw [fr4 _ _ (by omega) (by omega), e1, w2_ne (by omega), fr8 _ _ (by omega) (by omega), fr5 _ _ (by omega), w2_eq]
    refine m_inForce g1' S hc (by omega) (fun hi => ⟨fun z => by omega, fun _ => ?_⟩) (fun hi => ⟨fun _ => ?_, fun z => by omega⟩)
    · rw [hv1 hi] at d ⊢; exact d
    · rw [hv0 hi] at d ⊢; exact d
  · refine admit2 hd ⟨fun z => by omega, fun _ iv1 e1 => ?_⟩
    have h80 : ∀ k j, 80 ≤ k → iv1 k j = iv k j := fun k j q => by rw [e1, w2_ne (by omega), w2_ne (by omega), w2_ne (by omega)]
    have hM1 : MC R iv1 rv := hM.congr h80 rfl
    refine m_isG hM1 hc (fun _ _ _ => ⟨fun z => by omega, fun _ => m_isLaw hM1 (fun p3 p4 _ _ => ⟨fun _ => m_in (fun p7 => absurd p7 hd) (fun p7 => ⟨fun z => by omega, fun _ => ?_⟩), fun z => by omega⟩) (fun p3 => absurd ⟨k5, k6⟩ p3)⟩) (fun p1 => absurd k1 p1)
    refine m_refused h (fun k j q => ?_) ?_ (by decide)
    · unfold nsc at q
      rw [e1, w2_ne (by omega), w2_ne (by omega), w2_ne (by omega)]
    · rw [e1, w2_ne (by omega), w2_eq]
