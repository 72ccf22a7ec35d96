/-! PAIRS: chain, ring -/
theorem c_reachFrom {h : Nat} {R : Nat → Nat → Int} {dy ls f : F1} {iv : IV} {rv : RV} {day p : Int} {K : IV → Prop} (hh : h = 2 ∨ h = 21) (h6 : gR rv 51 6 = h) (C : CS h R dy ls f iv) (hc : RC R) (hp : 0 ≤ p ∧ p < R 1 0)
    (hK : ∀ iv', (∀ k j, ¬ (54 ≤ k ∧ k ≤ 62) → ¬ (k = 51 ∧ j = 11) → iv' k j = iv k j) → CB (bGo R dy ls f day p) iv' → (∀ g, hasG R g → WG R dy ls f day iv' g) → K iv') : wp_X1_reachFrom p day iv rv K := by
  refine c_sit hh h6 C hc (fun iv1 fr1 hd hW => ?_)
  have C1 : CS h R dy ls f iv1 := C.congr hh fun k j hkj => fr1 k j (by omega) (by omega)
  refine c_from hh h6 C1 hc hW hp (fun iv2 fr2 hB => hK iv2 (fun k j p q => (fr2 k j (by omega)).trans (fr1 k j (by omega) q)) hB (fun g hg => ?_))
  obtain ⟨w1, w2', w3, w4⟩ := hW g hg
  exact ⟨(fr2 _ _ (by omega)).trans w1, (fr2 _ _ (by omega)).trans w2', (fr2 _ _ (by omega)).trans w3, (fr2 _ _ (by omega)).trans w4⟩
def pRing (R : Nat → Nat → Int) (dy ls f : F1) (day p : Int) (s : BS) (m : Nat) : Prop := ∃ a, a < m ∧ pIn dy ls f (12 + a) day ∧ R 12 (12 + a) = p ∧ pPl R s (12 + a) ≠ -2
theorem c_leads {h : Nat} {R : Nat → Nat → Int} {dy ls f : F1} {iv : IV} {rv : RV} {day p : Int} {s : BS} {K : Int → Prop} (h6 : gR rv 51 6 = h) (C : CS h R dy ls f iv) (hc : RC R) (hW : ∀ g, hasG R g → WG R dy ls f day iv g) (hB : CB s iv)
    (h1 : pRing R dy ls f day p s (R 1 7).toNat → K 1) (h0 : ¬ pRing R dy ls f day p s (R 1 7).toNat → K 0) : wp_X3_leadsBack p iv rv K := by
  have h0' : R 1 0 ≤ 8 := (hc.1 0 (by omega)).2
  have h7 : 0 ≤ R 1 7 ∧ R 1 7 ≤ 4 := hc.1 7 (by omega)
  have e7 : iv (gR rv 51 6 + 1) 7 = R 1 7 := by rw [h6]; exact C.1 1 7 (by omega)
  intro P hP
  have key : ∀ d m : Nat, m + d = (R 1 7).toNat → ¬ pRing R dy ls f day p s m → ∀ x : Int, x = m → P p x := by
    intro d
    induction d with
    | zero =>
      intro m hm hn x ex
      refine hP _ _ ⟨fun _ => h0 ?_, fun z => by omega⟩
      rw [show (R 1 7).toNat = m by omega]; exact hn
    | succ d ih =>
      intro m hm hn x ex
      subst ex
      have ew : Unit → w32 ((m : Int) + 1) = (m : Int) + 1 := fun _ => w32_id (by omega) (by omega)
      have e12 : Unit → w32 (12 + (m : Int)) = ((12 + m : Nat) : Int) := fun _ => w32_id (by omega) (by omega)
      have t12 : (((12 + m : Nat) : Int)).toNat = 12 + m := Int.toNat_natCast _
      have hg : hasG R (12 + m) := Or.inr (Or.inr ⟨by omega, by omega, by omega⟩)
      have hw := (hc.2.2.2.2.1 (12 + m) hg).1 (by omega)
      have w54 := (hW _ hg).1
      have w11 : iv (gR rv 51 6 + 11) (12 + m) = R 11 (12 + m) := by rw [h6]; exact C.1 11 _ (by omega)
      have w12 : iv (gR rv 51 6 + 12) (12 + m) = R 12 (12 + m) := by rw [h6]; exact C.1 12 _ (by omega)
      have yes : pIn dy ls f (12 + m) day → R 12 (12 + m) = p → pPl R s (12 + m) ≠ -2 → K 1 := fun x y z => h1 ⟨m, by omega, x, y, z⟩
      have no : ¬ (pIn dy ls f (12 + m) day ∧ R 12 (12 + m) = p ∧ pPl R s (12 + m) ≠ -2) → P p ((m : Int) + 1) := fun z => ih (m + 1) (by omega) (fun ⟨a, a1, a2⟩ => by
        by_cases e : a = m
        · subst e; exact z a2
        · exact hn ⟨a, by omega, a2⟩) _ (by omega)
      apply hP
      unfold bd_X3_leadsBack_8 bd_X3_leadsBack_64
      rw [e12 (), ew ()]
      refine ⟨fun z => by omega, fun _ x2 e2 => ?_⟩
      subst e2
      rw [t12, w54, w11, w12]
      by_cases hi : pIn dy ls f (12 + m) day
      · rw [if_pos hi]
        exact ⟨⟨by omega, by omega⟩, fun z => by omega, fun _ => ⟨⟨by omega, by omega⟩, fun z => no (fun q => z q.2.1), fun z => ⟨⟨by omega, by omega⟩, c_has3 hB (by omega) (fun y => ⟨fun z => by omega, fun _ => yes hi z y⟩) (fun y => ⟨fun _ => no (fun q => q.2.2 y), fun z => by omega⟩)⟩⟩⟩
      · rw [if_neg hi]
        exact ⟨⟨by omega, by omega⟩, fun _ => no (fun q => hi q.1), fun z => by omega⟩
  exact key (R 1 7).toNat 0 (by omega) (fun ⟨a, a1, _⟩ => by omega) _ rfl
theorem m_ring {R : Nat → Nat → Int} {dy ls f : F1} {law : Nat} {iv : IV} {rv : RV} {day p : Int} {s : BS} {K : Int → IV → Prop} (g1 : rv 66 3 = some 80) (S : MS R dy ls f law iv) (hc : RC R) (hB : MB s iv) (hI : BI R s)
    (h1 : pRing R dy ls f day p s (R 1 7).toNat → wp_X12_done 1 iv rv K) (h0 : ¬ pRing R dy ls f day p s (R 1 7).toNat → wp_X12_done 0 iv rv K) : wl_X12_ring_58 p day 0 iv rv K := by
  have h7 : 0 ≤ R 1 7 ∧ R 1 7 ≤ 4 := hc.1 7 (by omega)
  have e7 : iv 80 7 = R 1 7 := S.1.1 7 (by omega)
  intro P hP
  have key : ∀ d m : Nat, m + d = (R 1 7).toNat → ¬ pRing R dy ls f day p s m → ∀ x : Int, x = m → P p day x iv := by
    intro d
    induction d with
    | zero =>
      intro m hm hn x ex
      refine hP _ _ _ _ ⟨g1, fun _ => h0 ?_, fun z => by omega⟩
      rw [show (R 1 7).toNat = m by omega]; exact hn
    | succ d ih =>
      intro m hm hn x ex
      subst ex
      have ew : Unit → w32 ((m : Int) + 1) = (m : Int) + 1 := fun _ => w32_id (by omega) (by omega)
      have e12 : Unit → w32 (12 + (m : Int)) = ((12 + m : Nat) : Int) := fun _ => w32_id (by omega) (by omega)
      have t12 : (((12 + m : Nat) : Int)).toNat = 12 + m := Int.toNat_natCast _
      have hg : hasG R (12 + m) := Or.inr (Or.inr ⟨by omega, by omega, by omega⟩)
      obtain ⟨w11, w12, -⟩ := S.1.2.2.2.2.1 (12 + m) hg
      have yes : pIn dy ls f (12 + m) day → R 12 (12 + m) = p → pPl R s (12 + m) ≠ -2 → wp_X12_done 1 iv rv K := fun x y z => h1 ⟨m, by omega, x, y, z⟩
      have no : ¬ (pIn dy ls f (12 + m) day ∧ R 12 (12 + m) = p ∧ pPl R s (12 + m) ≠ -2) → P p day ((m : Int) + 1) iv := fun z => ih (m + 1) (by omega) (fun ⟨a, a1, a2⟩ => by
        by_cases e : a = m
        · subst e; exact z a2
        · exact hn ⟨a, by omega, a2⟩) _ (by omega)
      have hno := pBy_iff (q := s.2.1) (b := s.2.2) (p := R 11 (12 + m)) s.1 hI.b
      apply hP
      unfold bd_X12_ring_58 bd_X12_ring_124
      rw [e12 (), ew ()]
      refine ⟨g1, fun z => by omega, fun _ x2 e2 => ?_⟩
      subst e2
      rw [t12, w11, w12]
      refine m_inForce g1 S hc (by omega) (fun hi => ⟨fun z => by omega, fun _ => ⟨⟨by omega, by omega⟩, fun z => no (fun q => z q.2.1), fun z => ⟨⟨by omega, by omega⟩, m_isReached hB (hI.le hc) (fun y => ⟨fun z => by omega, fun _ => yes hi z ?_⟩) (fun y => ⟨fun _ => no (fun q => q.2.2 (hno.mpr y)), fun z => by omega⟩)⟩⟩⟩) (fun hi => ⟨fun _ => no (fun q => hi q.1), fun z => by omega⟩)
      intro w
      obtain ⟨j, j1, j2⟩ := y
      exact hno.mp w j j1 j2
  exact key (R 1 7).toNat 0 (by omega) (fun ⟨a, a1, _⟩ => by omega) _ rfl
theorem w32_wrap {a : Int} (h : inI a) : w32 (a + 1) = a + 1 ∨ (a = 2147483647 ∧ w32 (a + 1) = -2147483648) := by
  unfold inI at h
  by_cases e : a = 2147483647
  · subst e; exact Or.inr ⟨rfl, by decide⟩
  · exact Or.inl (w32_id (by omega) (by omega))
theorem pr_chain : Pr_chain Inv := by
  intro n iv rv a1 a2 a3 a4 h i1 i2 i3 i4
  obtain ⟨H, R, eH, hh, hc, hM, hR⟩ := h.beg
  have bad : ¬ ((0 ≤ a1 ∧ a1 < R 1 0) ∧ (0 ≤ a3 ∧ a3 < R 1 10)) → bd_X10_chain_31 a1 a2 a3 a4 0 iv rv (fun r1 iv1 rv1 => wp_X12_chain a1 a2 a3 a4 iv1 rv1 (fun r2 iv2 => r2 = r1 ∧ Inv n iv2 rv1)) := by
    intro k
    refine admit0 ⟨fun z => by omega, fun _ iv1 e1 => ?_⟩ a2
    have hM1 : MC R iv1 rv := hM.congr (fun k j q => by rw [e1, w2_ne (by omega), w2_ne (by omega), w2_ne (by omega)]) rfl
    have fin : wp_X12_refused 1 iv1 rv (fun r2 iv2 => r2 = -1 ∧ Inv n iv2 rv) := by
      refine m_refused h (fun k j q => ?_) ?_ (by decide)
      · unfold nsc at q
        rw [e1, w2_ne (by omega), w2_ne (by omega), w2_ne (by omega)]
      · rw [e1, w2_ne (by omega), w2_eq]
    exact m_isPlace hM1 (fun p1 p2 _ _ => ⟨fun z => by omega, fun _ => m_isLaw hM1 (fun p3 p4 g1 hRM => absurd ⟨⟨p1, p2⟩, p3, p4⟩ k) (fun p3 => ⟨fun z => by omega, fun _ => fin⟩)⟩) (fun p1 => ⟨fun _ => fin, fun z => by omega⟩)
  unfold wp_X10_chain
  rw [eH]
  refine c_has (s := 0) hR (by omega) (fun k1 k2 => ⟨fun z => by omega, fun _ => c_has (s := 10) hR (by omega) (fun k5 k6 => ⟨fun z => by omega, fun _ => ?_⟩) (fun p => ⟨fun _ => bad (by omega), fun z => by omega⟩)⟩) (fun p => ⟨fun _ => bad (by omega), fun z => by omega⟩)
  unfold bd_X10_chain_31
  rw [eH]
  obtain ⟨g1, hRM⟩ := hM.of (by omega) k5 k6
  by_cases hd : 0 ≤ a2 ∧ a2 ≤ 999
  · refine admit1 hd ⟨fun _ => ?_, fun z => by omega⟩
    obtain ⟨law, rfl⟩ := Int.eq_ofNat_of_zero_le k5
    refine c_open hh (R := R) (fun r i hr => by rw [w2_ne (by omega)]; exact hR r i hr) hc (hRM.congr fun k j hk => w2_ne (by omega)) k6 (fun iv5 fr5 C5 => ?_)
    refine c_reachFrom hh (gR_of rvo_51) C5 hc ⟨k1, k2⟩ (fun iv8 fr8 hB _ => ?_)
    have hI : BI R (bGo R (R 8) (R 10) (lf R law) a2 a1) := BI.go hc ⟨k1, k2⟩
    have k8 := hI.le hc
    have n1 := hI.1
    have q59 := hB.1
    have ew := w32_wrap i4
    have ew2 : w32 (iv8 59 2 - 1) = iv8 59 2 - 1 := w32_id (by omega) (by omega)
    unfold inI at i4
    have main : ∀ (v w : Int) (iv9 : IV), (∀ k j, nsc k j → iv9 k j = iv8 k j) → iv9 0 7 = w → ((0 ≤ a4 ∧ a4 + 1 < ((bGo R (R 8) (R 10) (lf R law) a2 a1).1 : Int)) → v = (bGo R (R 8) (R 10) (lf R law) a2 a1).2.1 (a4 + 1).toNat ∧ w = 0) → (¬ (0 ≤ a4 ∧ a4 + 1 < ((bGo R (R 8) (R 10) (lf R law) a2 a1).1 : Int)) → v = -1 ∧ w = 1) → wp_X12_chain a1 a2 law a4 iv9 (rvo rv H) (fun r2 iv2 => r2 = v ∧ Inv n iv2 (rvo rv H)) := ?_
    · have no : ¬ (0 ≤ a4 ∧ a4 + 1 < ((bGo R (R 8) (R 10) (lf R law) a2 a1).1 : Int)) → bd_X10_chain_80 iv8 (rvo rv H) (fun r1 iv1 rv1 => wp_X12_chain a1 a2 law a4 iv1 rv1 (fun r2 iv2 => r2 = r1 ∧ Inv n iv2 rv1)) := by
        intro z ivx ex
        refine main (-1) 1 ivx (fun k j q => ?_) ?_ (fun y => absurd y z) (fun _ => ⟨rfl, rfl⟩)
        · unfold nsc at q
          rw [ex, w2_ne (by omega)]
        · rw [ex, w2_eq]
      refine ⟨fun z => no (by omega), fun z => ⟨fun y => ⟨⟨by omega, by omega⟩, ?_⟩, fun y => no (by omega)⟩⟩
      rw [show w32 (a4 + 1) = a4 + 1 by omega, hB.2.1 (a4 + 1).toNat (by omega)]
      refine main _ 0 iv8 (fun _ _ _ => rfl) ?_ (fun _ => ⟨rfl, rfl⟩) (fun y => absurd ⟨by omega, by omega⟩ y)
      rw [fr8 _ _ (by omega) (by omega), fr5 _ _ (by omega), w2_eq]
    intro v w iv9 fr9 e9 hv1 hv0 iv1 e1
    have fr1 : ∀ k j, nsc k j → iv1 k j = iv k j := fun k j q => by
      have q' := q
      unfold nsc at q'
      rw [e1, w2_ne (by omega), fr9 k j q, fr8 _ _ (by omega) (by omega), fr5 _ _ (by omega), w2_ne (by omega)]
    have h80 : ∀ k j, 80 ≤ k → iv1 k j = iv k j := fun k j q => fr1 k j (by unfold nsc; omega)
    have g1' : rvo rv H 66 3 = some 80 := by rw [rvo_ne (by omega) (by omega)]; exact g1
    have hM1 : MC R iv1 (rvo rv H) := hM.congr h80 (rvo_ne (by omega) (by omega))
    refine m_isPlace hM1 (fun _ _ _ _ => ⟨fun z => by omega, fun _ => m_isLaw hM1 (fun p3 p4 _ _ => ⟨fun _ => m_in (fun p7 => ⟨fun _ => ?_, fun z => by omega⟩) (fun p7 => absurd hd p7), fun z => by omega⟩) (fun p3 => absurd ⟨k5, k6⟩ p3)⟩) (fun p1 => absurd ⟨k1, k2⟩ p1)
    refine m_lays g1' (hRM.congr h80) hc (fun iv4 fr4 hd4 e20 e17 => ?_)
    have S := MS.of (hRM.congr fun k j hk => (fr4 k j (by omega) (by omega)).trans (h80 k j hk)) hd4 e20 e17 k6
    refine m_reach g1' S hc ⟨k1, k2⟩ (fun iv6 fr6 hB6 => ?_)
    have q26 := hB6.1
    have fr66 : ∀ k j, nsc k j → iv6 k j = iv k j := fun k j q => by
      have q' := q
      unfold nsc at q'
      rw [fr6 _ _ (by omega) (by omega), fr4 _ _ (by omega) (by omega)]
      exact fr1 k j q
    have e67 : iv6 0 7 = w := by rw [fr6 _ _ (by omega) (by omega), fr4 _ _ (by omega) (by omega), e1, w2_ne (by omega)]; exact e9
    have no : ¬ (0 ≤ a4 ∧ a4 + 1 < ((bGo R (R 8) (R 10) (lf R law) a2 a1).1 : Int)) → bd_X12_chain_89 iv6 (rvo rv H) (fun r2 iv2 => r2 = v ∧ Inv n iv2 (rvo rv H)) := by
      intro z
      obtain ⟨v1, v2⟩ := hv0 z
      subst v1; subst v2
      exact m_refused (h.rvo hh) fr66 e67 (by decide)
    refine ⟨fun z => no (by omega), fun z => ⟨fun y => no (by omega), fun y => ⟨⟨by omega, by omega⟩, ?_⟩⟩⟩
    have yes : 0 ≤ a4 ∧ a4 + 1 < ((bGo R (R 8) (R 10) (lf R law) a2 a1).1 : Int) := by omega
    obtain ⟨v1, v2⟩ := hv1 yes
    rw [show w32 (a4 + 1) = a4 + 1 by omega, (hB6.2 (a4 + 1).toNat (by omega)).1, ← v1]
    exact m_done (h.rvo hh) fr66 (by rw [e67]; exact v2)
  · refine admit2 hd ⟨fun z => by omega, fun _ iv1 e1 => ?_⟩
    have h80 : ∀ k j, 80 ≤ k → iv1 k j = iv k j := fun k j q => by rw [e1, w2_ne (by omega), w2_ne (by omega), w2_ne (by omega)]
    have hM1 : MC R iv1 rv := hM.congr h80 rfl
    refine m_isPlace hM1 (fun _ _ _ _ => ⟨fun z => by omega, fun _ => m_isLaw hM1 (fun p3 p4 _ _ => ⟨fun _ => m_in (fun p7 => absurd p7 hd) (fun p7 => ⟨fun z => by omega, fun _ => ?_⟩), fun z => by omega⟩) (fun p3 => absurd ⟨k5, k6⟩ p3)⟩) (fun p1 => absurd ⟨k1, k2⟩ p1)
    refine m_refused h (fun k j q => ?_) ?_ (by decide)
    · unfold nsc at q
      rw [e1, w2_ne (by omega), w2_ne (by omega), w2_ne (by omega)]
    · rw [e1, w2_ne (by omega), w2_eq]
theorem pr_ring : Pr_ring Inv := by
  intro n iv rv a1 a2 a3 h i1 i2 i3
  obtain ⟨H, R, eH, hh, hc, hM, hR⟩ := h.beg
  have bad : ¬ ((0 ≤ a1 ∧ a1 < R 1 0) ∧ (0 ≤ a3 ∧ a3 < R 1 10)) → bd_X10_ring_31 a1 a2 a3 0 iv rv (fun r1 iv1 rv1 => wp_X12_ring a1 a2 a3 iv1 rv1 (fun r2 iv2 => r2 = r1 ∧ Inv n iv2 rv1)) := by
    intro k
    refine admit0 ⟨fun z => by omega, fun _ iv1 e1 => ?_⟩ a2
    have hM1 : MC R iv1 rv := hM.congr (fun k j q => by rw [e1, w2_ne (by omega), w2_ne (by omega), w2_ne (by omega)]) rfl
    have fin : wp_X12_refused 1 iv1 rv (fun r2 iv2 => r2 = -1 ∧ Inv n iv2 rv) := by
      refine m_refused h (fun k j q => ?_) ?_ (by decide)
      · unfold nsc at q
        rw [e1, w2_ne (by omega), w2_ne (by omega), w2_ne (by omega)]
      · rw [e1, w2_ne (by omega), w2_eq]
    exact m_isPlace hM1 (fun p1 p2 _ _ => ⟨fun z => by omega, fun _ => m_isLaw hM1 (fun p3 p4 g1 hRM => absurd ⟨⟨p1, p2⟩, p3, p4⟩ k) (fun p3 => ⟨fun z => by omega, fun _ => fin⟩)⟩) (fun p1 => ⟨fun _ => fin, fun z => by omega⟩)
  unfold wp_X10_ring
  rw [eH]
  refine c_has (s := 0) hR (by omega) (fun k1 k2 => ⟨fun z => by omega, fun _ => c_has (s := 10) hR (by omega) (fun k5 k6 => ⟨fun z => by omega, fun _ => ?_⟩) (fun p => ⟨fun _ => bad (by omega), fun z => by omega⟩)⟩) (fun p => ⟨fun _ => bad (by omega), fun z => by omega⟩)
  unfold bd_X10_ring_31
  rw [eH]
  obtain ⟨g1, hRM⟩ := hM.of (by omega) k5 k6
  by_cases hd : 0 ≤ a2 ∧ a2 ≤ 999
  · refine admit1 hd ⟨fun _ => ?_, fun z => by omega⟩
    obtain ⟨law, rfl⟩ := Int.eq_ofNat_of_zero_le k5
    refine c_open hh (R := R) (fun r i hr => by rw [w2_ne (by omega)]; exact hR r i hr) hc (hRM.congr fun k j hk => w2_ne (by omega)) k6 (fun iv5 fr5 C5 => ?_)
    refine c_reachFrom hh (gR_of rvo_51) C5 hc ⟨k1, k2⟩ (fun iv8 fr8 hB hW => ?_)
    have C8 : CS H R (R 8) (R 10) (lf R law) iv8 := C5.congr hh fun k j hkj => fr8 k j (by omega) (by omega)
    have hI : BI R (bGo R (R 8) (R 10) (lf R law) a2 a1) := BI.go hc ⟨k1, k2⟩
    have main : ∀ v : Int, (pRing R (R 8) (R 10) (lf R law) a2 a1 (bGo R (R 8) (R 10) (lf R law) a2 a1) (R 1 7).toNat → v = 1) → (¬ pRing R (R 8) (R 10) (lf R law) a2 a1 (bGo R (R 8) (R 10) (lf R law) a2 a1) (R 1 7).toNat → v = 0) → wp_X12_ring a1 a2 law iv8 (rvo rv H) (fun r2 iv2 => r2 = v ∧ Inv n iv2 (rvo rv H)) := ?_
    · exact c_leads (gR_of rvo_51) C8 hc hW hB (fun y => ⟨fun z => by omega, fun _ => main 1 (fun _ => rfl) (fun z => absurd y z)⟩) (fun y => ⟨fun _ => main 0 (fun z => absurd z y) (fun _ => rfl), fun z => by omega⟩)
    intro v hv1 hv0 iv1 e1
    have fr1 : ∀ k j, nsc k j → iv1 k j = iv k j := fun k j q => by
      unfold nsc at q
      rw [e1, w2_ne (by omega), fr8 _ _ (by omega) (by omega), fr5 _ _ (by omega), w2_ne (by omega)]
    have h80 : ∀ k j, 80 ≤ k → iv1 k j = iv k j := fun k j q => fr1 k j (by unfold nsc; omega)
    have g1' : rvo rv H 66 3 = some 80 := by rw [rvo_ne (by omega) (by omega)]; exact g1
    have hM1 : MC R iv1 (rvo rv H) := hM.congr h80 (rvo_ne (by omega) (by omega))
    refine m_isPlace hM1 (fun _ _ _ _ => ⟨fun z => by omega, fun _ => m_isLaw hM1 (fun p3 p4 _ _ => ⟨fun _ => m_in (fun p7 => ⟨fun _ => ?_, fun z => by omega⟩) (fun p7 => absurd hd p7), fun z => by omega⟩) (fun p3 => absurd ⟨k5, k6⟩ p3)⟩) (fun p1 => absurd ⟨k1, k2⟩ p1)
    refine m_lays g1' (hRM.congr h80) hc (fun iv4 fr4 hd4 e20 e17 => ?_)
    have S := MS.of (hRM.congr fun k j hk => (fr4 k j (by omega) (by omega)).trans (h80 k j hk)) hd4 e20 e17 k6
    refine m_reach g1' S hc ⟨k1, k2⟩ (fun iv6 fr6 hB6 => ?_)
    have S6 := S.congr (iv' := iv6) fun k j hkj => fr6 k j (by omega) (by omega)
    have d : ∀ u : Int, u = v → wp_X12_done u iv6 (rvo rv H) (fun r2 iv2 => r2 = v ∧ Inv n iv2 (rvo rv H)) := by
      intro u eu
      rw [eu]
      refine m_done (h.rvo hh) (fun k j q => ?_) ?_
      · have q' := q
        unfold nsc at q'
        rw [fr6 _ _ (by omega) (by omega), fr4 _ _ (by omega) (by omega)]
        exact fr1 k j q
      · rw [fr6 _ _ (by omega) (by omega), fr4 _ _ (by omega) (by omega), e1, w2_ne (by omega), fr8 _ _ (by omega) (by omega), fr5 _ _ (by omega), w2_eq]
    exact m_ring g1' S6 hc hB6 hI (fun y => d 1 (hv1 y).symm) (fun y => d 0 (hv0 y).symm)
  · refine admit2 hd ⟨fun z => by omega, fun _ iv1 e1 => ?_⟩
    have h80 : ∀ k j, 80 ≤ k → iv1 k j = iv k j := fun k j q => by rw [e1, w2_ne (by omega), w2_ne (by omega), w2_ne (by omega)]
    have hM1 : MC R iv1 rv := hM.congr h80 rfl
    refine m_isPlace hM1 (fun _ _ _ _ => ⟨fun z => by omega, fun _ => m_isLaw hM1 (fun p3 p4 _ _ => ⟨fun _ => m_in (fun p7 => absurd p7 hd) (fun p7 => ⟨fun z => by omega, fun _ => ?_⟩), fun z => by omega⟩) (fun p3 => absurd ⟨k5, k6⟩ p3)⟩) (fun p1 => absurd ⟨k1, k2⟩ p1)
    refine m_refused h (fun k j q => ?_) ?_ (by decide)
    · unfold nsc at q
      rw [e1, w2_ne (by omega), w2_ne (by omega), w2_ne (by omega)]
    · rw [e1, w2_ne (by omega), w2_eq]
