/-! PAIRS: coin, worth, brings -/
theorem m_lost {n : Nat} {iv iv3 : IV} {rv rv1 : RV} {w : Int} (h : Inv n iv rv1) (he : ∀ k j, nsc k j → iv3 k j = iv k j) (e7 : iv3 0 7 = w) (hw : w ≠ 4) : wp_X12_lost w iv3 rv (fun r iv2 => r = -1000000 ∧ Inv n iv2 rv1) := fun iva ea ivb eb => ⟨rfl, (m_refused (rv := rv) h he e7 hw iva ea ivb eb).2⟩
theorem fr_adm {iv iv1 : IV} {w : Int} (e1 : iv1 = w2 (w2 (w2 iv 0 7 0) 0 7 w) 66 0 0) : (∀ k j, nsc k j → iv1 k j = iv k j) ∧ iv1 0 7 = w ∧ (∀ k j, 80 ≤ k → iv1 k j = iv k j) := by
  refine ⟨fun k j q => ?_, by rw [e1, w2_ne (by omega), w2_eq], fun k j q => by rw [e1, w2_ne (by omega), w2_ne (by omega), w2_ne (by omega)]⟩
  unfold nsc at q
  rw [e1, w2_ne (by omega), w2_ne (by omega), w2_ne (by omega)]
theorem pr_coin : Pr_coin Inv := by
  intro n iv rv a1 h i1
  obtain ⟨H, R, eH, hh, hc, hM, hR⟩ := h.beg
  unfold wp_X10_coin
  rw [eH]
  refine c_has (s := 10) hR (by omega) (fun k5 k6 => admit1 (by omega) ⟨fun _ => ?_, fun z => by omega⟩) (fun p => admit0 ⟨fun z => absurd rfl z, fun _ iv1 e1 => ?_⟩ 0)
  · obtain ⟨g1, hRM⟩ := hM.of (by omega) k5 k6
    obtain ⟨law, rfl⟩ := Int.eq_ofNat_of_zero_le k5
    refine c_open hh (R := R) (fun r i hr => by rw [w2_ne (by omega)]; exact hR r i hr) hc (hRM.congr fun k j hk => w2_ne (by omega)) k6 (fun iv5 fr5 C5 => ?_)
    refine c_coin hh (gR_of rvo_51) (gR_of rvo_47) C5 hc lf_sup (fun iv8 fr8 => ?_)
    intro iv1 e1
    have fr1 : ∀ k j, nsc k j → iv1 k j = iv k j := fun k j q => by
      unfold nsc at q
      rw [e1, w2_ne (by omega), fr8 _ _ (by omega) (by omega) (by omega), fr5 _ _ (by omega), w2_ne (by omega)]
    have e07 : iv1 0 7 = 0 := by rw [e1, w2_ne (by omega), fr8 _ _ (by omega) (by omega) (by omega), fr5 _ _ (by omega), w2_eq]
    have h80 : ∀ k j, 80 ≤ k → iv1 k j = iv k j := fun k j q => fr1 k j (by unfold nsc; omega)
    have g1' : rvo rv H 66 3 = some 80 := by rw [rvo_ne (by omega) (by omega)]; exact g1
    have hM1 : MC R iv1 (rvo rv H) := hM.congr h80 (rvo_ne (by omega) (by omega))
    refine m_isLaw hM1 (fun p3 p4 _ _ => ⟨fun _ => ?_, fun z => by omega⟩) (fun p3 => absurd ⟨k5, k6⟩ p3)
    refine m_lays g1' (hRM.congr h80) hc (fun iv4 fr4 hd4 e20 e17 => ?_)
    have S := MS.of (hRM.congr fun k j hk => (fr4 k j (by omega) (by omega)).trans (h80 k j hk)) hd4 e20 e17 k6
    refine m_coin g1' S hc lf_sup hc.dys (fun iv6 fr6 => m_done (h.rvo hh) (fun k j q => ?_) ?_)
    · have q' := q
      unfold nsc at q'
      rw [fr6 _ _ (by omega) (by omega) (by omega) (by omega), fr4 _ _ (by omega) (by omega)]
      exact fr1 k j q
    · rw [fr6 _ _ (by omega) (by omega) (by omega) (by omega), fr4 _ _ (by omega) (by omega)]; exact e07
  · obtain ⟨f1, f2, f3⟩ := fr_adm e1
    exact m_isLaw (hM.congr f3 rfl) (fun p3 p4 _ _ => absurd ⟨p3, p4⟩ p) (fun p3 => ⟨fun z => absurd rfl z, fun _ => m_refused h f1 f2 (by decide)⟩)
theorem CS.loss {h : Nat} {R : Nat → Nat → Int} {dy ls f : F1} {iv : IV} {g : Nat} {x : Int} (C : CS h R dy ls f iv) (hh : h = 2 ∨ h = 21) : CS h R dy (up1 ls g x) f (w2 iv 53 g x) := by
  obtain ⟨c1, c2, c3, c4, c5⟩ := C
  refine ⟨fun r i hr => by rw [w2_ne (by omega)]; exact c1 r i hr, fun v hv => ?_, fun j j1 j2 => by rw [w2_ne (by omega)]; exact c3 j j1 j2, by rw [w2_ne (by omega)]; exact c4, by rw [w2_ne (by omega), w2_ne (by omega)]; exact c5⟩
  rw [w2_ne (by omega)]
  by_cases z : v = g
  · rw [z, w2_eq, up1_eq]; rw [z] at hv; exact ⟨(c2 g hv).1, rfl⟩
  · rw [w2_ne (by omega), up1_ne z]; exact c2 v hv
theorem MS.loss {R : Nat → Nat → Int} {dy ls f : F1} {law : Nat} {iv : IV} {g : Nat} {x : Int} (S : MS R dy ls f law iv) : MS R dy (up1 ls g x) f law (w2 iv 69 g x) := by
  obtain ⟨s1, s2, s3, s4, s5, s6⟩ := S
  refine ⟨s1.congr fun k j hk => w2_ne (by omega), fun v hv => ?_, by rw [w2_ne (by omega)]; exact s3, by rw [w2_ne (by omega), w2_ne (by omega), w2_ne (by omega), w2_ne (by omega)]; exact s4, by rw [w2_ne (by omega)]; exact s5, by rw [w2_ne (by omega), w2_ne (by omega)]; exact s6⟩
  rw [w2_ne (by omega)]
  by_cases z : v = g
  · rw [z, w2_eq, up1_eq]; rw [z] at hv; exact ⟨(s2 g hv).1, rfl⟩
  · rw [w2_ne (by omega), up1_ne z]; exact s2 v hv
theorem pr_worth : Pr_worth Inv := by
  intro n iv rv a1 a2 h i1 i2
  obtain ⟨H, R, eH, hh, hc, hM, hR⟩ := h.beg
  have bad : Unit → ¬ (hasI R a1 ∧ (0 ≤ a2 ∧ a2 < R 1 10)) → bd_X10_worth_30 a1 a2 0 iv rv (fun r1 iv1 rv1 => wp_X12_worth a1 a2 iv1 rv1 (fun r2 iv2 => r2 = r1 ∧ Inv n iv2 rv1)) := by
    intro _ k
    refine admit0 ⟨fun z => absurd rfl z, fun _ iv1 e1 => ?_⟩ 0
    obtain ⟨f1, f2, f3⟩ := fr_adm e1
    have fin : wp_X12_lost 1 iv1 rv (fun r2 iv2 => r2 = -1000000 ∧ Inv n iv2 rv) := m_lost h f1 f2 (by decide)
    exact m_isG (hM.congr f3 rfl) hc (fun _ _ p1 => ⟨fun z => absurd z (by decide), fun _ => m_isLaw (hM.congr f3 rfl) (fun p3 p4 g1 hRM => absurd ⟨p1, p3, p4⟩ k) (fun p3 => ⟨fun z => absurd rfl z, fun _ => fin⟩)⟩) (fun p1 => ⟨fun _ => fin, fun z => absurd rfl z⟩)
  unfold wp_X10_worth
  rw [eH]
  refine c_hasG i1 hR hc (fun k1 => ⟨fun z => absurd z (by decide), fun _ => c_has (s := 10) hR (by omega) (fun k5 k6 => ⟨fun z => absurd z (by decide), fun _ => ?_⟩) (fun p => ⟨fun _ => bad () (fun q => p q.2), fun z => absurd rfl z⟩)⟩) (fun p => ⟨fun _ => bad () (fun q => p q.1), fun z => absurd rfl z⟩)
  unfold bd_X10_worth_30
  rw [eH]
  obtain ⟨g1, hRM⟩ := hM.of (by omega) k5 k6
  refine admit1 (by omega) ⟨fun _ => ?_, fun z => absurd z (by decide)⟩
  have hlt := hasI_lt k1
  obtain ⟨g, rfl⟩ := Int.eq_ofNat_of_zero_le hlt.1
  obtain ⟨law, rfl⟩ := Int.eq_ofNat_of_zero_le k5
  have tg : ((g : Int)).toNat = g := Int.toNat_natCast g
  refine c_open hh (R := R) (fun r i hr => by rw [w2_ne (by omega)]; exact hR r i hr) hc (hRM.congr fun k j hk => w2_ne (by omega)) k6 (fun iv5 fr5 C5 => ?_)
  refine c_coin hh (gR_of rvo_51) (gR_of rvo_47) C5 hc lf_sup (fun iv7 fr7 => ⟨hlt, fun iv9 e9 => ?_⟩)
  rw [tg] at e9
  have C7 : CS H R (R 8) (R 10) (lf R law) iv7 := C5.congr hh fun k j q => fr7 k j (by omega) (by omega) (by omega)
  have C9 : CS H R (R 8) (up1 (R 10) g 1) (lf R law) iv9 := by rw [e9]; exact C7.loss hh
  refine c_coin hh (gR_of rvo_51) (gR_of rvo_47) C9 hc lf_sup (fun iv8 fr8 => ?_)
  intro iv1 e1
  have fr1 : ∀ k j, nsc k j → iv1 k j = iv k j := fun k j q => by
    unfold nsc at q
    rw [e1, w2_ne (by omega), fr8 _ _ (by omega) (by omega) (by omega), e9, w2_ne (by omega), fr7 _ _ (by omega) (by omega) (by omega), fr5 _ _ (by omega), w2_ne (by omega)]
  have e07 : iv1 0 7 = 0 := by rw [e1, w2_ne (by omega), fr8 _ _ (by omega) (by omega) (by omega), e9, w2_ne (by omega), fr7 _ _ (by omega) (by omega) (by omega), fr5 _ _ (by omega), w2_eq]
  have h80 : ∀ k j, 80 ≤ k → iv1 k j = iv k j := fun k j q => fr1 k j (by unfold nsc; omega)
  have g1' : rvo rv H 66 3 = some 80 := by rw [rvo_ne (by omega) (by omega)]; exact g1
  have hM1 : MC R iv1 (rvo rv H) := hM.congr h80 (rvo_ne (by omega) (by omega))
  clear fr8 fr7 fr5 C5 C7 C9 e9 e1
  refine m_isG hM1 hc (fun _ _ _ => ⟨fun z => absurd z (by decide), fun _ => m_isLaw hM1 (fun p3 p4 _ _ => ⟨fun _ => ?_, fun z => absurd z (by decide)⟩) (fun p3 => absurd ⟨k5, k6⟩ p3)⟩) (fun p1 => absurd k1 p1)
  refine m_lays g1' (hRM.congr h80) hc (fun iv4 fr4 hd4 e20 e17 => ?_)
  have S := MS.of (hRM.congr fun k j hk => (fr4 k j (by omega) (by omega)).trans (h80 k j hk)) hd4 e20 e17 k6
  refine m_coin g1' S hc lf_sup hc.dys (fun iv6 fr6 => ⟨hlt, fun iv10 e10 => ?_⟩)
  rw [tg] at e10
  have S10 : MS R (R 8) (up1 (R 10) g 1) (lf R law) law iv10 := by
    rw [e10]; exact (S.congr fun k j q => fr6 k j (by omega) (by omega) (by omega) (by omega)).loss
  refine m_coin g1' S10 hc lf_sup hc.dys (fun iv12 fr12 => m_done (h.rvo hh) (fun k j q => ?_) ?_)
  · have q' := q
    unfold nsc at q'
    rw [fr12 _ _ (by omega) (by omega) (by omega) (by omega), e10, w2_ne (by omega), fr6 _ _ (by omega) (by omega) (by omega) (by omega), fr4 _ _ (by omega) (by omega)]
    exact fr1 k j q
  · rw [fr12 _ _ (by omega) (by omega) (by omega) (by omega), e10, w2_ne (by omega), fr6 _ _ (by omega) (by omega) (by omega) (by omega), fr4 _ _ (by omega) (by omega)]; exact e07
/-- a renewal supposed -/
def lfs (R : Nat → Nat → Int) (law : Nat) (g how day : Int) : F1 := fun j => if j = 12 then g else if j = 13 then how else if j = 14 then day else lf R law j
theorem pr_brings : Pr_brings Inv := by
  intro n iv rv a1 a2 a3 a4 h i1 i2 i3 i4
  obtain ⟨H, R, eH, hh, hc, hM, hR⟩ := h.beg
  have bad : Unit → ¬ (hasI R a1 ∧ a1 < 12 ∧ (0 ≤ a2 ∧ a2 ≤ 2) ∧ (0 ≤ a4 ∧ a4 < R 1 10)) → bd_X10_brings_58 a1 a2 a3 a4 0 iv rv (fun r1 iv1 rv1 => wp_X12_brings a1 a2 a3 a4 iv1 rv1 (fun r2 iv2 => r2 = r1 ∧ Inv n iv2 rv1)) := by
    intro _ k
    refine admit0 ⟨fun z => absurd rfl z, fun _ iv1 e1 => ?_⟩ a3
    obtain ⟨f1, f2, f3⟩ := fr_adm e1
    have fin : wp_X12_lost 1 iv1 rv (fun r2 iv2 => r2 = -1000000 ∧ Inv n iv2 rv) := m_lost h f1 f2 (by decide)
    have hM1 : MC R iv1 rv := hM.congr f3 rfl
    exact m_isG hM1 hc (fun _ _ p1 => ⟨fun z => absurd z (by decide), fun _ => ⟨fun _ => fin, fun p2 => m_in (fun p3 => ⟨fun z => absurd z (by decide), fun _ => m_isLaw hM1 (fun p4 p5 _ _ => absurd ⟨p1, by omega, p3, p4, p5⟩ k) (fun p4 => ⟨fun z => absurd rfl z, fun _ => fin⟩)⟩) (fun p3 => ⟨fun _ => fin, fun z => absurd rfl z⟩)⟩⟩) (fun p1 => ⟨fun _ => fin, fun z => absurd rfl z⟩)
  unfold wp_X10_brings
  rw [eH]
  refine c_hasG i1 hR hc (fun k1 => ⟨fun z => absurd z (by decide), fun _ => ⟨fun k2 => ⟨fun _ => bad () (fun q => by have := q.2.1; omega), fun z => absurd rfl z⟩, fun k2 => ⟨fun z => absurd z (by decide), fun _ => ⟨fun k3 => bad () (fun q => by have := q.2.2.1; omega), fun k3 => ⟨fun k4 => bad () (fun q => by have := q.2.2.1; omega), fun k4 => ?_⟩⟩⟩⟩⟩) (fun p => ⟨fun _ => ⟨fun _ => bad () (fun q => p q.1), fun z => absurd rfl z⟩, fun z => absurd rfl z⟩)
  rw [eH]
  refine c_has (s := 10) hR (by omega) (fun k5 k6 => ⟨fun z => absurd z (by decide), fun _ => ?_⟩) (fun p => ⟨fun _ => bad () (fun q => p q.2.2.2), fun z => absurd rfl z⟩)
  unfold bd_X10_brings_58
  rw [eH]
  obtain ⟨g1, hRM⟩ := hM.of (by omega) k5 k6
  by_cases hd : 0 ≤ a3 ∧ a3 ≤ 999
  · refine admit1 hd ⟨fun _ => ?_, fun z => absurd z (by decide)⟩
    have hlt := hasI_lt k1
    obtain ⟨law, rfl⟩ := Int.eq_ofNat_of_zero_le k5
    have sup : Sup (lfs R law a1 a2 a3) := Or.inr ⟨hlt.1, by show a1 < 12; omega, by show 0 ≤ a2; omega, by show a2 ≤ 2; omega, hd.1, hd.2⟩
    refine c_open hh (R := R) (fun r i hr => by rw [w2_ne (by omega)]; exact hR r i hr) hc (hRM.congr fun k j hk => w2_ne (by omega)) k6 (fun iv5 fr5 C5 => ?_)
    refine c_coin hh (gR_of rvo_51) (gR_of rvo_47) C5 hc lf_sup (fun iv7 fr7 => ?_)
    have C7 : CS H R (R 8) (R 10) (lf R law) iv7 := C5.congr hh fun k j q => fr7 k j (by omega) (by omega) (by omega)
    intro iva ea ivb eb ivc ec
    have fc : ∀ k j, ¬ (k = 51 ∧ 12 ≤ j ∧ j ≤ 14) → ivc k j = iv7 k j := fun k j q => by rw [ec, w2_ne (by omega), eb, w2_ne (by omega), ea, w2_ne (by omega)]
    have C9 : CS H R (R 8) (R 10) (lfs R law a1 a2 a3) ivc := by
      obtain ⟨c1, c2, c3, c4, c5⟩ := C7
      refine ⟨fun r i hr => by rw [fc _ _ (by omega)]; exact c1 r i hr, fun v hv => by rw [fc _ _ (by omega), fc _ _ (by omega)]; exact c2 v hv, fun j j1 j2 => ?_, ?_, fun _ => ⟨?_, ?_⟩⟩
      · rw [fc _ _ (by omega), c3 j j1 j2]
        show _ = if j = 12 then a1 else if j = 13 then a2 else if j = 14 then a3 else lf R law j
        rw [if_neg (by omega), if_neg (by omega), if_neg (by omega)]
      · rw [ec, w2_ne (by omega), eb, w2_ne (by omega), ea, w2_eq]; rfl
      · rw [ec, w2_ne (by omega), eb, w2_eq]; rfl
      · rw [ec, w2_eq]; rfl
    refine c_coin hh (gR_of rvo_51) (gR_of rvo_47) C9 hc sup (fun iv8 fr8 => ?_)
    intro iv1 e1
    have fr1 : ∀ k j, nsc k j → iv1 k j = iv k j := fun k j q => by
      unfold nsc at q
      rw [e1, w2_ne (by omega), fr8 _ _ (by omega) (by omega) (by omega), fc _ _ (by omega), fr7 _ _ (by omega) (by omega) (by omega), fr5 _ _ (by omega), w2_ne (by omega)]
    have e07 : iv1 0 7 = 0 := by rw [e1, w2_ne (by omega), fr8 _ _ (by omega) (by omega) (by omega), fc _ _ (by omega), fr7 _ _ (by omega) (by omega) (by omega), fr5 _ _ (by omega), w2_eq]
    have h80 : ∀ k j, 80 ≤ k → iv1 k j = iv k j := fun k j q => fr1 k j (by unfold nsc; omega)
    have g1' : rvo rv H 66 3 = some 80 := by rw [rvo_ne (by omega) (by omega)]; exact g1
    have hM1 : MC R iv1 (rvo rv H) := hM.congr h80 (rvo_ne (by omega) (by omega))
    clear fr8 fr7 fr5 C5 C7 C9 fc ea eb ec e1
    refine m_isG hM1 hc (fun _ _ _ => ⟨fun z => absurd z (by decide), fun _ => ⟨fun z => absurd z k2, fun _ => m_in (fun _ => ⟨fun z => absurd z (by decide), fun _ => m_isLaw hM1 (fun _ _ _ _ => ⟨fun _ => m_in (fun _ => ⟨fun _ => ?_, fun z => absurd z (by decide)⟩) (fun z => absurd hd z), fun z => absurd z (by decide)⟩) (fun p3 => absurd ⟨k5, k6⟩ p3)⟩) (fun p3 => absurd (by omega) p3)⟩⟩) (fun p1 => absurd k1 p1)
    refine m_lays g1' (hRM.congr h80) hc (fun iv4 fr4 hd4 e20 e17 => ?_)
    have S := MS.of (hRM.congr fun k j hk => (fr4 k j (by omega) (by omega)).trans (h80 k j hk)) hd4 e20 e17 k6
    refine m_coin g1' S hc lf_sup hc.dys (fun iv6 fr6 => ?_)
    intro iva ea ivb eb ivc ec
    have fc : ∀ k j, ¬ (k = 66 ∧ 17 ≤ j ∧ j ≤ 19) → ivc k j = iv6 k j := fun k j q => by rw [ec, w2_ne (by omega), eb, w2_ne (by omega), ea, w2_ne (by omega)]
    have S10 : MS R (R 8) (R 10) (lfs R law a1 a2 a3) law ivc := by
      obtain ⟨s1, s2, s3, s4, s5, s6⟩ := S.congr (iv' := iv6) fun k j q => fr6 k j (by omega) (by omega) (by omega) (by omega)
      refine ⟨s1.congr fun k j hk => fc k j (by omega), fun v hv => by rw [fc _ _ (by omega), fc _ _ (by omega)]; exact s2 v hv, by rw [fc _ _ (by omega)]; exact s3, ?_, ?_, fun _ => ⟨?_, ?_⟩⟩
      · rw [fc _ _ (by omega), fc _ _ (by omega), fc _ _ (by omega), fc _ _ (by omega)]; exact s4
      · rw [ec, w2_ne (by omega), eb, w2_ne (by omega), ea, w2_eq]; rfl
      · rw [ec, w2_ne (by omega), eb, w2_eq]; rfl
      · rw [ec, w2_eq]; rfl
    refine m_coin g1' S10 hc sup hc.dys (fun iv12 fr12 => m_done (h.rvo hh) (fun k j q => ?_) ?_)
    · have q' := q
      unfold nsc at q'
      rw [fr12 _ _ (by omega) (by omega) (by omega) (by omega), fc _ _ (by omega), fr6 _ _ (by omega) (by omega) (by omega) (by omega), fr4 _ _ (by omega) (by omega)]
      exact fr1 k j q
    · rw [fr12 _ _ (by omega) (by omega) (by omega) (by omega), fc _ _ (by omega), fr6 _ _ (by omega) (by omega) (by omega) (by omega), fr4 _ _ (by omega) (by omega)]; exact e07
  · refine admit2 hd ⟨fun z => absurd rfl z, fun _ iv1 e1 => ?_⟩
    obtain ⟨f1, f2, f3⟩ := fr_adm e1
    have hM1 : MC R iv1 rv := hM.congr f3 rfl
    exact m_isG hM1 hc (fun _ _ _ => ⟨fun z => absurd z (by decide), fun _ => ⟨fun z => absurd z k2, fun _ => m_in (fun _ => ⟨fun z => absurd z (by decide), fun _ => m_isLaw hM1 (fun _ _ _ _ => ⟨fun _ => m_in (fun z => absurd z hd) (fun _ => ⟨fun z => absurd rfl z, fun _ => m_lost h f1 f2 (by decide)⟩), fun z => absurd z (by decide)⟩) (fun p3 => absurd ⟨k5, k6⟩ p3)⟩) (fun p3 => absurd (by omega) p3)⟩⟩) (fun p1 => absurd k1 p1)
