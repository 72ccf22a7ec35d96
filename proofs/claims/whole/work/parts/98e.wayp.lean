/-! PAIR: way, proved -/
theorem Inv.way {n : Nat} {iv iv' : IV} {rv : RV} (h : Inv n iv rv) (he : ∀ k j, nsc k j → ¬ (63 ≤ k ∧ k ≤ 65) → k ≠ 73 → k ≠ 74 → ¬ (k = 66 ∧ 27 ≤ j ∧ j ≤ 29) → iv' k j = iv k j) (h1 : iv' 66 1 = iv' 0 7) (h4 : iv' 0 7 ≠ 4) (h2 : iv' 66 2 = -1)
    (w1 : 0 ≤ iv' 63 2 ∧ iv' 63 2 ≤ 8 ∧ iv' 66 27 = iv' 63 2 ∧ ∀ j : Nat, (j : Int) < iv' 63 2 → iv' 73 j = iv' 64 j) (w2' : 0 ≤ iv' 63 3 ∧ iv' 63 3 ≤ 8 ∧ iv' 66 29 = iv' 63 3 ∧ ∀ j : Nat, (j : Int) < iv' 63 3 → iv' 74 j = iv' 65 j) (w3 : 0 < iv' 63 2) (w4 : iv' 66 28 = iv' 63 4) : Inv n iv' rv := by
  have hh := h.h
  obtain ⟨a1, a2, a3, a4, a5, a6, a7, a8, a9⟩ := h.2.2.1
  have e : ∀ k j, (k < 40 ∧ ¬ (k = 0 ∧ j = 7)) ∨ (k = 40 ∧ (j = 6 ∨ j = 7)) ∨ (k = 66 ∧ (j = 6 ∨ j = 12)) ∨ k = 67 ∨ 80 ≤ k → iv' k j = iv k j := fun k j q => he k j (by unfold nsc; omega) (by omega) (by omega) (by omega) (by omega)
  have hS : Sc iv' := by
    refine ⟨?_, h1, ?_, fun c => absurd c h4, fun _ => h2, w1, w2', fun _ => w4, fun c => by omega⟩
    · rw [e 0 1 (by omega), e 66 6 (by omega), show iv' 67 = iv 67 from funext fun j => e 67 j (by omega), show iv' 1 = iv 1 from funext fun j => e 1 j (by omega)]; exact a1
    · rw [e 66 12 (by omega), e 40 6 (by omega)]; exact a3
  refine h.set hS (fun r i _ _ _ _ => e _ _ (by omega)) (fun k hk _ _ _ => funext fun j => e k j (by omega)) (fun hn g hg => ?_) (fun g hg => ?_) (fun g _ => ⟨e _ _ (by omega), e _ _ (by omega), e _ _ (by omega), e _ _ (by omega), e _ _ (by omega), e _ _ (by omega)⟩)
  · obtain ⟨-, -, -, m4, m5, m6, m7, m8⟩ := (h.2.2.2.2.2.2 hn).2.2.2.2.2.1 g hg
    rw [e 90 g (by omega), e 91 g (by omega), e 92 g (by omega), e (gR rv 0 2 + 8) g (by omega), e (gR rv 0 2 + 9) g (by omega), e (gR rv 0 2 + 10) g (by omega)]
    exact ⟨m4, m5, m6, m7, m8⟩
  · rw [e (gR rv 0 2 + 8) g (by omega), e (gR rv 0 2 + 9) g (by omega)]
    exact h.2.2.2.2.1.2.2.2.1 g hg
theorem m_tell {R : Nat → Nat → Int} {T W : F1} {iv : IV} {rv : RV} {Kk : Nat} {G : Nat → Nat} {K : Int → IV → Prop} (g1 : rv 66 3 = some 80) (hM : RM R iv) (hc : RC R) (E : EM R T W (gL R) iv) (gd : Gd R W (Kk + 1) G) (h78 : ∀ j, j ≤ Kk → iv 78 j = (G j : Nat)) (e27 : iv 66 27 = ((Kk + 1 : Nat) : Int)) (e29 : iv 66 29 = 0)
    (hK : ∀ iv' : IV, (∀ k j, ¬ (73 ≤ k ∧ k ≤ 74) → ¬ (k = 66 ∧ j = 29) → iv' k j = iv k j) → (∀ j, j ≤ Kk → iv' 73 j = (G j : Nat)) → iv' 66 29 = ((bst R W G Kk).1 : Nat) → (∀ j, j < (bst R W G Kk).1 → iv' 74 j = (bst R W G Kk).2 j) → wp_X12_done (iv' 66 37) iv' rv K) : wl_X12_way_71 0 iv rv K := by
  have n8 := gd.le hc
  have h0 : R 1 0 ≤ 8 := (hc.1 0 (by omega)).2
  obtain ⟨L1, L2⟩ := gL_ok hc
  intro P hP
  have key : ∀ d m : Nat, m + d = Kk + 1 → ∀ (x : Int) (iv' : IV), x = m → (∀ k j, ¬ (73 ≤ k ∧ k ≤ 74) → ¬ (k = 66 ∧ j = 29) → iv' k j = iv k j) → (∀ j, j < m → iv' 73 j = (G j : Nat)) → iv' 66 29 = ((bst R W G (m - 1)).1 : Nat) → (∀ j, j < (bst R W G (m - 1)).1 → iv' 74 j = (bst R W G (m - 1)).2 j) → P x iv' := by
    intro d
    induction d with
    | zero =>
      intro m hm x iv' ex fr h73 h29 h74
      obtain rfl : m = Kk + 1 := by omega
      have i27 : iv' 66 27 = ((Kk + 1 : Nat) : Int) := by rw [fr _ _ (by omega) (by omega)]; exact e27
      exact hP _ _ ⟨fun _ => hK iv' fr (fun j hj => h73 j (by omega)) h29 h74, fun z => by omega⟩
    | succ d ih =>
      intro m hm x iv' ex fr h73 h29 h74
      subst ex
      have tm : ((m : Int)).toNat = m := Int.toNat_natCast m
      have ew : Unit → w32 ((m : Int) + 1) = ((m + 1 : Nat) : Int) := fun _ => w32_id (by omega) (by omega)
      have i27 : iv' 66 27 = ((Kk + 1 : Nat) : Int) := by rw [fr _ _ (by omega) (by omega)]; exact e27
      have i78 : iv' 78 m = (G m : Nat) := by rw [fr _ _ (by omega) (by omega)]; exact h78 m (by omega)
      apply hP
      unfold bd_X12_way_71 bd_X12_way_161
      rw [i27, tm, i78, ew ()]
      refine ⟨fun z => by omega, fun _ => ⟨⟨by omega, by omega⟩, ⟨by omega, by omega⟩, fun iv6 e6 => ?_⟩⟩
      have f6 : ∀ k j, ¬ (k = 73 ∧ j = m) → iv6 k j = iv' k j := fun k j q => by rw [e6, w2_ne q]
      have h73' : ∀ j, j < m + 1 → iv6 73 j = (G j : Nat) := fun j hj => by
        by_cases y : j = m
        · rw [y, e6, w2_eq]
        · rw [f6 _ _ (by omega)]; exact h73 j (by omega)
      by_cases m0 : m = 0
      · subst m0
        refine ⟨fun z => absurd rfl z, fun _ => ih 1 (by omega) _ iv6 rfl (fun k j q1 q2 => by rw [f6 _ _ (by omega)]; exact fr k j q1 q2) h73' (by rw [f6 _ _ (by omega)]; exact h29) (fun j hj => by rw [f6 _ _ (by omega)]; exact h74 j hj)⟩
      · obtain ⟨i, rfl⟩ : ∃ i, m = i + 1 := ⟨m - 1, by omega⟩
        rw [Nat.add_sub_cancel] at h29 h74
        have bp := gd.2.2 i (by omega)
        obtain ⟨b1, b2, b3⟩ := bl_jn bp
        have p1 := gd.1 i (by omega)
        have p2 := gd.1 (i + 1) (by omega)
        have bli := bst_le (R := R) (W := W) (G := G) i
        have lk := lk_ok hc b1
        have es : Unit → w32 (((i + 1 : Nat) : Int) - 1) = ((i : Nat) : Int) := fun _ => by rw [w32_id (by omega) (by omega)]; omega
        have ex8 : Unit → w32 (w32 (8 * ((G i : Nat) : Int)) + ((G (i + 1) : Nat) : Int)) = ((8 * G i + G (i + 1) : Nat) : Int) := fun _ => by rw [w32_id (x := 8 * ((G i : Nat) : Int)) (by omega) (by omega), w32_id (by omega) (by omega)]; omega
        obtain ⟨q75, -⟩ := E (G i) (G (i + 1)) (by omega) (by omega)
        have v75 : iv6 75 (8 * G i + G (i + 1)) = bl (gA R) (gB R) W (G i) (G (i + 1)) (gL R) := by rw [f6 _ _ (by omega), fr _ _ (by omega) (by omega)]; exact q75
        have v86 : iv6 86 (bl (gA R) (gB R) W (G i) (G (i + 1)) (gL R)).toNat = R 7 (bl (gA R) (gB R) W (G i) (G (i + 1)) (gL R)).toNat := by
          rw [f6 _ _ (by omega), fr _ _ (by omega) (by omega)]
          exact (hM.2.2.2.1 _ (by omega)).2.2.2
        have nb : bst R W G (i + 1) = if R 7 (bl (gA R) (gB R) W (G i) (G (i + 1)) (gL R)).toNat < 0 then bst R W G i else ((bst R W G i).1 + 1, up1 (bst R W G i).2 (bst R W G i).1 (R 7 (bl (gA R) (gB R) W (G i) (G (i + 1)) (gL R)).toNat)) := rfl
        rw [es (), Int.toNat_natCast, h73' i (by omega), h73' (i + 1) (by omega), ex8 (), Int.toNat_natCast, v75, v86]
        generalize bl (gA R) (gB R) W (G i) (G (i + 1)) (gL R) = e at *
        refine ⟨fun _ => ⟨g1, ⟨by omega, by omega⟩, ⟨by omega, by omega⟩, ⟨by omega, by omega⟩, ⟨by omega, by omega⟩, fun x12 e12 => ?_⟩, fun z => by omega⟩
        subst e12
        have j29 : iv6 66 29 = ((bst R W G i).1 : Nat) := by rw [f6 _ _ (by omega)]; exact h29
        refine ⟨fun z => ⟨⟨by omega, by omega⟩, fun iv15 e15 iv16 e16 => ?_⟩, fun z => ?_⟩
        · rw [if_neg (by omega)] at nb
          rw [j29, Int.toNat_natCast] at e15
          have k29 : iv15 66 29 = ((bst R W G i).1 : Nat) := by rw [e15, w2_ne (by omega)]; exact j29
          rw [k29, w32_id (by omega) (by omega)] at e16
          have f16 : ∀ k j, ¬ (k = 74 ∧ j = (bst R W G i).1) → ¬ (k = 66 ∧ j = 29) → iv16 k j = iv6 k j := fun k j y1 y2 => by rw [e16, w2_ne y2, e15, w2_ne y1]
          refine ih (i + 1 + 1) (by omega) _ iv16 rfl (fun k j q1 q2 => by rw [f16 _ _ (by omega) q2, f6 _ _ (by omega)]; exact fr k j q1 q2) (fun j hj => by rw [f16 _ _ (by omega) (by omega)]; exact h73' j hj) ?_ (fun j hj => ?_)
          · rw [Nat.add_sub_cancel, nb, e16, w2_eq]
            show _ = (((bst R W G i).1 + 1 : Nat) : Int)
            omega
          · rw [Nat.add_sub_cancel, nb] at hj ⊢
            have hj' : j < (bst R W G i).1 + 1 := hj
            show iv16 74 j = up1 (bst R W G i).2 (bst R W G i).1 (R 7 e.toNat) j
            by_cases y : j = (bst R W G i).1
            · rw [y, up1_eq, e16, w2_ne (by omega), e15, w2_eq]
            · rw [up1_ne y, f16 _ _ (by omega) (by omega), f6 _ _ (by omega)]; exact h74 j (by omega)
        · rw [if_pos (by omega)] at nb
          refine ih (i + 1 + 1) (by omega) _ iv6 rfl (fun k j q1 q2 => by rw [f6 _ _ (by omega)]; exact fr k j q1 q2) h73' ?_ (fun j hj => ?_)
          · rw [Nat.add_sub_cancel, nb]; exact j29
          · rw [Nat.add_sub_cancel, nb] at hj ⊢
            rw [f6 _ _ (by omega)]; exact h74 j hj
  exact key (Kk + 1) 0 (by omega) _ iv rfl (fun _ _ _ _ => rfl) (fun j hj => by omega) e29 (fun j hj => absurd hj (Nat.not_lt_zero _))
theorem pr_way : Pr_way Inv := by
  intro n iv rv a1 a2 h i1 i2
  obtain ⟨H, R, eH, hh, hc, hM, hR⟩ := h.beg
  have bad : Unit → ¬ ((0 ≤ a1 ∧ a1 < R 1 11) ∧ (0 ≤ a2 ∧ a2 < R 1 10)) → bd_X10_way_32 a1 a2 0 iv rv (fun r1 iv1 rv1 => wp_X12_way a1 a2 iv1 rv1 (fun r2 iv2 => r2 = r1 ∧ Inv n iv2 rv1)) := by
    intro _ k
    refine admit0 ⟨fun z => absurd rfl z, fun _ iv1 e1 => ?_⟩ 0
    obtain ⟨f1, f2, f3⟩ := fr_adm e1
    have fin : wp_X12_refused 1 iv1 rv (fun r2 iv2 => r2 = -1 ∧ Inv n iv2 rv) := m_refused h f1 f2 (by decide)
    have hM1 : MC R iv1 rv := hM.congr f3 rfl
    exact m_isCart hM1 (fun p1 p2 _ _ => ⟨fun z => absurd z (by decide), fun _ => m_isLaw hM1 (fun p5 p6 _ _ => absurd ⟨⟨p1, p2⟩, p5, p6⟩ k) (fun p5 => ⟨fun z => absurd rfl z, fun _ => fin⟩)⟩) (fun p1 => ⟨fun _ => fin, fun z => absurd rfl z⟩)
  unfold wp_X10_way
  rw [eH]
  refine c_has (s := 11) hR (by omega) (fun k1 k2 => ⟨fun z => absurd z (by decide), fun _ => c_has (s := 10) hR (by omega) (fun k5 k6 => ⟨fun z => absurd z (by decide), fun _ => ?_⟩) (fun p => ⟨fun _ => bad () (fun q => p q.2), fun z => absurd rfl z⟩)⟩) (fun p => ⟨fun _ => bad () (fun q => p q.1), fun z => absurd rfl z⟩)
  unfold bd_X10_way_32
  rw [eH]
  obtain ⟨g1, hRM⟩ := hM.of (by omega) k5 k6
  refine admit1 (by omega) ⟨fun _ => ?_, fun z => absurd z (by decide)⟩
  obtain ⟨c, rfl⟩ := Int.eq_ofNat_of_zero_le k1
  obtain ⟨law, rfl⟩ := Int.eq_ofNat_of_zero_le k5
  obtain ⟨o1, o2, o3, o4, o5⟩ := mn_ok hc k2
  obtain ⟨c1, c2, c3, c4, c5, c6⟩ := cFT_ok hc k2
  have h11 : R 1 11 ≤ 6 := (hc.1 11 (by omega)).2
  have g1' : rvo rv H 66 3 = some 80 := by rw [rvo_ne (by omega) (by omega)]; exact g1
  have eH' : gR (rvo rv H) 0 2 = H := by rw [gR_rvo (by omega) (by omega)]; exact eH
  have hG := TT_ok (dy := R 8) (ls := R 10) (f := lf R law) (p := R 2 (mn R c)) (since := R 3 (mn R c)) hc k2
  have hL := hG.lks hc
  refine c_open hh (R := R) (fun r i hr => by rw [w2_ne (by omega)]; exact hR r i hr) hc (hRM.congr fun k j hk => w2_ne (by omega)) k6 (fun iv5 fr5 C5 => ?_)
  refine c_byOwner hh (gR_of rvo_51) (gR_of rvo_47) C5 hc lf_sup k2 (fun iv7 r fr7 h49 h50 hr => ?_)
  have C7 : CS H R (R 8) (R 10) (lf R law) iv7 := C5.congr hh fun k j q => fr7 k j (by omega) (by omega) (by omega)
  have f7 : ∀ k j, nsc k j → iv7 k j = iv k j := fun k j q => by
    unfold nsc at q
    rw [fr7 _ _ (by omega) (by omega) (by omega), fr5 _ _ (by omega), w2_ne (by omega)]
  have w7 : iv7 0 7 = 0 := by rw [fr7 _ _ (by omega) (by omega) (by omega), fr5 _ _ (by omega), w2_eq]
  have r0 := hr.1.2.1 (crF R c) c5
  rw [pOn_eq hc k2 hr, eH']
  -- the reference up to its search
  have ref : ∀ (iv9 : IV) (w : Int) (K' : Int → IV → Prop), (∀ k j, nsc k j → ¬ (63 ≤ k ∧ k ≤ 65) → iv9 k j = iv k j) → iv9 0 7 = w → (∀ (iv8 iv1 : IV) (ret : Int), (∀ k j, k ≠ 66 → iv1 k j = iv9 k j) → (∀ j, j ≠ 0 → iv1 66 j = iv9 66 j) → (∀ k j, ¬ (68 ≤ k ∧ k ≤ 72) → ¬ (75 ≤ k ∧ k ≤ 78) → ¬ (k = 66 ∧ 17 ≤ j ∧ j ≤ 26) → ¬ (k = 66 ∧ 36 ≤ j ∧ j ≤ 38) → iv8 k j = iv1 k j) → RM R iv8 → EM R (TT R (R 8) (R 10) (lf R law) c (R 2 (mn R c)) (R 3 (mn R c))) (WW R (R 8) (R 10) (lf R law) c (R 2 (mn R c)) (R 3 (mn R c))) (gL R) iv8 → Fnd R (WW R (R 8) (R 10) (lf R law) c (R 2 (mn R c)) (R 3 (mn R c))) r (crF R c) (crT R c) iv8 ret → ((ret ≠ 0) → (∀ iv10, iv10 = w2 iv8 66 27 (iv8 66 36) → ∀ iv11, iv11 = w2 iv10 66 28 (iv10 66 38) → ∀ iv12, iv12 = w2 iv11 66 29 0 → wl_X12_way_71 0 iv12 (rvo rv H) K')) ∧ ((ret = 0) → (wp_X12_refused 6 iv8 (rvo rv H) (fun r13 iv14 => K' r13 iv14)))) → wp_X12_way c law iv9 (rvo rv H) K' := by
    intro iv9 w K' f9 w9 hN iv1 e1
    have fr1 : ∀ k j, nsc k j → ¬ (63 ≤ k ∧ k ≤ 65) → iv1 k j = iv k j := fun k j q y => by
      have q' := q
      unfold nsc at q'
      rw [e1, w2_ne (by omega)]; exact f9 k j q y
    have h80 : ∀ k j, 80 ≤ k → iv1 k j = iv k j := fun k j q => fr1 k j (by unfold nsc; omega) (by omega)
    have hM1 : MC R iv1 (rvo rv H) := hM.congr h80 (rvo_ne (by omega) (by omega))
    refine m_isCart hM1 (fun _ _ _ _ => ⟨fun z => absurd z (by decide), fun _ => m_isLaw hM1 (fun _ _ _ _ => ⟨fun _ => ?_, fun z => absurd z (by decide)⟩) (fun p => absurd ⟨k5, k6⟩ p)⟩) (fun p => absurd ⟨k1, k2⟩ p)
    refine m_laysFor g1' (hRM.congr h80) hc k2 (fun iv4 fr4 hd4 e20 e17 e21 e22 => ?_)
    have S := MS.of (hRM.congr fun k j hk => (fr4 k j (by omega) (by omega)).trans (h80 k j hk)) hd4 e20 e17 k6
    refine m_finds (s := crF R c) (g := crT R c) g1' S hc lf_sup hc.dys k2 ⟨o4, o5⟩ e21 e22 (fun _ => rfl) hG c1 c2 hr (fun iv8 ret fr8 E8 hf => ?_)
    exact hN iv8 iv1 ret (fun k j q => by rw [e1, w2_ne (by omega)]) (fun j q => by rw [e1, w2_ne (by omega)]) (fun k j y1 y2 y3 y4 => by rw [fr8 _ _ (by omega) y2 (by omega), fr4 _ _ (by omega) (by omega)]) (S.1.congr fun k j hk => fr8 k j (by omega) (by omega) (by omega)) E8 hf
  by_cases hf : r (crF R c) < 1000000000
  · rw [if_pos hf]
    refine ⟨fun _ => ?_, fun z => absurd (by omega) z⟩
    have ckb := ck_self (r := r) (p := crF R c) 8 c5
    obtain ⟨Kk, G, -, hGP⟩ := GP.ex hr hL 7 (crF R c) c5 hf (by omega) (Nat.le_refl _)
    have gd := hGP.gd hL hc (by omega)
    have k7 := hGP.2.2.1
    have bk := bst_le (R := R) (W := WW R (R 8) (R 10) (lf R law) c (R 2 (mn R c)) (R 3 (mn R c))) (G := G) Kk
    refine c_ofCart (w := 4) C7.1 (by omega) (by omega) (c_ofCart (w := 5) C7.1 (by omega) (by omega) ?_)
    rw [← c1, ← c2]
    refine c_trace hh C7.1 hc hL hr h49 h50 c5 hGP (fun iv11 fr11 p2 p64 p3 p65 p4 => ?_)
    refine ref iv11 0 _ (fun k j q y => by rw [fr11 _ _ y]; exact f7 k j q) (by rw [fr11 _ _ (by omega)]; exact w7) (fun iv8 iv1 ret q1 q2 fr8 M8 E8 hfd => ?_)
    rcases hfd with ⟨d1, d2⟩ | ⟨d1, d2, d3, d4, d5, K2, G2, d6, d7, d8⟩
    · exact absurd hf (by rw [d1]; decide)
    · obtain ⟨ek, eg⟩ := hGP.uniq d6
      subst ek
      refine ⟨fun _ iv10 e10 iva ea ivb eb => ?_, fun z => by rw [d2] at z; exact absurd z (by decide)⟩
      have fb : ∀ k j, ¬ (k = 66 ∧ 27 ≤ j ∧ j ≤ 29) → ivb k j = iv8 k j := fun k j q => by rw [eb, w2_ne (by omega), ea, w2_ne (by omega), e10, w2_ne (by omega)]
      refine m_tell g1' (M8.congr fun k j hk => fb k j (by omega)) hc (E8.congr fun k j hk => fb k j (by omega)) gd (fun j hj => ?_) ?_ (by rw [eb, w2_eq]) (fun ivc fc h73 h29 h74 => ?_)
      · rw [fb _ _ (by omega), d8 j hj, eg j hj]
      · rw [eb, w2_ne (by omega), ea, w2_ne (by omega), e10, w2_eq]; exact d7
      · have x37 : ivc 66 37 = r (crF R c) / 1000 := by rw [fc _ _ (by omega) (by omega), fb _ _ (by omega)]; omega
        rw [x37]
        intro ivd ed ive ee
        refine ⟨rfl, ?_⟩
        have fe : ∀ k j, ¬ (k = 66 ∧ (j = 1 ∨ j = 2)) → ive k j = ivc k j := fun k j q => by rw [ee, w2_ne (by omega), ed, w2_ne (by omega)]
        have g8 : ∀ k j, nsc k j → k ≠ 73 → k ≠ 74 → ¬ (k = 66 ∧ 27 ≤ j ∧ j ≤ 29) → ive k j = iv11 k j := fun k j q y1 y2 y3 => by
          unfold nsc at q
          rw [fe _ _ (by omega), fc _ _ (by omega) (by omega), fb _ _ y3, fr8 _ _ (by omega) (by omega) (by omega) (by omega)]
          by_cases z : k = 66
          · rw [z] at q ⊢; exact q2 j (by omega)
          · exact q1 k j z
        have e07 : ive 0 7 = 0 := by rw [fe _ _ (by omega), fc _ _ (by omega) (by omega), fb _ _ (by omega), fr8 _ _ (by omega) (by omega) (by omega) (by omega), q1 _ _ (by omega), fr11 _ _ (by omega)]; exact w7
        have n63 : ∀ k j, (63 ≤ k ∧ k ≤ 65) → ive k j = iv11 k j := fun k j q => g8 k j (by unfold nsc; omega) (by omega) (by omega) (by omega)
        refine (h.rvo hh).way (fun k j q y1 y2 y3 y4 => ?_) ?_ (by rw [e07]; decide) (by rw [ee, w2_eq]) ?_ ?_ ?_ ?_
        · rw [g8 k j q y2 y3 y4, fr11 _ _ y1]; exact f7 k j q
        · rw [ee, w2_ne (by omega), ed, w2_eq, ← ed, ← ee, e07]
        · rw [n63 63 2 (by omega), p2, fe _ _ (by omega), fc _ _ (by omega) (by omega)]
          refine ⟨by omega, by omega, ?_, fun j hj => ?_⟩
          · rw [eb, w2_ne (by omega), ea, w2_ne (by omega), e10, w2_eq]; exact d7
          · rw [fe _ _ (by omega), h73 j (by omega), n63 64 j (by omega), p64 j (by omega)]
        · rw [n63 63 3 (by omega), p3, fe _ _ (by omega), h29]
          refine ⟨by omega, by omega, rfl, fun j hj => ?_⟩
          rw [fe _ _ (by omega), h74 j (by omega), n63 65 j (by omega), p65 j (by omega)]
        · rw [n63 63 2 (by omega), p2]; omega
        · rw [n63 63 4 (by omega), p4, fe _ _ (by omega), fc _ _ (by omega) (by omega), eb, w2_ne (by omega), ea, w2_eq, e10, w2_ne (by omega)]
          omega
  · rw [if_neg hf]
    refine ⟨fun z => absurd z (by decide), fun _ iv9 e9 => ?_⟩
    have f9 : ∀ k j, nsc k j → iv9 k j = iv k j := fun k j q => by
      have q' := q
      unfold nsc at q'
      rw [e9, w2_ne (by omega)]; exact f7 k j q
    refine ref iv9 6 _ (fun k j q _ => f9 k j q) (by rw [e9, w2_eq]) (fun iv8 iv1 ret q1 q2 fr8 M8 E8 hfd => ?_)
    rcases hfd with ⟨d1, d2⟩ | ⟨d1, -⟩
    · refine ⟨fun z => absurd d2 z, fun _ => m_refused (h.rvo hh) (fun k j q => ?_) ?_ (by decide)⟩
      · have q' := q
        unfold nsc at q'
        rw [fr8 _ _ (by omega) (by omega) (by omega) (by omega)]
        by_cases z : k = 66
        · rw [z] at q' q ⊢; rw [q2 j (by omega)]; exact f9 66 j q
        · rw [q1 k j z]; exact f9 k j q
      · rw [fr8 _ _ (by omega) (by omega) (by omega) (by omega), q1 _ _ (by omega), e9, w2_eq]
    · exact absurd d1 hf
