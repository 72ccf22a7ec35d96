/-! PAIR: feed -/
def byt (x sh : Int) : Int := (Int32.ofInt ((Int32.ofInt ((Int32.ofInt x >>> (Int32.ofInt sh &&& 31)).toInt)).toInt8.toInt32.toInt)).toInt8.toInt32.toInt
theorem byt_in (x sh : Int) : -128 ≤ byt x sh ∧ byt x sh ≤ 127 := by
  unfold byt
  generalize (Int32.ofInt ((Int32.ofInt ((Int32.ofInt x >>> (Int32.ofInt sh &&& 31)).toInt)).toInt8.toInt32.toInt)).toInt8 = z
  rw [Int8.toInt_toInt32]
  have h1 := z.le_toInt
  have h2 := z.toInt_lt
  omega
theorem c_put1 {x sh : Int} {t : Nat} {iv : IV} {rv : RV} {K : IV → Prop} {P : Int → Int → IV → Prop} (hP : ∀ (l1' l2' : Int) (iv' : IV), bd_X10_putBytes_3 P l1' l2' iv' rv K → P l1' l2' iv') (h0 : 0 ≤ sh ∧ sh ≤ 24) (ht : iv 0 1 = t) (hl : t < 900) (hn : P x (sh - 8) (w2 (w2 iv 1 t (byt x sh)) 0 1 ((t : Int) + 1))) : P x sh iv := by
  have e1 : (w32 (sh + (-8))) = sh - 8 := w32_id (by omega) (by omega)
  have e2 : Unit → w32 ((t : Int) + 1) = (t : Int) + 1 := fun _ => w32_id (by omega) (by omega)
  apply hP
  unfold bd_X10_putBytes_3 bd_X10_putBytes_47
  rw [e1, ht, Int.toNat_natCast]
  refine ⟨fun z => by omega, fun _ => ⟨fun z => by omega, fun _ => ⟨fun z => by omega, fun _ => ⟨⟨by omega, by omega⟩, fun iv5 e5 iv6 e6 => ?_⟩⟩⟩⟩
  have a : iv5 0 1 = t := by rw [e5, w2_ne (by omega)]; exact ht
  rw [a, e2 ()] at e6
  rw [e6, e5]
  exact hn
theorem c_putBytes {x : Int} {t : Nat} {iv : IV} {rv : RV} {K : IV → Prop} (ht : iv 0 1 = t) (hl : t + 4 ≤ 900)
    (hK : ∀ iv', (∀ k j, ¬ (k = 0 ∧ j = 1) → ¬ (k = 1 ∧ t ≤ j ∧ j < t + 4) → iv' k j = iv k j) → iv' 0 1 = ((t + 4 : Nat) : Int) → iv' 1 t = byt x 24 → iv' 1 (t + 1) = byt x 16 → iv' 1 (t + 2) = byt x 8 → iv' 1 (t + 3) = byt x 0 → K iv') : wp_X10_putBytes x iv rv K := by
  intro P hP
  refine c_put1 hP (t := t) (by omega) ht (by omega) ?_
  refine c_put1 hP (t := t + 1) (by omega) (by rw [w2_eq]; omega) (by omega) ?_
  refine c_put1 hP (t := t + 2) (by omega) (by rw [w2_eq]; omega) (by omega) ?_
  refine c_put1 hP (t := t + 3) (by omega) (by rw [w2_eq]; omega) (by omega) ?_
  refine hP _ _ _ ⟨fun _ => ?_, fun z => absurd (by decide) z⟩
  refine hK _ (fun k j p q => ?_) ?_ ?_ ?_ ?_ ?_
  · rw [w2_ne (by omega), w2_ne (by omega), w2_ne (by omega), w2_ne (by omega), w2_ne (by omega), w2_ne (by omega), w2_ne (by omega), w2_ne (by omega)]
  · rw [w2_eq]; omega
  · rw [w2_ne (by omega), w2_ne (by omega), w2_ne (by omega), w2_ne (by omega), w2_ne (by omega), w2_ne (by omega), w2_ne (by omega), w2_eq]
  · rw [w2_ne (by omega), w2_ne (by omega), w2_ne (by omega), w2_ne (by omega), w2_ne (by omega), w2_eq]; rfl
  · rw [w2_ne (by omega), w2_ne (by omega), w2_ne (by omega), w2_eq]; rfl
  · rw [w2_ne (by omega), w2_eq]; rfl
/-- the byte k of five numbers -/
def nth5 (a b c d e : Int) (k : Nat) : Int := if 4 ≤ k then (if 8 ≤ k then (if 12 ≤ k then (if 16 ≤ k then e else d) else c) else b) else a
def B5 (a b c d e : Int) (k : Nat) : Int := byt (nth5 a b c d e k) (24 - 8 * ((k % 4 : Nat) : Int))
theorem m_feed {a b c d e : Int} {t : Nat} {iv : IV} {rv : RV} {K : Int → IV → Prop} (ht : iv 66 6 = t) (hl : t + 20 ≤ 900)
    (hK : ∀ iv', (∀ k j, ¬ (k = 66 ∧ j = 6) → ¬ (k = 67 ∧ t ≤ j ∧ j < t + 20) → iv' k j = iv k j) → iv' 66 6 = ((t + 20 : Nat) : Int) → (∀ i, i < 20 → iv' 67 (t + i) = B5 a b c d e i) → K ((t + 20 : Nat) : Int) iv') : wl_X12_feed_23 a b c d e 0 iv rv K := by
  intro P hP
  have key : ∀ r m : Nat, m + r = 20 → ∀ (x : Int) (iv' : IV), x = m → (∀ k j, ¬ (k = 66 ∧ j = 6) → ¬ (k = 67 ∧ t ≤ j ∧ j < t + m) → iv' k j = iv k j) → iv' 66 6 = ((t + m : Nat) : Int) → (∀ i, i < m → iv' 67 (t + i) = B5 a b c d e i) → P a b c d e x iv' := by
    intro r
    induction r with
    | zero =>
      intro m hm x iv' ex fr h6 hB
      obtain rfl : m = 20 := by omega
      refine hP _ _ _ _ _ _ _ ⟨fun _ => ?_, fun z => by omega⟩
      rw [h6]
      exact hK iv' fr h6 hB
    | succ r ih =>
      intro m hm x iv' ex fr h6 hB
      subst ex
      have em : Int.tmod (m : Int) 4 = ((m % 4 : Nat) : Int) := by
        rw [Int.tmod_eq_emod_of_nonneg (by omega)]; omega
      have e1 : Unit → w32 (8 * ((m % 4 : Nat) : Int)) = 8 * ((m % 4 : Nat) : Int) := fun _ => w32_id (by omega) (by omega)
      have e2 : Unit → w32 (24 - 8 * ((m % 4 : Nat) : Int)) = 24 - 8 * ((m % 4 : Nat) : Int) := fun _ => w32_id (by omega) (by omega)
      have e3 : Unit → w32 ((m : Int) + 1) = (m : Int) + 1 := fun _ => w32_id (by omega) (by omega)
      have e4 : Unit → w32 (((t + m : Nat) : Int) + 1) = ((t + m : Nat) : Int) + 1 := fun _ => w32_id (by omega) (by omega)
      have go : ∀ v : Int, v = nth5 a b c d e m → bd_X12_feed_76 P a b c d e m v iv' rv K := by
        intro v ev
        unfold bd_X12_feed_76
        rw [em, e1 (), e2 (), e3 (), h6, Int.toNat_natCast]
        refine ⟨⟨by omega, by omega⟩, fun iv2 q2 iv3 q3 => ?_⟩
        have a6 : iv2 66 6 = ((t + m : Nat) : Int) := by rw [q2, w2_ne (by omega)]; exact h6
        rw [a6, e4 ()] at q3
        refine ih (m + 1) (by omega) _ iv3 (by omega) (fun k j p q => ?_) ?_ (fun i hi => ?_)
        · rw [q3, w2_ne (by omega), q2, w2_ne (by omega)]
          exact fr k j p (by omega)
        · rw [q3, w2_eq]; omega
        · rw [q3, w2_ne (by omega), q2]
          by_cases z : i = m
          · rw [z, w2_eq, ev]; rfl
          · rw [w2_ne (by omega)]; exact hB i (by omega)
      refine hP _ _ _ _ _ _ _ ⟨fun z => by omega, fun _ => ⟨fun z1 => ⟨fun z2 => ⟨fun z3 => ⟨fun z4 => go _ ?_, fun z4 => go _ ?_⟩, fun z3 => go _ ?_⟩, fun z2 => go _ ?_⟩, fun z1 => go _ ?_⟩⟩
      · unfold nth5; rw [if_pos (by omega), if_pos (by omega), if_pos (by omega), if_pos (by omega)]
      · unfold nth5; rw [if_pos (by omega), if_pos (by omega), if_pos (by omega), if_neg (by omega)]
      · unfold nth5; rw [if_pos (by omega), if_pos (by omega), if_neg (by omega)]
      · unfold nth5; rw [if_pos (by omega), if_neg (by omega)]
      · unfold nth5; rw [if_neg (by omega)]
  exact key 20 0 (by omega) _ iv rfl (fun _ _ _ _ => rfl) (by rw [ht]; omega) (fun i hi => by omega)
theorem Inv.tape {n : Nat} {iv iv' : IV} {rv : RV} (h : Inv n iv rv) (he : ∀ k j, ¬ (k = 0 ∧ j = 1) → k ≠ 1 → ¬ (k = 66 ∧ (j = 0 ∨ j = 6)) → k ≠ 67 → iv' k j = iv k j) (h1 : 0 ≤ iv' 0 1 ∧ iv' 0 1 ≤ 900 ∧ iv' 66 6 = iv' 0 1 ∧ ∀ j : Nat, (j : Int) < iv' 0 1 → iv' 67 j = iv' 1 j ∧ -128 ≤ iv' 1 j ∧ iv' 1 j ≤ 127) : Inv n iv' rv := by
  have hh := h.h
  obtain ⟨a1, a2, a3, a4, a5, a6, a7, a8, a9⟩ := h.2.2.1
  have r : ∀ k, k ≠ 0 → k ≠ 1 → k ≠ 66 → k ≠ 67 → iv' k = iv k := fun k p1 p2 p3 p4 => funext fun j => he k j (by omega) p2 (by omega) p4
  have hS : Sc iv' := by
    unfold Sc
    refine ⟨h1, ?_, ?_, ?_, ?_, ?_, ?_, ?_, ?_⟩
    · rw [he 66 1 (by omega) (by omega) (by omega) (by omega), he 0 7 (by omega) (by omega) (by omega) (by omega)]; exact a2
    · rw [he 66 12 (by omega) (by omega) (by omega) (by omega), r 40 (by omega) (by omega) (by omega) (by omega)]; exact a3
    · rw [he 66 2 (by omega) (by omega) (by omega) (by omega), he 0 7 (by omega) (by omega) (by omega) (by omega), r 40 (by omega) (by omega) (by omega) (by omega)]; exact a4
    · rw [he 66 2 (by omega) (by omega) (by omega) (by omega), he 0 7 (by omega) (by omega) (by omega) (by omega)]; exact a5
    · rw [he 66 27 (by omega) (by omega) (by omega) (by omega), r 63 (by omega) (by omega) (by omega) (by omega), r 73 (by omega) (by omega) (by omega) (by omega), r 64 (by omega) (by omega) (by omega) (by omega)]; exact a6
    · rw [he 66 29 (by omega) (by omega) (by omega) (by omega), r 63 (by omega) (by omega) (by omega) (by omega), r 74 (by omega) (by omega) (by omega) (by omega), r 65 (by omega) (by omega) (by omega) (by omega)]; exact a7
    · rw [he 66 28 (by omega) (by omega) (by omega) (by omega), r 63 (by omega) (by omega) (by omega) (by omega)]; exact a8
    · rw [he 66 28 (by omega) (by omega) (by omega) (by omega), r 63 (by omega) (by omega) (by omega) (by omega)]; exact a9
  refine h.set hS (fun r i _ _ _ _ => he _ _ (by omega) (by omega) (by omega) (by omega)) (fun k hk _ _ _ => r k (by omega) (by omega) (by omega) (by omega)) (fun hn g hg => ?_) (fun g hg => ?_) (fun g _ => ⟨he _ _ (by omega) (by omega) (by omega) (by omega), he _ _ (by omega) (by omega) (by omega) (by omega), he _ _ (by omega) (by omega) (by omega) (by omega), he _ _ (by omega) (by omega) (by omega) (by omega), he _ _ (by omega) (by omega) (by omega) (by omega), he _ _ (by omega) (by omega) (by omega) (by omega)⟩)
  · obtain ⟨-, -, -, m4, m5, m6, m7, m8⟩ := (h.2.2.2.2.2.2 hn).2.2.2.2.2.1 g hg
    rw [r 90 (by omega) (by omega) (by omega) (by omega), r 91 (by omega) (by omega) (by omega) (by omega), r 92 (by omega) (by omega) (by omega) (by omega), r (gR rv 0 2 + 8) (by omega) (by omega) (by omega) (by omega), r (gR rv 0 2 + 9) (by omega) (by omega) (by omega) (by omega), r (gR rv 0 2 + 10) (by omega) (by omega) (by omega) (by omega)]
    exact ⟨m4, m5, m6, m7, m8⟩
  · rw [r (gR rv 0 2 + 8) (by omega) (by omega) (by omega) (by omega), r (gR rv 0 2 + 9) (by omega) (by omega) (by omega) (by omega)]
    exact h.2.2.2.2.1.2.2.2.1 g hg
theorem pr_feed : Pr_feed Inv := by
  intro n iv rv a b c d e h i1 i2 i3 i4 i5
  obtain ⟨s1, s2, s3, s4⟩ := h.2.2.1.1
  obtain ⟨t, et⟩ := Int.eq_ofNat_of_zero_le s1
  unfold wp_X10_feed
  refine ⟨fun z => ?_, fun z => ?_⟩
  · refine c_putBytes et (by omega) (fun iva fra ta p0 p1 p2 p3 => ?_)
    refine c_putBytes ta (by omega) (fun ivb frb tb p4 p5 p6 p7 => ?_)
    refine c_putBytes tb (by omega) (fun ivc frc tc p8 p9 p10 p11 => ?_)
    refine c_putBytes tc (by omega) (fun ivd frd td p12 p13 p14 p15 => ?_)
    refine c_putBytes td (by omega) (fun ive fre te p16 p17 p18 p19 => ?_)
    rw [te]
    have hB : ∀ i, i < 20 → ive 1 (t + i) = B5 a b c d e i := by
      intro i hi
      have : i = 0 ∨ i = 1 ∨ i = 2 ∨ i = 3 ∨ i = 4 ∨ i = 5 ∨ i = 6 ∨ i = 7 ∨ i = 8 ∨ i = 9 ∨ i = 10 ∨ i = 11 ∨ i = 12 ∨ i = 13 ∨ i = 14 ∨ i = 15 ∨ i = 16 ∨ i = 17 ∨ i = 18 ∨ i = 19 := by omega
      rcases this with rfl | rfl | rfl | rfl | rfl | rfl | rfl | rfl | rfl | rfl | rfl | rfl | rfl | rfl | rfl | rfl | rfl | rfl | rfl | rfl
      · rw [fre _ _ (by omega) (by omega), frd _ _ (by omega) (by omega), frc _ _ (by omega) (by omega), frb _ _ (by omega) (by omega)]; exact p0
      · rw [fre _ _ (by omega) (by omega), frd _ _ (by omega) (by omega), frc _ _ (by omega) (by omega), frb _ _ (by omega) (by omega)]; exact p1
      · rw [fre _ _ (by omega) (by omega), frd _ _ (by omega) (by omega), frc _ _ (by omega) (by omega), frb _ _ (by omega) (by omega)]; exact p2
      · rw [fre _ _ (by omega) (by omega), frd _ _ (by omega) (by omega), frc _ _ (by omega) (by omega), frb _ _ (by omega) (by omega)]; exact p3
      · rw [fre _ _ (by omega) (by omega), frd _ _ (by omega) (by omega), frc _ _ (by omega) (by omega)]; exact p4
      · rw [fre _ _ (by omega) (by omega), frd _ _ (by omega) (by omega), frc _ _ (by omega) (by omega)]; exact p5
      · rw [fre _ _ (by omega) (by omega), frd _ _ (by omega) (by omega), frc _ _ (by omega) (by omega)]; exact p6
      · rw [fre _ _ (by omega) (by omega), frd _ _ (by omega) (by omega), frc _ _ (by omega) (by omega)]; exact p7
      · rw [fre _ _ (by omega) (by omega), frd _ _ (by omega) (by omega)]; exact p8
      · rw [fre _ _ (by omega) (by omega), frd _ _ (by omega) (by omega)]; exact p9
      · rw [fre _ _ (by omega) (by omega), frd _ _ (by omega) (by omega)]; exact p10
      · rw [fre _ _ (by omega) (by omega), frd _ _ (by omega) (by omega)]; exact p11
      · rw [fre _ _ (by omega) (by omega)]; exact p12
      · rw [fre _ _ (by omega) (by omega)]; exact p13
      · rw [fre _ _ (by omega) (by omega)]; exact p14
      · rw [fre _ _ (by omega) (by omega)]; exact p15
      · exact p16
      · exact p17
      · exact p18
      · exact p19
    have fr : ∀ k j, ¬ (k = 0 ∧ j = 1) → ¬ (k = 1 ∧ t ≤ j ∧ j < t + 20) → ive k j = iv k j := fun k j q1 q2 => by
      rw [fre _ _ q1 (by omega), frd _ _ q1 (by omega), frc _ _ q1 (by omega), frb _ _ q1 (by omega), fra _ _ q1 (by omega)]
    clear fra frb frc frd fre p0 p1 p2 p3 p4 p5 p6 p7 p8 p9 p10 p11 p12 p13 p14 p15 p16 p17 p18 p19
    intro iv1 e1
    have t6 : iv1 66 6 = t := by rw [e1, w2_ne (by omega), fr _ _ (by omega) (by omega), s3]; exact et
    have ew : Unit → w32 ((t : Int) + 20) = (t : Int) + 20 := fun _ => w32_id (by omega) (by omega)
    rw [t6, ew ()]
    refine ⟨fun _ => m_feed t6 (by omega) (fun iv2 fr2 h6 hB2 => ⟨by omega, h.tape (fun k j q1 q2 q3 q4 => ?_) ?_⟩), fun y => by omega⟩
    · rw [fr2 _ _ (by omega) (by omega), e1, w2_ne (by omega), fr _ _ q1 (by omega)]
    · have f1 : ∀ j, iv2 1 j = ive 1 j := fun j => by rw [fr2 _ _ (by omega) (by omega), e1, w2_ne (by omega)]
      have f0 : iv2 0 1 = ((t + 20 : Nat) : Int) := by rw [fr2 _ _ (by omega) (by omega), e1, w2_ne (by omega), te]
      rw [f0, h6]
      refine ⟨by omega, by omega, rfl, fun j hj => ?_⟩
      rw [f1]
      by_cases zj : j < t
      · rw [fr2 _ _ (by omega) (by omega), e1, w2_ne (by omega), fr _ _ (by omega) (by omega), fr _ _ (by omega) (by omega)]
        exact s4 j (by omega)
      · obtain ⟨i, rfl⟩ : ∃ i, j = t + i := ⟨j - t, by omega⟩
        rw [hB2 i (by omega), hB i (by omega)]
        exact ⟨rfl, byt_in _ _⟩
  · intro iv1 e1
    have t6 : iv1 66 6 = t := by rw [e1, w2_ne (by omega), s3]; exact et
    have ew : Unit → w32 ((t : Int) + 20) = (t : Int) + 20 := fun _ => w32_id (by omega) (by omega)
    rw [t6, ew ()]
    refine ⟨fun y => by omega, fun _ => ⟨rfl, ?_⟩⟩
    rw [e1]
    exact h.t
