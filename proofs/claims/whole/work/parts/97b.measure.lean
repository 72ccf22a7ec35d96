/-! THE CLASS: Walker.measure -/
def Vd (a b : Nat → Nat) (w : F1) (L g k m : Nat) (r : F1) : Prop := ∀ e, e < m → ∀ p q z, jn a b e p q → Wk a b w L g k q z → r p ≤ w e + z
theorem Up.mono {a b : Nat → Nat} {w : F1} {L g k : Nat} {r r' : F1} (h : Up a b w L g k r) (hl : ∀ p, r' p ≤ r p) : Up a b w L g k r' := fun p x hp hw => Int.le_trans (hl p) (h p x hp hw)
theorem Vd.mono {a b : Nat → Nat} {w : F1} {L g k m : Nat} {r r' : F1} (h : Vd a b w L g k m r) (hl : ∀ p, r' p ≤ r p) : Vd a b w L g k m r' := fun e he p q z hj hw => Int.le_trans (hl p) (h e he p q z hj hw)
theorem Vd.step {a b : Nat → Nat} {w : F1} {L g k m : Nat} {r : F1} (hL : Lks a b w L) (hm : m < L) (h : Vd a b w L g k m r) (hU : Up a b w L g k r) (hf : r (a m) ≤ r (b m) + w m ∧ r (b m) ≤ r (a m) + w m) : Vd a b w L g k (m + 1) r := by
  intro e he p q z hj hw
  by_cases y : e = m
  · subst y
    obtain ⟨l1, l2, -, -⟩ := hL e hm
    rcases hj with ⟨x1, x2⟩ | ⟨x1, x2⟩
    · rw [x1, x2] at hf
      have := hU q z (by omega) hw
      omega
    · rw [x1, x2] at hf
      have := hU q z (by omega) hw
      omega
  · exact h e (by omega) p q z hj hw
theorem Vd.up {a b : Nat → Nat} {w : F1} {L g k : Nat} {r : F1} (h : Vd a b w L g k L r) (hg : r g = 0) : Up a b w L g (k + 1) r := by
  intro p x hp hw
  rcases hw with hw | ⟨e, q, z, x1, x2, x3, x4⟩
  · rw [hw.1, hw.2, hg]; exact Int.le_refl _
  · rw [x4]; exact h e x1 p q z x2 x3
theorem up1_le {r : F1} {p : Nat} {x : Int} (h : x ≤ r p) : ∀ v, up1 r p x v ≤ r v := fun v => by
  by_cases z : v = p
  · rw [z, up1_eq]; exact h
  · rw [up1_ne z]; exact Int.le_refl _
/-- one link lowered: everything that a round keeps -/
theorem lower_all {a b : Nat → Nat} {w : F1} {L g k m p q : Nat} {r : F1} (hL : Lks a b w L) (hm : m < L) (hj : (p = a m ∧ q = b m) ∨ (p = b m ∧ q = a m)) (hI : RI a b w L g r) (hU : Up a b w L g k r) (hV : Vd a b w L g k m r) (hlt : r q + w m < r p) :
    RI a b w L g (up1 r p (r q + w m)) ∧ Up a b w L g k (up1 r p (r q + w m)) ∧ Vd a b w L g k (m + 1) (up1 r p (r q + w m)) := by
  have hj' : jn a b m p q := by
    rcases hj with ⟨x, y⟩ | ⟨x, y⟩
    · exact Or.inl ⟨x.symm, y.symm⟩
    · exact Or.inr ⟨y.symm, x.symm⟩
  have l3 := (hL m hm).2.2.1
  have hqp : q ≠ p := fun e => by rw [e] at hlt; omega
  have ml := up1_le (r := r) (p := p) (x := r q + w m) (by omega)
  have U' := hU.mono ml
  refine ⟨hI.lower hL hm hj' hlt, U', (hV.mono ml).step hL hm U' ?_⟩
  rcases hj with ⟨x, y⟩ | ⟨x, y⟩
  · rw [← x, ← y, up1_eq, up1_ne hqp]; omega
  · rw [← x, ← y, up1_eq, up1_ne hqp]; omega
theorem c_inner {h : Nat} {a b : Nat → Nat} {W : F1} {L g : Nat} {iv0 : IV} {rv : RV} {k : Nat} {r : F1} {K : IV → Prop} {P91 : Int → Int → Int → IV → Prop} (hh : h = 2 ∨ h = 21) (hLL : L ≤ 20) (hk : k < 8) (hL : Lks a b W L) (ha : ∀ e, e < L → iv0 (h + 4) e = (a e : Nat)) (hb : ∀ e, e < L → iv0 (h + 5) e = (b e : Nat)) (hw : ∀ e, e < L → iv0 49 e = W e)
    (hr : ∀ p, p < 8 → iv0 50 p = r p) (hI : RI a b W L g r) (hU : Up a b W L g k r)
    (hN : ∀ (iv' : IV) (r' : F1) (nr : Int), (∀ x j, x ≠ 50 → iv' x j = iv0 x j) → (∀ p, p < 8 → iv' 50 p = r' p) → RI a b W L g r' → Up a b W L g (k + 1) r' → (nr = 0 → Fix a b W L r') → P91 L nr ((k : Int) + 1) iv') : wl_X8_measure_109 h P91 L 0 k 0 iv0 rv K := by
  intro P hP
  have ek : Unit → w32 ((k : Int) + 1) = (k : Int) + 1 := fun _ => w32_id (by omega) (by omega)
  have key : ∀ d m : Nat, m + d = L → ∀ (x nr : Int) (iv' : IV) (r' : F1), x = m → (∀ x j, x ≠ 50 → iv' x j = iv0 x j) → (∀ p, p < 8 → iv' 50 p = r' p) → RI a b W L g r' → Up a b W L g k r' → Vd a b W L g k m r' → (nr = 0 → Fix a b W m r') → P L nr k x iv' := by
    intro d
    induction d with
    | zero =>
      intro m hm x nr iv' r' ex fr hr' I' U' V' F'
      obtain rfl : m = L := by omega
      replace F' := fun (_ : Unit) => F'
      refine hP _ _ _ _ _ ⟨fun _ => ?_, fun z => by omega⟩
      rw [ek ()]
      exact hN iv' r' nr fr hr' I' (V'.up I'.1) (F' ())
    | succ d ih =>
      intro m hm x nr iv' r' ex fr hr' I' U' V' F'
      subst ex
      replace F' := fun (_ : Unit) => F'
      have tm : ((m : Int)).toNat = m := Int.toNat_natCast m
      have ew : Unit → w32 ((m : Int) + 1) = (m : Int) + 1 := fun _ => w32_id (by omega) (by omega)
      obtain ⟨l1, l2, l3, l4⟩ := hL m (by omega)
      have i4 : iv' (h + 4) m = (a m : Nat) := by rw [fr _ _ (by omega)]; exact ha m (by omega)
      have i5 : iv' (h + 5) m = (b m : Nat) := by rw [fr _ _ (by omega)]; exact hb m (by omega)
      have i49 : iv' 49 m = W m := by rw [fr _ _ (by omega)]; exact hw m (by omega)
      have ra := hr' (a m) l1
      have rb := hr' (b m) l2
      have ba := I'.2.1 (a m) l1
      have bb := I'.2.1 (b m) l2
      have s1 : w32 (r' (b m) + W m) = r' (b m) + W m := w32_id (by omega) (by omega)
      have s2 : w32 (r' (a m) + W m) = r' (a m) + W m := w32_id (by omega) (by omega)
      have low : ∀ (p q : Nat), (p = a m ∧ q = b m) ∨ (p = b m ∧ q = a m) → r' q + W m < r' p → ∀ iv2, iv2 = w2 iv' 50 p (r' q + W m) → P L 1 k (w32 ((m : Int) + 1)) iv2 := by
        intro p q hj hlt iv2 e2
        rw [ew ()]
        obtain ⟨n1, n2, n3⟩ := lower_all hL (show m < L by omega) hj I' U' V' hlt
        refine ih (m + 1) (by omega) _ 1 iv2 _ (by omega) (fun x j hx => ?_) (fun v hv => ?_) n1 n2 n3 (fun z => absurd z (by decide))
        · rw [e2, w2_ne (by omega)]; exact fr x j hx
        · by_cases z : v = p
          · rw [z, e2, w2_eq, up1_eq]
          · rw [e2, w2_ne (by omega), up1_ne z]; exact hr' v hv
      apply hP
      unfold bd_X8_measure_109 bd_X8_measure_237
      rw [tm, i49]
      refine ⟨fun z => by omega, fun _ => ⟨⟨by omega, by omega⟩, fun x3 e3 => ⟨⟨by omega, by omega⟩, fun x5 e5 => ?_⟩⟩⟩
      rw [i4] at e3
      rw [i5] at e5
      subst e3; subst e5
      rw [Int.toNat_natCast, Int.toNat_natCast, ra, rb, s1, s2]
      clear s1 s2
      refine ⟨⟨by omega, by omega⟩, ⟨by omega, by omega⟩, ⟨by omega, by omega⟩, fun z => ⟨⟨by omega, by omega⟩, ⟨by omega, by omega⟩, ⟨by omega, by omega⟩, fun z2 => ?_, fun z2 => ⟨⟨by omega, by omega⟩, ⟨by omega, by omega⟩, ⟨by omega, by omega⟩, fun iv17 e17 => low (b m) (a m) (Or.inr ⟨rfl, rfl⟩) (by omega) iv17 e17⟩⟩, fun z => ⟨⟨by omega, by omega⟩, ⟨by omega, by omega⟩, ⟨by omega, by omega⟩, fun iv21 e21 => low (a m) (b m) (Or.inl ⟨rfl, rfl⟩) (by omega) iv21 e21⟩⟩
      rw [ew ()]
      refine ih (m + 1) (by omega) _ nr iv' r' (by omega) fr hr' I' U' (V'.step hL (by omega) U' ⟨z, z2⟩) (fun hn e he => ?_)
      by_cases y : e = m
      · rw [y]; exact ⟨z, z2⟩
      · exact F' () hn e (by omega)
  exact key L 0 (by omega) _ _ iv0 r rfl (fun _ _ _ => rfl) hr hI hU (fun e he => by omega) (fun _ e he => by omega)
theorem c_rounds {h : Nat} {a b : Nat → Nat} {W : F1} {L g : Nat} {iv0 : IV} {rv : RV} {K : IV → Prop} (hh : h = 2 ∨ h = 21) (hLL : L ≤ 20) (hL : Lks a b W L) (ha : ∀ e, e < L → iv0 (h + 4) e = (a e : Nat)) (hb : ∀ e, e < L → iv0 (h + 5) e = (b e : Nat)) (hw : ∀ e, e < L → iv0 49 e = W e) (hg : g < 8)
    (hr : ∀ p, p < 8 → iv0 50 p = if p = g then 0 else 1000000000)
    (hN : ∀ (iv' : IV) (r' : F1), (∀ x j, x ≠ 50 → iv' x j = iv0 x j) → (∀ p, p < 8 → iv' 50 p = r' p) → Msd a b W L g r' → K iv') : wl_X8_measure_91 h L 1 0 iv0 rv K := by
  intro P hP
  have key : ∀ d k : Nat, k + d = 8 → ∀ (x nr : Int) (iv' : IV) (r' : F1), x = k → (∀ x j, x ≠ 50 → iv' x j = iv0 x j) → (∀ p, p < 8 → iv' 50 p = r' p) → RI a b W L g r' → Up a b W L g k r' → (nr = 0 → Fix a b W L r') → P L nr x iv' := by
    intro d
    induction d with
    | zero =>
      intro k hk x nr iv' r' ex fr hr' I' U' F'
      obtain rfl : k = 8 := by omega
      replace F' := fun (_ : Unit) => F'
      have y := hN iv' r' fr hr' ⟨I', up_fix I' hL U'⟩
      exact hP _ _ _ _ ⟨fun _ => y, fun z => ⟨fun _ => y, fun _ => by omega⟩⟩
    | succ d ih =>
      intro k hk x nr iv' r' ex fr hr' I' U' F'
      subst ex
      replace F' := fun (_ : Unit) => F'
      refine hP _ _ _ _ ⟨fun z => by omega, fun _ => ⟨fun z => hN iv' r' fr hr' ⟨I', F' () z⟩, fun z => ?_⟩⟩
      refine c_inner (a := a) (b := b) (W := W) hh hLL (by omega) hL (fun e he => ?_) (fun e he => ?_) (fun e he => ?_) hr' I' U' (fun iv2 r2 nr2 fr2 hr2 I2 U2 F2 => ?_)
      · rw [fr _ _ (by omega)]; exact ha e he
      · rw [fr _ _ (by omega)]; exact hb e he
      · rw [fr _ _ (by omega)]; exact hw e he
      · exact ih (k + 1) (by omega) _ nr2 iv2 r2 (by omega) (fun x j hx => (fr2 x j hx).trans (fr x j hx)) hr2 I2 U2 F2
  refine key 8 0 (by omega) _ _ iv0 (fun p => if p = g then 0 else 1000000000) rfl (fun _ _ _ => rfl) hr ⟨if_pos rfl, fun p hp => ?_, fun p hp hpg hf => ?_⟩ (fun p x hp hw => ?_) (fun z => absurd z (by decide))
  · show 0 ≤ (if p = g then (0 : Int) else 1000000000) ∧ (if p = g then (0 : Int) else 1000000000) ≤ 1000000000
    split <;> omega
  · have hf' : (if p = g then (0 : Int) else 1000000000) < 1000000000 := hf
    rw [if_neg hpg] at hf'
    omega
  · rw [hw.1, hw.2]
    show (if g = g then (0 : Int) else 1000000000) ≤ 0
    rw [if_pos rfl]; exact Int.le_refl _
/-- the tolls of the links -/
noncomputable def tl (R : Nat → Nat → Int) (dy ls f : F1) (day since : Int) (c : Nat) (s : BS) (e : Nat) : Int := if R 7 e < 0 then 0 else pOw R dy ls f day since c s (R 7 e) (R 1 5).toNat
/-- the graph of a realm -/
abbrev gA (R : Nat → Nat → Int) (e : Nat) : Nat := (R 4 e).toNat
abbrev gB (R : Nat → Nat → Int) (e : Nat) : Nat := (R 5 e).toNat
abbrev gL (R : Nat → Nat → Int) : Nat := (R 1 3 + R 1 4).toNat
def GT (R : Nat → Nat → Int) (T W : F1) : Prop := ∀ e, e < gL R → 0 ≤ T e ∧ T e ≤ 58806 ∧ W e = T e * 1000 + R 6 e
theorem gL_ok {R : Nat → Nat → Int} (hc : RC R) : gL R ≤ 20 ∧ ((gL R : Nat) : Int) = R 1 3 + R 1 4 := by
  have h3 : 0 ≤ R 1 3 ∧ R 1 3 ≤ 12 := hc.1 3 (by omega)
  have h4 : 0 ≤ R 1 4 ∧ R 1 4 ≤ 8 := hc.1 4 (by omega)
  show (R 1 3 + R 1 4).toNat ≤ 20 ∧ (((R 1 3 + R 1 4).toNat : Nat) : Int) = _
  omega
theorem lk_ok {R : Nat → Nat → Int} (hc : RC R) {e : Nat} (he : e < gL R) : ((gA R e : Nat) : Int) = R 4 e ∧ ((gB R e : Nat) : Int) = R 5 e ∧ R 4 e < R 1 0 ∧ R 5 e < R 1 0 ∧ 1 ≤ R 6 e ∧ R 6 e ≤ 99 ∧ -1 ≤ R 7 e ∧ R 7 e < R 1 4 ∧ R 4 e ≠ R 5 e := by
  have h := hc.2.2.1 e (by have := (gL_ok hc).2; omega)
  show (((R 4 e).toNat : Nat) : Int) = _ ∧ (((R 5 e).toNat : Nat) : Int) = _ ∧ _
  omega
theorem GT.lks {R : Nat → Nat → Int} {T W : F1} (h : GT R T W) (hc : RC R) : Lks (gA R) (gB R) W (gL R) := fun e he => by
  have h0 : R 1 0 ≤ 8 := (hc.1 0 (by omega)).2
  have a := lk_ok hc he
  have b := h e he
  omega
theorem tl_le {R : Nat → Nat → Int} {dy ls f : F1} {day since : Int} {c : Nat} {s : BS} (hc : RC R) (hl : (c : Int) < R 1 11) (e : Nat) : 0 ≤ tl R dy ls f day since c s e ∧ tl R dy ls f day since c s e ≤ 58806 := by
  have h5 : 0 ≤ R 1 5 ∧ R 1 5 ≤ 6 := hc.1 5 (by omega)
  unfold tl
  split
  · omega
  · have := pOw_le (dy := dy) (ls := ls) (f := f) (day := day) (since := since) (s := s) (b := R 7 e) hc hl (R 1 5).toNat (by omega)
    omega
theorem c_measure {h : Nat} {R : Nat → Nat → Int} {dy ls f T W : F1} {iv : IV} {rv : RV} {day since : Int} {c g : Nat} {s : BS} {K : IV → Prop} (hh : h = 2 ∨ h = 21) (h6 : gR rv 51 6 = h) (C : CS h R dy ls f iv) (hc : RC R) (HH : CH R dy ls f day since c s iv) (hcc : (c : Int) < R 1 11) (hg : (g : Int) < R 1 0) (hT : ∀ e, T e = tl R dy ls f day since c s e) (hG : GT R T W)
    (hK : ∀ (iv' : IV) (r : F1), (∀ k j, ¬ (49 ≤ k ∧ k ≤ 50) → iv' k j = iv k j) → (∀ e, e < gL R → iv' 49 e = W e) → (∀ p, p < 8 → iv' 50 p = r p) → Msd (gA R) (gB R) W (gL R) g r → K iv') : wp_X8_measure h g iv rv K := by
  obtain ⟨L1, L2⟩ := gL_ok hc
  have h0 : R 1 0 ≤ 8 := (hc.1 0 (by omega)).2
  have hL := hG.lks hc
  have tg : ((g : Int)).toNat = g := Int.toNat_natCast g
  unfold wp_X8_measure wp_X5_links
  rw [C.1 1 3 (by omega), C.1 1 4 (by omega), ← L2, w32_id (x := ((gL R : Nat) : Int)) (by omega) (by omega)]
  intro P hP
  have key : ∀ d m : Nat, m + d = gL R → ∀ (x : Int) (iv' : IV), x = m → (∀ k j, k ≠ 49 → iv' k j = iv k j) → (∀ e, e < m → iv' 49 e = W e) → P g (gL R : Nat) x iv' := by
    intro d
    induction d with
    | zero =>
      intro m hm x iv' ex fr hw
      obtain rfl : m = gL R := by omega
      refine hP _ _ _ _ ⟨fun _ iv2 e2 => ⟨⟨by omega, by omega⟩, fun iv4 e4 => ?_⟩, fun z => by omega⟩
      rw [tg] at e4
      have f4 : ∀ k j, k ≠ 50 → iv4 k j = iv' k j := fun k j q => by rw [e4, w2_ne (by omega), e2]; exact if_neg (fun z => q z.1)
      refine c_rounds (a := gA R) (b := gB R) (W := W) (g := g) hh L1 hL (fun e he => ?_) (fun e he => ?_) (fun e he => ?_) (by omega) (fun p hp => ?_) (fun iv5 r5 fr5 hr5 hM5 => hK iv5 r5 (fun k j q => ?_) (fun e he => ?_) hr5 hM5)
      · rw [f4 _ _ (by omega), fr _ _ (by omega), C.1 4 e (by omega)]; exact (lk_ok hc he).1.symm
      · rw [f4 _ _ (by omega), fr _ _ (by omega), C.1 5 e (by omega)]; exact (lk_ok hc he).2.1.symm
      · rw [f4 _ _ (by omega)]; exact hw e he
      · rw [e4]
        by_cases z : p = g
        · rw [z, w2_eq, if_pos rfl]
        · rw [w2_ne (by omega), e2, if_neg z]; exact if_pos ⟨rfl, hp⟩
      · rw [fr5 _ _ (by omega), f4 _ _ (by omega), fr _ _ (by omega)]
      · rw [fr5 _ _ (by omega), f4 _ _ (by omega)]; exact hw e he
    | succ d ih =>
      intro m hm x iv' ex fr hw
      subst ex
      have tm : ((m : Int)).toNat = m := Int.toNat_natCast m
      have ew : Unit → w32 ((m : Int) + 1) = (m : Int) + 1 := fun _ => w32_id (by omega) (by omega)
      have lk := lk_ok hc (show m < gL R by omega)
      obtain ⟨t1, t2, t3⟩ := hG m (by omega)
      have C' : CS h R dy ls f iv' := C.congr hh fun k j q => fr k j (by omega)
      have H' : CH R dy ls f day since c s iv' := by
        obtain ⟨q1, q2, q3, q4⟩ := HH
        refine ⟨fun g hg => ?_, by rw [fr _ _ (by omega)]; exact q2, by rw [fr _ _ (by omega)]; exact q3, fun m hm => by rw [fr _ _ (by omega)]; exact q4 m hm⟩
        obtain ⟨w1, w2', w3, w4⟩ := q1 g hg
        exact ⟨(fr _ _ (by omega)).trans w1, (fr _ _ (by omega)).trans w2', (fr _ _ (by omega)).trans w3, (fr _ _ (by omega)).trans w4⟩
      have fin : ∀ t0 : Int, t0 = T m → bd_X8_measure_40 h P g (gL R : Nat) m t0 iv' rv K := by
        intro t0 et
        refine ⟨⟨by omega, by omega⟩, ⟨by omega, by omega⟩, fun iv3 e3 => ?_⟩
        rw [tm, C'.1 6 m (by omega), et, w32_id (x := T m * 1000) (by omega) (by omega), w32_id (by omega) (by omega), ← t3] at e3
        rw [ew ()]
        refine ih (m + 1) (by omega) _ iv3 (by omega) (fun k j q => by rw [e3, w2_ne (by omega)]; exact fr k j q) (fun e he => ?_)
        by_cases z : e = m
        · rw [z, e3, w2_eq]
        · rw [e3, w2_ne (by omega)]; exact hw e (by omega)
      refine hP _ _ _ _ ⟨fun z => by omega, fun _ => ⟨⟨by omega, by omega⟩, fun x6 e6 => ?_⟩⟩
      rw [tm, C'.1 7 m (by omega)] at e6
      subst e6
      refine ⟨fun z => c_owedAt h6 C' hc H' hcc (fin _ ?_), fun z => fin 0 ?_⟩
      · rw [hT]; unfold tl; rw [if_neg (by omega)]
      · rw [hT]; unfold tl; rw [if_pos (by omega)]
  exact key (gL R) 0 (by omega) _ iv rfl (fun _ _ _ => rfl) (fun e he => by omega)
