/-! THE REFERENCE: owed -/
set_option maxHeartbeats 4000000 in
theorem m_owed {R : Nat → Nat → Int} {dy ls f : F1} {law : Nat} {iv : IV} {rv : RV} {day p since : Int} {c : Nat} {b : Int} {K : Int → IV → Prop} (g1 : rv 66 3 = some 80) (S : MS R dy ls f law iv) (hc : RC R) (hs : Sup f) (hD : Dys R dy) (hcc : (c : Int) < R 1 11) (hp : 0 ≤ p ∧ p < R 1 0) (e21 : iv 66 21 = p) (e22 : iv 66 22 = since)
    (hK : ∀ iv', (∀ k j, ¬ (70 ≤ k ∧ k ≤ 72) → ¬ (k = 66 ∧ j = 26) → iv' k j = iv k j) → K (pOw R dy ls f day since c (bGo R dy ls f day p) b (R 1 5).toNat) iv') : wp_X12_owed c b day iv rv K := by
  have h5 : 0 ≤ R 1 5 ∧ R 1 5 ≤ 6 := hc.1 5 (by omega)
  have h11 : R 1 11 ≤ 6 := (hc.1 11 (by omega)).2
  have tc : ((c : Int)).toNat = c := Int.toNat_natCast c
  intro P hP
  have key : ∀ d m : Nat, m + d = (R 1 5).toNat → ∀ (a x : Int) (iv' : IV), a = pOw R dy ls f day since c (bGo R dy ls f day p) b m → x = m → (∀ k j, ¬ (70 ≤ k ∧ k ≤ 72) → ¬ (k = 66 ∧ j = 26) → iv' k j = iv k j) → P c b day a x iv' := by
    intro d
    induction d with
    | zero =>
      intro m hm a x iv' ea ex fr
      have e5 : iv' 80 5 = R 1 5 := by rw [fr _ _ (by omega) (by omega)]; exact S.1.1 5 (by omega)
      refine hP _ _ _ _ _ _ ⟨g1, fun _ => ?_, fun z => by omega⟩
      rw [ea, show m = (R 1 5).toNat by omega]
      exact hK iv' fr
    | succ d ih =>
      intro m hm a x iv' ea ex fr
      subst ex
      have S' : MS R dy ls f law iv' := S.congr fun k j hkj => fr k j (by omega) (by omega)
      have e5 : iv' 80 5 = R 1 5 := S'.1.1 5 (by omega)
      have ew : Unit → w32 ((m : Int) + 1) = (m : Int) + 1 := fun _ => w32_id (by omega) (by omega)
      have tm : ((m : Int)).toNat = m := Int.toNat_natCast m
      have hg : hasG R m := Or.inl ⟨by omega, by omega⟩
      have w11 := (S'.1.2.2.2.2.1 m hg).1
      have c1 : iv' 101 c = R 18 (7 * c + 1) := S'.1.2.2.2.2.2.2.2 c hcc 1 (by omega)
      have bo := pOw_le (dy := dy) (ls := ls) (f := f) (day := day) (since := since) (s := bGo R dy ls f day p) (b := b) hc hcc m (by omega)
      have ha := pAmt_le (f := f) (day := day) hc.2 hg (by omega)
      have hr13 := (hc.2.2.2.2.1 m hg).2.2 (by omega)
      have hq := hc.2.2.2.2.2.2.2 c hcc
      have hm9 := mul99 ha.1 ha.2 (show 0 ≤ R 18 (7 * c + 3) by omega) (by omega)
      have ih' := ih (m + 1) (by omega)
      unfold pOw at ih'
      have y0 : Unit → ¬ (R 11 m = b ∧ pIn dy ls f m day ∧ (pGood R f m day = R 18 (7 * c + 1) ∨ pGood R f m day = -2) ∧ pW R dy ls f day since c (bGo R dy ls f day p) m (R 1 6).toNat = -2) → ∀ iv', (∀ k j, ¬ (70 ≤ k ∧ k ≤ 72) → ¬ (k = 66 ∧ j = 26) → iv' k j = iv k j) → P c b day a ((m : Int) + 1) iv' := fun _ z iv' fr => ih' _ _ iv' (by rw [if_neg z, ea, Int.add_zero]) (by omega) fr
      apply hP
      have b75 : Unit → R 11 m = b → pIn dy ls f m day → (pGood R f m day = R 18 (7 * c + 1) ∨ pGood R f m day = -2) → bd_X12_owed_75 P c b day a m iv' rv K := by
        intro _ k1 k2 k3
        refine m_winner (p := p) (since := since) g1 S' hc hs hD hcc hg (by omega) hp (by rw [fr _ _ (by omega) (by omega)]; exact e21) (by rw [fr _ _ (by omega) (by omega)]; exact e22) (fun iv2 r fr2 hr => ?_)
        have fr3 : ∀ k j, ¬ (70 ≤ k ∧ k ≤ 72) → ¬ (k = 66 ∧ j = 26) → iv2 k j = iv k j := fun k j p1 p2 => (fr2 k j p1 p2).trans (fr k j p1 p2)
        have S2 : MS R dy ls f law iv2 := S.congr fun k j hkj => fr3 k j (by omega) (by omega)
        have v89 := (S2.1.2.2.2.2.1 m hg).2.2.1
        have c3 : iv2 103 c = R 18 (7 * c + 3) := S2.1.2.2.2.2.2.2.2 c hcc 3 (by omega)
        unfold bd_X12_owed_132 bd_X12_owed_145
        rw [ew (), tm, tc, v89, c3]
        refine ⟨fun z => ?_, fun z => y0 () (fun q => ?_) iv2 fr3⟩
        · have z2 : pW R dy ls f day since c (bGo R dy ls f day p) m (R 1 6).toNat = -2 := by
            rcases hr with hr | hr
            · exact hr.1
            · have : ∀ n, pW R dy ls f day since c (bGo R dy ls f day p) m n ≠ -1 := by
                intro n
                induction n with
                | zero => show (-2 : Int) ≠ -1; decide
                | succ n ihn =>
                  unfold pW
                  split
                  · exact ihn
                  · split
                    · omega
                    · decide
              exact absurd (hr.2.symm.trans z) (this _)
          have am := pHow_amt0 (R := R) (f := f) (day := day) (show m < 6 by omega)
          have fin : ∀ x2, x2 = w32 (a + w32 (pAmt R f m day * R 18 (7 * c + 3))) → P c b day x2 ((m : Int) + 1) iv2 := by
            intro x2 e2
            refine ih' _ _ iv2 ?_ (by omega) fr3
            rw [if_pos ⟨k1, k2, k3, z2⟩, e2, ← ea, w32_id (x := pAmt R f m day * R 18 (7 * c + 3)) (by omega) (by omega), w32_id (by omega) (by omega)]
          refine m_renewalOf g1 S2 hc hs fun k hk => m_howOf g1 S2 hc hs hk ⟨fun y => ⟨g1, ⟨by omega, by omega⟩, g1, ⟨by omega, by omega⟩, fun x2 e2 => fin x2 ?_⟩, fun y => ⟨g1, ⟨by omega, by omega⟩, g1, ⟨by omega, by omega⟩, fun x2 e2 => fin x2 ?_⟩⟩
          · rw [if_neg y] at am; rw [am]; exact e2
          · rw [if_pos y] at am
            rw [w32_half (by omega) (by omega)] at e2
            rw [am]; exact e2
        · rcases hr with hr | hr
          · exact z hr.2
          · exact hr.1 q.2.2.2
      unfold bd_X12_owed_6
      rw [tm, tc, w11, c1]
      unfold bd_X12_owed_145
      rw [ew ()]
      refine ⟨g1, fun z => by omega, fun _ => ⟨⟨by omega, by omega⟩, fun z => y0 () (fun q => z q.1) iv' fr, fun z => m_inForce g1 S' hc (by omega) (fun hi => ⟨fun _ => m_goodsOf g1 S' hc hs hg ⟨fun w => b75 () z hi (Or.inr w), fun w => ⟨⟨by omega, by omega⟩, fun w2 => y0 () (fun q => ?_) iv' fr, fun w2 => b75 () z hi (Or.inl w2)⟩⟩, fun y => by omega⟩) (fun hi => ⟨fun y => by omega, fun _ => y0 () (fun q => hi q.2.1) iv' fr⟩)⟩⟩
      have := q.2.2.1
      omega
  exact key (R 1 5).toNat 0 (by omega) _ _ iv rfl rfl (fun _ _ _ _ => rfl)
