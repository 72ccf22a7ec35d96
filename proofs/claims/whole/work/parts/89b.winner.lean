/-! THE REFERENCE: winner -/
theorem pFv_ge {R : Nat → Nat → Int} {dy f : F1} {day by_ : Int} {g : Nat} (hc : RC R) (hs : Sup f) (hD : Dys R dy) (hg : hasG R g) : 0 ≤ pFv R dy f day by_ g := by
  have := pDay_ge (f := f) (day := day) hc hs hD hg
  rw [pFv_eq]
  split
  · exact this
  · omega
/-- the search for the least: what stands after the pairs ahead of (k, m) -/
def Qw (Mt : Nat → Nat → Prop) (n N : Nat) (best : Int) (k m : Nat) : Prop := (best = -1 ∧ ∀ k' i : Nat, (k' < k ∨ (k' = k ∧ i < m)) → k' < n → i < N → ¬ Mt k' i) ∨ (∃ i : Nat, best = ((6 + i : Nat) : Int) ∧ i < N ∧ (∃ k', k' < n ∧ Mt k' i) ∧ ∀ k' j : Nat, (k' < k ∨ (k' = k ∧ j < m)) → k' < n → j < N → Mt k' j → i ≤ j)
theorem Qw.init {Mt : Nat → Nat → Prop} {n N : Nat} : Qw Mt n N (-1) 0 0 := Or.inl ⟨rfl, fun k' i h1 => by omega⟩
theorem Qw.next {Mt : Nat → Nat → Prop} {n N k : Nat} {best : Int} (h : Qw Mt n N best k N) : Qw Mt n N best (k + 1) 0 := by
  rcases h with ⟨q1, q2⟩ | ⟨i, q1, q2, q3, q4⟩
  · exact Or.inl ⟨q1, fun k' i h1 h2 h3 => q2 k' i (by omega) h2 h3⟩
  · exact Or.inr ⟨i, q1, q2, q3, fun k' j h1 h2 h3 => q4 k' j (by omega) h2 h3⟩
theorem Qw.skip {Mt : Nat → Nat → Prop} {n N k m : Nat} {best : Int} (h : Qw Mt n N best k m) (hs : ¬ Mt k m ∨ (best ≠ -1 ∧ best < ((6 + m : Nat) : Int))) : Qw Mt n N best k (m + 1) := by
  rcases h with ⟨q1, q2⟩ | ⟨i, q1, q2, q3, q4⟩
  · refine Or.inl ⟨q1, fun k' i h1 h2 h3 => ?_⟩
    by_cases z : k' = k ∧ i = m
    · obtain ⟨z1, z2⟩ := z
      subst z1; subst z2
      rcases hs with hs | hs
      · exact hs
      · exact absurd q1 hs.1
    · exact q2 k' i (by omega) h2 h3
  · refine Or.inr ⟨i, q1, q2, q3, fun k' j h1 h2 h3 h4 => ?_⟩
    by_cases z : k' = k ∧ j = m
    · obtain ⟨z1, z2⟩ := z
      subst z1; subst z2
      rcases hs with hs | hs
      · exact absurd h4 hs
      · have := hs.2
        omega
    · exact q4 k' j (by omega) h2 h3 h4
theorem Qw.take {Mt : Nat → Nat → Prop} {n N k m : Nat} {best : Int} (h : Qw Mt n N best k m) (hk : k < n) (hm : m < N) (hM : Mt k m) (hs : best = -1 ∨ ((6 + m : Nat) : Int) ≤ best) : Qw Mt n N ((6 + m : Nat) : Int) k (m + 1) := by
  refine Or.inr ⟨m, rfl, hm, ⟨k, hk, hM⟩, fun k' j h1 h2 h3 h4 => ?_⟩
  rcases h with ⟨q1, q2⟩ | ⟨i, q1, q2, q3, q4⟩
  · by_cases z : k' = k ∧ j = m
    · omega
    · exact absurd h4 (q2 k' j (by omega) h2 h3)
  · by_cases z : k' = k ∧ j = m
    · omega
    · have := q4 k' j (by omega) h2 h3 h4
      omega
theorem Qw.fin {Mt : Nat → Nat → Prop} {n N : Nat} {best : Int} (h : Qw Mt n N best n 0) : (best = -1 ∧ ∀ i, i < N → ¬ ∃ k, k < n ∧ Mt k i) ∨ (∃ i : Nat, best = ((6 + i : Nat) : Int) ∧ i < N ∧ (∃ k, k < n ∧ Mt k i) ∧ ∀ j, j < i → ¬ ∃ k, k < n ∧ Mt k j) := by
  rcases h with ⟨q1, q2⟩ | ⟨i, q1, q2, q3, q4⟩
  · exact Or.inl ⟨q1, fun i hi ⟨k, k1, k2⟩ => q2 k i (by omega) k1 hi k2⟩
  · refine Or.inr ⟨i, q1, q2, q3, fun j hj ⟨k, k1, k2⟩ => ?_⟩
    have := q4 k j (by omega) k1 (by omega) k2
    omega
def pMt (R : Nat → Nat → Int) (dy ls f : F1) (day : Int) (c : Nat) (s : BS) (t k i : Nat) : Prop := s.2.1 k = R 11 (6 + i) ∧ pIn dy ls f (6 + i) day ∧ pB2 R dy f day c (s.2.2 k) t (6 + i)
theorem pMt_iff {R : Nat → Nat → Int} {dy ls f : F1} {day since : Int} {c t : Nat} {s : BS} (hc : RC R) (hs : Sup f) (hD : Dys R dy) (hI : BI R s) (hz : since ≤ day) (i : Nat) (hi : (i : Int) < R 1 6) : pBt R dy ls f day since c s t (6 + i) ↔ ∃ k, k < s.1 ∧ pMt R dy ls f day c s t k i := by
  have h6 : R 1 6 ≤ 6 := (hc.1 6 (by omega)).2
  have hgi : hasG R (6 + i) := Or.inr (Or.inl ⟨by omega, by omega, by omega⟩)
  constructor
  · intro hb
    have hb' : pFD R dy ls f day since c s (6 + i) ≠ -1 ∧ pWon R dy f day (pFD R dy ls f day since c s (6 + i)) (6 + i) t := hb
    by_cases hcond : pIn dy ls f (6 + i) day ∧ pUse R f day c (6 + i) ∧ since ≤ day ∧ pPl R s (6 + i) ≠ -2
    · have ev : pFD R dy ls f day since c s (6 + i) = pFv R dy f day (pPl R s (6 + i)) (6 + i) := by rw [pFD_eq, if_pos hcond]
      rw [ev] at hb'
      have hex : ¬ ∀ j, j < s.1 → s.2.1 j ≠ R 11 (6 + i) := fun z => hcond.2.2.2 ((pBy_iff s.1 hI.b).mpr z)
      obtain ⟨k, hk⟩ := Classical.not_forall.mp hex
      obtain ⟨hk1, hk2⟩ := Classical.not_imp.mp hk
      have hk3 : s.2.1 k = R 11 (6 + i) := Classical.not_not.mp hk2
      have hk4 : pPl R s (6 + i) = s.2.2 k := by
        show pBy s.2.1 s.2.2 (R 11 (6 + i)) s.1 = _
        rw [← hk3]; exact pBy_at s.1 hI.2.2.2 k hk1
      rw [hk4] at hb'
      exact ⟨k, hk1, hk3, hcond.1, hcond.2.1, hb'.2⟩
    · have ev : pFD R dy ls f day since c s (6 + i) = -1 := by rw [pFD_eq, if_neg hcond]
      exact absurd ev hb'.1
  · rintro ⟨k, hk1, hk3, m1, m2, m3⟩
    have hk4 : pPl R s (6 + i) = s.2.2 k := by
      show pBy s.2.1 s.2.2 (R 11 (6 + i)) s.1 = _
      rw [← hk3]; exact pBy_at s.1 hI.2.2.2 k hk1
    have hb := hI.b k hk1
    have hb2 : s.2.2 k ≠ -2 := fun e => by rw [e] at hb; exact absurd hb (by decide)
    have hcond : pIn dy ls f (6 + i) day ∧ pUse R f day c (6 + i) ∧ since ≤ day ∧ pPl R s (6 + i) ≠ -2 := ⟨m1, m2, hz, by rw [hk4]; exact hb2⟩
    have ev : pFD R dy ls f day since c s (6 + i) = pFv R dy f day (pPl R s (6 + i)) (6 + i) := by rw [pFD_eq, if_pos hcond]
    have hv := pFv_ge (f := f) (day := day) (by_ := s.2.2 k) hc hs hD hgi
    show pFD R dy ls f day since c s (6 + i) ≠ -1 ∧ pWon R dy f day (pFD R dy ls f day since c s (6 + i)) (6 + i) t
    rw [ev, hk4]
    exact ⟨fun e => by rw [e] at hv; exact absurd hv (by decide), m3⟩
theorem m_winner_in {R : Nat → Nat → Int} {dy ls f : F1} {law : Nat} {iv : IV} {rv : RV} {day : Int} {c t k : Nat} {s : BS} {best : Int} {K : Int → IV → Prop} {P25 : Int → Int → Int → Int → Int → IV → Prop} (g1 : rv 66 3 = some 80) (S : MS R dy ls f law iv) (hc : RC R) (hs : Sup f) (hcc : (c : Int) < R 1 11) (ht : hasG R t) (hl : t < 6) (hI : BI R s) (hB : MB s iv) (hk : k < s.1)
    (hQ : Qw (pMt R dy ls f day c s t) s.1 (R 1 6).toNat best k 0) (hN : ∀ best', Qw (pMt R dy ls f day c s t) s.1 (R 1 6).toNat best' (k + 1) 0 → P25 t c day best' ((k : Int) + 1) iv) : wl_X12_winner_37 P25 t c day best k 0 iv rv K := by
  have h6c : 0 ≤ R 1 6 ∧ R 1 6 ≤ 6 := hc.1 6 (by omega)
  have k8 := hI.le hc
  have e6 : iv 80 6 = R 1 6 := S.1.1 6 (by omega)
  intro P hP
  have tk : ((k : Int)).toNat = k := Int.toNat_natCast k
  have ek : Unit → w32 ((k : Int) + 1) = (k : Int) + 1 := fun _ => w32_id (by omega) (by omega)
  have q70 := hB.2 k hk
  have key : ∀ d m : Nat, m + d = (R 1 6).toNat → ∀ x best : Int, x = m → Qw (pMt R dy ls f day c s t) s.1 (R 1 6).toNat best k m → P t c day best k x iv := by
    intro d
    induction d with
    | zero =>
      intro m hm x best ex hQ
      refine hP _ _ _ _ _ _ _ ⟨g1, fun _ => ?_, fun z => by omega⟩
      rw [ek ()]
      apply hN
      rw [show m = (R 1 6).toNat by omega] at hQ
      exact hQ.next
    | succ d ih =>
      intro m hm x best ex hQ
      subst ex
      have ew : Unit → w32 ((m : Int) + 1) = (m : Int) + 1 := fun _ => w32_id (by omega) (by omega)
      have e12 : Unit → w32 (6 + (m : Int)) = ((6 + m : Nat) : Int) := fun _ => w32_id (by omega) (by omega)
      have t12 : (((6 + m : Nat) : Int)).toNat = 6 + m := Int.toNat_natCast _
      have hg : hasG R (6 + m) := Or.inr (Or.inl ⟨by omega, by omega, by omega⟩)
      have w11 := (S.1.2.2.2.2.1 (6 + m) hg).1
      have skip : Unit → (¬ pMt R dy ls f day c s t k m ∨ (best ≠ -1 ∧ best < ((6 + m : Nat) : Int))) → P t c day best k ((m : Int) + 1) iv := fun _ hsk => ih (m + 1) (by omega) _ best (by omega) (hQ.skip hsk)
      have take : Unit → pMt R dy ls f day c s t k m → (best = -1 ∨ ((6 + m : Nat) : Int) ≤ best) → P t c day ((6 + m : Nat) : Int) k ((m : Int) + 1) iv := fun _ hm2 hbe => ih (m + 1) (by omega) _ _ (by omega) (hQ.take hk (by omega) hm2 hbe)
      apply hP
      unfold bd_X12_winner_37 bd_X12_winner_102 bd_X12_winner_125
      rw [e12 (), tk, ew ()]
      refine ⟨g1, fun z => by omega, fun _ x2 e2 => ?_⟩
      subst e2
      rw [t12, w11, q70.1, q70.2]
      have test : Unit → s.2.1 k = R 11 (6 + m) → pIn dy ls f (6 + m) day → (best = -1 ∨ ((6 + m : Nat) : Int) ≤ best) → wp_X12_beats ((6 + m : Nat) : Int) (s.2.2 k) t c day iv rv (fun r2 => ((r2 = 0) → (P t c day best k ((m : Int) + 1) iv)) ∧ ((¬ (r2 = 0)) → (P t c day ((6 + m : Nat) : Int) k ((m : Int) + 1) iv))) := by
        intro _ h1 h2 h3
        exact m_beats g1 S hc hs hcc ht hl hg (by omega) (by omega) (hI.2.2.1 k hk) (fun hb => ⟨fun y => absurd y (by decide), fun _ => take () ⟨h1, h2, hb⟩ h3⟩) (fun hb => ⟨fun _ => skip () (Or.inl (fun q => hb q.2.2)), fun y => absurd rfl y⟩)
      exact ⟨⟨by omega, by omega⟩, ⟨by omega, by omega⟩, fun y => skip () (Or.inl (fun q => y q.1.symm)), fun y => m_inForce g1 S hc (by omega) (fun hi => ⟨fun y => absurd y (by decide), fun _ => ⟨fun hb => ⟨⟨by omega, by omega⟩, test () y.symm hi (Or.inl hb)⟩, fun hb => ⟨fun hb2 => ⟨⟨by omega, by omega⟩, test () y.symm hi (Or.inr hb2)⟩, fun hb2 => skip () (Or.inr ⟨hb, Int.not_le.mp hb2⟩)⟩⟩⟩) (fun hi => ⟨fun _ => skip () (Or.inl (fun q => hi q.2.1)), fun y => absurd rfl y⟩)⟩
  exact key (R 1 6).toNat 0 (by omega) _ _ rfl hQ
theorem m_winner {R : Nat → Nat → Int} {dy ls f : F1} {law : Nat} {iv : IV} {rv : RV} {day p since : Int} {c t : Nat} {K : Int → IV → Prop} (g1 : rv 66 3 = some 80) (S : MS R dy ls f law iv) (hc : RC R) (hs : Sup f) (hD : Dys R dy) (hcc : (c : Int) < R 1 11) (ht : hasG R t) (hl : t < 6) (hp : 0 ≤ p ∧ p < R 1 0) (e21 : iv 66 21 = p) (e22 : iv 66 22 = since)
    (hK : ∀ iv' r, (∀ k j, ¬ (70 ≤ k ∧ k ≤ 72) → ¬ (k = 66 ∧ j = 26) → iv' k j = iv k j) → (pW R dy ls f day since c (bGo R dy ls f day p) t (R 1 6).toNat = -2 ∧ r = -1 ∨ pW R dy ls f day since c (bGo R dy ls f day p) t (R 1 6).toNat ≠ -2 ∧ r = pW R dy ls f day since c (bGo R dy ls f day p) t (R 1 6).toNat) → K r iv') : wp_X12_winner t c day iv rv K := by
  have h6c : 0 ≤ R 1 6 ∧ R 1 6 ≤ 6 := hc.1 6 (by omega)
  unfold wp_X12_winner
  rw [e21, e22]
  refine ⟨fun z => m_reach g1 S hc hp (fun iv2 fr hB => ?_), fun z => hK iv _ (fun _ _ _ _ => rfl) (Or.inl ⟨pW_none _ (fun j hj q => ?_), rfl⟩)⟩
  · have hI : BI R (bGo R dy ls f day p) := BI.go hc hp
    have S2 : MS R dy ls f law iv2 := S.congr fun k j hkj => fr k j (by omega) (by omega)
    have hK2 := fun r => hK iv2 r fr
    clear hK fr
    generalize hsx : bGo R dy ls f day p = s at *
    have k8 := hI.le hc
    have q26 := hB.1
    intro P hP
    have key : ∀ d k : Nat, k + d = s.1 → ∀ x best : Int, x = k → Qw (pMt R dy ls f day c s t) s.1 (R 1 6).toNat best k 0 → P t c day best x iv2 := by
      intro d
      induction d with
      | zero =>
        intro k hk x best ex hQ
        refine hP _ _ _ _ _ _ ⟨fun _ => hK2 _ ?_, fun z => by omega⟩
        rw [show k = s.1 by omega] at hQ
        rcases hQ.fin with ⟨q1, q2⟩ | ⟨i, q1, q2, q3, q4⟩
        · exact Or.inl ⟨pW_none _ (fun j hj hb => q2 j hj ((pMt_iff hc hs hD hI z j (by omega)).mp hb)), q1⟩
        · have hw := pW_first ((pMt_iff hc hs hD hI z i (by omega)).mpr q3) (fun j hj hbj => q4 j hj ((pMt_iff hc hs hD hI z j (by omega)).mp hbj)) (R 1 6).toNat q2
          exact Or.inr ⟨by rw [hw]; omega, by rw [hw]; exact q1⟩
      | succ d ih =>
        intro k hk x best ex hQ
        subst ex
        exact hP _ _ _ _ _ _ ⟨fun z => by omega, fun _ => m_winner_in g1 S2 hc hs hcc ht hl hI hB (by omega) hQ (fun best' hQ' => ih (k + 1) (by omega) _ _ (by omega) hQ')⟩
    exact key s.1 0 (by omega) _ _ rfl Qw.init
  · exact q.1 (by rw [pFD_eq, if_neg (fun w => z w.2.2.1)])
