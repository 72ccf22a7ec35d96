/-! THE REFERENCE: grants as a law has them on a day -/
theorem RM.congr {R : Nat → Nat → Int} {iv iv' : IV} (h : RM R iv) (he : ∀ k j, 80 ≤ k → iv' k j = iv k j) : RM R iv' := by
  have b : ∀ k, 80 ≤ k → iv' k = iv k := fun k hk => funext fun j => he k j hk
  obtain ⟨k1, k2, k3, k4, k5, k6, k7, k8⟩ := h
  unfold RM
  rw [b 80 (by omega), b 81 (by omega), b 82 (by omega), b 83 (by omega), b 84 (by omega), b 85 (by omega), b 86 (by omega), b 87 (by omega), b 88 (by omega), b 89 (by omega), b 90 (by omega), b 91 (by omega), b 92 (by omega), b 93 (by omega), b 94 (by omega), b 95 (by omega), b 96 (by omega), b 97 (by omega), b 98 (by omega), b 99 (by omega)]
  refine ⟨k1, k2, k3, k4, k5, k6, k7, fun i hi f hf => ?_⟩
  rw [b (100 + f) (by omega)]
  exact k8 i hi f hf
def MS (R : Nat → Nat → Int) (dy ls f : F1) (law : Nat) (iv : IV) : Prop :=
  RM R iv ∧ (∀ g, g < 16 → iv 68 g = dy g ∧ iv 69 g = ls g) ∧ (iv 66 20 = law ∧ (law : Int) < R 1 10) ∧ (iv 96 law = f 7 ∧ iv 97 law = f 8 ∧ iv 98 law = f 9 ∧ iv 99 law = f 10) ∧ iv 66 17 = f 12 ∧ (f 12 ≠ -1 → iv 66 18 = f 13 ∧ iv 66 19 = f 14)
theorem MS.congr {R : Nat → Nat → Int} {dy ls f : F1} {law : Nat} {iv iv' : IV} (S : MS R dy ls f law iv) (he : ∀ k j, (80 ≤ k ∨ k = 68 ∨ k = 69 ∨ (k = 66 ∧ 17 ≤ j ∧ j ≤ 20)) → iv' k j = iv k j) : MS R dy ls f law iv' := by
  obtain ⟨s1, s2, s3, s4, s5, s6⟩ := S
  refine ⟨s1.congr fun k j hk => he k j (by omega), fun g hg => ?_, ?_, ?_, ?_, ?_⟩
  · rw [he _ _ (by omega), he _ _ (by omega)]; exact s2 g hg
  · rw [he _ _ (by omega)]; exact s3
  · rw [he _ _ (by omega), he _ _ (by omega), he _ _ (by omega), he _ _ (by omega)]; exact s4
  · rw [he _ _ (by omega)]; exact s5
  · rw [he _ _ (by omega), he _ _ (by omega)]; exact s6
theorem m_inForce {R : Nat → Nat → Int} {dy ls f : F1} {law : Nat} {iv : IV} {rv : RV} {g : Nat} {day : Int} {K : Int → Prop} (g1 : rv 66 3 = some 80) (S : MS R dy ls f law iv) (hc : RC R) (hg : g < 16) (h1 : pIn dy ls f g day → K 1) (h0 : ¬ pIn dy ls f g day → K 0) : wp_X12_inForce g day iv rv K := by
  have t : ((g : Int)).toNat = g := Int.toNat_natCast g
  obtain ⟨d1, d2⟩ := S.2.1 g hg
  obtain ⟨l1, l2⟩ := S.2.2.1
  have l3 : R 1 10 ≤ 3 := (hc.1 10 (by omega)).2
  have eL : (iv 66 20).toNat = law := by omega
  have f10 := S.2.2.2.1.2.2.2
  unfold wp_X12_inForce bd_X12_inForce_44
  rw [t, eL]
  by_cases hp : pIn dy ls f g day
  · have y := h1 hp
    unfold pIn at hp
    (repeat' (first | exact y | intro _ | refine And.intro ?_ ?_)) <;> first | exact g1 | omega
  · have y := h0 hp
    unfold pIn at hp
    (repeat' (first | exact y | intro _ | refine And.intro ?_ ?_)) <;> first | exact g1 | omega
def Rn (R : Nat → Nat → Int) (g day : Int) (m : Nat) (k : Int) : Prop := (k = -1 ∧ pRn R g day m = (-1, -1)) ∨ (∃ i : Nat, k = i ∧ i < m ∧ pRn R g day m = (R 15 i, R 16 i))
def Rk (R : Nat → Nat → Int) (f : F1) (g day k : Int) : Prop := (k = -1 ∧ pR R f g day = (-1, -1)) ∨ (k = 4 ∧ f 12 ≠ -1 ∧ pR R f g day = (f 13, f 14)) ∨ (∃ i : Nat, k = i ∧ (i : Int) < R 1 8 ∧ pR R f g day = (R 15 i, R 16 i))
theorem m_renewalOf {R : Nat → Nat → Int} {dy ls f : F1} {law : Nat} {iv : IV} {rv : RV} {g : Nat} {day : Int} {K : Int → Prop} (g1 : rv 66 3 = some 80) (S : MS R dy ls f law iv) (hc : RC R) (hs : Sup f)
    (hK : ∀ k, Rk R f g day k → K k) : wp_X12_renewalOf g day iv rv K := by
  intro P hP
  have r8 : 0 ≤ R 1 8 ∧ R 1 8 ≤ 4 := hc.1 8 (by omega)
  have i8 : iv 80 8 = R 1 8 := S.1.1 8 (by omega)
  have s17 := S.2.2.2.2.1
  have s18 := S.2.2.2.2.2
  have key : ∀ d m : Nat, m + d = (R 1 8).toNat → ∀ k c : Int, Rn R g day m k → c = m → P g day k c := by
    intro d
    induction d with
    | zero =>
      intro m hm k c hk ec
      subst ec
      have hm' : m = (R 1 8).toNat := by omega
      by_cases hx : f 12 = g ∧ f 14 ≤ day ∧ (pRn R g day (R 1 8).toNat).2 ≤ f 14
      · have e1 : pR R f g day = (f 13, f 14) := by unfold pR; rw [if_pos hx]
        have y := hK 4 (Or.inr (Or.inl ⟨rfl, by omega, e1⟩))
        obtain ⟨q18, q19⟩ := s18 (by omega)
        rcases hk with ⟨k1, k2⟩ | ⟨i, k1, k2, k3⟩
        · refine hP _ _ _ _ ⟨g1, fun _ => ⟨fun z => by omega, fun z => ⟨fun z => by omega, fun z => ⟨fun _ => y, fun z => by omega⟩⟩⟩, fun z => by omega⟩
        · have i95 := (S.1.2.2.2.2.2.1 i (by omega)).2.2
          rw [hm'] at k3
          rw [k3] at hx
          have hx3 : R 16 i ≤ f 14 := hx.2.2
          have ti : k.toNat = i := by omega
          refine hP _ _ _ _ ⟨g1, fun _ => ⟨fun z => by omega, fun z => ⟨fun z => by omega, fun z => ⟨fun z => by omega, fun _ => ⟨⟨by omega, by omega⟩, ?_, fun _ => y⟩⟩⟩⟩, fun z => by omega⟩
          rw [ti]
          intro z
          omega
      · have e1 : pR R f g day = pRn R g day (R 1 8).toNat := by unfold pR; rw [if_neg hx]
        have y : K k := by
          apply hK
          unfold Rk
          rw [e1, ← hm']
          rcases hk with ⟨k1, k2⟩ | ⟨i, k1, k2, k3⟩
          · exact Or.inl ⟨k1, k2⟩
          · exact Or.inr (Or.inr ⟨i, k1, by omega, k3⟩)
        refine hP _ _ _ _ ⟨g1, fun _ => ⟨fun z => y, fun z => ⟨fun z => y, fun z => ⟨fun z => ?_, fun z => ?_⟩⟩⟩, fun z => by omega⟩
        · obtain ⟨q18, q19⟩ := s18 (by omega)
          rcases hk with ⟨k1, k2⟩ | ⟨i, k1, k2, k3⟩
          · rw [← hm', k2] at hx
            have h14 := hs
            unfold Sup at h14
            exact absurd ⟨by omega, by omega, by show (-1 : Int) ≤ f 14; omega⟩ hx
          · omega
        · obtain ⟨q18, q19⟩ := s18 (by omega)
          rcases hk with ⟨k1, k2⟩ | ⟨i, k1, k2, k3⟩
          · omega
          · have i95 := (S.1.2.2.2.2.2.1 i (by omega)).2.2
            rw [← hm', k3] at hx
            have ti : k.toNat = i := by omega
            rw [ti]
            refine ⟨⟨by omega, by omega⟩, fun _ => y, fun z => ?_⟩
            exact absurd ⟨by omega, by omega, by show R 16 i ≤ f 14; omega⟩ hx
    | succ d ih =>
      intro m hm k c hk ec
      subst ec
      have ew : Unit → w32 ((m : Int) + 1) = (m : Int) + 1 := fun _ => w32_id (by omega) (by omega)
      have t : ((m : Int)).toNat = m := Int.toNat_natCast m
      obtain ⟨i93, i94, i95⟩ := S.1.2.2.2.2.2.1 m (by omega)
      have w16 := hc.2.2.2.2.2.2.1 m (by omega)
      apply hP
      unfold bd_X12_renewalOf_5 bd_X12_renewalOf_75 bd_X12_renewalOf_78
      rw [t]
      by_cases hx : R 14 m = g ∧ R 16 m ≤ day ∧ (pRn R g day m).2 ≤ R 16 m
      · have y := ih (m + 1) (by omega) m ((m : Int) + 1) (Or.inr ⟨m, rfl, by omega, by show (if _ then _ else _) = _; rw [if_pos hx]⟩) (by omega)
        rw [ew ()]
        rcases hk with ⟨k1, k2⟩ | ⟨i, k1, k2, k3⟩
        · (repeat' (first | exact y | intro _ | refine And.intro ?_ ?_)) <;> first | exact g1 | omega
        · have j95 := (S.1.2.2.2.2.2.1 i (by omega)).2.2
          rw [k3] at hx
          have hx3 : R 16 i ≤ R 16 m := hx.2.2
          have ti : k.toNat = i := by omega
          rw [ti]
          (repeat' (first | exact y | intro _ | refine And.intro ?_ ?_)) <;> first | exact g1 | omega
      · have y : P g day k ((m : Int) + 1) := by
          refine ih (m + 1) (by omega) k ((m : Int) + 1) ?_ (by omega)
          unfold Rn pRn
          rw [if_neg hx]
          rcases hk with ⟨k1, k2⟩ | ⟨i, k1, k2, k3⟩
          · exact Or.inl ⟨k1, k2⟩
          · exact Or.inr ⟨i, k1, by omega, k3⟩
        rw [ew ()]
        rcases hk with ⟨k1, k2⟩ | ⟨i, k1, k2, k3⟩
        · rw [k2] at hx
          have hx3 : ¬ (R 14 m = g ∧ R 16 m ≤ day ∧ (-1 : Int) ≤ R 16 m) := hx
          (repeat' (first | exact y | intro _ | refine And.intro ?_ ?_)) <;> first | exact g1 | omega
        · have j95 := (S.1.2.2.2.2.2.1 i (by omega)).2.2
          rw [k3] at hx
          have hx3 : ¬ (R 14 m = g ∧ R 16 m ≤ day ∧ R 16 i ≤ R 16 m) := hx
          have ti : k.toNat = i := by omega
          rw [ti]
          (repeat' (first | exact y | intro _ | refine And.intro ?_ ?_)) <;> first | exact g1 | omega
  exact key (R 1 8).toNat 0 (by omega) _ _ (Or.inl ⟨rfl, rfl⟩) rfl
def pHowb (R : Nat → Nat → Int) (f : F1) (g day : Int) : Int := if 0 ≤ (pR R f g day).2 then (pR R f g day).1 else 0
theorem pHow_ex : ∃ F : (Nat → Nat → Int) → F1 → Int → Int → Int, F = pHowb := ⟨pHowb, rfl⟩
/-- not to be unfolded: pHow_eq says what it is -/
noncomputable def pHow : (Nat → Nat → Int) → F1 → Int → Int → Int := Classical.choose pHow_ex
theorem pHow_eq {R : Nat → Nat → Int} {f : F1} {g day : Int} : pHow R f g day = if 0 ≤ (pR R f g day).2 then (pR R f g day).1 else 0 := by
  show Classical.choose pHow_ex R f g day = _
  rw [Classical.choose_spec pHow_ex]
  rfl
theorem m_howOf {R : Nat → Nat → Int} {dy ls f : F1} {law : Nat} {iv : IV} {rv : RV} {g day k : Int} {K : Int → Prop} (g1 : rv 66 3 = some 80) (S : MS R dy ls f law iv) (hc : RC R) (hs : Sup f) (hk : Rk R f g day k) (hK : K (pHow R f g day)) : wp_X12_howOf k iv rv K := by
  have r8 : 0 ≤ R 1 8 ∧ R 1 8 ≤ 4 := hc.1 8 (by omega)
  rw [pHow_eq] at hK
  unfold Sup at hs
  rcases hk with ⟨k1, k2⟩ | ⟨k1, k2, k3⟩ | ⟨i, k1, k2, k3⟩
  · rw [k2, if_neg (by decide)] at hK
    exact ⟨fun z => absurd k1 z, fun _ => hK⟩
  · rw [k3, if_pos (show (0 : Int) ≤ f 14 by omega)] at hK
    refine ⟨fun z => ⟨fun z => absurd k1 z, fun _ => ?_⟩, fun z => by omega⟩
    rw [(S.2.2.2.2.2 k2).1]
    exact hK
  · obtain ⟨i93, i94, i95⟩ := S.1.2.2.2.2.2.1 i k2
    have w16 := hc.2.2.2.2.2.2.1 i k2
    have ti : k.toNat = i := by omega
    rw [k3, if_pos (show (0 : Int) ≤ R 16 i by omega)] at hK
    refine ⟨fun z => ⟨fun z => ⟨g1, ⟨by omega, by omega⟩, ?_⟩, fun z => by omega⟩, fun z => by omega⟩
    rw [ti, i94]
    exact hK
theorem m_goodsOf {R : Nat → Nat → Int} {dy ls f : F1} {law : Nat} {iv : IV} {rv : RV} {g : Nat} {day : Int} {K : Int → Prop} (g1 : rv 66 3 = some 80) (S : MS R dy ls f law iv) (hc : RC R) (hs : Sup f) (hg : hasG R g) (hK : K (pGood R f g day)) : wp_X12_goodsOf g day iv rv K := by
  have hl : g < 16 := by unfold hasG at hg; omega
  have t : ((g : Int)).toNat = g := Int.toNat_natCast g
  refine m_renewalOf g1 S hc hs fun k hk => m_howOf g1 S hc hs hk ⟨fun z => ⟨g1, ⟨by omega, by omega⟩, ?_⟩, fun z => ?_⟩
  · rw [t, (S.1.2.2.2.2.1 g hg).2.1]
    rw [pHow_eq] at z
    rw [pGood_eq] at hK
    rw [if_neg (fun c => z (by rw [if_pos c.1]; exact c.2))] at hK
    exact hK
  · rw [pHow_eq] at z
    rw [pGood_eq] at hK
    by_cases c : 0 ≤ (pR R f g day).2
    · rw [if_pos c] at z
      rw [if_pos ⟨c, z⟩] at hK
      exact hK
    · rw [if_neg c] at z
      exact absurd z (by decide)
theorem m_dayBy {R : Nat → Nat → Int} {dy ls f : F1} {law : Nat} {iv : IV} {rv : RV} {g : Nat} {day : Int} {K : Int → Prop} (g1 : rv 66 3 = some 80) (S : MS R dy ls f law iv) (hc : RC R) (hs : Sup f) (hl : g < 12) (hK : K (pDay R dy f g day)) : wp_X12_dayBy g day iv rv K := by
  have t : ((g : Int)).toNat = g := Int.toNat_natCast g
  have r8 : 0 ≤ R 1 8 ∧ R 1 8 ≤ 4 := hc.1 8 (by omega)
  obtain ⟨l1, l2⟩ := S.2.2.1
  have l3 : R 1 10 ≤ 3 := (hc.1 10 (by omega)).2
  have eL : (iv 66 20).toNat = law := by omega
  have f7 := S.2.2.2.1.1
  have d1 := (S.2.1 g (by omega)).1
  refine ⟨fun z => by omega, fun _ => m_renewalOf g1 S hc hs fun k hk => ?_⟩
  rw [pDay_eq] at hK
  unfold bd_X12_dayBy_16 bd_X12_dayBy_37
  rw [t, eL, f7, d1]
  rcases hk with ⟨k1, k2⟩ | ⟨k1, k2, k3⟩ | ⟨i, k1, k2, k3⟩
  · rw [k2, if_neg (fun c => absurd c.1 (by decide))] at hK
    exact ⟨fun _ => ⟨⟨by omega, by omega⟩, hK⟩, fun z => absurd k1 z⟩
  · unfold Sup at hs
    rw [k3] at hK
    have h14 : 0 ≤ f 14 := by omega
    refine ⟨fun z => by omega, fun _ => ⟨g1, ⟨by omega, by omega⟩, fun z => ⟨fun z => by omega, fun _ => ?_⟩, fun z => ⟨⟨by omega, by omega⟩, ?_⟩⟩⟩
    · rw [(S.2.2.2.2.2 k2).2]
      rw [if_pos ⟨h14, z⟩] at hK
      exact hK
    · rw [if_neg (fun c => c.2 z)] at hK
      exact hK
  · obtain ⟨i93, i94, i95⟩ := S.1.2.2.2.2.2.1 i k2
    have w16 := hc.2.2.2.2.2.2.1 i k2
    have ti : k.toNat = i := by omega
    rw [k3] at hK
    have h14 : 0 ≤ R 16 i := by omega
    refine ⟨fun z => by omega, fun _ => ⟨g1, ⟨by omega, by omega⟩, fun z => ⟨fun _ => ⟨⟨by omega, by omega⟩, ?_⟩, fun z => by omega⟩, fun z => ⟨⟨by omega, by omega⟩, ?_⟩⟩⟩
    · rw [ti, i95]
      rw [if_pos ⟨h14, z⟩] at hK
      exact hK
    · rw [if_neg (fun c => c.2 z)] at hK
      exact hK
