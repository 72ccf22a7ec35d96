/-! PAIR: part -/
theorem rvo_rvo {rv : RV} {h : Nat} : rvo (rvo rv h) h = rvo rv h := by
  funext a b
  by_cases c1 : a = 51 ∧ b = 6
  · obtain ⟨rfl, rfl⟩ := c1
    rw [rvo_51, rvo_51]
  · by_cases c2 : a = 47 ∧ b = 3
    · obtain ⟨rfl, rfl⟩ := c2
      rw [rvo_47, rvo_47]
    · rw [rvo_ne c2 c1]
def pUn (R : Nat → Nat → Int) (one other c : Nat) (b : Int) : Prop := pOwe R (R 8) (R 10) (lf R other) (R 18 (7 * c + 6)) c b ≠ pOwe R (R 8) (R 10) (lf R one) (R 18 (7 * c + 6)) c b
def PRes (R : Nat → Nat → Int) (one other : Nat) (r : Int) : Prop :=
  (r = -2 ∧ ∀ c b : Nat, (c : Int) < R 1 11 → (b : Int) < R 1 4 → ¬ pUn R one other c b) ∨
  (∃ c b : Nat, r = 10 * (c : Int) + b ∧ (c : Int) < R 1 11 ∧ (b : Int) < R 1 4 ∧ pUn R one other c b ∧ ∀ c' b' : Nat, (b' : Int) < R 1 4 → (c' < c ∨ (c' = c ∧ b' < b)) → ¬ pUn R one other c' b')
theorem PRes.uniq {R : Nat → Nat → Int} {one other : Nat} {r r' : Int} (h : PRes R one other r) (h' : PRes R one other r') : r = r' := by
  rcases h with ⟨a1, a2⟩ | ⟨c, b, a1, a2, a3, a4, a5⟩
  · rcases h' with ⟨b1, b2⟩ | ⟨c', b', b1, b2, b3, b4, b5⟩
    · rw [a1, b1]
    · exact absurd b4 (a2 c' b' b2 b3)
  · rcases h' with ⟨b1, b2⟩ | ⟨c', b', b1, b2, b3, b4, b5⟩
    · exact absurd a4 (b2 c b a2 a3)
    · have x1 : ¬ (c < c' ∨ (c = c' ∧ b < b')) := fun q => b5 c b a3 q a4
      have x2 : ¬ (c' < c ∨ (c' = c ∧ b' < b)) := fun q => a5 c' b' b3 q b4
      clear a5 b5
      omega
/-- which references may stand while laws are opened again and again -/
def RVo (rv : RV) (h : Nat) (rv' : RV) : Prop := rv' = rv ∨ rv' = rvo rv h
theorem RVo.o {rv rv' : RV} {h : Nat} (q : RVo rv h rv') : rvo rv' h = rvo rv h := by
  rcases q with rfl | rfl
  · rfl
  · exact rvo_rvo
theorem RVo.g {rv rv' : RV} {h a b : Nat} (q : RVo rv h rv') (h1 : ¬ (a = 47 ∧ b = 3)) (h2 : ¬ (a = 51 ∧ b = 6)) : rv' a b = rv a b := by
  rcases q with rfl | rfl
  · rfl
  · exact rvo_ne h1 h2
theorem c_unlike {H : Nat} {R : Nat → Nat → Int} {iv : IV} {rv rv0 : RV} {one other c : Nat} {K : Int → IV → RV → Prop} (hh : H = 2 ∨ H = 21) (hg : gR rv0 0 2 = H) (hR : ∀ r i, r < 19 → iv (H + r) i = R r i) (hc : RC R) (hM : RM R iv) (h1 : (one : Int) < R 1 10) (h2 : (other : Int) < R 1 10) (hcc : (c : Int) < R 1 11) (hV : RVo rv0 H rv)
    (hK : ∀ (iv' : IV) (rv' : RV) (r : Int), (∀ k j, ¬ (51 ≤ k ∧ k ≤ 62) → iv' k j = iv k j) → RVo rv0 H rv' → ((r = -1 ∧ ∀ b : Nat, (b : Int) < R 1 4 → ¬ pUn R one other c b) ∨ (∃ b : Nat, r = b ∧ (b : Int) < R 1 4 ∧ pUn R one other c b ∧ ∀ j, j < b → ¬ pUn R one other c j)) → K r iv' rv') : wp_X10_firstUnlikeBridge c one other iv rv K := by
  have h11 : R 1 11 ≤ 6 := (hc.1 11 (by omega)).2
  have h4 : 0 ≤ R 1 4 ∧ R 1 4 ≤ 8 := hc.1 4 (by omega)
  have gg : ∀ rv', RVo rv0 H rv' → gR rv' 0 2 = H := fun rv' q => by
    have : gR rv' 0 2 = gR rv0 0 2 := by unfold gR; rw [q.g (by omega) (by omega)]
    rw [this]; exact hg
  unfold wp_X10_firstUnlikeBridge
  rw [gg rv hV]
  refine c_ofCart (w := 6) hR (by omega) (by omega) ?_
  intro P hP
  have key : ∀ d m : Nat, m + d = (R 1 4).toNat → ∀ (x : Int) (iv' : IV) (rv' : RV), x = m → (∀ k j, ¬ (51 ≤ k ∧ k ≤ 62) → iv' k j = iv k j) → RVo rv0 H rv' → (∀ j, j < m → ¬ pUn R one other c j) → P c one other (R 18 (7 * c + 6)) x iv' rv' := by
    intro d
    induction d with
    | zero =>
      intro m hm x iv' rv' ex fr hV' hn
      have e4 : iv' (gR rv' 0 2 + 1) 4 = R 1 4 := by rw [gg rv' hV', fr _ _ (by omega)]; exact hR 1 4 (by omega)
      exact hP _ _ _ _ _ _ _ ⟨fun _ => hK iv' rv' _ fr hV' (Or.inl ⟨rfl, fun b hb => hn b (by omega)⟩), fun z => by omega⟩
    | succ d ih =>
      intro m hm x iv' rv' ex fr hV' hn
      subst ex
      have e4 : iv' (gR rv' 0 2 + 1) 4 = R 1 4 := by rw [gg rv' hV', fr _ _ (by omega)]; exact hR 1 4 (by omega)
      have ew : Unit → w32 ((m : Int) + 1) = (m : Int) + 1 := fun _ => w32_id (by omega) (by omega)
      apply hP
      unfold bd_X10_firstUnlikeBridge_15
      refine ⟨fun z => by omega, fun _ => ?_⟩
      rw [gg rv' hV', ew ()]
      refine c_open hh (fun r i hr => by rw [fr _ _ (by omega)]; exact hR r i hr) hc (hM.congr fun k j hk => fr k j (by omega)) h1 (fun iv2 fr2 C2 => ?_)
      rw [hV'.o]
      have o1 : gR (rvo rv0 H) 0 2 = H := by rw [gR_rvo (by omega) (by omega)]; exact hg
      refine c_owed1 hh (gR_of rvo_51) (gR_of rvo_47) C2 hc lf_sup hcc (fun iv5 fr5 _ _ => ?_)
      have f5 : ∀ k j, ¬ (51 ≤ k ∧ k ≤ 62) → iv5 k j = iv k j := fun k j q => by rw [fr5 _ _ (by omega) (by omega), fr2 _ _ (by omega), fr _ _ q]
      rw [o1]
      refine c_open hh (fun r i hr => by rw [f5 _ _ (by omega)]; exact hR r i hr) hc (hM.congr fun k j hk => f5 k j (by omega)) h2 (fun iv6 fr6 C6 => ?_)
      rw [rvo_rvo]
      refine c_owed1 hh (gR_of rvo_51) (gR_of rvo_47) C6 hc lf_sup hcc (fun iv9 fr9 _ _ => ?_)
      have f9 : ∀ k j, ¬ (51 ≤ k ∧ k ≤ 62) → iv9 k j = iv k j := fun k j q => by rw [fr9 _ _ (by omega) (by omega), fr6 _ _ (by omega), f5 _ _ q]
      refine ⟨fun z => ih (m + 1) (by omega) _ iv9 _ (by omega) f9 (Or.inr rfl) (fun j hj => ?_), fun z => hK iv9 _ _ f9 (Or.inr rfl) (Or.inr ⟨m, rfl, by omega, z, hn⟩)⟩
      by_cases e : j = m
      · rw [e]; exact fun q => q z
      · exact hn j (by omega)
  exact key (R 1 4).toNat 0 (by omega) _ iv rv rfl (fun _ _ _ => rfl) hV (fun j hj => by omega)
theorem c_part {H : Nat} {R : Nat → Nat → Int} {iv : IV} {rv rv0 : RV} {one other : Nat} {K : Int → IV → RV → Prop} (hh : H = 2 ∨ H = 21) (hg : gR rv0 0 2 = H) (hR : ∀ r i, r < 19 → iv (H + r) i = R r i) (hc : RC R) (hM : RM R iv) (h1 : (one : Int) < R 1 10) (h2 : (other : Int) < R 1 10) (hV : RVo rv0 H rv)
    (hK : ∀ (iv' : IV) (rv' : RV) (r : Int), (∀ k j, ¬ (51 ≤ k ∧ k ≤ 62) → iv' k j = iv k j) → RVo rv0 H rv' → PRes R one other r → K r iv' rv') : wl_X10_part_43 one other 0 iv rv K := by
  have h11 : 0 ≤ R 1 11 ∧ R 1 11 ≤ 6 := hc.1 11 (by omega)
  have h4 : 0 ≤ R 1 4 ∧ R 1 4 ≤ 8 := hc.1 4 (by omega)
  have gg : ∀ rv', RVo rv0 H rv' → gR rv' 0 2 = H := fun rv' q => by
    have : gR rv' 0 2 = gR rv0 0 2 := by unfold gR; rw [q.g (by omega) (by omega)]
    rw [this]; exact hg
  intro P hP
  have key : ∀ d m : Nat, m + d = (R 1 11).toNat → ∀ (x : Int) (iv' : IV) (rv' : RV), x = m → (∀ k j, ¬ (51 ≤ k ∧ k ≤ 62) → iv' k j = iv k j) → RVo rv0 H rv' → (∀ c b : Nat, c < m → (b : Int) < R 1 4 → ¬ pUn R one other c b) → P one other x iv' rv' := by
    intro d
    induction d with
    | zero =>
      intro m hm x iv' rv' ex fr hV' hn
      have e4 : iv' (gR rv' 0 2 + 1) 11 = R 1 11 := by rw [gg rv' hV', fr _ _ (by omega)]; exact hR 1 11 (by omega)
      exact hP _ _ _ _ _ ⟨fun _ => hK iv' rv' _ fr hV' (Or.inl ⟨rfl, fun c b hc1 hb => hn c b (by omega) hb⟩), fun z => by omega⟩
    | succ d ih =>
      intro m hm x iv' rv' ex fr hV' hn
      subst ex
      have e4 : iv' (gR rv' 0 2 + 1) 11 = R 1 11 := by rw [gg rv' hV', fr _ _ (by omega)]; exact hR 1 11 (by omega)
      have ew : Unit → w32 ((m : Int) + 1) = (m : Int) + 1 := fun _ => w32_id (by omega) (by omega)
      have e10 : Unit → w32 (10 * (m : Int)) = 10 * (m : Int) := fun _ => w32_id (by omega) (by omega)
      apply hP
      unfold bd_X10_part_43
      refine ⟨fun z => by omega, fun _ => ?_⟩
      rw [ew (), e10 ()]
      refine c_unlike hh hg (fun r i hr => by rw [fr _ _ (by omega)]; exact hR r i hr) hc (hM.congr fun k j hk => fr k j (by omega)) h1 h2 (by omega) hV' (fun iv2 rv2 r fr2 hV2 hr => ?_)
      have f2 : ∀ k j, ¬ (51 ≤ k ∧ k ≤ 62) → iv2 k j = iv k j := fun k j q => (fr2 k j q).trans (fr k j q)
      rcases hr with ⟨r1, r2⟩ | ⟨b, r1, r2, r3, r4⟩
      · refine ⟨fun z => ih (m + 1) (by omega) _ iv2 rv2 (by omega) f2 hV2 (fun c b hc1 hb => ?_), fun z => by omega⟩
        by_cases e : c = m
        · rw [e]; exact r2 b hb
        · exact hn c b (by omega) hb
      · refine ⟨fun z => by omega, fun z => hK iv2 rv2 _ f2 hV2 (Or.inr ⟨m, b, ?_, by omega, r2, r3, fun c' b' hb' hq => ?_⟩)⟩
        · rw [r1, w32_id (by omega) (by omega)]
        · by_cases e : c' = m
          · rw [e]; exact r4 b' (by omega)
          · exact hn c' b' (by omega) hb'
  exact key (R 1 11).toNat 0 (by omega) _ iv rv rfl (fun _ _ _ => rfl) hV (fun c b hc1 => by omega)
theorem m_part {R : Nat → Nat → Int} {iv : IV} {rv : RV} {one other : Nat} {K : Int → IV → Prop} (g1 : rv 66 3 = some 80) (hM : RM R iv) (hc : RC R) (h1 : (one : Int) < R 1 10) (h2 : (other : Int) < R 1 10)
    (hK : ∀ iv' r, (∀ k j, ¬ (68 ≤ k ∧ k ≤ 72) → ¬ (k = 66 ∧ 17 ≤ j ∧ j ≤ 26) → iv' k j = iv k j) → PRes R one other r → wp_X12_done r iv' rv K) : wl_X12_part_29 one other 0 iv rv K := by
  have h11 : 0 ≤ R 1 11 ∧ R 1 11 ≤ 6 := hc.1 11 (by omega)
  have h4 : 0 ≤ R 1 4 ∧ R 1 4 ≤ 8 := hc.1 4 (by omega)
  have inner : ∀ (P29 : Int → Int → Int → IV → Prop) (c : Nat) (iv0 : IV), (c : Int) < R 1 11 → (∀ k j, ¬ (68 ≤ k ∧ k ≤ 72) → ¬ (k = 66 ∧ 17 ≤ j ∧ j ≤ 26) → iv0 k j = iv k j) → (∀ c' b : Nat, c' < c → (b : Int) < R 1 4 → ¬ pUn R one other c' b) →
      (∀ iv', (∀ k j, ¬ (68 ≤ k ∧ k ≤ 72) → ¬ (k = 66 ∧ 17 ≤ j ∧ j ≤ 26) → iv' k j = iv k j) → (∀ c' b : Nat, c' < c + 1 → (b : Int) < R 1 4 → ¬ pUn R one other c' b) → P29 one other ((c : Int) + 1) iv') → wl_X12_part_43 P29 one other c 0 iv0 rv K := by
    intro P29 c iv0 hcc fr0 hn0 hN P hP
    have tc : ((c : Int)).toNat = c := Int.toNat_natCast c
    have ec : Unit → w32 ((c : Int) + 1) = (c : Int) + 1 := fun _ => w32_id (by omega) (by omega)
    have e10 : Unit → w32 (10 * (c : Int)) = 10 * (c : Int) := fun _ => w32_id (by omega) (by omega)
    obtain ⟨o1, o2, o3, o4, o5⟩ := mn_ok hc hcc
    have key : ∀ d m : Nat, m + d = (R 1 4).toNat → ∀ (x : Int) (iv' : IV), x = m → (∀ k j, ¬ (68 ≤ k ∧ k ≤ 72) → ¬ (k = 66 ∧ 17 ≤ j ∧ j ≤ 26) → iv' k j = iv k j) → (∀ j, j < m → ¬ pUn R one other c j) → P one other c x iv' := by
      intro d
      induction d with
      | zero =>
        intro m hm x iv' ex fr hn
        have e4 : iv' 80 4 = R 1 4 := by rw [fr _ _ (by omega) (by omega)]; exact hM.1 4 (by omega)
        refine hP _ _ _ _ _ ⟨g1, fun _ => ?_, fun z => by omega⟩
        rw [ec ()]
        refine hN iv' fr (fun c' b q1 q2 => ?_)
        by_cases e : c' = c
        · rw [e]; exact hn b (by omega)
        · exact hn0 c' b (by omega) q2
      | succ d ih =>
        intro m hm x iv' ex fr hn
        subst ex
        have e4 : iv' 80 4 = R 1 4 := by rw [fr _ _ (by omega) (by omega)]; exact hM.1 4 (by omega)
        have ew : Unit → w32 ((m : Int) + 1) = (m : Int) + 1 := fun _ => w32_id (by omega) (by omega)
        have e11 : Unit → w32 (10 * (c : Int) + (m : Int)) = 10 * (c : Int) + (m : Int) := fun _ => w32_id (by omega) (by omega)
        apply hP
        unfold bd_X12_part_43
        rw [ew (), e10 (), e11 (), tc]
        refine ⟨g1, fun z => by omega, fun _ => ?_⟩
        refine m_laysFor g1 (hM.congr fun k j hk => fr k j (by omega) (by omega)) hc hcc (fun iv2 fr2 hd2 e20 e17 e21 e22 => ⟨⟨by omega, by omega⟩, ?_⟩)
        have f2 : ∀ k j, ¬ (68 ≤ k ∧ k ≤ 72) → ¬ (k = 66 ∧ 17 ≤ j ∧ j ≤ 26) → iv2 k j = iv k j := fun k j q1 q2 => (fr2 k j (by omega) (by omega)).trans (fr k j q1 q2)
        have M2 : RM R iv2 := hM.congr fun k j hk => f2 k j (by omega) (by omega)
        have d2 : iv2 106 c = R 18 (7 * c + 6) := M2.2.2.2.2.2.2.2 c hcc 6 (by omega)
        rw [d2]
        refine m_owed g1 (MS.of M2 hd2 e20 e17 h1) hc lf_sup hc.dys hcc ⟨o4, o5⟩ e21 e22 (fun iv5 fr5 => ?_)
        have f5 : ∀ k j, ¬ (68 ≤ k ∧ k ≤ 72) → ¬ (k = 66 ∧ 17 ≤ j ∧ j ≤ 26) → iv5 k j = iv k j := fun k j q1 q2 => (fr5 k j (by omega) (by omega)).trans (f2 k j q1 q2)
        refine m_laysFor g1 (hM.congr fun k j hk => f5 k j (by omega) (by omega)) hc hcc (fun iv6 fr6 hd6 e20' e17' e21' e22' => ⟨⟨by omega, by omega⟩, ?_⟩)
        have f6 : ∀ k j, ¬ (68 ≤ k ∧ k ≤ 72) → ¬ (k = 66 ∧ 17 ≤ j ∧ j ≤ 26) → iv6 k j = iv k j := fun k j q1 q2 => (fr6 k j (by omega) (by omega)).trans (f5 k j q1 q2)
        have M6 : RM R iv6 := hM.congr fun k j hk => f6 k j (by omega) (by omega)
        have d6 : iv6 106 c = R 18 (7 * c + 6) := M6.2.2.2.2.2.2.2 c hcc 6 (by omega)
        rw [d6]
        refine m_owed g1 (MS.of M6 hd6 e20' e17' h2) hc lf_sup hc.dys hcc ⟨o4, o5⟩ e21' e22' (fun iv9 fr9 => ?_)
        have f9 : ∀ k j, ¬ (68 ≤ k ∧ k ≤ 72) → ¬ (k = 66 ∧ 17 ≤ j ∧ j ≤ 26) → iv9 k j = iv k j := fun k j q1 q2 => (fr9 k j (by omega) (by omega)).trans (f6 k j q1 q2)
        refine ⟨fun z => ih (m + 1) (by omega) _ iv9 (by omega) f9 (fun j hj => ?_), fun z => hK iv9 _ f9 (Or.inr ⟨c, m, rfl, hcc, by omega, z, fun c' b' q1 q2 => ?_⟩)⟩
        · by_cases e : j = m
          · rw [e]; exact fun q => q z
          · exact hn j (by omega)
        · by_cases e : c' = c
          · rw [e]; exact hn b' (by omega)
          · exact hn0 c' b' (by omega) q1
    exact key (R 1 4).toNat 0 (by omega) _ iv0 rfl fr0 (fun j hj => by omega)
  intro P hP
  have key : ∀ d m : Nat, m + d = (R 1 11).toNat → ∀ (x : Int) (iv' : IV), x = m → (∀ k j, ¬ (68 ≤ k ∧ k ≤ 72) → ¬ (k = 66 ∧ 17 ≤ j ∧ j ≤ 26) → iv' k j = iv k j) → (∀ c b : Nat, c < m → (b : Int) < R 1 4 → ¬ pUn R one other c b) → P one other x iv' := by
    intro d
    induction d with
    | zero =>
      intro m hm x iv' ex fr hn
      have e4 : iv' 80 11 = R 1 11 := by rw [fr _ _ (by omega) (by omega)]; exact hM.1 11 (by omega)
      exact hP _ _ _ _ ⟨g1, fun _ => hK iv' _ fr (Or.inl ⟨rfl, fun c b q1 q2 => hn c b (by omega) q2⟩), fun z => by omega⟩
    | succ d ih =>
      intro m hm x iv' ex fr hn
      subst ex
      have e4 : iv' 80 11 = R 1 11 := by rw [fr _ _ (by omega) (by omega)]; exact hM.1 11 (by omega)
      exact hP _ _ _ _ ⟨g1, fun z => by omega, fun _ => inner P m iv' (by omega) fr hn (fun iv2 fr2 hn2 => ih (m + 1) (by omega) _ iv2 (by omega) fr2 hn2)⟩
  exact key (R 1 11).toNat 0 (by omega) _ iv rfl (fun _ _ _ _ => rfl) (fun c b hc1 => by omega)
theorem pr_part : Pr_part Inv := by
  intro n iv rv a1 a2 h i1 i2
  obtain ⟨H, R, eH, hh, hc, hM, hR⟩ := h.beg
  have bad : Unit → ¬ ((0 ≤ a1 ∧ a1 < R 1 10) ∧ (0 ≤ a2 ∧ a2 < R 1 10)) → bd_X10_part_32 a1 a2 0 iv rv (fun r1 iv1 rv1 => wp_X12_part a1 a2 iv1 rv1 (fun r2 iv2 => r2 = r1 ∧ Inv n iv2 rv1)) := by
    intro _ k
    refine admit0 ⟨fun z => by omega, fun _ iv1 e1 => ?_⟩ 0
    have hM1 : MC R iv1 rv := hM.congr (fun k j q => by rw [e1, w2_ne (by omega), w2_ne (by omega), w2_ne (by omega)]) rfl
    have fin : wp_X12_refused 1 iv1 rv (fun r2 iv2 => r2 = -1 ∧ Inv n iv2 rv) := by
      refine m_refused h (fun k j q => ?_) ?_ (by decide)
      · unfold nsc at q
        rw [e1, w2_ne (by omega), w2_ne (by omega), w2_ne (by omega)]
      · rw [e1, w2_ne (by omega), w2_eq]
    exact m_isLaw hM1 (fun p1 p2 _ _ => ⟨fun z => by omega, fun _ => m_isLaw hM1 (fun p3 p4 g1 hRM => absurd ⟨⟨p1, p2⟩, p3, p4⟩ k) (fun p3 => ⟨fun z => by omega, fun _ => fin⟩)⟩) (fun p1 => ⟨fun _ => fin, fun z => by omega⟩)
  unfold wp_X10_part
  rw [eH]
  refine c_has (s := 10) hR (by omega) (fun k1 k2 => ⟨fun z => by omega, fun _ => c_has (s := 10) hR (by omega) (fun k5 k6 => ⟨fun z => by omega, fun _ => ?_⟩) (fun p => ⟨fun _ => bad () (by omega), fun z => by omega⟩)⟩) (fun p => ⟨fun _ => bad () (by omega), fun z => by omega⟩)
  obtain ⟨g1, hRM⟩ := hM.of (by omega) k5 k6
  obtain ⟨one, rfl⟩ := Int.eq_ofNat_of_zero_le k1
  obtain ⟨other, rfl⟩ := Int.eq_ofNat_of_zero_le k5
  refine admit1 (by omega) ⟨fun _ => ?_, fun z => by omega⟩
  refine c_part hh eH (R := R) (fun r i hr => by rw [w2_ne (by omega)]; exact hR r i hr) hc (hRM.congr fun k j hk => w2_ne (by omega)) k2 k6 (Or.inl rfl) (fun iv8 rv8 r fr8 hV hr => ?_)
  intro iv1 e1
  have fr1 : ∀ k j, nsc k j → iv1 k j = iv k j := fun k j q => by
    unfold nsc at q
    rw [e1, w2_ne (by omega), fr8 _ _ (by omega), w2_ne (by omega)]
  have h80 : ∀ k j, 80 ≤ k → iv1 k j = iv k j := fun k j q => fr1 k j (by unfold nsc; omega)
  have g1' : rv8 66 3 = some 80 := by rw [hV.g (by omega) (by omega)]; exact g1
  have hM1 : MC R iv1 rv8 := hM.congr h80 (hV.g (by omega) (by omega))
  have hI8 : Inv n iv rv8 := by
    rcases hV with rfl | rfl
    · exact h
    · exact h.rvo hh
  refine m_isLaw hM1 (fun _ _ _ _ => ⟨fun z => by omega, fun _ => m_isLaw hM1 (fun p3 p4 _ _ => ⟨fun _ => ?_, fun z => by omega⟩) (fun p3 => absurd ⟨k5, k6⟩ p3)⟩) (fun p1 => absurd ⟨k1, k2⟩ p1)
  refine m_part g1' (hRM.congr h80) hc k2 k6 (fun iv6 r' fr6 hr' => ?_)
  rw [hr'.uniq hr]
  refine m_done hI8 (fun k j q => ?_) ?_
  · have q' := q
    unfold nsc at q'
    rw [fr6 _ _ (by omega) (by omega)]
    exact fr1 k j q
  · rw [fr6 _ _ (by omega) (by omega), e1, w2_ne (by omega), fr8 _ _ (by omega), w2_eq]
