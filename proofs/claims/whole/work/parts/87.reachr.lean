/-! THE REFERENCE: reach -/
def MB (s : BS) (iv : IV) : Prop := iv 66 26 = s.1 ∧ (∀ j, j < s.1 → iv 70 j = s.2.1 j ∧ iv 71 j = s.2.2 j)
theorem MB.congr {s : BS} {iv iv' : IV} (h : MB s iv) (he : ∀ k j, (70 ≤ k ∧ k ≤ 71) ∨ (k = 66 ∧ j = 26) → iv' k j = iv k j) : MB s iv' := by
  refine ⟨?_, fun j hj => ?_⟩
  · rw [he _ _ (by omega)]; exact h.1
  · rw [he _ _ (by omega), he _ _ (by omega)]; exact h.2 j hj
theorem m_isReached {s : BS} {iv : IV} {rv : RV} {p : Int} {K : Int → Prop} (hB : MB s iv) (h8 : s.1 ≤ 8) (h1 : (∃ j, j < s.1 ∧ s.2.1 j = p) → K 1) (h0 : (∀ j, j < s.1 → s.2.1 j ≠ p) → K 0) : wp_X12_isReached p iv rv K := by
  intro P hP
  have q26 := hB.1
  have key : ∀ d m : Nat, m + d = s.1 → (∀ j, j < m → s.2.1 j ≠ p) → ∀ c : Int, c = m → P p c := by
    intro d
    induction d with
    | zero =>
      intro m hm hn c ec
      exact hP _ _ ⟨fun _ => h0 (fun j hj => hn j (by omega)), fun z => by omega⟩
    | succ d ih =>
      intro m hm hn c ec
      subst ec
      have t : ((m : Int)).toNat = m := Int.toNat_natCast m
      have q70 := (hB.2 m (by omega)).1
      refine hP _ _ ⟨fun z => by omega, fun _ => ⟨⟨by omega, by omega⟩, fun z => ?_, fun z => ?_⟩⟩
      · rw [t, q70] at z
        rw [w32_id (by omega) (by omega)]
        refine ih (m + 1) (by omega) (fun j hj => ?_) _ (by omega)
        by_cases e : j = m
        · subst e; exact z
        · exact hn j (by omega)
      · rw [t, q70] at z
        exact h1 ⟨m, by omega, z⟩
  exact key s.1 0 (by omega) (fun j hj => by omega) _ rfl
theorem m_reach {R : Nat → Nat → Int} {dy ls f : F1} {law : Nat} {iv : IV} {rv : RV} {day p : Int} {K : IV → Prop} (g1 : rv 66 3 = some 80) (S : MS R dy ls f law iv) (hc : RC R) (hp : 0 ≤ p ∧ p < R 1 0)
    (hK : ∀ iv', (∀ k j, ¬ (70 ≤ k ∧ k ≤ 72) → ¬ (k = 66 ∧ j = 26) → iv' k j = iv k j) → MB (bGo R dy ls f day p) iv' → K iv') : wp_X12_reach p day iv rv K := by
  have h0 : R 1 0 ≤ 8 := (hc.1 0 (by omega)).2
  have h7 : 0 ≤ R 1 7 ∧ R 1 7 ≤ 4 := hc.1 7 (by omega)
  intro iv1 e1 iv2 e2 iv3 e3 iv4 e4
  have inner : ∀ (P28 : Int → Int → IV → Prop) (k : Nat) (s : BS) (iv0 : IV), BI R s → k < s.1 → MB s iv0 → (∀ k j, ¬ (70 ≤ k ∧ k ≤ 72) → ¬ (k = 66 ∧ j = 26) → iv0 k j = iv k j) → (∀ iv', (∀ k j, ¬ (70 ≤ k ∧ k ≤ 72) → ¬ (k = 66 ∧ j = 26) → iv' k j = iv k j) → MB (bIn R dy ls f day k s (R 1 7).toNat) iv' → P28 day ((k : Int) + 1) iv') → wl_X12_reach_39 P28 day k 0 iv0 rv K := by
    intro P28 k s iv0 hB hk hC hfr hN P hP
    have key : ∀ d m : Nat, m + d = (R 1 7).toNat → ∀ (c : Int) (iv' : IV), c = m → (∀ k j, ¬ (70 ≤ k ∧ k ≤ 72) → ¬ (k = 66 ∧ j = 26) → iv' k j = iv k j) → MB (bIn R dy ls f day k s m) iv' → P day k c iv' := by
      intro d
      induction d with
      | zero =>
        intro m hm c iv' ec fr hCB
        subst ec
        have e7 : iv' 80 7 = R 1 7 := by rw [fr _ _ (by omega) (by omega)]; exact S.1.1 7 (by omega)
        have hm' : m = (R 1 7).toNat := by omega
        have k8 := hB.le hc
        refine hP _ _ _ _ ⟨g1, fun _ => ?_, fun z => by omega⟩
        rw [w32_id (by omega) (by omega)]
        exact hN iv' fr (by rw [← hm']; exact hCB)
      | succ d ih =>
        intro m hm c iv' ec fr hCB
        subst ec
        have e7 : iv' 80 7 = R 1 7 := by rw [fr _ _ (by omega) (by omega)]; exact S.1.1 7 (by omega)
        have ew : Unit → w32 ((m : Int) + 1) = (m : Int) + 1 := fun _ => w32_id (by omega) (by omega)
        have e12 : Unit → w32 (12 + (m : Int)) = ((12 + m : Nat) : Int) := fun _ => w32_id (by omega) (by omega)
        have t12 : (((12 + m : Nat) : Int)).toNat = 12 + m := Int.toNat_natCast _
        have tk : ((k : Int)).toNat = k := Int.toNat_natCast _
        have hg : hasG R (12 + m) := Or.inr (Or.inr ⟨by omega, by omega, by omega⟩)
        have hw := (hc.2.2.2.2.1 (12 + m) hg).2.1 (by omega)
        obtain ⟨hBm, hBl⟩ := hB.inn (dy := dy) (ls := ls) (f := f) (day := day) hc hk m (by omega)
        have k8 := hBm.le hc
        have ih' := ih (m + 1) (by omega) ((m : Int) + 1)
        unfold bIn at ih'
        have hst := (hBm.st (dy := dy) (ls := ls) (f := f) (day := day) hc (show k < _ by omega) (show (m : Int) < R 1 7 by omega)).1
        have g8 := hst.le hc
        unfold bSt at ih' g8
        generalize hs : bIn R dy ls f day k s m = s' at *
        have S' : MS R dy ls f law iv' := S.congr fun k j hkj => fr k j (by omega) (by omega)
        obtain ⟨w11, w12, -⟩ := S'.1.2.2.2.2.1 (12 + m) hg
        have q70 := hCB.2 k (by omega)
        have q26 := hCB.1
        have hno := pBy_iff (q := s'.2.1) (b := s'.2.2) (p := R 12 (12 + m)) s'.1 hBm.b
        apply hP
        unfold bd_X12_reach_39 bd_X12_reach_177
        rw [e12 ()]
        rw [tk]
        refine ⟨g1, fun z => by omega, fun _ x2 e2 => ?_⟩
        subst e2
        rw [t12]
        rw [ew ()]
        have stay : ¬ bOk R dy ls f day k m s' → P day k ((m : Int) + 1) iv' := fun hx => by
          rw [if_neg hx] at ih'
          exact ih' iv' (by omega) fr hCB
        refine ⟨⟨by omega, by omega⟩, ⟨by omega, by omega⟩, fun z => stay (fun y => z (by rw [w11, q70.1]; exact y.1)), fun z => ?_⟩
        rw [w11, q70.1] at z
        refine m_inForce g1 S' hc (by omega) (fun hi => ⟨fun y => by omega, fun _ => ⟨⟨by omega, by omega⟩, ?_⟩⟩) (fun hi => ⟨fun _ => stay (fun y => hi y.2.1), fun y => by omega⟩)
        rw [w12]
        refine m_isReached hCB k8 (fun he => ⟨fun y => by omega, fun _ => stay (fun y => ?_)⟩) (fun he => ⟨fun _ => ?_, fun y => by omega⟩)
        · obtain ⟨j, hj, ej⟩ := he
          exact hno.mp y.2.2 j hj ej
        · have hx : bOk R dy ls f day k m s' := ⟨z, hi, hno.mpr he⟩
          rw [if_pos hx] at ih' g8
          have g8' : s'.1 + 1 ≤ 8 := g8
          refine ⟨⟨by omega, by omega⟩, ⟨by omega, by omega⟩, fun iv13 e13 => ?_⟩
          have a26 : iv13 66 26 = s'.1 := by rw [e13, w2_ne (by omega)]; exact q26
          have fin : ∀ t0 : Int, t0 = (if k = 0 then ((12 + m : Nat) : Int) else s'.2.2 k) → bd_X12_reach_149 P28 P day k m t0 (iv13 66 26) iv13 rv K := by
            intro t0 et
            refine ⟨⟨by omega, by omega⟩, fun iva ea => ⟨⟨by omega, by omega⟩, ?_⟩⟩
            have b26 : iva 66 26 = s'.1 := by rw [ea, w2_ne (by omega)]; exact a26
            refine ⟨⟨by omega, by omega⟩, fun ivb eb ivc ec => ?_⟩
            have c26 : ivb 66 26 = s'.1 := by rw [eb, w2_ne (by omega)]; exact b26
            show P day k (w32 ((m : Int) + 1)) ivc
            rw [ew ()]
            rw [q26, Int.toNat_natCast] at e13
            rw [a26, Int.toNat_natCast] at ea
            rw [b26, Int.toNat_natCast] at eb
            rw [c26, w32_id (by omega) (by omega)] at ec
            refine ih' ivc (by omega) (fun k j hkj hkj2 => ?_) ⟨?_, fun j hj => ?_⟩
            · rw [ec, eb, ea, e13, w2_ne (by omega), w2_ne (by omega), w2_ne (by omega), w2_ne (by omega)]
              exact fr k j hkj hkj2
            · rw [ec, w2_eq]
              show (s'.1 : Int) + 1 = ((s'.1 + 1 : Nat) : Int)
              omega
            · have hj' : j < s'.1 + 1 := hj
              show ivc 70 j = up1 s'.2.1 s'.1 (R 12 (12 + m)) j ∧ ivc 71 j = up1 s'.2.2 s'.1 _ j
              by_cases z : j = s'.1
              · subst z
                rw [up1_eq, up1_eq, ec, eb, ea, e13, ← et]
                simp (disch := omega) only [w2_eq, w2_ne]
                exact ⟨trivial, trivial⟩
              · rw [up1_ne z, up1_ne z, ec, eb, ea, e13]
                simp (disch := omega) only [w2_ne]
                exact hCB.2 j (by omega)
          have a71 : iv13 71 k = s'.2.2 k := by rw [e13, w2_ne (by omega)]; exact q70.2
          refine ⟨fun y => ⟨⟨by omega, by omega⟩, fin _ ?_⟩, fun y => fin _ (by rw [if_pos (by omega)])⟩
          rw [if_neg (by omega), a71]
    exact key (R 1 7).toNat 0 (by omega) _ _ rfl hfr hC
  intro P hP
  have key : ∀ d k : Nat, k + d = 9 → ∀ (s : BS) (c : Int) (iv' : IV), BI R s → c = k → (∀ k j, ¬ (70 ≤ k ∧ k ≤ 72) → ¬ (k = 66 ∧ j = 26) → iv' k j = iv k j) → MB s iv' → bOut R dy ls f day d k s = bGo R dy ls f day p → P day c iv' := by
    intro d
    induction d with
    | zero =>
      intro k hk s c iv' hB ec fr hCB hgo
      have k8 := hB.le hc
      have q26 := hCB.1
      refine hP _ _ _ ⟨fun _ => hK iv' fr ?_, fun z => by omega⟩
      rw [← hgo]; exact hCB
    | succ d ih =>
      intro k hk s c iv' hB ec fr hCB hgo
      subst ec
      have k8 := hB.le hc
      have q26 := hCB.1
      unfold bOut at hgo
      refine hP _ _ _ ⟨fun z => hK iv' fr ?_, fun z => ?_⟩
      · rw [if_neg (by omega)] at hgo
        rw [← hgo]; exact hCB
      · rw [if_pos (by omega)] at hgo
        refine inner P k s iv' hB (by omega) hCB fr (fun iv2 fr2 hCB2 => ?_)
        exact ih (k + 1) (by omega) _ _ iv2 (hB.inn hc (by omega) _ (by omega)).1 (by omega) fr2 hCB2 hgo
  refine key 9 0 (by omega) (1, fun _ => p, fun _ => -1) 0 iv4 (BI.init hp) rfl (fun k j hkj hkj2 => ?_) ⟨?_, fun j hj => ?_⟩ rfl
  · rw [e4, e3, e2, e1, w2_ne (by omega), w2_ne (by omega), w2_ne (by omega), w2_ne (by omega)]
  · rw [e4, w2_eq]; rfl
  · have hj' : j < 1 := hj
    rw [e4, e3, e2, e1, show j = 0 by omega]
    simp (disch := omega) only [w2_eq, w2_ne]
    exact ⟨trivial, trivial⟩
