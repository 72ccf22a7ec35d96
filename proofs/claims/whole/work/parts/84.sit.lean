/-! THE CLASS: weigh, sit, open -/
theorem c_renew {g : Nat} {how day : Int} {iv : IV} {rv : RV} {K : IV → Prop} (hg : g < 16) (hb : g < 6 → 0 ≤ iv 57 g ∧ iv 57 g ≤ 99)
    (hK : ∀ iv', (∀ k j, ¬ (55 ≤ k ∧ k ≤ 57 ∧ j = g) → iv' k j = iv k j) → (iv' 55 g = if iv 51 7 = 0 then iv 55 g else day) → (iv' 56 g = if how = 1 then -2 else iv 56 g) → (iv' 57 g = if how = 1 then (if 6 ≤ g then 2 else iv 57 g) else if how = 2 then (if 6 ≤ g then 0 else iv 57 g / 2) else iv 57 g) → K iv') : wp_X6_renew g how day iv rv K := by
  have t : ((g : Int)).toNat = g := Int.toNat_natCast g
  have hh : g < 6 → w32 (Int.tdiv (iv 57 g) 2) = iv 57 g / 2 := fun c => w32_half (hb c).1 (hb c).2
  unfold wp_X6_renew bd_X6_renew_11 bd_X6_renew_27 bd_X6_renew_60
  rw [t]
  (repeat' (first | (refine fun (x : IV) (e : x = _) => ?_; subst e) | intro _ | refine And.intro ?_ ?_)) <;> try omega
  all_goals
    apply hK
    · intro k j hkj
      first | rfl | (simp (disch := omega) only [w2_ne]; done)
    · (try simp (disch := omega) only [w2_eq, w2_ne]); first | rfl | omega
    · (try simp (disch := omega) only [w2_eq, w2_ne]); first | rfl | omega
    · (try simp (disch := omega) only [w2_eq, w2_ne]); first | rfl | omega
theorem c_w49 {h : Nat} {R : Nat → Nat → Int} {dy ls f : F1} {iv : IV} {rv : RV} {g : Nat} {day t0 : Int} {K : IV → Prop} (hh : h = 2 ∨ h = 21) (h6 : gR rv 51 6 = h) (C : CS h R dy ls f iv) (hc : RC R) (hd : iv 51 11 = day) (hg : g < 16) (hb : g < 6 → 0 ≤ R 13 g ∧ R 13 g ≤ 99)
    (ht : t0 = if pIn dy ls f g day then 1 else 0) (hK : ∀ iv', (∀ k j, ¬ (54 ≤ k ∧ k ≤ 57 ∧ j = g) → iv' k j = iv k j) → WG R dy ls f day iv' g → K iv') : bd_X6_weigh_49 g t0 g iv rv K := by
  have t : ((g : Int)).toNat = g := Int.toNat_natCast g
  have d1 := C.2.1 g hg
  have g1 := C.1 12 g (by omega)
  have g2 := C.1 13 g (by omega)
  refine ⟨⟨by omega, by omega⟩, ?_, fun iv3 e3 => ⟨⟨by omega, by omega⟩, ⟨by omega, by omega⟩, fun iv6 e6 => ⟨⟨by omega, by omega⟩, ⟨by omega, by omega⟩, fun iv9 e9 => ⟨⟨by omega, by omega⟩, ⟨by omega, by omega⟩, fun iv12 e12 => ?_⟩⟩⟩⟩
  · rw [ht]; split <;> omega
  rw [t] at e3 e6 e9 e12
  rw [h6] at e9 e12
  have a54 : iv12 54 g = t0 := by rw [e12, e9, e6, e3]; simp (disch := omega) only [w2_eq, w2_ne]
  have a55 : iv12 55 g = dy g := by rw [e12, e9, e6, e3]; simp (disch := omega) only [w2_eq, w2_ne]; exact d1.1
  have a56 : iv12 56 g = R 12 g := by rw [e12, e9, e6, e3]; simp (disch := omega) only [w2_eq, w2_ne]; exact g1
  have a57 : iv12 57 g = R 13 g := by rw [e12, e9, e6, e3]; simp (disch := omega) only [w2_eq, w2_ne]; exact g2
  have fr : ∀ k j, ¬ (54 ≤ k ∧ k ≤ 57 ∧ j = g) → iv12 k j = iv k j := fun k j hkj => by rw [e12, e9, e6, e3]; simp (disch := omega) only [w2_ne]
  have C' : CS h R dy ls f iv12 := C.congr hh fun k j hkj => fr k j (by omega)
  refine c_wloop (day := day) h6 C' hc (by rw [fr _ _ (by omega)]; exact hd) hg ⟨fun c => ?_, fun c => ?_⟩
  · refine hK _ fr ⟨by rw [a54, ht], ?_, ?_, ?_⟩
    · rw [a55]; rw [pDay_eq]; rw [if_neg (by omega)]
    · rw [a56]; rw [pGood_eq]; rw [if_neg (by omega)]
    · rw [a57]; rw [pAmt_eq]; rw [if_neg (by omega), if_neg (by omega)]
  · refine c_renew hg (fun z => by rw [a57]; exact hb z) (fun iv' fr' b55 b56 b57 => hK _ (fun k j hkj => (fr' k j (by omega)).trans (fr k j hkj)) ⟨?_, ?_, ?_, ?_⟩)
    · rw [fr' _ _ (by omega), a54, ht]
    · have s7 := C'.2.2.1 7 (by omega) (by omega)
      rw [b55, a55, s7]; rw [pDay_eq]
      by_cases z : f 7 = 0
      · rw [if_pos z, if_neg (by omega)]
      · rw [if_neg z, if_pos (by omega)]
    · rw [b56, a56]; rw [pGood_eq]
      by_cases z : (pR R f g day).1 = 1
      · rw [if_pos z, if_pos (by omega)]
      · rw [if_neg z, if_neg (by omega)]
    · rw [b57, a57]; rw [pAmt_eq]
      clear ht b55 b56 b57 hK fr fr'
      omega
theorem c_weigh {h : Nat} {R : Nat → Nat → Int} {dy ls f : F1} {iv : IV} {rv : RV} {g : Nat} {day : Int} {K : IV → Prop} (hh : h = 2 ∨ h = 21) (h6 : gR rv 51 6 = h) (C : CS h R dy ls f iv) (hc : RC R) (hd : iv 51 11 = day) (hg : g < 16) (hb : g < 6 → 0 ≤ R 13 g ∧ R 13 g ≤ 99)
    (hK : ∀ iv', (∀ k j, ¬ (54 ≤ k ∧ k ≤ 57 ∧ j = g) → iv' k j = iv k j) → WG R dy ls f day iv' g → K iv') : wp_X6_weigh g iv rv K := by
  have t : ((g : Int)).toNat = g := Int.toNat_natCast g
  have d1 := C.2.1 g hg
  have f10 := C.2.2.1 10 (by omega) (by omega)
  have y1 : pIn dy ls f g day → bd_X6_weigh_49 g 1 g iv rv K := fun z => c_w49 hh h6 C hc hd hg hb (by rw [if_pos z]) hK
  have y0 : ¬ pIn dy ls f g day → bd_X6_weigh_49 g 0 g iv rv K := fun z => c_w49 hh h6 C hc hd hg hb (by rw [if_neg z]) hK
  unfold wp_X6_weigh bd_X6_weigh_48 bd_X6_weigh_44
  rw [t]
  by_cases hp : pIn dy ls f g day
  · have y := y1 hp
    unfold pIn at hp
    (repeat' (first | exact y | intro _ | refine And.intro ?_ ?_)) <;> omega
  · have y := y0 hp
    unfold pIn at hp
    (repeat' (first | exact y | intro _ | refine And.intro ?_ ?_)) <;> omega
theorem c_sit {h : Nat} {R : Nat → Nat → Int} {dy ls f : F1} {iv : IV} {rv : RV} {day : Int} {K : IV → Prop} (hh : h = 2 ∨ h = 21) (h6 : gR rv 51 6 = h) (C : CS h R dy ls f iv) (hc : RC R)
    (hK : ∀ iv', (∀ k j, ¬ (54 ≤ k ∧ k ≤ 57) → ¬ (k = 51 ∧ j = 11) → iv' k j = iv k j) → iv' 51 11 = day → (∀ g, hasG R g → WG R dy ls f day iv' g) → K iv') : wp_X6_sit day iv rv K := by
  intro iv1 e1 P hP
  have key : ∀ d m : Nat, m + d = 16 → ∀ iv', (∀ k j, ¬ (54 ≤ k ∧ k ≤ 57) → ¬ (k = 51 ∧ j = 11) → iv' k j = iv k j) → iv' 51 11 = day → (∀ g, g < m → hasG R g → WG R dy ls f day iv' g) → P m iv' := by
    intro d
    induction d with
    | zero =>
      intro m hm iv' fr hd hW
      refine hP _ _ ⟨fun _ => hK iv' fr hd fun g hg => hW g ?_ hg, fun c => by omega⟩
      have : g < 16 := by unfold hasG at hg; omega
      omega
    | succ d ih =>
      intro m hm iv' fr hd hW
      have ew : Unit → w32 ((m : Int) + 1) = ((m + 1 : Nat) : Int) := fun _ => w32_id (by omega) (by omega)
      have C' : CS h R dy ls f iv' := C.congr hh fun k j hkj => fr k j (by omega) (by omega)
      refine hP _ _ ⟨fun c => by omega, fun _ => ?_⟩
      rw [h6]
      refine c_hasG (by unfold inI; omega) C'.1 hc (fun ht => ⟨fun c => by omega, fun _ => ?_⟩) (fun ht => ⟨fun _ => ?_, fun c => by omega⟩)
      · have hgm : hasG R m := ht.2
        refine c_weigh hh h6 C' hc hd (by omega) (fun z => ?_) (fun iv2 fr2 hw => ?_)
        · have := (hc.2.2.2.2.1 m hgm).2.2 z
          omega
        · show P (w32 ((m : Int) + 1)) iv2
          rw [ew ()]
          refine ih (m + 1) (by omega) iv2 (fun k j p q => (fr2 k j (by omega)).trans (fr k j p q)) (by rw [fr2 _ _ (by omega)]; exact hd) (fun g hgm' hgg => ?_)
          by_cases hx : g = m
          · subst hx; exact hw
          · obtain ⟨w1, w2', w3, w4⟩ := hW g (by omega) hgg
            exact ⟨(fr2 _ _ (by omega)).trans w1, (fr2 _ _ (by omega)).trans w2', (fr2 _ _ (by omega)).trans w3, (fr2 _ _ (by omega)).trans w4⟩
      · show P (w32 ((m : Int) + 1)) iv'
        rw [ew ()]
        refine ih (m + 1) (by omega) iv' fr hd (fun g hgm' hgg => ?_)
        by_cases hx : g = m
        · subst hx; exact absurd (show hasI R (g : Int) from ⟨by omega, hgg⟩) ht
        · exact hW g (by omega) hgg
  subst e1
  exact key 16 0 (by omega) _ (fun k j p q => w2_ne q) w2_eq (fun g hg => by omega)
