/-! WHAT IS OWED ON THE CHEAPEST WAY: both sides -/
def sm8 (r : F1) : Nat → Nat
  | 0 => 0
  | n + 1 => sm8 r n + (r n).toNat
theorem sm8_same {r : F1} {p : Nat} {x : Int} : ∀ n, n ≤ p → sm8 (up1 r p x) n = sm8 r n
  | 0, _ => rfl
  | n + 1, h => by
    show sm8 (up1 r p x) n + (up1 r p x n).toNat = sm8 r n + (r n).toNat
    rw [sm8_same n (by omega), up1_ne (by omega)]
theorem sm8_lt {r : F1} {p : Nat} {x : Int} (h0 : 0 ≤ x) (h1 : x < r p) : ∀ n, p < n → sm8 (up1 r p x) n < sm8 r n
  | 0, h => by omega
  | n + 1, h => by
    show sm8 (up1 r p x) n + (up1 r p x n).toNat < sm8 r n + (r n).toNat
    by_cases z : p = n
    · subst z
      rw [sm8_same p (Nat.le_refl _), up1_eq]
      omega
    · have := sm8_lt h0 h1 n (by omega)
      rw [up1_ne (by omega)]
      omega
theorem RI.end_ {a b : Nat → Nat} {w : F1} {L g : Nat} (hL : Lks a b w L) : ∀ (k : Nat) (r : F1), sm8 r 8 ≤ k → RI a b w L g r → ∃ r', Msd a b w L g r'
  | k, r, hk, h => by
    by_cases hf : Fix a b w L r
    · exact ⟨r, h, hf⟩
    · obtain ⟨e, he⟩ := Classical.not_forall.mp hf
      obtain ⟨e1, e2⟩ := Classical.not_imp.mp he
      obtain ⟨l1, l2, l3, l4⟩ := hL e e1
      have pa := h.2.1 (a e) l1
      have pb := h.2.1 (b e) l2
      cases k with
      | zero =>
        exfalso
        by_cases z : r (a e) ≤ r (b e) + w e
        · have := sm8_lt (r := r) (p := b e) (x := r (a e) + w e) (by omega) (by omega) 8 l2
          omega
        · have := sm8_lt (r := r) (p := a e) (x := r (b e) + w e) (by omega) (by omega) 8 l1
          omega
      | succ k =>
        by_cases z : r (a e) ≤ r (b e) + w e
        · have lt : r (a e) + w e < r (b e) := by omega
          have := sm8_lt (r := r) (p := b e) (x := r (a e) + w e) (by omega) lt 8 l2
          exact RI.end_ hL k _ (by omega) (h.lower hL e1 (Or.inr ⟨rfl, rfl⟩) lt)
        · have lt : r (b e) + w e < r (a e) := by omega
          have := sm8_lt (r := r) (p := a e) (x := r (b e) + w e) (by omega) lt 8 l1
          exact RI.end_ hL k _ (by omega) (h.lower hL e1 (Or.inl ⟨rfl, rfl⟩) lt)
theorem Msd.ex {a b : Nat → Nat} {w : F1} {L g : Nat} (hL : Lks a b w L) : ∃ r, Msd a b w L g r := by
  refine RI.end_ hL _ (fun p => if p = g then 0 else 1000000000) (Nat.le_refl _) ⟨if_pos rfl, fun p hp => ?_, fun p hp hpg hf => ?_⟩
  · show 0 ≤ (if p = g then (0 : Int) else 1000000000) ∧ (if p = g then (0 : Int) else 1000000000) ≤ 1000000000
    split <;> omega
  · have hf' : (if p = g then (0 : Int) else 1000000000) < 1000000000 := hf
    rw [if_neg hpg] at hf'
    omega
theorem Msd.leq {a b : Nat → Nat} {w : F1} {L g : Nat} {r r' : F1} (hL : Lks a b w L) (h : Msd a b w L g r) (h' : Msd a b w L g r') {p : Nat} (hp : p < 8) : r p ≤ r' p := by
  by_cases z : r' p < 1000000000
  · obtain ⟨x, x1, x2⟩ := h'.1.walk7 hL hp z
    have := h.2.up h.1.1 hL 7 p x hp x2
    omega
  · have := (h.1.2.1 p hp).2
    omega
noncomputable def pV (a b : Nat → Nat) (w : F1) (L g s : Nat) : Int := Classical.epsilon fun x : Int => ∃ r, Msd a b w L g r ∧ x = r s
theorem pV_eq {a b : Nat → Nat} {w : F1} {L g s : Nat} {r : F1} (hL : Lks a b w L) (hr : Msd a b w L g r) (hs : s < 8) : pV a b w L g s = r s := by
  have h : ∃ x : Int, ∃ r, Msd a b w L g r ∧ x = r s := ⟨r s, r, hr, rfl⟩
  obtain ⟨r', h2, e⟩ := Classical.epsilon_spec h
  have a1 := Msd.leq hL h2 hr hs
  have a2 := Msd.leq hL hr h2 hs
  have e' : pV a b w L g s = r' s := e
  omega
noncomputable def TT (R : Nat → Nat → Int) (dy ls f : F1) (c : Nat) (p since : Int) : F1 := fun e => tl R dy ls f (R 18 (7 * c + 6)) since c (bGo R dy ls f (R 18 (7 * c + 6)) p) e
noncomputable def WW (R : Nat → Nat → Int) (dy ls f : F1) (c : Nat) (p since : Int) : F1 := fun e => TT R dy ls f c p since e * 1000 + R 6 e
theorem TT_ok {R : Nat → Nat → Int} {dy ls f : F1} {c : Nat} {p since : Int} (hc : RC R) (hcc : (c : Int) < R 1 11) : GT R (TT R dy ls f c p since) (WW R dy ls f c p since) := fun e he => by
  have := tl_le (dy := dy) (ls := ls) (f := f) (day := R 18 (7 * c + 6)) (since := since) (s := bGo R dy ls f (R 18 (7 * c + 6)) p) hc hcc e
  exact ⟨this.1, this.2, rfl⟩
abbrev crF (R : Nat → Nat → Int) (c : Nat) : Nat := (R 18 (7 * c + 4)).toNat
abbrev crT (R : Nat → Nat → Int) (c : Nat) : Nat := (R 18 (7 * c + 5)).toNat
theorem cFT_ok {R : Nat → Nat → Int} {c : Nat} (hc : RC R) (hcc : (c : Int) < R 1 11) : ((crF R c : Nat) : Int) = R 18 (7 * c + 4) ∧ ((crT R c : Nat) : Int) = R 18 (7 * c + 5) ∧ R 18 (7 * c + 4) < R 1 0 ∧ R 18 (7 * c + 5) < R 1 0 ∧ crF R c < 8 ∧ crT R c < 8 := by
  have hq := hc.2.2.2.2.2.2.2 c hcc
  have h0 : R 1 0 ≤ 8 := (hc.1 0 (by omega)).2
  show (((R 18 (7 * c + 4)).toNat : Nat) : Int) = _ ∧ (((R 18 (7 * c + 5)).toNat : Nat) : Int) = _ ∧ _ ∧ _ ∧ (R 18 (7 * c + 4)).toNat < 8 ∧ (R 18 (7 * c + 5)).toNat < 8
  omega
noncomputable def pOnb (R : Nat → Nat → Int) (dy ls f : F1) (c : Nat) (p since : Int) : Int := if pV (gA R) (gB R) (WW R dy ls f c p since) (gL R) (crT R c) (crF R c) < 1000000000 then pV (gA R) (gB R) (WW R dy ls f c p since) (gL R) (crT R c) (crF R c) / 1000 else -1
theorem pOn_ex : ∃ F : (Nat → Nat → Int) → F1 → F1 → F1 → Nat → Int → Int → Int, F = pOnb := ⟨pOnb, rfl⟩
/-- what is owed on the cheapest way, -1 without one; not to be unfolded -/
noncomputable def pOn : (Nat → Nat → Int) → F1 → F1 → F1 → Nat → Int → Int → Int := Classical.choose pOn_ex
theorem pOn_eq {R : Nat → Nat → Int} {dy ls f r : F1} {c : Nat} {p since : Int} (hc : RC R) (hcc : (c : Int) < R 1 11) (hr : Msd (gA R) (gB R) (WW R dy ls f c p since) (gL R) (crT R c) r) : pOn R dy ls f c p since = if r (crF R c) < 1000000000 then r (crF R c) / 1000 else -1 := by
  have h1 : pOn R dy ls f c p since = pOnb R dy ls f c p since := by
    show Classical.choose pOn_ex R dy ls f c p since = _
    rw [Classical.choose_spec pOn_ex]
  rw [h1]
  unfold pOnb
  rw [pV_eq ((TT_ok hc hcc).lks hc) hr (cFT_ok hc hcc).2.2.2.2.1]
theorem pOn_le {R : Nat → Nat → Int} {dy ls f : F1} {c : Nat} {p since : Int} (hc : RC R) (hcc : (c : Int) < R 1 11) : -1 ≤ pOn R dy ls f c p since ∧ pOn R dy ls f c p since ≤ 411642 := by
  have hL := (TT_ok (dy := dy) (ls := ls) (f := f) (p := p) (since := since) hc hcc).lks hc
  obtain ⟨r, hr⟩ := Msd.ex (g := crT R c) hL
  have h8 := (cFT_ok hc hcc).2.2.2.2.1
  rw [pOn_eq hc hcc hr]
  have h0 := hr.1.2.1 (crF R c) h8
  by_cases z : r (crF R c) < 1000000000
  · rw [if_pos z]
    have := hr.lt hL h8 z
    omega
  · rw [if_neg z]; omega
theorem c_onWay {h : Nat} {R : Nat → Nat → Int} {dy ls f : F1} {iv : IV} {rv : RV} {c : Nat} {p since : Int} {K : Int → IV → Prop} (hh : h = 2 ∨ h = 21) (h6 : gR rv 51 6 = h) (h47 : gR rv 47 3 = h) (C : CS h R dy ls f iv) (hc : RC R) (hs : Sup f) (hcc : (c : Int) < R 1 11) (hp : 0 ≤ p ∧ p < R 1 0)
    (hK : ∀ (iv' : IV) (r : F1), (∀ k j, ¬ (49 ≤ k ∧ k ≤ 50) → ¬ (54 ≤ k ∧ k ≤ 62) → ¬ (k = 51 ∧ j = 11) → iv' k j = iv k j) → (∀ e, e < gL R → iv' 49 e = WW R dy ls f c p since e) → (∀ v, v < 8 → iv' 50 v = r v) → Msd (gA R) (gB R) (WW R dy ls f c p since) (gL R) (crT R c) r → K (pOn R dy ls f c p since) iv') : wp_X1_owedOnWay c p since iv rv K := by
  have h11 : R 1 11 ≤ 6 := (hc.1 11 (by omega)).2
  have hG := TT_ok (dy := dy) (ls := ls) (f := f) (p := p) (since := since) hc hcc
  obtain ⟨c1, c2, c3, c4, c5, c6⟩ := cFT_ok hc hcc
  unfold wp_X1_owedOnWay
  rw [h47]
  refine c_ofCart (w := 6) C.1 (by omega) (by omega) ?_
  refine c_sit hh h6 C hc (fun iv1 fr1 hd hW => ?_)
  have C1 : CS h R dy ls f iv1 := C.congr hh fun k j hkj => fr1 k j (by omega) (by omega)
  refine c_hear hh h6 C1 hc hs hd hW hcc hp (fun iv2 fr2 hB e3 e4 hF => ?_)
  have C2 : CS h R dy ls f iv2 := C1.congr hh fun k j hkj => fr2 k j (by omega)
  have H2 : CH R dy ls f (R 18 (7 * c + 6)) since c (bGo R dy ls f (R 18 (7 * c + 6)) p) iv2 := by
    refine ⟨fun g hg => ?_, e3, e4, hF⟩
    obtain ⟨w1, w2', w3, w4⟩ := hW g hg
    exact ⟨(fr2 _ _ (by omega)).trans w1, (fr2 _ _ (by omega)).trans w2', (fr2 _ _ (by omega)).trans w3, (fr2 _ _ (by omega)).trans w4⟩
  refine c_ofCart (w := 5) C2.1 (by omega) (by omega) ?_
  rw [← c2]
  refine c_measure (T := TT R dy ls f c p since) (W := WW R dy ls f c p since) hh h6 C2 hc H2 hcc (by omega) (fun _ => rfl) hG (fun iv5 r fr5 h49 h50 hr => ?_)
  have C5 : CS h R dy ls f iv5 := C2.congr hh fun k j hkj => fr5 k j (by omega)
  refine c_ofCart (w := 4) C5.1 (by omega) (by omega) ?_
  have r0 := hr.1.2.1 (crF R c) c5
  have e50 : iv5 50 (R 18 (7 * c + 4)).toNat = r (crF R c) := h50 (crF R c) c5
  have fin := hK iv5 r (fun k j q1 q2 q3 => by rw [fr5 _ _ q1, fr2 _ _ (by omega), fr1 _ _ (by omega) q3]) h49 h50 hr
  rw [pOn_eq hc hcc hr] at fin
  refine ⟨⟨by omega, by omega⟩, fun x8 e8 => ?_⟩
  rw [e50] at e8
  subst e8
  refine ⟨fun z => ?_, fun z => ?_⟩
  · rw [if_pos z] at fin
    rw [Int.tdiv_eq_ediv_of_nonneg r0.1, w32_id (by omega) (by omega)]
    exact fin
  · rw [if_neg z] at fin
    exact fin
theorem c_byOwner {h : Nat} {R : Nat → Nat → Int} {dy ls f : F1} {iv : IV} {rv : RV} {c : Nat} {K : Int → IV → Prop} (hh : h = 2 ∨ h = 21) (h6 : gR rv 51 6 = h) (h47 : gR rv 47 3 = h) (C : CS h R dy ls f iv) (hc : RC R) (hs : Sup f) (hcc : (c : Int) < R 1 11)
    (hK : ∀ (iv' : IV) (r : F1), (∀ k j, ¬ (49 ≤ k ∧ k ≤ 50) → ¬ (54 ≤ k ∧ k ≤ 62) → ¬ (k = 51 ∧ j = 11) → iv' k j = iv k j) → (∀ e, e < gL R → iv' 49 e = WW R dy ls f c (R 2 (mn R c)) (R 3 (mn R c)) e) → (∀ v, v < 8 → iv' 50 v = r v) → Msd (gA R) (gB R) (WW R dy ls f c (R 2 (mn R c)) (R 3 (mn R c))) (gL R) (crT R c) r → K (pOn R dy ls f c (R 2 (mn R c)) (R 3 (mn R c))) iv') : wp_X1_owedByOwner c iv rv K := by
  have h11 : R 1 11 ≤ 6 := (hc.1 11 (by omega)).2
  obtain ⟨o1, o2, o3, o4, o5⟩ := mn_ok hc hcc
  have tm : (R 18 (7 * c)).toNat = mn R c := rfl
  unfold wp_X1_owedByOwner
  rw [h47]
  refine c_ofCart (w := 0) C.1 (by omega) (by omega) ?_
  simp only [Nat.add_zero]
  refine ⟨⟨by omega, by omega⟩, ⟨by omega, by omega⟩, ?_⟩
  rw [tm, C.1 2 _ (by omega), C.1 3 _ (by omega)]
  exact c_onWay hh h6 h47 C hc hs hcc ⟨o4, o5⟩ hK
theorem m_onWay {R : Nat → Nat → Int} {dy ls f : F1} {law : Nat} {iv : IV} {rv : RV} {p since : Int} {c : Nat} {K : Int → IV → Prop} (g1 : rv 66 3 = some 80) (S : MS R dy ls f law iv) (hc : RC R) (hs : Sup f) (hD : Dys R dy) (hcc : (c : Int) < R 1 11) (hp : 0 ≤ p ∧ p < R 1 0) (e21 : iv 66 21 = p) (e22 : iv 66 22 = since)
    (hK : ∀ iv' ret, (∀ k j, ¬ (70 ≤ k ∧ k ≤ 72) → ¬ (75 ≤ k ∧ k ≤ 78) → ¬ (k = 66 ∧ (j = 26 ∨ (36 ≤ j ∧ j ≤ 38))) → iv' k j = iv k j) → ((pOn R dy ls f c p since = -1 ∧ ret = 0) ∨ (0 ≤ pOn R dy ls f c p since ∧ ret = 1 ∧ iv' 66 37 = pOn R dy ls f c p since)) → K ret iv') : wp_X12_finds c iv rv K := by
  have hG := TT_ok (dy := dy) (ls := ls) (f := f) (p := p) (since := since) hc hcc
  have hL := hG.lks hc
  obtain ⟨c1, c2, c3, c4, c5, c6⟩ := cFT_ok hc hcc
  obtain ⟨r, hr⟩ := Msd.ex (g := crT R c) hL
  have r0 := hr.1.2.1 (crF R c) c5
  refine m_finds (T := TT R dy ls f c p since) (W := WW R dy ls f c p since) (s := crF R c) (g := crT R c) g1 S hc hs hD hcc hp e21 e22 (fun _ => rfl) hG c1 c2 hr (fun iv' ret fr E hf => hK iv' ret fr ?_)
  rw [pOn_eq hc hcc hr]
  rcases hf with ⟨f1, f2⟩ | ⟨f1, f2, f3, f4, f5, -⟩
  · rw [if_neg (by omega)]
    exact Or.inl ⟨rfl, f2⟩
  · rw [if_pos f1]
    exact Or.inr ⟨by omega, f2, by omega⟩
/-! COIN -/
noncomputable def pCoin (R : Nat → Nat → Int) (dy ls f : F1) : Nat → Int
  | 0 => 0
  | m + 1 => pCoin R dy ls f m + max 0 (pOn R dy ls f m (R 2 (mn R m)) (R 3 (mn R m)))
theorem pCoin_le {R : Nat → Nat → Int} {dy ls f : F1} (hc : RC R) : ∀ m : Nat, (m : Int) ≤ R 1 11 → 0 ≤ pCoin R dy ls f m ∧ pCoin R dy ls f m ≤ 411642 * m
  | 0, _ => ⟨Int.le_refl _, Int.le_refl _⟩
  | m + 1, h => by
    have ih := pCoin_le (dy := dy) (ls := ls) (f := f) hc m (by omega)
    have a := pOn_le (dy := dy) (ls := ls) (f := f) (p := R 2 (mn R m)) (since := R 3 (mn R m)) hc (show (m : Int) < R 1 11 by omega)
    show 0 ≤ pCoin R dy ls f m + max 0 (pOn R dy ls f m (R 2 (mn R m)) (R 3 (mn R m))) ∧ pCoin R dy ls f m + max 0 (pOn R dy ls f m (R 2 (mn R m)) (R 3 (mn R m))) ≤ _
    omega
theorem c_coin {h : Nat} {R : Nat → Nat → Int} {dy ls f : F1} {iv : IV} {rv : RV} {K : Int → IV → Prop} (hh : h = 2 ∨ h = 21) (h6 : gR rv 51 6 = h) (h47 : gR rv 47 3 = h) (C : CS h R dy ls f iv) (hc : RC R) (hs : Sup f)
    (hK : ∀ iv', (∀ k j, ¬ (49 ≤ k ∧ k ≤ 50) → ¬ (54 ≤ k ∧ k ≤ 62) → ¬ (k = 51 ∧ j = 11) → iv' k j = iv k j) → K (pCoin R dy ls f (R 1 11).toNat) iv') : wp_X1_allCoin iv rv K := by
  have h11 : 0 ≤ R 1 11 ∧ R 1 11 ≤ 6 := hc.1 11 (by omega)
  intro P hP
  have key : ∀ d m : Nat, m + d = (R 1 11).toNat → ∀ (x a : Int) (iv' : IV), x = m → a = pCoin R dy ls f m → (∀ k j, ¬ (49 ≤ k ∧ k ≤ 50) → ¬ (54 ≤ k ∧ k ≤ 62) → ¬ (k = 51 ∧ j = 11) → iv' k j = iv k j) → P a x iv' := by
    intro d
    induction d with
    | zero =>
      intro m hm x a iv' ex ea fr
      have e11 : iv' (gR rv 47 3 + 1) 11 = R 1 11 := by rw [h47, fr _ _ (by omega) (by omega) (by omega)]; exact C.1 1 11 (by omega)
      refine hP _ _ _ ⟨fun _ => ?_, fun z => by omega⟩
      rw [ea, show m = (R 1 11).toNat by omega]
      exact hK iv' fr
    | succ d ih =>
      intro m hm x a iv' ex ea fr
      subst ex
      have ew : Unit → w32 ((m : Int) + 1) = (m : Int) + 1 := fun _ => w32_id (by omega) (by omega)
      have C' : CS h R dy ls f iv' := C.congr hh fun k j q => fr k j (by omega) (by omega) (by omega)
      have e11 : iv' (gR rv 47 3 + 1) 11 = R 1 11 := by rw [h47]; exact C'.1 1 11 (by omega)
      have hcm : (m : Int) < R 1 11 := by omega
      obtain ⟨o1, o2, o3, o4, o5⟩ := mn_ok hc hcm
      have tm : (R 18 (7 * m)).toNat = mn R m := rfl
      have cl := pCoin_le (dy := dy) (ls := ls) (f := f) hc m (by omega)
      have pl := pOn_le (dy := dy) (ls := ls) (f := f) (p := R 2 (mn R m)) (since := R 3 (mn R m)) hc hcm
      have nx : pCoin R dy ls f (m + 1) = pCoin R dy ls f m + max 0 (pOn R dy ls f m (R 2 (mn R m)) (R 3 (mn R m))) := rfl
      refine hP _ _ _ ⟨fun z => by omega, fun _ => ?_⟩
      rw [h47]
      refine c_ofCart (w := 0) C'.1 (by omega) (by omega) ?_
      simp only [Nat.add_zero]
      refine ⟨⟨by omega, by omega⟩, ⟨by omega, by omega⟩, ?_⟩
      rw [tm, C'.1 2 _ (by omega), C'.1 3 _ (by omega)]
      refine c_onWay hh h6 h47 C' hc hs hcm ⟨o4, o5⟩ (fun iv2 r fr2 _ _ _ => ?_)
      intro r7 e7 x8 e8
      rw [ew ()]
      refine ih (m + 1) (by omega) _ _ iv2 (by omega) ?_ (fun k j q1 q2 q3 => (fr2 k j q1 q2 q3).trans (fr k j q1 q2 q3))
      rw [nx, e8, e7, ea]
      exact w32_id (by omega) (by omega)
  exact key (R 1 11).toNat 0 (by omega) _ _ iv rfl rfl (fun _ _ _ _ _ => rfl)
theorem m_coin {R : Nat → Nat → Int} {dy ls f : F1} {law : Nat} {iv : IV} {rv : RV} {K : Int → IV → Prop} (g1 : rv 66 3 = some 80) (S : MS R dy ls f law iv) (hc : RC R) (hs : Sup f) (hD : Dys R dy)
    (hK : ∀ iv', (∀ k j, ¬ (70 ≤ k ∧ k ≤ 72) → ¬ (75 ≤ k ∧ k ≤ 78) → ¬ (k = 66 ∧ 21 ≤ j ∧ j ≤ 26) → ¬ (k = 66 ∧ 36 ≤ j ∧ j ≤ 38) → iv' k j = iv k j) → K (pCoin R dy ls f (R 1 11).toNat) iv') : wp_X12_coins iv rv K := by
  have h11 : 0 ≤ R 1 11 ∧ R 1 11 ≤ 6 := hc.1 11 (by omega)
  intro P hP
  have key : ∀ d m : Nat, m + d = (R 1 11).toNat → ∀ (x a : Int) (iv' : IV), x = m → a = pCoin R dy ls f m → (∀ k j, ¬ (70 ≤ k ∧ k ≤ 72) → ¬ (75 ≤ k ∧ k ≤ 78) → ¬ (k = 66 ∧ 21 ≤ j ∧ j ≤ 26) → ¬ (k = 66 ∧ 36 ≤ j ∧ j ≤ 38) → iv' k j = iv k j) → P a x iv' := by
    intro d
    induction d with
    | zero =>
      intro m hm x a iv' ex ea fr
      have e11 : iv' 80 11 = R 1 11 := by rw [fr _ _ (by omega) (by omega) (by omega) (by omega)]; exact S.1.1 11 (by omega)
      refine hP _ _ _ ⟨g1, fun _ => ?_, fun z => by omega⟩
      rw [ea, show m = (R 1 11).toNat by omega]
      exact hK iv' fr
    | succ d ih =>
      intro m hm x a iv' ex ea fr
      subst ex
      have ew : Unit → w32 ((m : Int) + 1) = (m : Int) + 1 := fun _ => w32_id (by omega) (by omega)
      have tm : ((m : Int)).toNat = m := Int.toNat_natCast m
      have S' : MS R dy ls f law iv' := S.congr fun k j q => fr k j (by omega) (by omega) (by omega) (by omega)
      have e11 : iv' 80 11 = R 1 11 := S'.1.1 11 (by omega)
      have hcm : (m : Int) < R 1 11 := by omega
      obtain ⟨o1, o2, o3, o4, o5⟩ := mn_ok hc hcm
      have e100 : iv' 100 m = R 18 (7 * m) := S'.1.2.2.2.2.2.2.2 m hcm 0 (by omega)
      have cl := pCoin_le (dy := dy) (ls := ls) (f := f) hc m (by omega)
      have pl := pOn_le (dy := dy) (ls := ls) (f := f) (p := R 2 (mn R m)) (since := R 3 (mn R m)) hc hcm
      have nx : pCoin R dy ls f (m + 1) = pCoin R dy ls f m + max 0 (pOn R dy ls f m (R 2 (mn R m)) (R 3 (mn R m))) := rfl
      apply hP
      unfold bd_X12_coins_4 bd_X12_coins_43
      rw [tm, e100, ← o1, ew ()]
      refine ⟨g1, fun z => by omega, fun _ => ⟨⟨by omega, by omega⟩, ?_⟩⟩
      refine m_names g1 S'.1 hc o2 (fun iv3 fr3 e21 e22 => ?_)
      have S3 : MS R dy ls f law iv3 := S'.congr fun k j q => fr3 k j (by omega)
      refine m_onWay (p := R 2 (mn R m)) (since := R 3 (mn R m)) g1 S3 hc hs hD hcm ⟨o4, o5⟩ e21 e22 (fun iv5 ret fr5 hr => ?_)
      have f5 : ∀ k j, ¬ (70 ≤ k ∧ k ≤ 72) → ¬ (75 ≤ k ∧ k ≤ 78) → ¬ (k = 66 ∧ 21 ≤ j ∧ j ≤ 26) → ¬ (k = 66 ∧ 36 ≤ j ∧ j ≤ 38) → iv5 k j = iv k j := fun k j q1 q2 q3 q4 => by
        rw [fr5 _ _ q1 q2 (by omega), fr3 _ _ (by omega), fr _ _ q1 q2 q3 q4]
      have go : ∀ b : Int, b = pCoin R dy ls f (m + 1) → P b ((m : Int) + 1) iv5 := fun b eb => ih (m + 1) (by omega) _ _ iv5 (by omega) eb f5
      rcases hr with ⟨r1, r2⟩ | ⟨r1, r2, r3⟩
      · refine ⟨fun _ => go a ?_, fun z => absurd r2 z⟩
        rw [nx, ea]; omega
      · refine ⟨fun z => by omega, fun _ x7 e7 => go x7 ?_⟩
        rw [e7, r3, nx, ea, w32_id (by omega) (by omega)]
        omega
  exact key (R 1 11).toNat 0 (by omega) _ _ iv rfl rfl (fun _ _ _ _ _ _ => rfl)
