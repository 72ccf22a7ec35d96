/-! THE REFERENCE: finds -/
def S0 (r : F1) (s : Nat) (iv : IV) : Prop := iv 66 36 ≤ 0 ∨ (r s < iv 66 37 * 1000 + iv 66 38 ∧ 0 ≤ iv 66 38 ∧ iv 66 38 < 1000)
def S1 (R : Nat → Nat → Int) (T W : F1) (K : Nat) (G : Nat → Nat) (iv : IV) : Prop := iv 66 36 = ((K + 1 : Nat) : Int) ∧ iv 66 37 = Sm G (Fo R T W) K ∧ iv 66 38 = Sm G (Ff R W) K ∧ ∀ j, j ≤ K → iv 78 j = (G j : Nat)
theorem S0.congr {r : F1} {s : Nat} {iv iv' : IV} (h : S0 r s iv) (he : ∀ j, iv' 66 j = iv 66 j) : S0 r s iv' := by
  unfold S0 at *
  rw [he, he, he]; exact h
theorem S1.congr {R : Nat → Nat → Int} {T W : F1} {K : Nat} {G : Nat → Nat} {iv iv' : IV} (h : S1 R T W K G iv) (he : ∀ k j, (k = 66 ∨ k = 78) → iv' k j = iv k j) : S1 R T W K G iv' := by
  obtain ⟨h1, h2, h3, h4⟩ := h
  exact ⟨(he _ _ (Or.inl rfl)).trans h1, (he _ _ (Or.inl rfl)).trans h2, (he _ _ (Or.inl rfl)).trans h3, fun j hj => (he _ _ (Or.inr rfl)).trans (h4 j hj)⟩
def OnG (K : Nat) (G : Nat → Nat) (n : Nat) (wk : Nat → Nat) : Prop := n ≤ K + 1 ∧ ∀ j, j < n → wk j = G j
def Bse (R : Nat → Nat → Int) (T W : F1) (r : F1) (s n : Nat) (wk : Nat → Nat) : Prop := wk 0 = s ∧ r s ≤ Xw R T W wk n + r (wk (n - 1))
def Off (R : Nat → Nat → Int) (T W : F1) (r : F1) (s n : Nat) (wk : Nat → Nat) : Prop := r s < Xw R T W wk n + r (wk (n - 1))
theorem S01 {R : Nat → Nat → Int} {T W : F1} {g s K : Nat} {r : F1} {G : Nat → Nat} {iv : IV} (h : GP (gA R) (gB R) W (gL R) r s g K G) (hG : GT R T W) (hr : r g = 0) (h0 : S0 r s iv) (h1 : S1 R T W K G iv) : False := by
  have e := h.sum hG K (Nat.le_refl _)
  rw [h.2.1, hr] at e
  obtain ⟨a, b, c, -⟩ := h1
  unfold S0 at h0
  rw [a, b, c] at h0
  omega
theorem On_eq {R : Nat → Nat → Int} {T W : F1} {g s K n : Nat} {r : F1} {G wk : Nat → Nat} (h : GP (gA R) (gB R) W (gL R) r s g K G) (hG : GT R T W) (hn : 1 ≤ n) (ho : OnG K G n wk) : Xw R T W wk n + r (wk (n - 1)) = r s := by
  have e := h.sum hG (n - 1) (by have := ho.1; omega)
  unfold Xw
  rw [Sm_congr (wk := G) (wk' := wk) (F := Fo R T W) (n - 1) (fun j hj => ho.2 j (by omega)), Sm_congr (wk := G) (wk' := wk) (F := Ff R W) (n - 1) (fun j hj => ho.2 j (by omega)), ho.2 (n - 1) (by omega)]
  exact e
theorem step_ge {R : Nat → Nat → Int} {T W : F1} {g n p : Nat} {r : F1} {wk : Nat → Nat} (hr : Msd (gA R) (gB R) W (gL R) g r) (hG : GT R T W) (hn : 1 ≤ n) (hb : 0 ≤ bl (gA R) (gB R) W (wk (n - 1)) p (gL R)) :
    Xw R T W wk n + r (wk (n - 1)) ≤ Xw R T W (ext wk n p) (n + 1) + r p ∧ (¬ Cd (gA R) (gB R) W (gL R) r (wk (n - 1)) p → Xw R T W wk n + r (wk (n - 1)) < Xw R T W (ext wk n p) (n + 1) + r p) := by
  obtain ⟨b1, b2, -⟩ := bl_jn hb
  have f := hr.2.j b1 b2
  rw [Xw_ext hn hG hb]
  refine ⟨by omega, fun hn2 => ?_⟩
  have : r p + W (bl (gA R) (gB R) W (wk (n - 1)) p (gL R)).toNat ≠ r (wk (n - 1)) := fun e => hn2 ⟨hb, e⟩
  omega
def Fnd (R : Nat → Nat → Int) (W : F1) (r : F1) (s g : Nat) (iv : IV) (ret : Int) : Prop :=
  (r s = 1000000000 ∧ ret = 0) ∨ (r s < 1000000000 ∧ ret = 1 ∧ iv 66 37 * 1000 + iv 66 38 = r s ∧ 0 ≤ iv 66 38 ∧ iv 66 38 < 1000 ∧ ∃ (K : Nat) (G : Nat → Nat), GP (gA R) (gB R) W (gL R) r s g K G ∧ iv 66 36 = ((K + 1 : Nat) : Int) ∧ ∀ j, j ≤ K → iv 78 j = (G j : Nat))
theorem m_search {R : Nat → Nat → Int} {T W : F1} {iv : IV} {rv : RV} {c s g : Nat} {r : F1} {K : Int → IV → Prop} (g1 : rv 66 3 = some 80) (hM : RM R iv) (hc : RC R) (E : EM R T W (gL R) iv) (hcc : (c : Int) < R 1 11) (hG : GT R T W) (hs : ((s : Nat) : Int) < R 1 0) (hg : ((g : Nat) : Int) = R 18 (7 * c + 5)) (hr : Msd (gA R) (gB R) W (gL R) g r) (e36 : iv 66 36 = 0) (e77 : iv 77 0 = (s : Nat))
    (hK : ∀ iv' ret, Df iv iv' → Fnd R W r s g iv' ret → K ret iv') : wl_X12_finds_29 c 1 0 iv rv K := by
  have hL := hG.lks hc
  have h0 : 0 ≤ R 1 0 ∧ R 1 0 ≤ 8 := hc.1 0 (by omega)
  have hs8 : s < 8 := by omega
  obtain ⟨N, hN⟩ := Int.eq_ofNat_of_zero_le h0.1
  have rg := hr.1.1
  have gd1 : Gd R W 1 (fun _ => s) := ⟨fun j hj => hs, fun i j hi hj _ => by omega, fun j hj => by omega⟩
  intro P hP
  by_cases hf : r s < 1000000000
  · have ckb := ck_self (r := r) (p := s) 8 hs8
    obtain ⟨Kk, G, -, hGP⟩ := GP.ex hr hL 7 s hs8 hf (by omega) (Nat.le_refl _)
    have gdG := hGP.gd hL hc hs
    have fin := m_dfs (T := T) (W := W) (iv0 := iv) (c := c) (gl := g) (N := N) (K := K) (P := P)
      (Pre := fun n wk v => Bse R T W r s n wk ∧ (S1 R T W Kk G v ∨ (S0 r s v ∧ (Off R T W r s n wk ∨ OnG Kk G n wk))))
      (Post := fun n wk ve v => S1 R T W Kk G v ∨ (S0 r s ve ∧ S0 r s v ∧ Off R T W r s n wk))
      (Mid := fun n wk p ve v => Bse R T W r s n wk ∧ (S1 R T W Kk G v ∨ (S0 r s ve ∧ S0 r s v ∧ (Off R T W r s n wk ∨ (OnG Kk G n wk ∧ n ≤ Kk ∧ p ≤ G n)))))
      g1 hM hc E hcc hN.symm hg hP ?_ ?_ ?_ ?_ ?_ ?_ 8 1 rfl (fun _ => s) iv (Nat.le_refl _) gd1 (fun _ _ _ _ => rfl) (fun j hj => by rw [show j = 0 by omega]; exact e77) ⟨⟨rfl, ?_⟩, Or.inr ⟨Or.inl (by rw [e36]; exact Int.le_refl _), Or.inr ⟨by omega, fun j hj => by rw [show j = 0 by omega]; exact hGP.1.symm⟩⟩⟩ ?_
    · exact fin
    · -- arrives
      intro n wk v K' gd hn hl hD hw hp hK'
      have bd := Sm_le gd hc hG (n - 1) (by omega)
      have n8 := gd.le hc
      have M' : RM R v := hM.congr fun k j hk => hD k j (by omega) (by omega)
      have E' : EM R T W (gL R) v := E.congr fun k j hk => hD k j (by omega) (by omega)
      obtain ⟨⟨b1, b2⟩, hp⟩ := hp
      rw [hl, rg] at b2
      have xw : Xw R T W wk n = Sm wk (Fo R T W) (n - 1) * 1000 + Sm wk (Ff R W) (n - 1) := rfl
      refine m_arrives g1 M' hc hG E' gd hn hw (fun _ hcond iv' fr p36 p37 p38 p78 => ?_) (fun _ hcond => ?_)
      · refine hK' iv' (fun k j q1 q2 => (fr k j (by omega) q2).trans (hD k j q1 q2)) (fun j hj => by rw [fr _ _ (by omega) (by omega)]; exact hw j hj) ?_
        rcases hp with hp | ⟨hp0, hp | hp⟩
        · exfalso
          have e := hGP.sum hG Kk (Nat.le_refl _)
          rw [hGP.2.1, rg] at e
          obtain ⟨q1, q2, q3, -⟩ := hp
          have gb := Sm_le gdG hc hG Kk (by omega)
          rw [q1, q2, q3] at hcond
          have k7 := hGP.2.2.1
          omega
        · refine Or.inr ⟨hp0, Or.inr ?_, hp⟩
          unfold Off at hp
          rw [hl, rg] at hp
          rw [p37, p38]
          omega
        · refine Or.inl ?_
          have nk : n = Kk + 1 := by
            have h1 := hp.2 (n - 1) (by omega)
            rw [hl, ← hGP.2.1] at h1
            have := hGP.inj hL (Nat.le_refl _) (show n - 1 ≤ Kk by have := hp.1; omega) h1
            omega
          subst nk
          have sc : ∀ F, Sm wk F Kk = Sm G F Kk := fun F => Sm_congr Kk (fun j hj => hp.2 j (by omega))
          rw [Nat.add_sub_cancel, sc] at p37 p38
          refine ⟨p36, p37, p38, fun j hj => ?_⟩
          rw [p78 j (by omega), hp.2 j (by omega)]
      · refine hK' v hD hw ?_
        rcases hp with hp | ⟨hp0, hp | hp⟩
        · exact Or.inl hp
        · exact Or.inr ⟨hp0, hp0, hp⟩
        · exfalso
          have e := On_eq hGP hG hn hp
          rw [hl, rg] at e
          unfold S0 at hp0
          omega
    · -- at the first place
      intro n wk v gd hn hl hp
      obtain ⟨b, hp⟩ := hp
      refine ⟨b, ?_⟩
      rcases hp with hp | ⟨hp0, hp | hp⟩
      · exact Or.inl hp
      · exact Or.inr ⟨hp0, hp0, Or.inl hp⟩
      · refine Or.inr ⟨hp0, hp0, Or.inr ⟨hp, ?_, Nat.zero_le _⟩⟩
        by_cases z : n = Kk + 1
        · exfalso
          apply hl
          rw [hp.2 (n - 1) (by omega), z, Nat.add_sub_cancel]
          exact hGP.2.1
        · have := hp.1
          omega
    · -- passed over
      intro n wk p ve v gd hn hpN hsk hm
      obtain ⟨b, hm⟩ := hm
      refine ⟨b, ?_⟩
      rcases hm with hm | ⟨h1, h2, hm | ⟨ho, hk, hle⟩⟩
      · exact Or.inl hm
      · exact Or.inr ⟨h1, h2, Or.inl hm⟩
      · refine Or.inr ⟨h1, h2, Or.inr ⟨ho, hk, ?_⟩⟩
        by_cases z : p = G n
        · exfalso
          have cd := (hGP.2.2.2.2 (n - 1) (by omega)).2.1.1
          rw [show n - 1 + 1 = n by omega, ← ho.2 (n - 1) (by omega), ← z] at cd
          rcases hsk with hsk | ⟨j, j1, j2⟩
          · omega
          · rw [ho.2 j j1, z] at j2
            have := hGP.inj hL (by omega) hk j2
            omega
        · omega
    · -- down
      intro n wk p ve v hn hpN gd hm
      obtain ⟨b, hm⟩ := hm
      have hb := gd.2.2 (n - 1) (by omega)
      rw [ext_ne (by omega), show n - 1 + 1 = n by omega, ext_eq] at hb
      obtain ⟨s1, s2⟩ := step_ge (T := T) (wk := wk) hr hG hn hb
      have b' : Bse R T W r s (n + 1) (ext wk n p) := by
        refine ⟨by rw [ext_ne (by omega)]; exact b.1, ?_⟩
        rw [Nat.add_sub_cancel, ext_eq]
        have := b.2
        omega
      refine ⟨b', ?_⟩
      rcases hm with hm | ⟨h1, h2, hm | ⟨ho, hk, hle⟩⟩
      · exact Or.inl (hm.congr fun k j q => w2_ne (by omega))
      · refine Or.inr ⟨h2.congr fun j => w2_ne (by omega), Or.inl ?_⟩
        unfold Off at hm ⊢
        rw [Nat.add_sub_cancel, ext_eq]
        omega
      · refine Or.inr ⟨h2.congr fun j => w2_ne (by omega), ?_⟩
        by_cases z : p = G n
        · refine Or.inr ⟨by omega, fun j hj => ?_⟩
          by_cases y : j = n
          · rw [y, ext_eq]; exact z
          · rw [ext_ne y]; exact ho.2 j (by omega)
        · refine Or.inl ?_
          have cd := (hGP.2.2.2.2 (n - 1) (by omega)).2.2
          rw [show n - 1 + 1 = n by omega, ← ho.2 (n - 1) (by omega)] at cd
          have := s2 (cd p (by omega))
          have := b.2
          unfold Off
          rw [Nat.add_sub_cancel, ext_eq]
          omega
    · -- up
      intro n wk p ve v v' hn hpN gd hm hpo
      obtain ⟨b, hm⟩ := hm
      refine ⟨b, ?_⟩
      rcases hpo with hpo | ⟨o1, o2, o3⟩
      · exact Or.inl hpo
      · rcases hm with hm | ⟨h1, h2, hm | ⟨ho, hk, hle⟩⟩
        · exact absurd (S01 hGP hG rg (o1.congr fun j => (w2_ne (by omega)).symm) hm) id
        · exact Or.inr ⟨h1, o2, Or.inl hm⟩
        · refine Or.inr ⟨h1, o2, Or.inr ⟨ho, hk, ?_⟩⟩
          by_cases z : p = G n
          · exfalso
            have on' : OnG Kk G (n + 1) (ext wk n p) := by
              refine ⟨by omega, fun j hj => ?_⟩
              by_cases y : j = n
              · rw [y, ext_eq]; exact z
              · rw [ext_ne y]; exact ho.2 j (by omega)
            have := On_eq hGP hG (show 1 ≤ n + 1 by omega) on'
            unfold Off at o3
            omega
          · omega
    · -- behind the last
      intro n wk ve v hn hm
      obtain ⟨b, hm⟩ := hm
      rcases hm with hm | ⟨h1, h2, hm | ⟨ho, hk, hle⟩⟩
      · exact Or.inl hm
      · exact Or.inr ⟨h1, h2, hm⟩
      · exfalso
        have := gdG.1 n (by omega)
        omega
    · show r s ≤ Xw R T W (fun _ => s) 1 + r s
      have : Xw R T W (fun _ => s) 1 = 0 := by unfold Xw; show (0 : Int) * 1000 + 0 = 0; decide
      omega
    · intro iv' q1 q2 q3
      refine hP _ _ _ _ ⟨fun _ => ?_, fun z => absurd (by decide) z⟩
      rcases q3 with ⟨w1, w2', w3, w4⟩ | ⟨-, -, q3⟩
      · have e := hGP.sum hG Kk (Nat.le_refl _)
        rw [hGP.2.1, rg] at e
        have gb := Sm_le gdG hc hG Kk (by omega)
        have k7 := hGP.2.2.1
        refine ⟨fun z => by omega, fun z => hK iv' 1 q1 (Or.inr ⟨hf, rfl, by rw [w2', w3]; omega, by rw [w3]; omega, by rw [w3]; omega, Kk, G, hGP, w1, w4⟩)⟩
      · exfalso
        have : Xw R T W (fun _ => s) 1 = 0 := by unfold Xw; show (0 : Int) * 1000 + 0 = 0; decide
        unfold Off at q3
        rw [this] at q3
        have q3' : r s < 0 + r s := q3
        omega
  · have hf' : r s = 1000000000 := by
      have := (hr.1.2.1 s hs8).2
      omega
    refine m_dfs (T := T) (W := W) (iv0 := iv) (c := c) (gl := g) (N := N) (K := K) (P := P)
      (Pre := fun n wk v => r (wk (n - 1)) = 1000000000 ∧ v 66 36 = 0)
      (Post := fun n wk ve v => v 66 36 = 0)
      (Mid := fun n wk p ve v => r (wk (n - 1)) = 1000000000 ∧ v 66 36 = 0)
      g1 hM hc E hcc hN.symm hg hP ?_ ?_ ?_ ?_ ?_ ?_ 8 1 rfl (fun _ => s) iv (Nat.le_refl _) gd1 (fun _ _ _ _ => rfl) (fun j hj => by rw [show j = 0 by omega]; exact e77) ⟨hf', e36⟩ ?_
    · intro n wk v K' gd hn hl hD hw hp hK'
      have := hp.1
      rw [hl, rg] at this
      exact absurd this (by decide)
    · intro n wk v gd hn hl hp; exact hp
    · intro n wk p ve v gd hn hpN hsk hm; exact hm
    · intro n wk p ve v hn hpN gd hm
      have hb := gd.2.2 (n - 1) (by omega)
      rw [ext_ne (by omega), show n - 1 + 1 = n by omega, ext_eq] at hb
      obtain ⟨b1, b2, -⟩ := bl_jn hb
      refine ⟨?_, by rw [w2_ne (by omega)]; exact hm.2⟩
      rw [Nat.add_sub_cancel, ext_eq]
      exact hr.far hL b1 b2 hm.1
    · intro n wk p ve v v' hn hpN gd hm hpo; exact ⟨hm.1, hpo⟩
    · intro n wk ve v hn hm; exact hm.2
    · intro iv' q1 q2 q3
      have q3' : iv' 66 36 = 0 := q3
      exact hP _ _ _ _ ⟨fun _ => ⟨fun z => hK iv' 0 q1 (Or.inl ⟨hf', rfl⟩), fun z => absurd (by rw [q3']; exact Int.le_refl _) z⟩, fun z => absurd (by decide) z⟩
theorem m_finds {R : Nat → Nat → Int} {dy ls f T W r : F1} {law : Nat} {iv : IV} {rv : RV} {p since : Int} {c s g : Nat} {K : Int → IV → Prop} (g1 : rv 66 3 = some 80) (S : MS R dy ls f law iv) (hc : RC R) (hs : Sup f) (hD : Dys R dy) (hcc : (c : Int) < R 1 11) (hp : 0 ≤ p ∧ p < R 1 0) (e21 : iv 66 21 = p) (e22 : iv 66 22 = since)
    (hT : ∀ e, T e = tl R dy ls f (R 18 (7 * c + 6)) since c (bGo R dy ls f (R 18 (7 * c + 6)) p) e) (hG : GT R T W) (es : ((s : Nat) : Int) = R 18 (7 * c + 4)) (eg : ((g : Nat) : Int) = R 18 (7 * c + 5)) (hr : Msd (gA R) (gB R) W (gL R) g r)
    (hK : ∀ iv' ret, (∀ k j, ¬ (70 ≤ k ∧ k ≤ 72) → ¬ (75 ≤ k ∧ k ≤ 78) → ¬ (k = 66 ∧ (j = 26 ∨ (36 ≤ j ∧ j ≤ 38))) → iv' k j = iv k j) → EM R T W (gL R) iv' → Fnd R W r s g iv' ret → K ret iv') : wp_X12_finds c iv rv K := by
  have h11 : R 1 11 ≤ 6 := (hc.1 11 (by omega)).2
  have hq := hc.2.2.2.2.2.2.2 c hcc
  have tc : ((c : Int)).toNat = c := Int.toNat_natCast c
  refine m_weighs g1 S hc hs hD hcc hp e21 e22 hT hG (fun iv1 fr1 E1 => ?_)
  intro iv2 e2
  refine ⟨g1, ⟨by omega, by omega⟩, fun iv4 e4 => ?_⟩
  have f2 : ∀ k j, ¬ (k = 66 ∧ j = 36) → iv2 k j = iv1 k j := fun k j q => by rw [e2, w2_ne q]
  have i104 : iv2 104 c = (s : Nat) := by
    rw [f2 _ _ (by omega), fr1 _ _ (by omega) (by omega) (by omega), es]
    exact S.1.2.2.2.2.2.2.2 c hcc 4 (by omega)
  rw [tc, i104] at e4
  have f4 : ∀ k j, ¬ (k = 66 ∧ j = 36) → ¬ (k = 77 ∧ j = 0) → iv4 k j = iv1 k j := fun k j q1 q2 => by rw [e4, w2_ne q2, f2 _ _ q1]
  refine m_search (T := T) (W := W) (r := r) (s := s) (g := g) g1 (S.1.congr fun k j hk => ?_) hc (E1.congr fun k j hk => f4 k j (by omega) (by omega)) hcc hG (by omega) eg hr ?_ ?_ (fun iv' ret hdf hf => hK iv' ret (fun k j q1 q2 q3 => ?_) ((E1.congr fun k j hk => f4 k j (by omega) (by omega)).congr fun k j hk => hdf k j (by omega) (by omega)) hf)
  · rw [f4 _ _ (by omega) (by omega), fr1 _ _ (by omega) (by omega) (by omega)]
  · rw [e4, w2_ne (by omega), e2, w2_eq]
  · rw [e4, w2_eq]
  · rw [hdf _ _ (by omega) (by omega), f4 _ _ (by omega) (by omega), fr1 _ _ (by omega) (by omega) (by omega)]
