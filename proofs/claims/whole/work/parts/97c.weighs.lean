/-! THE REFERENCE: weighs, isWalked, arrives -/
/-- the reference's table of links -/
def EM (R : Nat → Nat → Int) (T W : F1) (m : Nat) (iv : IV) : Prop := ∀ p q, p < 8 → q < 8 → iv 75 (8 * p + q) = bl (gA R) (gB R) W p q m ∧ (0 ≤ bl (gA R) (gB R) W p q m → iv 76 (8 * p + q) = T (bl (gA R) (gB R) W p q m).toNat)
theorem EM.congr {R : Nat → Nat → Int} {T W : F1} {m : Nat} {iv iv' : IV} (h : EM R T W m iv) (he : ∀ k j, (k = 75 ∨ k = 76) → iv' k j = iv k j) : EM R T W m iv' := fun p q hp hq => by
  rw [he _ _ (Or.inl rfl), he _ _ (Or.inr rfl)]
  exact h p q hp hq
theorem m_weighs {R : Nat → Nat → Int} {dy ls f T W : F1} {law : Nat} {iv : IV} {rv : RV} {p since : Int} {c : Nat} {K : IV → Prop} (g1 : rv 66 3 = some 80) (S : MS R dy ls f law iv) (hc : RC R) (hs : Sup f) (hD : Dys R dy) (hcc : (c : Int) < R 1 11) (hp : 0 ≤ p ∧ p < R 1 0) (e21 : iv 66 21 = p) (e22 : iv 66 22 = since)
    (hT : ∀ e, T e = tl R dy ls f (R 18 (7 * c + 6)) since c (bGo R dy ls f (R 18 (7 * c + 6)) p) e) (hG : GT R T W)
    (hK : ∀ iv', (∀ k j, ¬ (70 ≤ k ∧ k ≤ 72) → ¬ (75 ≤ k ∧ k ≤ 76) → ¬ (k = 66 ∧ j = 26) → iv' k j = iv k j) → EM R T W (gL R) iv' → K iv') : wp_X12_weighs c iv rv K := by
  have h11 : R 1 11 ≤ 6 := (hc.1 11 (by omega)).2
  have h0 : R 1 0 ≤ 8 := (hc.1 0 (by omega)).2
  obtain ⟨L1, L2⟩ := gL_ok hc
  have tc : ((c : Int)).toNat = c := Int.toNat_natCast c
  have d6 : iv 106 c = R 18 (7 * c + 6) := S.1.2.2.2.2.2.2.2 c hcc 6 (by omega)
  refine ⟨g1, ⟨by omega, by omega⟩, fun x2 ex => ?_⟩
  rw [tc, d6] at ex
  subst ex
  have links : ∀ iv0, (∀ k j, ¬ (70 ≤ k ∧ k ≤ 72) → ¬ (75 ≤ k ∧ k ≤ 76) → ¬ (k = 66 ∧ j = 26) → iv0 k j = iv k j) → EM R T W 0 iv0 → wl_X12_weighs_33 c (R 18 (7 * c + 6)) 0 iv0 rv K := by
    intro iv0 fr0 E0 P hP
    have key : ∀ d m : Nat, m + d = gL R → ∀ (x : Int) (iv' : IV), x = m → (∀ k j, ¬ (70 ≤ k ∧ k ≤ 72) → ¬ (75 ≤ k ∧ k ≤ 76) → ¬ (k = 66 ∧ j = 26) → iv' k j = iv k j) → EM R T W m iv' → P c (R 18 (7 * c + 6)) x iv' := by
      intro d
      induction d with
      | zero =>
        intro m hm x iv' ex fr E'
        obtain rfl : m = gL R := by omega
        have e13 : iv' 80 13 = R 1 3 + R 1 4 := by rw [fr _ _ (by omega) (by omega) (by omega)]; exact S.1.2.1.1
        exact hP _ _ _ _ ⟨g1, fun _ => hK iv' fr E', fun z => by omega⟩
      | succ d ih =>
        intro m hm x iv' ex fr E'
        subst ex
        have tm : ((m : Int)).toNat = m := Int.toNat_natCast m
        have ew : Unit → w32 ((m : Int) + 1) = (m : Int) + 1 := fun _ => w32_id (by omega) (by omega)
        obtain ⟨k1, k2, k3, k4, k5, k6, k7, k8, k9⟩ := lk_ok hc (show m < gL R by omega)
        obtain ⟨t1, t2, t3⟩ := hG m (by omega)
        have S' : MS R dy ls f law iv' := S.congr fun k j q => fr k j (by omega) (by omega) (by omega)
        have e13 : iv' 80 13 = R 1 3 + R 1 4 := S'.1.2.1.1
        obtain ⟨-, -, -, v86⟩ := S'.1.2.2.2.1 m (by omega)
        have main : ∀ iv2, (∀ k j, ¬ (70 ≤ k ∧ k ≤ 72) → ¬ (k = 66 ∧ j = 26) → iv2 k j = iv' k j) → ∀ t0 : Int, t0 = T m → bd_X12_weighs_76 P c (R 18 (7 * c + 6)) m t0 iv2 rv K := by
          intro iv2 fr2 t0 et
          have f2 : ∀ k j, ¬ (70 ≤ k ∧ k ≤ 72) → ¬ (75 ≤ k ∧ k ≤ 76) → ¬ (k = 66 ∧ j = 26) → iv2 k j = iv k j := fun k j q1 q2 q3 => (fr2 k j q1 q3).trans (fr k j q1 q2 q3)
          have M2 : RM R iv2 := S.1.congr fun k j q => f2 k j (by omega) (by omega) (by omega)
          obtain ⟨v83, v84, v85, -⟩ := M2.2.2.2.1 m (by omega)
          have E2 : EM R T W m iv2 := E'.congr fun k j q => fr2 k j (by omega) (by omega)
          have bs := bl_spec (a := gA R) (b := gB R) (w := W) (p := gA R m) (q := gB R m) m
          obtain ⟨q75, q76⟩ := E2 (gA R m) (gB R m) (by omega) (by omega)
          have x3 : Unit → w32 (w32 (8 * R 4 m) + R 5 m) = ((8 * gA R m + gB R m : Nat) : Int) := fun _ => by rw [w32_id (x := 8 * R 4 m) (by omega) (by omega), w32_id (by omega) (by omega)]; omega
          have x6 : Unit → w32 (w32 (8 * R 5 m) + R 4 m) = ((8 * gB R m + gA R m : Nat) : Int) := fun _ => by rw [w32_id (x := 8 * R 5 m) (by omega) (by omega), w32_id (by omega) (by omega)]; omega
          have skip : Unit → ¬ (bl (gA R) (gB R) W (gA R m) (gB R m) m = -1 ∨ W m < W (bl (gA R) (gB R) W (gA R m) (gB R m) m).toNat) → P c (R 18 (7 * c + 6)) ((m : Int) + 1) iv2 := by
            intro _ hn
            refine ih (m + 1) (by omega) _ iv2 (by omega) f2 (fun p q hp hq => ?_)
            have : bl (gA R) (gB R) W p q (m + 1) = bl (gA R) (gB R) W p q m := by
              show (if _ then _ else _) = _
              rw [if_neg]
              rintro ⟨j1, j2⟩
              rcases j1 with ⟨y1, y2⟩ | ⟨y1, y2⟩
              · rw [← y1, ← y2] at j2; exact hn j2
              · rw [← y1, ← y2, bl_sym] at j2; exact hn j2
            rw [this]
            exact E2 p q hp hq
          have set : Unit → (bl (gA R) (gB R) W (gA R m) (gB R m) m = -1 ∨ W m < W (bl (gA R) (gB R) W (gA R m) (gB R m) m).toNat) → bd_X12_weighs_191 P c (R 18 (7 * c + 6)) m t0 ((8 * gA R m + gB R m : Nat) : Int) ((8 * gB R m + gA R m : Nat) : Int) iv2 rv K := by
            intro _ hy
            refine ⟨⟨by omega, by omega⟩, fun iva ea => ⟨⟨by omega, by omega⟩, fun ivb eb => ⟨⟨by omega, by omega⟩, fun ivc ec => ⟨⟨by omega, by omega⟩, fun ivd ed => ?_⟩⟩⟩⟩
            rw [Int.toNat_natCast] at ea eb ec ed
            show P c (R 18 (7 * c + 6)) (w32 ((m : Int) + 1)) ivd
            rw [ew ()]
            have fd : ∀ k j, k ≠ 75 → k ≠ 76 → ivd k j = iv2 k j := fun k j y1 y2 => by rw [ed, w2_ne (by omega), ec, w2_ne (by omega), eb, w2_ne (by omega), ea, w2_ne (by omega)]
            refine ih (m + 1) (by omega) _ ivd (by omega) (fun k j y1 y2 y3 => (fd k j (by omega) (by omega)).trans (f2 k j y1 y2 y3)) (fun p q hp hq => ?_)
            by_cases j1 : (p = gA R m ∧ q = gB R m) ∨ (p = gB R m ∧ q = gA R m)
            · have jj : jn (gA R) (gB R) m p q := by
                rcases j1 with ⟨y1, y2⟩ | ⟨y1, y2⟩
                · exact Or.inl ⟨y1.symm, y2.symm⟩
                · exact Or.inr ⟨y2.symm, y1.symm⟩
              have hb : bl (gA R) (gB R) W p q (m + 1) = (m : Int) := by
                show (if _ then _ else _) = _
                rw [if_pos]
                refine ⟨jj, ?_⟩
                rcases j1 with ⟨y1, y2⟩ | ⟨y1, y2⟩
                · rw [y1, y2]; exact hy
                · rw [y1, y2, bl_sym]; exact hy
              rw [hb, Int.toNat_natCast]
              refine ⟨?_, fun _ => ?_⟩
              · rw [ed, w2_ne (by omega), ec, w2_ne (by omega), eb, ea]
                rcases j1 with ⟨y1, y2⟩ | ⟨y1, y2⟩
                · rw [y1, y2]
                  by_cases z : 8 * gA R m + gB R m = 8 * gB R m + gA R m
                  · rw [z, w2_eq]
                  · rw [w2_ne (by omega), w2_eq]
                · rw [y1, y2, w2_eq]
              · rw [ed, ec]
                rcases j1 with ⟨y1, y2⟩ | ⟨y1, y2⟩
                · rw [y1, y2]
                  by_cases z : 8 * gA R m + gB R m = 8 * gB R m + gA R m
                  · rw [z, w2_eq, et]
                  · rw [w2_ne (by omega), w2_eq, et]
                · rw [y1, y2, w2_eq, et]
            · have hb : bl (gA R) (gB R) W p q (m + 1) = bl (gA R) (gB R) W p q m := by
                show (if _ then _ else _) = _
                rw [if_neg]
                rintro ⟨y1, -⟩
                rcases y1 with ⟨y1, y2⟩ | ⟨y1, y2⟩
                · exact j1 (Or.inl ⟨y1.symm, y2.symm⟩)
                · exact j1 (Or.inr ⟨y2.symm, y1.symm⟩)
              rw [hb, ed, w2_ne (by omega), ec, w2_ne (by omega), eb, w2_ne (by omega), ea, w2_ne (by omega), w2_ne (by omega), w2_ne (by omega), w2_ne (by omega), w2_ne (by omega)]
              exact E2 p q hp hq
          unfold bd_X12_weighs_76 bd_X12_weighs_225
          rw [tm, v83, v84, v85, x3 (), x6 (), ew ()]
          refine ⟨g1, ⟨by omega, by omega⟩, ⟨by omega, by omega⟩, fun y3 ey3 => ⟨⟨by omega, by omega⟩, ⟨by omega, by omega⟩, fun y6 ey6 => ?_⟩⟩
          subst ey3; subst ey6
          rw [Int.toNat_natCast, q75]
          rcases bs with ⟨i1, i2⟩ | ⟨e, i1, i2, i3, i4, i5⟩
          · exact ⟨⟨by omega, by omega⟩, fun _ => set () (Or.inl i1), fun z => absurd i1 z⟩
          · have q76' := q76 (by omega)
            have set' := fun (u : Unit) (h : W m < W e) => set u (Or.inr (by rw [i1]; exact h))
            have skip' := fun (u : Unit) (h : ¬ W m < W e) => skip u (fun q => q.elim (fun y => by omega) (fun y => h (by rw [i1] at y; exact y)))
            rw [i1, Int.toNat_natCast] at q76'
            obtain ⟨u1, u2, u3⟩ := hG e (by omega)
            obtain ⟨-, -, -, -, l5, l6, -⟩ := lk_ok hc (show e < gL R by omega)
            have w85 := (M2.2.2.2.1 e (by omega)).2.2.1
            rw [i1, Int.toNat_natCast, q76', w85, et]
            clear set skip E2 q76 q75 i4 i5 i3
            refine ⟨⟨by omega, by omega⟩, fun z => by omega, fun _ => ⟨⟨by omega, by omega⟩, fun z => skip' () (by omega), fun z => ⟨⟨by omega, by omega⟩, fun y => ?_, fun y => ⟨⟨by omega, by omega⟩, ⟨by omega, by omega⟩, ⟨by omega, by omega⟩, fun v => ?_, fun v => skip' () (by omega)⟩⟩⟩⟩
            · have := set' () (by omega)
              rw [et] at this; exact this
            · have := set' () (by omega)
              rw [et] at this; exact this
        apply hP
        unfold bd_X12_weighs_33
        rw [tm, v86]
        refine ⟨g1, fun z => by omega, fun _ => ⟨⟨by omega, by omega⟩, fun z => ⟨⟨by omega, by omega⟩, ?_⟩, fun z => main iv' (fun _ _ _ _ => rfl) 0 ?_⟩⟩
        · refine m_owed (p := p) (since := since) g1 S' hc hs hD hcc hp (by rw [fr _ _ (by omega) (by omega) (by omega)]; exact e21) (by rw [fr _ _ (by omega) (by omega) (by omega)]; exact e22) (fun iv2 fr2 => main iv2 fr2 _ ?_)
          rw [hT]; unfold tl; rw [if_neg (by omega)]
        · rw [hT]; unfold tl; rw [if_pos (by omega)]
    exact key (gL R) 0 (by omega) _ iv0 rfl fr0 E0
  intro P hP
  have key : ∀ d m : Nat, m + d = 64 → ∀ (x : Int) (iv' : IV), x = m → (∀ k j, k ≠ 75 → iv' k j = iv k j) → (∀ j, j < m → iv' 75 j = -1) → P c (R 18 (7 * c + 6)) x iv' := by
    intro d
    induction d with
    | zero =>
      intro m hm x iv' ex fr h75
      refine hP _ _ _ _ ⟨fun _ => links iv' (fun k j q1 q2 q3 => fr k j (by omega)) (fun p q hp hq => ?_), fun z => by omega⟩
      exact ⟨h75 _ (by omega), fun z => absurd (show (0 : Int) ≤ -1 from z) (by decide)⟩
    | succ d ih =>
      intro m hm x iv' ex fr h75
      subst ex
      have tm : ((m : Int)).toNat = m := Int.toNat_natCast m
      have ew : Unit → w32 ((m : Int) + 1) = (m : Int) + 1 := fun _ => w32_id (by omega) (by omega)
      refine hP _ _ _ _ ⟨fun z => by omega, fun _ => ⟨⟨by omega, by omega⟩, fun iv3 e3 => ?_⟩⟩
      rw [tm] at e3
      rw [ew ()]
      refine ih (m + 1) (by omega) _ iv3 (by omega) (fun k j q => by rw [e3, w2_ne (by omega)]; exact fr k j q) (fun j hj => ?_)
      by_cases z : j = m
      · rw [z, e3, w2_eq]
      · rw [e3, w2_ne (by omega)]; exact h75 j (by omega)
  exact key 64 0 (by omega) _ iv rfl (fun _ _ _ => rfl) (fun j hj => by omega)
theorem m_isWalked {wk : Nat → Nat} {n : Nat} {iv : IV} {rv : RV} {p : Int} {K : Int → Prop} (hn : n ≤ 8) (hw : ∀ j, j < n → iv 77 j = (wk j : Nat)) (h1 : Unit → (∃ j, j < n ∧ ((wk j : Nat) : Int) = p) → K 1) (h0 : Unit → (∀ j, j < n → ((wk j : Nat) : Int) ≠ p) → K 0) : wp_X12_isWalked p n iv rv K := by
  intro P hP
  have key : ∀ d m : Nat, m + d = n → (∀ j, j < m → ((wk j : Nat) : Int) ≠ p) → ∀ c : Int, c = m → P p n c := by
    intro d
    induction d with
    | zero =>
      intro m hm hq c ec
      exact hP _ _ _ ⟨fun _ => h0 () (fun j hj => hq j (by omega)), fun z => by omega⟩
    | succ d ih =>
      intro m hm hq c ec
      subst ec
      have t : ((m : Int)).toNat = m := Int.toNat_natCast m
      have ew : Unit → w32 ((m : Int) + 1) = (m : Int) + 1 := fun _ => w32_id (by omega) (by omega)
      have q77 := hw m (by omega)
      refine hP _ _ _ ⟨fun z => by omega, fun _ => ⟨⟨by omega, by omega⟩, fun z => ?_, fun z => ?_⟩⟩
      · rw [t, q77] at z
        rw [ew ()]
        refine ih (m + 1) (by omega) (fun j hj => ?_) _ (by omega)
        by_cases e : j = m
        · rw [e]; exact z
        · exact hq j (by omega)
      · rw [t, q77] at z
        exact h1 () ⟨m, by omega, z⟩
  exact key n 0 (by omega) (fun j hj => by omega) _ rfl
/-- sums along a walk -/
def Sm (wk : Nat → Nat) (F : Nat → Nat → Int) : Nat → Int
  | 0 => 0
  | i + 1 => Sm wk F i + F (wk i) (wk (i + 1))
def Fo (R : Nat → Nat → Int) (T W : F1) (p q : Nat) : Int := T (bl (gA R) (gB R) W p q (gL R)).toNat
def Ff (R : Nat → Nat → Int) (W : F1) (p q : Nat) : Int := R 6 (bl (gA R) (gB R) W p q (gL R)).toNat
/-- a walk of n places that links lead along -/
def Gd (R : Nat → Nat → Int) (W : F1) (n : Nat) (wk : Nat → Nat) : Prop := (∀ j, j < n → ((wk j : Nat) : Int) < R 1 0) ∧ (∀ i j, i < n → j < n → wk i = wk j → i = j) ∧ (∀ j, j + 1 < n → 0 ≤ bl (gA R) (gB R) W (wk j) (wk (j + 1)) (gL R))
theorem Gd.le {R : Nat → Nat → Int} {W : F1} {n : Nat} {wk : Nat → Nat} (h : Gd R W n wk) (hc : RC R) : n ≤ 8 := by
  have h0 : R 1 0 ≤ 8 := (hc.1 0 (by omega)).2
  exact pig 8 n wk (fun i hi => by have := h.1 i hi; omega) h.2.1
theorem Sm_le {R : Nat → Nat → Int} {T W : F1} {n : Nat} {wk : Nat → Nat} (h : Gd R W n wk) (hc : RC R) (hG : GT R T W) : ∀ i, i < n → 0 ≤ Sm wk (Fo R T W) i ∧ Sm wk (Fo R T W) i ≤ 58806 * i ∧ 0 ≤ Sm wk (Ff R W) i ∧ Sm wk (Ff R W) i ≤ 99 * i
  | 0, _ => ⟨Int.le_refl _, Int.le_refl _, Int.le_refl _, Int.le_refl _⟩
  | i + 1, hi => by
    have ih := Sm_le h hc hG i (by omega)
    obtain ⟨b1, b2, b3⟩ := bl_jn (h.2.2 i hi)
    have a1 := hG _ b1
    have a2 := lk_ok hc b1
    have e1 : Sm wk (Fo R T W) (i + 1) = Sm wk (Fo R T W) i + T (bl (gA R) (gB R) W (wk i) (wk (i + 1)) (gL R)).toNat := rfl
    have e2 : Sm wk (Ff R W) (i + 1) = Sm wk (Ff R W) i + R 6 (bl (gA R) (gB R) W (wk i) (wk (i + 1)) (gL R)).toNat := rfl
    omega
theorem m_arrives {R : Nat → Nat → Int} {T W : F1} {iv : IV} {rv : RV} {n : Nat} {wk : Nat → Nat} {K : IV → Prop} (g1 : rv 66 3 = some 80) (hM : RM R iv) (hc : RC R) (hG : GT R T W) (E : EM R T W (gL R) iv) (hd : Gd R W n wk) (hn : 1 ≤ n) (hw : ∀ j, j < n → iv 77 j = (wk j : Nat))
    (hset : Unit → (iv 66 36 ≤ 0 ∨ Sm wk (Fo R T W) (n - 1) < iv 66 37 ∨ (Sm wk (Fo R T W) (n - 1) = iv 66 37 ∧ Sm wk (Ff R W) (n - 1) < iv 66 38)) → ∀ iv' : IV, (∀ k j, k ≠ 78 → ¬ (k = 66 ∧ 36 ≤ j ∧ j ≤ 38) → iv' k j = iv k j) → iv' 66 36 = (n : Nat) → iv' 66 37 = Sm wk (Fo R T W) (n - 1) → iv' 66 38 = Sm wk (Ff R W) (n - 1) → (∀ j, j < n → iv' 78 j = (wk j : Nat)) → K iv')
    (hkeep : Unit → ¬ (iv 66 36 ≤ 0 ∨ Sm wk (Fo R T W) (n - 1) < iv 66 37 ∨ (Sm wk (Fo R T W) (n - 1) = iv 66 37 ∧ Sm wk (Ff R W) (n - 1) < iv 66 38)) → K iv) : wp_X12_arrives n iv rv K := by
  have n8 := hd.le hc
  have h0 : R 1 0 ≤ 8 := (hc.1 0 (by omega)).2
  have store : ∀ o s : Int, o = Sm wk (Fo R T W) (n - 1) → s = Sm wk (Ff R W) (n - 1) → (Unit → (iv 66 36 ≤ 0 ∨ Sm wk (Fo R T W) (n - 1) < iv 66 37 ∨ (Sm wk (Fo R T W) (n - 1) = iv 66 37 ∧ Sm wk (Ff R W) (n - 1) < iv 66 38))) → bd_X12_arrives_103 n o s iv rv K := by
    intro o s eo es hcond iv1 e1 iv2 e2 iv3 e3 P hP
    have hs := hset () (hcond ())
    have key : ∀ d m : Nat, m + d = n → ∀ (x : Int) (iv' : IV), x = m → (∀ k j, k ≠ 78 → iv' k j = iv3 k j) → (∀ j, j < m → iv' 78 j = (wk j : Nat)) → P n x iv' := by
      intro d
      induction d with
      | zero =>
        intro m hm x iv' ex fr h78
        refine hP _ _ _ ⟨fun _ => hs iv' (fun k j q1 q2 => ?_) ?_ ?_ ?_ (fun j hj => h78 j (by omega)), fun z => by omega⟩
        · rw [fr _ _ q1, e3, w2_ne (by omega), e2, w2_ne (by omega), e1, w2_ne (by omega)]
        · rw [fr _ _ (by omega), e3, w2_ne (by omega), e2, w2_ne (by omega), e1, w2_eq]
        · rw [fr _ _ (by omega), e3, w2_ne (by omega), e2, w2_eq]; exact eo
        · rw [fr _ _ (by omega), e3, w2_eq]; exact es
      | succ d ih =>
        intro m hm x iv' ex fr h78
        subst ex
        have tm : ((m : Int)).toNat = m := Int.toNat_natCast m
        have ew : Unit → w32 ((m : Int) + 1) = (m : Int) + 1 := fun _ => w32_id (by omega) (by omega)
        have i77 : iv' 77 m = (wk m : Nat) := by rw [fr _ _ (by omega), e3, w2_ne (by omega), e2, w2_ne (by omega), e1, w2_ne (by omega)]; exact hw m (by omega)
        refine hP _ _ _ ⟨fun z => by omega, fun _ => ⟨⟨by omega, by omega⟩, ⟨by omega, by omega⟩, fun iv4 e4 => ?_⟩⟩
        rw [tm, i77] at e4
        rw [ew ()]
        refine ih (m + 1) (by omega) _ iv4 (by omega) (fun k j q => by rw [e4, w2_ne (by omega)]; exact fr k j q) (fun j hj => ?_)
        by_cases z : j = m
        · rw [z, e4, w2_eq]
        · rw [e4, w2_ne (by omega)]; exact h78 j (by omega)
    exact key n 0 (by omega) _ iv3 rfl (fun _ _ _ => rfl) (fun j hj => by omega)
  intro P hP
  have key : ∀ d m : Nat, m + d + 1 = n → ∀ x o s : Int, x = m → o = Sm wk (Fo R T W) m → s = Sm wk (Ff R W) m → P n o s x iv := by
    intro d
    induction d with
    | zero =>
      intro m hm x o s ex eo es
      subst ex
      have ew : Unit → w32 ((m : Int) + 1) = (m : Int) + 1 := fun _ => w32_id (by omega) (by omega)
      have e1 : m = n - 1 := by omega
      rw [e1] at eo es
      have st := store o s eo es
      clear store hset
      have hk := hkeep
      rw [← eo, ← es] at st hk
      clear eo es hkeep
      apply hP
      unfold bd_X12_arrives_7
      rw [ew ()]
      refine ⟨fun _ => ⟨fun z => st (fun _ => Or.inl z), fun z => ⟨fun y => hk () (by omega), fun y => ⟨fun v => st (fun _ => by omega), fun v => ⟨fun u => st (fun _ => by omega), fun u => hk () (by omega)⟩⟩⟩⟩, fun z => by omega⟩
    | succ d ih =>
      intro m hm x o s ex eo es
      subst ex
      have tm : ((m : Int)).toNat = m := Int.toNat_natCast m
      have tm1 : (((m + 1 : Nat) : Int)).toNat = m + 1 := Int.toNat_natCast _
      have ew : Unit → w32 ((m : Int) + 1) = ((m + 1 : Nat) : Int) := fun _ => w32_id (by omega) (by omega)
      obtain ⟨b1, b2, b3⟩ := bl_jn (hd.2.2 m (by omega))
      have p1 := hd.1 m (by omega)
      have p2 := hd.1 (m + 1) (by omega)
      obtain ⟨q75, q76⟩ := E (wk m) (wk (m + 1)) (by omega) (by omega)
      have q76' := q76 (hd.2.2 m (by omega))
      have sl := Sm_le hd hc hG m (by omega)
      have a1 := hG _ b1
      have a2 := lk_ok hc b1
      have x8 : Unit → w32 (w32 (8 * ((wk m : Nat) : Int)) + ((wk (m + 1) : Nat) : Int)) = ((8 * wk m + wk (m + 1) : Nat) : Int) := fun _ => by rw [w32_id (x := 8 * ((wk m : Nat) : Int)) (by omega) (by omega), w32_id (by omega) (by omega)]; omega
      have v85 := (hM.2.2.2.1 (bl (gA R) (gB R) W (wk m) (wk (m + 1)) (gL R)).toNat (by have := (gL_ok hc).2; omega)).2.2.1
      have l20 := (gL_ok hc).1
      apply hP
      unfold bd_X12_arrives_7
      rw [ew (), tm, tm1, hw m (by omega), hw (m + 1) (by omega), x8 ()]
      refine ⟨fun z => by omega, fun _ => ⟨⟨by omega, by omega⟩, ⟨by omega, by omega⟩, fun y8 ey8 => ?_⟩⟩
      subst ey8
      rw [Int.toNat_natCast, q75, q76', v85]
      refine ⟨⟨by omega, by omega⟩, fun x10 e10 => ⟨g1, ⟨by omega, by omega⟩, ⟨by omega, by omega⟩, fun x13 e13 => ?_⟩⟩
      refine ih (m + 1) (by omega) _ _ _ (by omega) ?_ ?_
      · rw [e10, w32_id (by omega) (by omega), eo]; rfl
      · rw [e13, w32_id (by omega) (by omega), es]; rfl
  exact key (n - 1) 0 (by omega) _ _ _ rfl rfl rfl
