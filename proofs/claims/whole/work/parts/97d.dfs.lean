/-! THE REFERENCE: the search of all ways, one rule -/
def ext (wk : Nat → Nat) (n p : Nat) : Nat → Nat := fun j => if j = n then p else wk j
theorem ext_eq {wk : Nat → Nat} {n p : Nat} : ext wk n p n = p := if_pos rfl
theorem ext_ne {wk : Nat → Nat} {n p j : Nat} (h : j ≠ n) : ext wk n p j = wk j := if_neg h
def Df (iv0 iv : IV) : Prop := ∀ k j, ¬ (77 ≤ k ∧ k ≤ 78) → ¬ (k = 66 ∧ 36 ≤ j ∧ j ≤ 38) → iv k j = iv0 k j
theorem Gd.ext {R : Nat → Nat → Int} {W : F1} {n p : Nat} {wk : Nat → Nat} (h : Gd R W n wk) (hn : 1 ≤ n) (hp : (p : Int) < R 1 0) (hb : 0 ≤ bl (gA R) (gB R) W (wk (n - 1)) p (gL R)) (hw : ∀ j, j < n → wk j ≠ p) : Gd R W (n + 1) (ext wk n p) := by
  refine ⟨fun j hj => ?_, fun i j hi hj e => ?_, fun j hj => ?_⟩
  · by_cases z : j = n
    · rw [z, ext_eq]; exact hp
    · rw [ext_ne z]; exact h.1 j (by omega)
  · by_cases zi : i = n
    · by_cases zj : j = n
      · omega
      · rw [zi, ext_eq, ext_ne zj] at e
        exact absurd e.symm (hw j (by omega))
    · by_cases zj : j = n
      · rw [zj, ext_eq, ext_ne zi] at e
        exact absurd e (hw i (by omega))
      · rw [ext_ne zi, ext_ne zj] at e
        exact h.2.1 i j (by omega) (by omega) e
  · by_cases z : j + 1 = n
    · rw [ext_ne (by omega), z, ext_eq, show j = n - 1 by omega]; exact hb
    · rw [ext_ne (by omega), ext_ne z]; exact h.2.2 j (by omega)
theorem m_dfs {R : Nat → Nat → Int} {T W : F1} {iv0 : IV} {rv : RV} {c gl N : Nat} {K : Int → IV → Prop} {P : Int → Int → Int → IV → Prop} {Pre : Nat → (Nat → Nat) → IV → Prop} {Post : Nat → (Nat → Nat) → IV → IV → Prop} {Mid : Nat → (Nat → Nat) → Nat → IV → IV → Prop}
    (g1 : rv 66 3 = some 80) (hM : RM R iv0) (hc : RC R) (E : EM R T W (gL R) iv0) (hcc : (c : Int) < R 1 11) (hN : (N : Int) = R 1 0) (hgl : ((gl : Nat) : Int) = R 18 (7 * c + 5))
    (hP : ∀ (l1' l2' l3' : Int) (iv' : IV), bd_X12_finds_29 P l1' l2' l3' iv' rv K → P l1' l2' l3' iv')
    (hArr : ∀ (n : Nat) (wk : Nat → Nat) (iv : IV) (K' : IV → Prop), Gd R W n wk → 1 ≤ n → wk (n - 1) = gl → Df iv0 iv → (∀ j, j < n → iv 77 j = (wk j : Nat)) → Pre n wk iv → (∀ iv' : IV, Df iv0 iv' → (∀ j, j < n → iv' 77 j = (wk j : Nat)) → Post n wk iv iv' → K' iv') → wp_X12_arrives n iv rv K')
    (hMid0 : ∀ (n : Nat) (wk : Nat → Nat) (iv : IV), Gd R W n wk → 1 ≤ n → wk (n - 1) ≠ gl → Pre n wk iv → Mid n wk 0 iv iv)
    (hSkip : ∀ (n : Nat) (wk : Nat → Nat) (p : Nat) (ive iv : IV), Gd R W n wk → 1 ≤ n → p < N → (bl (gA R) (gB R) W (wk (n - 1)) p (gL R) < 0 ∨ ∃ j, j < n ∧ wk j = p) → Mid n wk p ive iv → Mid n wk (p + 1) ive iv)
    (hDown : ∀ (n : Nat) (wk : Nat → Nat) (p : Nat) (ive iv : IV), 1 ≤ n → p < N → Gd R W (n + 1) (ext wk n p) → Mid n wk p ive iv → Pre (n + 1) (ext wk n p) (w2 iv 77 n (p : Nat)))
    (hUp : ∀ (n : Nat) (wk : Nat → Nat) (p : Nat) (ive iv iv' : IV), 1 ≤ n → p < N → Gd R W (n + 1) (ext wk n p) → Mid n wk p ive iv → Post (n + 1) (ext wk n p) (w2 iv 77 n (p : Nat)) iv' → Mid n wk (p + 1) ive iv')
    (hEnd : ∀ (n : Nat) (wk : Nat → Nat) (ive iv : IV), 1 ≤ n → Mid n wk N ive iv → Post n wk ive iv) :
    ∀ d n : Nat, n + d = 9 → ∀ (wk : Nat → Nat) (iv : IV), 1 ≤ n → Gd R W n wk → Df iv0 iv → (∀ j, j < n → iv 77 j = (wk j : Nat)) → Pre n wk iv → (∀ iv' : IV, Df iv0 iv' → (∀ j, j < n → iv' 77 j = (wk j : Nat)) → Post n wk iv iv' → P c ((n : Int) - 1) (((wk (n - 1) : Nat) : Int) + 1) iv') → P c n 0 iv := by
  have h11 : R 1 11 ≤ 6 := (hc.1 11 (by omega)).2
  have h0 : R 1 0 ≤ 8 := (hc.1 0 (by omega)).2
  have tc : ((c : Int)).toNat = c := Int.toNat_natCast c
  intro d
  induction d with
  | zero =>
    intro n hn wk iv h1 hd
    have := hd.le hc
    omega
  | succ d ihE =>
    intro n hn wk ive h1 hd hD hw hpre hC
    have n8 := hd.le hc
    have en : Unit → w32 ((n : Int) - 1) = ((n - 1 : Nat) : Int) := fun _ => by rw [w32_id (by omega) (by omega)]; omega
    have en2 : Unit → w32 ((n : Int) + (-1)) = (n : Int) - 1 := fun _ => by rw [w32_id (by omega) (by omega)]; omega
    have en3 : Unit → w32 ((n : Int) + 1) = ((n + 1 : Nat) : Int) := fun _ => w32_id (by omega) (by omega)
    have tn : (((n - 1 : Nat) : Int)).toNat = n - 1 := Int.toNat_natCast _
    have tn2 : ((n : Int) - 1).toNat = n - 1 := by omega
    have tn3 : ((n : Int)).toNat = n := Int.toNat_natCast _
    have wl := hd.1 (n - 1) (by omega)
    have facts : ∀ iv, Df iv0 iv → iv 105 c = (gl : Nat) ∧ iv 80 0 = (N : Nat) ∧ EM R T W (gL R) iv := fun iv q => by
      have M' : RM R iv := hM.congr fun k j hk => q k j (by omega) (by omega)
      refine ⟨?_, ?_, E.congr fun k j hk => q k j (by omega) (by omega)⟩
      · rw [hgl]; exact M'.2.2.2.2.2.2.2 c hcc 5 (by omega)
      · rw [hN]; exact M'.1 0 (by omega)
    have pop : ∀ iv, Df iv0 iv → (∀ j, j < n → iv 77 j = (wk j : Nat)) → Post n wk ive iv → bd_X12_finds_139 P c n (N : Nat) iv rv K := by
      intro iv q1 q2 q3
      obtain ⟨f1, f2, -⟩ := facts iv q1
      unfold bd_X12_finds_139 bd_X12_finds_179
      rw [en2 (), tn2, f2, q2 (n - 1) (by omega)]
      refine ⟨g1, fun _ => ⟨⟨by omega, by omega⟩, fun x3 e3 => ?_⟩, fun z => absurd (Int.le_refl _) z⟩
      rw [w32_id (by omega) (by omega)] at e3
      rw [e3]
      exact hC iv q1 q2 q3
    by_cases hg : wk (n - 1) = gl
    · obtain ⟨f1, -, -⟩ := facts ive hD
      refine hP _ _ _ _ ⟨fun z => by omega, fun _ => ?_⟩
      rw [en (), tn, tc, f1, hw (n - 1) (by omega), hg]
      refine ⟨⟨by omega, by omega⟩, g1, ⟨by omega, by omega⟩, fun z => absurd rfl z, fun _ => ⟨fun z => absurd z (by decide), fun _ => ?_⟩⟩
      refine hArr n wk ive _ hd h1 hg hD hw hpre (fun iv2 q1 q2 q3 => ?_)
      obtain ⟨-, f2, -⟩ := facts iv2 q1
      refine ⟨fun z => absurd z (by decide), fun _ => ⟨g1, ?_⟩⟩
      rw [f2]
      intro P88 hP88
      refine hP88 _ _ _ _ ⟨g1, fun _ => pop iv2 q1 q2 q3, fun z => absurd (by rw [f2]; exact Int.le_refl _) z⟩
    · have cont : ∀ q p : Nat, N ≤ p + q → p ≤ N → ∀ iv, Df iv0 iv → (∀ j, j < n → iv 77 j = (wk j : Nat)) → Mid n wk p ive iv → P c n p iv := by
        intro q
        induction q with
        | zero =>
          intro p h1' h2' iv q1 q2 q3
          obtain rfl : p = N := by omega
          obtain ⟨f1, f2, -⟩ := facts iv q1
          refine hP _ _ _ _ ⟨fun z => by omega, fun _ => ?_⟩
          rw [en (), tn, tc, f1, q2 (n - 1) (by omega)]
          refine ⟨⟨by omega, by omega⟩, g1, ⟨by omega, by omega⟩, fun _ => ⟨fun _ => ⟨fun _ => ?_, fun z => absurd rfl z⟩, fun z => absurd rfl z⟩, fun z => by omega⟩
          intro P88 hP88
          exact hP88 _ _ _ _ ⟨g1, fun _ => pop iv q1 q2 (hEnd n wk ive iv h1 q3), fun z => absurd (by rw [f2]; exact Int.le_refl _) z⟩
        | succ q ihC =>
          intro p h1' h2' iv q1 q2 q3
          obtain ⟨f1, f2, fE⟩ := facts iv q1
          refine hP _ _ _ _ ⟨fun z => by omega, fun _ => ?_⟩
          rw [en (), tn, tc, f1, q2 (n - 1) (by omega)]
          refine ⟨⟨by omega, by omega⟩, g1, ⟨by omega, by omega⟩, fun _ => ⟨fun _ => ⟨fun _ => ?_, fun z => absurd rfl z⟩, fun z => absurd rfl z⟩, fun z => by omega⟩
          intro P88 hP88
          have key : ∀ s p' : Nat, p' + s = N → p ≤ p' → Mid n wk p' ive iv → P88 c n p' iv := by
            intro s
            induction s with
            | zero =>
              intro p' hp' hpp m3
              obtain rfl : p' = N := by omega
              exact hP88 _ _ _ _ ⟨g1, fun _ => pop iv q1 q2 (hEnd n wk ive iv h1 m3), fun z => absurd (by rw [f2]; exact Int.le_refl _) z⟩
            | succ s ihS =>
              intro p' hp' hpp m3
              have ep : Unit → w32 ((p' : Int) + 1) = ((p' + 1 : Nat) : Int) := fun _ => w32_id (by omega) (by omega)
              have ex : Unit → w32 (w32 (8 * ((wk (n - 1) : Nat) : Int)) + (p' : Int)) = ((8 * wk (n - 1) + p' : Nat) : Int) := fun _ => by rw [w32_id (x := 8 * ((wk (n - 1) : Nat) : Int)) (by omega) (by omega), w32_id (by omega) (by omega)]; omega
              obtain ⟨q75, -⟩ := fE (wk (n - 1)) p' (by omega) (by omega)
              have no : Unit → (bl (gA R) (gB R) W (wk (n - 1)) p' (gL R) < 0 ∨ ∃ j, j < n ∧ wk j = p') → bd_X12_finds_133 P P88 c n p' iv rv K := by
                intro _ hy
                show P88 c n (w32 ((p' : Int) + 1)) iv
                rw [ep ()]
                exact ihS (p' + 1) (by omega) (by omega) (hSkip n wk p' ive iv hd h1 (by omega) hy m3)
              apply hP88
              unfold bd_X12_finds_88
              rw [en (), tn, q2 (n - 1) (by omega), ex (), Int.toNat_natCast, q75, f2]
              refine ⟨g1, fun z => by omega, fun _ => ⟨⟨by omega, by omega⟩, ⟨by omega, by omega⟩, fun z => no () (Or.inl (by omega)), fun z => ?_⟩⟩
              have hb : 0 ≤ bl (gA R) (gB R) W (wk (n - 1)) p' (gL R) := by
                rcases bl_spec (a := gA R) (b := gB R) (w := W) (p := wk (n - 1)) (q := p') (gL R) with ⟨i1, -⟩ | ⟨e, i1, -⟩
                · exact absurd i1 z
                · omega
              refine m_isWalked n8 q2 (fun _ hx => ⟨fun y => absurd y (by decide), fun _ => no () (Or.inr ?_)⟩) (fun _ hx => ⟨fun _ => ?_, fun y => absurd rfl y⟩)
              · obtain ⟨j, j1, j2⟩ := hx
                exact ⟨j, j1, by omega⟩
              · have hd' : Gd R W (n + 1) (ext wk n p') := hd.ext h1 (by omega) hb (fun j hj e => hx j hj (by rw [e]))
                have n9 := hd'.le hc
                unfold bd_X12_finds_139 bd_X12_finds_179
                rw [f2, en3 (), tn3]
                refine ⟨g1, fun z => by omega, fun _ => ⟨⟨by omega, by omega⟩, fun iv5 e5 => ?_⟩⟩
                have pr := hDown n wk p' ive iv h1 (by omega) hd' m3
                have up := fun iv6 => hUp n wk p' ive iv iv6 h1 (show p' < N by omega) hd' m3
                rw [← e5] at pr up
                refine ihE (n + 1) (by omega) (ext wk n p') iv5 (by omega) hd' (fun k j y1 y2 => ?_) (fun j hj => ?_) pr (fun iv6 y1 y2 y3 => ?_)
                · rw [e5, w2_ne (by omega)]; exact q1 k j y1 y2
                · by_cases zz : j = n
                  · rw [zz, ext_eq, e5, w2_eq]
                  · rw [ext_ne zz, e5, w2_ne (by omega)]; exact q2 j (by omega)
                · rw [show ((n + 1 : Nat) : Int) - 1 = (n : Int) by omega, show n + 1 - 1 = n by omega, ext_eq]
                  have := ihC (p' + 1) (by omega) (by omega) iv6 y1 (fun j hj => by
                    have := y2 j (by omega)
                    rw [ext_ne (by omega)] at this
                    exact this) (up iv6 y3)
                  rw [show (p' : Int) + 1 = ((p' + 1 : Nat) : Int) by omega]
                  exact this
          exact key (N - p) p (by omega) (Nat.le_refl _) q3
      exact cont N 0 (by omega) (by omega) ive hD hw (hMid0 n wk ive hd h1 hg hpre)
