/-! THE READER: the reference's tokens -/
theorem and255 (x : Int) (h0 : -128 ≤ x) (h1 : x ≤ 127) : (Int32.ofInt x &&& Int32.ofInt 255).toInt = if x < 0 then x + 256 else x := by
  have key : ∀ k : Fin 256, (Int32.ofInt ((k.val : Int) - 128) &&& Int32.ofInt 255).toInt = if (k.val : Int) - 128 < 0 then (k.val : Int) - 128 + 256 else (k.val : Int) - 128 := by decide +kernel
  have := key ⟨(x + 128).toNat, by omega⟩
  rw [show (((⟨(x + 128).toNat, by omega⟩ : Fin 256).val : Nat) : Int) - 128 = x by show (((x + 128).toNat : Nat) : Int) - 128 = x; omega] at this
  exact this
/-- the text as the reference has it -/
def Txt (b : Nat → Int) (n : Nat) (iv : IV) : Prop := n ≤ 900 ∧ iv 66 7 = (n : Nat) ∧ ∀ j, j < n → iv 67 j = b j ∧ -128 ≤ b j ∧ b j ≤ 127
theorem Txt.congr {b : Nat → Int} {n : Nat} {iv iv' : IV} (h : Txt b n iv) (he : ∀ k j, k = 67 ∨ (k = 66 ∧ j = 7) → iv' k j = iv k j) : Txt b n iv' :=
  ⟨h.1, (he _ _ (Or.inr ⟨rfl, rfl⟩)).trans h.2.1, fun j hj => ⟨(he _ _ (Or.inl rfl)).trans (h.2.2 j hj).1, (h.2.2 j hj).2⟩⟩
theorem m_byteAt {b : Nat → Int} {n i : Nat} {iv : IV} {rv : RV} {K : Int → Prop} (T : Txt b n iv) (h1 : i < n → ∀ v, (0 ≤ b i ∧ v = b i) ∨ (b i < 0 ∧ 128 ≤ v ∧ v ≤ 255) → K v) (h0 : n ≤ i → K (-1)) : wp_X12_byteAt i iv rv K := by
  obtain ⟨t1, t2, t3⟩ := T
  have ti : ((i : Int)).toNat = i := Int.toNat_natCast i
  replace h0 := fun (_ : Unit) => h0
  unfold wp_X12_byteAt
  rw [t2, ti]
  refine ⟨fun z => h0 () (by omega), fun z => ⟨⟨by omega, by omega⟩, ?_⟩⟩
  obtain ⟨u1, u2, u3⟩ := t3 i (by omega)
  rw [u1, and255 _ u2 u3]
  refine h1 (by omega) _ ?_
  by_cases y : b i < 0
  · rw [if_pos y]; omega
  · rw [if_neg y]; omega
/-- the reference's token -/
def rk (k : Int) : Int := if k = 0 then 1 else if k = 1 then 2 else if k = 2 then 3 else if k = 3 then 4 else 0
def MTk (t : Int × Nat × Int × Nat) (iv : IV) : Prop := iv 66 9 = rk t.1 ∧ iv 66 10 = (t.2.1 : Nat) ∧ (t.1 = 1 → iv 66 14 = t.2.2.1) ∧ (t.1 = 2 → iv 66 11 = t.2.2.1) ∧ (t.1 ≠ 4 → iv 66 8 = (t.2.2.2 : Nat))
theorem m_runw {b : Nat → Int} {n s : Nat} {iv : IV} {rv : RV} {K : IV → Prop} (T : Txt b n iv) (hs : s ≤ n) (e8 : iv 66 8 = (s : Nat)) (e14 : iv 66 14 = 0)
    (hK : ∀ iv' : IV, (∀ k j, ¬ (k = 66 ∧ (j = 8 ∨ j = 9 ∨ j = 14)) → iv' k j = iv k j) → iv' 66 8 = (rn 97 122 b (n - s) s : Nat) → (rn 97 122 b (n - s) s ≤ s + 8 → iv' 66 14 = cdw b s (rn 97 122 b (n - s) s - s) ∧ iv' 66 9 = 2) → (¬ rn 97 122 b (n - s) s ≤ s + 8 → iv' 66 9 = iv 66 9) → K iv') : wl_X12_goesOn_84 0 iv rv K := by
  obtain ⟨t1, t2, t3⟩ := T
  have T : Txt b n iv := ⟨t1, t2, t3⟩
  intro P hP
  have key : ∀ d k : Nat, s + k + d = n → ∀ (x : Int) (iv' : IV), x = (k : Nat) → rn 97 122 b d (s + k) = rn 97 122 b (n - s) s → (∀ k j, ¬ (k = 66 ∧ (j = 8 ∨ j = 14)) → iv' k j = iv k j) → iv' 66 8 = ((s + k : Nat) : Int) → Ltr 97 122 b s k → (k ≤ 8 → iv' 66 14 = cdw b s k) → P x iv' := by
    intro d
    induction d with
    | zero =>
      intro k hk x iv' ex hr fr h8 hL hc
      subst ex
      replace hc := fun (_ : Unit) => hc
      have er : rn 97 122 b (n - s) s = s + k := hr.symm
      have T' : Txt b n iv' := T.congr fun k j q => fr k j (by omega)
      apply hP
      unfold bd_X12_goesOn_84
      rw [h8]
      refine m_byteAt T' (fun z => by omega) (fun _ => ?_)
      refine ⟨fun _ => ⟨fun _ => ⟨fun y => hK iv' (fun k j q => fr k j (by omega)) (by rw [er]; exact h8) (fun q => by omega) (fun _ => fr _ _ (by omega)), fun y iv5 e5 => hK iv5 (fun k j q => by rw [e5, w2_ne (by omega)]; exact fr k j (by omega)) (by rw [er, e5, w2_ne (by omega)]; exact h8) (fun q => ⟨?_, by rw [e5, w2_eq]⟩) (fun q => by omega)⟩, fun z => absurd rfl z⟩, fun z => absurd (by decide) z⟩
      rw [er, Nat.add_sub_cancel_left, e5, w2_ne (by omega)]; exact hc () (by omega)
    | succ d ih =>
      intro k hk x iv' ex hr fr h8 hL hc
      subst ex
      replace hc := fun (_ : Unit) => hc
      replace hr : (if 97 ≤ b (s + k) ∧ b (s + k) ≤ 122 then rn 97 122 b d (s + k + 1) else s + k) = rn 97 122 b (n - s) s := hr
      have T' : Txt b n iv' := T.congr fun k j q => fr k j (by omega)
      have ek : Unit → w32 ((k : Int) + 1) = ((k + 1 : Nat) : Int) := fun _ => w32_id (by omega) (by omega)
      have e8' : Unit → w32 (((s + k : Nat) : Int) + 1) = ((s + (k + 1) : Nat) : Int) := fun _ => w32_id (by omega) (by omega)
      have out : Unit → ¬ (97 ≤ b (s + k) ∧ b (s + k) ≤ 122) → (((8 : Int) < (k : Nat)) → K iv') ∧ ((¬ ((8 : Int) < (k : Nat))) → (∀ iv5, iv5 = w2 iv' 66 9 2 → K iv5)) := by
        intro _ hn
        rw [if_neg hn] at hr
        refine ⟨fun y => hK iv' (fun k j q => fr k j (by omega)) (by rw [← hr]; exact h8) (fun q => by omega) (fun _ => fr _ _ (by omega)), fun y iv5 e5 => hK iv5 (fun k j q => by rw [e5, w2_ne (by omega)]; exact fr k j (by omega)) (by rw [← hr, e5, w2_ne (by omega)]; exact h8) (fun q => ⟨?_, by rw [e5, w2_eq]⟩) (fun q => by omega)⟩
        rw [← hr, Nat.add_sub_cancel_left, e5, w2_ne (by omega)]; exact hc () (by omega)
      have go : ∀ iv2 : IV, (97 ≤ b (s + k) ∧ b (s + k) ≤ 122) → (∀ k j, ¬ (k = 66 ∧ j = 14) → iv2 k j = iv' k j) → (k + 1 ≤ 8 → iv2 66 14 = cdw b s (k + 1)) → bd_X12_goesOn_131 P k iv2 rv K := by
        intro iv2 hy f2 hc2 iv3 e3
        have a8 : iv2 66 8 = ((s + k : Nat) : Int) := by rw [f2 _ _ (by omega)]; exact h8
        rw [a8, e8' ()] at e3
        rw [ek ()]
        rw [if_pos hy] at hr
        refine ih (k + 1) (by omega) _ iv3 rfl hr (fun k j q => by rw [e3, w2_ne (by omega), f2 _ _ (by omega)]; exact fr k j q) (by rw [e3, w2_eq]) (fun j hj => ?_) (fun q => by rw [e3, w2_ne (by omega)]; exact hc2 q)
        by_cases z : j = k
        · rw [z]; exact hy
        · exact hL j (by omega)
      apply hP
      unfold bd_X12_goesOn_84
      rw [h8]
      refine m_byteAt T' (fun hin v hv => ?_) (fun z => by omega)
      have hb := (t3 (s + k) (by omega)).2
      by_cases hy : 97 ≤ b (s + k) ∧ b (s + k) ≤ 122
      · have ev : v = b (s + k) := by omega
        refine ⟨fun z => by omega, fun _ => ⟨fun z => by omega, fun _ => ⟨fun z => absurd z (by decide), fun _ => ⟨fun z => go iv' hy (fun _ _ _ => rfl) (fun q => by omega), fun z => ?_⟩⟩⟩⟩
        refine m_byteAt T' (fun _ v2 hv2 iv8 e8 => go iv8 hy (fun k j q => by rw [e8, w2_ne q]) (fun q => ?_)) (fun z => by omega)
        have ev2 : v2 = b (s + k) := by omega
        have cb := cdw_le k hL
        have bb := b32_le k (by omega)
        rw [e8, w2_eq, hc () (by omega), ev2, w64_id (x := 32 * cdw b s k) (by omega) (by omega), w32_id (x := b (s + k) - 97) (by omega) (by omega), w32_id (x := b (s + k) - 97 + 1) (by omega) (by omega), w64_id (by omega) (by omega)]
        show _ = cdw b s k * 32 + (b (s + k) - 96)
        omega
      · have o := out () hy
        refine ⟨fun z => ⟨fun _ => o, fun z => absurd rfl z⟩, fun z => ⟨fun z2 => ⟨fun _ => o, fun z => absurd rfl z⟩, fun z2 => by omega⟩⟩
  exact key (n - s) 0 (by omega) _ iv rfl rfl (fun _ _ _ => rfl) (by rw [e8]; rfl) (fun j hj => by omega) (fun _ => e14)
theorem m_rund {b : Nat → Int} {n s : Nat} {iv : IV} {rv : RV} {K : IV → Prop} (T : Txt b n iv) (hs : s ≤ n) (e8 : iv 66 8 = (s : Nat)) (e11 : iv 66 11 = 0)
    (hK : ∀ iv' : IV, (∀ k j, ¬ (k = 66 ∧ (j = 8 ∨ j = 9 ∨ j = 11)) → iv' k j = iv k j) → iv' 66 8 = (rn 48 57 b (n - s) s : Nat) → (rn 48 57 b (n - s) s ≤ s + 3 → iv' 66 11 = cdd b s (rn 48 57 b (n - s) s - s) ∧ iv' 66 9 = 3) → (¬ rn 48 57 b (n - s) s ≤ s + 3 → iv' 66 9 = iv 66 9) → K iv') : wl_X12_goesOn_173 0 iv rv K := by
  obtain ⟨t1, t2, t3⟩ := T
  have T : Txt b n iv := ⟨t1, t2, t3⟩
  intro P hP
  have key : ∀ d k : Nat, s + k + d = n → ∀ (x : Int) (iv' : IV), x = (k : Nat) → rn 48 57 b d (s + k) = rn 48 57 b (n - s) s → (∀ k j, ¬ (k = 66 ∧ (j = 8 ∨ j = 11)) → iv' k j = iv k j) → iv' 66 8 = ((s + k : Nat) : Int) → Ltr 48 57 b s k → (k ≤ 3 → iv' 66 11 = cdd b s k) → P x iv' := by
    intro d
    induction d with
    | zero =>
      intro k hk x iv' ex hr fr h8 hL hc
      subst ex
      replace hc := fun (_ : Unit) => hc
      have er : rn 48 57 b (n - s) s = s + k := hr.symm
      have T' : Txt b n iv' := T.congr fun k j q => fr k j (by omega)
      apply hP
      unfold bd_X12_goesOn_173
      rw [h8]
      refine m_byteAt T' (fun z => by omega) (fun _ => ?_)
      refine ⟨fun _ => ⟨fun _ => ⟨fun y => hK iv' (fun k j q => fr k j (by omega)) (by rw [er]; exact h8) (fun q => by omega) (fun _ => fr _ _ (by omega)), fun y iv5 e5 => hK iv5 (fun k j q => by rw [e5, w2_ne (by omega)]; exact fr k j (by omega)) (by rw [er, e5, w2_ne (by omega)]; exact h8) (fun q => ⟨?_, by rw [e5, w2_eq]⟩) (fun q => by omega)⟩, fun z => absurd rfl z⟩, fun z => absurd (by decide) z⟩
      rw [er, Nat.add_sub_cancel_left, e5, w2_ne (by omega)]; exact hc () (by omega)
    | succ d ih =>
      intro k hk x iv' ex hr fr h8 hL hc
      subst ex
      replace hc := fun (_ : Unit) => hc
      replace hr : (if 48 ≤ b (s + k) ∧ b (s + k) ≤ 57 then rn 48 57 b d (s + k + 1) else s + k) = rn 48 57 b (n - s) s := hr
      have T' : Txt b n iv' := T.congr fun k j q => fr k j (by omega)
      have ek : Unit → w32 ((k : Int) + 1) = ((k + 1 : Nat) : Int) := fun _ => w32_id (by omega) (by omega)
      have e8' : Unit → w32 (((s + k : Nat) : Int) + 1) = ((s + (k + 1) : Nat) : Int) := fun _ => w32_id (by omega) (by omega)
      have out : Unit → ¬ (48 ≤ b (s + k) ∧ b (s + k) ≤ 57) → (((3 : Int) < (k : Nat)) → K iv') ∧ ((¬ ((3 : Int) < (k : Nat))) → (∀ iv5, iv5 = w2 iv' 66 9 3 → K iv5)) := by
        intro _ hn
        rw [if_neg hn] at hr
        refine ⟨fun y => hK iv' (fun k j q => fr k j (by omega)) (by rw [← hr]; exact h8) (fun q => by omega) (fun _ => fr _ _ (by omega)), fun y iv5 e5 => hK iv5 (fun k j q => by rw [e5, w2_ne (by omega)]; exact fr k j (by omega)) (by rw [← hr, e5, w2_ne (by omega)]; exact h8) (fun q => ⟨?_, by rw [e5, w2_eq]⟩) (fun q => by omega)⟩
        rw [← hr, Nat.add_sub_cancel_left, e5, w2_ne (by omega)]; exact hc () (by omega)
      have go : ∀ iv2 : IV, (48 ≤ b (s + k) ∧ b (s + k) ≤ 57) → (∀ k j, ¬ (k = 66 ∧ j = 11) → iv2 k j = iv' k j) → (k + 1 ≤ 3 → iv2 66 11 = cdd b s (k + 1)) → bd_X12_goesOn_215 P k iv2 rv K := by
        intro iv2 hy f2 hc2 iv3 e3
        have a8 : iv2 66 8 = ((s + k : Nat) : Int) := by rw [f2 _ _ (by omega)]; exact h8
        rw [a8, e8' ()] at e3
        rw [ek ()]
        rw [if_pos hy] at hr
        refine ih (k + 1) (by omega) _ iv3 rfl hr (fun k j q => by rw [e3, w2_ne (by omega), f2 _ _ (by omega)]; exact fr k j q) (by rw [e3, w2_eq]) (fun j hj => ?_) (fun q => by rw [e3, w2_ne (by omega)]; exact hc2 q)
        by_cases z : j = k
        · rw [z]; exact hy
        · exact hL j (by omega)
      apply hP
      unfold bd_X12_goesOn_173
      rw [h8]
      refine m_byteAt T' (fun hin v hv => ?_) (fun z => by omega)
      have hb := (t3 (s + k) (by omega)).2
      by_cases hy : 48 ≤ b (s + k) ∧ b (s + k) ≤ 57
      · have ev : v = b (s + k) := by omega
        refine ⟨fun z => by omega, fun _ => ⟨fun z => by omega, fun _ => ⟨fun z => absurd z (by decide), fun _ => ⟨fun z => go iv' hy (fun _ _ _ => rfl) (fun q => by omega), fun z => ?_⟩⟩⟩⟩
        refine m_byteAt T' (fun _ v2 hv2 iv8 e8 => go iv8 hy (fun k j q => by rw [e8, w2_ne q]) (fun q => ?_)) (fun z => by omega)
        have ev2 : v2 = b (s + k) := by omega
        have cb := cdd_le k hL (by omega)
        rw [e8, w2_eq, hc () (by omega), ev2, w32_id (x := 10 * cdd b s k) (by omega) (by omega), w32_id (x := 10 * cdd b s k + b (s + k)) (by omega) (by omega), w32_id (by omega) (by omega)]
        show _ = cdd b s k * 10 + (b (s + k) - 48)
        omega
      · have o := out () hy
        refine ⟨fun z => ⟨fun _ => o, fun z => absurd rfl z⟩, fun z => ⟨fun z2 => ⟨fun _ => o, fun z => absurd rfl z⟩, fun z2 => by omega⟩⟩
  exact key (n - s) 0 (by omega) _ iv rfl rfl (fun _ _ _ => rfl) (by rw [e8]; rfl) (fun j hj => by omega) (fun _ => e11)
theorem m_goesOn {b : Nat → Int} {n a : Nat} {iv : IV} {rv : RV} {K : IV → Prop} (T : Txt b n iv) (ha : a ≤ n) (e8 : iv 66 8 = (a : Nat)) (e9 : iv 66 9 ≠ 5)
    (hK : ∀ iv' : IV, (∀ k j, ¬ (k = 66 ∧ ((8 ≤ j ∧ j ≤ 11) ∨ j = 14)) → iv' k j = iv k j) → MTk (tok b n a) iv' → K iv') : wp_X12_goesOn iv rv K := by
  have n9 := T.1
  have t3 := T.2.2
  refine ⟨fun _ => ?_, fun z => absurd z e9⟩
  intro P hP
  have key : ∀ d i : Nat, i + d = n → ∀ iv' : IV, sk b d i = sk b (n - a) a → (∀ k j, ¬ (k = 66 ∧ j = 8) → iv' k j = iv k j) → iv' 66 8 = (i : Nat) → P iv' := by
    intro d i hi iv' hsk fr h8
    have stop : ∀ s : Nat, sk b (n - a) a = s → s ≤ n → (s < n → b s ≠ 32) → ∀ iv' : IV, (∀ k j, ¬ (k = 66 ∧ j = 8) → iv' k j = iv k j) → iv' 66 8 = (s : Nat) → ∀ iv3, iv3 = w2 iv' 66 10 (iv' 66 8) → ∀ iv4, iv4 = w2 iv3 66 9 0 → wp_X12_byteAt (iv4 66 8) iv4 rv (fun r5 => ((r5 ≠ (-1)) → (wp_X12_isLetter r5 iv4 rv (fun r7 => ((r7 = 0) → (wp_X12_isDigit r5 iv4 rv (fun r9 => ((r9 = 0) → (((r5 ≠ 59) → (K iv4)) ∧ ((r5 = 59) → (∀ iv12, iv12 = w2 iv4 66 9 4 → ∀ iv13, iv13 = w2 iv12 66 8 (w32 ((iv12 66 8) + 1)) → K iv13)))) ∧ ((¬ (r9 = 0)) → (∀ iv14, iv14 = w2 iv4 66 11 0 → wl_X12_goesOn_173 0 iv14 rv K))))) ∧ ((¬ (r7 = 0)) → (∀ iv15, iv15 = w2 iv4 66 14 0 → wl_X12_goesOn_84 0 iv15 rv K))))) ∧ ((r5 = (-1)) → (∀ iv16, iv16 = w2 iv4 66 9 1 → K iv16))) := by
      intro s es hs _ iv' fr h8 iv3 q3 iv4 q4
      rw [h8] at q3
      have f4 : ∀ k j, ¬ (k = 66 ∧ (j = 9 ∨ j = 10)) → iv4 k j = iv' k j := fun k j q => by rw [q4, w2_ne (by omega), q3, w2_ne (by omega)]
      have g4 : ∀ k j, ¬ (k = 66 ∧ ((8 ≤ j ∧ j ≤ 11) ∨ j = 14)) → iv4 k j = iv k j := fun k j q => by rw [f4 _ _ (by omega)]; exact fr k j (by omega)
      have i10 : iv4 66 10 = (s : Nat) := by rw [q4, w2_ne (by omega), q3, w2_eq]
      have i9 : iv4 66 9 = 0 := by rw [q4, w2_eq]
      have i8 : iv4 66 8 = (s : Nat) := by rw [f4 _ _ (by omega)]; exact h8
      have T4 : Txt b n iv4 := T.congr fun k j q => g4 k j (by omega)
      rw [i8]
      refine m_byteAt T4 (fun hin v hv => ⟨fun _ => ?_, fun z => by omega⟩) (fun hin => ⟨fun z => absurd rfl z, fun _ iv16 e16 => ?_⟩)
      · have hb := (t3 s hin).2
        by_cases y1 : 97 ≤ b s ∧ b s ≤ 122
        · have ev : v = b s := by omega
          refine ⟨fun z => by omega, fun _ => ⟨fun z => by omega, fun _ => ⟨fun z => absurd z (by decide), fun _ iv15 e15 => ?_⟩⟩⟩
          refine m_runw (s := s) (T4.congr fun k j q => by rw [e15, w2_ne (by omega)]) hs (by rw [e15, w2_ne (by omega)]; exact i8) (by rw [e15, w2_eq]) (fun iv5 f5 p8 p1 p2 => ?_)
          have tk : tok b n a = (if rn 97 122 b (n - s) s ≤ s + 8 then (1, s, cdw b s (rn 97 122 b (n - s) s - s), rn 97 122 b (n - s) s) else (4, s, 0, 0)) := by
            unfold tok; rw [es, if_neg (by omega), if_pos y1]
          have p10 : iv5 66 10 = (s : Nat) := by rw [f5 _ _ (by omega), e15, w2_ne (by omega)]; exact i10
          have fr5 : ∀ k j, ¬ (k = 66 ∧ ((8 ≤ j ∧ j ≤ 11) ∨ j = 14)) → iv5 k j = iv k j := fun k j q => by rw [f5 _ _ (by omega), e15, w2_ne (by omega)]; exact g4 k j q
          by_cases le : rn 97 122 b (n - s) s ≤ s + 8
          · rw [if_pos le] at tk
            obtain ⟨c1, c2⟩ := p1 le
            refine hK iv5 fr5 ?_
            rw [tk]
            exact ⟨c2, p10, fun _ => c1, fun z => absurd (show (1 : Int) = 2 from z) (by decide), fun _ => p8⟩
          · rw [if_neg le] at tk
            refine hK iv5 fr5 ?_
            rw [tk]
            exact ⟨by rw [p2 le, e15, w2_ne (by omega)]; exact i9, p10, fun z => absurd (show (4 : Int) = 1 from z) (by decide), fun z => absurd (show (4 : Int) = 2 from z) (by decide), fun z => absurd rfl z⟩
        · have nl : (v < 97 ∨ 122 < v) := by omega
          have rest : wp_X12_isDigit v iv4 rv (fun r9 => ((r9 = 0) → (((v ≠ 59) → (K iv4)) ∧ ((v = 59) → (∀ iv12, iv12 = w2 iv4 66 9 4 → ∀ iv13, iv13 = w2 iv12 66 8 (w32 ((iv12 66 8) + 1)) → K iv13)))) ∧ ((¬ (r9 = 0)) → (∀ iv14, iv14 = w2 iv4 66 11 0 → wl_X12_goesOn_173 0 iv14 rv K))) := by
            by_cases y2 : 48 ≤ b s ∧ b s ≤ 57
            · have ev : v = b s := by omega
              refine ⟨fun z => by omega, fun _ => ⟨fun z => by omega, fun _ => ⟨fun z => absurd z (by decide), fun _ iv14 e14 => ?_⟩⟩⟩
              refine m_rund (s := s) (T4.congr fun k j q => by rw [e14, w2_ne (by omega)]) hs (by rw [e14, w2_ne (by omega)]; exact i8) (by rw [e14, w2_eq]) (fun iv5 f5 p8 p1 p2 => ?_)
              have tk : tok b n a = (if rn 48 57 b (n - s) s ≤ s + 3 then (2, s, cdd b s (rn 48 57 b (n - s) s - s), rn 48 57 b (n - s) s) else (4, s, 0, 0)) := by
                unfold tok; rw [es, if_neg (by omega), if_neg y1, if_pos y2]
              have p10 : iv5 66 10 = (s : Nat) := by rw [f5 _ _ (by omega), e14, w2_ne (by omega)]; exact i10
              have fr5 : ∀ k j, ¬ (k = 66 ∧ ((8 ≤ j ∧ j ≤ 11) ∨ j = 14)) → iv5 k j = iv k j := fun k j q => by rw [f5 _ _ (by omega), e14, w2_ne (by omega)]; exact g4 k j q
              by_cases le : rn 48 57 b (n - s) s ≤ s + 3
              · rw [if_pos le] at tk
                obtain ⟨c1, c2⟩ := p1 le
                refine hK iv5 fr5 ?_
                rw [tk]
                exact ⟨c2, p10, fun z => absurd (show (2 : Int) = 1 from z) (by decide), fun _ => c1, fun _ => p8⟩
              · rw [if_neg le] at tk
                refine hK iv5 fr5 ?_
                rw [tk]
                exact ⟨by rw [p2 le, e14, w2_ne (by omega)]; exact i9, p10, fun z => absurd (show (4 : Int) = 1 from z) (by decide), fun z => absurd (show (4 : Int) = 2 from z) (by decide), fun z => absurd rfl z⟩
            · have nd : (v < 48 ∨ 57 < v) := by omega
              have leaf : ((v ≠ 59) → (K iv4)) ∧ ((v = 59) → (∀ iv12, iv12 = w2 iv4 66 9 4 → ∀ iv13, iv13 = w2 iv12 66 8 (w32 ((iv12 66 8) + 1)) → K iv13)) := by
                refine ⟨fun z => ?_, fun z iv12 e12 iv13 e13 => ?_⟩
                · have tk : tok b n a = (4, s, 0, 0) := by unfold tok; rw [es, if_neg (by omega), if_neg y1, if_neg y2, if_neg (by omega)]
                  refine hK iv4 g4 ?_
                  rw [tk]
                  exact ⟨i9, i10, fun z => absurd (show (4 : Int) = 1 from z) (by decide), fun z => absurd (show (4 : Int) = 2 from z) (by decide), fun z => absurd rfl z⟩
                · have tk : tok b n a = (3, s, 0, s + 1) := by unfold tok; rw [es, if_neg (by omega), if_neg y1, if_neg y2, if_pos (by omega)]
                  have a8 : iv12 66 8 = (s : Nat) := by rw [e12, w2_ne (by omega)]; exact i8
                  rw [a8, w32_id (by omega) (by omega)] at e13
                  refine hK iv13 (fun k j q => by rw [e13, w2_ne (by omega), e12, w2_ne (by omega)]; exact g4 k j q) ?_
                  rw [tk]
                  exact ⟨by rw [e13, w2_ne (by omega), e12, w2_eq]; rfl, by rw [e13, w2_ne (by omega), e12, w2_ne (by omega)]; exact i10, fun z => absurd (show (3 : Int) = 1 from z) (by decide), fun z => absurd (show (3 : Int) = 2 from z) (by decide), fun _ => by rw [e13, w2_eq]; rfl⟩
              exact ⟨fun z => ⟨fun _ => leaf, fun z => absurd rfl z⟩, fun z => ⟨fun z2 => ⟨fun _ => leaf, fun z => absurd rfl z⟩, fun z2 => by omega⟩⟩
          exact ⟨fun z => ⟨fun _ => rest, fun z => absurd rfl z⟩, fun z => ⟨fun z2 => ⟨fun _ => rest, fun z => absurd rfl z⟩, fun z2 => by omega⟩⟩
      · have tk : tok b n a = (0, s, 0, s) := by unfold tok; rw [es, if_pos (by omega)]
        refine hK iv16 (fun k j q => by rw [e16, w2_ne (by omega)]; exact g4 k j q) ?_
        rw [tk]
        exact ⟨by rw [e16, w2_eq]; rfl, by rw [e16, w2_ne (by omega)]; exact i10, fun z => absurd (show (0 : Int) = 1 from z) (by decide), fun z => absurd (show (0 : Int) = 2 from z) (by decide), fun _ => by rw [e16, w2_ne (by omega)]; exact i8⟩
    induction d generalizing i iv' with
    | zero =>
      have T' : Txt b n iv' := T.congr fun k j q => fr k j (by omega)
      have es : sk b (n - a) a = i := by rw [← hsk]; rfl
      apply hP
      unfold bd_X12_goesOn_9
      rw [h8]
      refine m_byteAt T' (fun z => by omega) (fun _ => ⟨fun _ => ?_, fun z => absurd z (by decide)⟩)
      have := stop i es (by omega) (fun z => by omega) iv' fr h8
      rw [h8] at this
      exact this
    | succ d ih =>
      have T' : Txt b n iv' := T.congr fun k j q => fr k j (by omega)
      replace hsk : (if b i = 32 then sk b d (i + 1) else i) = sk b (n - a) a := hsk
      have hb := (t3 i (by omega)).2
      apply hP
      unfold bd_X12_goesOn_9
      rw [h8]
      refine m_byteAt T' (fun hin v hv => ⟨fun z => ?_, fun z iv17 e17 => ?_⟩) (fun z => by omega)
      · have ne : b i ≠ 32 := by omega
        rw [if_neg ne] at hsk
        have := stop i hsk.symm (by omega) (fun _ => ne) iv' fr h8
        rw [h8] at this
        exact this
      · have eq : b i = 32 := by omega
        rw [if_pos eq] at hsk
        rw [w32_id (by omega) (by omega)] at e17
        exact ih (i + 1) (by omega) iv17 hsk (fun k j q => by rw [e17, w2_ne q]; exact fr k j q) (by rw [e17, w2_eq]; omega)
  exact key (n - a) a (by omega) iv rfl (fun _ _ _ => rfl) e8
