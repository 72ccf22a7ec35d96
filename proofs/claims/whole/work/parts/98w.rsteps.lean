/-! THE READER: the reference's steps -/
/-- a sort of the class's names as the reference tells it -/
def sm (s : Int) : Int := if s = 4 then 3 else if 5 ≤ s ∧ s ≤ 7 then 4 else if s = 10 then 5 else if s = 11 then 6 else if s = 0 ∨ s = 1 ∨ s = 2 then s else -1
theorem sm_iff (s : Int) : (sm s = 0 ↔ s = 0) ∧ (sm s = 1 ↔ s = 1) ∧ (sm s = 2 ↔ s = 2) ∧ (sm s = 3 ↔ s = 4) ∧ (sm s = 4 ↔ 5 ≤ s ∧ s ≤ 7) := by
  unfold sm
  split
  · omega
  · split
    · omega
    · split
      · omega
      · split
        · omega
        · split <;> omega
theorem rk5 (k : Int) : rk k ≠ 5 := by
  unfold rk; split
  · decide
  · split
    · decide
    · split
      · decide
      · split <;> decide
theorem rk_iff (k : Int) : (rk k = 1 ↔ k = 0) ∧ (rk k = 2 ↔ k = 1) ∧ (rk k = 3 ↔ k = 2) ∧ (rk k = 4 ↔ k = 3) := by
  unfold rk; split
  · omega
  · split
    · omega
    · split
      · omega
      · split <;> omega
/-- the reference's reader: text, token, names -/
def MR (B : Nat) (b : Nat → Int) (n a m : Nat) (c so nu : F1) (iv : IV) : Prop := Txt b n iv ∧ MTk (tok b n a) iv ∧ a ≤ n ∧ m ≤ 51 ∧ iv B 12 = (m : Nat) ∧ (∀ j, j < m → iv (B + 27) j = c j ∧ iv (B + 28) j = sm (so j) ∧ iv (B + 29) j = nu j) ∧ iv 66 12 = 0
def FrB (B : Nat) (iv iv' : IV) : Prop := ∀ k j, ¬ (B ≤ k ∧ k ≤ B + 29) → ¬ (k = 66 ∧ 8 ≤ j ∧ j ≤ 14) → iv' k j = iv k j
def FrN (B : Nat) (iv iv' : IV) : Prop := ∀ k j, ¬ (k = B ∧ j = 12) → ¬ (B + 27 ≤ k ∧ k ≤ B + 29) → ¬ (k = 66 ∧ 8 ≤ j ∧ j ≤ 14) → iv' k j = iv k j
theorem FrN.tr {B : Nat} {iv iv' iv'' : IV} (f : FrN B iv iv') (f' : FrN B iv' iv'') : FrN B iv iv'' := fun k j q r s => (f' k j q r s).trans (f k j q r s)
theorem FrB.tr {B : Nat} {iv iv' iv'' : IV} (f : FrB B iv iv') (f' : FrB B iv' iv'') : FrB B iv iv'' := fun k j q r => (f' k j q r).trans (f k j q r)
theorem FrN.b {B : Nat} {iv iv' : IV} (f : FrN B iv iv') : FrB B iv iv' := fun k j q r => f k j (by omega) (by omega) r
/-- the reading is over: fault k at p -/
def Ov (B : Nat) (iv0 : IV) (k : Int) (p : Nat) (iv : IV) : Prop := FrB B iv0 iv ∧ iv 66 9 = 5 ∧ iv 66 12 = k ∧ iv 66 13 = (p : Nat) ∧ 0 ≤ iv B 12 ∧ iv B 12 ≤ 51
theorem MR.congr {B : Nat} {b : Nat → Int} {n a m : Nat} {c so nu : F1} {iv iv' : IV} (M : MR B b n a m c so nu iv) (he : ∀ k j, (k = 66 ∧ 7 ≤ j ∧ j ≤ 14) ∨ k = 67 ∨ (k = B ∧ j = 12) ∨ (B + 27 ≤ k ∧ k ≤ B + 29) → iv' k j = iv k j) : MR B b n a m c so nu iv' := by
  obtain ⟨⟨t1, t2, t3⟩, ⟨k1, k2, k3, k4, k5⟩, ha, m51, e12, nm, z12⟩ := M
  refine ⟨⟨t1, by rw [he _ _ (by omega)]; exact t2, fun j hj => by rw [he _ _ (by omega)]; exact t3 j hj⟩, ⟨by rw [he _ _ (by omega)]; exact k1, by rw [he _ _ (by omega)]; exact k2, fun y => by rw [he _ _ (by omega)]; exact k3 y, fun y => by rw [he _ _ (by omega)]; exact k4 y, fun y => by rw [he _ _ (by omega)]; exact k5 y⟩, ha, m51, by rw [he _ _ (by omega)]; exact e12, fun j hj => by rw [he _ _ (by omega), he _ _ (by omega), he _ _ (by omega)]; exact nm j hj, by rw [he _ _ (by omega)]; exact z12⟩
theorem MR.n5 {B : Nat} {b : Nat → Int} {n a m : Nat} {c so nu : F1} {iv : IV} (M : MR B b n a m c so nu iv) : iv 66 9 ≠ 5 := by
  rw [M.2.1.1]; exact rk5 _
theorem r_adv {B : Nat} {b : Nat → Int} {n a m : Nat} {c so nu : F1} {iv : IV} {rv : RV} {K : IV → Prop} (hB : 80 ≤ B) (M : MR B b n a m c so nu iv) (hk : kd b n a ≠ 4) (hK : ∀ iv' : IV, (∀ k j, ¬ (k = 66 ∧ ((8 ≤ j ∧ j ≤ 11) ∨ j = 14)) → iv' k j = iv k j) → MR B b n (nx b n a) m c so nu iv' → K iv') : wp_X12_goesOn iv rv K := by
  have n5 := M.n5
  obtain ⟨T, K1, ha, m51, e12, nm, z12⟩ := M
  refine m_goesOn (b := b) (n := n) (a := nx b n a) T (tok_nx ha) (K1.2.2.2.2 hk) n5 (fun iv' fr T' => hK iv' fr ⟨⟨T.1, by rw [fr _ _ (by omega)]; exact T.2.1, fun j hj => by rw [fr _ _ (by omega)]; exact T.2.2 j hj⟩, T', tok_nx ha, m51, by rw [fr _ _ (by omega)]; exact e12, fun j hj => by rw [fr _ _ (by omega), fr _ _ (by omega), fr _ _ (by omega)]; exact nm j hj, by rw [fr _ _ (by omega)]; exact z12⟩)
theorem r_wrong {B : Nat} {b : Nat → Int} {n a m : Nat} {c so nu : F1} {iv0 iv : IV} {rv : RV} {K : IV → Prop} {w : Int} (hB : 80 ≤ B) (M : MR B b n a m c so nu iv) (fr : FrB B iv0 iv) (hK : ∀ iv' : IV, Ov B iv0 w (st b n a) iv' → K iv') : wp_X12_wrong w iv rv K := by
  have n5 := M.n5
  obtain ⟨T, K1, ha, m51, e12, nm, z12⟩ := M
  refine ⟨fun _ iv2 e2 iv3 e3 iv4 e4 => hK iv4 ⟨fun k j q1 q2 => ?_, ?_, ?_, ?_, ?_⟩, fun y => absurd y n5⟩
  · rw [e4, w2_ne (by omega), e3, w2_ne (by omega), e2, w2_ne (by omega)]; exact fr k j q1 q2
  · rw [e4, w2_eq]
  · rw [e4, w2_ne (by omega), e3, w2_ne (by omega), e2, w2_eq]
  · rw [e4, w2_ne (by omega), e3, w2_eq, e2, w2_ne (by omega)]; exact K1.2.1
  · have e : iv4 B 12 = (m : Nat) := by rw [e4, w2_ne (by omega), e3, w2_ne (by omega), e2, w2_ne (by omega)]; exact e12
    omega
theorem o_go {iv : IV} {rv : RV} {K : IV → Prop} (o : iv 66 9 = 5) (h : K iv) : wp_X12_goesOn iv rv K := ⟨fun y => absurd o y, fun _ => h⟩
theorem o_wrong {iv : IV} {rv : RV} {w : Int} {K : IV → Prop} (o : iv 66 9 = 5) (h : K iv) : wp_X12_wrong w iv rv K := ⟨fun y => absurd o y, fun _ => h⟩
theorem o_isWord {iv : IV} {rv : RV} {w : Nat} {K : Int → Prop} (o : iv 66 9 = 5) (h : K 0) : wp_X12_isWord w iv rv K := ⟨fun _ => h, fun y => absurd (o.symm.trans y) (by decide)⟩
theorem o_needs {iv : IV} {rv : RV} {w : Nat} {K : IV → Prop} (o : iv 66 9 = 5) (h : K iv) : wp_X12_needs w iv rv K := o_isWord o ⟨fun y => absurd rfl y, fun _ => o_wrong o (o_go o h)⟩
theorem o_eats {iv : IV} {rv : RV} {w : Nat} {K : Int → IV → Prop} (o : iv 66 9 = 5) (h : K 0 iv) : wp_X12_eats w iv rv K := o_isWord o ⟨fun _ => h, fun y => absurd rfl y⟩
theorem o_whole {iv : IV} {rv : RV} {lo hi : Int} {K : Int → IV → Prop} (o : iv 66 9 = 5) (h : ∀ r, K r iv) : wp_X12_readWhole lo hi iv rv K :=
  ⟨fun y => absurd (o.symm.trans y) (by decide), fun _ => o_wrong o (fun x1 _ => o_go o (h x1))⟩
theorem o_isName {iv : IV} {rv : RV} {K : Int → Prop} (o : iv 66 9 = 5) (h : K 0) : wp_X12_isName iv rv K := ⟨fun y => absurd (o.symm.trans y) (by decide), fun _ => h⟩
theorem o_fresh12 {B : Nat} {l1 l2 : Int} {iv : IV} {rv : RV} {K : IV → Prop} (hg : gR rv 66 4 = B) (hh : hMm rv 66 4) (o : iv 66 9 = 5) (hm : 0 ≤ iv B 12 ∧ iv B 12 ≤ 51) (h : K iv) : bd_X12_readFresh_12 l1 l2 iv rv K := by
  obtain ⟨m, em⟩ := Int.eq_ofNat_of_zero_le hm.1
  refine ⟨hh, ?_⟩
  rw [hg]
  exact m_find (b := B) (c := iv (B + 27)) (m := m) (by omega) em (fun _ _ => rfl) ⟨fun _ => ⟨fun y => absurd o y, fun _ => h⟩, fun _ => o_wrong o ⟨fun y => absurd o y, fun _ => h⟩⟩
theorem o_fresh {B : Nat} {l1 l2 : Int} {iv : IV} {rv : RV} {K : IV → Prop} (hg : gR rv 66 4 = B) (hh : hMm rv 66 4) (o : iv 66 9 = 5) (hm : 0 ≤ iv B 12 ∧ iv B 12 ≤ 51) (h : K iv) : wp_X12_readFresh l1 l2 iv rv K :=
  o_isName o ⟨fun y => absurd rfl y, fun _ => o_wrong o (o_fresh12 hg hh o hm h)⟩
theorem o_known12 {B : Nat} {l1 : Int} {iv : IV} {rv : RV} {K : Int → IV → Prop} (hg : gR rv 66 4 = B) (hh : hMm rv 66 4) (o : iv 66 9 = 5) (hm : 0 ≤ iv B 12 ∧ iv B 12 ≤ 51) (h : K 0 iv) : bd_X12_known_12 l1 iv rv K := by
  obtain ⟨m, em⟩ := Int.eq_ofNat_of_zero_le hm.1
  refine ⟨hh, ?_⟩
  rw [hg]
  have e47 : Unit → ∀ l2, bd_X12_known_47 l2 iv rv K := fun _ l2 => ⟨fun y => absurd o y, fun _ => h⟩
  refine m_find (b := B) (c := iv (B + 27)) (m := m) (by omega) em (fun _ _ => rfl) ⟨fun _ => o_wrong o (e47 () _), fun y => ?_⟩
  rcases ixf_ok (c := iv (B + 27)) (cd := iv 66 14) m 0 with ⟨i1, i2⟩ | ⟨j, i1, i2, i3, i4⟩
  · exact absurd i1 y
  · exact ⟨⟨by omega, by omega⟩, fun _ => e47 () _, fun _ => o_wrong o (e47 () _)⟩
theorem o_known {B : Nat} {l1 : Int} {iv : IV} {rv : RV} {K : Int → IV → Prop} (hg : gR rv 66 4 = B) (hh : hMm rv 66 4) (o : iv 66 9 = 5) (hm : 0 ≤ iv B 12 ∧ iv B 12 ≤ 51) (h : K 0 iv) : wp_X12_known l1 iv rv K :=
  o_isName o ⟨fun y => absurd rfl y, fun _ => o_wrong o (o_known12 hg hh o hm h)⟩
theorem o_use {B : Nat} {l1 : Int} {iv : IV} {rv : RV} {K : Int → IV → Prop} (hg : gR rv 66 4 = B) (hh : hMm rv 66 4) (o : iv 66 9 = 5) (hm : 0 ≤ iv B 12 ∧ iv B 12 ≤ 51) (h : ∀ r, K r iv) : wp_X12_readKnown l1 iv rv K := o_known hg hh o hm (o_go o (h 0))
theorem o_other {B : Nat} {l1 : Int} {iv : IV} {rv : RV} {K : Int → IV → Prop} (hg : gR rv 66 4 = B) (hh : hMm rv 66 4) (o : iv 66 9 = 5) (hm : 0 ≤ iv B 12 ∧ iv B 12 ≤ 51) (h : ∀ r, K r iv) : wp_X12_readOther l1 iv rv K := o_known hg hh o hm ⟨fun _ => o_go o (h 0), fun _ => o_wrong o (o_go o (h 0))⟩
theorem o_either {w1 w2 : Nat} {iv : IV} {rv : RV} {K : Int → IV → Prop} (o : iv 66 9 = 5) (h : ∀ r, K r iv) : wp_X12_readEither w1 w2 iv rv K := o_isWord o ⟨fun y => absurd rfl y, fun _ => o_isWord o ⟨fun y => absurd rfl y, fun _ => o_wrong o (o_go o ⟨Or.inl rfl, h 0⟩)⟩⟩
theorem o_good {B : Nat} {iv : IV} {rv : RV} {K : Int → IV → Prop} (hg : gR rv 66 4 = B) (hh : hMm rv 66 4) (o : iv 66 9 = 5) (hm : 0 ≤ iv B 12 ∧ iv B 12 ≤ 51) (h : ∀ r, K r iv) : wp_X12_readGood iv rv K := o_eats o ⟨fun _ => o_use hg hh o hm h, fun y => absurd rfl y⟩
theorem o_day53 {l1 l2 l3 : Int} {iv : IV} {rv : RV} {K : IV → Prop} (o : iv 66 9 = 5) (h : K iv) : bd_X12_readDay_53 l1 l2 l3 iv rv K := ⟨fun y => absurd o y, fun _ => h⟩
theorem o_day {g : Int} {iv : IV} {rv : RV} {K : IV → Prop} (o : iv 66 9 = 5) (h : K iv) : wp_X12_readDay g iv rv K :=
  o_needs o (o_whole o (fun _ => o_eats o ⟨fun _ => o_day53 o h, fun y => absurd rfl y⟩))
theorem o_begins {x y : Int} {iv : IV} {rv : RV} {K : IV → Prop} (o : iv 66 9 = 5) (h : K iv) : wp_X12_begins x y iv rv K := ⟨fun _ => o_go o h, fun _ => o_wrong o (o_go o h)⟩
theorem r_is {B : Nat} {b : Nat → Int} {n a m w : Nat} {c so nu : F1} {iv : IV} {rv : RV} {K : Int → Prop} (hw : w < 51) (ho : okv (bs w) 0 = true) (M : MR B b n a m c so nu iv) (h1 : Unit → isWd b n w a → K 1) (h0 : Unit → ¬ isWd b n w a → K 0) : wp_X12_isWord w iv rv K := by
  have k9 := M.2.1.1
  have k14 := M.2.1.2.2.1
  refine m_isWord hw ho (fun _ y1 y2 => h1 () ?_) (fun _ y => h0 () (fun q => y ⟨?_, ?_⟩))
  · have k1 : kd b n a = 1 := (rk_iff _).2.1.mp (k9.symm.trans y1)
    exact ⟨k1, y2.symm.trans (k14 k1)⟩
  · rw [k9]; exact (rk_iff _).2.1.mpr q.1
  · rw [k14 q.1]; exact q.2.symm
theorem r_needs {B : Nat} {b : Nat → Int} {n a m w : Nat} {c so nu : F1} {iv0 iv : IV} {rv : RV} {K : IV → Prop} {F : Int → Nat → Prop} {S : Nat → Prop} (hB : 80 ≤ B) (hw : w < 51) (ho : okv (bs w) 0 = true) (h : pw_word b n w a F S) (fr : FrN B iv0 iv) (M : MR B b n a m c so nu iv) (hO : ∀ k p, F k p → ∀ iv' : IV, Ov B iv0 k p iv' → K iv') (hS : ∀ a', S a' → ∀ iv' : IV, FrN B iv0 iv' → MR B b n a' m c so nu iv' → K iv') : wp_X12_needs w iv rv K :=
  r_is hw ho M (fun _ q => ⟨fun _ => r_adv hB M (by rw [q.1]; decide) (fun iv' f M' => hS _ (h.1 q) iv' (fr.tr fun k j q1 q2 q3 => f k j (by omega)) M'), fun y => absurd y (by decide)⟩) (fun _ q => ⟨fun y => absurd rfl y, fun _ => r_wrong hB M fr.b (fun iv' o => o_go o.2.1 (hO _ _ (h.2 q) iv' o))⟩)
theorem r_eats {B : Nat} {b : Nat → Int} {n a m w : Nat} {c so nu : F1} {iv0 iv : IV} {rv : RV} {K : Int → IV → Prop} (hB : 80 ≤ B) (hw : w < 51) (ho : okv (bs w) 0 = true) (fr : FrN B iv0 iv) (M : MR B b n a m c so nu iv) (h1 : Unit → isWd b n w a → ∀ iv' : IV, FrN B iv0 iv' → MR B b n (nx b n a) m c so nu iv' → K 1 iv') (h0 : Unit → ¬ isWd b n w a → K 0 iv) : wp_X12_eats w iv rv K :=
  r_is hw ho M (fun _ q => ⟨fun y => absurd y (by decide), fun _ => r_adv hB M (by rw [q.1]; decide) (fun iv' f M' => h1 () q iv' (fr.tr fun k j q1 q2 q3 => f k j (by omega)) M')⟩) (fun _ q => ⟨fun _ => h0 () q, fun y => absurd rfl y⟩)
theorem r_whole {B : Nat} {b : Nat → Int} {n a m : Nat} {lo hi : Int} {c so nu : F1} {iv0 iv : IV} {rv : RV} {K : Int → IV → Prop} {F : Int → Nat → Prop} {S : Int × Nat → Prop} (hB : 80 ≤ B) (h : pw_whole b n lo hi a F S) (fr : FrN B iv0 iv) (M : MR B b n a m c so nu iv) (hO : ∀ k p, F k p → ∀ iv' : IV, Ov B iv0 k p iv' → ∀ r, K r iv') (hS : ∀ q, S q → ∀ iv' : IV, FrN B iv0 iv' → MR B b n q.2 m c so nu iv' → K q.1 iv') : wp_X12_readWhole lo hi iv rv K := by
  have k9 := M.2.1.1
  have k11 := M.2.1.2.2.2.1
  refine ⟨fun y => ?_, fun y => r_wrong hB M fr.b (fun iv' o x1 _ => o_go o.2.1 (hO _ _ (h.1 (fun q => y ?_)) iv' o x1))⟩
  · have k2 : kd b n a = 2 := (rk_iff _).2.2.1.mp (k9.symm.trans y)
    have e11 := k11 k2
    change _ = co b n a at e11
    rw [e11]
    have bad : Unit → ¬ (lo ≤ co b n a ∧ co b n a ≤ hi) → wp_X12_wrong 4 iv rv (fun iv4 => bd_X12_readWhole_33 iv4 rv K) := fun _ q => r_wrong hB M fr.b (fun iv' o x1 _ => o_go o.2.1 (hO _ _ (h.2.1 k2 q) iv' o x1))
    refine ⟨fun z => ⟨fun u => absurd rfl u, fun _ => bad () (fun q => by omega)⟩, fun z => ⟨fun z2 => ⟨fun u => absurd rfl u, fun _ => bad () (fun q => by omega)⟩, fun z2 => ⟨fun _ x1 ex => ?_, fun u => absurd u (by decide)⟩⟩⟩
    rw [e11] at ex
    rw [ex]
    exact r_adv hB M (by rw [k2]; decide) (fun iv' f M' => hS _ (h.2.2 k2 ⟨by omega, by omega⟩) iv' (fr.tr fun k j q1 q2 q3 => f k j (by omega)) M')
  · rw [k9]; exact (rk_iff _).2.2.1.mpr q
theorem am41 (cd : Int) : amg cd (bs 41) 0 0 = if wc 39 = cd then 0 else if wc 17 = cd then 1 else if wc 25 = cd then 2 else if wc 43 = cd then 3 else if wc 5 = cd then 4 else if wc 47 = cd then 5 else if wc 14 = cd then 6 else if wc 2 = cd then 7 else if wc 42 = cd then 8 else if wc 24 = cd then 9 else if wc 19 = cd then 10 else if wc 7 = cd then 11 else if wc 1 = cd then 12 else if wc 48 = cd then 13 else if wc 9 = cd then 14 else -1 := rfl
theorem r_is1 {B : Nat} {b : Nat → Int} {n a m w : Nat} {c so nu : F1} {iv : IV} {rv : RV} {X : Prop} {K : Int → Prop} (hw : w < 51) (ho : okv (bs w) 0 = true) (M : MR B b n a m c so nu iv) (k1 : kd b n a = 1) (h1 : wc w = co b n a → K 0) (h0 : wc w ≠ co b n a → X) : wp_X12_isWord w iv rv (fun r => (r ≠ 0 → K 0) ∧ (r = 0 → X)) :=
  r_is hw ho M (fun _ q => ⟨fun _ => h1 q.2, fun y => absurd y (by decide)⟩) (fun _ q => ⟨fun y => absurd rfl y, fun _ => h0 (fun y => q ⟨k1, y⟩)⟩)
theorem r_is2 {B : Nat} {b : Nat → Int} {n a m w : Nat} {c so nu : F1} {iv : IV} {rv : RV} {X : Prop} {K : Int → Prop} (hw : w < 51) (ho : okv (bs w) 0 = true) (M : MR B b n a m c so nu iv) (k1 : kd b n a = 1) (h1 : wc w = co b n a → K 0) (h0 : wc w ≠ co b n a → X) : wp_X12_isWord w iv rv (fun r => (r = 0 → X) ∧ (¬ (r = 0) → K 0)) :=
  r_is hw ho M (fun _ q => ⟨fun y => absurd y (by decide), fun _ => h1 q.2⟩) (fun _ q => ⟨fun _ => h0 (fun y => q ⟨k1, y⟩), fun y => absurd rfl y⟩)
theorem r_isName {B : Nat} {b : Nat → Int} {n a m : Nat} {c so nu : F1} {iv : IV} {rv : RV} {K : Int → Prop} (M : MR B b n a m c so nu iv) (h1 : Unit → isNm b n a → K 1) (h0 : Unit → ¬ isNm b n a → K 0) : wp_X12_isName iv rv K := by
  have k9 := M.2.1.1
  refine ⟨fun y => ?_, fun y => h0 () (fun q => y (by rw [k9]; exact (rk_iff _).2.1.mpr q.1))⟩
  have k1 : kd b n a = 1 := (rk_iff _).2.1.mp (k9.symm.trans y)
  have no : Unit → 0 ≤ amg (co b n a) (bs 41) 0 0 → K 0 := fun _ q => h0 () (fun z => absurd z.2 (Int.not_lt.mpr q))
  have e := am41 (co b n a)
  refine r_is1 (by omega) rfl M k1 (fun q => no () (by rw [e, if_pos q]; decide)) (fun q1 => ?_)
  rw [if_neg q1] at e
  refine r_is1 (by omega) rfl M k1 (fun q => no () (by rw [e, if_pos q]; decide)) (fun q1 => ?_)
  rw [if_neg q1] at e
  refine r_is1 (by omega) rfl M k1 (fun q => no () (by rw [e, if_pos q]; decide)) (fun q1 => ?_)
  rw [if_neg q1] at e
  refine r_is1 (by omega) rfl M k1 (fun q => no () (by rw [e, if_pos q]; decide)) (fun q1 => ?_)
  rw [if_neg q1] at e
  refine r_is1 (by omega) rfl M k1 (fun q => no () (by rw [e, if_pos q]; decide)) (fun q1 => ?_)
  rw [if_neg q1] at e
  refine r_is1 (by omega) rfl M k1 (fun q => no () (by rw [e, if_pos q]; decide)) (fun q1 => ?_)
  rw [if_neg q1] at e
  refine r_is2 (by omega) rfl M k1 (fun q => no () (by rw [e, if_pos q]; decide)) (fun q1 => ?_)
  rw [if_neg q1] at e
  refine r_is1 (by omega) rfl M k1 (fun q => no () (by rw [e, if_pos q]; decide)) (fun q1 => ?_)
  rw [if_neg q1] at e
  refine r_is1 (by omega) rfl M k1 (fun q => no () (by rw [e, if_pos q]; decide)) (fun q1 => ?_)
  rw [if_neg q1] at e
  refine r_is1 (by omega) rfl M k1 (fun q => no () (by rw [e, if_pos q]; decide)) (fun q1 => ?_)
  rw [if_neg q1] at e
  refine r_is1 (by omega) rfl M k1 (fun q => no () (by rw [e, if_pos q]; decide)) (fun q1 => ?_)
  rw [if_neg q1] at e
  refine r_is1 (by omega) rfl M k1 (fun q => no () (by rw [e, if_pos q]; decide)) (fun q1 => ?_)
  rw [if_neg q1] at e
  refine r_is1 (by omega) rfl M k1 (fun q => no () (by rw [e, if_pos q]; decide)) (fun q1 => ?_)
  rw [if_neg q1] at e
  refine r_is1 (by omega) rfl M k1 (fun q => no () (by rw [e, if_pos q]; decide)) (fun q1 => ?_)
  rw [if_neg q1] at e
  refine r_is1 (by omega) rfl M k1 (fun q => no () (by rw [e, if_pos q]; decide)) (fun q1 => ?_)
  rw [if_neg q1] at e
  exact h1 () ⟨k1, by rw [e]; decide⟩
theorem r_fresh {B : Nat} {b : Nat → Int} {n a m : Nat} {s s' num : Int} {c so nu : F1} {iv0 iv : IV} {rv : RV} {K : IV → Prop} {F : Int → Nat → Prop} {S : Int × Nat → Prop} (hB : 80 ≤ B) (hg : gR rv 66 4 = B) (hh : hMm rv 66 4) (hs : sm s = s') (hm : m < 51) (h : pw_new b n c m a F S) (fr : FrN B iv0 iv) (M : MR B b n a m c so nu iv) (hO : ∀ k p, F k p → ∀ iv' : IV, Ov B iv0 k p iv' → K iv') (hS : ∀ q, S q → ∀ iv' : IV, FrN B iv0 iv' → MR B b n q.2 (m + 1) (up1 c m q.1) (up1 so m s) (up1 nu m num) iv' → K iv') : wp_X12_readFresh s' num iv rv K := by
  have M0 := M
  obtain ⟨T, K1, ha, m51, e12, nm, z12⟩ := M
  have n5 := M0.n5
  refine r_isName M0 (fun _ hn => ⟨fun _ => ?_, fun y => absurd y (by decide)⟩) (fun _ hn => ⟨fun y => absurd rfl y, fun _ => r_wrong hB M0 fr.b (fun iv' o => o_fresh12 hg hh o.2.1 o.2.2.2.2 (hO _ _ (h.1 hn) iv' o))⟩)
  have k1 := hn.1
  have e14 : iv 66 14 = co b n a := K1.2.2.1 k1
  refine ⟨hh, ?_⟩
  rw [hg, e14]
  refine m_find (b := B) (c := c) m51 e12 (fun j hj => (nm j hj).1) ⟨fun z => ?_, fun z => ?_⟩
  · have hz : ixf c (co b n a) m 0 < 0 := by rw [z]; decide
    have p := h.2.2 hn hz
    refine ⟨fun _ => ?_, fun y => absurd y n5⟩
    rw [hg]
    refine ⟨hh, ⟨by omega, by omega⟩, fun iva ea => ?_⟩
    rw [e12, Int.toNat_natCast, e14] at ea
    have a3 : iva B 12 = (m : Nat) := by rw [ea, w2_ne (by omega)]; exact e12
    refine ⟨⟨by omega, by omega⟩, fun ivb eb => ?_⟩
    rw [a3, Int.toNat_natCast] at eb
    have b3 : ivb B 12 = (m : Nat) := by rw [eb, w2_ne (by omega)]; exact a3
    refine ⟨⟨by omega, by omega⟩, fun ivc ec ivd ed => ?_⟩
    rw [b3, Int.toNat_natCast] at ec
    have c3 : ivc B 12 = (m : Nat) := by rw [ec, w2_ne (by omega)]; exact b3
    rw [c3, w32_id (by omega) (by omega)] at ed
    have fd : ∀ k j, ¬ (k = B + 27 ∧ j = m) → ¬ (k = B + 28 ∧ j = m) → ¬ (k = B + 29 ∧ j = m) → ¬ (k = B ∧ j = 12) → ivd k j = iv k j := fun k j q1 q2 q3 q4 => by rw [ed, w2_ne q4, ec, w2_ne q3, eb, w2_ne q2, ea, w2_ne q1]
    have Md : MR B b n a (m + 1) (up1 c m (co b n a)) (up1 so m s) (up1 nu m num) ivd := by
      obtain ⟨t1, t2, t3⟩ := T
      obtain ⟨g1, g2, g3, g4, g5⟩ := K1
      refine ⟨⟨t1, by rw [fd _ _ (by omega) (by omega) (by omega) (by omega)]; exact t2, fun j hj => by rw [fd _ _ (by omega) (by omega) (by omega) (by omega)]; exact t3 j hj⟩, ⟨by rw [fd _ _ (by omega) (by omega) (by omega) (by omega)]; exact g1, by rw [fd _ _ (by omega) (by omega) (by omega) (by omega)]; exact g2, fun y => by rw [fd _ _ (by omega) (by omega) (by omega) (by omega)]; exact g3 y, fun y => by rw [fd _ _ (by omega) (by omega) (by omega) (by omega)]; exact g4 y, fun y => by rw [fd _ _ (by omega) (by omega) (by omega) (by omega)]; exact g5 y⟩, ha, by omega, by rw [ed, w2_eq]; omega, fun j hj => ?_, by rw [fd _ _ (by omega) (by omega) (by omega) (by omega)]; exact z12⟩
      by_cases y : j = m
      · rw [y, up1_eq, up1_eq, up1_eq]
        refine ⟨?_, ?_, ?_⟩
        · rw [ed, w2_ne (by omega), ec, w2_ne (by omega), eb, w2_ne (by omega), ea, w2_eq]
        · rw [ed, w2_ne (by omega), ec, w2_ne (by omega), eb, w2_eq]; exact hs.symm
        · rw [ed, w2_ne (by omega), ec, w2_eq]
      · rw [up1_ne y, up1_ne y, up1_ne y, fd _ _ (by omega) (by omega) (by omega) (by omega), fd _ _ (by omega) (by omega) (by omega) (by omega), fd _ _ (by omega) (by omega) (by omega) (by omega)]
        exact nm j (by omega)
    exact r_adv hB Md (by rw [k1]; decide) (fun iv6 f6 M6 => hS _ p iv6 (fr.tr fun k j q1 q2 q3 => by rw [f6 _ _ (by omega), fd _ _ (by omega) (by omega) (by omega) (by omega)]) M6)
  · have hz : 0 ≤ ixf c (co b n a) m 0 := by
      rcases ixf_ok (c := c) (cd := co b n a) m 0 with ⟨i1, i2⟩ | ⟨j, i1, i2, i3, i4⟩
      · exact absurd i1 z
      · omega
    exact r_wrong hB M0 fr.b (fun iv' o => ⟨fun y => absurd o.2.1 y, fun _ => hO _ _ (h.2.1 hn hz) iv' o⟩)
theorem r_known {B : Nat} {b : Nat → Int} {n a m lo hi : Nat} {l1 : Int} {c so nu : F1} {iv0 iv : IV} {rv : RV} {K : Int → IV → Prop} (hB : 80 ≤ B) (hg : gR rv 66 4 = B) (hh : hMm rv 66 4) (hso : ∀ s : Int, ((lo : Int) ≤ s ∧ s ≤ (hi : Int)) ↔ sm s = l1) (fr : FrN B iv0 iv) (M : MR B b n a m c so nu iv)
    (h1 : Unit → ¬ isNm b n a → ∀ iv' : IV, Ov B iv0 1 (st b n a) iv' → K 0 iv') (h2 : Unit → isNm b n a → ¬ fnd b n c so m lo hi a → ∀ iv' : IV, Ov B iv0 2 (st b n a) iv' → K 0 iv') (h3 : Unit → isNm b n a → fnd b n c so m lo hi a → K (nu (ixf c (co b n a) m 0).toNat) iv) : wp_X12_known l1 iv rv K := by
  have M0 := M
  obtain ⟨T, K1, ha, m51, e12, nm, z12⟩ := M
  have n5 := M0.n5
  refine r_isName M0 (fun _ hn => ⟨fun _ => ?_, fun y => absurd y (by decide)⟩) (fun _ hn => ⟨fun y => absurd rfl y, fun _ => r_wrong hB M0 fr.b (fun iv' o => o_known12 hg hh o.2.1 o.2.2.2.2 (h1 () hn iv' o))⟩)
  have k1 := hn.1
  have e14 : iv 66 14 = co b n a := K1.2.2.1 k1
  refine ⟨hh, ?_⟩
  rw [hg, e14]
  have no : Unit → ¬ fnd b n c so m lo hi a → ∀ l2, bd_X12_known_42 l2 iv rv K := fun _ q l2 => r_wrong hB M0 fr.b (fun iv' o => ⟨fun y => absurd o.2.1 y, fun _ => h2 () hn q iv' o⟩)
  refine m_find (b := B) (c := c) m51 e12 (fun j hj => (nm j hj).1) ?_
  rcases ixf_ok (c := c) (cd := co b n a) m 0 with ⟨i1, i2⟩ | ⟨j, i1, i2, i3, i4⟩
  · rw [i1]
    exact ⟨fun _ => no () (fun q => by have := q.1; rw [i1] at this; exact absurd this (by decide)) _, fun y => absurd rfl y⟩
  · have hj : j < m := by omega
    obtain ⟨-, v28, v29⟩ := nm j hj
    have tj : ((j : Nat) : Int).toNat = j := Int.toNat_natCast j
    rw [i1, tj, v28]
    refine ⟨fun y => by omega, fun _ => ⟨⟨by omega, by omega⟩, fun y => ⟨fun _ => ?_, fun z => absurd z n5⟩, fun y => no () (fun q => ?_) _⟩⟩
    · rw [hg]
      refine ⟨hh, ⟨by omega, by omega⟩, ?_⟩
      rw [tj, v29]
      have p := h3 () hn ⟨by rw [i1]; omega, by rw [i1, tj]; exact (hso _).mpr y⟩
      rw [i1, tj] at p
      exact p
    · have q2 := q.2
      rw [i1, tj] at q2
      exact y ((hso _).mp q2)
theorem so0 (s : Int) : (((0 : Nat) : Int) ≤ s ∧ s ≤ ((0 : Nat) : Int)) ↔ sm s = 0 := by have := (sm_iff s).1; omega
theorem so1 (s : Int) : (((1 : Nat) : Int) ≤ s ∧ s ≤ ((1 : Nat) : Int)) ↔ sm s = 1 := by have := (sm_iff s).2.1; omega
theorem so2 (s : Int) : (((2 : Nat) : Int) ≤ s ∧ s ≤ ((2 : Nat) : Int)) ↔ sm s = 2 := by have := (sm_iff s).2.2.1; omega
theorem so4 (s : Int) : (((4 : Nat) : Int) ≤ s ∧ s ≤ ((4 : Nat) : Int)) ↔ sm s = 3 := by have := (sm_iff s).2.2.2.1; omega
theorem so57 (s : Int) : (((5 : Nat) : Int) ≤ s ∧ s ≤ ((7 : Nat) : Int)) ↔ sm s = 4 := by have := (sm_iff s).2.2.2.2; omega
theorem r_use {B : Nat} {b : Nat → Int} {n a m lo hi : Nat} {l1 : Int} {c so nu : F1} {iv0 iv : IV} {rv : RV} {K : Int → IV → Prop} {F : Int → Nat → Prop} {S : Int × Nat × Nat → Prop} (hB : 80 ≤ B) (hg : gR rv 66 4 = B) (hh : hMm rv 66 4) (hso : ∀ s : Int, ((lo : Int) ≤ s ∧ s ≤ (hi : Int)) ↔ sm s = l1) (h : pw_use b n c so nu m lo hi a F S) (fr : FrN B iv0 iv) (M : MR B b n a m c so nu iv) (hO : ∀ k p, F k p → ∀ iv' : IV, Ov B iv0 k p iv' → ∀ r, K r iv') (hS : ∀ q, S q → ∀ iv' : IV, FrN B iv0 iv' → MR B b n q.2.1 m c so nu iv' → K q.1 iv') : wp_X12_readKnown l1 iv rv K :=
  r_known hB hg hh hso fr M (fun _ q iv' o => o_go o.2.1 (hO _ _ (h.1 q) iv' o 0)) (fun _ q q2 iv' o => o_go o.2.1 (hO _ _ (h.2.1 q q2) iv' o 0)) (fun _ q q2 => r_adv hB M (by rw [q.1]; decide) (fun iv' f M' => hS _ (h.2.2 q q2) iv' (fr.tr fun k j q1 q2 q3 => f k j (by omega)) M'))
theorem r_other {B : Nat} {b : Nat → Int} {n a m : Nat} {x : Int} {c so nu : F1} {iv0 iv : IV} {rv : RV} {K : Int → IV → Prop} {F : Int → Nat → Prop} {S : Int × Nat × Nat → Prop} (hB : 80 ≤ B) (hg : gR rv 66 4 = B) (hh : hMm rv 66 4) (h : pw_use b n c so nu m 0 0 a F (fun v => pw_differ v.1 x v.2.2 F (fun _ => S v))) (fr : FrN B iv0 iv) (M : MR B b n a m c so nu iv) (hO : ∀ k p, F k p → ∀ iv' : IV, Ov B iv0 k p iv' → ∀ r, K r iv') (hS : ∀ q, S q → ∀ iv' : IV, FrN B iv0 iv' → MR B b n q.2.1 m c so nu iv' → K q.1 iv') : wp_X12_readOther x iv rv K := by
  have bad : Unit → ∀ k p, F k p → ∀ iv' : IV, Ov B iv0 k p iv' → ((((0 : Int) ≠ x) → bd_X12_readOther_16 0 iv' rv K) ∧ (((0 : Int) = x) → wp_X12_wrong 3 iv' rv (fun iv4 => bd_X12_readOther_16 0 iv4 rv K))) := fun _ k p f iv' o => ⟨fun _ => o_go o.2.1 (hO _ _ f iv' o 0), fun _ => o_wrong o.2.1 (o_go o.2.1 (hO _ _ f iv' o 0))⟩
  refine r_known (lo := 0) (hi := 0) hB hg hh so0 fr M (fun _ q iv' o => bad () _ _ (h.1 q) iv' o) (fun _ q q2 iv' o => bad () _ _ (h.2.1 q q2) iv' o) (fun _ q q2 => ?_)
  have p := h.2.2 q q2
  exact ⟨fun y => r_adv hB M (by rw [q.1]; decide) (fun iv' f M' => hS _ (p.2 y) iv' (fr.tr fun k j q1 q2 q3 => f k j (by omega)) M'), fun y => r_wrong hB M fr.b (fun iv' o => o_go o.2.1 (hO _ _ (p.1 y) iv' o _))⟩
theorem r_good {B : Nat} {b : Nat → Int} {n a m ta : Nat} {c so nu : F1} {iv0 iv : IV} {rv : RV} {K : Int → IV → Prop} {F : Int → Nat → Prop} {S : Int × Nat × Nat → Prop} (hB : 80 ≤ B) (hg : gR rv 66 4 = B) (hh : hMm rv 66 4) (h : pw_good b n c so nu m ta a F S) (fr : FrN B iv0 iv) (M : MR B b n a m c so nu iv) (hO : ∀ k p, F k p → ∀ iv' : IV, Ov B iv0 k p iv' → ∀ r, K r iv') (hS : ∀ q, S q → ∀ iv' : IV, FrN B iv0 iv' → MR B b n q.2.1 m c so nu iv' → K q.1 iv') : wp_X12_readGood iv rv K :=
  r_eats hB (by omega) rfl fr M (fun _ q iv' f M' => ⟨fun y => absurd y (by decide), fun _ => hS _ (h.1 q) iv' f M'⟩) (fun _ q => ⟨fun _ => r_use (lo := 1) (hi := 1) hB hg hh so1 (h.2 q) fr M hO hS, fun y => absurd rfl y⟩)
theorem r_either {B : Nat} {b : Nat → Int} {n a m w w1 w2 : Nat} {c so nu : F1} {iv0 iv : IV} {rv : RV} {K : Int → IV → Prop} {F : Int → Nat → Prop} {S : Int × Nat → Prop} (hB : 80 ≤ B) (hw1 : w1 < 51) (hw2 : w2 < 51) (ho1 : okv (bs w1) 0 = true) (ho2 : okv (bs w2) 0 = true) (hc : ∀ cd, amg cd (bs w) 0 0 = if wc w1 = cd then 0 else if wc w2 = cd then 1 else -1) (hne : wc w1 ≠ wc w2) (h : pw_choice b n w a F S) (fr : FrN B iv0 iv) (M : MR B b n a m c so nu iv) (hO : ∀ k p, F k p → ∀ iv' : IV, Ov B iv0 k p iv' → ∀ r, K r iv') (hS : ∀ q, S q → ∀ iv' : IV, FrN B iv0 iv' → MR B b n q.2 m c so nu iv' → (q.1 = 0 ∨ q.1 = 1) → K q.1 iv') : wp_X12_readEither w1 w2 iv rv K := by
  unfold pw_choice at h
  rw [hc] at h
  refine r_is hw2 ho2 M (fun _ q => ⟨fun _ => ?_, fun y => absurd y (by decide)⟩) (fun _ q => ⟨fun y => absurd rfl y, fun _ => r_is hw1 ho1 M (fun _ q1 => ⟨fun _ => ?_, fun y => absurd y (by decide)⟩) (fun _ q1 => ⟨fun y => absurd rfl y, fun _ => r_wrong hB M fr.b (fun iv' o => o_go o.2.1 ⟨Or.inl rfl, hO _ _ (h.2 (fun y => ?_)) iv' o 0⟩)⟩)⟩)
  · rw [if_neg (fun y => hne (y.trans q.2.symm)), if_pos q.2] at h
    exact r_adv hB M (by rw [q.1]; decide) (fun iv' f M' => ⟨Or.inr rfl, hS _ (h.1 ⟨q.1, by decide⟩) iv' (fr.tr fun k j q1 q2 q3 => f k j (by omega)) M' (Or.inr rfl)⟩)
  · rw [if_pos q1.2] at h
    exact r_adv hB M (by rw [q1.1]; decide) (fun iv' f M' => ⟨Or.inl rfl, hS _ (h.1 ⟨q1.1, by decide⟩) iv' (fr.tr fun k j q1 q2 q3 => f k j (by omega)) M' (Or.inl rfl)⟩)
  · have z := y.2
    rw [if_neg (fun u => q1 ⟨y.1, u⟩), if_neg (fun u => q ⟨y.1, u⟩)] at z
    exact absurd z (by decide)
theorem r_eithr {B : Nat} {b : Nat → Int} {n a m w w1 w2 : Nat} {c so nu : F1} {iv0 iv : IV} {rv : RV} {K : Int → IV → Prop} {F : Int → Nat → Prop} {S : Int × Nat → Prop} (hB : 80 ≤ B) (hw1 : w1 < 51) (hw2 : w2 < 51) (ho1 : okv (bs w1) 0 = true) (ho2 : okv (bs w2) 0 = true) (hc : ∀ cd, amg cd (bs w) 0 0 = if wc w2 = cd then 0 else if wc w1 = cd then 1 else -1) (hne : wc w1 ≠ wc w2) (h : pw_choice b n w a F S) (fr : FrN B iv0 iv) (M : MR B b n a m c so nu iv) (hO : ∀ k p, F k p → ∀ iv' : IV, Ov B iv0 k p iv' → ∀ r, K r iv') (hS : ∀ q, S q → ∀ iv' : IV, FrN B iv0 iv' → MR B b n q.2 m c so nu iv' → (q.1 = 0 ∨ q.1 = 1) → K (1 - q.1) iv') : wp_X12_readEither w1 w2 iv rv K := by
  unfold pw_choice at h
  rw [hc] at h
  refine r_is hw2 ho2 M (fun _ q => ⟨fun _ => ?_, fun y => absurd y (by decide)⟩) (fun _ q => ⟨fun y => absurd rfl y, fun _ => r_is hw1 ho1 M (fun _ q1 => ⟨fun _ => ?_, fun y => absurd y (by decide)⟩) (fun _ q1 => ⟨fun y => absurd rfl y, fun _ => r_wrong hB M fr.b (fun iv' o => o_go o.2.1 ⟨Or.inl rfl, hO _ _ (h.2 (fun y => ?_)) iv' o 0⟩)⟩)⟩)
  · rw [if_pos q.2] at h
    exact r_adv hB M (by rw [q.1]; decide) (fun iv' f M' => ⟨Or.inr rfl, hS _ (h.1 ⟨q.1, by decide⟩) iv' (fr.tr fun k j q1 q2 q3 => f k j (by omega)) M' (Or.inl rfl)⟩)
  · rw [if_neg (fun y => hne (q1.2.trans y.symm)), if_pos q1.2] at h
    exact r_adv hB M (by rw [q1.1]; decide) (fun iv' f M' => ⟨Or.inl rfl, hS _ (h.1 ⟨q1.1, by decide⟩) iv' (fr.tr fun k j q1 q2 q3 => f k j (by omega)) M' (Or.inr rfl)⟩)
  · have z := y.2
    rw [if_neg (fun u => q ⟨y.1, u⟩), if_neg (fun u => q1 ⟨y.1, u⟩)] at z
    exact absurd z (by decide)
theorem r_day {B g : Nat} {b : Nat → Int} {n a m : Nat} {c so nu : F1} {iv0 iv : IV} {rv : RV} {K : IV → Prop} {F : Int → Nat → Prop} {S : Int × Int × Nat → Prop} (hB : 80 ≤ B) (hg : gR rv 66 4 = B) (hh : hMm rv 66 4) (hgg : g < 16) (h : pw_span b n a F S) (fr : FrN B iv0 iv) (M : MR B b n a m c so nu iv) (hO : ∀ k p, F k p → ∀ iv' : IV, Ov B iv0 k p iv' → K iv') (hS : ∀ q, S q → ∀ iv' : IV, (∀ k j, ¬ (k = B ∧ j = 12) → ¬ (B + 27 ≤ k ∧ k ≤ B + 29) → ¬ (k = 66 ∧ 8 ≤ j ∧ j ≤ 14) → ¬ (k = B + 10 ∧ j = g) → ¬ (k = B + 11 ∧ j = g) → iv' k j = iv0 k j) → iv' (B + 10) g = q.1 → iv' (B + 11) g = q.2.1 → MR B b n q.2.2 m c so nu iv' → K iv') : wp_X12_readDay g iv rv K := by
  have wr : Unit → ∀ (l2 l3 : Int) (a' : Nat) (iv1 : IV), FrN B iv0 iv1 → MR B b n a' m c so nu iv1 → S (l2, l3, a') → bd_X12_readDay_53 g l2 l3 iv1 rv K := fun _ l2 l3 a' iv1 f1 M1 s => by
    refine ⟨fun _ => ?_, fun y => absurd y M1.n5⟩
    rw [hg]
    refine ⟨hh, ⟨by omega, by omega⟩, fun iv3 e3 => ⟨⟨by omega, by omega⟩, fun iv5 e5 => ?_⟩⟩
    rw [Int.toNat_natCast] at e3 e5
    refine hS _ s iv5 (fun k j q1 q2 q3 q4 q5 => by rw [e5, w2_ne q5, e3, w2_ne q4]; exact f1 k j q1 q2 q3) (by rw [e5, w2_ne (by omega), e3, w2_eq]) (by rw [e5, w2_eq]) (M1.congr fun k j q => by rw [e5, w2_ne (by omega), e3, w2_ne (by omega)])
  refine r_needs hB (by omega) rfl h fr M (fun k p f iv' o => o_whole o.2.1 (fun _ => o_eats o.2.1 ⟨fun _ => o_day53 o.2.1 (hO _ _ f iv' o), fun y => absurd rfl y⟩)) (fun a1 h1 iv1 f1 M1 => ?_)
  refine r_whole hB h1.rng f1 M1 (fun k p f iv' o r => o_eats o.2.1 ⟨fun _ => o_day53 o.2.1 (hO _ _ f iv' o), fun y => absurd rfl y⟩) (fun q h2 iv2 f2 M2 => ?_)
  obtain ⟨h2, v0, v9⟩ := h2
  refine r_eats hB (by omega) rfl f2 M2 (fun _ y iv3 f3 M3 => ⟨fun y => absurd y (by decide), fun _ => ?_⟩) (fun _ y => ⟨fun _ => wr () _ _ _ iv2 f2 M2 (h2.2 y), fun y => absurd rfl y⟩)
  have h4 := h2.1 y
  rw [w32_id (x := q.1 + 20) (by omega) (by omega)]
  have go : Unit → ∀ t0 : Int, (t0 = q.1 + 20 ∨ (t0 = 999 ∧ 999 < q.1 + 20)) → bd_X12_readDay_49 g q.1 t0 q.1 iv3 rv K := fun _ t0 ht => by
    have h5 : pw_whole b n q.1 t0 (nx b n q.2) F (fun q2 => S (q.1, q2.1, q2.2)) := by
      refine ⟨h4.1, fun k2 z => h4.2.1 k2 ?_, fun k2 z => h4.2.2 k2 ?_⟩
      · have cb := tok_cd k2
        omega
      · have cb := tok_cd k2
        omega
    exact r_whole hB h5 f3 M3 (fun k p f iv' o r => o_day53 o.2.1 (hO _ _ f iv' o)) (fun q2 s iv4 f4 M4 => wr () _ _ _ iv4 f4 M4 s)
  exact ⟨fun _ => go () _ (Or.inl rfl), fun z => go () _ (Or.inr ⟨rfl, by omega⟩)⟩
theorem r_begins {B : Nat} {b : Nat → Int} {n a m : Nat} {x room : Int} {c so nu : F1} {iv0 iv : IV} {rv : RV} {K : IV → Prop} {F : Int → Nat → Prop} (hB : 80 ≤ B) (k1 : kd b n a = 1) (hx : x ≤ room) (h5 : ¬ (x < room) → F 5 (st b n a)) (fr : FrN B iv0 iv) (M : MR B b n a m c so nu iv) (hO : ∀ k p, F k p → ∀ iv' : IV, Ov B iv0 k p iv' → K iv') (hS : x < room → ∀ iv' : IV, FrN B iv0 iv' → MR B b n (nx b n a) m c so nu iv' → K iv') : wp_X12_begins x room iv rv K :=
  ⟨fun y => r_adv hB M (by rw [k1]; decide) (fun iv' f M' => hS (by omega) iv' (fr.tr fun k j q1 q2 q3 => f k j (by omega)) M'), fun y => r_wrong hB M fr.b (fun iv' o => o_go o.2.1 (hO _ _ (h5 (by omega)) iv' o))⟩
