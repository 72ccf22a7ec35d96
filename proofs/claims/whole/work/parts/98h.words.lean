/-! THE READER: words and names, both sides -/
abbrev bs (w : Nat) : List Nat := sByN.getD w []
def amg (cd : Int) : List Nat → Int → Int → Int
  | [], i, p => if p = cd then i else -1
  | x :: l, i, p => if x = 32 then (if p = cd then i else amg cd l (i + 1) 0) else amg cd l i (p * 32 + ((x : Int) - 96))
def oks : List Nat → Int → Bool
  | [], _ => true
  | x :: l, p => if x = 32 then oks l 0 else decide (97 ≤ x ∧ x ≤ 122) && decide (p * 32 + ((x : Int) - 96) ≤ 1099511627776) && oks l (p * 32 + ((x : Int) - 96))
theorem oks_all : ∀ w, w < 51 → oks (bs w) 0 = true := by decide +kernel
theorem bs_len : ∀ w, w < 51 → sLen.getD w 0 = (bs w).length := by decide +kernel
theorem bs_le : ∀ w, w < 51 → (bs w).length ≤ 100 := by decide +kernel
theorem drop_cons {l : List Nat} {x : Nat} {r : List Nat} : ∀ {j : Nat}, l.drop j = x :: r → j < l.length ∧ l.getD j 0 = x ∧ l.drop (j + 1) = r := by
  intro j h
  have h1 : j < l.length := by
    by_cases z : j < l.length
    · exact z
    · rw [List.drop_eq_nil_of_le (by omega)] at h; cases h
  rw [List.drop_eq_getElem_cons h1] at h
  obtain ⟨h2, h3⟩ := List.cons.inj h
  refine ⟨h1, ?_, h3⟩
  rw [List.getD_eq_getElem?_getD, List.getElem?_eq_getElem h1]
  exact h2
theorem c_among {w : Nat} {iv : IV} {rv : RV} {K : Int → Prop} (hw : w < 51) (h1 : iv 46 3 = 1 → K (amg (iv 46 5) (bs w) 0 0)) (h0 : iv 46 3 ≠ 1 → K (-1)) : wp_X7_among w iv rv K := by
  refine ⟨fun z => ?_, h0⟩
  have hK := h1 z
  clear h1 h0
  have ln := bs_len w hw
  have l100 := bs_le w hw
  intro P hP
  have key : ∀ (l : List Nat) (j : Nat), (bs w).drop j = l → ∀ (i p x : Int), 0 ≤ p → p ≤ 1099511627776 → 0 ≤ i → i ≤ j → x = (j : Nat) → oks l p = true → K (amg (iv 46 5) l i p) → P i p x := by
    intro l
    induction l with
    | nil =>
      intro j hj i p x p0 p1 i0 i1 ex ho hk
      have hjl : (bs w).length ≤ j := List.drop_eq_nil_iff.mp hj
      apply hP
      intro r1 e1
      rw [ln] at e1
      refine ⟨fun _ => ?_, fun z => by omega⟩
      have hk' : K (if p = iv 46 5 then i else -1) := hk
      by_cases e : p = iv 46 5
      · rw [if_pos e] at hk'
        rw [if_neg (by omega), if_pos e]
        exact ⟨fun q => absurd rfl q, fun _ => hk'⟩
      · rw [if_neg e] at hk'
        rw [if_neg e]
        refine ⟨fun _ => hk', fun q => ?_⟩
        exfalso
        by_cases y : iv 46 5 < p
        · rw [if_pos y] at q; omega
        · rw [if_neg y] at q; omega
    | cons c l ih =>
      intro j hj i p x p0 p1 i0 i1 ex ho hk
      subst ex
      obtain ⟨d1, d2, d3⟩ := drop_cons hj
      have tj : ((j : Int)).toNat = j := Int.toNat_natCast j
      have ej : Unit → w32 ((j : Int) + 1) = ((j + 1 : Nat) : Int) := fun _ => w32_id (by omega) (by omega)
      have ei : Unit → w32 (i + 1) = i + 1 := fun _ => w32_id (by omega) (by omega)
      have sa : sAt w j = (c : Nat) := by unfold sAt; rw [d2]
      apply hP
      intro r1 e1
      rw [ln] at e1
      refine ⟨fun z => by omega, fun _ => ⟨⟨by omega, by rw [ln]; omega⟩, fun r4 e4 => ?_⟩⟩
      rw [tj, sa] at e4
      subst e4
      unfold bd_X7_among_75
      rw [ej (), ei ()]
      have ho' : (if c = 32 then oks l 0 else decide (97 ≤ c ∧ c ≤ 122) && decide (p * 32 + ((c : Int) - 96) ≤ 1099511627776) && oks l (p * 32 + ((c : Int) - 96))) = true := ho
      have hk' : K (if c = 32 then (if p = iv 46 5 then i else amg (iv 46 5) l (i + 1) 0) else amg (iv 46 5) l i (p * 32 + ((c : Int) - 96))) := hk
      by_cases c32 : c = 32
      · rw [if_pos c32] at ho' hk'
        refine ⟨fun _ => ?_, fun z => by omega⟩
        by_cases e : p = iv 46 5
        · rw [if_pos e] at hk'
          rw [if_neg (by omega), if_pos e]
          exact ⟨fun q => absurd rfl q, fun _ => hk'⟩
        · rw [if_neg e] at hk'
          rw [if_neg e]
          refine ⟨fun _ => ih (j + 1) d3 (i + 1) 0 _ (by omega) (by omega) (by omega) (by omega) rfl ho' hk', fun q => ?_⟩
          exfalso
          by_cases y : iv 46 5 < p
          · rw [if_pos y] at q; omega
          · rw [if_neg y] at q; omega
      · rw [if_neg c32] at ho' hk'
        simp only [Bool.and_eq_true, decide_eq_true_eq] at ho'
        obtain ⟨⟨o1, o2⟩, o3⟩ := ho'
        refine ⟨fun z => by omega, fun _ x8 e8 => ?_⟩
        rw [w64_id (x := p * 32) (by omega) (by omega), w32_id (x := ((c : Nat) : Int) - 97) (by omega) (by omega), w32_id (x := ((c : Nat) : Int) - 97 + 1) (by omega) (by omega), w64_id (by omega) (by omega)] at e8
        have e8' : x8 = p * 32 + ((c : Int) - 96) := by omega
        subst e8'
        exact ih (j + 1) d3 i _ _ (by omega) o2 i0 (by omega) rfl o3 hk'
  exact key (bs w) 0 rfl 0 0 0 (by omega) (by omega) (by omega) (by omega) rfl (oks_all w hw) hK
def wof : List Nat → Int → Int
  | [], p => p
  | x :: l, p => wof l (p * 32 + ((x : Int) - 96))
def okv : List Nat → Int → Bool
  | [], _ => true
  | x :: l, p => decide (97 ≤ x ∧ x ≤ 122) && decide (p * 32 + ((x : Int) - 96) ≤ 1099511627776) && okv l (p * 32 + ((x : Int) - 96))
theorem m_wordOf {w : Nat} {iv : IV} {rv : RV} {K : Int → Prop} (hw : w < 51) (ho : okv (bs w) 0 = true) (hK : K (wof (bs w) 0)) : wp_X12_wordOf w iv rv K := by
  have ln := bs_len w hw
  have l100 := bs_le w hw
  intro P hP
  have key : ∀ (l : List Nat) (j : Nat), (bs w).drop j = l → ∀ (p x : Int), 0 ≤ p → p ≤ 1099511627776 → x = (j : Nat) → okv l p = true → K (wof l p) → P p x := by
    intro l
    induction l with
    | nil =>
      intro j hj p x p0 p1 ex ho hk
      have hjl : (bs w).length ≤ j := List.drop_eq_nil_iff.mp hj
      apply hP
      intro r1 e1
      rw [ln] at e1
      exact ⟨fun _ => hk, fun z => by omega⟩
    | cons c l ih =>
      intro j hj p x p0 p1 ex ho hk
      subst ex
      obtain ⟨d1, d2, d3⟩ := drop_cons hj
      have tj : ((j : Int)).toNat = j := Int.toNat_natCast j
      have ej : Unit → w32 ((j : Int) + 1) = ((j + 1 : Nat) : Int) := fun _ => w32_id (by omega) (by omega)
      have sa : sAt w j = (c : Nat) := by unfold sAt; rw [d2]
      have ho' : (decide (97 ≤ c ∧ c ≤ 122) && decide (p * 32 + ((c : Int) - 96) ≤ 1099511627776) && okv l (p * 32 + ((c : Int) - 96))) = true := ho
      simp only [Bool.and_eq_true, decide_eq_true_eq] at ho'
      obtain ⟨⟨o1, o2⟩, o3⟩ := ho'
      apply hP
      intro r1 e1
      rw [ln] at e1
      refine ⟨fun z => by omega, fun _ => ⟨⟨by omega, by rw [ln]; omega⟩, fun r3 e3 x5 e5 => ?_⟩⟩
      rw [tj, sa] at e3
      subst e3
      rw [ej ()]
      rw [w64_id (x := 32 * p) (by omega) (by omega), w32_id (x := ((c : Nat) : Int) - 97) (by omega) (by omega), w32_id (x := ((c : Nat) : Int) - 97 + 1) (by omega) (by omega), w64_id (by omega) (by omega)] at e5
      have e5' : x5 = p * 32 + ((c : Int) - 96) := by omega
      subst e5'
      exact ih (j + 1) d3 _ _ (by omega) o2 rfl o3 hk
  exact key (bs w) 0 rfl 0 0 (by omega) (by omega) rfl ho hK
/-- the code of a word -/
def wc (w : Nat) : Int := wof (bs w) 0
theorem m_isWord {w : Nat} {iv : IV} {rv : RV} {K : Int → Prop} (hw : w < 51) (ho : okv (bs w) 0 = true) (h1 : Unit → iv 66 9 = 2 → iv 66 14 = wc w → K 1) (h0 : Unit → ¬ (iv 66 9 = 2 ∧ iv 66 14 = wc w) → K 0) : wp_X12_isWord w iv rv K := by
  refine ⟨fun z => h0 () (fun q => z q.1), fun z => m_wordOf hw ho ?_⟩
  show ((if wc w < iv 66 14 then (1 : Int) else if iv 66 14 = wc w then 0 else -1) ≠ 0 → K 0) ∧ ((if wc w < iv 66 14 then (1 : Int) else if iv 66 14 = wc w then 0 else -1) = 0 → K 1)
  generalize wc w = c at *
  by_cases e : iv 66 14 = c
  · rw [if_neg (by omega), if_pos e]
    exact ⟨fun q => absurd rfl q, fun _ => h1 () z e⟩
  · refine ⟨fun _ => h0 () (fun q => e q.2), fun q => ?_⟩
    exfalso
    by_cases y : c < iv 66 14
    · rw [if_pos y] at q; omega
    · rw [if_neg y, if_neg e] at q; omega
/-! names -/
def ixf (c : F1) (cd : Int) : Nat → Nat → Int
  | 0, _ => -1
  | d + 1, i => if c i = cd then (i : Int) else ixf c cd d (i + 1)
theorem lcmp {x y : Int} : ((if x < y then (1 : Int) else if y = x then 0 else -1) = 0) ↔ y = x := by
  by_cases e : y = x
  · rw [if_neg (by omega), if_pos e]; exact ⟨fun _ => e, fun _ => rfl⟩
  · refine ⟨fun q => ?_, fun q => absurd q e⟩
    by_cases z : x < y
    · rw [if_pos z] at q; omega
    · rw [if_neg z, if_neg e] at q; omega
theorem c_indexOf {c : F1} {m : Nat} {cd : Int} {iv : IV} {rv : RV} {K : Int → Prop} (hm : m ≤ 51) (e3 : iv 41 3 = (m : Nat)) (h42 : ∀ j, j < m → iv 42 j = c j) (hK : K (ixf c cd m 0)) : wp_X2_indexOf cd iv rv K := by
  intro P hP
  have key : ∀ d i : Nat, i + d = m → ∀ x : Int, x = (i : Nat) → ixf c cd d i = ixf c cd m 0 → P cd x := by
    intro d
    induction d with
    | zero =>
      intro i hi x ex he
      refine hP _ _ ⟨fun _ => ?_, fun z => by omega⟩
      rw [← he] at hK; exact hK
    | succ d ih =>
      intro i hi x ex he
      subst ex
      have ti : ((i : Int)).toNat = i := Int.toNat_natCast i
      have ew : Unit → w32 ((i : Int) + 1) = ((i + 1 : Nat) : Int) := fun _ => w32_id (by omega) (by omega)
      replace he : (if c i = cd then (i : Int) else ixf c cd d (i + 1)) = ixf c cd m 0 := he
      refine hP _ _ ⟨fun z => by omega, fun _ => ⟨⟨by omega, by omega⟩, ?_⟩⟩
      rw [ti, h42 i (by omega), ew ()]
      refine ⟨fun z => ih (i + 1) (by omega) _ rfl ?_, fun z => ?_⟩
      · rw [if_neg (fun q => z (lcmp.mpr q))] at he; exact he
      · rw [if_pos (lcmp.mp z)] at he
        rw [← he] at hK; exact hK
  exact key m 0 (by omega) _ rfl rfl
theorem m_find {b : Nat} {c : F1} {m : Nat} {cd : Int} {iv : IV} {rv : RV} {K : Int → Prop} (hm : m ≤ 51) (e3 : iv b 12 = (m : Nat)) (h42 : ∀ j, j < m → iv (b + 27) j = c j) (hK : K (ixf c cd m 0)) : wp_X11_find b cd iv rv K := by
  intro P hP
  have key : ∀ d i : Nat, i + d = m → ∀ x : Int, x = (i : Nat) → ixf c cd d i = ixf c cd m 0 → P cd x := by
    intro d
    induction d with
    | zero =>
      intro i hi x ex he
      refine hP _ _ ⟨fun _ => ?_, fun z => by omega⟩
      rw [← he] at hK; exact hK
    | succ d ih =>
      intro i hi x ex he
      subst ex
      have ti : ((i : Int)).toNat = i := Int.toNat_natCast i
      have ew : Unit → w32 ((i : Int) + 1) = ((i + 1 : Nat) : Int) := fun _ => w32_id (by omega) (by omega)
      replace he : (if c i = cd then (i : Int) else ixf c cd d (i + 1)) = ixf c cd m 0 := he
      refine hP _ _ ⟨fun z => by omega, fun _ => ⟨⟨by omega, by omega⟩, ?_⟩⟩
      rw [ti, h42 i (by omega), ew ()]
      refine ⟨fun z => ih (i + 1) (by omega) _ rfl ?_, fun z => ?_⟩
      · rw [if_neg (fun q => z (lcmp.mpr q))] at he; exact he
      · rw [if_pos (lcmp.mp z)] at he
        rw [← he] at hK; exact hK
  exact key m 0 (by omega) _ rfl rfl
theorem ixf_ok {c : F1} {cd : Int} : ∀ d i, (ixf c cd d i = -1 ∧ ∀ j, i ≤ j → j < i + d → c j ≠ cd) ∨ (∃ j : Nat, ixf c cd d i = (j : Nat) ∧ i ≤ j ∧ j < i + d ∧ c j = cd)
  | 0, i => Or.inl ⟨rfl, fun j h1 h2 => by omega⟩
  | d + 1, i => by
    have ih := ixf_ok (c := c) (cd := cd) d (i + 1)
    unfold ixf
    by_cases z : c i = cd
    · rw [if_pos z]; exact Or.inr ⟨i, rfl, Nat.le_refl _, by omega, z⟩
    · rw [if_neg z]
      rcases ih with ⟨h1, h2⟩ | ⟨j, h1, h2, h3, h4⟩
      · refine Or.inl ⟨h1, fun j j1 j2 => ?_⟩
        by_cases y : j = i
        · rw [y]; exact z
        · exact h2 j (by omega) (by omega)
      · exact Or.inr ⟨j, h1, by omega, by omega, h4⟩
/-! which words a text of words holds: by their codes -/
theorem am40 (cd : Int) : amg cd (bs 40) 0 0 = if wc 39 = cd then 0 else if wc 17 = cd then 1 else if wc 25 = cd then 2 else if wc 43 = cd then 3 else if wc 5 = cd then 4 else if wc 47 = cd then 5 else if wc 14 = cd then 6 else if wc 2 = cd then 7 else if wc 42 = cd then 8 else if wc 24 = cd then 9 else if wc 19 = cd then 10 else if wc 7 = cd then 11 else -1 := rfl
theorem am37 (cd : Int) : amg cd (bs 37) 0 0 = if wc 34 = cd then 0 else if wc 49 = cd then 1 else if wc 4 = cd then 2 else -1 := rfl
