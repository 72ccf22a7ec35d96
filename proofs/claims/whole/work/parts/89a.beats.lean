/-! THE REFERENCE: beats, winner, owed -/
abbrev pB2 (R : Nat → Nat → Int) (dy f : F1) (day : Int) (c : Nat) (by_ : Int) (t g : Nat) : Prop := pUse R f day c g ∧ pWon R dy f day (pFv R dy f day by_ g) g t
theorem pHow_amt {R : Nat → Nat → Int} {f : F1} {g : Nat} {day : Int} (h6 : 6 ≤ g) : pAmt R f g day = if pHow R f g day = 1 then 2 else if pHow R f g day = 2 then 0 else R 13 g := by
  rw [pAmt_eq, pHow_eq]
  by_cases z : 0 ≤ (pR R f g day).2
  · rw [if_pos z]
    by_cases a : (pR R f g day).1 = 1
    · rw [if_pos ⟨z, a, h6⟩, if_pos a]
    · rw [if_neg (fun q => a q.2.1), if_neg a]
      by_cases b : (pR R f g day).1 = 2
      · rw [if_pos ⟨z, b⟩, if_pos b, if_pos h6]
      · rw [if_neg (fun q => b q.2), if_neg b]
  · rw [if_neg z, if_neg (fun q => z q.1), if_neg (fun q => z q.1), if_neg (by decide), if_neg (by decide)]
theorem pHow_amt0 {R : Nat → Nat → Int} {f : F1} {g : Nat} {day : Int} (h6 : g < 6) : pAmt R f g day = if pHow R f g day = 2 then R 13 g / 2 else R 13 g := by
  rw [pAmt_eq, pHow_eq]
  rw [if_neg (fun q => absurd q.2.2 (by omega))]
  by_cases z : 0 ≤ (pR R f g day).2
  · rw [if_pos z]
    by_cases b : (pR R f g day).1 = 2
    · rw [if_pos ⟨z, b⟩, if_pos b, if_neg (by omega)]
    · rw [if_neg (fun q => b q.2), if_neg b]
  · rw [if_neg z, if_neg (fun q => z q.1), if_neg (by decide)]
theorem m_beats {R : Nat → Nat → Int} {dy ls f : F1} {law : Nat} {iv : IV} {rv : RV} {day by_ : Int} {c t g : Nat} {K : Int → Prop} (g1 : rv 66 3 = some 80) (S : MS R dy ls f law iv) (hc : RC R) (hs : Sup f) (hcc : (c : Int) < R 1 11) (ht : hasG R t) (hl : t < 6) (hg : hasG R g) (h6g : 6 ≤ g) (h12 : g < 12)
    (hby : by_ = -1 ∨ (12 ≤ by_ ∧ by_ < 12 + R 1 7)) (h1 : pB2 R dy f day c by_ t g → K 1) (h0 : ¬ pB2 R dy f day c by_ t g → K 0) : wp_X12_beats g by_ t c day iv rv K := by
  replace h1 := fun (_ : Unit) => h1
  replace h0 := fun (_ : Unit) => h0
  have tg : ((g : Int)).toNat = g := Int.toNat_natCast g
  have tc : ((c : Int)).toNat = c := Int.toNat_natCast c
  have h11 : R 1 11 ≤ 6 := (hc.1 11 (by omega)).2
  have h7 : R 1 7 ≤ 4 := (hc.1 7 (by omega)).2
  obtain ⟨l1, l2⟩ := S.2.2.1
  have l3 : R 1 10 ≤ 3 := (hc.1 10 (by omega)).2
  have eL : (iv 66 20).toNat = law := by omega
  obtain ⟨f7, f8, f9, f10⟩ := S.2.2.2.1
  have c1 : iv 101 c = R 18 (7 * c + 1) := S.1.2.2.2.2.2.2.2 c hcc 1 (by omega)
  have c2 : iv 102 c = R 18 (7 * c + 2) := S.1.2.2.2.2.2.2.2 c hcc 2 (by omega)
  have c13 := (S.1.2.2.2.2.1 g hg).2.2.1
  have b210 : ∀ l10 : Int, (((f 7 ≠ 0 ∧ pDay R dy f t day ≤ l10) ∨ (f 7 = 0 ∧ l10 ≤ pDay R dy f t day)) → K 1) → (¬ ((f 7 ≠ 0 ∧ pDay R dy f t day ≤ l10) ∨ (f 7 = 0 ∧ l10 ≤ pDay R dy f t day)) → K 0) → bd_X12_beats_210 t day l10 iv rv K := by
    intro l10 k1 k0
    replace k1 := fun (_ : Unit) => k1
    replace k0 := fun (_ : Unit) => k0
    refine m_dayBy g1 S hc hs (by omega) ⟨g1, ⟨by omega, by omega⟩, ?_⟩
    rw [eL, f7]
    exact ⟨fun z => ⟨fun y => k0 () (by omega), fun y => k1 () (by omega)⟩, fun z => ⟨fun y => k0 () (by omega), fun y => k1 () (by omega)⟩⟩
  have b162 : Unit → (((f 7 ≠ 0 ∧ pDay R dy f t day ≤ pFv R dy f day by_ g) ∨ (f 7 = 0 ∧ pFv R dy f day by_ g ≤ pDay R dy f t day)) → K 1) → (¬ ((f 7 ≠ 0 ∧ pDay R dy f t day ≤ pFv R dy f day by_ g) ∨ (f 7 = 0 ∧ pFv R dy f day by_ g ≤ pDay R dy f t day)) → K 0) → bd_X12_beats_162 g by_ t day iv rv K := by
    intro _ k1 k0
    replace k1 := fun (_ : Unit) => k1
    replace k0 := fun (_ : Unit) => k0
    refine m_dayBy g1 S hc hs (by omega) ⟨fun z => b210 _ ?_ ?_, fun z => ⟨g1, ⟨by omega, by omega⟩, ?_⟩⟩
    · have k := k1 (); rw [pFv_eq] at k; rw [if_pos (Or.inl (by omega))] at k; exact k
    · have k := k0 (); rw [pFv_eq] at k; rw [if_pos (Or.inl (by omega))] at k; exact k
    · rw [eL, f8]
      have d68 := (S.2.1 by_.toNat (by omega)).1
      rw [d68]
      refine ⟨fun y => b210 _ ?_ ?_, fun y => ⟨⟨by omega, by omega⟩, fun x => b210 _ ?_ ?_, fun x => ⟨⟨by omega, by omega⟩, fun x8 e8 => b210 _ ?_ ?_⟩⟩⟩
      · have k := k1 (); rw [pFv_eq] at k; rw [if_pos (Or.inr y)] at k; exact k
      · have k := k0 (); rw [pFv_eq] at k; rw [if_pos (Or.inr y)] at k; exact k
      · have k := k1 (); rw [pFv_eq] at k; rw [if_neg (fun q => q.elim (by omega) (fun w => w y)), Int.max_eq_left x] at k; exact k
      · have k := k0 (); rw [pFv_eq] at k; rw [if_neg (fun q => q.elim (by omega) (fun w => w y)), Int.max_eq_left x] at k; exact k
      · have k := k1 (); rw [pFv_eq] at k; rw [if_neg (fun q => q.elim (by omega) (fun w => w y)), Int.max_eq_right (by omega)] at k; rw [e8]; exact k
      · have k := k0 (); rw [pFv_eq] at k; rw [if_neg (fun q => q.elim (by omega) (fun w => w y)), Int.max_eq_right (by omega)] at k; rw [e8]; exact k
  have b98 : Unit → pUse R f day c g → bd_X12_beats_98 g by_ t day (pGood R f g day) iv rv K := by
    intro _ hu
    refine m_goodsOf g1 S hc hs ht ⟨g1, ⟨by omega, by omega⟩, ?_⟩
    rw [eL, f9]
    have both : Unit → ¬ (f 9 ≠ 0 ∧ ¬ (pGood R f g day = -2 ↔ pGood R f t day = -2)) → bd_X12_beats_162 g by_ t day iv rv K := fun _ z => b162 () (fun y => h1 () ⟨hu, Or.inr ⟨z, y⟩⟩) (fun y => h0 () (fun q => by
      rcases q.2 with q | q
      · exact z ⟨q.1, fun e => q.2.1 (e.mpr q.2.2)⟩
      · exact y q.2))
    have k1 : Unit → f 9 ≠ 0 → pGood R f g day ≠ -2 → pGood R f t day = -2 → K 1 := fun _ x y z => h1 () ⟨hu, Or.inl ⟨x, y, z⟩⟩
    have k0 : Unit → f 9 ≠ 0 → pGood R f g day = -2 → pGood R f t day ≠ -2 → K 0 := fun _ x y z => h0 () (fun q => by
      rcases q.2 with q | q
      · exact q.2.1 y
      · exact q.1 ⟨x, fun e => z (e.mp y)⟩)
    unfold bd_X12_beats_134 bd_X12_beats_146
    refine ⟨fun z => both () (fun q => q.1 z), fun z => ⟨fun y => ⟨fun x => ⟨fun _ => both () (by omega), fun q => by omega⟩, fun x => ⟨fun q => by omega, fun _ => ⟨fun q => by omega, fun _ => k1 () z y x⟩⟩⟩, fun y => ⟨fun x => ⟨fun q => by omega, fun _ => ⟨fun _ => k0 () z y x, fun q => by omega⟩⟩, fun x => ⟨fun _ => both () (by omega), fun q => by omega⟩⟩⟩⟩
  have b51 : bd_X12_beats_51 g by_ t c day (pGood R f g day) (pAmt R f g day) iv rv K := by
    unfold bd_X12_beats_51 bd_X12_beats_75
    rw [tc, c1, c2]
    refine ⟨fun z => ⟨fun y => b98 () ⟨Or.inr z, Or.inr y⟩, fun y => ⟨g1, ⟨by omega, by omega⟩, fun x => b98 () ⟨Or.inr z, Or.inl x⟩, fun x => h0 () (fun q => ?_)⟩⟩, fun z => ⟨g1, ⟨by omega, by omega⟩, fun w => h0 () (fun q => ?_), fun w => ⟨fun y => b98 () ⟨Or.inl w, Or.inr y⟩, fun y => ⟨g1, ⟨by omega, by omega⟩, fun x => b98 () ⟨Or.inl w, Or.inl x⟩, fun x => h0 () (fun q => ?_)⟩⟩⟩⟩
    · have := q.1.2; omega
    · have := q.1.1; omega
    · have := q.1.2; omega
  have am := pHow_amt (R := R) (f := f) (day := day) h6g
  refine m_renewalOf g1 S hc hs fun k hk => m_howOf g1 S hc hs hk (m_goodsOf g1 S hc hs hg ⟨fun z => ⟨fun y => ⟨g1, ⟨by omega, by omega⟩, ?_⟩, fun y => ?_⟩, fun z => ?_⟩)
  · rw [tg, c13]
    rw [if_neg z, if_neg y] at am
    rw [← am]; exact b51
  · rw [if_neg z, if_pos y] at am
    rw [← am]; exact b51
  · rw [if_pos z] at am
    rw [← am]; exact b51
