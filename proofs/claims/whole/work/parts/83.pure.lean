/-! THE PURE PICTURE: grants as a law has them on a day -/
theorem nc1 (m : Nat) : (m : Int) + 1 = ((m + 1 : Nat) : Int) := by omega
abbrev F1 : Type := Nat → Int
abbrev pIn (dy ls f : F1) (g : Nat) (day : Int) : Prop := dy g ≤ day ∧ (ls g = 0 ∨ (ls g = 2 ∧ f 10 ≠ 0))
def pRn (R : Nat → Nat → Int) (g day : Int) : Nat → Int × Int
  | 0 => (-1, -1)
  | m + 1 => if R 14 m = g ∧ R 16 m ≤ day ∧ (pRn R g day m).2 ≤ R 16 m then (R 15 m, R 16 m) else pRn R g day m
def pR (R : Nat → Nat → Int) (f : F1) (g day : Int) : Int × Int :=
  if f 12 = g ∧ f 14 ≤ day ∧ (pRn R g day (R 1 8).toNat).2 ≤ f 14 then (f 13, f 14) else pRn R g day (R 1 8).toNat
def pDayb (R : Nat → Nat → Int) (dy f : F1) (g : Nat) (day : Int) : Int := if 0 ≤ (pR R f g day).2 ∧ f 7 ≠ 0 then (pR R f g day).2 else dy g
theorem pDay_ex : ∃ F : (Nat → Nat → Int) → F1 → F1 → Nat → Int → Int, F = pDayb := ⟨pDayb, rfl⟩
/-- not to be unfolded: pDay_eq says what it is -/
noncomputable def pDay : (Nat → Nat → Int) → F1 → F1 → Nat → Int → Int := Classical.choose pDay_ex
theorem pDay_eq {R : Nat → Nat → Int} {dy f : F1} {g : Nat} {day : Int} : pDay R dy f g day = if 0 ≤ (pR R f g day).2 ∧ f 7 ≠ 0 then (pR R f g day).2 else dy g := by
  show Classical.choose pDay_ex R dy f g day = _
  rw [Classical.choose_spec pDay_ex]
  rfl
def pGoodb (R : Nat → Nat → Int) (f : F1) (g : Nat) (day : Int) : Int := if 0 ≤ (pR R f g day).2 ∧ (pR R f g day).1 = 1 then -2 else R 12 g
theorem pGood_ex : ∃ F : (Nat → Nat → Int) → F1 → Nat → Int → Int, F = pGoodb := ⟨pGoodb, rfl⟩
/-- not to be unfolded: pGood_eq says what it is -/
noncomputable def pGood : (Nat → Nat → Int) → F1 → Nat → Int → Int := Classical.choose pGood_ex
theorem pGood_eq {R : Nat → Nat → Int} {f : F1} {g : Nat} {day : Int} : pGood R f g day = if 0 ≤ (pR R f g day).2 ∧ (pR R f g day).1 = 1 then -2 else R 12 g := by
  show Classical.choose pGood_ex R f g day = _
  rw [Classical.choose_spec pGood_ex]
  rfl
def pAmtb (R : Nat → Nat → Int) (f : F1) (g : Nat) (day : Int) : Int := if 0 ≤ (pR R f g day).2 ∧ (pR R f g day).1 = 1 ∧ 6 ≤ g then 2 else if 0 ≤ (pR R f g day).2 ∧ (pR R f g day).1 = 2 then (if 6 ≤ g then 0 else R 13 g / 2) else R 13 g
theorem pAmt_ex : ∃ F : (Nat → Nat → Int) → F1 → Nat → Int → Int, F = pAmtb := ⟨pAmtb, rfl⟩
/-- not to be unfolded: pAmt_eq says what it is -/
noncomputable def pAmt : (Nat → Nat → Int) → F1 → Nat → Int → Int := Classical.choose pAmt_ex
theorem pAmt_eq {R : Nat → Nat → Int} {f : F1} {g : Nat} {day : Int} : pAmt R f g day = if 0 ≤ (pR R f g day).2 ∧ (pR R f g day).1 = 1 ∧ 6 ≤ g then 2 else if 0 ≤ (pR R f g day).2 ∧ (pR R f g day).1 = 2 then (if 6 ≤ g then 0 else R 13 g / 2) else R 13 g := by
  show Classical.choose pAmt_ex R f g day = _
  rw [Classical.choose_spec pAmt_ex]
  rfl
theorem w32_half {x : Int} (h0 : 0 ≤ x) (h1 : x ≤ 99) : w32 (Int.tdiv x 2) = x / 2 := by
  rw [Int.tdiv_eq_ediv_of_nonneg h0]
  exact w32_id (by omega) (by omega)
/-- a renewal's day is told, or there is none -/
theorem pRn_le {R : Nat → Nat → Int} (hw : RW R) (g day : Int) : ∀ m : Nat, (m : Int) ≤ R 1 8 → ((pRn R g day m).2 = -1 ∧ (pRn R g day m).1 = -1) ∨ (0 ≤ (pRn R g day m).2 ∧ (pRn R g day m).2 ≤ 999 ∧ (pRn R g day m).2 ≤ day)
  | 0, _ => Or.inl ⟨rfl, rfl⟩
  | m + 1, h => by
    have ih := pRn_le hw g day m (by omega)
    obtain ⟨-, -, -, -, h16, h17⟩ := hw.2.2.2.2.2.1 m (by omega)
    unfold pRn
    split
    · rename_i c
      exact Or.inr ⟨h16, h17, c.2.1⟩
    · exact ih
/-- what may be supposed of a renewal -/
def Sup (f : F1) : Prop := f 12 = -1 ∨ (0 ≤ f 12 ∧ f 12 < 12 ∧ 0 ≤ f 13 ∧ f 13 ≤ 2 ∧ 0 ≤ f 14 ∧ f 14 ≤ 999)
theorem pR_le {R : Nat → Nat → Int} {f : F1} (hc : RC R) (hs : Sup f) {g day : Int} (hg : 0 ≤ g) : ((pR R f g day).2 = -1 ∧ (pR R f g day).1 = -1) ∨ (0 ≤ (pR R f g day).2 ∧ (pR R f g day).2 ≤ 999 ∧ (pR R f g day).2 ≤ day) := by
  have h8 := (hc.1 8 (by omega)).1
  have ih := pRn_le hc.2 g day (R 1 8).toNat (by omega)
  unfold pR
  split
  · rename_i c
    unfold Sup at hs
    exact Or.inr ⟨by show 0 ≤ f 14; omega, by show f 14 ≤ 999; omega, c.2.1⟩
  · exact ih
/-- an as is never renewed -/
theorem pRn_as {R : Nat → Nat → Int} (hw : RW R) {g day : Int} (hg : 12 ≤ g) : ∀ m : Nat, (m : Int) ≤ R 1 8 → pRn R g day m = (-1, -1)
  | 0, _ => rfl
  | m + 1, h => by
    have h1 := hw.2.2.2.2.2.1 m (by omega)
    unfold pRn
    rw [if_neg (by omega)]
    exact pRn_as hw hg m (by omega)
theorem pR_as {R : Nat → Nat → Int} {f : F1} (hc : RC R) (hs : Sup f) {g day : Int} (hg : 12 ≤ g) : pR R f g day = (-1, -1) := by
  have h8 := (hc.1 8 (by omega)).1
  unfold pR
  unfold Sup at hs
  rw [if_neg (by omega)]
  exact pRn_as hc.2 hg _ (by omega)
theorem pDay_as {R : Nat → Nat → Int} {dy f : F1} (hc : RC R) (hs : Sup f) {g : Nat} {day : Int} (hg : 12 ≤ g) : pDay R dy f g day = dy g := by
  rw [pDay_eq]
  rw [pR_as hc hs (by omega)]
  exact if_neg (fun c => absurd c.1 (by decide))
theorem pAmt_le {R : Nat → Nat → Int} {f : F1} (hw : RW R) {g : Nat} {day : Int} (hg : hasG R g) (h6 : g < 6) : 0 ≤ pAmt R f g day ∧ pAmt R f g day ≤ 99 := by
  have := (hw.2.2.2.1 g hg).2.2 h6
  rw [pAmt_eq]
  split
  · omega
  · split
    · split <;> omega
    · omega
/-- days of grants that may stand: not negative -/
def Dys (R : Nat → Nat → Int) (dy : F1) : Prop := ∀ g, hasG R g → 0 ≤ dy g ∧ dy g ≤ 1000
theorem pDay_ge {R : Nat → Nat → Int} {dy f : F1} (hc : RC R) (hs : Sup f) (hd : Dys R dy) {g : Nat} {day : Int} (hg : hasG R g) : 0 ≤ pDay R dy f g day := by
  have h1 := hd g hg
  rw [pDay_eq]
  split
  · omega
  · omega
/-! THE CLASS: a sitting -/
def CS (h : Nat) (R : Nat → Nat → Int) (dy ls f : F1) (iv : IV) : Prop :=
  (∀ r i, r < 19 → iv (h + r) i = R r i) ∧ (∀ g, g < 16 → iv 52 g = dy g ∧ iv 53 g = ls g) ∧ (∀ j, 7 ≤ j → j ≤ 10 → iv 51 j = f j) ∧ iv 51 12 = f 12 ∧ (f 12 ≠ -1 → iv 51 13 = f 13 ∧ iv 51 14 = f 14)
theorem CS.congr {h : Nat} {R : Nat → Nat → Int} {dy ls f : F1} {iv iv' : IV} (C : CS h R dy ls f iv) (hh : h = 2 ∨ h = 21) (he : ∀ k j, (k < 40 ∨ k = 52 ∨ k = 53 ∨ (k = 51 ∧ 7 ≤ j ∧ j ≤ 14 ∧ j ≠ 11)) → iv' k j = iv k j) : CS h R dy ls f iv' := by
  refine ⟨fun r i hr => ?_, fun g hg => ?_, fun j h1 h2 => ?_, ?_, ?_⟩
  · rw [he _ _ (by omega)]; exact C.1 r i hr
  · rw [he _ _ (by omega), he _ _ (by omega)]; exact C.2.1 g hg
  · rw [he _ _ (by omega)]; exact C.2.2.1 j h1 h2
  · rw [he _ _ (by omega)]; exact C.2.2.2.1
  · rw [he _ _ (by omega), he _ _ (by omega)]; exact C.2.2.2.2
def WG (R : Nat → Nat → Int) (dy ls f : F1) (day : Int) (iv : IV) (g : Nat) : Prop :=
  iv 54 g = (if pIn dy ls f g day then 1 else 0) ∧ iv 55 g = pDay R dy f g day ∧ iv 56 g = pGood R f g day ∧ iv 57 g = pAmt R f g day
theorem c_hasG {h : Nat} {iv : IV} {rv : RV} {R : Nat → Nat → Int} {K : Int → Prop} {a : Int} (ha : inI a) (hR : ∀ r i, r < 19 → iv (h + r) i = R r i) (hc : RC R) (h1 : hasI R a → K 1) (h0 : ¬ hasI R a → K 0) : wp_X5_hasGrant h a iv rv K :=
  hg5 ha (hc.congr fun r hr i => hR r i hr) (fun t => h1 ((hasI_congr (fun s => hR 1 s (by omega)) a).mp t)) (fun t => h0 fun z => t ((hasI_congr (fun s => hR 1 s (by omega)) a).mpr z))
theorem c_wloop {h : Nat} {R : Nat → Nat → Int} {dy ls f : F1} {iv : IV} {rv : RV} {g : Nat} {day : Int} {K : IV → Prop} (h6 : gR rv 51 6 = h) (C : CS h R dy ls f iv) (hc : RC R) (hd : iv 51 11 = day) (hg : g < 16)
    (hK : bd_X6_weigh_224 g (pR R f g day).1 (pR R f g day).2 iv rv K) : wl_X6_weigh_99 g (-1) (-1) 0 iv rv K := by
  intro P hP
  have r8 : 0 ≤ R 1 8 ∧ R 1 8 ≤ 4 := hc.1 8 (by omega)
  have i8 : iv (gR rv 51 6 + 1) 8 = R 1 8 := by rw [h6]; exact C.1 1 8 (by omega)
  have f12 := C.2.2.2.1
  have f13 := C.2.2.2.2
  have key : ∀ d m : Nat, m + d = (R 1 8).toNat → ∀ a b c : Int, a = (pRn R g day m).1 → b = (pRn R g day m).2 → c = m → P g a b c iv := by
    intro d
    induction d with
    | zero =>
      intro m hm a b c ea eb ec
      subst ec
      have hm' : m = (R 1 8).toNat := by omega
      by_cases hx : f 12 = g ∧ f 14 ≤ day ∧ (pRn R g day (R 1 8).toNat).2 ≤ f 14
      · have e1 : pR R f g day = (f 13, f 14) := by unfold pR; rw [if_pos hx]
        rw [e1] at hK
        rw [hm'] at eb ea
        obtain ⟨f13, f14⟩ := f13 (by omega)
        refine hP _ _ _ _ _ ⟨fun _ => ⟨fun z => by omega, fun z => ⟨fun z => by omega, fun z => ⟨fun z => by omega, fun z x5 e5 x6 e6 => ?_⟩⟩⟩, fun z => by omega⟩
        rw [e5, e6, f13, f14]
        exact hK
      · have e1 : pR R f g day = pRn R g day (R 1 8).toNat := by unfold pR; rw [if_neg hx]
        rw [e1, ← hm', ← ea, ← eb] at hK
        rw [hm'] at eb ea
        by_cases hn : f 12 = -1
        · exact hP _ _ _ _ _ ⟨fun _ => ⟨fun z => hK, fun z => by omega⟩, fun z => by omega⟩
        · obtain ⟨f13, f14⟩ := f13 hn
          exact hP _ _ _ _ _ ⟨fun _ => ⟨fun z => hK, fun z => ⟨fun z => hK, fun z => ⟨fun z => hK, fun z => by omega⟩⟩⟩, fun z => by omega⟩
    | succ d ih =>
      intro m hm a b c ea eb ec
      subst ec
      have ew : Unit → w32 ((m : Int) + 1) = (m : Int) + 1 := fun _ => w32_id (by omega) (by omega)
      have t : ((m : Int)).toNat = m := Int.toNat_natCast m
      have i14 : iv (gR rv 51 6 + 14) ((m : Int)).toNat = R 14 m := by rw [h6, t]; exact C.1 14 m (by omega)
      have i15 : iv (gR rv 51 6 + 15) ((m : Int)).toNat = R 15 m := by rw [h6, t]; exact C.1 15 m (by omega)
      have i16 : iv (gR rv 51 6 + 16) ((m : Int)).toNat = R 16 m := by rw [h6, t]; exact C.1 16 m (by omega)
      have ih' := ih (m + 1) (by omega)
      unfold pRn at ih'
      apply hP
      unfold bd_X6_weigh_99 bd_X6_weigh_181
      by_cases hx : R 14 m = g ∧ R 16 m ≤ day ∧ (pRn R g day m).2 ≤ R 16 m
      · rw [if_pos hx] at ih'
        have ih2 := ih' (R 15 m) (R 16 m) ((m : Int) + 1) rfl rfl (nc1 m)
        rw [i14, i15, i16, ew ()]
        obtain ⟨x1, x2, x3⟩ := hx
        rw [← eb] at x3
        refine ⟨fun z => by omega, fun _ => ⟨⟨by omega, by omega⟩, fun z => absurd x1 z, fun _ => ⟨⟨by omega, by omega⟩, fun z => by omega, fun _ => ⟨⟨by omega, by omega⟩, fun z => by omega, fun _ => ⟨⟨by omega, by omega⟩, fun x14 e14 => ⟨⟨by omega, by omega⟩, fun x16 e16 => ?_⟩⟩⟩⟩⟩⟩
        subst e14; subst e16
        exact ih2
      · rw [if_neg hx] at ih'
        have ih2 := ih' a b ((m : Int) + 1) ea eb (nc1 m)
        rw [← eb] at hx
        rw [i14, i15, i16, ew ()]
        refine ⟨fun z => by omega, fun _ => ⟨⟨by omega, by omega⟩, fun _ => ih2, fun y1 => ⟨⟨by omega, by omega⟩, fun _ => ih2, fun y2 => ⟨⟨by omega, by omega⟩, fun _ => ih2, fun y3 => ?_⟩⟩⟩⟩
        exact absurd ⟨y1, by omega, by omega⟩ hx
  exact key (R 1 8).toNat 0 (by omega) _ _ _ rfl rfl rfl
