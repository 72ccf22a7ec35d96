/-! THE ABSTRACT MACHINE: values are whole numbers and places; memory is iv (place, slot: number) and rv (place, slot: place) -/
abbrev AV : Type := Int ⊕ Int ⊕ Option Nat ⊕ Unit
abbrev aI (x : Int) : AV := .inl x
abbrev aL (x : Int) : AV := .inr (.inl x)
abbrev aR (r : Option Nat) : AV := .inr (.inr (.inl r))
abbrev aJ : AV := .inr (.inr (.inr ()))
abbrev IV : Type := Nat → Nat → Int
abbrev RV : Type := Nat → Nat → Option Nat
def inI (x : Int) : Prop := -2147483648 ≤ x ∧ x ≤ 2147483647
def inL (x : Int) : Prop := -9223372036854775808 ≤ x ∧ x ≤ 9223372036854775807
def w32 (x : Int) : Int := x.bmod 4294967296
def w64 (x : Int) : Int := x.bmod 18446744073709551616
theorem w32_in (x : Int) : inI (w32 x) := by
  unfold inI w32
  have h1 := Int.le_bmod (x := x) (m := 4294967296) (by decide)
  have h2 := Int.bmod_lt (x := x) (m := 4294967296) (by decide)
  constructor <;> omega
theorem w64_in (x : Int) : inL (w64 x) := by
  unfold inL w64
  have h1 := Int.le_bmod (x := x) (m := 18446744073709551616) (by decide)
  have h2 := Int.bmod_lt (x := x) (m := 18446744073709551616) (by decide)
  constructor <;> omega
theorem w32_id {x : Int} (h1 : -2147483648 ≤ x) (h2 : x ≤ 2147483647) : w32 x = x := by
  unfold w32
  exact Int.bmod_eq_of_le (by omega) (by omega)
theorem w64_id {x : Int} (h1 : -9223372036854775808 ≤ x) (h2 : x ≤ 9223372036854775807) : w64 x = x := by
  unfold w64
  exact Int.bmod_eq_of_le (by omega) (by omega)
theorem of_w32 (x : Int) : Int32.ofInt (w32 x) = Int32.ofInt x := by
  apply Int32.toInt_inj.mp
  rw [Int32.toInt_ofInt, Int32.toInt_ofInt]
  show (x.bmod 4294967296).bmod 4294967296 = x.bmod 4294967296
  exact Int.bmod_bmod
theorem of_w64 (x : Int) : Int64.ofInt (w64 x) = Int64.ofInt x := by
  apply Int64.toInt_inj.mp
  rw [Int64.toInt_ofInt, Int64.toInt_ofInt]
  show (x.bmod 18446744073709551616).bmod 18446744073709551616 = x.bmod 18446744073709551616
  exact Int.bmod_bmod
theorem to_of {x : Int} (h : inI x) : (Int32.ofInt x).toInt = x := Int32.toInt_ofInt_of_le (by have := h.1; omega) (by have := h.2; omega)
theorem to_ofL {x : Int} (h : inL x) : (Int64.ofInt x).toInt = x := Int64.toInt_ofInt_of_le (by have := h.1; omega) (by have := h.2; omega)
theorem i32_in (x : Int32) : inI x.toInt := ⟨by have := x.le_toInt; omega, by have := x.toInt_lt; omega⟩
theorem i64_in (x : Int64) : inL x.toInt := ⟨by have := x.le_toInt; omega, by have := x.toInt_lt; omega⟩
theorem of_lt {x y : Int} (hx : inI x) (hy : inI y) : Int32.ofInt x < Int32.ofInt y ↔ x < y := by rw [Int32.lt_iff_toInt_lt, to_of hx, to_of hy]
theorem of_le {x y : Int} (hx : inI x) (hy : inI y) : Int32.ofInt x ≤ Int32.ofInt y ↔ x ≤ y := by rw [Int32.le_iff_toInt_le, to_of hx, to_of hy]
theorem of_eq {x y : Int} (hx : inI x) (hy : inI y) : Int32.ofInt x = Int32.ofInt y ↔ x = y := by rw [← Int32.toInt_inj, to_of hx, to_of hy]
theorem of_clamp {x : Int} (hx : inI x) : (Int32.ofInt x).toNatClampNeg = x.toNat := by rw [← Int32.toNat_toInt, to_of hx]
theorem of_vin {x : Int} {n : Nat} (hx : inI x) (h0 : 0 ≤ x) (h1 : x < n) : vp_in (Int32.ofInt x) n := by rw [vp_in_iff, to_of hx]; exact ⟨h0, h1⟩
/-- places below 1000 move with the heap; from 1000 to 1999 they are constants of the launch -/
def pa (sa ad : Nat → Nat) (k : Nat) : Nat := if 1000 ≤ k ∧ k < 2000 then sa (k - 1000) else ad k
def okq (n q : Nat) : Prop := q < n ∨ (1000 ≤ q ∧ q < 2000)
def tv (sa ad : Nat → Nat) (a : AV) : Value := match a with
  | .inl x => .int (Int32.ofInt x)
  | .inr (.inl x) => .long (Int64.ofInt x)
  | .inr (.inr (.inl r)) => va_rf (r.map (pa sa ad))
  | .inr (.inr (.inr _)) => .null
def okA (n : Nat) (a : AV) : Prop := match a with
  | .inl x => inI x
  | .inr (.inl x) => inL x
  | .inr (.inr (.inl r)) => ∀ q, r = some q → okq n q
  | .inr (.inr (.inr _)) => True
def nj (a : AV) : Prop := match a with
  | .inr (.inr (.inr _)) => False
  | _ => True
def okL (n : Nat) (L : List AV) : Prop := ∀ a ∈ L, okA n a
theorem okL_cons {n : Nat} {a : AV} {L : List AV} : okL n (a :: L) ↔ okA n a ∧ okL n L := by
  unfold okL
  constructor
  · intro h; exact ⟨h a List.mem_cons_self, fun b hb => h b (List.mem_cons_of_mem _ hb)⟩
  · intro h b hb
    rcases List.mem_cons.mp hb with rfl | hb
    · exact h.1
    · exact h.2 b hb
theorem okL_set {n i : Nat} {a : AV} {L : List AV} (h : okL n L) (ha : okA n a) : okL n (L.set i a) := by
  intro b hb
  rcases List.mem_or_eq_of_mem_set hb with hb | rfl
  · exact h b hb
  · exact ha
theorem okL_at {n i : Nat} {a : AV} {L : List AV} (h : okL n L) (ha : L[i]? = some a) : okA n a := h a (List.mem_of_getElem? ha)
theorem okq_mono {n n' q : Nat} (hn : n ≤ n') (h : okq n q) : okq n' q := by unfold okq at *; omega
theorem okA_mono {n n' : Nat} (hn : n ≤ n') {a : AV} (h : okA n a) : okA n' a := by
  rcases a with x | x | r | u
  · exact h
  · exact h
  · exact fun q hq => okq_mono hn (h q hq)
  · exact trivial
theorem okL_mono {n n' : Nat} (hn : n ≤ n') {L : List AV} (h : okL n L) : okL n' L := fun a ha => okA_mono hn (h a ha)
/-- the address maps agree on the first n places -/
def agr (n : Nat) (a b : Nat → Nat) : Prop := ∀ k, k < n → b k = a k
theorem agr.rf {n : Nat} {a : Nat → Nat} : agr n a a := fun _ _ => rfl
theorem agr.tr {n n' : Nat} {a b c : Nat → Nat} (hn : n ≤ n') (h : agr n a b) (h' : agr n' b c) : agr n a c := fun k hk => (h' k (by omega)).trans (h k hk)
theorem tv_agr {sa a b : Nat → Nat} {n : Nat} (hn : n ≤ 1000) (h : agr n a b) {v : AV} (hv : okA n v) : tv sa b v = tv sa a v := by
  rcases v with x | x | r | u
  · rfl
  · rfl
  · cases r with
    | none => rfl
    | some q =>
      have hq := hv q rfl
      show Value.ref (pa sa b q) = Value.ref (pa sa a q)
      congr 1
      unfold pa
      rcases hq with hq | hq
      · rw [if_neg (by omega), if_neg (by omega)]; exact h q hq
      · rw [if_pos hq, if_pos hq]
  · rfl
theorem tvs_agr {sa a b : Nat → Nat} {n : Nat} (hn : n ≤ 1000) (h : agr n a b) {S : List AV} (hS : okL n S) : S.map (tv sa b) = S.map (tv sa a) := List.map_congr_left fun v hv => tv_agr hn h (hS v hv)
/-- the table of local variables -/
def LR (sa ad : Nat → Nat) (nL : Nat) (ls : Array Slot) (L : List AV) : Prop := ls.size = nL ∧ lv_wf ls ∧ ∀ (i : Nat) (a : AV), L[i]? = some a → nj a → ls[i]? = some (Slot.val (tv sa ad a))
def toS (sa ad : Nat → Nat) (i : Nat) (a : AV) : Option (Nat × Value) := match a with
  | .inl x => some (i, tv sa ad (.inl x))
  | .inr (.inl x) => some (i, tv sa ad (.inr (.inl x)))
  | .inr (.inr (.inl r)) => some (i, tv sa ad (.inr (.inr (.inl r))))
  | .inr (.inr (.inr _)) => none
def lstOf (sa ad : Nat → Nat) (L : List AV) : List (Nat × Value) := (List.range L.length).filterMap fun i => (L[i]?).bind (toS sa ad i)
theorem toS_iff {sa ad : Nat → Nat} {i : Nat} {a : AV} {q : Nat × Value} : toS sa ad i a = some q ↔ nj a ∧ q = (i, tv sa ad a) := by
  rcases a with x | x | r | u
  · exact ⟨fun h => ⟨trivial, (Option.some.inj h).symm⟩, fun h => congrArg some h.2.symm⟩
  · exact ⟨fun h => ⟨trivial, (Option.some.inj h).symm⟩, fun h => congrArg some h.2.symm⟩
  · exact ⟨fun h => ⟨trivial, (Option.some.inj h).symm⟩, fun h => congrArg some h.2.symm⟩
  · exact ⟨fun h => (by cases h), fun h => h.1.elim⟩
theorem lstOf_mem {sa ad : Nat → Nat} {L : List AV} {q : Nat × Value} : q ∈ lstOf sa ad L ↔ ∃ a, L[q.1]? = some a ∧ nj a ∧ q.2 = tv sa ad a := by
  unfold lstOf
  rw [List.mem_filterMap]
  constructor
  · rintro ⟨i, hi, hq⟩
    obtain ⟨a, h1, h2⟩ := Option.bind_eq_some_iff.mp hq
    obtain ⟨h3, rfl⟩ := toS_iff.mp h2
    exact ⟨a, h1, h3, rfl⟩
  · rintro ⟨a, h1, h2, h3⟩
    have hl := (List.getElem?_eq_some_iff.mp h1).1
    refine ⟨q.1, List.mem_range.mpr hl, Option.bind_eq_some_iff.mpr ⟨a, h1, toS_iff.mpr ⟨h2, Prod.ext rfl h3⟩⟩⟩
theorem LR.has {sa ad : Nat → Nat} {nL : Nat} {ls : Array Slot} {L : List AV} (h : LR sa ad nL ls L) : lv_has ls nL (lstOf sa ad L) := by
  refine ⟨h.1, h.2.1, fun q hq => ?_⟩
  obtain ⟨a, h1, h2, h3⟩ := lstOf_mem.mp hq
  rw [h3]
  exact h.2.2 q.1 a h1 h2
theorem LR.agr {sa a b : Nat → Nat} {nL n : Nat} {ls : Array Slot} {L : List AV} (hn : n ≤ 1000) (hab : agr n a b) (hL : okL n L) (h : LR sa a nL ls L) : LR sa b nL ls L :=
  ⟨h.1, h.2.1, fun i v hv hj => by rw [tv_agr hn hab (okL_at hL hv)]; exact h.2.2 i v hv hj⟩
/-- no long stands just ahead of place i -/
def isLg (a : Option AV) : Bool := match a with
  | some v => (match v with
    | .inr w => (match w with
      | .inl _ => true
      | .inr _ => false)
    | .inl _ => false)
  | none => false
def lpre (L : List AV) (i : Nat) : Bool := i == 0 || !(isLg L[i - 1]?)
theorem lpre_use {L : List AV} {i j : Nat} (h : lpre L i = true) (hj : j + 1 = i) {x : Int} (hx : L[j]? = some (.inr (.inl x))) : False := by
  subst hj
  unfold lpre at h
  rw [Nat.add_sub_cancel, hx] at h
  simp [isLg] at h
theorem tv_cat {sa ad : Nat → Nat} {a : AV} : (tv sa ad a).category = 2 → ∃ x, a = .inr (.inl x) := by
  rcases a with x | x | r | u
  · intro h; cases h
  · intro _; exact ⟨x, rfl⟩
  · cases r with
    | none => intro h; cases h
    | some q => intro h; cases h
  · intro h; cases h
theorem LR.set1 {sa ad : Nat → Nat} {nL i : Nat} {ls' : Array Slot} {L : List AV} {a : AV} (hp : lpre L i = true)
    (h : lv_has ls' nL ((i, tv sa ad a) :: (lstOf sa ad L).filter (fun q => !(q.1 == i) && !(q.1 + 1 == i && q.2.category == 2)))) : LR sa ad nL ls' (L.set i a) := by
  refine ⟨h.1, h.2.1, fun j b hb hj => ?_⟩
  by_cases hji : i = j
  · subst hji
    have hlt : i < L.length := by have := (List.getElem?_eq_some_iff.mp hb).1; rwa [List.length_set] at this
    rw [List.getElem?_set_self hlt] at hb
    cases hb
    exact h.2.2 _ List.mem_cons_self
  · rw [List.getElem?_set_ne hji] at hb
    refine h.2.2 (j, tv sa ad b) (List.mem_cons_of_mem _ (List.mem_filter.mpr ⟨lstOf_mem.mpr ⟨b, hb, hj, rfl⟩, ?_⟩))
    simp only [Bool.and_eq_true, Bool.not_eq_true', beq_eq_false_iff_ne, Bool.and_eq_false_iff]
    refine ⟨fun e => hji e.symm, ?_⟩
    by_cases h1 : j + 1 = i
    · right
      intro hc
      obtain ⟨x, rfl⟩ := tv_cat hc
      exact lpre_use hp h1 hb
    · left; exact h1
theorem LR.set2 {sa ad : Nat → Nat} {nL i : Nat} {ls' : Array Slot} {L : List AV} {a : AV} (hp : lpre L i = true)
    (h : lv_has ls' nL ((i, tv sa ad a) :: (lstOf sa ad L).filter (fun q => !(q.1 == i) && (!(q.1 == i + 1) && !(q.1 + 1 == i && q.2.category == 2))))) : LR sa ad nL ls' ((L.set i a).set (i + 1) aJ) := by
  refine ⟨h.1, h.2.1, fun j b hb hj => ?_⟩
  by_cases hj1 : i + 1 = j
  · subst hj1
    have hlt : i + 1 < (L.set i a).length := by have := (List.getElem?_eq_some_iff.mp hb).1; rwa [List.length_set] at this
    rw [List.getElem?_set_self hlt] at hb
    cases hb
    exact hj.elim
  rw [List.getElem?_set_ne hj1] at hb
  by_cases hji : i = j
  · subst hji
    have hlt : i < L.length := by have := (List.getElem?_eq_some_iff.mp hb).1; rwa [List.length_set] at this
    rw [List.getElem?_set_self hlt] at hb
    cases hb
    exact h.2.2 _ List.mem_cons_self
  · rw [List.getElem?_set_ne hji] at hb
    refine h.2.2 (j, tv sa ad b) (List.mem_cons_of_mem _ (List.mem_filter.mpr ⟨lstOf_mem.mpr ⟨b, hb, hj, rfl⟩, ?_⟩))
    simp only [Bool.and_eq_true, Bool.not_eq_true', beq_eq_false_iff_ne, Bool.and_eq_false_iff]
    refine ⟨fun e => hji e.symm, fun e => hj1 e.symm, ?_⟩
    by_cases h1 : j + 1 = i
    · right
      intro hc
      obtain ⟨x, rfl⟩ := tv_cat hc
      exact lpre_use hp h1 hb
    · left; exact h1
theorem LR.at {sa ad : Nat → Nat} {nL i : Nat} {ls : Array Slot} {L : List AV} {a : AV} (h : LR sa ad nL ls L) (ha : L[i]? = some a) (hj : nj a) : ls[i]? = some (.val (tv sa ad a)) := h.2.2 i a ha hj
theorem LR.sub {sa ad : Nat → Nat} {nL : Nat} {ls : Array Slot} {L L' : List AV} (h : LR sa ad nL ls L) (hs : ∀ (i : Nat) (a : AV), L'[i]? = some a → nj a → L[i]? = some a) : LR sa ad nL ls L' := ⟨h.1, h.2.1, fun i a ha hj => h.2.2 i a (hs i a ha hj) hj⟩
