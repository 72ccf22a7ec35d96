/-! MEMORY BESIDE THE HEAP -/
def fv (sa ad : Nat → Nat) (ty : FieldType) (i : Int) (r : Option Nat) : Value := match ty with
  | .long => .long (Int64.ofInt i)
  | .object _ => va_rf (r.map (pa sa ad))
  | .array _ => va_rf (r.map (pa sa ad))
  | _ => .int (Int32.ofInt i)
def rowE (ty : FieldType) (f : Nat → Int) : (Nat → Int32) ⊕ (Nat → Int64) ⊕ (Nat → UInt32) ⊕ (Nat → UInt64) ⊕ (Nat → Option Nat) := match ty with
  | .long => .inr (.inl fun j => Int64.ofInt (f j))
  | _ => .inl fun j => Int32.ofInt (f j)
def celK (cA : FieldType → ClassId) (sa ad : Nat → Nat) (kd : Nat ⊕ (FieldType × Nat)) (f : Nat → Int) (g : Nat → Option Nat) : va_E := match kd with
  | .inl ci => .inr (ci, (List.range (nfd ci)).map fun j => fv sa ad (fty ci j) (f j) (g j))
  | .inr q => .inl (cA q.1, q.2, rowE q.1 f)
def cellE (cA : FieldType → ClassId) (sa ad : Nat → Nat) (iv : IV) (rv : RV) (k : Nat) : va_E := celK cA sa ad (sh k) (iv k) (rv k)
def tyL (ty : FieldType) : Bool := match ty with
  | .long => true
  | _ => false
def isL (k j : Nat) : Bool := match sh k with
  | .inl ci => tyL (fty ci j)
  | .inr q => tyL q.1
def okM (iv : IV) : Prop := ∀ k j, if isL k j = true then inL (iv k j) else inI (iv k j)
def wl (cA : FieldType → ClassId) (sa ad : Nat → Nat) (n : Nat) (iv : IV) (rv : RV) : va_W := (List.range n).map fun k => (ad k, cellE cA sa ad iv rv k)
theorem wl_at {cA : FieldType → ClassId} {sa ad : Nat → Nat} {n k : Nat} {iv : IV} {rv : RV} (h : k < n) : (wl cA sa ad n iv rv)[k]? = some (ad k, cellE cA sa ad iv rv k) := by
  unfold wl
  rw [List.getElem?_map, List.getElem?_range h]
  rfl
theorem wl_of {cA : FieldType → ClassId} {sa ad : Nat → Nat} {n k : Nat} {iv : IV} {rv : RV} {q : Nat × va_E} (h : (wl cA sa ad n iv rv)[k]? = some q) : k < n ∧ q = (ad k, cellE cA sa ad iv rv k) := by
  have hl : k < n := by
    have := (List.getElem?_eq_some_iff.mp h).1
    unfold wl at this
    rwa [List.length_map, List.length_range] at this
  refine ⟨hl, ?_⟩
  rw [wl_at hl] at h
  exact (Option.some.inj h).symm
theorem wl_set {cA : FieldType → ClassId} {sa ad : Nat → Nat} {n k : Nat} {iv iv' : IV} {rv rv' : RV} (h : k < n) (ho : ∀ j, j ≠ k → cellE cA sa ad iv' rv' j = cellE cA sa ad iv rv j) : (wl cA sa ad n iv rv).set k (ad k, cellE cA sa ad iv' rv' k) = wl cA sa ad n iv' rv' := by
  apply List.ext_getElem?
  intro j
  by_cases hj : j < n
  · rw [wl_at hj]
    by_cases hk : k = j
    · subst hk
      rw [List.getElem?_set_self (by unfold wl; rw [List.length_map, List.length_range]; exact h)]
    · rw [List.getElem?_set_ne hk, wl_at hj, ho j (fun e => hk e.symm)]
  · rw [List.getElem?_eq_none (by rw [List.length_set]; unfold wl; rw [List.length_map, List.length_range]; omega), List.getElem?_eq_none (by unfold wl; rw [List.length_map, List.length_range]; omega)]
/-- the heap holds the memory's first n places, from address bs on, apart -/
def Rel (D : va_G) (cA : FieldType → ClassId) (sa : Nat → Nat) (bs : Nat) (ad : Nat → Nat) (n : Nat) (iv : IV) (rv : RV) (H : Heap) : Prop :=
  n ≤ 1000 ∧ okM iv ∧ (∀ k j q, k < n → rv k j = some q → q < n ∨ 1000 ≤ q) ∧ va_P D vwCl (wl cA sa ad n iv rv) H ∧ va_D (fun q => bs ≤ q) (wl cA sa ad n iv rv)
def tys (cA : FieldType → ClassId) : List (ClassId × FieldType) := [(cA .byte, .byte), (cA .int, .int), (cA .long, .long), (cA .boolean, .boolean)]
/-- the words of the tables -/
def Tb (U : State) : Prop := ∀ w ∈ lw_tbl, okw w = true → w.before #[] U = true
theorem Tb.use {s : State} (h : Tb s) {w : Cond} (hw : w ∈ lw_tbl) (ho : okw w = true) (args : Array Value) : w.before args s = true := by
  have h1 := h w hw ho
  unfold okw at ho
  rw [Bool.or_eq_true] at ho
  rcases ho with ho | ho
  · exact word_at (State.WarmedH.refl s) (good_of_word ho) h1
  · split at ho
    · exact va_Nw.use rfl h1
    · exact va_Nw.use rfl h1
    · cases ho
theorem Tb.warm {s U : State} (h : Tb s) (hW : s.WarmedH U.vm) : Tb U := by
  intro w hw ho
  have h1 := h w hw ho
  unfold okw at ho
  rw [Bool.or_eq_true] at ho
  rcases ho with ho | ho
  · exact word_at hW (good_of_word ho) h1
  · split at ho
    · exact va_Nw.warmF hW h1
    · exact va_Nw.warmM hW h1
    · cases ho
/-- a word that the tables hold, by program -/
def isW (w : Cond) : Bool := decide (w ∈ lw_tbl) && okw w
theorem Tb.at {s : State} (h : Tb s) {w : Cond} (hw : isW w = true) (args : Array Value) : w.before args s = true := by
  unfold isW at hw
  rw [Bool.and_eq_true, decide_eq_true_eq] at hw
  exact h.use hw.1 hw.2 args
theorem Tb.cls {s : State} (h : Tb s) {c : Nat} (hc : c < 13) (args : Array Value) : ∀ w ∈ u_ws (cR c) (cT c) (nfd c), w.before args s = true := by
  intro w hw
  have h1 := List.all_eq_true.mp (cl_in c hc) w hw
  exact h.at h1 args
