/-! THE JUDGEMENT G -/
abbrev GX : Type := Program × Launch × Env × Room × State × MethodId × Array Value × List Frame × Method × Code × va_G × (FieldType → ClassId) × (Nat → Nat) × Nat × (Nat → Nat) × Nat × (State → Prop)
/-- the machine at pc of the method, with locals L, operands S, the memory's first n places, u cells of v slots made so far, comes to its end -/
def G (Γ : GX) (nL pc : Nat) (L S : List AV) (n : Nat) (iv : IV) (rv : RV) (u v : Nat) : Prop := match Γ with
  | (p, l, e, R, s, m, args, below, meth, c, D, cA, sa, bs, ad0, n0, Q) => ∀ (ad : Nat → Nat) (H : Heap) (locs : List Loc) (ls : Array Slot), agr n0 ad0 ad → n0 ≤ n → okL n L → okL n S → Rel D cA sa bs ad n iv rv H → va_S (fun q => bs ≤ q) s.heap H locs → LR sa ad nL ls L →
    W p l e R s m args below meth c H locs u v Q (F0 m pc ls (S.map (tv sa ad)))
/-- what is fixed while a method runs: d calls may stand open above it -/
def Cx (Γ : GX) (own : String) (cc : ByteArray) (nL d : Nat) : Prop := match Γ with
  | (p, _, _, R, s, m, _, _, meth, c, D, cA, sa, bs, _, _, _) => p.tables.exec = Jvm.exec ∧ c.code = cc ∧ c.maxLocals = nL ∧ s.vm.findClass own = some m.cls ∧ meth.locks = false ∧ Tb s ∧ va_K D vwCl (tys cA) s ∧ SF bs sa s ∧ bs ≤ s.heap.size ∧ d ≤ R.frames ∧ 36 * d ≤ R.locals
/-- how a method ends -/
def QA (D : va_G) (cA : FieldType → ClassId) (sa : Nat → Nat) (bs : Nat) (ad0 : Nat → Nat) (n0 : Nat) (Φ : Option AV → Nat → IV → RV → Prop) : Array Value → State → Outcome → State → Prop := fun _ st oc t =>
  (∃ (r : Option AV) (n : Nat) (iv : IV) (rv : RV) (ad : Nat → Nat), Φ r n iv rv ∧ oc = .returned (r.map (tv sa ad)) ∧ agr n0 ad0 ad ∧ n0 ≤ n ∧ (∀ a, r = some a → okA n a) ∧ Rel D cA sa bs ad n iv rv t.heap) ∧ va_F (fun q => bs ≤ q) st t
def Rt (Γ : GX) (ret : Option FieldType) (mc ms : Nat) (Φ : Option AV → Nat → IV → RV → Prop) : Prop := match Γ with
  | (_, _, _, _, s, _, args, below, meth, _, D, cA, sa, bs, ad0, n0, Q) => meth.sig.returnType = ret ∧ Q = MQ below (QA D cA sa bs ad0 n0 Φ) args s mc ms (fun q => bs ≤ q)
def rmA (d mc ms : Nat) : Room := { frames := d, cells := mc, slots := ms, locals := 36 * d }
def PA (D : va_G) (cA : FieldType → ClassId) (sa : Nat → Nat) (bs : Nat) (ad : Nat → Nat) (n : Nat) (iv : IV) (rv : RV) (as : List AV) (U : State) : Prop :=
  okL n as ∧ Rel D cA sa bs ad n iv rv U.heap ∧ Tb U ∧ va_K D vwCl (tys cA) U ∧ SF bs sa U ∧ bs ≤ U.heap.size
/-- the method's contract: from this memory and these arguments it returns, and what it answers and leaves has Φ -/
def Call (d mc ms : Nat) (y : MethodName) (cc : ByteArray) (maxL : Nat) (ret : Option FieldType) (as : List AV) (n : Nat) (iv : IV) (rv : RV) (Φ : Option AV → Nat → IV → RV → Prop) : Prop :=
  ∀ (l : Launch) (D : va_G) (cA : FieldType → ClassId) (sa : Nat → Nat) (bs : Nat) (ad : Nat → Nat),
    Met l y [Cond.code y cc maxL ret] (rmA d mc ms) (va_Pc (as.map (tv sa ad)) (PA D cA sa bs ad n iv rv as)) (QA D cA sa bs ad n Φ) mc ms (fun q => bs ≤ q)
theorem PA.blind {D : va_G} {cA : FieldType → ClassId} {sa : Nat → Nat} {bs : Nat} {ad : Nat → Nat} {n : Nat} {iv : IV} {rv : RV} {as : List AV} {vs : List Value} : FrameBlind (va_Pc vs (PA D cA sa bs ad n iv rv as)) := by
  intro a U g mk q
  obtain ⟨q0, q1, q2, q3, q4, q5, q6⟩ := q
  exact ⟨q0, q1, q2, Tb.warm q3 (State.WarmedH.refl U), va_K.moved (u := U) (U := U.calling g mk a) (Vm.Alike.refl U.vm) q4, q5.same rfl rfl, q6⟩
/-- the locals at a method's entry -/
def lArgs : List AV → List AV
  | [] => []
  | a :: l => (match a with
    | .inr (.inl x) => (.inr (.inl x)) :: aJ :: lArgs l
    | a => a :: lArgs l)
theorem Rel.okR {D : va_G} {cA : FieldType → ClassId} {sa : Nat → Nat} {bs : Nat} {ad : Nat → Nat} {n : Nat} {iv : IV} {rv : RV} {H : Heap} (h : Rel D cA sa bs ad n iv rv H) {k j : Nat} (hj : isL k j = false) : inI (iv k j) := by
  have := h.2.1 k j
  rw [hj] at this
  exact this
theorem Rel.okRL {D : va_G} {cA : FieldType → ClassId} {sa : Nat → Nat} {bs : Nat} {ad : Nat → Nat} {n : Nat} {iv : IV} {rv : RV} {H : Heap} (h : Rel D cA sa bs ad n iv rv H) {k j : Nat} (hj : isL k j = true) : inL (iv k j) := by
  have := h.2.1 k j
  rw [hj] at this
  exact this
