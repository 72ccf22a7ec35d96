/-! MAKING, CALLS, RETURNS, ENTRY -/
def z2 (iv : IV) (k : Nat) : IV := fun a b => if a = k then 0 else iv a b
def zr (rv : RV) (k : Nat) : RV := fun a b => if a = k then none else rv a b
theorem z2_row {iv : IV} {k a : Nat} (h : a ≠ k) : z2 iv k a = iv a := funext fun _ => if_neg h
theorem zr_row {rv : RV} {k a : Nat} (h : a ≠ k) : zr rv k a = rv a := funext fun _ => if_neg h
theorem z2_at {iv : IV} {k b : Nat} : z2 iv k k b = 0 := if_pos rfl
theorem zr_at {rv : RV} {k b : Nat} : zr rv k k b = none := if_pos rfl
def adU (ad : Nat → Nat) (n a : Nat) : Nat → Nat := fun k => if k = n then a else ad k
theorem adU_agr {ad : Nat → Nat} {n a : Nat} : agr n ad (adU ad n a) := fun k hk => if_neg (by omega)
theorem okM_z2 {iv : IV} {k : Nat} (h : okM iv) : okM (z2 iv k) := by
  intro a b
  by_cases hab : a = k
  · subst hab
    rw [z2_at]
    split
    · unfold inL; omega
    · unfold inI; omega
  · rw [z2_row hab]
    exact h a b
theorem cell_adU {cA : FieldType → ClassId} {sa ad : Nat → Nat} {n k a : Nat} {iv : IV} {rv : RV} (hn : n < 1000) (hk : k < n) (hR : ∀ j q, rv k j = some q → q < n ∨ 1000 ≤ q) : cellE cA sa (adU ad n a) (z2 iv n) (zr rv n) k = cellE cA sa ad iv rv k := by
  unfold cellE
  rw [z2_row (by omega), zr_row (by omega)]
  have hfv : ∀ ty j, fv sa (adU ad n a) ty (iv k j) (rv k j) = fv sa ad ty (iv k j) (rv k j) := by
    intro ty j
    cases hr : rv k j with
    | none => cases ty <;> rfl
    | some q =>
      have h0 : pa sa (adU ad n a) q = pa sa ad q := by
        have h1 := hR j q hr
        unfold pa
        split
        · rfl
        · unfold adU; rw [if_neg (by omega)]
      cases ty <;> first | rfl | (show va_rf (some (pa sa (adU ad n a) q)) = va_rf (some (pa sa ad q)); rw [h0])
  cases sh k with
  | inl ci =>
    show (Sum.inr (ci, _) : va_E) = Sum.inr (ci, _)
    rw [List.map_congr_left (fun j _ => hfv (fty ci j) j)]
  | inr q => rfl
theorem Rel.push {D : va_G} {cA : FieldType → ClassId} {sa : Nat → Nat} {bs : Nat} {ad : Nat → Nat} {n a : Nat} {iv : IV} {rv : RV} {H H1 : Heap} (h : Rel D cA sa bs ad n iv rv H) (hn : n < 1000)
    (hP : va_P D vwCl (wl cA sa ad n iv rv ++ [(a, cellE cA sa (adU ad n a) (z2 iv n) (zr rv n) n)]) H1) (hD : va_D (fun q => bs ≤ q) (wl cA sa ad n iv rv ++ [(a, cellE cA sa (adU ad n a) (z2 iv n) (zr rv n) n)])) : Rel D cA sa bs (adU ad n a) (n + 1) (z2 iv n) (zr rv n) H1 := by
  have e1 : wl cA sa ad n iv rv ++ [(a, cellE cA sa (adU ad n a) (z2 iv n) (zr rv n) n)] = wl cA sa (adU ad n a) (n + 1) (z2 iv n) (zr rv n) := by
    unfold wl
    rw [List.range_succ, List.map_append]
    congr 1
    · refine List.map_congr_left (fun k hk => ?_)
      have hk' := List.mem_range.mp hk
      rw [cell_adU hn hk' (fun j q hq => h.2.2.1 k j q hk' hq), adU_agr k hk']
    · show [(a, _)] = [(adU ad n a n, _)]
      have : adU ad n a n = a := if_pos rfl
      rw [this]
  rw [e1] at hP hD
  refine ⟨by omega, okM_z2 h.2.1, fun k j q hk hq => ?_, hP, hD⟩
  by_cases hkn : k = n
  · subst hkn
    rw [zr_at] at hq
    cases hq
  · rw [zr_row hkn] at hq
    have := h.2.2.1 k j q (by omega) hq
    omega
/-- room for u + a cells of v + b slots -/
def Cap (Γ : GX) (u v : Nat) : Prop := match Γ with
  | (_, _, _, R, _, _, _, _, _, _, _, _, _, _, _, _, _) => u ≤ R.cells ∧ v ≤ R.slots
theorem Cap0 {Γ : GX} : Cap Γ 0 0 := by
  obtain ⟨p, l, e, R, s, m, args, below, meth, c, D, cA, sa, bs, ad0, n0, Q⟩ := Γ
  exact ⟨Nat.zero_le _, Nat.zero_le _⟩
theorem ty_ok : ∀ c, c < 13 → ∀ j, j < nfd c → tyI (fty c j) = true ∨ tyL (fty c j) = true ∨ tyR (fty c j) = true := by decide +kernel
theorem g_new {Γ : GX} {own : String} {cc : ByteArray} {nL d pc q : Nat} {L S : List AV} {n : Nat} {iv : IV} {rv : RV} {u v : Nat} {idx : Nat} {C : String} (ci : Nat) (X : Cx Γ own cc nL d) (hc : ci < 13) (hC : C = cR ci) (hw : isW (.classLink own idx C) = true) (hw2 : isW (.instantiable C (nfd ci)) = true) (hw3 : isW (.initialized C) = true) (hs : sh n = .inl ci) (hn : n < 1000) (hcap : Cap Γ (u + 1) (v + nfd ci)) (hd : decode cc pc = .ok (.new idx, 3)) (hq : pc + 3 = q) (kk : G Γ nL q L (aR (some n) :: S) (n + 1) (z2 iv n) (zr rv n) (u + 1) (v + nfd ci)) : G Γ nL pc L S n iv rv u v := by
  obtain ⟨p, l, e, R, s, m, args, below, meth, c, D, cA, sa, bs, ad0, n0, Q⟩ := Γ
  obtain ⟨hx, hb, hml, hown, hlk, hT, hK, hF, hbs, hfr, hlo⟩ := X
  intro ad H locs ls h1 h2 h3 h4 h5 h6 h7
  subst hq hC
  refine va_new (ci := ci) (fs := fsOf sa ad ci (fun _ => 0) (fun _ => none)) (T := cT ci) (N := nfd ci) hx hb (hT.cls hc args) (fun _ h => h) (fty ci) (cl_ty ci hc) hown (hT.at hw args) (hT.at hw2 args) (hT.at hw3 args) hK h5.2.2.2.1 h5.2.2.2.2 h6 (fun q hq => Nat.le_trans hbs hq) (cl_at ci hc) ?_ hcap.1 hcap.2 hd (fun a H1 hP1 hD1 hS1 => ?_)
  · intro j hj
    show defaultValue (fty ci j) = (fsOf sa ad ci (fun _ => 0) (fun _ => none)).getD j .null
    rw [List.getD_eq_getElem?_getD, fs_at hj]
    show defaultValue (fty ci j) = fv sa ad (fty ci j) 0 none
    have hb0 : tyI (fty ci j) = true ∨ tyL (fty ci j) = true ∨ tyR (fty ci j) = true := ty_ok ci hc j hj
    generalize fty ci j = ty at hb0
    cases ty <;> first | rfl | (rcases hb0 with h | h | h <;> cases h)
  have e9 : (.inr (ci, fsOf sa ad ci (fun _ => 0) (fun _ => none)) : va_E) = cellE cA sa (adU ad n a) (z2 iv n) (zr rv n) n := by
    rw [cell_o hs]
    congr 2
    unfold fsOf
    refine List.map_congr_left (fun j _ => ?_)
    rw [z2_at, zr_at]
    cases fty ci j <;> rfl
  rw [e9] at hP1 hD1
  have h9 := kk (adU ad n a) H1 locs ls (agr.tr h2 h1 adU_agr) (by omega) (okL_mono (by omega) h3) (okL_cons.mpr ⟨fun z hz => by cases hz; exact Or.inl (by omega), okL_mono (by omega) h4⟩) (Rel.push h5 hn hP1 hD1) hS1 (h7.agr (by omega) adU_agr h3)
  rw [List.map_cons, tv_R hn, tvs_agr (by omega) adU_agr h4] at h9
  have : adU ad n a n = a := if_pos rfl
  rw [this] at h9
  exact h9
theorem g_newa {Γ : GX} {own : String} {cc : ByteArray} {nL d pc q : Nat} {L S : List AV} {n : Nat} {iv : IV} {rv : RV} {u v : Nat} {at0 : ArrayType} {len : Nat} (ty : FieldType) (X : Cx Γ own cc nL d) (hty : newarray.typeOf at0 = ty) (ht4 : ty = .byte ∨ ty = .int ∨ ty = .long ∨ ty = .boolean) (hw : isW (.arrayClass ty) = true) (hs : sh n = .inr (ty, len)) (hln : len < 65536) (hn : n < 1000) (hcap : Cap Γ (u + 1) (v + len)) (hd : decode cc pc = .ok (.newarray at0, 2)) (hq : pc + 2 = q) (kk : G Γ nL q L (aR (some n) :: S) (n + 1) (z2 iv n) (zr rv n) (u + 1) (v + len)) : G Γ nL pc L (aI (len : Int) :: S) n iv rv u v := by
  obtain ⟨p, l, e, R, s, m, args, below, meth, c, D, cA, sa, bs, ad0, n0, Q⟩ := Γ
  obtain ⟨hx, hb, hml, hown, hlk, hT, hK, hF, hbs, hfr, hlo⟩ := X
  intro ad H locs ls h1 h2 h3 h4 h5 h6 h7
  subst hq hty
  have h4a := okL_cons.mp h4
  have hl4 : inI (len : Int) := h4a.1
  have hcomp : componentBytes (newarray.typeOf at0) ≤ 8 := by cases at0 <;> decide
  refine va_newa (D := D) (cl := vwCl) (ty := newarray.typeOf at0) (N' := len) (a0 := (len, rowE (newarray.typeOf at0) (fun _ => 0))) hx hb (hT.at hw args) rfl hK h5.2.2.2.1 h5.2.2.2.2 h6 (fun q hq => Nat.le_trans hbs hq) ?_ ?_ ?_ ?_ hcap.1 hcap.2 hd (fun a cA' H1 hK1 hP1 hD1 hS1 => ?_)
  · intro cA'
    rcases ht4 with h | h | h | h <;> rw [h] <;> rfl
  · intro h
    have := (of_lt hl4 i0).mp h
    omega
  · rw [of_clamp hl4]
    rfl
  · exact Nat.le_trans (Nat.mul_le_mul (Nat.le_of_lt hln) hcomp) (by decide)
  have ec : cA' = cA (newarray.typeOf at0) := by
    have hr1 := (hK1.2 4 _ rfl).2
    rcases ht4 with h | h | h | h
    · have hr2 := (hK.2 0 _ rfl).2
      rw [h] at hr1 ⊢
      exact Option.some.inj (hr1.symm.trans hr2)
    · have hr2 := (hK.2 1 _ rfl).2
      rw [h] at hr1 ⊢
      exact Option.some.inj (hr1.symm.trans hr2)
    · have hr2 := (hK.2 2 _ rfl).2
      rw [h] at hr1 ⊢
      exact Option.some.inj (hr1.symm.trans hr2)
    · have hr2 := (hK.2 3 _ rfl).2
      rw [h] at hr1 ⊢
      exact Option.some.inj (hr1.symm.trans hr2)
  subst ec
  have e9 : (.inl (cA (newarray.typeOf at0), len, rowE (newarray.typeOf at0) (fun _ => 0)) : va_E) = cellE cA sa (adU ad n a) (z2 iv n) (zr rv n) n := by
    rw [cell_a hs]
    have : z2 iv n n = fun _ => 0 := funext fun _ => z2_at
    rw [this]
  rw [e9] at hP1 hD1
  have h9 := kk (adU ad n a) H1 locs ls (agr.tr h2 h1 adU_agr) (by omega) (okL_mono (by omega) h3) (okL_cons.mpr ⟨fun z hz => by cases hz; exact Or.inl (by omega), okL_mono (by omega) h4a.2⟩) (Rel.push h5 hn hP1 hD1) hS1 (h7.agr (by omega) adU_agr h3)
  rw [List.map_cons, tv_R hn, tvs_agr (by omega) adU_agr h4a.2] at h9
  have : adU ad n a n = a := if_pos rfl
  rw [this] at h9
  exact h9
theorem sum_cat {sa ad : Nat → Nat} (S : List AV) : ((S.map (tv sa ad)).map fun v => v.category).sum ≤ 2 * S.length := by
  induction S with
  | nil => exact Nat.le_refl _
  | cons a S ih =>
    have h2 : (tv sa ad a).category ≤ 2 := by
      cases tv sa ad a <;> simp [Value.category]
    rw [List.map_cons, List.map_cons, List.sum_cons, List.length_cons]
    omega
theorem g_objInit {Γ : GX} {own : String} {cc : ByteArray} {nL d pc q : Nat} {L S : List AV} {n : Nat} {iv : IV} {rv : RV} {u v : Nat} {idx k : Nat} (X : Cx Γ own cc nL d) (hw : isW (.methodLink own idx Lib.objectInit) = true) (hw2 : isW (.instanceMethod Lib.objectInit) = true) (hw3 : isW (.code Lib.objectInit ⟨#[0xb1]⟩ 1 none) = true) (hd1 : 1 ≤ d) (hS : S.length ≤ 4) (hk : k < n) (hd : decode cc pc = .ok (.invokespecial idx, 3)) (hq : pc + 3 = q) (kk : G Γ nL q L S n iv rv u v) : G Γ nL pc L (aR (some k) :: S) n iv rv u v := by
  obtain ⟨p, l, e, R, s, m, args, below, meth, c, D, cA, sa, bs, ad0, n0, Q⟩ := Γ
  obtain ⟨hx, hb, hml, hown, hlk, hT, hK, hF, hbs, hfr, hlo⟩ := X
  intro ad H locs ls h1 h2 h3 h4 h5 h6 h7
  subst hq
  have h4a := okL_cons.mp h4
  have hn := h5.1
  have hsum := sum_cat (sa := sa) (ad := ad) S
  rw [List.map_cons, tv_R (by omega)]
  exact W.objInit hx hb hown (hT.at hw args) (hT.at hw2 args) (hT.at hw3 args) rfl (by rw [hml]; exact h7.1) rfl hd (by omega) (by show 2 * 0 + _ + 12 ≤ _; omega) (kk ad H locs ls h1 h2 h3 h4a.2 h5 h6 h7)
theorem Rel.callee {D : va_G} {cA : FieldType → ClassId} {sa : Nat → Nat} {bs : Nat} {ad : Nat → Nat} {n : Nat} {iv : IV} {rv : RV} {H : Heap} {s U : State} {locs : List Loc} {as : List AV} (hT : Tb s) (hK : va_K D vwCl (tys cA) s) (hF : SF bs sa s) (hbs : bs ≤ s.heap.size) (h5 : Rel D cA sa bs ad n iv rv H) (h6 : va_S (fun q => bs ≤ q) s.heap H locs) (has : okL n as) (hU : U.heap = H) (hW : s.WarmedH U.vm) : va_Pc (as.map (tv sa ad)) (PA D cA sa bs ad n iv rv as) (as.map (tv sa ad)).toArray U := by
  refine ⟨rfl, has, by rw [hU]; exact h5, hT.warm hW, va_K.moved hW.alike hK, hF.go hW (fun a ha hq => by rw [hU]; exact h6.2.1 a ha hq), by rw [hU]; exact Nat.le_trans hbs h6.1⟩
theorem g_run {p : Program} {l : Launch} {e : Env} {R : Room} {s : State} {m : MethodId} {args : Array Value} {below : List Frame} {meth : Method} {c : Code} {H : Heap} {locs : List Loc} {u v : Nat} {Q : State → Prop} {D : va_G} {cA : FieldType → ClassId} {sa : Nat → Nat} {bs : Nat} {ad : Nat → Nat} {n pc mc ms : Nat} {ls : Array Slot} {rest st0 : List Value} {a : Array Value} {Φ : Option AV → Nat → IV → RV → Prop}
    (hr : va_Run p l e R s m args below meth c H locs u v mc ms (F0 m pc ls st0) rest (QA D cA sa bs ad n Φ a) (fun q => bs ≤ q)) (h6 : va_S (fun q => bs ≤ q) s.heap H locs)
    (kk : ∀ (r : Option AV) (n' : Nat) (iv' : IV) (rv' : RV) (ad' : Nat → Nat) (H1 : Heap) (locs1 : List Loc), Φ r n' iv' rv' → agr n ad ad' → n ≤ n' → (∀ a, r = some a → okA n' a) → Rel D cA sa bs ad' n' iv' rv' H1 → va_S (fun q => bs ≤ q) s.heap H1 locs1 → W p l e R s m args below meth c H1 locs1 (u + mc) (v + ms) Q (F0 m (pc + 3) ls ((r.map (tv sa ad')).toList ++ rest))) : W p l e R s m args below meth c H locs u v Q (F0 m pc ls st0) := by
  intro T hT X
  obtain ⟨v0, st₀, t, T', L, h0, X', hL, e1, e2, ⟨⟨r, n', iv', rv', ad', hΦ, hv, hag, hnn, hok, hrel⟩, hz, hk⟩, st⟩ := hr T hT X
  cases hv
  rw [h0] at hz hk
  have hS1 : va_S (fun q => bs ≤ q) s.heap T'.heap (locs ++ L) := by
    refine ⟨Nat.le_trans h6.1 (by rw [e1]; exact hz), fun q g1 g2 => ?_, fun q hq => ?_⟩
    · rw [e1, hk q (Nat.lt_of_lt_of_le g1 h6.1) g2]
      exact h6.2.1 q g1 g2
    · rcases List.mem_append.mp hq with h | h
      · exact h6.2.2 q h
      · exact hL q h
  obtain ⟨t2, a1, b1⟩ := kk r n' iv' rv' ad' T'.heap (locs ++ L) hΦ hag hnn hok (by rw [e1]; exact hrel) hS1 T' rfl X'
  exact ⟨t2, st t2 a1, b1⟩
/-- a call's words, by program -/
def lkM (own : String) (idx : Nat) (y : MethodName) (cc : ByteArray) (maxL : Nat) (ret : Option FieldType) (np : Nat) : Bool :=
  isW (.methodLink own idx y) && (isW (.code y cc maxL ret) && (isW (.initialized y.cls) && (decide (y.cls ≠ "java/lang/invoke/MethodHandle" ∧ y.cls ≠ "java/lang/invoke/VarHandle") && (decide ((parseMethodDescriptor y.desc).map (fun d => d.parameters.length) = some np) && decide (maxL ≤ 17)))))
theorem lkM_use {R : Room} {s : State} {args : Array Value} {own : String} {idx : Nat} {y : MethodName} {cc : ByteArray} {maxL : Nat} {ret : Option FieldType} {np d d' mc ms : Nat} (h : lkM own idx y cc maxL ret np = true) (hT : Tb s) (hfr : d ≤ R.frames) (hlo : 36 * d ≤ R.locals) (hd : d' + 1 ≤ d) : CallB R s args own idx y cc maxL ret [Cond.code y cc maxL ret] (rmA d' mc ms) mc ms np := by
  simp only [lkM, Bool.and_eq_true, decide_eq_true_eq] at h
  obtain ⟨h1, h2, h3, h4, h5, h6⟩ := h
  refine ⟨rfl, rfl, by show d' + 1 ≤ _; omega, by show 8 + (maxL + 11) + 36 * d' ≤ _; omega, fun w hw a' U hW => ?_, List.mem_cons_self, hT.at h2 args, hT.at h3 args, h4, fun sig hsig => ?_, hT.at h1 args⟩
  · rcases List.mem_cons.mp hw with rfl | hw
    · exact (hT.warm hW).at h2 a'
    · cases hw
  · rw [hsig] at h5
    exact (Option.some.inj h5).symm
theorem g_callV {Γ : GX} {own : String} {cc : ByteArray} {nL d pc q : Nat} {L S : List AV} {n : Nat} {iv : IV} {rv : RV} {u v : Nat} {idx np d' mc ms : Nat} {y : MethodName} {c9 : ByteArray} {maxL : Nat} {ret : Option FieldType} {Φ : Option AV → Nat → IV → RV → Prop} {S0 : List AV} (as : List AV) {k : Nat} (ci : Nat) (X : Cx Γ own cc nL d) (hC : Call d' mc ms y c9 maxL ret (aR (some k) :: as) n iv rv Φ) (hl : lkM own idx y c9 maxL ret np = true) (hl2 : isW (.instanceMethod y) = true) (hl3 : isW (.selects (cR ci) y y) = true) (hci : ci < 13) (hs : sh k = .inl ci) (hk : k < n) (hnp : as.length = np) (hst : S0 = as.reverse ++ aR (some k) :: S) (hS : S.length ≤ 4) (hdd : d' + 1 ≤ d) (hcap : Cap Γ (u + mc) (v + ms)) (hd : decode cc pc = .ok (.invokevirtual idx, 3)) (hq : pc + 3 = q) (kk : ∀ (r : Option AV) (n' : Nat) (iv' : IV) (rv' : RV), Φ r n' iv' rv' → n ≤ n' → G Γ nL q L (r.toList ++ S) n' iv' rv' (u + mc) (v + ms)) : G Γ nL pc L S0 n iv rv u v := by
  obtain ⟨p, l, e, R, s, m, args, below, meth, c, D, cA, sa, bs, ad0, n0, Q⟩ := Γ
  obtain ⟨hx, hb, hml, hown, hlk, hT, hK, hF, hbs, hfr, hlo⟩ := X
  intro ad H locs ls h1 h2 h3 h4 h5 h6 h7
  subst hq hst
  have hn := h5.1
  have h4r : okL n S := fun a ha => h4 a (List.mem_append_right _ (List.mem_cons_of_mem _ ha))
  have has : okL n (aR (some k) :: as) := okL_cons.mpr ⟨fun z hz => by cases hz; exact Or.inl hk, fun a ha => h4 a (List.mem_append_left _ (List.mem_reverse.mpr ha))⟩
  have hsum := sum_cat (sa := sa) (ad := ad) S
  have he := wl_at (cA := cA) (sa := sa) (ad := ad) (iv := iv) (rv := rv) hk
  rw [cell_o hs] at he
  have hrun := va_runV (g := F0 m pc ls ((as.reverse ++ aR (some k) :: S).map (tv sa ad))) (As := as.map (tv sa ad)) (rest := S.map (tv sa ad)) (e := e) (below := below) (meth := meth) (b := ad k) (C := cR ci) (locs := locs) (cells := u) (slots := v) ⟨hx, hb, hml, hown, fun w (hw : w ∈ ([] : List Cond)) => absurd hw List.not_mem_nil⟩ (hC l D cA sa bs ad) ⟨lkM_use hl hT hfr hlo hdd, hT.at hl2 args, hT.at hl3 args⟩
    ⟨PA.blind, va_recv hK h5.2.2.2.1 (cl_at ci hci) he, fun U hU hW => by have h9 := Rel.callee hT hK hF hbs h5 h6 has hU hW; rw [List.map_cons, tv_R (by omega)] at h9; rw [List.map_cons, tv_R (by omega)]; exact h9⟩ rfl (by rw [List.length_map]; exact hnp) h7.1 (by show (as.reverse ++ aR (some k) :: S).map (tv sa ad) = _; rw [List.map_append, List.map_reverse, List.map_cons, tv_R (by omega)]) (lv_room (by omega)) hd hcap
  refine g_run hrun h6 ?_
  intro r n' iv' rv' ad' H1 locs1 hΦ hag hnn hok hrel hS1
  have h9 := kk r n' iv' rv' hΦ hnn ad' H1 locs1 ls (agr.tr h2 h1 hag) (Nat.le_trans h2 hnn) (okL_mono hnn h3) (by
    cases r with
    | none => exact okL_mono hnn h4r
    | some a => exact okL_cons.mpr ⟨hok a rfl, okL_mono hnn h4r⟩) hrel hS1 (h7.agr h5.1 hag h3)
  have e9 : (r.toList ++ S).map (tv sa ad') = (r.map (tv sa ad')).toList ++ S.map (tv sa ad) := by
    rw [List.map_append, tvs_agr h5.1 hag h4r]
    cases r <;> rfl
  rw [e9] at h9
  exact h9
theorem g_callS {Γ : GX} {own : String} {cc : ByteArray} {nL d pc q : Nat} {L S : List AV} {n : Nat} {iv : IV} {rv : RV} {u v : Nat} {idx np d' mc ms : Nat} {y : MethodName} {c9 : ByteArray} {maxL : Nat} {ret : Option FieldType} {Φ : Option AV → Nat → IV → RV → Prop} {S0 : List AV} (as : List AV) (X : Cx Γ own cc nL d) (hC : Call d' mc ms y c9 maxL ret as n iv rv Φ) (hl : lkM own idx y c9 maxL ret np = true) (hl2 : isW (.static y) = true) (hnp : as.length = np) (hst : S0 = as.reverse ++ S) (hS : S.length ≤ 4) (hdd : d' + 1 ≤ d) (hcap : Cap Γ (u + mc) (v + ms)) (hd : decode cc pc = .ok (.invokestatic idx, 3)) (hq : pc + 3 = q) (kk : ∀ (r : Option AV) (n' : Nat) (iv' : IV) (rv' : RV), Φ r n' iv' rv' → n ≤ n' → G Γ nL q L (r.toList ++ S) n' iv' rv' (u + mc) (v + ms)) : G Γ nL pc L S0 n iv rv u v := by
  obtain ⟨p, l, e, R, s, m, args, below, meth, c, D, cA, sa, bs, ad0, n0, Q⟩ := Γ
  obtain ⟨hx, hb, hml, hown, hlk, hT, hK, hF, hbs, hfr, hlo⟩ := X
  intro ad H locs ls h1 h2 h3 h4 h5 h6 h7
  subst hq hst
  have hn := h5.1
  have h4r : okL n S := fun a ha => h4 a (List.mem_append_right _ ha)
  have has : okL n as := fun a ha => h4 a (List.mem_append_left _ (List.mem_reverse.mpr ha))
  have hsum := sum_cat (sa := sa) (ad := ad) S
  have hrun := va_runS (g := F0 m pc ls ((as.reverse ++ S).map (tv sa ad))) (As := as.map (tv sa ad)) (rest := S.map (tv sa ad)) (e := e) (below := below) (meth := meth) (locs := locs) (cells := u) (slots := v) (H := H) ⟨hx, hb, hml, hown, fun w (hw : w ∈ ([] : List Cond)) => absurd hw List.not_mem_nil⟩ (hC l D cA sa bs ad) ⟨lkM_use hl hT hfr hlo hdd, hT.at hl2 args⟩
    ⟨PA.blind, fun U hU hW => Rel.callee hT hK hF hbs h5 h6 has hU hW⟩ rfl (by rw [List.length_map]; exact hnp) h7.1 (by show (as.reverse ++ S).map (tv sa ad) = _; rw [List.map_append, List.map_reverse]) (lv_room (by omega)) hd hcap
  refine g_run hrun h6 ?_
  intro r n' iv' rv' ad' H1 locs1 hΦ hag hnn hok hrel hS1
  have h9 := kk r n' iv' rv' hΦ hnn ad' H1 locs1 ls (agr.tr h2 h1 hag) (Nat.le_trans h2 hnn) (okL_mono hnn h3) (by
    cases r with
    | none => exact okL_mono hnn h4r
    | some a => exact okL_cons.mpr ⟨hok a rfl, okL_mono hnn h4r⟩) hrel hS1 (h7.agr h5.1 hag h3)
  have e9 : (r.toList ++ S).map (tv sa ad') = (r.map (tv sa ad')).toList ++ S.map (tv sa ad) := by
    rw [List.map_append, tvs_agr h5.1 hag h4r]
    cases r <;> rfl
  rw [e9] at h9
  exact h9
def lkN (own : String) (idx : Nat) (y : MethodName) (host : String) (cc : ByteArray) (maxL : Nat) (np : Nat) : Bool :=
  isW (.methodLinkNest own idx y host) && (isW (.code y cc maxL none) && (isW (.initialized y.cls) && (decide (y.cls ≠ "java/lang/invoke/MethodHandle" ∧ y.cls ≠ "java/lang/invoke/VarHandle") && (decide ((parseMethodDescriptor y.desc).map (fun d => d.parameters.length) = some np) && decide (maxL ≤ 17)))))
theorem lkN_use {R : Room} {s : State} {args : Array Value} {own host : String} {idx : Nat} {y : MethodName} {cc : ByteArray} {maxL : Nat} {np d d' mc ms : Nat} (h : lkN own idx y host cc maxL np = true) (hT : Tb s) (hfr : d ≤ R.frames) (hlo : 36 * d ≤ R.locals) (hd : d' + 1 ≤ d) : va_CN R s args own idx y host cc maxL none [Cond.code y cc maxL none] (rmA d' mc ms) mc ms np := by
  simp only [lkN, Bool.and_eq_true, decide_eq_true_eq] at h
  obtain ⟨h1, h2, h3, h4, h5, h6⟩ := h
  refine ⟨⟨rfl, rfl, by show d' + 1 ≤ _; omega, by show 8 + (maxL + 11) + 36 * d' ≤ _; omega, fun w hw a' U hW => ?_, List.mem_cons_self⟩, hT.at h2 args, hT.at h3 args, h4, fun sig hsig => ?_, hT.at h1 args⟩
  · rcases List.mem_cons.mp hw with rfl | hw
    · exact (hT.warm hW).at h2 a'
    · cases hw
  · rw [hsig] at h5
    exact (Option.some.inj h5).symm
theorem g_callI {Γ : GX} {own : String} {cc : ByteArray} {nL d pc q : Nat} {L S : List AV} {n : Nat} {iv : IV} {rv : RV} {u v : Nat} {idx np d' mc ms : Nat} {y : MethodName} {c9 : ByteArray} {maxL : Nat} {Φ : Option AV → Nat → IV → RV → Prop} {S0 : List AV} (as : List AV) {k : Nat} (X : Cx Γ own cc nL d) (hC : Call d' mc ms y c9 maxL none (aR (some k) :: as) n iv rv Φ) (hl : lkM own idx y c9 maxL none np = true) (hy : y.name = "<init>") (hl2 : isW (.instanceMethod y) = true) (hk : k < n) (hnp : as.length = np) (hst : S0 = as.reverse ++ aR (some k) :: S) (hS : S.length ≤ 4) (hdd : d' + 1 ≤ d) (hcap : Cap Γ (u + mc) (v + ms)) (hd : decode cc pc = .ok (.invokespecial idx, 3)) (hq : pc + 3 = q) (kk : ∀ (r : Option AV) (n' : Nat) (iv' : IV) (rv' : RV), Φ r n' iv' rv' → n ≤ n' → G Γ nL q L (r.toList ++ S) n' iv' rv' (u + mc) (v + ms)) : G Γ nL pc L S0 n iv rv u v := by
  obtain ⟨p, l, e, R, s, m, args, below, meth, c, D, cA, sa, bs, ad0, n0, Q⟩ := Γ
  obtain ⟨hx, hb, hml, hown, hlk, hT, hK, hF, hbs, hfr, hlo⟩ := X
  intro ad H locs ls h1 h2 h3 h4 h5 h6 h7
  subst hq hst
  have hn := h5.1
  have h4r : okL n S := fun a ha => h4 a (List.mem_append_right _ (List.mem_cons_of_mem _ ha))
  have has : okL n (aR (some k) :: as) := okL_cons.mpr ⟨fun z hz => by cases hz; exact Or.inl hk, fun a ha => h4 a (List.mem_append_left _ (List.mem_reverse.mpr ha))⟩
  have hsum := sum_cat (sa := sa) (ad := ad) S
  have hrun := va_runI (g := F0 m pc ls ((as.reverse ++ aR (some k) :: S).map (tv sa ad))) (As := as.map (tv sa ad)) (rest := S.map (tv sa ad)) (e := e) (below := below) (meth := meth) (b := ad k) (locs := locs) (cells := u) (slots := v) (H := H) ⟨hx, hb, hml, hown, fun w (hw : w ∈ ([] : List Cond)) => absurd hw List.not_mem_nil⟩ (hC l D cA sa bs ad) ⟨lkM_use hl hT hfr hlo hdd, hy, hT.at hl2 args⟩
    ⟨PA.blind, fun U hU hW => by have h9 := Rel.callee hT hK hF hbs h5 h6 has hU hW; rw [List.map_cons, tv_R (by omega)] at h9; rw [List.map_cons, tv_R (by omega)]; exact h9⟩ rfl (by rw [List.length_map]; exact hnp) h7.1 (by show (as.reverse ++ aR (some k) :: S).map (tv sa ad) = _; rw [List.map_append, List.map_reverse, List.map_cons, tv_R (by omega)]) (lv_room (by omega)) hd hcap
  refine g_run hrun h6 ?_
  intro r n' iv' rv' ad' H1 locs1 hΦ hag hnn hok hrel hS1
  have h9 := kk r n' iv' rv' hΦ hnn ad' H1 locs1 ls (agr.tr h2 h1 hag) (Nat.le_trans h2 hnn) (okL_mono hnn h3) (by
    cases r with
    | none => exact okL_mono hnn h4r
    | some a => exact okL_cons.mpr ⟨hok a rfl, okL_mono hnn h4r⟩) hrel hS1 (h7.agr h5.1 hag h3)
  have e9 : (r.toList ++ S).map (tv sa ad') = (r.map (tv sa ad')).toList ++ S.map (tv sa ad) := by
    rw [List.map_append, tvs_agr h5.1 hag h4r]
    cases r <;> rfl
  rw [e9] at h9
  exact h9
theorem g_callIN {Γ : GX} {own : String} {cc : ByteArray} {nL d pc q : Nat} {L S : List AV} {n : Nat} {iv : IV} {rv : RV} {u v : Nat} {idx np d' mc ms : Nat} {y : MethodName} {c9 : ByteArray} {maxL : Nat} {Φ : Option AV → Nat → IV → RV → Prop} {S0 : List AV} (as : List AV) {k : Nat} {host : String} (X : Cx Γ own cc nL d) (hC : Call d' mc ms y c9 maxL none (aR (some k) :: as) n iv rv Φ) (hl : lkN own idx y host c9 maxL np = true) (hy : y.name = "<init>") (hl2 : isW (.instanceMethod y) = true) (hk : k < n) (hnp : as.length = np) (hst : S0 = as.reverse ++ aR (some k) :: S) (hS : S.length ≤ 4) (hdd : d' + 1 ≤ d) (hcap : Cap Γ (u + mc) (v + ms)) (hd : decode cc pc = .ok (.invokespecial idx, 3)) (hq : pc + 3 = q) (kk : ∀ (r : Option AV) (n' : Nat) (iv' : IV) (rv' : RV), Φ r n' iv' rv' → n ≤ n' → G Γ nL q L (r.toList ++ S) n' iv' rv' (u + mc) (v + ms)) : G Γ nL pc L S0 n iv rv u v := by
  obtain ⟨p, l, e, R, s, m, args, below, meth, c, D, cA, sa, bs, ad0, n0, Q⟩ := Γ
  obtain ⟨hx, hb, hml, hown, hlk, hT, hK, hF, hbs, hfr, hlo⟩ := X
  intro ad H locs ls h1 h2 h3 h4 h5 h6 h7
  subst hq hst
  have hn := h5.1
  have h4r : okL n S := fun a ha => h4 a (List.mem_append_right _ (List.mem_cons_of_mem _ ha))
  have has : okL n (aR (some k) :: as) := okL_cons.mpr ⟨fun z hz => by cases hz; exact Or.inl hk, fun a ha => h4 a (List.mem_append_left _ (List.mem_reverse.mpr ha))⟩
  have hsum := sum_cat (sa := sa) (ad := ad) S
  have hrun := va_runIN (g := F0 m pc ls ((as.reverse ++ aR (some k) :: S).map (tv sa ad))) (As := as.map (tv sa ad)) (rest := S.map (tv sa ad)) (e := e) (below := below) (meth := meth) (b := ad k) (locs := locs) (cells := u) (slots := v) (H := H) ⟨hx, hb, hml, hown, fun w (hw : w ∈ ([] : List Cond)) => absurd hw List.not_mem_nil⟩ (hC l D cA sa bs ad) ⟨lkN_use hl hT hfr hlo hdd, hy, hT.at hl2 args⟩
    ⟨PA.blind, fun U hU hW => by have h9 := Rel.callee hT hK hF hbs h5 h6 has hU hW; rw [List.map_cons, tv_R (by omega)] at h9; rw [List.map_cons, tv_R (by omega)]; exact h9⟩ rfl (by rw [List.length_map]; exact hnp) h7.1 (by show (as.reverse ++ aR (some k) :: S).map (tv sa ad) = _; rw [List.map_append, List.map_reverse, List.map_cons, tv_R (by omega)]) (lv_room (by omega)) hd hcap
  refine g_run hrun h6 ?_
  intro r n' iv' rv' ad' H1 locs1 hΦ hag hnn hok hrel hS1
  have h9 := kk r n' iv' rv' hΦ hnn ad' H1 locs1 ls (agr.tr h2 h1 hag) (Nat.le_trans h2 hnn) (okL_mono hnn h3) (by
    cases r with
    | none => exact okL_mono hnn h4r
    | some a => exact okL_cons.mpr ⟨hok a rfl, okL_mono hnn h4r⟩) hrel hS1 (h7.agr h5.1 hag h3)
  have e9 : (r.toList ++ S).map (tv sa ad') = (r.map (tv sa ad')).toList ++ S.map (tv sa ad) := by
    rw [List.map_append, tvs_agr h5.1 hag h4r]
    cases r <;> rfl
  rw [e9] at h9
  exact h9
theorem g_vret {Γ : GX} {own : String} {cc : ByteArray} {nL d pc q : Nat} {L S : List AV} {n : Nat} {iv : IV} {rv : RV} {u v : Nat} {Φ : Option AV → Nat → IV → RV → Prop} (X : Cx Γ own cc nL d) (hR : Rt Γ none u v Φ) (hd : decode cc pc = .ok (.return_, 1)) (hS : S = []) (hΦ : Φ none n iv rv) : G Γ nL pc L S n iv rv u v := by
  obtain ⟨p, l, e, R, s, m, args, below, meth, c, D, cA, sa, bs, ad0, n0, Q⟩ := Γ
  obtain ⟨hx, hb, hml, hown, hlk, hT, hK, hF, hbs, hfr, hlo⟩ := X
  intro ad H locs ls h1 h2 h3 h4 h5 h6 h7
  subst hS
  obtain ⟨hret, rfl⟩ := hR
  have hq9 : ∀ t : State, t.heap = H → s.WarmedH t.vm → QA D cA sa bs ad0 n0 Φ args s (.returned (none)) t := fun t ht _ => ⟨⟨none, n, iv, rv, ad, hΦ, rfl, h1, h2, (fun a ha => by cases ha), by rw [ht]; exact h5⟩, h6.F ht⟩
  exact W.vret hx hb hret hq9 h6.2.2 hd hlk
theorem g_iret {Γ : GX} {own : String} {cc : ByteArray} {nL d pc q : Nat} {L S : List AV} {n : Nat} {iv : IV} {rv : RV} {u v : Nat} {Φ : Option AV → Nat → IV → RV → Prop} {x : Int} (X : Cx Γ own cc nL d) (hR : Rt Γ (some .int) u v Φ) (hd : decode cc pc = .ok (.ireturn, 1)) (hS : S = []) (hΦ : Φ (some (aI x)) n iv rv) : G Γ nL pc L (aI x :: S) n iv rv u v := by
  obtain ⟨p, l, e, R, s, m, args, below, meth, c, D, cA, sa, bs, ad0, n0, Q⟩ := Γ
  obtain ⟨hx, hb, hml, hown, hlk, hT, hK, hF, hbs, hfr, hlo⟩ := X
  intro ad H locs ls h1 h2 h3 h4 h5 h6 h7
  subst hS
  have h4a := okL_cons.mp h4
  obtain ⟨hret, rfl⟩ := hR
  have hq9 : ∀ t : State, t.heap = H → s.WarmedH t.vm → QA D cA sa bs ad0 n0 Φ args s (.returned (some (.int (Int32.ofInt x)))) t := fun t ht _ => ⟨⟨some (aI x), n, iv, rv, ad, hΦ, rfl, h1, h2, (fun a ha => by cases ha; exact h4a.1), by rw [ht]; exact h5⟩, h6.F ht⟩
  exact W.iret hx hb hret hq9 h6.2.2 hd hlk
theorem g_zret {Γ : GX} {own : String} {cc : ByteArray} {nL d pc q : Nat} {L S : List AV} {n : Nat} {iv : IV} {rv : RV} {u v : Nat} {Φ : Option AV → Nat → IV → RV → Prop} {x : Int} (ty : FieldType) (X : Cx Γ own cc nL d) (hR : Rt Γ (some ty) u v Φ) (hn : narrow ty (.int (Int32.ofInt x)) = .int (Int32.ofInt x)) (hd : decode cc pc = .ok (.ireturn, 1)) (hS : S = []) (hΦ : Φ (some (aI x)) n iv rv) : G Γ nL pc L (aI x :: S) n iv rv u v := by
  obtain ⟨p, l, e, R, s, m, args, below, meth, c, D, cA, sa, bs, ad0, n0, Q⟩ := Γ
  obtain ⟨hx, hb, hml, hown, hlk, hT, hK, hF, hbs, hfr, hlo⟩ := X
  intro ad H locs ls h1 h2 h3 h4 h5 h6 h7
  subst hS
  have h4a := okL_cons.mp h4
  obtain ⟨hret, rfl⟩ := hR
  have hq9 : ∀ t : State, t.heap = H → s.WarmedH t.vm → QA D cA sa bs ad0 n0 Φ args s (.returned (some (.int (Int32.ofInt x)))) t := fun t ht _ => ⟨⟨some (aI x), n, iv, rv, ad, hΦ, rfl, h1, h2, (fun a ha => by cases ha; exact h4a.1), by rw [ht]; exact h5⟩, h6.F ht⟩
  exact W.zret hx hb hret hn hq9 h6.2.2 hd hlk
theorem g_lret {Γ : GX} {own : String} {cc : ByteArray} {nL d pc q : Nat} {L S : List AV} {n : Nat} {iv : IV} {rv : RV} {u v : Nat} {Φ : Option AV → Nat → IV → RV → Prop} {x : Int} (X : Cx Γ own cc nL d) (hR : Rt Γ (some .long) u v Φ) (hd : decode cc pc = .ok (.lreturn, 1)) (hS : S = []) (hΦ : Φ (some (aL x)) n iv rv) : G Γ nL pc L (aL x :: S) n iv rv u v := by
  obtain ⟨p, l, e, R, s, m, args, below, meth, c, D, cA, sa, bs, ad0, n0, Q⟩ := Γ
  obtain ⟨hx, hb, hml, hown, hlk, hT, hK, hF, hbs, hfr, hlo⟩ := X
  intro ad H locs ls h1 h2 h3 h4 h5 h6 h7
  subst hS
  have h4a := okL_cons.mp h4
  obtain ⟨hret, rfl⟩ := hR
  have hq9 : ∀ t : State, t.heap = H → s.WarmedH t.vm → QA D cA sa bs ad0 n0 Φ args s (.returned (some (.long (Int64.ofInt x)))) t := fun t ht _ => ⟨⟨some (aL x), n, iv, rv, ad, hΦ, rfl, h1, h2, (fun a ha => by cases ha; exact h4a.1), by rw [ht]; exact h5⟩, h6.F ht⟩
  exact W.lret hx hb hret hq9 h6.2.2 hd hlk
theorem g_aret {Γ : GX} {own : String} {cc : ByteArray} {nL d pc q : Nat} {L S : List AV} {n : Nat} {iv : IV} {rv : RV} {u v : Nat} {Φ : Option AV → Nat → IV → RV → Prop} {r : Option Nat} {rt : String} (X : Cx Γ own cc nL d) (hR : Rt Γ (some (.object rt)) u v Φ) (hd : decode cc pc = .ok (.areturn, 1)) (hS : S = []) (hΦ : Φ (some (aR r)) n iv rv) : G Γ nL pc L (aR r :: S) n iv rv u v := by
  obtain ⟨p, l, e, R, s, m, args, below, meth, c, D, cA, sa, bs, ad0, n0, Q⟩ := Γ
  obtain ⟨hx, hb, hml, hown, hlk, hT, hK, hF, hbs, hfr, hlo⟩ := X
  intro ad H locs ls h1 h2 h3 h4 h5 h6 h7
  subst hS
  have h4a := okL_cons.mp h4
  obtain ⟨hret, rfl⟩ := hR
  have hq9 : ∀ t : State, t.heap = H → s.WarmedH t.vm → QA D cA sa bs ad0 n0 Φ args s (.returned (some (tv sa ad (aR r)))) t := fun t ht _ => ⟨⟨some (aR r), n, iv, rv, ad, hΦ, rfl, h1, h2, (fun a ha => by cases ha; exact h4a.1), by rw [ht]; exact h5⟩, h6.F ht⟩
  exact W.aret hx hb hret (Or.inl ⟨_, rfl⟩) (by cases r; exact Or.inl rfl; exact Or.inr ⟨_, rfl⟩) hq9 h6.2.2 hd hlk
theorem lArgs_args {sa ad : Nat → Nat} : ∀ (as : List AV), (∀ a ∈ as, nj a) → ∀ (i0 j : Nat) (a : AV), (lArgs as)[j]? = some a → nj a → (i0 + j, tv sa ad a) ∈ lv_args i0 (as.map (tv sa ad))
  | [], _, i0, j, a, h, _ => by simp [lArgs] at h
  | b :: as, hb, i0, j, a, h, hj => by
    have ih := lArgs_args (sa := sa) (ad := ad) as (fun x hx => hb x (List.mem_cons_of_mem _ hx))
    rw [List.map_cons]
    rcases b with x | x | r | w
    · cases j with
      | zero => cases h; exact List.mem_cons_self
      | succ j =>
        refine List.mem_cons_of_mem _ ?_
        have h9 := ih (i0 + 1) j a h hj
        rw [show i0 + (j + 1) = i0 + 1 + j by omega]
        exact h9
    · cases j with
      | zero => cases h; exact List.mem_cons_self
      | succ j =>
        cases j with
        | zero => cases h; exact hj.elim
        | succ j =>
          refine List.mem_cons_of_mem _ ?_
          have h9 := ih (i0 + 2) j a h hj
          rw [show i0 + (j + 1 + 1) = i0 + 2 + j by omega]
          exact h9
    · cases j with
      | zero => cases h; exact List.mem_cons_self
      | succ j =>
        refine List.mem_cons_of_mem _ ?_
        have h9 := ih (i0 + 1) j a h hj
        rw [show i0 + (j + 1) = i0 + 1 + j by omega]
        cases r with
        | none => exact h9
        | some q => exact h9
    · exact (hb _ List.mem_cons_self).elim
theorem okL_lArgs {n : Nat} : ∀ (as : List AV), okL n as → okL n (lArgs as)
  | [], _ => fun a ha => by cases ha
  | b :: as, h => by
    have h1 := okL_cons.mp h
    have ih := okL_lArgs as h1.2
    rcases b with x | x | r | w
    · exact okL_cons.mpr ⟨h1.1, ih⟩
    · exact okL_cons.mpr ⟨h1.1, okL_cons.mpr ⟨trivial, ih⟩⟩
    · exact okL_cons.mpr ⟨h1.1, ih⟩
    · exact okL_cons.mpr ⟨h1.1, ih⟩
theorem lg_len {sa ad : Nat → Nat} : ∀ (as : List AV), (lg_sl (as.map (tv sa ad))).length = (lArgs as).length
  | [] => rfl
  | b :: as => by
    have ih := lg_len (sa := sa) (ad := ad) as
    rw [List.map_cons]
    have e : ∀ w, lg_sl (w :: as.map (tv sa ad)) = (if w.category = 2 then [Slot.val w, .second] else [Slot.val w]) ++ lg_sl (as.map (tv sa ad)) := fun w => by unfold lg_sl; rw [List.flatMap_cons]
    rw [e, List.length_append, ih]
    rcases b with x | x | r | w
    · show 1 + _ = (lArgs as).length + 1
      omega
    · show 2 + _ = (lArgs as).length + 2
      omega
    · cases r <;> (show 1 + _ = (lArgs as).length + 1; omega)
    · show 1 + _ = (lArgs as).length + 1
      omega
/-- a method's contract out of a walk of its body -/
theorem Call.of {d mc ms : Nat} {y : MethodName} {own : String} {cc : ByteArray} {maxL : Nat} {ret : Option FieldType} {as : List AV} {n : Nat} {iv : IV} {rv : RV} {Φ : Option AV → Nat → IV → RV → Prop} {L : List AV} (hy : plainName y.cls = true) (hyo : y.cls = own) (hnj : ∀ a ∈ as, nj a) (hL : lArgs as ++ List.replicate (maxL - (lArgs as).length) aJ = L) (hlen : (lArgs as).length ≤ maxL)
    (body : ∀ Γ : GX, Cx Γ own cc maxL d → Rt Γ ret mc ms Φ → (y.name = "<init>" → Ini Γ) → (∀ u v, u ≤ mc → v ≤ ms → Cap Γ u v) → G Γ maxL 0 L [] n iv rv 0 0) : Call d mc ms y cc maxL ret as n iv rv Φ := by
  intro l D cA sa bs ad
  refine Met.ofW (cc := cc) (maxL := maxL) (ret := ret) hy rfl ?_
  intro p e s m args below meth c s₁ B hml hv
  obtain ⟨rfl, hok, hrel, hT, hK, hF, hbs⟩ := hv
  have hown : s.vm.findClass own = some m.cls := by rw [← hyo]; exact findClass_of_methodNamed B.named
  have h9 := body (p, l, e, (headSpec [Cond.code y cc maxL ret] (rmA d mc ms)).room, s, m, (as.map (tv sa ad)).toArray, below, meth, c, D, cA, sa, bs, ad, n, MQ below (QA D cA sa bs ad n Φ) (as.map (tv sa ad)).toArray s mc ms (fun q => bs ≤ q))
    ⟨B.exec, B.bytes, hml, hown, B.notSynchronized, hT, hK, hF, hbs, Nat.le_refl _, Nat.le_refl _⟩ ⟨B.returns, rfl⟩ (fun h => by show meth.name = "<init>"; rw [(name_of_methodNamed B.named B.method).1]; exact h) (fun u v hu hv => ⟨hu, hv⟩)
  have hl := lv_entry (as.map (tv sa ad)) (n := maxL) (by rw [lg_len]; exact hlen)
  rw [lg_entry_eq]
  refine h9 ad s.heap [] _ agr.rf (Nat.le_refl _) ?_ (fun a ha => by cases ha) hrel va_S.rf ⟨hl.1, hl.2.1, fun i a ha hj => ?_⟩
  · subst hL
    intro a ha
    rcases List.mem_append.mp ha with h | h
    · exact okL_lArgs as hok a h
    · rw [(List.mem_replicate.mp h).2]; exact trivial
  · subst hL
    by_cases hi : i < (lArgs as).length
    · rw [List.getElem?_append_left hi] at ha
      have h8 := lArgs_args (sa := sa) (ad := ad) as hnj 0 i a ha hj
      rw [Nat.zero_add] at h8
      exact hl.2.2 _ h8
    · rw [List.getElem?_append_right (by omega)] at ha
      have h8 := List.mem_of_getElem? ha
      rw [(List.mem_replicate.mp h8).2] at hj
      exact hj.elim
