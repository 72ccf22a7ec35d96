/-! MEMORY: fields, rows -/
def w2 (iv : IV) (k j : Nat) (x : Int) : IV := fun a b => if a = k ∧ b = j then x else iv a b
def r2 (rv : RV) (k j : Nat) (r : Option Nat) : RV := fun a b => if a = k ∧ b = j then r else rv a b
theorem w2_eq {iv : IV} {k j : Nat} {x : Int} : w2 iv k j x k j = x := if_pos ⟨rfl, rfl⟩
theorem w2_ne {iv : IV} {k j a b : Nat} {x : Int} (h : ¬ (a = k ∧ b = j)) : w2 iv k j x a b = iv a b := if_neg h
theorem w2_row {iv : IV} {k j a : Nat} {x : Int} (h : a ≠ k) : w2 iv k j x a = iv a := funext fun b => if_neg fun q => h q.1
theorem r2_eq {rv : RV} {k j : Nat} {x : Option Nat} : r2 rv k j x k j = x := if_pos ⟨rfl, rfl⟩
theorem r2_ne {rv : RV} {k j a b : Nat} {x : Option Nat} (h : ¬ (a = k ∧ b = j)) : r2 rv k j x a b = rv a b := if_neg h
theorem r2_row {rv : RV} {k j a : Nat} {x : Option Nat} (h : a ≠ k) : r2 rv k j x a = rv a := funext fun b => if_neg fun q => h q.1
def tyI (ty : FieldType) : Bool := match ty with
  | .int => true
  | .boolean => true
  | .byte => true
  | _ => false
def tyR (ty : FieldType) : Bool := match ty with
  | .object _ => true
  | .array _ => true
  | _ => false
theorem fv_I {sa ad : Nat → Nat} {ty : FieldType} {i : Int} {r : Option Nat} (h : tyI ty = true) : fv sa ad ty i r = .int (Int32.ofInt i) := by cases ty <;> first | rfl | (cases h)
theorem fv_L {sa ad : Nat → Nat} {ty : FieldType} {i : Int} {r : Option Nat} (h : tyL ty = true) : fv sa ad ty i r = .long (Int64.ofInt i) := by cases ty <;> first | rfl | (cases h)
theorem fv_R {sa ad : Nat → Nat} {ty : FieldType} {i : Int} {r : Option Nat} (h : tyR ty = true) : fv sa ad ty i r = va_rf (r.map (pa sa ad)) := by cases ty <;> first | rfl | (cases h)
theorem tyI_L {ty : FieldType} (h : tyI ty = true) : tyL ty = false := by cases ty <;> first | rfl | (cases h)
theorem tyR_L {ty : FieldType} (h : tyR ty = true) : tyL ty = false := by cases ty <;> first | rfl | (cases h)
def fsOf (sa ad : Nat → Nat) (ci : Nat) (f : Nat → Int) (g : Nat → Option Nat) : List Value := (List.range (nfd ci)).map fun j => fv sa ad (fty ci j) (f j) (g j)
theorem fs_at {sa ad : Nat → Nat} {ci j : Nat} {f : Nat → Int} {g : Nat → Option Nat} (h : j < nfd ci) : (fsOf sa ad ci f g)[j]? = some (fv sa ad (fty ci j) (f j) (g j)) := by
  unfold fsOf
  rw [List.getElem?_map, List.getElem?_range h]
  rfl
theorem fs_len {sa ad : Nat → Nat} {ci : Nat} {f : Nat → Int} {g : Nat → Option Nat} : (fsOf sa ad ci f g).length = nfd ci := by
  unfold fsOf
  rw [List.length_map, List.length_range]
theorem fs_set {sa ad : Nat → Nat} {ci j : Nat} {f f' : Nat → Int} {g g' : Nat → Option Nat} (h : j < nfd ci) (ho : ∀ b, b ≠ j → f' b = f b ∧ g' b = g b) : (fsOf sa ad ci f g).set j (fv sa ad (fty ci j) (f' j) (g' j)) = fsOf sa ad ci f' g' := by
  apply List.ext_getElem?
  intro b
  by_cases hb : b < nfd ci
  · rw [fs_at hb]
    by_cases hj : j = b
    · subst hj
      rw [List.getElem?_set_self (by rw [fs_len]; exact hb)]
    · rw [List.getElem?_set_ne hj, fs_at hb, (ho b (fun e => hj e.symm)).1, (ho b (fun e => hj e.symm)).2]
  · rw [List.getElem?_eq_none (by rw [List.length_set, fs_len]; omega), List.getElem?_eq_none (by rw [fs_len]; omega)]
theorem cell_o {cA : FieldType → ClassId} {sa ad : Nat → Nat} {iv : IV} {rv : RV} {k ci : Nat} (h : sh k = .inl ci) : cellE cA sa ad iv rv k = .inr (ci, fsOf sa ad ci (iv k) (rv k)) := by
  unfold cellE
  rw [h]
  rfl
theorem cell_a {cA : FieldType → ClassId} {sa ad : Nat → Nat} {iv : IV} {rv : RV} {k len : Nat} {ty : FieldType} (h : sh k = .inr (ty, len)) : cellE cA sa ad iv rv k = .inl (cA ty, len, rowE ty (iv k)) := by
  unfold cellE
  rw [h]
  rfl
theorem pa_lt {sa ad : Nat → Nat} {k : Nat} (h : k < 1000) : pa sa ad k = ad k := by
  unfold pa
  rw [if_neg (by omega)]
theorem tv_R {sa ad : Nat → Nat} {k : Nat} (h : k < 1000) : tv sa ad (aR (some k)) = .ref (ad k) := by
  show Value.ref (pa sa ad k) = _
  rw [pa_lt h]
theorem isL_o {k j ci : Nat} (h : sh k = .inl ci) : isL k j = tyL (fty ci j) := by
  unfold isL
  rw [h]
theorem isL_a {k j len : Nat} {ty : FieldType} (h : sh k = .inr (ty, len)) : isL k j = tyL ty := by
  unfold isL
  rw [h]
theorem okM_w2 {iv : IV} {k j : Nat} {x : Int} (h : okM iv) (hx : if isL k j = true then inL x else inI x) : okM (w2 iv k j x) := by
  intro a b
  by_cases hab : a = k ∧ b = j
  · obtain ⟨rfl, rfl⟩ := hab
    rw [w2_eq]
    exact hx
  · rw [w2_ne hab]
    exact h a b
/-- a field's entry in the pool of the file own: entry idx is slot j of kind ci -/
def LF (own : String) (idx ci j : Nat) : Prop := isW (.fieldLink own idx (cT ci j).1 (cT ci j).2.1 (cT ci j).2.2.1) = true ∨ ∃ host, isW (.fieldLinkNest own idx (cT ci j).1 (cT ci j).2.1 (cT ci j).2.2.1 host) = true
theorem g_getI {Γ : GX} {own : String} {cc : ByteArray} {nL d pc q : Nat} {L S : List AV} {n : Nat} {iv : IV} {rv : RV} {u v : Nat} {idx k : Nat} (ci j : Nat) (X : Cx Γ own cc nL d) (hf : LF own idx ci j) (hc : ci < 13) (hj : j < nfd ci) (ht : tyI (fty ci j) = true) (hs : sh k = .inl ci) (hk : k < n) (hd : decode cc pc = .ok (.getfield idx, 3)) (hq : pc + 3 = q) (kk : G Γ nL q L (aI (iv k j) :: S) n iv rv u v) : G Γ nL pc L (aR (some k) :: S) n iv rv u v := by
  obtain ⟨p, l, e, R, s, m, args, below, meth, c, D, cA, sa, bs, ad0, n0, Q⟩ := Γ
  obtain ⟨hx, hb, hml, hown, hlk, hT, hK, hF, hbs, hfr, hlo⟩ := X
  intro ad H locs ls h1 h2 h3 h4 h5 h6 h7
  subst hq
  have h4a := okL_cons.mp h4
  have hn := h5.1
  have hok : okA n (aI (iv k j)) := h5.okR (by rw [isL_o hs]; exact tyI_L ht)
  have h9 := kk ad H locs ls h1 h2 h3 (okL_cons.mpr ⟨hok, h4a.2⟩) h5 h6 h7
  have he := wl_at (cA := cA) (sa := sa) (ad := ad) (iv := iv) (rv := rv) hk
  rw [cell_o hs] at he
  have hv := fs_at (sa := sa) (ad := ad) (f := iv k) (g := rv k) hj
  rw [fv_I ht] at hv
  rw [List.map_cons, tv_R (by omega)]
  rcases hf with hf | ⟨host, hf⟩
  · exact va_get hx hb (hT.cls hc args) (fun _ h => h) hown hK h5.2.2.2.1 k he (cl_at ci hc) j hj (hT.at hf args) (fun _ h => h) hv hd h9
  · exact va_getN hx hb (hT.cls hc args) (fun _ h => h) hown hK h5.2.2.2.1 k he (cl_at ci hc) j hj (hT.at hf args) (fun _ h => h) hv hd h9
theorem g_getL {Γ : GX} {own : String} {cc : ByteArray} {nL d pc q : Nat} {L S : List AV} {n : Nat} {iv : IV} {rv : RV} {u v : Nat} {idx k : Nat} (ci j : Nat) (X : Cx Γ own cc nL d) (hf : LF own idx ci j) (hc : ci < 13) (hj : j < nfd ci) (ht : tyL (fty ci j) = true) (hs : sh k = .inl ci) (hk : k < n) (hd : decode cc pc = .ok (.getfield idx, 3)) (hq : pc + 3 = q) (kk : G Γ nL q L (aL (iv k j) :: S) n iv rv u v) : G Γ nL pc L (aR (some k) :: S) n iv rv u v := by
  obtain ⟨p, l, e, R, s, m, args, below, meth, c, D, cA, sa, bs, ad0, n0, Q⟩ := Γ
  obtain ⟨hx, hb, hml, hown, hlk, hT, hK, hF, hbs, hfr, hlo⟩ := X
  intro ad H locs ls h1 h2 h3 h4 h5 h6 h7
  subst hq
  have h4a := okL_cons.mp h4
  have hn := h5.1
  have hok : okA n (aL (iv k j)) := h5.okRL (by rw [isL_o hs]; exact ht)
  have h9 := kk ad H locs ls h1 h2 h3 (okL_cons.mpr ⟨hok, h4a.2⟩) h5 h6 h7
  have he := wl_at (cA := cA) (sa := sa) (ad := ad) (iv := iv) (rv := rv) hk
  rw [cell_o hs] at he
  have hv := fs_at (sa := sa) (ad := ad) (f := iv k) (g := rv k) hj
  rw [fv_L ht] at hv
  rw [List.map_cons, tv_R (by omega)]
  rcases hf with hf | ⟨host, hf⟩
  · exact va_get hx hb (hT.cls hc args) (fun _ h => h) hown hK h5.2.2.2.1 k he (cl_at ci hc) j hj (hT.at hf args) (fun _ h => h) hv hd h9
  · exact va_getN hx hb (hT.cls hc args) (fun _ h => h) hown hK h5.2.2.2.1 k he (cl_at ci hc) j hj (hT.at hf args) (fun _ h => h) hv hd h9
theorem g_getR {Γ : GX} {own : String} {cc : ByteArray} {nL d pc q : Nat} {L S : List AV} {n : Nat} {iv : IV} {rv : RV} {u v : Nat} {idx k : Nat} {r : Option Nat} (ci j : Nat) (X : Cx Γ own cc nL d) (hr : rv k j = r) (hr2 : ∀ z, r = some z → z < 2000) (hf : LF own idx ci j) (hc : ci < 13) (hj : j < nfd ci) (ht : tyR (fty ci j) = true) (hs : sh k = .inl ci) (hk : k < n) (hd : decode cc pc = .ok (.getfield idx, 3)) (hq : pc + 3 = q) (kk : G Γ nL q L (aR r :: S) n iv rv u v) : G Γ nL pc L (aR (some k) :: S) n iv rv u v := by
  obtain ⟨p, l, e, R, s, m, args, below, meth, c, D, cA, sa, bs, ad0, n0, Q⟩ := Γ
  obtain ⟨hx, hb, hml, hown, hlk, hT, hK, hF, hbs, hfr, hlo⟩ := X
  intro ad H locs ls h1 h2 h3 h4 h5 h6 h7
  subst hq hr
  have h4a := okL_cons.mp h4
  have hn := h5.1
  have hok : okA n (aR (rv k j)) := fun z hz => by
    rcases h5.2.2.1 k j z hk hz with h | h
    · exact Or.inl h
    · exact Or.inr ⟨h, hr2 z hz⟩
  have h9 := kk ad H locs ls h1 h2 h3 (okL_cons.mpr ⟨hok, h4a.2⟩) h5 h6 h7
  have he := wl_at (cA := cA) (sa := sa) (ad := ad) (iv := iv) (rv := rv) hk
  rw [cell_o hs] at he
  have hv := fs_at (sa := sa) (ad := ad) (f := iv k) (g := rv k) hj
  rw [fv_R ht] at hv
  rw [List.map_cons, tv_R (by omega)]
  rcases hf with hf | ⟨host, hf⟩
  · exact va_get hx hb (hT.cls hc args) (fun _ h => h) hown hK h5.2.2.2.1 k he (cl_at ci hc) j hj (hT.at hf args) (fun _ h => h) hv hd h9
  · exact va_getN hx hb (hT.cls hc args) (fun _ h => h) hown hK h5.2.2.2.1 k he (cl_at ci hc) j hj (hT.at hf args) (fun _ h => h) hv hd h9
theorem fit_I {ty : FieldType} {x : Int} (hi : inI x) (h : ty = .int ∨ (ty = .boolean ∧ (x = 0 ∨ x = 1))) : narrow ty (.int (Int32.ofInt x)) = .int (Int32.ofInt x) ∧ fits ty (.int (Int32.ofInt x)) = true := by
  rcases h with rfl | ⟨rfl, rfl | rfl⟩
  · exact ⟨rfl, rfl⟩
  · exact ⟨by decide, by decide⟩
  · exact ⟨by decide, by decide⟩
theorem fit_L {x : Int} : narrow .long (.long (Int64.ofInt x)) = .long (Int64.ofInt x) ∧ fits .long (.long (Int64.ofInt x)) = true := ⟨rfl, rfl⟩
theorem fit_R {ty : FieldType} {sa ad : Nat → Nat} {r : Option Nat} (h : tyR ty = true) : narrow ty (va_rf (r.map (pa sa ad))) = va_rf (r.map (pa sa ad)) ∧ fits ty (va_rf (r.map (pa sa ad))) = true := by
  cases ty <;> first | (cases h; done) | skip
  · cases r <;> exact ⟨rfl, rfl⟩
  · cases r <;> exact ⟨rfl, rfl⟩
theorem Rel.put {D : va_G} {cA : FieldType → ClassId} {sa : Nat → Nat} {bs : Nat} {ad : Nat → Nat} {n : Nat} {iv iv' : IV} {rv rv' : RV} {H H1 : Heap} {k ci j : Nat} (h : Rel D cA sa bs ad n iv rv H) (hs : sh k = .inl ci) (hk : k < n) (hj : j < nfd ci) (hM : okM iv') (hR : ∀ a b q, a < n → rv' a b = some q → q < n ∨ 1000 ≤ q)
    (hi : ∀ a, a ≠ k → iv' a = iv a ∧ rv' a = rv a) (hi2 : ∀ b, b ≠ j → iv' k b = iv k b ∧ rv' k b = rv k b)
    (hP : va_P D vwCl ((wl cA sa ad n iv rv).set k (ad k, .inr (ci, (fsOf sa ad ci (iv k) (rv k)).set j (fv sa ad (fty ci j) (iv' k j) (rv' k j))))) H1) (hD : va_D (fun q => bs ≤ q) ((wl cA sa ad n iv rv).set k (ad k, .inr (ci, (fsOf sa ad ci (iv k) (rv k)).set j (fv sa ad (fty ci j) (iv' k j) (rv' k j)))))) : Rel D cA sa bs ad n iv' rv' H1 := by
  have e1 : (wl cA sa ad n iv rv).set k (ad k, .inr (ci, (fsOf sa ad ci (iv k) (rv k)).set j (fv sa ad (fty ci j) (iv' k j) (rv' k j)))) = wl cA sa ad n iv' rv' := by
    rw [fs_set hj hi2, ← cell_o (cA := cA) hs]
    refine wl_set hk (fun a ha => ?_)
    unfold cellE
    rw [(hi a ha).1, (hi a ha).2]
  rw [e1] at hP hD
  exact ⟨h.1, hM, hR, hP, hD⟩
def Ini (Γ : GX) : Prop := match Γ with
  | (_, _, _, _, _, _, _, _, meth, _, _, _, _, _, _, _, _) => meth.name = "<init>"
theorem g_putI {Γ : GX} {own : String} {cc : ByteArray} {nL d pc q : Nat} {L S : List AV} {n : Nat} {iv : IV} {rv : RV} {u v : Nat} {idx k : Nat} {x : Int} (ci j : Nat) (X : Cx Γ own cc nL d) (ht : fty ci j = .int ∨ (fty ci j = .boolean ∧ (x = 0 ∨ x = 1))) (hfin : (cT ci j).2.2.2 = false) (hf : LF own idx ci j) (hc : ci < 13) (hj : j < nfd ci) (hs : sh k = .inl ci) (hk : k < n) (hd : decode cc pc = .ok (.putfield idx, 3)) (hq : pc + 3 = q) (kk : G Γ nL q L S n (w2 iv k j x) rv u v) : G Γ nL pc L (aI x :: aR (some k) :: S) n iv rv u v := by
  obtain ⟨p, l, e, R, s, m, args, below, meth, c, D, cA, sa, bs, ad0, n0, Q⟩ := Γ
  obtain ⟨hx, hb, hml, hown, hlk, hT, hK, hF, hbs, hfr, hlo⟩ := X
  intro ad H locs ls h1 h2 h3 h4 h5 h6 h7
  subst hq
  have h4a := okL_cons.mp h4
  have h4b := okL_cons.mp h4a.2
  have hx4 : okA n (aI x) := h4a.1
  have hn := h5.1
  have he := wl_at (cA := cA) (sa := sa) (ad := ad) (iv := iv) (rv := rv) hk
  rw [cell_o hs] at he
  have hft := fit_I hx4 ht
  have hty := cl_ty ci hc j hj
  rw [List.map_cons, List.map_cons, tv_R (by omega)]
  have go : ∀ (H1 : Heap) (locs1 : List Loc), va_P D vwCl ((wl cA sa ad n iv rv).set k (ad k, .inr (ci, (fsOf sa ad ci (iv k) (rv k)).set j (tv sa ad (aI x))))) H1 → va_D (fun q => bs ≤ q) ((wl cA sa ad n iv rv).set k (ad k, .inr (ci, (fsOf sa ad ci (iv k) (rv k)).set j (tv sa ad (aI x))))) → va_S (fun q => bs ≤ q) s.heap H1 locs1 → W p l e R s m args below meth c H1 locs1 u v Q (F0 m (pc + 3) ls (S.map (tv sa ad))) := by
    intro H1 locs1 hP1 hD1 hS1
    have ev : tv sa ad (aI x) = fv sa ad (fty ci j) (((w2 iv k j x)) k j) ((rv) k j) := by
      have hti : tyI (fty ci j) = true := by rcases ht with h | h; rw [h]; rfl; rw [h.1]; rfl
      rw [fv_I hti, w2_eq]
      rfl
    rw [ev] at hP1 hD1
    refine kk ad H1 locs1 ls h1 h2 h3 h4b.2 (Rel.put h5 hs hk hj (okM_w2 h5.2.1 (by rw [isL_o hs, tyI_L (by rcases ht with h | h; rw [h]; rfl; rw [h.1]; rfl)]; exact hx4)) h5.2.2.1 (fun a ha => ⟨w2_row ha, rfl⟩) (fun b hb => ⟨w2_ne (fun z => hb z.2), rfl⟩) hP1 hD1) hS1 h7
  rcases hf with hf | ⟨host, hf⟩
  · exact va_put hx hb (hT.cls hc args) (fun _ h => h) (fty ci) (cl_ty ci hc) (cl_nm ci hc) hown hK h5.2.2.2.1 h5.2.2.2.2 h6 k he (cl_at ci hc) j hj (hT.at hf args) (fun _ h => h) hfin hty hft.1 hft.2 (by rw [fs_len]; exact hj) hd go
  · exact va_putN hx hb (hT.cls hc args) (fun _ h => h) (fty ci) (cl_ty ci hc) (cl_nm ci hc) hown hK h5.2.2.2.1 h5.2.2.2.2 h6 k he (cl_at ci hc) j hj (hT.at hf args) (fun _ h => h) hfin hty hft.1 hft.2 (by rw [fs_len]; exact hj) hd go
theorem g_putL {Γ : GX} {own : String} {cc : ByteArray} {nL d pc q : Nat} {L S : List AV} {n : Nat} {iv : IV} {rv : RV} {u v : Nat} {idx k : Nat} {x : Int} (ci j : Nat) (X : Cx Γ own cc nL d) (ht : fty ci j = .long) (hfin : (cT ci j).2.2.2 = false) (hf : LF own idx ci j) (hc : ci < 13) (hj : j < nfd ci) (hs : sh k = .inl ci) (hk : k < n) (hd : decode cc pc = .ok (.putfield idx, 3)) (hq : pc + 3 = q) (kk : G Γ nL q L S n (w2 iv k j x) rv u v) : G Γ nL pc L (aL x :: aR (some k) :: S) n iv rv u v := by
  obtain ⟨p, l, e, R, s, m, args, below, meth, c, D, cA, sa, bs, ad0, n0, Q⟩ := Γ
  obtain ⟨hx, hb, hml, hown, hlk, hT, hK, hF, hbs, hfr, hlo⟩ := X
  intro ad H locs ls h1 h2 h3 h4 h5 h6 h7
  subst hq
  have h4a := okL_cons.mp h4
  have h4b := okL_cons.mp h4a.2
  have hx4 : okA n (aL x) := h4a.1
  have hn := h5.1
  have he := wl_at (cA := cA) (sa := sa) (ad := ad) (iv := iv) (rv := rv) hk
  rw [cell_o hs] at he
  have hft := (by rw [ht]; exact fit_L : narrow (fty ci j) (.long (Int64.ofInt x)) = .long (Int64.ofInt x) ∧ fits (fty ci j) (.long (Int64.ofInt x)) = true)
  have hty := cl_ty ci hc j hj
  rw [List.map_cons, List.map_cons, tv_R (by omega)]
  have go : ∀ (H1 : Heap) (locs1 : List Loc), va_P D vwCl ((wl cA sa ad n iv rv).set k (ad k, .inr (ci, (fsOf sa ad ci (iv k) (rv k)).set j (tv sa ad (aL x))))) H1 → va_D (fun q => bs ≤ q) ((wl cA sa ad n iv rv).set k (ad k, .inr (ci, (fsOf sa ad ci (iv k) (rv k)).set j (tv sa ad (aL x))))) → va_S (fun q => bs ≤ q) s.heap H1 locs1 → W p l e R s m args below meth c H1 locs1 u v Q (F0 m (pc + 3) ls (S.map (tv sa ad))) := by
    intro H1 locs1 hP1 hD1 hS1
    have ev : tv sa ad (aL x) = fv sa ad (fty ci j) (((w2 iv k j x)) k j) ((rv) k j) := by
      rw [ht, w2_eq]
      rfl
    rw [ev] at hP1 hD1
    refine kk ad H1 locs1 ls h1 h2 h3 h4b.2 (Rel.put h5 hs hk hj (okM_w2 h5.2.1 (by rw [isL_o hs, ht]; exact hx4)) h5.2.2.1 (fun a ha => ⟨w2_row ha, rfl⟩) (fun b hb => ⟨w2_ne (fun z => hb z.2), rfl⟩) hP1 hD1) hS1 h7
  rcases hf with hf | ⟨host, hf⟩
  · exact va_put hx hb (hT.cls hc args) (fun _ h => h) (fty ci) (cl_ty ci hc) (cl_nm ci hc) hown hK h5.2.2.2.1 h5.2.2.2.2 h6 k he (cl_at ci hc) j hj (hT.at hf args) (fun _ h => h) hfin hty hft.1 hft.2 (by rw [fs_len]; exact hj) hd go
  · exact va_putN hx hb (hT.cls hc args) (fun _ h => h) (fty ci) (cl_ty ci hc) (cl_nm ci hc) hown hK h5.2.2.2.1 h5.2.2.2.2 h6 k he (cl_at ci hc) j hj (hT.at hf args) (fun _ h => h) hfin hty hft.1 hft.2 (by rw [fs_len]; exact hj) hd go
theorem g_putR {Γ : GX} {own : String} {cc : ByteArray} {nL d pc q : Nat} {L S : List AV} {n : Nat} {iv : IV} {rv : RV} {u v : Nat} {idx k : Nat} {r : Option Nat} (ci j : Nat) (X : Cx Γ own cc nL d) (ht : tyR (fty ci j) = true) (hfin : (cT ci j).2.2.2 = false) (hf : LF own idx ci j) (hc : ci < 13) (hj : j < nfd ci) (hs : sh k = .inl ci) (hk : k < n) (hd : decode cc pc = .ok (.putfield idx, 3)) (hq : pc + 3 = q) (kk : G Γ nL q L S n iv (r2 rv k j r) u v) : G Γ nL pc L (aR r :: aR (some k) :: S) n iv rv u v := by
  obtain ⟨p, l, e, R, s, m, args, below, meth, c, D, cA, sa, bs, ad0, n0, Q⟩ := Γ
  obtain ⟨hx, hb, hml, hown, hlk, hT, hK, hF, hbs, hfr, hlo⟩ := X
  intro ad H locs ls h1 h2 h3 h4 h5 h6 h7
  subst hq
  have h4a := okL_cons.mp h4
  have h4b := okL_cons.mp h4a.2
  have hx4 : okA n (aR r) := h4a.1
  have hn := h5.1
  have he := wl_at (cA := cA) (sa := sa) (ad := ad) (iv := iv) (rv := rv) hk
  rw [cell_o hs] at he
  have hft := fit_R (sa := sa) (ad := ad) (r := r) ht
  have hty := cl_ty ci hc j hj
  rw [List.map_cons, List.map_cons, tv_R (by omega)]
  have go : ∀ (H1 : Heap) (locs1 : List Loc), va_P D vwCl ((wl cA sa ad n iv rv).set k (ad k, .inr (ci, (fsOf sa ad ci (iv k) (rv k)).set j (tv sa ad (aR r))))) H1 → va_D (fun q => bs ≤ q) ((wl cA sa ad n iv rv).set k (ad k, .inr (ci, (fsOf sa ad ci (iv k) (rv k)).set j (tv sa ad (aR r))))) → va_S (fun q => bs ≤ q) s.heap H1 locs1 → W p l e R s m args below meth c H1 locs1 u v Q (F0 m (pc + 3) ls (S.map (tv sa ad))) := by
    intro H1 locs1 hP1 hD1 hS1
    have ev : tv sa ad (aR r) = fv sa ad (fty ci j) ((iv) k j) (((r2 rv k j r)) k j) := by
      rw [fv_R ht, r2_eq]
      rfl
    rw [ev] at hP1 hD1
    refine kk ad H1 locs1 ls h1 h2 h3 h4b.2 (Rel.put h5 hs hk hj h5.2.1 (fun a b z ha hz => by
      by_cases hab : a = k ∧ b = j
      · obtain ⟨rfl, rfl⟩ := hab
        rw [r2_eq] at hz
        rcases hx4 z hz with h | h
        · exact Or.inl h
        · exact Or.inr h.1
      · rw [r2_ne hab] at hz
        exact h5.2.2.1 a b z ha hz) (fun a ha => ⟨rfl, r2_row ha⟩) (fun b hb => ⟨rfl, r2_ne (fun z => hb z.2)⟩) hP1 hD1) hS1 h7
  rcases hf with hf | ⟨host, hf⟩
  · exact va_put hx hb (hT.cls hc args) (fun _ h => h) (fty ci) (cl_ty ci hc) (cl_nm ci hc) hown hK h5.2.2.2.1 h5.2.2.2.2 h6 k he (cl_at ci hc) j hj (hT.at hf args) (fun _ h => h) hfin hty hft.1 hft.2 (by rw [fs_len]; exact hj) hd go
  · exact va_putN hx hb (hT.cls hc args) (fun _ h => h) (fty ci) (cl_ty ci hc) (cl_nm ci hc) hown hK h5.2.2.2.1 h5.2.2.2.2 h6 k he (cl_at ci hc) j hj (hT.at hf args) (fun _ h => h) hfin hty hft.1 hft.2 (by rw [fs_len]; exact hj) hd go
theorem g_putRF {Γ : GX} {own : String} {cc : ByteArray} {nL d pc q : Nat} {L S : List AV} {n : Nat} {iv : IV} {rv : RV} {u v : Nat} {idx k : Nat} {r : Option Nat} (ci j : Nat) (X : Cx Γ own cc nL d) (ht : tyR (fty ci j) = true) (hfin : (cT ci j).2.2.2 = true) (hown2 : (cT ci j).1 = own) (hini : Ini Γ) (hf : isW (.fieldLink own idx (cT ci j).1 (cT ci j).2.1 (cT ci j).2.2.1) = true) (hc : ci < 13) (hj : j < nfd ci) (hs : sh k = .inl ci) (hk : k < n) (hd : decode cc pc = .ok (.putfield idx, 3)) (hq : pc + 3 = q) (kk : G Γ nL q L S n iv (r2 rv k j r) u v) : G Γ nL pc L (aR r :: aR (some k) :: S) n iv rv u v := by
  obtain ⟨p, l, e, R, s, m, args, below, meth, c, D, cA, sa, bs, ad0, n0, Q⟩ := Γ
  obtain ⟨hx, hb, hml, hown, hlk, hT, hK, hF, hbs, hfr, hlo⟩ := X
  intro ad H locs ls h1 h2 h3 h4 h5 h6 h7
  subst hq
  have h4a := okL_cons.mp h4
  have h4b := okL_cons.mp h4a.2
  have hx4 : okA n (aR r) := h4a.1
  have hn := h5.1
  have he := wl_at (cA := cA) (sa := sa) (ad := ad) (iv := iv) (rv := rv) hk
  rw [cell_o hs] at he
  have hft := fit_R (sa := sa) (ad := ad) (r := r) ht
  have hty := cl_ty ci hc j hj
  rw [List.map_cons, List.map_cons, tv_R (by omega)]
  have go : ∀ (H1 : Heap) (locs1 : List Loc), va_P D vwCl ((wl cA sa ad n iv rv).set k (ad k, .inr (ci, (fsOf sa ad ci (iv k) (rv k)).set j (tv sa ad (aR r))))) H1 → va_D (fun q => bs ≤ q) ((wl cA sa ad n iv rv).set k (ad k, .inr (ci, (fsOf sa ad ci (iv k) (rv k)).set j (tv sa ad (aR r))))) → va_S (fun q => bs ≤ q) s.heap H1 locs1 → W p l e R s m args below meth c H1 locs1 u v Q (F0 m (pc + 3) ls (S.map (tv sa ad))) := by
    intro H1 locs1 hP1 hD1 hS1
    have ev : tv sa ad (aR r) = fv sa ad (fty ci j) ((iv) k j) (((r2 rv k j r)) k j) := by
      rw [fv_R ht, r2_eq]
      rfl
    rw [ev] at hP1 hD1
    refine kk ad H1 locs1 ls h1 h2 h3 h4b.2 (Rel.put h5 hs hk hj h5.2.1 (fun a b z ha hz => by
      by_cases hab : a = k ∧ b = j
      · obtain ⟨rfl, rfl⟩ := hab
        rw [r2_eq] at hz
        rcases hx4 z hz with h | h
        · exact Or.inl h
        · exact Or.inr h.1
      · rw [r2_ne hab] at hz
        exact h5.2.2.1 a b z ha hz) (fun a ha => ⟨rfl, r2_row ha⟩) (fun b hb => ⟨rfl, r2_ne (fun z => hb z.2)⟩) hP1 hD1) hS1 h7
  exact va_putF hx hb (hT.cls hc args) (fun _ h => h) (fty ci) (cl_ty ci hc) (cl_nm ci hc) hown hK h5.2.2.2.1 h5.2.2.2.2 h6 k he (cl_at ci hc) j hj (hT.at hf args) (fun _ h => h) hfin hini hown2 hty hft.1 hft.2 (by rw [fs_len]; exact hj) hd go
