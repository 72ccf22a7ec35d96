/-! ONE RULE AN INSTRUCTION: plain ones -/
theorem tmod_in {a b : Int} (ha : inI a) (hb : inI b) (hz : b ≠ 0) : inI (a.tmod b) := by
  have h := Int32.toInt_mod (Int32.ofInt a) (Int32.ofInt b)
  rw [to_of ha, to_of hb] at h
  rw [← h]
  exact i32_in _
theorem okI {n : Nat} {x : Int} (h : inI x) : okA n (aI x) := h
theorem okJ {n : Nat} {x : Int} (h : inL x) : okA n (aL x) := h
theorem g_iconst {Γ : GX} {own : String} {cc : ByteArray} {nL d pc q : Nat} {L S : List AV} {n : Nat} {iv : IV} {rv : RV} {u v : Nat} {z : Int} (x : Int) (X : Cx Γ own cc nL d) (hd : decode cc pc = .ok (.iconst z, 1)) (hq : pc + 1 = q) (hv : Int32.ofInt z = Int32.ofInt x) (hi : inI x) (k : G Γ nL q L (aI x :: S) n iv rv u v) : G Γ nL pc L S n iv rv u v := by
  obtain ⟨p, l, e, R, s, m, args, below, meth, c, D, cA, sa, bs, ad0, n0, Q⟩ := Γ
  obtain ⟨hx, hb, hml, hown, hlk, hT, hK, hF, hbs, hfr, hlo⟩ := X
  intro ad H locs ls h1 h2 h3 h4 h5 h6 h7
  subst hq
  exact lv_iconst hx hb hd hv (k ad H locs ls h1 h2 h3 (okL_cons.mpr ⟨hi, h4⟩) h5 h6 h7)
theorem g_bipush {Γ : GX} {own : String} {cc : ByteArray} {nL d pc q : Nat} {L S : List AV} {n : Nat} {iv : IV} {rv : RV} {u v : Nat} {z : Int} (x : Int) (X : Cx Γ own cc nL d) (hd : decode cc pc = .ok (.bipush z, 2)) (hq : pc + 2 = q) (hv : (Int8.ofInt z).toInt32 = Int32.ofInt x) (hi : inI x) (k : G Γ nL q L (aI x :: S) n iv rv u v) : G Γ nL pc L S n iv rv u v := by
  obtain ⟨p, l, e, R, s, m, args, below, meth, c, D, cA, sa, bs, ad0, n0, Q⟩ := Γ
  obtain ⟨hx, hb, hml, hown, hlk, hT, hK, hF, hbs, hfr, hlo⟩ := X
  intro ad H locs ls h1 h2 h3 h4 h5 h6 h7
  subst hq
  exact lv_bipush hx hb hd hv (k ad H locs ls h1 h2 h3 (okL_cons.mpr ⟨hi, h4⟩) h5 h6 h7)
theorem g_sipush {Γ : GX} {own : String} {cc : ByteArray} {nL d pc q : Nat} {L S : List AV} {n : Nat} {iv : IV} {rv : RV} {u v : Nat} {z : Int} (x : Int) (X : Cx Γ own cc nL d) (hd : decode cc pc = .ok (.sipush z, 3)) (hq : pc + 3 = q) (hv : (Int16.ofInt z).toInt32 = Int32.ofInt x) (hi : inI x) (k : G Γ nL q L (aI x :: S) n iv rv u v) : G Γ nL pc L S n iv rv u v := by
  obtain ⟨p, l, e, R, s, m, args, below, meth, c, D, cA, sa, bs, ad0, n0, Q⟩ := Γ
  obtain ⟨hx, hb, hml, hown, hlk, hT, hK, hF, hbs, hfr, hlo⟩ := X
  intro ad H locs ls h1 h2 h3 h4 h5 h6 h7
  subst hq
  exact lv_sipush hx hb hd hv (k ad H locs ls h1 h2 h3 (okL_cons.mpr ⟨hi, h4⟩) h5 h6 h7)
theorem g_lconst {Γ : GX} {own : String} {cc : ByteArray} {nL d pc q : Nat} {L S : List AV} {n : Nat} {iv : IV} {rv : RV} {u v : Nat} {z : Fin 2} (x : Int) (X : Cx Γ own cc nL d) (hd : decode cc pc = .ok (.lconst z, 1)) (hq : pc + 1 = q) (hv : Int64.ofNat (z : Nat) = Int64.ofInt x) (hi : inL x) (k : G Γ nL q L (aL x :: S) n iv rv u v) : G Γ nL pc L S n iv rv u v := by
  obtain ⟨p, l, e, R, s, m, args, below, meth, c, D, cA, sa, bs, ad0, n0, Q⟩ := Γ
  obtain ⟨hx, hb, hml, hown, hlk, hT, hK, hF, hbs, hfr, hlo⟩ := X
  intro ad H locs ls h1 h2 h3 h4 h5 h6 h7
  subst hq
  exact lv_lconst hx hb hd hv (k ad H locs ls h1 h2 h3 (okL_cons.mpr ⟨hi, h4⟩) h5 h6 h7)
theorem g_ldc {Γ : GX} {own : String} {cc : ByteArray} {nL d pc q : Nat} {L S : List AV} {n : Nat} {iv : IV} {rv : RV} {u v : Nat} {idx : Nat} (x : Int) (X : Cx Γ own cc nL d) (hw : isW (.constant own idx (Int32.ofInt x)) = true) (hd : decode cc pc = .ok (.ldc idx, 2)) (hq : pc + 2 = q) (hi : inI x) (k : G Γ nL q L (aI x :: S) n iv rv u v) : G Γ nL pc L S n iv rv u v := by
  obtain ⟨p, l, e, R, s, m, args, below, meth, c, D, cA, sa, bs, ad0, n0, Q⟩ := Γ
  obtain ⟨hx, hb, hml, hown, hlk, hT, hK, hF, hbs, hfr, hlo⟩ := X
  intro ad H locs ls h1 h2 h3 h4 h5 h6 h7
  subst hq
  exact lv_ldc hx hb hown (hT.at hw args) hd (k ad H locs ls h1 h2 h3 (okL_cons.mpr ⟨hi, h4⟩) h5 h6 h7)
theorem g_ldcw {Γ : GX} {own : String} {cc : ByteArray} {nL d pc q : Nat} {L S : List AV} {n : Nat} {iv : IV} {rv : RV} {u v : Nat} {idx : Nat} (x : Int) (X : Cx Γ own cc nL d) (hw : isW (.constant own idx (Int32.ofInt x)) = true) (hd : decode cc pc = .ok (.ldc_w idx, 3)) (hq : pc + 3 = q) (hi : inI x) (k : G Γ nL q L (aI x :: S) n iv rv u v) : G Γ nL pc L S n iv rv u v := by
  obtain ⟨p, l, e, R, s, m, args, below, meth, c, D, cA, sa, bs, ad0, n0, Q⟩ := Γ
  obtain ⟨hx, hb, hml, hown, hlk, hT, hK, hF, hbs, hfr, hlo⟩ := X
  intro ad H locs ls h1 h2 h3 h4 h5 h6 h7
  subst hq
  exact lv_ldcw hx hb hown (hT.at hw args) hd (k ad H locs ls h1 h2 h3 (okL_cons.mpr ⟨hi, h4⟩) h5 h6 h7)
theorem g_ldc2 {Γ : GX} {own : String} {cc : ByteArray} {nL d pc q : Nat} {L S : List AV} {n : Nat} {iv : IV} {rv : RV} {u v : Nat} {idx : Nat} (x : Int) (X : Cx Γ own cc nL d) (hw : isW (.constantLong own idx (Int64.ofInt x)) = true) (hd : decode cc pc = .ok (.ldc2_w idx, 3)) (hq : pc + 3 = q) (hi : inL x) (k : G Γ nL q L (aL x :: S) n iv rv u v) : G Γ nL pc L S n iv rv u v := by
  obtain ⟨p, l, e, R, s, m, args, below, meth, c, D, cA, sa, bs, ad0, n0, Q⟩ := Γ
  obtain ⟨hx, hb, hml, hown, hlk, hT, hK, hF, hbs, hfr, hlo⟩ := X
  intro ad H locs ls h1 h2 h3 h4 h5 h6 h7
  subst hq
  exact lv_ldc2 hx hb hown (hT.at hw args) hd (k ad H locs ls h1 h2 h3 (okL_cons.mpr ⟨hi, h4⟩) h5 h6 h7)
theorem w_ldcwS {p : Program} {l : Launch} {e : Env} {R : Room} {s : State} {m : MethodId} {args : Array Value} {below : List Frame} {meth : Method} {c : Code} {H : Heap} {locs : List Loc} {cells slots : Nat} {Q : State → Prop} {cc : ByteArray} {pc : Nat} {ls : Array Slot} {rest : List Value}
    (hexec : p.tables.exec = Jvm.exec) (hb : c.code = cc) {own tx : String} {index a : Nat} (hown : s.vm.findClass own = some m.cls) (hZ : vk_R own index tx a s) (hdg : decode cc pc = .ok (.ldc_w index, 3))
    (k : W p l e R s m args below meth c H locs cells slots Q (F0 m (pc + 3) ls (.ref a :: rest))) : W p l e R s m args below meth c H locs cells slots Q (F0 m pc ls rest) := by
  intro T hT X
  obtain ⟨t, a1, b1⟩ := k T hT X
  refine ⟨t, ?_, b1⟩
  obtain ⟨k0, cf, i, a', hk, hcf, hcp, -, hr, hev'⟩ := Cond.stringRef_spec hown hZ.1
  cases hZ.2.symm.trans hev'
  obtain ⟨k', hk', he⟩ := X.warmed.alike.2.2 _ _ hk
  have hr' : k'.resolved[index]? = some (some (.string a)) := by
    rcases X.warmed.entry hk hk' index with h | ⟨h, -⟩
    · rw [h]; exact hr
    · rw [hr] at h; cases h
  rw [← hb] at hdg
  jvm_step X.here [hexec, hdg, ldc_w.wp_string (e := e) (s := T) (f := F0 m pc ls rest) X.here.top hk' (by rw [he]; exact hcf) hcp hr']
  exact a1
theorem g_ldcS {Γ : GX} {own : String} {cc : ByteArray} {nL d pc q : Nat} {L S : List AV} {n : Nat} {iv : IV} {rv : RV} {u v : Nat} {idx : Nat} {tx : String} (i : Nat) (X : Cx Γ own cc nL d) (hw : (own, idx, tx, i) ∈ sTab) (hi : i < 100) (hd : decode cc pc = .ok (.ldc idx, 2)) (hq : pc + 2 = q) (k : G Γ nL q L (aR (some (1000 + i)) :: S) n iv rv u v) : G Γ nL pc L S n iv rv u v := by
  obtain ⟨p, l, e, R, s, m, args, below, meth, c, D, cA, sa, bs, ad0, n0, Q⟩ := Γ
  obtain ⟨hx, hb, hml, hown, hlk, hT, hK, hF, hbs, hfr, hlo⟩ := X
  intro ad H locs ls h1 h2 h3 h4 h5 h6 h7
  subst hq
  have hz := hF.2.1 _ hw
  have h9 := k ad H locs ls h1 h2 h3 (okL_cons.mpr ⟨fun q0 h => by cases h; exact Or.inr ⟨by omega, by omega⟩, h4⟩) h5 h6 h7
  have e9 : tv sa ad (aR (some (1000 + i))) = .ref (sa i) := by
    show Value.ref (pa sa ad (1000 + i)) = _
    unfold pa
    rw [if_pos ⟨by omega, by omega⟩, Nat.add_sub_cancel_left]
  rw [List.map_cons, e9] at h9
  exact va_ldcS hx hb hown hz hd h9
theorem g_ldcwS {Γ : GX} {own : String} {cc : ByteArray} {nL d pc q : Nat} {L S : List AV} {n : Nat} {iv : IV} {rv : RV} {u v : Nat} {idx : Nat} {tx : String} (i : Nat) (X : Cx Γ own cc nL d) (hw : (own, idx, tx, i) ∈ sTab) (hi : i < 100) (hd : decode cc pc = .ok (.ldc_w idx, 3)) (hq : pc + 3 = q) (k : G Γ nL q L (aR (some (1000 + i)) :: S) n iv rv u v) : G Γ nL pc L S n iv rv u v := by
  obtain ⟨p, l, e, R, s, m, args, below, meth, c, D, cA, sa, bs, ad0, n0, Q⟩ := Γ
  obtain ⟨hx, hb, hml, hown, hlk, hT, hK, hF, hbs, hfr, hlo⟩ := X
  intro ad H locs ls h1 h2 h3 h4 h5 h6 h7
  subst hq
  have hz := hF.2.1 _ hw
  have h9 := k ad H locs ls h1 h2 h3 (okL_cons.mpr ⟨fun q0 h => by cases h; exact Or.inr ⟨by omega, by omega⟩, h4⟩) h5 h6 h7
  have e9 : tv sa ad (aR (some (1000 + i))) = .ref (sa i) := by
    show Value.ref (pa sa ad (1000 + i)) = _
    unfold pa
    rw [if_pos ⟨by omega, by omega⟩, Nat.add_sub_cancel_left]
  rw [List.map_cons, e9] at h9
  exact w_ldcwS hx hb hown hz hd h9
theorem g_iload_n {Γ : GX} {own : String} {cc : ByteArray} {nL d pc q : Nat} {L S : List AV} {n : Nat} {iv : IV} {rv : RV} {u v : Nat} {k0 : Fin 4} (i : Nat) {x : Int} (X : Cx Γ own cc nL d) (hd : decode cc pc = .ok (.iload_n k0, 1)) (hk : (k0 : Nat) = i) (hq : pc + 1 = q) (hl : L[i]? = some (aI x)) (k : G Γ nL q L (aI x :: S) n iv rv u v) : G Γ nL pc L S n iv rv u v := by
  obtain ⟨p, l, e, R, s, m, args, below, meth, c, D, cA, sa, bs, ad0, n0, Q⟩ := Γ
  obtain ⟨hx, hb, hml, hown, hlk, hT, hK, hF, hbs, hfr, hlo⟩ := X
  intro ad H locs ls h1 h2 h3 h4 h5 h6 h7
  subst hq
  exact lv_iload_n hx hb hd hk (h7.at hl trivial) (k ad H locs ls h1 h2 h3 (okL_cons.mpr ⟨okL_at h3 hl, h4⟩) h5 h6 h7)
theorem g_iload {Γ : GX} {own : String} {cc : ByteArray} {nL d pc q : Nat} {L S : List AV} {n : Nat} {iv : IV} {rv : RV} {u v : Nat} (i : Nat) {x : Int} (X : Cx Γ own cc nL d) (hd : decode cc pc = .ok (.iload i, 2)) (hq : pc + 2 = q) (hl : L[i]? = some (aI x)) (k : G Γ nL q L (aI x :: S) n iv rv u v) : G Γ nL pc L S n iv rv u v := by
  obtain ⟨p, l, e, R, s, m, args, below, meth, c, D, cA, sa, bs, ad0, n0, Q⟩ := Γ
  obtain ⟨hx, hb, hml, hown, hlk, hT, hK, hF, hbs, hfr, hlo⟩ := X
  intro ad H locs ls h1 h2 h3 h4 h5 h6 h7
  subst hq
  exact lv_iload hx hb hd (h7.at hl trivial) (k ad H locs ls h1 h2 h3 (okL_cons.mpr ⟨okL_at h3 hl, h4⟩) h5 h6 h7)
theorem g_lload_n {Γ : GX} {own : String} {cc : ByteArray} {nL d pc q : Nat} {L S : List AV} {n : Nat} {iv : IV} {rv : RV} {u v : Nat} {k0 : Fin 4} (i : Nat) {x : Int} (X : Cx Γ own cc nL d) (hd : decode cc pc = .ok (.lload_n k0, 1)) (hk : (k0 : Nat) = i) (hq : pc + 1 = q) (hl : L[i]? = some (aL x)) (k : G Γ nL q L (aL x :: S) n iv rv u v) : G Γ nL pc L S n iv rv u v := by
  obtain ⟨p, l, e, R, s, m, args, below, meth, c, D, cA, sa, bs, ad0, n0, Q⟩ := Γ
  obtain ⟨hx, hb, hml, hown, hlk, hT, hK, hF, hbs, hfr, hlo⟩ := X
  intro ad H locs ls h1 h2 h3 h4 h5 h6 h7
  subst hq
  exact lv_lload_n hx hb hd hk (h7.at hl trivial) (k ad H locs ls h1 h2 h3 (okL_cons.mpr ⟨okL_at h3 hl, h4⟩) h5 h6 h7)
theorem g_lload {Γ : GX} {own : String} {cc : ByteArray} {nL d pc q : Nat} {L S : List AV} {n : Nat} {iv : IV} {rv : RV} {u v : Nat} (i : Nat) {x : Int} (X : Cx Γ own cc nL d) (hd : decode cc pc = .ok (.lload i, 2)) (hq : pc + 2 = q) (hl : L[i]? = some (aL x)) (k : G Γ nL q L (aL x :: S) n iv rv u v) : G Γ nL pc L S n iv rv u v := by
  obtain ⟨p, l, e, R, s, m, args, below, meth, c, D, cA, sa, bs, ad0, n0, Q⟩ := Γ
  obtain ⟨hx, hb, hml, hown, hlk, hT, hK, hF, hbs, hfr, hlo⟩ := X
  intro ad H locs ls h1 h2 h3 h4 h5 h6 h7
  subst hq
  exact lv_lload hx hb hd (h7.at hl trivial) (k ad H locs ls h1 h2 h3 (okL_cons.mpr ⟨okL_at h3 hl, h4⟩) h5 h6 h7)
theorem g_aload_n {Γ : GX} {own : String} {cc : ByteArray} {nL d pc q : Nat} {L S : List AV} {n : Nat} {iv : IV} {rv : RV} {u v : Nat} {k0 : Fin 4} (i : Nat) {r : Option Nat} (X : Cx Γ own cc nL d) (hd : decode cc pc = .ok (.aload_n k0, 1)) (hk : (k0 : Nat) = i) (hq : pc + 1 = q) (hl : L[i]? = some (aR r)) (k : G Γ nL q L (aR r :: S) n iv rv u v) : G Γ nL pc L S n iv rv u v := by
  obtain ⟨p, l, e, R, s, m, args, below, meth, c, D, cA, sa, bs, ad0, n0, Q⟩ := Γ
  obtain ⟨hx, hb, hml, hown, hlk, hT, hK, hF, hbs, hfr, hlo⟩ := X
  intro ad H locs ls h1 h2 h3 h4 h5 h6 h7
  subst hq
  have h8 := h7.at hl trivial
  have h9 := k ad H locs ls h1 h2 h3 (okL_cons.mpr ⟨okL_at h3 hl, h4⟩) h5 h6 h7
  cases r with
  | none => exact lv_aload_nN hx hb hd hk h8 h9
  | some y => exact lv_aload_n hx hb hd hk h8 h9
theorem g_aload {Γ : GX} {own : String} {cc : ByteArray} {nL d pc q : Nat} {L S : List AV} {n : Nat} {iv : IV} {rv : RV} {u v : Nat} (i : Nat) {r : Option Nat} (X : Cx Γ own cc nL d) (hd : decode cc pc = .ok (.aload i, 2)) (hq : pc + 2 = q) (hl : L[i]? = some (aR r)) (k : G Γ nL q L (aR r :: S) n iv rv u v) : G Γ nL pc L S n iv rv u v := by
  obtain ⟨p, l, e, R, s, m, args, below, meth, c, D, cA, sa, bs, ad0, n0, Q⟩ := Γ
  obtain ⟨hx, hb, hml, hown, hlk, hT, hK, hF, hbs, hfr, hlo⟩ := X
  intro ad H locs ls h1 h2 h3 h4 h5 h6 h7
  subst hq
  have h8 := h7.at hl trivial
  have h9 := k ad H locs ls h1 h2 h3 (okL_cons.mpr ⟨okL_at h3 hl, h4⟩) h5 h6 h7
  cases r with
  | none => exact lv_aloadN hx hb hd h8 h9
  | some y => exact lv_aload hx hb hd h8 h9
theorem g_istore_n {Γ : GX} {own : String} {cc : ByteArray} {nL d pc q : Nat} {L S : List AV} {n : Nat} {iv : IV} {rv : RV} {u v : Nat} {k0 : Fin 4} (i : Nat) {x : Int} {L' : List AV} (X : Cx Γ own cc nL d) (hd : decode cc pc = .ok (.istore_n k0, 1)) (hk : (k0 : Nat) = i) (hq : pc + 1 = q) (hi : i < nL) (hp : lpre L i = true) (hL : L.set i (aI x) = L') (k : G Γ nL q L' S n iv rv u v) : G Γ nL pc L (aI x :: S) n iv rv u v := by
  obtain ⟨p, l, e, R, s, m, args, below, meth, c, D, cA, sa, bs, ad0, n0, Q⟩ := Γ
  obtain ⟨hx, hb, hml, hown, hlk, hT, hK, hF, hbs, hfr, hlo⟩ := X
  intro ad H locs ls h1 h2 h3 h4 h5 h6 h7
  subst hq hL
  have h4' := okL_cons.mp h4
  exact lv_istore_n hx hb hd hk h7.has hi rfl (fun ls' hl' => k ad H locs ls' h1 h2 (okL_set h3 h4'.1) h4'.2 h5 h6 (LR.set1 hp hl'))
theorem g_lstore_n {Γ : GX} {own : String} {cc : ByteArray} {nL d pc q : Nat} {L S : List AV} {n : Nat} {iv : IV} {rv : RV} {u v : Nat} {k0 : Fin 4} (i : Nat) {x : Int} {L' : List AV} (X : Cx Γ own cc nL d) (hd : decode cc pc = .ok (.lstore_n k0, 1)) (hk : (k0 : Nat) = i) (hq : pc + 1 = q) (hi : i + 1 < nL) (hp : lpre L i = true) (hL : (L.set i (aL x)).set (i + 1) aJ = L') (k : G Γ nL q L' S n iv rv u v) : G Γ nL pc L (aL x :: S) n iv rv u v := by
  obtain ⟨p, l, e, R, s, m, args, below, meth, c, D, cA, sa, bs, ad0, n0, Q⟩ := Γ
  obtain ⟨hx, hb, hml, hown, hlk, hT, hK, hF, hbs, hfr, hlo⟩ := X
  intro ad H locs ls h1 h2 h3 h4 h5 h6 h7
  subst hq hL
  have h4' := okL_cons.mp h4
  exact lv_lstore_n hx hb hd hk h7.has hi rfl (fun ls' hl' => k ad H locs ls' h1 h2 (okL_set (okL_set h3 h4'.1) trivial) h4'.2 h5 h6 (LR.set2 hp hl'))
theorem g_astore_n {Γ : GX} {own : String} {cc : ByteArray} {nL d pc q : Nat} {L S : List AV} {n : Nat} {iv : IV} {rv : RV} {u v : Nat} {k0 : Fin 4} (i : Nat) {r : Option Nat} {L' : List AV} (X : Cx Γ own cc nL d) (hd : decode cc pc = .ok (.astore_n k0, 1)) (hk : (k0 : Nat) = i) (hq : pc + 1 = q) (hi : i < nL) (hp : lpre L i = true) (hL : L.set i (aR r) = L') (k : G Γ nL q L' S n iv rv u v) : G Γ nL pc L (aR r :: S) n iv rv u v := by
  obtain ⟨p, l, e, R, s, m, args, below, meth, c, D, cA, sa, bs, ad0, n0, Q⟩ := Γ
  obtain ⟨hx, hb, hml, hown, hlk, hT, hK, hF, hbs, hfr, hlo⟩ := X
  intro ad H locs ls h1 h2 h3 h4 h5 h6 h7
  subst hq hL
  have h4' := okL_cons.mp h4
  cases r with
  | none => exact lv_astore_nN hx hb hd hk h7.has hi rfl (fun ls' hl' => k ad H locs ls' h1 h2 (okL_set h3 h4'.1) h4'.2 h5 h6 (LR.set1 hp hl'))
  | some y => exact lv_astore_n hx hb hd hk h7.has hi rfl (fun ls' hl' => k ad H locs ls' h1 h2 (okL_set h3 h4'.1) h4'.2 h5 h6 (LR.set1 hp hl'))
theorem g_istore {Γ : GX} {own : String} {cc : ByteArray} {nL d pc q : Nat} {L S : List AV} {n : Nat} {iv : IV} {rv : RV} {u v : Nat} {k0 : Fin 4} (i : Nat) {x : Int} {L' : List AV} (X : Cx Γ own cc nL d) (hd : decode cc pc = .ok (.istore i, 2))  (hq : pc + 2 = q) (hi : i < nL) (hp : lpre L i = true) (hL : L.set i (aI x) = L') (k : G Γ nL q L' S n iv rv u v) : G Γ nL pc L (aI x :: S) n iv rv u v := by
  obtain ⟨p, l, e, R, s, m, args, below, meth, c, D, cA, sa, bs, ad0, n0, Q⟩ := Γ
  obtain ⟨hx, hb, hml, hown, hlk, hT, hK, hF, hbs, hfr, hlo⟩ := X
  intro ad H locs ls h1 h2 h3 h4 h5 h6 h7
  subst hq hL
  have h4' := okL_cons.mp h4
  exact lv_istore hx hb hd  h7.has hi rfl (fun ls' hl' => k ad H locs ls' h1 h2 (okL_set h3 h4'.1) h4'.2 h5 h6 (LR.set1 hp hl'))
theorem g_lstore {Γ : GX} {own : String} {cc : ByteArray} {nL d pc q : Nat} {L S : List AV} {n : Nat} {iv : IV} {rv : RV} {u v : Nat} {k0 : Fin 4} (i : Nat) {x : Int} {L' : List AV} (X : Cx Γ own cc nL d) (hd : decode cc pc = .ok (.lstore i, 2))  (hq : pc + 2 = q) (hi : i + 1 < nL) (hp : lpre L i = true) (hL : (L.set i (aL x)).set (i + 1) aJ = L') (k : G Γ nL q L' S n iv rv u v) : G Γ nL pc L (aL x :: S) n iv rv u v := by
  obtain ⟨p, l, e, R, s, m, args, below, meth, c, D, cA, sa, bs, ad0, n0, Q⟩ := Γ
  obtain ⟨hx, hb, hml, hown, hlk, hT, hK, hF, hbs, hfr, hlo⟩ := X
  intro ad H locs ls h1 h2 h3 h4 h5 h6 h7
  subst hq hL
  have h4' := okL_cons.mp h4
  exact lv_lstore hx hb hd  h7.has hi rfl (fun ls' hl' => k ad H locs ls' h1 h2 (okL_set (okL_set h3 h4'.1) trivial) h4'.2 h5 h6 (LR.set2 hp hl'))
theorem g_astore {Γ : GX} {own : String} {cc : ByteArray} {nL d pc q : Nat} {L S : List AV} {n : Nat} {iv : IV} {rv : RV} {u v : Nat} {k0 : Fin 4} (i : Nat) {r : Option Nat} {L' : List AV} (X : Cx Γ own cc nL d) (hd : decode cc pc = .ok (.astore i, 2))  (hq : pc + 2 = q) (hi : i < nL) (hp : lpre L i = true) (hL : L.set i (aR r) = L') (k : G Γ nL q L' S n iv rv u v) : G Γ nL pc L (aR r :: S) n iv rv u v := by
  obtain ⟨p, l, e, R, s, m, args, below, meth, c, D, cA, sa, bs, ad0, n0, Q⟩ := Γ
  obtain ⟨hx, hb, hml, hown, hlk, hT, hK, hF, hbs, hfr, hlo⟩ := X
  intro ad H locs ls h1 h2 h3 h4 h5 h6 h7
  subst hq hL
  have h4' := okL_cons.mp h4
  cases r with
  | none => exact lv_astoreN hx hb hd  h7.has hi rfl (fun ls' hl' => k ad H locs ls' h1 h2 (okL_set h3 h4'.1) h4'.2 h5 h6 (LR.set1 hp hl'))
  | some y => exact lv_astore hx hb hd  h7.has hi rfl (fun ls' hl' => k ad H locs ls' h1 h2 (okL_set h3 h4'.1) h4'.2 h5 h6 (LR.set1 hp hl'))
theorem g_iinc {Γ : GX} {own : String} {cc : ByteArray} {nL d pc q : Nat} {L S : List AV} {n : Nat} {iv : IV} {rv : RV} {u v : Nat} (i : Nat) {z x : Int} {L' : List AV} (X : Cx Γ own cc nL d) (hd : decode cc pc = .ok (.iinc i z, 3)) (hq : pc + 3 = q) (hi : i < nL) (hp : lpre L i = true) (hl : L[i]? = some (aI x)) (hL : L.set i (aI (w32 (x + z))) = L') (k : G Γ nL q L' S n iv rv u v) : G Γ nL pc L S n iv rv u v := by
  obtain ⟨p, l, e, R, s, m, args, below, meth, c, D, cA, sa, bs, ad0, n0, Q⟩ := Γ
  obtain ⟨hx, hb, hml, hown, hlk, hT, hK, hF, hbs, hfr, hlo⟩ := X
  intro ad H locs ls h1 h2 h3 h4 h5 h6 h7
  subst hq hL
  have h8 : (i, Value.int (Int32.ofInt x)) ∈ lstOf sa ad L := lstOf_mem.mpr ⟨aI x, hl, trivial, rfl⟩
  obtain ⟨k9, hk9⟩ := List.getElem?_of_mem h8
  exact lv_iinc (v := Int32.ofInt (w32 (x + z))) hx hb hd h7.has hk9 (by rw [of_w32, Int32.ofInt_add]) hi rfl (fun ls' hl' => k ad H locs ls' h1 h2 (okL_set h3 (okI (w32_in _))) h4 h5 h6 (LR.set1 hp hl'))
theorem g_forget {Γ : GX} {own : String} {cc : ByteArray} {nL d pc q : Nat} {L S : List AV} {n : Nat} {iv : IV} {rv : RV} {u v : Nat} (i : Nat) {L' : List AV} (hL : L.set i aJ = L') (k : G Γ nL pc L' S n iv rv u v) : G Γ nL pc L S n iv rv u v := by
  obtain ⟨p, l, e, R, s, m, args, below, meth, c, D, cA, sa, bs, ad0, n0, Q⟩ := Γ
  intro ad H locs ls h1 h2 h3 h4 h5 h6 h7
  subst hL
  refine k ad H locs ls h1 h2 (okL_set h3 trivial) h4 h5 h6 (h7.sub fun j b hb hj => ?_)
  by_cases hij : i = j
  · subst hij
    have hlt : i < L.length := by have := (List.getElem?_eq_some_iff.mp hb).1; rwa [List.length_set] at this
    rw [List.getElem?_set_self hlt] at hb
    cases hb
    exact hj.elim
  · rwa [List.getElem?_set_ne hij] at hb
theorem g_nm {Γ : GX} {own : String} {cc : ByteArray} {nL d pc q : Nat} {L S : List AV} {n : Nat} {iv : IV} {rv : RV} {u v : Nat} {x : Int} (k : ∀ y, y = x → G Γ nL pc L (aI y :: S) n iv rv u v) : G Γ nL pc L (aI x :: S) n iv rv u v := k x rfl
theorem g_nml {Γ : GX} {own : String} {cc : ByteArray} {nL d pc q : Nat} {L S : List AV} {n : Nat} {iv : IV} {rv : RV} {u v : Nat} {x : Int} (k : ∀ y, y = x → G Γ nL pc L (aL y :: S) n iv rv u v) : G Γ nL pc L (aL x :: S) n iv rv u v := k x rfl
theorem g_iadd {Γ : GX} {own : String} {cc : ByteArray} {nL d pc q : Nat} {L S : List AV} {n : Nat} {iv : IV} {rv : RV} {u v : Nat} {a b : Int} (X : Cx Γ own cc nL d)  (hd : decode cc pc = .ok (.iadd, 1)) (hq : pc + 1 = q) (k : G Γ nL q L (aI (w32 (a + b)) :: S) n iv rv u v) : G Γ nL pc L (aI b :: aI a :: S) n iv rv u v := by
  obtain ⟨p, l, e, R, s, m, args, below, meth, c, D, cA, sa, bs, ad0, n0, Q⟩ := Γ
  obtain ⟨hx, hb, hml, hown, hlk, hT, hK, hF, hbs, hfr, hlo⟩ := X
  intro ad H locs ls h1 h2 h3 h4 h5 h6 h7
  subst hq
  have h4a := okL_cons.mp h4
  have h4b := okL_cons.mp h4a.2
  have hb4 : inI b := h4a.1
  have ha4 : inI a := h4b.1
  have h9 := k ad H locs ls h1 h2 h3 (okL_cons.mpr ⟨okI (w32_in _), h4b.2⟩) h5 h6 h7
  have e9 : tv sa ad (aI (w32 (a + b))) = .int (Int32.ofInt a + Int32.ofInt b) := by show Value.int _ = _; rw [of_w32, Int32.ofInt_add]
  rw [List.map_cons, e9] at h9
  exact lv_iadd hx hb hd h9
theorem g_isub {Γ : GX} {own : String} {cc : ByteArray} {nL d pc q : Nat} {L S : List AV} {n : Nat} {iv : IV} {rv : RV} {u v : Nat} {a b : Int} (X : Cx Γ own cc nL d)  (hd : decode cc pc = .ok (.isub, 1)) (hq : pc + 1 = q) (k : G Γ nL q L (aI (w32 (a - b)) :: S) n iv rv u v) : G Γ nL pc L (aI b :: aI a :: S) n iv rv u v := by
  obtain ⟨p, l, e, R, s, m, args, below, meth, c, D, cA, sa, bs, ad0, n0, Q⟩ := Γ
  obtain ⟨hx, hb, hml, hown, hlk, hT, hK, hF, hbs, hfr, hlo⟩ := X
  intro ad H locs ls h1 h2 h3 h4 h5 h6 h7
  subst hq
  have h4a := okL_cons.mp h4
  have h4b := okL_cons.mp h4a.2
  have hb4 : inI b := h4a.1
  have ha4 : inI a := h4b.1
  have h9 := k ad H locs ls h1 h2 h3 (okL_cons.mpr ⟨okI (w32_in _), h4b.2⟩) h5 h6 h7
  have e9 : tv sa ad (aI (w32 (a - b))) = .int (Int32.ofInt a - Int32.ofInt b) := by show Value.int _ = _; rw [of_w32, Int32.ofInt_sub]
  rw [List.map_cons, e9] at h9
  exact lv_isub hx hb hd h9
theorem g_imul {Γ : GX} {own : String} {cc : ByteArray} {nL d pc q : Nat} {L S : List AV} {n : Nat} {iv : IV} {rv : RV} {u v : Nat} {a b : Int} (X : Cx Γ own cc nL d)  (hd : decode cc pc = .ok (.imul, 1)) (hq : pc + 1 = q) (k : G Γ nL q L (aI (w32 (a * b)) :: S) n iv rv u v) : G Γ nL pc L (aI b :: aI a :: S) n iv rv u v := by
  obtain ⟨p, l, e, R, s, m, args, below, meth, c, D, cA, sa, bs, ad0, n0, Q⟩ := Γ
  obtain ⟨hx, hb, hml, hown, hlk, hT, hK, hF, hbs, hfr, hlo⟩ := X
  intro ad H locs ls h1 h2 h3 h4 h5 h6 h7
  subst hq
  have h4a := okL_cons.mp h4
  have h4b := okL_cons.mp h4a.2
  have hb4 : inI b := h4a.1
  have ha4 : inI a := h4b.1
  have h9 := k ad H locs ls h1 h2 h3 (okL_cons.mpr ⟨okI (w32_in _), h4b.2⟩) h5 h6 h7
  have e9 : tv sa ad (aI (w32 (a * b))) = .int (Int32.ofInt a * Int32.ofInt b) := by show Value.int _ = _; rw [of_w32, Int32.ofInt_mul]
  rw [List.map_cons, e9] at h9
  exact lv_imul hx hb hd h9
theorem g_idiv {Γ : GX} {own : String} {cc : ByteArray} {nL d pc q : Nat} {L S : List AV} {n : Nat} {iv : IV} {rv : RV} {u v : Nat} {a b : Int} (X : Cx Γ own cc nL d) (hz : b ≠ 0) (hd : decode cc pc = .ok (.idiv, 1)) (hq : pc + 1 = q) (k : G Γ nL q L (aI (w32 (a.tdiv b)) :: S) n iv rv u v) : G Γ nL pc L (aI b :: aI a :: S) n iv rv u v := by
  obtain ⟨p, l, e, R, s, m, args, below, meth, c, D, cA, sa, bs, ad0, n0, Q⟩ := Γ
  obtain ⟨hx, hb, hml, hown, hlk, hT, hK, hF, hbs, hfr, hlo⟩ := X
  intro ad H locs ls h1 h2 h3 h4 h5 h6 h7
  subst hq
  have h4a := okL_cons.mp h4
  have h4b := okL_cons.mp h4a.2
  have hb4 : inI b := h4a.1
  have ha4 : inI a := h4b.1
  have h9 := k ad H locs ls h1 h2 h3 (okL_cons.mpr ⟨okI (w32_in _), h4b.2⟩) h5 h6 h7
  have e9 : tv sa ad (aI (w32 (a.tdiv b))) = .int (Int32.ofInt a / Int32.ofInt b) := by
    show Value.int _ = _
    congr 1
    apply Int32.toInt_inj.mp
    rw [Int32.toInt_div, to_of ha4, to_of hb4, to_of (w32_in _)]
    rfl
  rw [List.map_cons, e9] at h9
  exact lv_idiv hx hb hd (fun h => hz (by have h0 := congrArg Int32.toInt h; rw [to_of hb4] at h0; exact h0)) h9
theorem g_irem {Γ : GX} {own : String} {cc : ByteArray} {nL d pc q : Nat} {L S : List AV} {n : Nat} {iv : IV} {rv : RV} {u v : Nat} {a b : Int} (X : Cx Γ own cc nL d) (hz : b ≠ 0) (hd : decode cc pc = .ok (.irem, 1)) (hq : pc + 1 = q) (k : G Γ nL q L (aI (a.tmod b) :: S) n iv rv u v) : G Γ nL pc L (aI b :: aI a :: S) n iv rv u v := by
  obtain ⟨p, l, e, R, s, m, args, below, meth, c, D, cA, sa, bs, ad0, n0, Q⟩ := Γ
  obtain ⟨hx, hb, hml, hown, hlk, hT, hK, hF, hbs, hfr, hlo⟩ := X
  intro ad H locs ls h1 h2 h3 h4 h5 h6 h7
  subst hq
  have h4a := okL_cons.mp h4
  have h4b := okL_cons.mp h4a.2
  have hb4 : inI b := h4a.1
  have ha4 : inI a := h4b.1
  have h9 := k ad H locs ls h1 h2 h3 (okL_cons.mpr ⟨okI (tmod_in ha4 hb4 hz), h4b.2⟩) h5 h6 h7
  have e9 : tv sa ad (aI (a.tmod b)) = .int (Int32.ofInt a - Int32.ofInt a / Int32.ofInt b * Int32.ofInt b) := by
    show Value.int _ = _
    congr 1
    apply Int32.toInt_inj.mp
    rw [rem_toInt, to_of ha4, to_of hb4, to_of (tmod_in ha4 hb4 hz)]
  rw [List.map_cons, e9] at h9
  exact lv_irem hx hb hd (fun h => hz (by have h0 := congrArg Int32.toInt h; rw [to_of hb4] at h0; exact h0)) h9
theorem g_iand {Γ : GX} {own : String} {cc : ByteArray} {nL d pc q : Nat} {L S : List AV} {n : Nat} {iv : IV} {rv : RV} {u v : Nat} {a b : Int} (X : Cx Γ own cc nL d)  (hd : decode cc pc = .ok (.iand, 1)) (hq : pc + 1 = q) (k : G Γ nL q L (aI ((Int32.ofInt a &&& Int32.ofInt b).toInt) :: S) n iv rv u v) : G Γ nL pc L (aI b :: aI a :: S) n iv rv u v := by
  obtain ⟨p, l, e, R, s, m, args, below, meth, c, D, cA, sa, bs, ad0, n0, Q⟩ := Γ
  obtain ⟨hx, hb, hml, hown, hlk, hT, hK, hF, hbs, hfr, hlo⟩ := X
  intro ad H locs ls h1 h2 h3 h4 h5 h6 h7
  subst hq
  have h4a := okL_cons.mp h4
  have h4b := okL_cons.mp h4a.2
  have hb4 : inI b := h4a.1
  have ha4 : inI a := h4b.1
  have h9 := k ad H locs ls h1 h2 h3 (okL_cons.mpr ⟨okI (i32_in _), h4b.2⟩) h5 h6 h7
  have e9 : tv sa ad (aI (Int32.ofInt a &&& Int32.ofInt b).toInt) = .int (Int32.ofInt a &&& Int32.ofInt b) := by show Value.int _ = _; rw [Int32.ofInt_toInt]
  rw [List.map_cons, e9] at h9
  exact lv_iand hx hb hd h9
theorem g_ior {Γ : GX} {own : String} {cc : ByteArray} {nL d pc q : Nat} {L S : List AV} {n : Nat} {iv : IV} {rv : RV} {u v : Nat} {a b : Int} (X : Cx Γ own cc nL d)  (hd : decode cc pc = .ok (.ior, 1)) (hq : pc + 1 = q) (k : G Γ nL q L (aI ((Int32.ofInt a ||| Int32.ofInt b).toInt) :: S) n iv rv u v) : G Γ nL pc L (aI b :: aI a :: S) n iv rv u v := by
  obtain ⟨p, l, e, R, s, m, args, below, meth, c, D, cA, sa, bs, ad0, n0, Q⟩ := Γ
  obtain ⟨hx, hb, hml, hown, hlk, hT, hK, hF, hbs, hfr, hlo⟩ := X
  intro ad H locs ls h1 h2 h3 h4 h5 h6 h7
  subst hq
  have h4a := okL_cons.mp h4
  have h4b := okL_cons.mp h4a.2
  have hb4 : inI b := h4a.1
  have ha4 : inI a := h4b.1
  have h9 := k ad H locs ls h1 h2 h3 (okL_cons.mpr ⟨okI (i32_in _), h4b.2⟩) h5 h6 h7
  have e9 : tv sa ad (aI (Int32.ofInt a ||| Int32.ofInt b).toInt) = .int (Int32.ofInt a ||| Int32.ofInt b) := by show Value.int _ = _; rw [Int32.ofInt_toInt]
  rw [List.map_cons, e9] at h9
  exact lv_ior hx hb hd h9
theorem g_ishl {Γ : GX} {own : String} {cc : ByteArray} {nL d pc q : Nat} {L S : List AV} {n : Nat} {iv : IV} {rv : RV} {u v : Nat} {a b : Int} (X : Cx Γ own cc nL d)  (hd : decode cc pc = .ok (.ishl, 1)) (hq : pc + 1 = q) (k : G Γ nL q L (aI ((Int32.ofInt a <<< (Int32.ofInt b &&& 31)).toInt) :: S) n iv rv u v) : G Γ nL pc L (aI b :: aI a :: S) n iv rv u v := by
  obtain ⟨p, l, e, R, s, m, args, below, meth, c, D, cA, sa, bs, ad0, n0, Q⟩ := Γ
  obtain ⟨hx, hb, hml, hown, hlk, hT, hK, hF, hbs, hfr, hlo⟩ := X
  intro ad H locs ls h1 h2 h3 h4 h5 h6 h7
  subst hq
  have h4a := okL_cons.mp h4
  have h4b := okL_cons.mp h4a.2
  have hb4 : inI b := h4a.1
  have ha4 : inI a := h4b.1
  have h9 := k ad H locs ls h1 h2 h3 (okL_cons.mpr ⟨okI (i32_in _), h4b.2⟩) h5 h6 h7
  have e9 : tv sa ad (aI (Int32.ofInt a <<< (Int32.ofInt b &&& 31)).toInt) = .int (Int32.ofInt a <<< (Int32.ofInt b &&& 31)) := by show Value.int _ = _; rw [Int32.ofInt_toInt]
  rw [List.map_cons, e9] at h9
  exact lv_ishl hx hb hd h9
theorem g_ishr {Γ : GX} {own : String} {cc : ByteArray} {nL d pc q : Nat} {L S : List AV} {n : Nat} {iv : IV} {rv : RV} {u v : Nat} {a b : Int} (X : Cx Γ own cc nL d)  (hd : decode cc pc = .ok (.ishr, 1)) (hq : pc + 1 = q) (k : G Γ nL q L (aI ((Int32.ofInt a >>> (Int32.ofInt b &&& 31)).toInt) :: S) n iv rv u v) : G Γ nL pc L (aI b :: aI a :: S) n iv rv u v := by
  obtain ⟨p, l, e, R, s, m, args, below, meth, c, D, cA, sa, bs, ad0, n0, Q⟩ := Γ
  obtain ⟨hx, hb, hml, hown, hlk, hT, hK, hF, hbs, hfr, hlo⟩ := X
  intro ad H locs ls h1 h2 h3 h4 h5 h6 h7
  subst hq
  have h4a := okL_cons.mp h4
  have h4b := okL_cons.mp h4a.2
  have hb4 : inI b := h4a.1
  have ha4 : inI a := h4b.1
  have h9 := k ad H locs ls h1 h2 h3 (okL_cons.mpr ⟨okI (i32_in _), h4b.2⟩) h5 h6 h7
  have e9 : tv sa ad (aI (Int32.ofInt a >>> (Int32.ofInt b &&& 31)).toInt) = .int (Int32.ofInt a >>> (Int32.ofInt b &&& 31)) := by show Value.int _ = _; rw [Int32.ofInt_toInt]
  rw [List.map_cons, e9] at h9
  exact lv_ishr hx hb hd h9
theorem g_ladd {Γ : GX} {own : String} {cc : ByteArray} {nL d pc q : Nat} {L S : List AV} {n : Nat} {iv : IV} {rv : RV} {u v : Nat} {a b : Int} (X : Cx Γ own cc nL d)  (hd : decode cc pc = .ok (.ladd, 1)) (hq : pc + 1 = q) (k : G Γ nL q L (aL (w64 (a + b)) :: S) n iv rv u v) : G Γ nL pc L (aL b :: aL a :: S) n iv rv u v := by
  obtain ⟨p, l, e, R, s, m, args, below, meth, c, D, cA, sa, bs, ad0, n0, Q⟩ := Γ
  obtain ⟨hx, hb, hml, hown, hlk, hT, hK, hF, hbs, hfr, hlo⟩ := X
  intro ad H locs ls h1 h2 h3 h4 h5 h6 h7
  subst hq
  have h4a := okL_cons.mp h4
  have h4b := okL_cons.mp h4a.2
  have hb4 : inL b := h4a.1
  have ha4 : inL a := h4b.1
  have h9 := k ad H locs ls h1 h2 h3 (okL_cons.mpr ⟨okJ (w64_in _), h4b.2⟩) h5 h6 h7
  have e9 : tv sa ad (aL (w64 (a + b))) = .long (Int64.ofInt a + Int64.ofInt b) := by show Value.long _ = _; rw [of_w64, Int64.ofInt_add]
  rw [List.map_cons, e9] at h9
  exact lv_ladd hx hb hd h9
theorem g_lmul {Γ : GX} {own : String} {cc : ByteArray} {nL d pc q : Nat} {L S : List AV} {n : Nat} {iv : IV} {rv : RV} {u v : Nat} {a b : Int} (X : Cx Γ own cc nL d)  (hd : decode cc pc = .ok (.lmul, 1)) (hq : pc + 1 = q) (k : G Γ nL q L (aL (w64 (a * b)) :: S) n iv rv u v) : G Γ nL pc L (aL b :: aL a :: S) n iv rv u v := by
  obtain ⟨p, l, e, R, s, m, args, below, meth, c, D, cA, sa, bs, ad0, n0, Q⟩ := Γ
  obtain ⟨hx, hb, hml, hown, hlk, hT, hK, hF, hbs, hfr, hlo⟩ := X
  intro ad H locs ls h1 h2 h3 h4 h5 h6 h7
  subst hq
  have h4a := okL_cons.mp h4
  have h4b := okL_cons.mp h4a.2
  have hb4 : inL b := h4a.1
  have ha4 : inL a := h4b.1
  have h9 := k ad H locs ls h1 h2 h3 (okL_cons.mpr ⟨okJ (w64_in _), h4b.2⟩) h5 h6 h7
  have e9 : tv sa ad (aL (w64 (a * b))) = .long (Int64.ofInt a * Int64.ofInt b) := by show Value.long _ = _; rw [of_w64, Int64.ofInt_mul]
  rw [List.map_cons, e9] at h9
  exact lv_lmul hx hb hd h9
theorem g_lcmp {Γ : GX} {own : String} {cc : ByteArray} {nL d pc q : Nat} {L S : List AV} {n : Nat} {iv : IV} {rv : RV} {u v : Nat} {a b : Int} (X : Cx Γ own cc nL d) (hd : decode cc pc = .ok (.lcmp, 1)) (hq : pc + 1 = q) (k : G Γ nL q L (aI (if b < a then 1 else if a = b then 0 else -1) :: S) n iv rv u v) : G Γ nL pc L (aL b :: aL a :: S) n iv rv u v := by
  obtain ⟨p, l, e, R, s, m, args, below, meth, c, D, cA, sa, bs, ad0, n0, Q⟩ := Γ
  obtain ⟨hx, hb, hml, hown, hlk, hT, hK, hF, hbs, hfr, hlo⟩ := X
  intro ad H locs ls h1 h2 h3 h4 h5 h6 h7
  subst hq
  have h4a := okL_cons.mp h4
  have h4b := okL_cons.mp h4a.2
  have hb4 : inL b := h4a.1
  have ha4 : inL a := h4b.1
  have h9 := k ad H locs ls h1 h2 h3 (okL_cons.mpr ⟨okI (by unfold inI; split; omega; split <;> omega), h4b.2⟩) h5 h6 h7
  have e9 : tv sa ad (aI (if b < a then 1 else if a = b then 0 else -1)) = .int (lg_cmp (Int64.ofInt a) (Int64.ofInt b)) := by
    show Value.int _ = _
    congr 1
    have e1 : Int64.ofInt a > Int64.ofInt b ↔ b < a := by show Int64.ofInt b < Int64.ofInt a ↔ _; rw [Int64.lt_iff_toInt_lt, to_ofL ha4, to_ofL hb4]
    have e2 : Int64.ofInt a = Int64.ofInt b ↔ a = b := by rw [← Int64.toInt_inj, to_ofL ha4, to_ofL hb4]
    unfold lg_cmp
    by_cases c1 : b < a
    · rw [if_pos c1, if_pos (e1.mpr c1)]; rfl
    · rw [if_neg c1, if_neg (fun h => c1 (e1.mp h))]
      by_cases c2 : a = b
      · rw [if_pos c2, if_pos (e2.mpr c2)]; rfl
      · rw [if_neg c2, if_neg (fun h => c2 (e2.mp h))]; rfl
  rw [List.map_cons, e9] at h9
  exact W.lcmp hx hb hd h9
theorem g_i2l {Γ : GX} {own : String} {cc : ByteArray} {nL d pc q : Nat} {L S : List AV} {n : Nat} {iv : IV} {rv : RV} {u v : Nat} {a : Int} (X : Cx Γ own cc nL d) (hd : decode cc pc = .ok (.i2l, 1)) (hq : pc + 1 = q) (k : G Γ nL q L (aL (a) :: S) n iv rv u v) : G Γ nL pc L (aI a :: S) n iv rv u v := by
  obtain ⟨p, l, e, R, s, m, args, below, meth, c, D, cA, sa, bs, ad0, n0, Q⟩ := Γ
  obtain ⟨hx, hb, hml, hown, hlk, hT, hK, hF, hbs, hfr, hlo⟩ := X
  intro ad H locs ls h1 h2 h3 h4 h5 h6 h7
  subst hq
  have h4a := okL_cons.mp h4
  have ha4 : inI a := h4a.1
  have h9 := k ad H locs ls h1 h2 h3 (okL_cons.mpr ⟨okJ (by have := ha4; unfold inI at this; unfold inL; omega), h4a.2⟩) h5 h6 h7
  exact lv_i2l hx hb hd (by rw [← Int64.ofInt_int32ToInt, to_of ha4]) h9
theorem g_l2i {Γ : GX} {own : String} {cc : ByteArray} {nL d pc q : Nat} {L S : List AV} {n : Nat} {iv : IV} {rv : RV} {u v : Nat} {a : Int} (X : Cx Γ own cc nL d) (hd : decode cc pc = .ok (.l2i, 1)) (hq : pc + 1 = q) (k : G Γ nL q L (aI (w32 a) :: S) n iv rv u v) : G Γ nL pc L (aL a :: S) n iv rv u v := by
  obtain ⟨p, l, e, R, s, m, args, below, meth, c, D, cA, sa, bs, ad0, n0, Q⟩ := Γ
  obtain ⟨hx, hb, hml, hown, hlk, hT, hK, hF, hbs, hfr, hlo⟩ := X
  intro ad H locs ls h1 h2 h3 h4 h5 h6 h7
  subst hq
  have h4a := okL_cons.mp h4
  have ha4 : inL a := h4a.1
  have h9 := k ad H locs ls h1 h2 h3 (okL_cons.mpr ⟨okI (w32_in _), h4a.2⟩) h5 h6 h7
  exact lv_l2i hx hb hd (by rw [← Int32.ofInt_int64ToInt, to_ofL ha4, of_w32]) h9
theorem g_i2b {Γ : GX} {own : String} {cc : ByteArray} {nL d pc q : Nat} {L S : List AV} {n : Nat} {iv : IV} {rv : RV} {u v : Nat} {a : Int} (X : Cx Γ own cc nL d) (hd : decode cc pc = .ok (.i2b, 1)) (hq : pc + 1 = q) (k : G Γ nL q L (aI ((Int32.ofInt a).toInt8.toInt32.toInt) :: S) n iv rv u v) : G Γ nL pc L (aI a :: S) n iv rv u v := by
  obtain ⟨p, l, e, R, s, m, args, below, meth, c, D, cA, sa, bs, ad0, n0, Q⟩ := Γ
  obtain ⟨hx, hb, hml, hown, hlk, hT, hK, hF, hbs, hfr, hlo⟩ := X
  intro ad H locs ls h1 h2 h3 h4 h5 h6 h7
  subst hq
  have h4a := okL_cons.mp h4
  have ha4 : inI a := h4a.1
  have h9 := k ad H locs ls h1 h2 h3 (okL_cons.mpr ⟨okI (i32_in _), h4a.2⟩) h5 h6 h7
  exact lv_i2b hx hb hd (by rw [Int32.ofInt_toInt]) h9
theorem g_i2c {Γ : GX} {own : String} {cc : ByteArray} {nL d pc q : Nat} {L S : List AV} {n : Nat} {iv : IV} {rv : RV} {u v : Nat} {a : Int} (X : Cx Γ own cc nL d) (hd : decode cc pc = .ok (.i2c, 1)) (hq : pc + 1 = q) (k : G Γ nL q L (aI (((Int32.ofInt a).toUInt32 % 65536).toInt32.toInt) :: S) n iv rv u v) : G Γ nL pc L (aI a :: S) n iv rv u v := by
  obtain ⟨p, l, e, R, s, m, args, below, meth, c, D, cA, sa, bs, ad0, n0, Q⟩ := Γ
  obtain ⟨hx, hb, hml, hown, hlk, hT, hK, hF, hbs, hfr, hlo⟩ := X
  intro ad H locs ls h1 h2 h3 h4 h5 h6 h7
  subst hq
  have h4a := okL_cons.mp h4
  have ha4 : inI a := h4a.1
  have h9 := k ad H locs ls h1 h2 h3 (okL_cons.mpr ⟨okI (i32_in _), h4a.2⟩) h5 h6 h7
  exact lv_i2c hx hb hd (by rw [Int32.ofInt_toInt]) h9
def cat1 (a : AV) : Bool := match a with
  | .inr (.inl _) => false
  | _ => true
theorem cat1_tv {sa ad : Nat → Nat} {a : AV} (h : cat1 a = true) : (tv sa ad a).category = 1 := by
  rcases a with x | x | r | y
  · rfl
  · cases h
  · cases r <;> rfl
  · rfl
theorem g_dup {Γ : GX} {own : String} {cc : ByteArray} {nL d pc q : Nat} {L S : List AV} {n : Nat} {iv : IV} {rv : RV} {u v : Nat} {a : AV} (X : Cx Γ own cc nL d) (hd : decode cc pc = .ok (.dup, 1)) (hq : pc + 1 = q) (hc : cat1 a = true) (k : G Γ nL q L (a :: a :: S) n iv rv u v) : G Γ nL pc L (a :: S) n iv rv u v := by
  obtain ⟨p, l, e, R, s, m, args, below, meth, c, D, cA, sa, bs, ad0, n0, Q⟩ := Γ
  obtain ⟨hx, hb, hml, hown, hlk, hT, hK, hF, hbs, hfr, hlo⟩ := X
  intro ad H locs ls h1 h2 h3 h4 h5 h6 h7
  subst hq
  have h4a := okL_cons.mp h4
  exact lv_dup hx hb hd (cat1_tv hc) (k ad H locs ls h1 h2 h3 (okL_cons.mpr ⟨h4a.1, h4⟩) h5 h6 h7)
theorem g_pop {Γ : GX} {own : String} {cc : ByteArray} {nL d pc q : Nat} {L S : List AV} {n : Nat} {iv : IV} {rv : RV} {u v : Nat} {a : AV} (X : Cx Γ own cc nL d) (hd : decode cc pc = .ok (.pop, 1)) (hq : pc + 1 = q) (hc : cat1 a = true) (k : G Γ nL q L S n iv rv u v) : G Γ nL pc L (a :: S) n iv rv u v := by
  obtain ⟨p, l, e, R, s, m, args, below, meth, c, D, cA, sa, bs, ad0, n0, Q⟩ := Γ
  obtain ⟨hx, hb, hml, hown, hlk, hT, hK, hF, hbs, hfr, hlo⟩ := X
  intro ad H locs ls h1 h2 h3 h4 h5 h6 h7
  subst hq
  have h4a := okL_cons.mp h4
  exact lv_pop hx hb hd (cat1_tv hc) (k ad H locs ls h1 h2 h3 h4a.2 h5 h6 h7)
theorem g_dup2 {Γ : GX} {own : String} {cc : ByteArray} {nL d pc q : Nat} {L S : List AV} {n : Nat} {iv : IV} {rv : RV} {u v : Nat} {a b : AV} (X : Cx Γ own cc nL d) (hd : decode cc pc = .ok (.dup2, 1)) (hq : pc + 1 = q) (hc : cat1 a = true) (hc2 : cat1 b = true) (k : G Γ nL q L (a :: b :: a :: b :: S) n iv rv u v) : G Γ nL pc L (a :: b :: S) n iv rv u v := by
  obtain ⟨p, l, e, R, s, m, args, below, meth, c, D, cA, sa, bs, ad0, n0, Q⟩ := Γ
  obtain ⟨hx, hb, hml, hown, hlk, hT, hK, hF, hbs, hfr, hlo⟩ := X
  intro ad H locs ls h1 h2 h3 h4 h5 h6 h7
  subst hq
  have h4a := okL_cons.mp h4
  have h4b := okL_cons.mp h4a.2
  exact lv_dup2_11 hx hb hd (cat1_tv hc) (cat1_tv hc2) (k ad H locs ls h1 h2 h3 (okL_cons.mpr ⟨h4a.1, okL_cons.mpr ⟨h4b.1, h4⟩⟩) h5 h6 h7)
theorem i0 : inI 0 := by unfold inI; omega
theorem g_if_eq {Γ : GX} {own : String} {cc : ByteArray} {nL d pc q : Nat} {L S : List AV} {n : Nat} {iv : IV} {rv : RV} {u v : Nat} {x off : Int} (t : Nat) (X : Cx Γ own cc nL d) (hd : decode cc pc = .ok (.ifCond .eq off, 3)) (ht : (pc : Int) + off = (t : Int)) (hq : pc + 3 = q) (kt : x = 0 → G Γ nL t L S n iv rv u v) (kf : ¬ (x = 0) → G Γ nL q L S n iv rv u v) : G Γ nL pc L (aI x :: S) n iv rv u v := by
  obtain ⟨p, l, e, R, s, m, args, below, meth, c, D, cA, sa, bs, ad0, n0, Q⟩ := Γ
  obtain ⟨hx, hb, hml, hown, hlk, hT, hK, hF, hbs, hfr, hlo⟩ := X
  intro ad H locs ls h1 h2 h3 h4 h5 h6 h7
  subst hq
  have h4a := okL_cons.mp h4
  have hx4 : inI x := h4a.1
  have e9 := (of_eq hx4 i0)
  exact lv_if_eq hx hb hd ht (fun hc => kt (e9.mp hc) ad H locs ls h1 h2 h3 h4a.2 h5 h6 h7) (fun hc => kf (fun h => hc (e9.mpr h)) ad H locs ls h1 h2 h3 h4a.2 h5 h6 h7)
theorem g_if_ne {Γ : GX} {own : String} {cc : ByteArray} {nL d pc q : Nat} {L S : List AV} {n : Nat} {iv : IV} {rv : RV} {u v : Nat} {x off : Int} (t : Nat) (X : Cx Γ own cc nL d) (hd : decode cc pc = .ok (.ifCond .ne off, 3)) (ht : (pc : Int) + off = (t : Int)) (hq : pc + 3 = q) (kt : x ≠ 0 → G Γ nL t L S n iv rv u v) (kf : x = 0 → G Γ nL q L S n iv rv u v) : G Γ nL pc L (aI x :: S) n iv rv u v := by
  obtain ⟨p, l, e, R, s, m, args, below, meth, c, D, cA, sa, bs, ad0, n0, Q⟩ := Γ
  obtain ⟨hx, hb, hml, hown, hlk, hT, hK, hF, hbs, hfr, hlo⟩ := X
  intro ad H locs ls h1 h2 h3 h4 h5 h6 h7
  subst hq
  have h4a := okL_cons.mp h4
  have hx4 : inI x := h4a.1
  have e9 := (not_congr (of_eq hx4 i0))
  exact lv_if_ne hx hb hd ht (fun hc => kt (e9.mp hc) ad H locs ls h1 h2 h3 h4a.2 h5 h6 h7) (fun hc => kf ((of_eq hx4 i0).mp hc) ad H locs ls h1 h2 h3 h4a.2 h5 h6 h7)
theorem g_if_lt {Γ : GX} {own : String} {cc : ByteArray} {nL d pc q : Nat} {L S : List AV} {n : Nat} {iv : IV} {rv : RV} {u v : Nat} {x off : Int} (t : Nat) (X : Cx Γ own cc nL d) (hd : decode cc pc = .ok (.ifCond .lt off, 3)) (ht : (pc : Int) + off = (t : Int)) (hq : pc + 3 = q) (kt : x < 0 → G Γ nL t L S n iv rv u v) (kf : ¬ (x < 0) → G Γ nL q L S n iv rv u v) : G Γ nL pc L (aI x :: S) n iv rv u v := by
  obtain ⟨p, l, e, R, s, m, args, below, meth, c, D, cA, sa, bs, ad0, n0, Q⟩ := Γ
  obtain ⟨hx, hb, hml, hown, hlk, hT, hK, hF, hbs, hfr, hlo⟩ := X
  intro ad H locs ls h1 h2 h3 h4 h5 h6 h7
  subst hq
  have h4a := okL_cons.mp h4
  have hx4 : inI x := h4a.1
  have e9 := (of_lt hx4 i0)
  exact lv_if_lt hx hb hd ht (fun hc => kt (e9.mp hc) ad H locs ls h1 h2 h3 h4a.2 h5 h6 h7) (fun hc => kf (fun h => hc (e9.mpr h)) ad H locs ls h1 h2 h3 h4a.2 h5 h6 h7)
theorem g_if_ge {Γ : GX} {own : String} {cc : ByteArray} {nL d pc q : Nat} {L S : List AV} {n : Nat} {iv : IV} {rv : RV} {u v : Nat} {x off : Int} (t : Nat) (X : Cx Γ own cc nL d) (hd : decode cc pc = .ok (.ifCond .ge off, 3)) (ht : (pc : Int) + off = (t : Int)) (hq : pc + 3 = q) (kt : 0 ≤ x → G Γ nL t L S n iv rv u v) (kf : ¬ (0 ≤ x) → G Γ nL q L S n iv rv u v) : G Γ nL pc L (aI x :: S) n iv rv u v := by
  obtain ⟨p, l, e, R, s, m, args, below, meth, c, D, cA, sa, bs, ad0, n0, Q⟩ := Γ
  obtain ⟨hx, hb, hml, hown, hlk, hT, hK, hF, hbs, hfr, hlo⟩ := X
  intro ad H locs ls h1 h2 h3 h4 h5 h6 h7
  subst hq
  have h4a := okL_cons.mp h4
  have hx4 : inI x := h4a.1
  have e9 := (of_le i0 hx4)
  exact lv_if_ge hx hb hd ht (fun hc => kt (e9.mp hc) ad H locs ls h1 h2 h3 h4a.2 h5 h6 h7) (fun hc => kf (fun h => hc (e9.mpr h)) ad H locs ls h1 h2 h3 h4a.2 h5 h6 h7)
theorem g_if_gt {Γ : GX} {own : String} {cc : ByteArray} {nL d pc q : Nat} {L S : List AV} {n : Nat} {iv : IV} {rv : RV} {u v : Nat} {x off : Int} (t : Nat) (X : Cx Γ own cc nL d) (hd : decode cc pc = .ok (.ifCond .gt off, 3)) (ht : (pc : Int) + off = (t : Int)) (hq : pc + 3 = q) (kt : 0 < x → G Γ nL t L S n iv rv u v) (kf : ¬ (0 < x) → G Γ nL q L S n iv rv u v) : G Γ nL pc L (aI x :: S) n iv rv u v := by
  obtain ⟨p, l, e, R, s, m, args, below, meth, c, D, cA, sa, bs, ad0, n0, Q⟩ := Γ
  obtain ⟨hx, hb, hml, hown, hlk, hT, hK, hF, hbs, hfr, hlo⟩ := X
  intro ad H locs ls h1 h2 h3 h4 h5 h6 h7
  subst hq
  have h4a := okL_cons.mp h4
  have hx4 : inI x := h4a.1
  have e9 := (of_lt i0 hx4)
  exact lv_if_gt hx hb hd ht (fun hc => kt (e9.mp hc) ad H locs ls h1 h2 h3 h4a.2 h5 h6 h7) (fun hc => kf (fun h => hc (e9.mpr h)) ad H locs ls h1 h2 h3 h4a.2 h5 h6 h7)
theorem g_if_le {Γ : GX} {own : String} {cc : ByteArray} {nL d pc q : Nat} {L S : List AV} {n : Nat} {iv : IV} {rv : RV} {u v : Nat} {x off : Int} (t : Nat) (X : Cx Γ own cc nL d) (hd : decode cc pc = .ok (.ifCond .le off, 3)) (ht : (pc : Int) + off = (t : Int)) (hq : pc + 3 = q) (kt : x ≤ 0 → G Γ nL t L S n iv rv u v) (kf : ¬ (x ≤ 0) → G Γ nL q L S n iv rv u v) : G Γ nL pc L (aI x :: S) n iv rv u v := by
  obtain ⟨p, l, e, R, s, m, args, below, meth, c, D, cA, sa, bs, ad0, n0, Q⟩ := Γ
  obtain ⟨hx, hb, hml, hown, hlk, hT, hK, hF, hbs, hfr, hlo⟩ := X
  intro ad H locs ls h1 h2 h3 h4 h5 h6 h7
  subst hq
  have h4a := okL_cons.mp h4
  have hx4 : inI x := h4a.1
  have e9 := (of_le hx4 i0)
  exact lv_if_le hx hb hd ht (fun hc => kt (e9.mp hc) ad H locs ls h1 h2 h3 h4a.2 h5 h6 h7) (fun hc => kf (fun h => hc (e9.mpr h)) ad H locs ls h1 h2 h3 h4a.2 h5 h6 h7)
theorem g_icmp_eq {Γ : GX} {own : String} {cc : ByteArray} {nL d pc q : Nat} {L S : List AV} {n : Nat} {iv : IV} {rv : RV} {u v : Nat} {x y off : Int} (t : Nat) (X : Cx Γ own cc nL d) (hd : decode cc pc = .ok (.if_icmp .eq off, 3)) (ht : (pc : Int) + off = (t : Int)) (hq : pc + 3 = q) (kt : x = y → G Γ nL t L S n iv rv u v) (kf : ¬ (x = y) → G Γ nL q L S n iv rv u v) : G Γ nL pc L (aI y :: aI x :: S) n iv rv u v := by
  obtain ⟨p, l, e, R, s, m, args, below, meth, c, D, cA, sa, bs, ad0, n0, Q⟩ := Γ
  obtain ⟨hx, hb, hml, hown, hlk, hT, hK, hF, hbs, hfr, hlo⟩ := X
  intro ad H locs ls h1 h2 h3 h4 h5 h6 h7
  subst hq
  have h4a := okL_cons.mp h4
  have h4b := okL_cons.mp h4a.2
  have hy4 : inI y := h4a.1
  have hx4 : inI x := h4b.1
  have e9 := (of_eq hx4 hy4)
  exact lv_icmp_eq hx hb hd ht (fun hc => kt (e9.mp hc) ad H locs ls h1 h2 h3 h4b.2 h5 h6 h7) (fun hc => kf (fun h => hc (e9.mpr h)) ad H locs ls h1 h2 h3 h4b.2 h5 h6 h7)
theorem g_icmp_ne {Γ : GX} {own : String} {cc : ByteArray} {nL d pc q : Nat} {L S : List AV} {n : Nat} {iv : IV} {rv : RV} {u v : Nat} {x y off : Int} (t : Nat) (X : Cx Γ own cc nL d) (hd : decode cc pc = .ok (.if_icmp .ne off, 3)) (ht : (pc : Int) + off = (t : Int)) (hq : pc + 3 = q) (kt : x ≠ y → G Γ nL t L S n iv rv u v) (kf : x = y → G Γ nL q L S n iv rv u v) : G Γ nL pc L (aI y :: aI x :: S) n iv rv u v := by
  obtain ⟨p, l, e, R, s, m, args, below, meth, c, D, cA, sa, bs, ad0, n0, Q⟩ := Γ
  obtain ⟨hx, hb, hml, hown, hlk, hT, hK, hF, hbs, hfr, hlo⟩ := X
  intro ad H locs ls h1 h2 h3 h4 h5 h6 h7
  subst hq
  have h4a := okL_cons.mp h4
  have h4b := okL_cons.mp h4a.2
  have hy4 : inI y := h4a.1
  have hx4 : inI x := h4b.1
  have e9 := (not_congr (of_eq hx4 hy4))
  exact lv_icmp_ne hx hb hd ht (fun hc => kt (e9.mp hc) ad H locs ls h1 h2 h3 h4b.2 h5 h6 h7) (fun hc => kf ((of_eq hx4 hy4).mp hc) ad H locs ls h1 h2 h3 h4b.2 h5 h6 h7)
theorem g_icmp_lt {Γ : GX} {own : String} {cc : ByteArray} {nL d pc q : Nat} {L S : List AV} {n : Nat} {iv : IV} {rv : RV} {u v : Nat} {x y off : Int} (t : Nat) (X : Cx Γ own cc nL d) (hd : decode cc pc = .ok (.if_icmp .lt off, 3)) (ht : (pc : Int) + off = (t : Int)) (hq : pc + 3 = q) (kt : x < y → G Γ nL t L S n iv rv u v) (kf : ¬ (x < y) → G Γ nL q L S n iv rv u v) : G Γ nL pc L (aI y :: aI x :: S) n iv rv u v := by
  obtain ⟨p, l, e, R, s, m, args, below, meth, c, D, cA, sa, bs, ad0, n0, Q⟩ := Γ
  obtain ⟨hx, hb, hml, hown, hlk, hT, hK, hF, hbs, hfr, hlo⟩ := X
  intro ad H locs ls h1 h2 h3 h4 h5 h6 h7
  subst hq
  have h4a := okL_cons.mp h4
  have h4b := okL_cons.mp h4a.2
  have hy4 : inI y := h4a.1
  have hx4 : inI x := h4b.1
  have e9 := (of_lt hx4 hy4)
  exact lv_icmp_lt hx hb hd ht (fun hc => kt (e9.mp hc) ad H locs ls h1 h2 h3 h4b.2 h5 h6 h7) (fun hc => kf (fun h => hc (e9.mpr h)) ad H locs ls h1 h2 h3 h4b.2 h5 h6 h7)
theorem g_icmp_ge {Γ : GX} {own : String} {cc : ByteArray} {nL d pc q : Nat} {L S : List AV} {n : Nat} {iv : IV} {rv : RV} {u v : Nat} {x y off : Int} (t : Nat) (X : Cx Γ own cc nL d) (hd : decode cc pc = .ok (.if_icmp .ge off, 3)) (ht : (pc : Int) + off = (t : Int)) (hq : pc + 3 = q) (kt : y ≤ x → G Γ nL t L S n iv rv u v) (kf : ¬ (y ≤ x) → G Γ nL q L S n iv rv u v) : G Γ nL pc L (aI y :: aI x :: S) n iv rv u v := by
  obtain ⟨p, l, e, R, s, m, args, below, meth, c, D, cA, sa, bs, ad0, n0, Q⟩ := Γ
  obtain ⟨hx, hb, hml, hown, hlk, hT, hK, hF, hbs, hfr, hlo⟩ := X
  intro ad H locs ls h1 h2 h3 h4 h5 h6 h7
  subst hq
  have h4a := okL_cons.mp h4
  have h4b := okL_cons.mp h4a.2
  have hy4 : inI y := h4a.1
  have hx4 : inI x := h4b.1
  have e9 := (of_le hy4 hx4)
  exact lv_icmp_ge hx hb hd ht (fun hc => kt (e9.mp hc) ad H locs ls h1 h2 h3 h4b.2 h5 h6 h7) (fun hc => kf (fun h => hc (e9.mpr h)) ad H locs ls h1 h2 h3 h4b.2 h5 h6 h7)
theorem g_icmp_gt {Γ : GX} {own : String} {cc : ByteArray} {nL d pc q : Nat} {L S : List AV} {n : Nat} {iv : IV} {rv : RV} {u v : Nat} {x y off : Int} (t : Nat) (X : Cx Γ own cc nL d) (hd : decode cc pc = .ok (.if_icmp .gt off, 3)) (ht : (pc : Int) + off = (t : Int)) (hq : pc + 3 = q) (kt : y < x → G Γ nL t L S n iv rv u v) (kf : ¬ (y < x) → G Γ nL q L S n iv rv u v) : G Γ nL pc L (aI y :: aI x :: S) n iv rv u v := by
  obtain ⟨p, l, e, R, s, m, args, below, meth, c, D, cA, sa, bs, ad0, n0, Q⟩ := Γ
  obtain ⟨hx, hb, hml, hown, hlk, hT, hK, hF, hbs, hfr, hlo⟩ := X
  intro ad H locs ls h1 h2 h3 h4 h5 h6 h7
  subst hq
  have h4a := okL_cons.mp h4
  have h4b := okL_cons.mp h4a.2
  have hy4 : inI y := h4a.1
  have hx4 : inI x := h4b.1
  have e9 := (of_lt hy4 hx4)
  exact lv_icmp_gt hx hb hd ht (fun hc => kt (e9.mp hc) ad H locs ls h1 h2 h3 h4b.2 h5 h6 h7) (fun hc => kf (fun h => hc (e9.mpr h)) ad H locs ls h1 h2 h3 h4b.2 h5 h6 h7)
theorem g_icmp_le {Γ : GX} {own : String} {cc : ByteArray} {nL d pc q : Nat} {L S : List AV} {n : Nat} {iv : IV} {rv : RV} {u v : Nat} {x y off : Int} (t : Nat) (X : Cx Γ own cc nL d) (hd : decode cc pc = .ok (.if_icmp .le off, 3)) (ht : (pc : Int) + off = (t : Int)) (hq : pc + 3 = q) (kt : x ≤ y → G Γ nL t L S n iv rv u v) (kf : ¬ (x ≤ y) → G Γ nL q L S n iv rv u v) : G Γ nL pc L (aI y :: aI x :: S) n iv rv u v := by
  obtain ⟨p, l, e, R, s, m, args, below, meth, c, D, cA, sa, bs, ad0, n0, Q⟩ := Γ
  obtain ⟨hx, hb, hml, hown, hlk, hT, hK, hF, hbs, hfr, hlo⟩ := X
  intro ad H locs ls h1 h2 h3 h4 h5 h6 h7
  subst hq
  have h4a := okL_cons.mp h4
  have h4b := okL_cons.mp h4a.2
  have hy4 : inI y := h4a.1
  have hx4 : inI x := h4b.1
  have e9 := (of_le hx4 hy4)
  exact lv_icmp_le hx hb hd ht (fun hc => kt (e9.mp hc) ad H locs ls h1 h2 h3 h4b.2 h5 h6 h7) (fun hc => kf (fun h => hc (e9.mpr h)) ad H locs ls h1 h2 h3 h4b.2 h5 h6 h7)
theorem g_ifnull {Γ : GX} {own : String} {cc : ByteArray} {nL d pc q : Nat} {L S : List AV} {n : Nat} {iv : IV} {rv : RV} {u v : Nat} {r : Option Nat} {off : Int} (t : Nat) (X : Cx Γ own cc nL d) (hd : decode cc pc = .ok (.ifnull off, 3)) (ht : (pc : Int) + off = (t : Int)) (hq : pc + 3 = q) (kt : r = none → G Γ nL t L S n iv rv u v) (kf : ¬ (r = none) → G Γ nL q L S n iv rv u v) : G Γ nL pc L (aR r :: S) n iv rv u v := by
  obtain ⟨p, l, e, R, s, m, args, below, meth, c, D, cA, sa, bs, ad0, n0, Q⟩ := Γ
  obtain ⟨hx, hb, hml, hown, hlk, hT, hK, hF, hbs, hfr, hlo⟩ := X
  intro ad H locs ls h1 h2 h3 h4 h5 h6 h7
  subst hq
  have h4a := okL_cons.mp h4
  cases r with
  | none => exact lv_ifnullN hx hb hd ht (kt rfl ad H locs ls h1 h2 h3 h4a.2 h5 h6 h7)
  | some y => exact lv_ifnull hx hb hd (kf (fun h => by cases h) ad H locs ls h1 h2 h3 h4a.2 h5 h6 h7)
theorem g_ifnonnull {Γ : GX} {own : String} {cc : ByteArray} {nL d pc q : Nat} {L S : List AV} {n : Nat} {iv : IV} {rv : RV} {u v : Nat} {r : Option Nat} {off : Int} (t : Nat) (X : Cx Γ own cc nL d) (hd : decode cc pc = .ok (.ifnonnull off, 3)) (ht : (pc : Int) + off = (t : Int)) (hq : pc + 3 = q) (kt : ¬ (r = none) → G Γ nL t L S n iv rv u v) (kf : r = none → G Γ nL q L S n iv rv u v) : G Γ nL pc L (aR r :: S) n iv rv u v := by
  obtain ⟨p, l, e, R, s, m, args, below, meth, c, D, cA, sa, bs, ad0, n0, Q⟩ := Γ
  obtain ⟨hx, hb, hml, hown, hlk, hT, hK, hF, hbs, hfr, hlo⟩ := X
  intro ad H locs ls h1 h2 h3 h4 h5 h6 h7
  subst hq
  have h4a := okL_cons.mp h4
  cases r with
  | none => exact lv_ifnonnullN hx hb hd (kf rfl ad H locs ls h1 h2 h3 h4a.2 h5 h6 h7)
  | some y => exact lv_ifnonnull hx hb hd ht (kt (fun h => by cases h) ad H locs ls h1 h2 h3 h4a.2 h5 h6 h7)
theorem g_goto {Γ : GX} {own : String} {cc : ByteArray} {nL d pc q : Nat} {L S : List AV} {n : Nat} {iv : IV} {rv : RV} {u v : Nat} {off : Int} (X : Cx Γ own cc nL d) (hd : decode cc pc = .ok (.goto off, 3)) (ht : (pc : Int) + off = (q : Int)) (k : G Γ nL q L S n iv rv u v) : G Γ nL pc L S n iv rv u v := by
  obtain ⟨p, l, e, R, s, m, args, below, meth, c, D, cA, sa, bs, ad0, n0, Q⟩ := Γ
  obtain ⟨hx, hb, hml, hown, hlk, hT, hK, hF, hbs, hfr, hlo⟩ := X
  intro ad H locs ls h1 h2 h3 h4 h5 h6 h7
  exact lv_goto hx hb hd ht (k ad H locs ls h1 h2 h3 h4 h5 h6 h7)
theorem g_tswOut {Γ : GX} {own : String} {cc : ByteArray} {nL d pc q : Nat} {L S : List AV} {n : Nat} {iv : IV} {rv : RV} {u v : Nat} {x dflt lo hi : Int} {offs : Array Int} {ln : Nat} (X : Cx Γ own cc nL d) (hd : decode cc pc = .ok (.tableswitch dflt lo hi offs, ln)) (ht : (pc : Int) + dflt = (q : Int)) (hx0 : x < lo ∨ hi < x) (k : G Γ nL q L S n iv rv u v) : G Γ nL pc L (aI x :: S) n iv rv u v := by
  obtain ⟨p, l, e, R, s, m, args, below, meth, c, D, cA, sa, bs, ad0, n0, Q⟩ := Γ
  obtain ⟨hx, hb, hml, hown, hlk, hT, hK, hF, hbs, hfr, hlo⟩ := X
  intro ad H locs ls h1 h2 h3 h4 h5 h6 h7
  have h4a := okL_cons.mp h4
  have hx4 : inI x := h4a.1
  exact lv_tableOut hx hb hd (by rw [to_of hx4]; exact hx0) ht (k ad H locs ls h1 h2 h3 h4a.2 h5 h6 h7)
theorem g_tswIn {Γ : GX} {own : String} {cc : ByteArray} {nL d pc q : Nat} {L S : List AV} {n : Nat} {iv : IV} {rv : RV} {u v : Nat} {x dflt lo hi off : Int} {offs : Array Int} {ln : Nat} (X : Cx Γ own cc nL d) (hd : decode cc pc = .ok (.tableswitch dflt lo hi offs, ln)) (hx1 : lo ≤ x) (hx2 : x ≤ hi) (ho : offs[(x - lo).toNat]? = some off) (ht : (pc : Int) + off = (q : Int)) (k : G Γ nL q L S n iv rv u v) : G Γ nL pc L (aI x :: S) n iv rv u v := by
  obtain ⟨p, l, e, R, s, m, args, below, meth, c, D, cA, sa, bs, ad0, n0, Q⟩ := Γ
  obtain ⟨hx, hb, hml, hown, hlk, hT, hK, hF, hbs, hfr, hlo⟩ := X
  intro ad H locs ls h1 h2 h3 h4 h5 h6 h7
  have h4a := okL_cons.mp h4
  have hx4 : inI x := h4a.1
  exact lv_tableIn hx hb hd (by rw [to_of hx4]; omega) (by rw [to_of hx4]; omega) (by rw [to_of hx4]; exact ho) ht (k ad H locs ls h1 h2 h3 h4a.2 h5 h6 h7)
