/-! ROWS of numbers; making -/
theorem upd_w2 {iv : IV} {k : Nat} {i x : Int} (hi : inI i) : (fun j => Int32.ofInt (w2 iv k i.toNat x k j)) = upd (fun j => Int32.ofInt (iv k j)) (Int32.ofInt i).toNatClampNeg (Int32.ofInt x) := by
  funext j
  rw [of_clamp hi]
  unfold upd
  by_cases h : j = i.toNat
  · subst h
    rw [w2_eq, if_pos rfl]
  · rw [w2_ne (fun z => h z.2), if_neg h]
theorem updL_w2 {iv : IV} {k : Nat} {i x : Int} (hi : inI i) : (fun j => Int64.ofInt (w2 iv k i.toNat x k j)) = vp_updL (fun j => Int64.ofInt (iv k j)) (Int32.ofInt i).toNatClampNeg (Int64.ofInt x) := by
  funext j
  rw [of_clamp hi]
  unfold vp_updL
  by_cases h : j = i.toNat
  · subst h
    rw [w2_eq, if_pos rfl]
  · rw [w2_ne (fun z => h z.2), if_neg h]
theorem Rel.puta {D : va_G} {cA : FieldType → ClassId} {sa : Nat → Nat} {bs : Nat} {ad : Nat → Nat} {n : Nat} {iv iv' : IV} {rv : RV} {H H1 : Heap} {k len : Nat} {ty : FieldType} (h : Rel D cA sa bs ad n iv rv H) (hs : sh k = .inr (ty, len)) (hk : k < n) (hM : okM iv')
    (hi : ∀ a, a ≠ k → iv' a = iv a) (hP : va_P D vwCl ((wl cA sa ad n iv rv).set k (ad k, .inl (cA ty, len, rowE ty (iv' k)))) H1) (hD : va_D (fun q => bs ≤ q) ((wl cA sa ad n iv rv).set k (ad k, .inl (cA ty, len, rowE ty (iv' k))))) : Rel D cA sa bs ad n iv' rv H1 := by
  have e1 : (wl cA sa ad n iv rv).set k (ad k, .inl (cA ty, len, rowE ty (iv' k))) = wl cA sa ad n iv' rv := by
    rw [← cell_a (cA := cA) (sa := sa) (ad := ad) (iv := iv') (rv := rv) hs]
    refine wl_set hk (fun a ha => ?_)
    unfold cellE
    rw [hi a ha]
  rw [e1] at hP hD
  exact ⟨h.1, hM, h.2.2.1, hP, hD⟩
theorem g_iald {Γ : GX} {own : String} {cc : ByteArray} {nL d pc q : Nat} {L S : List AV} {n : Nat} {iv : IV} {rv : RV} {u v : Nat} {k len : Nat} {i : Int} (X : Cx Γ own cc nL d) (hs : sh k = .inr (.int, len)) (hk : k < n) (hi : 0 ≤ i ∧ i < len) (hd : decode cc pc = .ok (.iaload, 1)) (hq : pc + 1 = q) (kk : G Γ nL q L (aI (iv k i.toNat) :: S) n iv rv u v) : G Γ nL pc L (aI i :: aR (some k) :: S) n iv rv u v := by
  obtain ⟨p, l, e, R, s, m, args, below, meth, c, D, cA, sa, bs, ad0, n0, Q⟩ := Γ
  obtain ⟨hx, hb, hml, hown, hlk, hT, hK, hF, hbs, hfr, hlo⟩ := X
  intro ad H locs ls h1 h2 h3 h4 h5 h6 h7
  subst hq
  have h4a := okL_cons.mp h4
  have h4b := okL_cons.mp h4a.2
  have hi4 : inI i := h4a.1
  have hn := h5.1
  have h9 := kk ad H locs ls h1 h2 h3 (okL_cons.mpr ⟨okI (h5.okR (by rw [isL_a hs]; rfl)), h4b.2⟩) h5 h6 h7
  have he := wl_at (cA := cA) (sa := sa) (ad := ad) (iv := iv) (rv := rv) hk
  rw [cell_a hs] at he
  rw [List.map_cons, List.map_cons, tv_R (by omega)]
  refine va_iald hx hb hK h5.2.2.2.1 k 1 he rfl (of_vin hi4 hi.1 hi.2) hd ?_
  rw [of_clamp hi4]
  exact h9
theorem g_bald {Γ : GX} {own : String} {cc : ByteArray} {nL d pc q : Nat} {L S : List AV} {n : Nat} {iv : IV} {rv : RV} {u v : Nat} {k len : Nat} {i : Int} (X : Cx Γ own cc nL d) (hs : sh k = .inr (.byte, len)) (hk : k < n) (hi : 0 ≤ i ∧ i < len) (hd : decode cc pc = .ok (.baload, 1)) (hq : pc + 1 = q) (kk : G Γ nL q L (aI (iv k i.toNat) :: S) n iv rv u v) : G Γ nL pc L (aI i :: aR (some k) :: S) n iv rv u v := by
  obtain ⟨p, l, e, R, s, m, args, below, meth, c, D, cA, sa, bs, ad0, n0, Q⟩ := Γ
  obtain ⟨hx, hb, hml, hown, hlk, hT, hK, hF, hbs, hfr, hlo⟩ := X
  intro ad H locs ls h1 h2 h3 h4 h5 h6 h7
  subst hq
  have h4a := okL_cons.mp h4
  have h4b := okL_cons.mp h4a.2
  have hi4 : inI i := h4a.1
  have hn := h5.1
  have h9 := kk ad H locs ls h1 h2 h3 (okL_cons.mpr ⟨okI (h5.okR (by rw [isL_a hs]; rfl)), h4b.2⟩) h5 h6 h7
  have he := wl_at (cA := cA) (sa := sa) (ad := ad) (iv := iv) (rv := rv) hk
  rw [cell_a hs] at he
  rw [List.map_cons, List.map_cons, tv_R (by omega)]
  refine va_bald hx hb hK h5.2.2.2.1 k 0 he rfl (of_vin hi4 hi.1 hi.2) hd ?_
  rw [of_clamp hi4]
  exact h9
theorem g_zald {Γ : GX} {own : String} {cc : ByteArray} {nL d pc q : Nat} {L S : List AV} {n : Nat} {iv : IV} {rv : RV} {u v : Nat} {k len : Nat} {i : Int} (X : Cx Γ own cc nL d) (hs : sh k = .inr (.boolean, len)) (hk : k < n) (hi : 0 ≤ i ∧ i < len) (hd : decode cc pc = .ok (.baload, 1)) (hq : pc + 1 = q) (kk : G Γ nL q L (aI (iv k i.toNat) :: S) n iv rv u v) : G Γ nL pc L (aI i :: aR (some k) :: S) n iv rv u v := by
  obtain ⟨p, l, e, R, s, m, args, below, meth, c, D, cA, sa, bs, ad0, n0, Q⟩ := Γ
  obtain ⟨hx, hb, hml, hown, hlk, hT, hK, hF, hbs, hfr, hlo⟩ := X
  intro ad H locs ls h1 h2 h3 h4 h5 h6 h7
  subst hq
  have h4a := okL_cons.mp h4
  have h4b := okL_cons.mp h4a.2
  have hi4 : inI i := h4a.1
  have hn := h5.1
  have h9 := kk ad H locs ls h1 h2 h3 (okL_cons.mpr ⟨okI (h5.okR (by rw [isL_a hs]; rfl)), h4b.2⟩) h5 h6 h7
  have he := wl_at (cA := cA) (sa := sa) (ad := ad) (iv := iv) (rv := rv) hk
  rw [cell_a hs] at he
  rw [List.map_cons, List.map_cons, tv_R (by omega)]
  refine va_zald hx hb hK h5.2.2.2.1 k 3 he rfl (of_vin hi4 hi.1 hi.2) hd ?_
  rw [of_clamp hi4]
  exact h9
theorem g_lald {Γ : GX} {own : String} {cc : ByteArray} {nL d pc q : Nat} {L S : List AV} {n : Nat} {iv : IV} {rv : RV} {u v : Nat} {k len : Nat} {i : Int} (X : Cx Γ own cc nL d) (hs : sh k = .inr (.long, len)) (hk : k < n) (hi : 0 ≤ i ∧ i < len) (hd : decode cc pc = .ok (.laload, 1)) (hq : pc + 1 = q) (kk : G Γ nL q L (aL (iv k i.toNat) :: S) n iv rv u v) : G Γ nL pc L (aI i :: aR (some k) :: S) n iv rv u v := by
  obtain ⟨p, l, e, R, s, m, args, below, meth, c, D, cA, sa, bs, ad0, n0, Q⟩ := Γ
  obtain ⟨hx, hb, hml, hown, hlk, hT, hK, hF, hbs, hfr, hlo⟩ := X
  intro ad H locs ls h1 h2 h3 h4 h5 h6 h7
  subst hq
  have h4a := okL_cons.mp h4
  have h4b := okL_cons.mp h4a.2
  have hi4 : inI i := h4a.1
  have hn := h5.1
  have h9 := kk ad H locs ls h1 h2 h3 (okL_cons.mpr ⟨okJ (h5.okRL (by rw [isL_a hs]; rfl)), h4b.2⟩) h5 h6 h7
  have he := wl_at (cA := cA) (sa := sa) (ad := ad) (iv := iv) (rv := rv) hk
  rw [cell_a hs] at he
  rw [List.map_cons, List.map_cons, tv_R (by omega)]
  refine va_lald hx hb hK h5.2.2.2.1 k 2 he rfl (of_vin hi4 hi.1 hi.2) hd ?_
  rw [of_clamp hi4]
  exact h9
theorem g_iast {Γ : GX} {own : String} {cc : ByteArray} {nL d pc q : Nat} {L S : List AV} {n : Nat} {iv : IV} {rv : RV} {u v : Nat} {k len : Nat} {i x : Int} (X : Cx Γ own cc nL d) (hs : sh k = .inr (.int, len)) (hk : k < n) (hi : 0 ≤ i ∧ i < len)  (hd : decode cc pc = .ok (.iastore, 1)) (hq : pc + 1 = q) (kk : G Γ nL q L S n (w2 iv k i.toNat (x)) rv u v) : G Γ nL pc L (aI x :: aI i :: aR (some k) :: S) n iv rv u v := by
  obtain ⟨p, l, e, R, s, m, args, below, meth, c, D, cA, sa, bs, ad0, n0, Q⟩ := Γ
  obtain ⟨hx, hb, hml, hown, hlk, hT, hK, hF, hbs, hfr, hlo⟩ := X
  intro ad H locs ls h1 h2 h3 h4 h5 h6 h7
  subst hq
  have h4a := okL_cons.mp h4
  have h4b := okL_cons.mp h4a.2
  have h4c := okL_cons.mp h4b.2
  have hx4 : inI x := h4a.1
  have hi4 : inI i := h4b.1
  have hn := h5.1
  have he := wl_at (cA := cA) (sa := sa) (ad := ad) (iv := iv) (rv := rv) hk
  rw [cell_a hs] at he
  rw [List.map_cons, List.map_cons, List.map_cons, tv_R (by omega)]
  refine va_iast hx hb hK h5.2.2.2.1 h5.2.2.2.2 h6 k 1 he rfl (of_vin hi4 hi.1 hi.2) hd (fun H1 locs1 hP1 hD1 hS1 => ?_)
  have e9 := upd_w2 (iv := iv) (k := k) (x := x) hi4
  rw [← e9] at hP1 hD1
  exact kk ad H1 locs1 ls h1 h2 h3 h4c.2 (Rel.puta h5 hs hk (okM_w2 h5.2.1 (by rw [isL_a hs]; exact hx4)) (fun a ha => w2_row ha) hP1 hD1) hS1 h7
theorem g_last {Γ : GX} {own : String} {cc : ByteArray} {nL d pc q : Nat} {L S : List AV} {n : Nat} {iv : IV} {rv : RV} {u v : Nat} {k len : Nat} {i x : Int} (X : Cx Γ own cc nL d) (hs : sh k = .inr (.long, len)) (hk : k < n) (hi : 0 ≤ i ∧ i < len)  (hd : decode cc pc = .ok (.lastore, 1)) (hq : pc + 1 = q) (kk : G Γ nL q L S n (w2 iv k i.toNat (x)) rv u v) : G Γ nL pc L (aL x :: aI i :: aR (some k) :: S) n iv rv u v := by
  obtain ⟨p, l, e, R, s, m, args, below, meth, c, D, cA, sa, bs, ad0, n0, Q⟩ := Γ
  obtain ⟨hx, hb, hml, hown, hlk, hT, hK, hF, hbs, hfr, hlo⟩ := X
  intro ad H locs ls h1 h2 h3 h4 h5 h6 h7
  subst hq
  have h4a := okL_cons.mp h4
  have h4b := okL_cons.mp h4a.2
  have h4c := okL_cons.mp h4b.2
  have hx4 : inL x := h4a.1
  have hi4 : inI i := h4b.1
  have hn := h5.1
  have he := wl_at (cA := cA) (sa := sa) (ad := ad) (iv := iv) (rv := rv) hk
  rw [cell_a hs] at he
  rw [List.map_cons, List.map_cons, List.map_cons, tv_R (by omega)]
  refine va_last hx hb hK h5.2.2.2.1 h5.2.2.2.2 h6 k 2 he rfl (of_vin hi4 hi.1 hi.2) hd (fun H1 locs1 hP1 hD1 hS1 => ?_)
  have e9 := updL_w2 (iv := iv) (k := k) (x := x) hi4
  rw [← e9] at hP1 hD1
  exact kk ad H1 locs1 ls h1 h2 h3 h4c.2 (Rel.puta h5 hs hk (okM_w2 h5.2.1 (by rw [isL_a hs]; exact hx4)) (fun a ha => w2_row ha) hP1 hD1) hS1 h7
theorem g_bast {Γ : GX} {own : String} {cc : ByteArray} {nL d pc q : Nat} {L S : List AV} {n : Nat} {iv : IV} {rv : RV} {u v : Nat} {k len : Nat} {i x : Int} (X : Cx Γ own cc nL d) (hs : sh k = .inr (.byte, len)) (hk : k < n) (hi : 0 ≤ i ∧ i < len)  (hd : decode cc pc = .ok (.bastore, 1)) (hq : pc + 1 = q) (kk : G Γ nL q L S n (w2 iv k i.toNat ((Int32.ofInt x).toInt8.toInt32.toInt)) rv u v) : G Γ nL pc L (aI x :: aI i :: aR (some k) :: S) n iv rv u v := by
  obtain ⟨p, l, e, R, s, m, args, below, meth, c, D, cA, sa, bs, ad0, n0, Q⟩ := Γ
  obtain ⟨hx, hb, hml, hown, hlk, hT, hK, hF, hbs, hfr, hlo⟩ := X
  intro ad H locs ls h1 h2 h3 h4 h5 h6 h7
  subst hq
  have h4a := okL_cons.mp h4
  have h4b := okL_cons.mp h4a.2
  have h4c := okL_cons.mp h4b.2
  have hx4 : inI x := h4a.1
  have hi4 : inI i := h4b.1
  have hn := h5.1
  have he := wl_at (cA := cA) (sa := sa) (ad := ad) (iv := iv) (rv := rv) hk
  rw [cell_a hs] at he
  rw [List.map_cons, List.map_cons, List.map_cons, tv_R (by omega)]
  refine va_bast hx hb hK h5.2.2.2.1 h5.2.2.2.2 h6 k 0 he rfl (of_vin hi4 hi.1 hi.2) hd (fun H1 locs1 hP1 hD1 hS1 => ?_)
  have e9 := upd_w2 (iv := iv) (k := k) (x := (Int32.ofInt x).toInt8.toInt32.toInt) hi4
  rw [Int32.ofInt_toInt, ← vp_nar_byte] at e9
  rw [← e9] at hP1 hD1
  exact kk ad H1 locs1 ls h1 h2 h3 h4c.2 (Rel.puta h5 hs hk (okM_w2 h5.2.1 (by rw [isL_a hs]; exact i32_in _)) (fun a ha => w2_row ha) hP1 hD1) hS1 h7
theorem g_zast {Γ : GX} {own : String} {cc : ByteArray} {nL d pc q : Nat} {L S : List AV} {n : Nat} {iv : IV} {rv : RV} {u v : Nat} {k len : Nat} {i x : Int} (X : Cx Γ own cc nL d) (hs : sh k = .inr (.boolean, len)) (hk : k < n) (hi : 0 ≤ i ∧ i < len) (hxb : x = 0 ∨ x = 1) (hd : decode cc pc = .ok (.bastore, 1)) (hq : pc + 1 = q) (kk : G Γ nL q L S n (w2 iv k i.toNat (x)) rv u v) : G Γ nL pc L (aI x :: aI i :: aR (some k) :: S) n iv rv u v := by
  obtain ⟨p, l, e, R, s, m, args, below, meth, c, D, cA, sa, bs, ad0, n0, Q⟩ := Γ
  obtain ⟨hx, hb, hml, hown, hlk, hT, hK, hF, hbs, hfr, hlo⟩ := X
  intro ad H locs ls h1 h2 h3 h4 h5 h6 h7
  subst hq
  have h4a := okL_cons.mp h4
  have h4b := okL_cons.mp h4a.2
  have h4c := okL_cons.mp h4b.2
  have hx4 : inI x := h4a.1
  have hi4 : inI i := h4b.1
  have hn := h5.1
  have he := wl_at (cA := cA) (sa := sa) (ad := ad) (iv := iv) (rv := rv) hk
  rw [cell_a hs] at he
  rw [List.map_cons, List.map_cons, List.map_cons, tv_R (by omega)]
  refine va_zast hx hb hK h5.2.2.2.1 h5.2.2.2.2 h6 k 3 he rfl (of_vin hi4 hi.1 hi.2) hd (fun H1 locs1 hP1 hD1 hS1 => ?_)
  have e9 := upd_w2 (iv := iv) (k := k) (x := x) hi4
  have e8 : Int32.ofInt x = vp_nar .boolean (Int32.ofInt x) := by rcases hxb with rfl | rfl <;> decide
  rw [e8] at e9
  rw [← e9] at hP1 hD1
  exact kk ad H1 locs1 ls h1 h2 h3 h4c.2 (Rel.puta h5 hs hk (okM_w2 h5.2.1 (by rw [isL_a hs]; exact hx4)) (fun a ha => w2_row ha) hP1 hD1) hS1 h7
theorem g_alen {Γ : GX} {own : String} {cc : ByteArray} {nL d pc q : Nat} {L S : List AV} {n : Nat} {iv : IV} {rv : RV} {u v : Nat} {k len : Nat} (ty : FieldType) (X : Cx Γ own cc nL d) (hs : sh k = .inr (ty, len)) (hty : ty = .byte ∨ ty = .int ∨ ty = .long ∨ ty = .boolean) (hln : len < 2147483648) (hk : k < n) (hd : decode cc pc = .ok (.arraylength, 1)) (hq : pc + 1 = q) (kk : G Γ nL q L (aI (len : Int) :: S) n iv rv u v) : G Γ nL pc L (aR (some k) :: S) n iv rv u v := by
  obtain ⟨p, l, e, R, s, m, args, below, meth, c, D, cA, sa, bs, ad0, n0, Q⟩ := Γ
  obtain ⟨hx, hb, hml, hown, hlk, hT, hK, hF, hbs, hfr, hlo⟩ := X
  intro ad H locs ls h1 h2 h3 h4 h5 h6 h7
  subst hq
  have h4a := okL_cons.mp h4
  have hn := h5.1
  have h9 := kk ad H locs ls h1 h2 h3 (okL_cons.mpr ⟨okI ⟨by omega, by omega⟩, h4a.2⟩) h5 h6 h7
  have he := wl_at (cA := cA) (sa := sa) (ad := ad) (iv := iv) (rv := rv) hk
  rw [cell_a hs] at he
  rw [List.map_cons, tv_R (by omega)]
  have ht : ∃ t0 : Nat, (tys cA)[t0]? = some (cA ty, ty) := by
    rcases hty with rfl | rfl | rfl | rfl
    · exact ⟨0, rfl⟩
    · exact ⟨1, rfl⟩
    · exact ⟨2, rfl⟩
    · exact ⟨3, rfl⟩
  obtain ⟨t0, ht0⟩ := ht
  exact va_alen hx hb hK h5.2.2.2.1 k t0 he ht0 (by show Int32.ofNat len = Int32.ofInt (len : Int); rw [Int32.ofInt_eq_ofNat]) hd h9
theorem g_gets_room {Γ : GX} {own : String} {cc : ByteArray} {nL d pc q : Nat} {L S : List AV} {n : Nat} {iv : IV} {rv : RV} {u v : Nat} {idx : Nat} (X : Cx Γ own cc nL d) (hf : isW (.fieldLink own idx "TollBars" "ROOM" "[I") = true ∨ ∃ host, isW (.fieldLinkNest own idx "TollBars" "ROOM" "[I" host) = true) (hd : decode cc pc = .ok (.getstatic idx, 3)) (hq : pc + 3 = q) (kk : G Γ nL q L (aR (some 1990) :: S) n iv rv u v) : G Γ nL pc L S n iv rv u v := by
  obtain ⟨p, l, e, R, s, m, args, below, meth, c, D, cA, sa, bs, ad0, n0, Q⟩ := Γ
  obtain ⟨hx, hb, hml, hown, hlk, hT, hK, hF, hbs, hfr, hlo⟩ := X
  intro ad H locs ls h1 h2 h3 h4 h5 h6 h7
  subst hq
  have h9 := kk ad H locs ls h1 h2 h3 (okL_cons.mpr ⟨fun z hz => by cases hz; exact Or.inr ⟨by omega, by omega⟩, h4⟩) h5 h6 h7
  rcases hf with hf | ⟨host, hf⟩
  · exact va_gets hx hb hF.2.2.1.1 h6 hown (hT.at hf args) (fun _ h => h) hd h9
  · exact va_getsN hx hb hF.2.2.1.1 h6 hown (hT.at hf args) (fun _ h => h) hd h9
theorem g_iald_room {Γ : GX} {own : String} {cc : ByteArray} {nL d pc q : Nat} {L S : List AV} {n : Nat} {iv : IV} {rv : RV} {u v : Nat} {i : Int} (X : Cx Γ own cc nL d) (hi : 0 ≤ i ∧ i < 12) (hd : decode cc pc = .ok (.iaload, 1)) (hq : pc + 1 = q) (kk : G Γ nL q L (aI (roomL.getD i.toNat 0) :: S) n iv rv u v) : G Γ nL pc L (aI i :: aR (some 1990) :: S) n iv rv u v := by
  obtain ⟨p, l, e, R, s, m, args, below, meth, c, D, cA, sa, bs, ad0, n0, Q⟩ := Γ
  obtain ⟨hx, hb, hml, hown, hlk, hT, hK, hF, hbs, hfr, hlo⟩ := X
  intro ad H locs ls h1 h2 h3 h4 h5 h6 h7
  subst hq
  have h4a := okL_cons.mp h4
  have h4b := okL_cons.mp h4a.2
  have hi4 : inI i := h4a.1
  have hg : inI (roomL.getD i.toNat 0) := by
    have h0 : i.toNat < 12 := by omega
    have h1 : ∀ j, j < 12 → inI (roomL.getD j 0) := by unfold inI; decide
    exact h1 _ h0
  have h9 := kk ad H locs ls h1 h2 h3 (okL_cons.mpr ⟨okI hg, h4b.2⟩) h5 h6 h7
  exact va_ti hx hb hF.2.2.1.2 h6 (of_vin hi4 hi.1 hi.2) (by rw [of_clamp hi4]; rfl) hd h9
theorem g_alen_room {Γ : GX} {own : String} {cc : ByteArray} {nL d pc q : Nat} {L S : List AV} {n : Nat} {iv : IV} {rv : RV} {u v : Nat}  (X : Cx Γ own cc nL d) (hd : decode cc pc = .ok (.arraylength, 1)) (hq : pc + 1 = q) (kk : G Γ nL q L (aI 12 :: S) n iv rv u v) : G Γ nL pc L (aR (some 1990) :: S) n iv rv u v := by
  obtain ⟨p, l, e, R, s, m, args, below, meth, c, D, cA, sa, bs, ad0, n0, Q⟩ := Γ
  obtain ⟨hx, hb, hml, hown, hlk, hT, hK, hF, hbs, hfr, hlo⟩ := X
  intro ad H locs ls h1 h2 h3 h4 h5 h6 h7
  subst hq
  have h4a := okL_cons.mp h4
  have h9 := kk ad H locs ls h1 h2 h3 (okL_cons.mpr ⟨okI (by unfold inI; omega), h4a.2⟩) h5 h6 h7
  exact va_tlen hx hb hF.2.2.1.2 h6 rfl hd h9
theorem g_gets_cnt {Γ : GX} {own : String} {cc : ByteArray} {nL d pc q : Nat} {L S : List AV} {n : Nat} {iv : IV} {rv : RV} {u v : Nat} {idx : Nat} (X : Cx Γ own cc nL d) (hf : isW (.fieldLink own idx "TollBars" "COUNTED" "[I") = true ∨ ∃ host, isW (.fieldLinkNest own idx "TollBars" "COUNTED" "[I" host) = true) (hd : decode cc pc = .ok (.getstatic idx, 3)) (hq : pc + 3 = q) (kk : G Γ nL q L (aR (some 1991) :: S) n iv rv u v) : G Γ nL pc L S n iv rv u v := by
  obtain ⟨p, l, e, R, s, m, args, below, meth, c, D, cA, sa, bs, ad0, n0, Q⟩ := Γ
  obtain ⟨hx, hb, hml, hown, hlk, hT, hK, hF, hbs, hfr, hlo⟩ := X
  intro ad H locs ls h1 h2 h3 h4 h5 h6 h7
  subst hq
  have h9 := kk ad H locs ls h1 h2 h3 (okL_cons.mpr ⟨fun z hz => by cases hz; exact Or.inr ⟨by omega, by omega⟩, h4⟩) h5 h6 h7
  rcases hf with hf | ⟨host, hf⟩
  · exact va_gets hx hb hF.2.2.2.1.1 h6 hown (hT.at hf args) (fun _ h => h) hd h9
  · exact va_getsN hx hb hF.2.2.2.1.1 h6 hown (hT.at hf args) (fun _ h => h) hd h9
theorem g_iald_cnt {Γ : GX} {own : String} {cc : ByteArray} {nL d pc q : Nat} {L S : List AV} {n : Nat} {iv : IV} {rv : RV} {u v : Nat} {i : Int} (X : Cx Γ own cc nL d) (hi : 0 ≤ i ∧ i < 11) (hd : decode cc pc = .ok (.iaload, 1)) (hq : pc + 1 = q) (kk : G Γ nL q L (aI (cntL.getD i.toNat 0) :: S) n iv rv u v) : G Γ nL pc L (aI i :: aR (some 1991) :: S) n iv rv u v := by
  obtain ⟨p, l, e, R, s, m, args, below, meth, c, D, cA, sa, bs, ad0, n0, Q⟩ := Γ
  obtain ⟨hx, hb, hml, hown, hlk, hT, hK, hF, hbs, hfr, hlo⟩ := X
  intro ad H locs ls h1 h2 h3 h4 h5 h6 h7
  subst hq
  have h4a := okL_cons.mp h4
  have h4b := okL_cons.mp h4a.2
  have hi4 : inI i := h4a.1
  have hg : inI (cntL.getD i.toNat 0) := by
    have h0 : i.toNat < 11 := by omega
    have h1 : ∀ j, j < 11 → inI (cntL.getD j 0) := by unfold inI; decide
    exact h1 _ h0
  have h9 := kk ad H locs ls h1 h2 h3 (okL_cons.mpr ⟨okI hg, h4b.2⟩) h5 h6 h7
  exact va_ti hx hb hF.2.2.2.1.2 h6 (of_vin hi4 hi.1 hi.2) (by rw [of_clamp hi4]; rfl) hd h9
theorem g_alen_cnt {Γ : GX} {own : String} {cc : ByteArray} {nL d pc q : Nat} {L S : List AV} {n : Nat} {iv : IV} {rv : RV} {u v : Nat}  (X : Cx Γ own cc nL d) (hd : decode cc pc = .ok (.arraylength, 1)) (hq : pc + 1 = q) (kk : G Γ nL q L (aI 11 :: S) n iv rv u v) : G Γ nL pc L (aR (some 1991) :: S) n iv rv u v := by
  obtain ⟨p, l, e, R, s, m, args, below, meth, c, D, cA, sa, bs, ad0, n0, Q⟩ := Γ
  obtain ⟨hx, hb, hml, hown, hlk, hT, hK, hF, hbs, hfr, hlo⟩ := X
  intro ad H locs ls h1 h2 h3 h4 h5 h6 h7
  subst hq
  have h4a := okL_cons.mp h4
  have h9 := kk ad H locs ls h1 h2 h3 (okL_cons.mpr ⟨okI (by unfold inI; omega), h4a.2⟩) h5 h6 h7
  exact va_tlen hx hb hF.2.2.2.1.2 h6 rfl hd h9
theorem g_gets_cs {Γ : GX} {own : String} {cc : ByteArray} {nL d pc q : Nat} {L S : List AV} {n : Nat} {iv : IV} {rv : RV} {u v : Nat} {idx : Nat} (X : Cx Γ own cc nL d) (hf : isW (.fieldLink own idx "java/lang/String" "COMPACT_STRINGS" "Z") = true) (hd : decode cc pc = .ok (.getstatic idx, 3)) (hq : pc + 3 = q) (kk : G Γ nL q L (aI 1 :: S) n iv rv u v) : G Γ nL pc L S n iv rv u v := by
  obtain ⟨p, l, e, R, s, m, args, below, meth, c, D, cA, sa, bs, ad0, n0, Q⟩ := Γ
  obtain ⟨hx, hb, hml, hown, hlk, hT, hK, hF, hbs, hfr, hlo⟩ := X
  intro ad H locs ls h1 h2 h3 h4 h5 h6 h7
  subst hq
  have h9 := kk ad H locs ls h1 h2 h3 (okL_cons.mpr ⟨okI (by unfold inI; omega), h4⟩) h5 h6 h7
  exact va_gets hx hb hF.2.2.2.2.1 h6 hown (hT.at hf args) (fun _ h => h) hd h9
theorem g_gets_sio {Γ : GX} {own : String} {cc : ByteArray} {nL d pc q : Nat} {L S : List AV} {n : Nat} {iv : IV} {rv : RV} {u v : Nat} {idx : Nat} (X : Cx Γ own cc nL d) (hf : isW (.fieldLink own idx "jdk/internal/util/Preconditions" "SIOOBE_FORMATTER" "Ljava/util/function/BiFunction;") = true) (hd : decode cc pc = .ok (.getstatic idx, 3)) (hq : pc + 3 = q) (kk : ∀ r : Option Nat, G Γ nL q L (aR r :: S) n iv rv u v) : G Γ nL pc L S n iv rv u v := by
  obtain ⟨p, l, e, R, s, m, args, below, meth, c, D, cA, sa, bs, ad0, n0, Q⟩ := Γ
  obtain ⟨hx, hb, hml, hown, hlk, hT, hK, hF, hbs, hfr, hlo⟩ := X
  intro ad H locs ls h1 h2 h3 h4 h5 h6 h7
  subst hq
  rcases hF.2.2.2.2.2 with hz | hz
  · exact va_gets hx hb hz h6 hown (hT.at hf args) (fun _ h => h) hd (kk none ad H locs ls h1 h2 h3 (okL_cons.mpr ⟨(fun z hz => by cases hz), h4⟩) h5 h6 h7)
  · exact va_gets hx hb hz h6 hown (hT.at hf args) (fun _ h => h) hd (kk (some 1992) ad H locs ls h1 h2 h3 (okL_cons.mpr ⟨(fun z hz => by cases hz; exact Or.inr ⟨by omega, by omega⟩), h4⟩) h5 h6 h7)
theorem pa_s {sa ad : Nat → Nat} {i : Nat} (h : i < 1000) : pa sa ad (1000 + i) = sa i := by
  unfold pa
  rw [if_pos ⟨by omega, by omega⟩, Nat.add_sub_cancel_left]
theorem tv_s {sa ad : Nat → Nat} {i : Nat} (h : i < 1000) : tv sa ad (aR (some (1000 + i))) = .ref (sa i) := by
  show Value.ref (pa sa ad (1000 + i)) = _
  rw [pa_s h]
theorem tv_v {sa ad : Nat → Nat} {i : Nat} (h : i < 100) : tv sa ad (aR (some (1100 + i))) = .ref (sa (100 + i)) := by
  show Value.ref (pa sa ad (1100 + i)) = _
  rw [show 1100 + i = 1000 + (100 + i) by omega, pa_s (by omega)]
theorem g_strV {Γ : GX} {own : String} {cc : ByteArray} {nL d pc q : Nat} {L S : List AV} {n : Nat} {iv : IV} {rv : RV} {u v : Nat} {idx i : Nat} (X : Cx Γ own cc nL d) (hf : isW (.fieldLink own idx "java/lang/String" "value" "[B") = true) (hi : i < 51) (hd : decode cc pc = .ok (.getfield idx, 3)) (hq : pc + 3 = q) (kk : G Γ nL q L (aR (some (1100 + i)) :: S) n iv rv u v) : G Γ nL pc L (aR (some (1000 + i)) :: S) n iv rv u v := by
  obtain ⟨p, l, e, R, s, m, args, below, meth, c, D, cA, sa, bs, ad0, n0, Q⟩ := Γ
  obtain ⟨hx, hb, hml, hown, hlk, hT, hK, hF, hbs, hfr, hlo⟩ := X
  intro ad H locs ls h1 h2 h3 h4 h5 h6 h7
  subst hq
  have h4a := okL_cons.mp h4
  have h9 := kk ad H locs ls h1 h2 h3 (okL_cons.mpr ⟨fun z hz => by cases hz; exact Or.inr ⟨by omega, by omega⟩, h4a.2⟩) h5 h6 h7
  rw [List.map_cons, tv_v (by omega)] at h9
  rw [List.map_cons, tv_s (by omega)]
  exact vk_getf hx hb (hF.1.1 i hi).2.2.1 h6 hown (hT.at hf args) (fun _ h => h) hd h9
theorem g_strC {Γ : GX} {own : String} {cc : ByteArray} {nL d pc q : Nat} {L S : List AV} {n : Nat} {iv : IV} {rv : RV} {u v : Nat} {idx i : Nat} (X : Cx Γ own cc nL d) (hf : isW (.fieldLink own idx "java/lang/String" "coder" "B") = true) (hi : i < 51) (hd : decode cc pc = .ok (.getfield idx, 3)) (hq : pc + 3 = q) (kk : G Γ nL q L (aI 0 :: S) n iv rv u v) : G Γ nL pc L (aR (some (1000 + i)) :: S) n iv rv u v := by
  obtain ⟨p, l, e, R, s, m, args, below, meth, c, D, cA, sa, bs, ad0, n0, Q⟩ := Γ
  obtain ⟨hx, hb, hml, hown, hlk, hT, hK, hF, hbs, hfr, hlo⟩ := X
  intro ad H locs ls h1 h2 h3 h4 h5 h6 h7
  subst hq
  have h4a := okL_cons.mp h4
  have h9 := kk ad H locs ls h1 h2 h3 (okL_cons.mpr ⟨okI i0, h4a.2⟩) h5 h6 h7
  rw [List.map_cons, tv_s (by omega)]
  exact vk_getf hx hb (hF.1.1 i hi).2.1 h6 hown (hT.at hf args) (fun _ h => h) hd h9
theorem sLen_ok : ∀ i, i < 51 → sLen.getD i 0 < 1000 := by decide
theorem g_strL {Γ : GX} {own : String} {cc : ByteArray} {nL d pc q : Nat} {L S : List AV} {n : Nat} {iv : IV} {rv : RV} {u v : Nat} {i : Nat} (X : Cx Γ own cc nL d) (hi : i < 51) (hd : decode cc pc = .ok (.arraylength, 1)) (hq : pc + 1 = q) (kk : G Γ nL q L (aI ((sLen.getD i 0 : Nat) : Int) :: S) n iv rv u v) : G Γ nL pc L (aR (some (1100 + i)) :: S) n iv rv u v := by
  obtain ⟨p, l, e, R, s, m, args, below, meth, c, D, cA, sa, bs, ad0, n0, Q⟩ := Γ
  obtain ⟨hx, hb, hml, hown, hlk, hT, hK, hF, hbs, hfr, hlo⟩ := X
  intro ad H locs ls h1 h2 h3 h4 h5 h6 h7
  subst hq
  have h4a := okL_cons.mp h4
  have hb9 := sLen_ok i hi
  have h9 := kk ad H locs ls h1 h2 h3 (okL_cons.mpr ⟨okI ⟨by omega, by omega⟩, h4a.2⟩) h5 h6 h7
  rw [List.map_cons, tv_v (by omega)]
  exact va_tlen hx hb (hF.1.1 i hi).2.2.2 h6 (by rw [Int32.ofInt_eq_ofNat]) hd h9
/-- the byte of a String constant -/
def sAt (i j : Nat) : Int := (((sByN.getD i []).getD j 0 : Nat) : Int)
theorem sByt_at (i j : Nat) : (sByt.getD i []).getD j 0 = Int32.ofInt (sAt i j) := by
  unfold sByt sAt
  rw [Int32.ofInt_eq_ofNat, List.getD_eq_getElem?_getD, List.getD_eq_getElem?_getD, List.getD_eq_getElem?_getD, List.getD_eq_getElem?_getD, List.getElem?_map]
  cases h : sByN[i]? with
  | none => rfl
  | some x =>
    show ((x.map fun x => Int32.ofNat x)[j]?).getD 0 = _
    rw [List.getElem?_map]
    show (Option.map _ x[j]?).getD 0 = Int32.ofNat (x[j]?.getD 0)
    cases x[j]? <;> rfl
theorem sAt_in : ∀ i, i < 51 → ∀ j, j < sLen.getD i 0 → 0 ≤ sAt i j ∧ sAt i j < 256 := by decide +kernel
theorem g_strB {Γ : GX} {own : String} {cc : ByteArray} {nL d pc q : Nat} {L S : List AV} {n : Nat} {iv : IV} {rv : RV} {u v : Nat} {i : Nat} {j : Int} (X : Cx Γ own cc nL d) (hi : i < 51) (hj : 0 ≤ j ∧ j < ((sLen.getD i 0 : Nat) : Int)) (hd : decode cc pc = .ok (.baload, 1)) (hq : pc + 1 = q) (kk : G Γ nL q L (aI (sAt i j.toNat) :: S) n iv rv u v) : G Γ nL pc L (aI j :: aR (some (1100 + i)) :: S) n iv rv u v := by
  obtain ⟨p, l, e, R, s, m, args, below, meth, c, D, cA, sa, bs, ad0, n0, Q⟩ := Γ
  obtain ⟨hx, hb, hml, hown, hlk, hT, hK, hF, hbs, hfr, hlo⟩ := X
  intro ad H locs ls h1 h2 h3 h4 h5 h6 h7
  subst hq
  have h4a := okL_cons.mp h4
  have h4b := okL_cons.mp h4a.2
  have hj4 : inI j := h4a.1
  have hb9 := sAt_in i hi j.toNat (by omega)
  have h9 := kk ad H locs ls h1 h2 h3 (okL_cons.mpr ⟨okI ⟨by omega, by omega⟩, h4b.2⟩) h5 h6 h7
  rw [List.map_cons, List.map_cons, tv_v (by omega)]
  refine va_tb hx hb (hF.1.1 i hi).2.2.2 h6 (of_vin hj4 hj.1 hj.2) ?_ hd h9
  rw [of_clamp hj4, sByt_at]
  rfl
