/-! THE JDK's own methods that are reached: max, min, fill, String's length and charAt -/
theorem g_nmI {Γ : GX} {nL pc : Nat} {L S : List AV} {n : Nat} {iv : IV} {rv : RV} {u v : Nat} {x : Int} (k : ∀ y, y = x → G Γ nL pc L (aI y :: S) n iv rv u v) : G Γ nL pc L (aI x :: S) n iv rv u v := k x rfl
theorem g_nmJ {Γ : GX} {nL pc : Nat} {L S : List AV} {n : Nat} {iv : IV} {rv : RV} {u v : Nat} {x : Int} (k : ∀ y, y = x → G Γ nL pc L (aL y :: S) n iv rv u v) : G Γ nL pc L (aL x :: S) n iv rv u v := k x rfl
theorem g_fgt {Γ : GX} {nL pc : Nat} {L S : List AV} {n : Nat} {iv : IV} {rv : RV} {u v : Nat} (i : Nat) {L' : List AV} (hL : L.set i aJ = L') (k : G Γ nL pc L' S n iv rv u v) : G Γ nL pc L S n iv rv u v := g_forget (own := "") (cc := ⟨#[]⟩) (d := 0) (q := 0) i hL k
theorem Call.byF {d : Nat} {y : MethodName} {own : String} {cc : ByteArray} {maxL : Nat} {ret : Option FieldType} {as : List AV} {n : Nat} {iv : IV} {rv : RV} {Φ : Option AV → Nat → IV → RV → Prop} {L : List AV} (hy : plainFor y = true) (hyo : y.cls = own) (hnj0 : njL as) (hL : lArgs as ++ List.replicate (maxL - (lArgs as).length) aJ = L) (hlen : (lArgs as).length ≤ maxL)
    (body : ∀ Γ : GX, Cx Γ own cc maxL d → Rt Γ ret 0 0 Φ → G Γ maxL 0 L [] n iv rv 0 0) : Call d 0 0 y cc maxL ret as n iv rv Φ := by
  have hnj := njL_use as hnj0
  intro l D cA sa bs ad
  refine va_MetF (cc := cc) (maxL := maxL) (ret := ret) hy rfl ?_
  intro p e s m args below meth c s₁ B hml hv
  obtain ⟨rfl, hok, hrel, hT, hK, hF, hbs⟩ := hv
  have hown : s.vm.findClass own = some m.cls := by rw [← hyo]; exact findClass_of_methodNamed B.named
  have h9 := body (p, l, e, (headSpec [Cond.code y cc maxL ret] (rmA d 0 0)).room, s, m, (as.map (tv sa ad)).toArray, below, meth, c, D, cA, sa, bs, ad, n, MQ below (QA D cA sa bs ad n Φ) (as.map (tv sa ad)).toArray s 0 0 (fun q => bs ≤ q))
    ⟨B.exec, B.bytes, hml, hown, B.notSynchronized, hT, hK, hF, hbs, Nat.le_refl _, Nat.le_refl _⟩ ⟨B.returns, rfl⟩
  have hl := lv_entry (as.map (tv sa ad)) (n := maxL) (by rw [lg_len]; exact hlen)
  rw [lg_entry_eq]
  refine h9 ad s.heap [] _ agr.rf (Nat.le_refl _) ?_ (fun a ha => by cases ha) hrel va_S.rf ⟨hl.1, hl.2.1, fun i a ha hj => ?_⟩
  · subst hL
    intro a ha
    rcases List.mem_append.mp ha with h | h
    · exact okL_lArgs as hok a h
    · rw [(List.mem_replicate.mp h).2]; exact trivial
  · subst hL
    by_cases hi : i < (lArgs as).length
    · rw [List.getElem?_append_left hi] at ha
      have h8 := lArgs_args (sa := sa) (ad := ad) as hnj 0 i a ha hj
      rw [Nat.zero_add] at h8
      exact hl.2.2 _ h8
    · rw [List.getElem?_append_right (by omega)] at ha
      have h8 := List.mem_of_getElem? ha
      rw [(List.mem_replicate.mp h8).2] at hj
      exact hj.elim
theorem ce_max (n : Nat) (iv : IV) (rv : RV) (a b : Int) : Call 0 0 0 yJ9_max_7cf53 cJ9_max_7cf53 2 (some .int) [aI a, aI b] n iv rv (fI0 n iv rv (fun x => x = max a b)) := by
  refine Call.byF (L := [aI a, aI b]) (by decide +kernel) rfl ⟨trivial, trivial, trivial⟩ rfl (Nat.le_of_ble_eq_true rfl) (fun Γ X hR => ?_)
  refine g_iload_n (q := 1) 0 X dJ9_max_7cf53_0 rfl rfl rfl ?_
  refine g_iload_n (q := 2) 1 X dJ9_max_7cf53_1 rfl rfl rfl ?_
  refine g_icmp_lt (q := 5) 9 X dJ9_max_7cf53_2 (by decide) rfl (fun c => ?_) (fun c => ?_)
  · refine g_iload_n (q := 10) 1 X dJ9_max_7cf53_9 rfl rfl rfl ?_
    exact g_iret (q := 0) X hR dJ9_max_7cf53_10 rfl ⟨rfl, rfl, rfl, _, rfl, by omega⟩
  · refine g_iload_n (q := 6) 0 X dJ9_max_7cf53_5 rfl rfl rfl ?_
    refine g_goto (q := 10) X dJ9_max_7cf53_6 (by decide) ?_
    exact g_iret (q := 0) X hR dJ9_max_7cf53_10 rfl ⟨rfl, rfl, rfl, _, rfl, by omega⟩
theorem ce_min (n : Nat) (iv : IV) (rv : RV) (a b : Int) : Call 0 0 0 yJ9_min_7cf53 cJ9_min_7cf53 2 (some .int) [aI a, aI b] n iv rv (fI0 n iv rv (fun x => x = min a b)) := by
  refine Call.byF (L := [aI a, aI b]) (by decide +kernel) rfl ⟨trivial, trivial, trivial⟩ rfl (Nat.le_of_ble_eq_true rfl) (fun Γ X hR => ?_)
  refine g_iload_n (q := 1) 0 X dJ9_min_7cf53_0 rfl rfl rfl ?_
  refine g_iload_n (q := 2) 1 X dJ9_min_7cf53_1 rfl rfl rfl ?_
  refine g_icmp_gt (q := 5) 9 X dJ9_min_7cf53_2 (by decide) rfl (fun c => ?_) (fun c => ?_)
  · refine g_iload_n (q := 10) 1 X dJ9_min_7cf53_9 rfl rfl rfl ?_
    exact g_iret (q := 0) X hR dJ9_min_7cf53_10 rfl ⟨rfl, rfl, rfl, _, rfl, by omega⟩
  · refine g_iload_n (q := 6) 0 X dJ9_min_7cf53_5 rfl rfl rfl ?_
    refine g_goto (q := 10) X dJ9_min_7cf53_6 (by decide) ?_
    exact g_iret (q := 0) X hR dJ9_min_7cf53_10 rfl ⟨rfl, rfl, rfl, _, rfl, by omega⟩
/-- a row of numbers filled -/
def fil (iv : IV) (k len : Nat) (x : Int) : IV := fun a b => if a = k ∧ b < len then x else iv a b
theorem fil_0 {iv : IV} {k : Nat} {x : Int} : fil iv k 0 x = iv := by
  funext a b
  exact if_neg (fun h => absurd h.2 (by omega))
theorem fil_s {iv : IV} {k i : Nat} {x : Int} : w2 (fil iv k i x) k i x = fil iv k (i + 1) x := by
  funext a b
  unfold w2 fil
  by_cases h1 : a = k ∧ b = i
  · rw [if_pos h1, if_pos ⟨h1.1, by omega⟩]
  · rw [if_neg h1]
    by_cases h2 : a = k ∧ b < i
    · rw [if_pos h2, if_pos ⟨h2.1, by omega⟩]
    · rw [if_neg h2, if_neg (fun h => h1 ⟨h.1, by have := h.2; have : ¬ b < i := fun z => h2 ⟨h.1, z⟩; omega⟩)]
theorem fil_loop {Γ : GX} {n : Nat} {iv : IV} {rv : RV} {x : Int} {k len : Nat} (X : Cx Γ RJ7 cJ7_fill_53178 4 0) (hR : Rt Γ none 0 0 (fV1 n rv (fun iv' => iv' = fil iv k len x))) (hs : sh k = .inr (.int, len)) (hk : k < n) (hl : len < 1000) :
    ∀ (m i : Nat), i + m = len → G Γ 4 5 [aR (some k), aI x, aI (i : Int), aI (len : Int)] [] n (fil iv k i x) rv 0 0 := by
  intro m
  induction m with
  | zero =>
    intro i hi
    refine g_iload_n (q := 6) 2 X dJ7_fill_53178_5 rfl rfl rfl ?_
    refine g_iload_n (q := 7) 3 X dJ7_fill_53178_6 rfl rfl rfl ?_
    refine g_icmp_ge (q := 10) 20 X dJ7_fill_53178_7 (by decide) rfl (fun c => ?_) (fun c => ?_)
    · have : i = len := by omega
      subst this
      exact g_vret (q := 0) X hR dJ7_fill_53178_20 rfl ⟨rfl, rfl, rfl, rfl⟩
    · exact absurd (by omega) c
  | succ m ih =>
    intro i hi
    refine g_iload_n (q := 6) 2 X dJ7_fill_53178_5 rfl rfl rfl ?_
    refine g_iload_n (q := 7) 3 X dJ7_fill_53178_6 rfl rfl rfl ?_
    refine g_icmp_ge (q := 10) 20 X dJ7_fill_53178_7 (by decide) rfl (fun c => ?_) (fun c => ?_)
    · exact absurd c (by omega)
    · refine g_aload_n (q := 11) 0 X dJ7_fill_53178_10 rfl rfl rfl ?_
      refine g_iload_n (q := 12) 2 X dJ7_fill_53178_11 rfl rfl rfl ?_
      refine g_iload_n (q := 13) 1 X dJ7_fill_53178_12 rfl rfl rfl ?_
      refine g_iast (q := 14) X hs hk ⟨by omega, by omega⟩ dJ7_fill_53178_13 rfl ?_
      refine g_iinc (q := 17) 2 X dJ7_fill_53178_14 rfl (by decide) rfl rfl rfl ?_
      refine g_goto (q := 5) X dJ7_fill_53178_17 (by decide) ?_
      have e1 : w32 ((i : Int) + 1) = ((i + 1 : Nat) : Int) := by rw [w32_id (by omega) (by omega)]; omega
      have e2 : ((i : Int)).toNat = i := Int.toNat_natCast i
      rw [e2, fil_s]
      have h9 := ih (i + 1) (by omega)
      rw [← e1] at h9
      exact h9
theorem ce_fill (n : Nat) (iv : IV) (rv : RV) (x : Int) {k len : Nat} (hs : sh k = .inr (.int, len)) (hk : k < n) (hl : len < 1000) : Call 0 0 0 yJ7_fill_53178 cJ7_fill_53178 4 none [aR (some k), aI x] n iv rv (fV1 n rv (fun iv' => iv' = fil iv k len x)) := by
  refine Call.byF (L := [aR (some k), aI x, aJ, aJ]) (by decide +kernel) rfl ⟨trivial, trivial, trivial⟩ rfl (Nat.le_of_ble_eq_true rfl) (fun Γ X hR => ?_)
  refine g_iconst (q := 1) 0 X dJ7_fill_53178_0 rfl rfl i0 ?_
  refine g_istore_n (q := 2) 2 (L' := [aR (some k), aI x, aI 0, aJ]) X dJ7_fill_53178_1 rfl rfl (by decide) rfl rfl ?_
  refine g_aload_n (q := 3) 0 X dJ7_fill_53178_2 rfl rfl rfl ?_
  refine g_alen (q := 4) .int X hs (Or.inr (Or.inl rfl)) (by omega) hk dJ7_fill_53178_3 rfl ?_
  refine g_istore_n (q := 5) 3 (L' := [aR (some k), aI x, aI 0, aI (len : Int)]) X dJ7_fill_53178_4 rfl rfl (by decide) rfl rfl ?_
  have h9 := fil_loop X hR hs hk hl len 0 (by omega)
  rw [fil_0] at h9
  exact h9
theorem g_cstr {Γ : GX} {own : String} {cc : ByteArray} {nL d pc q : Nat} {L S : List AV} {n : Nat} {iv : IV} {rv : RV} {idx np d' : Nat} {y : MethodName} {c9 : ByteArray} {maxL : Nat} {ret : Option FieldType} {Φ : Option AV → Nat → IV → RV → Prop} {S0 : List AV} (as : List AV) {i : Nat} (X : Cx Γ own cc nL d) (hC : Call d' 0 0 y c9 maxL ret (aR (some (1000 + i)) :: as) n iv rv Φ) (hl : lkV own idx y c9 maxL ret np = true) (hi : i < 51) (hnp : as.length = np) (hst : S0 = as.reverse ++ aR (some (1000 + i)) :: S) (hS : S.length ≤ 4) (hdd : d' + 1 ≤ d) (hd : decode cc pc = .ok (.invokevirtual idx, 3)) (hq : pc + 3 = q)
    (kk : ∀ (r : Option AV) (n' : Nat) (iv' : IV) (rv' : RV), Φ r n' iv' rv' → G Γ nL q L (r.toList ++ S) n' iv' rv' 0 0) (hy : y.cls = "java/lang/String" := by rfl) : G Γ nL pc L S0 n iv rv 0 0 := by
  obtain ⟨p, l, e, R, s, m, args, below, meth, c, D, cA, sa, bs, ad0, n0, Q⟩ := Γ
  obtain ⟨hx, hb, hml, hown, hlk, hT, hK, hF, hbs, hfr, hlo⟩ := X
  intro ad H locs ls h1 h2 h3 h4 h5 h6 h7
  subst hq hst
  have hn := h5.1
  have h4r : okL n S := fun a ha => h4 a (List.mem_append_right _ (List.mem_cons_of_mem _ ha))
  have has : okL n (aR (some (1000 + i)) :: as) := okL_cons.mpr ⟨fun z hz => by cases hz; exact Or.inr ⟨by omega, by omega⟩, fun a ha => h4 a (List.mem_append_left _ (List.mem_reverse.mpr ha))⟩
  have hsum := sum_cat (sa := sa) (ad := ad) S
  have hl9 := lkV_1 hl
  have hrun := va_runV (g := F0 m pc ls ((as.reverse ++ aR (some (1000 + i)) :: S).map (tv sa ad))) (As := as.map (tv sa ad)) (rest := S.map (tv sa ad)) (e := e) (below := below) (meth := meth) (b := sa i) (C := y.cls) (locs := locs) (cells := 0) (slots := 0) ⟨hx, hb, hml, hown, fun w (hw : w ∈ ([] : List Cond)) => absurd hw List.not_mem_nil⟩ (hC l D cA sa bs ad) ⟨lkM_use hl9.1 hT hfr hlo hdd, hT.at hl9.2.1 args, hT.at hl9.2.2 args⟩
    ⟨PA.blind, by rw [hy]; exact vk_recv hF.1 hi h6, fun U hU hW => by have h9 := Rel.callee hT hK hF hbs h5 h6 has hU hW; rw [List.map_cons, tv_s (by omega)] at h9; rw [List.map_cons, tv_s (by omega)]; exact h9⟩ rfl (by rw [List.length_map]; exact hnp) h7.1 (by show (as.reverse ++ aR (some (1000 + i)) :: S).map (tv sa ad) = _; rw [List.map_append, List.map_reverse, List.map_cons, tv_s (by omega)]) (lv_room (by omega)) hd ⟨Nat.zero_le _, Nat.zero_le _⟩
  refine g_run hrun h6 ?_
  intro r n' iv' rv' ad' H1 locs1 hΦ hag hnn hok hrel hS1
  have h9 := kk r n' iv' rv' hΦ ad' H1 locs1 ls (agr.tr h2 h1 hag) (Nat.le_trans h2 hnn) (okL_mono hnn h3) (by
    cases r with
    | none => exact okL_mono hnn h4r
    | some a => exact okL_cons.mpr ⟨hok a rfl, okL_mono hnn h4r⟩) hrel hS1 (h7.agr h5.1 hag h3)
  have e9 : (r.toList ++ S).map (tv sa ad') = (r.map (tv sa ad')).toList ++ S.map (tv sa ad) := by
    rw [List.map_append, tvs_agr h5.1 hag h4r]
    cases r <;> rfl
  rw [e9] at h9
  exact h9
theorem kw_J0_38 : isW (.fieldLink RJ0 38 "java/lang/String" "COMPACT_STRINGS" "Z") = true := by decide +kernel
theorem kw_J0_9 : isW (.fieldLink RJ0 9 "java/lang/String" "value" "[B") = true := by decide +kernel
theorem kw_J0_15 : isW (.fieldLink RJ0 15 "java/lang/String" "coder" "B") = true := by decide +kernel
theorem kw_J0_1053 : isW (.fieldLink RJ0 1053 "jdk/internal/util/Preconditions" "SIOOBE_FORMATTER" "Ljava/util/function/BiFunction;") = true := by decide +kernel
theorem kQ_J0_335 : lkV RJ0 335 yJ0_coder_7d493 cJ0_coder_7d493 1 (some .byte) 0 = true := by decide +kernel
theorem kQ_J0_492 : lkV RJ0 492 yJ0_isLatin1_aae02 cJ0_isLatin1_aae02 1 (some .boolean) 0 = true := by decide +kernel
theorem kS_J0_1059 : lkS RJ0 1059 yJ3_checkIndex_8e157 cJ3_checkIndex_8e157 3 (some .int) 3 = true := by decide +kernel
theorem kS_J1_9 : lkS RJ1 9 yJ0_checkIndex_df160 cJ0_checkIndex_df160 2 none 2 = true := by decide +kernel
theorem kS_J0_495 : lkS RJ0 495 yJ1_charAt_3b067 cJ1_charAt_3b067 2 (some .char) 2 = true := by decide +kernel
theorem ce_coder (n : Nat) (iv : IV) (rv : RV) {w : Nat} (hw : w < 51) : Call 0 0 0 yJ0_coder_7d493 cJ0_coder_7d493 1 (some .byte) [aR (some (1000 + w))] n iv rv (fI0 n iv rv (fun x => x = 0)) := by
  refine Call.byF (L := [aR (some (1000 + w))]) (by decide +kernel) rfl ⟨trivial, trivial⟩ rfl (Nat.le_of_ble_eq_true rfl) (fun Γ X hR => ?_)
  refine g_gets_cs (q := 3) X kw_J0_38 dJ0_coder_7d493_0 rfl ?_
  refine g_if_eq (q := 6) 13 X dJ0_coder_7d493_3 (by decide) rfl (fun c => ?_) (fun c => ?_)
  · exact absurd c (by decide)
  · refine g_aload_n (q := 7) 0 X dJ0_coder_7d493_6 rfl rfl rfl ?_
    refine g_strC (q := 10) X kw_J0_15 hw dJ0_coder_7d493_7 rfl ?_
    refine g_goto (q := 14) X dJ0_coder_7d493_10 (by decide) ?_
    exact g_zret (q := 0) .byte X hR (by decide) dJ0_coder_7d493_14 rfl ⟨rfl, rfl, rfl, _, rfl, rfl⟩
theorem ce_isLatin1 (n : Nat) (iv : IV) (rv : RV) {w : Nat} (hw : w < 51) : Call 0 0 0 yJ0_isLatin1_aae02 cJ0_isLatin1_aae02 1 (some .boolean) [aR (some (1000 + w))] n iv rv (fI0 n iv rv (fun x => x = 1)) := by
  refine Call.byF (L := [aR (some (1000 + w))]) (by decide +kernel) rfl ⟨trivial, trivial⟩ rfl (Nat.le_of_ble_eq_true rfl) (fun Γ X hR => ?_)
  refine g_gets_cs (q := 3) X kw_J0_38 dJ0_isLatin1_aae02_0 rfl ?_
  refine g_if_eq (q := 6) 17 X dJ0_isLatin1_aae02_3 (by decide) rfl (fun c => ?_) (fun c => ?_)
  · exact absurd c (by decide)
  · refine g_aload_n (q := 7) 0 X dJ0_isLatin1_aae02_6 rfl rfl rfl ?_
    refine g_strC (q := 10) X kw_J0_15 hw dJ0_isLatin1_aae02_7 rfl ?_
    refine g_if_ne (q := 13) 17 X dJ0_isLatin1_aae02_10 (by decide) rfl (fun c => ?_) (fun c => ?_)
    · exact absurd rfl c
    · refine g_iconst (q := 14) 1 X dJ0_isLatin1_aae02_13 rfl rfl (by unfold inI; omega) ?_
      refine g_goto (q := 18) X dJ0_isLatin1_aae02_14 (by decide) ?_
      exact g_zret (q := 0) .boolean X hR (by decide) dJ0_isLatin1_aae02_18 rfl ⟨rfl, rfl, rfl, _, rfl, rfl⟩
theorem ce_slen (n : Nat) (iv : IV) (rv : RV) {w : Nat} (hw : w < 51) : Call 1 0 0 yJ0_length_8abf5 cJ0_length_8abf5 1 (some .int) [aR (some (1000 + w))] n iv rv (fI0 n iv rv (fun x => x = ((sLen.getD w 0 : Nat) : Int))) := by
  refine Call.byF (L := [aR (some (1000 + w))]) (by decide +kernel) rfl ⟨trivial, trivial⟩ rfl (Nat.le_of_ble_eq_true rfl) (fun Γ X hR => ?_)
  refine g_aload_n (q := 1) 0 X dJ0_length_8abf5_0 rfl rfl rfl ?_
  refine g_strV (q := 4) X kw_J0_9 hw dJ0_length_8abf5_1 rfl ?_
  refine g_strL (q := 5) X hw dJ0_length_8abf5_4 rfl ?_
  refine g_aload_n (q := 6) 0 X dJ0_length_8abf5_5 rfl rfl rfl ?_
  refine g_cstr (q := 9) [] X (ce_coder n iv rv hw) kQ_J0_335 hw rfl rfl (Nat.le_of_ble_eq_true rfl) (by decide) dJ0_length_8abf5_6 rfl (fun r n_ iv_ rv_ hf => ?_)
  obtain ⟨rfl, rfl, rfl, x, rfl, rfl⟩ := hf
  refine g_ishr (q := 10) X dJ0_length_8abf5_9 rfl ?_
  refine g_iret (q := 0) X hR dJ0_length_8abf5_10 rfl ⟨rfl, rfl, rfl, _, rfl, ?_⟩
  have hb := sLen_ok w hw
  rw [pk_shr _ _ 0 (by decide), to_of ⟨by omega, by omega⟩, Int.shiftRight_zero]
theorem ce_ci3 (n : Nat) (iv : IV) (rv : RV) {i m : Int} {r : Option Nat} (hi : 0 ≤ i ∧ i < m) : Call 0 0 0 yJ3_checkIndex_8e157 cJ3_checkIndex_8e157 3 (some .int) [aI i, aI m, aR r] n iv rv (fI0 n iv rv (fun x => x = i)) := by
  refine Call.byF (L := [aI i, aI m, aR r]) (by decide +kernel) rfl ⟨trivial, trivial, trivial, trivial⟩ rfl (Nat.le_of_ble_eq_true rfl) (fun Γ X hR => ?_)
  refine g_iload_n (q := 1) 0 X dJ3_checkIndex_8e157_0 rfl rfl rfl ?_
  refine g_if_lt (q := 4) 9 X dJ3_checkIndex_8e157_1 (by decide) rfl (fun c => absurd hi.1 (by omega)) (fun c => ?_)
  refine g_iload_n (q := 5) 0 X dJ3_checkIndex_8e157_4 rfl rfl rfl ?_
  refine g_iload_n (q := 6) 1 X dJ3_checkIndex_8e157_5 rfl rfl rfl ?_
  refine g_icmp_lt (q := 9) 16 X dJ3_checkIndex_8e157_6 (by decide) rfl (fun c => ?_) (fun c => absurd hi.2 (by omega))
  refine g_iload_n (q := 17) 0 X dJ3_checkIndex_8e157_16 rfl rfl rfl ?_
  exact g_iret (q := 0) X hR dJ3_checkIndex_8e157_17 rfl ⟨rfl, rfl, rfl, _, rfl, rfl⟩
theorem ce_ci0 (n : Nat) (iv : IV) (rv : RV) {i m : Int} (hi : 0 ≤ i ∧ i < m) : Call 1 0 0 yJ0_checkIndex_df160 cJ0_checkIndex_df160 2 none [aI i, aI m] n iv rv (fV0 n iv rv True) := by
  refine Call.byF (L := [aI i, aI m]) (by decide +kernel) rfl ⟨trivial, trivial, trivial⟩ rfl (Nat.le_of_ble_eq_true rfl) (fun Γ X hR => ?_)
  refine g_iload_n (q := 1) 0 X dJ0_checkIndex_df160_0 rfl rfl rfl ?_
  refine g_iload_n (q := 2) 1 X dJ0_checkIndex_df160_1 rfl rfl rfl ?_
  refine g_gets_sio (q := 5) X kw_J0_1053 dJ0_checkIndex_df160_2 rfl (fun r => ?_)
  refine g_cs (q := 8) [aI i, aI m, aR r] X (ce_ci3 n iv rv hi) kS_J0_1059 rfl rfl (Nat.le_of_ble_eq_true rfl) (by decide) dJ0_checkIndex_df160_5 rfl (fun r n_ iv_ rv_ hf => ?_)
  obtain ⟨rfl, rfl, rfl, x, rfl, rfl⟩ := hf
  refine g_pop (q := 9) X dJ0_checkIndex_df160_8 rfl rfl ?_
  exact g_vret (q := 0) X hR dJ0_checkIndex_df160_9 rfl ⟨rfl, rfl, rfl, rfl, trivial⟩
theorem ch_ok : ∀ v : Nat, v < 256 → ((Int32.ofInt (Int32.ofInt (v : Int) &&& Int32.ofInt 255).toInt).toUInt32 % 65536).toInt32.toInt = (v : Int) ∧ narrow .char (.int (Int32.ofInt (v : Int))) = .int (Int32.ofInt (v : Int)) := by decide +kernel
theorem ce_c1 (n : Nat) (iv : IV) (rv : RV) {w : Nat} {i : Int} (hw : w < 51) (hi : 0 ≤ i ∧ i < ((sLen.getD w 0 : Nat) : Int)) : Call 2 0 0 yJ1_charAt_3b067 cJ1_charAt_3b067 2 (some .char) [aR (some (1100 + w)), aI i] n iv rv (fI0 n iv rv (fun x => x = sAt w i.toNat)) := by
  have hb := sAt_in w hw i.toNat (by omega)
  refine Call.byF (L := [aR (some (1100 + w)), aI i]) (by decide +kernel) rfl ⟨trivial, trivial, trivial⟩ rfl (Nat.le_of_ble_eq_true rfl) (fun Γ X hR => ?_)
  refine g_iload_n (q := 1) 1 X dJ1_charAt_3b067_0 rfl rfl rfl ?_
  refine g_aload_n (q := 2) 0 X dJ1_charAt_3b067_1 rfl rfl rfl ?_
  refine g_strL (q := 3) X hw dJ1_charAt_3b067_2 rfl ?_
  refine g_cs (q := 6) [aI i, aI ((sLen.getD w 0 : Nat) : Int)] X (ce_ci0 n iv rv hi) kS_J1_9 rfl rfl (Nat.le_of_ble_eq_true rfl) (by decide) dJ1_charAt_3b067_3 rfl (fun r n_ iv_ rv_ hf => ?_)
  obtain ⟨rfl, rfl, rfl, rfl, -⟩ := hf
  refine g_aload_n (q := 7) 0 X dJ1_charAt_3b067_6 rfl rfl rfl ?_
  refine g_iload_n (q := 8) 1 X dJ1_charAt_3b067_7 rfl rfl rfl ?_
  refine g_strB (q := 9) X hw hi dJ1_charAt_3b067_8 rfl ?_
  refine g_sipush (q := 12) 255 X dJ1_charAt_3b067_9 rfl sc_255 (by unfold inI; omega) ?_
  refine g_iand (q := 13) X dJ1_charAt_3b067_12 rfl ?_
  refine g_i2c (q := 14) X dJ1_charAt_3b067_13 rfl ?_
  have hv : sAt w i.toNat = ((sAt w i.toNat).toNat : Int) := by omega
  have hc := ch_ok (sAt w i.toNat).toNat (by omega)
  rw [← hv] at hc
  refine g_nmI (fun z ez => ?_)
  rw [hc.1] at ez
  subst ez
  exact g_zret (q := 0) .char X hR hc.2 dJ1_charAt_3b067_14 rfl ⟨rfl, rfl, rfl, _, rfl, rfl⟩
theorem ce_schar (n : Nat) (iv : IV) (rv : RV) {w : Nat} {i : Int} (hw : w < 51) (hi : 0 ≤ i ∧ i < ((sLen.getD w 0 : Nat) : Int)) : Call 3 0 0 yJ0_charAt_5068e cJ0_charAt_5068e 2 (some .char) [aR (some (1000 + w)), aI i] n iv rv (fI0 n iv rv (fun x => x = sAt w i.toNat)) := by
  have hb := sAt_in w hw i.toNat (by omega)
  refine Call.byF (L := [aR (some (1000 + w)), aI i]) (by decide +kernel) rfl ⟨trivial, trivial, trivial⟩ rfl (Nat.le_of_ble_eq_true rfl) (fun Γ X hR => ?_)
  refine g_aload_n (q := 1) 0 X dJ0_charAt_5068e_0 rfl rfl rfl ?_
  refine g_cstr (q := 4) [] X (ce_isLatin1 n iv rv hw) kQ_J0_492 hw rfl rfl (Nat.le_of_ble_eq_true rfl) (by decide) dJ0_charAt_5068e_1 rfl (fun r n_ iv_ rv_ hf => ?_)
  obtain ⟨rfl, rfl, rfl, x, rfl, rfl⟩ := hf
  refine g_if_eq (q := 7) 16 X dJ0_charAt_5068e_4 (by decide) rfl (fun c => absurd c (by decide)) (fun c => ?_)
  refine g_aload_n (q := 8) 0 X dJ0_charAt_5068e_7 rfl rfl rfl ?_
  refine g_strV (q := 11) X kw_J0_9 hw dJ0_charAt_5068e_8 rfl ?_
  refine g_iload_n (q := 12) 1 X dJ0_charAt_5068e_11 rfl rfl rfl ?_
  refine g_cs (q := 15) [aR (some (1100 + w)), aI i] X (ce_c1 n_ iv_ rv_ hw hi) kS_J0_495 rfl rfl (Nat.le_of_ble_eq_true rfl) (by decide) dJ0_charAt_5068e_12 rfl (fun r n_ iv_ rv_ hf => ?_)
  obtain ⟨rfl, rfl, rfl, x, rfl, rfl⟩ := hf
  have hv : sAt w i.toNat = ((sAt w i.toNat).toNat : Int) := by omega
  have hc := (ch_ok (sAt w i.toNat).toNat (by omega)).2
  rw [← hv] at hc
  exact g_zret (q := 0) .char X hR hc dJ0_charAt_5068e_15 rfl ⟨rfl, rfl, rfl, _, rfl, rfl⟩
