/-! led, and the law's own led, which catches -/
theorem g_enter {p : Program} {l : Launch} {e : Env} {R : Room} {s : State} {m : MethodId} {args : Array Value} {below : List Frame} {meth : Method} {c : Code} {D : va_G} {cA : FieldType → ClassId} {sa : Nat → Nat} {bs : Nat} {ad : Nat → Nat} {n : Nat} {Q : State → Prop} {iv : IV} {rv : RV} {maxL : Nat} {as L : List AV} (hnj0 : njL as) (hL : lArgs as ++ List.replicate (maxL - (lArgs as).length) aJ = L) (hlen : (lArgs as).length ≤ maxL) (hok : okL n as) (hrel : Rel D cA sa bs ad n iv rv s.heap)
    (h9 : G (p, l, e, R, s, m, args, below, meth, c, D, cA, sa, bs, ad, n, Q) maxL 0 L [] n iv rv 0 0) : W p l e R s m args below meth c s.heap [] 0 0 Q (entryFrame m (as.map (tv sa ad)).toArray maxL) := by
  have hnj := njL_use as hnj0
  have hl := lv_entry (as.map (tv sa ad)) (n := maxL) (by rw [lg_len]; exact hlen)
  rw [lg_entry_eq]
  refine h9 ad s.heap [] _ agr.rf (Nat.le_refl _) ?_ (fun a ha => by cases ha) hrel va_S.rf ⟨hl.1, hl.2.1, fun i a ha hj => ?_⟩
  · subst hL
    intro a ha
    rcases List.mem_append.mp ha with h | h
    · exact okL_lArgs as hok a h
    · rw [(List.mem_replicate.mp h).2]; exact trivial
  · subst hL
    by_cases hi : i < (lArgs as).length
    · rw [List.getElem?_append_left hi] at ha
      have h8 := lArgs_args (sa := sa) (ad := ad) as hnj 0 i a ha hj
      rw [Nat.zero_add] at h8
      exact hl.2.2 _ h8
    · rw [List.getElem?_append_right (by omega)] at ha
      have h8 := List.mem_of_getElem? ha
      rw [(List.mem_replicate.mp h8).2] at hj
      exact hj.elim
theorem kx_213 : LF RX10 213 9 3 := Or.inl (by decide +kernel)
theorem kx_223 : LF RX10 223 9 1 := Or.inl (by decide +kernel)
theorem sx_218 : (RX10, 218, "no such bridge on the way", 29) ∈ sTab := by decide +kernel
/-- where it doesn't throw -/
def ledOk (iv : IV) (i : Int) : Prop := 0 ≤ i ∧ i < iv 63 3
def ledX (D : va_G) (cA : FieldType → ClassId) (sa : Nat → Nat) (bs : Nat) (ad : Nat → Nat) (n : Nat) (iv : IV) (rv : RV) (i : Int) : String → State → State → Prop := vx_X (S := Nat → Nat) (fun ad' => agr n ad ad' ∧ ¬ ledOk iv i) (fun E ad' t => E = nse ∧ Rel D cA sa bs ad' n iv rv t.heap) (fun q => bs ≤ q)
def ledR (n : Nat) (iv : IV) (rv : RV) (i : Int) : Option AV → Nat → IV → RV → Prop := fun r n' iv' rv' => n' = n ∧ iv' = iv ∧ rv' = rv ∧ ledOk iv i ∧ r = some (aI (iv 65 i.toNat))
set_option maxRecDepth 10000 in
theorem xl_led {l : Launch} (hl : l.stackTraces = false) {D : va_G} {cA : FieldType → ClassId} {sa : Nat → Nat} {bs : Nat} {ad : Nat → Nat} {n : Nat} {iv : IV} {rv : RV} {i : Int} (hK : Lk n rv) (h8 : iv 63 3 ≤ 8) :
    vx_Met l yX10_led [Cond.code yX10_led cX10_led 2 (some .int)] (rmA 6 1 6) (va_Pc ([aR (some 0), aI i].map (tv sa ad)) (fun U => PA D cA sa bs ad n iv rv [aR (some 0), aI i] U ∧ TH bs U)) (QA D cA sa bs ad n (ledR n iv rv i)) (ledX D cA sa bs ad n iv rv i) 1 6 (fun q => bs ≤ q) := by
  refine vx_ofW (cc := cX10_led) (maxL := 2) (ret := some .int) (by decide) rfl ?_
  intro p e s m args below meth c s₁ B hml htab hv
  obtain ⟨rfl, ⟨hok, hrel, hT, hKk, hF, hbs⟩, hTH⟩ := hv
  have hown : s.vm.findClass RX10 = some m.cls := findClass_of_methodNamed B.named
  refine g_enter (as := [aR (some 0), aI i]) (L := [aR (some 0), aI i]) ⟨trivial, trivial, trivial⟩ rfl (Nat.le_of_ble_eq_true rfl) hok hrel ?_
  have X : Cx (p, l, e, (headSpec [Cond.code yX10_led cX10_led 2 (some .int)] (rmA 6 1 6)).room, s, m, ([aR (some 0), aI i].map (tv sa ad)).toArray, below, meth, c, D, cA, sa, bs, ad, n, vx_MQ below (QA D cA sa bs ad n (ledR n iv rv i)) (ledX D cA sa bs ad n iv rv i) ([aR (some 0), aI i].map (tv sa ad)).toArray s 1 6 (fun q => bs ≤ q)) RX10 cX10_led 2 6 := ⟨B.exec, B.bytes, hml, hown, B.notSynchronized, hT, hKk, hF, hbs, Nat.le_refl _, Nat.le_refl _⟩
  have hthrow : ¬ ledOk iv i → G (p, l, e, (headSpec [Cond.code yX10_led cX10_led 2 (some .int)] (rmA 6 1 6)).room, s, m, ([aR (some 0), aI i].map (tv sa ad)).toArray, below, meth, c, D, cA, sa, bs, ad, n, vx_MQ below (QA D cA sa bs ad n (ledR n iv rv i)) (ledX D cA sa bs ad n iv rv i) ([aR (some 0), aI i].map (tv sa ad)).toArray s 1 6 (fun q => bs ≤ q)) 2 15 [aR (some 0), aI i] [] n iv rv 0 0 := by
    intro hno ad' H locs ls h1 h2 h3 h4 h5 h6 h7
    refine nse_throw B.exec B.bytes hl hown hT hTH (hF.2.1 _ sx_218) h6 (by rw [hml]; exact h7.1) dX10_led_15 dX10_led_18 dX10_led_19 dX10_led_21 dX10_led_24 (fun x hx => (htab x hx).elim) (by decide) (Nat.le_of_ble_eq_true rfl) (by decide) (by decide) B.notSynchronized (fun t hal hz hq => ?_) h6.2.2 (Nat.le_refl _) (Nat.le_refl _)
    have hlt : ∀ (k : Nat) (q : Nat × va_E), (wl cA sa ad' n iv rv)[k]? = some q → t.heap[q.1]? = H[q.1]? := fun k q hk => hq q.1 (h5.2.2.2.1 k q hk).lt
    refine ⟨ad', ⟨h1, hno⟩, ⟨rfl, h5.1, h5.2.1, h5.2.2.1, h5.2.2.2.1.kept hlt, h5.2.2.2.2⟩, Nat.le_trans h6.1 hz, fun q g1 g2 => ?_⟩
    rw [hq q (Nat.lt_of_lt_of_le g1 h6.1)]
    exact h6.2.1 q g1 g2
  refine g_iload_n (q := 1) 1 X dX10_led_0 rfl rfl rfl ?_
  refine g_if_lt (q := 4) 15 X dX10_led_1 (by decide) rfl (fun c1 => hthrow (fun z => absurd z.1 (by omega))) (fun c1 => ?_)
  refine g_iload_n (q := 5) 1 X dX10_led_4 rfl rfl rfl ?_
  refine g_aload_n (q := 6) 0 X dX10_led_5 rfl rfl rfl ?_
  refine g_getR (q := 9) (r := some 63) 10 6 X (lk_0_6 hK) (lt2000 (c := 0) (by decide)) kf_X10_44 (by decide) (by decide) rfl rfl (hK.n (by decide)) dX10_led_6 rfl ?_
  refine g_getI (q := 12) 9 3 X kx_213 (by decide) (by decide) rfl rfl (hK.n (by decide)) dX10_led_9 rfl ?_
  refine g_icmp_lt (q := 15) 25 X dX10_led_12 (by decide) rfl (fun c2 => ?_) (fun c2 => hthrow (fun z => c2 z.2))
  refine g_aload_n (q := 26) 0 X dX10_led_25 rfl rfl rfl ?_
  refine g_getR (q := 29) (r := some 63) 10 6 X (lk_0_6 hK) (lt2000 (c := 0) (by decide)) kf_X10_44 (by decide) (by decide) rfl rfl (hK.n (by decide)) dX10_led_26 rfl ?_
  refine g_getR (q := 32) (r := some 65) 9 1 X (lk_63_1 hK) (lt2000 (c := 0) (by decide)) kx_223 (by decide) (by decide) rfl rfl (hK.n (by decide)) dX10_led_29 rfl ?_
  refine g_iload_n (q := 33) 1 X dX10_led_32 rfl rfl rfl ?_
  refine g_iald (q := 34) (len := 8) X rfl (hK.n (by decide)) ⟨by omega, by omega⟩ dX10_led_33 rfl ?_
  refine g_widen 1 6 (by decide) (by decide) ?_
  intro ad' H locs ls h1 h2 h3 h4 h5 h6 h7
  have h4a := okL_cons.mp h4
  exact vx_ret (W.iret B.exec B.bytes B.returns (fun t ht _ => ⟨⟨some (aI (iv 65 i.toNat)), n, iv, rv, ad', ⟨rfl, rfl, rfl, ⟨by omega, c2⟩, rfl⟩, rfl, h1, h2, (fun a ha => by cases ha; exact h4a.1), by rw [ht]; exact h5⟩, h6.F ht⟩) h6.2.2 dX10_led_34 B.notSynchronized)
