/-! the law's own led -/
theorem kl_w1 : lkM RL 7 yX10_led cX10_led 2 (some .int) 1 = true := lkM_of 5 3 5 6 1 1 rfl rfl rfl (by decide +kernel) (by decide +kernel) (by decide)
theorem kl_w2 : isW (.instanceMethod yX10_led) = true := isW_of 5 4 rfl rfl
theorem kl_w3 : isW (.selects RX10 yX10_led yX10_led) = true := isW_of 5 5 rfl rfl
theorem kl_w4 : isW (.classLink RL 13 nse) = true := isW_of 5 2 rfl rfl
def llR (n : Nat) (iv : IV) (rv : RV) (i : Int) : Option AV → Nat → IV → RV → Prop := fun r n' iv' rv' => n' = n ∧ rv' = rv ∧ ((ledOk iv i ∧ r = some (aI 0) ∧ iv' = w2 iv 79 0 (iv 65 i.toNat)) ∨ (¬ ledOk iv i ∧ r = some (aI 1) ∧ iv' = iv))
theorem vx_blind {D : va_G} {cA : FieldType → ClassId} {sa : Nat → Nat} {bs : Nat} {ad : Nat → Nat} {n : Nat} {iv : IV} {rv : RV} {as : List AV} {vs : List Value} : FrameBlind (va_Pc vs (fun U => PA D cA sa bs ad n iv rv as U ∧ TH bs U)) := by
  intro a U g mk q
  obtain ⟨q0, q1, q2⟩ := q
  have h1 := (PA.blind (vs := vs) a U g mk ⟨q0, q1⟩).2
  exact ⟨q0, h1, q2.go (U := U.calling g mk a) (State.WarmedH.refl U) (fun _ _ _ => rfl)⟩
set_option maxRecDepth 10000 in
theorem xl_lawled {l : Launch} (hl : l.stackTraces = false) {D : va_G} {cA : FieldType → ClassId} {sa : Nat → Nat} {bs : Nat} {ad : Nat → Nat} {n : Nat} {iv : IV} {rv : RV} {i : Int} (hK : Lk n rv) (h8 : iv 63 3 ≤ 8) :
    Met l yL_led [Cond.codeWith yL_led cL_led 4 (some .int) [(0, 9, 12, 13)]] (rmA 7 1 6) (va_Pc ([aR (some 0), aI i, aR (some 79)].map (tv sa ad)) (fun U => PA D cA sa bs ad n iv rv [aR (some 0), aI i, aR (some 79)] U ∧ TH bs U)) (QA D cA sa bs ad n (llR n iv rv i)) 1 6 (fun q => bs ≤ q) := by
  refine va_MetW (cc := cL_led) (maxL := 4) (ret := some .int) (hh := [(0, 9, 12, 13)]) (by decide) rfl ?_
  intro p e s m args below meth c s₁ B hml hv
  obtain ⟨rfl, ⟨hok, hrel, hT, hKk, hF, hbs⟩, hTH⟩ := hv
  have hown : s.vm.findClass RL = some m.cls := findClass_of_methodNamed B.named
  have htab := vx_table (x := yL_led) B (atoms_spec (ws := [Cond.codeWith yL_led cL_led 4 (some .int) [(0, 9, 12, 13)]]) B.pre _ List.mem_cons_self)
  have hlk0 := B.notSynchronized
  refine g_enter (as := [aR (some 0), aI i, aR (some 79)]) (L := [aR (some 0), aI i, aR (some 79), aJ]) ⟨trivial, trivial, trivial, trivial⟩ rfl (Nat.le_of_ble_eq_true rfl) hok hrel ?_
  generalize hΓ : (p, l, e, (headSpec [Cond.codeWith yL_led cL_led 4 (some .int) [(0, 9, 12, 13)]] (rmA 7 1 6)).room, s, m, ([aR (some 0), aI i, aR (some 79)].map (tv sa ad)).toArray, below, meth, c, D, cA, sa, bs, ad, n, MQ below (QA D cA sa bs ad n (llR n iv rv i)) ([aR (some 0), aI i, aR (some 79)].map (tv sa ad)).toArray s 1 6 (fun q => bs ≤ q)) = Γ
  have X : Cx Γ RL cL_led 4 7 := by subst hΓ; exact ⟨B.exec, B.bytes, hml, hown, hlk0, hT, hKk, hF, hbs, Nat.le_refl _, Nat.le_refl _⟩
  have hR : Rt Γ (some .int) 1 6 (llR n iv rv i) := by subst hΓ; exact ⟨B.returns, rfl⟩
  refine g_aload_n (q := 1) 2 X dL_led_0 rfl rfl rfl ?_
  refine g_iconst (q := 2) 0 X dL_led_1 rfl rfl i0 ?_
  refine g_aload_n (q := 3) 0 X dL_led_2 rfl rfl rfl ?_
  refine g_iload_n (q := 4) 1 X dL_led_3 rfl rfl rfl ?_
  -- behind the call
  have hgood : ledOk iv i → G Γ 4 7 [aR (some 0), aI i, aR (some 79), aJ] [aI (iv 65 i.toNat), aI 0, aR (some 79)] n iv rv 1 6 := by
    intro hy
    refine g_i2l (q := 8) X dL_led_7 rfl ?_
    refine g_last (q := 9) (len := 1) X rfl (hK.n (by decide)) ⟨by omega, by decide⟩ dL_led_8 rfl ?_
    refine g_goto (q := 15) X dL_led_9 (by decide) ?_
    refine g_iconst (q := 16) 0 X dL_led_15 rfl rfl i0 ?_
    exact g_iret (q := 0) X hR dL_led_16 rfl ⟨rfl, rfl, Or.inl ⟨hy, rfl, rfl⟩⟩
  have hbad : ¬ ledOk iv i → G Γ 4 13 [aR (some 0), aI i, aR (some 79), aJ] [] n iv rv 1 6 := by
    intro hy
    refine g_iconst (q := 14) 1 X dL_led_13 rfl rfl (by unfold inI; omega) ?_
    exact g_iret (q := 0) X hR dL_led_14 rfl ⟨rfl, rfl, Or.inr ⟨hy, rfl, rfl⟩⟩
  subst hΓ
  intro ad' H locs ls h1 h2 h3 h4 h5 h6 h7
  have hn := h5.1
  have hn0 := hK.1
  have hagr : agr n ad ad' := h1
  have he := wl_at (cA := cA) (sa := sa) (ad := ad') (iv := iv) (rv := rv) (n := n) (k := 0) (by omega)
  rw [cell_o (k := 0) (ci := 10) rfl] at he
  have has : okL n [aR (some 0), aI i] := okL_cons.mpr ⟨fun z hz => by cases hz; exact Or.inl (by omega), okL_cons.mpr ⟨(okL_cons.mp h4).1, fun a ha => by cases ha⟩⟩
  have h4r : okL n [aI 0, aR (some 79)] := (okL_cons.mp (okL_cons.mp h4).2).2
  have hrun := vx_runV (R := (headSpec [Cond.codeWith yL_led cL_led 4 (some .int) [(0, 9, 12, 13)]] (rmA 7 1 6)).room) (args := ([aR (some 0), aI i, aR (some 79)].map (tv sa ad)).toArray) (g := F0 m 4 ls ([aI i, aR (some 0), aI 0, aR (some 79)].map (tv sa ad'))) (As := [aI i].map (tv sa ad')) (rest := [aI 0, aR (some 79)].map (tv sa ad')) (e := e) (below := below) (meth := meth) (b := ad' 0) (C := RX10) (locs := locs) (cells := 0) (slots := 0) (H := H) ⟨B.exec, B.bytes, hml, hown, fun w (hw : w ∈ ([] : List Cond)) => absurd hw List.not_mem_nil⟩ (xl_led hl (D := D) (cA := cA) (sa := sa) (bs := bs) (ad := ad') (iv := iv) (rv := rv) (i := i) hK h8)
    ⟨lkM_use (d := 7) kl_w1 hT (Nat.le_refl _) (Nat.le_refl _) (by decide), hT.at kl_w2 _, hT.at kl_w3 _⟩
    ⟨vx_blind, va_recv hKk h5.2.2.2.1 (cl_at 10 (by decide)) he, fun U hU hW => by
      have h9 := Rel.callee hT hKk hF hbs h5 h6 has hU hW
      have e0 : [aR (some 0), aI i].map (tv sa ad') = Value.ref (ad' 0) :: [aI i].map (tv sa ad') := by rw [List.map_cons, tv_R (by omega)]
      rw [← e0]
      exact ⟨h9.1, h9.2, hTH.go hW (fun a ha hq => by rw [hU]; exact h6.2.1 a ha hq)⟩⟩ rfl rfl h7.1 (by show [aI i, aR (some 0), aI 0, aR (some 79)].map (tv sa ad') = _; rw [List.map_cons, List.map_cons, tv_R (by omega)]; rfl) (lv_room (Nat.le_of_ble_eq_true rfl)) dL_led_4 ⟨by decide, by decide⟩
  intro T hTT XX
  rcases hrun T hTT XX with ⟨v, st₀, t, T', L9, h0, X', hL9, e1, e2, ⟨⟨r, n', iv', rv', ad2, hΦ, hv, hag, hnn, hok2, hrel2⟩, hF2⟩, st⟩ | ⟨q, st₀, t, T', L9, E, ce, h0, X', hL9, e1, e2, ⟨ad2, ⟨hag, hno⟩, ⟨rfl, hrel2⟩, hF2⟩, hce, hcv, hcl, st⟩
  · cases hv
    obtain ⟨rfl, rfl, rfl, hy, rfl⟩ := hΦ
    obtain ⟨k1, k2, k3⟩ := vx_keep h0 e1 h6 (fun q _ z => z) (fun q z => z) hL9 hF2
    have h9 := hgood hy ad2 T'.heap (locs ++ L9) ls (agr.tr (Nat.le_refl _) h1 hag) (Nat.le_refl _) h3 (okL_cons.mpr ⟨hok2 _ rfl, h4r⟩) (by rw [e1]; exact hrel2) k3 (h7.agr hn hag h3)
    have e9 : ∀ x, List.map (tv sa ad2) (aI x :: [aI 0, aR (some 79)]) = tv sa ad2 (aI x) :: List.map (tv sa ad') [aI 0, aR (some 79)] := fun x => by rw [List.map_cons, tvs_agr hn hag h4r]
    rw [e9] at h9
    obtain ⟨t2, a1, b1⟩ := h9 T' rfl X'
    exact ⟨t2, st t2 a1, b1⟩
  · obtain ⟨k1, k2, k3⟩ := vx_keep h0 e1 h6 (fun q _ z => z) (fun q z => z) hL9 hF2
    have hcatch : vx_W p l e (headSpec [Cond.codeWith yL_led cL_led 4 (some .int) [(0, 9, 12, 13)]] (rmA 7 1 6)).room s m ([aR (some 0), aI i, aR (some 79)].map (tv sa ad)).toArray below meth c T'.heap (locs ++ L9) (0 + 1) (0 + 6) (MQ below (QA D cA sa bs ad n (llR n iv rv i)) ([aR (some 0), aI i, aR (some 79)].map (tv sa ad)).toArray s 1 6 (fun q => bs ≤ q)) (F0 m 4 ls ([aI 0, aR (some 79)].map (tv sa ad'))) q := by
      refine vx_catch (own := RL) (name := nse) (E := nse) (ce := ce) hown [] _ [] htab (fun z hz => by cases hz) (by decide) (by decide) (hT.at kl_w4 _) (va_tabs rfl rfl (hTH.1 (.castable nse nse) (by decide +kernel))) (by rw [e1]; exact hce) hcv hcl ?_
      have h7' : LR sa (adU ad2 2500 q) 4 ls [aR (some 0), aI i, aR (some 79), aJ] := (h7.agr hn hag h3).agr (n := n) hn (fun k hk => if_neg (by omega)) h3
      refine lv_astore_n (x := q) B.exec B.bytes dL_led_12 rfl h7'.has (by decide) rfl (fun ls' hl' => ?_)
      have ev : Value.ref q = tv sa (adU ad2 2500 q) (aR (some 2500)) := by
        show _ = Value.ref (pa sa (adU ad2 2500 q) 2500)
        unfold pa
        rw [if_neg (by omega)]
        rfl
      rw [ev] at hl'
      have h8' := LR.set1 (a := aR (some 2500)) rfl hl'
      have h9' : LR sa (adU ad2 2500 q) 4 ls' [aR (some 0), aI i, aR (some 79), aJ] := h8'.sub (fun j b hb hj => by
        match j, hb with
        | 0, hb => exact hb
        | 1, hb => exact hb
        | 2, hb => exact hb
        | 3, hb => cases hb; exact hj.elim
        | j + 4, hb => simp at hb)
      exact hbad hno ad2 T'.heap (locs ++ L9) ls' (agr.tr (Nat.le_refl _) h1 hag) (Nat.le_refl _) h3 (fun a ha => by cases ha) (by rw [e1]; exact hrel2) k3 (h9'.agr (n := n) hn (fun k hk => (if_neg (by omega)).symm) h3)
    obtain ⟨t2, a1, b1⟩ := hcatch T' rfl X'
    exact ⟨t2, st.trans a1, b1⟩
