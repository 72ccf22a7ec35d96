/-! the law: realm, led -/
def RenInv (Inv : Nat → IV → RV → Prop) (n2 : Nat) (iv2 : IV) (rv2 : RV) : Prop := ∃ (n1 : Nat) (σ ρ : Nat → Nat) (iv3 : IV) (rv3 : RV), Ren n1 n2 σ ρ iv3 iv2 rv3 rv2 ∧ (∀ k, k < 80 → k < n1 ∧ σ k = k) ∧ Inv n1 iv3 rv3
def Pr_realm (Inv : Nat → IV → RV → Prop) : Prop :=
  (∀ (iv : IV) (rv : RV) (a : Int), Inv 80 iv rv → inI a → wp_X10_realm a iv rv (fun r1 iv1 rv1 => wp_X12_realm80 a iv1 rv1 (fun r2 n' iv2 rv2 => r2 = r1 ∧ RenInv Inv n' iv2 rv2))) ∧
  (∀ (iv : IV) (rv : RV) (a : Int), Inv 110 iv rv → inI a → wp_X10_realm a iv rv (fun r1 iv1 rv1 => wp_X12_realm110 a iv1 rv1 (fun r2 n' iv2 rv2 => r2 = r1 ∧ RenInv Inv n' iv2 rv2)))
def Pr_led (Inv : Nat → IV → RV → Prop) : Prop := ∀ (n : Nat) (iv : IV) (rv : RV) (a : Int), Inv n iv rv → inI a →
  (ledOk iv a → ∀ iv1, iv1 = w2 iv 79 0 (iv 65 a.toNat) → wp_X12_led a iv1 rv (fun b iv2 => wp_X12_thrown iv2 rv (fun t => t = 0 ∧ iv2 79 0 = b ∧ Inv n iv2 rv))) ∧
  (¬ ledOk iv a → wp_X12_led a iv rv (fun _ iv2 => wp_X12_thrown iv2 rv (fun t => t = 1 ∧ Inv n iv2 rv)))
theorem fix_Lw {n1 : Nat} {σ : Nat → Nat} (h : ∀ k, k < 80 → k < n1 ∧ σ k = k) (i : Int) : ∀ a ∈ LwL i, fixA n1 σ a := by
  intro a ha
  simp only [LwL, List.mem_cons, List.not_mem_nil, or_false] at ha
  rcases ha with rfl | rfl | rfl | rfl | rfl | rfl | rfl
  · exact fun q hq => by cases hq; exact Or.inr ⟨by omega, by omega⟩
  · exact fun q hq => by cases hq; exact Or.inl (h 0 (by omega))
  · exact fun q hq => by cases hq; exact Or.inl (h 66 (by omega))
  · exact fun q hq => by cases hq; exact Or.inl (h 79 (by omega))
  · exact trivial
  · exact trivial
  · exact trivial
theorem kV_L_24 : lkV RL 24 yX10_realm cX10_realm 4 (some .int) 1 = true := lkV_of 2 195 2 196 (lkM_of 2 194 2 197 1 1 rfl rfl rfl (by decide +kernel) (by decide +kernel) (by decide)) rfl rfl
theorem kV_L_27 : lkV RL 27 yX12_realm cX12_realm 2 (some .int) 1 = true := lkV_of 5 205 5 206 (lkM_of 5 204 5 207 1 12 rfl rfl rfl (by decide +kernel) (by decide +kernel) (by decide)) rfl rfl
theorem kV_L_141 : lkV RL 141 yX12_led cX12_led 2 (some .int) 1 = true := lkV_of 8 71 8 72 (lkM_of 8 70 8 73 1 12 rfl rfl rfl (by decide +kernel) (by decide +kernel) (by decide)) rfl rfl
theorem kV_L_142 : lkV RL 142 yX12_thrown cX12_thrown 1 (some .int) 0 = true := lkV_of 5 197 5 198 (lkM_of 5 196 5 199 1 12 rfl rfl rfl (by decide +kernel) (by decide +kernel) (by decide)) rfl rfl
set_option maxRecDepth 10000 in
theorem lc_realm80 {Γ : GX} {Inv : Nat → IV → RV → Prop} {Ln : Nat} {xs : Nat → Int32} {iv : IV} {rv : RV} {u v : Nat} {i : Int} (X : Cx Γ RL cL_law 7 17) (hQ : LQ Γ) (hs : SX Γ Ln xs) (hi : 0 ≤ i ∧ i + 6 ≤ Ln) (hL : Ln ≤ 3072) (hu : u ≤ 600000) (hv : v ≤ 7290000) (hK : Lk 80 rv) (hI : Inv 80 iv rv) (hp : Pr_realm Inv) (hn : ∀ n iv rv, Inv n iv rv → G Γ 7 1409 (LwL i) [] n iv rv (u + 30) (v + 450)) : G Γ 7 249 (LwL i) [] 80 iv rv u v := by
  refine g_aload_n (q := 250) 1 X dL_law_249 rfl rfl rfl ?_
  refine g_aload_n (q := 251) 0 X dL_law_250 rfl rfl rfl ?_
  refine g_iload (q := 253) 4 X dL_law_251 rfl rfl ?_
  refine g_iconst (q := 254) 1 X dL_law_253 rfl rfl (by unfold inI; omega) ?_
  refine g_iadd (q := 255) X dL_law_254 rfl ?_
  rw [show w32 (i + 1) = i + 1 from w32_id (by omega) (by omega)]
  refine g_sld (q := 256) X hs ⟨by omega, by omega⟩ dL_law_255 rfl ?_
  generalize ha : (xs (i + 1).toNat).toInt = a
  have hain : inI a := by rw [← ha]; exact i32_in _
  have h := hp.1 iv rv a hI hain
  refine g_cvU (q := 259) [aI a] 10 X (ce_X10_realm hK h) kV_L_24 rfl (by decide) rfl (hK.n (by decide)) rfl rfl (Nat.le_of_ble_eq_true rfl) (by decide) (hQ.cap (by omega) (by omega)) dL_law_256 rfl (fun r n_ iv_ rv_ hf => ?_)
  obtain ⟨en_, hK1, r1, rfl, h⟩ := hf; subst n_
  generalize iv_ = iv1 at h ⊢
  generalize rv_ = rv1 at h hK1 ⊢
  refine g_aload_n (q := 260) 2 X dL_law_259 rfl rfl rfl ?_
  refine g_aload_n (q := 261) 0 X dL_law_260 rfl rfl rfl ?_
  refine g_iload (q := 263) 4 X dL_law_261 rfl rfl ?_
  refine g_iconst (q := 264) 1 X dL_law_263 rfl rfl (by unfold inI; omega) ?_
  refine g_iadd (q := 265) X dL_law_264 rfl ?_
  rw [show w32 (i + 1) = i + 1 from w32_id (by omega) (by omega)]
  refine g_sld (q := 266) X hs ⟨by omega, by omega⟩ dL_law_265 rfl ?_
  rw [ha]
  refine g_callV (q := 269) [aI a] 12 X (ce_X12_realm80 hK1 h) (lkV_1 kV_L_27).1 (lkV_1 kV_L_27).2.1 (lkV_1 kV_L_27).2.2 (by decide) rfl (hK1.n (by decide)) rfl rfl (Nat.le_of_ble_eq_true rfl) (by decide) (hQ.cap (by omega) (by omega)) dL_law_266 rfl (fun r n_ iv_ rv_ hf _ => ?_)
  obtain ⟨hK2, r2, rfl, h⟩ := hf
  obtain ⟨n1, σ, ρ, iv3, rv3, hren, hfix, hI3⟩ := h.2
  refine g_icmp_eq (q := 272) 1409 X dL_law_269 (by decide) rfl (fun _ => ?_) (fun cx => absurd h.1.symm cx)
  exact g_ren hQ.n0 hren (fix_Lw hfix i) (fun a ha => by cases ha) (hn _ _ _ hI3)
set_option maxRecDepth 10000 in
theorem lc_realm110 {Γ : GX} {Inv : Nat → IV → RV → Prop} {Ln : Nat} {xs : Nat → Int32} {iv : IV} {rv : RV} {u v : Nat} {i : Int} (X : Cx Γ RL cL_law 7 17) (hQ : LQ Γ) (hs : SX Γ Ln xs) (hi : 0 ≤ i ∧ i + 6 ≤ Ln) (hL : Ln ≤ 3072) (hu : u ≤ 600000) (hv : v ≤ 7290000) (hK : Lk 110 rv) (hI : Inv 110 iv rv) (hp : Pr_realm Inv) (hn : ∀ n iv rv, Inv n iv rv → G Γ 7 1409 (LwL i) [] n iv rv (u + 30) (v + 450)) : G Γ 7 249 (LwL i) [] 110 iv rv u v := by
  refine g_aload_n (q := 250) 1 X dL_law_249 rfl rfl rfl ?_
  refine g_aload_n (q := 251) 0 X dL_law_250 rfl rfl rfl ?_
  refine g_iload (q := 253) 4 X dL_law_251 rfl rfl ?_
  refine g_iconst (q := 254) 1 X dL_law_253 rfl rfl (by unfold inI; omega) ?_
  refine g_iadd (q := 255) X dL_law_254 rfl ?_
  rw [show w32 (i + 1) = i + 1 from w32_id (by omega) (by omega)]
  refine g_sld (q := 256) X hs ⟨by omega, by omega⟩ dL_law_255 rfl ?_
  generalize ha : (xs (i + 1).toNat).toInt = a
  have hain : inI a := by rw [← ha]; exact i32_in _
  have h := hp.2 iv rv a hI hain
  refine g_cvU (q := 259) [aI a] 10 X (ce_X10_realm hK h) kV_L_24 rfl (by decide) rfl (hK.n (by decide)) rfl rfl (Nat.le_of_ble_eq_true rfl) (by decide) (hQ.cap (by omega) (by omega)) dL_law_256 rfl (fun r n_ iv_ rv_ hf => ?_)
  obtain ⟨en_, hK1, r1, rfl, h⟩ := hf; subst n_
  generalize iv_ = iv1 at h ⊢
  generalize rv_ = rv1 at h hK1 ⊢
  refine g_aload_n (q := 260) 2 X dL_law_259 rfl rfl rfl ?_
  refine g_aload_n (q := 261) 0 X dL_law_260 rfl rfl rfl ?_
  refine g_iload (q := 263) 4 X dL_law_261 rfl rfl ?_
  refine g_iconst (q := 264) 1 X dL_law_263 rfl rfl (by unfold inI; omega) ?_
  refine g_iadd (q := 265) X dL_law_264 rfl ?_
  rw [show w32 (i + 1) = i + 1 from w32_id (by omega) (by omega)]
  refine g_sld (q := 266) X hs ⟨by omega, by omega⟩ dL_law_265 rfl ?_
  rw [ha]
  refine g_callV (q := 269) [aI a] 12 X (ce_X12_realm110 hK1 h) (lkV_1 kV_L_27).1 (lkV_1 kV_L_27).2.1 (lkV_1 kV_L_27).2.2 (by decide) rfl (hK1.n (by decide)) rfl rfl (Nat.le_of_ble_eq_true rfl) (by decide) (hQ.cap (by omega) (by omega)) dL_law_266 rfl (fun r n_ iv_ rv_ hf _ => ?_)
  obtain ⟨hK2, r2, rfl, h⟩ := hf
  obtain ⟨n1, σ, ρ, iv3, rv3, hren, hfix, hI3⟩ := h.2
  refine g_icmp_eq (q := 272) 1409 X dL_law_269 (by decide) rfl (fun _ => ?_) (fun cx => absurd h.1.symm cx)
  exact g_ren hQ.n0 hren (fix_Lw hfix i) (fun a ha => by cases ha) (hn _ _ _ hI3)
def LT (Γ : GX) : Prop := match Γ with
  | (_, l, _, _, s, _, _, _, _, _, _, _, _, bs, _, _, _) => l.stackTraces = false ∧ TH bs s
theorem kc_led : isW (.codeWith yL_led cL_led 4 (some .int) [(0, 9, 12, 13)]) = true := isW_of 5 1 rfl rfl
theorem kc_led1 : isW (.methodLink RL 136 yL_led) = true := isW_of 4 239 rfl rfl
theorem kc_led2 : isW (.static yL_led) = true := isW_of 5 0 rfl rfl
theorem kc_led3 : isW (.initialized RL) = true := by decide +kernel
theorem g_callLed {Γ : GX} {cc : ByteArray} {nL pc q : Nat} {L S : List AV} {n : Nat} {iv : IV} {rv : RV} {u v : Nat} {i : Int} (X : Cx Γ RL cc nL 17) (hLT : LT Γ) (hK0 : Lk n rv) (h8 : iv 63 3 ≤ 8) (hS : S.length ≤ 4) (hcap : Cap Γ (u + 1) (v + 6)) (hd : decode cc pc = .ok (.invokestatic 136, 3)) (hq : pc + 3 = q)
    (kk : ∀ (r : Option AV) (n' : Nat) (iv' : IV) (rv' : RV), llR n iv rv i r n' iv' rv' → n ≤ n' → G Γ nL q L (r.toList ++ S) n' iv' rv' (u + 1) (v + 6)) : G Γ nL pc L (aR (some 79) :: aI i :: aR (some 0) :: S) n iv rv u v := by
  obtain ⟨p, l, e, R, s, m, args, below, meth, c, D, cA, sa, bs, ad0, n0, Q⟩ := Γ
  obtain ⟨hx, hb, hml, hown, hlk, hT, hK, hF, hbs, hfr, hlo⟩ := X
  obtain ⟨hl, hTH⟩ := hLT
  intro ad H locs ls h1 h2 h3 h4 h5 h6 h7
  subst hq
  have hn := h5.1
  have h4a := okL_cons.mp h4
  have h4b := okL_cons.mp h4a.2
  have h4c := okL_cons.mp h4b.2
  have h4r := h4c.2
  have has : okL n [aR (some 0), aI i, aR (some 79)] := okL_cons.mpr ⟨h4c.1, okL_cons.mpr ⟨h4b.1, okL_cons.mpr ⟨h4a.1, fun a ha => by cases ha⟩⟩⟩
  have hsum := sum_cat (sa := sa) (ad := ad) S
  have hcw : vx_CSW R s args RL 136 yL_led cL_led 4 (some .int) [(0, 9, 12, 13)] [Cond.codeWith yL_led cL_led 4 (some .int) [(0, 9, 12, 13)]] (rmA 7 1 6) 1 6 3 := by
    refine ⟨⟨rfl, rfl, by show 7 + 1 ≤ _; omega, by show 8 + (4 + 11) + 36 * 7 ≤ _; omega, fun w hw a' U hW => ?_, List.mem_cons_self⟩, hT.at kc_led args, hT.at kc_led3 args, by decide +kernel, fun sig hsig => ?_, hT.at kc_led1 args, hT.at kc_led2 args⟩
    · rcases List.mem_cons.mp hw with rfl | hw
      · exact (hT.warm hW).at kc_led a'
      · cases hw
    · have h9 : (parseMethodDescriptor yL_led.desc).map (fun d => d.parameters.length) = some 3 := by decide +kernel
      rw [hsig] at h9
      exact (Option.some.inj h9).symm
  have hrun := vx_runSW (g := F0 m pc ls ((aR (some 79) :: aI i :: aR (some 0) :: S).map (tv sa ad))) (As := [aR (some 0), aI i, aR (some 79)].map (tv sa ad)) (rest := S.map (tv sa ad)) (e := e) (below := below) (meth := meth) (locs := locs) (cells := u) (slots := v) (H := H) ⟨hx, hb, hml, hown, fun w (hw : w ∈ ([] : List Cond)) => absurd hw List.not_mem_nil⟩ (xl_lawled hl (D := D) (cA := cA) (sa := sa) (bs := bs) (ad := ad) (iv := iv) (rv := rv) (i := i) hK0 h8) hcw
    ⟨vx_blind, fun U hU hW => by
      have h9 := Rel.callee hT hK hF hbs h5 h6 has hU hW
      exact ⟨h9.1, h9.2, hTH.go hW (fun a ha hq => by rw [hU]; exact h6.2.1 a ha hq)⟩⟩ rfl rfl h7.1 rfl (lv_room (by omega)) hd hcap
  refine g_run hrun h6 ?_
  intro r n' iv' rv' ad' H1 locs1 hΦ hag hnn hok hrel hS1
  have h9 := kk r n' iv' rv' hΦ hnn ad' H1 locs1 ls (agr.tr h2 h1 hag) (Nat.le_trans h2 hnn) (okL_mono hnn h3) (by
    cases r with
    | none => exact okL_mono hnn h4r
    | some a => exact okL_cons.mpr ⟨hok a rfl, okL_mono hnn h4r⟩) hrel hS1 (h7.agr h5.1 hag h3)
  have e9 : (r.toList ++ S).map (tv sa ad') = (r.map (tv sa ad')).toList ++ S.map (tv sa ad) := by
    rw [List.map_append, tvs_agr h5.1 hag h4r]
    cases r <;> rfl
  rw [e9] at h9
  exact h9
set_option maxRecDepth 10000 in
theorem lc_led {Γ : GX} {Inv : Nat → IV → RV → Prop} {Ln : Nat} {xs : Nat → Int32} {n : Nat} {iv : IV} {rv : RV} {u v : Nat} {i : Int} (X : Cx Γ RL cL_law 7 17) (hQ : LQ Γ) (hLT : LT Γ) (hs : SX Γ Ln xs) (hi : 0 ≤ i ∧ i + 6 ≤ Ln) (hL : Ln ≤ 3072) (hu : u ≤ 600000) (hv : v ≤ 7290000) (hK : Lk n rv) (hI : Inv n iv rv) (h8 : iv 63 3 ≤ 8) (hp : Pr_led Inv) (hn : ∀ n iv rv, Inv n iv rv → G Γ 7 1409 (LwL i) [] n iv rv (u + 1) (v + 6)) : G Γ 7 1315 (LwL i) [] n iv rv u v := by
  refine g_aload_n (q := 1316) 1 X dL_law_1315 rfl rfl rfl ?_
  refine g_aload_n (q := 1317) 0 X dL_law_1316 rfl rfl rfl ?_
  refine g_iload (q := 1319) 4 X dL_law_1317 rfl rfl ?_
  refine g_iconst (q := 1320) 1 X dL_law_1319 rfl rfl (by unfold inI; omega) ?_
  refine g_iadd (q := 1321) X dL_law_1320 rfl ?_
  rw [show w32 (i + 1) = i + 1 from w32_id (by omega) (by omega)]
  refine g_sld (q := 1322) X hs ⟨by omega, by omega⟩ dL_law_1321 rfl ?_
  refine g_aload_n (q := 1323) 3 X dL_law_1322 rfl rfl rfl ?_
  generalize ha : (xs (i + 1).toNat).toInt = a
  have hain : inI a := by rw [← ha]; exact i32_in _
  have hh := hp n iv rv a hI hain
  have tail : ∀ (k : Int) (iv1 : IV), inI k → wp_X12_led a iv1 rv (fun b iv2 => wp_X12_thrown iv2 rv (fun t => t = k ∧ (k = 0 → iv2 79 0 = b) ∧ Inv n iv2 rv)) → G Γ 7 1326 (LwL i) [aI k] n iv1 rv (u + 1) (v + 6) := by
    intro k iv1 hk h
    refine g_istore (k0 := 0) (q := 1328) 5 (L' := [aR (some 1993), aR (some 0), aR (some 66), aR (some 79), aI i, aI k, aJ]) X dL_law_1326 rfl (by decide) rfl rfl ?_
    refine g_aload_n (q := 1329) 2 X dL_law_1328 rfl rfl rfl ?_
    refine g_aload_n (q := 1330) 0 X dL_law_1329 rfl rfl rfl ?_
    refine g_iload (q := 1332) 4 X dL_law_1330 rfl rfl ?_
    refine g_iconst (q := 1333) 1 X dL_law_1332 rfl rfl (by unfold inI; omega) ?_
    refine g_iadd (q := 1334) X dL_law_1333 rfl ?_
    rw [show w32 (i + 1) = i + 1 from w32_id (by omega) (by omega)]
    refine g_sld (q := 1335) X hs ⟨by omega, by omega⟩ dL_law_1334 rfl ?_
    rw [ha]
    refine g_cvU (q := 1338) [aI a] 12 X (ce_X12_led hK h) kV_L_141 rfl (by decide) rfl (hK.n (by decide)) rfl rfl (Nat.le_of_ble_eq_true rfl) (by decide) (hQ.cap (by omega) (by omega)) dL_law_1335 rfl (fun r n_ iv_ rv_ hf => ?_)
    obtain ⟨en_, er_, b, rfl, h⟩ := hf; subst n_; subst rv_
    generalize iv_ = iv2 at h ⊢
    refine g_istore (k0 := 0) (q := 1340) 6 (L' := [aR (some 1993), aR (some 0), aR (some 66), aR (some 79), aI i, aI k, aI b]) X dL_law_1338 rfl (by decide) rfl rfl ?_
    refine g_aload_n (q := 1341) 2 X dL_law_1340 rfl rfl rfl ?_
    refine g_cvU (q := 1344) [] 12 X (ce_X12_thrown hK h) kV_L_142 rfl (by decide) rfl (hK.n (by decide)) rfl rfl (Nat.le_of_ble_eq_true rfl) (by decide) (hQ.cap (by omega) (by omega)) dL_law_1341 rfl (fun r n_ iv_ rv_ hf => ?_)
    obtain ⟨en_, ei_, er_, t, rfl, h⟩ := hf; subst n_; subst iv_; subst rv_
    have fin : G Γ 7 1368 [aR (some 1993), aR (some 0), aR (some 66), aR (some 79), aI i, aI k, aI b] [] n iv2 rv (u + 1) (v + 6) := by
      refine g_goto (q := 1409) X dL_law_1368 (by decide) ?_
      exact g_sub (L' := LwL i) ⟨Or.inr rfl, Or.inr rfl, Or.inr rfl, Or.inr rfl, Or.inr rfl, Or.inl rfl, Or.inl rfl, trivial⟩ (hn _ _ _ h.2.2)
    refine g_iload (q := 1346) 5 X dL_law_1344 rfl rfl ?_
    refine g_icmp_eq (q := 1349) 1351 X dL_law_1346 (by decide) rfl (fun _ => ?_) (fun cx => absurd h.1 cx)
    refine g_iload (q := 1353) 5 X dL_law_1351 rfl rfl ?_
    refine g_if_ne (q := 1356) 1368 X dL_law_1353 (by decide) rfl (fun _ => fin) (fun ck => ?_)
    refine g_aload_n (q := 1357) 3 X dL_law_1356 rfl rfl rfl ?_
    refine g_iconst (q := 1358) 0 X dL_law_1357 rfl rfl i0 ?_
    refine g_lald (q := 1359) (len := 1) X rfl (hK.n (by decide)) ⟨by omega, by decide⟩ dL_law_1358 rfl ?_
    refine g_iload (q := 1361) 6 X dL_law_1359 rfl rfl ?_
    refine g_i2l (q := 1362) X dL_law_1361 rfl ?_
    refine g_lcmp (q := 1363) X dL_law_1362 rfl ?_
    have e0 : iv2 79 (Int.toNat 0) = b := h.2.1 ck
    rw [e0]
    refine g_if_eq (q := 1366) 1368 X dL_law_1363 (by decide) rfl (fun _ => fin) (fun cx => absurd ?_ cx)
    rw [if_neg (by omega), if_pos rfl]
  refine g_callLed (q := 1326) X hLT hK h8 (Nat.le_of_ble_eq_true rfl) (hQ.cap (by omega) (by omega)) dL_law_1323 rfl (fun r n' iv' rv' hf _ => ?_)
  obtain ⟨en, er, hf⟩ := hf
  subst n'
  subst rv'
  rcases hf with ⟨hy, rfl, rfl⟩ | ⟨hy, rfl, rfl⟩
  · refine tail 0 _ i0 ?_
    have h := hh.1 hy _ rfl
    simpa using h
  · refine tail 1 _ (by unfold inI; omega) ?_
    have h := hh.2 hy
    simpa using h
