/-! THE REFERENCE'S realm(): it makes a realm of its own, at place N (80 or 110) -/
theorem g_widen {Γ : GX} {nL pc : Nat} {L S : List AV} {n : Nat} {iv : IV} {rv : RV} {u v : Nat} (u' v' : Nat) (hu : u ≤ u') (hv : v ≤ v') (k : G Γ nL pc L S n iv rv u' v') : G Γ nL pc L S n iv rv u v := by
  obtain ⟨p, l, e, R, s, m, args, below, meth, c, D, cA, sa, bs, ad0, n0, Q⟩ := Γ
  intro ad H locs ls h1 h2 h3 h4 h5 h6 h7
  exact W.widen hu hv (k ad H locs ls h1 h2 h3 h4 h5 h6 h7)
theorem g_cvU {Γ : GX} {own : String} {cc : ByteArray} {nL d pc q : Nat} {L S : List AV} {n : Nat} {iv : IV} {rv : RV} {u v : Nat} {idx np d' : Nat} {y : MethodName} {c9 : ByteArray} {maxL : Nat} {ret : Option FieldType} {Φ : Option AV → Nat → IV → RV → Prop} {S0 : List AV} (as : List AV) {k : Nat} (ci : Nat) (X : Cx Γ own cc nL d) (hC : Call d' 0 0 y c9 maxL ret (aR (some k) :: as) n iv rv Φ) (hl : lkV own idx y c9 maxL ret np = true) (hy : y.cls = cR ci) (hci : ci < 13) (hs : sh k = .inl ci) (hk : k < n) (hnp : as.length = np) (hst : S0 = as.reverse ++ aR (some k) :: S) (hS : S.length ≤ 4) (hdd : d' + 1 ≤ d) (hcap : Cap Γ u v) (hd : decode cc pc = .ok (.invokevirtual idx, 3)) (hq : pc + 3 = q)
    (kk : ∀ (r : Option AV) (n' : Nat) (iv' : IV) (rv' : RV), Φ r n' iv' rv' → G Γ nL q L (r.toList ++ S) n' iv' rv' u v) : G Γ nL pc L S0 n iv rv u v :=
  g_callV as ci X hC (lkV_1 hl).1 (lkV_1 hl).2.1 (by rw [← hy]; exact (lkV_1 hl).2.2) hci hs hk hnp hst hS hdd hcap hd hq (fun r n' iv' rv' h _ => kk r n' iv' rv' h)
def fA (K : Int → Nat → IV → RV → Prop) : Option AV → Nat → IV → RV → Prop := fun r n' iv' rv' => Lk n' rv' ∧ ∃ x, r = some (aI x) ∧ K x n' iv' rv'

theorem jl_X12_172 : isW (.classLink RX12 172 RX11) = true := isW_of 5 212 rfl rfl
theorem jn_11 : isW (.instantiable RX11 (nfd 11)) = true := isW_of 5 213 rfl rfl
theorem jz_11 : isW (.initialized RX11) = true := isW_of 1 20 rfl rfl
theorem jm_X11 : isW (.instanceMethod yX11_init) = true := isW_of 5 215 rfl rfl
theorem jk_X12_438 : lkN RX12 438 yX11_init "TollBarsModel" cX11_init 1 0 = true := lkN_of 5 214 5 216 1 20 rfl rfl rfl (by decide +kernel) (by decide +kernel) (by decide)
theorem kV_X12_439 : lkV RX12 439 yX12_readRealm cX12_readRealm 2 none 0 = true := lkV_of 6 158 0 37 (lkM_of 6 156 6 159 1 12 rfl rfl rfl (by decide +kernel) (by decide +kernel) (by decide)) rfl rfl
theorem cr80_row {rv : RV} {a b : Nat} (ha : a < 80) : crX11_80 (zr rv 80) a b = rv a b := by
  unfold crX11_80
  simp only [r2, zr]
  repeat rw [if_neg (by omega)]
theorem Lk.new80 {rv : RV} (h : Lk 80 rv) : Lk 110 (r2 (crX11_80 (zr rv 80)) 66 4 (some 80)) := by
  have hrow : ∀ a b, a < 80 → ¬ (a = 66 ∧ b = 4) → r2 (crX11_80 (zr rv 80)) 66 4 (some 80) a b = rv a b := by
    intro a b ha hne
    rw [r2_ne hne, cr80_row ha]
  have h5 : ∀ a c, a < 66 → hR5 rv a c → hR5 (r2 (crX11_80 (zr rv 80)) 66 4 (some 80)) a c := by
    intro a c ha hac
    have e1 := hrow a c (by omega) (by omega)
    have e2 : gR (r2 (crX11_80 (zr rv 80)) 66 4 (some 80)) a c = gR rv a c := by unfold gR; rw [e1]
    exact ⟨by rw [e1, e2]; exact hac.1, by rw [e2]; exact hac.2⟩
  have hLl : ∀ q ∈ lnkL, q.1 < 80 ∧ ¬ (q.1 = 66 ∧ q.2.1 = 4) := by decide
  have hA80 : ∀ q ∈ lnkA, q.1 = 80 := by decide
  refine ⟨by omega, by omega, fun q hq => ?_, fun hn q hq => ?_, fun hn q hq => ?_, ⟨h5 _ _ (by omega) h.2.2.2.2.2.1.1, h5 _ _ (by omega) h.2.2.2.2.2.1.2.1, h5 _ _ (by omega) h.2.2.2.2.2.1.2.2.1, h5 _ _ (by omega) h.2.2.2.2.2.1.2.2.2.1, h5 _ _ (by omega) h.2.2.2.2.2.1.2.2.2.2⟩, fun b hb hm => ?_, fun b hb hm => ?_⟩
  · rw [hrow _ _ (by have := (hLl q hq).1; omega) (hLl q hq).2]; exact h.2.2.1 q hq
  · have hall : ∀ q ∈ lnkA, r2 (crX11_80 (zr rv 80)) 66 4 (some 80) q.1 q.2.1 = some q.2.2 := by
      unfold lnkA
      exact List.forall_mem_cons.mpr ⟨rfl, List.forall_mem_cons.mpr ⟨rfl, List.forall_mem_cons.mpr ⟨rfl, List.forall_mem_cons.mpr ⟨rfl, List.forall_mem_cons.mpr ⟨rfl, List.forall_mem_cons.mpr ⟨rfl, List.forall_mem_cons.mpr ⟨rfl, List.forall_mem_cons.mpr ⟨rfl, List.forall_mem_cons.mpr ⟨rfl, List.forall_mem_cons.mpr ⟨rfl, List.forall_mem_cons.mpr ⟨rfl, List.forall_mem_cons.mpr ⟨rfl, List.forall_mem_cons.mpr ⟨rfl, List.forall_mem_cons.mpr ⟨rfl, List.forall_mem_cons.mpr ⟨rfl, List.forall_mem_cons.mpr ⟨rfl, List.forall_mem_cons.mpr ⟨rfl, List.forall_mem_cons.mpr ⟨rfl, List.forall_mem_cons.mpr ⟨rfl, List.forall_mem_cons.mpr ⟨rfl, List.forall_mem_cons.mpr ⟨rfl, List.forall_mem_cons.mpr ⟨rfl, List.forall_mem_cons.mpr ⟨rfl, List.forall_mem_cons.mpr ⟨rfl, List.forall_mem_cons.mpr ⟨rfl, List.forall_mem_cons.mpr ⟨rfl, List.forall_mem_cons.mpr ⟨rfl, List.forall_mem_cons.mpr ⟨rfl, List.forall_mem_cons.mpr ⟨rfl, fun _ h => absurd h List.not_mem_nil⟩⟩⟩⟩⟩⟩⟩⟩⟩⟩⟩⟩⟩⟩⟩⟩⟩⟩⟩⟩⟩⟩⟩⟩⟩⟩⟩⟩⟩
    exact hall q hq
  · exact absurd hn (by omega)
  · rw [hrow 66 3 (by omega) (by omega)] at hb
    have := h.2.2.2.2.2.2.1 b hb hm
    omega
  · rw [r2_eq] at hb
    cases hb
    omega
theorem Lk.w3_80 {rv : RV} (h : Lk 110 rv) : Lk 110 (r2 rv 66 3 (some 80)) := by
  have h5 : ∀ a c, a < 66 → hR5 rv a c → hR5 (r2 rv 66 3 (some 80)) a c := by
    intro a c ha hac
    have e1 : r2 rv 66 3 (some 80) a c = rv a c := r2_ne (by omega)
    have e2 : gR (r2 rv 66 3 (some 80)) a c = gR rv a c := by unfold gR; rw [e1]
    exact ⟨by rw [e1, e2]; exact hac.1, by rw [e2]; exact hac.2⟩
  have hLl : ∀ q ∈ lnkL, ¬ (q.1 = 66 ∧ q.2.1 = 3) := by decide
  have hA : ∀ q ∈ lnkA, ¬ (q.1 = 66 ∧ q.2.1 = 3) := by decide
  have hB : ∀ q ∈ lnkB, ¬ (q.1 = 66 ∧ q.2.1 = 3) := by decide
  refine ⟨by omega, by omega, fun q hq => ?_, fun hn q hq => ?_, fun hn q hq => ?_, ⟨h5 _ _ (by omega) h.2.2.2.2.2.1.1, h5 _ _ (by omega) h.2.2.2.2.2.1.2.1, h5 _ _ (by omega) h.2.2.2.2.2.1.2.2.1, h5 _ _ (by omega) h.2.2.2.2.2.1.2.2.2.1, h5 _ _ (by omega) h.2.2.2.2.2.1.2.2.2.2⟩, fun b hb hm => ?_, fun b hb hm => ?_⟩
  · rw [r2_ne (hLl q hq)]; exact h.2.2.1 q hq
  · rw [r2_ne (hA q hq)]; exact h.2.2.2.1 hn q hq
  · rw [r2_ne (hB q hq)]; exact h.2.2.2.2.1 hn q hq
  · rw [r2_eq] at hb
    cases hb
    omega
  · rw [r2_ne (by omega)] at hb
    exact h.2.2.2.2.2.2.2 b hb hm
theorem cr110_row {rv : RV} {a b : Nat} (ha : a < 110) : crX11_110 (zr rv 110) a b = rv a b := by
  unfold crX11_110
  simp only [r2, zr]
  repeat rw [if_neg (by omega)]
theorem Lk.new110 {rv : RV} (h : Lk 110 rv) : Lk 140 (r2 (crX11_110 (zr rv 110)) 66 4 (some 110)) := by
  have hrow : ∀ a b, a < 110 → ¬ (a = 66 ∧ b = 4) → r2 (crX11_110 (zr rv 110)) 66 4 (some 110) a b = rv a b := by
    intro a b ha hne
    rw [r2_ne hne, cr110_row ha]
  have h5 : ∀ a c, a < 66 → hR5 rv a c → hR5 (r2 (crX11_110 (zr rv 110)) 66 4 (some 110)) a c := by
    intro a c ha hac
    have e1 := hrow a c (by omega) (by omega)
    have e2 : gR (r2 (crX11_110 (zr rv 110)) 66 4 (some 110)) a c = gR rv a c := by unfold gR; rw [e1]
    exact ⟨by rw [e1, e2]; exact hac.1, by rw [e2]; exact hac.2⟩
  have hLl : ∀ q ∈ lnkL, q.1 < 80 ∧ ¬ (q.1 = 66 ∧ q.2.1 = 4) := by decide
  have hA80 : ∀ q ∈ lnkA, q.1 = 80 := by decide
  refine ⟨by omega, by omega, fun q hq => ?_, fun hn q hq => ?_, fun hn q hq => ?_, ⟨h5 _ _ (by omega) h.2.2.2.2.2.1.1, h5 _ _ (by omega) h.2.2.2.2.2.1.2.1, h5 _ _ (by omega) h.2.2.2.2.2.1.2.2.1, h5 _ _ (by omega) h.2.2.2.2.2.1.2.2.2.1, h5 _ _ (by omega) h.2.2.2.2.2.1.2.2.2.2⟩, fun b hb hm => ?_, fun b hb hm => ?_⟩
  · rw [hrow _ _ (by have := (hLl q hq).1; omega) (hLl q hq).2]; exact h.2.2.1 q hq
  · rw [hrow _ _ (by rw [hA80 q hq]; omega) (by rw [hA80 q hq]; omega)]; exact h.2.2.2.1 (by omega) q hq
  · have hall : ∀ q ∈ lnkB, r2 (crX11_110 (zr rv 110)) 66 4 (some 110) q.1 q.2.1 = some q.2.2 := by
      unfold lnkB
      exact List.forall_mem_cons.mpr ⟨rfl, List.forall_mem_cons.mpr ⟨rfl, List.forall_mem_cons.mpr ⟨rfl, List.forall_mem_cons.mpr ⟨rfl, List.forall_mem_cons.mpr ⟨rfl, List.forall_mem_cons.mpr ⟨rfl, List.forall_mem_cons.mpr ⟨rfl, List.forall_mem_cons.mpr ⟨rfl, List.forall_mem_cons.mpr ⟨rfl, List.forall_mem_cons.mpr ⟨rfl, List.forall_mem_cons.mpr ⟨rfl, List.forall_mem_cons.mpr ⟨rfl, List.forall_mem_cons.mpr ⟨rfl, List.forall_mem_cons.mpr ⟨rfl, List.forall_mem_cons.mpr ⟨rfl, List.forall_mem_cons.mpr ⟨rfl, List.forall_mem_cons.mpr ⟨rfl, List.forall_mem_cons.mpr ⟨rfl, List.forall_mem_cons.mpr ⟨rfl, List.forall_mem_cons.mpr ⟨rfl, List.forall_mem_cons.mpr ⟨rfl, List.forall_mem_cons.mpr ⟨rfl, List.forall_mem_cons.mpr ⟨rfl, List.forall_mem_cons.mpr ⟨rfl, List.forall_mem_cons.mpr ⟨rfl, List.forall_mem_cons.mpr ⟨rfl, List.forall_mem_cons.mpr ⟨rfl, List.forall_mem_cons.mpr ⟨rfl, List.forall_mem_cons.mpr ⟨rfl, fun _ h => absurd h List.not_mem_nil⟩⟩⟩⟩⟩⟩⟩⟩⟩⟩⟩⟩⟩⟩⟩⟩⟩⟩⟩⟩⟩⟩⟩⟩⟩⟩⟩⟩⟩
    exact hall q hq
  · rw [hrow 66 3 (by omega) (by omega)] at hb
    have := h.2.2.2.2.2.2.1 b hb hm
    omega
  · rw [r2_eq] at hb
    cases hb
    omega
theorem Lk.w3_110 {rv : RV} (h : Lk 140 rv) : Lk 140 (r2 rv 66 3 (some 110)) := by
  have h5 : ∀ a c, a < 66 → hR5 rv a c → hR5 (r2 rv 66 3 (some 110)) a c := by
    intro a c ha hac
    have e1 : r2 rv 66 3 (some 110) a c = rv a c := r2_ne (by omega)
    have e2 : gR (r2 rv 66 3 (some 110)) a c = gR rv a c := by unfold gR; rw [e1]
    exact ⟨by rw [e1, e2]; exact hac.1, by rw [e2]; exact hac.2⟩
  have hLl : ∀ q ∈ lnkL, ¬ (q.1 = 66 ∧ q.2.1 = 3) := by decide
  have hA : ∀ q ∈ lnkA, ¬ (q.1 = 66 ∧ q.2.1 = 3) := by decide
  have hB : ∀ q ∈ lnkB, ¬ (q.1 = 66 ∧ q.2.1 = 3) := by decide
  refine ⟨by omega, by omega, fun q hq => ?_, fun hn q hq => ?_, fun hn q hq => ?_, ⟨h5 _ _ (by omega) h.2.2.2.2.2.1.1, h5 _ _ (by omega) h.2.2.2.2.2.1.2.1, h5 _ _ (by omega) h.2.2.2.2.2.1.2.2.1, h5 _ _ (by omega) h.2.2.2.2.2.1.2.2.2.1, h5 _ _ (by omega) h.2.2.2.2.2.1.2.2.2.2⟩, fun b hb hm => ?_, fun b hb hm => ?_⟩
  · rw [r2_ne (hLl q hq)]; exact h.2.2.1 q hq
  · rw [r2_ne (hA q hq)]; exact h.2.2.2.1 hn q hq
  · rw [r2_ne (hB q hq)]; exact h.2.2.2.2.1 hn q hq
  · rw [r2_eq] at hb
    cases hb
    omega
  · rw [r2_ne (by omega)] at hb
    exact h.2.2.2.2.2.2.2 b hb hm
def wp_X12_realm80 (a1 : Int) (iv : IV) (rv : RV) (K : Int → Nat → IV → RV → Prop) : Prop :=
  ∀ iv2, iv2 = w2 iv 66 0 0 → ((a1 < 0) → (wp_X12_refused 2 iv2 rv (fun r19 iv19 => K r19 80 iv19 rv))) ∧ ((¬ (a1 < 0)) → (((a1 ≤ (iv2 66 6)) → (∀ iv25, iv25 = w2 iv2 66 7 a1 → ∀ iv30, iv30 = w2 iv25 66 6 0 → ∀ iv35, iv35 = w2 iv30 66 8 0 → ∀ iv40, iv40 = w2 iv35 66 12 0 → ∀ iv48, iv48 = ciX11_80 (z2 iv40 80) → ∀ rv51, rv51 = r2 (crX11_80 (zr rv 80)) 66 4 (some 80) → ∀ iv56, iv56 = w2 iv48 66 9 0 → wp_X12_goesOn iv56 rv51 (fun iv60 => wp_X12_readRealm iv60 rv51 (fun iv64 => (((iv64 66 12) ≤ 0) → (∀ rv94, rv94 = r2 rv51 66 3 (some 80) → ∀ iv99, iv99 = w2 iv64 66 27 0 → ∀ iv104, iv104 = w2 iv99 66 28 (-1) → ∀ iv109, iv109 = w2 iv104 66 29 0 → wp_X12_done (iv109 80 0) iv109 rv94 (fun r120 iv120 => K r120 110 iv120 rv94))) ∧ ((¬ ((iv64 66 12) ≤ 0)) → (∀ iv76, iv76 = w2 iv64 66 1 4 → ∀ iv84, iv84 = w2 iv76 66 2 (iv76 66 13) → K (-1) 110 iv84 rv51)))))) ∧ ((¬ (a1 ≤ (iv2 66 6))) → (wp_X12_refused 2 iv2 rv (fun r19 iv19 => K r19 80 iv19 rv)))))
set_option maxRecDepth 10000 in
theorem ce_X12_realm80 {iv : IV} {rv : RV} {a1 : Int} {K : Int → Nat → IV → RV → Prop} (hK : Lk 80 rv) (h : wp_X12_realm80 a1 iv rv K) : Call 13 30 450 yX12_realm cX12_realm 2 (some .int) [aR (some 66), aI a1] 80 iv rv (fA K) := by
  refine Call.of (L := [aR (some 66), aI a1]) (by decide) rfl (njL_use _ ⟨trivial, trivial, trivial⟩) rfl (Nat.le_of_ble_eq_true rfl) (fun Γ X hR _ hc => ?_)
  unfold wp_X12_realm80 at h
  refine g_aload_n (q := 1) 0 X dX12_realm_0 rfl rfl rfl ?_
  refine g_iconst (q := 2) 0 X dX12_realm_1 rfl rfl (by unfold inI; omega) ?_
  refine g_putI (q := 5) 12 0 X (Or.inl rfl) rfl kf_X12_54 (by decide) (by decide) rfl (hK.n (by decide)) dX12_realm_2 rfl ?_
  refine g_nmM (fun iv2 eiv2 => ?_)
  have h := h iv2 eiv2
  refine g_iload_n (q := 6) 1 X dX12_realm_5 rfl rfl rfl ?_
  refine g_if_lt (q := 9) 17 X dX12_realm_6 (by decide) rfl (fun c6 => ?_) (fun c6 => ?_)
  · have h := h.1 c6
    refine g_aload_n (q := 18) 0 X dX12_realm_17 rfl rfl rfl ?_
    refine g_iconst (q := 19) 2 X dX12_realm_18 rfl rfl (by unfold inI; omega) ?_
    refine g_cvU (q := 22) [aI 2] 12 X (ce_X12_refused hK h) kV_X12_60 rfl (by decide) rfl (hK.n (by decide)) rfl rfl (Nat.le_of_ble_eq_true rfl) (by decide) (hc _ _ (by decide) (by decide)) dX12_realm_19 rfl (fun r n_ iv_ rv_ hf => ?_)
    obtain ⟨en_, er_, r19, rfl, h⟩ := hf; subst n_; subst rv_
    generalize iv_ = iv19 at h ⊢
    refine g_widen 30 450 (by decide) (by decide) ?_
    exact g_iret (q := 0) X hR dX12_realm_22 rfl ⟨hK, _, rfl, h⟩
  · have h := h.2 c6
    refine g_iload_n (q := 10) 1 X dX12_realm_9 rfl rfl rfl ?_
    refine g_aload_n (q := 11) 0 X dX12_realm_10 rfl rfl rfl ?_
    refine g_getI (q := 14) 12 6 X kf_X12_435 (by decide) (by decide) rfl rfl (hK.n (by decide)) dX12_realm_11 rfl ?_
    refine g_icmp_le (q := 17) 23 X dX12_realm_14 (by decide) rfl (fun c14 => ?_) (fun c14 => ?_)
    · have h := h.1 c14
      refine g_aload_n (q := 24) 0 X dX12_realm_23 rfl rfl rfl ?_
      refine g_iload_n (q := 25) 1 X dX12_realm_24 rfl rfl rfl ?_
      refine g_putI (q := 28) 12 7 X (Or.inl rfl) rfl kf_X12_68 (by decide) (by decide) rfl (hK.n (by decide)) dX12_realm_25 rfl ?_
      refine g_nmM (fun iv25 eiv25 => ?_)
      have h := h iv25 eiv25
      refine g_aload_n (q := 29) 0 X dX12_realm_28 rfl rfl rfl ?_
      refine g_iconst (q := 30) 0 X dX12_realm_29 rfl rfl (by unfold inI; omega) ?_
      refine g_putI (q := 33) 12 6 X (Or.inl rfl) rfl kf_X12_435 (by decide) (by decide) rfl (hK.n (by decide)) dX12_realm_30 rfl ?_
      refine g_nmM (fun iv30 eiv30 => ?_)
      have h := h iv30 eiv30
      refine g_aload_n (q := 34) 0 X dX12_realm_33 rfl rfl rfl ?_
      refine g_iconst (q := 35) 0 X dX12_realm_34 rfl rfl (by unfold inI; omega) ?_
      refine g_putI (q := 38) 12 8 X (Or.inl rfl) rfl kf_X12_86 (by decide) (by decide) rfl (hK.n (by decide)) dX12_realm_35 rfl ?_
      refine g_nmM (fun iv35 eiv35 => ?_)
      have h := h iv35 eiv35
      refine g_aload_n (q := 39) 0 X dX12_realm_38 rfl rfl rfl ?_
      refine g_iconst (q := 40) 0 X dX12_realm_39 rfl rfl (by unfold inI; omega) ?_
      refine g_putI (q := 43) 12 12 X (Or.inl rfl) rfl kf_X12_109 (by decide) (by decide) rfl (hK.n (by decide)) dX12_realm_40 rfl ?_
      refine g_nmM (fun iv40 eiv40 => ?_)
      have h := h iv40 eiv40
      refine g_aload_n (q := 44) 0 X dX12_realm_43 rfl rfl rfl ?_
      refine g_new (q := 47) 11 X (by decide) rfl jl_X12_172 jn_11 jz_11 rfl (by decide) (hc _ _ (by decide) (by decide)) dX12_realm_44 rfl ?_
      refine g_dup (q := 48) X dX12_realm_47 rfl rfl ?_
      refine g_callIN (q := 51) [] X (cc_X11_80 _ _) jk_X12_438 rfl jm_X11 (by decide) rfl rfl (Nat.le_of_ble_eq_true rfl) (by decide) (hc _ _ (by decide) (by decide)) dX12_realm_48 rfl (fun r n_ iv_ rv_ hf _ => ?_)
      obtain ⟨rfl, rfl, rfl, rfl⟩ := hf
      refine g_nmM (fun iv48 eiv48 => ?_)
      have h := h iv48 eiv48
      refine g_putR (q := 54) 12 4 X rfl rfl kf_X12_167 (by decide) (by decide) rfl (by decide) dX12_realm_51 rfl ?_
      refine g_nmR (fun rv51 erv51 => ?_)
      have h := h rv51 erv51
      have hK_rv51 : Lk 110 rv51 := by rw [erv51]; exact Lk.new80 hK
      have e4_80 : rv51 66 4 = some 80 := by rw [erv51]; exact r2_eq
      refine g_aload_n (q := 55) 0 X dX12_realm_54 rfl rfl rfl ?_
      refine g_iconst (q := 56) 0 X dX12_realm_55 rfl rfl (by unfold inI; omega) ?_
      refine g_putI (q := 59) 12 9 X (Or.inl rfl) rfl kf_X12_83 (by decide) (by decide) rfl (hK_rv51.n (by decide)) dX12_realm_56 rfl ?_
      refine g_nmM (fun iv56 eiv56 => ?_)
      have h := h iv56 eiv56
      refine g_aload_n (q := 60) 0 X dX12_realm_59 rfl rfl rfl ?_
      refine g_cvU (q := 63) [] 12 X (ce_X12_goesOn hK_rv51 h) kV_X12_123 rfl (by decide) rfl (hK_rv51.n (by decide)) rfl rfl (Nat.le_of_ble_eq_true rfl) (by decide) (hc _ _ (by decide) (by decide)) dX12_realm_60 rfl (fun r n_ iv_ rv_ hf => ?_)
      obtain ⟨en_, er_, rfl, h⟩ := hf; subst n_; subst rv_
      generalize iv_ = iv60 at h ⊢
      refine g_aload_n (q := 64) 0 X dX12_realm_63 rfl rfl rfl ?_
      refine g_cvU (q := 67) [] 12 X (ce_X12_readRealm hK_rv51 h) kV_X12_439 rfl (by decide) rfl (hK_rv51.n (by decide)) rfl rfl (Nat.le_of_ble_eq_true rfl) (by decide) (hc _ _ (by decide) (by decide)) dX12_realm_64 rfl (fun r n_ iv_ rv_ hf => ?_)
      obtain ⟨en_, er_, rfl, h⟩ := hf; subst n_; subst rv_
      generalize iv_ = iv64 at h ⊢
      refine g_aload_n (q := 68) 0 X dX12_realm_67 rfl rfl rfl ?_
      refine g_getI (q := 71) 12 12 X kf_X12_109 (by decide) (by decide) rfl rfl (hK_rv51.n (by decide)) dX12_realm_68 rfl ?_
      refine g_if_le (q := 74) 89 X dX12_realm_71 (by decide) rfl (fun c71 => ?_) (fun c71 => ?_)
      · have h := h.1 c71
        refine g_aload_n (q := 90) 0 X dX12_realm_89 rfl rfl rfl ?_
        refine g_aload_n (q := 91) 0 X dX12_realm_90 rfl rfl rfl ?_
        refine g_getR (q := 94) (r := some 80) 12 4 X e4_80 (lt2000 (c := 0) (by decide)) kf_X12_167 (by decide) (by decide) rfl rfl (hK_rv51.n (by decide)) dX12_realm_91 rfl ?_
        refine g_putR (q := 97) 12 3 X rfl rfl kf_X12_442 (by decide) (by decide) rfl (by decide) dX12_realm_94 rfl ?_
        refine g_nmR (fun rv94 erv94 => ?_)
        have h := h rv94 erv94
        have hK_rv94 : Lk 110 rv94 := by rw [erv94]; exact Lk.w3_80 hK_rv51
        have e3_80 : rv94 66 3 = some 80 := by rw [erv94]; exact r2_eq
        refine g_aload_n (q := 98) 0 X dX12_realm_97 rfl rfl rfl ?_
        refine g_iconst (q := 99) 0 X dX12_realm_98 rfl rfl (by unfold inI; omega) ?_
        refine g_putI (q := 102) 12 27 X (Or.inl rfl) rfl kf_X12_445 (by decide) (by decide) rfl (hK_rv94.n (by decide)) dX12_realm_99 rfl ?_
        refine g_nmM (fun iv99 eiv99 => ?_)
        have h := h iv99 eiv99
        refine g_aload_n (q := 103) 0 X dX12_realm_102 rfl rfl rfl ?_
        refine g_iconst (q := 104) (-1) X dX12_realm_103 rfl rfl (by unfold inI; omega) ?_
        refine g_putI (q := 107) 12 28 X (Or.inl rfl) rfl kf_X12_33 (by decide) (by decide) rfl (hK_rv94.n (by decide)) dX12_realm_104 rfl ?_
        refine g_nmM (fun iv104 eiv104 => ?_)
        have h := h iv104 eiv104
        refine g_aload_n (q := 108) 0 X dX12_realm_107 rfl rfl rfl ?_
        refine g_iconst (q := 109) 0 X dX12_realm_108 rfl rfl (by unfold inI; omega) ?_
        refine g_putI (q := 112) 12 29 X (Or.inl rfl) rfl kf_X12_448 (by decide) (by decide) rfl (hK_rv94.n (by decide)) dX12_realm_109 rfl ?_
        refine g_nmM (fun iv109 eiv109 => ?_)
        have h := h iv109 eiv109
        refine g_aload_n (q := 113) 0 X dX12_realm_112 rfl rfl rfl ?_
        refine g_aload_n (q := 114) 0 X dX12_realm_113 rfl rfl rfl ?_
        refine g_getR (q := 117) (r := some 80) 12 3 X e3_80 (lt2000 (c := 0) (by decide)) kf_X12_442 (by decide) (by decide) rfl rfl (hK_rv94.n (by decide)) dX12_realm_114 rfl ?_
        refine g_getI (q := 120) 11 0 X kf_X12_196 (by decide) (by decide) rfl rfl (by decide) dX12_realm_117 rfl ?_
        refine g_cvU (q := 123) [aI (iv109 80 0)] 12 X (ce_X12_done hK_rv94 h) kV_X12_65 rfl (by decide) rfl (hK_rv94.n (by decide)) rfl rfl (Nat.le_of_ble_eq_true rfl) (by decide) (hc _ _ (by decide) (by decide)) dX12_realm_120 rfl (fun r n_ iv_ rv_ hf => ?_)
        obtain ⟨en_, er_, r120, rfl, h⟩ := hf; subst n_; subst rv_
        generalize iv_ = iv120 at h ⊢
        exact g_iret (q := 0) X hR dX12_realm_123 rfl ⟨hK_rv94, _, rfl, h⟩
      · have h := h.2 c71
        refine g_aload_n (q := 75) 0 X dX12_realm_74 rfl rfl rfl ?_
        refine g_iconst (q := 76) 4 X dX12_realm_75 rfl rfl (by unfold inI; omega) ?_
        refine g_putI (q := 79) 12 1 X (Or.inl rfl) rfl kf_X12_57 (by decide) (by decide) rfl (hK_rv51.n (by decide)) dX12_realm_76 rfl ?_
        refine g_nmM (fun iv76 eiv76 => ?_)
        have h := h iv76 eiv76
        refine g_aload_n (q := 80) 0 X dX12_realm_79 rfl rfl rfl ?_
        refine g_aload_n (q := 81) 0 X dX12_realm_80 rfl rfl rfl ?_
        refine g_getI (q := 84) 12 13 X kf_X12_112 (by decide) (by decide) rfl rfl (hK_rv51.n (by decide)) dX12_realm_81 rfl ?_
        refine g_putI (q := 87) 12 2 X (Or.inl rfl) rfl kf_X12_9 (by decide) (by decide) rfl (hK_rv51.n (by decide)) dX12_realm_84 rfl ?_
        refine g_nmM (fun iv84 eiv84 => ?_)
        have h := h iv84 eiv84
        refine g_iconst (q := 88) (-1) X dX12_realm_87 rfl rfl (by unfold inI; omega) ?_
        exact g_iret (q := 0) X hR dX12_realm_88 rfl ⟨hK_rv51, _, rfl, h⟩
    · have h := h.2 c14
      refine g_aload_n (q := 18) 0 X dX12_realm_17 rfl rfl rfl ?_
      refine g_iconst (q := 19) 2 X dX12_realm_18 rfl rfl (by unfold inI; omega) ?_
      refine g_cvU (q := 22) [aI 2] 12 X (ce_X12_refused hK h) kV_X12_60 rfl (by decide) rfl (hK.n (by decide)) rfl rfl (Nat.le_of_ble_eq_true rfl) (by decide) (hc _ _ (by decide) (by decide)) dX12_realm_19 rfl (fun r n_ iv_ rv_ hf => ?_)
      obtain ⟨en_, er_, r19, rfl, h⟩ := hf; subst n_; subst rv_
      generalize iv_ = iv19 at h ⊢
      refine g_widen 30 450 (by decide) (by decide) ?_
      exact g_iret (q := 0) X hR dX12_realm_22 rfl ⟨hK, _, rfl, h⟩
def wp_X12_realm110 (a1 : Int) (iv : IV) (rv : RV) (K : Int → Nat → IV → RV → Prop) : Prop :=
  ∀ iv2, iv2 = w2 iv 66 0 0 → ((a1 < 0) → (wp_X12_refused 2 iv2 rv (fun r19 iv19 => K r19 110 iv19 rv))) ∧ ((¬ (a1 < 0)) → (((a1 ≤ (iv2 66 6)) → (∀ iv25, iv25 = w2 iv2 66 7 a1 → ∀ iv30, iv30 = w2 iv25 66 6 0 → ∀ iv35, iv35 = w2 iv30 66 8 0 → ∀ iv40, iv40 = w2 iv35 66 12 0 → ∀ iv48, iv48 = ciX11_110 (z2 iv40 110) → ∀ rv51, rv51 = r2 (crX11_110 (zr rv 110)) 66 4 (some 110) → ∀ iv56, iv56 = w2 iv48 66 9 0 → wp_X12_goesOn iv56 rv51 (fun iv60 => wp_X12_readRealm iv60 rv51 (fun iv64 => (((iv64 66 12) ≤ 0) → (∀ rv94, rv94 = r2 rv51 66 3 (some 110) → ∀ iv99, iv99 = w2 iv64 66 27 0 → ∀ iv104, iv104 = w2 iv99 66 28 (-1) → ∀ iv109, iv109 = w2 iv104 66 29 0 → wp_X12_done (iv109 110 0) iv109 rv94 (fun r120 iv120 => K r120 140 iv120 rv94))) ∧ ((¬ ((iv64 66 12) ≤ 0)) → (∀ iv76, iv76 = w2 iv64 66 1 4 → ∀ iv84, iv84 = w2 iv76 66 2 (iv76 66 13) → K (-1) 140 iv84 rv51)))))) ∧ ((¬ (a1 ≤ (iv2 66 6))) → (wp_X12_refused 2 iv2 rv (fun r19 iv19 => K r19 110 iv19 rv)))))
set_option maxRecDepth 10000 in
theorem ce_X12_realm110 {iv : IV} {rv : RV} {a1 : Int} {K : Int → Nat → IV → RV → Prop} (hK : Lk 110 rv) (h : wp_X12_realm110 a1 iv rv K) : Call 13 30 450 yX12_realm cX12_realm 2 (some .int) [aR (some 66), aI a1] 110 iv rv (fA K) := by
  refine Call.of (L := [aR (some 66), aI a1]) (by decide) rfl (njL_use _ ⟨trivial, trivial, trivial⟩) rfl (Nat.le_of_ble_eq_true rfl) (fun Γ X hR _ hc => ?_)
  unfold wp_X12_realm110 at h
  refine g_aload_n (q := 1) 0 X dX12_realm_0 rfl rfl rfl ?_
  refine g_iconst (q := 2) 0 X dX12_realm_1 rfl rfl (by unfold inI; omega) ?_
  refine g_putI (q := 5) 12 0 X (Or.inl rfl) rfl kf_X12_54 (by decide) (by decide) rfl (hK.n (by decide)) dX12_realm_2 rfl ?_
  refine g_nmM (fun iv2 eiv2 => ?_)
  have h := h iv2 eiv2
  refine g_iload_n (q := 6) 1 X dX12_realm_5 rfl rfl rfl ?_
  refine g_if_lt (q := 9) 17 X dX12_realm_6 (by decide) rfl (fun c6 => ?_) (fun c6 => ?_)
  · have h := h.1 c6
    refine g_aload_n (q := 18) 0 X dX12_realm_17 rfl rfl rfl ?_
    refine g_iconst (q := 19) 2 X dX12_realm_18 rfl rfl (by unfold inI; omega) ?_
    refine g_cvU (q := 22) [aI 2] 12 X (ce_X12_refused hK h) kV_X12_60 rfl (by decide) rfl (hK.n (by decide)) rfl rfl (Nat.le_of_ble_eq_true rfl) (by decide) (hc _ _ (by decide) (by decide)) dX12_realm_19 rfl (fun r n_ iv_ rv_ hf => ?_)
    obtain ⟨en_, er_, r19, rfl, h⟩ := hf; subst n_; subst rv_
    generalize iv_ = iv19 at h ⊢
    refine g_widen 30 450 (by decide) (by decide) ?_
    exact g_iret (q := 0) X hR dX12_realm_22 rfl ⟨hK, _, rfl, h⟩
  · have h := h.2 c6
    refine g_iload_n (q := 10) 1 X dX12_realm_9 rfl rfl rfl ?_
    refine g_aload_n (q := 11) 0 X dX12_realm_10 rfl rfl rfl ?_
    refine g_getI (q := 14) 12 6 X kf_X12_435 (by decide) (by decide) rfl rfl (hK.n (by decide)) dX12_realm_11 rfl ?_
    refine g_icmp_le (q := 17) 23 X dX12_realm_14 (by decide) rfl (fun c14 => ?_) (fun c14 => ?_)
    · have h := h.1 c14
      refine g_aload_n (q := 24) 0 X dX12_realm_23 rfl rfl rfl ?_
      refine g_iload_n (q := 25) 1 X dX12_realm_24 rfl rfl rfl ?_
      refine g_putI (q := 28) 12 7 X (Or.inl rfl) rfl kf_X12_68 (by decide) (by decide) rfl (hK.n (by decide)) dX12_realm_25 rfl ?_
      refine g_nmM (fun iv25 eiv25 => ?_)
      have h := h iv25 eiv25
      refine g_aload_n (q := 29) 0 X dX12_realm_28 rfl rfl rfl ?_
      refine g_iconst (q := 30) 0 X dX12_realm_29 rfl rfl (by unfold inI; omega) ?_
      refine g_putI (q := 33) 12 6 X (Or.inl rfl) rfl kf_X12_435 (by decide) (by decide) rfl (hK.n (by decide)) dX12_realm_30 rfl ?_
      refine g_nmM (fun iv30 eiv30 => ?_)
      have h := h iv30 eiv30
      refine g_aload_n (q := 34) 0 X dX12_realm_33 rfl rfl rfl ?_
      refine g_iconst (q := 35) 0 X dX12_realm_34 rfl rfl (by unfold inI; omega) ?_
      refine g_putI (q := 38) 12 8 X (Or.inl rfl) rfl kf_X12_86 (by decide) (by decide) rfl (hK.n (by decide)) dX12_realm_35 rfl ?_
      refine g_nmM (fun iv35 eiv35 => ?_)
      have h := h iv35 eiv35
      refine g_aload_n (q := 39) 0 X dX12_realm_38 rfl rfl rfl ?_
      refine g_iconst (q := 40) 0 X dX12_realm_39 rfl rfl (by unfold inI; omega) ?_
      refine g_putI (q := 43) 12 12 X (Or.inl rfl) rfl kf_X12_109 (by decide) (by decide) rfl (hK.n (by decide)) dX12_realm_40 rfl ?_
      refine g_nmM (fun iv40 eiv40 => ?_)
      have h := h iv40 eiv40
      refine g_aload_n (q := 44) 0 X dX12_realm_43 rfl rfl rfl ?_
      refine g_new (q := 47) 11 X (by decide) rfl jl_X12_172 jn_11 jz_11 rfl (by decide) (hc _ _ (by decide) (by decide)) dX12_realm_44 rfl ?_
      refine g_dup (q := 48) X dX12_realm_47 rfl rfl ?_
      refine g_callIN (q := 51) [] X (cc_X11_110 _ _) jk_X12_438 rfl jm_X11 (by decide) rfl rfl (Nat.le_of_ble_eq_true rfl) (by decide) (hc _ _ (by decide) (by decide)) dX12_realm_48 rfl (fun r n_ iv_ rv_ hf _ => ?_)
      obtain ⟨rfl, rfl, rfl, rfl⟩ := hf
      refine g_nmM (fun iv48 eiv48 => ?_)
      have h := h iv48 eiv48
      refine g_putR (q := 54) 12 4 X rfl rfl kf_X12_167 (by decide) (by decide) rfl (by decide) dX12_realm_51 rfl ?_
      refine g_nmR (fun rv51 erv51 => ?_)
      have h := h rv51 erv51
      have hK_rv51 : Lk 140 rv51 := by rw [erv51]; exact Lk.new110 hK
      have e4_110 : rv51 66 4 = some 110 := by rw [erv51]; exact r2_eq
      refine g_aload_n (q := 55) 0 X dX12_realm_54 rfl rfl rfl ?_
      refine g_iconst (q := 56) 0 X dX12_realm_55 rfl rfl (by unfold inI; omega) ?_
      refine g_putI (q := 59) 12 9 X (Or.inl rfl) rfl kf_X12_83 (by decide) (by decide) rfl (hK_rv51.n (by decide)) dX12_realm_56 rfl ?_
      refine g_nmM (fun iv56 eiv56 => ?_)
      have h := h iv56 eiv56
      refine g_aload_n (q := 60) 0 X dX12_realm_59 rfl rfl rfl ?_
      refine g_cvU (q := 63) [] 12 X (ce_X12_goesOn hK_rv51 h) kV_X12_123 rfl (by decide) rfl (hK_rv51.n (by decide)) rfl rfl (Nat.le_of_ble_eq_true rfl) (by decide) (hc _ _ (by decide) (by decide)) dX12_realm_60 rfl (fun r n_ iv_ rv_ hf => ?_)
      obtain ⟨en_, er_, rfl, h⟩ := hf; subst n_; subst rv_
      generalize iv_ = iv60 at h ⊢
      refine g_aload_n (q := 64) 0 X dX12_realm_63 rfl rfl rfl ?_
      refine g_cvU (q := 67) [] 12 X (ce_X12_readRealm hK_rv51 h) kV_X12_439 rfl (by decide) rfl (hK_rv51.n (by decide)) rfl rfl (Nat.le_of_ble_eq_true rfl) (by decide) (hc _ _ (by decide) (by decide)) dX12_realm_64 rfl (fun r n_ iv_ rv_ hf => ?_)
      obtain ⟨en_, er_, rfl, h⟩ := hf; subst n_; subst rv_
      generalize iv_ = iv64 at h ⊢
      refine g_aload_n (q := 68) 0 X dX12_realm_67 rfl rfl rfl ?_
      refine g_getI (q := 71) 12 12 X kf_X12_109 (by decide) (by decide) rfl rfl (hK_rv51.n (by decide)) dX12_realm_68 rfl ?_
      refine g_if_le (q := 74) 89 X dX12_realm_71 (by decide) rfl (fun c71 => ?_) (fun c71 => ?_)
      · have h := h.1 c71
        refine g_aload_n (q := 90) 0 X dX12_realm_89 rfl rfl rfl ?_
        refine g_aload_n (q := 91) 0 X dX12_realm_90 rfl rfl rfl ?_
        refine g_getR (q := 94) (r := some 110) 12 4 X e4_110 (lt2000 (c := 0) (by decide)) kf_X12_167 (by decide) (by decide) rfl rfl (hK_rv51.n (by decide)) dX12_realm_91 rfl ?_
        refine g_putR (q := 97) 12 3 X rfl rfl kf_X12_442 (by decide) (by decide) rfl (by decide) dX12_realm_94 rfl ?_
        refine g_nmR (fun rv94 erv94 => ?_)
        have h := h rv94 erv94
        have hK_rv94 : Lk 140 rv94 := by rw [erv94]; exact Lk.w3_110 hK_rv51
        have e3_110 : rv94 66 3 = some 110 := by rw [erv94]; exact r2_eq
        refine g_aload_n (q := 98) 0 X dX12_realm_97 rfl rfl rfl ?_
        refine g_iconst (q := 99) 0 X dX12_realm_98 rfl rfl (by unfold inI; omega) ?_
        refine g_putI (q := 102) 12 27 X (Or.inl rfl) rfl kf_X12_445 (by decide) (by decide) rfl (hK_rv94.n (by decide)) dX12_realm_99 rfl ?_
        refine g_nmM (fun iv99 eiv99 => ?_)
        have h := h iv99 eiv99
        refine g_aload_n (q := 103) 0 X dX12_realm_102 rfl rfl rfl ?_
        refine g_iconst (q := 104) (-1) X dX12_realm_103 rfl rfl (by unfold inI; omega) ?_
        refine g_putI (q := 107) 12 28 X (Or.inl rfl) rfl kf_X12_33 (by decide) (by decide) rfl (hK_rv94.n (by decide)) dX12_realm_104 rfl ?_
        refine g_nmM (fun iv104 eiv104 => ?_)
        have h := h iv104 eiv104
        refine g_aload_n (q := 108) 0 X dX12_realm_107 rfl rfl rfl ?_
        refine g_iconst (q := 109) 0 X dX12_realm_108 rfl rfl (by unfold inI; omega) ?_
        refine g_putI (q := 112) 12 29 X (Or.inl rfl) rfl kf_X12_448 (by decide) (by decide) rfl (hK_rv94.n (by decide)) dX12_realm_109 rfl ?_
        refine g_nmM (fun iv109 eiv109 => ?_)
        have h := h iv109 eiv109
        refine g_aload_n (q := 113) 0 X dX12_realm_112 rfl rfl rfl ?_
        refine g_aload_n (q := 114) 0 X dX12_realm_113 rfl rfl rfl ?_
        refine g_getR (q := 117) (r := some 110) 12 3 X e3_110 (lt2000 (c := 0) (by decide)) kf_X12_442 (by decide) (by decide) rfl rfl (hK_rv94.n (by decide)) dX12_realm_114 rfl ?_
        refine g_getI (q := 120) 11 0 X kf_X12_196 (by decide) (by decide) rfl rfl (by decide) dX12_realm_117 rfl ?_
        refine g_cvU (q := 123) [aI (iv109 110 0)] 12 X (ce_X12_done hK_rv94 h) kV_X12_65 rfl (by decide) rfl (hK_rv94.n (by decide)) rfl rfl (Nat.le_of_ble_eq_true rfl) (by decide) (hc _ _ (by decide) (by decide)) dX12_realm_120 rfl (fun r n_ iv_ rv_ hf => ?_)
        obtain ⟨en_, er_, r120, rfl, h⟩ := hf; subst n_; subst rv_
        generalize iv_ = iv120 at h ⊢
        exact g_iret (q := 0) X hR dX12_realm_123 rfl ⟨hK_rv94, _, rfl, h⟩
      · have h := h.2 c71
        refine g_aload_n (q := 75) 0 X dX12_realm_74 rfl rfl rfl ?_
        refine g_iconst (q := 76) 4 X dX12_realm_75 rfl rfl (by unfold inI; omega) ?_
        refine g_putI (q := 79) 12 1 X (Or.inl rfl) rfl kf_X12_57 (by decide) (by decide) rfl (hK_rv51.n (by decide)) dX12_realm_76 rfl ?_
        refine g_nmM (fun iv76 eiv76 => ?_)
        have h := h iv76 eiv76
        refine g_aload_n (q := 80) 0 X dX12_realm_79 rfl rfl rfl ?_
        refine g_aload_n (q := 81) 0 X dX12_realm_80 rfl rfl rfl ?_
        refine g_getI (q := 84) 12 13 X kf_X12_112 (by decide) (by decide) rfl rfl (hK_rv51.n (by decide)) dX12_realm_81 rfl ?_
        refine g_putI (q := 87) 12 2 X (Or.inl rfl) rfl kf_X12_9 (by decide) (by decide) rfl (hK_rv51.n (by decide)) dX12_realm_84 rfl ?_
        refine g_nmM (fun iv84 eiv84 => ?_)
        have h := h iv84 eiv84
        refine g_iconst (q := 88) (-1) X dX12_realm_87 rfl rfl (by unfold inI; omega) ?_
        exact g_iret (q := 0) X hR dX12_realm_88 rfl ⟨hK_rv51, _, rfl, h⟩
    · have h := h.2 c14
      refine g_aload_n (q := 18) 0 X dX12_realm_17 rfl rfl rfl ?_
      refine g_iconst (q := 19) 2 X dX12_realm_18 rfl rfl (by unfold inI; omega) ?_
      refine g_cvU (q := 22) [aI 2] 12 X (ce_X12_refused hK h) kV_X12_60 rfl (by decide) rfl (hK.n (by decide)) rfl rfl (Nat.le_of_ble_eq_true rfl) (by decide) (hc _ _ (by decide) (by decide)) dX12_realm_19 rfl (fun r n_ iv_ rv_ hf => ?_)
      obtain ⟨en_, er_, r19, rfl, h⟩ := hf; subst n_; subst rv_
      generalize iv_ = iv19 at h ⊢
      refine g_widen 30 450 (by decide) (by decide) ?_
      exact g_iret (q := 0) X hR dX12_realm_22 rfl ⟨hK, _, rfl, h⟩
