def wp_X12_stop (a1 : Int) (iv : IV) (rv : RV) (K : Int → IV → Prop) : Prop :=
  ∀ iv1, iv1 = w2 iv 66 0 0 → ((a1 < 0) → (K (-1) iv1)) ∧ ((¬ (a1 < 0)) → ((((iv1 66 27) ≤ a1) → (K (-1) iv1)) ∧ ((¬ ((iv1 66 27) ≤ a1)) → ((0 ≤ a1 ∧ a1 < 8) ∧ K (iv1 73 a1.toNat) iv1))))
set_option maxRecDepth 10000 in
theorem ce_X12_stop {n : Nat} {iv : IV} {rv : RV} {K : Int → IV → Prop} {a1 : Int} (hK : Lk n rv)  (h : wp_X12_stop a1 iv rv K) : Call 0 0 0 yX12_stop cX12_stop 2 (some .int) [aR (some 66), aI a1] n iv rv (fI1 n rv K) := by
  refine Call.by (L := [aR (some 66), aI a1]) (by decide) rfl ⟨trivial, trivial, trivial⟩ rfl (Nat.le_of_ble_eq_true rfl) (fun Γ X hR => ?_)
  unfold wp_X12_stop at h
  refine g_aload_n (q := 1) 0 X dX12_stop_0 rfl rfl rfl ?_
  refine g_iconst (q := 2) 0 X dX12_stop_1 rfl rfl ic_0 ?_
  refine g_putI (q := 5) 12 0 X (Or.inl rfl) rfl kf_X12_54 (by decide) (by decide) rfl (hK.n (by decide)) dX12_stop_2 rfl ?_
  refine g_nmM (fun iv1 eiv1 => ?_)
  have h := h iv1 eiv1
  refine g_iload_n (q := 6) 1 X dX12_stop_5 rfl rfl rfl ?_
  refine g_if_lt (q := 9) 26 X dX12_stop_6 (by decide) rfl (fun c2 => ?_) (fun c2 => ?_)
  · have h := h.1 c2
    refine g_iconst (q := 27) (-1) X dX12_stop_26 rfl rfl ic_m1 ?_
    exact g_iret (q := 0) X hR dX12_stop_27 rfl ⟨rfl, rfl, _, rfl, h⟩
  · have h := h.2 c2
    refine g_iload_n (q := 10) 1 X dX12_stop_9 rfl rfl rfl ?_
    refine g_aload_n (q := 11) 0 X dX12_stop_10 rfl rfl rfl ?_
    refine g_getI (q := 14) 12 27 X kf_X12_445 (by decide) (by decide) rfl rfl (hK.n (by decide)) dX12_stop_11 rfl ?_
    refine g_icmp_ge (q := 17) 26 X dX12_stop_14 (by decide) rfl (fun c3 => ?_) (fun c3 => ?_)
    · have h := h.1 c3
      refine g_iconst (q := 27) (-1) X dX12_stop_26 rfl rfl ic_m1 ?_
      exact g_iret (q := 0) X hR dX12_stop_27 rfl ⟨rfl, rfl, _, rfl, h⟩
    · have h := h.2 c3
      refine g_aload_n (q := 18) 0 X dX12_stop_17 rfl rfl rfl ?_
      refine g_getR (q := 21) (r := some 73) 12 30 X (lk_66_30 hK) (lt2000 (c := 0) (by decide)) kf_X12_36 (by decide) (by decide) rfl rfl (hK.n (by decide)) dX12_stop_18 rfl ?_
      refine g_iload_n (q := 22) 1 X dX12_stop_21 rfl rfl rfl ?_
      obtain ⟨s4, h⟩ := h
      refine g_iald (q := 23) X rfl (hK.n (by decide)) s4 dX12_stop_22 rfl ?_
      refine g_goto (q := 27) X dX12_stop_23 (by decide) ?_
      exact g_iret (q := 0) X hR dX12_stop_27 rfl ⟨rfl, rfl, _, rfl, h⟩
def wp_X12_length (iv : IV) (rv : RV) (K : Int → IV → Prop) : Prop :=
  ∀ iv1, iv1 = w2 iv 66 0 0 → K (iv1 66 28) iv1
set_option maxRecDepth 10000 in
theorem ce_X12_length {n : Nat} {iv : IV} {rv : RV} {K : Int → IV → Prop} (hK : Lk n rv)  (h : wp_X12_length  iv rv K) : Call 0 0 0 yX12_length cX12_length 1 (some .int) [aR (some 66)] n iv rv (fI1 n rv K) := by
  refine Call.by (L := [aR (some 66)]) (by decide) rfl ⟨trivial, trivial⟩ rfl (Nat.le_of_ble_eq_true rfl) (fun Γ X hR => ?_)
  unfold wp_X12_length at h
  refine g_aload_n (q := 1) 0 X dX12_length_0 rfl rfl rfl ?_
  refine g_iconst (q := 2) 0 X dX12_length_1 rfl rfl ic_0 ?_
  refine g_putI (q := 5) 12 0 X (Or.inl rfl) rfl kf_X12_54 (by decide) (by decide) rfl (hK.n (by decide)) dX12_length_2 rfl ?_
  refine g_nmM (fun iv1 eiv1 => ?_)
  have h := h iv1 eiv1
  refine g_aload_n (q := 6) 0 X dX12_length_5 rfl rfl rfl ?_
  refine g_getI (q := 9) 12 28 X kf_X12_33 (by decide) (by decide) rfl rfl (hK.n (by decide)) dX12_length_6 rfl ?_
  exact g_iret (q := 0) X hR dX12_length_9 rfl ⟨rfl, rfl, _, rfl, h⟩
def bd_X12_partner_21 (iv : IV) (rv : RV) (K : Int → IV → Prop) : Prop :=
  wp_X12_refused 1 iv rv (fun r1 iv2 => K r1 iv2)
set_option maxRecDepth 10000 in
theorem cb_X12_partner_21 {Γ : GX} {n : Nat} {iv : IV} {rv : RV} {K : Int → IV → Prop} (X : Cx Γ RX12 cX12_partner 6 7) (hR : Rt Γ (some .int) 0 0 (fI1 n rv K)) (hK : Lk n rv)  (h : bd_X12_partner_21 iv rv K) : G Γ 6 21 [aR (some 66), aJ, aJ, aJ, aJ, aJ] [] n iv rv 0 0 := by
  unfold bd_X12_partner_21 at h
  refine g_aload_n (q := 22) 0 X dX12_partner_21 rfl rfl rfl ?_
  refine g_iconst (q := 23) 1 X dX12_partner_22 rfl rfl ic_1 ?_
  refine g_cv (q := 26) [aI 1] 12 X (ce_X12_refused hK  h) kV_X12_60 rfl (by decide) rfl (hK.n (by decide)) rfl rfl (Nat.le_of_ble_eq_true rfl) (by decide) dX12_partner_23 rfl (fun r n_ iv_ rv_ hf => ?_)
  obtain ⟨en_, er_, r1, rfl, h⟩ := hf; subst n_; subst rv_
  generalize iv_ = iv2 at h ⊢
  exact g_iret (q := 0) X hR dX12_partner_26 rfl ⟨rfl, rfl, _, rfl, h⟩
def bd_X12_partner_112 (P67 : Int → Int → Int → Int → IV → Prop) (l1 l3 l4 l5 : Int) (iv : IV) (rv : RV) (K : Int → IV → Prop) : Prop :=
  P67 l1 l3 l4 (w32 (l5 + 1)) iv
set_option maxRecDepth 10000 in
theorem cb_X12_partner_112 {Γ : GX} {n : Nat} {iv : IV} {rv : RV} {K : Int → IV → Prop} {P67 : Int → Int → Int → Int → IV → Prop} {l1 l3 l4 l5 : Int} (X : Cx Γ RX12 cX12_partner 6 7) (hR : Rt Γ (some .int) 0 0 (fI1 n rv K)) (hK : Lk n rv)  (hP67 : ∀ (l1' l3' l4' l5' : Int) (iv' : IV), P67 l1' l3' l4' l5' iv' → G Γ 6 67 [aR (some 66), aI (l1'), aJ, aI (l3'), aI (l4'), aI (l5')] [] n iv' rv 0 0) (h : bd_X12_partner_112 P67 l1 l3 l4 l5 iv rv K) : G Γ 6 112 [aR (some 66), aI l1, aJ, aI l3, aI l4, aI l5] [] n iv rv 0 0 := by
  unfold bd_X12_partner_112 at h
  refine g_iinc (q := 115) 5 (L' := [aR (some 66), aI l1, aJ, aI l3, aI l4, aI (w32 (l5 + 1))]) X dX12_partner_112 rfl (by decide) rfl rfl rfl ?_
  refine g_goto (q := 67) X dX12_partner_115 (by decide) ?_
  exact hP67 _ _ _ _ _ h
def bd_X12_partner_67 (P67 : Int → Int → Int → Int → IV → Prop) (l1 l3 l4 l5 : Int) (iv : IV) (rv : RV) (K : Int → IV → Prop) : Prop :=
  (rv 66 3 = some 80) ∧ (((iv 80 2) ≤ l5) → (wp_X12_done l3 iv rv (fun r2 iv3 => K r2 iv3))) ∧ ((¬ ((iv 80 2) ≤ l5)) → (wp_X12_names l5 iv rv (fun iv4 => wp_X12_finds l1 iv4 rv (fun r5 iv6 => (((iv6 66 37) < l4) → (∀ x8, x8 = iv6 66 37 → bd_X12_partner_112 P67 l1 l5 x8 l5 iv6 rv K)) ∧ ((¬ ((iv6 66 37) < l4)) → (bd_X12_partner_112 P67 l1 l3 l4 l5 iv6 rv K))))))
set_option maxRecDepth 10000 in
theorem cb_X12_partner_67 {Γ : GX} {n : Nat} {iv : IV} {rv : RV} {K : Int → IV → Prop} {P67 : Int → Int → Int → Int → IV → Prop} {l1 l3 l4 l5 : Int} (X : Cx Γ RX12 cX12_partner 6 7) (hR : Rt Γ (some .int) 0 0 (fI1 n rv K)) (hK : Lk n rv)  (hP67 : ∀ (l1' l3' l4' l5' : Int) (iv' : IV), P67 l1' l3' l4' l5' iv' → G Γ 6 67 [aR (some 66), aI (l1'), aJ, aI (l3'), aI (l4'), aI (l5')] [] n iv' rv 0 0) (h : bd_X12_partner_67 P67 l1 l3 l4 l5 iv rv K) : G Γ 6 67 [aR (some 66), aI l1, aJ, aI l3, aI l4, aI l5] [] n iv rv 0 0 := by
  unfold bd_X12_partner_67 at h
  refine g_iload (q := 69) 5 X dX12_partner_67 rfl rfl ?_
  refine g_aload_n (q := 70) 0 X dX12_partner_69 rfl rfl rfl ?_
  obtain ⟨hm80, h⟩ := h
  refine g_getR (q := 73) (r := some 80) 12 3 X hm80 (lt2000 (c := 0) (by decide)) kf_X12_442 (by decide) (by decide) rfl rfl (hK.n (by decide)) dX12_partner_70 rfl ?_
  refine g_getI (q := 76) 11 2 X kf_X12_247 (by decide) (by decide) rfl rfl (Nat.lt_of_lt_of_le (by decide) (hK.2.2.2.2.2.2.1 80 hm80 (Or.inl rfl))) dX12_partner_73 rfl ?_
  refine g_icmp_ge (q := 79) 118 X dX12_partner_76 (by decide) rfl (fun c1 => ?_) (fun c1 => ?_)
  · have h := h.1 c1
    refine g_aload_n (q := 119) 0 X dX12_partner_118 rfl rfl rfl ?_
    refine g_iload_n (q := 120) 3 X dX12_partner_119 rfl rfl rfl ?_
    refine g_cv (q := 123) [aI l3] 12 X (ce_X12_done hK  h) kV_X12_65 rfl (by decide) rfl (hK.n (by decide)) rfl rfl (Nat.le_of_ble_eq_true rfl) (by decide) dX12_partner_120 rfl (fun r n_ iv_ rv_ hf => ?_)
    obtain ⟨en_, er_, r2, rfl, h⟩ := hf; subst n_; subst rv_
    generalize iv_ = iv3 at h ⊢
    exact g_iret (q := 0) X hR dX12_partner_123 rfl ⟨rfl, rfl, _, rfl, h⟩
  · have h := h.2 c1
    refine g_aload_n (q := 80) 0 X dX12_partner_79 rfl rfl rfl ?_
    refine g_iload (q := 82) 5 X dX12_partner_80 rfl rfl ?_
    refine g_cv (q := 85) [aI l5] 12 X (ce_X12_names hK  h) kV_X12_517 rfl (by decide) rfl (hK.n (by decide)) rfl rfl (Nat.le_of_ble_eq_true rfl) (by decide) dX12_partner_82 rfl (fun r n_ iv_ rv_ hf => ?_)
    obtain ⟨en_, er_, rfl, h⟩ := hf; subst n_; subst rv_
    generalize iv_ = iv4 at h ⊢
    refine g_aload_n (q := 86) 0 X dX12_partner_85 rfl rfl rfl ?_
    refine g_iload_n (q := 87) 1 X dX12_partner_86 rfl rfl rfl ?_
    refine g_cv (q := 90) [aI l1] 12 X (ce_X12_finds hK  h) kV_X12_554 rfl (by decide) rfl (hK.n (by decide)) rfl rfl (Nat.le_of_ble_eq_true rfl) (by decide) dX12_partner_87 rfl (fun r n_ iv_ rv_ hf => ?_)
    obtain ⟨en_, er_, r5, rfl, br5, h⟩ := hf; subst n_; subst rv_
    generalize iv_ = iv6 at h ⊢
    refine g_pop (q := 91) X dX12_partner_90 rfl rfl ?_
    refine g_aload_n (q := 92) 0 X dX12_partner_91 rfl rfl rfl ?_
    refine g_getI (q := 95) 12 37 X kf_X12_539 (by decide) (by decide) rfl rfl (hK.n (by decide)) dX12_partner_92 rfl ?_
    refine g_iload (q := 97) 4 X dX12_partner_95 rfl rfl ?_
    refine g_icmp_lt (q := 100) 103 X dX12_partner_97 (by decide) rfl (fun c7 => ?_) (fun c7 => ?_)
    · have h := h.1 c7
      refine g_aload_n (q := 104) 0 X dX12_partner_103 rfl rfl rfl ?_
      refine g_getI (q := 107) 12 37 X kf_X12_539 (by decide) (by decide) rfl rfl (hK.n (by decide)) dX12_partner_104 rfl ?_
      refine g_nmI (fun x8 ex8 => ?_)
      have h := h x8 ex8
      refine g_istore (q := 109) (k0 := 0) 4 (L' := [aR (some 66), aI l1, aJ, aI l3, aI x8, aI l5]) X dX12_partner_107 rfl (by decide) rfl rfl ?_
      refine g_iload (q := 111) 5 X dX12_partner_109 rfl rfl ?_
      refine g_istore_n (q := 112) 3 (L' := [aR (some 66), aI l1, aJ, aI l5, aI x8, aI l5]) X dX12_partner_111 rfl rfl (by decide) rfl rfl ?_
      exact cb_X12_partner_112 X hR hK  hP67 h
    · have h := h.2 c7
      refine g_goto (q := 112) X dX12_partner_100 (by decide) ?_
      exact cb_X12_partner_112 X hR hK  hP67 h
def wl_X12_partner_67 (l1 l3 l4 l5 : Int) (iv : IV) (rv : RV) (K : Int → IV → Prop) : Prop :=
  ∀ P : Int → Int → Int → Int → IV → Prop, (∀ (l1' l3' l4' l5' : Int) (iv' : IV), bd_X12_partner_67  P l1' l3' l4' l5' iv' rv K → P l1' l3' l4' l5' iv') → P l1 l3 l4 l5 iv
theorem cl_X12_partner_67 {Γ : GX} {n : Nat} {iv : IV} {rv : RV} {K : Int → IV → Prop} {l1 l3 l4 l5 : Int} (X : Cx Γ RX12 cX12_partner 6 7) (hR : Rt Γ (some .int) 0 0 (fI1 n rv K)) (hK : Lk n rv)  (h : wl_X12_partner_67 l1 l3 l4 l5 iv rv K) : G Γ 6 67 [aR (some 66), aI l1, aJ, aI l3, aI l4, aI l5] [] n iv rv 0 0 := by
  exact h (fun l1' l3' l4' l5' iv' =>  G Γ 6 67 [aR (some 66), aI (l1'), aJ, aI (l3'), aI (l4'), aI (l5')] [] n iv' rv 0 0) (fun l1' l3' l4' l5' iv' hb => cb_X12_partner_67 X hR hK   (fun l1' l3' l4' l5' iv' hp => hp) hb)
def wp_X12_partner (a1 : Int) (a2 : Int) (iv : IV) (rv : RV) (K : Int → IV → Prop) : Prop :=
  ∀ iv1, iv1 = w2 iv 66 0 0 → wp_X12_isCart a1 iv1 rv (fun r2 => ((r2 = 0) → (bd_X12_partner_21 iv1 rv K)) ∧ ((¬ (r2 = 0)) → (wp_X12_isLaw a2 iv1 rv (fun r4 => ((r4 ≠ 0) → (wp_X12_laysFor a1 a2 iv1 rv (fun iv6 => wp_X12_finds a1 iv6 rv (fun r7 iv8 => ((r7 ≠ 0) → ((rv 66 3 = some 80) ∧ (0 ≤ a1 ∧ a1 < 6) ∧ ∀ x11, x11 = iv8 100 a1.toNat → ∀ x12, x12 = iv8 66 37 → wl_X12_partner_67 a1 x11 x12 0 iv8 rv K)) ∧ ((r7 = 0) → (wp_X12_refused 6 iv8 rv (fun r13 iv14 => K r13 iv14))))))) ∧ ((r4 = 0) → (bd_X12_partner_21 iv1 rv K))))))
set_option maxRecDepth 10000 in
theorem ce_X12_partner {n : Nat} {iv : IV} {rv : RV} {K : Int → IV → Prop} {a1 : Int} {a2 : Int} (hK : Lk n rv)  (h : wp_X12_partner a1 a2 iv rv K) : Call 7 0 0 yX12_partner cX12_partner 6 (some .int) [aR (some 66), aI a1, aI a2] n iv rv (fI1 n rv K) := by
  refine Call.by (L := [aR (some 66), aI a1, aI a2, aJ, aJ, aJ]) (by decide) rfl ⟨trivial, trivial, trivial, trivial⟩ rfl (Nat.le_of_ble_eq_true rfl) (fun Γ X hR => ?_)
  unfold wp_X12_partner at h
  refine g_aload_n (q := 1) 0 X dX12_partner_0 rfl rfl rfl ?_
  refine g_iconst (q := 2) 0 X dX12_partner_1 rfl rfl ic_0 ?_
  refine g_putI (q := 5) 12 0 X (Or.inl rfl) rfl kf_X12_54 (by decide) (by decide) rfl (hK.n (by decide)) dX12_partner_2 rfl ?_
  refine g_nmM (fun iv1 eiv1 => ?_)
  have h := h iv1 eiv1
  refine g_aload_n (q := 6) 0 X dX12_partner_5 rfl rfl rfl ?_
  refine g_iload_n (q := 7) 1 X dX12_partner_6 rfl rfl rfl ?_
  refine g_cv (q := 10) [aI a1] 12 X (ce_X12_isCart hK  h) kV_X12_505 rfl (by decide) rfl (hK.n (by decide)) rfl rfl (Nat.le_of_ble_eq_true rfl) (by decide) dX12_partner_7 rfl (fun r n_ iv_ rv_ hf => ?_)
  obtain ⟨en_, ei_, er_, r2, rfl, br2, h⟩ := hf; subst n_; subst iv_; subst rv_
  refine g_if_eq (q := 13) 21 X dX12_partner_10 (by decide) rfl (fun c3 => ?_) (fun c3 => ?_)
  · have h := h.1 c3
    refine g_sub (L' := [aR (some 66), aJ, aJ, aJ, aJ, aJ]) ⟨Or.inr rfl, Or.inl rfl, Or.inl rfl, Or.inl rfl, Or.inl rfl, Or.inl rfl, trivial⟩ ?_
    exact cb_X12_partner_21 X hR hK   h
  · have h := h.2 c3
    refine g_aload_n (q := 14) 0 X dX12_partner_13 rfl rfl rfl ?_
    refine g_iload_n (q := 15) 2 X dX12_partner_14 rfl rfl rfl ?_
    refine g_cv (q := 18) [aI a2] 12 X (ce_X12_isLaw hK  h) kV_X12_511 rfl (by decide) rfl (hK.n (by decide)) rfl rfl (Nat.le_of_ble_eq_true rfl) (by decide) dX12_partner_15 rfl (fun r n_ iv_ rv_ hf => ?_)
    obtain ⟨en_, ei_, er_, r4, rfl, br4, h⟩ := hf; subst n_; subst iv_; subst rv_
    refine g_if_ne (q := 21) 27 X dX12_partner_18 (by decide) rfl (fun c5 => ?_) (fun c5 => ?_)
    · have h := h.1 c5
      refine g_aload_n (q := 28) 0 X dX12_partner_27 rfl rfl rfl ?_
      refine g_iload_n (q := 29) 1 X dX12_partner_28 rfl rfl rfl ?_
      refine g_iload_n (q := 30) 2 X dX12_partner_29 rfl rfl rfl ?_
      refine g_cv (q := 33) [aI a1, aI a2] 12 X (ce_X12_laysFor hK  h) kV_X12_523 rfl (by decide) rfl (hK.n (by decide)) rfl rfl (Nat.le_of_ble_eq_true rfl) (by decide) dX12_partner_30 rfl (fun r n_ iv_ rv_ hf => ?_)
      obtain ⟨en_, er_, rfl, h⟩ := hf; subst n_; subst rv_
      generalize iv_ = iv6 at h ⊢
      refine g_aload_n (q := 34) 0 X dX12_partner_33 rfl rfl rfl ?_
      refine g_iload_n (q := 35) 1 X dX12_partner_34 rfl rfl rfl ?_
      refine g_cv (q := 38) [aI a1] 12 X (ce_X12_finds hK  h) kV_X12_554 rfl (by decide) rfl (hK.n (by decide)) rfl rfl (Nat.le_of_ble_eq_true rfl) (by decide) dX12_partner_35 rfl (fun r n_ iv_ rv_ hf => ?_)
      obtain ⟨en_, er_, r7, rfl, br7, h⟩ := hf; subst n_; subst rv_
      generalize iv_ = iv8 at h ⊢
      refine g_if_ne (q := 41) 48 X dX12_partner_38 (by decide) rfl (fun c9 => ?_) (fun c9 => ?_)
      · have h := h.1 c9
        refine g_aload_n (q := 49) 0 X dX12_partner_48 rfl rfl rfl ?_
        obtain ⟨hm80, h⟩ := h
        refine g_getR (q := 52) (r := some 80) 12 3 X hm80 (lt2000 (c := 0) (by decide)) kf_X12_442 (by decide) (by decide) rfl rfl (hK.n (by decide)) dX12_partner_49 rfl ?_
        refine g_getR (q := 55) (r := some 100) 11 33 X (lkM_33 hK (Or.inl rfl) (hK.2.2.2.2.2.2.1 80 hm80 (Or.inl rfl))) (lt2000 (c := 0) (by decide)) kf_X12_414 (by decide) (by decide) rfl rfl (Nat.lt_of_lt_of_le (by decide) (hK.2.2.2.2.2.2.1 80 hm80 (Or.inl rfl))) dX12_partner_52 rfl ?_
        refine g_iload_n (q := 56) 1 X dX12_partner_55 rfl rfl rfl ?_
        obtain ⟨s10, h⟩ := h
        refine g_iald (q := 57) X rfl (Nat.lt_of_lt_of_le (by decide) (hK.2.2.2.2.2.2.1 80 hm80 (Or.inl rfl))) s10 dX12_partner_56 rfl ?_
        refine g_nmI (fun x11 ex11 => ?_)
        have h := h x11 ex11
        refine g_istore_n (q := 58) 3 (L' := [aR (some 66), aI a1, aI a2, aI x11, aJ, aJ]) X dX12_partner_57 rfl rfl (by decide) rfl rfl ?_
        refine g_aload_n (q := 59) 0 X dX12_partner_58 rfl rfl rfl ?_
        refine g_getI (q := 62) 12 37 X kf_X12_539 (by decide) (by decide) rfl rfl (hK.n (by decide)) dX12_partner_59 rfl ?_
        refine g_nmI (fun x12 ex12 => ?_)
        have h := h x12 ex12
        refine g_istore (q := 64) (k0 := 0) 4 (L' := [aR (some 66), aI a1, aI a2, aI x11, aI x12, aJ]) X dX12_partner_62 rfl (by decide) rfl rfl ?_
        refine g_iconst (q := 65) 0 X dX12_partner_64 rfl rfl ic_0 ?_
        refine g_istore (q := 67) (k0 := 0) 5 (L' := [aR (some 66), aI a1, aI a2, aI x11, aI x12, aI 0]) X dX12_partner_65 rfl (by decide) rfl rfl ?_
        refine g_sub (L' := [aR (some 66), aI a1, aJ, aI x11, aI x12, aI 0]) ⟨Or.inr rfl, Or.inr rfl, Or.inl rfl, Or.inr rfl, Or.inr rfl, Or.inr rfl, trivial⟩ ?_
        exact cl_X12_partner_67 X hR hK   h
      · have h := h.2 c9
        refine g_aload_n (q := 42) 0 X dX12_partner_41 rfl rfl rfl ?_
        refine g_bipush (q := 44) 6 X dX12_partner_42 rfl bc_6 ic_6 ?_
        refine g_cv (q := 47) [aI 6] 12 X (ce_X12_refused hK  h) kV_X12_60 rfl (by decide) rfl (hK.n (by decide)) rfl rfl (Nat.le_of_ble_eq_true rfl) (by decide) dX12_partner_44 rfl (fun r n_ iv_ rv_ hf => ?_)
        obtain ⟨en_, er_, r13, rfl, h⟩ := hf; subst n_; subst rv_
        generalize iv_ = iv14 at h ⊢
        exact g_iret (q := 0) X hR dX12_partner_47 rfl ⟨rfl, rfl, _, rfl, h⟩
    · have h := h.2 c5
      refine g_sub (L' := [aR (some 66), aJ, aJ, aJ, aJ, aJ]) ⟨Or.inr rfl, Or.inl rfl, Or.inl rfl, Or.inl rfl, Or.inl rfl, Or.inl rfl, trivial⟩ ?_
      exact cb_X12_partner_21 X hR hK   h
def bd_X12_saves_29 (iv : IV) (rv : RV) (K : Int → IV → Prop) : Prop :=
  wp_X12_lost 1 iv rv (fun r1 iv2 => K r1 iv2)
set_option maxRecDepth 10000 in
theorem cb_X12_saves_29 {Γ : GX} {n : Nat} {iv : IV} {rv : RV} {K : Int → IV → Prop} (X : Cx Γ RX12 cX12_saves 5 7) (hR : Rt Γ (some .int) 0 0 (fI1 n rv K)) (hK : Lk n rv)  (h : bd_X12_saves_29 iv rv K) : G Γ 5 29 [aR (some 66), aJ, aJ, aJ, aJ] [] n iv rv 0 0 := by
  unfold bd_X12_saves_29 at h
  refine g_aload_n (q := 30) 0 X dX12_saves_29 rfl rfl rfl ?_
  refine g_iconst (q := 31) 1 X dX12_saves_30 rfl rfl ic_1 ?_
  refine g_cv (q := 34) [aI 1] 12 X (ce_X12_lost hK  h) kV_X12_557 rfl (by decide) rfl (hK.n (by decide)) rfl rfl (Nat.le_of_ble_eq_true rfl) (by decide) dX12_saves_31 rfl (fun r n_ iv_ rv_ hf => ?_)
  obtain ⟨en_, er_, r1, rfl, h⟩ := hf; subst n_; subst rv_
  generalize iv_ = iv2 at h ⊢
  exact g_iret (q := 0) X hR dX12_saves_34 rfl ⟨rfl, rfl, _, rfl, h⟩
def wp_X12_saves (a1 : Int) (a2 : Int) (a3 : Int) (iv : IV) (rv : RV) (K : Int → IV → Prop) : Prop :=
  ∀ iv1, iv1 = w2 iv 66 0 0 → wp_X12_isCart a1 iv1 rv (fun r2 => ((r2 = 0) → (bd_X12_saves_29 iv1 rv K)) ∧ ((¬ (r2 = 0)) → (wp_X12_isPlace a2 iv1 rv (fun r4 => ((r4 = 0) → (bd_X12_saves_29 iv1 rv K)) ∧ ((¬ (r4 = 0)) → (wp_X12_isLaw a3 iv1 rv (fun r6 => ((r6 ≠ 0) → (wp_X12_laysFor a1 a3 iv1 rv (fun iv8 => wp_X12_finds a1 iv8 rv (fun r9 iv10 => ((r9 ≠ 0) → (∀ x12, x12 = iv10 66 37 → ∀ iv13, iv13 = w2 iv10 66 21 a2 → ∀ iv14, iv14 = w2 iv13 66 22 0 → wp_X12_finds a1 iv14 rv (fun r15 iv16 => wp_X12_done (w32 (x12 - (iv16 66 37))) iv16 rv (fun r17 iv18 => K r17 iv18)))) ∧ ((r9 = 0) → (wp_X12_lost 6 iv10 rv (fun r19 iv20 => K r19 iv20))))))) ∧ ((r6 = 0) → (bd_X12_saves_29 iv1 rv K)))))))))
set_option maxRecDepth 10000 in
theorem ce_X12_saves {n : Nat} {iv : IV} {rv : RV} {K : Int → IV → Prop} {a1 : Int} {a2 : Int} {a3 : Int} (hK : Lk n rv)  (h : wp_X12_saves a1 a2 a3 iv rv K) : Call 7 0 0 yX12_saves cX12_saves 5 (some .int) [aR (some 66), aI a1, aI a2, aI a3] n iv rv (fI1 n rv K) := by
  refine Call.by (L := [aR (some 66), aI a1, aI a2, aI a3, aJ]) (by decide) rfl ⟨trivial, trivial, trivial, trivial, trivial⟩ rfl (Nat.le_of_ble_eq_true rfl) (fun Γ X hR => ?_)
  unfold wp_X12_saves at h
  refine g_aload_n (q := 1) 0 X dX12_saves_0 rfl rfl rfl ?_
  refine g_iconst (q := 2) 0 X dX12_saves_1 rfl rfl ic_0 ?_
  refine g_putI (q := 5) 12 0 X (Or.inl rfl) rfl kf_X12_54 (by decide) (by decide) rfl (hK.n (by decide)) dX12_saves_2 rfl ?_
  refine g_nmM (fun iv1 eiv1 => ?_)
  have h := h iv1 eiv1
  refine g_aload_n (q := 6) 0 X dX12_saves_5 rfl rfl rfl ?_
  refine g_iload_n (q := 7) 1 X dX12_saves_6 rfl rfl rfl ?_
  refine g_cv (q := 10) [aI a1] 12 X (ce_X12_isCart hK  h) kV_X12_505 rfl (by decide) rfl (hK.n (by decide)) rfl rfl (Nat.le_of_ble_eq_true rfl) (by decide) dX12_saves_7 rfl (fun r n_ iv_ rv_ hf => ?_)
  obtain ⟨en_, ei_, er_, r2, rfl, br2, h⟩ := hf; subst n_; subst iv_; subst rv_
  refine g_if_eq (q := 13) 29 X dX12_saves_10 (by decide) rfl (fun c3 => ?_) (fun c3 => ?_)
  · have h := h.1 c3
    refine g_sub (L' := [aR (some 66), aJ, aJ, aJ, aJ]) ⟨Or.inr rfl, Or.inl rfl, Or.inl rfl, Or.inl rfl, Or.inl rfl, trivial⟩ ?_
    exact cb_X12_saves_29 X hR hK   h
  · have h := h.2 c3
    refine g_aload_n (q := 14) 0 X dX12_saves_13 rfl rfl rfl ?_
    refine g_iload_n (q := 15) 2 X dX12_saves_14 rfl rfl rfl ?_
    refine g_cv (q := 18) [aI a2] 12 X (ce_X12_isPlace hK  h) kV_X12_533 rfl (by decide) rfl (hK.n (by decide)) rfl rfl (Nat.le_of_ble_eq_true rfl) (by decide) dX12_saves_15 rfl (fun r n_ iv_ rv_ hf => ?_)
    obtain ⟨en_, ei_, er_, r4, rfl, br4, h⟩ := hf; subst n_; subst iv_; subst rv_
    refine g_if_eq (q := 21) 29 X dX12_saves_18 (by decide) rfl (fun c5 => ?_) (fun c5 => ?_)
    · have h := h.1 c5
      refine g_sub (L' := [aR (some 66), aJ, aJ, aJ, aJ]) ⟨Or.inr rfl, Or.inl rfl, Or.inl rfl, Or.inl rfl, Or.inl rfl, trivial⟩ ?_
      exact cb_X12_saves_29 X hR hK   h
    · have h := h.2 c5
      refine g_aload_n (q := 22) 0 X dX12_saves_21 rfl rfl rfl ?_
      refine g_iload_n (q := 23) 3 X dX12_saves_22 rfl rfl rfl ?_
      refine g_cv (q := 26) [aI a3] 12 X (ce_X12_isLaw hK  h) kV_X12_511 rfl (by decide) rfl (hK.n (by decide)) rfl rfl (Nat.le_of_ble_eq_true rfl) (by decide) dX12_saves_23 rfl (fun r n_ iv_ rv_ hf => ?_)
      obtain ⟨en_, ei_, er_, r6, rfl, br6, h⟩ := hf; subst n_; subst iv_; subst rv_
      refine g_if_ne (q := 29) 35 X dX12_saves_26 (by decide) rfl (fun c7 => ?_) (fun c7 => ?_)
      · have h := h.1 c7
        refine g_aload_n (q := 36) 0 X dX12_saves_35 rfl rfl rfl ?_
        refine g_iload_n (q := 37) 1 X dX12_saves_36 rfl rfl rfl ?_
        refine g_iload_n (q := 38) 3 X dX12_saves_37 rfl rfl rfl ?_
        refine g_cv (q := 41) [aI a1, aI a3] 12 X (ce_X12_laysFor hK  h) kV_X12_523 rfl (by decide) rfl (hK.n (by decide)) rfl rfl (Nat.le_of_ble_eq_true rfl) (by decide) dX12_saves_38 rfl (fun r n_ iv_ rv_ hf => ?_)
        obtain ⟨en_, er_, rfl, h⟩ := hf; subst n_; subst rv_
        generalize iv_ = iv8 at h ⊢
        refine g_aload_n (q := 42) 0 X dX12_saves_41 rfl rfl rfl ?_
        refine g_iload_n (q := 43) 1 X dX12_saves_42 rfl rfl rfl ?_
        refine g_cv (q := 46) [aI a1] 12 X (ce_X12_finds hK  h) kV_X12_554 rfl (by decide) rfl (hK.n (by decide)) rfl rfl (Nat.le_of_ble_eq_true rfl) (by decide) dX12_saves_43 rfl (fun r n_ iv_ rv_ hf => ?_)
        obtain ⟨en_, er_, r9, rfl, br9, h⟩ := hf; subst n_; subst rv_
        generalize iv_ = iv10 at h ⊢
        refine g_if_ne (q := 49) 56 X dX12_saves_46 (by decide) rfl (fun c11 => ?_) (fun c11 => ?_)
        · have h := h.1 c11
          refine g_aload_n (q := 57) 0 X dX12_saves_56 rfl rfl rfl ?_
          refine g_getI (q := 60) 12 37 X kf_X12_539 (by decide) (by decide) rfl rfl (hK.n (by decide)) dX12_saves_57 rfl ?_
          refine g_nmI (fun x12 ex12 => ?_)
          have h := h x12 ex12
          refine g_istore (q := 62) (k0 := 0) 4 (L' := [aR (some 66), aI a1, aI a2, aI a3, aI x12]) X dX12_saves_60 rfl (by decide) rfl rfl ?_
          refine g_aload_n (q := 63) 0 X dX12_saves_62 rfl rfl rfl ?_
          refine g_iload_n (q := 64) 2 X dX12_saves_63 rfl rfl rfl ?_
          refine g_putI (q := 67) 12 21 X (Or.inl rfl) rfl kf_X12_457 (by decide) (by decide) rfl (hK.n (by decide)) dX12_saves_64 rfl ?_
          refine g_nmM (fun iv13 eiv13 => ?_)
          have h := h iv13 eiv13
          refine g_aload_n (q := 68) 0 X dX12_saves_67 rfl rfl rfl ?_
          refine g_iconst (q := 69) 0 X dX12_saves_68 rfl rfl ic_0 ?_
          refine g_putI (q := 72) 12 22 X (Or.inl rfl) rfl kf_X12_460 (by decide) (by decide) rfl (hK.n (by decide)) dX12_saves_69 rfl ?_
          refine g_nmM (fun iv14 eiv14 => ?_)
          have h := h iv14 eiv14
          refine g_aload_n (q := 73) 0 X dX12_saves_72 rfl rfl rfl ?_
          refine g_iload_n (q := 74) 1 X dX12_saves_73 rfl rfl rfl ?_
          refine g_cv (q := 77) [aI a1] 12 X (ce_X12_finds hK  h) kV_X12_554 rfl (by decide) rfl (hK.n (by decide)) rfl rfl (Nat.le_of_ble_eq_true rfl) (by decide) dX12_saves_74 rfl (fun r n_ iv_ rv_ hf => ?_)
          obtain ⟨en_, er_, r15, rfl, br15, h⟩ := hf; subst n_; subst rv_
          generalize iv_ = iv16 at h ⊢
          refine g_pop (q := 78) X dX12_saves_77 rfl rfl ?_
          refine g_aload_n (q := 79) 0 X dX12_saves_78 rfl rfl rfl ?_
          refine g_iload (q := 81) 4 X dX12_saves_79 rfl rfl ?_
          refine g_aload_n (q := 82) 0 X dX12_saves_81 rfl rfl rfl ?_
          refine g_getI (q := 85) 12 37 X kf_X12_539 (by decide) (by decide) rfl rfl (hK.n (by decide)) dX12_saves_82 rfl ?_
          refine g_isub (q := 86) X dX12_saves_85 rfl ?_
          refine g_cv (q := 89) [aI (w32 (x12 - (iv16 66 37)))] 12 X (ce_X12_done hK  h) kV_X12_65 rfl (by decide) rfl (hK.n (by decide)) rfl rfl (Nat.le_of_ble_eq_true rfl) (by decide) dX12_saves_86 rfl (fun r n_ iv_ rv_ hf => ?_)
          obtain ⟨en_, er_, r17, rfl, h⟩ := hf; subst n_; subst rv_
          generalize iv_ = iv18 at h ⊢
          exact g_iret (q := 0) X hR dX12_saves_89 rfl ⟨rfl, rfl, _, rfl, h⟩
        · have h := h.2 c11
          refine g_aload_n (q := 50) 0 X dX12_saves_49 rfl rfl rfl ?_
          refine g_bipush (q := 52) 6 X dX12_saves_50 rfl bc_6 ic_6 ?_
          refine g_cv (q := 55) [aI 6] 12 X (ce_X12_lost hK  h) kV_X12_557 rfl (by decide) rfl (hK.n (by decide)) rfl rfl (Nat.le_of_ble_eq_true rfl) (by decide) dX12_saves_52 rfl (fun r n_ iv_ rv_ hf => ?_)
          obtain ⟨en_, er_, r19, rfl, h⟩ := hf; subst n_; subst rv_
          generalize iv_ = iv20 at h ⊢
          exact g_iret (q := 0) X hR dX12_saves_55 rfl ⟨rfl, rfl, _, rfl, h⟩
      · have h := h.2 c7
        refine g_sub (L' := [aR (some 66), aJ, aJ, aJ, aJ]) ⟨Or.inr rfl, Or.inl rfl, Or.inl rfl, Or.inl rfl, Or.inl rfl, trivial⟩ ?_
        exact cb_X12_saves_29 X hR hK   h
def bd_X12_coins_43 (P4 : Int → Int → IV → Prop) (l1 l2 : Int) (iv : IV) (rv : RV) (K : Int → IV → Prop) : Prop :=
  P4 l1 (w32 (l2 + 1)) iv
set_option maxRecDepth 10000 in
theorem cb_X12_coins_43 {Γ : GX} {n : Nat} {iv : IV} {rv : RV} {K : Int → IV → Prop} {P4 : Int → Int → IV → Prop} {l1 l2 : Int} (X : Cx Γ RX12 cX12_coins 3 7) (hR : Rt Γ (some .int) 0 0 (fI1 n rv K)) (hK : Lk n rv)  (hP4 : ∀ (l1' l2' : Int) (iv' : IV), P4 l1' l2' iv' → G Γ 3 4 [aR (some 66), aI (l1'), aI (l2')] [] n iv' rv 0 0) (h : bd_X12_coins_43 P4 l1 l2 iv rv K) : G Γ 3 43 [aR (some 66), aI l1, aI l2] [] n iv rv 0 0 := by
  unfold bd_X12_coins_43 at h
  refine g_iinc (q := 46) 2 (L' := [aR (some 66), aI l1, aI (w32 (l2 + 1))]) X dX12_coins_43 rfl (by decide) rfl rfl rfl ?_
  refine g_goto (q := 4) X dX12_coins_46 (by decide) ?_
  exact hP4 _ _ _ h
def bd_X12_coins_4 (P4 : Int → Int → IV → Prop) (l1 l2 : Int) (iv : IV) (rv : RV) (K : Int → IV → Prop) : Prop :=
  (rv 66 3 = some 80) ∧ (((iv 80 11) ≤ l2) → (K l1 iv)) ∧ ((¬ ((iv 80 11) ≤ l2)) → ((0 ≤ l2 ∧ l2 < 6) ∧ wp_X12_names (iv 100 l2.toNat) iv rv (fun iv3 => wp_X12_finds l2 iv3 rv (fun r4 iv5 => ((r4 = 0) → (bd_X12_coins_43 P4 l1 l2 iv5 rv K)) ∧ ((¬ (r4 = 0)) → (∀ x7, x7 = w32 (l1 + (iv5 66 37)) → bd_X12_coins_43 P4 x7 l2 iv5 rv K))))))
set_option maxRecDepth 10000 in
theorem cb_X12_coins_4 {Γ : GX} {n : Nat} {iv : IV} {rv : RV} {K : Int → IV → Prop} {P4 : Int → Int → IV → Prop} {l1 l2 : Int} (X : Cx Γ RX12 cX12_coins 3 7) (hR : Rt Γ (some .int) 0 0 (fI1 n rv K)) (hK : Lk n rv)  (hP4 : ∀ (l1' l2' : Int) (iv' : IV), P4 l1' l2' iv' → G Γ 3 4 [aR (some 66), aI (l1'), aI (l2')] [] n iv' rv 0 0) (h : bd_X12_coins_4 P4 l1 l2 iv rv K) : G Γ 3 4 [aR (some 66), aI l1, aI l2] [] n iv rv 0 0 := by
  unfold bd_X12_coins_4 at h
  refine g_iload_n (q := 5) 2 X dX12_coins_4 rfl rfl rfl ?_
  refine g_aload_n (q := 6) 0 X dX12_coins_5 rfl rfl rfl ?_
  obtain ⟨hm80, h⟩ := h
  refine g_getR (q := 9) (r := some 80) 12 3 X hm80 (lt2000 (c := 0) (by decide)) kf_X12_442 (by decide) (by decide) rfl rfl (hK.n (by decide)) dX12_coins_6 rfl ?_
  refine g_getI (q := 12) 11 11 X kf_X12_405 (by decide) (by decide) rfl rfl (Nat.lt_of_lt_of_le (by decide) (hK.2.2.2.2.2.2.1 80 hm80 (Or.inl rfl))) dX12_coins_9 rfl ?_
  refine g_icmp_ge (q := 15) 49 X dX12_coins_12 (by decide) rfl (fun c1 => ?_) (fun c1 => ?_)
  · have h := h.1 c1
    refine g_iload_n (q := 50) 1 X dX12_coins_49 rfl rfl rfl ?_
    exact g_iret (q := 0) X hR dX12_coins_50 rfl ⟨rfl, rfl, _, rfl, h⟩
  · have h := h.2 c1
    refine g_aload_n (q := 16) 0 X dX12_coins_15 rfl rfl rfl ?_
    refine g_aload_n (q := 17) 0 X dX12_coins_16 rfl rfl rfl ?_
    refine g_getR (q := 20) (r := some 80) 12 3 X hm80 (lt2000 (c := 0) (by decide)) kf_X12_442 (by decide) (by decide) rfl rfl (hK.n (by decide)) dX12_coins_17 rfl ?_
    refine g_getR (q := 23) (r := some 100) 11 33 X (lkM_33 hK (Or.inl rfl) (hK.2.2.2.2.2.2.1 80 hm80 (Or.inl rfl))) (lt2000 (c := 0) (by decide)) kf_X12_414 (by decide) (by decide) rfl rfl (Nat.lt_of_lt_of_le (by decide) (hK.2.2.2.2.2.2.1 80 hm80 (Or.inl rfl))) dX12_coins_20 rfl ?_
    refine g_iload_n (q := 24) 2 X dX12_coins_23 rfl rfl rfl ?_
    obtain ⟨s2, h⟩ := h
    refine g_iald (q := 25) X rfl (Nat.lt_of_lt_of_le (by decide) (hK.2.2.2.2.2.2.1 80 hm80 (Or.inl rfl))) s2 dX12_coins_24 rfl ?_
    refine g_cv (q := 28) [aI (iv 100 l2.toNat)] 12 X (ce_X12_names hK  h) kV_X12_517 rfl (by decide) rfl (hK.n (by decide)) rfl rfl (Nat.le_of_ble_eq_true rfl) (by decide) dX12_coins_25 rfl (fun r n_ iv_ rv_ hf => ?_)
    obtain ⟨en_, er_, rfl, h⟩ := hf; subst n_; subst rv_
    generalize iv_ = iv3 at h ⊢
    refine g_aload_n (q := 29) 0 X dX12_coins_28 rfl rfl rfl ?_
    refine g_iload_n (q := 30) 2 X dX12_coins_29 rfl rfl rfl ?_
    refine g_cv (q := 33) [aI l2] 12 X (ce_X12_finds hK  h) kV_X12_554 rfl (by decide) rfl (hK.n (by decide)) rfl rfl (Nat.le_of_ble_eq_true rfl) (by decide) dX12_coins_30 rfl (fun r n_ iv_ rv_ hf => ?_)
    obtain ⟨en_, er_, r4, rfl, br4, h⟩ := hf; subst n_; subst rv_
    generalize iv_ = iv5 at h ⊢
    refine g_if_eq (q := 36) 43 X dX12_coins_33 (by decide) rfl (fun c6 => ?_) (fun c6 => ?_)
    · have h := h.1 c6
      exact cb_X12_coins_43 X hR hK  hP4 h
    · have h := h.2 c6
      refine g_iload_n (q := 37) 1 X dX12_coins_36 rfl rfl rfl ?_
      refine g_aload_n (q := 38) 0 X dX12_coins_37 rfl rfl rfl ?_
      refine g_getI (q := 41) 12 37 X kf_X12_539 (by decide) (by decide) rfl rfl (hK.n (by decide)) dX12_coins_38 rfl ?_
      refine g_iadd (q := 42) X dX12_coins_41 rfl ?_
      refine g_nmI (fun x7 ex7 => ?_)
      have h := h x7 ex7
      refine g_istore_n (q := 43) 1 (L' := [aR (some 66), aI x7, aI l2]) X dX12_coins_42 rfl rfl (by decide) rfl rfl ?_
      exact cb_X12_coins_43 X hR hK  hP4 h
def wl_X12_coins_4 (l1 l2 : Int) (iv : IV) (rv : RV) (K : Int → IV → Prop) : Prop :=
  ∀ P : Int → Int → IV → Prop, (∀ (l1' l2' : Int) (iv' : IV), bd_X12_coins_4  P l1' l2' iv' rv K → P l1' l2' iv') → P l1 l2 iv
theorem cl_X12_coins_4 {Γ : GX} {n : Nat} {iv : IV} {rv : RV} {K : Int → IV → Prop} {l1 l2 : Int} (X : Cx Γ RX12 cX12_coins 3 7) (hR : Rt Γ (some .int) 0 0 (fI1 n rv K)) (hK : Lk n rv)  (h : wl_X12_coins_4 l1 l2 iv rv K) : G Γ 3 4 [aR (some 66), aI l1, aI l2] [] n iv rv 0 0 := by
  exact h (fun l1' l2' iv' =>  G Γ 3 4 [aR (some 66), aI (l1'), aI (l2')] [] n iv' rv 0 0) (fun l1' l2' iv' hb => cb_X12_coins_4 X hR hK   (fun l1' l2' iv' hp => hp) hb)
def wp_X12_coins (iv : IV) (rv : RV) (K : Int → IV → Prop) : Prop :=
  wl_X12_coins_4 0 0 iv rv K
set_option maxRecDepth 10000 in
theorem ce_X12_coins {n : Nat} {iv : IV} {rv : RV} {K : Int → IV → Prop} (hK : Lk n rv)  (h : wp_X12_coins  iv rv K) : Call 7 0 0 yX12_coins cX12_coins 3 (some .int) [aR (some 66)] n iv rv (fI1 n rv K) := by
  refine Call.by (L := [aR (some 66), aJ, aJ]) (by decide) rfl ⟨trivial, trivial⟩ rfl (Nat.le_of_ble_eq_true rfl) (fun Γ X hR => ?_)
  unfold wp_X12_coins at h
  refine g_iconst (q := 1) 0 X dX12_coins_0 rfl rfl ic_0 ?_
  refine g_istore_n (q := 2) 1 (L' := [aR (some 66), aI 0, aJ]) X dX12_coins_1 rfl rfl (by decide) rfl rfl ?_
  refine g_iconst (q := 3) 0 X dX12_coins_2 rfl rfl ic_0 ?_
  refine g_istore_n (q := 4) 2 (L' := [aR (some 66), aI 0, aI 0]) X dX12_coins_3 rfl rfl (by decide) rfl rfl ?_
  exact cl_X12_coins_4 X hR hK   h
def wp_X12_coin (a1 : Int) (iv : IV) (rv : RV) (K : Int → IV → Prop) : Prop :=
  ∀ iv1, iv1 = w2 iv 66 0 0 → wp_X12_isLaw a1 iv1 rv (fun r2 => ((r2 ≠ 0) → (wp_X12_lays a1 iv1 rv (fun iv4 => wp_X12_coins iv4 rv (fun r5 iv6 => wp_X12_done r5 iv6 rv (fun r7 iv8 => K r7 iv8))))) ∧ ((r2 = 0) → (wp_X12_refused 1 iv1 rv (fun r9 iv10 => K r9 iv10))))
set_option maxRecDepth 10000 in
theorem ce_X12_coin {n : Nat} {iv : IV} {rv : RV} {K : Int → IV → Prop} {a1 : Int} (hK : Lk n rv)  (h : wp_X12_coin a1 iv rv K) : Call 8 0 0 yX12_coin cX12_coin 2 (some .int) [aR (some 66), aI a1] n iv rv (fI1 n rv K) := by
  refine Call.by (L := [aR (some 66), aI a1]) (by decide) rfl ⟨trivial, trivial, trivial⟩ rfl (Nat.le_of_ble_eq_true rfl) (fun Γ X hR => ?_)
  unfold wp_X12_coin at h
  refine g_aload_n (q := 1) 0 X dX12_coin_0 rfl rfl rfl ?_
  refine g_iconst (q := 2) 0 X dX12_coin_1 rfl rfl ic_0 ?_
  refine g_putI (q := 5) 12 0 X (Or.inl rfl) rfl kf_X12_54 (by decide) (by decide) rfl (hK.n (by decide)) dX12_coin_2 rfl ?_
  refine g_nmM (fun iv1 eiv1 => ?_)
  have h := h iv1 eiv1
  refine g_aload_n (q := 6) 0 X dX12_coin_5 rfl rfl rfl ?_
  refine g_iload_n (q := 7) 1 X dX12_coin_6 rfl rfl rfl ?_
  refine g_cv (q := 10) [aI a1] 12 X (ce_X12_isLaw hK  h) kV_X12_511 rfl (by decide) rfl (hK.n (by decide)) rfl rfl (Nat.le_of_ble_eq_true rfl) (by decide) dX12_coin_7 rfl (fun r n_ iv_ rv_ hf => ?_)
  obtain ⟨en_, ei_, er_, r2, rfl, br2, h⟩ := hf; subst n_; subst iv_; subst rv_
  refine g_if_ne (q := 13) 19 X dX12_coin_10 (by decide) rfl (fun c3 => ?_) (fun c3 => ?_)
  · have h := h.1 c3
    refine g_aload_n (q := 20) 0 X dX12_coin_19 rfl rfl rfl ?_
    refine g_iload_n (q := 21) 1 X dX12_coin_20 rfl rfl rfl ?_
    refine g_cv (q := 24) [aI a1] 12 X (ce_X12_lays hK  h) kV_X12_514 rfl (by decide) rfl (hK.n (by decide)) rfl rfl (Nat.le_of_ble_eq_true rfl) (by decide) dX12_coin_21 rfl (fun r n_ iv_ rv_ hf => ?_)
    obtain ⟨en_, er_, rfl, h⟩ := hf; subst n_; subst rv_
    generalize iv_ = iv4 at h ⊢
    refine g_aload_n (q := 25) 0 X dX12_coin_24 rfl rfl rfl ?_
    refine g_aload_n (q := 26) 0 X dX12_coin_25 rfl rfl rfl ?_
    refine g_cv (q := 29) [] 12 X (ce_X12_coins hK  h) kV_X12_559 rfl (by decide) rfl (hK.n (by decide)) rfl rfl (Nat.le_of_ble_eq_true rfl) (by decide) dX12_coin_26 rfl (fun r n_ iv_ rv_ hf => ?_)
    obtain ⟨en_, er_, r5, rfl, h⟩ := hf; subst n_; subst rv_
    generalize iv_ = iv6 at h ⊢
    refine g_cv (q := 32) [aI r5] 12 X (ce_X12_done hK  h) kV_X12_65 rfl (by decide) rfl (hK.n (by decide)) rfl rfl (Nat.le_of_ble_eq_true rfl) (by decide) dX12_coin_29 rfl (fun r n_ iv_ rv_ hf => ?_)
    obtain ⟨en_, er_, r7, rfl, h⟩ := hf; subst n_; subst rv_
    generalize iv_ = iv8 at h ⊢
    exact g_iret (q := 0) X hR dX12_coin_32 rfl ⟨rfl, rfl, _, rfl, h⟩
  · have h := h.2 c3
    refine g_aload_n (q := 14) 0 X dX12_coin_13 rfl rfl rfl ?_
    refine g_iconst (q := 15) 1 X dX12_coin_14 rfl rfl ic_1 ?_
    refine g_cv (q := 18) [aI 1] 12 X (ce_X12_refused hK  h) kV_X12_60 rfl (by decide) rfl (hK.n (by decide)) rfl rfl (Nat.le_of_ble_eq_true rfl) (by decide) dX12_coin_15 rfl (fun r n_ iv_ rv_ hf => ?_)
    obtain ⟨en_, er_, r9, rfl, h⟩ := hf; subst n_; subst rv_
    generalize iv_ = iv10 at h ⊢
    exact g_iret (q := 0) X hR dX12_coin_18 rfl ⟨rfl, rfl, _, rfl, h⟩
def bd_X12_worth_21 (iv : IV) (rv : RV) (K : Int → IV → Prop) : Prop :=
  wp_X12_lost 1 iv rv (fun r1 iv2 => K r1 iv2)
set_option maxRecDepth 10000 in
theorem cb_X12_worth_21 {Γ : GX} {n : Nat} {iv : IV} {rv : RV} {K : Int → IV → Prop} (X : Cx Γ RX12 cX12_worth 4 8) (hR : Rt Γ (some .int) 0 0 (fI1 n rv K)) (hK : Lk n rv)  (h : bd_X12_worth_21 iv rv K) : G Γ 4 21 [aR (some 66), aJ, aJ, aJ] [] n iv rv 0 0 := by
  unfold bd_X12_worth_21 at h
  refine g_aload_n (q := 22) 0 X dX12_worth_21 rfl rfl rfl ?_
  refine g_iconst (q := 23) 1 X dX12_worth_22 rfl rfl ic_1 ?_
  refine g_cv (q := 26) [aI 1] 12 X (ce_X12_lost hK  h) kV_X12_557 rfl (by decide) rfl (hK.n (by decide)) rfl rfl (Nat.le_of_ble_eq_true rfl) (by decide) dX12_worth_23 rfl (fun r n_ iv_ rv_ hf => ?_)
  obtain ⟨en_, er_, r1, rfl, h⟩ := hf; subst n_; subst rv_
  generalize iv_ = iv2 at h ⊢
  exact g_iret (q := 0) X hR dX12_worth_26 rfl ⟨rfl, rfl, _, rfl, h⟩
def wp_X12_worth (a1 : Int) (a2 : Int) (iv : IV) (rv : RV) (K : Int → IV → Prop) : Prop :=
  ∀ iv1, iv1 = w2 iv 66 0 0 → wp_X12_isGrant a1 iv1 rv (fun r2 => ((r2 = 0) → (bd_X12_worth_21 iv1 rv K)) ∧ ((¬ (r2 = 0)) → (wp_X12_isLaw a2 iv1 rv (fun r4 => ((r4 ≠ 0) → (wp_X12_lays a2 iv1 rv (fun iv6 => wp_X12_coins iv6 rv (fun r7 iv8 => (0 ≤ a1 ∧ a1 < 16) ∧ ∀ iv10, iv10 = w2 iv8 69 a1.toNat 1 → wp_X12_coins iv10 rv (fun r11 iv12 => wp_X12_done (w32 (r11 - r7)) iv12 rv (fun r13 iv14 => K r13 iv14)))))) ∧ ((r4 = 0) → (bd_X12_worth_21 iv1 rv K))))))
set_option maxRecDepth 10000 in
theorem ce_X12_worth {n : Nat} {iv : IV} {rv : RV} {K : Int → IV → Prop} {a1 : Int} {a2 : Int} (hK : Lk n rv)  (h : wp_X12_worth a1 a2 iv rv K) : Call 8 0 0 yX12_worth cX12_worth 4 (some .int) [aR (some 66), aI a1, aI a2] n iv rv (fI1 n rv K) := by
  refine Call.by (L := [aR (some 66), aI a1, aI a2, aJ]) (by decide) rfl ⟨trivial, trivial, trivial, trivial⟩ rfl (Nat.le_of_ble_eq_true rfl) (fun Γ X hR => ?_)
  unfold wp_X12_worth at h
  refine g_aload_n (q := 1) 0 X dX12_worth_0 rfl rfl rfl ?_
  refine g_iconst (q := 2) 0 X dX12_worth_1 rfl rfl ic_0 ?_
  refine g_putI (q := 5) 12 0 X (Or.inl rfl) rfl kf_X12_54 (by decide) (by decide) rfl (hK.n (by decide)) dX12_worth_2 rfl ?_
  refine g_nmM (fun iv1 eiv1 => ?_)
  have h := h iv1 eiv1
  refine g_aload_n (q := 6) 0 X dX12_worth_5 rfl rfl rfl ?_
  refine g_iload_n (q := 7) 1 X dX12_worth_6 rfl rfl rfl ?_
  refine g_cv (q := 10) [aI a1] 12 X (ce_X12_isGrant hK  h) kV_X12_532 rfl (by decide) rfl (hK.n (by decide)) rfl rfl (Nat.le_of_ble_eq_true rfl) (by decide) dX12_worth_7 rfl (fun r n_ iv_ rv_ hf => ?_)
  obtain ⟨en_, ei_, er_, r2, rfl, br2, h⟩ := hf; subst n_; subst iv_; subst rv_
  refine g_if_eq (q := 13) 21 X dX12_worth_10 (by decide) rfl (fun c3 => ?_) (fun c3 => ?_)
  · have h := h.1 c3
    refine g_sub (L' := [aR (some 66), aJ, aJ, aJ]) ⟨Or.inr rfl, Or.inl rfl, Or.inl rfl, Or.inl rfl, trivial⟩ ?_
    exact cb_X12_worth_21 X hR hK   h
  · have h := h.2 c3
    refine g_aload_n (q := 14) 0 X dX12_worth_13 rfl rfl rfl ?_
    refine g_iload_n (q := 15) 2 X dX12_worth_14 rfl rfl rfl ?_
    refine g_cv (q := 18) [aI a2] 12 X (ce_X12_isLaw hK  h) kV_X12_511 rfl (by decide) rfl (hK.n (by decide)) rfl rfl (Nat.le_of_ble_eq_true rfl) (by decide) dX12_worth_15 rfl (fun r n_ iv_ rv_ hf => ?_)
    obtain ⟨en_, ei_, er_, r4, rfl, br4, h⟩ := hf; subst n_; subst iv_; subst rv_
    refine g_if_ne (q := 21) 27 X dX12_worth_18 (by decide) rfl (fun c5 => ?_) (fun c5 => ?_)
    · have h := h.1 c5
      refine g_aload_n (q := 28) 0 X dX12_worth_27 rfl rfl rfl ?_
      refine g_iload_n (q := 29) 2 X dX12_worth_28 rfl rfl rfl ?_
      refine g_cv (q := 32) [aI a2] 12 X (ce_X12_lays hK  h) kV_X12_514 rfl (by decide) rfl (hK.n (by decide)) rfl rfl (Nat.le_of_ble_eq_true rfl) (by decide) dX12_worth_29 rfl (fun r n_ iv_ rv_ hf => ?_)
      obtain ⟨en_, er_, rfl, h⟩ := hf; subst n_; subst rv_
      generalize iv_ = iv6 at h ⊢
      refine g_aload_n (q := 33) 0 X dX12_worth_32 rfl rfl rfl ?_
      refine g_cv (q := 36) [] 12 X (ce_X12_coins hK  h) kV_X12_559 rfl (by decide) rfl (hK.n (by decide)) rfl rfl (Nat.le_of_ble_eq_true rfl) (by decide) dX12_worth_33 rfl (fun r n_ iv_ rv_ hf => ?_)
      obtain ⟨en_, er_, r7, rfl, h⟩ := hf; subst n_; subst rv_
      generalize iv_ = iv8 at h ⊢
      refine g_istore_n (q := 37) 3 (L' := [aR (some 66), aI a1, aI a2, aI r7]) X dX12_worth_36 rfl rfl (by decide) rfl rfl ?_
      refine g_aload_n (q := 38) 0 X dX12_worth_37 rfl rfl rfl ?_
      refine g_getR (q := 41) (r := some 69) 12 16 X (lk_66_16 hK) (lt2000 (c := 0) (by decide)) kf_X12_21 (by decide) (by decide) rfl rfl (hK.n (by decide)) dX12_worth_38 rfl ?_
      refine g_iload_n (q := 42) 1 X dX12_worth_41 rfl rfl rfl ?_
      refine g_iconst (q := 43) 1 X dX12_worth_42 rfl rfl ic_1 ?_
      obtain ⟨s9, h⟩ := h
      refine g_iast (q := 44) X rfl (hK.n (by decide)) s9 dX12_worth_43 rfl ?_
      refine g_nmM (fun iv10 eiv10 => ?_)
      have h := h iv10 eiv10
      refine g_aload_n (q := 45) 0 X dX12_worth_44 rfl rfl rfl ?_
      refine g_aload_n (q := 46) 0 X dX12_worth_45 rfl rfl rfl ?_
      refine g_cv (q := 49) [] 12 X (ce_X12_coins hK  h) kV_X12_559 rfl (by decide) rfl (hK.n (by decide)) rfl rfl (Nat.le_of_ble_eq_true rfl) (by decide) dX12_worth_46 rfl (fun r n_ iv_ rv_ hf => ?_)
      obtain ⟨en_, er_, r11, rfl, h⟩ := hf; subst n_; subst rv_
      generalize iv_ = iv12 at h ⊢
      refine g_iload_n (q := 50) 3 X dX12_worth_49 rfl rfl rfl ?_
      refine g_isub (q := 51) X dX12_worth_50 rfl ?_
      refine g_cv (q := 54) [aI (w32 (r11 - r7))] 12 X (ce_X12_done hK  h) kV_X12_65 rfl (by decide) rfl (hK.n (by decide)) rfl rfl (Nat.le_of_ble_eq_true rfl) (by decide) dX12_worth_51 rfl (fun r n_ iv_ rv_ hf => ?_)
      obtain ⟨en_, er_, r13, rfl, h⟩ := hf; subst n_; subst rv_
      generalize iv_ = iv14 at h ⊢
      exact g_iret (q := 0) X hR dX12_worth_54 rfl ⟨rfl, rfl, _, rfl, h⟩
    · have h := h.2 c5
      refine g_sub (L' := [aR (some 66), aJ, aJ, aJ]) ⟨Or.inr rfl, Or.inl rfl, Or.inl rfl, Or.inl rfl, trivial⟩ ?_
      exact cb_X12_worth_21 X hR hK   h
def bd_X12_swing_107 (P21 : Int → Int → Int → Int → IV → Prop) (l1 l3 l5 t0 : Int) (iv : IV) (rv : RV) (K : Int → IV → Prop) : Prop :=
  P21 l1 l3 t0 (w32 (l5 + 1)) iv
set_option maxRecDepth 10000 in
theorem cb_X12_swing_107 {Γ : GX} {n : Nat} {iv : IV} {rv : RV} {K : Int → IV → Prop} {P21 : Int → Int → Int → Int → IV → Prop} {l1 l3 l5 t0 : Int} (X : Cx Γ RX12 cX12_swing 8 8) (hR : Rt Γ (some .int) 0 0 (fI1 n rv K)) (hK : Lk n rv)  (hP21 : ∀ (l1' l3' l4' l5' : Int) (iv' : IV), P21 l1' l3' l4' l5' iv' → G Γ 8 21 [aR (some 66), aI (l1'), aJ, aI (l3'), aI (l4'), aI (l5'), aJ, aJ] [] n iv' rv 0 0) (h : bd_X12_swing_107 P21 l1 l3 l5 t0 iv rv K) : G Γ 8 107 [aR (some 66), aI l1, aJ, aI l3, aJ, aI l5, aJ, aJ] [aI t0] n iv rv 0 0 := by
  unfold bd_X12_swing_107 at h
  refine g_istore (q := 109) (k0 := 0) 4 (L' := [aR (some 66), aI l1, aJ, aI l3, aI t0, aI l5, aJ, aJ]) X dX12_swing_107 rfl (by decide) rfl rfl ?_
  refine g_iinc (q := 112) 5 (L' := [aR (some 66), aI l1, aJ, aI l3, aI t0, aI (w32 (l5 + 1)), aJ, aJ]) X dX12_swing_109 rfl (by decide) rfl rfl rfl ?_
  refine g_goto (q := 21) X dX12_swing_112 (by decide) ?_
  exact hP21 _ _ _ _ _ h
def bd_X12_swing_100 (P21 : Int → Int → Int → Int → IV → Prop) (l1 l3 l5 l6 : Int) (iv : IV) (rv : RV) (K : Int → IV → Prop) : Prop :=
  bd_X12_swing_107 P21 l1 l3 l5 l6 iv rv K
set_option maxRecDepth 10000 in
theorem cb_X12_swing_100 {Γ : GX} {n : Nat} {iv : IV} {rv : RV} {K : Int → IV → Prop} {P21 : Int → Int → Int → Int → IV → Prop} {l1 l3 l5 l6 : Int} (X : Cx Γ RX12 cX12_swing 8 8) (hR : Rt Γ (some .int) 0 0 (fI1 n rv K)) (hK : Lk n rv)  (hP21 : ∀ (l1' l3' l4' l5' : Int) (iv' : IV), P21 l1' l3' l4' l5' iv' → G Γ 8 21 [aR (some 66), aI (l1'), aJ, aI (l3'), aI (l4'), aI (l5'), aJ, aJ] [] n iv' rv 0 0) (h : bd_X12_swing_100 P21 l1 l3 l5 l6 iv rv K) : G Γ 8 100 [aR (some 66), aI l1, aJ, aI l3, aJ, aI l5, aI l6, aJ] [] n iv rv 0 0 := by
  unfold bd_X12_swing_100 at h
  refine g_iload (q := 102) 6 X dX12_swing_100 rfl rfl ?_
  refine g_goto (q := 107) X dX12_swing_102 (by decide) ?_
  refine g_sub (L' := [aR (some 66), aI l1, aJ, aI l3, aJ, aI l5, aJ, aJ]) ⟨Or.inr rfl, Or.inr rfl, Or.inl rfl, Or.inr rfl, Or.inl rfl, Or.inr rfl, Or.inl rfl, Or.inl rfl, trivial⟩ ?_
  exact cb_X12_swing_107 X hR hK  hP21 h
def bd_X12_swing_87 (P21 : Int → Int → Int → Int → IV → Prop) (l1 l4 l5 l6 l7 t0 : Int) (iv : IV) (rv : RV) (K : Int → IV → Prop) : Prop :=
  ((l7 ≠ 0) → (bd_X12_swing_100 P21 l1 t0 l5 l6 iv rv K)) ∧ ((l7 = 0) → (((l6 ≤ l4) → (bd_X12_swing_107 P21 l1 t0 l5 l4 iv rv K)) ∧ ((¬ (l6 ≤ l4)) → (bd_X12_swing_100 P21 l1 t0 l5 l6 iv rv K))))
set_option maxRecDepth 10000 in
theorem cb_X12_swing_87 {Γ : GX} {n : Nat} {iv : IV} {rv : RV} {K : Int → IV → Prop} {P21 : Int → Int → Int → Int → IV → Prop} {l1 l4 l5 l6 l7 t0 : Int} (X : Cx Γ RX12 cX12_swing 8 8) (hR : Rt Γ (some .int) 0 0 (fI1 n rv K)) (hK : Lk n rv)  (hP21 : ∀ (l1' l3' l4' l5' : Int) (iv' : IV), P21 l1' l3' l4' l5' iv' → G Γ 8 21 [aR (some 66), aI (l1'), aJ, aI (l3'), aI (l4'), aI (l5'), aJ, aJ] [] n iv' rv 0 0) (h : bd_X12_swing_87 P21 l1 l4 l5 l6 l7 t0 iv rv K) : G Γ 8 87 [aR (some 66), aI l1, aJ, aJ, aI l4, aI l5, aI l6, aI l7] [aI t0] n iv rv 0 0 := by
  unfold bd_X12_swing_87 at h
  refine g_istore_n (q := 88) 3 (L' := [aR (some 66), aI l1, aJ, aI t0, aI l4, aI l5, aI l6, aI l7]) X dX12_swing_87 rfl rfl (by decide) rfl rfl ?_
  refine g_iload (q := 90) 7 X dX12_swing_88 rfl rfl ?_
  refine g_if_ne (q := 93) 100 X dX12_swing_90 (by decide) rfl (fun c1 => ?_) (fun c1 => ?_)
  · have h := h.1 c1
    refine g_sub (L' := [aR (some 66), aI l1, aJ, aI t0, aJ, aI l5, aI l6, aJ]) ⟨Or.inr rfl, Or.inr rfl, Or.inl rfl, Or.inr rfl, Or.inl rfl, Or.inr rfl, Or.inr rfl, Or.inl rfl, trivial⟩ ?_
    exact cb_X12_swing_100 X hR hK  hP21 h
  · have h := h.2 c1
    refine g_iload (q := 95) 6 X dX12_swing_93 rfl rfl ?_
    refine g_iload (q := 97) 4 X dX12_swing_95 rfl rfl ?_
    refine g_icmp_le (q := 100) 105 X dX12_swing_97 (by decide) rfl (fun c2 => ?_) (fun c2 => ?_)
    · have h := h.1 c2
      refine g_iload (q := 107) 4 X dX12_swing_105 rfl rfl ?_
      refine g_sub (L' := [aR (some 66), aI l1, aJ, aI t0, aJ, aI l5, aJ, aJ]) ⟨Or.inr rfl, Or.inr rfl, Or.inl rfl, Or.inr rfl, Or.inl rfl, Or.inr rfl, Or.inl rfl, Or.inl rfl, trivial⟩ ?_
      exact cb_X12_swing_107 X hR hK  hP21 h
    · have h := h.2 c2
      refine g_sub (L' := [aR (some 66), aI l1, aJ, aI t0, aJ, aI l5, aI l6, aJ]) ⟨Or.inr rfl, Or.inr rfl, Or.inl rfl, Or.inr rfl, Or.inl rfl, Or.inr rfl, Or.inr rfl, Or.inl rfl, trivial⟩ ?_
      exact cb_X12_swing_100 X hR hK  hP21 h
def bd_X12_swing_81 (P21 : Int → Int → Int → Int → IV → Prop) (l1 l4 l5 l6 l7 : Int) (iv : IV) (rv : RV) (K : Int → IV → Prop) : Prop :=
  bd_X12_swing_87 P21 l1 l4 l5 l6 l7 l6 iv rv K
set_option maxRecDepth 10000 in
theorem cb_X12_swing_81 {Γ : GX} {n : Nat} {iv : IV} {rv : RV} {K : Int → IV → Prop} {P21 : Int → Int → Int → Int → IV → Prop} {l1 l4 l5 l6 l7 : Int} (X : Cx Γ RX12 cX12_swing 8 8) (hR : Rt Γ (some .int) 0 0 (fI1 n rv K)) (hK : Lk n rv)  (hP21 : ∀ (l1' l3' l4' l5' : Int) (iv' : IV), P21 l1' l3' l4' l5' iv' → G Γ 8 21 [aR (some 66), aI (l1'), aJ, aI (l3'), aI (l4'), aI (l5'), aJ, aJ] [] n iv' rv 0 0) (h : bd_X12_swing_81 P21 l1 l4 l5 l6 l7 iv rv K) : G Γ 8 81 [aR (some 66), aI l1, aJ, aJ, aI l4, aI l5, aI l6, aI l7] [] n iv rv 0 0 := by
  unfold bd_X12_swing_81 at h
  refine g_iload (q := 83) 6 X dX12_swing_81 rfl rfl ?_
  refine g_goto (q := 87) X dX12_swing_83 (by decide) ?_
  exact cb_X12_swing_87 X hR hK  hP21 h
def bd_X12_swing_68 (P21 : Int → Int → Int → Int → IV → Prop) (l1 l3 l4 l5 l6 t0 : Int) (iv : IV) (rv : RV) (K : Int → IV → Prop) : Prop :=
  ((t0 ≠ 0) → (bd_X12_swing_81 P21 l1 l4 l5 l6 t0 iv rv K)) ∧ ((t0 = 0) → (((l3 ≤ l6) → (bd_X12_swing_87 P21 l1 l4 l5 l6 t0 l3 iv rv K)) ∧ ((¬ (l3 ≤ l6)) → (bd_X12_swing_81 P21 l1 l4 l5 l6 t0 iv rv K))))
set_option maxRecDepth 10000 in
theorem cb_X12_swing_68 {Γ : GX} {n : Nat} {iv : IV} {rv : RV} {K : Int → IV → Prop} {P21 : Int → Int → Int → Int → IV → Prop} {l1 l3 l4 l5 l6 t0 : Int} (X : Cx Γ RX12 cX12_swing 8 8) (hR : Rt Γ (some .int) 0 0 (fI1 n rv K)) (hK : Lk n rv)  (hP21 : ∀ (l1' l3' l4' l5' : Int) (iv' : IV), P21 l1' l3' l4' l5' iv' → G Γ 8 21 [aR (some 66), aI (l1'), aJ, aI (l3'), aI (l4'), aI (l5'), aJ, aJ] [] n iv' rv 0 0) (h : bd_X12_swing_68 P21 l1 l3 l4 l5 l6 t0 iv rv K) : G Γ 8 68 [aR (some 66), aI l1, aJ, aI l3, aI l4, aI l5, aI l6, aJ] [aI t0] n iv rv 0 0 := by
  unfold bd_X12_swing_68 at h
  refine g_istore (q := 70) (k0 := 0) 7 (L' := [aR (some 66), aI l1, aJ, aI l3, aI l4, aI l5, aI l6, aI t0]) X dX12_swing_68 rfl (by decide) rfl rfl ?_
  refine g_iload (q := 72) 7 X dX12_swing_70 rfl rfl ?_
  refine g_if_ne (q := 75) 81 X dX12_swing_72 (by decide) rfl (fun c1 => ?_) (fun c1 => ?_)
  · have h := h.1 c1
    refine g_sub (L' := [aR (some 66), aI l1, aJ, aJ, aI l4, aI l5, aI l6, aI t0]) ⟨Or.inr rfl, Or.inr rfl, Or.inl rfl, Or.inl rfl, Or.inr rfl, Or.inr rfl, Or.inr rfl, Or.inr rfl, trivial⟩ ?_
    exact cb_X12_swing_81 X hR hK  hP21 h
  · have h := h.2 c1
    refine g_iload (q := 77) 6 X dX12_swing_75 rfl rfl ?_
    refine g_iload_n (q := 78) 3 X dX12_swing_77 rfl rfl rfl ?_
    refine g_icmp_ge (q := 81) 86 X dX12_swing_78 (by decide) rfl (fun c2 => ?_) (fun c2 => ?_)
    · have h := h.1 c2
      refine g_iload_n (q := 87) 3 X dX12_swing_86 rfl rfl rfl ?_
      refine g_sub (L' := [aR (some 66), aI l1, aJ, aJ, aI l4, aI l5, aI l6, aI t0]) ⟨Or.inr rfl, Or.inr rfl, Or.inl rfl, Or.inl rfl, Or.inr rfl, Or.inr rfl, Or.inr rfl, Or.inr rfl, trivial⟩ ?_
      exact cb_X12_swing_87 X hR hK  hP21 h
    · have h := h.2 c2
      refine g_sub (L' := [aR (some 66), aI l1, aJ, aJ, aI l4, aI l5, aI l6, aI t0]) ⟨Or.inr rfl, Or.inr rfl, Or.inl rfl, Or.inl rfl, Or.inr rfl, Or.inr rfl, Or.inr rfl, Or.inr rfl, trivial⟩ ?_
      exact cb_X12_swing_81 X hR hK  hP21 h
def bd_X12_swing_21 (P21 : Int → Int → Int → Int → IV → Prop) (l1 l3 l4 l5 : Int) (iv : IV) (rv : RV) (K : Int → IV → Prop) : Prop :=
  (rv 66 3 = some 80) ∧ (0 ≤ l1 ∧ l1 < 16) ∧ (((iv 91 l1.toNat) < l5) → (K (w32 (l4 - l3)) iv)) ∧ ((¬ ((iv 91 l1.toNat) < l5)) → ((0 ≤ l1 ∧ l1 < 16) ∧ ∀ iv4, iv4 = w2 iv 68 l1.toNat l5 → wp_X12_coins iv4 rv (fun r5 iv6 => (0 ≤ l1 ∧ l1 < 16) ∧ ((l5 ≠ (iv6 90 l1.toNat)) → (bd_X12_swing_68 P21 l1 l3 l4 l5 r5 0 iv6 rv K)) ∧ ((l5 = (iv6 90 l1.toNat)) → (bd_X12_swing_68 P21 l1 l3 l4 l5 r5 1 iv6 rv K)))))
set_option maxRecDepth 10000 in
theorem cb_X12_swing_21 {Γ : GX} {n : Nat} {iv : IV} {rv : RV} {K : Int → IV → Prop} {P21 : Int → Int → Int → Int → IV → Prop} {l1 l3 l4 l5 : Int} (X : Cx Γ RX12 cX12_swing 8 8) (hR : Rt Γ (some .int) 0 0 (fI1 n rv K)) (hK : Lk n rv)  (hP21 : ∀ (l1' l3' l4' l5' : Int) (iv' : IV), P21 l1' l3' l4' l5' iv' → G Γ 8 21 [aR (some 66), aI (l1'), aJ, aI (l3'), aI (l4'), aI (l5'), aJ, aJ] [] n iv' rv 0 0) (h : bd_X12_swing_21 P21 l1 l3 l4 l5 iv rv K) : G Γ 8 21 [aR (some 66), aI l1, aJ, aI l3, aI l4, aI l5, aJ, aJ] [] n iv rv 0 0 := by
  unfold bd_X12_swing_21 at h
  refine g_iload (q := 23) 5 X dX12_swing_21 rfl rfl ?_
  refine g_aload_n (q := 24) 0 X dX12_swing_23 rfl rfl rfl ?_
  obtain ⟨hm80, h⟩ := h
  refine g_getR (q := 27) (r := some 80) 12 3 X hm80 (lt2000 (c := 0) (by decide)) kf_X12_442 (by decide) (by decide) rfl rfl (hK.n (by decide)) dX12_swing_24 rfl ?_
  refine g_getR (q := 30) (r := some 91) 11 24 X (lkM_24 hK (Or.inl rfl) (hK.2.2.2.2.2.2.1 80 hm80 (Or.inl rfl))) (lt2000 (c := 0) (by decide)) kf_X12_310 (by decide) (by decide) rfl rfl (Nat.lt_of_lt_of_le (by decide) (hK.2.2.2.2.2.2.1 80 hm80 (Or.inl rfl))) dX12_swing_27 rfl ?_
  refine g_iload_n (q := 31) 1 X dX12_swing_30 rfl rfl rfl ?_
  obtain ⟨s1, h⟩ := h
  refine g_iald (q := 32) X rfl (Nat.lt_of_lt_of_le (by decide) (hK.2.2.2.2.2.2.1 80 hm80 (Or.inl rfl))) s1 dX12_swing_31 rfl ?_
  refine g_icmp_gt (q := 35) 115 X dX12_swing_32 (by decide) rfl (fun c2 => ?_) (fun c2 => ?_)
  · have h := h.1 c2
    refine g_iload (q := 117) 4 X dX12_swing_115 rfl rfl ?_
    refine g_iload_n (q := 118) 3 X dX12_swing_117 rfl rfl rfl ?_
    refine g_isub (q := 119) X dX12_swing_118 rfl ?_
    exact g_iret (q := 0) X hR dX12_swing_119 rfl ⟨rfl, rfl, _, rfl, h⟩
  · have h := h.2 c2
    refine g_aload_n (q := 36) 0 X dX12_swing_35 rfl rfl rfl ?_
    refine g_getR (q := 39) (r := some 68) 12 15 X (lk_66_15 hK) (lt2000 (c := 0) (by decide)) kf_X12_17 (by decide) (by decide) rfl rfl (hK.n (by decide)) dX12_swing_36 rfl ?_
    refine g_iload_n (q := 40) 1 X dX12_swing_39 rfl rfl rfl ?_
    refine g_iload (q := 42) 5 X dX12_swing_40 rfl rfl ?_
    obtain ⟨s3, h⟩ := h
    refine g_iast (q := 43) X rfl (hK.n (by decide)) s3 dX12_swing_42 rfl ?_
    refine g_nmM (fun iv4 eiv4 => ?_)
    have h := h iv4 eiv4
    refine g_aload_n (q := 44) 0 X dX12_swing_43 rfl rfl rfl ?_
    refine g_cv (q := 47) [] 12 X (ce_X12_coins hK  h) kV_X12_559 rfl (by decide) rfl (hK.n (by decide)) rfl rfl (Nat.le_of_ble_eq_true rfl) (by decide) dX12_swing_44 rfl (fun r n_ iv_ rv_ hf => ?_)
    obtain ⟨en_, er_, r5, rfl, h⟩ := hf; subst n_; subst rv_
    generalize iv_ = iv6 at h ⊢
    refine g_istore (q := 49) (k0 := 0) 6 (L' := [aR (some 66), aI l1, aJ, aI l3, aI l4, aI l5, aI r5, aJ]) X dX12_swing_47 rfl (by decide) rfl rfl ?_
    refine g_iload (q := 51) 5 X dX12_swing_49 rfl rfl ?_
    refine g_aload_n (q := 52) 0 X dX12_swing_51 rfl rfl rfl ?_
    refine g_getR (q := 55) (r := some 80) 12 3 X hm80 (lt2000 (c := 0) (by decide)) kf_X12_442 (by decide) (by decide) rfl rfl (hK.n (by decide)) dX12_swing_52 rfl ?_
    refine g_getR (q := 58) (r := some 90) 11 23 X (lkM_23 hK (Or.inl rfl) (hK.2.2.2.2.2.2.1 80 hm80 (Or.inl rfl))) (lt2000 (c := 0) (by decide)) kf_X12_307 (by decide) (by decide) rfl rfl (Nat.lt_of_lt_of_le (by decide) (hK.2.2.2.2.2.2.1 80 hm80 (Or.inl rfl))) dX12_swing_55 rfl ?_
    refine g_iload_n (q := 59) 1 X dX12_swing_58 rfl rfl rfl ?_
    obtain ⟨s7, h⟩ := h
    refine g_iald (q := 60) X rfl (Nat.lt_of_lt_of_le (by decide) (hK.2.2.2.2.2.2.1 80 hm80 (Or.inl rfl))) s7 dX12_swing_59 rfl ?_
    refine g_icmp_ne (q := 63) 67 X dX12_swing_60 (by decide) rfl (fun c8 => ?_) (fun c8 => ?_)
    · have h := h.1 c8
      refine g_iconst (q := 68) 0 X dX12_swing_67 rfl rfl ic_0 ?_
      exact cb_X12_swing_68 X hR hK  hP21 h
    · have h := h.2 c8
      refine g_iconst (q := 64) 1 X dX12_swing_63 rfl rfl ic_1 ?_
      refine g_goto (q := 68) X dX12_swing_64 (by decide) ?_
      exact cb_X12_swing_68 X hR hK  hP21 h
def wl_X12_swing_21 (l1 l3 l4 l5 : Int) (iv : IV) (rv : RV) (K : Int → IV → Prop) : Prop :=
  ∀ P : Int → Int → Int → Int → IV → Prop, (∀ (l1' l3' l4' l5' : Int) (iv' : IV), bd_X12_swing_21  P l1' l3' l4' l5' iv' rv K → P l1' l3' l4' l5' iv') → P l1 l3 l4 l5 iv
theorem cl_X12_swing_21 {Γ : GX} {n : Nat} {iv : IV} {rv : RV} {K : Int → IV → Prop} {l1 l3 l4 l5 : Int} (X : Cx Γ RX12 cX12_swing 8 8) (hR : Rt Γ (some .int) 0 0 (fI1 n rv K)) (hK : Lk n rv)  (h : wl_X12_swing_21 l1 l3 l4 l5 iv rv K) : G Γ 8 21 [aR (some 66), aI l1, aJ, aI l3, aI l4, aI l5, aJ, aJ] [] n iv rv 0 0 := by
  exact h (fun l1' l3' l4' l5' iv' =>  G Γ 8 21 [aR (some 66), aI (l1'), aJ, aI (l3'), aI (l4'), aI (l5'), aJ, aJ] [] n iv' rv 0 0) (fun l1' l3' l4' l5' iv' hb => cb_X12_swing_21 X hR hK   (fun l1' l3' l4' l5' iv' hp => hp) hb)
def wp_X12_swing (a1 : Int) (a2 : Int) (iv : IV) (rv : RV) (K : Int → IV → Prop) : Prop :=
  wp_X12_lays a2 iv rv (fun iv1 => (rv 66 3 = some 80) ∧ (0 ≤ a1 ∧ a1 < 16) ∧ ∀ x3, x3 = iv1 90 a1.toNat → wl_X12_swing_21 a1 0 0 x3 iv1 rv K)
set_option maxRecDepth 10000 in
theorem ce_X12_swing {n : Nat} {iv : IV} {rv : RV} {K : Int → IV → Prop} {a1 : Int} {a2 : Int} (hK : Lk n rv)  (h : wp_X12_swing a1 a2 iv rv K) : Call 8 0 0 yX12_swing cX12_swing 8 (some .int) [aR (some 66), aI a1, aI a2] n iv rv (fI1 n rv K) := by
  refine Call.by (L := [aR (some 66), aI a1, aI a2, aJ, aJ, aJ, aJ, aJ]) (by decide) rfl ⟨trivial, trivial, trivial, trivial⟩ rfl (Nat.le_of_ble_eq_true rfl) (fun Γ X hR => ?_)
  unfold wp_X12_swing at h
  refine g_aload_n (q := 1) 0 X dX12_swing_0 rfl rfl rfl ?_
  refine g_iload_n (q := 2) 2 X dX12_swing_1 rfl rfl rfl ?_
  refine g_cv (q := 5) [aI a2] 12 X (ce_X12_lays hK  h) kV_X12_514 rfl (by decide) rfl (hK.n (by decide)) rfl rfl (Nat.le_of_ble_eq_true rfl) (by decide) dX12_swing_2 rfl (fun r n_ iv_ rv_ hf => ?_)
  obtain ⟨en_, er_, rfl, h⟩ := hf; subst n_; subst rv_
  generalize iv_ = iv1 at h ⊢
  refine g_iconst (q := 6) 0 X dX12_swing_5 rfl rfl ic_0 ?_
  refine g_istore_n (q := 7) 3 (L' := [aR (some 66), aI a1, aI a2, aI 0, aJ, aJ, aJ, aJ]) X dX12_swing_6 rfl rfl (by decide) rfl rfl ?_
  refine g_iconst (q := 8) 0 X dX12_swing_7 rfl rfl ic_0 ?_
  refine g_istore (q := 10) (k0 := 0) 4 (L' := [aR (some 66), aI a1, aI a2, aI 0, aI 0, aJ, aJ, aJ]) X dX12_swing_8 rfl (by decide) rfl rfl ?_
  refine g_aload_n (q := 11) 0 X dX12_swing_10 rfl rfl rfl ?_
  obtain ⟨hm80, h⟩ := h
  refine g_getR (q := 14) (r := some 80) 12 3 X hm80 (lt2000 (c := 0) (by decide)) kf_X12_442 (by decide) (by decide) rfl rfl (hK.n (by decide)) dX12_swing_11 rfl ?_
  refine g_getR (q := 17) (r := some 90) 11 23 X (lkM_23 hK (Or.inl rfl) (hK.2.2.2.2.2.2.1 80 hm80 (Or.inl rfl))) (lt2000 (c := 0) (by decide)) kf_X12_307 (by decide) (by decide) rfl rfl (Nat.lt_of_lt_of_le (by decide) (hK.2.2.2.2.2.2.1 80 hm80 (Or.inl rfl))) dX12_swing_14 rfl ?_
  refine g_iload_n (q := 18) 1 X dX12_swing_17 rfl rfl rfl ?_
  obtain ⟨s2, h⟩ := h
  refine g_iald (q := 19) X rfl (Nat.lt_of_lt_of_le (by decide) (hK.2.2.2.2.2.2.1 80 hm80 (Or.inl rfl))) s2 dX12_swing_18 rfl ?_
  refine g_nmI (fun x3 ex3 => ?_)
  have h := h x3 ex3
  refine g_istore (q := 21) (k0 := 0) 5 (L' := [aR (some 66), aI a1, aI a2, aI 0, aI 0, aI x3, aJ, aJ]) X dX12_swing_19 rfl (by decide) rfl rfl ?_
  refine g_sub (L' := [aR (some 66), aI a1, aJ, aI 0, aI 0, aI x3, aJ, aJ]) ⟨Or.inr rfl, Or.inr rfl, Or.inl rfl, Or.inr rfl, Or.inr rfl, Or.inr rfl, Or.inl rfl, Or.inl rfl, trivial⟩ ?_
  exact cl_X12_swing_21 X hR hK   h
def bd_X12_hangs_100 (P26 : Int → Int → Int → Int → IV → Prop) (l1 l2 l3 l4 : Int) (iv : IV) (rv : RV) (K : Int → IV → Prop) : Prop :=
  P26 l1 l2 l3 (w32 (l4 + 1)) iv
set_option maxRecDepth 10000 in
theorem cb_X12_hangs_100 {Γ : GX} {n : Nat} {iv : IV} {rv : RV} {K : Int → IV → Prop} {P26 : Int → Int → Int → Int → IV → Prop} {l1 l2 l3 l4 : Int} (X : Cx Γ RX12 cX12_hangs 6 9) (hR : Rt Γ (some .int) 0 0 (fI1 n rv K)) (hK : Lk n rv)  (hP26 : ∀ (l1' l2' l3' l4' : Int) (iv' : IV), P26 l1' l2' l3' l4' iv' → G Γ 6 26 [aR (some 66), aI (l1'), aI (l2'), aI (l3'), aI (l4'), aJ] [] n iv' rv 0 0) (h : bd_X12_hangs_100 P26 l1 l2 l3 l4 iv rv K) : G Γ 6 100 [aR (some 66), aI l1, aI l2, aI l3, aI l4, aJ] [] n iv rv 0 0 := by
  unfold bd_X12_hangs_100 at h
  refine g_iinc (q := 103) 4 (L' := [aR (some 66), aI l1, aI l2, aI l3, aI (w32 (l4 + 1)), aJ]) X dX12_hangs_100 rfl (by decide) rfl rfl rfl ?_
  refine g_goto (q := 26) X dX12_hangs_103 (by decide) ?_
  exact hP26 _ _ _ _ _ h
def bd_X12_hangs_94 (P26 : Int → Int → Int → Int → IV → Prop) (l1 l4 l5 : Int) (iv : IV) (rv : RV) (K : Int → IV → Prop) : Prop :=
  bd_X12_hangs_100 P26 l1 l4 l5 l4 iv rv K
set_option maxRecDepth 10000 in
theorem cb_X12_hangs_94 {Γ : GX} {n : Nat} {iv : IV} {rv : RV} {K : Int → IV → Prop} {P26 : Int → Int → Int → Int → IV → Prop} {l1 l4 l5 : Int} (X : Cx Γ RX12 cX12_hangs 6 9) (hR : Rt Γ (some .int) 0 0 (fI1 n rv K)) (hK : Lk n rv)  (hP26 : ∀ (l1' l2' l3' l4' : Int) (iv' : IV), P26 l1' l2' l3' l4' iv' → G Γ 6 26 [aR (some 66), aI (l1'), aI (l2'), aI (l3'), aI (l4'), aJ] [] n iv' rv 0 0) (h : bd_X12_hangs_94 P26 l1 l4 l5 iv rv K) : G Γ 6 94 [aR (some 66), aI l1, aJ, aJ, aI l4, aI l5] [] n iv rv 0 0 := by
  unfold bd_X12_hangs_94 at h
  refine g_iload (q := 96) 5 X dX12_hangs_94 rfl rfl ?_
  refine g_istore_n (q := 97) 3 (L' := [aR (some 66), aI l1, aJ, aI l5, aI l4, aI l5]) X dX12_hangs_96 rfl rfl (by decide) rfl rfl ?_
  refine g_iload (q := 99) 4 X dX12_hangs_97 rfl rfl ?_
  refine g_istore_n (q := 100) 2 (L' := [aR (some 66), aI l1, aI l4, aI l5, aI l4, aI l5]) X dX12_hangs_99 rfl rfl (by decide) rfl rfl ?_
  refine g_sub (L' := [aR (some 66), aI l1, aI l4, aI l5, aI l4, aJ]) ⟨Or.inr rfl, Or.inr rfl, Or.inr rfl, Or.inr rfl, Or.inr rfl, Or.inl rfl, trivial⟩ ?_
  exact cb_X12_hangs_100 X hR hK  hP26 h
def bd_X12_hangs_26 (P26 : Int → Int → Int → Int → IV → Prop) (l1 l2 l3 l4 : Int) (iv : IV) (rv : RV) (K : Int → IV → Prop) : Prop :=
  ((16 ≤ l4) → (((l2 ≠ (-1)) → (wp_X12_done l2 iv rv (fun r3 iv4 => K r3 iv4))) ∧ ((l2 = (-1)) → (wp_X12_refused 6 iv rv (fun r5 iv6 => K r5 iv6))))) ∧ ((¬ (16 ≤ l4)) → ((rv 66 3 = some 80) ∧ wp_X11_isGrant 80 l4 iv rv (fun r7 => ((r7 = 0) → (bd_X12_hangs_100 P26 l1 l2 l3 l4 iv rv K)) ∧ ((¬ (r7 = 0)) → ((0 ≤ l4 ∧ l4 < 16) ∧ (0 ≤ l4 ∧ l4 < 16) ∧ (((iv 91 l4.toNat) ≠ (iv 90 l4.toNat)) → (wp_X12_swing l4 l1 iv rv (fun r12 iv13 => ((l2 = (-1)) → (bd_X12_hangs_94 P26 l1 l4 r12 iv13 rv K)) ∧ ((¬ (l2 = (-1))) → (((l3 < r12) → (bd_X12_hangs_94 P26 l1 l4 r12 iv13 rv K)) ∧ ((¬ (l3 < r12)) → (bd_X12_hangs_100 P26 l1 l2 l3 l4 iv13 rv K))))))) ∧ (((iv 91 l4.toNat) = (iv 90 l4.toNat)) → (bd_X12_hangs_100 P26 l1 l2 l3 l4 iv rv K)))))))
set_option maxRecDepth 10000 in
theorem cb_X12_hangs_26 {Γ : GX} {n : Nat} {iv : IV} {rv : RV} {K : Int → IV → Prop} {P26 : Int → Int → Int → Int → IV → Prop} {l1 l2 l3 l4 : Int} (X : Cx Γ RX12 cX12_hangs 6 9) (hR : Rt Γ (some .int) 0 0 (fI1 n rv K)) (hK : Lk n rv)  (hP26 : ∀ (l1' l2' l3' l4' : Int) (iv' : IV), P26 l1' l2' l3' l4' iv' → G Γ 6 26 [aR (some 66), aI (l1'), aI (l2'), aI (l3'), aI (l4'), aJ] [] n iv' rv 0 0) (h : bd_X12_hangs_26 P26 l1 l2 l3 l4 iv rv K) : G Γ 6 26 [aR (some 66), aI l1, aI l2, aI l3, aI l4, aJ] [] n iv rv 0 0 := by
  unfold bd_X12_hangs_26 at h
  refine g_iload (q := 28) 4 X dX12_hangs_26 rfl rfl ?_
  refine g_bipush (q := 30) 16 X dX12_hangs_28 rfl bc_16 ic_16 ?_
  refine g_icmp_ge (q := 33) 106 X dX12_hangs_30 (by decide) rfl (fun c1 => ?_) (fun c1 => ?_)
  · have h := h.1 c1
    refine g_iload_n (q := 107) 2 X dX12_hangs_106 rfl rfl rfl ?_
    refine g_iconst (q := 108) (-1) X dX12_hangs_107 rfl rfl ic_m1 ?_
    refine g_icmp_ne (q := 111) 120 X dX12_hangs_108 (by decide) rfl (fun c2 => ?_) (fun c2 => ?_)
    · have h := h.1 c2
      refine g_aload_n (q := 121) 0 X dX12_hangs_120 rfl rfl rfl ?_
      refine g_iload_n (q := 122) 2 X dX12_hangs_121 rfl rfl rfl ?_
      refine g_cv (q := 125) [aI l2] 12 X (ce_X12_done hK  h) kV_X12_65 rfl (by decide) rfl (hK.n (by decide)) rfl rfl (Nat.le_of_ble_eq_true rfl) (by decide) dX12_hangs_122 rfl (fun r n_ iv_ rv_ hf => ?_)
      obtain ⟨en_, er_, r3, rfl, h⟩ := hf; subst n_; subst rv_
      generalize iv_ = iv4 at h ⊢
      exact g_iret (q := 0) X hR dX12_hangs_125 rfl ⟨rfl, rfl, _, rfl, h⟩
    · have h := h.2 c2
      refine g_aload_n (q := 112) 0 X dX12_hangs_111 rfl rfl rfl ?_
      refine g_bipush (q := 114) 6 X dX12_hangs_112 rfl bc_6 ic_6 ?_
      refine g_cv (q := 117) [aI 6] 12 X (ce_X12_refused hK  h) kV_X12_60 rfl (by decide) rfl (hK.n (by decide)) rfl rfl (Nat.le_of_ble_eq_true rfl) (by decide) dX12_hangs_114 rfl (fun r n_ iv_ rv_ hf => ?_)
      obtain ⟨en_, er_, r5, rfl, h⟩ := hf; subst n_; subst rv_
      generalize iv_ = iv6 at h ⊢
      refine g_goto (q := 125) X dX12_hangs_117 (by decide) ?_
      exact g_iret (q := 0) X hR dX12_hangs_125 rfl ⟨rfl, rfl, _, rfl, h⟩
  · have h := h.2 c1
    refine g_aload_n (q := 34) 0 X dX12_hangs_33 rfl rfl rfl ?_
    obtain ⟨hm80, h⟩ := h
    refine g_getR (q := 37) (r := some 80) 12 3 X hm80 (lt2000 (c := 0) (by decide)) kf_X12_442 (by decide) (by decide) rfl rfl (hK.n (by decide)) dX12_hangs_34 rfl ?_
    refine g_iload (q := 39) 4 X dX12_hangs_37 rfl rfl ?_
    refine g_cv (q := 42) [aI l4] 11 X (ce_X11_isGrant hK (Or.inl rfl) (hK.2.2.2.2.2.2.1 80 hm80 (Or.inl rfl)) h) kV_X12_502 rfl (by decide) rfl (Nat.lt_of_lt_of_le (by decide) (hK.2.2.2.2.2.2.1 80 hm80 (Or.inl rfl))) rfl rfl (Nat.le_of_ble_eq_true rfl) (by decide) dX12_hangs_39 rfl (fun r n_ iv_ rv_ hf => ?_)
    obtain ⟨en_, ei_, er_, r7, rfl, br7, h⟩ := hf; subst n_; subst iv_; subst rv_
    refine g_if_eq (q := 45) 100 X dX12_hangs_42 (by decide) rfl (fun c8 => ?_) (fun c8 => ?_)
    · have h := h.1 c8
      exact cb_X12_hangs_100 X hR hK  hP26 h
    · have h := h.2 c8
      refine g_aload_n (q := 46) 0 X dX12_hangs_45 rfl rfl rfl ?_
      refine g_getR (q := 49) (r := some 80) 12 3 X hm80 (lt2000 (c := 0) (by decide)) kf_X12_442 (by decide) (by decide) rfl rfl (hK.n (by decide)) dX12_hangs_46 rfl ?_
      refine g_getR (q := 52) (r := some 91) 11 24 X (lkM_24 hK (Or.inl rfl) (hK.2.2.2.2.2.2.1 80 hm80 (Or.inl rfl))) (lt2000 (c := 0) (by decide)) kf_X12_310 (by decide) (by decide) rfl rfl (Nat.lt_of_lt_of_le (by decide) (hK.2.2.2.2.2.2.1 80 hm80 (Or.inl rfl))) dX12_hangs_49 rfl ?_
      refine g_iload (q := 54) 4 X dX12_hangs_52 rfl rfl ?_
      obtain ⟨s9, h⟩ := h
      refine g_iald (q := 55) X rfl (Nat.lt_of_lt_of_le (by decide) (hK.2.2.2.2.2.2.1 80 hm80 (Or.inl rfl))) s9 dX12_hangs_54 rfl ?_
      refine g_aload_n (q := 56) 0 X dX12_hangs_55 rfl rfl rfl ?_
      refine g_getR (q := 59) (r := some 80) 12 3 X hm80 (lt2000 (c := 0) (by decide)) kf_X12_442 (by decide) (by decide) rfl rfl (hK.n (by decide)) dX12_hangs_56 rfl ?_
      refine g_getR (q := 62) (r := some 90) 11 23 X (lkM_23 hK (Or.inl rfl) (hK.2.2.2.2.2.2.1 80 hm80 (Or.inl rfl))) (lt2000 (c := 0) (by decide)) kf_X12_307 (by decide) (by decide) rfl rfl (Nat.lt_of_lt_of_le (by decide) (hK.2.2.2.2.2.2.1 80 hm80 (Or.inl rfl))) dX12_hangs_59 rfl ?_
      refine g_iload (q := 64) 4 X dX12_hangs_62 rfl rfl ?_
      obtain ⟨s10, h⟩ := h
      refine g_iald (q := 65) X rfl (Nat.lt_of_lt_of_le (by decide) (hK.2.2.2.2.2.2.1 80 hm80 (Or.inl rfl))) s10 dX12_hangs_64 rfl ?_
      refine g_icmp_ne (q := 68) 71 X dX12_hangs_65 (by decide) rfl (fun c11 => ?_) (fun c11 => ?_)
      · have h := h.1 c11
        refine g_aload_n (q := 72) 0 X dX12_hangs_71 rfl rfl rfl ?_
        refine g_iload (q := 74) 4 X dX12_hangs_72 rfl rfl ?_
        refine g_iload_n (q := 75) 1 X dX12_hangs_74 rfl rfl rfl ?_
        refine g_cv (q := 78) [aI l4, aI l1] 12 X (ce_X12_swing hK  h) kV_X12_562 rfl (by decide) rfl (hK.n (by decide)) rfl rfl (Nat.le_of_ble_eq_true rfl) (by decide) dX12_hangs_75 rfl (fun r n_ iv_ rv_ hf => ?_)
        obtain ⟨en_, er_, r12, rfl, h⟩ := hf; subst n_; subst rv_
        generalize iv_ = iv13 at h ⊢
        refine g_istore (q := 80) (k0 := 0) 5 (L' := [aR (some 66), aI l1, aI l2, aI l3, aI l4, aI r12]) X dX12_hangs_78 rfl (by decide) rfl rfl ?_
        refine g_iload_n (q := 81) 2 X dX12_hangs_80 rfl rfl rfl ?_
        refine g_iconst (q := 82) (-1) X dX12_hangs_81 rfl rfl ic_m1 ?_
        refine g_icmp_eq (q := 85) 94 X dX12_hangs_82 (by decide) rfl (fun c14 => ?_) (fun c14 => ?_)
        · have h := h.1 c14
          refine g_sub (L' := [aR (some 66), aI l1, aJ, aJ, aI l4, aI r12]) ⟨Or.inr rfl, Or.inr rfl, Or.inl rfl, Or.inl rfl, Or.inr rfl, Or.inr rfl, trivial⟩ ?_
          exact cb_X12_hangs_94 X hR hK  hP26 h
        · have h := h.2 c14
          refine g_iload (q := 87) 5 X dX12_hangs_85 rfl rfl ?_
          refine g_iload_n (q := 88) 3 X dX12_hangs_87 rfl rfl rfl ?_
          refine g_icmp_gt (q := 91) 94 X dX12_hangs_88 (by decide) rfl (fun c15 => ?_) (fun c15 => ?_)
          · have h := h.1 c15
            refine g_sub (L' := [aR (some 66), aI l1, aJ, aJ, aI l4, aI r12]) ⟨Or.inr rfl, Or.inr rfl, Or.inl rfl, Or.inl rfl, Or.inr rfl, Or.inr rfl, trivial⟩ ?_
            exact cb_X12_hangs_94 X hR hK  hP26 h
          · have h := h.2 c15
            refine g_goto (q := 100) X dX12_hangs_91 (by decide) ?_
            refine g_sub (L' := [aR (some 66), aI l1, aI l2, aI l3, aI l4, aJ]) ⟨Or.inr rfl, Or.inr rfl, Or.inr rfl, Or.inr rfl, Or.inr rfl, Or.inl rfl, trivial⟩ ?_
            exact cb_X12_hangs_100 X hR hK  hP26 h
      · have h := h.2 c11
        refine g_goto (q := 100) X dX12_hangs_68 (by decide) ?_
        exact cb_X12_hangs_100 X hR hK  hP26 h
def wl_X12_hangs_26 (l1 l2 l3 l4 : Int) (iv : IV) (rv : RV) (K : Int → IV → Prop) : Prop :=
  ∀ P : Int → Int → Int → Int → IV → Prop, (∀ (l1' l2' l3' l4' : Int) (iv' : IV), bd_X12_hangs_26  P l1' l2' l3' l4' iv' rv K → P l1' l2' l3' l4' iv') → P l1 l2 l3 l4 iv
theorem cl_X12_hangs_26 {Γ : GX} {n : Nat} {iv : IV} {rv : RV} {K : Int → IV → Prop} {l1 l2 l3 l4 : Int} (X : Cx Γ RX12 cX12_hangs 6 9) (hR : Rt Γ (some .int) 0 0 (fI1 n rv K)) (hK : Lk n rv)  (h : wl_X12_hangs_26 l1 l2 l3 l4 iv rv K) : G Γ 6 26 [aR (some 66), aI l1, aI l2, aI l3, aI l4, aJ] [] n iv rv 0 0 := by
  exact h (fun l1' l2' l3' l4' iv' =>  G Γ 6 26 [aR (some 66), aI (l1'), aI (l2'), aI (l3'), aI (l4'), aJ] [] n iv' rv 0 0) (fun l1' l2' l3' l4' iv' hb => cb_X12_hangs_26 X hR hK   (fun l1' l2' l3' l4' iv' hp => hp) hb)
def wp_X12_hangs (a1 : Int) (iv : IV) (rv : RV) (K : Int → IV → Prop) : Prop :=
  ∀ iv1, iv1 = w2 iv 66 0 0 → wp_X12_isLaw a1 iv1 rv (fun r2 => ((r2 ≠ 0) → (wl_X12_hangs_26 a1 (-1) 0 0 iv1 rv K)) ∧ ((r2 = 0) → (wp_X12_refused 1 iv1 rv (fun r4 iv5 => K r4 iv5))))
set_option maxRecDepth 10000 in
theorem ce_X12_hangs {n : Nat} {iv : IV} {rv : RV} {K : Int → IV → Prop} {a1 : Int} (hK : Lk n rv)  (h : wp_X12_hangs a1 iv rv K) : Call 9 0 0 yX12_hangs cX12_hangs 6 (some .int) [aR (some 66), aI a1] n iv rv (fI1 n rv K) := by
  refine Call.by (L := [aR (some 66), aI a1, aJ, aJ, aJ, aJ]) (by decide) rfl ⟨trivial, trivial, trivial⟩ rfl (Nat.le_of_ble_eq_true rfl) (fun Γ X hR => ?_)
  unfold wp_X12_hangs at h
  refine g_aload_n (q := 1) 0 X dX12_hangs_0 rfl rfl rfl ?_
  refine g_iconst (q := 2) 0 X dX12_hangs_1 rfl rfl ic_0 ?_
  refine g_putI (q := 5) 12 0 X (Or.inl rfl) rfl kf_X12_54 (by decide) (by decide) rfl (hK.n (by decide)) dX12_hangs_2 rfl ?_
  refine g_nmM (fun iv1 eiv1 => ?_)
  have h := h iv1 eiv1
  refine g_aload_n (q := 6) 0 X dX12_hangs_5 rfl rfl rfl ?_
  refine g_iload_n (q := 7) 1 X dX12_hangs_6 rfl rfl rfl ?_
  refine g_cv (q := 10) [aI a1] 12 X (ce_X12_isLaw hK  h) kV_X12_511 rfl (by decide) rfl (hK.n (by decide)) rfl rfl (Nat.le_of_ble_eq_true rfl) (by decide) dX12_hangs_7 rfl (fun r n_ iv_ rv_ hf => ?_)
  obtain ⟨en_, ei_, er_, r2, rfl, br2, h⟩ := hf; subst n_; subst iv_; subst rv_
  refine g_if_ne (q := 13) 19 X dX12_hangs_10 (by decide) rfl (fun c3 => ?_) (fun c3 => ?_)
  · have h := h.1 c3
    refine g_iconst (q := 20) (-1) X dX12_hangs_19 rfl rfl ic_m1 ?_
    refine g_istore_n (q := 21) 2 (L' := [aR (some 66), aI a1, aI (-1), aJ, aJ, aJ]) X dX12_hangs_20 rfl rfl (by decide) rfl rfl ?_
    refine g_iconst (q := 22) 0 X dX12_hangs_21 rfl rfl ic_0 ?_
    refine g_istore_n (q := 23) 3 (L' := [aR (some 66), aI a1, aI (-1), aI 0, aJ, aJ]) X dX12_hangs_22 rfl rfl (by decide) rfl rfl ?_
    refine g_iconst (q := 24) 0 X dX12_hangs_23 rfl rfl ic_0 ?_
    refine g_istore (q := 26) (k0 := 0) 4 (L' := [aR (some 66), aI a1, aI (-1), aI 0, aI 0, aJ]) X dX12_hangs_24 rfl (by decide) rfl rfl ?_
    exact cl_X12_hangs_26 X hR hK   h
  · have h := h.2 c3
    refine g_aload_n (q := 14) 0 X dX12_hangs_13 rfl rfl rfl ?_
    refine g_iconst (q := 15) 1 X dX12_hangs_14 rfl rfl ic_1 ?_
    refine g_cv (q := 18) [aI 1] 12 X (ce_X12_refused hK  h) kV_X12_60 rfl (by decide) rfl (hK.n (by decide)) rfl rfl (Nat.le_of_ble_eq_true rfl) (by decide) dX12_hangs_15 rfl (fun r n_ iv_ rv_ hf => ?_)
    obtain ⟨en_, er_, r4, rfl, h⟩ := hf; subst n_; subst rv_
    generalize iv_ = iv5 at h ⊢
    exact g_iret (q := 0) X hR dX12_hangs_18 rfl ⟨rfl, rfl, _, rfl, h⟩
def bd_X12_moves_34 (iv : IV) (rv : RV) (K : Int → IV → Prop) : Prop :=
  wp_X12_refused 1 iv rv (fun r1 iv2 => K r1 iv2)
set_option maxRecDepth 10000 in
theorem cb_X12_moves_34 {Γ : GX} {n : Nat} {iv : IV} {rv : RV} {K : Int → IV → Prop} (X : Cx Γ RX12 cX12_moves 3 9) (hR : Rt Γ (some .int) 0 0 (fI1 n rv K)) (hK : Lk n rv)  (h : bd_X12_moves_34 iv rv K) : G Γ 3 34 [aR (some 66), aJ, aJ] [] n iv rv 0 0 := by
  unfold bd_X12_moves_34 at h
  refine g_aload_n (q := 35) 0 X dX12_moves_34 rfl rfl rfl ?_
  refine g_iconst (q := 36) 1 X dX12_moves_35 rfl rfl ic_1 ?_
  refine g_cv (q := 39) [aI 1] 12 X (ce_X12_refused hK  h) kV_X12_60 rfl (by decide) rfl (hK.n (by decide)) rfl rfl (Nat.le_of_ble_eq_true rfl) (by decide) dX12_moves_36 rfl (fun r n_ iv_ rv_ hf => ?_)
  obtain ⟨en_, er_, r1, rfl, h⟩ := hf; subst n_; subst rv_
  generalize iv_ = iv2 at h ⊢
  exact g_iret (q := 0) X hR dX12_moves_39 rfl ⟨rfl, rfl, _, rfl, h⟩
def wp_X12_moves (a1 : Int) (a2 : Int) (iv : IV) (rv : RV) (K : Int → IV → Prop) : Prop :=
  ∀ iv1, iv1 = w2 iv 66 0 0 → wp_X12_isGrant a1 iv1 rv (fun r2 => ((r2 = 0) → (bd_X12_moves_34 iv1 rv K)) ∧ ((¬ (r2 = 0)) → (wp_X12_isLaw a2 iv1 rv (fun r4 => ((r4 = 0) → (bd_X12_moves_34 iv1 rv K)) ∧ ((¬ (r4 = 0)) → (wp_X12_swing a1 a2 iv1 rv (fun r6 iv7 => wp_X12_done r6 iv7 rv (fun r8 iv9 => K r8 iv9))))))))
set_option maxRecDepth 10000 in
theorem ce_X12_moves {n : Nat} {iv : IV} {rv : RV} {K : Int → IV → Prop} {a1 : Int} {a2 : Int} (hK : Lk n rv)  (h : wp_X12_moves a1 a2 iv rv K) : Call 9 0 0 yX12_moves cX12_moves 3 (some .int) [aR (some 66), aI a1, aI a2] n iv rv (fI1 n rv K) := by
  refine Call.by (L := [aR (some 66), aI a1, aI a2]) (by decide) rfl ⟨trivial, trivial, trivial, trivial⟩ rfl (Nat.le_of_ble_eq_true rfl) (fun Γ X hR => ?_)
  unfold wp_X12_moves at h
  refine g_aload_n (q := 1) 0 X dX12_moves_0 rfl rfl rfl ?_
  refine g_iconst (q := 2) 0 X dX12_moves_1 rfl rfl ic_0 ?_
  refine g_putI (q := 5) 12 0 X (Or.inl rfl) rfl kf_X12_54 (by decide) (by decide) rfl (hK.n (by decide)) dX12_moves_2 rfl ?_
  refine g_nmM (fun iv1 eiv1 => ?_)
  have h := h iv1 eiv1
  refine g_aload_n (q := 6) 0 X dX12_moves_5 rfl rfl rfl ?_
  refine g_iload_n (q := 7) 1 X dX12_moves_6 rfl rfl rfl ?_
  refine g_cv (q := 10) [aI a1] 12 X (ce_X12_isGrant hK  h) kV_X12_532 rfl (by decide) rfl (hK.n (by decide)) rfl rfl (Nat.le_of_ble_eq_true rfl) (by decide) dX12_moves_7 rfl (fun r n_ iv_ rv_ hf => ?_)
  obtain ⟨en_, ei_, er_, r2, rfl, br2, h⟩ := hf; subst n_; subst iv_; subst rv_
  refine g_if_eq (q := 13) 34 X dX12_moves_10 (by decide) rfl (fun c3 => ?_) (fun c3 => ?_)
  · have h := h.1 c3
    refine g_sub (L' := [aR (some 66), aJ, aJ]) ⟨Or.inr rfl, Or.inl rfl, Or.inl rfl, trivial⟩ ?_
    exact cb_X12_moves_34 X hR hK   h
  · have h := h.2 c3
    refine g_aload_n (q := 14) 0 X dX12_moves_13 rfl rfl rfl ?_
    refine g_iload_n (q := 15) 2 X dX12_moves_14 rfl rfl rfl ?_
    refine g_cv (q := 18) [aI a2] 12 X (ce_X12_isLaw hK  h) kV_X12_511 rfl (by decide) rfl (hK.n (by decide)) rfl rfl (Nat.le_of_ble_eq_true rfl) (by decide) dX12_moves_15 rfl (fun r n_ iv_ rv_ hf => ?_)
    obtain ⟨en_, ei_, er_, r4, rfl, br4, h⟩ := hf; subst n_; subst iv_; subst rv_
    refine g_if_eq (q := 21) 34 X dX12_moves_18 (by decide) rfl (fun c5 => ?_) (fun c5 => ?_)
    · have h := h.1 c5
      refine g_sub (L' := [aR (some 66), aJ, aJ]) ⟨Or.inr rfl, Or.inl rfl, Or.inl rfl, trivial⟩ ?_
      exact cb_X12_moves_34 X hR hK   h
    · have h := h.2 c5
      refine g_aload_n (q := 22) 0 X dX12_moves_21 rfl rfl rfl ?_
      refine g_aload_n (q := 23) 0 X dX12_moves_22 rfl rfl rfl ?_
      refine g_iload_n (q := 24) 1 X dX12_moves_23 rfl rfl rfl ?_
      refine g_iload_n (q := 25) 2 X dX12_moves_24 rfl rfl rfl ?_
      refine g_cv (q := 28) [aI a1, aI a2] 12 X (ce_X12_swing hK  h) kV_X12_562 rfl (by decide) rfl (hK.n (by decide)) rfl rfl (Nat.le_of_ble_eq_true rfl) (by decide) dX12_moves_25 rfl (fun r n_ iv_ rv_ hf => ?_)
      obtain ⟨en_, er_, r6, rfl, h⟩ := hf; subst n_; subst rv_
      generalize iv_ = iv7 at h ⊢
      refine g_cv (q := 31) [aI r6] 12 X (ce_X12_done hK  h) kV_X12_65 rfl (by decide) rfl (hK.n (by decide)) rfl rfl (Nat.le_of_ble_eq_true rfl) (by decide) dX12_moves_28 rfl (fun r n_ iv_ rv_ hf => ?_)
      obtain ⟨en_, er_, r8, rfl, h⟩ := hf; subst n_; subst rv_
      generalize iv_ = iv9 at h ⊢
      refine g_goto (q := 39) X dX12_moves_31 (by decide) ?_
      exact g_iret (q := 0) X hR dX12_moves_39 rfl ⟨rfl, rfl, _, rfl, h⟩
def bd_X12_brings_37 (iv : IV) (rv : RV) (K : Int → IV → Prop) : Prop :=
  wp_X12_lost 1 iv rv (fun r1 iv2 => K r1 iv2)
set_option maxRecDepth 10000 in
theorem cb_X12_brings_37 {Γ : GX} {n : Nat} {iv : IV} {rv : RV} {K : Int → IV → Prop} (X : Cx Γ RX12 cX12_brings 6 8) (hR : Rt Γ (some .int) 0 0 (fI1 n rv K)) (hK : Lk n rv)  (h : bd_X12_brings_37 iv rv K) : G Γ 6 37 [aR (some 66), aJ, aJ, aJ, aJ, aJ] [] n iv rv 0 0 := by
  unfold bd_X12_brings_37 at h
  refine g_aload_n (q := 38) 0 X dX12_brings_37 rfl rfl rfl ?_
  refine g_iconst (q := 39) 1 X dX12_brings_38 rfl rfl ic_1 ?_
  refine g_cv (q := 42) [aI 1] 12 X (ce_X12_lost hK  h) kV_X12_557 rfl (by decide) rfl (hK.n (by decide)) rfl rfl (Nat.le_of_ble_eq_true rfl) (by decide) dX12_brings_39 rfl (fun r n_ iv_ rv_ hf => ?_)
  obtain ⟨en_, er_, r1, rfl, h⟩ := hf; subst n_; subst rv_
  generalize iv_ = iv2 at h ⊢
  exact g_iret (q := 0) X hR dX12_brings_42 rfl ⟨rfl, rfl, _, rfl, h⟩
def wp_X12_brings (a1 : Int) (a2 : Int) (a3 : Int) (a4 : Int) (iv : IV) (rv : RV) (K : Int → IV → Prop) : Prop :=
  ∀ iv1, iv1 = w2 iv 66 0 0 → wp_X12_isGrant a1 iv1 rv (fun r2 => ((r2 = 0) → (bd_X12_brings_37 iv1 rv K)) ∧ ((¬ (r2 = 0)) → (((12 ≤ a1) → (bd_X12_brings_37 iv1 rv K)) ∧ ((¬ (12 ≤ a1)) → (wp_X12_in a2 0 2 iv1 rv (fun r5 => ((r5 = 0) → (bd_X12_brings_37 iv1 rv K)) ∧ ((¬ (r5 = 0)) → (wp_X12_isLaw a4 iv1 rv (fun r7 => ((r7 ≠ 0) → (wp_X12_in a3 0 999 iv1 rv (fun r9 => ((r9 ≠ 0) → (wp_X12_lays a4 iv1 rv (fun iv11 => wp_X12_coins iv11 rv (fun r12 iv13 => ∀ iv14, iv14 = w2 iv13 66 17 a1 → ∀ iv15, iv15 = w2 iv14 66 18 a2 → ∀ iv16, iv16 = w2 iv15 66 19 a3 → wp_X12_coins iv16 rv (fun r17 iv18 => wp_X12_done (w32 (r17 - r12)) iv18 rv (fun r19 iv20 => K r19 iv20)))))) ∧ ((r9 = 0) → (wp_X12_lost 2 iv1 rv (fun r21 iv22 => K r21 iv22)))))) ∧ ((r7 = 0) → (bd_X12_brings_37 iv1 rv K)))))))))))
set_option maxRecDepth 10000 in
theorem ce_X12_brings {n : Nat} {iv : IV} {rv : RV} {K : Int → IV → Prop} {a1 : Int} {a2 : Int} {a3 : Int} {a4 : Int} (hK : Lk n rv)  (h : wp_X12_brings a1 a2 a3 a4 iv rv K) : Call 8 0 0 yX12_brings cX12_brings 6 (some .int) [aR (some 66), aI a1, aI a2, aI a3, aI a4] n iv rv (fI1 n rv K) := by
  refine Call.by (L := [aR (some 66), aI a1, aI a2, aI a3, aI a4, aJ]) (by decide) rfl ⟨trivial, trivial, trivial, trivial, trivial, trivial⟩ rfl (Nat.le_of_ble_eq_true rfl) (fun Γ X hR => ?_)
  unfold wp_X12_brings at h
  refine g_aload_n (q := 1) 0 X dX12_brings_0 rfl rfl rfl ?_
  refine g_iconst (q := 2) 0 X dX12_brings_1 rfl rfl ic_0 ?_
  refine g_putI (q := 5) 12 0 X (Or.inl rfl) rfl kf_X12_54 (by decide) (by decide) rfl (hK.n (by decide)) dX12_brings_2 rfl ?_
  refine g_nmM (fun iv1 eiv1 => ?_)
  have h := h iv1 eiv1
  refine g_aload_n (q := 6) 0 X dX12_brings_5 rfl rfl rfl ?_
  refine g_iload_n (q := 7) 1 X dX12_brings_6 rfl rfl rfl ?_
  refine g_cv (q := 10) [aI a1] 12 X (ce_X12_isGrant hK  h) kV_X12_532 rfl (by decide) rfl (hK.n (by decide)) rfl rfl (Nat.le_of_ble_eq_true rfl) (by decide) dX12_brings_7 rfl (fun r n_ iv_ rv_ hf => ?_)
  obtain ⟨en_, ei_, er_, r2, rfl, br2, h⟩ := hf; subst n_; subst iv_; subst rv_
  refine g_if_eq (q := 13) 37 X dX12_brings_10 (by decide) rfl (fun c3 => ?_) (fun c3 => ?_)
  · have h := h.1 c3
    refine g_sub (L' := [aR (some 66), aJ, aJ, aJ, aJ, aJ]) ⟨Or.inr rfl, Or.inl rfl, Or.inl rfl, Or.inl rfl, Or.inl rfl, Or.inl rfl, trivial⟩ ?_
    exact cb_X12_brings_37 X hR hK   h
  · have h := h.2 c3
    refine g_iload_n (q := 14) 1 X dX12_brings_13 rfl rfl rfl ?_
    refine g_bipush (q := 16) 12 X dX12_brings_14 rfl bc_12 ic_12 ?_
    refine g_icmp_ge (q := 19) 37 X dX12_brings_16 (by decide) rfl (fun c4 => ?_) (fun c4 => ?_)
    · have h := h.1 c4
      refine g_sub (L' := [aR (some 66), aJ, aJ, aJ, aJ, aJ]) ⟨Or.inr rfl, Or.inl rfl, Or.inl rfl, Or.inl rfl, Or.inl rfl, Or.inl rfl, trivial⟩ ?_
      exact cb_X12_brings_37 X hR hK   h
    · have h := h.2 c4
      refine g_iload_n (q := 20) 2 X dX12_brings_19 rfl rfl rfl ?_
      refine g_iconst (q := 21) 0 X dX12_brings_20 rfl rfl ic_0 ?_
      refine g_iconst (q := 22) 2 X dX12_brings_21 rfl rfl ic_2 ?_
      refine g_cs (q := 25) [aI a2, aI 0, aI 2] X (ce_X12_in hK  h) kS_X12_130 rfl rfl (Nat.le_of_ble_eq_true rfl) (by decide) dX12_brings_22 rfl (fun r n_ iv_ rv_ hf => ?_)
      obtain ⟨en_, ei_, er_, r5, rfl, br5, h⟩ := hf; subst n_; subst iv_; subst rv_
      refine g_if_eq (q := 28) 37 X dX12_brings_25 (by decide) rfl (fun c6 => ?_) (fun c6 => ?_)
      · have h := h.1 c6
        refine g_sub (L' := [aR (some 66), aJ, aJ, aJ, aJ, aJ]) ⟨Or.inr rfl, Or.inl rfl, Or.inl rfl, Or.inl rfl, Or.inl rfl, Or.inl rfl, trivial⟩ ?_
        exact cb_X12_brings_37 X hR hK   h
      · have h := h.2 c6
        refine g_aload_n (q := 29) 0 X dX12_brings_28 rfl rfl rfl ?_
        refine g_iload (q := 31) 4 X dX12_brings_29 rfl rfl ?_
        refine g_cv (q := 34) [aI a4] 12 X (ce_X12_isLaw hK  h) kV_X12_511 rfl (by decide) rfl (hK.n (by decide)) rfl rfl (Nat.le_of_ble_eq_true rfl) (by decide) dX12_brings_31 rfl (fun r n_ iv_ rv_ hf => ?_)
        obtain ⟨en_, ei_, er_, r7, rfl, br7, h⟩ := hf; subst n_; subst iv_; subst rv_
        refine g_if_ne (q := 37) 43 X dX12_brings_34 (by decide) rfl (fun c8 => ?_) (fun c8 => ?_)
        · have h := h.1 c8
          refine g_iload_n (q := 44) 3 X dX12_brings_43 rfl rfl rfl ?_
          refine g_iconst (q := 45) 0 X dX12_brings_44 rfl rfl ic_0 ?_
          refine g_sipush (q := 48) 999 X dX12_brings_45 rfl sc_999 ic_999 ?_
          refine g_cs (q := 51) [aI a3, aI 0, aI 999] X (ce_X12_in hK  h) kS_X12_130 rfl rfl (Nat.le_of_ble_eq_true rfl) (by decide) dX12_brings_48 rfl (fun r n_ iv_ rv_ hf => ?_)
          obtain ⟨en_, ei_, er_, r9, rfl, br9, h⟩ := hf; subst n_; subst iv_; subst rv_
          refine g_if_ne (q := 54) 60 X dX12_brings_51 (by decide) rfl (fun c10 => ?_) (fun c10 => ?_)
          · have h := h.1 c10
            refine g_aload_n (q := 61) 0 X dX12_brings_60 rfl rfl rfl ?_
            refine g_iload (q := 63) 4 X dX12_brings_61 rfl rfl ?_
            refine g_cv (q := 66) [aI a4] 12 X (ce_X12_lays hK  h) kV_X12_514 rfl (by decide) rfl (hK.n (by decide)) rfl rfl (Nat.le_of_ble_eq_true rfl) (by decide) dX12_brings_63 rfl (fun r n_ iv_ rv_ hf => ?_)
            obtain ⟨en_, er_, rfl, h⟩ := hf; subst n_; subst rv_
            generalize iv_ = iv11 at h ⊢
            refine g_aload_n (q := 67) 0 X dX12_brings_66 rfl rfl rfl ?_
            refine g_cv (q := 70) [] 12 X (ce_X12_coins hK  h) kV_X12_559 rfl (by decide) rfl (hK.n (by decide)) rfl rfl (Nat.le_of_ble_eq_true rfl) (by decide) dX12_brings_67 rfl (fun r n_ iv_ rv_ hf => ?_)
            obtain ⟨en_, er_, r12, rfl, h⟩ := hf; subst n_; subst rv_
            generalize iv_ = iv13 at h ⊢
            refine g_istore (q := 72) (k0 := 0) 5 (L' := [aR (some 66), aI a1, aI a2, aI a3, aI a4, aI r12]) X dX12_brings_70 rfl (by decide) rfl rfl ?_
            refine g_aload_n (q := 73) 0 X dX12_brings_72 rfl rfl rfl ?_
            refine g_iload_n (q := 74) 1 X dX12_brings_73 rfl rfl rfl ?_
            refine g_putI (q := 77) 12 17 X (Or.inl rfl) rfl kf_X12_454 (by decide) (by decide) rfl (hK.n (by decide)) dX12_brings_74 rfl ?_
            refine g_nmM (fun iv14 eiv14 => ?_)
            have h := h iv14 eiv14
            refine g_aload_n (q := 78) 0 X dX12_brings_77 rfl rfl rfl ?_
            refine g_iload_n (q := 79) 2 X dX12_brings_78 rfl rfl rfl ?_
            refine g_putI (q := 82) 12 18 X (Or.inl rfl) rfl kf_X12_466 (by decide) (by decide) rfl (hK.n (by decide)) dX12_brings_79 rfl ?_
            refine g_nmM (fun iv15 eiv15 => ?_)
            have h := h iv15 eiv15
            refine g_aload_n (q := 83) 0 X dX12_brings_82 rfl rfl rfl ?_
            refine g_iload_n (q := 84) 3 X dX12_brings_83 rfl rfl rfl ?_
            refine g_putI (q := 87) 12 19 X (Or.inl rfl) rfl kf_X12_463 (by decide) (by decide) rfl (hK.n (by decide)) dX12_brings_84 rfl ?_
            refine g_nmM (fun iv16 eiv16 => ?_)
            have h := h iv16 eiv16
            refine g_aload_n (q := 88) 0 X dX12_brings_87 rfl rfl rfl ?_
            refine g_aload_n (q := 89) 0 X dX12_brings_88 rfl rfl rfl ?_
            refine g_cv (q := 92) [] 12 X (ce_X12_coins hK  h) kV_X12_559 rfl (by decide) rfl (hK.n (by decide)) rfl rfl (Nat.le_of_ble_eq_true rfl) (by decide) dX12_brings_89 rfl (fun r n_ iv_ rv_ hf => ?_)
            obtain ⟨en_, er_, r17, rfl, h⟩ := hf; subst n_; subst rv_
            generalize iv_ = iv18 at h ⊢
            refine g_iload (q := 94) 5 X dX12_brings_92 rfl rfl ?_
            refine g_isub (q := 95) X dX12_brings_94 rfl ?_
            refine g_cv (q := 98) [aI (w32 (r17 - r12))] 12 X (ce_X12_done hK  h) kV_X12_65 rfl (by decide) rfl (hK.n (by decide)) rfl rfl (Nat.le_of_ble_eq_true rfl) (by decide) dX12_brings_95 rfl (fun r n_ iv_ rv_ hf => ?_)
            obtain ⟨en_, er_, r19, rfl, h⟩ := hf; subst n_; subst rv_
            generalize iv_ = iv20 at h ⊢
            exact g_iret (q := 0) X hR dX12_brings_98 rfl ⟨rfl, rfl, _, rfl, h⟩
          · have h := h.2 c10
            refine g_aload_n (q := 55) 0 X dX12_brings_54 rfl rfl rfl ?_
            refine g_iconst (q := 56) 2 X dX12_brings_55 rfl rfl ic_2 ?_
            refine g_cv (q := 59) [aI 2] 12 X (ce_X12_lost hK  h) kV_X12_557 rfl (by decide) rfl (hK.n (by decide)) rfl rfl (Nat.le_of_ble_eq_true rfl) (by decide) dX12_brings_56 rfl (fun r n_ iv_ rv_ hf => ?_)
            obtain ⟨en_, er_, r21, rfl, h⟩ := hf; subst n_; subst rv_
            generalize iv_ = iv22 at h ⊢
            exact g_iret (q := 0) X hR dX12_brings_59 rfl ⟨rfl, rfl, _, rfl, h⟩
        · have h := h.2 c8
          refine g_sub (L' := [aR (some 66), aJ, aJ, aJ, aJ, aJ]) ⟨Or.inr rfl, Or.inl rfl, Or.inl rfl, Or.inl rfl, Or.inl rfl, Or.inl rfl, trivial⟩ ?_
          exact cb_X12_brings_37 X hR hK   h
def bd_X12_part_21 (iv : IV) (rv : RV) (K : Int → IV → Prop) : Prop :=
  wp_X12_refused 1 iv rv (fun r1 iv2 => K r1 iv2)
set_option maxRecDepth 10000 in
theorem cb_X12_part_21 {Γ : GX} {n : Nat} {iv : IV} {rv : RV} {K : Int → IV → Prop} (X : Cx Γ RX12 cX12_part 6 5) (hR : Rt Γ (some .int) 0 0 (fI1 n rv K)) (hK : Lk n rv)  (h : bd_X12_part_21 iv rv K) : G Γ 6 21 [aR (some 66), aJ, aJ, aJ, aJ, aJ] [] n iv rv 0 0 := by
  unfold bd_X12_part_21 at h
  refine g_aload_n (q := 22) 0 X dX12_part_21 rfl rfl rfl ?_
  refine g_iconst (q := 23) 1 X dX12_part_22 rfl rfl ic_1 ?_
  refine g_cv (q := 26) [aI 1] 12 X (ce_X12_refused hK  h) kV_X12_60 rfl (by decide) rfl (hK.n (by decide)) rfl rfl (Nat.le_of_ble_eq_true rfl) (by decide) dX12_part_23 rfl (fun r n_ iv_ rv_ hf => ?_)
  obtain ⟨en_, er_, r1, rfl, h⟩ := hf; subst n_; subst rv_
  generalize iv_ = iv2 at h ⊢
  exact g_iret (q := 0) X hR dX12_part_26 rfl ⟨rfl, rfl, _, rfl, h⟩
def bd_X12_part_43 (P29 : Int → Int → Int → IV → Prop) (P43 : Int → Int → Int → Int → IV → Prop) (l1 l2 l3 l4 : Int) (iv : IV) (rv : RV) (K : Int → IV → Prop) : Prop :=
  (rv 66 3 = some 80) ∧ (((iv 80 4) ≤ l4) → (P29 l1 l2 (w32 (l3 + 1)) iv)) ∧ ((¬ ((iv 80 4) ≤ l4)) → (wp_X12_laysFor l3 l1 iv rv (fun iv2 => (0 ≤ l3 ∧ l3 < 6) ∧ wp_X12_owed l3 l4 (iv2 106 l3.toNat) iv2 rv (fun r4 iv5 => wp_X12_laysFor l3 l2 iv5 rv (fun iv6 => (0 ≤ l3 ∧ l3 < 6) ∧ wp_X12_owed l3 l4 (iv6 106 l3.toNat) iv6 rv (fun r8 iv9 => ((r8 = r4) → (P43 l1 l2 l3 (w32 (l4 + 1)) iv9)) ∧ ((¬ (r8 = r4)) → (wp_X12_done (w32 ((w32 (10 * l3)) + l4)) iv9 rv (fun r11 iv12 => K r11 iv12)))))))))
set_option maxRecDepth 10000 in
theorem cb_X12_part_43 {Γ : GX} {n : Nat} {iv : IV} {rv : RV} {K : Int → IV → Prop} {P29 : Int → Int → Int → IV → Prop} {P43 : Int → Int → Int → Int → IV → Prop} {l1 l2 l3 l4 : Int} (X : Cx Γ RX12 cX12_part 6 5) (hR : Rt Γ (some .int) 0 0 (fI1 n rv K)) (hK : Lk n rv)  (hP29 : ∀ (l1' l2' l3' : Int) (iv' : IV), P29 l1' l2' l3' iv' → G Γ 6 29 [aR (some 66), aI (l1'), aI (l2'), aI (l3'), aJ, aJ] [] n iv' rv 0 0) (hP43 : ∀ (l1' l2' l3' l4' : Int) (iv' : IV), P43 l1' l2' l3' l4' iv' → G Γ 6 43 [aR (some 66), aI (l1'), aI (l2'), aI (l3'), aI (l4'), aJ] [] n iv' rv 0 0) (h : bd_X12_part_43 P29 P43 l1 l2 l3 l4 iv rv K) : G Γ 6 43 [aR (some 66), aI l1, aI l2, aI l3, aI l4, aJ] [] n iv rv 0 0 := by
  unfold bd_X12_part_43 at h
  refine g_iload (q := 45) 4 X dX12_part_43 rfl rfl ?_
  refine g_aload_n (q := 46) 0 X dX12_part_45 rfl rfl rfl ?_
  obtain ⟨hm80, h⟩ := h
  refine g_getR (q := 49) (r := some 80) 12 3 X hm80 (lt2000 (c := 0) (by decide)) kf_X12_442 (by decide) (by decide) rfl rfl (hK.n (by decide)) dX12_part_46 rfl ?_
  refine g_getI (q := 52) 11 4 X kf_X12_297 (by decide) (by decide) rfl rfl (Nat.lt_of_lt_of_le (by decide) (hK.2.2.2.2.2.2.1 80 hm80 (Or.inl rfl))) dX12_part_49 rfl ?_
  refine g_icmp_ge (q := 55) 124 X dX12_part_52 (by decide) rfl (fun c1 => ?_) (fun c1 => ?_)
  · have h := h.1 c1
    refine g_iinc (q := 127) 3 (L' := [aR (some 66), aI l1, aI l2, aI (w32 (l3 + 1)), aI l4, aJ]) X dX12_part_124 rfl (by decide) rfl rfl rfl ?_
    refine g_goto (q := 29) X dX12_part_127 (by decide) ?_
    refine g_sub (L' := [aR (some 66), aI l1, aI l2, aI (w32 (l3 + 1)), aJ, aJ]) ⟨Or.inr rfl, Or.inr rfl, Or.inr rfl, Or.inr rfl, Or.inl rfl, Or.inl rfl, trivial⟩ ?_
    exact hP29 _ _ _ _ h
  · have h := h.2 c1
    refine g_aload_n (q := 56) 0 X dX12_part_55 rfl rfl rfl ?_
    refine g_iload_n (q := 57) 3 X dX12_part_56 rfl rfl rfl ?_
    refine g_iload_n (q := 58) 1 X dX12_part_57 rfl rfl rfl ?_
    refine g_cv (q := 61) [aI l3, aI l1] 12 X (ce_X12_laysFor hK  h) kV_X12_523 rfl (by decide) rfl (hK.n (by decide)) rfl rfl (Nat.le_of_ble_eq_true rfl) (by decide) dX12_part_58 rfl (fun r n_ iv_ rv_ hf => ?_)
    obtain ⟨en_, er_, rfl, h⟩ := hf; subst n_; subst rv_
    generalize iv_ = iv2 at h ⊢
    refine g_aload_n (q := 62) 0 X dX12_part_61 rfl rfl rfl ?_
    refine g_iload_n (q := 63) 3 X dX12_part_62 rfl rfl rfl ?_
    refine g_iload (q := 65) 4 X dX12_part_63 rfl rfl ?_
    refine g_aload_n (q := 66) 0 X dX12_part_65 rfl rfl rfl ?_
    refine g_getR (q := 69) (r := some 80) 12 3 X hm80 (lt2000 (c := 0) (by decide)) kf_X12_442 (by decide) (by decide) rfl rfl (hK.n (by decide)) dX12_part_66 rfl ?_
    refine g_getR (q := 72) (r := some 106) 11 39 X (lkM_39 hK (Or.inl rfl) (hK.2.2.2.2.2.2.1 80 hm80 (Or.inl rfl))) (lt2000 (c := 0) (by decide)) kf_X12_432 (by decide) (by decide) rfl rfl (Nat.lt_of_lt_of_le (by decide) (hK.2.2.2.2.2.2.1 80 hm80 (Or.inl rfl))) dX12_part_69 rfl ?_
    refine g_iload_n (q := 73) 3 X dX12_part_72 rfl rfl rfl ?_
    obtain ⟨s3, h⟩ := h
    refine g_iald (q := 74) X rfl (Nat.lt_of_lt_of_le (by decide) (hK.2.2.2.2.2.2.1 80 hm80 (Or.inl rfl))) s3 dX12_part_73 rfl ?_
    refine g_cv (q := 77) [aI l3, aI l4, aI (iv2 106 l3.toNat)] 12 X (ce_X12_owed hK  h) kV_X12_526 rfl (by decide) rfl (hK.n (by decide)) rfl rfl (Nat.le_of_ble_eq_true rfl) (by decide) dX12_part_74 rfl (fun r n_ iv_ rv_ hf => ?_)
    obtain ⟨en_, er_, r4, rfl, h⟩ := hf; subst n_; subst rv_
    generalize iv_ = iv5 at h ⊢
    refine g_istore (q := 79) (k0 := 0) 5 (L' := [aR (some 66), aI l1, aI l2, aI l3, aI l4, aI r4]) X dX12_part_77 rfl (by decide) rfl rfl ?_
    refine g_aload_n (q := 80) 0 X dX12_part_79 rfl rfl rfl ?_
    refine g_iload_n (q := 81) 3 X dX12_part_80 rfl rfl rfl ?_
    refine g_iload_n (q := 82) 2 X dX12_part_81 rfl rfl rfl ?_
    refine g_cv (q := 85) [aI l3, aI l2] 12 X (ce_X12_laysFor hK  h) kV_X12_523 rfl (by decide) rfl (hK.n (by decide)) rfl rfl (Nat.le_of_ble_eq_true rfl) (by decide) dX12_part_82 rfl (fun r n_ iv_ rv_ hf => ?_)
    obtain ⟨en_, er_, rfl, h⟩ := hf; subst n_; subst rv_
    generalize iv_ = iv6 at h ⊢
    refine g_aload_n (q := 86) 0 X dX12_part_85 rfl rfl rfl ?_
    refine g_iload_n (q := 87) 3 X dX12_part_86 rfl rfl rfl ?_
    refine g_iload (q := 89) 4 X dX12_part_87 rfl rfl ?_
    refine g_aload_n (q := 90) 0 X dX12_part_89 rfl rfl rfl ?_
    refine g_getR (q := 93) (r := some 80) 12 3 X hm80 (lt2000 (c := 0) (by decide)) kf_X12_442 (by decide) (by decide) rfl rfl (hK.n (by decide)) dX12_part_90 rfl ?_
    refine g_getR (q := 96) (r := some 106) 11 39 X (lkM_39 hK (Or.inl rfl) (hK.2.2.2.2.2.2.1 80 hm80 (Or.inl rfl))) (lt2000 (c := 0) (by decide)) kf_X12_432 (by decide) (by decide) rfl rfl (Nat.lt_of_lt_of_le (by decide) (hK.2.2.2.2.2.2.1 80 hm80 (Or.inl rfl))) dX12_part_93 rfl ?_
    refine g_iload_n (q := 97) 3 X dX12_part_96 rfl rfl rfl ?_
    obtain ⟨s7, h⟩ := h
    refine g_iald (q := 98) X rfl (Nat.lt_of_lt_of_le (by decide) (hK.2.2.2.2.2.2.1 80 hm80 (Or.inl rfl))) s7 dX12_part_97 rfl ?_
    refine g_cv (q := 101) [aI l3, aI l4, aI (iv6 106 l3.toNat)] 12 X (ce_X12_owed hK  h) kV_X12_526 rfl (by decide) rfl (hK.n (by decide)) rfl rfl (Nat.le_of_ble_eq_true rfl) (by decide) dX12_part_98 rfl (fun r n_ iv_ rv_ hf => ?_)
    obtain ⟨en_, er_, r8, rfl, h⟩ := hf; subst n_; subst rv_
    generalize iv_ = iv9 at h ⊢
    refine g_iload (q := 103) 5 X dX12_part_101 rfl rfl ?_
    refine g_icmp_eq (q := 106) 118 X dX12_part_103 (by decide) rfl (fun c10 => ?_) (fun c10 => ?_)
    · have h := h.1 c10
      refine g_iinc (q := 121) 4 (L' := [aR (some 66), aI l1, aI l2, aI l3, aI (w32 (l4 + 1)), aI r4]) X dX12_part_118 rfl (by decide) rfl rfl rfl ?_
      refine g_goto (q := 43) X dX12_part_121 (by decide) ?_
      refine g_sub (L' := [aR (some 66), aI l1, aI l2, aI l3, aI (w32 (l4 + 1)), aJ]) ⟨Or.inr rfl, Or.inr rfl, Or.inr rfl, Or.inr rfl, Or.inr rfl, Or.inl rfl, trivial⟩ ?_
      exact hP43 _ _ _ _ _ h
    · have h := h.2 c10
      refine g_aload_n (q := 107) 0 X dX12_part_106 rfl rfl rfl ?_
      refine g_bipush (q := 109) 10 X dX12_part_107 rfl bc_10 ic_10 ?_
      refine g_iload_n (q := 110) 3 X dX12_part_109 rfl rfl rfl ?_
      refine g_imul (q := 111) X dX12_part_110 rfl ?_
      refine g_iload (q := 113) 4 X dX12_part_111 rfl rfl ?_
      refine g_iadd (q := 114) X dX12_part_113 rfl ?_
      refine g_cv (q := 117) [aI (w32 ((w32 (10 * l3)) + l4))] 12 X (ce_X12_done hK  h) kV_X12_65 rfl (by decide) rfl (hK.n (by decide)) rfl rfl (Nat.le_of_ble_eq_true rfl) (by decide) dX12_part_114 rfl (fun r n_ iv_ rv_ hf => ?_)
      obtain ⟨en_, er_, r11, rfl, h⟩ := hf; subst n_; subst rv_
      generalize iv_ = iv12 at h ⊢
      exact g_iret (q := 0) X hR dX12_part_117 rfl ⟨rfl, rfl, _, rfl, h⟩
def wl_X12_part_43 (P29 : Int → Int → Int → IV → Prop) (l1 l2 l3 l4 : Int) (iv : IV) (rv : RV) (K : Int → IV → Prop) : Prop :=
  ∀ P : Int → Int → Int → Int → IV → Prop, (∀ (l1' l2' l3' l4' : Int) (iv' : IV), bd_X12_part_43 P29 P l1' l2' l3' l4' iv' rv K → P l1' l2' l3' l4' iv') → P l1 l2 l3 l4 iv
theorem cl_X12_part_43 {Γ : GX} {n : Nat} {iv : IV} {rv : RV} {K : Int → IV → Prop} {P29 : Int → Int → Int → IV → Prop} {l1 l2 l3 l4 : Int} (X : Cx Γ RX12 cX12_part 6 5) (hR : Rt Γ (some .int) 0 0 (fI1 n rv K)) (hK : Lk n rv)  (hP29 : ∀ (l1' l2' l3' : Int) (iv' : IV), P29 l1' l2' l3' iv' → G Γ 6 29 [aR (some 66), aI (l1'), aI (l2'), aI (l3'), aJ, aJ] [] n iv' rv 0 0) (h : wl_X12_part_43 P29 l1 l2 l3 l4 iv rv K) : G Γ 6 43 [aR (some 66), aI l1, aI l2, aI l3, aI l4, aJ] [] n iv rv 0 0 := by
  exact h (fun l1' l2' l3' l4' iv' =>  G Γ 6 43 [aR (some 66), aI (l1'), aI (l2'), aI (l3'), aI (l4'), aJ] [] n iv' rv 0 0) (fun l1' l2' l3' l4' iv' hb => cb_X12_part_43 X hR hK  hP29 (fun l1' l2' l3' l4' iv' hp => hp) hb)
def bd_X12_part_29 (P29 : Int → Int → Int → IV → Prop) (l1 l2 l3 : Int) (iv : IV) (rv : RV) (K : Int → IV → Prop) : Prop :=
  (rv 66 3 = some 80) ∧ (((iv 80 11) ≤ l3) → (wp_X12_done (-2) iv rv (fun r2 iv3 => K r2 iv3))) ∧ ((¬ ((iv 80 11) ≤ l3)) → (wl_X12_part_43 P29 l1 l2 l3 0 iv rv K))
set_option maxRecDepth 10000 in
theorem cb_X12_part_29 {Γ : GX} {n : Nat} {iv : IV} {rv : RV} {K : Int → IV → Prop} {P29 : Int → Int → Int → IV → Prop} {l1 l2 l3 : Int} (X : Cx Γ RX12 cX12_part 6 5) (hR : Rt Γ (some .int) 0 0 (fI1 n rv K)) (hK : Lk n rv)  (hP29 : ∀ (l1' l2' l3' : Int) (iv' : IV), P29 l1' l2' l3' iv' → G Γ 6 29 [aR (some 66), aI (l1'), aI (l2'), aI (l3'), aJ, aJ] [] n iv' rv 0 0) (h : bd_X12_part_29 P29 l1 l2 l3 iv rv K) : G Γ 6 29 [aR (some 66), aI l1, aI l2, aI l3, aJ, aJ] [] n iv rv 0 0 := by
  unfold bd_X12_part_29 at h
  refine g_iload_n (q := 30) 3 X dX12_part_29 rfl rfl rfl ?_
  refine g_aload_n (q := 31) 0 X dX12_part_30 rfl rfl rfl ?_
  obtain ⟨hm80, h⟩ := h
  refine g_getR (q := 34) (r := some 80) 12 3 X hm80 (lt2000 (c := 0) (by decide)) kf_X12_442 (by decide) (by decide) rfl rfl (hK.n (by decide)) dX12_part_31 rfl ?_
  refine g_getI (q := 37) 11 11 X kf_X12_405 (by decide) (by decide) rfl rfl (Nat.lt_of_lt_of_le (by decide) (hK.2.2.2.2.2.2.1 80 hm80 (Or.inl rfl))) dX12_part_34 rfl ?_
  refine g_icmp_ge (q := 40) 130 X dX12_part_37 (by decide) rfl (fun c1 => ?_) (fun c1 => ?_)
  · have h := h.1 c1
    refine g_aload_n (q := 131) 0 X dX12_part_130 rfl rfl rfl ?_
    refine g_bipush (q := 133) (-2) X dX12_part_131 rfl bc_m2 ic_m2 ?_
    refine g_cv (q := 136) [aI (-2)] 12 X (ce_X12_done hK  h) kV_X12_65 rfl (by decide) rfl (hK.n (by decide)) rfl rfl (Nat.le_of_ble_eq_true rfl) (by decide) dX12_part_133 rfl (fun r n_ iv_ rv_ hf => ?_)
    obtain ⟨en_, er_, r2, rfl, h⟩ := hf; subst n_; subst rv_
    generalize iv_ = iv3 at h ⊢
    exact g_iret (q := 0) X hR dX12_part_136 rfl ⟨rfl, rfl, _, rfl, h⟩
  · have h := h.2 c1
    refine g_iconst (q := 41) 0 X dX12_part_40 rfl rfl ic_0 ?_
    refine g_istore (q := 43) (k0 := 0) 4 (L' := [aR (some 66), aI l1, aI l2, aI l3, aI 0, aJ]) X dX12_part_41 rfl (by decide) rfl rfl ?_
    exact cl_X12_part_43 X hR hK  hP29 h
def wl_X12_part_29 (l1 l2 l3 : Int) (iv : IV) (rv : RV) (K : Int → IV → Prop) : Prop :=
  ∀ P : Int → Int → Int → IV → Prop, (∀ (l1' l2' l3' : Int) (iv' : IV), bd_X12_part_29  P l1' l2' l3' iv' rv K → P l1' l2' l3' iv') → P l1 l2 l3 iv
theorem cl_X12_part_29 {Γ : GX} {n : Nat} {iv : IV} {rv : RV} {K : Int → IV → Prop} {l1 l2 l3 : Int} (X : Cx Γ RX12 cX12_part 6 5) (hR : Rt Γ (some .int) 0 0 (fI1 n rv K)) (hK : Lk n rv)  (h : wl_X12_part_29 l1 l2 l3 iv rv K) : G Γ 6 29 [aR (some 66), aI l1, aI l2, aI l3, aJ, aJ] [] n iv rv 0 0 := by
  exact h (fun l1' l2' l3' iv' =>  G Γ 6 29 [aR (some 66), aI (l1'), aI (l2'), aI (l3'), aJ, aJ] [] n iv' rv 0 0) (fun l1' l2' l3' iv' hb => cb_X12_part_29 X hR hK   (fun l1' l2' l3' iv' hp => hp) hb)
def wp_X12_part (a1 : Int) (a2 : Int) (iv : IV) (rv : RV) (K : Int → IV → Prop) : Prop :=
  ∀ iv1, iv1 = w2 iv 66 0 0 → wp_X12_isLaw a1 iv1 rv (fun r2 => ((r2 = 0) → (bd_X12_part_21 iv1 rv K)) ∧ ((¬ (r2 = 0)) → (wp_X12_isLaw a2 iv1 rv (fun r4 => ((r4 ≠ 0) → (wl_X12_part_29 a1 a2 0 iv1 rv K)) ∧ ((r4 = 0) → (bd_X12_part_21 iv1 rv K))))))
set_option maxRecDepth 10000 in
theorem ce_X12_part {n : Nat} {iv : IV} {rv : RV} {K : Int → IV → Prop} {a1 : Int} {a2 : Int} (hK : Lk n rv)  (h : wp_X12_part a1 a2 iv rv K) : Call 5 0 0 yX12_part cX12_part 6 (some .int) [aR (some 66), aI a1, aI a2] n iv rv (fI1 n rv K) := by
  refine Call.by (L := [aR (some 66), aI a1, aI a2, aJ, aJ, aJ]) (by decide) rfl ⟨trivial, trivial, trivial, trivial⟩ rfl (Nat.le_of_ble_eq_true rfl) (fun Γ X hR => ?_)
  unfold wp_X12_part at h
  refine g_aload_n (q := 1) 0 X dX12_part_0 rfl rfl rfl ?_
  refine g_iconst (q := 2) 0 X dX12_part_1 rfl rfl ic_0 ?_
  refine g_putI (q := 5) 12 0 X (Or.inl rfl) rfl kf_X12_54 (by decide) (by decide) rfl (hK.n (by decide)) dX12_part_2 rfl ?_
  refine g_nmM (fun iv1 eiv1 => ?_)
  have h := h iv1 eiv1
  refine g_aload_n (q := 6) 0 X dX12_part_5 rfl rfl rfl ?_
  refine g_iload_n (q := 7) 1 X dX12_part_6 rfl rfl rfl ?_
  refine g_cv (q := 10) [aI a1] 12 X (ce_X12_isLaw hK  h) kV_X12_511 rfl (by decide) rfl (hK.n (by decide)) rfl rfl (Nat.le_of_ble_eq_true rfl) (by decide) dX12_part_7 rfl (fun r n_ iv_ rv_ hf => ?_)
  obtain ⟨en_, ei_, er_, r2, rfl, br2, h⟩ := hf; subst n_; subst iv_; subst rv_
  refine g_if_eq (q := 13) 21 X dX12_part_10 (by decide) rfl (fun c3 => ?_) (fun c3 => ?_)
  · have h := h.1 c3
    refine g_sub (L' := [aR (some 66), aJ, aJ, aJ, aJ, aJ]) ⟨Or.inr rfl, Or.inl rfl, Or.inl rfl, Or.inl rfl, Or.inl rfl, Or.inl rfl, trivial⟩ ?_
    exact cb_X12_part_21 X hR hK   h
  · have h := h.2 c3
    refine g_aload_n (q := 14) 0 X dX12_part_13 rfl rfl rfl ?_
    refine g_iload_n (q := 15) 2 X dX12_part_14 rfl rfl rfl ?_
    refine g_cv (q := 18) [aI a2] 12 X (ce_X12_isLaw hK  h) kV_X12_511 rfl (by decide) rfl (hK.n (by decide)) rfl rfl (Nat.le_of_ble_eq_true rfl) (by decide) dX12_part_15 rfl (fun r n_ iv_ rv_ hf => ?_)
    obtain ⟨en_, ei_, er_, r4, rfl, br4, h⟩ := hf; subst n_; subst iv_; subst rv_
    refine g_if_ne (q := 21) 27 X dX12_part_18 (by decide) rfl (fun c5 => ?_) (fun c5 => ?_)
    · have h := h.1 c5
      refine g_iconst (q := 28) 0 X dX12_part_27 rfl rfl ic_0 ?_
      refine g_istore_n (q := 29) 3 (L' := [aR (some 66), aI a1, aI a2, aI 0, aJ, aJ]) X dX12_part_28 rfl rfl (by decide) rfl rfl ?_
      exact cl_X12_part_29 X hR hK   h
    · have h := h.2 c5
      refine g_sub (L' := [aR (some 66), aJ, aJ, aJ, aJ, aJ]) ⟨Or.inr rfl, Or.inl rfl, Or.inl rfl, Or.inl rfl, Or.inl rfl, Or.inl rfl, trivial⟩ ?_
      exact cb_X12_part_21 X hR hK   h
def bd_X12_lose_54 (t0 t1 : Int) (iv : IV) (rv : RV) (K : Int → IV → Prop) : Prop :=
  (rv 66 3 = some 80) ∧ (0 ≤ t1 ∧ t1 < 16) ∧ ∀ iv2, iv2 = w2 iv 92 t1.toNat t0 → wp_X12_granted iv2 rv (fun r3 iv4 => K r3 iv4)
set_option maxRecDepth 10000 in
theorem cb_X12_lose_54 {Γ : GX} {n : Nat} {iv : IV} {rv : RV} {K : Int → IV → Prop} {t0 t1 : Int} (X : Cx Γ RX12 cX12_lose 3 2) (hR : Rt Γ (some .boolean) 0 0 (fB1 n rv K)) (hK : Lk n rv)  (h : bd_X12_lose_54 t0 t1 iv rv K) : G Γ 3 54 [aR (some 66), aJ, aJ] [aI t0, aI t1, aR (some 92)] n iv rv 0 0 := by
  unfold bd_X12_lose_54 at h
  obtain ⟨hm80, h⟩ := h
  obtain ⟨s1, h⟩ := h
  refine g_iast (q := 55) X rfl (Nat.lt_of_lt_of_le (by decide) (hK.2.2.2.2.2.2.1 80 hm80 (Or.inl rfl))) s1 dX12_lose_54 rfl ?_
  refine g_nmM (fun iv2 eiv2 => ?_)
  have h := h iv2 eiv2
  refine g_aload_n (q := 56) 0 X dX12_lose_55 rfl rfl rfl ?_
  refine g_cv (q := 59) [] 12 X (ce_X12_granted hK  h) kV_X12_568 rfl (by decide) rfl (hK.n (by decide)) rfl rfl (Nat.le_of_ble_eq_true rfl) (by decide) dX12_lose_56 rfl (fun r n_ iv_ rv_ hf => ?_)
  obtain ⟨en_, er_, r3, rfl, br3, h⟩ := hf; subst n_; subst rv_
  generalize iv_ = iv4 at h ⊢
  exact g_zret (q := 0) .boolean X hR (nar_B br3) dX12_lose_59 rfl ⟨rfl, rfl, _, rfl, br3, h⟩
def wp_X12_lose (a1 : Int) (a2 : Int) (iv : IV) (rv : RV) (K : Int → IV → Prop) : Prop :=
  ∀ iv1, iv1 = w2 iv 66 0 0 → wp_X12_isGrant a1 iv1 rv (fun r2 => ((r2 ≠ 0) → ((rv 66 3 = some 80) ∧ (0 ≤ a1 ∧ a1 < 16) ∧ (((iv1 92 a1.toNat) ≤ 0) → (((a2 = 0) → (bd_X12_lose_54 1 a1 iv1 rv K)) ∧ ((¬ (a2 = 0)) → (bd_X12_lose_54 2 a1 iv1 rv K)))) ∧ ((¬ ((iv1 92 a1.toNat) ≤ 0)) → (wp_X12_denied 5 iv1 rv (fun r7 iv8 => K r7 iv8))))) ∧ ((r2 = 0) → (wp_X12_denied 1 iv1 rv (fun r9 iv10 => K r9 iv10))))
set_option maxRecDepth 10000 in
theorem ce_X12_lose {n : Nat} {iv : IV} {rv : RV} {K : Int → IV → Prop} {a1 : Int} {a2 : Int} (hK : Lk n rv)  (h : wp_X12_lose a1 a2 iv rv K) : Call 2 0 0 yX12_lose cX12_lose 3 (some .boolean) [aR (some 66), aI a1, aI a2] n iv rv (fB1 n rv K) := by
  refine Call.by (L := [aR (some 66), aI a1, aI a2]) (by decide) rfl ⟨trivial, trivial, trivial, trivial⟩ rfl (Nat.le_of_ble_eq_true rfl) (fun Γ X hR => ?_)
  unfold wp_X12_lose at h
  refine g_aload_n (q := 1) 0 X dX12_lose_0 rfl rfl rfl ?_
  refine g_iconst (q := 2) 0 X dX12_lose_1 rfl rfl ic_0 ?_
  refine g_putI (q := 5) 12 0 X (Or.inl rfl) rfl kf_X12_54 (by decide) (by decide) rfl (hK.n (by decide)) dX12_lose_2 rfl ?_
  refine g_nmM (fun iv1 eiv1 => ?_)
  have h := h iv1 eiv1
  refine g_aload_n (q := 6) 0 X dX12_lose_5 rfl rfl rfl ?_
  refine g_iload_n (q := 7) 1 X dX12_lose_6 rfl rfl rfl ?_
  refine g_cv (q := 10) [aI a1] 12 X (ce_X12_isGrant hK  h) kV_X12_532 rfl (by decide) rfl (hK.n (by decide)) rfl rfl (Nat.le_of_ble_eq_true rfl) (by decide) dX12_lose_7 rfl (fun r n_ iv_ rv_ hf => ?_)
  obtain ⟨en_, ei_, er_, r2, rfl, br2, h⟩ := hf; subst n_; subst iv_; subst rv_
  refine g_if_ne (q := 13) 19 X dX12_lose_10 (by decide) rfl (fun c3 => ?_) (fun c3 => ?_)
  · have h := h.1 c3
    refine g_aload_n (q := 20) 0 X dX12_lose_19 rfl rfl rfl ?_
    obtain ⟨hm80, h⟩ := h
    refine g_getR (q := 23) (r := some 80) 12 3 X hm80 (lt2000 (c := 0) (by decide)) kf_X12_442 (by decide) (by decide) rfl rfl (hK.n (by decide)) dX12_lose_20 rfl ?_
    refine g_getR (q := 26) (r := some 92) 11 25 X (lkM_25 hK (Or.inl rfl) (hK.2.2.2.2.2.2.1 80 hm80 (Or.inl rfl))) (lt2000 (c := 0) (by decide)) kf_X12_371 (by decide) (by decide) rfl rfl (Nat.lt_of_lt_of_le (by decide) (hK.2.2.2.2.2.2.1 80 hm80 (Or.inl rfl))) dX12_lose_23 rfl ?_
    refine g_iload_n (q := 27) 1 X dX12_lose_26 rfl rfl rfl ?_
    obtain ⟨s4, h⟩ := h
    refine g_iald (q := 28) X rfl (Nat.lt_of_lt_of_le (by decide) (hK.2.2.2.2.2.2.1 80 hm80 (Or.inl rfl))) s4 dX12_lose_27 rfl ?_
    refine g_if_le (q := 31) 37 X dX12_lose_28 (by decide) rfl (fun c5 => ?_) (fun c5 => ?_)
    · have h := h.1 c5
      refine g_aload_n (q := 38) 0 X dX12_lose_37 rfl rfl rfl ?_
      refine g_getR (q := 41) (r := some 80) 12 3 X hm80 (lt2000 (c := 0) (by decide)) kf_X12_442 (by decide) (by decide) rfl rfl (hK.n (by decide)) dX12_lose_38 rfl ?_
      refine g_getR (q := 44) (r := some 92) 11 25 X (lkM_25 hK (Or.inl rfl) (hK.2.2.2.2.2.2.1 80 hm80 (Or.inl rfl))) (lt2000 (c := 0) (by decide)) kf_X12_371 (by decide) (by decide) rfl rfl (Nat.lt_of_lt_of_le (by decide) (hK.2.2.2.2.2.2.1 80 hm80 (Or.inl rfl))) dX12_lose_41 rfl ?_
      refine g_iload_n (q := 45) 1 X dX12_lose_44 rfl rfl rfl ?_
      refine g_iload_n (q := 46) 2 X dX12_lose_45 rfl rfl rfl ?_
      refine g_if_eq (q := 49) 53 X dX12_lose_46 (by decide) rfl (fun c6 => ?_) (fun c6 => ?_)
      · have h := h.1 c6
        refine g_iconst (q := 54) 1 X dX12_lose_53 rfl rfl ic_1 ?_
        refine g_sub (L' := [aR (some 66), aJ, aJ]) ⟨Or.inr rfl, Or.inl rfl, Or.inl rfl, trivial⟩ ?_
        exact cb_X12_lose_54 X hR hK   h
      · have h := h.2 c6
        refine g_iconst (q := 50) 2 X dX12_lose_49 rfl rfl ic_2 ?_
        refine g_goto (q := 54) X dX12_lose_50 (by decide) ?_
        refine g_sub (L' := [aR (some 66), aJ, aJ]) ⟨Or.inr rfl, Or.inl rfl, Or.inl rfl, trivial⟩ ?_
        exact cb_X12_lose_54 X hR hK   h
    · have h := h.2 c5
      refine g_aload_n (q := 32) 0 X dX12_lose_31 rfl rfl rfl ?_
      refine g_iconst (q := 33) 5 X dX12_lose_32 rfl rfl ic_5 ?_
      refine g_cv (q := 36) [aI 5] 12 X (ce_X12_denied hK  h) kV_X12_565 rfl (by decide) rfl (hK.n (by decide)) rfl rfl (Nat.le_of_ble_eq_true rfl) (by decide) dX12_lose_33 rfl (fun r n_ iv_ rv_ hf => ?_)
      obtain ⟨en_, er_, r7, rfl, br7, h⟩ := hf; subst n_; subst rv_
      generalize iv_ = iv8 at h ⊢
      exact g_zret (q := 0) .boolean X hR (nar_B br7) dX12_lose_36 rfl ⟨rfl, rfl, _, rfl, br7, h⟩
  · have h := h.2 c3
    refine g_aload_n (q := 14) 0 X dX12_lose_13 rfl rfl rfl ?_
    refine g_iconst (q := 15) 1 X dX12_lose_14 rfl rfl ic_1 ?_
    refine g_cv (q := 18) [aI 1] 12 X (ce_X12_denied hK  h) kV_X12_565 rfl (by decide) rfl (hK.n (by decide)) rfl rfl (Nat.le_of_ble_eq_true rfl) (by decide) dX12_lose_15 rfl (fun r n_ iv_ rv_ hf => ?_)
    obtain ⟨en_, er_, r9, rfl, br9, h⟩ := hf; subst n_; subst rv_
    generalize iv_ = iv10 at h ⊢
    exact g_zret (q := 0) .boolean X hR (nar_B br9) dX12_lose_18 rfl ⟨rfl, rfl, _, rfl, br9, h⟩
def wp_X12_find (a1 : Int) (iv : IV) (rv : RV) (K : Int → IV → Prop) : Prop :=
  ∀ iv1, iv1 = w2 iv 66 0 0 → wp_X12_isGrant a1 iv1 rv (fun r2 => ((r2 ≠ 0) → ((rv 66 3 = some 80) ∧ (0 ≤ a1 ∧ a1 < 16) ∧ (((iv1 92 a1.toNat) ≠ 0) → ((0 ≤ a1 ∧ a1 < 16) ∧ ∀ iv7, iv7 = w2 iv1 92 a1.toNat 0 → wp_X12_granted iv7 rv (fun r8 iv9 => K r8 iv9))) ∧ (((iv1 92 a1.toNat) = 0) → (wp_X12_denied 5 iv1 rv (fun r10 iv11 => K r10 iv11))))) ∧ ((r2 = 0) → (wp_X12_denied 1 iv1 rv (fun r12 iv13 => K r12 iv13))))
set_option maxRecDepth 10000 in
theorem ce_X12_find {n : Nat} {iv : IV} {rv : RV} {K : Int → IV → Prop} {a1 : Int} (hK : Lk n rv)  (h : wp_X12_find a1 iv rv K) : Call 2 0 0 yX12_find cX12_find 2 (some .boolean) [aR (some 66), aI a1] n iv rv (fB1 n rv K) := by
  refine Call.by (L := [aR (some 66), aI a1]) (by decide) rfl ⟨trivial, trivial, trivial⟩ rfl (Nat.le_of_ble_eq_true rfl) (fun Γ X hR => ?_)
  unfold wp_X12_find at h
  refine g_aload_n (q := 1) 0 X dX12_find_0 rfl rfl rfl ?_
  refine g_iconst (q := 2) 0 X dX12_find_1 rfl rfl ic_0 ?_
  refine g_putI (q := 5) 12 0 X (Or.inl rfl) rfl kf_X12_54 (by decide) (by decide) rfl (hK.n (by decide)) dX12_find_2 rfl ?_
  refine g_nmM (fun iv1 eiv1 => ?_)
  have h := h iv1 eiv1
  refine g_aload_n (q := 6) 0 X dX12_find_5 rfl rfl rfl ?_
  refine g_iload_n (q := 7) 1 X dX12_find_6 rfl rfl rfl ?_
  refine g_cv (q := 10) [aI a1] 12 X (ce_X12_isGrant hK  h) kV_X12_532 rfl (by decide) rfl (hK.n (by decide)) rfl rfl (Nat.le_of_ble_eq_true rfl) (by decide) dX12_find_7 rfl (fun r n_ iv_ rv_ hf => ?_)
  obtain ⟨en_, ei_, er_, r2, rfl, br2, h⟩ := hf; subst n_; subst iv_; subst rv_
  refine g_if_ne (q := 13) 19 X dX12_find_10 (by decide) rfl (fun c3 => ?_) (fun c3 => ?_)
  · have h := h.1 c3
    refine g_aload_n (q := 20) 0 X dX12_find_19 rfl rfl rfl ?_
    obtain ⟨hm80, h⟩ := h
    refine g_getR (q := 23) (r := some 80) 12 3 X hm80 (lt2000 (c := 0) (by decide)) kf_X12_442 (by decide) (by decide) rfl rfl (hK.n (by decide)) dX12_find_20 rfl ?_
    refine g_getR (q := 26) (r := some 92) 11 25 X (lkM_25 hK (Or.inl rfl) (hK.2.2.2.2.2.2.1 80 hm80 (Or.inl rfl))) (lt2000 (c := 0) (by decide)) kf_X12_371 (by decide) (by decide) rfl rfl (Nat.lt_of_lt_of_le (by decide) (hK.2.2.2.2.2.2.1 80 hm80 (Or.inl rfl))) dX12_find_23 rfl ?_
    refine g_iload_n (q := 27) 1 X dX12_find_26 rfl rfl rfl ?_
    obtain ⟨s4, h⟩ := h
    refine g_iald (q := 28) X rfl (Nat.lt_of_lt_of_le (by decide) (hK.2.2.2.2.2.2.1 80 hm80 (Or.inl rfl))) s4 dX12_find_27 rfl ?_
    refine g_if_ne (q := 31) 37 X dX12_find_28 (by decide) rfl (fun c5 => ?_) (fun c5 => ?_)
    · have h := h.1 c5
      refine g_aload_n (q := 38) 0 X dX12_find_37 rfl rfl rfl ?_
      refine g_getR (q := 41) (r := some 80) 12 3 X hm80 (lt2000 (c := 0) (by decide)) kf_X12_442 (by decide) (by decide) rfl rfl (hK.n (by decide)) dX12_find_38 rfl ?_
      refine g_getR (q := 44) (r := some 92) 11 25 X (lkM_25 hK (Or.inl rfl) (hK.2.2.2.2.2.2.1 80 hm80 (Or.inl rfl))) (lt2000 (c := 0) (by decide)) kf_X12_371 (by decide) (by decide) rfl rfl (Nat.lt_of_lt_of_le (by decide) (hK.2.2.2.2.2.2.1 80 hm80 (Or.inl rfl))) dX12_find_41 rfl ?_
      refine g_iload_n (q := 45) 1 X dX12_find_44 rfl rfl rfl ?_
      refine g_iconst (q := 46) 0 X dX12_find_45 rfl rfl ic_0 ?_
      obtain ⟨s6, h⟩ := h
      refine g_iast (q := 47) X rfl (Nat.lt_of_lt_of_le (by decide) (hK.2.2.2.2.2.2.1 80 hm80 (Or.inl rfl))) s6 dX12_find_46 rfl ?_
      refine g_nmM (fun iv7 eiv7 => ?_)
      have h := h iv7 eiv7
      refine g_aload_n (q := 48) 0 X dX12_find_47 rfl rfl rfl ?_
      refine g_cv (q := 51) [] 12 X (ce_X12_granted hK  h) kV_X12_568 rfl (by decide) rfl (hK.n (by decide)) rfl rfl (Nat.le_of_ble_eq_true rfl) (by decide) dX12_find_48 rfl (fun r n_ iv_ rv_ hf => ?_)
      obtain ⟨en_, er_, r8, rfl, br8, h⟩ := hf; subst n_; subst rv_
      generalize iv_ = iv9 at h ⊢
      exact g_zret (q := 0) .boolean X hR (nar_B br8) dX12_find_51 rfl ⟨rfl, rfl, _, rfl, br8, h⟩
    · have h := h.2 c5
      refine g_aload_n (q := 32) 0 X dX12_find_31 rfl rfl rfl ?_
      refine g_iconst (q := 33) 5 X dX12_find_32 rfl rfl ic_5 ?_
      refine g_cv (q := 36) [aI 5] 12 X (ce_X12_denied hK  h) kV_X12_565 rfl (by decide) rfl (hK.n (by decide)) rfl rfl (Nat.le_of_ble_eq_true rfl) (by decide) dX12_find_33 rfl (fun r n_ iv_ rv_ hf => ?_)
      obtain ⟨en_, er_, r10, rfl, br10, h⟩ := hf; subst n_; subst rv_
      generalize iv_ = iv11 at h ⊢
      exact g_zret (q := 0) .boolean X hR (nar_B br10) dX12_find_36 rfl ⟨rfl, rfl, _, rfl, br10, h⟩
  · have h := h.2 c3
    refine g_aload_n (q := 14) 0 X dX12_find_13 rfl rfl rfl ?_
    refine g_iconst (q := 15) 1 X dX12_find_14 rfl rfl ic_1 ?_
    refine g_cv (q := 18) [aI 1] 12 X (ce_X12_denied hK  h) kV_X12_565 rfl (by decide) rfl (hK.n (by decide)) rfl rfl (Nat.le_of_ble_eq_true rfl) (by decide) dX12_find_15 rfl (fun r n_ iv_ rv_ hf => ?_)
    obtain ⟨en_, er_, r12, rfl, br12, h⟩ := hf; subst n_; subst rv_
    generalize iv_ = iv13 at h ⊢
    exact g_zret (q := 0) .boolean X hR (nar_B br12) dX12_find_18 rfl ⟨rfl, rfl, _, rfl, br12, h⟩
