def wp_X12_date (a1 : Int) (a2 : Int) (iv : IV) (rv : RV) (K : Int → IV → Prop) : Prop :=
  ∀ iv1, iv1 = w2 iv 66 0 0 → wp_X12_isGrant a1 iv1 rv (fun r2 => ((r2 ≠ 0) → (wp_X12_in a2 0 999 iv1 rv (fun r4 => ((r4 ≠ 0) → ((rv 66 3 = some 80) ∧ (0 ≤ a1 ∧ a1 < 16) ∧ ∀ iv7, iv7 = w2 iv1 90 a1.toNat a2 → (0 ≤ a1 ∧ a1 < 16) ∧ ∀ iv9, iv9 = w2 iv7 91 a1.toNat a2 → wp_X12_granted iv9 rv (fun r10 iv11 => K r10 iv11))) ∧ ((r4 = 0) → (wp_X12_denied 2 iv1 rv (fun r12 iv13 => K r12 iv13)))))) ∧ ((r2 = 0) → (wp_X12_denied 1 iv1 rv (fun r14 iv15 => K r14 iv15))))
set_option maxRecDepth 10000 in
theorem ce_X12_date {n : Nat} {iv : IV} {rv : RV} {K : Int → IV → Prop} {a1 : Int} {a2 : Int} (hK : Lk n rv)  (h : wp_X12_date a1 a2 iv rv K) : Call 2 0 0 yX12_date cX12_date 3 (some .boolean) [aR (some 66), aI a1, aI a2] n iv rv (fB1 n rv K) := by
  refine Call.by (L := [aR (some 66), aI a1, aI a2]) (by decide) rfl ⟨trivial, trivial, trivial, trivial⟩ rfl (Nat.le_of_ble_eq_true rfl) (fun Γ X hR => ?_)
  unfold wp_X12_date at h
  refine g_aload_n (q := 1) 0 X dX12_date_0 rfl rfl rfl ?_
  refine g_iconst (q := 2) 0 X dX12_date_1 rfl rfl ic_0 ?_
  refine g_putI (q := 5) 12 0 X (Or.inl rfl) rfl kf_X12_54 (by decide) (by decide) rfl (hK.n (by decide)) dX12_date_2 rfl ?_
  refine g_nmM (fun iv1 eiv1 => ?_)
  have h := h iv1 eiv1
  refine g_aload_n (q := 6) 0 X dX12_date_5 rfl rfl rfl ?_
  refine g_iload_n (q := 7) 1 X dX12_date_6 rfl rfl rfl ?_
  refine g_cv (q := 10) [aI a1] 12 X (ce_X12_isGrant hK  h) kV_X12_532 rfl (by decide) rfl (hK.n (by decide)) rfl rfl (Nat.le_of_ble_eq_true rfl) (by decide) dX12_date_7 rfl (fun r n_ iv_ rv_ hf => ?_)
  obtain ⟨en_, ei_, er_, r2, rfl, br2, h⟩ := hf; subst n_; subst iv_; subst rv_
  refine g_if_ne (q := 13) 19 X dX12_date_10 (by decide) rfl (fun c3 => ?_) (fun c3 => ?_)
  · have h := h.1 c3
    refine g_iload_n (q := 20) 2 X dX12_date_19 rfl rfl rfl ?_
    refine g_iconst (q := 21) 0 X dX12_date_20 rfl rfl ic_0 ?_
    refine g_sipush (q := 24) 999 X dX12_date_21 rfl sc_999 ic_999 ?_
    refine g_cs (q := 27) [aI a2, aI 0, aI 999] X (ce_X12_in hK  h) kS_X12_130 rfl rfl (Nat.le_of_ble_eq_true rfl) (by decide) dX12_date_24 rfl (fun r n_ iv_ rv_ hf => ?_)
    obtain ⟨en_, ei_, er_, r4, rfl, br4, h⟩ := hf; subst n_; subst iv_; subst rv_
    refine g_if_ne (q := 30) 36 X dX12_date_27 (by decide) rfl (fun c5 => ?_) (fun c5 => ?_)
    · have h := h.1 c5
      refine g_aload_n (q := 37) 0 X dX12_date_36 rfl rfl rfl ?_
      obtain ⟨hm80, h⟩ := h
      refine g_getR (q := 40) (r := some 80) 12 3 X hm80 (lt2000 (c := 0) (by decide)) kf_X12_442 (by decide) (by decide) rfl rfl (hK.n (by decide)) dX12_date_37 rfl ?_
      refine g_getR (q := 43) (r := some 90) 11 23 X (lkM_23 hK (Or.inl rfl) (hK.2.2.2.2.2.2.1 80 hm80 (Or.inl rfl))) (lt2000 (c := 0) (by decide)) kf_X12_307 (by decide) (by decide) rfl rfl (Nat.lt_of_lt_of_le (by decide) (hK.2.2.2.2.2.2.1 80 hm80 (Or.inl rfl))) dX12_date_40 rfl ?_
      refine g_iload_n (q := 44) 1 X dX12_date_43 rfl rfl rfl ?_
      refine g_iload_n (q := 45) 2 X dX12_date_44 rfl rfl rfl ?_
      obtain ⟨s6, h⟩ := h
      refine g_iast (q := 46) X rfl (Nat.lt_of_lt_of_le (by decide) (hK.2.2.2.2.2.2.1 80 hm80 (Or.inl rfl))) s6 dX12_date_45 rfl ?_
      refine g_nmM (fun iv7 eiv7 => ?_)
      have h := h iv7 eiv7
      refine g_aload_n (q := 47) 0 X dX12_date_46 rfl rfl rfl ?_
      refine g_getR (q := 50) (r := some 80) 12 3 X hm80 (lt2000 (c := 0) (by decide)) kf_X12_442 (by decide) (by decide) rfl rfl (hK.n (by decide)) dX12_date_47 rfl ?_
      refine g_getR (q := 53) (r := some 91) 11 24 X (lkM_24 hK (Or.inl rfl) (hK.2.2.2.2.2.2.1 80 hm80 (Or.inl rfl))) (lt2000 (c := 0) (by decide)) kf_X12_310 (by decide) (by decide) rfl rfl (Nat.lt_of_lt_of_le (by decide) (hK.2.2.2.2.2.2.1 80 hm80 (Or.inl rfl))) dX12_date_50 rfl ?_
      refine g_iload_n (q := 54) 1 X dX12_date_53 rfl rfl rfl ?_
      refine g_iload_n (q := 55) 2 X dX12_date_54 rfl rfl rfl ?_
      obtain ⟨s8, h⟩ := h
      refine g_iast (q := 56) X rfl (Nat.lt_of_lt_of_le (by decide) (hK.2.2.2.2.2.2.1 80 hm80 (Or.inl rfl))) s8 dX12_date_55 rfl ?_
      refine g_nmM (fun iv9 eiv9 => ?_)
      have h := h iv9 eiv9
      refine g_aload_n (q := 57) 0 X dX12_date_56 rfl rfl rfl ?_
      refine g_cv (q := 60) [] 12 X (ce_X12_granted hK  h) kV_X12_568 rfl (by decide) rfl (hK.n (by decide)) rfl rfl (Nat.le_of_ble_eq_true rfl) (by decide) dX12_date_57 rfl (fun r n_ iv_ rv_ hf => ?_)
      obtain ⟨en_, er_, r10, rfl, br10, h⟩ := hf; subst n_; subst rv_
      generalize iv_ = iv11 at h ⊢
      exact g_zret (q := 0) .boolean X hR (nar_B br10) dX12_date_60 rfl ⟨rfl, rfl, _, rfl, br10, h⟩
    · have h := h.2 c5
      refine g_aload_n (q := 31) 0 X dX12_date_30 rfl rfl rfl ?_
      refine g_iconst (q := 32) 2 X dX12_date_31 rfl rfl ic_2 ?_
      refine g_cv (q := 35) [aI 2] 12 X (ce_X12_denied hK  h) kV_X12_565 rfl (by decide) rfl (hK.n (by decide)) rfl rfl (Nat.le_of_ble_eq_true rfl) (by decide) dX12_date_32 rfl (fun r n_ iv_ rv_ hf => ?_)
      obtain ⟨en_, er_, r12, rfl, br12, h⟩ := hf; subst n_; subst rv_
      generalize iv_ = iv13 at h ⊢
      exact g_zret (q := 0) .boolean X hR (nar_B br12) dX12_date_35 rfl ⟨rfl, rfl, _, rfl, br12, h⟩
  · have h := h.2 c3
    refine g_aload_n (q := 14) 0 X dX12_date_13 rfl rfl rfl ?_
    refine g_iconst (q := 15) 1 X dX12_date_14 rfl rfl ic_1 ?_
    refine g_cv (q := 18) [aI 1] 12 X (ce_X12_denied hK  h) kV_X12_565 rfl (by decide) rfl (hK.n (by decide)) rfl rfl (Nat.le_of_ble_eq_true rfl) (by decide) dX12_date_15 rfl (fun r n_ iv_ rv_ hf => ?_)
    obtain ⟨en_, er_, r14, rfl, br14, h⟩ := hf; subst n_; subst rv_
    generalize iv_ = iv15 at h ⊢
    exact g_zret (q := 0) .boolean X hR (nar_B br14) dX12_date_18 rfl ⟨rfl, rfl, _, rfl, br14, h⟩
def bd_X12_grant_160 (P128 : Int → Int → Int → IV → Prop) (l1 l4 t0 t1 : Int) (iv : IV) (rv : RV) (K : Int → IV → Prop) : Prop :=
  ∀ x1, x1 = w32 (t1 + t0) → P128 l1 x1 (w32 (l4 + 1)) iv
set_option maxRecDepth 10000 in
theorem cb_X12_grant_160 {Γ : GX} {n : Nat} {iv : IV} {rv : RV} {K : Int → IV → Prop} {P128 : Int → Int → Int → IV → Prop} {l1 l4 t0 t1 : Int} (X : Cx Γ RX12 cX12_grant 5 2) (hR : Rt Γ (some .int) 0 0 (fI1 n rv K)) (hK : Lk n rv)  (hP128 : ∀ (l1' l3' l4' : Int) (iv' : IV), P128 l1' l3' l4' iv' → G Γ 5 128 [aR (some 66), aI (l1'), aJ, aI (l3'), aI (l4')] [] n iv' rv 0 0) (h : bd_X12_grant_160 P128 l1 l4 t0 t1 iv rv K) : G Γ 5 160 [aR (some 66), aI l1, aJ, aJ, aI l4] [aI t0, aI t1] n iv rv 0 0 := by
  unfold bd_X12_grant_160 at h
  refine g_iadd (q := 161) X dX12_grant_160 rfl ?_
  refine g_nmI (fun x1 ex1 => ?_)
  have h := h x1 ex1
  refine g_istore_n (q := 162) 3 (L' := [aR (some 66), aI l1, aJ, aI x1, aI l4]) X dX12_grant_161 rfl rfl (by decide) rfl rfl ?_
  refine g_iinc (q := 165) 4 (L' := [aR (some 66), aI l1, aJ, aI x1, aI (w32 (l4 + 1))]) X dX12_grant_162 rfl (by decide) rfl rfl rfl ?_
  refine g_goto (q := 128) X dX12_grant_165 (by decide) ?_
  exact hP128 _ _ _ _ h
def bd_X12_grant_128 (P128 : Int → Int → Int → IV → Prop) (l1 l3 l4 : Int) (iv : IV) (rv : RV) (K : Int → IV → Prop) : Prop :=
  (rv 66 3 = some 80) ∧ (((iv 80 8) ≤ l4) → (K l3 iv)) ∧ ((¬ ((iv 80 8) ≤ l4)) → ((0 ≤ l4 ∧ l4 < 4) ∧ (((iv 93 l4.toNat) ≠ l1) → (bd_X12_grant_160 P128 l1 l4 0 l3 iv rv K)) ∧ (((iv 93 l4.toNat) = l1) → (bd_X12_grant_160 P128 l1 l4 1 l3 iv rv K))))
set_option maxRecDepth 10000 in
theorem cb_X12_grant_128 {Γ : GX} {n : Nat} {iv : IV} {rv : RV} {K : Int → IV → Prop} {P128 : Int → Int → Int → IV → Prop} {l1 l3 l4 : Int} (X : Cx Γ RX12 cX12_grant 5 2) (hR : Rt Γ (some .int) 0 0 (fI1 n rv K)) (hK : Lk n rv)  (hP128 : ∀ (l1' l3' l4' : Int) (iv' : IV), P128 l1' l3' l4' iv' → G Γ 5 128 [aR (some 66), aI (l1'), aJ, aI (l3'), aI (l4')] [] n iv' rv 0 0) (h : bd_X12_grant_128 P128 l1 l3 l4 iv rv K) : G Γ 5 128 [aR (some 66), aI l1, aJ, aI l3, aI l4] [] n iv rv 0 0 := by
  unfold bd_X12_grant_128 at h
  refine g_iload (q := 130) 4 X dX12_grant_128 rfl rfl ?_
  refine g_aload_n (q := 131) 0 X dX12_grant_130 rfl rfl rfl ?_
  obtain ⟨hm80, h⟩ := h
  refine g_getR (q := 134) (r := some 80) 12 3 X hm80 (lt2000 (c := 0) (by decide)) kf_X12_442 (by decide) (by decide) rfl rfl (hK.n (by decide)) dX12_grant_131 rfl ?_
  refine g_getI (q := 137) 11 8 X kf_X12_350 (by decide) (by decide) rfl rfl (Nat.lt_of_lt_of_le (by decide) (hK.2.2.2.2.2.2.1 80 hm80 (Or.inl rfl))) dX12_grant_134 rfl ?_
  refine g_icmp_ge (q := 140) 168 X dX12_grant_137 (by decide) rfl (fun c1 => ?_) (fun c1 => ?_)
  · have h := h.1 c1
    refine g_iload_n (q := 169) 3 X dX12_grant_168 rfl rfl rfl ?_
    exact g_iret (q := 0) X hR dX12_grant_169 rfl ⟨rfl, rfl, _, rfl, h⟩
  · have h := h.2 c1
    refine g_iload_n (q := 141) 3 X dX12_grant_140 rfl rfl rfl ?_
    refine g_aload_n (q := 142) 0 X dX12_grant_141 rfl rfl rfl ?_
    refine g_getR (q := 145) (r := some 80) 12 3 X hm80 (lt2000 (c := 0) (by decide)) kf_X12_442 (by decide) (by decide) rfl rfl (hK.n (by decide)) dX12_grant_142 rfl ?_
    refine g_getR (q := 148) (r := some 93) 11 26 X (lkM_26 hK (Or.inl rfl) (hK.2.2.2.2.2.2.1 80 hm80 (Or.inl rfl))) (lt2000 (c := 0) (by decide)) kf_X12_359 (by decide) (by decide) rfl rfl (Nat.lt_of_lt_of_le (by decide) (hK.2.2.2.2.2.2.1 80 hm80 (Or.inl rfl))) dX12_grant_145 rfl ?_
    refine g_iload (q := 150) 4 X dX12_grant_148 rfl rfl ?_
    obtain ⟨s2, h⟩ := h
    refine g_iald (q := 151) X rfl (Nat.lt_of_lt_of_le (by decide) (hK.2.2.2.2.2.2.1 80 hm80 (Or.inl rfl))) s2 dX12_grant_150 rfl ?_
    refine g_iload_n (q := 152) 1 X dX12_grant_151 rfl rfl rfl ?_
    refine g_icmp_ne (q := 155) 159 X dX12_grant_152 (by decide) rfl (fun c3 => ?_) (fun c3 => ?_)
    · have h := h.1 c3
      refine g_iconst (q := 160) 0 X dX12_grant_159 rfl rfl ic_0 ?_
      refine g_sub (L' := [aR (some 66), aI l1, aJ, aJ, aI l4]) ⟨Or.inr rfl, Or.inr rfl, Or.inl rfl, Or.inl rfl, Or.inr rfl, trivial⟩ ?_
      exact cb_X12_grant_160 X hR hK  hP128 h
    · have h := h.2 c3
      refine g_iconst (q := 156) 1 X dX12_grant_155 rfl rfl ic_1 ?_
      refine g_goto (q := 160) X dX12_grant_156 (by decide) ?_
      refine g_sub (L' := [aR (some 66), aI l1, aJ, aJ, aI l4]) ⟨Or.inr rfl, Or.inr rfl, Or.inl rfl, Or.inl rfl, Or.inr rfl, trivial⟩ ?_
      exact cb_X12_grant_160 X hR hK  hP128 h
def wl_X12_grant_128 (l1 l3 l4 : Int) (iv : IV) (rv : RV) (K : Int → IV → Prop) : Prop :=
  ∀ P : Int → Int → Int → IV → Prop, (∀ (l1' l3' l4' : Int) (iv' : IV), bd_X12_grant_128  P l1' l3' l4' iv' rv K → P l1' l3' l4' iv') → P l1 l3 l4 iv
theorem cl_X12_grant_128 {Γ : GX} {n : Nat} {iv : IV} {rv : RV} {K : Int → IV → Prop} {l1 l3 l4 : Int} (X : Cx Γ RX12 cX12_grant 5 2) (hR : Rt Γ (some .int) 0 0 (fI1 n rv K)) (hK : Lk n rv)  (h : wl_X12_grant_128 l1 l3 l4 iv rv K) : G Γ 5 128 [aR (some 66), aI l1, aJ, aI l3, aI l4] [] n iv rv 0 0 := by
  exact h (fun l1' l3' l4' iv' =>  G Γ 5 128 [aR (some 66), aI (l1'), aJ, aI (l3'), aI (l4')] [] n iv' rv 0 0) (fun l1' l3' l4' iv' hb => cb_X12_grant_128 X hR hK   (fun l1' l3' l4' iv' hp => hp) hb)
def wp_X12_grant (a1 : Int) (a2 : Int) (iv : IV) (rv : RV) (K : Int → IV → Prop) : Prop :=
  ∀ iv1, iv1 = w2 iv 66 0 0 → wp_X12_isGrant a1 iv1 rv (fun r2 => ((r2 = 0) → (K (-1) iv1)) ∧ ((¬ (r2 = 0)) → (wp_X12_in a2 0 6 iv1 rv (fun r4 => ((r4 ≠ 0) → (((3 ≤ a2) → (((6 ≤ a2) → (wl_X12_grant_128 a1 0 0 iv1 rv K)) ∧ ((¬ (6 ≤ a2)) → (((a2 ≠ 3) → (((a2 ≠ 4) → ((rv 66 3 = some 80) ∧ (0 ≤ a1 ∧ a1 < 16) ∧ K (iv1 89 a1.toNat) iv1)) ∧ ((a2 = 4) → ((rv 66 3 = some 80) ∧ (0 ≤ a1 ∧ a1 < 16) ∧ K (iv1 88 a1.toNat) iv1)))) ∧ ((a2 = 3) → ((rv 66 3 = some 80) ∧ (0 ≤ a1 ∧ a1 < 16) ∧ K (iv1 87 a1.toNat) iv1)))))) ∧ ((¬ (3 ≤ a2)) → (((a2 ≠ 0) → (((a2 ≠ 1) → ((rv 66 3 = some 80) ∧ (0 ≤ a1 ∧ a1 < 16) ∧ K (iv1 92 a1.toNat) iv1)) ∧ ((a2 = 1) → ((rv 66 3 = some 80) ∧ (0 ≤ a1 ∧ a1 < 16) ∧ K (iv1 91 a1.toNat) iv1)))) ∧ ((a2 = 0) → ((rv 66 3 = some 80) ∧ (0 ≤ a1 ∧ a1 < 16) ∧ K (iv1 90 a1.toNat) iv1)))))) ∧ ((r4 = 0) → (K (-1) iv1))))))
set_option maxRecDepth 10000 in
theorem ce_X12_grant {n : Nat} {iv : IV} {rv : RV} {K : Int → IV → Prop} {a1 : Int} {a2 : Int} (hK : Lk n rv)  (h : wp_X12_grant a1 a2 iv rv K) : Call 2 0 0 yX12_grant cX12_grant 5 (some .int) [aR (some 66), aI a1, aI a2] n iv rv (fI1 n rv K) := by
  refine Call.by (L := [aR (some 66), aI a1, aI a2, aJ, aJ]) (by decide) rfl ⟨trivial, trivial, trivial, trivial⟩ rfl (Nat.le_of_ble_eq_true rfl) (fun Γ X hR => ?_)
  unfold wp_X12_grant at h
  refine g_aload_n (q := 1) 0 X dX12_grant_0 rfl rfl rfl ?_
  refine g_iconst (q := 2) 0 X dX12_grant_1 rfl rfl ic_0 ?_
  refine g_putI (q := 5) 12 0 X (Or.inl rfl) rfl kf_X12_54 (by decide) (by decide) rfl (hK.n (by decide)) dX12_grant_2 rfl ?_
  refine g_nmM (fun iv1 eiv1 => ?_)
  have h := h iv1 eiv1
  refine g_aload_n (q := 6) 0 X dX12_grant_5 rfl rfl rfl ?_
  refine g_iload_n (q := 7) 1 X dX12_grant_6 rfl rfl rfl ?_
  refine g_cv (q := 10) [aI a1] 12 X (ce_X12_isGrant hK  h) kV_X12_532 rfl (by decide) rfl (hK.n (by decide)) rfl rfl (Nat.le_of_ble_eq_true rfl) (by decide) dX12_grant_7 rfl (fun r n_ iv_ rv_ hf => ?_)
  obtain ⟨en_, ei_, er_, r2, rfl, br2, h⟩ := hf; subst n_; subst iv_; subst rv_
  refine g_if_eq (q := 13) 23 X dX12_grant_10 (by decide) rfl (fun c3 => ?_) (fun c3 => ?_)
  · have h := h.1 c3
    refine g_iconst (q := 24) (-1) X dX12_grant_23 rfl rfl ic_m1 ?_
    exact g_iret (q := 0) X hR dX12_grant_24 rfl ⟨rfl, rfl, _, rfl, h⟩
  · have h := h.2 c3
    refine g_iload_n (q := 14) 2 X dX12_grant_13 rfl rfl rfl ?_
    refine g_iconst (q := 15) 0 X dX12_grant_14 rfl rfl ic_0 ?_
    refine g_bipush (q := 17) 6 X dX12_grant_15 rfl bc_6 ic_6 ?_
    refine g_cs (q := 20) [aI a2, aI 0, aI 6] X (ce_X12_in hK  h) kS_X12_130 rfl rfl (Nat.le_of_ble_eq_true rfl) (by decide) dX12_grant_17 rfl (fun r n_ iv_ rv_ hf => ?_)
    obtain ⟨en_, ei_, er_, r4, rfl, br4, h⟩ := hf; subst n_; subst iv_; subst rv_
    refine g_if_ne (q := 23) 25 X dX12_grant_20 (by decide) rfl (fun c5 => ?_) (fun c5 => ?_)
    · have h := h.1 c5
      refine g_iload_n (q := 26) 2 X dX12_grant_25 rfl rfl rfl ?_
      refine g_iconst (q := 27) 3 X dX12_grant_26 rfl rfl ic_3 ?_
      refine g_icmp_ge (q := 30) 73 X dX12_grant_27 (by decide) rfl (fun c6 => ?_) (fun c6 => ?_)
      · have h := h.1 c6
        refine g_iload_n (q := 74) 2 X dX12_grant_73 rfl rfl rfl ?_
        refine g_bipush (q := 76) 6 X dX12_grant_74 rfl bc_6 ic_6 ?_
        refine g_icmp_ge (q := 79) 123 X dX12_grant_76 (by decide) rfl (fun c7 => ?_) (fun c7 => ?_)
        · have h := h.1 c7
          refine g_iconst (q := 124) 0 X dX12_grant_123 rfl rfl ic_0 ?_
          refine g_istore_n (q := 125) 3 (L' := [aR (some 66), aI a1, aI a2, aI 0, aJ]) X dX12_grant_124 rfl rfl (by decide) rfl rfl ?_
          refine g_iconst (q := 126) 0 X dX12_grant_125 rfl rfl ic_0 ?_
          refine g_istore (q := 128) (k0 := 0) 4 (L' := [aR (some 66), aI a1, aI a2, aI 0, aI 0]) X dX12_grant_126 rfl (by decide) rfl rfl ?_
          refine g_sub (L' := [aR (some 66), aI a1, aJ, aI 0, aI 0]) ⟨Or.inr rfl, Or.inr rfl, Or.inl rfl, Or.inr rfl, Or.inr rfl, trivial⟩ ?_
          exact cl_X12_grant_128 X hR hK   h
        · have h := h.2 c7
          refine g_iload_n (q := 80) 2 X dX12_grant_79 rfl rfl rfl ?_
          refine g_iconst (q := 81) 3 X dX12_grant_80 rfl rfl ic_3 ?_
          refine g_icmp_ne (q := 84) 96 X dX12_grant_81 (by decide) rfl (fun c8 => ?_) (fun c8 => ?_)
          · have h := h.1 c8
            refine g_iload_n (q := 97) 2 X dX12_grant_96 rfl rfl rfl ?_
            refine g_iconst (q := 98) 4 X dX12_grant_97 rfl rfl ic_4 ?_
            refine g_icmp_ne (q := 101) 113 X dX12_grant_98 (by decide) rfl (fun c9 => ?_) (fun c9 => ?_)
            · have h := h.1 c9
              refine g_aload_n (q := 114) 0 X dX12_grant_113 rfl rfl rfl ?_
              obtain ⟨hm80, h⟩ := h
              refine g_getR (q := 117) (r := some 80) 12 3 X hm80 (lt2000 (c := 0) (by decide)) kf_X12_442 (by decide) (by decide) rfl rfl (hK.n (by decide)) dX12_grant_114 rfl ?_
              refine g_getR (q := 120) (r := some 89) 11 22 X (lkM_22 hK (Or.inl rfl) (hK.2.2.2.2.2.2.1 80 hm80 (Or.inl rfl))) (lt2000 (c := 0) (by decide)) kf_X12_331 (by decide) (by decide) rfl rfl (Nat.lt_of_lt_of_le (by decide) (hK.2.2.2.2.2.2.1 80 hm80 (Or.inl rfl))) dX12_grant_117 rfl ?_
              refine g_iload_n (q := 121) 1 X dX12_grant_120 rfl rfl rfl ?_
              obtain ⟨s10, h⟩ := h
              refine g_iald (q := 122) X rfl (Nat.lt_of_lt_of_le (by decide) (hK.2.2.2.2.2.2.1 80 hm80 (Or.inl rfl))) s10 dX12_grant_121 rfl ?_
              exact g_iret (q := 0) X hR dX12_grant_122 rfl ⟨rfl, rfl, _, rfl, h⟩
            · have h := h.2 c9
              refine g_aload_n (q := 102) 0 X dX12_grant_101 rfl rfl rfl ?_
              obtain ⟨hm80, h⟩ := h
              refine g_getR (q := 105) (r := some 80) 12 3 X hm80 (lt2000 (c := 0) (by decide)) kf_X12_442 (by decide) (by decide) rfl rfl (hK.n (by decide)) dX12_grant_102 rfl ?_
              refine g_getR (q := 108) (r := some 88) 11 21 X (lkM_21 hK (Or.inl rfl) (hK.2.2.2.2.2.2.1 80 hm80 (Or.inl rfl))) (lt2000 (c := 0) (by decide)) kf_X12_329 (by decide) (by decide) rfl rfl (Nat.lt_of_lt_of_le (by decide) (hK.2.2.2.2.2.2.1 80 hm80 (Or.inl rfl))) dX12_grant_105 rfl ?_
              refine g_iload_n (q := 109) 1 X dX12_grant_108 rfl rfl rfl ?_
              obtain ⟨s11, h⟩ := h
              refine g_iald (q := 110) X rfl (Nat.lt_of_lt_of_le (by decide) (hK.2.2.2.2.2.2.1 80 hm80 (Or.inl rfl))) s11 dX12_grant_109 rfl ?_
              refine g_goto (q := 122) X dX12_grant_110 (by decide) ?_
              exact g_iret (q := 0) X hR dX12_grant_122 rfl ⟨rfl, rfl, _, rfl, h⟩
          · have h := h.2 c8
            refine g_aload_n (q := 85) 0 X dX12_grant_84 rfl rfl rfl ?_
            obtain ⟨hm80, h⟩ := h
            refine g_getR (q := 88) (r := some 80) 12 3 X hm80 (lt2000 (c := 0) (by decide)) kf_X12_442 (by decide) (by decide) rfl rfl (hK.n (by decide)) dX12_grant_85 rfl ?_
            refine g_getR (q := 91) (r := some 87) 11 20 X (lkM_20 hK (Or.inl rfl) (hK.2.2.2.2.2.2.1 80 hm80 (Or.inl rfl))) (lt2000 (c := 0) (by decide)) kf_X12_327 (by decide) (by decide) rfl rfl (Nat.lt_of_lt_of_le (by decide) (hK.2.2.2.2.2.2.1 80 hm80 (Or.inl rfl))) dX12_grant_88 rfl ?_
            refine g_iload_n (q := 92) 1 X dX12_grant_91 rfl rfl rfl ?_
            obtain ⟨s12, h⟩ := h
            refine g_iald (q := 93) X rfl (Nat.lt_of_lt_of_le (by decide) (hK.2.2.2.2.2.2.1 80 hm80 (Or.inl rfl))) s12 dX12_grant_92 rfl ?_
            refine g_goto (q := 122) X dX12_grant_93 (by decide) ?_
            exact g_iret (q := 0) X hR dX12_grant_122 rfl ⟨rfl, rfl, _, rfl, h⟩
      · have h := h.2 c6
        refine g_iload_n (q := 31) 2 X dX12_grant_30 rfl rfl rfl ?_
        refine g_if_ne (q := 34) 46 X dX12_grant_31 (by decide) rfl (fun c13 => ?_) (fun c13 => ?_)
        · have h := h.1 c13
          refine g_iload_n (q := 47) 2 X dX12_grant_46 rfl rfl rfl ?_
          refine g_iconst (q := 48) 1 X dX12_grant_47 rfl rfl ic_1 ?_
          refine g_icmp_ne (q := 51) 63 X dX12_grant_48 (by decide) rfl (fun c14 => ?_) (fun c14 => ?_)
          · have h := h.1 c14
            refine g_aload_n (q := 64) 0 X dX12_grant_63 rfl rfl rfl ?_
            obtain ⟨hm80, h⟩ := h
            refine g_getR (q := 67) (r := some 80) 12 3 X hm80 (lt2000 (c := 0) (by decide)) kf_X12_442 (by decide) (by decide) rfl rfl (hK.n (by decide)) dX12_grant_64 rfl ?_
            refine g_getR (q := 70) (r := some 92) 11 25 X (lkM_25 hK (Or.inl rfl) (hK.2.2.2.2.2.2.1 80 hm80 (Or.inl rfl))) (lt2000 (c := 0) (by decide)) kf_X12_371 (by decide) (by decide) rfl rfl (Nat.lt_of_lt_of_le (by decide) (hK.2.2.2.2.2.2.1 80 hm80 (Or.inl rfl))) dX12_grant_67 rfl ?_
            refine g_iload_n (q := 71) 1 X dX12_grant_70 rfl rfl rfl ?_
            obtain ⟨s15, h⟩ := h
            refine g_iald (q := 72) X rfl (Nat.lt_of_lt_of_le (by decide) (hK.2.2.2.2.2.2.1 80 hm80 (Or.inl rfl))) s15 dX12_grant_71 rfl ?_
            exact g_iret (q := 0) X hR dX12_grant_72 rfl ⟨rfl, rfl, _, rfl, h⟩
          · have h := h.2 c14
            refine g_aload_n (q := 52) 0 X dX12_grant_51 rfl rfl rfl ?_
            obtain ⟨hm80, h⟩ := h
            refine g_getR (q := 55) (r := some 80) 12 3 X hm80 (lt2000 (c := 0) (by decide)) kf_X12_442 (by decide) (by decide) rfl rfl (hK.n (by decide)) dX12_grant_52 rfl ?_
            refine g_getR (q := 58) (r := some 91) 11 24 X (lkM_24 hK (Or.inl rfl) (hK.2.2.2.2.2.2.1 80 hm80 (Or.inl rfl))) (lt2000 (c := 0) (by decide)) kf_X12_310 (by decide) (by decide) rfl rfl (Nat.lt_of_lt_of_le (by decide) (hK.2.2.2.2.2.2.1 80 hm80 (Or.inl rfl))) dX12_grant_55 rfl ?_
            refine g_iload_n (q := 59) 1 X dX12_grant_58 rfl rfl rfl ?_
            obtain ⟨s16, h⟩ := h
            refine g_iald (q := 60) X rfl (Nat.lt_of_lt_of_le (by decide) (hK.2.2.2.2.2.2.1 80 hm80 (Or.inl rfl))) s16 dX12_grant_59 rfl ?_
            refine g_goto (q := 72) X dX12_grant_60 (by decide) ?_
            exact g_iret (q := 0) X hR dX12_grant_72 rfl ⟨rfl, rfl, _, rfl, h⟩
        · have h := h.2 c13
          refine g_aload_n (q := 35) 0 X dX12_grant_34 rfl rfl rfl ?_
          obtain ⟨hm80, h⟩ := h
          refine g_getR (q := 38) (r := some 80) 12 3 X hm80 (lt2000 (c := 0) (by decide)) kf_X12_442 (by decide) (by decide) rfl rfl (hK.n (by decide)) dX12_grant_35 rfl ?_
          refine g_getR (q := 41) (r := some 90) 11 23 X (lkM_23 hK (Or.inl rfl) (hK.2.2.2.2.2.2.1 80 hm80 (Or.inl rfl))) (lt2000 (c := 0) (by decide)) kf_X12_307 (by decide) (by decide) rfl rfl (Nat.lt_of_lt_of_le (by decide) (hK.2.2.2.2.2.2.1 80 hm80 (Or.inl rfl))) dX12_grant_38 rfl ?_
          refine g_iload_n (q := 42) 1 X dX12_grant_41 rfl rfl rfl ?_
          obtain ⟨s17, h⟩ := h
          refine g_iald (q := 43) X rfl (Nat.lt_of_lt_of_le (by decide) (hK.2.2.2.2.2.2.1 80 hm80 (Or.inl rfl))) s17 dX12_grant_42 rfl ?_
          refine g_goto (q := 72) X dX12_grant_43 (by decide) ?_
          exact g_iret (q := 0) X hR dX12_grant_72 rfl ⟨rfl, rfl, _, rfl, h⟩
    · have h := h.2 c5
      refine g_iconst (q := 24) (-1) X dX12_grant_23 rfl rfl ic_m1 ?_
      exact g_iret (q := 0) X hR dX12_grant_24 rfl ⟨rfl, rfl, _, rfl, h⟩
def wp_X12_cart (a1 : Int) (a2 : Int) (iv : IV) (rv : RV) (K : Int → IV → Prop) : Prop :=
  ∀ iv1, iv1 = w2 iv 66 0 0 → wp_X12_isCart a1 iv1 rv (fun r2 => ((r2 = 0) → (K (-1) iv1)) ∧ ((¬ (r2 = 0)) → (wp_X12_in a2 0 6 iv1 rv (fun r4 => ((r4 ≠ 0) → ((((a2 < 0 ∨ 5 < a2)) → ((rv 66 3 = some 80) ∧ (0 ≤ a1 ∧ a1 < 6) ∧ K (iv1 106 a1.toNat) iv1)) ∧ ((a2 = 0) → ((rv 66 3 = some 80) ∧ (0 ≤ a1 ∧ a1 < 6) ∧ K (iv1 100 a1.toNat) iv1)) ∧ ((a2 = 1) → ((rv 66 3 = some 80) ∧ (0 ≤ a1 ∧ a1 < 6) ∧ K (iv1 101 a1.toNat) iv1)) ∧ ((a2 = 2) → ((rv 66 3 = some 80) ∧ (0 ≤ a1 ∧ a1 < 6) ∧ K (iv1 102 a1.toNat) iv1)) ∧ ((a2 = 3) → ((rv 66 3 = some 80) ∧ (0 ≤ a1 ∧ a1 < 6) ∧ K (iv1 103 a1.toNat) iv1)) ∧ ((a2 = 4) → ((rv 66 3 = some 80) ∧ (0 ≤ a1 ∧ a1 < 6) ∧ K (iv1 104 a1.toNat) iv1)) ∧ ((a2 = 5) → ((rv 66 3 = some 80) ∧ (0 ≤ a1 ∧ a1 < 6) ∧ K (iv1 105 a1.toNat) iv1)))) ∧ ((r4 = 0) → (K (-1) iv1))))))
set_option maxRecDepth 10000 in
theorem ce_X12_cart {n : Nat} {iv : IV} {rv : RV} {K : Int → IV → Prop} {a1 : Int} {a2 : Int} (hK : Lk n rv)  (h : wp_X12_cart a1 a2 iv rv K) : Call 1 0 0 yX12_cart cX12_cart 3 (some .int) [aR (some 66), aI a1, aI a2] n iv rv (fI1 n rv K) := by
  refine Call.by (L := [aR (some 66), aI a1, aI a2]) (by decide) rfl ⟨trivial, trivial, trivial, trivial⟩ rfl (Nat.le_of_ble_eq_true rfl) (fun Γ X hR => ?_)
  unfold wp_X12_cart at h
  refine g_aload_n (q := 1) 0 X dX12_cart_0 rfl rfl rfl ?_
  refine g_iconst (q := 2) 0 X dX12_cart_1 rfl rfl ic_0 ?_
  refine g_putI (q := 5) 12 0 X (Or.inl rfl) rfl kf_X12_54 (by decide) (by decide) rfl (hK.n (by decide)) dX12_cart_2 rfl ?_
  refine g_nmM (fun iv1 eiv1 => ?_)
  have h := h iv1 eiv1
  refine g_aload_n (q := 6) 0 X dX12_cart_5 rfl rfl rfl ?_
  refine g_iload_n (q := 7) 1 X dX12_cart_6 rfl rfl rfl ?_
  refine g_cv (q := 10) [aI a1] 12 X (ce_X12_isCart hK  h) kV_X12_505 rfl (by decide) rfl (hK.n (by decide)) rfl rfl (Nat.le_of_ble_eq_true rfl) (by decide) dX12_cart_7 rfl (fun r n_ iv_ rv_ hf => ?_)
  obtain ⟨en_, ei_, er_, r2, rfl, br2, h⟩ := hf; subst n_; subst iv_; subst rv_
  refine g_if_eq (q := 13) 23 X dX12_cart_10 (by decide) rfl (fun c3 => ?_) (fun c3 => ?_)
  · have h := h.1 c3
    refine g_iconst (q := 24) (-1) X dX12_cart_23 rfl rfl ic_m1 ?_
    exact g_iret (q := 0) X hR dX12_cart_24 rfl ⟨rfl, rfl, _, rfl, h⟩
  · have h := h.2 c3
    refine g_iload_n (q := 14) 2 X dX12_cart_13 rfl rfl rfl ?_
    refine g_iconst (q := 15) 0 X dX12_cart_14 rfl rfl ic_0 ?_
    refine g_bipush (q := 17) 6 X dX12_cart_15 rfl bc_6 ic_6 ?_
    refine g_cs (q := 20) [aI a2, aI 0, aI 6] X (ce_X12_in hK  h) kS_X12_130 rfl rfl (Nat.le_of_ble_eq_true rfl) (by decide) dX12_cart_17 rfl (fun r n_ iv_ rv_ hf => ?_)
    obtain ⟨en_, ei_, er_, r4, rfl, br4, h⟩ := hf; subst n_; subst iv_; subst rv_
    refine g_if_ne (q := 23) 25 X dX12_cart_20 (by decide) rfl (fun c5 => ?_) (fun c5 => ?_)
    · have h := h.1 c5
      refine g_iload_n (q := 26) 2 X dX12_cart_25 rfl rfl rfl ?_
      have hsw : (a2 < 0 ∨ 5 < a2) ∨ a2 = 0 ∨ a2 = 1 ∨ a2 = 2 ∨ a2 = 3 ∨ a2 = 4 ∨ a2 = 5 := by omega
      rcases hsw with c6 | c6 | c6 | c6 | c6 | c6 | c6
      · have h := h.1 c6
        refine g_tswOut (q := 124) X dX12_cart_26 (by decide) c6 ?_
        refine g_aload_n (q := 125) 0 X dX12_cart_124 rfl rfl rfl ?_
        obtain ⟨hm80, h⟩ := h
        refine g_getR (q := 128) (r := some 80) 12 3 X hm80 (lt2000 (c := 0) (by decide)) kf_X12_442 (by decide) (by decide) rfl rfl (hK.n (by decide)) dX12_cart_125 rfl ?_
        refine g_getR (q := 131) (r := some 106) 11 39 X (lkM_39 hK (Or.inl rfl) (hK.2.2.2.2.2.2.1 80 hm80 (Or.inl rfl))) (lt2000 (c := 0) (by decide)) kf_X12_432 (by decide) (by decide) rfl rfl (Nat.lt_of_lt_of_le (by decide) (hK.2.2.2.2.2.2.1 80 hm80 (Or.inl rfl))) dX12_cart_128 rfl ?_
        refine g_iload_n (q := 132) 1 X dX12_cart_131 rfl rfl rfl ?_
        obtain ⟨s7, h⟩ := h
        refine g_iald (q := 133) X rfl (Nat.lt_of_lt_of_le (by decide) (hK.2.2.2.2.2.2.1 80 hm80 (Or.inl rfl))) s7 dX12_cart_132 rfl ?_
        exact g_iret (q := 0) X hR dX12_cart_133 rfl ⟨rfl, rfl, _, rfl, h⟩
      · have h := h.2.1 c6
        refine g_tswIn (q := 64) (off := 38) X dX12_cart_26 (by omega) (by omega) (by rw [c6]; rfl) (by decide) ?_
        refine g_aload_n (q := 65) 0 X dX12_cart_64 rfl rfl rfl ?_
        obtain ⟨hm80, h⟩ := h
        refine g_getR (q := 68) (r := some 80) 12 3 X hm80 (lt2000 (c := 0) (by decide)) kf_X12_442 (by decide) (by decide) rfl rfl (hK.n (by decide)) dX12_cart_65 rfl ?_
        refine g_getR (q := 71) (r := some 100) 11 33 X (lkM_33 hK (Or.inl rfl) (hK.2.2.2.2.2.2.1 80 hm80 (Or.inl rfl))) (lt2000 (c := 0) (by decide)) kf_X12_414 (by decide) (by decide) rfl rfl (Nat.lt_of_lt_of_le (by decide) (hK.2.2.2.2.2.2.1 80 hm80 (Or.inl rfl))) dX12_cart_68 rfl ?_
        refine g_iload_n (q := 72) 1 X dX12_cart_71 rfl rfl rfl ?_
        obtain ⟨s8, h⟩ := h
        refine g_iald (q := 73) X rfl (Nat.lt_of_lt_of_le (by decide) (hK.2.2.2.2.2.2.1 80 hm80 (Or.inl rfl))) s8 dX12_cart_72 rfl ?_
        exact g_iret (q := 0) X hR dX12_cart_73 rfl ⟨rfl, rfl, _, rfl, h⟩
      · have h := h.2.2.1 c6
        refine g_tswIn (q := 74) (off := 48) X dX12_cart_26 (by omega) (by omega) (by rw [c6]; rfl) (by decide) ?_
        refine g_aload_n (q := 75) 0 X dX12_cart_74 rfl rfl rfl ?_
        obtain ⟨hm80, h⟩ := h
        refine g_getR (q := 78) (r := some 80) 12 3 X hm80 (lt2000 (c := 0) (by decide)) kf_X12_442 (by decide) (by decide) rfl rfl (hK.n (by decide)) dX12_cart_75 rfl ?_
        refine g_getR (q := 81) (r := some 101) 11 34 X (lkM_34 hK (Or.inl rfl) (hK.2.2.2.2.2.2.1 80 hm80 (Or.inl rfl))) (lt2000 (c := 0) (by decide)) kf_X12_417 (by decide) (by decide) rfl rfl (Nat.lt_of_lt_of_le (by decide) (hK.2.2.2.2.2.2.1 80 hm80 (Or.inl rfl))) dX12_cart_78 rfl ?_
        refine g_iload_n (q := 82) 1 X dX12_cart_81 rfl rfl rfl ?_
        obtain ⟨s9, h⟩ := h
        refine g_iald (q := 83) X rfl (Nat.lt_of_lt_of_le (by decide) (hK.2.2.2.2.2.2.1 80 hm80 (Or.inl rfl))) s9 dX12_cart_82 rfl ?_
        exact g_iret (q := 0) X hR dX12_cart_83 rfl ⟨rfl, rfl, _, rfl, h⟩
      · have h := h.2.2.2.1 c6
        refine g_tswIn (q := 84) (off := 58) X dX12_cart_26 (by omega) (by omega) (by rw [c6]; rfl) (by decide) ?_
        refine g_aload_n (q := 85) 0 X dX12_cart_84 rfl rfl rfl ?_
        obtain ⟨hm80, h⟩ := h
        refine g_getR (q := 88) (r := some 80) 12 3 X hm80 (lt2000 (c := 0) (by decide)) kf_X12_442 (by decide) (by decide) rfl rfl (hK.n (by decide)) dX12_cart_85 rfl ?_
        refine g_getR (q := 91) (r := some 102) 11 35 X (lkM_35 hK (Or.inl rfl) (hK.2.2.2.2.2.2.1 80 hm80 (Or.inl rfl))) (lt2000 (c := 0) (by decide)) kf_X12_420 (by decide) (by decide) rfl rfl (Nat.lt_of_lt_of_le (by decide) (hK.2.2.2.2.2.2.1 80 hm80 (Or.inl rfl))) dX12_cart_88 rfl ?_
        refine g_iload_n (q := 92) 1 X dX12_cart_91 rfl rfl rfl ?_
        obtain ⟨s10, h⟩ := h
        refine g_iald (q := 93) X rfl (Nat.lt_of_lt_of_le (by decide) (hK.2.2.2.2.2.2.1 80 hm80 (Or.inl rfl))) s10 dX12_cart_92 rfl ?_
        exact g_iret (q := 0) X hR dX12_cart_93 rfl ⟨rfl, rfl, _, rfl, h⟩
      · have h := h.2.2.2.2.1 c6
        refine g_tswIn (q := 94) (off := 68) X dX12_cart_26 (by omega) (by omega) (by rw [c6]; rfl) (by decide) ?_
        refine g_aload_n (q := 95) 0 X dX12_cart_94 rfl rfl rfl ?_
        obtain ⟨hm80, h⟩ := h
        refine g_getR (q := 98) (r := some 80) 12 3 X hm80 (lt2000 (c := 0) (by decide)) kf_X12_442 (by decide) (by decide) rfl rfl (hK.n (by decide)) dX12_cart_95 rfl ?_
        refine g_getR (q := 101) (r := some 103) 11 36 X (lkM_36 hK (Or.inl rfl) (hK.2.2.2.2.2.2.1 80 hm80 (Or.inl rfl))) (lt2000 (c := 0) (by decide)) kf_X12_423 (by decide) (by decide) rfl rfl (Nat.lt_of_lt_of_le (by decide) (hK.2.2.2.2.2.2.1 80 hm80 (Or.inl rfl))) dX12_cart_98 rfl ?_
        refine g_iload_n (q := 102) 1 X dX12_cart_101 rfl rfl rfl ?_
        obtain ⟨s11, h⟩ := h
        refine g_iald (q := 103) X rfl (Nat.lt_of_lt_of_le (by decide) (hK.2.2.2.2.2.2.1 80 hm80 (Or.inl rfl))) s11 dX12_cart_102 rfl ?_
        exact g_iret (q := 0) X hR dX12_cart_103 rfl ⟨rfl, rfl, _, rfl, h⟩
      · have h := h.2.2.2.2.2.1 c6
        refine g_tswIn (q := 104) (off := 78) X dX12_cart_26 (by omega) (by omega) (by rw [c6]; rfl) (by decide) ?_
        refine g_aload_n (q := 105) 0 X dX12_cart_104 rfl rfl rfl ?_
        obtain ⟨hm80, h⟩ := h
        refine g_getR (q := 108) (r := some 80) 12 3 X hm80 (lt2000 (c := 0) (by decide)) kf_X12_442 (by decide) (by decide) rfl rfl (hK.n (by decide)) dX12_cart_105 rfl ?_
        refine g_getR (q := 111) (r := some 104) 11 37 X (lkM_37 hK (Or.inl rfl) (hK.2.2.2.2.2.2.1 80 hm80 (Or.inl rfl))) (lt2000 (c := 0) (by decide)) kf_X12_426 (by decide) (by decide) rfl rfl (Nat.lt_of_lt_of_le (by decide) (hK.2.2.2.2.2.2.1 80 hm80 (Or.inl rfl))) dX12_cart_108 rfl ?_
        refine g_iload_n (q := 112) 1 X dX12_cart_111 rfl rfl rfl ?_
        obtain ⟨s12, h⟩ := h
        refine g_iald (q := 113) X rfl (Nat.lt_of_lt_of_le (by decide) (hK.2.2.2.2.2.2.1 80 hm80 (Or.inl rfl))) s12 dX12_cart_112 rfl ?_
        exact g_iret (q := 0) X hR dX12_cart_113 rfl ⟨rfl, rfl, _, rfl, h⟩
      · have h := h.2.2.2.2.2.2 c6
        refine g_tswIn (q := 114) (off := 88) X dX12_cart_26 (by omega) (by omega) (by rw [c6]; rfl) (by decide) ?_
        refine g_aload_n (q := 115) 0 X dX12_cart_114 rfl rfl rfl ?_
        obtain ⟨hm80, h⟩ := h
        refine g_getR (q := 118) (r := some 80) 12 3 X hm80 (lt2000 (c := 0) (by decide)) kf_X12_442 (by decide) (by decide) rfl rfl (hK.n (by decide)) dX12_cart_115 rfl ?_
        refine g_getR (q := 121) (r := some 105) 11 38 X (lkM_38 hK (Or.inl rfl) (hK.2.2.2.2.2.2.1 80 hm80 (Or.inl rfl))) (lt2000 (c := 0) (by decide)) kf_X12_429 (by decide) (by decide) rfl rfl (Nat.lt_of_lt_of_le (by decide) (hK.2.2.2.2.2.2.1 80 hm80 (Or.inl rfl))) dX12_cart_118 rfl ?_
        refine g_iload_n (q := 122) 1 X dX12_cart_121 rfl rfl rfl ?_
        obtain ⟨s13, h⟩ := h
        refine g_iald (q := 123) X rfl (Nat.lt_of_lt_of_le (by decide) (hK.2.2.2.2.2.2.1 80 hm80 (Or.inl rfl))) s13 dX12_cart_122 rfl ?_
        exact g_iret (q := 0) X hR dX12_cart_123 rfl ⟨rfl, rfl, _, rfl, h⟩
    · have h := h.2 c5
      refine g_iconst (q := 24) (-1) X dX12_cart_23 rfl rfl ic_m1 ?_
      exact g_iret (q := 0) X hR dX12_cart_24 rfl ⟨rfl, rfl, _, rfl, h⟩
def bd_X12_led_18 (l1 t0 : Int) (iv : IV) (rv : RV) (K : Int → IV → Prop) : Prop :=
  ∀ iv1, iv1 = w2 iv 66 0 t0 → (((iv1 66 0) ≤ 0) → ((0 ≤ l1 ∧ l1 < 8) ∧ K (iv1 74 l1.toNat) iv1)) ∧ ((¬ ((iv1 66 0) ≤ 0)) → (K 0 iv1))
set_option maxRecDepth 10000 in
theorem cb_X12_led_18 {Γ : GX} {n : Nat} {iv : IV} {rv : RV} {K : Int → IV → Prop} {l1 t0 : Int} (X : Cx Γ RX12 cX12_led 2 0) (hR : Rt Γ (some .int) 0 0 (fI1 n rv K)) (hK : Lk n rv)  (h : bd_X12_led_18 l1 t0 iv rv K) : G Γ 2 18 [aR (some 66), aI l1] [aI t0, aR (some 66)] n iv rv 0 0 := by
  unfold bd_X12_led_18 at h
  refine g_putI (q := 21) 12 0 X (Or.inl rfl) rfl kf_X12_54 (by decide) (by decide) rfl (hK.n (by decide)) dX12_led_18 rfl ?_
  refine g_nmM (fun iv1 eiv1 => ?_)
  have h := h iv1 eiv1
  refine g_aload_n (q := 22) 0 X dX12_led_21 rfl rfl rfl ?_
  refine g_getI (q := 25) 12 0 X kf_X12_54 (by decide) (by decide) rfl rfl (hK.n (by decide)) dX12_led_22 rfl ?_
  refine g_if_le (q := 28) 32 X dX12_led_25 (by decide) rfl (fun c2 => ?_) (fun c2 => ?_)
  · have h := h.1 c2
    refine g_aload_n (q := 33) 0 X dX12_led_32 rfl rfl rfl ?_
    refine g_getR (q := 36) (r := some 74) 12 31 X (lk_66_31 hK) (lt2000 (c := 0) (by decide)) kf_X12_39 (by decide) (by decide) rfl rfl (hK.n (by decide)) dX12_led_33 rfl ?_
    refine g_iload_n (q := 37) 1 X dX12_led_36 rfl rfl rfl ?_
    obtain ⟨s3, h⟩ := h
    refine g_iald (q := 38) X rfl (hK.n (by decide)) s3 dX12_led_37 rfl ?_
    exact g_iret (q := 0) X hR dX12_led_38 rfl ⟨rfl, rfl, _, rfl, h⟩
  · have h := h.2 c2
    refine g_iconst (q := 29) 0 X dX12_led_28 rfl rfl ic_0 ?_
    refine g_goto (q := 38) X dX12_led_29 (by decide) ?_
    exact g_iret (q := 0) X hR dX12_led_38 rfl ⟨rfl, rfl, _, rfl, h⟩
def bd_X12_led_13 (l1 : Int) (iv : IV) (rv : RV) (K : Int → IV → Prop) : Prop :=
  bd_X12_led_18 l1 1 iv rv K
set_option maxRecDepth 10000 in
theorem cb_X12_led_13 {Γ : GX} {n : Nat} {iv : IV} {rv : RV} {K : Int → IV → Prop} {l1 : Int} (X : Cx Γ RX12 cX12_led 2 0) (hR : Rt Γ (some .int) 0 0 (fI1 n rv K)) (hK : Lk n rv)  (h : bd_X12_led_13 l1 iv rv K) : G Γ 2 13 [aR (some 66), aI l1] [aR (some 66)] n iv rv 0 0 := by
  unfold bd_X12_led_13 at h
  refine g_iconst (q := 14) 1 X dX12_led_13 rfl rfl ic_1 ?_
  refine g_goto (q := 18) X dX12_led_14 (by decide) ?_
  exact cb_X12_led_18 X hR hK   h
def wp_X12_led (a1 : Int) (iv : IV) (rv : RV) (K : Int → IV → Prop) : Prop :=
  ((a1 < 0) → (bd_X12_led_13 a1 iv rv K)) ∧ ((¬ (a1 < 0)) → (((a1 < (iv 66 29)) → (bd_X12_led_18 a1 0 iv rv K)) ∧ ((¬ (a1 < (iv 66 29))) → (bd_X12_led_13 a1 iv rv K))))
set_option maxRecDepth 10000 in
theorem ce_X12_led {n : Nat} {iv : IV} {rv : RV} {K : Int → IV → Prop} {a1 : Int} (hK : Lk n rv)  (h : wp_X12_led a1 iv rv K) : Call 0 0 0 yX12_led cX12_led 2 (some .int) [aR (some 66), aI a1] n iv rv (fI1 n rv K) := by
  refine Call.by (L := [aR (some 66), aI a1]) (by decide) rfl ⟨trivial, trivial, trivial⟩ rfl (Nat.le_of_ble_eq_true rfl) (fun Γ X hR => ?_)
  unfold wp_X12_led at h
  refine g_aload_n (q := 1) 0 X dX12_led_0 rfl rfl rfl ?_
  refine g_iload_n (q := 2) 1 X dX12_led_1 rfl rfl rfl ?_
  refine g_if_lt (q := 5) 13 X dX12_led_2 (by decide) rfl (fun c1 => ?_) (fun c1 => ?_)
  · have h := h.1 c1
    exact cb_X12_led_13 X hR hK   h
  · have h := h.2 c1
    refine g_iload_n (q := 6) 1 X dX12_led_5 rfl rfl rfl ?_
    refine g_aload_n (q := 7) 0 X dX12_led_6 rfl rfl rfl ?_
    refine g_getI (q := 10) 12 29 X kf_X12_448 (by decide) (by decide) rfl rfl (hK.n (by decide)) dX12_led_7 rfl ?_
    refine g_icmp_lt (q := 13) 17 X dX12_led_10 (by decide) rfl (fun c2 => ?_) (fun c2 => ?_)
    · have h := h.1 c2
      refine g_iconst (q := 18) 0 X dX12_led_17 rfl rfl ic_0 ?_
      exact cb_X12_led_18 X hR hK   h
    · have h := h.2 c2
      exact cb_X12_led_13 X hR hK   h
def wp_X12_size (a1 : Int) (iv : IV) (rv : RV) (K : Int → IV → Prop) : Prop :=
  ∀ iv1, iv1 = w2 iv 66 0 0 → ((a1 ≠ 11) → (wp_X12_in a1 0 10 iv1 rv (fun r3 => ((r3 ≠ 0) → ((∀ z, rv 66 3 = some z → z = 80) ∧ ((¬ (rv 66 3 = none)) → ((((a1 < 0 ∨ 9 < a1)) → ((rv 66 3 = some 80) ∧ K (iv1 80 11) iv1)) ∧ ((a1 = 0) → ((rv 66 3 = some 80) ∧ K (iv1 80 0) iv1)) ∧ ((a1 = 1) → ((rv 66 3 = some 80) ∧ K (iv1 80 1) iv1)) ∧ ((a1 = 2) → ((rv 66 3 = some 80) ∧ K (iv1 80 2) iv1)) ∧ ((a1 = 3) → ((rv 66 3 = some 80) ∧ K (iv1 80 3) iv1)) ∧ ((a1 = 4) → ((rv 66 3 = some 80) ∧ K (iv1 80 4) iv1)) ∧ ((a1 = 5) → ((rv 66 3 = some 80) ∧ K (iv1 80 5) iv1)) ∧ ((a1 = 6) → ((rv 66 3 = some 80) ∧ K (iv1 80 6) iv1)) ∧ ((a1 = 7) → ((rv 66 3 = some 80) ∧ K (iv1 80 7) iv1)) ∧ ((a1 = 8) → ((rv 66 3 = some 80) ∧ K (iv1 80 8) iv1)) ∧ ((a1 = 9) → ((rv 66 3 = some 80) ∧ K (iv1 80 10) iv1)))) ∧ ((rv 66 3 = none) → (K 0 iv1)))) ∧ ((r3 = 0) → (K (-1) iv1))))) ∧ ((a1 = 11) → (K (iv1 66 6) iv1))
set_option maxRecDepth 10000 in
theorem ce_X12_size {n : Nat} {iv : IV} {rv : RV} {K : Int → IV → Prop} {a1 : Int} (hK : Lk n rv)  (h : wp_X12_size a1 iv rv K) : Call 1 0 0 yX12_size cX12_size 2 (some .int) [aR (some 66), aI a1] n iv rv (fI1 n rv K) := by
  refine Call.by (L := [aR (some 66), aI a1]) (by decide) rfl ⟨trivial, trivial, trivial⟩ rfl (Nat.le_of_ble_eq_true rfl) (fun Γ X hR => ?_)
  unfold wp_X12_size at h
  refine g_aload_n (q := 1) 0 X dX12_size_0 rfl rfl rfl ?_
  refine g_iconst (q := 2) 0 X dX12_size_1 rfl rfl ic_0 ?_
  refine g_putI (q := 5) 12 0 X (Or.inl rfl) rfl kf_X12_54 (by decide) (by decide) rfl (hK.n (by decide)) dX12_size_2 rfl ?_
  refine g_nmM (fun iv1 eiv1 => ?_)
  have h := h iv1 eiv1
  refine g_iload_n (q := 6) 1 X dX12_size_5 rfl rfl rfl ?_
  refine g_bipush (q := 8) 11 X dX12_size_6 rfl bc_11 ic_11 ?_
  refine g_icmp_ne (q := 11) 16 X dX12_size_8 (by decide) rfl (fun c2 => ?_) (fun c2 => ?_)
  · have h := h.1 c2
    refine g_iload_n (q := 17) 1 X dX12_size_16 rfl rfl rfl ?_
    refine g_iconst (q := 18) 0 X dX12_size_17 rfl rfl ic_0 ?_
    refine g_bipush (q := 20) 10 X dX12_size_18 rfl bc_10 ic_10 ?_
    refine g_cs (q := 23) [aI a1, aI 0, aI 10] X (ce_X12_in hK  h) kS_X12_130 rfl rfl (Nat.le_of_ble_eq_true rfl) (by decide) dX12_size_20 rfl (fun r n_ iv_ rv_ hf => ?_)
    obtain ⟨en_, ei_, er_, r3, rfl, br3, h⟩ := hf; subst n_; subst iv_; subst rv_
    refine g_if_ne (q := 26) 28 X dX12_size_23 (by decide) rfl (fun c4 => ?_) (fun c4 => ?_)
    · have h := h.1 c4
      refine g_aload_n (q := 29) 0 X dX12_size_28 rfl rfl rfl ?_
      obtain ⟨s5, h⟩ := h
      refine g_getR (q := 32) (r := rv 66 3) 12 3 X rfl (fun z hz => by rw [s5 z hz]; decide) kf_X12_442 (by decide) (by decide) rfl rfl (hK.n (by decide)) dX12_size_29 rfl ?_
      refine g_ifnonnull (q := 35) 37 X dX12_size_32 (by decide) rfl (fun c6 => ?_) (fun c6 => ?_)
      · have h := h.1 c6
        refine g_iload_n (q := 38) 1 X dX12_size_37 rfl rfl rfl ?_
        have hsw : (a1 < 0 ∨ 9 < a1) ∨ a1 = 0 ∨ a1 = 1 ∨ a1 = 2 ∨ a1 = 3 ∨ a1 = 4 ∨ a1 = 5 ∨ a1 = 6 ∨ a1 = 7 ∨ a1 = 8 ∨ a1 = 9 := by omega
        rcases hsw with c7 | c7 | c7 | c7 | c7 | c7 | c7 | c7 | c7 | c7 | c7
        · have h := h.1 c7
          refine g_tswOut (q := 172) X dX12_size_38 (by decide) c7 ?_
          refine g_aload_n (q := 173) 0 X dX12_size_172 rfl rfl rfl ?_
          obtain ⟨hm80, h⟩ := h
          refine g_getR (q := 176) (r := some 80) 12 3 X hm80 (lt2000 (c := 0) (by decide)) kf_X12_442 (by decide) (by decide) rfl rfl (hK.n (by decide)) dX12_size_173 rfl ?_
          refine g_getI (q := 179) 11 11 X kf_X12_405 (by decide) (by decide) rfl rfl (Nat.lt_of_lt_of_le (by decide) (hK.2.2.2.2.2.2.1 80 hm80 (Or.inl rfl))) dX12_size_176 rfl ?_
          exact g_iret (q := 0) X hR dX12_size_179 rfl ⟨rfl, rfl, _, rfl, h⟩
        · have h := h.2.1 c7
          refine g_tswIn (q := 92) (off := 54) X dX12_size_38 (by omega) (by omega) (by rw [c7]; rfl) (by decide) ?_
          refine g_aload_n (q := 93) 0 X dX12_size_92 rfl rfl rfl ?_
          obtain ⟨hm80, h⟩ := h
          refine g_getR (q := 96) (r := some 80) 12 3 X hm80 (lt2000 (c := 0) (by decide)) kf_X12_442 (by decide) (by decide) rfl rfl (hK.n (by decide)) dX12_size_93 rfl ?_
          refine g_getI (q := 99) 11 0 X kf_X12_196 (by decide) (by decide) rfl rfl (Nat.lt_of_lt_of_le (by decide) (hK.2.2.2.2.2.2.1 80 hm80 (Or.inl rfl))) dX12_size_96 rfl ?_
          exact g_iret (q := 0) X hR dX12_size_99 rfl ⟨rfl, rfl, _, rfl, h⟩
        · have h := h.2.2.1 c7
          refine g_tswIn (q := 100) (off := 62) X dX12_size_38 (by omega) (by omega) (by rw [c7]; rfl) (by decide) ?_
          refine g_aload_n (q := 101) 0 X dX12_size_100 rfl rfl rfl ?_
          obtain ⟨hm80, h⟩ := h
          refine g_getR (q := 104) (r := some 80) 12 3 X hm80 (lt2000 (c := 0) (by decide)) kf_X12_442 (by decide) (by decide) rfl rfl (hK.n (by decide)) dX12_size_101 rfl ?_
          refine g_getI (q := 107) 11 1 X kf_X12_245 (by decide) (by decide) rfl rfl (Nat.lt_of_lt_of_le (by decide) (hK.2.2.2.2.2.2.1 80 hm80 (Or.inl rfl))) dX12_size_104 rfl ?_
          exact g_iret (q := 0) X hR dX12_size_107 rfl ⟨rfl, rfl, _, rfl, h⟩
        · have h := h.2.2.2.1 c7
          refine g_tswIn (q := 108) (off := 70) X dX12_size_38 (by omega) (by omega) (by rw [c7]; rfl) (by decide) ?_
          refine g_aload_n (q := 109) 0 X dX12_size_108 rfl rfl rfl ?_
          obtain ⟨hm80, h⟩ := h
          refine g_getR (q := 112) (r := some 80) 12 3 X hm80 (lt2000 (c := 0) (by decide)) kf_X12_442 (by decide) (by decide) rfl rfl (hK.n (by decide)) dX12_size_109 rfl ?_
          refine g_getI (q := 115) 11 2 X kf_X12_247 (by decide) (by decide) rfl rfl (Nat.lt_of_lt_of_le (by decide) (hK.2.2.2.2.2.2.1 80 hm80 (Or.inl rfl))) dX12_size_112 rfl ?_
          exact g_iret (q := 0) X hR dX12_size_115 rfl ⟨rfl, rfl, _, rfl, h⟩
        · have h := h.2.2.2.2.1 c7
          refine g_tswIn (q := 116) (off := 78) X dX12_size_38 (by omega) (by omega) (by rw [c7]; rfl) (by decide) ?_
          refine g_aload_n (q := 117) 0 X dX12_size_116 rfl rfl rfl ?_
          obtain ⟨hm80, h⟩ := h
          refine g_getR (q := 120) (r := some 80) 12 3 X hm80 (lt2000 (c := 0) (by decide)) kf_X12_442 (by decide) (by decide) rfl rfl (hK.n (by decide)) dX12_size_117 rfl ?_
          refine g_getI (q := 123) 11 3 X kf_X12_291 (by decide) (by decide) rfl rfl (Nat.lt_of_lt_of_le (by decide) (hK.2.2.2.2.2.2.1 80 hm80 (Or.inl rfl))) dX12_size_120 rfl ?_
          exact g_iret (q := 0) X hR dX12_size_123 rfl ⟨rfl, rfl, _, rfl, h⟩
        · have h := h.2.2.2.2.2.1 c7
          refine g_tswIn (q := 124) (off := 86) X dX12_size_38 (by omega) (by omega) (by rw [c7]; rfl) (by decide) ?_
          refine g_aload_n (q := 125) 0 X dX12_size_124 rfl rfl rfl ?_
          obtain ⟨hm80, h⟩ := h
          refine g_getR (q := 128) (r := some 80) 12 3 X hm80 (lt2000 (c := 0) (by decide)) kf_X12_442 (by decide) (by decide) rfl rfl (hK.n (by decide)) dX12_size_125 rfl ?_
          refine g_getI (q := 131) 11 4 X kf_X12_297 (by decide) (by decide) rfl rfl (Nat.lt_of_lt_of_le (by decide) (hK.2.2.2.2.2.2.1 80 hm80 (Or.inl rfl))) dX12_size_128 rfl ?_
          exact g_iret (q := 0) X hR dX12_size_131 rfl ⟨rfl, rfl, _, rfl, h⟩
        · have h := h.2.2.2.2.2.2.1 c7
          refine g_tswIn (q := 132) (off := 94) X dX12_size_38 (by omega) (by omega) (by rw [c7]; rfl) (by decide) ?_
          refine g_aload_n (q := 133) 0 X dX12_size_132 rfl rfl rfl ?_
          obtain ⟨hm80, h⟩ := h
          refine g_getR (q := 136) (r := some 80) 12 3 X hm80 (lt2000 (c := 0) (by decide)) kf_X12_442 (by decide) (by decide) rfl rfl (hK.n (by decide)) dX12_size_133 rfl ?_
          refine g_getI (q := 139) 11 5 X kf_X12_313 (by decide) (by decide) rfl rfl (Nat.lt_of_lt_of_le (by decide) (hK.2.2.2.2.2.2.1 80 hm80 (Or.inl rfl))) dX12_size_136 rfl ?_
          exact g_iret (q := 0) X hR dX12_size_139 rfl ⟨rfl, rfl, _, rfl, h⟩
        · have h := h.2.2.2.2.2.2.2.1 c7
          refine g_tswIn (q := 140) (off := 102) X dX12_size_38 (by omega) (by omega) (by rw [c7]; rfl) (by decide) ?_
          refine g_aload_n (q := 141) 0 X dX12_size_140 rfl rfl rfl ?_
          obtain ⟨hm80, h⟩ := h
          refine g_getR (q := 144) (r := some 80) 12 3 X hm80 (lt2000 (c := 0) (by decide)) kf_X12_442 (by decide) (by decide) rfl rfl (hK.n (by decide)) dX12_size_141 rfl ?_
          refine g_getI (q := 147) 11 6 X kf_X12_334 (by decide) (by decide) rfl rfl (Nat.lt_of_lt_of_le (by decide) (hK.2.2.2.2.2.2.1 80 hm80 (Or.inl rfl))) dX12_size_144 rfl ?_
          exact g_iret (q := 0) X hR dX12_size_147 rfl ⟨rfl, rfl, _, rfl, h⟩
        · have h := h.2.2.2.2.2.2.2.2.1 c7
          refine g_tswIn (q := 148) (off := 110) X dX12_size_38 (by omega) (by omega) (by rw [c7]; rfl) (by decide) ?_
          refine g_aload_n (q := 149) 0 X dX12_size_148 rfl rfl rfl ?_
          obtain ⟨hm80, h⟩ := h
          refine g_getR (q := 152) (r := some 80) 12 3 X hm80 (lt2000 (c := 0) (by decide)) kf_X12_442 (by decide) (by decide) rfl rfl (hK.n (by decide)) dX12_size_149 rfl ?_
          refine g_getI (q := 155) 11 7 X kf_X12_345 (by decide) (by decide) rfl rfl (Nat.lt_of_lt_of_le (by decide) (hK.2.2.2.2.2.2.1 80 hm80 (Or.inl rfl))) dX12_size_152 rfl ?_
          exact g_iret (q := 0) X hR dX12_size_155 rfl ⟨rfl, rfl, _, rfl, h⟩
        · have h := h.2.2.2.2.2.2.2.2.2.1 c7
          refine g_tswIn (q := 156) (off := 118) X dX12_size_38 (by omega) (by omega) (by rw [c7]; rfl) (by decide) ?_
          refine g_aload_n (q := 157) 0 X dX12_size_156 rfl rfl rfl ?_
          obtain ⟨hm80, h⟩ := h
          refine g_getR (q := 160) (r := some 80) 12 3 X hm80 (lt2000 (c := 0) (by decide)) kf_X12_442 (by decide) (by decide) rfl rfl (hK.n (by decide)) dX12_size_157 rfl ?_
          refine g_getI (q := 163) 11 8 X kf_X12_350 (by decide) (by decide) rfl rfl (Nat.lt_of_lt_of_le (by decide) (hK.2.2.2.2.2.2.1 80 hm80 (Or.inl rfl))) dX12_size_160 rfl ?_
          exact g_iret (q := 0) X hR dX12_size_163 rfl ⟨rfl, rfl, _, rfl, h⟩
        · have h := h.2.2.2.2.2.2.2.2.2.2 c7
          refine g_tswIn (q := 164) (off := 126) X dX12_size_38 (by omega) (by omega) (by rw [c7]; rfl) (by decide) ?_
          refine g_aload_n (q := 165) 0 X dX12_size_164 rfl rfl rfl ?_
          obtain ⟨hm80, h⟩ := h
          refine g_getR (q := 168) (r := some 80) 12 3 X hm80 (lt2000 (c := 0) (by decide)) kf_X12_442 (by decide) (by decide) rfl rfl (hK.n (by decide)) dX12_size_165 rfl ?_
          refine g_getI (q := 171) 11 10 X kf_X12_199 (by decide) (by decide) rfl rfl (Nat.lt_of_lt_of_le (by decide) (hK.2.2.2.2.2.2.1 80 hm80 (Or.inl rfl))) dX12_size_168 rfl ?_
          exact g_iret (q := 0) X hR dX12_size_171 rfl ⟨rfl, rfl, _, rfl, h⟩
      · have h := h.2 c6
        refine g_iconst (q := 36) 0 X dX12_size_35 rfl rfl ic_0 ?_
        exact g_iret (q := 0) X hR dX12_size_36 rfl ⟨rfl, rfl, _, rfl, h⟩
    · have h := h.2 c4
      refine g_iconst (q := 27) (-1) X dX12_size_26 rfl rfl ic_m1 ?_
      exact g_iret (q := 0) X hR dX12_size_27 rfl ⟨rfl, rfl, _, rfl, h⟩
  · have h := h.2 c2
    refine g_aload_n (q := 12) 0 X dX12_size_11 rfl rfl rfl ?_
    refine g_getI (q := 15) 12 6 X kf_X12_435 (by decide) (by decide) rfl rfl (hK.n (by decide)) dX12_size_12 rfl ?_
    exact g_iret (q := 0) X hR dX12_size_15 rfl ⟨rfl, rfl, _, rfl, h⟩
def wp_X12_trouble (iv : IV) (rv : RV) (K : Int → IV → Prop) : Prop :=
  ∀ iv1, iv1 = w2 iv 66 0 0 → K (iv1 66 1) iv1
set_option maxRecDepth 10000 in
theorem ce_X12_trouble {n : Nat} {iv : IV} {rv : RV} {K : Int → IV → Prop} (hK : Lk n rv)  (h : wp_X12_trouble  iv rv K) : Call 0 0 0 yX12_trouble cX12_trouble 1 (some .int) [aR (some 66)] n iv rv (fI1 n rv K) := by
  refine Call.by (L := [aR (some 66)]) (by decide) rfl ⟨trivial, trivial⟩ rfl (Nat.le_of_ble_eq_true rfl) (fun Γ X hR => ?_)
  unfold wp_X12_trouble at h
  refine g_aload_n (q := 1) 0 X dX12_trouble_0 rfl rfl rfl ?_
  refine g_iconst (q := 2) 0 X dX12_trouble_1 rfl rfl ic_0 ?_
  refine g_putI (q := 5) 12 0 X (Or.inl rfl) rfl kf_X12_54 (by decide) (by decide) rfl (hK.n (by decide)) dX12_trouble_2 rfl ?_
  refine g_nmM (fun iv1 eiv1 => ?_)
  have h := h iv1 eiv1
  refine g_aload_n (q := 6) 0 X dX12_trouble_5 rfl rfl rfl ?_
  refine g_getI (q := 9) 12 1 X kf_X12_57 (by decide) (by decide) rfl rfl (hK.n (by decide)) dX12_trouble_6 rfl ?_
  exact g_iret (q := 0) X hR dX12_trouble_9 rfl ⟨rfl, rfl, _, rfl, h⟩
