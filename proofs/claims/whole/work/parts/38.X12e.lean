def bd_X12_force_21 (iv : IV) (rv : RV) (K : Int → IV → Prop) : Prop :=
  wp_X12_refused 1 iv rv (fun r1 iv2 => K r1 iv2)
set_option maxRecDepth 10000 in
theorem cb_X12_force_21 {Γ : GX} {n : Nat} {iv : IV} {rv : RV} {K : Int → IV → Prop} (X : Cx Γ RX12 cX12_force 4 2) (hR : Rt Γ (some .int) 0 0 (fI1 n rv K)) (hK : Lk n rv)  (h : bd_X12_force_21 iv rv K) : G Γ 4 21 [aR (some 66), aJ, aJ, aJ] [] n iv rv 0 0 := by
  unfold bd_X12_force_21 at h
  refine g_aload_n (q := 22) 0 X dX12_force_21 rfl rfl rfl ?_
  refine g_iconst (q := 23) 1 X dX12_force_22 rfl rfl ic_1 ?_
  refine g_cv (q := 26) [aI 1] 12 X (ce_X12_refused hK  h) kV_X12_60 rfl (by decide) rfl (hK.n (by decide)) rfl rfl (Nat.le_of_ble_eq_true rfl) (by decide) dX12_force_23 rfl (fun r n_ iv_ rv_ hf => ?_)
  obtain ⟨en_, er_, r1, rfl, h⟩ := hf; subst n_; subst rv_
  generalize iv_ = iv2 at h ⊢
  exact g_iret (q := 0) X hR dX12_force_26 rfl ⟨rfl, rfl, _, rfl, h⟩
def bd_X12_force_64 (t0 : Int) (iv : IV) (rv : RV) (K : Int → IV → Prop) : Prop :=
  wp_X12_done t0 iv rv (fun r1 iv2 => K r1 iv2)
set_option maxRecDepth 10000 in
theorem cb_X12_force_64 {Γ : GX} {n : Nat} {iv : IV} {rv : RV} {K : Int → IV → Prop} {t0 : Int} (X : Cx Γ RX12 cX12_force 4 2) (hR : Rt Γ (some .int) 0 0 (fI1 n rv K)) (hK : Lk n rv)  (h : bd_X12_force_64 t0 iv rv K) : G Γ 4 64 [aJ, aJ, aJ, aJ] [aI t0, aR (some 66)] n iv rv 0 0 := by
  unfold bd_X12_force_64 at h
  refine g_cv (q := 67) [aI t0] 12 X (ce_X12_done hK  h) kV_X12_65 rfl (by decide) rfl (hK.n (by decide)) rfl rfl (Nat.le_of_ble_eq_true rfl) (by decide) dX12_force_64 rfl (fun r n_ iv_ rv_ hf => ?_)
  obtain ⟨en_, er_, r1, rfl, h⟩ := hf; subst n_; subst rv_
  generalize iv_ = iv2 at h ⊢
  exact g_iret (q := 0) X hR dX12_force_67 rfl ⟨rfl, rfl, _, rfl, h⟩
def wp_X12_force (a1 : Int) (a2 : Int) (a3 : Int) (iv : IV) (rv : RV) (K : Int → IV → Prop) : Prop :=
  ∀ iv1, iv1 = w2 iv 66 0 0 → wp_X12_isGrant a1 iv1 rv (fun r2 => ((r2 = 0) → (bd_X12_force_21 iv1 rv K)) ∧ ((¬ (r2 = 0)) → (wp_X12_isLaw a3 iv1 rv (fun r4 => ((r4 ≠ 0) → (wp_X12_in a2 0 999 iv1 rv (fun r6 => ((r6 ≠ 0) → (wp_X12_lays a3 iv1 rv (fun iv8 => wp_X12_inForce a1 a2 iv8 rv (fun r9 => ((r9 = 0) → (bd_X12_force_64 0 iv8 rv K)) ∧ ((¬ (r9 = 0)) → (bd_X12_force_64 1 iv8 rv K)))))) ∧ ((r6 = 0) → (wp_X12_refused 2 iv1 rv (fun r11 iv12 => K r11 iv12)))))) ∧ ((r4 = 0) → (bd_X12_force_21 iv1 rv K))))))
set_option maxRecDepth 10000 in
theorem ce_X12_force {n : Nat} {iv : IV} {rv : RV} {K : Int → IV → Prop} {a1 : Int} {a2 : Int} {a3 : Int} (hK : Lk n rv)  (h : wp_X12_force a1 a2 a3 iv rv K) : Call 2 0 0 yX12_force cX12_force 4 (some .int) [aR (some 66), aI a1, aI a2, aI a3] n iv rv (fI1 n rv K) := by
  refine Call.by (L := [aR (some 66), aI a1, aI a2, aI a3]) (by decide) rfl ⟨trivial, trivial, trivial, trivial, trivial⟩ rfl (Nat.le_of_ble_eq_true rfl) (fun Γ X hR => ?_)
  unfold wp_X12_force at h
  refine g_aload_n (q := 1) 0 X dX12_force_0 rfl rfl rfl ?_
  refine g_iconst (q := 2) 0 X dX12_force_1 rfl rfl ic_0 ?_
  refine g_putI (q := 5) 12 0 X (Or.inl rfl) rfl kf_X12_54 (by decide) (by decide) rfl (hK.n (by decide)) dX12_force_2 rfl ?_
  refine g_nmM (fun iv1 eiv1 => ?_)
  have h := h iv1 eiv1
  refine g_aload_n (q := 6) 0 X dX12_force_5 rfl rfl rfl ?_
  refine g_iload_n (q := 7) 1 X dX12_force_6 rfl rfl rfl ?_
  refine g_cv (q := 10) [aI a1] 12 X (ce_X12_isGrant hK  h) kV_X12_532 rfl (by decide) rfl (hK.n (by decide)) rfl rfl (Nat.le_of_ble_eq_true rfl) (by decide) dX12_force_7 rfl (fun r n_ iv_ rv_ hf => ?_)
  obtain ⟨en_, ei_, er_, r2, rfl, br2, h⟩ := hf; subst n_; subst iv_; subst rv_
  refine g_if_eq (q := 13) 21 X dX12_force_10 (by decide) rfl (fun c3 => ?_) (fun c3 => ?_)
  · have h := h.1 c3
    refine g_sub (L' := [aR (some 66), aJ, aJ, aJ]) ⟨Or.inr rfl, Or.inl rfl, Or.inl rfl, Or.inl rfl, trivial⟩ ?_
    exact cb_X12_force_21 X hR hK   h
  · have h := h.2 c3
    refine g_aload_n (q := 14) 0 X dX12_force_13 rfl rfl rfl ?_
    refine g_iload_n (q := 15) 3 X dX12_force_14 rfl rfl rfl ?_
    refine g_cv (q := 18) [aI a3] 12 X (ce_X12_isLaw hK  h) kV_X12_511 rfl (by decide) rfl (hK.n (by decide)) rfl rfl (Nat.le_of_ble_eq_true rfl) (by decide) dX12_force_15 rfl (fun r n_ iv_ rv_ hf => ?_)
    obtain ⟨en_, ei_, er_, r4, rfl, br4, h⟩ := hf; subst n_; subst iv_; subst rv_
    refine g_if_ne (q := 21) 27 X dX12_force_18 (by decide) rfl (fun c5 => ?_) (fun c5 => ?_)
    · have h := h.1 c5
      refine g_iload_n (q := 28) 2 X dX12_force_27 rfl rfl rfl ?_
      refine g_iconst (q := 29) 0 X dX12_force_28 rfl rfl ic_0 ?_
      refine g_sipush (q := 32) 999 X dX12_force_29 rfl sc_999 ic_999 ?_
      refine g_cs (q := 35) [aI a2, aI 0, aI 999] X (ce_X12_in hK  h) kS_X12_130 rfl rfl (Nat.le_of_ble_eq_true rfl) (by decide) dX12_force_32 rfl (fun r n_ iv_ rv_ hf => ?_)
      obtain ⟨en_, ei_, er_, r6, rfl, br6, h⟩ := hf; subst n_; subst iv_; subst rv_
      refine g_if_ne (q := 38) 44 X dX12_force_35 (by decide) rfl (fun c7 => ?_) (fun c7 => ?_)
      · have h := h.1 c7
        refine g_aload_n (q := 45) 0 X dX12_force_44 rfl rfl rfl ?_
        refine g_iload_n (q := 46) 3 X dX12_force_45 rfl rfl rfl ?_
        refine g_cv (q := 49) [aI a3] 12 X (ce_X12_lays hK  h) kV_X12_514 rfl (by decide) rfl (hK.n (by decide)) rfl rfl (Nat.le_of_ble_eq_true rfl) (by decide) dX12_force_46 rfl (fun r n_ iv_ rv_ hf => ?_)
        obtain ⟨en_, er_, rfl, h⟩ := hf; subst n_; subst rv_
        generalize iv_ = iv8 at h ⊢
        refine g_aload_n (q := 50) 0 X dX12_force_49 rfl rfl rfl ?_
        refine g_aload_n (q := 51) 0 X dX12_force_50 rfl rfl rfl ?_
        refine g_iload_n (q := 52) 1 X dX12_force_51 rfl rfl rfl ?_
        refine g_iload_n (q := 53) 2 X dX12_force_52 rfl rfl rfl ?_
        refine g_cv (q := 56) [aI a1, aI a2] 12 X (ce_X12_inForce hK  h) kV_X12_478 rfl (by decide) rfl (hK.n (by decide)) rfl rfl (Nat.le_of_ble_eq_true rfl) (by decide) dX12_force_53 rfl (fun r n_ iv_ rv_ hf => ?_)
        obtain ⟨en_, ei_, er_, r9, rfl, br9, h⟩ := hf; subst n_; subst iv_; subst rv_
        refine g_if_eq (q := 59) 63 X dX12_force_56 (by decide) rfl (fun c10 => ?_) (fun c10 => ?_)
        · have h := h.1 c10
          refine g_iconst (q := 64) 0 X dX12_force_63 rfl rfl ic_0 ?_
          refine g_sub (L' := [aJ, aJ, aJ, aJ]) ⟨Or.inl rfl, Or.inl rfl, Or.inl rfl, Or.inl rfl, trivial⟩ ?_
          exact cb_X12_force_64 X hR hK   h
        · have h := h.2 c10
          refine g_iconst (q := 60) 1 X dX12_force_59 rfl rfl ic_1 ?_
          refine g_goto (q := 64) X dX12_force_60 (by decide) ?_
          refine g_sub (L' := [aJ, aJ, aJ, aJ]) ⟨Or.inl rfl, Or.inl rfl, Or.inl rfl, Or.inl rfl, trivial⟩ ?_
          exact cb_X12_force_64 X hR hK   h
      · have h := h.2 c7
        refine g_aload_n (q := 39) 0 X dX12_force_38 rfl rfl rfl ?_
        refine g_iconst (q := 40) 2 X dX12_force_39 rfl rfl ic_2 ?_
        refine g_cv (q := 43) [aI 2] 12 X (ce_X12_refused hK  h) kV_X12_60 rfl (by decide) rfl (hK.n (by decide)) rfl rfl (Nat.le_of_ble_eq_true rfl) (by decide) dX12_force_40 rfl (fun r n_ iv_ rv_ hf => ?_)
        obtain ⟨en_, er_, r11, rfl, h⟩ := hf; subst n_; subst rv_
        generalize iv_ = iv12 at h ⊢
        exact g_iret (q := 0) X hR dX12_force_43 rfl ⟨rfl, rfl, _, rfl, h⟩
    · have h := h.2 c5
      refine g_sub (L' := [aR (some 66), aJ, aJ, aJ]) ⟨Or.inr rfl, Or.inl rfl, Or.inl rfl, Or.inl rfl, trivial⟩ ?_
      exact cb_X12_force_21 X hR hK   h
def bd_X12_chain_21 (iv : IV) (rv : RV) (K : Int → IV → Prop) : Prop :=
  wp_X12_refused 1 iv rv (fun r1 iv2 => K r1 iv2)
set_option maxRecDepth 10000 in
theorem cb_X12_chain_21 {Γ : GX} {n : Nat} {iv : IV} {rv : RV} {K : Int → IV → Prop} (X : Cx Γ RX12 cX12_chain 5 2) (hR : Rt Γ (some .int) 0 0 (fI1 n rv K)) (hK : Lk n rv)  (h : bd_X12_chain_21 iv rv K) : G Γ 5 21 [aR (some 66), aJ, aJ, aJ, aJ] [] n iv rv 0 0 := by
  unfold bd_X12_chain_21 at h
  refine g_aload_n (q := 22) 0 X dX12_chain_21 rfl rfl rfl ?_
  refine g_iconst (q := 23) 1 X dX12_chain_22 rfl rfl ic_1 ?_
  refine g_cv (q := 26) [aI 1] 12 X (ce_X12_refused hK  h) kV_X12_60 rfl (by decide) rfl (hK.n (by decide)) rfl rfl (Nat.le_of_ble_eq_true rfl) (by decide) dX12_chain_23 rfl (fun r n_ iv_ rv_ hf => ?_)
  obtain ⟨en_, er_, r1, rfl, h⟩ := hf; subst n_; subst rv_
  generalize iv_ = iv2 at h ⊢
  exact g_iret (q := 0) X hR dX12_chain_26 rfl ⟨rfl, rfl, _, rfl, h⟩
def bd_X12_chain_89 (iv : IV) (rv : RV) (K : Int → IV → Prop) : Prop :=
  wp_X12_refused 1 iv rv (fun r1 iv2 => K r1 iv2)
set_option maxRecDepth 10000 in
theorem cb_X12_chain_89 {Γ : GX} {n : Nat} {iv : IV} {rv : RV} {K : Int → IV → Prop} (X : Cx Γ RX12 cX12_chain 5 2) (hR : Rt Γ (some .int) 0 0 (fI1 n rv K)) (hK : Lk n rv)  (h : bd_X12_chain_89 iv rv K) : G Γ 5 89 [aR (some 66), aJ, aJ, aJ, aJ] [] n iv rv 0 0 := by
  unfold bd_X12_chain_89 at h
  refine g_aload_n (q := 90) 0 X dX12_chain_89 rfl rfl rfl ?_
  refine g_iconst (q := 91) 1 X dX12_chain_90 rfl rfl ic_1 ?_
  refine g_cv (q := 94) [aI 1] 12 X (ce_X12_refused hK  h) kV_X12_60 rfl (by decide) rfl (hK.n (by decide)) rfl rfl (Nat.le_of_ble_eq_true rfl) (by decide) dX12_chain_91 rfl (fun r n_ iv_ rv_ hf => ?_)
  obtain ⟨en_, er_, r1, rfl, h⟩ := hf; subst n_; subst rv_
  generalize iv_ = iv2 at h ⊢
  exact g_iret (q := 0) X hR dX12_chain_94 rfl ⟨rfl, rfl, _, rfl, h⟩
def wp_X12_chain (a1 : Int) (a2 : Int) (a3 : Int) (a4 : Int) (iv : IV) (rv : RV) (K : Int → IV → Prop) : Prop :=
  ∀ iv1, iv1 = w2 iv 66 0 0 → wp_X12_isPlace a1 iv1 rv (fun r2 => ((r2 = 0) → (bd_X12_chain_21 iv1 rv K)) ∧ ((¬ (r2 = 0)) → (wp_X12_isLaw a3 iv1 rv (fun r4 => ((r4 ≠ 0) → (wp_X12_in a2 0 999 iv1 rv (fun r6 => ((r6 ≠ 0) → (wp_X12_lays a3 iv1 rv (fun iv8 => wp_X12_reach a1 a2 iv8 rv (fun iv9 => (((iv9 66 26) ≤ (w32 (a4 + 1))) → (bd_X12_chain_89 iv9 rv K)) ∧ ((¬ ((iv9 66 26) ≤ (w32 (a4 + 1)))) → ((((w32 (a4 + 1)) ≤ 0) → (bd_X12_chain_89 iv9 rv K)) ∧ ((¬ ((w32 (a4 + 1)) ≤ 0)) → ((0 ≤ w32 (a4 + 1) ∧ w32 (a4 + 1) < 8) ∧ wp_X12_done (iv9 70 (w32 (a4 + 1)).toNat) iv9 rv (fun r13 iv14 => K r13 iv14))))))))) ∧ ((r6 = 0) → (wp_X12_refused 2 iv1 rv (fun r15 iv16 => K r15 iv16)))))) ∧ ((r4 = 0) → (bd_X12_chain_21 iv1 rv K))))))
set_option maxRecDepth 10000 in
theorem ce_X12_chain {n : Nat} {iv : IV} {rv : RV} {K : Int → IV → Prop} {a1 : Int} {a2 : Int} {a3 : Int} {a4 : Int} (hK : Lk n rv)  (h : wp_X12_chain a1 a2 a3 a4 iv rv K) : Call 2 0 0 yX12_chain cX12_chain 5 (some .int) [aR (some 66), aI a1, aI a2, aI a3, aI a4] n iv rv (fI1 n rv K) := by
  refine Call.by (L := [aR (some 66), aI a1, aI a2, aI a3, aI a4]) (by decide) rfl ⟨trivial, trivial, trivial, trivial, trivial, trivial⟩ rfl (Nat.le_of_ble_eq_true rfl) (fun Γ X hR => ?_)
  unfold wp_X12_chain at h
  refine g_aload_n (q := 1) 0 X dX12_chain_0 rfl rfl rfl ?_
  refine g_iconst (q := 2) 0 X dX12_chain_1 rfl rfl ic_0 ?_
  refine g_putI (q := 5) 12 0 X (Or.inl rfl) rfl kf_X12_54 (by decide) (by decide) rfl (hK.n (by decide)) dX12_chain_2 rfl ?_
  refine g_nmM (fun iv1 eiv1 => ?_)
  have h := h iv1 eiv1
  refine g_aload_n (q := 6) 0 X dX12_chain_5 rfl rfl rfl ?_
  refine g_iload_n (q := 7) 1 X dX12_chain_6 rfl rfl rfl ?_
  refine g_cv (q := 10) [aI a1] 12 X (ce_X12_isPlace hK  h) kV_X12_533 rfl (by decide) rfl (hK.n (by decide)) rfl rfl (Nat.le_of_ble_eq_true rfl) (by decide) dX12_chain_7 rfl (fun r n_ iv_ rv_ hf => ?_)
  obtain ⟨en_, ei_, er_, r2, rfl, br2, h⟩ := hf; subst n_; subst iv_; subst rv_
  refine g_if_eq (q := 13) 21 X dX12_chain_10 (by decide) rfl (fun c3 => ?_) (fun c3 => ?_)
  · have h := h.1 c3
    refine g_sub (L' := [aR (some 66), aJ, aJ, aJ, aJ]) ⟨Or.inr rfl, Or.inl rfl, Or.inl rfl, Or.inl rfl, Or.inl rfl, trivial⟩ ?_
    exact cb_X12_chain_21 X hR hK   h
  · have h := h.2 c3
    refine g_aload_n (q := 14) 0 X dX12_chain_13 rfl rfl rfl ?_
    refine g_iload_n (q := 15) 3 X dX12_chain_14 rfl rfl rfl ?_
    refine g_cv (q := 18) [aI a3] 12 X (ce_X12_isLaw hK  h) kV_X12_511 rfl (by decide) rfl (hK.n (by decide)) rfl rfl (Nat.le_of_ble_eq_true rfl) (by decide) dX12_chain_15 rfl (fun r n_ iv_ rv_ hf => ?_)
    obtain ⟨en_, ei_, er_, r4, rfl, br4, h⟩ := hf; subst n_; subst iv_; subst rv_
    refine g_if_ne (q := 21) 27 X dX12_chain_18 (by decide) rfl (fun c5 => ?_) (fun c5 => ?_)
    · have h := h.1 c5
      refine g_iload_n (q := 28) 2 X dX12_chain_27 rfl rfl rfl ?_
      refine g_iconst (q := 29) 0 X dX12_chain_28 rfl rfl ic_0 ?_
      refine g_sipush (q := 32) 999 X dX12_chain_29 rfl sc_999 ic_999 ?_
      refine g_cs (q := 35) [aI a2, aI 0, aI 999] X (ce_X12_in hK  h) kS_X12_130 rfl rfl (Nat.le_of_ble_eq_true rfl) (by decide) dX12_chain_32 rfl (fun r n_ iv_ rv_ hf => ?_)
      obtain ⟨en_, ei_, er_, r6, rfl, br6, h⟩ := hf; subst n_; subst iv_; subst rv_
      refine g_if_ne (q := 38) 44 X dX12_chain_35 (by decide) rfl (fun c7 => ?_) (fun c7 => ?_)
      · have h := h.1 c7
        refine g_aload_n (q := 45) 0 X dX12_chain_44 rfl rfl rfl ?_
        refine g_iload_n (q := 46) 3 X dX12_chain_45 rfl rfl rfl ?_
        refine g_cv (q := 49) [aI a3] 12 X (ce_X12_lays hK  h) kV_X12_514 rfl (by decide) rfl (hK.n (by decide)) rfl rfl (Nat.le_of_ble_eq_true rfl) (by decide) dX12_chain_46 rfl (fun r n_ iv_ rv_ hf => ?_)
        obtain ⟨en_, er_, rfl, h⟩ := hf; subst n_; subst rv_
        generalize iv_ = iv8 at h ⊢
        refine g_aload_n (q := 50) 0 X dX12_chain_49 rfl rfl rfl ?_
        refine g_iload_n (q := 51) 1 X dX12_chain_50 rfl rfl rfl ?_
        refine g_iload_n (q := 52) 2 X dX12_chain_51 rfl rfl rfl ?_
        refine g_cv (q := 55) [aI a1, aI a2] 12 X (ce_X12_reach hK  h) kV_X12_491 rfl (by decide) rfl (hK.n (by decide)) rfl rfl (Nat.le_of_ble_eq_true rfl) (by decide) dX12_chain_52 rfl (fun r n_ iv_ rv_ hf => ?_)
        obtain ⟨en_, er_, rfl, h⟩ := hf; subst n_; subst rv_
        generalize iv_ = iv9 at h ⊢
        refine g_iload (q := 57) 4 X dX12_chain_55 rfl rfl ?_
        refine g_iconst (q := 58) 1 X dX12_chain_57 rfl rfl ic_1 ?_
        refine g_iadd (q := 59) X dX12_chain_58 rfl ?_
        refine g_aload_n (q := 60) 0 X dX12_chain_59 rfl rfl rfl ?_
        refine g_getI (q := 63) 12 26 X kf_X12_475 (by decide) (by decide) rfl rfl (hK.n (by decide)) dX12_chain_60 rfl ?_
        refine g_icmp_ge (q := 66) 89 X dX12_chain_63 (by decide) rfl (fun c10 => ?_) (fun c10 => ?_)
        · have h := h.1 c10
          refine g_sub (L' := [aR (some 66), aJ, aJ, aJ, aJ]) ⟨Or.inr rfl, Or.inl rfl, Or.inl rfl, Or.inl rfl, Or.inl rfl, trivial⟩ ?_
          exact cb_X12_chain_89 X hR hK   h
        · have h := h.2 c10
          refine g_iload (q := 68) 4 X dX12_chain_66 rfl rfl ?_
          refine g_iconst (q := 69) 1 X dX12_chain_68 rfl rfl ic_1 ?_
          refine g_iadd (q := 70) X dX12_chain_69 rfl ?_
          refine g_if_le (q := 73) 89 X dX12_chain_70 (by decide) rfl (fun c11 => ?_) (fun c11 => ?_)
          · have h := h.1 c11
            refine g_sub (L' := [aR (some 66), aJ, aJ, aJ, aJ]) ⟨Or.inr rfl, Or.inl rfl, Or.inl rfl, Or.inl rfl, Or.inl rfl, trivial⟩ ?_
            exact cb_X12_chain_89 X hR hK   h
          · have h := h.2 c11
            refine g_aload_n (q := 74) 0 X dX12_chain_73 rfl rfl rfl ?_
            refine g_aload_n (q := 75) 0 X dX12_chain_74 rfl rfl rfl ?_
            refine g_getR (q := 78) (r := some 70) 12 23 X (lk_66_23 hK) (lt2000 (c := 0) (by decide)) kf_X12_24 (by decide) (by decide) rfl rfl (hK.n (by decide)) dX12_chain_75 rfl ?_
            refine g_iload (q := 80) 4 X dX12_chain_78 rfl rfl ?_
            refine g_iconst (q := 81) 1 X dX12_chain_80 rfl rfl ic_1 ?_
            refine g_iadd (q := 82) X dX12_chain_81 rfl ?_
            obtain ⟨s12, h⟩ := h
            refine g_iald (q := 83) X rfl (hK.n (by decide)) s12 dX12_chain_82 rfl ?_
            refine g_cv (q := 86) [aI (iv9 70 (w32 (a4 + 1)).toNat)] 12 X (ce_X12_done hK  h) kV_X12_65 rfl (by decide) rfl (hK.n (by decide)) rfl rfl (Nat.le_of_ble_eq_true rfl) (by decide) dX12_chain_83 rfl (fun r n_ iv_ rv_ hf => ?_)
            obtain ⟨en_, er_, r13, rfl, h⟩ := hf; subst n_; subst rv_
            generalize iv_ = iv14 at h ⊢
            refine g_goto (q := 94) X dX12_chain_86 (by decide) ?_
            exact g_iret (q := 0) X hR dX12_chain_94 rfl ⟨rfl, rfl, _, rfl, h⟩
      · have h := h.2 c7
        refine g_aload_n (q := 39) 0 X dX12_chain_38 rfl rfl rfl ?_
        refine g_iconst (q := 40) 2 X dX12_chain_39 rfl rfl ic_2 ?_
        refine g_cv (q := 43) [aI 2] 12 X (ce_X12_refused hK  h) kV_X12_60 rfl (by decide) rfl (hK.n (by decide)) rfl rfl (Nat.le_of_ble_eq_true rfl) (by decide) dX12_chain_40 rfl (fun r n_ iv_ rv_ hf => ?_)
        obtain ⟨en_, er_, r15, rfl, h⟩ := hf; subst n_; subst rv_
        generalize iv_ = iv16 at h ⊢
        exact g_iret (q := 0) X hR dX12_chain_43 rfl ⟨rfl, rfl, _, rfl, h⟩
    · have h := h.2 c5
      refine g_sub (L' := [aR (some 66), aJ, aJ, aJ, aJ]) ⟨Or.inr rfl, Or.inl rfl, Or.inl rfl, Or.inl rfl, Or.inl rfl, trivial⟩ ?_
      exact cb_X12_chain_21 X hR hK   h
def bd_X12_ring_21 (iv : IV) (rv : RV) (K : Int → IV → Prop) : Prop :=
  wp_X12_refused 1 iv rv (fun r1 iv2 => K r1 iv2)
set_option maxRecDepth 10000 in
theorem cb_X12_ring_21 {Γ : GX} {n : Nat} {iv : IV} {rv : RV} {K : Int → IV → Prop} (X : Cx Γ RX12 cX12_ring 6 2) (hR : Rt Γ (some .int) 0 0 (fI1 n rv K)) (hK : Lk n rv)  (h : bd_X12_ring_21 iv rv K) : G Γ 6 21 [aR (some 66), aJ, aJ, aJ, aJ, aJ] [] n iv rv 0 0 := by
  unfold bd_X12_ring_21 at h
  refine g_aload_n (q := 22) 0 X dX12_ring_21 rfl rfl rfl ?_
  refine g_iconst (q := 23) 1 X dX12_ring_22 rfl rfl ic_1 ?_
  refine g_cv (q := 26) [aI 1] 12 X (ce_X12_refused hK  h) kV_X12_60 rfl (by decide) rfl (hK.n (by decide)) rfl rfl (Nat.le_of_ble_eq_true rfl) (by decide) dX12_ring_23 rfl (fun r n_ iv_ rv_ hf => ?_)
  obtain ⟨en_, er_, r1, rfl, h⟩ := hf; subst n_; subst rv_
  generalize iv_ = iv2 at h ⊢
  exact g_iret (q := 0) X hR dX12_ring_26 rfl ⟨rfl, rfl, _, rfl, h⟩
def bd_X12_ring_124 (P58 : Int → Int → Int → IV → Prop) (l1 l2 l4 : Int) (iv : IV) (rv : RV) (K : Int → IV → Prop) : Prop :=
  P58 l1 l2 (w32 (l4 + 1)) iv
set_option maxRecDepth 10000 in
theorem cb_X12_ring_124 {Γ : GX} {n : Nat} {iv : IV} {rv : RV} {K : Int → IV → Prop} {P58 : Int → Int → Int → IV → Prop} {l1 l2 l4 : Int} (X : Cx Γ RX12 cX12_ring 6 2) (hR : Rt Γ (some .int) 0 0 (fI1 n rv K)) (hK : Lk n rv)  (hP58 : ∀ (l1' l2' l4' : Int) (iv' : IV), P58 l1' l2' l4' iv' → G Γ 6 58 [aR (some 66), aI (l1'), aI (l2'), aJ, aI (l4'), aJ] [] n iv' rv 0 0) (h : bd_X12_ring_124 P58 l1 l2 l4 iv rv K) : G Γ 6 124 [aR (some 66), aI l1, aI l2, aJ, aI l4, aJ] [] n iv rv 0 0 := by
  unfold bd_X12_ring_124 at h
  refine g_iinc (q := 127) 4 (L' := [aR (some 66), aI l1, aI l2, aJ, aI (w32 (l4 + 1)), aJ]) X dX12_ring_124 rfl (by decide) rfl rfl rfl ?_
  refine g_goto (q := 58) X dX12_ring_127 (by decide) ?_
  exact hP58 _ _ _ _ h
def bd_X12_ring_58 (P58 : Int → Int → Int → IV → Prop) (l1 l2 l4 : Int) (iv : IV) (rv : RV) (K : Int → IV → Prop) : Prop :=
  (rv 66 3 = some 80) ∧ (((iv 80 7) ≤ l4) → (wp_X12_done 0 iv rv (fun r2 iv3 => K r2 iv3))) ∧ ((¬ ((iv 80 7) ≤ l4)) → (∀ x4, x4 = w32 (12 + l4) → wp_X12_inForce x4 l2 iv rv (fun r5 => ((r5 = 0) → (bd_X12_ring_124 P58 l1 l2 l4 iv rv K)) ∧ ((¬ (r5 = 0)) → ((0 ≤ x4 ∧ x4 < 16) ∧ (((iv 88 x4.toNat) ≠ l1) → (bd_X12_ring_124 P58 l1 l2 l4 iv rv K)) ∧ (((iv 88 x4.toNat) = l1) → ((0 ≤ x4 ∧ x4 < 16) ∧ wp_X12_isReached (iv 87 x4.toNat) iv rv (fun r10 => ((r10 = 0) → (bd_X12_ring_124 P58 l1 l2 l4 iv rv K)) ∧ ((¬ (r10 = 0)) → (wp_X12_done 1 iv rv (fun r12 iv13 => K r12 iv13)))))))))))
set_option maxRecDepth 10000 in
theorem cb_X12_ring_58 {Γ : GX} {n : Nat} {iv : IV} {rv : RV} {K : Int → IV → Prop} {P58 : Int → Int → Int → IV → Prop} {l1 l2 l4 : Int} (X : Cx Γ RX12 cX12_ring 6 2) (hR : Rt Γ (some .int) 0 0 (fI1 n rv K)) (hK : Lk n rv)  (hP58 : ∀ (l1' l2' l4' : Int) (iv' : IV), P58 l1' l2' l4' iv' → G Γ 6 58 [aR (some 66), aI (l1'), aI (l2'), aJ, aI (l4'), aJ] [] n iv' rv 0 0) (h : bd_X12_ring_58 P58 l1 l2 l4 iv rv K) : G Γ 6 58 [aR (some 66), aI l1, aI l2, aJ, aI l4, aJ] [] n iv rv 0 0 := by
  unfold bd_X12_ring_58 at h
  refine g_iload (q := 60) 4 X dX12_ring_58 rfl rfl ?_
  refine g_aload_n (q := 61) 0 X dX12_ring_60 rfl rfl rfl ?_
  obtain ⟨hm80, h⟩ := h
  refine g_getR (q := 64) (r := some 80) 12 3 X hm80 (lt2000 (c := 0) (by decide)) kf_X12_442 (by decide) (by decide) rfl rfl (hK.n (by decide)) dX12_ring_61 rfl ?_
  refine g_getI (q := 67) 11 7 X kf_X12_345 (by decide) (by decide) rfl rfl (Nat.lt_of_lt_of_le (by decide) (hK.2.2.2.2.2.2.1 80 hm80 (Or.inl rfl))) dX12_ring_64 rfl ?_
  refine g_icmp_ge (q := 70) 130 X dX12_ring_67 (by decide) rfl (fun c1 => ?_) (fun c1 => ?_)
  · have h := h.1 c1
    refine g_aload_n (q := 131) 0 X dX12_ring_130 rfl rfl rfl ?_
    refine g_iconst (q := 132) 0 X dX12_ring_131 rfl rfl ic_0 ?_
    refine g_cv (q := 135) [aI 0] 12 X (ce_X12_done hK  h) kV_X12_65 rfl (by decide) rfl (hK.n (by decide)) rfl rfl (Nat.le_of_ble_eq_true rfl) (by decide) dX12_ring_132 rfl (fun r n_ iv_ rv_ hf => ?_)
    obtain ⟨en_, er_, r2, rfl, h⟩ := hf; subst n_; subst rv_
    generalize iv_ = iv3 at h ⊢
    exact g_iret (q := 0) X hR dX12_ring_135 rfl ⟨rfl, rfl, _, rfl, h⟩
  · have h := h.2 c1
    refine g_bipush (q := 72) 12 X dX12_ring_70 rfl bc_12 ic_12 ?_
    refine g_iload (q := 74) 4 X dX12_ring_72 rfl rfl ?_
    refine g_iadd (q := 75) X dX12_ring_74 rfl ?_
    refine g_nmI (fun x4 ex4 => ?_)
    have h := h x4 ex4
    refine g_istore (q := 77) (k0 := 0) 5 (L' := [aR (some 66), aI l1, aI l2, aJ, aI l4, aI x4]) X dX12_ring_75 rfl (by decide) rfl rfl ?_
    refine g_aload_n (q := 78) 0 X dX12_ring_77 rfl rfl rfl ?_
    refine g_iload (q := 80) 5 X dX12_ring_78 rfl rfl ?_
    refine g_iload_n (q := 81) 2 X dX12_ring_80 rfl rfl rfl ?_
    refine g_cv (q := 84) [aI x4, aI l2] 12 X (ce_X12_inForce hK  h) kV_X12_478 rfl (by decide) rfl (hK.n (by decide)) rfl rfl (Nat.le_of_ble_eq_true rfl) (by decide) dX12_ring_81 rfl (fun r n_ iv_ rv_ hf => ?_)
    obtain ⟨en_, ei_, er_, r5, rfl, br5, h⟩ := hf; subst n_; subst iv_; subst rv_
    refine g_if_eq (q := 87) 124 X dX12_ring_84 (by decide) rfl (fun c6 => ?_) (fun c6 => ?_)
    · have h := h.1 c6
      refine g_sub (L' := [aR (some 66), aI l1, aI l2, aJ, aI l4, aJ]) ⟨Or.inr rfl, Or.inr rfl, Or.inr rfl, Or.inl rfl, Or.inr rfl, Or.inl rfl, trivial⟩ ?_
      exact cb_X12_ring_124 X hR hK  hP58 h
    · have h := h.2 c6
      refine g_aload_n (q := 88) 0 X dX12_ring_87 rfl rfl rfl ?_
      refine g_getR (q := 91) (r := some 80) 12 3 X hm80 (lt2000 (c := 0) (by decide)) kf_X12_442 (by decide) (by decide) rfl rfl (hK.n (by decide)) dX12_ring_88 rfl ?_
      refine g_getR (q := 94) (r := some 88) 11 21 X (lkM_21 hK (Or.inl rfl) (hK.2.2.2.2.2.2.1 80 hm80 (Or.inl rfl))) (lt2000 (c := 0) (by decide)) kf_X12_329 (by decide) (by decide) rfl rfl (Nat.lt_of_lt_of_le (by decide) (hK.2.2.2.2.2.2.1 80 hm80 (Or.inl rfl))) dX12_ring_91 rfl ?_
      refine g_iload (q := 96) 5 X dX12_ring_94 rfl rfl ?_
      obtain ⟨s7, h⟩ := h
      refine g_iald (q := 97) X rfl (Nat.lt_of_lt_of_le (by decide) (hK.2.2.2.2.2.2.1 80 hm80 (Or.inl rfl))) s7 dX12_ring_96 rfl ?_
      refine g_iload_n (q := 98) 1 X dX12_ring_97 rfl rfl rfl ?_
      refine g_icmp_ne (q := 101) 124 X dX12_ring_98 (by decide) rfl (fun c8 => ?_) (fun c8 => ?_)
      · have h := h.1 c8
        refine g_sub (L' := [aR (some 66), aI l1, aI l2, aJ, aI l4, aJ]) ⟨Or.inr rfl, Or.inr rfl, Or.inr rfl, Or.inl rfl, Or.inr rfl, Or.inl rfl, trivial⟩ ?_
        exact cb_X12_ring_124 X hR hK  hP58 h
      · have h := h.2 c8
        refine g_aload_n (q := 102) 0 X dX12_ring_101 rfl rfl rfl ?_
        refine g_aload_n (q := 103) 0 X dX12_ring_102 rfl rfl rfl ?_
        refine g_getR (q := 106) (r := some 80) 12 3 X hm80 (lt2000 (c := 0) (by decide)) kf_X12_442 (by decide) (by decide) rfl rfl (hK.n (by decide)) dX12_ring_103 rfl ?_
        refine g_getR (q := 109) (r := some 87) 11 20 X (lkM_20 hK (Or.inl rfl) (hK.2.2.2.2.2.2.1 80 hm80 (Or.inl rfl))) (lt2000 (c := 0) (by decide)) kf_X12_327 (by decide) (by decide) rfl rfl (Nat.lt_of_lt_of_le (by decide) (hK.2.2.2.2.2.2.1 80 hm80 (Or.inl rfl))) dX12_ring_106 rfl ?_
        refine g_iload (q := 111) 5 X dX12_ring_109 rfl rfl ?_
        obtain ⟨s9, h⟩ := h
        refine g_iald (q := 112) X rfl (Nat.lt_of_lt_of_le (by decide) (hK.2.2.2.2.2.2.1 80 hm80 (Or.inl rfl))) s9 dX12_ring_111 rfl ?_
        refine g_cv (q := 115) [aI (iv 87 x4.toNat)] 12 X (ce_X12_isReached hK  h) kV_X12_482 rfl (by decide) rfl (hK.n (by decide)) rfl rfl (Nat.le_of_ble_eq_true rfl) (by decide) dX12_ring_112 rfl (fun r n_ iv_ rv_ hf => ?_)
        obtain ⟨en_, ei_, er_, r10, rfl, br10, h⟩ := hf; subst n_; subst iv_; subst rv_
        refine g_if_eq (q := 118) 124 X dX12_ring_115 (by decide) rfl (fun c11 => ?_) (fun c11 => ?_)
        · have h := h.1 c11
          refine g_sub (L' := [aR (some 66), aI l1, aI l2, aJ, aI l4, aJ]) ⟨Or.inr rfl, Or.inr rfl, Or.inr rfl, Or.inl rfl, Or.inr rfl, Or.inl rfl, trivial⟩ ?_
          exact cb_X12_ring_124 X hR hK  hP58 h
        · have h := h.2 c11
          refine g_aload_n (q := 119) 0 X dX12_ring_118 rfl rfl rfl ?_
          refine g_iconst (q := 120) 1 X dX12_ring_119 rfl rfl ic_1 ?_
          refine g_cv (q := 123) [aI 1] 12 X (ce_X12_done hK  h) kV_X12_65 rfl (by decide) rfl (hK.n (by decide)) rfl rfl (Nat.le_of_ble_eq_true rfl) (by decide) dX12_ring_120 rfl (fun r n_ iv_ rv_ hf => ?_)
          obtain ⟨en_, er_, r12, rfl, h⟩ := hf; subst n_; subst rv_
          generalize iv_ = iv13 at h ⊢
          exact g_iret (q := 0) X hR dX12_ring_123 rfl ⟨rfl, rfl, _, rfl, h⟩
def wl_X12_ring_58 (l1 l2 l4 : Int) (iv : IV) (rv : RV) (K : Int → IV → Prop) : Prop :=
  ∀ P : Int → Int → Int → IV → Prop, (∀ (l1' l2' l4' : Int) (iv' : IV), bd_X12_ring_58  P l1' l2' l4' iv' rv K → P l1' l2' l4' iv') → P l1 l2 l4 iv
theorem cl_X12_ring_58 {Γ : GX} {n : Nat} {iv : IV} {rv : RV} {K : Int → IV → Prop} {l1 l2 l4 : Int} (X : Cx Γ RX12 cX12_ring 6 2) (hR : Rt Γ (some .int) 0 0 (fI1 n rv K)) (hK : Lk n rv)  (h : wl_X12_ring_58 l1 l2 l4 iv rv K) : G Γ 6 58 [aR (some 66), aI l1, aI l2, aJ, aI l4, aJ] [] n iv rv 0 0 := by
  exact h (fun l1' l2' l4' iv' =>  G Γ 6 58 [aR (some 66), aI (l1'), aI (l2'), aJ, aI (l4'), aJ] [] n iv' rv 0 0) (fun l1' l2' l4' iv' hb => cb_X12_ring_58 X hR hK   (fun l1' l2' l4' iv' hp => hp) hb)
def wp_X12_ring (a1 : Int) (a2 : Int) (a3 : Int) (iv : IV) (rv : RV) (K : Int → IV → Prop) : Prop :=
  ∀ iv1, iv1 = w2 iv 66 0 0 → wp_X12_isPlace a1 iv1 rv (fun r2 => ((r2 = 0) → (bd_X12_ring_21 iv1 rv K)) ∧ ((¬ (r2 = 0)) → (wp_X12_isLaw a3 iv1 rv (fun r4 => ((r4 ≠ 0) → (wp_X12_in a2 0 999 iv1 rv (fun r6 => ((r6 ≠ 0) → (wp_X12_lays a3 iv1 rv (fun iv8 => wp_X12_reach a1 a2 iv8 rv (fun iv9 => wl_X12_ring_58 a1 a2 0 iv9 rv K)))) ∧ ((r6 = 0) → (wp_X12_refused 2 iv1 rv (fun r10 iv11 => K r10 iv11)))))) ∧ ((r4 = 0) → (bd_X12_ring_21 iv1 rv K))))))
set_option maxRecDepth 10000 in
theorem ce_X12_ring {n : Nat} {iv : IV} {rv : RV} {K : Int → IV → Prop} {a1 : Int} {a2 : Int} {a3 : Int} (hK : Lk n rv)  (h : wp_X12_ring a1 a2 a3 iv rv K) : Call 2 0 0 yX12_ring cX12_ring 6 (some .int) [aR (some 66), aI a1, aI a2, aI a3] n iv rv (fI1 n rv K) := by
  refine Call.by (L := [aR (some 66), aI a1, aI a2, aI a3, aJ, aJ]) (by decide) rfl ⟨trivial, trivial, trivial, trivial, trivial⟩ rfl (Nat.le_of_ble_eq_true rfl) (fun Γ X hR => ?_)
  unfold wp_X12_ring at h
  refine g_aload_n (q := 1) 0 X dX12_ring_0 rfl rfl rfl ?_
  refine g_iconst (q := 2) 0 X dX12_ring_1 rfl rfl ic_0 ?_
  refine g_putI (q := 5) 12 0 X (Or.inl rfl) rfl kf_X12_54 (by decide) (by decide) rfl (hK.n (by decide)) dX12_ring_2 rfl ?_
  refine g_nmM (fun iv1 eiv1 => ?_)
  have h := h iv1 eiv1
  refine g_aload_n (q := 6) 0 X dX12_ring_5 rfl rfl rfl ?_
  refine g_iload_n (q := 7) 1 X dX12_ring_6 rfl rfl rfl ?_
  refine g_cv (q := 10) [aI a1] 12 X (ce_X12_isPlace hK  h) kV_X12_533 rfl (by decide) rfl (hK.n (by decide)) rfl rfl (Nat.le_of_ble_eq_true rfl) (by decide) dX12_ring_7 rfl (fun r n_ iv_ rv_ hf => ?_)
  obtain ⟨en_, ei_, er_, r2, rfl, br2, h⟩ := hf; subst n_; subst iv_; subst rv_
  refine g_if_eq (q := 13) 21 X dX12_ring_10 (by decide) rfl (fun c3 => ?_) (fun c3 => ?_)
  · have h := h.1 c3
    refine g_sub (L' := [aR (some 66), aJ, aJ, aJ, aJ, aJ]) ⟨Or.inr rfl, Or.inl rfl, Or.inl rfl, Or.inl rfl, Or.inl rfl, Or.inl rfl, trivial⟩ ?_
    exact cb_X12_ring_21 X hR hK   h
  · have h := h.2 c3
    refine g_aload_n (q := 14) 0 X dX12_ring_13 rfl rfl rfl ?_
    refine g_iload_n (q := 15) 3 X dX12_ring_14 rfl rfl rfl ?_
    refine g_cv (q := 18) [aI a3] 12 X (ce_X12_isLaw hK  h) kV_X12_511 rfl (by decide) rfl (hK.n (by decide)) rfl rfl (Nat.le_of_ble_eq_true rfl) (by decide) dX12_ring_15 rfl (fun r n_ iv_ rv_ hf => ?_)
    obtain ⟨en_, ei_, er_, r4, rfl, br4, h⟩ := hf; subst n_; subst iv_; subst rv_
    refine g_if_ne (q := 21) 27 X dX12_ring_18 (by decide) rfl (fun c5 => ?_) (fun c5 => ?_)
    · have h := h.1 c5
      refine g_iload_n (q := 28) 2 X dX12_ring_27 rfl rfl rfl ?_
      refine g_iconst (q := 29) 0 X dX12_ring_28 rfl rfl ic_0 ?_
      refine g_sipush (q := 32) 999 X dX12_ring_29 rfl sc_999 ic_999 ?_
      refine g_cs (q := 35) [aI a2, aI 0, aI 999] X (ce_X12_in hK  h) kS_X12_130 rfl rfl (Nat.le_of_ble_eq_true rfl) (by decide) dX12_ring_32 rfl (fun r n_ iv_ rv_ hf => ?_)
      obtain ⟨en_, ei_, er_, r6, rfl, br6, h⟩ := hf; subst n_; subst iv_; subst rv_
      refine g_if_ne (q := 38) 44 X dX12_ring_35 (by decide) rfl (fun c7 => ?_) (fun c7 => ?_)
      · have h := h.1 c7
        refine g_aload_n (q := 45) 0 X dX12_ring_44 rfl rfl rfl ?_
        refine g_iload_n (q := 46) 3 X dX12_ring_45 rfl rfl rfl ?_
        refine g_cv (q := 49) [aI a3] 12 X (ce_X12_lays hK  h) kV_X12_514 rfl (by decide) rfl (hK.n (by decide)) rfl rfl (Nat.le_of_ble_eq_true rfl) (by decide) dX12_ring_46 rfl (fun r n_ iv_ rv_ hf => ?_)
        obtain ⟨en_, er_, rfl, h⟩ := hf; subst n_; subst rv_
        generalize iv_ = iv8 at h ⊢
        refine g_aload_n (q := 50) 0 X dX12_ring_49 rfl rfl rfl ?_
        refine g_iload_n (q := 51) 1 X dX12_ring_50 rfl rfl rfl ?_
        refine g_iload_n (q := 52) 2 X dX12_ring_51 rfl rfl rfl ?_
        refine g_cv (q := 55) [aI a1, aI a2] 12 X (ce_X12_reach hK  h) kV_X12_491 rfl (by decide) rfl (hK.n (by decide)) rfl rfl (Nat.le_of_ble_eq_true rfl) (by decide) dX12_ring_52 rfl (fun r n_ iv_ rv_ hf => ?_)
        obtain ⟨en_, er_, rfl, h⟩ := hf; subst n_; subst rv_
        generalize iv_ = iv9 at h ⊢
        refine g_iconst (q := 56) 0 X dX12_ring_55 rfl rfl ic_0 ?_
        refine g_istore (q := 58) (k0 := 0) 4 (L' := [aR (some 66), aI a1, aI a2, aI a3, aI 0, aJ]) X dX12_ring_56 rfl (by decide) rfl rfl ?_
        refine g_sub (L' := [aR (some 66), aI a1, aI a2, aJ, aI 0, aJ]) ⟨Or.inr rfl, Or.inr rfl, Or.inr rfl, Or.inl rfl, Or.inr rfl, Or.inl rfl, trivial⟩ ?_
        exact cl_X12_ring_58 X hR hK   h
      · have h := h.2 c7
        refine g_aload_n (q := 39) 0 X dX12_ring_38 rfl rfl rfl ?_
        refine g_iconst (q := 40) 2 X dX12_ring_39 rfl rfl ic_2 ?_
        refine g_cv (q := 43) [aI 2] 12 X (ce_X12_refused hK  h) kV_X12_60 rfl (by decide) rfl (hK.n (by decide)) rfl rfl (Nat.le_of_ble_eq_true rfl) (by decide) dX12_ring_40 rfl (fun r n_ iv_ rv_ hf => ?_)
        obtain ⟨en_, er_, r10, rfl, h⟩ := hf; subst n_; subst rv_
        generalize iv_ = iv11 at h ⊢
        exact g_iret (q := 0) X hR dX12_ring_43 rfl ⟨rfl, rfl, _, rfl, h⟩
    · have h := h.2 c5
      refine g_sub (L' := [aR (some 66), aJ, aJ, aJ, aJ, aJ]) ⟨Or.inr rfl, Or.inl rfl, Or.inl rfl, Or.inl rfl, Or.inl rfl, Or.inl rfl, trivial⟩ ?_
      exact cb_X12_ring_21 X hR hK   h
def bd_X12_weighs_225 (P33 : Int → Int → Int → IV → Prop) (l1 l2 l3 : Int) (iv : IV) (rv : RV) (K : IV → Prop) : Prop :=
  P33 l1 l2 (w32 (l3 + 1)) iv
set_option maxRecDepth 10000 in
theorem cb_X12_weighs_225 {Γ : GX} {n : Nat} {iv : IV} {rv : RV} {K : IV → Prop} {P33 : Int → Int → Int → IV → Prop} {l1 l2 l3 : Int} (X : Cx Γ RX12 cX12_weighs 7 5) (hR : Rt Γ none 0 0 (fV1 n rv K)) (hK : Lk n rv)  (hP33 : ∀ (l1' l2' l3' : Int) (iv' : IV), P33 l1' l2' l3' iv' → G Γ 7 33 [aR (some 66), aI (l1'), aI (l2'), aI (l3'), aJ, aJ, aJ] [] n iv' rv 0 0) (h : bd_X12_weighs_225 P33 l1 l2 l3 iv rv K) : G Γ 7 225 [aR (some 66), aI l1, aI l2, aI l3, aJ, aJ, aJ] [] n iv rv 0 0 := by
  unfold bd_X12_weighs_225 at h
  refine g_iinc (q := 228) 3 (L' := [aR (some 66), aI l1, aI l2, aI (w32 (l3 + 1)), aJ, aJ, aJ]) X dX12_weighs_225 rfl (by decide) rfl rfl rfl ?_
  refine g_goto (q := 33) X dX12_weighs_228 (by decide) ?_
  exact hP33 _ _ _ _ h
def bd_X12_weighs_191 (P33 : Int → Int → Int → IV → Prop) (l1 l2 l3 l4 l5 l6 : Int) (iv : IV) (rv : RV) (K : IV → Prop) : Prop :=
  (0 ≤ l5 ∧ l5 < 64) ∧ ∀ iv2, iv2 = w2 iv 75 l5.toNat l3 → (0 ≤ l6 ∧ l6 < 64) ∧ ∀ iv4, iv4 = w2 iv2 75 l6.toNat l3 → (0 ≤ l5 ∧ l5 < 64) ∧ ∀ iv6, iv6 = w2 iv4 76 l5.toNat l4 → (0 ≤ l6 ∧ l6 < 64) ∧ ∀ iv8, iv8 = w2 iv6 76 l6.toNat l4 → bd_X12_weighs_225 P33 l1 l2 l3 iv8 rv K
set_option maxRecDepth 10000 in
theorem cb_X12_weighs_191 {Γ : GX} {n : Nat} {iv : IV} {rv : RV} {K : IV → Prop} {P33 : Int → Int → Int → IV → Prop} {l1 l2 l3 l4 l5 l6 : Int} (X : Cx Γ RX12 cX12_weighs 7 5) (hR : Rt Γ none 0 0 (fV1 n rv K)) (hK : Lk n rv)  (hP33 : ∀ (l1' l2' l3' : Int) (iv' : IV), P33 l1' l2' l3' iv' → G Γ 7 33 [aR (some 66), aI (l1'), aI (l2'), aI (l3'), aJ, aJ, aJ] [] n iv' rv 0 0) (h : bd_X12_weighs_191 P33 l1 l2 l3 l4 l5 l6 iv rv K) : G Γ 7 191 [aR (some 66), aI l1, aI l2, aI l3, aI l4, aI l5, aI l6] [] n iv rv 0 0 := by
  unfold bd_X12_weighs_191 at h
  refine g_aload_n (q := 192) 0 X dX12_weighs_191 rfl rfl rfl ?_
  refine g_getR (q := 195) (r := some 75) 12 32 X (lk_66_32 hK) (lt2000 (c := 0) (by decide)) kf_X12_42 (by decide) (by decide) rfl rfl (hK.n (by decide)) dX12_weighs_192 rfl ?_
  refine g_iload (q := 197) 5 X dX12_weighs_195 rfl rfl ?_
  refine g_iload_n (q := 198) 3 X dX12_weighs_197 rfl rfl rfl ?_
  obtain ⟨s1, h⟩ := h
  refine g_iast (q := 199) X rfl (hK.n (by decide)) s1 dX12_weighs_198 rfl ?_
  refine g_nmM (fun iv2 eiv2 => ?_)
  have h := h iv2 eiv2
  refine g_aload_n (q := 200) 0 X dX12_weighs_199 rfl rfl rfl ?_
  refine g_getR (q := 203) (r := some 75) 12 32 X (lk_66_32 hK) (lt2000 (c := 0) (by decide)) kf_X12_42 (by decide) (by decide) rfl rfl (hK.n (by decide)) dX12_weighs_200 rfl ?_
  refine g_iload (q := 205) 6 X dX12_weighs_203 rfl rfl ?_
  refine g_iload_n (q := 206) 3 X dX12_weighs_205 rfl rfl rfl ?_
  obtain ⟨s3, h⟩ := h
  refine g_iast (q := 207) X rfl (hK.n (by decide)) s3 dX12_weighs_206 rfl ?_
  refine g_nmM (fun iv4 eiv4 => ?_)
  have h := h iv4 eiv4
  refine g_aload_n (q := 208) 0 X dX12_weighs_207 rfl rfl rfl ?_
  refine g_getR (q := 211) (r := some 76) 12 33 X (lk_66_33 hK) (lt2000 (c := 0) (by decide)) kf_X12_45 (by decide) (by decide) rfl rfl (hK.n (by decide)) dX12_weighs_208 rfl ?_
  refine g_iload (q := 213) 5 X dX12_weighs_211 rfl rfl ?_
  refine g_iload (q := 215) 4 X dX12_weighs_213 rfl rfl ?_
  obtain ⟨s5, h⟩ := h
  refine g_iast (q := 216) X rfl (hK.n (by decide)) s5 dX12_weighs_215 rfl ?_
  refine g_nmM (fun iv6 eiv6 => ?_)
  have h := h iv6 eiv6
  refine g_aload_n (q := 217) 0 X dX12_weighs_216 rfl rfl rfl ?_
  refine g_getR (q := 220) (r := some 76) 12 33 X (lk_66_33 hK) (lt2000 (c := 0) (by decide)) kf_X12_45 (by decide) (by decide) rfl rfl (hK.n (by decide)) dX12_weighs_217 rfl ?_
  refine g_iload (q := 222) 6 X dX12_weighs_220 rfl rfl ?_
  refine g_iload (q := 224) 4 X dX12_weighs_222 rfl rfl ?_
  obtain ⟨s7, h⟩ := h
  refine g_iast (q := 225) X rfl (hK.n (by decide)) s7 dX12_weighs_224 rfl ?_
  refine g_nmM (fun iv8 eiv8 => ?_)
  have h := h iv8 eiv8
  refine g_sub (L' := [aR (some 66), aI l1, aI l2, aI l3, aJ, aJ, aJ]) ⟨Or.inr rfl, Or.inr rfl, Or.inr rfl, Or.inr rfl, Or.inl rfl, Or.inl rfl, Or.inl rfl, trivial⟩ ?_
  exact cb_X12_weighs_225 X hR hK  hP33 h
def bd_X12_weighs_76 (P33 : Int → Int → Int → IV → Prop) (l1 l2 l3 t0 : Int) (iv : IV) (rv : RV) (K : IV → Prop) : Prop :=
  (rv 66 3 = some 80) ∧ (0 ≤ l3 ∧ l3 < 20) ∧ (0 ≤ l3 ∧ l3 < 20) ∧ ∀ x3, x3 = w32 ((w32 (8 * (iv 83 l3.toNat))) + (iv 84 l3.toNat)) → (0 ≤ l3 ∧ l3 < 20) ∧ (0 ≤ l3 ∧ l3 < 20) ∧ ∀ x6, x6 = w32 ((w32 (8 * (iv 84 l3.toNat))) + (iv 83 l3.toNat)) → (0 ≤ x3 ∧ x3 < 64) ∧ (((iv 75 x3.toNat) = (-1)) → (bd_X12_weighs_191 P33 l1 l2 l3 t0 x3 x6 iv rv K)) ∧ ((¬ ((iv 75 x3.toNat) = (-1))) → ((0 ≤ x3 ∧ x3 < 64) ∧ (((iv 76 x3.toNat) < t0) → (bd_X12_weighs_225 P33 l1 l2 l3 iv rv K)) ∧ ((¬ ((iv 76 x3.toNat) < t0)) → ((0 ≤ x3 ∧ x3 < 64) ∧ ((t0 ≠ (iv 76 x3.toNat)) → (bd_X12_weighs_191 P33 l1 l2 l3 t0 x3 x6 iv rv K)) ∧ ((t0 = (iv 76 x3.toNat)) → ((0 ≤ l3 ∧ l3 < 20) ∧ (0 ≤ x3 ∧ x3 < 64) ∧ (0 ≤ iv 75 x3.toNat ∧ iv 75 x3.toNat < 20) ∧ (((iv 85 l3.toNat) < (iv 85 (iv 75 x3.toNat).toNat)) → (bd_X12_weighs_191 P33 l1 l2 l3 t0 x3 x6 iv rv K)) ∧ ((¬ ((iv 85 l3.toNat) < (iv 85 (iv 75 x3.toNat).toNat))) → (bd_X12_weighs_225 P33 l1 l2 l3 iv rv K))))))))
set_option maxRecDepth 10000 in
theorem cb_X12_weighs_76 {Γ : GX} {n : Nat} {iv : IV} {rv : RV} {K : IV → Prop} {P33 : Int → Int → Int → IV → Prop} {l1 l2 l3 t0 : Int} (X : Cx Γ RX12 cX12_weighs 7 5) (hR : Rt Γ none 0 0 (fV1 n rv K)) (hK : Lk n rv)  (hP33 : ∀ (l1' l2' l3' : Int) (iv' : IV), P33 l1' l2' l3' iv' → G Γ 7 33 [aR (some 66), aI (l1'), aI (l2'), aI (l3'), aJ, aJ, aJ] [] n iv' rv 0 0) (h : bd_X12_weighs_76 P33 l1 l2 l3 t0 iv rv K) : G Γ 7 76 [aR (some 66), aI l1, aI l2, aI l3, aJ, aJ, aJ] [aI t0] n iv rv 0 0 := by
  unfold bd_X12_weighs_76 at h
  refine g_istore (q := 78) (k0 := 0) 4 (L' := [aR (some 66), aI l1, aI l2, aI l3, aI t0, aJ, aJ]) X dX12_weighs_76 rfl (by decide) rfl rfl ?_
  refine g_bipush (q := 80) 8 X dX12_weighs_78 rfl bc_8 ic_8 ?_
  refine g_aload_n (q := 81) 0 X dX12_weighs_80 rfl rfl rfl ?_
  obtain ⟨hm80, h⟩ := h
  refine g_getR (q := 84) (r := some 80) 12 3 X hm80 (lt2000 (c := 0) (by decide)) kf_X12_442 (by decide) (by decide) rfl rfl (hK.n (by decide)) dX12_weighs_81 rfl ?_
  refine g_getR (q := 87) (r := some 83) 11 16 X (lkM_16 hK (Or.inl rfl) (hK.2.2.2.2.2.2.1 80 hm80 (Or.inl rfl))) (lt2000 (c := 0) (by decide)) kf_X12_276 (by decide) (by decide) rfl rfl (Nat.lt_of_lt_of_le (by decide) (hK.2.2.2.2.2.2.1 80 hm80 (Or.inl rfl))) dX12_weighs_84 rfl ?_
  refine g_iload_n (q := 88) 3 X dX12_weighs_87 rfl rfl rfl ?_
  obtain ⟨s1, h⟩ := h
  refine g_iald (q := 89) X rfl (Nat.lt_of_lt_of_le (by decide) (hK.2.2.2.2.2.2.1 80 hm80 (Or.inl rfl))) s1 dX12_weighs_88 rfl ?_
  refine g_imul (q := 90) X dX12_weighs_89 rfl ?_
  refine g_aload_n (q := 91) 0 X dX12_weighs_90 rfl rfl rfl ?_
  refine g_getR (q := 94) (r := some 80) 12 3 X hm80 (lt2000 (c := 0) (by decide)) kf_X12_442 (by decide) (by decide) rfl rfl (hK.n (by decide)) dX12_weighs_91 rfl ?_
  refine g_getR (q := 97) (r := some 84) 11 17 X (lkM_17 hK (Or.inl rfl) (hK.2.2.2.2.2.2.1 80 hm80 (Or.inl rfl))) (lt2000 (c := 0) (by decide)) kf_X12_282 (by decide) (by decide) rfl rfl (Nat.lt_of_lt_of_le (by decide) (hK.2.2.2.2.2.2.1 80 hm80 (Or.inl rfl))) dX12_weighs_94 rfl ?_
  refine g_iload_n (q := 98) 3 X dX12_weighs_97 rfl rfl rfl ?_
  obtain ⟨s2, h⟩ := h
  refine g_iald (q := 99) X rfl (Nat.lt_of_lt_of_le (by decide) (hK.2.2.2.2.2.2.1 80 hm80 (Or.inl rfl))) s2 dX12_weighs_98 rfl ?_
  refine g_iadd (q := 100) X dX12_weighs_99 rfl ?_
  refine g_nmI (fun x3 ex3 => ?_)
  have h := h x3 ex3
  refine g_istore (q := 102) (k0 := 0) 5 (L' := [aR (some 66), aI l1, aI l2, aI l3, aI t0, aI x3, aJ]) X dX12_weighs_100 rfl (by decide) rfl rfl ?_
  refine g_bipush (q := 104) 8 X dX12_weighs_102 rfl bc_8 ic_8 ?_
  refine g_aload_n (q := 105) 0 X dX12_weighs_104 rfl rfl rfl ?_
  refine g_getR (q := 108) (r := some 80) 12 3 X hm80 (lt2000 (c := 0) (by decide)) kf_X12_442 (by decide) (by decide) rfl rfl (hK.n (by decide)) dX12_weighs_105 rfl ?_
  refine g_getR (q := 111) (r := some 84) 11 17 X (lkM_17 hK (Or.inl rfl) (hK.2.2.2.2.2.2.1 80 hm80 (Or.inl rfl))) (lt2000 (c := 0) (by decide)) kf_X12_282 (by decide) (by decide) rfl rfl (Nat.lt_of_lt_of_le (by decide) (hK.2.2.2.2.2.2.1 80 hm80 (Or.inl rfl))) dX12_weighs_108 rfl ?_
  refine g_iload_n (q := 112) 3 X dX12_weighs_111 rfl rfl rfl ?_
  obtain ⟨s4, h⟩ := h
  refine g_iald (q := 113) X rfl (Nat.lt_of_lt_of_le (by decide) (hK.2.2.2.2.2.2.1 80 hm80 (Or.inl rfl))) s4 dX12_weighs_112 rfl ?_
  refine g_imul (q := 114) X dX12_weighs_113 rfl ?_
  refine g_aload_n (q := 115) 0 X dX12_weighs_114 rfl rfl rfl ?_
  refine g_getR (q := 118) (r := some 80) 12 3 X hm80 (lt2000 (c := 0) (by decide)) kf_X12_442 (by decide) (by decide) rfl rfl (hK.n (by decide)) dX12_weighs_115 rfl ?_
  refine g_getR (q := 121) (r := some 83) 11 16 X (lkM_16 hK (Or.inl rfl) (hK.2.2.2.2.2.2.1 80 hm80 (Or.inl rfl))) (lt2000 (c := 0) (by decide)) kf_X12_276 (by decide) (by decide) rfl rfl (Nat.lt_of_lt_of_le (by decide) (hK.2.2.2.2.2.2.1 80 hm80 (Or.inl rfl))) dX12_weighs_118 rfl ?_
  refine g_iload_n (q := 122) 3 X dX12_weighs_121 rfl rfl rfl ?_
  obtain ⟨s5, h⟩ := h
  refine g_iald (q := 123) X rfl (Nat.lt_of_lt_of_le (by decide) (hK.2.2.2.2.2.2.1 80 hm80 (Or.inl rfl))) s5 dX12_weighs_122 rfl ?_
  refine g_iadd (q := 124) X dX12_weighs_123 rfl ?_
  refine g_nmI (fun x6 ex6 => ?_)
  have h := h x6 ex6
  refine g_istore (q := 126) (k0 := 0) 6 (L' := [aR (some 66), aI l1, aI l2, aI l3, aI t0, aI x3, aI x6]) X dX12_weighs_124 rfl (by decide) rfl rfl ?_
  refine g_aload_n (q := 127) 0 X dX12_weighs_126 rfl rfl rfl ?_
  refine g_getR (q := 130) (r := some 75) 12 32 X (lk_66_32 hK) (lt2000 (c := 0) (by decide)) kf_X12_42 (by decide) (by decide) rfl rfl (hK.n (by decide)) dX12_weighs_127 rfl ?_
  refine g_iload (q := 132) 5 X dX12_weighs_130 rfl rfl ?_
  obtain ⟨s7, h⟩ := h
  refine g_iald (q := 133) X rfl (hK.n (by decide)) s7 dX12_weighs_132 rfl ?_
  refine g_iconst (q := 134) (-1) X dX12_weighs_133 rfl rfl ic_m1 ?_
  refine g_icmp_eq (q := 137) 191 X dX12_weighs_134 (by decide) rfl (fun c8 => ?_) (fun c8 => ?_)
  · have h := h.1 c8
    exact cb_X12_weighs_191 X hR hK  hP33 h
  · have h := h.2 c8
    refine g_iload (q := 139) 4 X dX12_weighs_137 rfl rfl ?_
    refine g_aload_n (q := 140) 0 X dX12_weighs_139 rfl rfl rfl ?_
    refine g_getR (q := 143) (r := some 76) 12 33 X (lk_66_33 hK) (lt2000 (c := 0) (by decide)) kf_X12_45 (by decide) (by decide) rfl rfl (hK.n (by decide)) dX12_weighs_140 rfl ?_
    refine g_iload (q := 145) 5 X dX12_weighs_143 rfl rfl ?_
    obtain ⟨s9, h⟩ := h
    refine g_iald (q := 146) X rfl (hK.n (by decide)) s9 dX12_weighs_145 rfl ?_
    refine g_icmp_gt (q := 149) 225 X dX12_weighs_146 (by decide) rfl (fun c10 => ?_) (fun c10 => ?_)
    · have h := h.1 c10
      refine g_sub (L' := [aR (some 66), aI l1, aI l2, aI l3, aJ, aJ, aJ]) ⟨Or.inr rfl, Or.inr rfl, Or.inr rfl, Or.inr rfl, Or.inl rfl, Or.inl rfl, Or.inl rfl, trivial⟩ ?_
      exact cb_X12_weighs_225 X hR hK  hP33 h
    · have h := h.2 c10
      refine g_iload (q := 151) 4 X dX12_weighs_149 rfl rfl ?_
      refine g_aload_n (q := 152) 0 X dX12_weighs_151 rfl rfl rfl ?_
      refine g_getR (q := 155) (r := some 76) 12 33 X (lk_66_33 hK) (lt2000 (c := 0) (by decide)) kf_X12_45 (by decide) (by decide) rfl rfl (hK.n (by decide)) dX12_weighs_152 rfl ?_
      refine g_iload (q := 157) 5 X dX12_weighs_155 rfl rfl ?_
      obtain ⟨s11, h⟩ := h
      refine g_iald (q := 158) X rfl (hK.n (by decide)) s11 dX12_weighs_157 rfl ?_
      refine g_icmp_ne (q := 161) 191 X dX12_weighs_158 (by decide) rfl (fun c12 => ?_) (fun c12 => ?_)
      · have h := h.1 c12
        exact cb_X12_weighs_191 X hR hK  hP33 h
      · have h := h.2 c12
        refine g_aload_n (q := 162) 0 X dX12_weighs_161 rfl rfl rfl ?_
        refine g_getR (q := 165) (r := some 80) 12 3 X hm80 (lt2000 (c := 0) (by decide)) kf_X12_442 (by decide) (by decide) rfl rfl (hK.n (by decide)) dX12_weighs_162 rfl ?_
        refine g_getR (q := 168) (r := some 85) 11 18 X (lkM_18 hK (Or.inl rfl) (hK.2.2.2.2.2.2.1 80 hm80 (Or.inl rfl))) (lt2000 (c := 0) (by decide)) kf_X12_285 (by decide) (by decide) rfl rfl (Nat.lt_of_lt_of_le (by decide) (hK.2.2.2.2.2.2.1 80 hm80 (Or.inl rfl))) dX12_weighs_165 rfl ?_
        refine g_iload_n (q := 169) 3 X dX12_weighs_168 rfl rfl rfl ?_
        obtain ⟨s13, h⟩ := h
        refine g_iald (q := 170) X rfl (Nat.lt_of_lt_of_le (by decide) (hK.2.2.2.2.2.2.1 80 hm80 (Or.inl rfl))) s13 dX12_weighs_169 rfl ?_
        refine g_aload_n (q := 171) 0 X dX12_weighs_170 rfl rfl rfl ?_
        refine g_getR (q := 174) (r := some 80) 12 3 X hm80 (lt2000 (c := 0) (by decide)) kf_X12_442 (by decide) (by decide) rfl rfl (hK.n (by decide)) dX12_weighs_171 rfl ?_
        refine g_getR (q := 177) (r := some 85) 11 18 X (lkM_18 hK (Or.inl rfl) (hK.2.2.2.2.2.2.1 80 hm80 (Or.inl rfl))) (lt2000 (c := 0) (by decide)) kf_X12_285 (by decide) (by decide) rfl rfl (Nat.lt_of_lt_of_le (by decide) (hK.2.2.2.2.2.2.1 80 hm80 (Or.inl rfl))) dX12_weighs_174 rfl ?_
        refine g_aload_n (q := 178) 0 X dX12_weighs_177 rfl rfl rfl ?_
        refine g_getR (q := 181) (r := some 75) 12 32 X (lk_66_32 hK) (lt2000 (c := 0) (by decide)) kf_X12_42 (by decide) (by decide) rfl rfl (hK.n (by decide)) dX12_weighs_178 rfl ?_
        refine g_iload (q := 183) 5 X dX12_weighs_181 rfl rfl ?_
        obtain ⟨s14, h⟩ := h
        refine g_iald (q := 184) X rfl (hK.n (by decide)) s14 dX12_weighs_183 rfl ?_
        obtain ⟨s15, h⟩ := h
        refine g_iald (q := 185) X rfl (Nat.lt_of_lt_of_le (by decide) (hK.2.2.2.2.2.2.1 80 hm80 (Or.inl rfl))) s15 dX12_weighs_184 rfl ?_
        refine g_icmp_lt (q := 188) 191 X dX12_weighs_185 (by decide) rfl (fun c16 => ?_) (fun c16 => ?_)
        · have h := h.1 c16
          exact cb_X12_weighs_191 X hR hK  hP33 h
        · have h := h.2 c16
          refine g_goto (q := 225) X dX12_weighs_188 (by decide) ?_
          refine g_sub (L' := [aR (some 66), aI l1, aI l2, aI l3, aJ, aJ, aJ]) ⟨Or.inr rfl, Or.inr rfl, Or.inr rfl, Or.inr rfl, Or.inl rfl, Or.inl rfl, Or.inl rfl, trivial⟩ ?_
          exact cb_X12_weighs_225 X hR hK  hP33 h
def bd_X12_weighs_33 (P33 : Int → Int → Int → IV → Prop) (l1 l2 l3 : Int) (iv : IV) (rv : RV) (K : IV → Prop) : Prop :=
  (rv 66 3 = some 80) ∧ (((iv 80 13) ≤ l3) → (K iv)) ∧ ((¬ ((iv 80 13) ≤ l3)) → ((0 ≤ l3 ∧ l3 < 20) ∧ (((iv 86 l3.toNat) ≠ (-1)) → ((0 ≤ l3 ∧ l3 < 20) ∧ wp_X12_owed l1 (iv 86 l3.toNat) l2 iv rv (fun r5 iv6 => bd_X12_weighs_76 P33 l1 l2 l3 r5 iv6 rv K))) ∧ (((iv 86 l3.toNat) = (-1)) → (bd_X12_weighs_76 P33 l1 l2 l3 0 iv rv K))))
set_option maxRecDepth 10000 in
theorem cb_X12_weighs_33 {Γ : GX} {n : Nat} {iv : IV} {rv : RV} {K : IV → Prop} {P33 : Int → Int → Int → IV → Prop} {l1 l2 l3 : Int} (X : Cx Γ RX12 cX12_weighs 7 5) (hR : Rt Γ none 0 0 (fV1 n rv K)) (hK : Lk n rv)  (hP33 : ∀ (l1' l2' l3' : Int) (iv' : IV), P33 l1' l2' l3' iv' → G Γ 7 33 [aR (some 66), aI (l1'), aI (l2'), aI (l3'), aJ, aJ, aJ] [] n iv' rv 0 0) (h : bd_X12_weighs_33 P33 l1 l2 l3 iv rv K) : G Γ 7 33 [aR (some 66), aI l1, aI l2, aI l3, aJ, aJ, aJ] [] n iv rv 0 0 := by
  unfold bd_X12_weighs_33 at h
  refine g_iload_n (q := 34) 3 X dX12_weighs_33 rfl rfl rfl ?_
  refine g_aload_n (q := 35) 0 X dX12_weighs_34 rfl rfl rfl ?_
  obtain ⟨hm80, h⟩ := h
  refine g_getR (q := 38) (r := some 80) 12 3 X hm80 (lt2000 (c := 0) (by decide)) kf_X12_442 (by decide) (by decide) rfl rfl (hK.n (by decide)) dX12_weighs_35 rfl ?_
  refine g_getI (q := 41) 11 13 X kf_X12_279 (by decide) (by decide) rfl rfl (Nat.lt_of_lt_of_le (by decide) (hK.2.2.2.2.2.2.1 80 hm80 (Or.inl rfl))) dX12_weighs_38 rfl ?_
  refine g_icmp_ge (q := 44) 231 X dX12_weighs_41 (by decide) rfl (fun c1 => ?_) (fun c1 => ?_)
  · have h := h.1 c1
    exact g_vret (q := 0) X hR dX12_weighs_231 rfl ⟨rfl, rfl, rfl, h⟩
  · have h := h.2 c1
    refine g_aload_n (q := 45) 0 X dX12_weighs_44 rfl rfl rfl ?_
    refine g_getR (q := 48) (r := some 80) 12 3 X hm80 (lt2000 (c := 0) (by decide)) kf_X12_442 (by decide) (by decide) rfl rfl (hK.n (by decide)) dX12_weighs_45 rfl ?_
    refine g_getR (q := 51) (r := some 86) 11 19 X (lkM_19 hK (Or.inl rfl) (hK.2.2.2.2.2.2.1 80 hm80 (Or.inl rfl))) (lt2000 (c := 0) (by decide)) kf_X12_288 (by decide) (by decide) rfl rfl (Nat.lt_of_lt_of_le (by decide) (hK.2.2.2.2.2.2.1 80 hm80 (Or.inl rfl))) dX12_weighs_48 rfl ?_
    refine g_iload_n (q := 52) 3 X dX12_weighs_51 rfl rfl rfl ?_
    obtain ⟨s2, h⟩ := h
    refine g_iald (q := 53) X rfl (Nat.lt_of_lt_of_le (by decide) (hK.2.2.2.2.2.2.1 80 hm80 (Or.inl rfl))) s2 dX12_weighs_52 rfl ?_
    refine g_iconst (q := 54) (-1) X dX12_weighs_53 rfl rfl ic_m1 ?_
    refine g_icmp_ne (q := 57) 61 X dX12_weighs_54 (by decide) rfl (fun c3 => ?_) (fun c3 => ?_)
    · have h := h.1 c3
      refine g_aload_n (q := 62) 0 X dX12_weighs_61 rfl rfl rfl ?_
      refine g_iload_n (q := 63) 1 X dX12_weighs_62 rfl rfl rfl ?_
      refine g_aload_n (q := 64) 0 X dX12_weighs_63 rfl rfl rfl ?_
      refine g_getR (q := 67) (r := some 80) 12 3 X hm80 (lt2000 (c := 0) (by decide)) kf_X12_442 (by decide) (by decide) rfl rfl (hK.n (by decide)) dX12_weighs_64 rfl ?_
      refine g_getR (q := 70) (r := some 86) 11 19 X (lkM_19 hK (Or.inl rfl) (hK.2.2.2.2.2.2.1 80 hm80 (Or.inl rfl))) (lt2000 (c := 0) (by decide)) kf_X12_288 (by decide) (by decide) rfl rfl (Nat.lt_of_lt_of_le (by decide) (hK.2.2.2.2.2.2.1 80 hm80 (Or.inl rfl))) dX12_weighs_67 rfl ?_
      refine g_iload_n (q := 71) 3 X dX12_weighs_70 rfl rfl rfl ?_
      obtain ⟨s4, h⟩ := h
      refine g_iald (q := 72) X rfl (Nat.lt_of_lt_of_le (by decide) (hK.2.2.2.2.2.2.1 80 hm80 (Or.inl rfl))) s4 dX12_weighs_71 rfl ?_
      refine g_iload_n (q := 73) 2 X dX12_weighs_72 rfl rfl rfl ?_
      refine g_cv (q := 76) [aI l1, aI (iv 86 l3.toNat), aI l2] 12 X (ce_X12_owed hK  h) kV_X12_526 rfl (by decide) rfl (hK.n (by decide)) rfl rfl (Nat.le_of_ble_eq_true rfl) (by decide) dX12_weighs_73 rfl (fun r n_ iv_ rv_ hf => ?_)
      obtain ⟨en_, er_, r5, rfl, h⟩ := hf; subst n_; subst rv_
      generalize iv_ = iv6 at h ⊢
      exact cb_X12_weighs_76 X hR hK  hP33 h
    · have h := h.2 c3
      refine g_iconst (q := 58) 0 X dX12_weighs_57 rfl rfl ic_0 ?_
      refine g_goto (q := 76) X dX12_weighs_58 (by decide) ?_
      exact cb_X12_weighs_76 X hR hK  hP33 h
def wl_X12_weighs_33 (l1 l2 l3 : Int) (iv : IV) (rv : RV) (K : IV → Prop) : Prop :=
  ∀ P : Int → Int → Int → IV → Prop, (∀ (l1' l2' l3' : Int) (iv' : IV), bd_X12_weighs_33  P l1' l2' l3' iv' rv K → P l1' l2' l3' iv') → P l1 l2 l3 iv
theorem cl_X12_weighs_33 {Γ : GX} {n : Nat} {iv : IV} {rv : RV} {K : IV → Prop} {l1 l2 l3 : Int} (X : Cx Γ RX12 cX12_weighs 7 5) (hR : Rt Γ none 0 0 (fV1 n rv K)) (hK : Lk n rv)  (h : wl_X12_weighs_33 l1 l2 l3 iv rv K) : G Γ 7 33 [aR (some 66), aI l1, aI l2, aI l3, aJ, aJ, aJ] [] n iv rv 0 0 := by
  exact h (fun l1' l2' l3' iv' =>  G Γ 7 33 [aR (some 66), aI (l1'), aI (l2'), aI (l3'), aJ, aJ, aJ] [] n iv' rv 0 0) (fun l1' l2' l3' iv' hb => cb_X12_weighs_33 X hR hK   (fun l1' l2' l3' iv' hp => hp) hb)
def bd_X12_weighs_12 (P12 : Int → Int → Int → IV → Prop) (l1 l2 l3 : Int) (iv : IV) (rv : RV) (K : IV → Prop) : Prop :=
  ((64 ≤ l3) → (wl_X12_weighs_33 l1 l2 0 iv rv K)) ∧ ((¬ (64 ≤ l3)) → ((0 ≤ l3 ∧ l3 < 64) ∧ ∀ iv3, iv3 = w2 iv 75 l3.toNat (-1) → P12 l1 l2 (w32 (l3 + 1)) iv3))
set_option maxRecDepth 10000 in
theorem cb_X12_weighs_12 {Γ : GX} {n : Nat} {iv : IV} {rv : RV} {K : IV → Prop} {P12 : Int → Int → Int → IV → Prop} {l1 l2 l3 : Int} (X : Cx Γ RX12 cX12_weighs 7 5) (hR : Rt Γ none 0 0 (fV1 n rv K)) (hK : Lk n rv)  (hP12 : ∀ (l1' l2' l3' : Int) (iv' : IV), P12 l1' l2' l3' iv' → G Γ 7 12 [aR (some 66), aI (l1'), aI (l2'), aI (l3'), aJ, aJ, aJ] [] n iv' rv 0 0) (h : bd_X12_weighs_12 P12 l1 l2 l3 iv rv K) : G Γ 7 12 [aR (some 66), aI l1, aI l2, aI l3, aJ, aJ, aJ] [] n iv rv 0 0 := by
  unfold bd_X12_weighs_12 at h
  refine g_iload_n (q := 13) 3 X dX12_weighs_12 rfl rfl rfl ?_
  refine g_bipush (q := 15) 64 X dX12_weighs_13 rfl bc_64 ic_64 ?_
  refine g_icmp_ge (q := 18) 31 X dX12_weighs_15 (by decide) rfl (fun c1 => ?_) (fun c1 => ?_)
  · have h := h.1 c1
    refine g_iconst (q := 32) 0 X dX12_weighs_31 rfl rfl ic_0 ?_
    refine g_istore_n (q := 33) 3 (L' := [aR (some 66), aI l1, aI l2, aI 0, aJ, aJ, aJ]) X dX12_weighs_32 rfl rfl (by decide) rfl rfl ?_
    exact cl_X12_weighs_33 X hR hK   h
  · have h := h.2 c1
    refine g_aload_n (q := 19) 0 X dX12_weighs_18 rfl rfl rfl ?_
    refine g_getR (q := 22) (r := some 75) 12 32 X (lk_66_32 hK) (lt2000 (c := 0) (by decide)) kf_X12_42 (by decide) (by decide) rfl rfl (hK.n (by decide)) dX12_weighs_19 rfl ?_
    refine g_iload_n (q := 23) 3 X dX12_weighs_22 rfl rfl rfl ?_
    refine g_iconst (q := 24) (-1) X dX12_weighs_23 rfl rfl ic_m1 ?_
    obtain ⟨s2, h⟩ := h
    refine g_iast (q := 25) X rfl (hK.n (by decide)) s2 dX12_weighs_24 rfl ?_
    refine g_nmM (fun iv3 eiv3 => ?_)
    have h := h iv3 eiv3
    refine g_iinc (q := 28) 3 (L' := [aR (some 66), aI l1, aI l2, aI (w32 (l3 + 1)), aJ, aJ, aJ]) X dX12_weighs_25 rfl (by decide) rfl rfl rfl ?_
    refine g_goto (q := 12) X dX12_weighs_28 (by decide) ?_
    exact hP12 _ _ _ _ h
def wl_X12_weighs_12 (l1 l2 l3 : Int) (iv : IV) (rv : RV) (K : IV → Prop) : Prop :=
  ∀ P : Int → Int → Int → IV → Prop, (∀ (l1' l2' l3' : Int) (iv' : IV), bd_X12_weighs_12  P l1' l2' l3' iv' rv K → P l1' l2' l3' iv') → P l1 l2 l3 iv
theorem cl_X12_weighs_12 {Γ : GX} {n : Nat} {iv : IV} {rv : RV} {K : IV → Prop} {l1 l2 l3 : Int} (X : Cx Γ RX12 cX12_weighs 7 5) (hR : Rt Γ none 0 0 (fV1 n rv K)) (hK : Lk n rv)  (h : wl_X12_weighs_12 l1 l2 l3 iv rv K) : G Γ 7 12 [aR (some 66), aI l1, aI l2, aI l3, aJ, aJ, aJ] [] n iv rv 0 0 := by
  exact h (fun l1' l2' l3' iv' =>  G Γ 7 12 [aR (some 66), aI (l1'), aI (l2'), aI (l3'), aJ, aJ, aJ] [] n iv' rv 0 0) (fun l1' l2' l3' iv' hb => cb_X12_weighs_12 X hR hK   (fun l1' l2' l3' iv' hp => hp) hb)
def wp_X12_weighs (a1 : Int) (iv : IV) (rv : RV) (K : IV → Prop) : Prop :=
  (rv 66 3 = some 80) ∧ (0 ≤ a1 ∧ a1 < 6) ∧ ∀ x2, x2 = iv 106 a1.toNat → wl_X12_weighs_12 a1 x2 0 iv rv K
set_option maxRecDepth 10000 in
theorem ce_X12_weighs {n : Nat} {iv : IV} {rv : RV} {K : IV → Prop} {a1 : Int} (hK : Lk n rv)  (h : wp_X12_weighs a1 iv rv K) : Call 5 0 0 yX12_weighs cX12_weighs 7 none [aR (some 66), aI a1] n iv rv (fV1 n rv K) := by
  refine Call.by (L := [aR (some 66), aI a1, aJ, aJ, aJ, aJ, aJ]) (by decide) rfl ⟨trivial, trivial, trivial⟩ rfl (Nat.le_of_ble_eq_true rfl) (fun Γ X hR => ?_)
  unfold wp_X12_weighs at h
  refine g_aload_n (q := 1) 0 X dX12_weighs_0 rfl rfl rfl ?_
  obtain ⟨hm80, h⟩ := h
  refine g_getR (q := 4) (r := some 80) 12 3 X hm80 (lt2000 (c := 0) (by decide)) kf_X12_442 (by decide) (by decide) rfl rfl (hK.n (by decide)) dX12_weighs_1 rfl ?_
  refine g_getR (q := 7) (r := some 106) 11 39 X (lkM_39 hK (Or.inl rfl) (hK.2.2.2.2.2.2.1 80 hm80 (Or.inl rfl))) (lt2000 (c := 0) (by decide)) kf_X12_432 (by decide) (by decide) rfl rfl (Nat.lt_of_lt_of_le (by decide) (hK.2.2.2.2.2.2.1 80 hm80 (Or.inl rfl))) dX12_weighs_4 rfl ?_
  refine g_iload_n (q := 8) 1 X dX12_weighs_7 rfl rfl rfl ?_
  obtain ⟨s1, h⟩ := h
  refine g_iald (q := 9) X rfl (Nat.lt_of_lt_of_le (by decide) (hK.2.2.2.2.2.2.1 80 hm80 (Or.inl rfl))) s1 dX12_weighs_8 rfl ?_
  refine g_nmI (fun x2 ex2 => ?_)
  have h := h x2 ex2
  refine g_istore_n (q := 10) 2 (L' := [aR (some 66), aI a1, aI x2, aJ, aJ, aJ, aJ]) X dX12_weighs_9 rfl rfl (by decide) rfl rfl ?_
  refine g_iconst (q := 11) 0 X dX12_weighs_10 rfl rfl ic_0 ?_
  refine g_istore_n (q := 12) 3 (L' := [aR (some 66), aI a1, aI x2, aI 0, aJ, aJ, aJ]) X dX12_weighs_11 rfl rfl (by decide) rfl rfl ?_
  exact cl_X12_weighs_12 X hR hK   h
def bd_X12_isWalked_2 (P2 : Int → Int → Int → Prop) (l1 l2 l3 : Int) (iv : IV) (rv : RV) (K : Int → Prop) : Prop :=
  ((l2 ≤ l3) → (K 0)) ∧ ((¬ (l2 ≤ l3)) → ((0 ≤ l3 ∧ l3 < 8) ∧ (((iv 77 l3.toNat) ≠ l1) → (P2 l1 l2 (w32 (l3 + 1)))) ∧ (((iv 77 l3.toNat) = l1) → (K 1))))
set_option maxRecDepth 10000 in
theorem cb_X12_isWalked_2 {Γ : GX} {n : Nat} {iv : IV} {rv : RV} {K : Int → Prop} {P2 : Int → Int → Int → Prop} {l1 l2 l3 : Int} (X : Cx Γ RX12 cX12_isWalked 4 0) (hR : Rt Γ (some .boolean) 0 0 (fB0 n iv rv K)) (hK : Lk n rv)  (hP2 : ∀ (l1' l2' l3' : Int), P2 l1' l2' l3' → G Γ 4 2 [aR (some 66), aI (l1'), aI (l2'), aI (l3')] [] n iv rv 0 0) (h : bd_X12_isWalked_2 P2 l1 l2 l3 iv rv K) : G Γ 4 2 [aR (some 66), aI l1, aI l2, aI l3] [] n iv rv 0 0 := by
  unfold bd_X12_isWalked_2 at h
  refine g_iload_n (q := 3) 3 X dX12_isWalked_2 rfl rfl rfl ?_
  refine g_iload_n (q := 4) 2 X dX12_isWalked_3 rfl rfl rfl ?_
  refine g_icmp_ge (q := 7) 25 X dX12_isWalked_4 (by decide) rfl (fun c1 => ?_) (fun c1 => ?_)
  · have h := h.1 c1
    refine g_iconst (q := 26) 0 X dX12_isWalked_25 rfl rfl ic_0 ?_
    exact g_zret (q := 0) .boolean X hR (nar_B (Or.inl rfl)) dX12_isWalked_26 rfl ⟨rfl, rfl, rfl, _, rfl, (Or.inl rfl), h⟩
  · have h := h.2 c1
    refine g_aload_n (q := 8) 0 X dX12_isWalked_7 rfl rfl rfl ?_
    refine g_getR (q := 11) (r := some 77) 12 34 X (lk_66_34 hK) (lt2000 (c := 0) (by decide)) kf_X12_48 (by decide) (by decide) rfl rfl (hK.n (by decide)) dX12_isWalked_8 rfl ?_
    refine g_iload_n (q := 12) 3 X dX12_isWalked_11 rfl rfl rfl ?_
    obtain ⟨s2, h⟩ := h
    refine g_iald (q := 13) X rfl (hK.n (by decide)) s2 dX12_isWalked_12 rfl ?_
    refine g_iload_n (q := 14) 1 X dX12_isWalked_13 rfl rfl rfl ?_
    refine g_icmp_ne (q := 17) 19 X dX12_isWalked_14 (by decide) rfl (fun c3 => ?_) (fun c3 => ?_)
    · have h := h.1 c3
      refine g_iinc (q := 22) 3 (L' := [aR (some 66), aI l1, aI l2, aI (w32 (l3 + 1))]) X dX12_isWalked_19 rfl (by decide) rfl rfl rfl ?_
      refine g_goto (q := 2) X dX12_isWalked_22 (by decide) ?_
      exact hP2 _ _ _ h
    · have h := h.2 c3
      refine g_iconst (q := 18) 1 X dX12_isWalked_17 rfl rfl ic_1 ?_
      exact g_zret (q := 0) .boolean X hR (nar_B (Or.inr rfl)) dX12_isWalked_18 rfl ⟨rfl, rfl, rfl, _, rfl, (Or.inr rfl), h⟩
def wl_X12_isWalked_2 (l1 l2 l3 : Int) (iv : IV) (rv : RV) (K : Int → Prop) : Prop :=
  ∀ P : Int → Int → Int → Prop, (∀ (l1' l2' l3' : Int), bd_X12_isWalked_2  P l1' l2' l3' iv rv K → P l1' l2' l3') → P l1 l2 l3
theorem cl_X12_isWalked_2 {Γ : GX} {n : Nat} {iv : IV} {rv : RV} {K : Int → Prop} {l1 l2 l3 : Int} (X : Cx Γ RX12 cX12_isWalked 4 0) (hR : Rt Γ (some .boolean) 0 0 (fB0 n iv rv K)) (hK : Lk n rv)  (h : wl_X12_isWalked_2 l1 l2 l3 iv rv K) : G Γ 4 2 [aR (some 66), aI l1, aI l2, aI l3] [] n iv rv 0 0 := by
  exact h (fun l1' l2' l3' =>  G Γ 4 2 [aR (some 66), aI (l1'), aI (l2'), aI (l3')] [] n iv rv 0 0) (fun l1' l2' l3' hb => cb_X12_isWalked_2 X hR hK   (fun l1' l2' l3' hp => hp) hb)
def wp_X12_isWalked (a1 : Int) (a2 : Int) (iv : IV) (rv : RV) (K : Int → Prop) : Prop :=
  wl_X12_isWalked_2 a1 a2 0 iv rv K
set_option maxRecDepth 10000 in
theorem ce_X12_isWalked {n : Nat} {iv : IV} {rv : RV} {K : Int → Prop} {a1 : Int} {a2 : Int} (hK : Lk n rv)  (h : wp_X12_isWalked a1 a2 iv rv K) : Call 0 0 0 yX12_isWalked cX12_isWalked 4 (some .boolean) [aR (some 66), aI a1, aI a2] n iv rv (fB0 n iv rv K) := by
  refine Call.by (L := [aR (some 66), aI a1, aI a2, aJ]) (by decide) rfl ⟨trivial, trivial, trivial, trivial⟩ rfl (Nat.le_of_ble_eq_true rfl) (fun Γ X hR => ?_)
  unfold wp_X12_isWalked at h
  refine g_iconst (q := 1) 0 X dX12_isWalked_0 rfl rfl ic_0 ?_
  refine g_istore_n (q := 2) 3 (L' := [aR (some 66), aI a1, aI a2, aI 0]) X dX12_isWalked_1 rfl rfl (by decide) rfl rfl ?_
  exact cl_X12_isWalked_2 X hR hK   h
def bd_X12_arrives_121 (P121 : Int → Int → IV → Prop) (l1 l4 : Int) (iv : IV) (rv : RV) (K : IV → Prop) : Prop :=
  ((l1 ≤ l4) → (K iv)) ∧ ((¬ (l1 ≤ l4)) → ((0 ≤ l4 ∧ l4 < 8) ∧ (0 ≤ l4 ∧ l4 < 8) ∧ ∀ iv4, iv4 = w2 iv 78 l4.toNat (iv 77 l4.toNat) → P121 l1 (w32 (l4 + 1)) iv4))
set_option maxRecDepth 10000 in
theorem cb_X12_arrives_121 {Γ : GX} {n : Nat} {iv : IV} {rv : RV} {K : IV → Prop} {P121 : Int → Int → IV → Prop} {l1 l4 : Int} (X : Cx Γ RX12 cX12_arrives 6 0) (hR : Rt Γ none 0 0 (fV1 n rv K)) (hK : Lk n rv)  (hP121 : ∀ (l1' l4' : Int) (iv' : IV), P121 l1' l4' iv' → G Γ 6 121 [aR (some 66), aI (l1'), aJ, aJ, aI (l4'), aJ] [] n iv' rv 0 0) (h : bd_X12_arrives_121 P121 l1 l4 iv rv K) : G Γ 6 121 [aR (some 66), aI l1, aJ, aJ, aI l4, aJ] [] n iv rv 0 0 := by
  unfold bd_X12_arrives_121 at h
  refine g_iload (q := 123) 4 X dX12_arrives_121 rfl rfl ?_
  refine g_iload_n (q := 124) 1 X dX12_arrives_123 rfl rfl rfl ?_
  refine g_icmp_ge (q := 127) 147 X dX12_arrives_124 (by decide) rfl (fun c1 => ?_) (fun c1 => ?_)
  · have h := h.1 c1
    exact g_vret (q := 0) X hR dX12_arrives_147 rfl ⟨rfl, rfl, rfl, h⟩
  · have h := h.2 c1
    refine g_aload_n (q := 128) 0 X dX12_arrives_127 rfl rfl rfl ?_
    refine g_getR (q := 131) (r := some 78) 12 35 X (lk_66_35 hK) (lt2000 (c := 0) (by decide)) kf_X12_51 (by decide) (by decide) rfl rfl (hK.n (by decide)) dX12_arrives_128 rfl ?_
    refine g_iload (q := 133) 4 X dX12_arrives_131 rfl rfl ?_
    refine g_aload_n (q := 134) 0 X dX12_arrives_133 rfl rfl rfl ?_
    refine g_getR (q := 137) (r := some 77) 12 34 X (lk_66_34 hK) (lt2000 (c := 0) (by decide)) kf_X12_48 (by decide) (by decide) rfl rfl (hK.n (by decide)) dX12_arrives_134 rfl ?_
    refine g_iload (q := 139) 4 X dX12_arrives_137 rfl rfl ?_
    obtain ⟨s2, h⟩ := h
    refine g_iald (q := 140) X rfl (hK.n (by decide)) s2 dX12_arrives_139 rfl ?_
    obtain ⟨s3, h⟩ := h
    refine g_iast (q := 141) X rfl (hK.n (by decide)) s3 dX12_arrives_140 rfl ?_
    refine g_nmM (fun iv4 eiv4 => ?_)
    have h := h iv4 eiv4
    refine g_iinc (q := 144) 4 (L' := [aR (some 66), aI l1, aJ, aJ, aI (w32 (l4 + 1)), aJ]) X dX12_arrives_141 rfl (by decide) rfl rfl rfl ?_
    refine g_goto (q := 121) X dX12_arrives_144 (by decide) ?_
    exact hP121 _ _ _ h
def wl_X12_arrives_121 (l1 l4 : Int) (iv : IV) (rv : RV) (K : IV → Prop) : Prop :=
  ∀ P : Int → Int → IV → Prop, (∀ (l1' l4' : Int) (iv' : IV), bd_X12_arrives_121  P l1' l4' iv' rv K → P l1' l4' iv') → P l1 l4 iv
theorem cl_X12_arrives_121 {Γ : GX} {n : Nat} {iv : IV} {rv : RV} {K : IV → Prop} {l1 l4 : Int} (X : Cx Γ RX12 cX12_arrives 6 0) (hR : Rt Γ none 0 0 (fV1 n rv K)) (hK : Lk n rv)  (h : wl_X12_arrives_121 l1 l4 iv rv K) : G Γ 6 121 [aR (some 66), aI l1, aJ, aJ, aI l4, aJ] [] n iv rv 0 0 := by
  exact h (fun l1' l4' iv' =>  G Γ 6 121 [aR (some 66), aI (l1'), aJ, aJ, aI (l4'), aJ] [] n iv' rv 0 0) (fun l1' l4' iv' hb => cb_X12_arrives_121 X hR hK   (fun l1' l4' iv' hp => hp) hb)
def bd_X12_arrives_103 (l1 l2 l3 : Int) (iv : IV) (rv : RV) (K : IV → Prop) : Prop :=
  ∀ iv1, iv1 = w2 iv 66 36 l1 → ∀ iv2, iv2 = w2 iv1 66 37 l2 → ∀ iv3, iv3 = w2 iv2 66 38 l3 → wl_X12_arrives_121 l1 0 iv3 rv K
set_option maxRecDepth 10000 in
theorem cb_X12_arrives_103 {Γ : GX} {n : Nat} {iv : IV} {rv : RV} {K : IV → Prop} {l1 l2 l3 : Int} (X : Cx Γ RX12 cX12_arrives 6 0) (hR : Rt Γ none 0 0 (fV1 n rv K)) (hK : Lk n rv)  (h : bd_X12_arrives_103 l1 l2 l3 iv rv K) : G Γ 6 103 [aR (some 66), aI l1, aI l2, aI l3, aJ, aJ] [] n iv rv 0 0 := by
  unfold bd_X12_arrives_103 at h
  refine g_aload_n (q := 104) 0 X dX12_arrives_103 rfl rfl rfl ?_
  refine g_iload_n (q := 105) 1 X dX12_arrives_104 rfl rfl rfl ?_
  refine g_putI (q := 108) 12 36 X (Or.inl rfl) rfl kf_X12_536 (by decide) (by decide) rfl (hK.n (by decide)) dX12_arrives_105 rfl ?_
  refine g_nmM (fun iv1 eiv1 => ?_)
  have h := h iv1 eiv1
  refine g_aload_n (q := 109) 0 X dX12_arrives_108 rfl rfl rfl ?_
  refine g_iload_n (q := 110) 2 X dX12_arrives_109 rfl rfl rfl ?_
  refine g_putI (q := 113) 12 37 X (Or.inl rfl) rfl kf_X12_539 (by decide) (by decide) rfl (hK.n (by decide)) dX12_arrives_110 rfl ?_
  refine g_nmM (fun iv2 eiv2 => ?_)
  have h := h iv2 eiv2
  refine g_aload_n (q := 114) 0 X dX12_arrives_113 rfl rfl rfl ?_
  refine g_iload_n (q := 115) 3 X dX12_arrives_114 rfl rfl rfl ?_
  refine g_putI (q := 118) 12 38 X (Or.inl rfl) rfl kf_X12_542 (by decide) (by decide) rfl (hK.n (by decide)) dX12_arrives_115 rfl ?_
  refine g_nmM (fun iv3 eiv3 => ?_)
  have h := h iv3 eiv3
  refine g_iconst (q := 119) 0 X dX12_arrives_118 rfl rfl ic_0 ?_
  refine g_istore (q := 121) (k0 := 0) 4 (L' := [aR (some 66), aI l1, aI l2, aI l3, aI 0, aJ]) X dX12_arrives_119 rfl (by decide) rfl rfl ?_
  refine g_sub (L' := [aR (some 66), aI l1, aJ, aJ, aI 0, aJ]) ⟨Or.inr rfl, Or.inr rfl, Or.inl rfl, Or.inl rfl, Or.inr rfl, Or.inl rfl, trivial⟩ ?_
  exact cl_X12_arrives_121 X hR hK   h
def bd_X12_arrives_7 (P7 : Int → Int → Int → Int → IV → Prop) (l1 l2 l3 l4 : Int) (iv : IV) (rv : RV) (K : IV → Prop) : Prop :=
  ((l1 ≤ (w32 (l4 + 1))) → ((((iv 66 36) ≤ 0) → (bd_X12_arrives_103 l1 l2 l3 iv rv K)) ∧ ((¬ ((iv 66 36) ≤ 0)) → ((((iv 66 37) < l2) → (K iv)) ∧ ((¬ ((iv 66 37) < l2)) → (((l2 ≠ (iv 66 37)) → (bd_X12_arrives_103 l1 l2 l3 iv rv K)) ∧ ((l2 = (iv 66 37)) → (((l3 < (iv 66 38)) → (bd_X12_arrives_103 l1 l2 l3 iv rv K)) ∧ ((¬ (l3 < (iv 66 38))) → (K iv)))))))))) ∧ ((¬ (l1 ≤ (w32 (l4 + 1)))) → ((0 ≤ l4 ∧ l4 < 8) ∧ (0 ≤ w32 (l4 + 1) ∧ w32 (l4 + 1) < 8) ∧ ∀ x8, x8 = w32 ((w32 (8 * (iv 77 l4.toNat))) + (iv 77 (w32 (l4 + 1)).toNat)) → (0 ≤ x8 ∧ x8 < 64) ∧ ∀ x10, x10 = w32 (l2 + (iv 76 x8.toNat)) → (rv 66 3 = some 80) ∧ (0 ≤ x8 ∧ x8 < 64) ∧ (0 ≤ iv 75 x8.toNat ∧ iv 75 x8.toNat < 20) ∧ ∀ x13, x13 = w32 (l3 + (iv 85 (iv 75 x8.toNat).toNat)) → P7 l1 x10 x13 (w32 (l4 + 1)) iv))
set_option maxRecDepth 10000 in
theorem cb_X12_arrives_7 {Γ : GX} {n : Nat} {iv : IV} {rv : RV} {K : IV → Prop} {P7 : Int → Int → Int → Int → IV → Prop} {l1 l2 l3 l4 : Int} (X : Cx Γ RX12 cX12_arrives 6 0) (hR : Rt Γ none 0 0 (fV1 n rv K)) (hK : Lk n rv)  (hP7 : ∀ (l1' l2' l3' l4' : Int) (iv' : IV), P7 l1' l2' l3' l4' iv' → G Γ 6 7 [aR (some 66), aI (l1'), aI (l2'), aI (l3'), aI (l4'), aJ] [] n iv' rv 0 0) (h : bd_X12_arrives_7 P7 l1 l2 l3 l4 iv rv K) : G Γ 6 7 [aR (some 66), aI l1, aI l2, aI l3, aI l4, aJ] [] n iv rv 0 0 := by
  unfold bd_X12_arrives_7 at h
  refine g_iload (q := 9) 4 X dX12_arrives_7 rfl rfl ?_
  refine g_iconst (q := 10) 1 X dX12_arrives_9 rfl rfl ic_1 ?_
  refine g_iadd (q := 11) X dX12_arrives_10 rfl ?_
  refine g_iload_n (q := 12) 1 X dX12_arrives_11 rfl rfl rfl ?_
  refine g_icmp_ge (q := 15) 71 X dX12_arrives_12 (by decide) rfl (fun c1 => ?_) (fun c1 => ?_)
  · have h := h.1 c1
    refine g_aload_n (q := 72) 0 X dX12_arrives_71 rfl rfl rfl ?_
    refine g_getI (q := 75) 12 36 X kf_X12_536 (by decide) (by decide) rfl rfl (hK.n (by decide)) dX12_arrives_72 rfl ?_
    refine g_if_le (q := 78) 103 X dX12_arrives_75 (by decide) rfl (fun c2 => ?_) (fun c2 => ?_)
    · have h := h.1 c2
      refine g_sub (L' := [aR (some 66), aI l1, aI l2, aI l3, aJ, aJ]) ⟨Or.inr rfl, Or.inr rfl, Or.inr rfl, Or.inr rfl, Or.inl rfl, Or.inl rfl, trivial⟩ ?_
      exact cb_X12_arrives_103 X hR hK   h
    · have h := h.2 c2
      refine g_iload_n (q := 79) 2 X dX12_arrives_78 rfl rfl rfl ?_
      refine g_aload_n (q := 80) 0 X dX12_arrives_79 rfl rfl rfl ?_
      refine g_getI (q := 83) 12 37 X kf_X12_539 (by decide) (by decide) rfl rfl (hK.n (by decide)) dX12_arrives_80 rfl ?_
      refine g_icmp_gt (q := 86) 102 X dX12_arrives_83 (by decide) rfl (fun c3 => ?_) (fun c3 => ?_)
      · have h := h.1 c3
        exact g_vret (q := 0) X hR dX12_arrives_102 rfl ⟨rfl, rfl, rfl, h⟩
      · have h := h.2 c3
        refine g_iload_n (q := 87) 2 X dX12_arrives_86 rfl rfl rfl ?_
        refine g_aload_n (q := 88) 0 X dX12_arrives_87 rfl rfl rfl ?_
        refine g_getI (q := 91) 12 37 X kf_X12_539 (by decide) (by decide) rfl rfl (hK.n (by decide)) dX12_arrives_88 rfl ?_
        refine g_icmp_ne (q := 94) 103 X dX12_arrives_91 (by decide) rfl (fun c4 => ?_) (fun c4 => ?_)
        · have h := h.1 c4
          refine g_sub (L' := [aR (some 66), aI l1, aI l2, aI l3, aJ, aJ]) ⟨Or.inr rfl, Or.inr rfl, Or.inr rfl, Or.inr rfl, Or.inl rfl, Or.inl rfl, trivial⟩ ?_
          exact cb_X12_arrives_103 X hR hK   h
        · have h := h.2 c4
          refine g_iload_n (q := 95) 3 X dX12_arrives_94 rfl rfl rfl ?_
          refine g_aload_n (q := 96) 0 X dX12_arrives_95 rfl rfl rfl ?_
          refine g_getI (q := 99) 12 38 X kf_X12_542 (by decide) (by decide) rfl rfl (hK.n (by decide)) dX12_arrives_96 rfl ?_
          refine g_icmp_lt (q := 102) 103 X dX12_arrives_99 (by decide) rfl (fun c5 => ?_) (fun c5 => ?_)
          · have h := h.1 c5
            refine g_sub (L' := [aR (some 66), aI l1, aI l2, aI l3, aJ, aJ]) ⟨Or.inr rfl, Or.inr rfl, Or.inr rfl, Or.inr rfl, Or.inl rfl, Or.inl rfl, trivial⟩ ?_
            exact cb_X12_arrives_103 X hR hK   h
          · have h := h.2 c5
            exact g_vret (q := 0) X hR dX12_arrives_102 rfl ⟨rfl, rfl, rfl, h⟩
  · have h := h.2 c1
    refine g_bipush (q := 17) 8 X dX12_arrives_15 rfl bc_8 ic_8 ?_
    refine g_aload_n (q := 18) 0 X dX12_arrives_17 rfl rfl rfl ?_
    refine g_getR (q := 21) (r := some 77) 12 34 X (lk_66_34 hK) (lt2000 (c := 0) (by decide)) kf_X12_48 (by decide) (by decide) rfl rfl (hK.n (by decide)) dX12_arrives_18 rfl ?_
    refine g_iload (q := 23) 4 X dX12_arrives_21 rfl rfl ?_
    obtain ⟨s6, h⟩ := h
    refine g_iald (q := 24) X rfl (hK.n (by decide)) s6 dX12_arrives_23 rfl ?_
    refine g_imul (q := 25) X dX12_arrives_24 rfl ?_
    refine g_aload_n (q := 26) 0 X dX12_arrives_25 rfl rfl rfl ?_
    refine g_getR (q := 29) (r := some 77) 12 34 X (lk_66_34 hK) (lt2000 (c := 0) (by decide)) kf_X12_48 (by decide) (by decide) rfl rfl (hK.n (by decide)) dX12_arrives_26 rfl ?_
    refine g_iload (q := 31) 4 X dX12_arrives_29 rfl rfl ?_
    refine g_iconst (q := 32) 1 X dX12_arrives_31 rfl rfl ic_1 ?_
    refine g_iadd (q := 33) X dX12_arrives_32 rfl ?_
    obtain ⟨s7, h⟩ := h
    refine g_iald (q := 34) X rfl (hK.n (by decide)) s7 dX12_arrives_33 rfl ?_
    refine g_iadd (q := 35) X dX12_arrives_34 rfl ?_
    refine g_nmI (fun x8 ex8 => ?_)
    have h := h x8 ex8
    refine g_istore (q := 37) (k0 := 0) 5 (L' := [aR (some 66), aI l1, aI l2, aI l3, aI l4, aI x8]) X dX12_arrives_35 rfl (by decide) rfl rfl ?_
    refine g_iload_n (q := 38) 2 X dX12_arrives_37 rfl rfl rfl ?_
    refine g_aload_n (q := 39) 0 X dX12_arrives_38 rfl rfl rfl ?_
    refine g_getR (q := 42) (r := some 76) 12 33 X (lk_66_33 hK) (lt2000 (c := 0) (by decide)) kf_X12_45 (by decide) (by decide) rfl rfl (hK.n (by decide)) dX12_arrives_39 rfl ?_
    refine g_iload (q := 44) 5 X dX12_arrives_42 rfl rfl ?_
    obtain ⟨s9, h⟩ := h
    refine g_iald (q := 45) X rfl (hK.n (by decide)) s9 dX12_arrives_44 rfl ?_
    refine g_iadd (q := 46) X dX12_arrives_45 rfl ?_
    refine g_nmI (fun x10 ex10 => ?_)
    have h := h x10 ex10
    refine g_istore_n (q := 47) 2 (L' := [aR (some 66), aI l1, aI x10, aI l3, aI l4, aI x8]) X dX12_arrives_46 rfl rfl (by decide) rfl rfl ?_
    refine g_iload_n (q := 48) 3 X dX12_arrives_47 rfl rfl rfl ?_
    refine g_aload_n (q := 49) 0 X dX12_arrives_48 rfl rfl rfl ?_
    obtain ⟨hm80, h⟩ := h
    refine g_getR (q := 52) (r := some 80) 12 3 X hm80 (lt2000 (c := 0) (by decide)) kf_X12_442 (by decide) (by decide) rfl rfl (hK.n (by decide)) dX12_arrives_49 rfl ?_
    refine g_getR (q := 55) (r := some 85) 11 18 X (lkM_18 hK (Or.inl rfl) (hK.2.2.2.2.2.2.1 80 hm80 (Or.inl rfl))) (lt2000 (c := 0) (by decide)) kf_X12_285 (by decide) (by decide) rfl rfl (Nat.lt_of_lt_of_le (by decide) (hK.2.2.2.2.2.2.1 80 hm80 (Or.inl rfl))) dX12_arrives_52 rfl ?_
    refine g_aload_n (q := 56) 0 X dX12_arrives_55 rfl rfl rfl ?_
    refine g_getR (q := 59) (r := some 75) 12 32 X (lk_66_32 hK) (lt2000 (c := 0) (by decide)) kf_X12_42 (by decide) (by decide) rfl rfl (hK.n (by decide)) dX12_arrives_56 rfl ?_
    refine g_iload (q := 61) 5 X dX12_arrives_59 rfl rfl ?_
    obtain ⟨s11, h⟩ := h
    refine g_iald (q := 62) X rfl (hK.n (by decide)) s11 dX12_arrives_61 rfl ?_
    obtain ⟨s12, h⟩ := h
    refine g_iald (q := 63) X rfl (Nat.lt_of_lt_of_le (by decide) (hK.2.2.2.2.2.2.1 80 hm80 (Or.inl rfl))) s12 dX12_arrives_62 rfl ?_
    refine g_iadd (q := 64) X dX12_arrives_63 rfl ?_
    refine g_nmI (fun x13 ex13 => ?_)
    have h := h x13 ex13
    refine g_istore_n (q := 65) 3 (L' := [aR (some 66), aI l1, aI x10, aI x13, aI l4, aI x8]) X dX12_arrives_64 rfl rfl (by decide) rfl rfl ?_
    refine g_iinc (q := 68) 4 (L' := [aR (some 66), aI l1, aI x10, aI x13, aI (w32 (l4 + 1)), aI x8]) X dX12_arrives_65 rfl (by decide) rfl rfl rfl ?_
    refine g_goto (q := 7) X dX12_arrives_68 (by decide) ?_
    refine g_sub (L' := [aR (some 66), aI l1, aI x10, aI x13, aI (w32 (l4 + 1)), aJ]) ⟨Or.inr rfl, Or.inr rfl, Or.inr rfl, Or.inr rfl, Or.inr rfl, Or.inl rfl, trivial⟩ ?_
    exact hP7 _ _ _ _ _ h
def wl_X12_arrives_7 (l1 l2 l3 l4 : Int) (iv : IV) (rv : RV) (K : IV → Prop) : Prop :=
  ∀ P : Int → Int → Int → Int → IV → Prop, (∀ (l1' l2' l3' l4' : Int) (iv' : IV), bd_X12_arrives_7  P l1' l2' l3' l4' iv' rv K → P l1' l2' l3' l4' iv') → P l1 l2 l3 l4 iv
theorem cl_X12_arrives_7 {Γ : GX} {n : Nat} {iv : IV} {rv : RV} {K : IV → Prop} {l1 l2 l3 l4 : Int} (X : Cx Γ RX12 cX12_arrives 6 0) (hR : Rt Γ none 0 0 (fV1 n rv K)) (hK : Lk n rv)  (h : wl_X12_arrives_7 l1 l2 l3 l4 iv rv K) : G Γ 6 7 [aR (some 66), aI l1, aI l2, aI l3, aI l4, aJ] [] n iv rv 0 0 := by
  exact h (fun l1' l2' l3' l4' iv' =>  G Γ 6 7 [aR (some 66), aI (l1'), aI (l2'), aI (l3'), aI (l4'), aJ] [] n iv' rv 0 0) (fun l1' l2' l3' l4' iv' hb => cb_X12_arrives_7 X hR hK   (fun l1' l2' l3' l4' iv' hp => hp) hb)
def wp_X12_arrives (a1 : Int) (iv : IV) (rv : RV) (K : IV → Prop) : Prop :=
  wl_X12_arrives_7 a1 0 0 0 iv rv K
set_option maxRecDepth 10000 in
theorem ce_X12_arrives {n : Nat} {iv : IV} {rv : RV} {K : IV → Prop} {a1 : Int} (hK : Lk n rv)  (h : wp_X12_arrives a1 iv rv K) : Call 0 0 0 yX12_arrives cX12_arrives 6 none [aR (some 66), aI a1] n iv rv (fV1 n rv K) := by
  refine Call.by (L := [aR (some 66), aI a1, aJ, aJ, aJ, aJ]) (by decide) rfl ⟨trivial, trivial, trivial⟩ rfl (Nat.le_of_ble_eq_true rfl) (fun Γ X hR => ?_)
  unfold wp_X12_arrives at h
  refine g_iconst (q := 1) 0 X dX12_arrives_0 rfl rfl ic_0 ?_
  refine g_istore_n (q := 2) 2 (L' := [aR (some 66), aI a1, aI 0, aJ, aJ, aJ]) X dX12_arrives_1 rfl rfl (by decide) rfl rfl ?_
  refine g_iconst (q := 3) 0 X dX12_arrives_2 rfl rfl ic_0 ?_
  refine g_istore_n (q := 4) 3 (L' := [aR (some 66), aI a1, aI 0, aI 0, aJ, aJ]) X dX12_arrives_3 rfl rfl (by decide) rfl rfl ?_
  refine g_iconst (q := 5) 0 X dX12_arrives_4 rfl rfl ic_0 ?_
  refine g_istore (q := 7) (k0 := 0) 4 (L' := [aR (some 66), aI a1, aI 0, aI 0, aI 0, aJ]) X dX12_arrives_5 rfl (by decide) rfl rfl ?_
  exact cl_X12_arrives_7 X hR hK   h
def bd_X12_finds_179 (P29 : Int → Int → Int → IV → Prop) (l1 l2 l3 : Int) (iv : IV) (rv : RV) (K : Int → IV → Prop) : Prop :=
  P29 l1 l2 l3 iv
set_option maxRecDepth 10000 in
theorem cb_X12_finds_179 {Γ : GX} {n : Nat} {iv : IV} {rv : RV} {K : Int → IV → Prop} {P29 : Int → Int → Int → IV → Prop} {l1 l2 l3 : Int} (X : Cx Γ RX12 cX12_finds 6 6) (hR : Rt Γ (some .boolean) 0 0 (fB1 n rv K)) (hK : Lk n rv)  (hP29 : ∀ (l1' l2' l3' : Int) (iv' : IV), P29 l1' l2' l3' iv' → G Γ 6 29 [aR (some 66), aI (l1'), aI (l2'), aI (l3'), aJ, aJ] [] n iv' rv 0 0) (h : bd_X12_finds_179 P29 l1 l2 l3 iv rv K) : G Γ 6 179 [aR (some 66), aI l1, aI l2, aI l3, aJ, aJ] [] n iv rv 0 0 := by
  unfold bd_X12_finds_179 at h
  refine g_goto (q := 29) X dX12_finds_179 (by decide) ?_
  exact hP29 _ _ _ _ h
def bd_X12_finds_139 (P29 : Int → Int → Int → IV → Prop) (l1 l2 l5 : Int) (iv : IV) (rv : RV) (K : Int → IV → Prop) : Prop :=
  (rv 66 3 = some 80) ∧ (((iv 80 0) ≤ l5) → ((0 ≤ w32 (l2 + (-1)) ∧ w32 (l2 + (-1)) < 8) ∧ ∀ x3, x3 = w32 ((iv 77 (w32 (l2 + (-1))).toNat) + 1) → bd_X12_finds_179 P29 l1 (w32 (l2 + (-1))) x3 iv rv K)) ∧ ((¬ ((iv 80 0) ≤ l5)) → ((0 ≤ l2 ∧ l2 < 8) ∧ ∀ iv5, iv5 = w2 iv 77 l2.toNat l5 → bd_X12_finds_179 P29 l1 (w32 (l2 + 1)) 0 iv5 rv K))
set_option maxRecDepth 10000 in
theorem cb_X12_finds_139 {Γ : GX} {n : Nat} {iv : IV} {rv : RV} {K : Int → IV → Prop} {P29 : Int → Int → Int → IV → Prop} {l1 l2 l5 : Int} (X : Cx Γ RX12 cX12_finds 6 6) (hR : Rt Γ (some .boolean) 0 0 (fB1 n rv K)) (hK : Lk n rv)  (hP29 : ∀ (l1' l2' l3' : Int) (iv' : IV), P29 l1' l2' l3' iv' → G Γ 6 29 [aR (some 66), aI (l1'), aI (l2'), aI (l3'), aJ, aJ] [] n iv' rv 0 0) (h : bd_X12_finds_139 P29 l1 l2 l5 iv rv K) : G Γ 6 139 [aR (some 66), aI l1, aI l2, aJ, aJ, aI l5] [] n iv rv 0 0 := by
  unfold bd_X12_finds_139 at h
  refine g_iload (q := 141) 5 X dX12_finds_139 rfl rfl ?_
  refine g_aload_n (q := 142) 0 X dX12_finds_141 rfl rfl rfl ?_
  obtain ⟨hm80, h⟩ := h
  refine g_getR (q := 145) (r := some 80) 12 3 X hm80 (lt2000 (c := 0) (by decide)) kf_X12_442 (by decide) (by decide) rfl rfl (hK.n (by decide)) dX12_finds_142 rfl ?_
  refine g_getI (q := 148) 11 0 X kf_X12_196 (by decide) (by decide) rfl rfl (Nat.lt_of_lt_of_le (by decide) (hK.2.2.2.2.2.2.1 80 hm80 (Or.inl rfl))) dX12_finds_145 rfl ?_
  refine g_icmp_ge (q := 151) 167 X dX12_finds_148 (by decide) rfl (fun c1 => ?_) (fun c1 => ?_)
  · have h := h.1 c1
    refine g_iinc (q := 170) 2 (L' := [aR (some 66), aI l1, aI (w32 (l2 + (-1))), aJ, aJ, aI l5]) X dX12_finds_167 rfl (by decide) rfl rfl rfl ?_
    refine g_aload_n (q := 171) 0 X dX12_finds_170 rfl rfl rfl ?_
    refine g_getR (q := 174) (r := some 77) 12 34 X (lk_66_34 hK) (lt2000 (c := 0) (by decide)) kf_X12_48 (by decide) (by decide) rfl rfl (hK.n (by decide)) dX12_finds_171 rfl ?_
    refine g_iload_n (q := 175) 2 X dX12_finds_174 rfl rfl rfl ?_
    obtain ⟨s2, h⟩ := h
    refine g_iald (q := 176) X rfl (hK.n (by decide)) s2 dX12_finds_175 rfl ?_
    refine g_iconst (q := 177) 1 X dX12_finds_176 rfl rfl ic_1 ?_
    refine g_iadd (q := 178) X dX12_finds_177 rfl ?_
    refine g_nmI (fun x3 ex3 => ?_)
    have h := h x3 ex3
    refine g_istore_n (q := 179) 3 (L' := [aR (some 66), aI l1, aI (w32 (l2 + (-1))), aI x3, aJ, aI l5]) X dX12_finds_178 rfl rfl (by decide) rfl rfl ?_
    refine g_sub (L' := [aR (some 66), aI l1, aI (w32 (l2 + (-1))), aI x3, aJ, aJ]) ⟨Or.inr rfl, Or.inr rfl, Or.inr rfl, Or.inr rfl, Or.inl rfl, Or.inl rfl, trivial⟩ ?_
    exact cb_X12_finds_179 X hR hK  hP29 h
  · have h := h.2 c1
    refine g_aload_n (q := 152) 0 X dX12_finds_151 rfl rfl rfl ?_
    refine g_getR (q := 155) (r := some 77) 12 34 X (lk_66_34 hK) (lt2000 (c := 0) (by decide)) kf_X12_48 (by decide) (by decide) rfl rfl (hK.n (by decide)) dX12_finds_152 rfl ?_
    refine g_iload_n (q := 156) 2 X dX12_finds_155 rfl rfl rfl ?_
    refine g_iload (q := 158) 5 X dX12_finds_156 rfl rfl ?_
    obtain ⟨s4, h⟩ := h
    refine g_iast (q := 159) X rfl (hK.n (by decide)) s4 dX12_finds_158 rfl ?_
    refine g_nmM (fun iv5 eiv5 => ?_)
    have h := h iv5 eiv5
    refine g_iinc (q := 162) 2 (L' := [aR (some 66), aI l1, aI (w32 (l2 + 1)), aJ, aJ, aI l5]) X dX12_finds_159 rfl (by decide) rfl rfl rfl ?_
    refine g_iconst (q := 163) 0 X dX12_finds_162 rfl rfl ic_0 ?_
    refine g_istore_n (q := 164) 3 (L' := [aR (some 66), aI l1, aI (w32 (l2 + 1)), aI 0, aJ, aI l5]) X dX12_finds_163 rfl rfl (by decide) rfl rfl ?_
    refine g_goto (q := 179) X dX12_finds_164 (by decide) ?_
    refine g_sub (L' := [aR (some 66), aI l1, aI (w32 (l2 + 1)), aI 0, aJ, aJ]) ⟨Or.inr rfl, Or.inr rfl, Or.inr rfl, Or.inr rfl, Or.inl rfl, Or.inl rfl, trivial⟩ ?_
    exact cb_X12_finds_179 X hR hK  hP29 h
def bd_X12_finds_133 (P29 : Int → Int → Int → IV → Prop) (P88 : Int → Int → Int → IV → Prop) (l1 l2 l5 : Int) (iv : IV) (rv : RV) (K : Int → IV → Prop) : Prop :=
  P88 l1 l2 (w32 (l5 + 1)) iv
set_option maxRecDepth 10000 in
theorem cb_X12_finds_133 {Γ : GX} {n : Nat} {iv : IV} {rv : RV} {K : Int → IV → Prop} {P29 : Int → Int → Int → IV → Prop} {P88 : Int → Int → Int → IV → Prop} {l1 l2 l5 : Int} (X : Cx Γ RX12 cX12_finds 6 6) (hR : Rt Γ (some .boolean) 0 0 (fB1 n rv K)) (hK : Lk n rv)  (hP29 : ∀ (l1' l2' l3' : Int) (iv' : IV), P29 l1' l2' l3' iv' → G Γ 6 29 [aR (some 66), aI (l1'), aI (l2'), aI (l3'), aJ, aJ] [] n iv' rv 0 0) (hP88 : ∀ (l1' l2' l5' : Int) (iv' : IV), P88 l1' l2' l5' iv' → G Γ 6 88 [aR (some 66), aI (l1'), aI (l2'), aJ, aJ, aI (l5')] [] n iv' rv 0 0) (h : bd_X12_finds_133 P29 P88 l1 l2 l5 iv rv K) : G Γ 6 133 [aR (some 66), aI l1, aI l2, aJ, aJ, aI l5] [] n iv rv 0 0 := by
  unfold bd_X12_finds_133 at h
  refine g_iinc (q := 136) 5 (L' := [aR (some 66), aI l1, aI l2, aJ, aJ, aI (w32 (l5 + 1))]) X dX12_finds_133 rfl (by decide) rfl rfl rfl ?_
  refine g_goto (q := 88) X dX12_finds_136 (by decide) ?_
  exact hP88 _ _ _ _ h
def bd_X12_finds_88 (P29 : Int → Int → Int → IV → Prop) (P88 : Int → Int → Int → IV → Prop) (l1 l2 l5 : Int) (iv : IV) (rv : RV) (K : Int → IV → Prop) : Prop :=
  (rv 66 3 = some 80) ∧ (((iv 80 0) ≤ l5) → (bd_X12_finds_139 P29 l1 l2 l5 iv rv K)) ∧ ((¬ ((iv 80 0) ≤ l5)) → ((0 ≤ w32 (l2 - 1) ∧ w32 (l2 - 1) < 8) ∧ (0 ≤ w32 ((w32 (8 * (iv 77 (w32 (l2 - 1)).toNat))) + l5) ∧ w32 ((w32 (8 * (iv 77 (w32 (l2 - 1)).toNat))) + l5) < 64) ∧ (((iv 75 (w32 ((w32 (8 * (iv 77 (w32 (l2 - 1)).toNat))) + l5)).toNat) = (-1)) → (bd_X12_finds_133 P29 P88 l1 l2 l5 iv rv K)) ∧ ((¬ ((iv 75 (w32 ((w32 (8 * (iv 77 (w32 (l2 - 1)).toNat))) + l5)).toNat) = (-1))) → (wp_X12_isWalked l5 l2 iv rv (fun r5 => ((r5 = 0) → (bd_X12_finds_139 P29 l1 l2 l5 iv rv K)) ∧ ((¬ (r5 = 0)) → (bd_X12_finds_133 P29 P88 l1 l2 l5 iv rv K)))))))
set_option maxRecDepth 10000 in
theorem cb_X12_finds_88 {Γ : GX} {n : Nat} {iv : IV} {rv : RV} {K : Int → IV → Prop} {P29 : Int → Int → Int → IV → Prop} {P88 : Int → Int → Int → IV → Prop} {l1 l2 l5 : Int} (X : Cx Γ RX12 cX12_finds 6 6) (hR : Rt Γ (some .boolean) 0 0 (fB1 n rv K)) (hK : Lk n rv)  (hP29 : ∀ (l1' l2' l3' : Int) (iv' : IV), P29 l1' l2' l3' iv' → G Γ 6 29 [aR (some 66), aI (l1'), aI (l2'), aI (l3'), aJ, aJ] [] n iv' rv 0 0) (hP88 : ∀ (l1' l2' l5' : Int) (iv' : IV), P88 l1' l2' l5' iv' → G Γ 6 88 [aR (some 66), aI (l1'), aI (l2'), aJ, aJ, aI (l5')] [] n iv' rv 0 0) (h : bd_X12_finds_88 P29 P88 l1 l2 l5 iv rv K) : G Γ 6 88 [aR (some 66), aI l1, aI l2, aJ, aJ, aI l5] [] n iv rv 0 0 := by
  unfold bd_X12_finds_88 at h
  refine g_iload (q := 90) 5 X dX12_finds_88 rfl rfl ?_
  refine g_aload_n (q := 91) 0 X dX12_finds_90 rfl rfl rfl ?_
  obtain ⟨hm80, h⟩ := h
  refine g_getR (q := 94) (r := some 80) 12 3 X hm80 (lt2000 (c := 0) (by decide)) kf_X12_442 (by decide) (by decide) rfl rfl (hK.n (by decide)) dX12_finds_91 rfl ?_
  refine g_getI (q := 97) 11 0 X kf_X12_196 (by decide) (by decide) rfl rfl (Nat.lt_of_lt_of_le (by decide) (hK.2.2.2.2.2.2.1 80 hm80 (Or.inl rfl))) dX12_finds_94 rfl ?_
  refine g_icmp_ge (q := 100) 139 X dX12_finds_97 (by decide) rfl (fun c1 => ?_) (fun c1 => ?_)
  · have h := h.1 c1
    exact cb_X12_finds_139 X hR hK  hP29 h
  · have h := h.2 c1
    refine g_aload_n (q := 101) 0 X dX12_finds_100 rfl rfl rfl ?_
    refine g_getR (q := 104) (r := some 75) 12 32 X (lk_66_32 hK) (lt2000 (c := 0) (by decide)) kf_X12_42 (by decide) (by decide) rfl rfl (hK.n (by decide)) dX12_finds_101 rfl ?_
    refine g_bipush (q := 106) 8 X dX12_finds_104 rfl bc_8 ic_8 ?_
    refine g_aload_n (q := 107) 0 X dX12_finds_106 rfl rfl rfl ?_
    refine g_getR (q := 110) (r := some 77) 12 34 X (lk_66_34 hK) (lt2000 (c := 0) (by decide)) kf_X12_48 (by decide) (by decide) rfl rfl (hK.n (by decide)) dX12_finds_107 rfl ?_
    refine g_iload_n (q := 111) 2 X dX12_finds_110 rfl rfl rfl ?_
    refine g_iconst (q := 112) 1 X dX12_finds_111 rfl rfl ic_1 ?_
    refine g_isub (q := 113) X dX12_finds_112 rfl ?_
    obtain ⟨s2, h⟩ := h
    refine g_iald (q := 114) X rfl (hK.n (by decide)) s2 dX12_finds_113 rfl ?_
    refine g_imul (q := 115) X dX12_finds_114 rfl ?_
    refine g_iload (q := 117) 5 X dX12_finds_115 rfl rfl ?_
    refine g_iadd (q := 118) X dX12_finds_117 rfl ?_
    obtain ⟨s3, h⟩ := h
    refine g_iald (q := 119) X rfl (hK.n (by decide)) s3 dX12_finds_118 rfl ?_
    refine g_iconst (q := 120) (-1) X dX12_finds_119 rfl rfl ic_m1 ?_
    refine g_icmp_eq (q := 123) 133 X dX12_finds_120 (by decide) rfl (fun c4 => ?_) (fun c4 => ?_)
    · have h := h.1 c4
      exact cb_X12_finds_133 X hR hK  hP29 hP88 h
    · have h := h.2 c4
      refine g_aload_n (q := 124) 0 X dX12_finds_123 rfl rfl rfl ?_
      refine g_iload (q := 126) 5 X dX12_finds_124 rfl rfl ?_
      refine g_iload_n (q := 127) 2 X dX12_finds_126 rfl rfl rfl ?_
      refine g_cv (q := 130) [aI l5, aI l2] 12 X (ce_X12_isWalked hK  h) kV_X12_551 rfl (by decide) rfl (hK.n (by decide)) rfl rfl (Nat.le_of_ble_eq_true rfl) (by decide) dX12_finds_127 rfl (fun r n_ iv_ rv_ hf => ?_)
      obtain ⟨en_, ei_, er_, r5, rfl, br5, h⟩ := hf; subst n_; subst iv_; subst rv_
      refine g_if_eq (q := 133) 139 X dX12_finds_130 (by decide) rfl (fun c6 => ?_) (fun c6 => ?_)
      · have h := h.1 c6
        exact cb_X12_finds_139 X hR hK  hP29 h
      · have h := h.2 c6
        exact cb_X12_finds_133 X hR hK  hP29 hP88 h
def wl_X12_finds_88 (P29 : Int → Int → Int → IV → Prop) (l1 l2 l5 : Int) (iv : IV) (rv : RV) (K : Int → IV → Prop) : Prop :=
  ∀ P : Int → Int → Int → IV → Prop, (∀ (l1' l2' l5' : Int) (iv' : IV), bd_X12_finds_88 P29 P l1' l2' l5' iv' rv K → P l1' l2' l5' iv') → P l1 l2 l5 iv
theorem cl_X12_finds_88 {Γ : GX} {n : Nat} {iv : IV} {rv : RV} {K : Int → IV → Prop} {P29 : Int → Int → Int → IV → Prop} {l1 l2 l5 : Int} (X : Cx Γ RX12 cX12_finds 6 6) (hR : Rt Γ (some .boolean) 0 0 (fB1 n rv K)) (hK : Lk n rv)  (hP29 : ∀ (l1' l2' l3' : Int) (iv' : IV), P29 l1' l2' l3' iv' → G Γ 6 29 [aR (some 66), aI (l1'), aI (l2'), aI (l3'), aJ, aJ] [] n iv' rv 0 0) (h : wl_X12_finds_88 P29 l1 l2 l5 iv rv K) : G Γ 6 88 [aR (some 66), aI l1, aI l2, aJ, aJ, aI l5] [] n iv rv 0 0 := by
  exact h (fun l1' l2' l5' iv' =>  G Γ 6 88 [aR (some 66), aI (l1'), aI (l2'), aJ, aJ, aI (l5')] [] n iv' rv 0 0) (fun l1' l2' l5' iv' hb => cb_X12_finds_88 X hR hK  hP29 (fun l1' l2' l5' iv' hp => hp) hb)
def bd_X12_finds_86 (P29 : Int → Int → Int → IV → Prop) (l1 l2 t0 : Int) (iv : IV) (rv : RV) (K : Int → IV → Prop) : Prop :=
  wl_X12_finds_88 P29 l1 l2 t0 iv rv K
set_option maxRecDepth 10000 in
theorem cb_X12_finds_86 {Γ : GX} {n : Nat} {iv : IV} {rv : RV} {K : Int → IV → Prop} {P29 : Int → Int → Int → IV → Prop} {l1 l2 t0 : Int} (X : Cx Γ RX12 cX12_finds 6 6) (hR : Rt Γ (some .boolean) 0 0 (fB1 n rv K)) (hK : Lk n rv)  (hP29 : ∀ (l1' l2' l3' : Int) (iv' : IV), P29 l1' l2' l3' iv' → G Γ 6 29 [aR (some 66), aI (l1'), aI (l2'), aI (l3'), aJ, aJ] [] n iv' rv 0 0) (h : bd_X12_finds_86 P29 l1 l2 t0 iv rv K) : G Γ 6 86 [aR (some 66), aI l1, aI l2, aJ, aJ, aJ] [aI t0] n iv rv 0 0 := by
  unfold bd_X12_finds_86 at h
  refine g_istore (q := 88) (k0 := 0) 5 (L' := [aR (some 66), aI l1, aI l2, aJ, aJ, aI t0]) X dX12_finds_86 rfl (by decide) rfl rfl ?_
  exact cl_X12_finds_88 X hR hK  hP29 h
def bd_X12_finds_70 (P29 : Int → Int → Int → IV → Prop) (l1 l2 l3 l4 : Int) (iv : IV) (rv : RV) (K : Int → IV → Prop) : Prop :=
  ((l4 = 0) → (bd_X12_finds_86 P29 l1 l2 l3 iv rv K)) ∧ ((¬ (l4 = 0)) → ((rv 66 3 = some 80) ∧ bd_X12_finds_86 P29 l1 l2 (iv 80 0) iv rv K))
set_option maxRecDepth 10000 in
theorem cb_X12_finds_70 {Γ : GX} {n : Nat} {iv : IV} {rv : RV} {K : Int → IV → Prop} {P29 : Int → Int → Int → IV → Prop} {l1 l2 l3 l4 : Int} (X : Cx Γ RX12 cX12_finds 6 6) (hR : Rt Γ (some .boolean) 0 0 (fB1 n rv K)) (hK : Lk n rv)  (hP29 : ∀ (l1' l2' l3' : Int) (iv' : IV), P29 l1' l2' l3' iv' → G Γ 6 29 [aR (some 66), aI (l1'), aI (l2'), aI (l3'), aJ, aJ] [] n iv' rv 0 0) (h : bd_X12_finds_70 P29 l1 l2 l3 l4 iv rv K) : G Γ 6 70 [aR (some 66), aI l1, aI l2, aI l3, aI l4, aJ] [] n iv rv 0 0 := by
  unfold bd_X12_finds_70 at h
  refine g_iload (q := 72) 4 X dX12_finds_70 rfl rfl ?_
  refine g_if_eq (q := 75) 85 X dX12_finds_72 (by decide) rfl (fun c1 => ?_) (fun c1 => ?_)
  · have h := h.1 c1
    refine g_iload_n (q := 86) 3 X dX12_finds_85 rfl rfl rfl ?_
    refine g_sub (L' := [aR (some 66), aI l1, aI l2, aJ, aJ, aJ]) ⟨Or.inr rfl, Or.inr rfl, Or.inr rfl, Or.inl rfl, Or.inl rfl, Or.inl rfl, trivial⟩ ?_
    exact cb_X12_finds_86 X hR hK  hP29 h
  · have h := h.2 c1
    refine g_aload_n (q := 76) 0 X dX12_finds_75 rfl rfl rfl ?_
    obtain ⟨hm80, h⟩ := h
    refine g_getR (q := 79) (r := some 80) 12 3 X hm80 (lt2000 (c := 0) (by decide)) kf_X12_442 (by decide) (by decide) rfl rfl (hK.n (by decide)) dX12_finds_76 rfl ?_
    refine g_getI (q := 82) 11 0 X kf_X12_196 (by decide) (by decide) rfl rfl (Nat.lt_of_lt_of_le (by decide) (hK.2.2.2.2.2.2.1 80 hm80 (Or.inl rfl))) dX12_finds_79 rfl ?_
    refine g_goto (q := 86) X dX12_finds_82 (by decide) ?_
    refine g_sub (L' := [aR (some 66), aI l1, aI l2, aJ, aJ, aJ]) ⟨Or.inr rfl, Or.inr rfl, Or.inr rfl, Or.inl rfl, Or.inl rfl, Or.inl rfl, trivial⟩ ?_
    exact cb_X12_finds_86 X hR hK  hP29 h
def bd_X12_finds_58 (P29 : Int → Int → Int → IV → Prop) (l1 l2 l3 t0 : Int) (iv : IV) (rv : RV) (K : Int → IV → Prop) : Prop :=
  ((t0 = 0) → (bd_X12_finds_70 P29 l1 l2 l3 t0 iv rv K)) ∧ ((¬ (t0 = 0)) → (wp_X12_arrives l2 iv rv (fun iv2 => bd_X12_finds_70 P29 l1 l2 l3 t0 iv2 rv K)))
set_option maxRecDepth 10000 in
theorem cb_X12_finds_58 {Γ : GX} {n : Nat} {iv : IV} {rv : RV} {K : Int → IV → Prop} {P29 : Int → Int → Int → IV → Prop} {l1 l2 l3 t0 : Int} (X : Cx Γ RX12 cX12_finds 6 6) (hR : Rt Γ (some .boolean) 0 0 (fB1 n rv K)) (hK : Lk n rv)  (hP29 : ∀ (l1' l2' l3' : Int) (iv' : IV), P29 l1' l2' l3' iv' → G Γ 6 29 [aR (some 66), aI (l1'), aI (l2'), aI (l3'), aJ, aJ] [] n iv' rv 0 0) (h : bd_X12_finds_58 P29 l1 l2 l3 t0 iv rv K) : G Γ 6 58 [aR (some 66), aI l1, aI l2, aI l3, aJ, aJ] [aI t0] n iv rv 0 0 := by
  unfold bd_X12_finds_58 at h
  refine g_istore (q := 60) (k0 := 0) 4 (L' := [aR (some 66), aI l1, aI l2, aI l3, aI t0, aJ]) X dX12_finds_58 rfl (by decide) rfl rfl ?_
  refine g_iload (q := 62) 4 X dX12_finds_60 rfl rfl ?_
  refine g_if_eq (q := 65) 70 X dX12_finds_62 (by decide) rfl (fun c1 => ?_) (fun c1 => ?_)
  · have h := h.1 c1
    exact cb_X12_finds_70 X hR hK  hP29 h
  · have h := h.2 c1
    refine g_aload_n (q := 66) 0 X dX12_finds_65 rfl rfl rfl ?_
    refine g_iload_n (q := 67) 2 X dX12_finds_66 rfl rfl rfl ?_
    refine g_cv (q := 70) [aI l2] 12 X (ce_X12_arrives hK  h) kV_X12_548 rfl (by decide) rfl (hK.n (by decide)) rfl rfl (Nat.le_of_ble_eq_true rfl) (by decide) dX12_finds_67 rfl (fun r n_ iv_ rv_ hf => ?_)
    obtain ⟨en_, er_, rfl, h⟩ := hf; subst n_; subst rv_
    generalize iv_ = iv2 at h ⊢
    exact cb_X12_finds_70 X hR hK  hP29 h
def bd_X12_finds_29 (P29 : Int → Int → Int → IV → Prop) (l1 l2 l3 : Int) (iv : IV) (rv : RV) (K : Int → IV → Prop) : Prop :=
  ((l2 ≤ 0) → ((((iv 66 36) ≤ 0) → (K 0 iv)) ∧ ((¬ ((iv 66 36) ≤ 0)) → (K 1 iv)))) ∧ ((¬ (l2 ≤ 0)) → ((0 ≤ w32 (l2 - 1) ∧ w32 (l2 - 1) < 8) ∧ (rv 66 3 = some 80) ∧ (0 ≤ l1 ∧ l1 < 6) ∧ (((iv 77 (w32 (l2 - 1)).toNat) ≠ (iv 105 l1.toNat)) → (bd_X12_finds_58 P29 l1 l2 l3 0 iv rv K)) ∧ (((iv 77 (w32 (l2 - 1)).toNat) = (iv 105 l1.toNat)) → (bd_X12_finds_58 P29 l1 l2 l3 1 iv rv K))))
set_option maxRecDepth 10000 in
theorem cb_X12_finds_29 {Γ : GX} {n : Nat} {iv : IV} {rv : RV} {K : Int → IV → Prop} {P29 : Int → Int → Int → IV → Prop} {l1 l2 l3 : Int} (X : Cx Γ RX12 cX12_finds 6 6) (hR : Rt Γ (some .boolean) 0 0 (fB1 n rv K)) (hK : Lk n rv)  (hP29 : ∀ (l1' l2' l3' : Int) (iv' : IV), P29 l1' l2' l3' iv' → G Γ 6 29 [aR (some 66), aI (l1'), aI (l2'), aI (l3'), aJ, aJ] [] n iv' rv 0 0) (h : bd_X12_finds_29 P29 l1 l2 l3 iv rv K) : G Γ 6 29 [aR (some 66), aI l1, aI l2, aI l3, aJ, aJ] [] n iv rv 0 0 := by
  unfold bd_X12_finds_29 at h
  refine g_iload_n (q := 30) 2 X dX12_finds_29 rfl rfl rfl ?_
  refine g_if_le (q := 33) 182 X dX12_finds_30 (by decide) rfl (fun c1 => ?_) (fun c1 => ?_)
  · have h := h.1 c1
    refine g_aload_n (q := 183) 0 X dX12_finds_182 rfl rfl rfl ?_
    refine g_getI (q := 186) 12 36 X kf_X12_536 (by decide) (by decide) rfl rfl (hK.n (by decide)) dX12_finds_183 rfl ?_
    refine g_if_le (q := 189) 193 X dX12_finds_186 (by decide) rfl (fun c2 => ?_) (fun c2 => ?_)
    · have h := h.1 c2
      refine g_iconst (q := 194) 0 X dX12_finds_193 rfl rfl ic_0 ?_
      exact g_zret (q := 0) .boolean X hR (nar_B (Or.inl rfl)) dX12_finds_194 rfl ⟨rfl, rfl, _, rfl, (Or.inl rfl), h⟩
    · have h := h.2 c2
      refine g_iconst (q := 190) 1 X dX12_finds_189 rfl rfl ic_1 ?_
      refine g_goto (q := 194) X dX12_finds_190 (by decide) ?_
      exact g_zret (q := 0) .boolean X hR (nar_B (Or.inr rfl)) dX12_finds_194 rfl ⟨rfl, rfl, _, rfl, (Or.inr rfl), h⟩
  · have h := h.2 c1
    refine g_aload_n (q := 34) 0 X dX12_finds_33 rfl rfl rfl ?_
    refine g_getR (q := 37) (r := some 77) 12 34 X (lk_66_34 hK) (lt2000 (c := 0) (by decide)) kf_X12_48 (by decide) (by decide) rfl rfl (hK.n (by decide)) dX12_finds_34 rfl ?_
    refine g_iload_n (q := 38) 2 X dX12_finds_37 rfl rfl rfl ?_
    refine g_iconst (q := 39) 1 X dX12_finds_38 rfl rfl ic_1 ?_
    refine g_isub (q := 40) X dX12_finds_39 rfl ?_
    obtain ⟨s3, h⟩ := h
    refine g_iald (q := 41) X rfl (hK.n (by decide)) s3 dX12_finds_40 rfl ?_
    refine g_aload_n (q := 42) 0 X dX12_finds_41 rfl rfl rfl ?_
    obtain ⟨hm80, h⟩ := h
    refine g_getR (q := 45) (r := some 80) 12 3 X hm80 (lt2000 (c := 0) (by decide)) kf_X12_442 (by decide) (by decide) rfl rfl (hK.n (by decide)) dX12_finds_42 rfl ?_
    refine g_getR (q := 48) (r := some 105) 11 38 X (lkM_38 hK (Or.inl rfl) (hK.2.2.2.2.2.2.1 80 hm80 (Or.inl rfl))) (lt2000 (c := 0) (by decide)) kf_X12_429 (by decide) (by decide) rfl rfl (Nat.lt_of_lt_of_le (by decide) (hK.2.2.2.2.2.2.1 80 hm80 (Or.inl rfl))) dX12_finds_45 rfl ?_
    refine g_iload_n (q := 49) 1 X dX12_finds_48 rfl rfl rfl ?_
    obtain ⟨s4, h⟩ := h
    refine g_iald (q := 50) X rfl (Nat.lt_of_lt_of_le (by decide) (hK.2.2.2.2.2.2.1 80 hm80 (Or.inl rfl))) s4 dX12_finds_49 rfl ?_
    refine g_icmp_ne (q := 53) 57 X dX12_finds_50 (by decide) rfl (fun c5 => ?_) (fun c5 => ?_)
    · have h := h.1 c5
      refine g_iconst (q := 58) 0 X dX12_finds_57 rfl rfl ic_0 ?_
      exact cb_X12_finds_58 X hR hK  hP29 h
    · have h := h.2 c5
      refine g_iconst (q := 54) 1 X dX12_finds_53 rfl rfl ic_1 ?_
      refine g_goto (q := 58) X dX12_finds_54 (by decide) ?_
      exact cb_X12_finds_58 X hR hK  hP29 h
def wl_X12_finds_29 (l1 l2 l3 : Int) (iv : IV) (rv : RV) (K : Int → IV → Prop) : Prop :=
  ∀ P : Int → Int → Int → IV → Prop, (∀ (l1' l2' l3' : Int) (iv' : IV), bd_X12_finds_29  P l1' l2' l3' iv' rv K → P l1' l2' l3' iv') → P l1 l2 l3 iv
theorem cl_X12_finds_29 {Γ : GX} {n : Nat} {iv : IV} {rv : RV} {K : Int → IV → Prop} {l1 l2 l3 : Int} (X : Cx Γ RX12 cX12_finds 6 6) (hR : Rt Γ (some .boolean) 0 0 (fB1 n rv K)) (hK : Lk n rv)  (h : wl_X12_finds_29 l1 l2 l3 iv rv K) : G Γ 6 29 [aR (some 66), aI l1, aI l2, aI l3, aJ, aJ] [] n iv rv 0 0 := by
  exact h (fun l1' l2' l3' iv' =>  G Γ 6 29 [aR (some 66), aI (l1'), aI (l2'), aI (l3'), aJ, aJ] [] n iv' rv 0 0) (fun l1' l2' l3' iv' hb => cb_X12_finds_29 X hR hK   (fun l1' l2' l3' iv' hp => hp) hb)
def wp_X12_finds (a1 : Int) (iv : IV) (rv : RV) (K : Int → IV → Prop) : Prop :=
  wp_X12_weighs a1 iv rv (fun iv1 => ∀ iv2, iv2 = w2 iv1 66 36 0 → (rv 66 3 = some 80) ∧ (0 ≤ a1 ∧ a1 < 6) ∧ ∀ iv4, iv4 = w2 iv2 77 0 (iv2 104 a1.toNat) → wl_X12_finds_29 a1 1 0 iv4 rv K)
set_option maxRecDepth 10000 in
theorem ce_X12_finds {n : Nat} {iv : IV} {rv : RV} {K : Int → IV → Prop} {a1 : Int} (hK : Lk n rv)  (h : wp_X12_finds a1 iv rv K) : Call 6 0 0 yX12_finds cX12_finds 6 (some .boolean) [aR (some 66), aI a1] n iv rv (fB1 n rv K) := by
  refine Call.by (L := [aR (some 66), aI a1, aJ, aJ, aJ, aJ]) (by decide) rfl ⟨trivial, trivial, trivial⟩ rfl (Nat.le_of_ble_eq_true rfl) (fun Γ X hR => ?_)
  unfold wp_X12_finds at h
  refine g_aload_n (q := 1) 0 X dX12_finds_0 rfl rfl rfl ?_
  refine g_iload_n (q := 2) 1 X dX12_finds_1 rfl rfl rfl ?_
  refine g_cv (q := 5) [aI a1] 12 X (ce_X12_weighs hK  h) kV_X12_545 rfl (by decide) rfl (hK.n (by decide)) rfl rfl (Nat.le_of_ble_eq_true rfl) (by decide) dX12_finds_2 rfl (fun r n_ iv_ rv_ hf => ?_)
  obtain ⟨en_, er_, rfl, h⟩ := hf; subst n_; subst rv_
  generalize iv_ = iv1 at h ⊢
  refine g_aload_n (q := 6) 0 X dX12_finds_5 rfl rfl rfl ?_
  refine g_iconst (q := 7) 0 X dX12_finds_6 rfl rfl ic_0 ?_
  refine g_putI (q := 10) 12 36 X (Or.inl rfl) rfl kf_X12_536 (by decide) (by decide) rfl (hK.n (by decide)) dX12_finds_7 rfl ?_
  refine g_nmM (fun iv2 eiv2 => ?_)
  have h := h iv2 eiv2
  refine g_aload_n (q := 11) 0 X dX12_finds_10 rfl rfl rfl ?_
  refine g_getR (q := 14) (r := some 77) 12 34 X (lk_66_34 hK) (lt2000 (c := 0) (by decide)) kf_X12_48 (by decide) (by decide) rfl rfl (hK.n (by decide)) dX12_finds_11 rfl ?_
  refine g_iconst (q := 15) 0 X dX12_finds_14 rfl rfl ic_0 ?_
  refine g_aload_n (q := 16) 0 X dX12_finds_15 rfl rfl rfl ?_
  obtain ⟨hm80, h⟩ := h
  refine g_getR (q := 19) (r := some 80) 12 3 X hm80 (lt2000 (c := 0) (by decide)) kf_X12_442 (by decide) (by decide) rfl rfl (hK.n (by decide)) dX12_finds_16 rfl ?_
  refine g_getR (q := 22) (r := some 104) 11 37 X (lkM_37 hK (Or.inl rfl) (hK.2.2.2.2.2.2.1 80 hm80 (Or.inl rfl))) (lt2000 (c := 0) (by decide)) kf_X12_426 (by decide) (by decide) rfl rfl (Nat.lt_of_lt_of_le (by decide) (hK.2.2.2.2.2.2.1 80 hm80 (Or.inl rfl))) dX12_finds_19 rfl ?_
  refine g_iload_n (q := 23) 1 X dX12_finds_22 rfl rfl rfl ?_
  obtain ⟨s3, h⟩ := h
  refine g_iald (q := 24) X rfl (Nat.lt_of_lt_of_le (by decide) (hK.2.2.2.2.2.2.1 80 hm80 (Or.inl rfl))) s3 dX12_finds_23 rfl ?_
  refine g_iast (q := 25) X rfl (hK.n (by decide)) (by decide) dX12_finds_24 rfl ?_
  refine g_nmM (fun iv4 eiv4 => ?_)
  have h := h iv4 eiv4
  refine g_iconst (q := 26) 1 X dX12_finds_25 rfl rfl ic_1 ?_
  refine g_istore_n (q := 27) 2 (L' := [aR (some 66), aI a1, aI 1, aJ, aJ, aJ]) X dX12_finds_26 rfl rfl (by decide) rfl rfl ?_
  refine g_iconst (q := 28) 0 X dX12_finds_27 rfl rfl ic_0 ?_
  refine g_istore_n (q := 29) 3 (L' := [aR (some 66), aI a1, aI 1, aI 0, aJ, aJ]) X dX12_finds_28 rfl rfl (by decide) rfl rfl ?_
  exact cl_X12_finds_29 X hR hK   h
def bd_X12_way_21 (iv : IV) (rv : RV) (K : Int → IV → Prop) : Prop :=
  wp_X12_refused 1 iv rv (fun r1 iv2 => K r1 iv2)
set_option maxRecDepth 10000 in
theorem cb_X12_way_21 {Γ : GX} {n : Nat} {iv : IV} {rv : RV} {K : Int → IV → Prop} (X : Cx Γ RX12 cX12_way 5 7) (hR : Rt Γ (some .int) 0 0 (fI1 n rv K)) (hK : Lk n rv)  (h : bd_X12_way_21 iv rv K) : G Γ 5 21 [aR (some 66), aJ, aJ, aJ, aJ] [] n iv rv 0 0 := by
  unfold bd_X12_way_21 at h
  refine g_aload_n (q := 22) 0 X dX12_way_21 rfl rfl rfl ?_
  refine g_iconst (q := 23) 1 X dX12_way_22 rfl rfl ic_1 ?_
  refine g_cv (q := 26) [aI 1] 12 X (ce_X12_refused hK  h) kV_X12_60 rfl (by decide) rfl (hK.n (by decide)) rfl rfl (Nat.le_of_ble_eq_true rfl) (by decide) dX12_way_23 rfl (fun r n_ iv_ rv_ hf => ?_)
  obtain ⟨en_, er_, r1, rfl, h⟩ := hf; subst n_; subst rv_
  generalize iv_ = iv2 at h ⊢
  exact g_iret (q := 0) X hR dX12_way_26 rfl ⟨rfl, rfl, _, rfl, h⟩
def bd_X12_way_161 (P71 : Int → IV → Prop) (l3 : Int) (iv : IV) (rv : RV) (K : Int → IV → Prop) : Prop :=
  P71 (w32 (l3 + 1)) iv
set_option maxRecDepth 10000 in
theorem cb_X12_way_161 {Γ : GX} {n : Nat} {iv : IV} {rv : RV} {K : Int → IV → Prop} {P71 : Int → IV → Prop} {l3 : Int} (X : Cx Γ RX12 cX12_way 5 7) (hR : Rt Γ (some .int) 0 0 (fI1 n rv K)) (hK : Lk n rv)  (hP71 : ∀ (l3' : Int) (iv' : IV), P71 l3' iv' → G Γ 5 71 [aR (some 66), aJ, aJ, aI (l3'), aJ] [] n iv' rv 0 0) (h : bd_X12_way_161 P71 l3 iv rv K) : G Γ 5 161 [aR (some 66), aJ, aJ, aI l3, aJ] [] n iv rv 0 0 := by
  unfold bd_X12_way_161 at h
  refine g_iinc (q := 164) 3 (L' := [aR (some 66), aJ, aJ, aI (w32 (l3 + 1)), aJ]) X dX12_way_161 rfl (by decide) rfl rfl rfl ?_
  refine g_goto (q := 71) X dX12_way_164 (by decide) ?_
  exact hP71 _ _ h
def bd_X12_way_71 (P71 : Int → IV → Prop) (l3 : Int) (iv : IV) (rv : RV) (K : Int → IV → Prop) : Prop :=
  (((iv 66 27) ≤ l3) → (wp_X12_done (iv 66 37) iv rv (fun r2 iv3 => K r2 iv3))) ∧ ((¬ ((iv 66 27) ≤ l3)) → ((0 ≤ l3 ∧ l3 < 8) ∧ (0 ≤ l3 ∧ l3 < 8) ∧ ∀ iv6, iv6 = w2 iv 73 l3.toNat (iv 78 l3.toNat) → ((l3 ≠ 0) → ((rv 66 3 = some 80) ∧ (0 ≤ w32 (l3 - 1) ∧ w32 (l3 - 1) < 8) ∧ (0 ≤ l3 ∧ l3 < 8) ∧ (0 ≤ w32 ((w32 (8 * (iv6 73 (w32 (l3 - 1)).toNat))) + (iv6 73 l3.toNat)) ∧ w32 ((w32 (8 * (iv6 73 (w32 (l3 - 1)).toNat))) + (iv6 73 l3.toNat)) < 64) ∧ (0 ≤ iv6 75 (w32 ((w32 (8 * (iv6 73 (w32 (l3 - 1)).toNat))) + (iv6 73 l3.toNat))).toNat ∧ iv6 75 (w32 ((w32 (8 * (iv6 73 (w32 (l3 - 1)).toNat))) + (iv6 73 l3.toNat))).toNat < 20) ∧ ∀ x12, x12 = iv6 86 (iv6 75 (w32 ((w32 (8 * (iv6 73 (w32 (l3 - 1)).toNat))) + (iv6 73 l3.toNat))).toNat).toNat → ((x12 ≠ (-1)) → ((0 ≤ iv6 66 29 ∧ iv6 66 29 < 8) ∧ ∀ iv15, iv15 = w2 iv6 74 (iv6 66 29).toNat x12 → ∀ iv16, iv16 = w2 iv15 66 29 (w32 ((iv15 66 29) + 1)) → bd_X12_way_161 P71 l3 iv16 rv K)) ∧ ((x12 = (-1)) → (bd_X12_way_161 P71 l3 iv6 rv K)))) ∧ ((l3 = 0) → (bd_X12_way_161 P71 l3 iv6 rv K))))
set_option maxRecDepth 10000 in
theorem cb_X12_way_71 {Γ : GX} {n : Nat} {iv : IV} {rv : RV} {K : Int → IV → Prop} {P71 : Int → IV → Prop} {l3 : Int} (X : Cx Γ RX12 cX12_way 5 7) (hR : Rt Γ (some .int) 0 0 (fI1 n rv K)) (hK : Lk n rv)  (hP71 : ∀ (l3' : Int) (iv' : IV), P71 l3' iv' → G Γ 5 71 [aR (some 66), aJ, aJ, aI (l3'), aJ] [] n iv' rv 0 0) (h : bd_X12_way_71 P71 l3 iv rv K) : G Γ 5 71 [aR (some 66), aJ, aJ, aI l3, aJ] [] n iv rv 0 0 := by
  unfold bd_X12_way_71 at h
  refine g_iload_n (q := 72) 3 X dX12_way_71 rfl rfl rfl ?_
  refine g_aload_n (q := 73) 0 X dX12_way_72 rfl rfl rfl ?_
  refine g_getI (q := 76) 12 27 X kf_X12_445 (by decide) (by decide) rfl rfl (hK.n (by decide)) dX12_way_73 rfl ?_
  refine g_icmp_ge (q := 79) 167 X dX12_way_76 (by decide) rfl (fun c1 => ?_) (fun c1 => ?_)
  · have h := h.1 c1
    refine g_aload_n (q := 168) 0 X dX12_way_167 rfl rfl rfl ?_
    refine g_aload_n (q := 169) 0 X dX12_way_168 rfl rfl rfl ?_
    refine g_getI (q := 172) 12 37 X kf_X12_539 (by decide) (by decide) rfl rfl (hK.n (by decide)) dX12_way_169 rfl ?_
    refine g_cv (q := 175) [aI (iv 66 37)] 12 X (ce_X12_done hK  h) kV_X12_65 rfl (by decide) rfl (hK.n (by decide)) rfl rfl (Nat.le_of_ble_eq_true rfl) (by decide) dX12_way_172 rfl (fun r n_ iv_ rv_ hf => ?_)
    obtain ⟨en_, er_, r2, rfl, h⟩ := hf; subst n_; subst rv_
    generalize iv_ = iv3 at h ⊢
    exact g_iret (q := 0) X hR dX12_way_175 rfl ⟨rfl, rfl, _, rfl, h⟩
  · have h := h.2 c1
    refine g_aload_n (q := 80) 0 X dX12_way_79 rfl rfl rfl ?_
    refine g_getR (q := 83) (r := some 73) 12 30 X (lk_66_30 hK) (lt2000 (c := 0) (by decide)) kf_X12_36 (by decide) (by decide) rfl rfl (hK.n (by decide)) dX12_way_80 rfl ?_
    refine g_iload_n (q := 84) 3 X dX12_way_83 rfl rfl rfl ?_
    refine g_aload_n (q := 85) 0 X dX12_way_84 rfl rfl rfl ?_
    refine g_getR (q := 88) (r := some 78) 12 35 X (lk_66_35 hK) (lt2000 (c := 0) (by decide)) kf_X12_51 (by decide) (by decide) rfl rfl (hK.n (by decide)) dX12_way_85 rfl ?_
    refine g_iload_n (q := 89) 3 X dX12_way_88 rfl rfl rfl ?_
    obtain ⟨s4, h⟩ := h
    refine g_iald (q := 90) X rfl (hK.n (by decide)) s4 dX12_way_89 rfl ?_
    obtain ⟨s5, h⟩ := h
    refine g_iast (q := 91) X rfl (hK.n (by decide)) s5 dX12_way_90 rfl ?_
    refine g_nmM (fun iv6 eiv6 => ?_)
    have h := h iv6 eiv6
    refine g_iload_n (q := 92) 3 X dX12_way_91 rfl rfl rfl ?_
    refine g_if_ne (q := 95) 98 X dX12_way_92 (by decide) rfl (fun c7 => ?_) (fun c7 => ?_)
    · have h := h.1 c7
      refine g_aload_n (q := 99) 0 X dX12_way_98 rfl rfl rfl ?_
      obtain ⟨hm80, h⟩ := h
      refine g_getR (q := 102) (r := some 80) 12 3 X hm80 (lt2000 (c := 0) (by decide)) kf_X12_442 (by decide) (by decide) rfl rfl (hK.n (by decide)) dX12_way_99 rfl ?_
      refine g_getR (q := 105) (r := some 86) 11 19 X (lkM_19 hK (Or.inl rfl) (hK.2.2.2.2.2.2.1 80 hm80 (Or.inl rfl))) (lt2000 (c := 0) (by decide)) kf_X12_288 (by decide) (by decide) rfl rfl (Nat.lt_of_lt_of_le (by decide) (hK.2.2.2.2.2.2.1 80 hm80 (Or.inl rfl))) dX12_way_102 rfl ?_
      refine g_aload_n (q := 106) 0 X dX12_way_105 rfl rfl rfl ?_
      refine g_getR (q := 109) (r := some 75) 12 32 X (lk_66_32 hK) (lt2000 (c := 0) (by decide)) kf_X12_42 (by decide) (by decide) rfl rfl (hK.n (by decide)) dX12_way_106 rfl ?_
      refine g_bipush (q := 111) 8 X dX12_way_109 rfl bc_8 ic_8 ?_
      refine g_aload_n (q := 112) 0 X dX12_way_111 rfl rfl rfl ?_
      refine g_getR (q := 115) (r := some 73) 12 30 X (lk_66_30 hK) (lt2000 (c := 0) (by decide)) kf_X12_36 (by decide) (by decide) rfl rfl (hK.n (by decide)) dX12_way_112 rfl ?_
      refine g_iload_n (q := 116) 3 X dX12_way_115 rfl rfl rfl ?_
      refine g_iconst (q := 117) 1 X dX12_way_116 rfl rfl ic_1 ?_
      refine g_isub (q := 118) X dX12_way_117 rfl ?_
      obtain ⟨s8, h⟩ := h
      refine g_iald (q := 119) X rfl (hK.n (by decide)) s8 dX12_way_118 rfl ?_
      refine g_imul (q := 120) X dX12_way_119 rfl ?_
      refine g_aload_n (q := 121) 0 X dX12_way_120 rfl rfl rfl ?_
      refine g_getR (q := 124) (r := some 73) 12 30 X (lk_66_30 hK) (lt2000 (c := 0) (by decide)) kf_X12_36 (by decide) (by decide) rfl rfl (hK.n (by decide)) dX12_way_121 rfl ?_
      refine g_iload_n (q := 125) 3 X dX12_way_124 rfl rfl rfl ?_
      obtain ⟨s9, h⟩ := h
      refine g_iald (q := 126) X rfl (hK.n (by decide)) s9 dX12_way_125 rfl ?_
      refine g_iadd (q := 127) X dX12_way_126 rfl ?_
      obtain ⟨s10, h⟩ := h
      refine g_iald (q := 128) X rfl (hK.n (by decide)) s10 dX12_way_127 rfl ?_
      obtain ⟨s11, h⟩ := h
      refine g_iald (q := 129) X rfl (Nat.lt_of_lt_of_le (by decide) (hK.2.2.2.2.2.2.1 80 hm80 (Or.inl rfl))) s11 dX12_way_128 rfl ?_
      refine g_nmI (fun x12 ex12 => ?_)
      have h := h x12 ex12
      refine g_istore (q := 131) (k0 := 0) 4 (L' := [aR (some 66), aJ, aJ, aI l3, aI x12]) X dX12_way_129 rfl (by decide) rfl rfl ?_
      refine g_iload (q := 133) 4 X dX12_way_131 rfl rfl ?_
      refine g_iconst (q := 134) (-1) X dX12_way_133 rfl rfl ic_m1 ?_
      refine g_icmp_ne (q := 137) 140 X dX12_way_134 (by decide) rfl (fun c13 => ?_) (fun c13 => ?_)
      · have h := h.1 c13
        refine g_aload_n (q := 141) 0 X dX12_way_140 rfl rfl rfl ?_
        refine g_getR (q := 144) (r := some 74) 12 31 X (lk_66_31 hK) (lt2000 (c := 0) (by decide)) kf_X12_39 (by decide) (by decide) rfl rfl (hK.n (by decide)) dX12_way_141 rfl ?_
        refine g_aload_n (q := 145) 0 X dX12_way_144 rfl rfl rfl ?_
        refine g_getI (q := 148) 12 29 X kf_X12_448 (by decide) (by decide) rfl rfl (hK.n (by decide)) dX12_way_145 rfl ?_
        refine g_iload (q := 150) 4 X dX12_way_148 rfl rfl ?_
        obtain ⟨s14, h⟩ := h
        refine g_iast (q := 151) X rfl (hK.n (by decide)) s14 dX12_way_150 rfl ?_
        refine g_nmM (fun iv15 eiv15 => ?_)
        have h := h iv15 eiv15
        refine g_aload_n (q := 152) 0 X dX12_way_151 rfl rfl rfl ?_
        refine g_dup (q := 153) X dX12_way_152 rfl rfl ?_
        refine g_getI (q := 156) 12 29 X kf_X12_448 (by decide) (by decide) rfl rfl (hK.n (by decide)) dX12_way_153 rfl ?_
        refine g_iconst (q := 157) 1 X dX12_way_156 rfl rfl ic_1 ?_
        refine g_iadd (q := 158) X dX12_way_157 rfl ?_
        refine g_putI (q := 161) 12 29 X (Or.inl rfl) rfl kf_X12_448 (by decide) (by decide) rfl (hK.n (by decide)) dX12_way_158 rfl ?_
        refine g_nmM (fun iv16 eiv16 => ?_)
        have h := h iv16 eiv16
        refine g_sub (L' := [aR (some 66), aJ, aJ, aI l3, aJ]) ⟨Or.inr rfl, Or.inl rfl, Or.inl rfl, Or.inr rfl, Or.inl rfl, trivial⟩ ?_
        exact cb_X12_way_161 X hR hK  hP71 h
      · have h := h.2 c13
        refine g_goto (q := 161) X dX12_way_137 (by decide) ?_
        refine g_sub (L' := [aR (some 66), aJ, aJ, aI l3, aJ]) ⟨Or.inr rfl, Or.inl rfl, Or.inl rfl, Or.inr rfl, Or.inl rfl, trivial⟩ ?_
        exact cb_X12_way_161 X hR hK  hP71 h
    · have h := h.2 c7
      refine g_goto (q := 161) X dX12_way_95 (by decide) ?_
      exact cb_X12_way_161 X hR hK  hP71 h
def wl_X12_way_71 (l3 : Int) (iv : IV) (rv : RV) (K : Int → IV → Prop) : Prop :=
  ∀ P : Int → IV → Prop, (∀ (l3' : Int) (iv' : IV), bd_X12_way_71  P l3' iv' rv K → P l3' iv') → P l3 iv
theorem cl_X12_way_71 {Γ : GX} {n : Nat} {iv : IV} {rv : RV} {K : Int → IV → Prop} {l3 : Int} (X : Cx Γ RX12 cX12_way 5 7) (hR : Rt Γ (some .int) 0 0 (fI1 n rv K)) (hK : Lk n rv)  (h : wl_X12_way_71 l3 iv rv K) : G Γ 5 71 [aR (some 66), aJ, aJ, aI l3, aJ] [] n iv rv 0 0 := by
  exact h (fun l3' iv' =>  G Γ 5 71 [aR (some 66), aJ, aJ, aI (l3'), aJ] [] n iv' rv 0 0) (fun l3' iv' hb => cb_X12_way_71 X hR hK   (fun l3' iv' hp => hp) hb)
def wp_X12_way (a1 : Int) (a2 : Int) (iv : IV) (rv : RV) (K : Int → IV → Prop) : Prop :=
  ∀ iv1, iv1 = w2 iv 66 0 0 → wp_X12_isCart a1 iv1 rv (fun r2 => ((r2 = 0) → (bd_X12_way_21 iv1 rv K)) ∧ ((¬ (r2 = 0)) → (wp_X12_isLaw a2 iv1 rv (fun r4 => ((r4 ≠ 0) → (wp_X12_laysFor a1 a2 iv1 rv (fun iv6 => wp_X12_finds a1 iv6 rv (fun r7 iv8 => ((r7 ≠ 0) → (∀ iv10, iv10 = w2 iv8 66 27 (iv8 66 36) → ∀ iv11, iv11 = w2 iv10 66 28 (iv10 66 38) → ∀ iv12, iv12 = w2 iv11 66 29 0 → wl_X12_way_71 0 iv12 rv K)) ∧ ((r7 = 0) → (wp_X12_refused 6 iv8 rv (fun r13 iv14 => K r13 iv14))))))) ∧ ((r4 = 0) → (bd_X12_way_21 iv1 rv K))))))
set_option maxRecDepth 10000 in
theorem ce_X12_way {n : Nat} {iv : IV} {rv : RV} {K : Int → IV → Prop} {a1 : Int} {a2 : Int} (hK : Lk n rv)  (h : wp_X12_way a1 a2 iv rv K) : Call 7 0 0 yX12_way cX12_way 5 (some .int) [aR (some 66), aI a1, aI a2] n iv rv (fI1 n rv K) := by
  refine Call.by (L := [aR (some 66), aI a1, aI a2, aJ, aJ]) (by decide) rfl ⟨trivial, trivial, trivial, trivial⟩ rfl (Nat.le_of_ble_eq_true rfl) (fun Γ X hR => ?_)
  unfold wp_X12_way at h
  refine g_aload_n (q := 1) 0 X dX12_way_0 rfl rfl rfl ?_
  refine g_iconst (q := 2) 0 X dX12_way_1 rfl rfl ic_0 ?_
  refine g_putI (q := 5) 12 0 X (Or.inl rfl) rfl kf_X12_54 (by decide) (by decide) rfl (hK.n (by decide)) dX12_way_2 rfl ?_
  refine g_nmM (fun iv1 eiv1 => ?_)
  have h := h iv1 eiv1
  refine g_aload_n (q := 6) 0 X dX12_way_5 rfl rfl rfl ?_
  refine g_iload_n (q := 7) 1 X dX12_way_6 rfl rfl rfl ?_
  refine g_cv (q := 10) [aI a1] 12 X (ce_X12_isCart hK  h) kV_X12_505 rfl (by decide) rfl (hK.n (by decide)) rfl rfl (Nat.le_of_ble_eq_true rfl) (by decide) dX12_way_7 rfl (fun r n_ iv_ rv_ hf => ?_)
  obtain ⟨en_, ei_, er_, r2, rfl, br2, h⟩ := hf; subst n_; subst iv_; subst rv_
  refine g_if_eq (q := 13) 21 X dX12_way_10 (by decide) rfl (fun c3 => ?_) (fun c3 => ?_)
  · have h := h.1 c3
    refine g_sub (L' := [aR (some 66), aJ, aJ, aJ, aJ]) ⟨Or.inr rfl, Or.inl rfl, Or.inl rfl, Or.inl rfl, Or.inl rfl, trivial⟩ ?_
    exact cb_X12_way_21 X hR hK   h
  · have h := h.2 c3
    refine g_aload_n (q := 14) 0 X dX12_way_13 rfl rfl rfl ?_
    refine g_iload_n (q := 15) 2 X dX12_way_14 rfl rfl rfl ?_
    refine g_cv (q := 18) [aI a2] 12 X (ce_X12_isLaw hK  h) kV_X12_511 rfl (by decide) rfl (hK.n (by decide)) rfl rfl (Nat.le_of_ble_eq_true rfl) (by decide) dX12_way_15 rfl (fun r n_ iv_ rv_ hf => ?_)
    obtain ⟨en_, ei_, er_, r4, rfl, br4, h⟩ := hf; subst n_; subst iv_; subst rv_
    refine g_if_ne (q := 21) 27 X dX12_way_18 (by decide) rfl (fun c5 => ?_) (fun c5 => ?_)
    · have h := h.1 c5
      refine g_aload_n (q := 28) 0 X dX12_way_27 rfl rfl rfl ?_
      refine g_iload_n (q := 29) 1 X dX12_way_28 rfl rfl rfl ?_
      refine g_iload_n (q := 30) 2 X dX12_way_29 rfl rfl rfl ?_
      refine g_cv (q := 33) [aI a1, aI a2] 12 X (ce_X12_laysFor hK  h) kV_X12_523 rfl (by decide) rfl (hK.n (by decide)) rfl rfl (Nat.le_of_ble_eq_true rfl) (by decide) dX12_way_30 rfl (fun r n_ iv_ rv_ hf => ?_)
      obtain ⟨en_, er_, rfl, h⟩ := hf; subst n_; subst rv_
      generalize iv_ = iv6 at h ⊢
      refine g_aload_n (q := 34) 0 X dX12_way_33 rfl rfl rfl ?_
      refine g_iload_n (q := 35) 1 X dX12_way_34 rfl rfl rfl ?_
      refine g_cv (q := 38) [aI a1] 12 X (ce_X12_finds hK  h) kV_X12_554 rfl (by decide) rfl (hK.n (by decide)) rfl rfl (Nat.le_of_ble_eq_true rfl) (by decide) dX12_way_35 rfl (fun r n_ iv_ rv_ hf => ?_)
      obtain ⟨en_, er_, r7, rfl, br7, h⟩ := hf; subst n_; subst rv_
      generalize iv_ = iv8 at h ⊢
      refine g_if_ne (q := 41) 48 X dX12_way_38 (by decide) rfl (fun c9 => ?_) (fun c9 => ?_)
      · have h := h.1 c9
        refine g_aload_n (q := 49) 0 X dX12_way_48 rfl rfl rfl ?_
        refine g_aload_n (q := 50) 0 X dX12_way_49 rfl rfl rfl ?_
        refine g_getI (q := 53) 12 36 X kf_X12_536 (by decide) (by decide) rfl rfl (hK.n (by decide)) dX12_way_50 rfl ?_
        refine g_putI (q := 56) 12 27 X (Or.inl rfl) rfl kf_X12_445 (by decide) (by decide) rfl (hK.n (by decide)) dX12_way_53 rfl ?_
        refine g_nmM (fun iv10 eiv10 => ?_)
        have h := h iv10 eiv10
        refine g_aload_n (q := 57) 0 X dX12_way_56 rfl rfl rfl ?_
        refine g_aload_n (q := 58) 0 X dX12_way_57 rfl rfl rfl ?_
        refine g_getI (q := 61) 12 38 X kf_X12_542 (by decide) (by decide) rfl rfl (hK.n (by decide)) dX12_way_58 rfl ?_
        refine g_putI (q := 64) 12 28 X (Or.inl rfl) rfl kf_X12_33 (by decide) (by decide) rfl (hK.n (by decide)) dX12_way_61 rfl ?_
        refine g_nmM (fun iv11 eiv11 => ?_)
        have h := h iv11 eiv11
        refine g_aload_n (q := 65) 0 X dX12_way_64 rfl rfl rfl ?_
        refine g_iconst (q := 66) 0 X dX12_way_65 rfl rfl ic_0 ?_
        refine g_putI (q := 69) 12 29 X (Or.inl rfl) rfl kf_X12_448 (by decide) (by decide) rfl (hK.n (by decide)) dX12_way_66 rfl ?_
        refine g_nmM (fun iv12 eiv12 => ?_)
        have h := h iv12 eiv12
        refine g_iconst (q := 70) 0 X dX12_way_69 rfl rfl ic_0 ?_
        refine g_istore_n (q := 71) 3 (L' := [aR (some 66), aI a1, aI a2, aI 0, aJ]) X dX12_way_70 rfl rfl (by decide) rfl rfl ?_
        refine g_sub (L' := [aR (some 66), aJ, aJ, aI 0, aJ]) ⟨Or.inr rfl, Or.inl rfl, Or.inl rfl, Or.inr rfl, Or.inl rfl, trivial⟩ ?_
        exact cl_X12_way_71 X hR hK   h
      · have h := h.2 c9
        refine g_aload_n (q := 42) 0 X dX12_way_41 rfl rfl rfl ?_
        refine g_bipush (q := 44) 6 X dX12_way_42 rfl bc_6 ic_6 ?_
        refine g_cv (q := 47) [aI 6] 12 X (ce_X12_refused hK  h) kV_X12_60 rfl (by decide) rfl (hK.n (by decide)) rfl rfl (Nat.le_of_ble_eq_true rfl) (by decide) dX12_way_44 rfl (fun r n_ iv_ rv_ hf => ?_)
        obtain ⟨en_, er_, r13, rfl, h⟩ := hf; subst n_; subst rv_
        generalize iv_ = iv14 at h ⊢
        exact g_iret (q := 0) X hR dX12_way_47 rfl ⟨rfl, rfl, _, rfl, h⟩
    · have h := h.2 c5
      refine g_sub (L' := [aR (some 66), aJ, aJ, aJ, aJ]) ⟨Or.inr rfl, Or.inl rfl, Or.inl rfl, Or.inl rfl, Or.inl rfl, trivial⟩ ?_
      exact cb_X12_way_21 X hR hK   h
