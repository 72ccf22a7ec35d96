def wp_X2_clear (iv : IV) (rv : RV) (K : IV → Prop) : Prop :=
  ∀ iv1, iv1 = w2 iv 41 3 0 → K iv1
set_option maxRecDepth 10000 in
theorem ce_X2_clear {n : Nat} {iv : IV} {rv : RV} {K : IV → Prop} (hK : Lk n rv)  (h : wp_X2_clear  iv rv K) : Call 0 0 0 yX2_clear cX2_clear 1 none [aR (some 41)] n iv rv (fV1 n rv K) := by
  refine Call.by (L := [aR (some 41)]) (by decide) rfl ⟨trivial, trivial⟩ rfl (Nat.le_of_ble_eq_true rfl) (fun Γ X hR => ?_)
  unfold wp_X2_clear at h
  refine g_aload_n (q := 1) 0 X dX2_clear_0 rfl rfl rfl ?_
  refine g_iconst (q := 2) 0 X dX2_clear_1 rfl rfl ic_0 ?_
  refine g_putI (q := 5) 2 3 X (Or.inl rfl) rfl kf_X2_22 (by decide) (by decide) rfl (hK.n (by decide)) dX2_clear_2 rfl ?_
  refine g_nmM (fun iv1 eiv1 => ?_)
  have h := h iv1 eiv1
  exact g_vret (q := 0) X hR dX2_clear_5 rfl ⟨rfl, rfl, rfl, h⟩
def wp_X2_add (a1 : Int) (a3 : Int) (a4 : Int) (iv : IV) (rv : RV) (K : IV → Prop) : Prop :=
  ((51 ≤ (iv 41 3)) → (K iv)) ∧ ((¬ (51 ≤ (iv 41 3))) → ((0 ≤ iv 41 3 ∧ iv 41 3 < 51) ∧ ∀ iv3, iv3 = w2 iv 42 (iv 41 3).toNat a1 → (0 ≤ iv3 41 3 ∧ iv3 41 3 < 51) ∧ ∀ iv5, iv5 = w2 iv3 43 (iv3 41 3).toNat a3 → (0 ≤ iv5 41 3 ∧ iv5 41 3 < 51) ∧ ∀ iv7, iv7 = w2 iv5 44 (iv5 41 3).toNat a4 → ∀ iv8, iv8 = w2 iv7 41 3 (w32 ((iv7 41 3) + 1)) → K iv8))
set_option maxRecDepth 10000 in
theorem ce_X2_add {n : Nat} {iv : IV} {rv : RV} {K : IV → Prop} {a1 : Int} {a3 : Int} {a4 : Int} (hK : Lk n rv)  (h : wp_X2_add a1 a3 a4 iv rv K) : Call 0 0 0 yX2_add cX2_add 5 none [aR (some 41), aL a1, aI a3, aI a4] n iv rv (fV1 n rv K) := by
  refine Call.by (L := [aR (some 41), aL a1, aJ, aI a3, aI a4]) (by decide) rfl ⟨trivial, trivial, trivial, trivial, trivial⟩ rfl (Nat.le_of_ble_eq_true rfl) (fun Γ X hR => ?_)
  unfold wp_X2_add at h
  refine g_aload_n (q := 1) 0 X dX2_add_0 rfl rfl rfl ?_
  refine g_getI (q := 4) 2 3 X kf_X2_22 (by decide) (by decide) rfl rfl (hK.n (by decide)) dX2_add_1 rfl ?_
  refine g_bipush (q := 6) 51 X dX2_add_4 rfl bc_51 ic_51 ?_
  refine g_icmp_ge (q := 9) 50 X dX2_add_6 (by decide) rfl (fun c1 => ?_) (fun c1 => ?_)
  · have h := h.1 c1
    exact g_vret (q := 0) X hR dX2_add_50 rfl ⟨rfl, rfl, rfl, h⟩
  · have h := h.2 c1
    refine g_aload_n (q := 10) 0 X dX2_add_9 rfl rfl rfl ?_
    refine g_getR (q := 13) (r := some 42) 2 0 X (lk_41_0 hK) (lt2000 (c := 0) (by decide)) kf_X2_9 (by decide) (by decide) rfl rfl (hK.n (by decide)) dX2_add_10 rfl ?_
    refine g_aload_n (q := 14) 0 X dX2_add_13 rfl rfl rfl ?_
    refine g_getI (q := 17) 2 3 X kf_X2_22 (by decide) (by decide) rfl rfl (hK.n (by decide)) dX2_add_14 rfl ?_
    refine g_lload_n (q := 18) 1 X dX2_add_17 rfl rfl rfl ?_
    obtain ⟨s2, h⟩ := h
    refine g_last (q := 19) X rfl (hK.n (by decide)) s2 dX2_add_18 rfl ?_
    refine g_nmM (fun iv3 eiv3 => ?_)
    have h := h iv3 eiv3
    refine g_aload_n (q := 20) 0 X dX2_add_19 rfl rfl rfl ?_
    refine g_getR (q := 23) (r := some 43) 2 1 X (lk_41_1 hK) (lt2000 (c := 0) (by decide)) kf_X2_15 (by decide) (by decide) rfl rfl (hK.n (by decide)) dX2_add_20 rfl ?_
    refine g_aload_n (q := 24) 0 X dX2_add_23 rfl rfl rfl ?_
    refine g_getI (q := 27) 2 3 X kf_X2_22 (by decide) (by decide) rfl rfl (hK.n (by decide)) dX2_add_24 rfl ?_
    refine g_iload_n (q := 28) 3 X dX2_add_27 rfl rfl rfl ?_
    obtain ⟨s4, h⟩ := h
    refine g_iast (q := 29) X rfl (hK.n (by decide)) s4 dX2_add_28 rfl ?_
    refine g_nmM (fun iv5 eiv5 => ?_)
    have h := h iv5 eiv5
    refine g_aload_n (q := 30) 0 X dX2_add_29 rfl rfl rfl ?_
    refine g_getR (q := 33) (r := some 44) 2 2 X (lk_41_2 hK) (lt2000 (c := 0) (by decide)) kf_X2_19 (by decide) (by decide) rfl rfl (hK.n (by decide)) dX2_add_30 rfl ?_
    refine g_aload_n (q := 34) 0 X dX2_add_33 rfl rfl rfl ?_
    refine g_getI (q := 37) 2 3 X kf_X2_22 (by decide) (by decide) rfl rfl (hK.n (by decide)) dX2_add_34 rfl ?_
    refine g_iload (q := 39) 4 X dX2_add_37 rfl rfl ?_
    obtain ⟨s6, h⟩ := h
    refine g_iast (q := 40) X rfl (hK.n (by decide)) s6 dX2_add_39 rfl ?_
    refine g_nmM (fun iv7 eiv7 => ?_)
    have h := h iv7 eiv7
    refine g_aload_n (q := 41) 0 X dX2_add_40 rfl rfl rfl ?_
    refine g_dup (q := 42) X dX2_add_41 rfl rfl ?_
    refine g_getI (q := 45) 2 3 X kf_X2_22 (by decide) (by decide) rfl rfl (hK.n (by decide)) dX2_add_42 rfl ?_
    refine g_iconst (q := 46) 1 X dX2_add_45 rfl rfl ic_1 ?_
    refine g_iadd (q := 47) X dX2_add_46 rfl ?_
    refine g_putI (q := 50) 2 3 X (Or.inl rfl) rfl kf_X2_22 (by decide) (by decide) rfl (hK.n (by decide)) dX2_add_47 rfl ?_
    refine g_nmM (fun iv8 eiv8 => ?_)
    have h := h iv8 eiv8
    exact g_vret (q := 0) X hR dX2_add_50 rfl ⟨rfl, rfl, rfl, h⟩
def bd_X2_indexOf_2 (P2 : Int → Int → Prop) (l1 l3 : Int) (iv : IV) (rv : RV) (K : Int → Prop) : Prop :=
  (((iv 41 3) ≤ l3) → (K (-1))) ∧ ((¬ ((iv 41 3) ≤ l3)) → ((0 ≤ l3 ∧ l3 < 51) ∧ (((if l1 < iv 42 l3.toNat then 1 else if iv 42 l3.toNat = l1 then 0 else -1) ≠ 0) → (P2 l1 (w32 (l3 + 1)))) ∧ (((if l1 < iv 42 l3.toNat then 1 else if iv 42 l3.toNat = l1 then 0 else -1) = 0) → (K l3))))
set_option maxRecDepth 10000 in
theorem cb_X2_indexOf_2 {Γ : GX} {n : Nat} {iv : IV} {rv : RV} {K : Int → Prop} {P2 : Int → Int → Prop} {l1 l3 : Int} (X : Cx Γ RX2 cX2_indexOf 4 0) (hR : Rt Γ (some .int) 0 0 (fI0 n iv rv K)) (hK : Lk n rv)  (hP2 : ∀ (l1' l3' : Int), P2 l1' l3' → G Γ 4 2 [aR (some 41), aL (l1'), aJ, aI (l3')] [] n iv rv 0 0) (h : bd_X2_indexOf_2 P2 l1 l3 iv rv K) : G Γ 4 2 [aR (some 41), aL l1, aJ, aI l3] [] n iv rv 0 0 := by
  unfold bd_X2_indexOf_2 at h
  refine g_iload_n (q := 3) 3 X dX2_indexOf_2 rfl rfl rfl ?_
  refine g_aload_n (q := 4) 0 X dX2_indexOf_3 rfl rfl rfl ?_
  refine g_getI (q := 7) 2 3 X kf_X2_22 (by decide) (by decide) rfl rfl (hK.n (by decide)) dX2_indexOf_4 rfl ?_
  refine g_icmp_ge (q := 10) 29 X dX2_indexOf_7 (by decide) rfl (fun c1 => ?_) (fun c1 => ?_)
  · have h := h.1 c1
    refine g_iconst (q := 30) (-1) X dX2_indexOf_29 rfl rfl ic_m1 ?_
    exact g_iret (q := 0) X hR dX2_indexOf_30 rfl ⟨rfl, rfl, rfl, _, rfl, h⟩
  · have h := h.2 c1
    refine g_aload_n (q := 11) 0 X dX2_indexOf_10 rfl rfl rfl ?_
    refine g_getR (q := 14) (r := some 42) 2 0 X (lk_41_0 hK) (lt2000 (c := 0) (by decide)) kf_X2_9 (by decide) (by decide) rfl rfl (hK.n (by decide)) dX2_indexOf_11 rfl ?_
    refine g_iload_n (q := 15) 3 X dX2_indexOf_14 rfl rfl rfl ?_
    obtain ⟨s2, h⟩ := h
    refine g_lald (q := 16) X rfl (hK.n (by decide)) s2 dX2_indexOf_15 rfl ?_
    refine g_lload_n (q := 17) 1 X dX2_indexOf_16 rfl rfl rfl ?_
    refine g_lcmp (q := 18) X dX2_indexOf_17 rfl ?_
    refine g_if_ne (q := 21) 23 X dX2_indexOf_18 (by decide) rfl (fun c3 => ?_) (fun c3 => ?_)
    · have h := h.1 c3
      refine g_iinc (q := 26) 3 (L' := [aR (some 41), aL l1, aJ, aI (w32 (l3 + 1))]) X dX2_indexOf_23 rfl (by decide) rfl rfl rfl ?_
      refine g_goto (q := 2) X dX2_indexOf_26 (by decide) ?_
      exact hP2 _ _ h
    · have h := h.2 c3
      refine g_iload_n (q := 22) 3 X dX2_indexOf_21 rfl rfl rfl ?_
      exact g_iret (q := 0) X hR dX2_indexOf_22 rfl ⟨rfl, rfl, rfl, _, rfl, h⟩
def wl_X2_indexOf_2 (l1 l3 : Int) (iv : IV) (rv : RV) (K : Int → Prop) : Prop :=
  ∀ P : Int → Int → Prop, (∀ (l1' l3' : Int), bd_X2_indexOf_2  P l1' l3' iv rv K → P l1' l3') → P l1 l3
theorem cl_X2_indexOf_2 {Γ : GX} {n : Nat} {iv : IV} {rv : RV} {K : Int → Prop} {l1 l3 : Int} (X : Cx Γ RX2 cX2_indexOf 4 0) (hR : Rt Γ (some .int) 0 0 (fI0 n iv rv K)) (hK : Lk n rv)  (h : wl_X2_indexOf_2 l1 l3 iv rv K) : G Γ 4 2 [aR (some 41), aL l1, aJ, aI l3] [] n iv rv 0 0 := by
  exact h (fun l1' l3' =>  G Γ 4 2 [aR (some 41), aL (l1'), aJ, aI (l3')] [] n iv rv 0 0) (fun l1' l3' hb => cb_X2_indexOf_2 X hR hK   (fun l1' l3' hp => hp) hb)
def wp_X2_indexOf (a1 : Int) (iv : IV) (rv : RV) (K : Int → Prop) : Prop :=
  wl_X2_indexOf_2 a1 0 iv rv K
set_option maxRecDepth 10000 in
theorem ce_X2_indexOf {n : Nat} {iv : IV} {rv : RV} {K : Int → Prop} {a1 : Int} (hK : Lk n rv)  (h : wp_X2_indexOf a1 iv rv K) : Call 0 0 0 yX2_indexOf cX2_indexOf 4 (some .int) [aR (some 41), aL a1] n iv rv (fI0 n iv rv K) := by
  refine Call.by (L := [aR (some 41), aL a1, aJ, aJ]) (by decide) rfl ⟨trivial, trivial, trivial⟩ rfl (Nat.le_of_ble_eq_true rfl) (fun Γ X hR => ?_)
  unfold wp_X2_indexOf at h
  refine g_iconst (q := 1) 0 X dX2_indexOf_0 rfl rfl ic_0 ?_
  refine g_istore_n (q := 2) 3 (L' := [aR (some 41), aL a1, aJ, aI 0]) X dX2_indexOf_1 rfl rfl (by decide) rfl rfl ?_
  exact cl_X2_indexOf_2 X hR hK   h
def wp_X2_numberOf (a1 : Int) (a3 : Int) (a4 : Int) (iv : IV) (rv : RV) (K : Int → Prop) : Prop :=
  wp_X2_indexOf a1 iv rv (fun r1 => ((r1 < 0) → (K (-1))) ∧ ((¬ (r1 < 0)) → ((0 ≤ r1 ∧ r1 < 51) ∧ (((iv 43 r1.toNat) < a3) → (K (-1))) ∧ ((¬ ((iv 43 r1.toNat) < a3)) → ((0 ≤ r1 ∧ r1 < 51) ∧ ((a4 < (iv 43 r1.toNat)) → (K (-1))) ∧ ((¬ (a4 < (iv 43 r1.toNat))) → ((0 ≤ r1 ∧ r1 < 51) ∧ K (iv 44 r1.toNat))))))))
set_option maxRecDepth 10000 in
theorem ce_X2_numberOf {n : Nat} {iv : IV} {rv : RV} {K : Int → Prop} {a1 : Int} {a3 : Int} {a4 : Int} (hK : Lk n rv)  (h : wp_X2_numberOf a1 a3 a4 iv rv K) : Call 1 0 0 yX2_numberOf cX2_numberOf 6 (some .int) [aR (some 41), aL a1, aI a3, aI a4] n iv rv (fI0 n iv rv K) := by
  refine Call.by (L := [aR (some 41), aL a1, aJ, aI a3, aI a4, aJ]) (by decide) rfl ⟨trivial, trivial, trivial, trivial, trivial⟩ rfl (Nat.le_of_ble_eq_true rfl) (fun Γ X hR => ?_)
  unfold wp_X2_numberOf at h
  refine g_aload_n (q := 1) 0 X dX2_numberOf_0 rfl rfl rfl ?_
  refine g_lload_n (q := 2) 1 X dX2_numberOf_1 rfl rfl rfl ?_
  refine g_cv (q := 5) [aL a1] 2 X (ce_X2_indexOf hK  h) kV_X2_26 rfl (by decide) rfl (hK.n (by decide)) rfl rfl (Nat.le_of_ble_eq_true rfl) (by decide) dX2_numberOf_2 rfl (fun r n_ iv_ rv_ hf => ?_)
  obtain ⟨en_, ei_, er_, r1, rfl, h⟩ := hf; subst n_; subst iv_; subst rv_
  refine g_istore (q := 7) (k0 := 0) 5 (L' := [aR (some 41), aL a1, aJ, aI a3, aI a4, aI r1]) X dX2_numberOf_5 rfl (by decide) rfl rfl ?_
  refine g_iload (q := 9) 5 X dX2_numberOf_7 rfl rfl ?_
  refine g_if_lt (q := 12) 45 X dX2_numberOf_9 (by decide) rfl (fun c2 => ?_) (fun c2 => ?_)
  · have h := h.1 c2
    refine g_iconst (q := 46) (-1) X dX2_numberOf_45 rfl rfl ic_m1 ?_
    exact g_iret (q := 0) X hR dX2_numberOf_46 rfl ⟨rfl, rfl, rfl, _, rfl, h⟩
  · have h := h.2 c2
    refine g_aload_n (q := 13) 0 X dX2_numberOf_12 rfl rfl rfl ?_
    refine g_getR (q := 16) (r := some 43) 2 1 X (lk_41_1 hK) (lt2000 (c := 0) (by decide)) kf_X2_15 (by decide) (by decide) rfl rfl (hK.n (by decide)) dX2_numberOf_13 rfl ?_
    refine g_iload (q := 18) 5 X dX2_numberOf_16 rfl rfl ?_
    obtain ⟨s3, h⟩ := h
    refine g_iald (q := 19) X rfl (hK.n (by decide)) s3 dX2_numberOf_18 rfl ?_
    refine g_iload_n (q := 20) 3 X dX2_numberOf_19 rfl rfl rfl ?_
    refine g_icmp_lt (q := 23) 45 X dX2_numberOf_20 (by decide) rfl (fun c4 => ?_) (fun c4 => ?_)
    · have h := h.1 c4
      refine g_iconst (q := 46) (-1) X dX2_numberOf_45 rfl rfl ic_m1 ?_
      exact g_iret (q := 0) X hR dX2_numberOf_46 rfl ⟨rfl, rfl, rfl, _, rfl, h⟩
    · have h := h.2 c4
      refine g_aload_n (q := 24) 0 X dX2_numberOf_23 rfl rfl rfl ?_
      refine g_getR (q := 27) (r := some 43) 2 1 X (lk_41_1 hK) (lt2000 (c := 0) (by decide)) kf_X2_15 (by decide) (by decide) rfl rfl (hK.n (by decide)) dX2_numberOf_24 rfl ?_
      refine g_iload (q := 29) 5 X dX2_numberOf_27 rfl rfl ?_
      obtain ⟨s5, h⟩ := h
      refine g_iald (q := 30) X rfl (hK.n (by decide)) s5 dX2_numberOf_29 rfl ?_
      refine g_iload (q := 32) 4 X dX2_numberOf_30 rfl rfl ?_
      refine g_icmp_gt (q := 35) 45 X dX2_numberOf_32 (by decide) rfl (fun c6 => ?_) (fun c6 => ?_)
      · have h := h.1 c6
        refine g_iconst (q := 46) (-1) X dX2_numberOf_45 rfl rfl ic_m1 ?_
        exact g_iret (q := 0) X hR dX2_numberOf_46 rfl ⟨rfl, rfl, rfl, _, rfl, h⟩
      · have h := h.2 c6
        refine g_aload_n (q := 36) 0 X dX2_numberOf_35 rfl rfl rfl ?_
        refine g_getR (q := 39) (r := some 44) 2 2 X (lk_41_2 hK) (lt2000 (c := 0) (by decide)) kf_X2_19 (by decide) (by decide) rfl rfl (hK.n (by decide)) dX2_numberOf_36 rfl ?_
        refine g_iload (q := 41) 5 X dX2_numberOf_39 rfl rfl ?_
        obtain ⟨s7, h⟩ := h
        refine g_iald (q := 42) X rfl (hK.n (by decide)) s7 dX2_numberOf_41 rfl ?_
        refine g_goto (q := 46) X dX2_numberOf_42 (by decide) ?_
        exact g_iret (q := 0) X hR dX2_numberOf_46 rfl ⟨rfl, rfl, rfl, _, rfl, h⟩
