def bd_X10_putBytes_47 (P3 : Int → Int → IV → Prop) (l1 l2 : Int) (iv : IV) (rv : RV) (K : IV → Prop) : Prop :=
  P3 l1 (w32 (l2 + (-8))) iv
set_option maxRecDepth 10000 in
theorem cb_X10_putBytes_47 {Γ : GX} {n : Nat} {iv : IV} {rv : RV} {K : IV → Prop} {P3 : Int → Int → IV → Prop} {l1 l2 : Int} (X : Cx Γ RX10 cX10_putBytes 3 0) (hR : Rt Γ none 0 0 (fV1 n rv K)) (hK : Lk n rv)  (hP3 : ∀ (l1' l2' : Int) (iv' : IV), P3 l1' l2' iv' → G Γ 3 3 [aR (some 0), aI (l1'), aI (l2')] [] n iv' rv 0 0) (h : bd_X10_putBytes_47 P3 l1 l2 iv rv K) : G Γ 3 47 [aR (some 0), aI l1, aI l2] [] n iv rv 0 0 := by
  unfold bd_X10_putBytes_47 at h
  refine g_iinc (q := 50) 2 (L' := [aR (some 0), aI l1, aI (w32 (l2 + (-8)))]) X dX10_putBytes_47 rfl (by decide) rfl rfl rfl ?_
  refine g_goto (q := 3) X dX10_putBytes_50 (by decide) ?_
  exact hP3 _ _ _ h
def bd_X10_putBytes_3 (P3 : Int → Int → IV → Prop) (l1 l2 : Int) (iv : IV) (rv : RV) (K : IV → Prop) : Prop :=
  ((l2 < 0) → (K iv)) ∧ ((¬ (l2 < 0)) → ((((iv 0 1) < 0) → (bd_X10_putBytes_47 P3 l1 l2 iv rv K)) ∧ ((¬ ((iv 0 1) < 0)) → (((900 ≤ (iv 0 1)) → (bd_X10_putBytes_47 P3 l1 l2 iv rv K)) ∧ ((¬ (900 ≤ (iv 0 1))) → ((0 ≤ iv 0 1 ∧ iv 0 1 < 900) ∧ ∀ iv5, iv5 = w2 iv 1 (iv 0 1).toNat ((Int32.ofInt ((Int32.ofInt ((Int32.ofInt l1 >>> (Int32.ofInt l2 &&& 31)).toInt)).toInt8.toInt32.toInt)).toInt8.toInt32.toInt) → ∀ iv6, iv6 = w2 iv5 0 1 (w32 ((iv5 0 1) + 1)) → bd_X10_putBytes_47 P3 l1 l2 iv6 rv K))))))
set_option maxRecDepth 10000 in
theorem cb_X10_putBytes_3 {Γ : GX} {n : Nat} {iv : IV} {rv : RV} {K : IV → Prop} {P3 : Int → Int → IV → Prop} {l1 l2 : Int} (X : Cx Γ RX10 cX10_putBytes 3 0) (hR : Rt Γ none 0 0 (fV1 n rv K)) (hK : Lk n rv)  (hP3 : ∀ (l1' l2' : Int) (iv' : IV), P3 l1' l2' iv' → G Γ 3 3 [aR (some 0), aI (l1'), aI (l2')] [] n iv' rv 0 0) (h : bd_X10_putBytes_3 P3 l1 l2 iv rv K) : G Γ 3 3 [aR (some 0), aI l1, aI l2] [] n iv rv 0 0 := by
  unfold bd_X10_putBytes_3 at h
  refine g_iload_n (q := 4) 2 X dX10_putBytes_3 rfl rfl rfl ?_
  refine g_if_lt (q := 7) 53 X dX10_putBytes_4 (by decide) rfl (fun c1 => ?_) (fun c1 => ?_)
  · have h := h.1 c1
    exact g_vret (q := 0) X hR dX10_putBytes_53 rfl ⟨rfl, rfl, rfl, h⟩
  · have h := h.2 c1
    refine g_aload_n (q := 8) 0 X dX10_putBytes_7 rfl rfl rfl ?_
    refine g_getI (q := 11) 10 1 X kf_X10_48 (by decide) (by decide) rfl rfl (hK.n (by decide)) dX10_putBytes_8 rfl ?_
    refine g_if_lt (q := 14) 47 X dX10_putBytes_11 (by decide) rfl (fun c2 => ?_) (fun c2 => ?_)
    · have h := h.1 c2
      exact cb_X10_putBytes_47 X hR hK  hP3 h
    · have h := h.2 c2
      refine g_aload_n (q := 15) 0 X dX10_putBytes_14 rfl rfl rfl ?_
      refine g_getI (q := 18) 10 1 X kf_X10_48 (by decide) (by decide) rfl rfl (hK.n (by decide)) dX10_putBytes_15 rfl ?_
      refine g_sipush (q := 21) 900 X dX10_putBytes_18 rfl sc_900 ic_900 ?_
      refine g_icmp_ge (q := 24) 47 X dX10_putBytes_21 (by decide) rfl (fun c3 => ?_) (fun c3 => ?_)
      · have h := h.1 c3
        exact cb_X10_putBytes_47 X hR hK  hP3 h
      · have h := h.2 c3
        refine g_aload_n (q := 25) 0 X dX10_putBytes_24 rfl rfl rfl ?_
        refine g_getR (q := 28) (r := some 1) 10 0 X (lk_0_0 hK) (lt2000 (c := 0) (by decide)) kf_X10_9 (by decide) (by decide) rfl rfl (hK.n (by decide)) dX10_putBytes_25 rfl ?_
        refine g_aload_n (q := 29) 0 X dX10_putBytes_28 rfl rfl rfl ?_
        refine g_getI (q := 32) 10 1 X kf_X10_48 (by decide) (by decide) rfl rfl (hK.n (by decide)) dX10_putBytes_29 rfl ?_
        refine g_iload_n (q := 33) 1 X dX10_putBytes_32 rfl rfl rfl ?_
        refine g_iload_n (q := 34) 2 X dX10_putBytes_33 rfl rfl rfl ?_
        refine g_ishr (q := 35) X dX10_putBytes_34 rfl ?_
        refine g_i2b (q := 36) X dX10_putBytes_35 rfl ?_
        obtain ⟨s4, h⟩ := h
        refine g_bast (q := 37) X rfl (hK.n (by decide)) s4 dX10_putBytes_36 rfl ?_
        refine g_nmM (fun iv5 eiv5 => ?_)
        have h := h iv5 eiv5
        refine g_aload_n (q := 38) 0 X dX10_putBytes_37 rfl rfl rfl ?_
        refine g_dup (q := 39) X dX10_putBytes_38 rfl rfl ?_
        refine g_getI (q := 42) 10 1 X kf_X10_48 (by decide) (by decide) rfl rfl (hK.n (by decide)) dX10_putBytes_39 rfl ?_
        refine g_iconst (q := 43) 1 X dX10_putBytes_42 rfl rfl ic_1 ?_
        refine g_iadd (q := 44) X dX10_putBytes_43 rfl ?_
        refine g_putI (q := 47) 10 1 X (Or.inl rfl) rfl kf_X10_48 (by decide) (by decide) rfl (hK.n (by decide)) dX10_putBytes_44 rfl ?_
        refine g_nmM (fun iv6 eiv6 => ?_)
        have h := h iv6 eiv6
        exact cb_X10_putBytes_47 X hR hK  hP3 h
def wl_X10_putBytes_3 (l1 l2 : Int) (iv : IV) (rv : RV) (K : IV → Prop) : Prop :=
  ∀ P : Int → Int → IV → Prop, (∀ (l1' l2' : Int) (iv' : IV), bd_X10_putBytes_3  P l1' l2' iv' rv K → P l1' l2' iv') → P l1 l2 iv
theorem cl_X10_putBytes_3 {Γ : GX} {n : Nat} {iv : IV} {rv : RV} {K : IV → Prop} {l1 l2 : Int} (X : Cx Γ RX10 cX10_putBytes 3 0) (hR : Rt Γ none 0 0 (fV1 n rv K)) (hK : Lk n rv)  (h : wl_X10_putBytes_3 l1 l2 iv rv K) : G Γ 3 3 [aR (some 0), aI l1, aI l2] [] n iv rv 0 0 := by
  exact h (fun l1' l2' iv' =>  G Γ 3 3 [aR (some 0), aI (l1'), aI (l2')] [] n iv' rv 0 0) (fun l1' l2' iv' hb => cb_X10_putBytes_3 X hR hK   (fun l1' l2' iv' hp => hp) hb)
def wp_X10_putBytes (a1 : Int) (iv : IV) (rv : RV) (K : IV → Prop) : Prop :=
  wl_X10_putBytes_3 a1 24 iv rv K
set_option maxRecDepth 10000 in
theorem ce_X10_putBytes {n : Nat} {iv : IV} {rv : RV} {K : IV → Prop} {a1 : Int} (hK : Lk n rv)  (h : wp_X10_putBytes a1 iv rv K) : Call 0 0 0 yX10_putBytes cX10_putBytes 3 none [aR (some 0), aI a1] n iv rv (fV1 n rv K) := by
  refine Call.by (L := [aR (some 0), aI a1, aJ]) (by decide) rfl ⟨trivial, trivial, trivial⟩ rfl (Nat.le_of_ble_eq_true rfl) (fun Γ X hR => ?_)
  unfold wp_X10_putBytes at h
  refine g_bipush (q := 2) 24 X dX10_putBytes_0 rfl bc_24 ic_24 ?_
  refine g_istore_n (q := 3) 2 (L' := [aR (some 0), aI a1, aI 24]) X dX10_putBytes_2 rfl rfl (by decide) rfl rfl ?_
  exact cl_X10_putBytes_3 X hR hK   h
def wp_X10_feed (a1 : Int) (a2 : Int) (a3 : Int) (a4 : Int) (a5 : Int) (iv : IV) (rv : RV) (K : Int → IV → Prop) : Prop :=
  (((iv 0 1) ≤ 880) → (wp_X10_putBytes a1 iv rv (fun iv2 => wp_X10_putBytes a2 iv2 rv (fun iv3 => wp_X10_putBytes a3 iv3 rv (fun iv4 => wp_X10_putBytes a4 iv4 rv (fun iv5 => wp_X10_putBytes a5 iv5 rv (fun iv6 => K (iv6 0 1) iv6))))))) ∧ ((¬ ((iv 0 1) ≤ 880)) → (K (-1) iv))
set_option maxRecDepth 10000 in
theorem ce_X10_feed {n : Nat} {iv : IV} {rv : RV} {K : Int → IV → Prop} {a1 : Int} {a2 : Int} {a3 : Int} {a4 : Int} {a5 : Int} (hK : Lk n rv)  (h : wp_X10_feed a1 a2 a3 a4 a5 iv rv K) : Call 1 0 0 yX10_feed cX10_feed 6 (some .int) [aR (some 0), aI a1, aI a2, aI a3, aI a4, aI a5] n iv rv (fI1 n rv K) := by
  refine Call.by (L := [aR (some 0), aI a1, aI a2, aI a3, aI a4, aI a5]) (by decide) rfl ⟨trivial, trivial, trivial, trivial, trivial, trivial, trivial⟩ rfl (Nat.le_of_ble_eq_true rfl) (fun Γ X hR => ?_)
  unfold wp_X10_feed at h
  refine g_aload_n (q := 1) 0 X dX10_feed_0 rfl rfl rfl ?_
  refine g_getI (q := 4) 10 1 X kf_X10_48 (by decide) (by decide) rfl rfl (hK.n (by decide)) dX10_feed_1 rfl ?_
  refine g_sipush (q := 7) 880 X dX10_feed_4 rfl sc_880 ic_880 ?_
  refine g_icmp_le (q := 10) 12 X dX10_feed_7 (by decide) rfl (fun c1 => ?_) (fun c1 => ?_)
  · have h := h.1 c1
    refine g_aload_n (q := 13) 0 X dX10_feed_12 rfl rfl rfl ?_
    refine g_iload_n (q := 14) 1 X dX10_feed_13 rfl rfl rfl ?_
    refine g_cv (q := 17) [aI a1] 10 X (ce_X10_putBytes hK  h) kV_X10_52 rfl (by decide) rfl (hK.n (by decide)) rfl rfl (Nat.le_of_ble_eq_true rfl) (by decide) dX10_feed_14 rfl (fun r n_ iv_ rv_ hf => ?_)
    obtain ⟨en_, er_, rfl, h⟩ := hf; subst n_; subst rv_
    generalize iv_ = iv2 at h ⊢
    refine g_aload_n (q := 18) 0 X dX10_feed_17 rfl rfl rfl ?_
    refine g_iload_n (q := 19) 2 X dX10_feed_18 rfl rfl rfl ?_
    refine g_cv (q := 22) [aI a2] 10 X (ce_X10_putBytes hK  h) kV_X10_52 rfl (by decide) rfl (hK.n (by decide)) rfl rfl (Nat.le_of_ble_eq_true rfl) (by decide) dX10_feed_19 rfl (fun r n_ iv_ rv_ hf => ?_)
    obtain ⟨en_, er_, rfl, h⟩ := hf; subst n_; subst rv_
    generalize iv_ = iv3 at h ⊢
    refine g_aload_n (q := 23) 0 X dX10_feed_22 rfl rfl rfl ?_
    refine g_iload_n (q := 24) 3 X dX10_feed_23 rfl rfl rfl ?_
    refine g_cv (q := 27) [aI a3] 10 X (ce_X10_putBytes hK  h) kV_X10_52 rfl (by decide) rfl (hK.n (by decide)) rfl rfl (Nat.le_of_ble_eq_true rfl) (by decide) dX10_feed_24 rfl (fun r n_ iv_ rv_ hf => ?_)
    obtain ⟨en_, er_, rfl, h⟩ := hf; subst n_; subst rv_
    generalize iv_ = iv4 at h ⊢
    refine g_aload_n (q := 28) 0 X dX10_feed_27 rfl rfl rfl ?_
    refine g_iload (q := 30) 4 X dX10_feed_28 rfl rfl ?_
    refine g_cv (q := 33) [aI a4] 10 X (ce_X10_putBytes hK  h) kV_X10_52 rfl (by decide) rfl (hK.n (by decide)) rfl rfl (Nat.le_of_ble_eq_true rfl) (by decide) dX10_feed_30 rfl (fun r n_ iv_ rv_ hf => ?_)
    obtain ⟨en_, er_, rfl, h⟩ := hf; subst n_; subst rv_
    generalize iv_ = iv5 at h ⊢
    refine g_aload_n (q := 34) 0 X dX10_feed_33 rfl rfl rfl ?_
    refine g_iload (q := 36) 5 X dX10_feed_34 rfl rfl ?_
    refine g_cv (q := 39) [aI a5] 10 X (ce_X10_putBytes hK  h) kV_X10_52 rfl (by decide) rfl (hK.n (by decide)) rfl rfl (Nat.le_of_ble_eq_true rfl) (by decide) dX10_feed_36 rfl (fun r n_ iv_ rv_ hf => ?_)
    obtain ⟨en_, er_, rfl, h⟩ := hf; subst n_; subst rv_
    generalize iv_ = iv6 at h ⊢
    refine g_aload_n (q := 40) 0 X dX10_feed_39 rfl rfl rfl ?_
    refine g_getI (q := 43) 10 1 X kf_X10_48 (by decide) (by decide) rfl rfl (hK.n (by decide)) dX10_feed_40 rfl ?_
    exact g_iret (q := 0) X hR dX10_feed_43 rfl ⟨rfl, rfl, _, rfl, h⟩
  · have h := h.2 c1
    refine g_iconst (q := 11) (-1) X dX10_feed_10 rfl rfl ic_m1 ?_
    exact g_iret (q := 0) X hR dX10_feed_11 rfl ⟨rfl, rfl, _, rfl, h⟩
def wp_X10_refused (a1 : Int) (iv : IV) (rv : RV) (K : Int → IV → Prop) : Prop :=
  ∀ iv1, iv1 = w2 iv 0 7 a1 → K (-1) iv1
set_option maxRecDepth 10000 in
theorem ce_X10_refused {n : Nat} {iv : IV} {rv : RV} {K : Int → IV → Prop} {a1 : Int} (hK : Lk n rv)  (h : wp_X10_refused a1 iv rv K) : Call 0 0 0 yX10_refused cX10_refused 2 (some .int) [aR (some 0), aI a1] n iv rv (fI1 n rv K) := by
  refine Call.by (L := [aR (some 0), aI a1]) (by decide) rfl ⟨trivial, trivial, trivial⟩ rfl (Nat.le_of_ble_eq_true rfl) (fun Γ X hR => ?_)
  unfold wp_X10_refused at h
  refine g_aload_n (q := 1) 0 X dX10_refused_0 rfl rfl rfl ?_
  refine g_iload_n (q := 2) 1 X dX10_refused_1 rfl rfl rfl ?_
  refine g_putI (q := 5) 10 7 X (Or.inl rfl) rfl kf_X10_67 (by decide) (by decide) rfl (hK.n (by decide)) dX10_refused_2 rfl ?_
  refine g_nmM (fun iv1 eiv1 => ?_)
  have h := h iv1 eiv1
  refine g_iconst (q := 6) (-1) X dX10_refused_5 rfl rfl ic_m1 ?_
  exact g_iret (q := 0) X hR dX10_refused_6 rfl ⟨rfl, rfl, _, rfl, h⟩
def bd_X10_realm_12 (iv : IV) (rv : RV) (K : Int → IV → RV → Prop) : Prop :=
  wp_X10_refused 2 iv rv (fun r1 iv2 => K r1 iv2 rv)
set_option maxRecDepth 10000 in
theorem cb_X10_realm_12 {Γ : GX} {n : Nat} {iv : IV} {rv : RV} {K : Int → IV → RV → Prop} (X : Cx Γ RX10 cX10_realm 4 10) (hR : Rt Γ (some .int) 0 0 (fI2 n K)) (hK : Lk n rv)  (h : bd_X10_realm_12 iv rv K) : G Γ 4 12 [aR (some 0), aJ, aJ, aJ] [] n iv rv 0 0 := by
  unfold bd_X10_realm_12 at h
  refine g_aload_n (q := 13) 0 X dX10_realm_12 rfl rfl rfl ?_
  refine g_iconst (q := 14) 2 X dX10_realm_13 rfl rfl ic_2 ?_
  refine g_cv (q := 17) [aI 2] 10 X (ce_X10_refused hK  h) kV_X10_56 rfl (by decide) rfl (hK.n (by decide)) rfl rfl (Nat.le_of_ble_eq_true rfl) (by decide) dX10_realm_14 rfl (fun r n_ iv_ rv_ hf => ?_)
  obtain ⟨en_, er_, r1, rfl, h⟩ := hf; subst n_; subst rv_
  generalize iv_ = iv2 at h ⊢
  exact g_iret (q := 0) X hR dX10_realm_17 rfl ⟨rfl, hK, _, rfl, h⟩
def wp_X10_realm (a1 : Int) (iv : IV) (rv : RV) (K : Int → IV → RV → Prop) : Prop :=
  ((a1 < 0) → (bd_X10_realm_12 iv rv K)) ∧ ((¬ (a1 < 0)) → (((a1 ≤ (iv 0 1)) → (wp_X4_read (gR rv 0 3) a1 iv rv (fun r3 iv4 rv5 => ∀ iv6, iv6 = w2 iv4 0 1 0 → ((r3 ≠ 0) → (∀ rv8, rv8 = r2 rv5 0 2 (some (gR rv5 0 3)) → ∀ rv9, rv9 = r2 rv8 0 3 (some (gR rv5 0 2)) → wp_X9_forget iv6 rv9 (fun iv10 => ∀ iv11, iv11 = w2 iv10 0 7 0 → K (iv11 (gR rv9 0 2 + 1) 0) iv11 rv9))) ∧ ((r3 = 0) → (wp_X10_refused 4 iv6 rv5 (fun r12 iv13 => K r12 iv13 rv5)))))) ∧ ((¬ (a1 ≤ (iv 0 1))) → (bd_X10_realm_12 iv rv K))))
set_option maxRecDepth 10000 in
theorem ce_X10_realm {n : Nat} {iv : IV} {rv : RV} {K : Int → IV → RV → Prop} {a1 : Int} (hK : Lk n rv)  (h : wp_X10_realm a1 iv rv K) : Call 10 0 0 yX10_realm cX10_realm 4 (some .int) [aR (some 0), aI a1] n iv rv (fI2 n K) := by
  refine Call.by (L := [aR (some 0), aI a1, aJ, aJ]) (by decide) rfl ⟨trivial, trivial, trivial⟩ rfl (Nat.le_of_ble_eq_true rfl) (fun Γ X hR => ?_)
  unfold wp_X10_realm at h
  refine g_iload_n (q := 1) 1 X dX10_realm_0 rfl rfl rfl ?_
  refine g_if_lt (q := 4) 12 X dX10_realm_1 (by decide) rfl (fun c1 => ?_) (fun c1 => ?_)
  · have h := h.1 c1
    refine g_sub (L' := [aR (some 0), aJ, aJ, aJ]) ⟨Or.inr rfl, Or.inl rfl, Or.inl rfl, Or.inl rfl, trivial⟩ ?_
    exact cb_X10_realm_12 X hR hK   h
  · have h := h.2 c1
    refine g_iload_n (q := 5) 1 X dX10_realm_4 rfl rfl rfl ?_
    refine g_aload_n (q := 6) 0 X dX10_realm_5 rfl rfl rfl ?_
    refine g_getI (q := 9) 10 1 X kf_X10_48 (by decide) (by decide) rfl rfl (hK.n (by decide)) dX10_realm_6 rfl ?_
    refine g_icmp_le (q := 12) 18 X dX10_realm_9 (by decide) rfl (fun c2 => ?_) (fun c2 => ?_)
    · have h := h.1 c2
      refine g_aload_n (q := 19) 0 X dX10_realm_18 rfl rfl rfl ?_
      refine g_getR (q := 22) (r := some 40) 10 4 X (lk_0_4 hK) (lt2000 (c := 0) (by decide)) kf_X10_28 (by decide) (by decide) rfl rfl (hK.n (by decide)) dX10_realm_19 rfl ?_
      refine g_aload_n (q := 23) 0 X dX10_realm_22 rfl rfl rfl ?_
      refine g_getR (q := 26) (r := some (gR rv 0 3)) 10 3 X hK.2.2.2.2.2.1.2.1.1 (lt2000 (c := 0) (isR_lt0 hK.2.2.2.2.2.1.2.1.2)) kf_X10_20 (by decide) (by decide) rfl rfl (hK.n (by decide)) dX10_realm_23 rfl ?_
      refine g_iload_n (q := 27) 1 X dX10_realm_26 rfl rfl rfl ?_
      refine g_cv (q := 30) [aR (some (gR rv 0 3)), aI a1] 4 X (ce_X4_read hK hK.2.2.2.2.2.1.2.1.2 h) kV_X10_60 rfl (by decide) rfl (hK.n (by decide)) rfl rfl (Nat.le_of_ble_eq_true rfl) (by decide) dX10_realm_27 rfl (fun r n_ iv_ rv_ hf => ?_)
      obtain ⟨en_, hK_rv5, r3, rfl, br3, h⟩ := hf; subst n_
      generalize iv_ = iv4 at h ⊢
      generalize rv_ = rv5 at h hK_rv5 ⊢
      refine g_istore_n (q := 31) 2 (L' := [aR (some 0), aI a1, aI r3, aJ]) X dX10_realm_30 rfl rfl (by decide) rfl rfl ?_
      refine g_aload_n (q := 32) 0 X dX10_realm_31 rfl rfl rfl ?_
      refine g_iconst (q := 33) 0 X dX10_realm_32 rfl rfl ic_0 ?_
      refine g_putI (q := 36) 10 1 X (Or.inl rfl) rfl kf_X10_48 (by decide) (by decide) rfl (hK_rv5.n (by decide)) dX10_realm_33 rfl ?_
      refine g_nmM (fun iv6 eiv6 => ?_)
      have h := h iv6 eiv6
      refine g_iload_n (q := 37) 2 X dX10_realm_36 rfl rfl rfl ?_
      refine g_if_ne (q := 40) 46 X dX10_realm_37 (by decide) rfl (fun c7 => ?_) (fun c7 => ?_)
      · have h := h.1 c7
        refine g_aload_n (q := 47) 0 X dX10_realm_46 rfl rfl rfl ?_
        refine g_getR (q := 50) (r := some (gR rv5 0 2)) 10 2 X hK_rv5.2.2.2.2.2.1.1.1 (lt2000 (c := 0) (isR_lt0 hK_rv5.2.2.2.2.2.1.1.2)) kf_X10_16 (by decide) (by decide) rfl rfl (hK_rv5.n (by decide)) dX10_realm_47 rfl ?_
        refine g_astore_n (q := 51) 3 (L' := [aR (some 0), aI a1, aI r3, aR (some (gR rv5 0 2))]) X dX10_realm_50 rfl rfl (by decide) rfl rfl ?_
        refine g_aload_n (q := 52) 0 X dX10_realm_51 rfl rfl rfl ?_
        refine g_aload_n (q := 53) 0 X dX10_realm_52 rfl rfl rfl ?_
        refine g_getR (q := 56) (r := some (gR rv5 0 3)) 10 3 X hK_rv5.2.2.2.2.2.1.2.1.1 (lt2000 (c := 0) (isR_lt0 hK_rv5.2.2.2.2.2.1.2.1.2)) kf_X10_20 (by decide) (by decide) rfl rfl (hK_rv5.n (by decide)) dX10_realm_53 rfl ?_
        refine g_putR (q := 59) 10 2 X rfl rfl kf_X10_16 (by decide) (by decide) rfl (hK_rv5.n (by decide)) dX10_realm_56 rfl ?_
        refine g_nmR (fun rv8 erv8 => ?_)
        have h := h rv8 erv8
        have hK_rv8 : Lk n rv8 := by rw [erv8]; exact Lk.w5 hK_rv5 hK_rv5.2.2.2.2.2.1.2.1.2 (by decide)
        refine g_aload_n (q := 60) 0 X dX10_realm_59 rfl rfl rfl ?_
        refine g_aload_n (q := 61) 3 X dX10_realm_60 rfl rfl rfl ?_
        refine g_putR (q := 64) 10 3 X rfl rfl kf_X10_20 (by decide) (by decide) rfl (hK_rv8.n (by decide)) dX10_realm_61 rfl ?_
        refine g_nmR (fun rv9 erv9 => ?_)
        have h := h rv9 erv9
        have hK_rv9 : Lk n rv9 := by rw [erv9]; exact Lk.w5 hK_rv8 hK_rv5.2.2.2.2.2.1.1.2 (by decide)
        refine g_aload_n (q := 65) 0 X dX10_realm_64 rfl rfl rfl ?_
        refine g_getR (q := 68) (r := some 63) 10 6 X (lk_0_6 hK_rv9) (lt2000 (c := 0) (by decide)) kf_X10_44 (by decide) (by decide) rfl rfl (hK_rv9.n (by decide)) dX10_realm_65 rfl ?_
        refine g_cv (q := 71) [] 9 X (ce_X9_forget hK_rv9  h) kV_X10_64 rfl (by decide) rfl (hK_rv9.n (by decide)) rfl rfl (Nat.le_of_ble_eq_true rfl) (by decide) dX10_realm_68 rfl (fun r n_ iv_ rv_ hf => ?_)
        obtain ⟨en_, er_, rfl, h⟩ := hf; subst n_; subst rv_
        generalize iv_ = iv10 at h ⊢
        refine g_aload_n (q := 72) 0 X dX10_realm_71 rfl rfl rfl ?_
        refine g_iconst (q := 73) 0 X dX10_realm_72 rfl rfl ic_0 ?_
        refine g_putI (q := 76) 10 7 X (Or.inl rfl) rfl kf_X10_67 (by decide) (by decide) rfl (hK_rv9.n (by decide)) dX10_realm_73 rfl ?_
        refine g_nmM (fun iv11 eiv11 => ?_)
        have h := h iv11 eiv11
        refine g_aload_n (q := 77) 0 X dX10_realm_76 rfl rfl rfl ?_
        refine g_getR (q := 80) (r := some (gR rv9 0 2)) 10 2 X hK_rv9.2.2.2.2.2.1.1.1 (lt2000 (c := 0) (isR_lt0 hK_rv9.2.2.2.2.2.1.1.2)) kf_X10_16 (by decide) (by decide) rfl rfl (hK_rv9.n (by decide)) dX10_realm_77 rfl ?_
        refine g_getR (q := 83) (r := some (gR rv9 0 2 + 1)) 5 0 X (lkR_0 hK_rv9 hK_rv9.2.2.2.2.2.1.1.2) (lt2000 (c := 0) (isR_lt hK_rv9.2.2.2.2.2.1.1.2 (by decide))) kf_X10_70 (by decide) (by decide) rfl (shR_0 hK_rv9.2.2.2.2.2.1.1.2) (isR_n0 hK_rv9 hK_rv9.2.2.2.2.2.1.1.2) dX10_realm_80 rfl ?_
        refine g_iconst (q := 84) 0 X dX10_realm_83 rfl rfl ic_0 ?_
        refine g_iald (q := 85) X (shR_1 hK_rv9.2.2.2.2.2.1.1.2) (isR_n hK_rv9 hK_rv9.2.2.2.2.2.1.1.2 (by decide)) (by decide) dX10_realm_84 rfl ?_
        exact g_iret (q := 0) X hR dX10_realm_85 rfl ⟨rfl, hK_rv9, _, rfl, h⟩
      · have h := h.2 c7
        refine g_aload_n (q := 41) 0 X dX10_realm_40 rfl rfl rfl ?_
        refine g_iconst (q := 42) 4 X dX10_realm_41 rfl rfl ic_4 ?_
        refine g_cv (q := 45) [aI 4] 10 X (ce_X10_refused hK_rv5  h) kV_X10_56 rfl (by decide) rfl (hK_rv5.n (by decide)) rfl rfl (Nat.le_of_ble_eq_true rfl) (by decide) dX10_realm_42 rfl (fun r n_ iv_ rv_ hf => ?_)
        obtain ⟨en_, er_, r12, rfl, h⟩ := hf; subst n_; subst rv_
        generalize iv_ = iv13 at h ⊢
        exact g_iret (q := 0) X hR dX10_realm_45 rfl ⟨rfl, hK_rv5, _, rfl, h⟩
    · have h := h.2 c2
      refine g_sub (L' := [aR (some 0), aJ, aJ, aJ]) ⟨Or.inr rfl, Or.inl rfl, Or.inl rfl, Or.inl rfl, trivial⟩ ?_
      exact cb_X10_realm_12 X hR hK   h
def wp_X10_fault (iv : IV) (rv : RV) (K : Int → Prop) : Prop :=
  K (iv 40 6)
set_option maxRecDepth 10000 in
theorem ce_X10_fault {n : Nat} {iv : IV} {rv : RV} {K : Int → Prop} (hK : Lk n rv)  (h : wp_X10_fault  iv rv K) : Call 0 0 0 yX10_fault cX10_fault 1 (some .int) [aR (some 0)] n iv rv (fI0 n iv rv K) := by
  refine Call.by (L := [aR (some 0)]) (by decide) rfl ⟨trivial, trivial⟩ rfl (Nat.le_of_ble_eq_true rfl) (fun Γ X hR => ?_)
  unfold wp_X10_fault at h
  refine g_aload_n (q := 1) 0 X dX10_fault_0 rfl rfl rfl ?_
  refine g_getR (q := 4) (r := some 40) 10 4 X (lk_0_4 hK) (lt2000 (c := 0) (by decide)) kf_X10_28 (by decide) (by decide) rfl rfl (hK.n (by decide)) dX10_fault_1 rfl ?_
  refine g_getI (q := 7) 4 6 X kf_X10_74 (by decide) (by decide) rfl rfl (hK.n (by decide)) dX10_fault_4 rfl ?_
  exact g_iret (q := 0) X hR dX10_fault_7 rfl ⟨rfl, rfl, rfl, _, rfl, h⟩
def wp_X10_where (iv : IV) (rv : RV) (K : Int → Prop) : Prop :=
  (((iv 0 7) ≠ 4) → (K (-1))) ∧ (((iv 0 7) = 4) → (K (iv 40 7)))
set_option maxRecDepth 10000 in
theorem ce_X10_where {n : Nat} {iv : IV} {rv : RV} {K : Int → Prop} (hK : Lk n rv)  (h : wp_X10_where  iv rv K) : Call 0 0 0 yX10_where cX10_where 1 (some .int) [aR (some 0)] n iv rv (fI0 n iv rv K) := by
  refine Call.by (L := [aR (some 0)]) (by decide) rfl ⟨trivial, trivial⟩ rfl (Nat.le_of_ble_eq_true rfl) (fun Γ X hR => ?_)
  unfold wp_X10_where at h
  refine g_aload_n (q := 1) 0 X dX10_where_0 rfl rfl rfl ?_
  refine g_getI (q := 4) 10 7 X kf_X10_67 (by decide) (by decide) rfl rfl (hK.n (by decide)) dX10_where_1 rfl ?_
  refine g_iconst (q := 5) 4 X dX10_where_4 rfl rfl ic_4 ?_
  refine g_icmp_ne (q := 8) 18 X dX10_where_5 (by decide) rfl (fun c1 => ?_) (fun c1 => ?_)
  · have h := h.1 c1
    refine g_iconst (q := 19) (-1) X dX10_where_18 rfl rfl ic_m1 ?_
    exact g_iret (q := 0) X hR dX10_where_19 rfl ⟨rfl, rfl, rfl, _, rfl, h⟩
  · have h := h.2 c1
    refine g_aload_n (q := 9) 0 X dX10_where_8 rfl rfl rfl ?_
    refine g_getR (q := 12) (r := some 40) 10 4 X (lk_0_4 hK) (lt2000 (c := 0) (by decide)) kf_X10_28 (by decide) (by decide) rfl rfl (hK.n (by decide)) dX10_where_9 rfl ?_
    refine g_getI (q := 15) 4 7 X kf_X10_77 (by decide) (by decide) rfl rfl (hK.n (by decide)) dX10_where_12 rfl ?_
    refine g_goto (q := 19) X dX10_where_15 (by decide) ?_
    exact g_iret (q := 0) X hR dX10_where_19 rfl ⟨rfl, rfl, rfl, _, rfl, h⟩
def wp_X10_knownCase (a1 : Int) (a2 : Int) (a3 : Int) (iv : IV) (rv : RV) (K : Int → Prop) : Prop :=
  wp_X5_has (gR rv 0 2) 11 a1 iv rv (fun r1 => ((r1 = 0) → (K 0)) ∧ ((¬ (r1 = 0)) → (wp_X5_has (gR rv 0 2) 4 a2 iv rv (fun r3 => ((r3 = 0) → (K 0)) ∧ ((¬ (r3 = 0)) → (wp_X5_has (gR rv 0 2) 10 a3 iv rv (fun r5 => ((r5 = 0) → (K 0)) ∧ ((¬ (r5 = 0)) → (K 1)))))))))
set_option maxRecDepth 10000 in
theorem ce_X10_knownCase {n : Nat} {iv : IV} {rv : RV} {K : Int → Prop} {a1 : Int} {a2 : Int} {a3 : Int} (hK : Lk n rv)  (h : wp_X10_knownCase a1 a2 a3 iv rv K) : Call 1 0 0 yX10_knownCase cX10_knownCase 4 (some .boolean) [aR (some 0), aI a1, aI a2, aI a3] n iv rv (fB0 n iv rv K) := by
  refine Call.by (L := [aR (some 0), aI a1, aI a2, aI a3]) (by decide) rfl ⟨trivial, trivial, trivial, trivial, trivial⟩ rfl (Nat.le_of_ble_eq_true rfl) (fun Γ X hR => ?_)
  unfold wp_X10_knownCase at h
  refine g_aload_n (q := 1) 0 X dX10_knownCase_0 rfl rfl rfl ?_
  refine g_getR (q := 4) (r := some (gR rv 0 2)) 10 2 X hK.2.2.2.2.2.1.1.1 (lt2000 (c := 0) (isR_lt0 hK.2.2.2.2.2.1.1.2)) kf_X10_16 (by decide) (by decide) rfl rfl (hK.n (by decide)) dX10_knownCase_1 rfl ?_
  refine g_bipush (q := 6) 11 X dX10_knownCase_4 rfl bc_11 ic_11 ?_
  refine g_iload_n (q := 7) 1 X dX10_knownCase_6 rfl rfl rfl ?_
  refine g_cv (q := 10) [aI 11, aI a1] 5 X (ce_X5_has hK hK.2.2.2.2.2.1.1.2 h) kV_X10_96 rfl (by decide) (shR_0 hK.2.2.2.2.2.1.1.2) (isR_n0 hK hK.2.2.2.2.2.1.1.2) rfl rfl (Nat.le_of_ble_eq_true rfl) (by decide) dX10_knownCase_7 rfl (fun r n_ iv_ rv_ hf => ?_)
  obtain ⟨en_, ei_, er_, r1, rfl, br1, h⟩ := hf; subst n_; subst iv_; subst rv_
  refine g_if_eq (q := 13) 42 X dX10_knownCase_10 (by decide) rfl (fun c2 => ?_) (fun c2 => ?_)
  · have h := h.1 c2
    refine g_iconst (q := 43) 0 X dX10_knownCase_42 rfl rfl ic_0 ?_
    exact g_zret (q := 0) .boolean X hR (nar_B (Or.inl rfl)) dX10_knownCase_43 rfl ⟨rfl, rfl, rfl, _, rfl, (Or.inl rfl), h⟩
  · have h := h.2 c2
    refine g_aload_n (q := 14) 0 X dX10_knownCase_13 rfl rfl rfl ?_
    refine g_getR (q := 17) (r := some (gR rv 0 2)) 10 2 X hK.2.2.2.2.2.1.1.1 (lt2000 (c := 0) (isR_lt0 hK.2.2.2.2.2.1.1.2)) kf_X10_16 (by decide) (by decide) rfl rfl (hK.n (by decide)) dX10_knownCase_14 rfl ?_
    refine g_iconst (q := 18) 4 X dX10_knownCase_17 rfl rfl ic_4 ?_
    refine g_iload_n (q := 19) 2 X dX10_knownCase_18 rfl rfl rfl ?_
    refine g_cv (q := 22) [aI 4, aI a2] 5 X (ce_X5_has hK hK.2.2.2.2.2.1.1.2 h) kV_X10_96 rfl (by decide) (shR_0 hK.2.2.2.2.2.1.1.2) (isR_n0 hK hK.2.2.2.2.2.1.1.2) rfl rfl (Nat.le_of_ble_eq_true rfl) (by decide) dX10_knownCase_19 rfl (fun r n_ iv_ rv_ hf => ?_)
    obtain ⟨en_, ei_, er_, r3, rfl, br3, h⟩ := hf; subst n_; subst iv_; subst rv_
    refine g_if_eq (q := 25) 42 X dX10_knownCase_22 (by decide) rfl (fun c4 => ?_) (fun c4 => ?_)
    · have h := h.1 c4
      refine g_iconst (q := 43) 0 X dX10_knownCase_42 rfl rfl ic_0 ?_
      exact g_zret (q := 0) .boolean X hR (nar_B (Or.inl rfl)) dX10_knownCase_43 rfl ⟨rfl, rfl, rfl, _, rfl, (Or.inl rfl), h⟩
    · have h := h.2 c4
      refine g_aload_n (q := 26) 0 X dX10_knownCase_25 rfl rfl rfl ?_
      refine g_getR (q := 29) (r := some (gR rv 0 2)) 10 2 X hK.2.2.2.2.2.1.1.1 (lt2000 (c := 0) (isR_lt0 hK.2.2.2.2.2.1.1.2)) kf_X10_16 (by decide) (by decide) rfl rfl (hK.n (by decide)) dX10_knownCase_26 rfl ?_
      refine g_bipush (q := 31) 10 X dX10_knownCase_29 rfl bc_10 ic_10 ?_
      refine g_iload_n (q := 32) 3 X dX10_knownCase_31 rfl rfl rfl ?_
      refine g_cv (q := 35) [aI 10, aI a3] 5 X (ce_X5_has hK hK.2.2.2.2.2.1.1.2 h) kV_X10_96 rfl (by decide) (shR_0 hK.2.2.2.2.2.1.1.2) (isR_n0 hK hK.2.2.2.2.2.1.1.2) rfl rfl (Nat.le_of_ble_eq_true rfl) (by decide) dX10_knownCase_32 rfl (fun r n_ iv_ rv_ hf => ?_)
      obtain ⟨en_, ei_, er_, r5, rfl, br5, h⟩ := hf; subst n_; subst iv_; subst rv_
      refine g_if_eq (q := 38) 42 X dX10_knownCase_35 (by decide) rfl (fun c6 => ?_) (fun c6 => ?_)
      · have h := h.1 c6
        refine g_iconst (q := 43) 0 X dX10_knownCase_42 rfl rfl ic_0 ?_
        exact g_zret (q := 0) .boolean X hR (nar_B (Or.inl rfl)) dX10_knownCase_43 rfl ⟨rfl, rfl, rfl, _, rfl, (Or.inl rfl), h⟩
      · have h := h.2 c6
        refine g_iconst (q := 39) 1 X dX10_knownCase_38 rfl rfl ic_1 ?_
        refine g_goto (q := 43) X dX10_knownCase_39 (by decide) ?_
        exact g_zret (q := 0) .boolean X hR (nar_B (Or.inr rfl)) dX10_knownCase_43 rfl ⟨rfl, rfl, rfl, _, rfl, (Or.inr rfl), h⟩
def bd_X10_admitted_33 (iv : IV) (rv : RV) (K : Int → IV → Prop) : Prop :=
  (((iv 0 7) ≠ 0) → (K 0 iv)) ∧ (((iv 0 7) = 0) → (K 1 iv))
set_option maxRecDepth 10000 in
theorem cb_X10_admitted_33 {Γ : GX} {n : Nat} {iv : IV} {rv : RV} {K : Int → IV → Prop} (X : Cx Γ RX10 cX10_admitted 3 0) (hR : Rt Γ (some .boolean) 0 0 (fB1 n rv K)) (hK : Lk n rv)  (h : bd_X10_admitted_33 iv rv K) : G Γ 3 33 [aR (some 0), aJ, aJ] [] n iv rv 0 0 := by
  unfold bd_X10_admitted_33 at h
  refine g_aload_n (q := 34) 0 X dX10_admitted_33 rfl rfl rfl ?_
  refine g_getI (q := 37) 10 7 X kf_X10_67 (by decide) (by decide) rfl rfl (hK.n (by decide)) dX10_admitted_34 rfl ?_
  refine g_if_ne (q := 40) 44 X dX10_admitted_37 (by decide) rfl (fun c1 => ?_) (fun c1 => ?_)
  · have h := h.1 c1
    refine g_iconst (q := 45) 0 X dX10_admitted_44 rfl rfl ic_0 ?_
    exact g_zret (q := 0) .boolean X hR (nar_B (Or.inl rfl)) dX10_admitted_45 rfl ⟨rfl, rfl, _, rfl, (Or.inl rfl), h⟩
  · have h := h.2 c1
    refine g_iconst (q := 41) 1 X dX10_admitted_40 rfl rfl ic_1 ?_
    refine g_goto (q := 45) X dX10_admitted_41 (by decide) ?_
    exact g_zret (q := 0) .boolean X hR (nar_B (Or.inr rfl)) dX10_admitted_45 rfl ⟨rfl, rfl, _, rfl, (Or.inr rfl), h⟩
def bd_X10_admitted_28 (iv : IV) (rv : RV) (K : Int → IV → Prop) : Prop :=
  ∀ iv1, iv1 = w2 iv 0 7 2 → bd_X10_admitted_33 iv1 rv K
set_option maxRecDepth 10000 in
theorem cb_X10_admitted_28 {Γ : GX} {n : Nat} {iv : IV} {rv : RV} {K : Int → IV → Prop} (X : Cx Γ RX10 cX10_admitted 3 0) (hR : Rt Γ (some .boolean) 0 0 (fB1 n rv K)) (hK : Lk n rv)  (h : bd_X10_admitted_28 iv rv K) : G Γ 3 28 [aR (some 0), aJ, aJ] [] n iv rv 0 0 := by
  unfold bd_X10_admitted_28 at h
  refine g_aload_n (q := 29) 0 X dX10_admitted_28 rfl rfl rfl ?_
  refine g_iconst (q := 30) 2 X dX10_admitted_29 rfl rfl ic_2 ?_
  refine g_putI (q := 33) 10 7 X (Or.inl rfl) rfl kf_X10_67 (by decide) (by decide) rfl (hK.n (by decide)) dX10_admitted_30 rfl ?_
  refine g_nmM (fun iv1 eiv1 => ?_)
  have h := h iv1 eiv1
  exact cb_X10_admitted_33 X hR hK   h
def wp_X10_admitted (a1 : Int) (a2 : Int) (iv : IV) (rv : RV) (K : Int → IV → Prop) : Prop :=
  ∀ iv1, iv1 = w2 iv 0 7 0 → ((a1 ≠ 0) → (((a2 < 0) → (bd_X10_admitted_28 iv1 rv K)) ∧ ((¬ (a2 < 0)) → (((a2 ≤ 999) → (bd_X10_admitted_33 iv1 rv K)) ∧ ((¬ (a2 ≤ 999)) → (bd_X10_admitted_28 iv1 rv K)))))) ∧ ((a1 = 0) → (∀ iv5, iv5 = w2 iv1 0 7 1 → bd_X10_admitted_33 iv5 rv K))
set_option maxRecDepth 10000 in
theorem ce_X10_admitted {n : Nat} {iv : IV} {rv : RV} {K : Int → IV → Prop} {a1 : Int} {a2 : Int} (hK : Lk n rv)  (h : wp_X10_admitted a1 a2 iv rv K) : Call 0 0 0 yX10_admitted cX10_admitted 3 (some .boolean) [aR (some 0), aI a1, aI a2] n iv rv (fB1 n rv K) := by
  refine Call.by (L := [aR (some 0), aI a1, aI a2]) (by decide) rfl ⟨trivial, trivial, trivial, trivial⟩ rfl (Nat.le_of_ble_eq_true rfl) (fun Γ X hR => ?_)
  unfold wp_X10_admitted at h
  refine g_aload_n (q := 1) 0 X dX10_admitted_0 rfl rfl rfl ?_
  refine g_iconst (q := 2) 0 X dX10_admitted_1 rfl rfl ic_0 ?_
  refine g_putI (q := 5) 10 7 X (Or.inl rfl) rfl kf_X10_67 (by decide) (by decide) rfl (hK.n (by decide)) dX10_admitted_2 rfl ?_
  refine g_nmM (fun iv1 eiv1 => ?_)
  have h := h iv1 eiv1
  refine g_iload_n (q := 6) 1 X dX10_admitted_5 rfl rfl rfl ?_
  refine g_if_ne (q := 9) 17 X dX10_admitted_6 (by decide) rfl (fun c2 => ?_) (fun c2 => ?_)
  · have h := h.1 c2
    refine g_iload_n (q := 18) 2 X dX10_admitted_17 rfl rfl rfl ?_
    refine g_if_lt (q := 21) 28 X dX10_admitted_18 (by decide) rfl (fun c3 => ?_) (fun c3 => ?_)
    · have h := h.1 c3
      refine g_sub (L' := [aR (some 0), aJ, aJ]) ⟨Or.inr rfl, Or.inl rfl, Or.inl rfl, trivial⟩ ?_
      exact cb_X10_admitted_28 X hR hK   h
    · have h := h.2 c3
      refine g_iload_n (q := 22) 2 X dX10_admitted_21 rfl rfl rfl ?_
      refine g_sipush (q := 25) 999 X dX10_admitted_22 rfl sc_999 ic_999 ?_
      refine g_icmp_le (q := 28) 33 X dX10_admitted_25 (by decide) rfl (fun c4 => ?_) (fun c4 => ?_)
      · have h := h.1 c4
        refine g_sub (L' := [aR (some 0), aJ, aJ]) ⟨Or.inr rfl, Or.inl rfl, Or.inl rfl, trivial⟩ ?_
        exact cb_X10_admitted_33 X hR hK   h
      · have h := h.2 c4
        refine g_sub (L' := [aR (some 0), aJ, aJ]) ⟨Or.inr rfl, Or.inl rfl, Or.inl rfl, trivial⟩ ?_
        exact cb_X10_admitted_28 X hR hK   h
  · have h := h.2 c2
    refine g_aload_n (q := 10) 0 X dX10_admitted_9 rfl rfl rfl ?_
    refine g_iconst (q := 11) 1 X dX10_admitted_10 rfl rfl ic_1 ?_
    refine g_putI (q := 14) 10 7 X (Or.inl rfl) rfl kf_X10_67 (by decide) (by decide) rfl (hK.n (by decide)) dX10_admitted_11 rfl ?_
    refine g_nmM (fun iv5 eiv5 => ?_)
    have h := h iv5 eiv5
    refine g_goto (q := 33) X dX10_admitted_14 (by decide) ?_
    refine g_sub (L' := [aR (some 0), aJ, aJ]) ⟨Or.inr rfl, Or.inl rfl, Or.inl rfl, trivial⟩ ?_
    exact cb_X10_admitted_33 X hR hK   h
def wp_X10_owes (a1 : Int) (a2 : Int) (a3 : Int) (a4 : Int) (iv : IV) (rv : RV) (K : Int → IV → RV → Prop) : Prop :=
  wp_X10_knownCase a1 a2 a4 iv rv (fun r1 => wp_X10_admitted r1 a3 iv rv (fun r2 iv3 => ((r2 ≠ 0) → (wp_X1_open (gR rv 0 2) a4 iv3 rv (fun iv5 rv6 => wp_X1_owedAt a1 a2 a3 iv5 rv6 (fun r7 iv8 => K r7 iv8 rv6)))) ∧ ((r2 = 0) → (K (-1) iv3 rv))))
set_option maxRecDepth 10000 in
theorem ce_X10_owes {n : Nat} {iv : IV} {rv : RV} {K : Int → IV → RV → Prop} {a1 : Int} {a2 : Int} {a3 : Int} {a4 : Int} (hK : Lk n rv)  (h : wp_X10_owes a1 a2 a3 a4 iv rv K) : Call 5 0 0 yX10_owes cX10_owes 5 (some .int) [aR (some 0), aI a1, aI a2, aI a3, aI a4] n iv rv (fI2 n K) := by
  refine Call.by (L := [aR (some 0), aI a1, aI a2, aI a3, aI a4]) (by decide) rfl ⟨trivial, trivial, trivial, trivial, trivial, trivial⟩ rfl (Nat.le_of_ble_eq_true rfl) (fun Γ X hR => ?_)
  unfold wp_X10_owes at h
  refine g_aload_n (q := 1) 0 X dX10_owes_0 rfl rfl rfl ?_
  refine g_aload_n (q := 2) 0 X dX10_owes_1 rfl rfl rfl ?_
  refine g_iload_n (q := 3) 1 X dX10_owes_2 rfl rfl rfl ?_
  refine g_iload_n (q := 4) 2 X dX10_owes_3 rfl rfl rfl ?_
  refine g_iload (q := 6) 4 X dX10_owes_4 rfl rfl ?_
  refine g_cv (q := 9) [aI a1, aI a2, aI a4] 10 X (ce_X10_knownCase hK  h) kV_X10_80 rfl (by decide) rfl (hK.n (by decide)) rfl rfl (Nat.le_of_ble_eq_true rfl) (by decide) dX10_owes_6 rfl (fun r n_ iv_ rv_ hf => ?_)
  obtain ⟨en_, ei_, er_, r1, rfl, br1, h⟩ := hf; subst n_; subst iv_; subst rv_
  refine g_iload_n (q := 10) 3 X dX10_owes_9 rfl rfl rfl ?_
  refine g_cv (q := 13) [aI r1, aI a3] 10 X (ce_X10_admitted hK  h) kV_X10_84 rfl (by decide) rfl (hK.n (by decide)) rfl rfl (Nat.le_of_ble_eq_true rfl) (by decide) dX10_owes_10 rfl (fun r n_ iv_ rv_ hf => ?_)
  obtain ⟨en_, er_, r2, rfl, br2, h⟩ := hf; subst n_; subst rv_
  generalize iv_ = iv3 at h ⊢
  refine g_if_ne (q := 16) 18 X dX10_owes_13 (by decide) rfl (fun c4 => ?_) (fun c4 => ?_)
  · have h := h.1 c4
    refine g_aload_n (q := 19) 0 X dX10_owes_18 rfl rfl rfl ?_
    refine g_getR (q := 22) (r := some 47) 10 5 X (lk_0_5 hK) (lt2000 (c := 0) (by decide)) kf_X10_37 (by decide) (by decide) rfl rfl (hK.n (by decide)) dX10_owes_19 rfl ?_
    refine g_aload_n (q := 23) 0 X dX10_owes_22 rfl rfl rfl ?_
    refine g_getR (q := 26) (r := some (gR rv 0 2)) 10 2 X hK.2.2.2.2.2.1.1.1 (lt2000 (c := 0) (isR_lt0 hK.2.2.2.2.2.1.1.2)) kf_X10_16 (by decide) (by decide) rfl rfl (hK.n (by decide)) dX10_owes_23 rfl ?_
    refine g_iload (q := 28) 4 X dX10_owes_26 rfl rfl ?_
    refine g_cv (q := 31) [aR (some (gR rv 0 2)), aI a4] 1 X (ce_X1_open hK hK.2.2.2.2.2.1.1.2 h) kV_X10_88 rfl (by decide) rfl (hK.n (by decide)) rfl rfl (Nat.le_of_ble_eq_true rfl) (by decide) dX10_owes_28 rfl (fun r n_ iv_ rv_ hf => ?_)
    obtain ⟨en_, hK_rv6, rfl, h⟩ := hf; subst n_
    generalize iv_ = iv5 at h ⊢
    generalize rv_ = rv6 at h hK_rv6 ⊢
    refine g_aload_n (q := 32) 0 X dX10_owes_31 rfl rfl rfl ?_
    refine g_getR (q := 35) (r := some 47) 10 5 X (lk_0_5 hK_rv6) (lt2000 (c := 0) (by decide)) kf_X10_37 (by decide) (by decide) rfl rfl (hK_rv6.n (by decide)) dX10_owes_32 rfl ?_
    refine g_iload_n (q := 36) 1 X dX10_owes_35 rfl rfl rfl ?_
    refine g_iload_n (q := 37) 2 X dX10_owes_36 rfl rfl rfl ?_
    refine g_iload_n (q := 38) 3 X dX10_owes_37 rfl rfl rfl ?_
    refine g_cv (q := 41) [aI a1, aI a2, aI a3] 1 X (ce_X1_owedAt hK_rv6  h) kV_X10_92 rfl (by decide) rfl (hK_rv6.n (by decide)) rfl rfl (Nat.le_of_ble_eq_true rfl) (by decide) dX10_owes_38 rfl (fun r n_ iv_ rv_ hf => ?_)
    obtain ⟨en_, er_, r7, rfl, h⟩ := hf; subst n_; subst rv_
    generalize iv_ = iv8 at h ⊢
    exact g_iret (q := 0) X hR dX10_owes_41 rfl ⟨rfl, hK_rv6, _, rfl, h⟩
  · have h := h.2 c4
    refine g_iconst (q := 17) (-1) X dX10_owes_16 rfl rfl ic_m1 ?_
    exact g_iret (q := 0) X hR dX10_owes_17 rfl ⟨rfl, hK, _, rfl, h⟩
def bd_X10_wins_44 (l1 l2 l3 l4 t0 : Int) (iv : IV) (rv : RV) (K : Int → IV → RV → Prop) : Prop :=
  wp_X10_admitted t0 l3 iv rv (fun r1 iv2 => ((r1 ≠ 0) → (wp_X1_open (gR rv 0 2) l4 iv2 rv (fun iv4 rv5 => wp_X1_winner l1 l2 l3 iv4 rv5 (fun r6 iv7 => K r6 iv7 rv5)))) ∧ ((r1 = 0) → (K (-1) iv2 rv)))
set_option maxRecDepth 10000 in
theorem cb_X10_wins_44 {Γ : GX} {n : Nat} {iv : IV} {rv : RV} {K : Int → IV → RV → Prop} {l1 l2 l3 l4 t0 : Int} (X : Cx Γ RX10 cX10_wins 6 5) (hR : Rt Γ (some .int) 0 0 (fI2 n K)) (hK : Lk n rv)  (h : bd_X10_wins_44 l1 l2 l3 l4 t0 iv rv K) : G Γ 6 44 [aR (some 0), aI l1, aI l2, aI l3, aI l4, aJ] [aI t0] n iv rv 0 0 := by
  unfold bd_X10_wins_44 at h
  refine g_istore (q := 46) (k0 := 0) 5 (L' := [aR (some 0), aI l1, aI l2, aI l3, aI l4, aI t0]) X dX10_wins_44 rfl (by decide) rfl rfl ?_
  refine g_aload_n (q := 47) 0 X dX10_wins_46 rfl rfl rfl ?_
  refine g_iload (q := 49) 5 X dX10_wins_47 rfl rfl ?_
  refine g_iload_n (q := 50) 3 X dX10_wins_49 rfl rfl rfl ?_
  refine g_cv (q := 53) [aI t0, aI l3] 10 X (ce_X10_admitted hK  h) kV_X10_84 rfl (by decide) rfl (hK.n (by decide)) rfl rfl (Nat.le_of_ble_eq_true rfl) (by decide) dX10_wins_50 rfl (fun r n_ iv_ rv_ hf => ?_)
  obtain ⟨en_, er_, r1, rfl, br1, h⟩ := hf; subst n_; subst rv_
  generalize iv_ = iv2 at h ⊢
  refine g_if_ne (q := 56) 58 X dX10_wins_53 (by decide) rfl (fun c3 => ?_) (fun c3 => ?_)
  · have h := h.1 c3
    refine g_aload_n (q := 59) 0 X dX10_wins_58 rfl rfl rfl ?_
    refine g_getR (q := 62) (r := some 47) 10 5 X (lk_0_5 hK) (lt2000 (c := 0) (by decide)) kf_X10_37 (by decide) (by decide) rfl rfl (hK.n (by decide)) dX10_wins_59 rfl ?_
    refine g_aload_n (q := 63) 0 X dX10_wins_62 rfl rfl rfl ?_
    refine g_getR (q := 66) (r := some (gR rv 0 2)) 10 2 X hK.2.2.2.2.2.1.1.1 (lt2000 (c := 0) (isR_lt0 hK.2.2.2.2.2.1.1.2)) kf_X10_16 (by decide) (by decide) rfl rfl (hK.n (by decide)) dX10_wins_63 rfl ?_
    refine g_iload (q := 68) 4 X dX10_wins_66 rfl rfl ?_
    refine g_cv (q := 71) [aR (some (gR rv 0 2)), aI l4] 1 X (ce_X1_open hK hK.2.2.2.2.2.1.1.2 h) kV_X10_88 rfl (by decide) rfl (hK.n (by decide)) rfl rfl (Nat.le_of_ble_eq_true rfl) (by decide) dX10_wins_68 rfl (fun r n_ iv_ rv_ hf => ?_)
    obtain ⟨en_, hK_rv5, rfl, h⟩ := hf; subst n_
    generalize iv_ = iv4 at h ⊢
    generalize rv_ = rv5 at h hK_rv5 ⊢
    refine g_aload_n (q := 72) 0 X dX10_wins_71 rfl rfl rfl ?_
    refine g_getR (q := 75) (r := some 47) 10 5 X (lk_0_5 hK_rv5) (lt2000 (c := 0) (by decide)) kf_X10_37 (by decide) (by decide) rfl rfl (hK_rv5.n (by decide)) dX10_wins_72 rfl ?_
    refine g_iload_n (q := 76) 1 X dX10_wins_75 rfl rfl rfl ?_
    refine g_iload_n (q := 77) 2 X dX10_wins_76 rfl rfl rfl ?_
    refine g_iload_n (q := 78) 3 X dX10_wins_77 rfl rfl rfl ?_
    refine g_cv (q := 81) [aI l1, aI l2, aI l3] 1 X (ce_X1_winner hK_rv5  h) kV_X10_100 rfl (by decide) rfl (hK_rv5.n (by decide)) rfl rfl (Nat.le_of_ble_eq_true rfl) (by decide) dX10_wins_78 rfl (fun r n_ iv_ rv_ hf => ?_)
    obtain ⟨en_, er_, r6, rfl, h⟩ := hf; subst n_; subst rv_
    generalize iv_ = iv7 at h ⊢
    exact g_iret (q := 0) X hR dX10_wins_81 rfl ⟨rfl, hK_rv5, _, rfl, h⟩
  · have h := h.2 c3
    refine g_iconst (q := 57) (-1) X dX10_wins_56 rfl rfl ic_m1 ?_
    exact g_iret (q := 0) X hR dX10_wins_57 rfl ⟨rfl, hK, _, rfl, h⟩
def bd_X10_wins_43 (l1 l2 l3 l4 : Int) (iv : IV) (rv : RV) (K : Int → IV → RV → Prop) : Prop :=
  bd_X10_wins_44 l1 l2 l3 l4 0 iv rv K
set_option maxRecDepth 10000 in
theorem cb_X10_wins_43 {Γ : GX} {n : Nat} {iv : IV} {rv : RV} {K : Int → IV → RV → Prop} {l1 l2 l3 l4 : Int} (X : Cx Γ RX10 cX10_wins 6 5) (hR : Rt Γ (some .int) 0 0 (fI2 n K)) (hK : Lk n rv)  (h : bd_X10_wins_43 l1 l2 l3 l4 iv rv K) : G Γ 6 43 [aR (some 0), aI l1, aI l2, aI l3, aI l4, aJ] [] n iv rv 0 0 := by
  unfold bd_X10_wins_43 at h
  refine g_iconst (q := 44) 0 X dX10_wins_43 rfl rfl ic_0 ?_
  exact cb_X10_wins_44 X hR hK   h
def wp_X10_wins (a1 : Int) (a2 : Int) (a3 : Int) (a4 : Int) (iv : IV) (rv : RV) (K : Int → IV → RV → Prop) : Prop :=
  wp_X5_has (gR rv 0 2) 11 a1 iv rv (fun r1 => ((r1 = 0) → (bd_X10_wins_43 a1 a2 a3 a4 iv rv K)) ∧ ((¬ (r1 = 0)) → (wp_X5_has (gR rv 0 2) 5 a2 iv rv (fun r3 => ((r3 = 0) → (bd_X10_wins_43 a1 a2 a3 a4 iv rv K)) ∧ ((¬ (r3 = 0)) → (wp_X5_has (gR rv 0 2) 10 a4 iv rv (fun r5 => ((r5 = 0) → (bd_X10_wins_43 a1 a2 a3 a4 iv rv K)) ∧ ((¬ (r5 = 0)) → (bd_X10_wins_44 a1 a2 a3 a4 1 iv rv K)))))))))
set_option maxRecDepth 10000 in
theorem ce_X10_wins {n : Nat} {iv : IV} {rv : RV} {K : Int → IV → RV → Prop} {a1 : Int} {a2 : Int} {a3 : Int} {a4 : Int} (hK : Lk n rv)  (h : wp_X10_wins a1 a2 a3 a4 iv rv K) : Call 5 0 0 yX10_wins cX10_wins 6 (some .int) [aR (some 0), aI a1, aI a2, aI a3, aI a4] n iv rv (fI2 n K) := by
  refine Call.by (L := [aR (some 0), aI a1, aI a2, aI a3, aI a4, aJ]) (by decide) rfl ⟨trivial, trivial, trivial, trivial, trivial, trivial⟩ rfl (Nat.le_of_ble_eq_true rfl) (fun Γ X hR => ?_)
  unfold wp_X10_wins at h
  refine g_aload_n (q := 1) 0 X dX10_wins_0 rfl rfl rfl ?_
  refine g_getR (q := 4) (r := some (gR rv 0 2)) 10 2 X hK.2.2.2.2.2.1.1.1 (lt2000 (c := 0) (isR_lt0 hK.2.2.2.2.2.1.1.2)) kf_X10_16 (by decide) (by decide) rfl rfl (hK.n (by decide)) dX10_wins_1 rfl ?_
  refine g_bipush (q := 6) 11 X dX10_wins_4 rfl bc_11 ic_11 ?_
  refine g_iload_n (q := 7) 1 X dX10_wins_6 rfl rfl rfl ?_
  refine g_cv (q := 10) [aI 11, aI a1] 5 X (ce_X5_has hK hK.2.2.2.2.2.1.1.2 h) kV_X10_96 rfl (by decide) (shR_0 hK.2.2.2.2.2.1.1.2) (isR_n0 hK hK.2.2.2.2.2.1.1.2) rfl rfl (Nat.le_of_ble_eq_true rfl) (by decide) dX10_wins_7 rfl (fun r n_ iv_ rv_ hf => ?_)
  obtain ⟨en_, ei_, er_, r1, rfl, br1, h⟩ := hf; subst n_; subst iv_; subst rv_
  refine g_if_eq (q := 13) 43 X dX10_wins_10 (by decide) rfl (fun c2 => ?_) (fun c2 => ?_)
  · have h := h.1 c2
    exact cb_X10_wins_43 X hR hK   h
  · have h := h.2 c2
    refine g_aload_n (q := 14) 0 X dX10_wins_13 rfl rfl rfl ?_
    refine g_getR (q := 17) (r := some (gR rv 0 2)) 10 2 X hK.2.2.2.2.2.1.1.1 (lt2000 (c := 0) (isR_lt0 hK.2.2.2.2.2.1.1.2)) kf_X10_16 (by decide) (by decide) rfl rfl (hK.n (by decide)) dX10_wins_14 rfl ?_
    refine g_iconst (q := 18) 5 X dX10_wins_17 rfl rfl ic_5 ?_
    refine g_iload_n (q := 19) 2 X dX10_wins_18 rfl rfl rfl ?_
    refine g_cv (q := 22) [aI 5, aI a2] 5 X (ce_X5_has hK hK.2.2.2.2.2.1.1.2 h) kV_X10_96 rfl (by decide) (shR_0 hK.2.2.2.2.2.1.1.2) (isR_n0 hK hK.2.2.2.2.2.1.1.2) rfl rfl (Nat.le_of_ble_eq_true rfl) (by decide) dX10_wins_19 rfl (fun r n_ iv_ rv_ hf => ?_)
    obtain ⟨en_, ei_, er_, r3, rfl, br3, h⟩ := hf; subst n_; subst iv_; subst rv_
    refine g_if_eq (q := 25) 43 X dX10_wins_22 (by decide) rfl (fun c4 => ?_) (fun c4 => ?_)
    · have h := h.1 c4
      exact cb_X10_wins_43 X hR hK   h
    · have h := h.2 c4
      refine g_aload_n (q := 26) 0 X dX10_wins_25 rfl rfl rfl ?_
      refine g_getR (q := 29) (r := some (gR rv 0 2)) 10 2 X hK.2.2.2.2.2.1.1.1 (lt2000 (c := 0) (isR_lt0 hK.2.2.2.2.2.1.1.2)) kf_X10_16 (by decide) (by decide) rfl rfl (hK.n (by decide)) dX10_wins_26 rfl ?_
      refine g_bipush (q := 31) 10 X dX10_wins_29 rfl bc_10 ic_10 ?_
      refine g_iload (q := 33) 4 X dX10_wins_31 rfl rfl ?_
      refine g_cv (q := 36) [aI 10, aI a4] 5 X (ce_X5_has hK hK.2.2.2.2.2.1.1.2 h) kV_X10_96 rfl (by decide) (shR_0 hK.2.2.2.2.2.1.1.2) (isR_n0 hK hK.2.2.2.2.2.1.1.2) rfl rfl (Nat.le_of_ble_eq_true rfl) (by decide) dX10_wins_33 rfl (fun r n_ iv_ rv_ hf => ?_)
      obtain ⟨en_, ei_, er_, r5, rfl, br5, h⟩ := hf; subst n_; subst iv_; subst rv_
      refine g_if_eq (q := 39) 43 X dX10_wins_36 (by decide) rfl (fun c6 => ?_) (fun c6 => ?_)
      · have h := h.1 c6
        exact cb_X10_wins_43 X hR hK   h
      · have h := h.2 c6
        refine g_iconst (q := 40) 1 X dX10_wins_39 rfl rfl ic_1 ?_
        refine g_goto (q := 44) X dX10_wins_40 (by decide) ?_
        exact cb_X10_wins_44 X hR hK   h
def wp_X10_judge (a1 : Int) (a2 : Int) (a3 : Int) (a4 : Int) (a5 : Int) (iv : IV) (rv : RV) (K : Int → IV → RV → Prop) : Prop :=
  wp_X10_knownCase a1 a2 a4 iv rv (fun r1 => wp_X10_admitted r1 a3 iv rv (fun r2 iv3 => ((r2 ≠ 0) → (wp_X1_open (gR rv 0 2) a4 iv3 rv (fun iv5 rv6 => wp_X1_owedAt a1 a2 a3 iv5 rv6 (fun r7 iv8 => ((r7 ≠ a5) → (K 0 iv8 rv6)) ∧ ((r7 = a5) → (K 1 iv8 rv6)))))) ∧ ((r2 = 0) → (K (-1) iv3 rv))))
set_option maxRecDepth 10000 in
theorem ce_X10_judge {n : Nat} {iv : IV} {rv : RV} {K : Int → IV → RV → Prop} {a1 : Int} {a2 : Int} {a3 : Int} {a4 : Int} {a5 : Int} (hK : Lk n rv)  (h : wp_X10_judge a1 a2 a3 a4 a5 iv rv K) : Call 5 0 0 yX10_judge cX10_judge 6 (some .int) [aR (some 0), aI a1, aI a2, aI a3, aI a4, aI a5] n iv rv (fI2 n K) := by
  refine Call.by (L := [aR (some 0), aI a1, aI a2, aI a3, aI a4, aI a5]) (by decide) rfl ⟨trivial, trivial, trivial, trivial, trivial, trivial, trivial⟩ rfl (Nat.le_of_ble_eq_true rfl) (fun Γ X hR => ?_)
  unfold wp_X10_judge at h
  refine g_aload_n (q := 1) 0 X dX10_judge_0 rfl rfl rfl ?_
  refine g_aload_n (q := 2) 0 X dX10_judge_1 rfl rfl rfl ?_
  refine g_iload_n (q := 3) 1 X dX10_judge_2 rfl rfl rfl ?_
  refine g_iload_n (q := 4) 2 X dX10_judge_3 rfl rfl rfl ?_
  refine g_iload (q := 6) 4 X dX10_judge_4 rfl rfl ?_
  refine g_cv (q := 9) [aI a1, aI a2, aI a4] 10 X (ce_X10_knownCase hK  h) kV_X10_80 rfl (by decide) rfl (hK.n (by decide)) rfl rfl (Nat.le_of_ble_eq_true rfl) (by decide) dX10_judge_6 rfl (fun r n_ iv_ rv_ hf => ?_)
  obtain ⟨en_, ei_, er_, r1, rfl, br1, h⟩ := hf; subst n_; subst iv_; subst rv_
  refine g_iload_n (q := 10) 3 X dX10_judge_9 rfl rfl rfl ?_
  refine g_cv (q := 13) [aI r1, aI a3] 10 X (ce_X10_admitted hK  h) kV_X10_84 rfl (by decide) rfl (hK.n (by decide)) rfl rfl (Nat.le_of_ble_eq_true rfl) (by decide) dX10_judge_10 rfl (fun r n_ iv_ rv_ hf => ?_)
  obtain ⟨en_, er_, r2, rfl, br2, h⟩ := hf; subst n_; subst rv_
  generalize iv_ = iv3 at h ⊢
  refine g_if_ne (q := 16) 18 X dX10_judge_13 (by decide) rfl (fun c4 => ?_) (fun c4 => ?_)
  · have h := h.1 c4
    refine g_aload_n (q := 19) 0 X dX10_judge_18 rfl rfl rfl ?_
    refine g_getR (q := 22) (r := some 47) 10 5 X (lk_0_5 hK) (lt2000 (c := 0) (by decide)) kf_X10_37 (by decide) (by decide) rfl rfl (hK.n (by decide)) dX10_judge_19 rfl ?_
    refine g_aload_n (q := 23) 0 X dX10_judge_22 rfl rfl rfl ?_
    refine g_getR (q := 26) (r := some (gR rv 0 2)) 10 2 X hK.2.2.2.2.2.1.1.1 (lt2000 (c := 0) (isR_lt0 hK.2.2.2.2.2.1.1.2)) kf_X10_16 (by decide) (by decide) rfl rfl (hK.n (by decide)) dX10_judge_23 rfl ?_
    refine g_iload (q := 28) 4 X dX10_judge_26 rfl rfl ?_
    refine g_cv (q := 31) [aR (some (gR rv 0 2)), aI a4] 1 X (ce_X1_open hK hK.2.2.2.2.2.1.1.2 h) kV_X10_88 rfl (by decide) rfl (hK.n (by decide)) rfl rfl (Nat.le_of_ble_eq_true rfl) (by decide) dX10_judge_28 rfl (fun r n_ iv_ rv_ hf => ?_)
    obtain ⟨en_, hK_rv6, rfl, h⟩ := hf; subst n_
    generalize iv_ = iv5 at h ⊢
    generalize rv_ = rv6 at h hK_rv6 ⊢
    refine g_aload_n (q := 32) 0 X dX10_judge_31 rfl rfl rfl ?_
    refine g_getR (q := 35) (r := some 47) 10 5 X (lk_0_5 hK_rv6) (lt2000 (c := 0) (by decide)) kf_X10_37 (by decide) (by decide) rfl rfl (hK_rv6.n (by decide)) dX10_judge_32 rfl ?_
    refine g_iload_n (q := 36) 1 X dX10_judge_35 rfl rfl rfl ?_
    refine g_iload_n (q := 37) 2 X dX10_judge_36 rfl rfl rfl ?_
    refine g_iload_n (q := 38) 3 X dX10_judge_37 rfl rfl rfl ?_
    refine g_cv (q := 41) [aI a1, aI a2, aI a3] 1 X (ce_X1_owedAt hK_rv6  h) kV_X10_92 rfl (by decide) rfl (hK_rv6.n (by decide)) rfl rfl (Nat.le_of_ble_eq_true rfl) (by decide) dX10_judge_38 rfl (fun r n_ iv_ rv_ hf => ?_)
    obtain ⟨en_, er_, r7, rfl, h⟩ := hf; subst n_; subst rv_
    generalize iv_ = iv8 at h ⊢
    refine g_iload (q := 43) 5 X dX10_judge_41 rfl rfl ?_
    refine g_icmp_ne (q := 46) 50 X dX10_judge_43 (by decide) rfl (fun c9 => ?_) (fun c9 => ?_)
    · have h := h.1 c9
      refine g_iconst (q := 51) 0 X dX10_judge_50 rfl rfl ic_0 ?_
      exact g_iret (q := 0) X hR dX10_judge_51 rfl ⟨rfl, hK_rv6, _, rfl, h⟩
    · have h := h.2 c9
      refine g_iconst (q := 47) 1 X dX10_judge_46 rfl rfl ic_1 ?_
      refine g_goto (q := 51) X dX10_judge_47 (by decide) ?_
      exact g_iret (q := 0) X hR dX10_judge_51 rfl ⟨rfl, hK_rv6, _, rfl, h⟩
  · have h := h.2 c4
    refine g_iconst (q := 17) (-1) X dX10_judge_16 rfl rfl ic_m1 ?_
    exact g_iret (q := 0) X hR dX10_judge_17 rfl ⟨rfl, hK, _, rfl, h⟩
def wp_X10_sure (a1 : Int) (a2 : Int) (a3 : Int) (a4 : Int) (a5 : Int) (iv : IV) (rv : RV) (K : Int → IV → RV → Prop) : Prop :=
  wp_X10_knownCase a1 a2 a4 iv rv (fun r1 => wp_X10_admitted r1 a3 iv rv (fun r2 iv3 => ((r2 ≠ 0) → (wp_X5_choices (gR rv 0 2) iv3 rv (fun r5 => ((r5 ≤ 2000) → (wp_X1_open (gR rv 0 2) a4 iv3 rv (fun iv7 rv8 => wp_X1_extreme a1 a2 a3 a5 iv7 rv8 (fun r9 iv10 => K r9 iv10 rv8)))) ∧ ((¬ (r5 ≤ 2000)) → (wp_X10_refused 3 iv3 rv (fun r11 iv12 => K r11 iv12 rv)))))) ∧ ((r2 = 0) → (K (-1) iv3 rv))))
set_option maxRecDepth 10000 in
theorem ce_X10_sure {n : Nat} {iv : IV} {rv : RV} {K : Int → IV → RV → Prop} {a1 : Int} {a2 : Int} {a3 : Int} {a4 : Int} {a5 : Int} (hK : Lk n rv)  (h : wp_X10_sure a1 a2 a3 a4 a5 iv rv K) : Call 6 0 0 yX10_sure cX10_sure 6 (some .int) [aR (some 0), aI a1, aI a2, aI a3, aI a4, aI a5] n iv rv (fI2 n K) := by
  refine Call.by (L := [aR (some 0), aI a1, aI a2, aI a3, aI a4, aI a5]) (by decide) rfl ⟨trivial, trivial, trivial, trivial, trivial, trivial, trivial⟩ rfl (Nat.le_of_ble_eq_true rfl) (fun Γ X hR => ?_)
  unfold wp_X10_sure at h
  refine g_aload_n (q := 1) 0 X dX10_sure_0 rfl rfl rfl ?_
  refine g_aload_n (q := 2) 0 X dX10_sure_1 rfl rfl rfl ?_
  refine g_iload_n (q := 3) 1 X dX10_sure_2 rfl rfl rfl ?_
  refine g_iload_n (q := 4) 2 X dX10_sure_3 rfl rfl rfl ?_
  refine g_iload (q := 6) 4 X dX10_sure_4 rfl rfl ?_
  refine g_cv (q := 9) [aI a1, aI a2, aI a4] 10 X (ce_X10_knownCase hK  h) kV_X10_80 rfl (by decide) rfl (hK.n (by decide)) rfl rfl (Nat.le_of_ble_eq_true rfl) (by decide) dX10_sure_6 rfl (fun r n_ iv_ rv_ hf => ?_)
  obtain ⟨en_, ei_, er_, r1, rfl, br1, h⟩ := hf; subst n_; subst iv_; subst rv_
  refine g_iload_n (q := 10) 3 X dX10_sure_9 rfl rfl rfl ?_
  refine g_cv (q := 13) [aI r1, aI a3] 10 X (ce_X10_admitted hK  h) kV_X10_84 rfl (by decide) rfl (hK.n (by decide)) rfl rfl (Nat.le_of_ble_eq_true rfl) (by decide) dX10_sure_10 rfl (fun r n_ iv_ rv_ hf => ?_)
  obtain ⟨en_, er_, r2, rfl, br2, h⟩ := hf; subst n_; subst rv_
  generalize iv_ = iv3 at h ⊢
  refine g_if_ne (q := 16) 18 X dX10_sure_13 (by decide) rfl (fun c4 => ?_) (fun c4 => ?_)
  · have h := h.1 c4
    refine g_aload_n (q := 19) 0 X dX10_sure_18 rfl rfl rfl ?_
    refine g_getR (q := 22) (r := some (gR rv 0 2)) 10 2 X hK.2.2.2.2.2.1.1.1 (lt2000 (c := 0) (isR_lt0 hK.2.2.2.2.2.1.1.2)) kf_X10_16 (by decide) (by decide) rfl rfl (hK.n (by decide)) dX10_sure_19 rfl ?_
    refine g_cv (q := 25) [] 5 X (ce_X5_choices hK hK.2.2.2.2.2.1.1.2 h) kV_X10_103 rfl (by decide) (shR_0 hK.2.2.2.2.2.1.1.2) (isR_n0 hK hK.2.2.2.2.2.1.1.2) rfl rfl (Nat.le_of_ble_eq_true rfl) (by decide) dX10_sure_22 rfl (fun r n_ iv_ rv_ hf => ?_)
    obtain ⟨en_, ei_, er_, r5, rfl, h⟩ := hf; subst n_; subst iv_; subst rv_
    refine g_sipush (q := 28) 2000 X dX10_sure_25 rfl sc_2000 ic_2000 ?_
    refine g_icmp_le (q := 31) 37 X dX10_sure_28 (by decide) rfl (fun c6 => ?_) (fun c6 => ?_)
    · have h := h.1 c6
      refine g_aload_n (q := 38) 0 X dX10_sure_37 rfl rfl rfl ?_
      refine g_getR (q := 41) (r := some 47) 10 5 X (lk_0_5 hK) (lt2000 (c := 0) (by decide)) kf_X10_37 (by decide) (by decide) rfl rfl (hK.n (by decide)) dX10_sure_38 rfl ?_
      refine g_aload_n (q := 42) 0 X dX10_sure_41 rfl rfl rfl ?_
      refine g_getR (q := 45) (r := some (gR rv 0 2)) 10 2 X hK.2.2.2.2.2.1.1.1 (lt2000 (c := 0) (isR_lt0 hK.2.2.2.2.2.1.1.2)) kf_X10_16 (by decide) (by decide) rfl rfl (hK.n (by decide)) dX10_sure_42 rfl ?_
      refine g_iload (q := 47) 4 X dX10_sure_45 rfl rfl ?_
      refine g_cv (q := 50) [aR (some (gR rv 0 2)), aI a4] 1 X (ce_X1_open hK hK.2.2.2.2.2.1.1.2 h) kV_X10_88 rfl (by decide) rfl (hK.n (by decide)) rfl rfl (Nat.le_of_ble_eq_true rfl) (by decide) dX10_sure_47 rfl (fun r n_ iv_ rv_ hf => ?_)
      obtain ⟨en_, hK_rv8, rfl, h⟩ := hf; subst n_
      generalize iv_ = iv7 at h ⊢
      generalize rv_ = rv8 at h hK_rv8 ⊢
      refine g_aload_n (q := 51) 0 X dX10_sure_50 rfl rfl rfl ?_
      refine g_getR (q := 54) (r := some 47) 10 5 X (lk_0_5 hK_rv8) (lt2000 (c := 0) (by decide)) kf_X10_37 (by decide) (by decide) rfl rfl (hK_rv8.n (by decide)) dX10_sure_51 rfl ?_
      refine g_iload_n (q := 55) 1 X dX10_sure_54 rfl rfl rfl ?_
      refine g_iload_n (q := 56) 2 X dX10_sure_55 rfl rfl rfl ?_
      refine g_iload_n (q := 57) 3 X dX10_sure_56 rfl rfl rfl ?_
      refine g_iload (q := 59) 5 X dX10_sure_57 rfl rfl ?_
      refine g_cv (q := 62) [aI a1, aI a2, aI a3, aI a5] 1 X (ce_X1_extreme hK_rv8  h) kV_X10_107 rfl (by decide) rfl (hK_rv8.n (by decide)) rfl rfl (Nat.le_of_ble_eq_true rfl) (by decide) dX10_sure_59 rfl (fun r n_ iv_ rv_ hf => ?_)
      obtain ⟨en_, er_, r9, rfl, h⟩ := hf; subst n_; subst rv_
      generalize iv_ = iv10 at h ⊢
      exact g_iret (q := 0) X hR dX10_sure_62 rfl ⟨rfl, hK_rv8, _, rfl, h⟩
    · have h := h.2 c6
      refine g_aload_n (q := 32) 0 X dX10_sure_31 rfl rfl rfl ?_
      refine g_iconst (q := 33) 3 X dX10_sure_32 rfl rfl ic_3 ?_
      refine g_cv (q := 36) [aI 3] 10 X (ce_X10_refused hK  h) kV_X10_56 rfl (by decide) rfl (hK.n (by decide)) rfl rfl (Nat.le_of_ble_eq_true rfl) (by decide) dX10_sure_33 rfl (fun r n_ iv_ rv_ hf => ?_)
      obtain ⟨en_, er_, r11, rfl, h⟩ := hf; subst n_; subst rv_
      generalize iv_ = iv12 at h ⊢
      exact g_iret (q := 0) X hR dX10_sure_36 rfl ⟨rfl, hK, _, rfl, h⟩
  · have h := h.2 c4
    refine g_iconst (q := 17) (-1) X dX10_sure_16 rfl rfl ic_m1 ?_
    exact g_iret (q := 0) X hR dX10_sure_17 rfl ⟨rfl, hK, _, rfl, h⟩
def bd_X10_force_30 (l1 l2 l3 t0 : Int) (iv : IV) (rv : RV) (K : Int → IV → RV → Prop) : Prop :=
  wp_X10_admitted t0 l2 iv rv (fun r1 iv2 => ((r1 ≠ 0) → (wp_X1_open (gR rv 0 2) l3 iv2 rv (fun iv4 rv5 => wp_X6_sit l2 iv4 rv5 (fun iv6 => (0 ≤ l1 ∧ l1 < 16) ∧ (((iv6 54 l1.toNat) = 0) → (K 0 iv6 rv5)) ∧ ((¬ ((iv6 54 l1.toNat) = 0)) → (K 1 iv6 rv5)))))) ∧ ((r1 = 0) → (K (-1) iv2 rv)))
set_option maxRecDepth 10000 in
theorem cb_X10_force_30 {Γ : GX} {n : Nat} {iv : IV} {rv : RV} {K : Int → IV → RV → Prop} {l1 l2 l3 t0 : Int} (X : Cx Γ RX10 cX10_force 4 3) (hR : Rt Γ (some .int) 0 0 (fI2 n K)) (hK : Lk n rv)  (h : bd_X10_force_30 l1 l2 l3 t0 iv rv K) : G Γ 4 30 [aR (some 0), aI l1, aI l2, aI l3] [aI t0, aR (some 0)] n iv rv 0 0 := by
  unfold bd_X10_force_30 at h
  refine g_iload_n (q := 31) 2 X dX10_force_30 rfl rfl rfl ?_
  refine g_cv (q := 34) [aI t0, aI l2] 10 X (ce_X10_admitted hK  h) kV_X10_84 rfl (by decide) rfl (hK.n (by decide)) rfl rfl (Nat.le_of_ble_eq_true rfl) (by decide) dX10_force_31 rfl (fun r n_ iv_ rv_ hf => ?_)
  obtain ⟨en_, er_, r1, rfl, br1, h⟩ := hf; subst n_; subst rv_
  generalize iv_ = iv2 at h ⊢
  refine g_if_ne (q := 37) 39 X dX10_force_34 (by decide) rfl (fun c3 => ?_) (fun c3 => ?_)
  · have h := h.1 c3
    refine g_aload_n (q := 40) 0 X dX10_force_39 rfl rfl rfl ?_
    refine g_getR (q := 43) (r := some 47) 10 5 X (lk_0_5 hK) (lt2000 (c := 0) (by decide)) kf_X10_37 (by decide) (by decide) rfl rfl (hK.n (by decide)) dX10_force_40 rfl ?_
    refine g_aload_n (q := 44) 0 X dX10_force_43 rfl rfl rfl ?_
    refine g_getR (q := 47) (r := some (gR rv 0 2)) 10 2 X hK.2.2.2.2.2.1.1.1 (lt2000 (c := 0) (isR_lt0 hK.2.2.2.2.2.1.1.2)) kf_X10_16 (by decide) (by decide) rfl rfl (hK.n (by decide)) dX10_force_44 rfl ?_
    refine g_iload_n (q := 48) 3 X dX10_force_47 rfl rfl rfl ?_
    refine g_cv (q := 51) [aR (some (gR rv 0 2)), aI l3] 1 X (ce_X1_open hK hK.2.2.2.2.2.1.1.2 h) kV_X10_88 rfl (by decide) rfl (hK.n (by decide)) rfl rfl (Nat.le_of_ble_eq_true rfl) (by decide) dX10_force_48 rfl (fun r n_ iv_ rv_ hf => ?_)
    obtain ⟨en_, hK_rv5, rfl, h⟩ := hf; subst n_
    generalize iv_ = iv4 at h ⊢
    generalize rv_ = rv5 at h hK_rv5 ⊢
    refine g_aload_n (q := 52) 0 X dX10_force_51 rfl rfl rfl ?_
    refine g_getR (q := 55) (r := some 47) 10 5 X (lk_0_5 hK_rv5) (lt2000 (c := 0) (by decide)) kf_X10_37 (by decide) (by decide) rfl rfl (hK_rv5.n (by decide)) dX10_force_52 rfl ?_
    refine g_getR (q := 58) (r := some 51) 1 0 X (lk_47_0 hK_rv5) (lt2000 (c := 0) (by decide)) kf_X10_115 (by decide) (by decide) rfl rfl (hK_rv5.n (by decide)) dX10_force_55 rfl ?_
    refine g_iload_n (q := 59) 2 X dX10_force_58 rfl rfl rfl ?_
    refine g_cv (q := 62) [aI l2] 6 X (ce_X6_sit hK_rv5  h) kV_X10_119 rfl (by decide) rfl (hK_rv5.n (by decide)) rfl rfl (Nat.le_of_ble_eq_true rfl) (by decide) dX10_force_59 rfl (fun r n_ iv_ rv_ hf => ?_)
    obtain ⟨en_, er_, rfl, h⟩ := hf; subst n_; subst rv_
    generalize iv_ = iv6 at h ⊢
    refine g_aload_n (q := 63) 0 X dX10_force_62 rfl rfl rfl ?_
    refine g_getR (q := 66) (r := some 47) 10 5 X (lk_0_5 hK_rv5) (lt2000 (c := 0) (by decide)) kf_X10_37 (by decide) (by decide) rfl rfl (hK_rv5.n (by decide)) dX10_force_63 rfl ?_
    refine g_getR (q := 69) (r := some 51) 1 0 X (lk_47_0 hK_rv5) (lt2000 (c := 0) (by decide)) kf_X10_115 (by decide) (by decide) rfl rfl (hK_rv5.n (by decide)) dX10_force_66 rfl ?_
    refine g_getR (q := 72) (r := some 54) 6 2 X (lk_51_2 hK_rv5) (lt2000 (c := 0) (by decide)) kf_X10_124 (by decide) (by decide) rfl rfl (hK_rv5.n (by decide)) dX10_force_69 rfl ?_
    refine g_iload_n (q := 73) 1 X dX10_force_72 rfl rfl rfl ?_
    obtain ⟨s7, h⟩ := h
    refine g_zald (q := 74) X rfl (hK_rv5.n (by decide)) s7 dX10_force_73 rfl ?_
    refine g_if_eq (q := 77) 81 X dX10_force_74 (by decide) rfl (fun c8 => ?_) (fun c8 => ?_)
    · have h := h.1 c8
      refine g_iconst (q := 82) 0 X dX10_force_81 rfl rfl ic_0 ?_
      exact g_iret (q := 0) X hR dX10_force_82 rfl ⟨rfl, hK_rv5, _, rfl, h⟩
    · have h := h.2 c8
      refine g_iconst (q := 78) 1 X dX10_force_77 rfl rfl ic_1 ?_
      refine g_goto (q := 82) X dX10_force_78 (by decide) ?_
      exact g_iret (q := 0) X hR dX10_force_82 rfl ⟨rfl, hK_rv5, _, rfl, h⟩
  · have h := h.2 c3
    refine g_iconst (q := 38) (-1) X dX10_force_37 rfl rfl ic_m1 ?_
    exact g_iret (q := 0) X hR dX10_force_38 rfl ⟨rfl, hK, _, rfl, h⟩
def bd_X10_force_29 (l1 l2 l3 : Int) (iv : IV) (rv : RV) (K : Int → IV → RV → Prop) : Prop :=
  bd_X10_force_30 l1 l2 l3 0 iv rv K
set_option maxRecDepth 10000 in
theorem cb_X10_force_29 {Γ : GX} {n : Nat} {iv : IV} {rv : RV} {K : Int → IV → RV → Prop} {l1 l2 l3 : Int} (X : Cx Γ RX10 cX10_force 4 3) (hR : Rt Γ (some .int) 0 0 (fI2 n K)) (hK : Lk n rv)  (h : bd_X10_force_29 l1 l2 l3 iv rv K) : G Γ 4 29 [aR (some 0), aI l1, aI l2, aI l3] [aR (some 0)] n iv rv 0 0 := by
  unfold bd_X10_force_29 at h
  refine g_iconst (q := 30) 0 X dX10_force_29 rfl rfl ic_0 ?_
  exact cb_X10_force_30 X hR hK   h
def wp_X10_force (a1 : Int) (a2 : Int) (a3 : Int) (iv : IV) (rv : RV) (K : Int → IV → RV → Prop) : Prop :=
  wp_X5_hasGrant (gR rv 0 2) a1 iv rv (fun r1 => ((r1 = 0) → (bd_X10_force_29 a1 a2 a3 iv rv K)) ∧ ((¬ (r1 = 0)) → (wp_X5_has (gR rv 0 2) 10 a3 iv rv (fun r3 => ((r3 = 0) → (bd_X10_force_29 a1 a2 a3 iv rv K)) ∧ ((¬ (r3 = 0)) → (bd_X10_force_30 a1 a2 a3 1 iv rv K))))))
set_option maxRecDepth 10000 in
theorem ce_X10_force {n : Nat} {iv : IV} {rv : RV} {K : Int → IV → RV → Prop} {a1 : Int} {a2 : Int} {a3 : Int} (hK : Lk n rv)  (h : wp_X10_force a1 a2 a3 iv rv K) : Call 3 0 0 yX10_force cX10_force 4 (some .int) [aR (some 0), aI a1, aI a2, aI a3] n iv rv (fI2 n K) := by
  refine Call.by (L := [aR (some 0), aI a1, aI a2, aI a3]) (by decide) rfl ⟨trivial, trivial, trivial, trivial, trivial⟩ rfl (Nat.le_of_ble_eq_true rfl) (fun Γ X hR => ?_)
  unfold wp_X10_force at h
  refine g_aload_n (q := 1) 0 X dX10_force_0 rfl rfl rfl ?_
  refine g_aload_n (q := 2) 0 X dX10_force_1 rfl rfl rfl ?_
  refine g_getR (q := 5) (r := some (gR rv 0 2)) 10 2 X hK.2.2.2.2.2.1.1.1 (lt2000 (c := 0) (isR_lt0 hK.2.2.2.2.2.1.1.2)) kf_X10_16 (by decide) (by decide) rfl rfl (hK.n (by decide)) dX10_force_2 rfl ?_
  refine g_iload_n (q := 6) 1 X dX10_force_5 rfl rfl rfl ?_
  refine g_cv (q := 9) [aI a1] 5 X (ce_X5_hasGrant hK hK.2.2.2.2.2.1.1.2 h) kV_X10_111 rfl (by decide) (shR_0 hK.2.2.2.2.2.1.1.2) (isR_n0 hK hK.2.2.2.2.2.1.1.2) rfl rfl (Nat.le_of_ble_eq_true rfl) (by decide) dX10_force_6 rfl (fun r n_ iv_ rv_ hf => ?_)
  obtain ⟨en_, ei_, er_, r1, rfl, br1, h⟩ := hf; subst n_; subst iv_; subst rv_
  refine g_if_eq (q := 12) 29 X dX10_force_9 (by decide) rfl (fun c2 => ?_) (fun c2 => ?_)
  · have h := h.1 c2
    exact cb_X10_force_29 X hR hK   h
  · have h := h.2 c2
    refine g_aload_n (q := 13) 0 X dX10_force_12 rfl rfl rfl ?_
    refine g_getR (q := 16) (r := some (gR rv 0 2)) 10 2 X hK.2.2.2.2.2.1.1.1 (lt2000 (c := 0) (isR_lt0 hK.2.2.2.2.2.1.1.2)) kf_X10_16 (by decide) (by decide) rfl rfl (hK.n (by decide)) dX10_force_13 rfl ?_
    refine g_bipush (q := 18) 10 X dX10_force_16 rfl bc_10 ic_10 ?_
    refine g_iload_n (q := 19) 3 X dX10_force_18 rfl rfl rfl ?_
    refine g_cv (q := 22) [aI 10, aI a3] 5 X (ce_X5_has hK hK.2.2.2.2.2.1.1.2 h) kV_X10_96 rfl (by decide) (shR_0 hK.2.2.2.2.2.1.1.2) (isR_n0 hK hK.2.2.2.2.2.1.1.2) rfl rfl (Nat.le_of_ble_eq_true rfl) (by decide) dX10_force_19 rfl (fun r n_ iv_ rv_ hf => ?_)
    obtain ⟨en_, ei_, er_, r3, rfl, br3, h⟩ := hf; subst n_; subst iv_; subst rv_
    refine g_if_eq (q := 25) 29 X dX10_force_22 (by decide) rfl (fun c4 => ?_) (fun c4 => ?_)
    · have h := h.1 c4
      exact cb_X10_force_29 X hR hK   h
    · have h := h.2 c4
      refine g_iconst (q := 26) 1 X dX10_force_25 rfl rfl ic_1 ?_
      refine g_goto (q := 30) X dX10_force_26 (by decide) ?_
      exact cb_X10_force_30 X hR hK   h
def bd_X10_chain_80 (iv : IV) (rv : RV) (K : Int → IV → RV → Prop) : Prop :=
  wp_X10_refused 1 iv rv (fun r1 iv2 => K r1 iv2 rv)
set_option maxRecDepth 10000 in
theorem cb_X10_chain_80 {Γ : GX} {n : Nat} {iv : IV} {rv : RV} {K : Int → IV → RV → Prop} (X : Cx Γ RX10 cX10_chain 6 4) (hR : Rt Γ (some .int) 0 0 (fI2 n K)) (hK : Lk n rv)  (h : bd_X10_chain_80 iv rv K) : G Γ 6 80 [aR (some 0), aJ, aJ, aJ, aJ, aJ] [] n iv rv 0 0 := by
  unfold bd_X10_chain_80 at h
  refine g_aload_n (q := 81) 0 X dX10_chain_80 rfl rfl rfl ?_
  refine g_iconst (q := 82) 1 X dX10_chain_81 rfl rfl ic_1 ?_
  refine g_cv (q := 85) [aI 1] 10 X (ce_X10_refused hK  h) kV_X10_56 rfl (by decide) rfl (hK.n (by decide)) rfl rfl (Nat.le_of_ble_eq_true rfl) (by decide) dX10_chain_82 rfl (fun r n_ iv_ rv_ hf => ?_)
  obtain ⟨en_, er_, r1, rfl, h⟩ := hf; subst n_; subst rv_
  generalize iv_ = iv2 at h ⊢
  exact g_iret (q := 0) X hR dX10_chain_85 rfl ⟨rfl, hK, _, rfl, h⟩
def bd_X10_chain_31 (l1 l2 l3 l4 t0 : Int) (iv : IV) (rv : RV) (K : Int → IV → RV → Prop) : Prop :=
  wp_X10_admitted t0 l2 iv rv (fun r1 iv2 => ((r1 ≠ 0) → (wp_X1_open (gR rv 0 2) l3 iv2 rv (fun iv4 rv5 => wp_X1_reachFrom l1 l2 iv4 rv5 (fun iv6 => ((l4 < 0) → (bd_X10_chain_80 iv6 rv5 K)) ∧ ((¬ (l4 < 0)) → (((l4 < (w32 ((iv6 59 2) - 1))) → ((0 ≤ w32 (l4 + 1) ∧ w32 (l4 + 1) < 8) ∧ K (iv6 60 (w32 (l4 + 1)).toNat) iv6 rv5)) ∧ ((¬ (l4 < (w32 ((iv6 59 2) - 1)))) → (bd_X10_chain_80 iv6 rv5 K)))))))) ∧ ((r1 = 0) → (K (-1) iv2 rv)))
set_option maxRecDepth 10000 in
theorem cb_X10_chain_31 {Γ : GX} {n : Nat} {iv : IV} {rv : RV} {K : Int → IV → RV → Prop} {l1 l2 l3 l4 t0 : Int} (X : Cx Γ RX10 cX10_chain 6 4) (hR : Rt Γ (some .int) 0 0 (fI2 n K)) (hK : Lk n rv)  (h : bd_X10_chain_31 l1 l2 l3 l4 t0 iv rv K) : G Γ 6 31 [aR (some 0), aI l1, aI l2, aI l3, aI l4, aJ] [aI t0, aR (some 0)] n iv rv 0 0 := by
  unfold bd_X10_chain_31 at h
  refine g_iload_n (q := 32) 2 X dX10_chain_31 rfl rfl rfl ?_
  refine g_cv (q := 35) [aI t0, aI l2] 10 X (ce_X10_admitted hK  h) kV_X10_84 rfl (by decide) rfl (hK.n (by decide)) rfl rfl (Nat.le_of_ble_eq_true rfl) (by decide) dX10_chain_32 rfl (fun r n_ iv_ rv_ hf => ?_)
  obtain ⟨en_, er_, r1, rfl, br1, h⟩ := hf; subst n_; subst rv_
  generalize iv_ = iv2 at h ⊢
  refine g_if_ne (q := 38) 40 X dX10_chain_35 (by decide) rfl (fun c3 => ?_) (fun c3 => ?_)
  · have h := h.1 c3
    refine g_aload_n (q := 41) 0 X dX10_chain_40 rfl rfl rfl ?_
    refine g_getR (q := 44) (r := some 47) 10 5 X (lk_0_5 hK) (lt2000 (c := 0) (by decide)) kf_X10_37 (by decide) (by decide) rfl rfl (hK.n (by decide)) dX10_chain_41 rfl ?_
    refine g_aload_n (q := 45) 0 X dX10_chain_44 rfl rfl rfl ?_
    refine g_getR (q := 48) (r := some (gR rv 0 2)) 10 2 X hK.2.2.2.2.2.1.1.1 (lt2000 (c := 0) (isR_lt0 hK.2.2.2.2.2.1.1.2)) kf_X10_16 (by decide) (by decide) rfl rfl (hK.n (by decide)) dX10_chain_45 rfl ?_
    refine g_iload_n (q := 49) 3 X dX10_chain_48 rfl rfl rfl ?_
    refine g_cv (q := 52) [aR (some (gR rv 0 2)), aI l3] 1 X (ce_X1_open hK hK.2.2.2.2.2.1.1.2 h) kV_X10_88 rfl (by decide) rfl (hK.n (by decide)) rfl rfl (Nat.le_of_ble_eq_true rfl) (by decide) dX10_chain_49 rfl (fun r n_ iv_ rv_ hf => ?_)
    obtain ⟨en_, hK_rv5, rfl, h⟩ := hf; subst n_
    generalize iv_ = iv4 at h ⊢
    generalize rv_ = rv5 at h hK_rv5 ⊢
    refine g_aload_n (q := 53) 0 X dX10_chain_52 rfl rfl rfl ?_
    refine g_getR (q := 56) (r := some 47) 10 5 X (lk_0_5 hK_rv5) (lt2000 (c := 0) (by decide)) kf_X10_37 (by decide) (by decide) rfl rfl (hK_rv5.n (by decide)) dX10_chain_53 rfl ?_
    refine g_iload_n (q := 57) 1 X dX10_chain_56 rfl rfl rfl ?_
    refine g_iload_n (q := 58) 2 X dX10_chain_57 rfl rfl rfl ?_
    refine g_cv (q := 61) [aI l1, aI l2] 1 X (ce_X1_reachFrom hK_rv5  h) kV_X10_128 rfl (by decide) rfl (hK_rv5.n (by decide)) rfl rfl (Nat.le_of_ble_eq_true rfl) (by decide) dX10_chain_58 rfl (fun r n_ iv_ rv_ hf => ?_)
    obtain ⟨en_, er_, rfl, h⟩ := hf; subst n_; subst rv_
    generalize iv_ = iv6 at h ⊢
    refine g_astore (q := 63) (k0 := 0) 5 (L' := [aR (some 0), aI l1, aI l2, aI l3, aI l4, aR (some 59)]) X dX10_chain_61 rfl (by decide) rfl rfl ?_
    refine g_iload (q := 65) 4 X dX10_chain_63 rfl rfl ?_
    refine g_if_lt (q := 68) 80 X dX10_chain_65 (by decide) rfl (fun c7 => ?_) (fun c7 => ?_)
    · have h := h.1 c7
      refine g_sub (L' := [aR (some 0), aJ, aJ, aJ, aJ, aJ]) ⟨Or.inr rfl, Or.inl rfl, Or.inl rfl, Or.inl rfl, Or.inl rfl, Or.inl rfl, trivial⟩ ?_
      exact cb_X10_chain_80 X hR hK_rv5   h
    · have h := h.2 c7
      refine g_iload (q := 70) 4 X dX10_chain_68 rfl rfl ?_
      refine g_aload (q := 72) 5 X dX10_chain_70 rfl rfl ?_
      refine g_getI (q := 75) 3 2 X kf_X10_132 (by decide) (by decide) rfl rfl (hK_rv5.n (by decide)) dX10_chain_72 rfl ?_
      refine g_iconst (q := 76) 1 X dX10_chain_75 rfl rfl ic_1 ?_
      refine g_isub (q := 77) X dX10_chain_76 rfl ?_
      refine g_icmp_lt (q := 80) 86 X dX10_chain_77 (by decide) rfl (fun c8 => ?_) (fun c8 => ?_)
      · have h := h.1 c8
        refine g_aload (q := 88) 5 X dX10_chain_86 rfl rfl ?_
        refine g_getR (q := 91) (r := some 60) 3 0 X (lk_59_0 hK_rv5) (lt2000 (c := 0) (by decide)) kf_X10_137 (by decide) (by decide) rfl rfl (hK_rv5.n (by decide)) dX10_chain_88 rfl ?_
        refine g_iload (q := 93) 4 X dX10_chain_91 rfl rfl ?_
        refine g_iconst (q := 94) 1 X dX10_chain_93 rfl rfl ic_1 ?_
        refine g_iadd (q := 95) X dX10_chain_94 rfl ?_
        obtain ⟨s9, h⟩ := h
        refine g_iald (q := 96) X rfl (hK_rv5.n (by decide)) s9 dX10_chain_95 rfl ?_
        exact g_iret (q := 0) X hR dX10_chain_96 rfl ⟨rfl, hK_rv5, _, rfl, h⟩
      · have h := h.2 c8
        refine g_sub (L' := [aR (some 0), aJ, aJ, aJ, aJ, aJ]) ⟨Or.inr rfl, Or.inl rfl, Or.inl rfl, Or.inl rfl, Or.inl rfl, Or.inl rfl, trivial⟩ ?_
        exact cb_X10_chain_80 X hR hK_rv5   h
  · have h := h.2 c3
    refine g_iconst (q := 39) (-1) X dX10_chain_38 rfl rfl ic_m1 ?_
    exact g_iret (q := 0) X hR dX10_chain_39 rfl ⟨rfl, hK, _, rfl, h⟩
def bd_X10_chain_30 (l1 l2 l3 l4 : Int) (iv : IV) (rv : RV) (K : Int → IV → RV → Prop) : Prop :=
  bd_X10_chain_31 l1 l2 l3 l4 0 iv rv K
set_option maxRecDepth 10000 in
theorem cb_X10_chain_30 {Γ : GX} {n : Nat} {iv : IV} {rv : RV} {K : Int → IV → RV → Prop} {l1 l2 l3 l4 : Int} (X : Cx Γ RX10 cX10_chain 6 4) (hR : Rt Γ (some .int) 0 0 (fI2 n K)) (hK : Lk n rv)  (h : bd_X10_chain_30 l1 l2 l3 l4 iv rv K) : G Γ 6 30 [aR (some 0), aI l1, aI l2, aI l3, aI l4, aJ] [aR (some 0)] n iv rv 0 0 := by
  unfold bd_X10_chain_30 at h
  refine g_iconst (q := 31) 0 X dX10_chain_30 rfl rfl ic_0 ?_
  exact cb_X10_chain_31 X hR hK   h
def wp_X10_chain (a1 : Int) (a2 : Int) (a3 : Int) (a4 : Int) (iv : IV) (rv : RV) (K : Int → IV → RV → Prop) : Prop :=
  wp_X5_has (gR rv 0 2) 0 a1 iv rv (fun r1 => ((r1 = 0) → (bd_X10_chain_30 a1 a2 a3 a4 iv rv K)) ∧ ((¬ (r1 = 0)) → (wp_X5_has (gR rv 0 2) 10 a3 iv rv (fun r3 => ((r3 = 0) → (bd_X10_chain_30 a1 a2 a3 a4 iv rv K)) ∧ ((¬ (r3 = 0)) → (bd_X10_chain_31 a1 a2 a3 a4 1 iv rv K))))))
set_option maxRecDepth 10000 in
theorem ce_X10_chain {n : Nat} {iv : IV} {rv : RV} {K : Int → IV → RV → Prop} {a1 : Int} {a2 : Int} {a3 : Int} {a4 : Int} (hK : Lk n rv)  (h : wp_X10_chain a1 a2 a3 a4 iv rv K) : Call 4 0 0 yX10_chain cX10_chain 6 (some .int) [aR (some 0), aI a1, aI a2, aI a3, aI a4] n iv rv (fI2 n K) := by
  refine Call.by (L := [aR (some 0), aI a1, aI a2, aI a3, aI a4, aJ]) (by decide) rfl ⟨trivial, trivial, trivial, trivial, trivial, trivial⟩ rfl (Nat.le_of_ble_eq_true rfl) (fun Γ X hR => ?_)
  unfold wp_X10_chain at h
  refine g_aload_n (q := 1) 0 X dX10_chain_0 rfl rfl rfl ?_
  refine g_aload_n (q := 2) 0 X dX10_chain_1 rfl rfl rfl ?_
  refine g_getR (q := 5) (r := some (gR rv 0 2)) 10 2 X hK.2.2.2.2.2.1.1.1 (lt2000 (c := 0) (isR_lt0 hK.2.2.2.2.2.1.1.2)) kf_X10_16 (by decide) (by decide) rfl rfl (hK.n (by decide)) dX10_chain_2 rfl ?_
  refine g_iconst (q := 6) 0 X dX10_chain_5 rfl rfl ic_0 ?_
  refine g_iload_n (q := 7) 1 X dX10_chain_6 rfl rfl rfl ?_
  refine g_cv (q := 10) [aI 0, aI a1] 5 X (ce_X5_has hK hK.2.2.2.2.2.1.1.2 h) kV_X10_96 rfl (by decide) (shR_0 hK.2.2.2.2.2.1.1.2) (isR_n0 hK hK.2.2.2.2.2.1.1.2) rfl rfl (Nat.le_of_ble_eq_true rfl) (by decide) dX10_chain_7 rfl (fun r n_ iv_ rv_ hf => ?_)
  obtain ⟨en_, ei_, er_, r1, rfl, br1, h⟩ := hf; subst n_; subst iv_; subst rv_
  refine g_if_eq (q := 13) 30 X dX10_chain_10 (by decide) rfl (fun c2 => ?_) (fun c2 => ?_)
  · have h := h.1 c2
    exact cb_X10_chain_30 X hR hK   h
  · have h := h.2 c2
    refine g_aload_n (q := 14) 0 X dX10_chain_13 rfl rfl rfl ?_
    refine g_getR (q := 17) (r := some (gR rv 0 2)) 10 2 X hK.2.2.2.2.2.1.1.1 (lt2000 (c := 0) (isR_lt0 hK.2.2.2.2.2.1.1.2)) kf_X10_16 (by decide) (by decide) rfl rfl (hK.n (by decide)) dX10_chain_14 rfl ?_
    refine g_bipush (q := 19) 10 X dX10_chain_17 rfl bc_10 ic_10 ?_
    refine g_iload_n (q := 20) 3 X dX10_chain_19 rfl rfl rfl ?_
    refine g_cv (q := 23) [aI 10, aI a3] 5 X (ce_X5_has hK hK.2.2.2.2.2.1.1.2 h) kV_X10_96 rfl (by decide) (shR_0 hK.2.2.2.2.2.1.1.2) (isR_n0 hK hK.2.2.2.2.2.1.1.2) rfl rfl (Nat.le_of_ble_eq_true rfl) (by decide) dX10_chain_20 rfl (fun r n_ iv_ rv_ hf => ?_)
    obtain ⟨en_, ei_, er_, r3, rfl, br3, h⟩ := hf; subst n_; subst iv_; subst rv_
    refine g_if_eq (q := 26) 30 X dX10_chain_23 (by decide) rfl (fun c4 => ?_) (fun c4 => ?_)
    · have h := h.1 c4
      exact cb_X10_chain_30 X hR hK   h
    · have h := h.2 c4
      refine g_iconst (q := 27) 1 X dX10_chain_26 rfl rfl ic_1 ?_
      refine g_goto (q := 31) X dX10_chain_27 (by decide) ?_
      exact cb_X10_chain_31 X hR hK   h
def bd_X10_ring_31 (l1 l2 l3 t0 : Int) (iv : IV) (rv : RV) (K : Int → IV → RV → Prop) : Prop :=
  wp_X10_admitted t0 l2 iv rv (fun r1 iv2 => ((r1 ≠ 0) → (wp_X1_open (gR rv 0 2) l3 iv2 rv (fun iv4 rv5 => wp_X1_reachFrom l1 l2 iv4 rv5 (fun iv6 => wp_X3_leadsBack l1 iv6 rv5 (fun r7 => ((r7 = 0) → (K 0 iv6 rv5)) ∧ ((¬ (r7 = 0)) → (K 1 iv6 rv5))))))) ∧ ((r1 = 0) → (K (-1) iv2 rv)))
set_option maxRecDepth 10000 in
theorem cb_X10_ring_31 {Γ : GX} {n : Nat} {iv : IV} {rv : RV} {K : Int → IV → RV → Prop} {l1 l2 l3 t0 : Int} (X : Cx Γ RX10 cX10_ring 5 4) (hR : Rt Γ (some .int) 0 0 (fI2 n K)) (hK : Lk n rv)  (h : bd_X10_ring_31 l1 l2 l3 t0 iv rv K) : G Γ 5 31 [aR (some 0), aI l1, aI l2, aI l3, aJ] [aI t0, aR (some 0)] n iv rv 0 0 := by
  unfold bd_X10_ring_31 at h
  refine g_iload_n (q := 32) 2 X dX10_ring_31 rfl rfl rfl ?_
  refine g_cv (q := 35) [aI t0, aI l2] 10 X (ce_X10_admitted hK  h) kV_X10_84 rfl (by decide) rfl (hK.n (by decide)) rfl rfl (Nat.le_of_ble_eq_true rfl) (by decide) dX10_ring_32 rfl (fun r n_ iv_ rv_ hf => ?_)
  obtain ⟨en_, er_, r1, rfl, br1, h⟩ := hf; subst n_; subst rv_
  generalize iv_ = iv2 at h ⊢
  refine g_if_ne (q := 38) 40 X dX10_ring_35 (by decide) rfl (fun c3 => ?_) (fun c3 => ?_)
  · have h := h.1 c3
    refine g_aload_n (q := 41) 0 X dX10_ring_40 rfl rfl rfl ?_
    refine g_getR (q := 44) (r := some 47) 10 5 X (lk_0_5 hK) (lt2000 (c := 0) (by decide)) kf_X10_37 (by decide) (by decide) rfl rfl (hK.n (by decide)) dX10_ring_41 rfl ?_
    refine g_aload_n (q := 45) 0 X dX10_ring_44 rfl rfl rfl ?_
    refine g_getR (q := 48) (r := some (gR rv 0 2)) 10 2 X hK.2.2.2.2.2.1.1.1 (lt2000 (c := 0) (isR_lt0 hK.2.2.2.2.2.1.1.2)) kf_X10_16 (by decide) (by decide) rfl rfl (hK.n (by decide)) dX10_ring_45 rfl ?_
    refine g_iload_n (q := 49) 3 X dX10_ring_48 rfl rfl rfl ?_
    refine g_cv (q := 52) [aR (some (gR rv 0 2)), aI l3] 1 X (ce_X1_open hK hK.2.2.2.2.2.1.1.2 h) kV_X10_88 rfl (by decide) rfl (hK.n (by decide)) rfl rfl (Nat.le_of_ble_eq_true rfl) (by decide) dX10_ring_49 rfl (fun r n_ iv_ rv_ hf => ?_)
    obtain ⟨en_, hK_rv5, rfl, h⟩ := hf; subst n_
    generalize iv_ = iv4 at h ⊢
    generalize rv_ = rv5 at h hK_rv5 ⊢
    refine g_aload_n (q := 53) 0 X dX10_ring_52 rfl rfl rfl ?_
    refine g_getR (q := 56) (r := some 47) 10 5 X (lk_0_5 hK_rv5) (lt2000 (c := 0) (by decide)) kf_X10_37 (by decide) (by decide) rfl rfl (hK_rv5.n (by decide)) dX10_ring_53 rfl ?_
    refine g_iload_n (q := 57) 1 X dX10_ring_56 rfl rfl rfl ?_
    refine g_iload_n (q := 58) 2 X dX10_ring_57 rfl rfl rfl ?_
    refine g_cv (q := 61) [aI l1, aI l2] 1 X (ce_X1_reachFrom hK_rv5  h) kV_X10_128 rfl (by decide) rfl (hK_rv5.n (by decide)) rfl rfl (Nat.le_of_ble_eq_true rfl) (by decide) dX10_ring_58 rfl (fun r n_ iv_ rv_ hf => ?_)
    obtain ⟨en_, er_, rfl, h⟩ := hf; subst n_; subst rv_
    generalize iv_ = iv6 at h ⊢
    refine g_astore (q := 63) (k0 := 0) 4 (L' := [aR (some 0), aI l1, aI l2, aI l3, aR (some 59)]) X dX10_ring_61 rfl (by decide) rfl rfl ?_
    refine g_aload (q := 65) 4 X dX10_ring_63 rfl rfl ?_
    refine g_aload_n (q := 66) 0 X dX10_ring_65 rfl rfl rfl ?_
    refine g_getR (q := 69) (r := some 47) 10 5 X (lk_0_5 hK_rv5) (lt2000 (c := 0) (by decide)) kf_X10_37 (by decide) (by decide) rfl rfl (hK_rv5.n (by decide)) dX10_ring_66 rfl ?_
    refine g_getR (q := 72) (r := some 51) 1 0 X (lk_47_0 hK_rv5) (lt2000 (c := 0) (by decide)) kf_X10_115 (by decide) (by decide) rfl rfl (hK_rv5.n (by decide)) dX10_ring_69 rfl ?_
    refine g_iload_n (q := 73) 1 X dX10_ring_72 rfl rfl rfl ?_
    refine g_cv (q := 76) [aR (some 51), aI l1] 3 X (ce_X3_leadsBack hK_rv5  h) kV_X10_140 rfl (by decide) rfl (hK_rv5.n (by decide)) rfl rfl (Nat.le_of_ble_eq_true rfl) (by decide) dX10_ring_73 rfl (fun r n_ iv_ rv_ hf => ?_)
    obtain ⟨en_, ei_, er_, r7, rfl, br7, h⟩ := hf; subst n_; subst iv_; subst rv_
    refine g_if_eq (q := 79) 83 X dX10_ring_76 (by decide) rfl (fun c8 => ?_) (fun c8 => ?_)
    · have h := h.1 c8
      refine g_iconst (q := 84) 0 X dX10_ring_83 rfl rfl ic_0 ?_
      exact g_iret (q := 0) X hR dX10_ring_84 rfl ⟨rfl, hK_rv5, _, rfl, h⟩
    · have h := h.2 c8
      refine g_iconst (q := 80) 1 X dX10_ring_79 rfl rfl ic_1 ?_
      refine g_goto (q := 84) X dX10_ring_80 (by decide) ?_
      exact g_iret (q := 0) X hR dX10_ring_84 rfl ⟨rfl, hK_rv5, _, rfl, h⟩
  · have h := h.2 c3
    refine g_iconst (q := 39) (-1) X dX10_ring_38 rfl rfl ic_m1 ?_
    exact g_iret (q := 0) X hR dX10_ring_39 rfl ⟨rfl, hK, _, rfl, h⟩
def bd_X10_ring_30 (l1 l2 l3 : Int) (iv : IV) (rv : RV) (K : Int → IV → RV → Prop) : Prop :=
  bd_X10_ring_31 l1 l2 l3 0 iv rv K
set_option maxRecDepth 10000 in
theorem cb_X10_ring_30 {Γ : GX} {n : Nat} {iv : IV} {rv : RV} {K : Int → IV → RV → Prop} {l1 l2 l3 : Int} (X : Cx Γ RX10 cX10_ring 5 4) (hR : Rt Γ (some .int) 0 0 (fI2 n K)) (hK : Lk n rv)  (h : bd_X10_ring_30 l1 l2 l3 iv rv K) : G Γ 5 30 [aR (some 0), aI l1, aI l2, aI l3, aJ] [aR (some 0)] n iv rv 0 0 := by
  unfold bd_X10_ring_30 at h
  refine g_iconst (q := 31) 0 X dX10_ring_30 rfl rfl ic_0 ?_
  exact cb_X10_ring_31 X hR hK   h
def wp_X10_ring (a1 : Int) (a2 : Int) (a3 : Int) (iv : IV) (rv : RV) (K : Int → IV → RV → Prop) : Prop :=
  wp_X5_has (gR rv 0 2) 0 a1 iv rv (fun r1 => ((r1 = 0) → (bd_X10_ring_30 a1 a2 a3 iv rv K)) ∧ ((¬ (r1 = 0)) → (wp_X5_has (gR rv 0 2) 10 a3 iv rv (fun r3 => ((r3 = 0) → (bd_X10_ring_30 a1 a2 a3 iv rv K)) ∧ ((¬ (r3 = 0)) → (bd_X10_ring_31 a1 a2 a3 1 iv rv K))))))
set_option maxRecDepth 10000 in
theorem ce_X10_ring {n : Nat} {iv : IV} {rv : RV} {K : Int → IV → RV → Prop} {a1 : Int} {a2 : Int} {a3 : Int} (hK : Lk n rv)  (h : wp_X10_ring a1 a2 a3 iv rv K) : Call 4 0 0 yX10_ring cX10_ring 5 (some .int) [aR (some 0), aI a1, aI a2, aI a3] n iv rv (fI2 n K) := by
  refine Call.by (L := [aR (some 0), aI a1, aI a2, aI a3, aJ]) (by decide) rfl ⟨trivial, trivial, trivial, trivial, trivial⟩ rfl (Nat.le_of_ble_eq_true rfl) (fun Γ X hR => ?_)
  unfold wp_X10_ring at h
  refine g_aload_n (q := 1) 0 X dX10_ring_0 rfl rfl rfl ?_
  refine g_aload_n (q := 2) 0 X dX10_ring_1 rfl rfl rfl ?_
  refine g_getR (q := 5) (r := some (gR rv 0 2)) 10 2 X hK.2.2.2.2.2.1.1.1 (lt2000 (c := 0) (isR_lt0 hK.2.2.2.2.2.1.1.2)) kf_X10_16 (by decide) (by decide) rfl rfl (hK.n (by decide)) dX10_ring_2 rfl ?_
  refine g_iconst (q := 6) 0 X dX10_ring_5 rfl rfl ic_0 ?_
  refine g_iload_n (q := 7) 1 X dX10_ring_6 rfl rfl rfl ?_
  refine g_cv (q := 10) [aI 0, aI a1] 5 X (ce_X5_has hK hK.2.2.2.2.2.1.1.2 h) kV_X10_96 rfl (by decide) (shR_0 hK.2.2.2.2.2.1.1.2) (isR_n0 hK hK.2.2.2.2.2.1.1.2) rfl rfl (Nat.le_of_ble_eq_true rfl) (by decide) dX10_ring_7 rfl (fun r n_ iv_ rv_ hf => ?_)
  obtain ⟨en_, ei_, er_, r1, rfl, br1, h⟩ := hf; subst n_; subst iv_; subst rv_
  refine g_if_eq (q := 13) 30 X dX10_ring_10 (by decide) rfl (fun c2 => ?_) (fun c2 => ?_)
  · have h := h.1 c2
    exact cb_X10_ring_30 X hR hK   h
  · have h := h.2 c2
    refine g_aload_n (q := 14) 0 X dX10_ring_13 rfl rfl rfl ?_
    refine g_getR (q := 17) (r := some (gR rv 0 2)) 10 2 X hK.2.2.2.2.2.1.1.1 (lt2000 (c := 0) (isR_lt0 hK.2.2.2.2.2.1.1.2)) kf_X10_16 (by decide) (by decide) rfl rfl (hK.n (by decide)) dX10_ring_14 rfl ?_
    refine g_bipush (q := 19) 10 X dX10_ring_17 rfl bc_10 ic_10 ?_
    refine g_iload_n (q := 20) 3 X dX10_ring_19 rfl rfl rfl ?_
    refine g_cv (q := 23) [aI 10, aI a3] 5 X (ce_X5_has hK hK.2.2.2.2.2.1.1.2 h) kV_X10_96 rfl (by decide) (shR_0 hK.2.2.2.2.2.1.1.2) (isR_n0 hK hK.2.2.2.2.2.1.1.2) rfl rfl (Nat.le_of_ble_eq_true rfl) (by decide) dX10_ring_20 rfl (fun r n_ iv_ rv_ hf => ?_)
    obtain ⟨en_, ei_, er_, r3, rfl, br3, h⟩ := hf; subst n_; subst iv_; subst rv_
    refine g_if_eq (q := 26) 30 X dX10_ring_23 (by decide) rfl (fun c4 => ?_) (fun c4 => ?_)
    · have h := h.1 c4
      exact cb_X10_ring_30 X hR hK   h
    · have h := h.2 c4
      refine g_iconst (q := 27) 1 X dX10_ring_26 rfl rfl ic_1 ?_
      refine g_goto (q := 31) X dX10_ring_27 (by decide) ?_
      exact cb_X10_ring_31 X hR hK   h
def bd_X10_way_32 (l1 l2 t0 : Int) (iv : IV) (rv : RV) (K : Int → IV → RV → Prop) : Prop :=
  wp_X10_admitted t0 0 iv rv (fun r1 iv2 => ((r1 ≠ 0) → (wp_X1_open (gR rv 0 2) l2 iv2 rv (fun iv4 rv5 => wp_X1_owedByOwner l1 iv4 rv5 (fun r6 iv7 => ((0 ≤ r6) → (wp_X5_ofCart (gR rv5 0 2) l1 4 iv7 rv5 (fun r9 => wp_X5_ofCart (gR rv5 0 2) l1 5 iv7 rv5 (fun r10 => wp_X9_trace (gR rv5 0 2) r9 r10 iv7 rv5 (fun iv11 => K r6 iv11 rv5))))) ∧ ((¬ (0 ≤ r6)) → (wp_X10_refused 6 iv7 rv5 (fun r12 iv13 => K r12 iv13 rv5))))))) ∧ ((r1 = 0) → (K (-1) iv2 rv)))
set_option maxRecDepth 10000 in
theorem cb_X10_way_32 {Γ : GX} {n : Nat} {iv : IV} {rv : RV} {K : Int → IV → RV → Prop} {l1 l2 t0 : Int} (X : Cx Γ RX10 cX10_way 4 5) (hR : Rt Γ (some .int) 0 0 (fI2 n K)) (hK : Lk n rv)  (h : bd_X10_way_32 l1 l2 t0 iv rv K) : G Γ 4 32 [aR (some 0), aI l1, aI l2, aJ] [aI t0, aR (some 0)] n iv rv 0 0 := by
  unfold bd_X10_way_32 at h
  refine g_iconst (q := 33) 0 X dX10_way_32 rfl rfl ic_0 ?_
  refine g_cv (q := 36) [aI t0, aI 0] 10 X (ce_X10_admitted hK  h) kV_X10_84 rfl (by decide) rfl (hK.n (by decide)) rfl rfl (Nat.le_of_ble_eq_true rfl) (by decide) dX10_way_33 rfl (fun r n_ iv_ rv_ hf => ?_)
  obtain ⟨en_, er_, r1, rfl, br1, h⟩ := hf; subst n_; subst rv_
  generalize iv_ = iv2 at h ⊢
  refine g_if_ne (q := 39) 41 X dX10_way_36 (by decide) rfl (fun c3 => ?_) (fun c3 => ?_)
  · have h := h.1 c3
    refine g_aload_n (q := 42) 0 X dX10_way_41 rfl rfl rfl ?_
    refine g_getR (q := 45) (r := some 47) 10 5 X (lk_0_5 hK) (lt2000 (c := 0) (by decide)) kf_X10_37 (by decide) (by decide) rfl rfl (hK.n (by decide)) dX10_way_42 rfl ?_
    refine g_aload_n (q := 46) 0 X dX10_way_45 rfl rfl rfl ?_
    refine g_getR (q := 49) (r := some (gR rv 0 2)) 10 2 X hK.2.2.2.2.2.1.1.1 (lt2000 (c := 0) (isR_lt0 hK.2.2.2.2.2.1.1.2)) kf_X10_16 (by decide) (by decide) rfl rfl (hK.n (by decide)) dX10_way_46 rfl ?_
    refine g_iload_n (q := 50) 2 X dX10_way_49 rfl rfl rfl ?_
    refine g_cv (q := 53) [aR (some (gR rv 0 2)), aI l2] 1 X (ce_X1_open hK hK.2.2.2.2.2.1.1.2 h) kV_X10_88 rfl (by decide) rfl (hK.n (by decide)) rfl rfl (Nat.le_of_ble_eq_true rfl) (by decide) dX10_way_50 rfl (fun r n_ iv_ rv_ hf => ?_)
    obtain ⟨en_, hK_rv5, rfl, h⟩ := hf; subst n_
    generalize iv_ = iv4 at h ⊢
    generalize rv_ = rv5 at h hK_rv5 ⊢
    refine g_aload_n (q := 54) 0 X dX10_way_53 rfl rfl rfl ?_
    refine g_getR (q := 57) (r := some 47) 10 5 X (lk_0_5 hK_rv5) (lt2000 (c := 0) (by decide)) kf_X10_37 (by decide) (by decide) rfl rfl (hK_rv5.n (by decide)) dX10_way_54 rfl ?_
    refine g_iload_n (q := 58) 1 X dX10_way_57 rfl rfl rfl ?_
    refine g_cv (q := 61) [aI l1] 1 X (ce_X1_owedByOwner hK_rv5  h) kV_X10_144 rfl (by decide) rfl (hK_rv5.n (by decide)) rfl rfl (Nat.le_of_ble_eq_true rfl) (by decide) dX10_way_58 rfl (fun r n_ iv_ rv_ hf => ?_)
    obtain ⟨en_, er_, r6, rfl, h⟩ := hf; subst n_; subst rv_
    generalize iv_ = iv7 at h ⊢
    refine g_istore_n (q := 62) 3 (L' := [aR (some 0), aI l1, aI l2, aI r6]) X dX10_way_61 rfl rfl (by decide) rfl rfl ?_
    refine g_iload_n (q := 63) 3 X dX10_way_62 rfl rfl rfl ?_
    refine g_if_ge (q := 66) 73 X dX10_way_63 (by decide) rfl (fun c8 => ?_) (fun c8 => ?_)
    · have h := h.1 c8
      refine g_aload_n (q := 74) 0 X dX10_way_73 rfl rfl rfl ?_
      refine g_getR (q := 77) (r := some 63) 10 6 X (lk_0_6 hK_rv5) (lt2000 (c := 0) (by decide)) kf_X10_44 (by decide) (by decide) rfl rfl (hK_rv5.n (by decide)) dX10_way_74 rfl ?_
      refine g_aload_n (q := 78) 0 X dX10_way_77 rfl rfl rfl ?_
      refine g_getR (q := 81) (r := some (gR rv5 0 2)) 10 2 X hK_rv5.2.2.2.2.2.1.1.1 (lt2000 (c := 0) (isR_lt0 hK_rv5.2.2.2.2.2.1.1.2)) kf_X10_16 (by decide) (by decide) rfl rfl (hK_rv5.n (by decide)) dX10_way_78 rfl ?_
      refine g_aload_n (q := 82) 0 X dX10_way_81 rfl rfl rfl ?_
      refine g_getR (q := 85) (r := some 47) 10 5 X (lk_0_5 hK_rv5) (lt2000 (c := 0) (by decide)) kf_X10_37 (by decide) (by decide) rfl rfl (hK_rv5.n (by decide)) dX10_way_82 rfl ?_
      refine g_getR (q := 88) (r := some 48) 1 1 X (lk_47_1 hK_rv5) (lt2000 (c := 0) (by decide)) kf_X10_147 (by decide) (by decide) rfl rfl (hK_rv5.n (by decide)) dX10_way_85 rfl ?_
      refine g_aload_n (q := 89) 0 X dX10_way_88 rfl rfl rfl ?_
      refine g_getR (q := 92) (r := some (gR rv5 0 2)) 10 2 X hK_rv5.2.2.2.2.2.1.1.1 (lt2000 (c := 0) (isR_lt0 hK_rv5.2.2.2.2.2.1.1.2)) kf_X10_16 (by decide) (by decide) rfl rfl (hK_rv5.n (by decide)) dX10_way_89 rfl ?_
      refine g_iload_n (q := 93) 1 X dX10_way_92 rfl rfl rfl ?_
      refine g_iconst (q := 94) 4 X dX10_way_93 rfl rfl ic_4 ?_
      refine g_cv (q := 97) [aI l1, aI 4] 5 X (ce_X5_ofCart hK_rv5 hK_rv5.2.2.2.2.2.1.1.2 h) kV_X10_151 rfl (by decide) (shR_0 hK_rv5.2.2.2.2.2.1.1.2) (isR_n0 hK_rv5 hK_rv5.2.2.2.2.2.1.1.2) rfl rfl (Nat.le_of_ble_eq_true rfl) (by decide) dX10_way_94 rfl (fun r n_ iv_ rv_ hf => ?_)
      obtain ⟨en_, ei_, er_, r9, rfl, h⟩ := hf; subst n_; subst iv_; subst rv_
      refine g_aload_n (q := 98) 0 X dX10_way_97 rfl rfl rfl ?_
      refine g_getR (q := 101) (r := some (gR rv5 0 2)) 10 2 X hK_rv5.2.2.2.2.2.1.1.1 (lt2000 (c := 0) (isR_lt0 hK_rv5.2.2.2.2.2.1.1.2)) kf_X10_16 (by decide) (by decide) rfl rfl (hK_rv5.n (by decide)) dX10_way_98 rfl ?_
      refine g_iload_n (q := 102) 1 X dX10_way_101 rfl rfl rfl ?_
      refine g_iconst (q := 103) 5 X dX10_way_102 rfl rfl ic_5 ?_
      refine g_cv (q := 106) [aI l1, aI 5] 5 X (ce_X5_ofCart hK_rv5 hK_rv5.2.2.2.2.2.1.1.2 h) kV_X10_151 rfl (by decide) (shR_0 hK_rv5.2.2.2.2.2.1.1.2) (isR_n0 hK_rv5 hK_rv5.2.2.2.2.2.1.1.2) rfl rfl (Nat.le_of_ble_eq_true rfl) (by decide) dX10_way_103 rfl (fun r n_ iv_ rv_ hf => ?_)
      obtain ⟨en_, ei_, er_, r10, rfl, h⟩ := hf; subst n_; subst iv_; subst rv_
      refine g_cv (q := 109) [aR (some (gR rv5 0 2)), aR (some 48), aI r9, aI r10] 9 X (ce_X9_trace hK_rv5 hK_rv5.2.2.2.2.2.1.1.2 h) kV_X10_155 rfl (by decide) rfl (hK_rv5.n (by decide)) rfl rfl (Nat.le_of_ble_eq_true rfl) (by decide) dX10_way_106 rfl (fun r n_ iv_ rv_ hf => ?_)
      obtain ⟨en_, er_, rfl, h⟩ := hf; subst n_; subst rv_
      generalize iv_ = iv11 at h ⊢
      refine g_iload_n (q := 110) 3 X dX10_way_109 rfl rfl rfl ?_
      exact g_iret (q := 0) X hR dX10_way_110 rfl ⟨rfl, hK_rv5, _, rfl, h⟩
    · have h := h.2 c8
      refine g_aload_n (q := 67) 0 X dX10_way_66 rfl rfl rfl ?_
      refine g_bipush (q := 69) 6 X dX10_way_67 rfl bc_6 ic_6 ?_
      refine g_cv (q := 72) [aI 6] 10 X (ce_X10_refused hK_rv5  h) kV_X10_56 rfl (by decide) rfl (hK_rv5.n (by decide)) rfl rfl (Nat.le_of_ble_eq_true rfl) (by decide) dX10_way_69 rfl (fun r n_ iv_ rv_ hf => ?_)
      obtain ⟨en_, er_, r12, rfl, h⟩ := hf; subst n_; subst rv_
      generalize iv_ = iv13 at h ⊢
      exact g_iret (q := 0) X hR dX10_way_72 rfl ⟨rfl, hK_rv5, _, rfl, h⟩
  · have h := h.2 c3
    refine g_iconst (q := 40) (-1) X dX10_way_39 rfl rfl ic_m1 ?_
    exact g_iret (q := 0) X hR dX10_way_40 rfl ⟨rfl, hK, _, rfl, h⟩
def bd_X10_way_31 (l1 l2 : Int) (iv : IV) (rv : RV) (K : Int → IV → RV → Prop) : Prop :=
  bd_X10_way_32 l1 l2 0 iv rv K
set_option maxRecDepth 10000 in
theorem cb_X10_way_31 {Γ : GX} {n : Nat} {iv : IV} {rv : RV} {K : Int → IV → RV → Prop} {l1 l2 : Int} (X : Cx Γ RX10 cX10_way 4 5) (hR : Rt Γ (some .int) 0 0 (fI2 n K)) (hK : Lk n rv)  (h : bd_X10_way_31 l1 l2 iv rv K) : G Γ 4 31 [aR (some 0), aI l1, aI l2, aJ] [aR (some 0)] n iv rv 0 0 := by
  unfold bd_X10_way_31 at h
  refine g_iconst (q := 32) 0 X dX10_way_31 rfl rfl ic_0 ?_
  exact cb_X10_way_32 X hR hK   h
def wp_X10_way (a1 : Int) (a2 : Int) (iv : IV) (rv : RV) (K : Int → IV → RV → Prop) : Prop :=
  wp_X5_has (gR rv 0 2) 11 a1 iv rv (fun r1 => ((r1 = 0) → (bd_X10_way_31 a1 a2 iv rv K)) ∧ ((¬ (r1 = 0)) → (wp_X5_has (gR rv 0 2) 10 a2 iv rv (fun r3 => ((r3 = 0) → (bd_X10_way_31 a1 a2 iv rv K)) ∧ ((¬ (r3 = 0)) → (bd_X10_way_32 a1 a2 1 iv rv K))))))
set_option maxRecDepth 10000 in
theorem ce_X10_way {n : Nat} {iv : IV} {rv : RV} {K : Int → IV → RV → Prop} {a1 : Int} {a2 : Int} (hK : Lk n rv)  (h : wp_X10_way a1 a2 iv rv K) : Call 5 0 0 yX10_way cX10_way 4 (some .int) [aR (some 0), aI a1, aI a2] n iv rv (fI2 n K) := by
  refine Call.by (L := [aR (some 0), aI a1, aI a2, aJ]) (by decide) rfl ⟨trivial, trivial, trivial, trivial⟩ rfl (Nat.le_of_ble_eq_true rfl) (fun Γ X hR => ?_)
  unfold wp_X10_way at h
  refine g_aload_n (q := 1) 0 X dX10_way_0 rfl rfl rfl ?_
  refine g_aload_n (q := 2) 0 X dX10_way_1 rfl rfl rfl ?_
  refine g_getR (q := 5) (r := some (gR rv 0 2)) 10 2 X hK.2.2.2.2.2.1.1.1 (lt2000 (c := 0) (isR_lt0 hK.2.2.2.2.2.1.1.2)) kf_X10_16 (by decide) (by decide) rfl rfl (hK.n (by decide)) dX10_way_2 rfl ?_
  refine g_bipush (q := 7) 11 X dX10_way_5 rfl bc_11 ic_11 ?_
  refine g_iload_n (q := 8) 1 X dX10_way_7 rfl rfl rfl ?_
  refine g_cv (q := 11) [aI 11, aI a1] 5 X (ce_X5_has hK hK.2.2.2.2.2.1.1.2 h) kV_X10_96 rfl (by decide) (shR_0 hK.2.2.2.2.2.1.1.2) (isR_n0 hK hK.2.2.2.2.2.1.1.2) rfl rfl (Nat.le_of_ble_eq_true rfl) (by decide) dX10_way_8 rfl (fun r n_ iv_ rv_ hf => ?_)
  obtain ⟨en_, ei_, er_, r1, rfl, br1, h⟩ := hf; subst n_; subst iv_; subst rv_
  refine g_if_eq (q := 14) 31 X dX10_way_11 (by decide) rfl (fun c2 => ?_) (fun c2 => ?_)
  · have h := h.1 c2
    exact cb_X10_way_31 X hR hK   h
  · have h := h.2 c2
    refine g_aload_n (q := 15) 0 X dX10_way_14 rfl rfl rfl ?_
    refine g_getR (q := 18) (r := some (gR rv 0 2)) 10 2 X hK.2.2.2.2.2.1.1.1 (lt2000 (c := 0) (isR_lt0 hK.2.2.2.2.2.1.1.2)) kf_X10_16 (by decide) (by decide) rfl rfl (hK.n (by decide)) dX10_way_15 rfl ?_
    refine g_bipush (q := 20) 10 X dX10_way_18 rfl bc_10 ic_10 ?_
    refine g_iload_n (q := 21) 2 X dX10_way_20 rfl rfl rfl ?_
    refine g_cv (q := 24) [aI 10, aI a2] 5 X (ce_X5_has hK hK.2.2.2.2.2.1.1.2 h) kV_X10_96 rfl (by decide) (shR_0 hK.2.2.2.2.2.1.1.2) (isR_n0 hK hK.2.2.2.2.2.1.1.2) rfl rfl (Nat.le_of_ble_eq_true rfl) (by decide) dX10_way_21 rfl (fun r n_ iv_ rv_ hf => ?_)
    obtain ⟨en_, ei_, er_, r3, rfl, br3, h⟩ := hf; subst n_; subst iv_; subst rv_
    refine g_if_eq (q := 27) 31 X dX10_way_24 (by decide) rfl (fun c4 => ?_) (fun c4 => ?_)
    · have h := h.1 c4
      exact cb_X10_way_31 X hR hK   h
    · have h := h.2 c4
      refine g_iconst (q := 28) 1 X dX10_way_27 rfl rfl ic_1 ?_
      refine g_goto (q := 32) X dX10_way_28 (by decide) ?_
      exact cb_X10_way_32 X hR hK   h
def wp_X10_stop (a1 : Int) (iv : IV) (rv : RV) (K : Int → Prop) : Prop :=
  ((a1 < 0) → (K (-1))) ∧ ((¬ (a1 < 0)) → ((((iv 63 2) ≤ a1) → (K (-1))) ∧ ((¬ ((iv 63 2) ≤ a1)) → ((0 ≤ a1 ∧ a1 < 8) ∧ K (iv 64 a1.toNat)))))
set_option maxRecDepth 10000 in
theorem ce_X10_stop {n : Nat} {iv : IV} {rv : RV} {K : Int → Prop} {a1 : Int} (hK : Lk n rv)  (h : wp_X10_stop a1 iv rv K) : Call 0 0 0 yX10_stop cX10_stop 2 (some .int) [aR (some 0), aI a1] n iv rv (fI0 n iv rv K) := by
  refine Call.by (L := [aR (some 0), aI a1]) (by decide) rfl ⟨trivial, trivial, trivial⟩ rfl (Nat.le_of_ble_eq_true rfl) (fun Γ X hR => ?_)
  unfold wp_X10_stop at h
  refine g_iload_n (q := 1) 1 X dX10_stop_0 rfl rfl rfl ?_
  refine g_if_lt (q := 4) 27 X dX10_stop_1 (by decide) rfl (fun c1 => ?_) (fun c1 => ?_)
  · have h := h.1 c1
    refine g_iconst (q := 28) (-1) X dX10_stop_27 rfl rfl ic_m1 ?_
    exact g_iret (q := 0) X hR dX10_stop_28 rfl ⟨rfl, rfl, rfl, _, rfl, h⟩
  · have h := h.2 c1
    refine g_iload_n (q := 5) 1 X dX10_stop_4 rfl rfl rfl ?_
    refine g_aload_n (q := 6) 0 X dX10_stop_5 rfl rfl rfl ?_
    refine g_getR (q := 9) (r := some 63) 10 6 X (lk_0_6 hK) (lt2000 (c := 0) (by decide)) kf_X10_44 (by decide) (by decide) rfl rfl (hK.n (by decide)) dX10_stop_6 rfl ?_
    refine g_getI (q := 12) 9 2 X kf_X10_159 (by decide) (by decide) rfl rfl (hK.n (by decide)) dX10_stop_9 rfl ?_
    refine g_icmp_ge (q := 15) 27 X dX10_stop_12 (by decide) rfl (fun c2 => ?_) (fun c2 => ?_)
    · have h := h.1 c2
      refine g_iconst (q := 28) (-1) X dX10_stop_27 rfl rfl ic_m1 ?_
      exact g_iret (q := 0) X hR dX10_stop_28 rfl ⟨rfl, rfl, rfl, _, rfl, h⟩
    · have h := h.2 c2
      refine g_aload_n (q := 16) 0 X dX10_stop_15 rfl rfl rfl ?_
      refine g_getR (q := 19) (r := some 63) 10 6 X (lk_0_6 hK) (lt2000 (c := 0) (by decide)) kf_X10_44 (by decide) (by decide) rfl rfl (hK.n (by decide)) dX10_stop_16 rfl ?_
      refine g_getR (q := 22) (r := some 64) 9 0 X (lk_63_0 hK) (lt2000 (c := 0) (by decide)) kf_X10_162 (by decide) (by decide) rfl rfl (hK.n (by decide)) dX10_stop_19 rfl ?_
      refine g_iload_n (q := 23) 1 X dX10_stop_22 rfl rfl rfl ?_
      obtain ⟨s3, h⟩ := h
      refine g_iald (q := 24) X rfl (hK.n (by decide)) s3 dX10_stop_23 rfl ?_
      refine g_goto (q := 28) X dX10_stop_24 (by decide) ?_
      exact g_iret (q := 0) X hR dX10_stop_28 rfl ⟨rfl, rfl, rfl, _, rfl, h⟩
def wp_X10_length (iv : IV) (rv : RV) (K : Int → Prop) : Prop :=
  (((iv 63 2) ≤ 0) → (K (-1))) ∧ ((¬ ((iv 63 2) ≤ 0)) → (K (iv 63 4)))
set_option maxRecDepth 10000 in
theorem ce_X10_length {n : Nat} {iv : IV} {rv : RV} {K : Int → Prop} (hK : Lk n rv)  (h : wp_X10_length  iv rv K) : Call 0 0 0 yX10_length cX10_length 1 (some .int) [aR (some 0)] n iv rv (fI0 n iv rv K) := by
  refine Call.by (L := [aR (some 0)]) (by decide) rfl ⟨trivial, trivial⟩ rfl (Nat.le_of_ble_eq_true rfl) (fun Γ X hR => ?_)
  unfold wp_X10_length at h
  refine g_aload_n (q := 1) 0 X dX10_length_0 rfl rfl rfl ?_
  refine g_getR (q := 4) (r := some 63) 10 6 X (lk_0_6 hK) (lt2000 (c := 0) (by decide)) kf_X10_44 (by decide) (by decide) rfl rfl (hK.n (by decide)) dX10_length_1 rfl ?_
  refine g_getI (q := 7) 9 2 X kf_X10_159 (by decide) (by decide) rfl rfl (hK.n (by decide)) dX10_length_4 rfl ?_
  refine g_if_le (q := 10) 20 X dX10_length_7 (by decide) rfl (fun c1 => ?_) (fun c1 => ?_)
  · have h := h.1 c1
    refine g_iconst (q := 21) (-1) X dX10_length_20 rfl rfl ic_m1 ?_
    exact g_iret (q := 0) X hR dX10_length_21 rfl ⟨rfl, rfl, rfl, _, rfl, h⟩
  · have h := h.2 c1
    refine g_aload_n (q := 11) 0 X dX10_length_10 rfl rfl rfl ?_
    refine g_getR (q := 14) (r := some 63) 10 6 X (lk_0_6 hK) (lt2000 (c := 0) (by decide)) kf_X10_44 (by decide) (by decide) rfl rfl (hK.n (by decide)) dX10_length_11 rfl ?_
    refine g_getI (q := 17) 9 4 X kf_X10_165 (by decide) (by decide) rfl rfl (hK.n (by decide)) dX10_length_14 rfl ?_
    refine g_goto (q := 21) X dX10_length_17 (by decide) ?_
    exact g_iret (q := 0) X hR dX10_length_21 rfl ⟨rfl, rfl, rfl, _, rfl, h⟩
def bd_X10_partner_32 (l1 l2 t0 : Int) (iv : IV) (rv : RV) (K : Int → IV → RV → Prop) : Prop :=
  wp_X10_admitted t0 0 iv rv (fun r1 iv2 => ((r1 ≠ 0) → (wp_X1_open (gR rv 0 2) l2 iv2 rv (fun iv4 rv5 => wp_X1_cheapestMan l1 iv4 rv5 (fun r6 iv7 => ((0 ≤ r6) → (K r6 iv7 rv5)) ∧ ((¬ (0 ≤ r6)) → (wp_X10_refused 6 iv7 rv5 (fun r9 iv10 => K r9 iv10 rv5))))))) ∧ ((r1 = 0) → (K (-1) iv2 rv)))
set_option maxRecDepth 10000 in
theorem cb_X10_partner_32 {Γ : GX} {n : Nat} {iv : IV} {rv : RV} {K : Int → IV → RV → Prop} {l1 l2 t0 : Int} (X : Cx Γ RX10 cX10_partner 4 6) (hR : Rt Γ (some .int) 0 0 (fI2 n K)) (hK : Lk n rv)  (h : bd_X10_partner_32 l1 l2 t0 iv rv K) : G Γ 4 32 [aR (some 0), aI l1, aI l2, aJ] [aI t0, aR (some 0)] n iv rv 0 0 := by
  unfold bd_X10_partner_32 at h
  refine g_iconst (q := 33) 0 X dX10_partner_32 rfl rfl ic_0 ?_
  refine g_cv (q := 36) [aI t0, aI 0] 10 X (ce_X10_admitted hK  h) kV_X10_84 rfl (by decide) rfl (hK.n (by decide)) rfl rfl (Nat.le_of_ble_eq_true rfl) (by decide) dX10_partner_33 rfl (fun r n_ iv_ rv_ hf => ?_)
  obtain ⟨en_, er_, r1, rfl, br1, h⟩ := hf; subst n_; subst rv_
  generalize iv_ = iv2 at h ⊢
  refine g_if_ne (q := 39) 41 X dX10_partner_36 (by decide) rfl (fun c3 => ?_) (fun c3 => ?_)
  · have h := h.1 c3
    refine g_aload_n (q := 42) 0 X dX10_partner_41 rfl rfl rfl ?_
    refine g_getR (q := 45) (r := some 47) 10 5 X (lk_0_5 hK) (lt2000 (c := 0) (by decide)) kf_X10_37 (by decide) (by decide) rfl rfl (hK.n (by decide)) dX10_partner_42 rfl ?_
    refine g_aload_n (q := 46) 0 X dX10_partner_45 rfl rfl rfl ?_
    refine g_getR (q := 49) (r := some (gR rv 0 2)) 10 2 X hK.2.2.2.2.2.1.1.1 (lt2000 (c := 0) (isR_lt0 hK.2.2.2.2.2.1.1.2)) kf_X10_16 (by decide) (by decide) rfl rfl (hK.n (by decide)) dX10_partner_46 rfl ?_
    refine g_iload_n (q := 50) 2 X dX10_partner_49 rfl rfl rfl ?_
    refine g_cv (q := 53) [aR (some (gR rv 0 2)), aI l2] 1 X (ce_X1_open hK hK.2.2.2.2.2.1.1.2 h) kV_X10_88 rfl (by decide) rfl (hK.n (by decide)) rfl rfl (Nat.le_of_ble_eq_true rfl) (by decide) dX10_partner_50 rfl (fun r n_ iv_ rv_ hf => ?_)
    obtain ⟨en_, hK_rv5, rfl, h⟩ := hf; subst n_
    generalize iv_ = iv4 at h ⊢
    generalize rv_ = rv5 at h hK_rv5 ⊢
    refine g_aload_n (q := 54) 0 X dX10_partner_53 rfl rfl rfl ?_
    refine g_getR (q := 57) (r := some 47) 10 5 X (lk_0_5 hK_rv5) (lt2000 (c := 0) (by decide)) kf_X10_37 (by decide) (by decide) rfl rfl (hK_rv5.n (by decide)) dX10_partner_54 rfl ?_
    refine g_iload_n (q := 58) 1 X dX10_partner_57 rfl rfl rfl ?_
    refine g_cv (q := 61) [aI l1] 1 X (ce_X1_cheapestMan hK_rv5  h) kV_X10_168 rfl (by decide) rfl (hK_rv5.n (by decide)) rfl rfl (Nat.le_of_ble_eq_true rfl) (by decide) dX10_partner_58 rfl (fun r n_ iv_ rv_ hf => ?_)
    obtain ⟨en_, er_, r6, rfl, h⟩ := hf; subst n_; subst rv_
    generalize iv_ = iv7 at h ⊢
    refine g_istore_n (q := 62) 3 (L' := [aR (some 0), aI l1, aI l2, aI r6]) X dX10_partner_61 rfl rfl (by decide) rfl rfl ?_
    refine g_iload_n (q := 63) 3 X dX10_partner_62 rfl rfl rfl ?_
    refine g_if_ge (q := 66) 75 X dX10_partner_63 (by decide) rfl (fun c8 => ?_) (fun c8 => ?_)
    · have h := h.1 c8
      refine g_iload_n (q := 76) 3 X dX10_partner_75 rfl rfl rfl ?_
      exact g_iret (q := 0) X hR dX10_partner_76 rfl ⟨rfl, hK_rv5, _, rfl, h⟩
    · have h := h.2 c8
      refine g_aload_n (q := 67) 0 X dX10_partner_66 rfl rfl rfl ?_
      refine g_bipush (q := 69) 6 X dX10_partner_67 rfl bc_6 ic_6 ?_
      refine g_cv (q := 72) [aI 6] 10 X (ce_X10_refused hK_rv5  h) kV_X10_56 rfl (by decide) rfl (hK_rv5.n (by decide)) rfl rfl (Nat.le_of_ble_eq_true rfl) (by decide) dX10_partner_69 rfl (fun r n_ iv_ rv_ hf => ?_)
      obtain ⟨en_, er_, r9, rfl, h⟩ := hf; subst n_; subst rv_
      generalize iv_ = iv10 at h ⊢
      refine g_goto (q := 76) X dX10_partner_72 (by decide) ?_
      exact g_iret (q := 0) X hR dX10_partner_76 rfl ⟨rfl, hK_rv5, _, rfl, h⟩
  · have h := h.2 c3
    refine g_iconst (q := 40) (-1) X dX10_partner_39 rfl rfl ic_m1 ?_
    exact g_iret (q := 0) X hR dX10_partner_40 rfl ⟨rfl, hK, _, rfl, h⟩
def bd_X10_partner_31 (l1 l2 : Int) (iv : IV) (rv : RV) (K : Int → IV → RV → Prop) : Prop :=
  bd_X10_partner_32 l1 l2 0 iv rv K
set_option maxRecDepth 10000 in
theorem cb_X10_partner_31 {Γ : GX} {n : Nat} {iv : IV} {rv : RV} {K : Int → IV → RV → Prop} {l1 l2 : Int} (X : Cx Γ RX10 cX10_partner 4 6) (hR : Rt Γ (some .int) 0 0 (fI2 n K)) (hK : Lk n rv)  (h : bd_X10_partner_31 l1 l2 iv rv K) : G Γ 4 31 [aR (some 0), aI l1, aI l2, aJ] [aR (some 0)] n iv rv 0 0 := by
  unfold bd_X10_partner_31 at h
  refine g_iconst (q := 32) 0 X dX10_partner_31 rfl rfl ic_0 ?_
  exact cb_X10_partner_32 X hR hK   h
def wp_X10_partner (a1 : Int) (a2 : Int) (iv : IV) (rv : RV) (K : Int → IV → RV → Prop) : Prop :=
  wp_X5_has (gR rv 0 2) 11 a1 iv rv (fun r1 => ((r1 = 0) → (bd_X10_partner_31 a1 a2 iv rv K)) ∧ ((¬ (r1 = 0)) → (wp_X5_has (gR rv 0 2) 10 a2 iv rv (fun r3 => ((r3 = 0) → (bd_X10_partner_31 a1 a2 iv rv K)) ∧ ((¬ (r3 = 0)) → (bd_X10_partner_32 a1 a2 1 iv rv K))))))
set_option maxRecDepth 10000 in
theorem ce_X10_partner {n : Nat} {iv : IV} {rv : RV} {K : Int → IV → RV → Prop} {a1 : Int} {a2 : Int} (hK : Lk n rv)  (h : wp_X10_partner a1 a2 iv rv K) : Call 6 0 0 yX10_partner cX10_partner 4 (some .int) [aR (some 0), aI a1, aI a2] n iv rv (fI2 n K) := by
  refine Call.by (L := [aR (some 0), aI a1, aI a2, aJ]) (by decide) rfl ⟨trivial, trivial, trivial, trivial⟩ rfl (Nat.le_of_ble_eq_true rfl) (fun Γ X hR => ?_)
  unfold wp_X10_partner at h
  refine g_aload_n (q := 1) 0 X dX10_partner_0 rfl rfl rfl ?_
  refine g_aload_n (q := 2) 0 X dX10_partner_1 rfl rfl rfl ?_
  refine g_getR (q := 5) (r := some (gR rv 0 2)) 10 2 X hK.2.2.2.2.2.1.1.1 (lt2000 (c := 0) (isR_lt0 hK.2.2.2.2.2.1.1.2)) kf_X10_16 (by decide) (by decide) rfl rfl (hK.n (by decide)) dX10_partner_2 rfl ?_
  refine g_bipush (q := 7) 11 X dX10_partner_5 rfl bc_11 ic_11 ?_
  refine g_iload_n (q := 8) 1 X dX10_partner_7 rfl rfl rfl ?_
  refine g_cv (q := 11) [aI 11, aI a1] 5 X (ce_X5_has hK hK.2.2.2.2.2.1.1.2 h) kV_X10_96 rfl (by decide) (shR_0 hK.2.2.2.2.2.1.1.2) (isR_n0 hK hK.2.2.2.2.2.1.1.2) rfl rfl (Nat.le_of_ble_eq_true rfl) (by decide) dX10_partner_8 rfl (fun r n_ iv_ rv_ hf => ?_)
  obtain ⟨en_, ei_, er_, r1, rfl, br1, h⟩ := hf; subst n_; subst iv_; subst rv_
  refine g_if_eq (q := 14) 31 X dX10_partner_11 (by decide) rfl (fun c2 => ?_) (fun c2 => ?_)
  · have h := h.1 c2
    exact cb_X10_partner_31 X hR hK   h
  · have h := h.2 c2
    refine g_aload_n (q := 15) 0 X dX10_partner_14 rfl rfl rfl ?_
    refine g_getR (q := 18) (r := some (gR rv 0 2)) 10 2 X hK.2.2.2.2.2.1.1.1 (lt2000 (c := 0) (isR_lt0 hK.2.2.2.2.2.1.1.2)) kf_X10_16 (by decide) (by decide) rfl rfl (hK.n (by decide)) dX10_partner_15 rfl ?_
    refine g_bipush (q := 20) 10 X dX10_partner_18 rfl bc_10 ic_10 ?_
    refine g_iload_n (q := 21) 2 X dX10_partner_20 rfl rfl rfl ?_
    refine g_cv (q := 24) [aI 10, aI a2] 5 X (ce_X5_has hK hK.2.2.2.2.2.1.1.2 h) kV_X10_96 rfl (by decide) (shR_0 hK.2.2.2.2.2.1.1.2) (isR_n0 hK hK.2.2.2.2.2.1.1.2) rfl rfl (Nat.le_of_ble_eq_true rfl) (by decide) dX10_partner_21 rfl (fun r n_ iv_ rv_ hf => ?_)
    obtain ⟨en_, ei_, er_, r3, rfl, br3, h⟩ := hf; subst n_; subst iv_; subst rv_
    refine g_if_eq (q := 27) 31 X dX10_partner_24 (by decide) rfl (fun c4 => ?_) (fun c4 => ?_)
    · have h := h.1 c4
      exact cb_X10_partner_31 X hR hK   h
    · have h := h.2 c4
      refine g_iconst (q := 28) 1 X dX10_partner_27 rfl rfl ic_1 ?_
      refine g_goto (q := 32) X dX10_partner_28 (by decide) ?_
      exact cb_X10_partner_32 X hR hK   h
def bd_X10_saves_44 (l1 l2 l3 t0 : Int) (iv : IV) (rv : RV) (K : Int → IV → RV → Prop) : Prop :=
  wp_X10_admitted t0 0 iv rv (fun r1 iv2 => ((r1 ≠ 0) → (wp_X1_open (gR rv 0 2) l3 iv2 rv (fun iv4 rv5 => wp_X1_owedByOwner l1 iv4 rv5 (fun r6 iv7 => ((0 ≤ r6) → (wp_X1_owedOnWay l1 l2 0 iv7 rv5 (fun r9 iv10 => K (w32 (r6 - r9)) iv10 rv5))) ∧ ((¬ (0 ≤ r6)) → (wp_X10_refused 6 iv7 rv5 (fun r11 iv12 => K (-1000000) iv12 rv5))))))) ∧ ((r1 = 0) → (K (-1000000) iv2 rv)))
set_option maxRecDepth 10000 in
theorem cb_X10_saves_44 {Γ : GX} {n : Nat} {iv : IV} {rv : RV} {K : Int → IV → RV → Prop} {l1 l2 l3 t0 : Int} (X : Cx Γ RX10 cX10_saves 5 5) (hR : Rt Γ (some .int) 0 0 (fI2 n K)) (hK : Lk n rv)  (h : bd_X10_saves_44 l1 l2 l3 t0 iv rv K) : G Γ 5 44 [aR (some 0), aI l1, aI l2, aI l3, aJ] [aI t0, aR (some 0)] n iv rv 0 0 := by
  unfold bd_X10_saves_44 at h
  refine g_iconst (q := 45) 0 X dX10_saves_44 rfl rfl ic_0 ?_
  refine g_cv (q := 48) [aI t0, aI 0] 10 X (ce_X10_admitted hK  h) kV_X10_84 rfl (by decide) rfl (hK.n (by decide)) rfl rfl (Nat.le_of_ble_eq_true rfl) (by decide) dX10_saves_45 rfl (fun r n_ iv_ rv_ hf => ?_)
  obtain ⟨en_, er_, r1, rfl, br1, h⟩ := hf; subst n_; subst rv_
  generalize iv_ = iv2 at h ⊢
  refine g_if_ne (q := 51) 54 X dX10_saves_48 (by decide) rfl (fun c3 => ?_) (fun c3 => ?_)
  · have h := h.1 c3
    refine g_aload_n (q := 55) 0 X dX10_saves_54 rfl rfl rfl ?_
    refine g_getR (q := 58) (r := some 47) 10 5 X (lk_0_5 hK) (lt2000 (c := 0) (by decide)) kf_X10_37 (by decide) (by decide) rfl rfl (hK.n (by decide)) dX10_saves_55 rfl ?_
    refine g_aload_n (q := 59) 0 X dX10_saves_58 rfl rfl rfl ?_
    refine g_getR (q := 62) (r := some (gR rv 0 2)) 10 2 X hK.2.2.2.2.2.1.1.1 (lt2000 (c := 0) (isR_lt0 hK.2.2.2.2.2.1.1.2)) kf_X10_16 (by decide) (by decide) rfl rfl (hK.n (by decide)) dX10_saves_59 rfl ?_
    refine g_iload_n (q := 63) 3 X dX10_saves_62 rfl rfl rfl ?_
    refine g_cv (q := 66) [aR (some (gR rv 0 2)), aI l3] 1 X (ce_X1_open hK hK.2.2.2.2.2.1.1.2 h) kV_X10_88 rfl (by decide) rfl (hK.n (by decide)) rfl rfl (Nat.le_of_ble_eq_true rfl) (by decide) dX10_saves_63 rfl (fun r n_ iv_ rv_ hf => ?_)
    obtain ⟨en_, hK_rv5, rfl, h⟩ := hf; subst n_
    generalize iv_ = iv4 at h ⊢
    generalize rv_ = rv5 at h hK_rv5 ⊢
    refine g_aload_n (q := 67) 0 X dX10_saves_66 rfl rfl rfl ?_
    refine g_getR (q := 70) (r := some 47) 10 5 X (lk_0_5 hK_rv5) (lt2000 (c := 0) (by decide)) kf_X10_37 (by decide) (by decide) rfl rfl (hK_rv5.n (by decide)) dX10_saves_67 rfl ?_
    refine g_iload_n (q := 71) 1 X dX10_saves_70 rfl rfl rfl ?_
    refine g_cv (q := 74) [aI l1] 1 X (ce_X1_owedByOwner hK_rv5  h) kV_X10_144 rfl (by decide) rfl (hK_rv5.n (by decide)) rfl rfl (Nat.le_of_ble_eq_true rfl) (by decide) dX10_saves_71 rfl (fun r n_ iv_ rv_ hf => ?_)
    obtain ⟨en_, er_, r6, rfl, h⟩ := hf; subst n_; subst rv_
    generalize iv_ = iv7 at h ⊢
    refine g_istore (q := 76) (k0 := 0) 4 (L' := [aR (some 0), aI l1, aI l2, aI l3, aI r6]) X dX10_saves_74 rfl (by decide) rfl rfl ?_
    refine g_iload (q := 78) 4 X dX10_saves_76 rfl rfl ?_
    refine g_if_ge (q := 81) 91 X dX10_saves_78 (by decide) rfl (fun c8 => ?_) (fun c8 => ?_)
    · have h := h.1 c8
      refine g_iload (q := 93) 4 X dX10_saves_91 rfl rfl ?_
      refine g_aload_n (q := 94) 0 X dX10_saves_93 rfl rfl rfl ?_
      refine g_getR (q := 97) (r := some 47) 10 5 X (lk_0_5 hK_rv5) (lt2000 (c := 0) (by decide)) kf_X10_37 (by decide) (by decide) rfl rfl (hK_rv5.n (by decide)) dX10_saves_94 rfl ?_
      refine g_iload_n (q := 98) 1 X dX10_saves_97 rfl rfl rfl ?_
      refine g_iload_n (q := 99) 2 X dX10_saves_98 rfl rfl rfl ?_
      refine g_iconst (q := 100) 0 X dX10_saves_99 rfl rfl ic_0 ?_
      refine g_cv (q := 103) [aI l1, aI l2, aI 0] 1 X (ce_X1_owedOnWay hK_rv5  h) kV_X10_172 rfl (by decide) rfl (hK_rv5.n (by decide)) rfl rfl (Nat.le_of_ble_eq_true rfl) (by decide) dX10_saves_100 rfl (fun r n_ iv_ rv_ hf => ?_)
      obtain ⟨en_, er_, r9, rfl, h⟩ := hf; subst n_; subst rv_
      generalize iv_ = iv10 at h ⊢
      refine g_isub (q := 104) X dX10_saves_103 rfl ?_
      exact g_iret (q := 0) X hR dX10_saves_104 rfl ⟨rfl, hK_rv5, _, rfl, h⟩
    · have h := h.2 c8
      refine g_aload_n (q := 82) 0 X dX10_saves_81 rfl rfl rfl ?_
      refine g_bipush (q := 84) 6 X dX10_saves_82 rfl bc_6 ic_6 ?_
      refine g_cv (q := 87) [aI 6] 10 X (ce_X10_refused hK_rv5  h) kV_X10_56 rfl (by decide) rfl (hK_rv5.n (by decide)) rfl rfl (Nat.le_of_ble_eq_true rfl) (by decide) dX10_saves_84 rfl (fun r n_ iv_ rv_ hf => ?_)
      obtain ⟨en_, er_, r11, rfl, h⟩ := hf; subst n_; subst rv_
      generalize iv_ = iv12 at h ⊢
      refine g_pop (q := 88) X dX10_saves_87 rfl rfl ?_
      refine g_ldc (q := 90) (-1000000) X kc_X10_171 dX10_saves_88 rfl ic_m1000000 ?_
      exact g_iret (q := 0) X hR dX10_saves_90 rfl ⟨rfl, hK_rv5, _, rfl, h⟩
  · have h := h.2 c3
    refine g_ldc (q := 53) (-1000000) X kc_X10_171 dX10_saves_51 rfl ic_m1000000 ?_
    exact g_iret (q := 0) X hR dX10_saves_53 rfl ⟨rfl, hK, _, rfl, h⟩
def bd_X10_saves_43 (l1 l2 l3 : Int) (iv : IV) (rv : RV) (K : Int → IV → RV → Prop) : Prop :=
  bd_X10_saves_44 l1 l2 l3 0 iv rv K
set_option maxRecDepth 10000 in
theorem cb_X10_saves_43 {Γ : GX} {n : Nat} {iv : IV} {rv : RV} {K : Int → IV → RV → Prop} {l1 l2 l3 : Int} (X : Cx Γ RX10 cX10_saves 5 5) (hR : Rt Γ (some .int) 0 0 (fI2 n K)) (hK : Lk n rv)  (h : bd_X10_saves_43 l1 l2 l3 iv rv K) : G Γ 5 43 [aR (some 0), aI l1, aI l2, aI l3, aJ] [aR (some 0)] n iv rv 0 0 := by
  unfold bd_X10_saves_43 at h
  refine g_iconst (q := 44) 0 X dX10_saves_43 rfl rfl ic_0 ?_
  exact cb_X10_saves_44 X hR hK   h
def wp_X10_saves (a1 : Int) (a2 : Int) (a3 : Int) (iv : IV) (rv : RV) (K : Int → IV → RV → Prop) : Prop :=
  wp_X5_has (gR rv 0 2) 11 a1 iv rv (fun r1 => ((r1 = 0) → (bd_X10_saves_43 a1 a2 a3 iv rv K)) ∧ ((¬ (r1 = 0)) → (wp_X5_has (gR rv 0 2) 0 a2 iv rv (fun r3 => ((r3 = 0) → (bd_X10_saves_43 a1 a2 a3 iv rv K)) ∧ ((¬ (r3 = 0)) → (wp_X5_has (gR rv 0 2) 10 a3 iv rv (fun r5 => ((r5 = 0) → (bd_X10_saves_43 a1 a2 a3 iv rv K)) ∧ ((¬ (r5 = 0)) → (bd_X10_saves_44 a1 a2 a3 1 iv rv K)))))))))
set_option maxRecDepth 10000 in
theorem ce_X10_saves {n : Nat} {iv : IV} {rv : RV} {K : Int → IV → RV → Prop} {a1 : Int} {a2 : Int} {a3 : Int} (hK : Lk n rv)  (h : wp_X10_saves a1 a2 a3 iv rv K) : Call 5 0 0 yX10_saves cX10_saves 5 (some .int) [aR (some 0), aI a1, aI a2, aI a3] n iv rv (fI2 n K) := by
  refine Call.by (L := [aR (some 0), aI a1, aI a2, aI a3, aJ]) (by decide) rfl ⟨trivial, trivial, trivial, trivial, trivial⟩ rfl (Nat.le_of_ble_eq_true rfl) (fun Γ X hR => ?_)
  unfold wp_X10_saves at h
  refine g_aload_n (q := 1) 0 X dX10_saves_0 rfl rfl rfl ?_
  refine g_aload_n (q := 2) 0 X dX10_saves_1 rfl rfl rfl ?_
  refine g_getR (q := 5) (r := some (gR rv 0 2)) 10 2 X hK.2.2.2.2.2.1.1.1 (lt2000 (c := 0) (isR_lt0 hK.2.2.2.2.2.1.1.2)) kf_X10_16 (by decide) (by decide) rfl rfl (hK.n (by decide)) dX10_saves_2 rfl ?_
  refine g_bipush (q := 7) 11 X dX10_saves_5 rfl bc_11 ic_11 ?_
  refine g_iload_n (q := 8) 1 X dX10_saves_7 rfl rfl rfl ?_
  refine g_cv (q := 11) [aI 11, aI a1] 5 X (ce_X5_has hK hK.2.2.2.2.2.1.1.2 h) kV_X10_96 rfl (by decide) (shR_0 hK.2.2.2.2.2.1.1.2) (isR_n0 hK hK.2.2.2.2.2.1.1.2) rfl rfl (Nat.le_of_ble_eq_true rfl) (by decide) dX10_saves_8 rfl (fun r n_ iv_ rv_ hf => ?_)
  obtain ⟨en_, ei_, er_, r1, rfl, br1, h⟩ := hf; subst n_; subst iv_; subst rv_
  refine g_if_eq (q := 14) 43 X dX10_saves_11 (by decide) rfl (fun c2 => ?_) (fun c2 => ?_)
  · have h := h.1 c2
    exact cb_X10_saves_43 X hR hK   h
  · have h := h.2 c2
    refine g_aload_n (q := 15) 0 X dX10_saves_14 rfl rfl rfl ?_
    refine g_getR (q := 18) (r := some (gR rv 0 2)) 10 2 X hK.2.2.2.2.2.1.1.1 (lt2000 (c := 0) (isR_lt0 hK.2.2.2.2.2.1.1.2)) kf_X10_16 (by decide) (by decide) rfl rfl (hK.n (by decide)) dX10_saves_15 rfl ?_
    refine g_iconst (q := 19) 0 X dX10_saves_18 rfl rfl ic_0 ?_
    refine g_iload_n (q := 20) 2 X dX10_saves_19 rfl rfl rfl ?_
    refine g_cv (q := 23) [aI 0, aI a2] 5 X (ce_X5_has hK hK.2.2.2.2.2.1.1.2 h) kV_X10_96 rfl (by decide) (shR_0 hK.2.2.2.2.2.1.1.2) (isR_n0 hK hK.2.2.2.2.2.1.1.2) rfl rfl (Nat.le_of_ble_eq_true rfl) (by decide) dX10_saves_20 rfl (fun r n_ iv_ rv_ hf => ?_)
    obtain ⟨en_, ei_, er_, r3, rfl, br3, h⟩ := hf; subst n_; subst iv_; subst rv_
    refine g_if_eq (q := 26) 43 X dX10_saves_23 (by decide) rfl (fun c4 => ?_) (fun c4 => ?_)
    · have h := h.1 c4
      exact cb_X10_saves_43 X hR hK   h
    · have h := h.2 c4
      refine g_aload_n (q := 27) 0 X dX10_saves_26 rfl rfl rfl ?_
      refine g_getR (q := 30) (r := some (gR rv 0 2)) 10 2 X hK.2.2.2.2.2.1.1.1 (lt2000 (c := 0) (isR_lt0 hK.2.2.2.2.2.1.1.2)) kf_X10_16 (by decide) (by decide) rfl rfl (hK.n (by decide)) dX10_saves_27 rfl ?_
      refine g_bipush (q := 32) 10 X dX10_saves_30 rfl bc_10 ic_10 ?_
      refine g_iload_n (q := 33) 3 X dX10_saves_32 rfl rfl rfl ?_
      refine g_cv (q := 36) [aI 10, aI a3] 5 X (ce_X5_has hK hK.2.2.2.2.2.1.1.2 h) kV_X10_96 rfl (by decide) (shR_0 hK.2.2.2.2.2.1.1.2) (isR_n0 hK hK.2.2.2.2.2.1.1.2) rfl rfl (Nat.le_of_ble_eq_true rfl) (by decide) dX10_saves_33 rfl (fun r n_ iv_ rv_ hf => ?_)
      obtain ⟨en_, ei_, er_, r5, rfl, br5, h⟩ := hf; subst n_; subst iv_; subst rv_
      refine g_if_eq (q := 39) 43 X dX10_saves_36 (by decide) rfl (fun c6 => ?_) (fun c6 => ?_)
      · have h := h.1 c6
        exact cb_X10_saves_43 X hR hK   h
      · have h := h.2 c6
        refine g_iconst (q := 40) 1 X dX10_saves_39 rfl rfl ic_1 ?_
        refine g_goto (q := 44) X dX10_saves_40 (by decide) ?_
        exact cb_X10_saves_44 X hR hK   h
def wp_X10_coin (a1 : Int) (iv : IV) (rv : RV) (K : Int → IV → RV → Prop) : Prop :=
  wp_X5_has (gR rv 0 2) 10 a1 iv rv (fun r1 => wp_X10_admitted r1 0 iv rv (fun r2 iv3 => ((r2 ≠ 0) → (wp_X1_open (gR rv 0 2) a1 iv3 rv (fun iv5 rv6 => wp_X1_allCoin iv5 rv6 (fun r7 iv8 => K r7 iv8 rv6)))) ∧ ((r2 = 0) → (K (-1) iv3 rv))))
set_option maxRecDepth 10000 in
theorem ce_X10_coin {n : Nat} {iv : IV} {rv : RV} {K : Int → IV → RV → Prop} {a1 : Int} (hK : Lk n rv)  (h : wp_X10_coin a1 iv rv K) : Call 5 0 0 yX10_coin cX10_coin 2 (some .int) [aR (some 0), aI a1] n iv rv (fI2 n K) := by
  refine Call.by (L := [aR (some 0), aI a1]) (by decide) rfl ⟨trivial, trivial, trivial⟩ rfl (Nat.le_of_ble_eq_true rfl) (fun Γ X hR => ?_)
  unfold wp_X10_coin at h
  refine g_aload_n (q := 1) 0 X dX10_coin_0 rfl rfl rfl ?_
  refine g_aload_n (q := 2) 0 X dX10_coin_1 rfl rfl rfl ?_
  refine g_getR (q := 5) (r := some (gR rv 0 2)) 10 2 X hK.2.2.2.2.2.1.1.1 (lt2000 (c := 0) (isR_lt0 hK.2.2.2.2.2.1.1.2)) kf_X10_16 (by decide) (by decide) rfl rfl (hK.n (by decide)) dX10_coin_2 rfl ?_
  refine g_bipush (q := 7) 10 X dX10_coin_5 rfl bc_10 ic_10 ?_
  refine g_iload_n (q := 8) 1 X dX10_coin_7 rfl rfl rfl ?_
  refine g_cv (q := 11) [aI 10, aI a1] 5 X (ce_X5_has hK hK.2.2.2.2.2.1.1.2 h) kV_X10_96 rfl (by decide) (shR_0 hK.2.2.2.2.2.1.1.2) (isR_n0 hK hK.2.2.2.2.2.1.1.2) rfl rfl (Nat.le_of_ble_eq_true rfl) (by decide) dX10_coin_8 rfl (fun r n_ iv_ rv_ hf => ?_)
  obtain ⟨en_, ei_, er_, r1, rfl, br1, h⟩ := hf; subst n_; subst iv_; subst rv_
  refine g_iconst (q := 12) 0 X dX10_coin_11 rfl rfl ic_0 ?_
  refine g_cv (q := 15) [aI r1, aI 0] 10 X (ce_X10_admitted hK  h) kV_X10_84 rfl (by decide) rfl (hK.n (by decide)) rfl rfl (Nat.le_of_ble_eq_true rfl) (by decide) dX10_coin_12 rfl (fun r n_ iv_ rv_ hf => ?_)
  obtain ⟨en_, er_, r2, rfl, br2, h⟩ := hf; subst n_; subst rv_
  generalize iv_ = iv3 at h ⊢
  refine g_if_ne (q := 18) 20 X dX10_coin_15 (by decide) rfl (fun c4 => ?_) (fun c4 => ?_)
  · have h := h.1 c4
    refine g_aload_n (q := 21) 0 X dX10_coin_20 rfl rfl rfl ?_
    refine g_getR (q := 24) (r := some 47) 10 5 X (lk_0_5 hK) (lt2000 (c := 0) (by decide)) kf_X10_37 (by decide) (by decide) rfl rfl (hK.n (by decide)) dX10_coin_21 rfl ?_
    refine g_aload_n (q := 25) 0 X dX10_coin_24 rfl rfl rfl ?_
    refine g_getR (q := 28) (r := some (gR rv 0 2)) 10 2 X hK.2.2.2.2.2.1.1.1 (lt2000 (c := 0) (isR_lt0 hK.2.2.2.2.2.1.1.2)) kf_X10_16 (by decide) (by decide) rfl rfl (hK.n (by decide)) dX10_coin_25 rfl ?_
    refine g_iload_n (q := 29) 1 X dX10_coin_28 rfl rfl rfl ?_
    refine g_cv (q := 32) [aR (some (gR rv 0 2)), aI a1] 1 X (ce_X1_open hK hK.2.2.2.2.2.1.1.2 h) kV_X10_88 rfl (by decide) rfl (hK.n (by decide)) rfl rfl (Nat.le_of_ble_eq_true rfl) (by decide) dX10_coin_29 rfl (fun r n_ iv_ rv_ hf => ?_)
    obtain ⟨en_, hK_rv6, rfl, h⟩ := hf; subst n_
    generalize iv_ = iv5 at h ⊢
    generalize rv_ = rv6 at h hK_rv6 ⊢
    refine g_aload_n (q := 33) 0 X dX10_coin_32 rfl rfl rfl ?_
    refine g_getR (q := 36) (r := some 47) 10 5 X (lk_0_5 hK_rv6) (lt2000 (c := 0) (by decide)) kf_X10_37 (by decide) (by decide) rfl rfl (hK_rv6.n (by decide)) dX10_coin_33 rfl ?_
    refine g_cv (q := 39) [] 1 X (ce_X1_allCoin hK_rv6  h) kV_X10_175 rfl (by decide) rfl (hK_rv6.n (by decide)) rfl rfl (Nat.le_of_ble_eq_true rfl) (by decide) dX10_coin_36 rfl (fun r n_ iv_ rv_ hf => ?_)
    obtain ⟨en_, er_, r7, rfl, h⟩ := hf; subst n_; subst rv_
    generalize iv_ = iv8 at h ⊢
    exact g_iret (q := 0) X hR dX10_coin_39 rfl ⟨rfl, hK_rv6, _, rfl, h⟩
  · have h := h.2 c4
    refine g_iconst (q := 19) (-1) X dX10_coin_18 rfl rfl ic_m1 ?_
    exact g_iret (q := 0) X hR dX10_coin_19 rfl ⟨rfl, hK, _, rfl, h⟩
