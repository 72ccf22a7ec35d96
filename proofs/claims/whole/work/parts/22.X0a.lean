def bd_X0_dayOfFreedom_45 (l3 : Int) (iv : IV) (rv : RV) (K : Int → Prop) : Prop :=
  K l3
set_option maxRecDepth 10000 in
theorem cb_X0_dayOfFreedom_45 {Γ : GX} {n : Nat} {iv : IV} {rv : RV} {K : Int → Prop} {l3 : Int} (X : Cx Γ RX0 cX0_dayOfFreedom 4 1) (hR : Rt Γ (some .int) 0 0 (fI0 n iv rv K)) (hK : Lk n rv)  (h : bd_X0_dayOfFreedom_45 l3 iv rv K) : G Γ 4 45 [aJ, aJ, aJ, aI l3] [] n iv rv 0 0 := by
  unfold bd_X0_dayOfFreedom_45 at h
  refine g_iload_n (q := 46) 3 X dX0_dayOfFreedom_45 rfl rfl rfl ?_
  refine g_goto (q := 62) X dX0_dayOfFreedom_46 (by decide) ?_
  exact g_iret (q := 0) X hR dX0_dayOfFreedom_62 rfl ⟨rfl, rfl, rfl, _, rfl, h⟩
def wp_X0_dayOfFreedom (a1 : Int) (iv : IV) (rv : RV) (K : Int → Prop) : Prop :=
  (0 ≤ a1 ∧ a1 < 16) ∧ (0 ≤ iv (gR rv 51 6 + 11) a1.toNat ∧ iv (gR rv 51 6 + 11) a1.toNat < 8) ∧ ∀ x3, x3 = iv 61 (iv (gR rv 51 6 + 11) a1.toNat).toNat → (0 ≤ a1 ∧ a1 < 16) ∧ ∀ x5, x5 = iv 55 a1.toNat → ((x3 < 0) → (bd_X0_dayOfFreedom_45 x5 iv rv K)) ∧ ((¬ (x3 < 0)) → ((((iv 51 8) = 0) → ((0 ≤ x3 ∧ x3 < 16) ∧ ∀ r9, r9 = max x5 (iv 55 x3.toNat) → K r9)) ∧ ((¬ ((iv 51 8) = 0)) → (bd_X0_dayOfFreedom_45 x5 iv rv K))))
set_option maxRecDepth 10000 in
theorem ce_X0_dayOfFreedom {n : Nat} {iv : IV} {rv : RV} {K : Int → Prop} {a1 : Int} (hK : Lk n rv)  (h : wp_X0_dayOfFreedom a1 iv rv K) : Call 1 0 0 yX0_dayOfFreedom cX0_dayOfFreedom 4 (some .int) [aR (some 58), aI a1] n iv rv (fI0 n iv rv K) := by
  refine Call.by (L := [aR (some 58), aI a1, aJ, aJ]) (by decide) rfl ⟨trivial, trivial, trivial⟩ rfl (Nat.le_of_ble_eq_true rfl) (fun Γ X hR => ?_)
  unfold wp_X0_dayOfFreedom at h
  refine g_aload_n (q := 1) 0 X dX0_dayOfFreedom_0 rfl rfl rfl ?_
  refine g_getR (q := 4) (r := some 59) 0 0 X (lk_58_0 hK) (lt2000 (c := 0) (by decide)) kf_X0_12 (by decide) (by decide) rfl rfl (hK.n (by decide)) dX0_dayOfFreedom_1 rfl ?_
  refine g_getR (q := 7) (r := some 61) 3 1 X (lk_59_1 hK) (lt2000 (c := 0) (by decide)) kf_X0_78 (by decide) (by decide) rfl rfl (hK.n (by decide)) dX0_dayOfFreedom_4 rfl ?_
  refine g_aload_n (q := 8) 0 X dX0_dayOfFreedom_7 rfl rfl rfl ?_
  refine g_getR (q := 11) (r := some 51) 0 2 X (lk_58_2 hK) (lt2000 (c := 0) (by decide)) kf_X0_22 (by decide) (by decide) rfl rfl (hK.n (by decide)) dX0_dayOfFreedom_8 rfl ?_
  refine g_getR (q := 14) (r := some (gR rv 51 6)) 6 6 X hK.2.2.2.2.2.1.2.2.2.2.1 (lt2000 (c := 0) (isR_lt0 hK.2.2.2.2.2.1.2.2.2.2.2)) kf_X0_26 (by decide) (by decide) rfl rfl (hK.n (by decide)) dX0_dayOfFreedom_11 rfl ?_
  refine g_getR (q := 17) (r := some (gR rv 51 6 + 11)) 5 10 X (lkR_10 hK hK.2.2.2.2.2.1.2.2.2.2.2) (lt2000 (c := 0) (isR_lt hK.2.2.2.2.2.1.2.2.2.2.2 (by decide))) kf_X0_66 (by decide) (by decide) rfl (shR_0 hK.2.2.2.2.2.1.2.2.2.2.2) (isR_n0 hK hK.2.2.2.2.2.1.2.2.2.2.2) dX0_dayOfFreedom_14 rfl ?_
  refine g_iload_n (q := 18) 1 X dX0_dayOfFreedom_17 rfl rfl rfl ?_
  obtain ⟨s1, h⟩ := h
  refine g_iald (q := 19) X (shR_11 hK.2.2.2.2.2.1.2.2.2.2.2) (isR_n hK hK.2.2.2.2.2.1.2.2.2.2.2 (by decide)) s1 dX0_dayOfFreedom_18 rfl ?_
  obtain ⟨s2, h⟩ := h
  refine g_iald (q := 20) X rfl (hK.n (by decide)) s2 dX0_dayOfFreedom_19 rfl ?_
  refine g_nmI (fun x3 ex3 => ?_)
  have h := h x3 ex3
  refine g_istore_n (q := 21) 2 (L' := [aR (some 58), aI a1, aI x3, aJ]) X dX0_dayOfFreedom_20 rfl rfl (by decide) rfl rfl ?_
  refine g_aload_n (q := 22) 0 X dX0_dayOfFreedom_21 rfl rfl rfl ?_
  refine g_getR (q := 25) (r := some 51) 0 2 X (lk_58_2 hK) (lt2000 (c := 0) (by decide)) kf_X0_22 (by decide) (by decide) rfl rfl (hK.n (by decide)) dX0_dayOfFreedom_22 rfl ?_
  refine g_getR (q := 28) (r := some 55) 6 3 X (lk_51_3 hK) (lt2000 (c := 0) (by decide)) kf_X0_81 (by decide) (by decide) rfl rfl (hK.n (by decide)) dX0_dayOfFreedom_25 rfl ?_
  refine g_iload_n (q := 29) 1 X dX0_dayOfFreedom_28 rfl rfl rfl ?_
  obtain ⟨s4, h⟩ := h
  refine g_iald (q := 30) X rfl (hK.n (by decide)) s4 dX0_dayOfFreedom_29 rfl ?_
  refine g_nmI (fun x5 ex5 => ?_)
  have h := h x5 ex5
  refine g_istore_n (q := 31) 3 (L' := [aR (some 58), aI a1, aI x3, aI x5]) X dX0_dayOfFreedom_30 rfl rfl (by decide) rfl rfl ?_
  refine g_iload_n (q := 32) 2 X dX0_dayOfFreedom_31 rfl rfl rfl ?_
  refine g_if_lt (q := 35) 45 X dX0_dayOfFreedom_32 (by decide) rfl (fun c6 => ?_) (fun c6 => ?_)
  · have h := h.1 c6
    refine g_sub (L' := [aJ, aJ, aJ, aI x5]) ⟨Or.inl rfl, Or.inl rfl, Or.inl rfl, Or.inr rfl, trivial⟩ ?_
    exact cb_X0_dayOfFreedom_45 X hR hK   h
  · have h := h.2 c6
    refine g_aload_n (q := 36) 0 X dX0_dayOfFreedom_35 rfl rfl rfl ?_
    refine g_getR (q := 39) (r := some 51) 0 2 X (lk_58_2 hK) (lt2000 (c := 0) (by decide)) kf_X0_22 (by decide) (by decide) rfl rfl (hK.n (by decide)) dX0_dayOfFreedom_36 rfl ?_
    refine g_getI (q := 42) 6 8 X kf_X0_84 (by decide) (by decide) rfl rfl (hK.n (by decide)) dX0_dayOfFreedom_39 rfl ?_
    refine g_if_eq (q := 45) 49 X dX0_dayOfFreedom_42 (by decide) rfl (fun c7 => ?_) (fun c7 => ?_)
    · have h := h.1 c7
      refine g_iload_n (q := 50) 3 X dX0_dayOfFreedom_49 rfl rfl rfl ?_
      refine g_aload_n (q := 51) 0 X dX0_dayOfFreedom_50 rfl rfl rfl ?_
      refine g_getR (q := 54) (r := some 51) 0 2 X (lk_58_2 hK) (lt2000 (c := 0) (by decide)) kf_X0_22 (by decide) (by decide) rfl rfl (hK.n (by decide)) dX0_dayOfFreedom_51 rfl ?_
      refine g_getR (q := 57) (r := some 55) 6 3 X (lk_51_3 hK) (lt2000 (c := 0) (by decide)) kf_X0_81 (by decide) (by decide) rfl rfl (hK.n (by decide)) dX0_dayOfFreedom_54 rfl ?_
      refine g_iload_n (q := 58) 2 X dX0_dayOfFreedom_57 rfl rfl rfl ?_
      obtain ⟨s8, h⟩ := h
      refine g_iald (q := 59) X rfl (hK.n (by decide)) s8 dX0_dayOfFreedom_58 rfl ?_
      refine g_cs (q := 62) [aI x5, aI (iv 55 x3.toNat)] X (ce_max n iv rv x5 (iv 55 x3.toNat)) kS_X0_88 rfl rfl (Nat.le_of_ble_eq_true rfl) (by decide) dX0_dayOfFreedom_59 rfl (fun r n_ iv_ rv_ hf => ?_)
      obtain ⟨en_, ei_, er_, r9, rfl, er9⟩ := hf; subst n_; subst iv_; subst rv_
      have h := h r9 er9
      exact g_iret (q := 0) X hR dX0_dayOfFreedom_62 rfl ⟨rfl, rfl, rfl, _, rfl, h⟩
    · have h := h.2 c7
      refine g_sub (L' := [aJ, aJ, aJ, aI x5]) ⟨Or.inl rfl, Or.inl rfl, Or.inl rfl, Or.inr rfl, trivial⟩ ?_
      exact cb_X0_dayOfFreedom_45 X hR hK   h
def bd_X0_isOn_30 (iv : IV) (rv : RV) (K : Int → Prop) : Prop :=
  K 1
set_option maxRecDepth 10000 in
theorem cb_X0_isOn_30 {Γ : GX} {n : Nat} {iv : IV} {rv : RV} {K : Int → Prop} (X : Cx Γ RX0 cX0_isOn 2 0) (hR : Rt Γ (some .boolean) 0 0 (fB0 n iv rv K)) (hK : Lk n rv)  (h : bd_X0_isOn_30 iv rv K) : G Γ 2 30 [aJ, aJ] [] n iv rv 0 0 := by
  unfold bd_X0_isOn_30 at h
  refine g_iconst (q := 31) 1 X dX0_isOn_30 rfl rfl ic_1 ?_
  refine g_goto (q := 35) X dX0_isOn_31 (by decide) ?_
  exact g_zret (q := 0) .boolean X hR (nar_B (Or.inr rfl)) dX0_isOn_35 rfl ⟨rfl, rfl, rfl, _, rfl, (Or.inr rfl), h⟩
def wp_X0_isOn (a1 : Int) (iv : IV) (rv : RV) (K : Int → Prop) : Prop :=
  (0 ≤ a1 ∧ a1 < 16) ∧ (((iv 56 a1.toNat) = (iv 58 3)) → (bd_X0_isOn_30 iv rv K)) ∧ ((¬ ((iv 56 a1.toNat) = (iv 58 3))) → ((0 ≤ a1 ∧ a1 < 16) ∧ (((iv 56 a1.toNat) ≠ (-2)) → (K 0)) ∧ (((iv 56 a1.toNat) = (-2)) → (bd_X0_isOn_30 iv rv K))))
set_option maxRecDepth 10000 in
theorem ce_X0_isOn {n : Nat} {iv : IV} {rv : RV} {K : Int → Prop} {a1 : Int} (hK : Lk n rv)  (h : wp_X0_isOn a1 iv rv K) : Call 0 0 0 yX0_isOn cX0_isOn 2 (some .boolean) [aR (some 58), aI a1] n iv rv (fB0 n iv rv K) := by
  refine Call.by (L := [aR (some 58), aI a1]) (by decide) rfl ⟨trivial, trivial, trivial⟩ rfl (Nat.le_of_ble_eq_true rfl) (fun Γ X hR => ?_)
  unfold wp_X0_isOn at h
  refine g_aload_n (q := 1) 0 X dX0_isOn_0 rfl rfl rfl ?_
  refine g_getR (q := 4) (r := some 51) 0 2 X (lk_58_2 hK) (lt2000 (c := 0) (by decide)) kf_X0_22 (by decide) (by decide) rfl rfl (hK.n (by decide)) dX0_isOn_1 rfl ?_
  refine g_getR (q := 7) (r := some 56) 6 4 X (lk_51_4 hK) (lt2000 (c := 0) (by decide)) kf_X0_76 (by decide) (by decide) rfl rfl (hK.n (by decide)) dX0_isOn_4 rfl ?_
  refine g_iload_n (q := 8) 1 X dX0_isOn_7 rfl rfl rfl ?_
  obtain ⟨s1, h⟩ := h
  refine g_iald (q := 9) X rfl (hK.n (by decide)) s1 dX0_isOn_8 rfl ?_
  refine g_aload_n (q := 10) 0 X dX0_isOn_9 rfl rfl rfl ?_
  refine g_getI (q := 13) 0 3 X kf_X0_38 (by decide) (by decide) rfl rfl (hK.n (by decide)) dX0_isOn_10 rfl ?_
  refine g_icmp_eq (q := 16) 30 X dX0_isOn_13 (by decide) rfl (fun c2 => ?_) (fun c2 => ?_)
  · have h := h.1 c2
    refine g_sub (L' := [aJ, aJ]) ⟨Or.inl rfl, Or.inl rfl, trivial⟩ ?_
    exact cb_X0_isOn_30 X hR hK   h
  · have h := h.2 c2
    refine g_aload_n (q := 17) 0 X dX0_isOn_16 rfl rfl rfl ?_
    refine g_getR (q := 20) (r := some 51) 0 2 X (lk_58_2 hK) (lt2000 (c := 0) (by decide)) kf_X0_22 (by decide) (by decide) rfl rfl (hK.n (by decide)) dX0_isOn_17 rfl ?_
    refine g_getR (q := 23) (r := some 56) 6 4 X (lk_51_4 hK) (lt2000 (c := 0) (by decide)) kf_X0_76 (by decide) (by decide) rfl rfl (hK.n (by decide)) dX0_isOn_20 rfl ?_
    refine g_iload_n (q := 24) 1 X dX0_isOn_23 rfl rfl rfl ?_
    obtain ⟨s3, h⟩ := h
    refine g_iald (q := 25) X rfl (hK.n (by decide)) s3 dX0_isOn_24 rfl ?_
    refine g_bipush (q := 27) (-2) X dX0_isOn_25 rfl bc_m2 ic_m2 ?_
    refine g_icmp_ne (q := 30) 34 X dX0_isOn_27 (by decide) rfl (fun c4 => ?_) (fun c4 => ?_)
    · have h := h.1 c4
      refine g_iconst (q := 35) 0 X dX0_isOn_34 rfl rfl ic_0 ?_
      exact g_zret (q := 0) .boolean X hR (nar_B (Or.inl rfl)) dX0_isOn_35 rfl ⟨rfl, rfl, rfl, _, rfl, (Or.inl rfl), h⟩
    · have h := h.2 c4
      refine g_sub (L' := [aJ, aJ]) ⟨Or.inl rfl, Or.inl rfl, trivial⟩ ?_
      exact cb_X0_isOn_30 X hR hK   h
def bd_X0_hear_195 (P55 : Int → Int → Int → IV → Prop) (l3 l5 l6 t0 t1 : Int) (iv : IV) (rv : RV) (K : IV → Prop) : Prop :=
  (0 ≤ t1 ∧ t1 < 16) ∧ ∀ iv2, iv2 = w2 iv 62 t1.toNat t0 → P55 l3 l5 (w32 (l6 + 1)) iv2
set_option maxRecDepth 10000 in
theorem cb_X0_hear_195 {Γ : GX} {n : Nat} {iv : IV} {rv : RV} {K : IV → Prop} {P55 : Int → Int → Int → IV → Prop} {l3 l5 l6 t0 t1 : Int} (X : Cx Γ RX0 cX0_hear 10 2) (hR : Rt Γ none 0 0 (fV1 n rv K)) (hK : Lk n rv)  (hP55 : ∀ (l3' l5' l6' : Int) (iv' : IV), P55 l3' l5' l6' iv' → G Γ 10 55 [aR (some 58), aJ, aJ, aI (l3'), aR (some (gR rv 51 6)), aI (l5'), aI (l6'), aJ, aJ, aJ] [] n iv' rv 0 0) (h : bd_X0_hear_195 P55 l3 l5 l6 t0 t1 iv rv K) : G Γ 10 195 [aR (some 58), aJ, aJ, aI l3, aR (some (gR rv 51 6)), aI l5, aI l6, aJ, aJ, aJ] [aI t0, aI t1, aR (some 62)] n iv rv 0 0 := by
  unfold bd_X0_hear_195 at h
  obtain ⟨s1, h⟩ := h
  refine g_iast (q := 196) X rfl (hK.n (by decide)) s1 dX0_hear_195 rfl ?_
  refine g_nmM (fun iv2 eiv2 => ?_)
  have h := h iv2 eiv2
  refine g_iinc (q := 199) 6 (L' := [aR (some 58), aJ, aJ, aI l3, aR (some (gR rv 51 6)), aI l5, aI (w32 (l6 + 1)), aJ, aJ, aJ]) X dX0_hear_196 rfl (by decide) rfl rfl rfl ?_
  refine g_goto (q := 55) X dX0_hear_199 (by decide) ?_
  exact hP55 _ _ _ _ h
def bd_X0_hear_194 (P55 : Int → Int → Int → IV → Prop) (l3 l5 l6 t0 : Int) (iv : IV) (rv : RV) (K : IV → Prop) : Prop :=
  bd_X0_hear_195 P55 l3 l5 l6 (-1) t0 iv rv K
set_option maxRecDepth 10000 in
theorem cb_X0_hear_194 {Γ : GX} {n : Nat} {iv : IV} {rv : RV} {K : IV → Prop} {P55 : Int → Int → Int → IV → Prop} {l3 l5 l6 t0 : Int} (X : Cx Γ RX0 cX0_hear 10 2) (hR : Rt Γ none 0 0 (fV1 n rv K)) (hK : Lk n rv)  (hP55 : ∀ (l3' l5' l6' : Int) (iv' : IV), P55 l3' l5' l6' iv' → G Γ 10 55 [aR (some 58), aJ, aJ, aI (l3'), aR (some (gR rv 51 6)), aI (l5'), aI (l6'), aJ, aJ, aJ] [] n iv' rv 0 0) (h : bd_X0_hear_194 P55 l3 l5 l6 t0 iv rv K) : G Γ 10 194 [aR (some 58), aJ, aJ, aI l3, aR (some (gR rv 51 6)), aI l5, aI l6, aJ, aJ, aJ] [aI t0, aR (some 62)] n iv rv 0 0 := by
  unfold bd_X0_hear_194 at h
  refine g_iconst (q := 195) (-1) X dX0_hear_194 rfl rfl ic_m1 ?_
  exact cb_X0_hear_195 X hR hK  hP55 h
def bd_X0_hear_167 (P55 : Int → Int → Int → IV → Prop) (l3 l5 l6 l7 l8 t0 : Int) (iv : IV) (rv : RV) (K : IV → Prop) : Prop :=
  ((l8 = 0) → (bd_X0_hear_194 P55 l3 l5 l6 l7 iv rv K)) ∧ ((¬ (l8 = 0)) → (((t0 = 0) → (bd_X0_hear_194 P55 l3 l5 l6 l7 iv rv K)) ∧ ((¬ (t0 = 0)) → (wp_X0_dayOfFreedom l7 iv rv (fun r3 => bd_X0_hear_195 P55 l3 l5 l6 r3 l7 iv rv K)))))
set_option maxRecDepth 10000 in
theorem cb_X0_hear_167 {Γ : GX} {n : Nat} {iv : IV} {rv : RV} {K : IV → Prop} {P55 : Int → Int → Int → IV → Prop} {l3 l5 l6 l7 l8 t0 : Int} (X : Cx Γ RX0 cX0_hear 10 2) (hR : Rt Γ none 0 0 (fV1 n rv K)) (hK : Lk n rv)  (hP55 : ∀ (l3' l5' l6' : Int) (iv' : IV), P55 l3' l5' l6' iv' → G Γ 10 55 [aR (some 58), aJ, aJ, aI (l3'), aR (some (gR rv 51 6)), aI (l5'), aI (l6'), aJ, aJ, aJ] [] n iv' rv 0 0) (h : bd_X0_hear_167 P55 l3 l5 l6 l7 l8 t0 iv rv K) : G Γ 10 167 [aR (some 58), aJ, aJ, aI l3, aR (some (gR rv 51 6)), aI l5, aI l6, aI l7, aI l8, aJ] [aI t0] n iv rv 0 0 := by
  unfold bd_X0_hear_167 at h
  refine g_istore (q := 169) (k0 := 0) 9 (L' := [aR (some 58), aJ, aJ, aI l3, aR (some (gR rv 51 6)), aI l5, aI l6, aI l7, aI l8, aI t0]) X dX0_hear_167 rfl (by decide) rfl rfl ?_
  refine g_aload_n (q := 170) 0 X dX0_hear_169 rfl rfl rfl ?_
  refine g_getR (q := 173) (r := some 62) 0 1 X (lk_58_1 hK) (lt2000 (c := 0) (by decide)) kf_X0_18 (by decide) (by decide) rfl rfl (hK.n (by decide)) dX0_hear_170 rfl ?_
  refine g_iload (q := 175) 7 X dX0_hear_173 rfl rfl ?_
  refine g_iload (q := 177) 8 X dX0_hear_175 rfl rfl ?_
  refine g_if_eq (q := 180) 194 X dX0_hear_177 (by decide) rfl (fun c1 => ?_) (fun c1 => ?_)
  · have h := h.1 c1
    refine g_sub (L' := [aR (some 58), aJ, aJ, aI l3, aR (some (gR rv 51 6)), aI l5, aI l6, aJ, aJ, aJ]) ⟨Or.inr rfl, Or.inl rfl, Or.inl rfl, Or.inr rfl, Or.inr rfl, Or.inr rfl, Or.inr rfl, Or.inl rfl, Or.inl rfl, Or.inl rfl, trivial⟩ ?_
    exact cb_X0_hear_194 X hR hK  hP55 h
  · have h := h.2 c1
    refine g_iload (q := 182) 9 X dX0_hear_180 rfl rfl ?_
    refine g_if_eq (q := 185) 194 X dX0_hear_182 (by decide) rfl (fun c2 => ?_) (fun c2 => ?_)
    · have h := h.1 c2
      refine g_sub (L' := [aR (some 58), aJ, aJ, aI l3, aR (some (gR rv 51 6)), aI l5, aI l6, aJ, aJ, aJ]) ⟨Or.inr rfl, Or.inl rfl, Or.inl rfl, Or.inr rfl, Or.inr rfl, Or.inr rfl, Or.inr rfl, Or.inl rfl, Or.inl rfl, Or.inl rfl, trivial⟩ ?_
      exact cb_X0_hear_194 X hR hK  hP55 h
    · have h := h.2 c2
      refine g_aload_n (q := 186) 0 X dX0_hear_185 rfl rfl rfl ?_
      refine g_iload (q := 188) 7 X dX0_hear_186 rfl rfl ?_
      refine g_cv (q := 191) [aI l7] 0 X (ce_X0_dayOfFreedom hK  h) kV_X0_72 rfl (by decide) rfl (hK.n (by decide)) rfl rfl (Nat.le_of_ble_eq_true rfl) (by decide) dX0_hear_188 rfl (fun r n_ iv_ rv_ hf => ?_)
      obtain ⟨en_, ei_, er_, r3, rfl, h⟩ := hf; subst n_; subst iv_; subst rv_
      refine g_goto (q := 195) X dX0_hear_191 (by decide) ?_
      refine g_sub (L' := [aR (some 58), aJ, aJ, aI l3, aR (some (gR rv 51 6)), aI l5, aI l6, aJ, aJ, aJ]) ⟨Or.inr rfl, Or.inl rfl, Or.inl rfl, Or.inr rfl, Or.inr rfl, Or.inr rfl, Or.inr rfl, Or.inl rfl, Or.inl rfl, Or.inl rfl, trivial⟩ ?_
      exact cb_X0_hear_195 X hR hK  hP55 h
def bd_X0_hear_166 (P55 : Int → Int → Int → IV → Prop) (l3 l5 l6 l7 l8 : Int) (iv : IV) (rv : RV) (K : IV → Prop) : Prop :=
  bd_X0_hear_167 P55 l3 l5 l6 l7 l8 0 iv rv K
set_option maxRecDepth 10000 in
theorem cb_X0_hear_166 {Γ : GX} {n : Nat} {iv : IV} {rv : RV} {K : IV → Prop} {P55 : Int → Int → Int → IV → Prop} {l3 l5 l6 l7 l8 : Int} (X : Cx Γ RX0 cX0_hear 10 2) (hR : Rt Γ none 0 0 (fV1 n rv K)) (hK : Lk n rv)  (hP55 : ∀ (l3' l5' l6' : Int) (iv' : IV), P55 l3' l5' l6' iv' → G Γ 10 55 [aR (some 58), aJ, aJ, aI (l3'), aR (some (gR rv 51 6)), aI (l5'), aI (l6'), aJ, aJ, aJ] [] n iv' rv 0 0) (h : bd_X0_hear_166 P55 l3 l5 l6 l7 l8 iv rv K) : G Γ 10 166 [aR (some 58), aJ, aJ, aI l3, aR (some (gR rv 51 6)), aI l5, aI l6, aI l7, aI l8, aJ] [] n iv rv 0 0 := by
  unfold bd_X0_hear_166 at h
  refine g_iconst (q := 167) 0 X dX0_hear_166 rfl rfl ic_0 ?_
  exact cb_X0_hear_167 X hR hK  hP55 h
def bd_X0_hear_131 (P55 : Int → Int → Int → IV → Prop) (l3 l5 l6 l7 t0 : Int) (iv : IV) (rv : RV) (K : IV → Prop) : Prop :=
  (((iv 51 11) < l3) → (bd_X0_hear_166 P55 l3 l5 l6 l7 t0 iv rv K)) ∧ ((¬ ((iv 51 11) < l3)) → ((0 ≤ l7 ∧ l7 < 16) ∧ wp_X3_has (iv (gR rv 51 6 + 11) l7.toNat) iv rv (fun r3 => ((r3 = 0) → (bd_X0_hear_166 P55 l3 l5 l6 l7 t0 iv rv K)) ∧ ((¬ (r3 = 0)) → (bd_X0_hear_167 P55 l3 l5 l6 l7 t0 1 iv rv K)))))
set_option maxRecDepth 10000 in
theorem cb_X0_hear_131 {Γ : GX} {n : Nat} {iv : IV} {rv : RV} {K : IV → Prop} {P55 : Int → Int → Int → IV → Prop} {l3 l5 l6 l7 t0 : Int} (X : Cx Γ RX0 cX0_hear 10 2) (hR : Rt Γ none 0 0 (fV1 n rv K)) (hK : Lk n rv)  (hP55 : ∀ (l3' l5' l6' : Int) (iv' : IV), P55 l3' l5' l6' iv' → G Γ 10 55 [aR (some 58), aJ, aJ, aI (l3'), aR (some (gR rv 51 6)), aI (l5'), aI (l6'), aJ, aJ, aJ] [] n iv' rv 0 0) (h : bd_X0_hear_131 P55 l3 l5 l6 l7 t0 iv rv K) : G Γ 10 131 [aR (some 58), aJ, aJ, aI l3, aR (some (gR rv 51 6)), aI l5, aI l6, aI l7, aJ, aJ] [aI t0] n iv rv 0 0 := by
  unfold bd_X0_hear_131 at h
  refine g_istore (q := 133) (k0 := 0) 8 (L' := [aR (some 58), aJ, aJ, aI l3, aR (some (gR rv 51 6)), aI l5, aI l6, aI l7, aI t0, aJ]) X dX0_hear_131 rfl (by decide) rfl rfl ?_
  refine g_iload_n (q := 134) 3 X dX0_hear_133 rfl rfl rfl ?_
  refine g_aload_n (q := 135) 0 X dX0_hear_134 rfl rfl rfl ?_
  refine g_getR (q := 138) (r := some 51) 0 2 X (lk_58_2 hK) (lt2000 (c := 0) (by decide)) kf_X0_22 (by decide) (by decide) rfl rfl (hK.n (by decide)) dX0_hear_135 rfl ?_
  refine g_getI (q := 141) 6 11 X kf_X0_63 (by decide) (by decide) rfl rfl (hK.n (by decide)) dX0_hear_138 rfl ?_
  refine g_icmp_gt (q := 144) 166 X dX0_hear_141 (by decide) rfl (fun c1 => ?_) (fun c1 => ?_)
  · have h := h.1 c1
    exact cb_X0_hear_166 X hR hK  hP55 h
  · have h := h.2 c1
    refine g_aload_n (q := 145) 0 X dX0_hear_144 rfl rfl rfl ?_
    refine g_getR (q := 148) (r := some 59) 0 0 X (lk_58_0 hK) (lt2000 (c := 0) (by decide)) kf_X0_12 (by decide) (by decide) rfl rfl (hK.n (by decide)) dX0_hear_145 rfl ?_
    refine g_aload (q := 150) 4 X dX0_hear_148 rfl rfl ?_
    refine g_getR (q := 153) (r := some (gR rv 51 6 + 11)) 5 10 X (lkR_10 hK hK.2.2.2.2.2.1.2.2.2.2.2) (lt2000 (c := 0) (isR_lt hK.2.2.2.2.2.1.2.2.2.2.2 (by decide))) kf_X0_66 (by decide) (by decide) rfl (shR_0 hK.2.2.2.2.2.1.2.2.2.2.2) (isR_n0 hK hK.2.2.2.2.2.1.2.2.2.2.2) dX0_hear_150 rfl ?_
    refine g_iload (q := 155) 7 X dX0_hear_153 rfl rfl ?_
    obtain ⟨s2, h⟩ := h
    refine g_iald (q := 156) X (shR_11 hK.2.2.2.2.2.1.2.2.2.2.2) (isR_n hK hK.2.2.2.2.2.1.2.2.2.2.2 (by decide)) s2 dX0_hear_155 rfl ?_
    refine g_cv (q := 159) [aI (iv (gR rv 51 6 + 11) l7.toNat)] 3 X (ce_X3_has hK  h) kV_X0_69 rfl (by decide) rfl (hK.n (by decide)) rfl rfl (Nat.le_of_ble_eq_true rfl) (by decide) dX0_hear_156 rfl (fun r n_ iv_ rv_ hf => ?_)
    obtain ⟨en_, ei_, er_, r3, rfl, br3, h⟩ := hf; subst n_; subst iv_; subst rv_
    refine g_if_eq (q := 162) 166 X dX0_hear_159 (by decide) rfl (fun c4 => ?_) (fun c4 => ?_)
    · have h := h.1 c4
      exact cb_X0_hear_166 X hR hK  hP55 h
    · have h := h.2 c4
      refine g_iconst (q := 163) 1 X dX0_hear_162 rfl rfl ic_1 ?_
      refine g_goto (q := 167) X dX0_hear_163 (by decide) ?_
      exact cb_X0_hear_167 X hR hK  hP55 h
def bd_X0_hear_130 (P55 : Int → Int → Int → IV → Prop) (l3 l5 l6 l7 : Int) (iv : IV) (rv : RV) (K : IV → Prop) : Prop :=
  bd_X0_hear_131 P55 l3 l5 l6 l7 0 iv rv K
set_option maxRecDepth 10000 in
theorem cb_X0_hear_130 {Γ : GX} {n : Nat} {iv : IV} {rv : RV} {K : IV → Prop} {P55 : Int → Int → Int → IV → Prop} {l3 l5 l6 l7 : Int} (X : Cx Γ RX0 cX0_hear 10 2) (hR : Rt Γ none 0 0 (fV1 n rv K)) (hK : Lk n rv)  (hP55 : ∀ (l3' l5' l6' : Int) (iv' : IV), P55 l3' l5' l6' iv' → G Γ 10 55 [aR (some 58), aJ, aJ, aI (l3'), aR (some (gR rv 51 6)), aI (l5'), aI (l6'), aJ, aJ, aJ] [] n iv' rv 0 0) (h : bd_X0_hear_130 P55 l3 l5 l6 l7 iv rv K) : G Γ 10 130 [aR (some 58), aJ, aJ, aI l3, aR (some (gR rv 51 6)), aI l5, aI l6, aI l7, aJ, aJ] [] n iv rv 0 0 := by
  unfold bd_X0_hear_130 at h
  refine g_iconst (q := 131) 0 X dX0_hear_130 rfl rfl ic_0 ?_
  exact cb_X0_hear_131 X hR hK  hP55 h
def bd_X0_hear_126 (P55 : Int → Int → Int → IV → Prop) (l3 l5 l6 l7 : Int) (iv : IV) (rv : RV) (K : IV → Prop) : Prop :=
  bd_X0_hear_131 P55 l3 l5 l6 l7 1 iv rv K
set_option maxRecDepth 10000 in
theorem cb_X0_hear_126 {Γ : GX} {n : Nat} {iv : IV} {rv : RV} {K : IV → Prop} {P55 : Int → Int → Int → IV → Prop} {l3 l5 l6 l7 : Int} (X : Cx Γ RX0 cX0_hear 10 2) (hR : Rt Γ none 0 0 (fV1 n rv K)) (hK : Lk n rv)  (hP55 : ∀ (l3' l5' l6' : Int) (iv' : IV), P55 l3' l5' l6' iv' → G Γ 10 55 [aR (some 58), aJ, aJ, aI (l3'), aR (some (gR rv 51 6)), aI (l5'), aI (l6'), aJ, aJ, aJ] [] n iv' rv 0 0) (h : bd_X0_hear_126 P55 l3 l5 l6 l7 iv rv K) : G Γ 10 126 [aR (some 58), aJ, aJ, aI l3, aR (some (gR rv 51 6)), aI l5, aI l6, aI l7, aJ, aJ] [] n iv rv 0 0 := by
  unfold bd_X0_hear_126 at h
  refine g_iconst (q := 127) 1 X dX0_hear_126 rfl rfl ic_1 ?_
  refine g_goto (q := 131) X dX0_hear_127 (by decide) ?_
  exact cb_X0_hear_131 X hR hK  hP55 h
def bd_X0_hear_55 (P55 : Int → Int → Int → IV → Prop) (l3 l5 l6 : Int) (iv : IV) (rv : RV) (K : IV → Prop) : Prop :=
  (((iv (gR rv 51 6 + 1) 6) ≤ l6) → (K iv)) ∧ ((¬ ((iv (gR rv 51 6 + 1) 6) ≤ l6)) → (∀ x2, x2 = w32 (6 + l6) → (0 ≤ x2 ∧ x2 < 16) ∧ (((iv 54 x2.toNat) = 0) → (bd_X0_hear_130 P55 l3 l5 l6 x2 iv rv K)) ∧ ((¬ ((iv 54 x2.toNat) = 0)) → (wp_X0_isOn x2 iv rv (fun r5 => ((r5 = 0) → (bd_X0_hear_130 P55 l3 l5 l6 x2 iv rv K)) ∧ ((¬ (r5 = 0)) → ((0 ≤ x2 ∧ x2 < 16) ∧ (((iv 57 x2.toNat) = l5) → (bd_X0_hear_126 P55 l3 l5 l6 x2 iv rv K)) ∧ ((¬ ((iv 57 x2.toNat) = l5)) → ((0 ≤ x2 ∧ x2 < 16) ∧ (((iv 57 x2.toNat) ≠ 2) → (bd_X0_hear_130 P55 l3 l5 l6 x2 iv rv K)) ∧ (((iv 57 x2.toNat) = 2) → (bd_X0_hear_126 P55 l3 l5 l6 x2 iv rv K)))))))))))
set_option maxRecDepth 10000 in
theorem cb_X0_hear_55 {Γ : GX} {n : Nat} {iv : IV} {rv : RV} {K : IV → Prop} {P55 : Int → Int → Int → IV → Prop} {l3 l5 l6 : Int} (X : Cx Γ RX0 cX0_hear 10 2) (hR : Rt Γ none 0 0 (fV1 n rv K)) (hK : Lk n rv)  (hP55 : ∀ (l3' l5' l6' : Int) (iv' : IV), P55 l3' l5' l6' iv' → G Γ 10 55 [aR (some 58), aJ, aJ, aI (l3'), aR (some (gR rv 51 6)), aI (l5'), aI (l6'), aJ, aJ, aJ] [] n iv' rv 0 0) (h : bd_X0_hear_55 P55 l3 l5 l6 iv rv K) : G Γ 10 55 [aR (some 58), aJ, aJ, aI l3, aR (some (gR rv 51 6)), aI l5, aI l6, aJ, aJ, aJ] [] n iv rv 0 0 := by
  unfold bd_X0_hear_55 at h
  refine g_iload (q := 57) 6 X dX0_hear_55 rfl rfl ?_
  refine g_aload (q := 59) 4 X dX0_hear_57 rfl rfl ?_
  refine g_getR (q := 62) (r := some (gR rv 51 6 + 1)) 5 0 X (lkR_0 hK hK.2.2.2.2.2.1.2.2.2.2.2) (lt2000 (c := 0) (isR_lt hK.2.2.2.2.2.1.2.2.2.2.2 (by decide))) kf_X0_49 (by decide) (by decide) rfl (shR_0 hK.2.2.2.2.2.1.2.2.2.2.2) (isR_n0 hK hK.2.2.2.2.2.1.2.2.2.2.2) dX0_hear_59 rfl ?_
  refine g_bipush (q := 64) 6 X dX0_hear_62 rfl bc_6 ic_6 ?_
  refine g_iald (q := 65) X (shR_1 hK.2.2.2.2.2.1.2.2.2.2.2) (isR_n hK hK.2.2.2.2.2.1.2.2.2.2.2 (by decide)) (by decide) dX0_hear_64 rfl ?_
  refine g_icmp_ge (q := 68) 202 X dX0_hear_65 (by decide) rfl (fun c1 => ?_) (fun c1 => ?_)
  · have h := h.1 c1
    exact g_vret (q := 0) X hR dX0_hear_202 rfl ⟨rfl, rfl, rfl, h⟩
  · have h := h.2 c1
    refine g_bipush (q := 70) 6 X dX0_hear_68 rfl bc_6 ic_6 ?_
    refine g_iload (q := 72) 6 X dX0_hear_70 rfl rfl ?_
    refine g_iadd (q := 73) X dX0_hear_72 rfl ?_
    refine g_nmI (fun x2 ex2 => ?_)
    have h := h x2 ex2
    refine g_istore (q := 75) (k0 := 0) 7 (L' := [aR (some 58), aJ, aJ, aI l3, aR (some (gR rv 51 6)), aI l5, aI l6, aI x2, aJ, aJ]) X dX0_hear_73 rfl (by decide) rfl rfl ?_
    refine g_aload_n (q := 76) 0 X dX0_hear_75 rfl rfl rfl ?_
    refine g_getR (q := 79) (r := some 51) 0 2 X (lk_58_2 hK) (lt2000 (c := 0) (by decide)) kf_X0_22 (by decide) (by decide) rfl rfl (hK.n (by decide)) dX0_hear_76 rfl ?_
    refine g_getR (q := 82) (r := some 54) 6 2 X (lk_51_2 hK) (lt2000 (c := 0) (by decide)) kf_X0_52 (by decide) (by decide) rfl rfl (hK.n (by decide)) dX0_hear_79 rfl ?_
    refine g_iload (q := 84) 7 X dX0_hear_82 rfl rfl ?_
    obtain ⟨s3, h⟩ := h
    refine g_zald (q := 85) X rfl (hK.n (by decide)) s3 dX0_hear_84 rfl ?_
    refine g_if_eq (q := 88) 130 X dX0_hear_85 (by decide) rfl (fun c4 => ?_) (fun c4 => ?_)
    · have h := h.1 c4
      exact cb_X0_hear_130 X hR hK  hP55 h
    · have h := h.2 c4
      refine g_aload_n (q := 89) 0 X dX0_hear_88 rfl rfl rfl ?_
      refine g_iload (q := 91) 7 X dX0_hear_89 rfl rfl ?_
      refine g_cv (q := 94) [aI x2] 0 X (ce_X0_isOn hK  h) kV_X0_56 rfl (by decide) rfl (hK.n (by decide)) rfl rfl (Nat.le_of_ble_eq_true rfl) (by decide) dX0_hear_91 rfl (fun r n_ iv_ rv_ hf => ?_)
      obtain ⟨en_, ei_, er_, r5, rfl, br5, h⟩ := hf; subst n_; subst iv_; subst rv_
      refine g_if_eq (q := 97) 130 X dX0_hear_94 (by decide) rfl (fun c6 => ?_) (fun c6 => ?_)
      · have h := h.1 c6
        exact cb_X0_hear_130 X hR hK  hP55 h
      · have h := h.2 c6
        refine g_aload_n (q := 98) 0 X dX0_hear_97 rfl rfl rfl ?_
        refine g_getR (q := 101) (r := some 51) 0 2 X (lk_58_2 hK) (lt2000 (c := 0) (by decide)) kf_X0_22 (by decide) (by decide) rfl rfl (hK.n (by decide)) dX0_hear_98 rfl ?_
        refine g_getR (q := 104) (r := some 57) 6 5 X (lk_51_5 hK) (lt2000 (c := 0) (by decide)) kf_X0_60 (by decide) (by decide) rfl rfl (hK.n (by decide)) dX0_hear_101 rfl ?_
        refine g_iload (q := 106) 7 X dX0_hear_104 rfl rfl ?_
        obtain ⟨s7, h⟩ := h
        refine g_iald (q := 107) X rfl (hK.n (by decide)) s7 dX0_hear_106 rfl ?_
        refine g_iload (q := 109) 5 X dX0_hear_107 rfl rfl ?_
        refine g_icmp_eq (q := 112) 126 X dX0_hear_109 (by decide) rfl (fun c8 => ?_) (fun c8 => ?_)
        · have h := h.1 c8
          exact cb_X0_hear_126 X hR hK  hP55 h
        · have h := h.2 c8
          refine g_aload_n (q := 113) 0 X dX0_hear_112 rfl rfl rfl ?_
          refine g_getR (q := 116) (r := some 51) 0 2 X (lk_58_2 hK) (lt2000 (c := 0) (by decide)) kf_X0_22 (by decide) (by decide) rfl rfl (hK.n (by decide)) dX0_hear_113 rfl ?_
          refine g_getR (q := 119) (r := some 57) 6 5 X (lk_51_5 hK) (lt2000 (c := 0) (by decide)) kf_X0_60 (by decide) (by decide) rfl rfl (hK.n (by decide)) dX0_hear_116 rfl ?_
          refine g_iload (q := 121) 7 X dX0_hear_119 rfl rfl ?_
          obtain ⟨s9, h⟩ := h
          refine g_iald (q := 122) X rfl (hK.n (by decide)) s9 dX0_hear_121 rfl ?_
          refine g_iconst (q := 123) 2 X dX0_hear_122 rfl rfl ic_2 ?_
          refine g_icmp_ne (q := 126) 130 X dX0_hear_123 (by decide) rfl (fun c10 => ?_) (fun c10 => ?_)
          · have h := h.1 c10
            exact cb_X0_hear_130 X hR hK  hP55 h
          · have h := h.2 c10
            exact cb_X0_hear_126 X hR hK  hP55 h
def wl_X0_hear_55 (l3 l5 l6 : Int) (iv : IV) (rv : RV) (K : IV → Prop) : Prop :=
  ∀ P : Int → Int → Int → IV → Prop, (∀ (l3' l5' l6' : Int) (iv' : IV), bd_X0_hear_55  P l3' l5' l6' iv' rv K → P l3' l5' l6' iv') → P l3 l5 l6 iv
theorem cl_X0_hear_55 {Γ : GX} {n : Nat} {iv : IV} {rv : RV} {K : IV → Prop} {l3 l5 l6 : Int} (X : Cx Γ RX0 cX0_hear 10 2) (hR : Rt Γ none 0 0 (fV1 n rv K)) (hK : Lk n rv)  (h : wl_X0_hear_55 l3 l5 l6 iv rv K) : G Γ 10 55 [aR (some 58), aJ, aJ, aI l3, aR (some (gR rv 51 6)), aI l5, aI l6, aJ, aJ, aJ] [] n iv rv 0 0 := by
  exact h (fun l3' l5' l6' iv' =>  G Γ 10 55 [aR (some 58), aJ, aJ, aI (l3'), aR (some (gR rv 51 6)), aI (l5'), aI (l6'), aJ, aJ, aJ] [] n iv' rv 0 0) (fun l3' l5' l6' iv' hb => cb_X0_hear_55 X hR hK   (fun l3' l5' l6' iv' hp => hp) hb)
def wp_X0_hear (a1 : Int) (a2 : Int) (a3 : Int) (iv : IV) (rv : RV) (K : IV → Prop) : Prop :=
  wp_X5_ofCart (gR rv 51 6) a1 1 iv rv (fun r1 => ∀ iv2, iv2 = w2 iv 58 3 r1 → wp_X5_ofCart (gR rv 51 6) a1 3 iv2 rv (fun r3 => ∀ iv4, iv4 = w2 iv2 58 4 r3 → wp_X5_ofCart (gR rv 51 6) a1 2 iv4 rv (fun r5 => wp_X3_from a2 iv4 rv (fun iv6 => wl_X0_hear_55 a3 r5 0 iv6 rv K))))
set_option maxRecDepth 10000 in
theorem ce_X0_hear {n : Nat} {iv : IV} {rv : RV} {K : IV → Prop} {a1 : Int} {a2 : Int} {a3 : Int} (hK : Lk n rv)  (h : wp_X0_hear a1 a2 a3 iv rv K) : Call 2 0 0 yX0_hear cX0_hear 10 none [aR (some 58), aI a1, aI a2, aI a3] n iv rv (fV1 n rv K) := by
  refine Call.by (L := [aR (some 58), aI a1, aI a2, aI a3, aJ, aJ, aJ, aJ, aJ, aJ]) (by decide) rfl ⟨trivial, trivial, trivial, trivial, trivial⟩ rfl (Nat.le_of_ble_eq_true rfl) (fun Γ X hR => ?_)
  unfold wp_X0_hear at h
  refine g_aload_n (q := 1) 0 X dX0_hear_0 rfl rfl rfl ?_
  refine g_getR (q := 4) (r := some 51) 0 2 X (lk_58_2 hK) (lt2000 (c := 0) (by decide)) kf_X0_22 (by decide) (by decide) rfl rfl (hK.n (by decide)) dX0_hear_1 rfl ?_
  refine g_getR (q := 7) (r := some (gR rv 51 6)) 6 6 X hK.2.2.2.2.2.1.2.2.2.2.1 (lt2000 (c := 0) (isR_lt0 hK.2.2.2.2.2.1.2.2.2.2.2)) kf_X0_26 (by decide) (by decide) rfl rfl (hK.n (by decide)) dX0_hear_4 rfl ?_
  refine g_astore (q := 9) (k0 := 0) 4 (L' := [aR (some 58), aI a1, aI a2, aI a3, aR (some (gR rv 51 6)), aJ, aJ, aJ, aJ, aJ]) X dX0_hear_7 rfl (by decide) rfl rfl ?_
  refine g_aload_n (q := 10) 0 X dX0_hear_9 rfl rfl rfl ?_
  refine g_aload (q := 12) 4 X dX0_hear_10 rfl rfl ?_
  refine g_iload_n (q := 13) 1 X dX0_hear_12 rfl rfl rfl ?_
  refine g_iconst (q := 14) 1 X dX0_hear_13 rfl rfl ic_1 ?_
  refine g_cv (q := 17) [aI a1, aI 1] 5 X (ce_X5_ofCart hK hK.2.2.2.2.2.1.2.2.2.2.2 h) kV_X0_32 rfl (by decide) (shR_0 hK.2.2.2.2.2.1.2.2.2.2.2) (isR_n0 hK hK.2.2.2.2.2.1.2.2.2.2.2) rfl rfl (Nat.le_of_ble_eq_true rfl) (by decide) dX0_hear_14 rfl (fun r n_ iv_ rv_ hf => ?_)
  obtain ⟨en_, ei_, er_, r1, rfl, h⟩ := hf; subst n_; subst iv_; subst rv_
  refine g_putI (q := 20) 0 3 X (Or.inl rfl) rfl kf_X0_38 (by decide) (by decide) rfl (hK.n (by decide)) dX0_hear_17 rfl ?_
  refine g_nmM (fun iv2 eiv2 => ?_)
  have h := h iv2 eiv2
  refine g_aload_n (q := 21) 0 X dX0_hear_20 rfl rfl rfl ?_
  refine g_aload (q := 23) 4 X dX0_hear_21 rfl rfl ?_
  refine g_iload_n (q := 24) 1 X dX0_hear_23 rfl rfl rfl ?_
  refine g_iconst (q := 25) 3 X dX0_hear_24 rfl rfl ic_3 ?_
  refine g_cv (q := 28) [aI a1, aI 3] 5 X (ce_X5_ofCart hK hK.2.2.2.2.2.1.2.2.2.2.2 h) kV_X0_32 rfl (by decide) (shR_0 hK.2.2.2.2.2.1.2.2.2.2.2) (isR_n0 hK hK.2.2.2.2.2.1.2.2.2.2.2) rfl rfl (Nat.le_of_ble_eq_true rfl) (by decide) dX0_hear_25 rfl (fun r n_ iv_ rv_ hf => ?_)
  obtain ⟨en_, ei_, er_, r3, rfl, h⟩ := hf; subst n_; subst iv_; subst rv_
  refine g_putI (q := 31) 0 4 X (Or.inl rfl) rfl kf_X0_42 (by decide) (by decide) rfl (hK.n (by decide)) dX0_hear_28 rfl ?_
  refine g_nmM (fun iv4 eiv4 => ?_)
  have h := h iv4 eiv4
  refine g_aload (q := 33) 4 X dX0_hear_31 rfl rfl ?_
  refine g_iload_n (q := 34) 1 X dX0_hear_33 rfl rfl rfl ?_
  refine g_iconst (q := 35) 2 X dX0_hear_34 rfl rfl ic_2 ?_
  refine g_cv (q := 38) [aI a1, aI 2] 5 X (ce_X5_ofCart hK hK.2.2.2.2.2.1.2.2.2.2.2 h) kV_X0_32 rfl (by decide) (shR_0 hK.2.2.2.2.2.1.2.2.2.2.2) (isR_n0 hK hK.2.2.2.2.2.1.2.2.2.2.2) rfl rfl (Nat.le_of_ble_eq_true rfl) (by decide) dX0_hear_35 rfl (fun r n_ iv_ rv_ hf => ?_)
  obtain ⟨en_, ei_, er_, r5, rfl, h⟩ := hf; subst n_; subst iv_; subst rv_
  refine g_istore (q := 40) (k0 := 0) 5 (L' := [aR (some 58), aI a1, aI a2, aI a3, aR (some (gR rv 51 6)), aI r5, aJ, aJ, aJ, aJ]) X dX0_hear_38 rfl (by decide) rfl rfl ?_
  refine g_aload_n (q := 41) 0 X dX0_hear_40 rfl rfl rfl ?_
  refine g_getR (q := 44) (r := some 59) 0 0 X (lk_58_0 hK) (lt2000 (c := 0) (by decide)) kf_X0_12 (by decide) (by decide) rfl rfl (hK.n (by decide)) dX0_hear_41 rfl ?_
  refine g_aload_n (q := 45) 0 X dX0_hear_44 rfl rfl rfl ?_
  refine g_getR (q := 48) (r := some 51) 0 2 X (lk_58_2 hK) (lt2000 (c := 0) (by decide)) kf_X0_22 (by decide) (by decide) rfl rfl (hK.n (by decide)) dX0_hear_45 rfl ?_
  refine g_iload_n (q := 49) 2 X dX0_hear_48 rfl rfl rfl ?_
  refine g_cv (q := 52) [aR (some 51), aI a2] 3 X (ce_X3_from hK  h) kV_X0_45 rfl (by decide) rfl (hK.n (by decide)) rfl rfl (Nat.le_of_ble_eq_true rfl) (by decide) dX0_hear_49 rfl (fun r n_ iv_ rv_ hf => ?_)
  obtain ⟨en_, er_, rfl, h⟩ := hf; subst n_; subst rv_
  generalize iv_ = iv6 at h ⊢
  refine g_iconst (q := 53) 0 X dX0_hear_52 rfl rfl ic_0 ?_
  refine g_istore (q := 55) (k0 := 0) 6 (L' := [aR (some 58), aI a1, aI a2, aI a3, aR (some (gR rv 51 6)), aI r5, aI 0, aJ, aJ, aJ]) X dX0_hear_53 rfl (by decide) rfl rfl ?_
  refine g_sub (L' := [aR (some 58), aJ, aJ, aI a3, aR (some (gR rv 51 6)), aI r5, aI 0, aJ, aJ, aJ]) ⟨Or.inr rfl, Or.inl rfl, Or.inl rfl, Or.inr rfl, Or.inr rfl, Or.inr rfl, Or.inr rfl, Or.inl rfl, Or.inl rfl, Or.inl rfl, trivial⟩ ?_
  exact cl_X0_hear_55 X hR hK   h
def bd_X0_winner_169 (P22 : Int → Int → Int → Prop) (l1 l2 l3 : Int) (iv : IV) (rv : RV) (K : Int → Prop) : Prop :=
  P22 l1 l2 (w32 (l3 + 1))
set_option maxRecDepth 10000 in
theorem cb_X0_winner_169 {Γ : GX} {n : Nat} {iv : IV} {rv : RV} {K : Int → Prop} {P22 : Int → Int → Int → Prop} {l1 l2 l3 : Int} (X : Cx Γ RX0 cX0_winner 8 0) (hR : Rt Γ (some .int) 0 0 (fI0 n iv rv K)) (hK : Lk n rv)  (hP22 : ∀ (l1' l2' l3' : Int), P22 l1' l2' l3' → G Γ 8 22 [aR (some 58), aI (l1'), aI (l2'), aI (l3'), aJ, aJ, aJ, aJ] [] n iv rv 0 0) (h : bd_X0_winner_169 P22 l1 l2 l3 iv rv K) : G Γ 8 169 [aR (some 58), aI l1, aI l2, aI l3, aJ, aJ, aJ, aJ] [] n iv rv 0 0 := by
  unfold bd_X0_winner_169 at h
  refine g_iinc (q := 172) 3 (L' := [aR (some 58), aI l1, aI l2, aI (w32 (l3 + 1)), aJ, aJ, aJ, aJ]) X dX0_winner_169 rfl (by decide) rfl rfl rfl ?_
  refine g_goto (q := 22) X dX0_winner_172 (by decide) ?_
  exact hP22 _ _ _ h
def bd_X0_winner_161 (P22 : Int → Int → Int → Prop) (l1 l2 l3 l4 l7 : Int) (iv : IV) (rv : RV) (K : Int → Prop) : Prop :=
  ((l7 = 0) → (bd_X0_winner_169 P22 l1 l2 l3 iv rv K)) ∧ ((¬ (l7 = 0)) → (K l4))
set_option maxRecDepth 10000 in
theorem cb_X0_winner_161 {Γ : GX} {n : Nat} {iv : IV} {rv : RV} {K : Int → Prop} {P22 : Int → Int → Int → Prop} {l1 l2 l3 l4 l7 : Int} (X : Cx Γ RX0 cX0_winner 8 0) (hR : Rt Γ (some .int) 0 0 (fI0 n iv rv K)) (hK : Lk n rv)  (hP22 : ∀ (l1' l2' l3' : Int), P22 l1' l2' l3' → G Γ 8 22 [aR (some 58), aI (l1'), aI (l2'), aI (l3'), aJ, aJ, aJ, aJ] [] n iv rv 0 0) (h : bd_X0_winner_161 P22 l1 l2 l3 l4 l7 iv rv K) : G Γ 8 161 [aR (some 58), aI l1, aI l2, aI l3, aI l4, aJ, aJ, aI l7] [] n iv rv 0 0 := by
  unfold bd_X0_winner_161 at h
  refine g_iload (q := 163) 7 X dX0_winner_161 rfl rfl ?_
  refine g_if_eq (q := 166) 169 X dX0_winner_163 (by decide) rfl (fun c1 => ?_) (fun c1 => ?_)
  · have h := h.1 c1
    refine g_sub (L' := [aR (some 58), aI l1, aI l2, aI l3, aJ, aJ, aJ, aJ]) ⟨Or.inr rfl, Or.inr rfl, Or.inr rfl, Or.inr rfl, Or.inl rfl, Or.inl rfl, Or.inl rfl, Or.inl rfl, trivial⟩ ?_
    exact cb_X0_winner_169 X hR hK  hP22 h
  · have h := h.2 c1
    refine g_iload (q := 168) 4 X dX0_winner_166 rfl rfl ?_
    exact g_iret (q := 0) X hR dX0_winner_168 rfl ⟨rfl, rfl, rfl, _, rfl, h⟩
def bd_X0_winner_159 (P22 : Int → Int → Int → Prop) (l1 l2 l3 l4 t0 : Int) (iv : IV) (rv : RV) (K : Int → Prop) : Prop :=
  bd_X0_winner_161 P22 l1 l2 l3 l4 t0 iv rv K
set_option maxRecDepth 10000 in
theorem cb_X0_winner_159 {Γ : GX} {n : Nat} {iv : IV} {rv : RV} {K : Int → Prop} {P22 : Int → Int → Int → Prop} {l1 l2 l3 l4 t0 : Int} (X : Cx Γ RX0 cX0_winner 8 0) (hR : Rt Γ (some .int) 0 0 (fI0 n iv rv K)) (hK : Lk n rv)  (hP22 : ∀ (l1' l2' l3' : Int), P22 l1' l2' l3' → G Γ 8 22 [aR (some 58), aI (l1'), aI (l2'), aI (l3'), aJ, aJ, aJ, aJ] [] n iv rv 0 0) (h : bd_X0_winner_159 P22 l1 l2 l3 l4 t0 iv rv K) : G Γ 8 159 [aR (some 58), aI l1, aI l2, aI l3, aI l4, aJ, aJ, aJ] [aI t0] n iv rv 0 0 := by
  unfold bd_X0_winner_159 at h
  refine g_istore (q := 161) (k0 := 0) 7 (L' := [aR (some 58), aI l1, aI l2, aI l3, aI l4, aJ, aJ, aI t0]) X dX0_winner_159 rfl (by decide) rfl rfl ?_
  exact cb_X0_winner_161 X hR hK  hP22 h
def bd_X0_winner_108 (P22 : Int → Int → Int → Prop) (l1 l2 l3 l4 l5 : Int) (iv : IV) (rv : RV) (K : Int → Prop) : Prop :=
  (((iv 51 7) = 0) → ((0 ≤ l1 ∧ l1 < 16) ∧ (((iv 55 l1.toNat) < l5) → (bd_X0_winner_159 P22 l1 l2 l3 l4 0 iv rv K)) ∧ ((¬ ((iv 55 l1.toNat) < l5)) → (bd_X0_winner_159 P22 l1 l2 l3 l4 1 iv rv K)))) ∧ ((¬ ((iv 51 7) = 0)) → ((0 ≤ l1 ∧ l1 < 16) ∧ ((l5 < (iv 55 l1.toNat)) → (bd_X0_winner_159 P22 l1 l2 l3 l4 0 iv rv K)) ∧ ((¬ (l5 < (iv 55 l1.toNat))) → (bd_X0_winner_159 P22 l1 l2 l3 l4 1 iv rv K))))
set_option maxRecDepth 10000 in
theorem cb_X0_winner_108 {Γ : GX} {n : Nat} {iv : IV} {rv : RV} {K : Int → Prop} {P22 : Int → Int → Int → Prop} {l1 l2 l3 l4 l5 : Int} (X : Cx Γ RX0 cX0_winner 8 0) (hR : Rt Γ (some .int) 0 0 (fI0 n iv rv K)) (hK : Lk n rv)  (hP22 : ∀ (l1' l2' l3' : Int), P22 l1' l2' l3' → G Γ 8 22 [aR (some 58), aI (l1'), aI (l2'), aI (l3'), aJ, aJ, aJ, aJ] [] n iv rv 0 0) (h : bd_X0_winner_108 P22 l1 l2 l3 l4 l5 iv rv K) : G Γ 8 108 [aR (some 58), aI l1, aI l2, aI l3, aI l4, aI l5, aJ, aJ] [] n iv rv 0 0 := by
  unfold bd_X0_winner_108 at h
  refine g_aload_n (q := 109) 0 X dX0_winner_108 rfl rfl rfl ?_
  refine g_getR (q := 112) (r := some 51) 0 2 X (lk_58_2 hK) (lt2000 (c := 0) (by decide)) kf_X0_22 (by decide) (by decide) rfl rfl (hK.n (by decide)) dX0_winner_109 rfl ?_
  refine g_getI (q := 115) 6 7 X kf_X0_96 (by decide) (by decide) rfl rfl (hK.n (by decide)) dX0_winner_112 rfl ?_
  refine g_if_eq (q := 118) 140 X dX0_winner_115 (by decide) rfl (fun c1 => ?_) (fun c1 => ?_)
  · have h := h.1 c1
    refine g_iload (q := 142) 5 X dX0_winner_140 rfl rfl ?_
    refine g_aload_n (q := 143) 0 X dX0_winner_142 rfl rfl rfl ?_
    refine g_getR (q := 146) (r := some 51) 0 2 X (lk_58_2 hK) (lt2000 (c := 0) (by decide)) kf_X0_22 (by decide) (by decide) rfl rfl (hK.n (by decide)) dX0_winner_143 rfl ?_
    refine g_getR (q := 149) (r := some 55) 6 3 X (lk_51_3 hK) (lt2000 (c := 0) (by decide)) kf_X0_81 (by decide) (by decide) rfl rfl (hK.n (by decide)) dX0_winner_146 rfl ?_
    refine g_iload_n (q := 150) 1 X dX0_winner_149 rfl rfl rfl ?_
    obtain ⟨s2, h⟩ := h
    refine g_iald (q := 151) X rfl (hK.n (by decide)) s2 dX0_winner_150 rfl ?_
    refine g_icmp_gt (q := 154) 158 X dX0_winner_151 (by decide) rfl (fun c3 => ?_) (fun c3 => ?_)
    · have h := h.1 c3
      refine g_iconst (q := 159) 0 X dX0_winner_158 rfl rfl ic_0 ?_
      refine g_sub (L' := [aR (some 58), aI l1, aI l2, aI l3, aI l4, aJ, aJ, aJ]) ⟨Or.inr rfl, Or.inr rfl, Or.inr rfl, Or.inr rfl, Or.inr rfl, Or.inl rfl, Or.inl rfl, Or.inl rfl, trivial⟩ ?_
      exact cb_X0_winner_159 X hR hK  hP22 h
    · have h := h.2 c3
      refine g_iconst (q := 155) 1 X dX0_winner_154 rfl rfl ic_1 ?_
      refine g_goto (q := 159) X dX0_winner_155 (by decide) ?_
      refine g_sub (L' := [aR (some 58), aI l1, aI l2, aI l3, aI l4, aJ, aJ, aJ]) ⟨Or.inr rfl, Or.inr rfl, Or.inr rfl, Or.inr rfl, Or.inr rfl, Or.inl rfl, Or.inl rfl, Or.inl rfl, trivial⟩ ?_
      exact cb_X0_winner_159 X hR hK  hP22 h
  · have h := h.2 c1
    refine g_iload (q := 120) 5 X dX0_winner_118 rfl rfl ?_
    refine g_aload_n (q := 121) 0 X dX0_winner_120 rfl rfl rfl ?_
    refine g_getR (q := 124) (r := some 51) 0 2 X (lk_58_2 hK) (lt2000 (c := 0) (by decide)) kf_X0_22 (by decide) (by decide) rfl rfl (hK.n (by decide)) dX0_winner_121 rfl ?_
    refine g_getR (q := 127) (r := some 55) 6 3 X (lk_51_3 hK) (lt2000 (c := 0) (by decide)) kf_X0_81 (by decide) (by decide) rfl rfl (hK.n (by decide)) dX0_winner_124 rfl ?_
    refine g_iload_n (q := 128) 1 X dX0_winner_127 rfl rfl rfl ?_
    obtain ⟨s4, h⟩ := h
    refine g_iald (q := 129) X rfl (hK.n (by decide)) s4 dX0_winner_128 rfl ?_
    refine g_icmp_lt (q := 132) 136 X dX0_winner_129 (by decide) rfl (fun c5 => ?_) (fun c5 => ?_)
    · have h := h.1 c5
      refine g_iconst (q := 137) 0 X dX0_winner_136 rfl rfl ic_0 ?_
      refine g_goto (q := 159) X dX0_winner_137 (by decide) ?_
      refine g_sub (L' := [aR (some 58), aI l1, aI l2, aI l3, aI l4, aJ, aJ, aJ]) ⟨Or.inr rfl, Or.inr rfl, Or.inr rfl, Or.inr rfl, Or.inr rfl, Or.inl rfl, Or.inl rfl, Or.inl rfl, trivial⟩ ?_
      exact cb_X0_winner_159 X hR hK  hP22 h
    · have h := h.2 c5
      refine g_iconst (q := 133) 1 X dX0_winner_132 rfl rfl ic_1 ?_
      refine g_goto (q := 159) X dX0_winner_133 (by decide) ?_
      refine g_sub (L' := [aR (some 58), aI l1, aI l2, aI l3, aI l4, aJ, aJ, aJ]) ⟨Or.inr rfl, Or.inr rfl, Or.inr rfl, Or.inr rfl, Or.inr rfl, Or.inl rfl, Or.inl rfl, Or.inl rfl, trivial⟩ ?_
      exact cb_X0_winner_159 X hR hK  hP22 h
def bd_X0_winner_83 (P22 : Int → Int → Int → Prop) (l1 l2 l3 l4 l5 t0 : Int) (iv : IV) (rv : RV) (K : Int → Prop) : Prop :=
  (((iv 51 9) = 0) → (bd_X0_winner_108 P22 l1 l2 l3 l4 l5 iv rv K)) ∧ ((¬ ((iv 51 9) = 0)) → (((t0 = l2) → (bd_X0_winner_108 P22 l1 l2 l3 l4 l5 iv rv K)) ∧ ((¬ (t0 = l2)) → (bd_X0_winner_161 P22 l1 l2 l3 l4 t0 iv rv K))))
set_option maxRecDepth 10000 in
theorem cb_X0_winner_83 {Γ : GX} {n : Nat} {iv : IV} {rv : RV} {K : Int → Prop} {P22 : Int → Int → Int → Prop} {l1 l2 l3 l4 l5 t0 : Int} (X : Cx Γ RX0 cX0_winner 8 0) (hR : Rt Γ (some .int) 0 0 (fI0 n iv rv K)) (hK : Lk n rv)  (hP22 : ∀ (l1' l2' l3' : Int), P22 l1' l2' l3' → G Γ 8 22 [aR (some 58), aI (l1'), aI (l2'), aI (l3'), aJ, aJ, aJ, aJ] [] n iv rv 0 0) (h : bd_X0_winner_83 P22 l1 l2 l3 l4 l5 t0 iv rv K) : G Γ 8 83 [aR (some 58), aI l1, aI l2, aI l3, aI l4, aI l5, aJ, aJ] [aI t0] n iv rv 0 0 := by
  unfold bd_X0_winner_83 at h
  refine g_istore (q := 85) (k0 := 0) 6 (L' := [aR (some 58), aI l1, aI l2, aI l3, aI l4, aI l5, aI t0, aJ]) X dX0_winner_83 rfl (by decide) rfl rfl ?_
  refine g_aload_n (q := 86) 0 X dX0_winner_85 rfl rfl rfl ?_
  refine g_getR (q := 89) (r := some 51) 0 2 X (lk_58_2 hK) (lt2000 (c := 0) (by decide)) kf_X0_22 (by decide) (by decide) rfl rfl (hK.n (by decide)) dX0_winner_86 rfl ?_
  refine g_getI (q := 92) 6 9 X kf_X0_93 (by decide) (by decide) rfl rfl (hK.n (by decide)) dX0_winner_89 rfl ?_
  refine g_if_eq (q := 95) 108 X dX0_winner_92 (by decide) rfl (fun c1 => ?_) (fun c1 => ?_)
  · have h := h.1 c1
    refine g_sub (L' := [aR (some 58), aI l1, aI l2, aI l3, aI l4, aI l5, aJ, aJ]) ⟨Or.inr rfl, Or.inr rfl, Or.inr rfl, Or.inr rfl, Or.inr rfl, Or.inr rfl, Or.inl rfl, Or.inl rfl, trivial⟩ ?_
    exact cb_X0_winner_108 X hR hK  hP22 h
  · have h := h.2 c1
    refine g_iload (q := 97) 6 X dX0_winner_95 rfl rfl ?_
    refine g_iload_n (q := 98) 2 X dX0_winner_97 rfl rfl rfl ?_
    refine g_icmp_eq (q := 101) 108 X dX0_winner_98 (by decide) rfl (fun c2 => ?_) (fun c2 => ?_)
    · have h := h.1 c2
      refine g_sub (L' := [aR (some 58), aI l1, aI l2, aI l3, aI l4, aI l5, aJ, aJ]) ⟨Or.inr rfl, Or.inr rfl, Or.inr rfl, Or.inr rfl, Or.inr rfl, Or.inr rfl, Or.inl rfl, Or.inl rfl, trivial⟩ ?_
      exact cb_X0_winner_108 X hR hK  hP22 h
    · have h := h.2 c2
      refine g_iload (q := 103) 6 X dX0_winner_101 rfl rfl ?_
      refine g_istore (q := 105) (k0 := 0) 7 (L' := [aR (some 58), aI l1, aI l2, aI l3, aI l4, aI l5, aI t0, aI t0]) X dX0_winner_103 rfl (by decide) rfl rfl ?_
      refine g_goto (q := 161) X dX0_winner_105 (by decide) ?_
      refine g_sub (L' := [aR (some 58), aI l1, aI l2, aI l3, aI l4, aJ, aJ, aI t0]) ⟨Or.inr rfl, Or.inr rfl, Or.inr rfl, Or.inr rfl, Or.inr rfl, Or.inl rfl, Or.inl rfl, Or.inr rfl, trivial⟩ ?_
      exact cb_X0_winner_161 X hR hK  hP22 h
def bd_X0_winner_22 (P22 : Int → Int → Int → Prop) (l1 l2 l3 : Int) (iv : IV) (rv : RV) (K : Int → Prop) : Prop :=
  (((iv (gR rv 51 6 + 1) 6) ≤ l3) → (K (-2))) ∧ ((¬ ((iv (gR rv 51 6 + 1) 6) ≤ l3)) → (∀ x2, x2 = w32 (6 + l3) → (0 ≤ x2 ∧ x2 < 16) ∧ ∀ x4, x4 = iv 62 x2.toNat → ((x4 ≠ (-1)) → ((0 ≤ x2 ∧ x2 < 16) ∧ (((iv 56 x2.toNat) = (-2)) → (bd_X0_winner_83 P22 l1 l2 l3 x2 x4 0 iv rv K)) ∧ ((¬ ((iv 56 x2.toNat) = (-2))) → (bd_X0_winner_83 P22 l1 l2 l3 x2 x4 1 iv rv K)))) ∧ ((x4 = (-1)) → (bd_X0_winner_169 P22 l1 l2 l3 iv rv K))))
set_option maxRecDepth 10000 in
theorem cb_X0_winner_22 {Γ : GX} {n : Nat} {iv : IV} {rv : RV} {K : Int → Prop} {P22 : Int → Int → Int → Prop} {l1 l2 l3 : Int} (X : Cx Γ RX0 cX0_winner 8 0) (hR : Rt Γ (some .int) 0 0 (fI0 n iv rv K)) (hK : Lk n rv)  (hP22 : ∀ (l1' l2' l3' : Int), P22 l1' l2' l3' → G Γ 8 22 [aR (some 58), aI (l1'), aI (l2'), aI (l3'), aJ, aJ, aJ, aJ] [] n iv rv 0 0) (h : bd_X0_winner_22 P22 l1 l2 l3 iv rv K) : G Γ 8 22 [aR (some 58), aI l1, aI l2, aI l3, aJ, aJ, aJ, aJ] [] n iv rv 0 0 := by
  unfold bd_X0_winner_22 at h
  refine g_iload_n (q := 23) 3 X dX0_winner_22 rfl rfl rfl ?_
  refine g_aload_n (q := 24) 0 X dX0_winner_23 rfl rfl rfl ?_
  refine g_getR (q := 27) (r := some 51) 0 2 X (lk_58_2 hK) (lt2000 (c := 0) (by decide)) kf_X0_22 (by decide) (by decide) rfl rfl (hK.n (by decide)) dX0_winner_24 rfl ?_
  refine g_getR (q := 30) (r := some (gR rv 51 6)) 6 6 X hK.2.2.2.2.2.1.2.2.2.2.1 (lt2000 (c := 0) (isR_lt0 hK.2.2.2.2.2.1.2.2.2.2.2)) kf_X0_26 (by decide) (by decide) rfl rfl (hK.n (by decide)) dX0_winner_27 rfl ?_
  refine g_getR (q := 33) (r := some (gR rv 51 6 + 1)) 5 0 X (lkR_0 hK hK.2.2.2.2.2.1.2.2.2.2.2) (lt2000 (c := 0) (isR_lt hK.2.2.2.2.2.1.2.2.2.2.2 (by decide))) kf_X0_49 (by decide) (by decide) rfl (shR_0 hK.2.2.2.2.2.1.2.2.2.2.2) (isR_n0 hK hK.2.2.2.2.2.1.2.2.2.2.2) dX0_winner_30 rfl ?_
  refine g_bipush (q := 35) 6 X dX0_winner_33 rfl bc_6 ic_6 ?_
  refine g_iald (q := 36) X (shR_1 hK.2.2.2.2.2.1.2.2.2.2.2) (isR_n hK hK.2.2.2.2.2.1.2.2.2.2.2 (by decide)) (by decide) dX0_winner_35 rfl ?_
  refine g_icmp_ge (q := 39) 175 X dX0_winner_36 (by decide) rfl (fun c1 => ?_) (fun c1 => ?_)
  · have h := h.1 c1
    refine g_bipush (q := 177) (-2) X dX0_winner_175 rfl bc_m2 ic_m2 ?_
    exact g_iret (q := 0) X hR dX0_winner_177 rfl ⟨rfl, rfl, rfl, _, rfl, h⟩
  · have h := h.2 c1
    refine g_bipush (q := 41) 6 X dX0_winner_39 rfl bc_6 ic_6 ?_
    refine g_iload_n (q := 42) 3 X dX0_winner_41 rfl rfl rfl ?_
    refine g_iadd (q := 43) X dX0_winner_42 rfl ?_
    refine g_nmI (fun x2 ex2 => ?_)
    have h := h x2 ex2
    refine g_istore (q := 45) (k0 := 0) 4 (L' := [aR (some 58), aI l1, aI l2, aI l3, aI x2, aJ, aJ, aJ]) X dX0_winner_43 rfl (by decide) rfl rfl ?_
    refine g_aload_n (q := 46) 0 X dX0_winner_45 rfl rfl rfl ?_
    refine g_getR (q := 49) (r := some 62) 0 1 X (lk_58_1 hK) (lt2000 (c := 0) (by decide)) kf_X0_18 (by decide) (by decide) rfl rfl (hK.n (by decide)) dX0_winner_46 rfl ?_
    refine g_iload (q := 51) 4 X dX0_winner_49 rfl rfl ?_
    obtain ⟨s3, h⟩ := h
    refine g_iald (q := 52) X rfl (hK.n (by decide)) s3 dX0_winner_51 rfl ?_
    refine g_nmI (fun x4 ex4 => ?_)
    have h := h x4 ex4
    refine g_istore (q := 54) (k0 := 0) 5 (L' := [aR (some 58), aI l1, aI l2, aI l3, aI x2, aI x4, aJ, aJ]) X dX0_winner_52 rfl (by decide) rfl rfl ?_
    refine g_iload (q := 56) 5 X dX0_winner_54 rfl rfl ?_
    refine g_iconst (q := 57) (-1) X dX0_winner_56 rfl rfl ic_m1 ?_
    refine g_icmp_ne (q := 60) 63 X dX0_winner_57 (by decide) rfl (fun c5 => ?_) (fun c5 => ?_)
    · have h := h.1 c5
      refine g_aload_n (q := 64) 0 X dX0_winner_63 rfl rfl rfl ?_
      refine g_getR (q := 67) (r := some 51) 0 2 X (lk_58_2 hK) (lt2000 (c := 0) (by decide)) kf_X0_22 (by decide) (by decide) rfl rfl (hK.n (by decide)) dX0_winner_64 rfl ?_
      refine g_getR (q := 70) (r := some 56) 6 4 X (lk_51_4 hK) (lt2000 (c := 0) (by decide)) kf_X0_76 (by decide) (by decide) rfl rfl (hK.n (by decide)) dX0_winner_67 rfl ?_
      refine g_iload (q := 72) 4 X dX0_winner_70 rfl rfl ?_
      obtain ⟨s6, h⟩ := h
      refine g_iald (q := 73) X rfl (hK.n (by decide)) s6 dX0_winner_72 rfl ?_
      refine g_bipush (q := 75) (-2) X dX0_winner_73 rfl bc_m2 ic_m2 ?_
      refine g_icmp_eq (q := 78) 82 X dX0_winner_75 (by decide) rfl (fun c7 => ?_) (fun c7 => ?_)
      · have h := h.1 c7
        refine g_iconst (q := 83) 0 X dX0_winner_82 rfl rfl ic_0 ?_
        exact cb_X0_winner_83 X hR hK  hP22 h
      · have h := h.2 c7
        refine g_iconst (q := 79) 1 X dX0_winner_78 rfl rfl ic_1 ?_
        refine g_goto (q := 83) X dX0_winner_79 (by decide) ?_
        exact cb_X0_winner_83 X hR hK  hP22 h
    · have h := h.2 c5
      refine g_goto (q := 169) X dX0_winner_60 (by decide) ?_
      refine g_sub (L' := [aR (some 58), aI l1, aI l2, aI l3, aJ, aJ, aJ, aJ]) ⟨Or.inr rfl, Or.inr rfl, Or.inr rfl, Or.inr rfl, Or.inl rfl, Or.inl rfl, Or.inl rfl, Or.inl rfl, trivial⟩ ?_
      exact cb_X0_winner_169 X hR hK  hP22 h
def wl_X0_winner_22 (l1 l2 l3 : Int) (iv : IV) (rv : RV) (K : Int → Prop) : Prop :=
  ∀ P : Int → Int → Int → Prop, (∀ (l1' l2' l3' : Int), bd_X0_winner_22  P l1' l2' l3' iv rv K → P l1' l2' l3') → P l1 l2 l3
theorem cl_X0_winner_22 {Γ : GX} {n : Nat} {iv : IV} {rv : RV} {K : Int → Prop} {l1 l2 l3 : Int} (X : Cx Γ RX0 cX0_winner 8 0) (hR : Rt Γ (some .int) 0 0 (fI0 n iv rv K)) (hK : Lk n rv)  (h : wl_X0_winner_22 l1 l2 l3 iv rv K) : G Γ 8 22 [aR (some 58), aI l1, aI l2, aI l3, aJ, aJ, aJ, aJ] [] n iv rv 0 0 := by
  exact h (fun l1' l2' l3' =>  G Γ 8 22 [aR (some 58), aI (l1'), aI (l2'), aI (l3'), aJ, aJ, aJ, aJ] [] n iv rv 0 0) (fun l1' l2' l3' hb => cb_X0_winner_22 X hR hK   (fun l1' l2' l3' hp => hp) hb)
def bd_X0_winner_19 (l1 t0 : Int) (iv : IV) (rv : RV) (K : Int → Prop) : Prop :=
  wl_X0_winner_22 l1 t0 0 iv rv K
set_option maxRecDepth 10000 in
theorem cb_X0_winner_19 {Γ : GX} {n : Nat} {iv : IV} {rv : RV} {K : Int → Prop} {l1 t0 : Int} (X : Cx Γ RX0 cX0_winner 8 0) (hR : Rt Γ (some .int) 0 0 (fI0 n iv rv K)) (hK : Lk n rv)  (h : bd_X0_winner_19 l1 t0 iv rv K) : G Γ 8 19 [aR (some 58), aI l1, aJ, aJ, aJ, aJ, aJ, aJ] [aI t0] n iv rv 0 0 := by
  unfold bd_X0_winner_19 at h
  refine g_istore_n (q := 20) 2 (L' := [aR (some 58), aI l1, aI t0, aJ, aJ, aJ, aJ, aJ]) X dX0_winner_19 rfl rfl (by decide) rfl rfl ?_
  refine g_iconst (q := 21) 0 X dX0_winner_20 rfl rfl ic_0 ?_
  refine g_istore_n (q := 22) 3 (L' := [aR (some 58), aI l1, aI t0, aI 0, aJ, aJ, aJ, aJ]) X dX0_winner_21 rfl rfl (by decide) rfl rfl ?_
  exact cl_X0_winner_22 X hR hK   h
def wp_X0_winner (a1 : Int) (iv : IV) (rv : RV) (K : Int → Prop) : Prop :=
  (0 ≤ a1 ∧ a1 < 16) ∧ (((iv 56 a1.toNat) = (-2)) → (bd_X0_winner_19 a1 0 iv rv K)) ∧ ((¬ ((iv 56 a1.toNat) = (-2))) → (bd_X0_winner_19 a1 1 iv rv K))
set_option maxRecDepth 10000 in
theorem ce_X0_winner {n : Nat} {iv : IV} {rv : RV} {K : Int → Prop} {a1 : Int} (hK : Lk n rv)  (h : wp_X0_winner a1 iv rv K) : Call 0 0 0 yX0_winner cX0_winner 8 (some .int) [aR (some 58), aI a1] n iv rv (fI0 n iv rv K) := by
  refine Call.by (L := [aR (some 58), aI a1, aJ, aJ, aJ, aJ, aJ, aJ]) (by decide) rfl ⟨trivial, trivial, trivial⟩ rfl (Nat.le_of_ble_eq_true rfl) (fun Γ X hR => ?_)
  unfold wp_X0_winner at h
  refine g_aload_n (q := 1) 0 X dX0_winner_0 rfl rfl rfl ?_
  refine g_getR (q := 4) (r := some 51) 0 2 X (lk_58_2 hK) (lt2000 (c := 0) (by decide)) kf_X0_22 (by decide) (by decide) rfl rfl (hK.n (by decide)) dX0_winner_1 rfl ?_
  refine g_getR (q := 7) (r := some 56) 6 4 X (lk_51_4 hK) (lt2000 (c := 0) (by decide)) kf_X0_76 (by decide) (by decide) rfl rfl (hK.n (by decide)) dX0_winner_4 rfl ?_
  refine g_iload_n (q := 8) 1 X dX0_winner_7 rfl rfl rfl ?_
  obtain ⟨s1, h⟩ := h
  refine g_iald (q := 9) X rfl (hK.n (by decide)) s1 dX0_winner_8 rfl ?_
  refine g_bipush (q := 11) (-2) X dX0_winner_9 rfl bc_m2 ic_m2 ?_
  refine g_icmp_eq (q := 14) 18 X dX0_winner_11 (by decide) rfl (fun c2 => ?_) (fun c2 => ?_)
  · have h := h.1 c2
    refine g_iconst (q := 19) 0 X dX0_winner_18 rfl rfl ic_0 ?_
    exact cb_X0_winner_19 X hR hK   h
  · have h := h.2 c2
    refine g_iconst (q := 15) 1 X dX0_winner_14 rfl rfl ic_1 ?_
    refine g_goto (q := 19) X dX0_winner_15 (by decide) ?_
    exact cb_X0_winner_19 X hR hK   h
def bd_X0_owedAt_83 (P4 : Int → Int → Int → Prop) (l1 l2 l3 : Int) (iv : IV) (rv : RV) (K : Int → Prop) : Prop :=
  P4 l1 l2 (w32 (l3 + 1))
set_option maxRecDepth 10000 in
theorem cb_X0_owedAt_83 {Γ : GX} {n : Nat} {iv : IV} {rv : RV} {K : Int → Prop} {P4 : Int → Int → Int → Prop} {l1 l2 l3 : Int} (X : Cx Γ RX0 cX0_owedAt 4 1) (hR : Rt Γ (some .int) 0 0 (fI0 n iv rv K)) (hK : Lk n rv)  (hP4 : ∀ (l1' l2' l3' : Int), P4 l1' l2' l3' → G Γ 4 4 [aR (some 58), aI (l1'), aI (l2'), aI (l3')] [] n iv rv 0 0) (h : bd_X0_owedAt_83 P4 l1 l2 l3 iv rv K) : G Γ 4 83 [aR (some 58), aI l1, aI l2, aI l3] [] n iv rv 0 0 := by
  unfold bd_X0_owedAt_83 at h
  refine g_iinc (q := 86) 3 (L' := [aR (some 58), aI l1, aI l2, aI (w32 (l3 + 1))]) X dX0_owedAt_83 rfl (by decide) rfl rfl rfl ?_
  refine g_goto (q := 4) X dX0_owedAt_86 (by decide) ?_
  exact hP4 _ _ _ h
def bd_X0_owedAt_4 (P4 : Int → Int → Int → Prop) (l1 l2 l3 : Int) (iv : IV) (rv : RV) (K : Int → Prop) : Prop :=
  (((iv (gR rv 51 6 + 1) 5) ≤ l3) → (K l2)) ∧ ((¬ ((iv (gR rv 51 6 + 1) 5) ≤ l3)) → ((0 ≤ l3 ∧ l3 < 16) ∧ (((iv (gR rv 51 6 + 11) l3.toNat) ≠ l1) → (bd_X0_owedAt_83 P4 l1 l2 l3 iv rv K)) ∧ (((iv (gR rv 51 6 + 11) l3.toNat) = l1) → ((0 ≤ l3 ∧ l3 < 16) ∧ (((iv 54 l3.toNat) = 0) → (bd_X0_owedAt_83 P4 l1 l2 l3 iv rv K)) ∧ ((¬ ((iv 54 l3.toNat) = 0)) → (wp_X0_isOn l3 iv rv (fun r6 => ((r6 = 0) → (bd_X0_owedAt_83 P4 l1 l2 l3 iv rv K)) ∧ ((¬ (r6 = 0)) → (wp_X0_winner l3 iv rv (fun r8 => ((r8 ≠ (-2)) → (bd_X0_owedAt_83 P4 l1 l2 l3 iv rv K)) ∧ ((r8 = (-2)) → ((0 ≤ l3 ∧ l3 < 16) ∧ ∀ x11, x11 = w32 (l2 + (w32 ((iv 57 l3.toNat) * (iv 58 4)))) → bd_X0_owedAt_83 P4 l1 x11 l3 iv rv K))))))))))))
set_option maxRecDepth 10000 in
theorem cb_X0_owedAt_4 {Γ : GX} {n : Nat} {iv : IV} {rv : RV} {K : Int → Prop} {P4 : Int → Int → Int → Prop} {l1 l2 l3 : Int} (X : Cx Γ RX0 cX0_owedAt 4 1) (hR : Rt Γ (some .int) 0 0 (fI0 n iv rv K)) (hK : Lk n rv)  (hP4 : ∀ (l1' l2' l3' : Int), P4 l1' l2' l3' → G Γ 4 4 [aR (some 58), aI (l1'), aI (l2'), aI (l3')] [] n iv rv 0 0) (h : bd_X0_owedAt_4 P4 l1 l2 l3 iv rv K) : G Γ 4 4 [aR (some 58), aI l1, aI l2, aI l3] [] n iv rv 0 0 := by
  unfold bd_X0_owedAt_4 at h
  refine g_iload_n (q := 5) 3 X dX0_owedAt_4 rfl rfl rfl ?_
  refine g_aload_n (q := 6) 0 X dX0_owedAt_5 rfl rfl rfl ?_
  refine g_getR (q := 9) (r := some 51) 0 2 X (lk_58_2 hK) (lt2000 (c := 0) (by decide)) kf_X0_22 (by decide) (by decide) rfl rfl (hK.n (by decide)) dX0_owedAt_6 rfl ?_
  refine g_getR (q := 12) (r := some (gR rv 51 6)) 6 6 X hK.2.2.2.2.2.1.2.2.2.2.1 (lt2000 (c := 0) (isR_lt0 hK.2.2.2.2.2.1.2.2.2.2.2)) kf_X0_26 (by decide) (by decide) rfl rfl (hK.n (by decide)) dX0_owedAt_9 rfl ?_
  refine g_getR (q := 15) (r := some (gR rv 51 6 + 1)) 5 0 X (lkR_0 hK hK.2.2.2.2.2.1.2.2.2.2.2) (lt2000 (c := 0) (isR_lt hK.2.2.2.2.2.1.2.2.2.2.2 (by decide))) kf_X0_49 (by decide) (by decide) rfl (shR_0 hK.2.2.2.2.2.1.2.2.2.2.2) (isR_n0 hK hK.2.2.2.2.2.1.2.2.2.2.2) dX0_owedAt_12 rfl ?_
  refine g_iconst (q := 16) 5 X dX0_owedAt_15 rfl rfl ic_5 ?_
  refine g_iald (q := 17) X (shR_1 hK.2.2.2.2.2.1.2.2.2.2.2) (isR_n hK hK.2.2.2.2.2.1.2.2.2.2.2 (by decide)) (by decide) dX0_owedAt_16 rfl ?_
  refine g_icmp_ge (q := 20) 89 X dX0_owedAt_17 (by decide) rfl (fun c1 => ?_) (fun c1 => ?_)
  · have h := h.1 c1
    refine g_iload_n (q := 90) 2 X dX0_owedAt_89 rfl rfl rfl ?_
    exact g_iret (q := 0) X hR dX0_owedAt_90 rfl ⟨rfl, rfl, rfl, _, rfl, h⟩
  · have h := h.2 c1
    refine g_aload_n (q := 21) 0 X dX0_owedAt_20 rfl rfl rfl ?_
    refine g_getR (q := 24) (r := some 51) 0 2 X (lk_58_2 hK) (lt2000 (c := 0) (by decide)) kf_X0_22 (by decide) (by decide) rfl rfl (hK.n (by decide)) dX0_owedAt_21 rfl ?_
    refine g_getR (q := 27) (r := some (gR rv 51 6)) 6 6 X hK.2.2.2.2.2.1.2.2.2.2.1 (lt2000 (c := 0) (isR_lt0 hK.2.2.2.2.2.1.2.2.2.2.2)) kf_X0_26 (by decide) (by decide) rfl rfl (hK.n (by decide)) dX0_owedAt_24 rfl ?_
    refine g_getR (q := 30) (r := some (gR rv 51 6 + 11)) 5 10 X (lkR_10 hK hK.2.2.2.2.2.1.2.2.2.2.2) (lt2000 (c := 0) (isR_lt hK.2.2.2.2.2.1.2.2.2.2.2 (by decide))) kf_X0_66 (by decide) (by decide) rfl (shR_0 hK.2.2.2.2.2.1.2.2.2.2.2) (isR_n0 hK hK.2.2.2.2.2.1.2.2.2.2.2) dX0_owedAt_27 rfl ?_
    refine g_iload_n (q := 31) 3 X dX0_owedAt_30 rfl rfl rfl ?_
    obtain ⟨s2, h⟩ := h
    refine g_iald (q := 32) X (shR_11 hK.2.2.2.2.2.1.2.2.2.2.2) (isR_n hK hK.2.2.2.2.2.1.2.2.2.2.2 (by decide)) s2 dX0_owedAt_31 rfl ?_
    refine g_iload_n (q := 33) 1 X dX0_owedAt_32 rfl rfl rfl ?_
    refine g_icmp_ne (q := 36) 83 X dX0_owedAt_33 (by decide) rfl (fun c3 => ?_) (fun c3 => ?_)
    · have h := h.1 c3
      exact cb_X0_owedAt_83 X hR hK  hP4 h
    · have h := h.2 c3
      refine g_aload_n (q := 37) 0 X dX0_owedAt_36 rfl rfl rfl ?_
      refine g_getR (q := 40) (r := some 51) 0 2 X (lk_58_2 hK) (lt2000 (c := 0) (by decide)) kf_X0_22 (by decide) (by decide) rfl rfl (hK.n (by decide)) dX0_owedAt_37 rfl ?_
      refine g_getR (q := 43) (r := some 54) 6 2 X (lk_51_2 hK) (lt2000 (c := 0) (by decide)) kf_X0_52 (by decide) (by decide) rfl rfl (hK.n (by decide)) dX0_owedAt_40 rfl ?_
      refine g_iload_n (q := 44) 3 X dX0_owedAt_43 rfl rfl rfl ?_
      obtain ⟨s4, h⟩ := h
      refine g_zald (q := 45) X rfl (hK.n (by decide)) s4 dX0_owedAt_44 rfl ?_
      refine g_if_eq (q := 48) 83 X dX0_owedAt_45 (by decide) rfl (fun c5 => ?_) (fun c5 => ?_)
      · have h := h.1 c5
        exact cb_X0_owedAt_83 X hR hK  hP4 h
      · have h := h.2 c5
        refine g_aload_n (q := 49) 0 X dX0_owedAt_48 rfl rfl rfl ?_
        refine g_iload_n (q := 50) 3 X dX0_owedAt_49 rfl rfl rfl ?_
        refine g_cv (q := 53) [aI l3] 0 X (ce_X0_isOn hK  h) kV_X0_56 rfl (by decide) rfl (hK.n (by decide)) rfl rfl (Nat.le_of_ble_eq_true rfl) (by decide) dX0_owedAt_50 rfl (fun r n_ iv_ rv_ hf => ?_)
        obtain ⟨en_, ei_, er_, r6, rfl, br6, h⟩ := hf; subst n_; subst iv_; subst rv_
        refine g_if_eq (q := 56) 83 X dX0_owedAt_53 (by decide) rfl (fun c7 => ?_) (fun c7 => ?_)
        · have h := h.1 c7
          exact cb_X0_owedAt_83 X hR hK  hP4 h
        · have h := h.2 c7
          refine g_aload_n (q := 57) 0 X dX0_owedAt_56 rfl rfl rfl ?_
          refine g_iload_n (q := 58) 3 X dX0_owedAt_57 rfl rfl rfl ?_
          refine g_cv (q := 61) [aI l3] 0 X (ce_X0_winner hK  h) kV_X0_99 rfl (by decide) rfl (hK.n (by decide)) rfl rfl (Nat.le_of_ble_eq_true rfl) (by decide) dX0_owedAt_58 rfl (fun r n_ iv_ rv_ hf => ?_)
          obtain ⟨en_, ei_, er_, r8, rfl, h⟩ := hf; subst n_; subst iv_; subst rv_
          refine g_bipush (q := 63) (-2) X dX0_owedAt_61 rfl bc_m2 ic_m2 ?_
          refine g_icmp_ne (q := 66) 83 X dX0_owedAt_63 (by decide) rfl (fun c9 => ?_) (fun c9 => ?_)
          · have h := h.1 c9
            exact cb_X0_owedAt_83 X hR hK  hP4 h
          · have h := h.2 c9
            refine g_iload_n (q := 67) 2 X dX0_owedAt_66 rfl rfl rfl ?_
            refine g_aload_n (q := 68) 0 X dX0_owedAt_67 rfl rfl rfl ?_
            refine g_getR (q := 71) (r := some 51) 0 2 X (lk_58_2 hK) (lt2000 (c := 0) (by decide)) kf_X0_22 (by decide) (by decide) rfl rfl (hK.n (by decide)) dX0_owedAt_68 rfl ?_
            refine g_getR (q := 74) (r := some 57) 6 5 X (lk_51_5 hK) (lt2000 (c := 0) (by decide)) kf_X0_60 (by decide) (by decide) rfl rfl (hK.n (by decide)) dX0_owedAt_71 rfl ?_
            refine g_iload_n (q := 75) 3 X dX0_owedAt_74 rfl rfl rfl ?_
            obtain ⟨s10, h⟩ := h
            refine g_iald (q := 76) X rfl (hK.n (by decide)) s10 dX0_owedAt_75 rfl ?_
            refine g_aload_n (q := 77) 0 X dX0_owedAt_76 rfl rfl rfl ?_
            refine g_getI (q := 80) 0 4 X kf_X0_42 (by decide) (by decide) rfl rfl (hK.n (by decide)) dX0_owedAt_77 rfl ?_
            refine g_imul (q := 81) X dX0_owedAt_80 rfl ?_
            refine g_iadd (q := 82) X dX0_owedAt_81 rfl ?_
            refine g_nmI (fun x11 ex11 => ?_)
            have h := h x11 ex11
            refine g_istore_n (q := 83) 2 (L' := [aR (some 58), aI l1, aI x11, aI l3]) X dX0_owedAt_82 rfl rfl (by decide) rfl rfl ?_
            exact cb_X0_owedAt_83 X hR hK  hP4 h
def wl_X0_owedAt_4 (l1 l2 l3 : Int) (iv : IV) (rv : RV) (K : Int → Prop) : Prop :=
  ∀ P : Int → Int → Int → Prop, (∀ (l1' l2' l3' : Int), bd_X0_owedAt_4  P l1' l2' l3' iv rv K → P l1' l2' l3') → P l1 l2 l3
theorem cl_X0_owedAt_4 {Γ : GX} {n : Nat} {iv : IV} {rv : RV} {K : Int → Prop} {l1 l2 l3 : Int} (X : Cx Γ RX0 cX0_owedAt 4 1) (hR : Rt Γ (some .int) 0 0 (fI0 n iv rv K)) (hK : Lk n rv)  (h : wl_X0_owedAt_4 l1 l2 l3 iv rv K) : G Γ 4 4 [aR (some 58), aI l1, aI l2, aI l3] [] n iv rv 0 0 := by
  exact h (fun l1' l2' l3' =>  G Γ 4 4 [aR (some 58), aI (l1'), aI (l2'), aI (l3')] [] n iv rv 0 0) (fun l1' l2' l3' hb => cb_X0_owedAt_4 X hR hK   (fun l1' l2' l3' hp => hp) hb)
def wp_X0_owedAt (a1 : Int) (iv : IV) (rv : RV) (K : Int → Prop) : Prop :=
  wl_X0_owedAt_4 a1 0 0 iv rv K
set_option maxRecDepth 10000 in
theorem ce_X0_owedAt {n : Nat} {iv : IV} {rv : RV} {K : Int → Prop} {a1 : Int} (hK : Lk n rv)  (h : wp_X0_owedAt a1 iv rv K) : Call 1 0 0 yX0_owedAt cX0_owedAt 4 (some .int) [aR (some 58), aI a1] n iv rv (fI0 n iv rv K) := by
  refine Call.by (L := [aR (some 58), aI a1, aJ, aJ]) (by decide) rfl ⟨trivial, trivial, trivial⟩ rfl (Nat.le_of_ble_eq_true rfl) (fun Γ X hR => ?_)
  unfold wp_X0_owedAt at h
  refine g_iconst (q := 1) 0 X dX0_owedAt_0 rfl rfl ic_0 ?_
  refine g_istore_n (q := 2) 2 (L' := [aR (some 58), aI a1, aI 0, aJ]) X dX0_owedAt_1 rfl rfl (by decide) rfl rfl ?_
  refine g_iconst (q := 3) 0 X dX0_owedAt_2 rfl rfl ic_0 ?_
  refine g_istore_n (q := 4) 3 (L' := [aR (some 58), aI a1, aI 0, aI 0]) X dX0_owedAt_3 rfl rfl (by decide) rfl rfl ?_
  exact cl_X0_owedAt_4 X hR hK   h
