def wp_X5_ofCart (b : Nat) (a1 : Int) (a2 : Int) (iv : IV) (rv : RV) (K : Int → Prop) : Prop :=
  (0 ≤ w32 ((w32 (a1 * 7)) + a2) ∧ w32 ((w32 (a1 * 7)) + a2) < 42) ∧ K (iv (b + 18) (w32 ((w32 (a1 * 7)) + a2)).toNat)
set_option maxRecDepth 10000 in
theorem ce_X5_ofCart {n : Nat} {iv : IV} {rv : RV} {K : Int → Prop} {b : Nat} {a1 : Int} {a2 : Int} (hK : Lk n rv) (hb_b : isR b) (h : wp_X5_ofCart b a1 a2 iv rv K) : Call 0 0 0 yX5_ofCart cX5_ofCart 3 (some .int) [aR (some b), aI a1, aI a2] n iv rv (fI0 n iv rv K) := by
  refine Call.by (L := [aR (some b), aI a1, aI a2]) (by decide) rfl ⟨trivial, trivial, trivial, trivial⟩ rfl (Nat.le_of_ble_eq_true rfl) (fun Γ X hR => ?_)
  unfold wp_X5_ofCart at h
  refine g_aload_n (q := 1) 0 X dX5_ofCart_0 rfl rfl rfl ?_
  refine g_getR (q := 4) (r := some (b + 18)) 5 17 X (lkR_17 hK hb_b) (lt2000 (c := 0) (isR_lt hb_b (by decide))) kf_X5_66 (by decide) (by decide) rfl (shR_0 hb_b) (isR_n0 hK hb_b) dX5_ofCart_1 rfl ?_
  refine g_iload_n (q := 5) 1 X dX5_ofCart_4 rfl rfl rfl ?_
  refine g_bipush (q := 7) 7 X dX5_ofCart_5 rfl bc_7 ic_7 ?_
  refine g_imul (q := 8) X dX5_ofCart_7 rfl ?_
  refine g_iload_n (q := 9) 2 X dX5_ofCart_8 rfl rfl rfl ?_
  refine g_iadd (q := 10) X dX5_ofCart_9 rfl ?_
  obtain ⟨s1, h⟩ := h
  refine g_iald (q := 11) X (shR_18 hb_b) (isR_n hK hb_b (by decide)) s1 dX5_ofCart_10 rfl ?_
  exact g_iret (q := 0) X hR dX5_ofCart_11 rfl ⟨rfl, rfl, rfl, _, rfl, h⟩
def wp_X5_has (b : Nat) (a1 : Int) (a2 : Int) (iv : IV) (rv : RV) (K : Int → Prop) : Prop :=
  ((a2 < 0) → (K 0)) ∧ ((¬ (a2 < 0)) → ((0 ≤ a1 ∧ a1 < 12) ∧ (((iv (b + 1) a1.toNat) ≤ a2) → (K 0)) ∧ ((¬ ((iv (b + 1) a1.toNat) ≤ a2)) → (K 1))))
set_option maxRecDepth 10000 in
theorem ce_X5_has {n : Nat} {iv : IV} {rv : RV} {K : Int → Prop} {b : Nat} {a1 : Int} {a2 : Int} (hK : Lk n rv) (hb_b : isR b) (h : wp_X5_has b a1 a2 iv rv K) : Call 0 0 0 yX5_has cX5_has 3 (some .boolean) [aR (some b), aI a1, aI a2] n iv rv (fB0 n iv rv K) := by
  refine Call.by (L := [aR (some b), aI a1, aI a2]) (by decide) rfl ⟨trivial, trivial, trivial, trivial⟩ rfl (Nat.le_of_ble_eq_true rfl) (fun Γ X hR => ?_)
  unfold wp_X5_has at h
  refine g_iload_n (q := 1) 2 X dX5_has_0 rfl rfl rfl ?_
  refine g_if_lt (q := 4) 18 X dX5_has_1 (by decide) rfl (fun c1 => ?_) (fun c1 => ?_)
  · have h := h.1 c1
    refine g_iconst (q := 19) 0 X dX5_has_18 rfl rfl ic_0 ?_
    exact g_zret (q := 0) .boolean X hR (nar_B (Or.inl rfl)) dX5_has_19 rfl ⟨rfl, rfl, rfl, _, rfl, (Or.inl rfl), h⟩
  · have h := h.2 c1
    refine g_iload_n (q := 5) 2 X dX5_has_4 rfl rfl rfl ?_
    refine g_aload_n (q := 6) 0 X dX5_has_5 rfl rfl rfl ?_
    refine g_getR (q := 9) (r := some (b + 1)) 5 0 X (lkR_0 hK hb_b) (lt2000 (c := 0) (isR_lt hb_b (by decide))) kf_X5_13 (by decide) (by decide) rfl (shR_0 hb_b) (isR_n0 hK hb_b) dX5_has_6 rfl ?_
    refine g_iload_n (q := 10) 1 X dX5_has_9 rfl rfl rfl ?_
    obtain ⟨s2, h⟩ := h
    refine g_iald (q := 11) X (shR_1 hb_b) (isR_n hK hb_b (by decide)) s2 dX5_has_10 rfl ?_
    refine g_icmp_ge (q := 14) 18 X dX5_has_11 (by decide) rfl (fun c3 => ?_) (fun c3 => ?_)
    · have h := h.1 c3
      refine g_iconst (q := 19) 0 X dX5_has_18 rfl rfl ic_0 ?_
      exact g_zret (q := 0) .boolean X hR (nar_B (Or.inl rfl)) dX5_has_19 rfl ⟨rfl, rfl, rfl, _, rfl, (Or.inl rfl), h⟩
    · have h := h.2 c3
      refine g_iconst (q := 15) 1 X dX5_has_14 rfl rfl ic_1 ?_
      refine g_goto (q := 19) X dX5_has_15 (by decide) ?_
      exact g_zret (q := 0) .boolean X hR (nar_B (Or.inr rfl)) dX5_has_19 rfl ⟨rfl, rfl, rfl, _, rfl, (Or.inr rfl), h⟩
def wp_X5_hasGrant (b : Nat) (a1 : Int) (iv : IV) (rv : RV) (K : Int → Prop) : Prop :=
  ((6 ≤ a1) → (((12 ≤ a1) → (wp_X5_has b 7 (w32 (a1 - 12)) iv rv (fun r3 => K r3))) ∧ ((¬ (12 ≤ a1)) → (wp_X5_has b 6 (w32 (a1 - 6)) iv rv (fun r4 => K r4))))) ∧ ((¬ (6 ≤ a1)) → (wp_X5_has b 5 a1 iv rv (fun r5 => K r5)))
set_option maxRecDepth 10000 in
theorem ce_X5_hasGrant {n : Nat} {iv : IV} {rv : RV} {K : Int → Prop} {b : Nat} {a1 : Int} (hK : Lk n rv) (hb_b : isR b) (h : wp_X5_hasGrant b a1 iv rv K) : Call 1 0 0 yX5_hasGrant cX5_hasGrant 2 (some .boolean) [aR (some b), aI a1] n iv rv (fB0 n iv rv K) := by
  refine Call.by (L := [aR (some b), aI a1]) (by decide) rfl ⟨trivial, trivial, trivial⟩ rfl (Nat.le_of_ble_eq_true rfl) (fun Γ X hR => ?_)
  unfold wp_X5_hasGrant at h
  refine g_iload_n (q := 1) 1 X dX5_hasGrant_0 rfl rfl rfl ?_
  refine g_bipush (q := 3) 6 X dX5_hasGrant_1 rfl bc_6 ic_6 ?_
  refine g_icmp_ge (q := 6) 13 X dX5_hasGrant_3 (by decide) rfl (fun c1 => ?_) (fun c1 => ?_)
  · have h := h.1 c1
    refine g_iload_n (q := 14) 1 X dX5_hasGrant_13 rfl rfl rfl ?_
    refine g_bipush (q := 16) 12 X dX5_hasGrant_14 rfl bc_12 ic_12 ?_
    refine g_icmp_ge (q := 19) 32 X dX5_hasGrant_16 (by decide) rfl (fun c2 => ?_) (fun c2 => ?_)
    · have h := h.1 c2
      refine g_aload_n (q := 33) 0 X dX5_hasGrant_32 rfl rfl rfl ?_
      refine g_bipush (q := 35) 7 X dX5_hasGrant_33 rfl bc_7 ic_7 ?_
      refine g_iload_n (q := 36) 1 X dX5_hasGrant_35 rfl rfl rfl ?_
      refine g_bipush (q := 38) 12 X dX5_hasGrant_36 rfl bc_12 ic_12 ?_
      refine g_isub (q := 39) X dX5_hasGrant_38 rfl ?_
      refine g_cv (q := 42) [aI 7, aI (w32 (a1 - 12))] 5 X (ce_X5_has hK hb_b h) kV_X5_75 rfl (by decide) (shR_0 hb_b) (isR_n0 hK hb_b) rfl rfl (Nat.le_of_ble_eq_true rfl) (by decide) dX5_hasGrant_39 rfl (fun r n_ iv_ rv_ hf => ?_)
      obtain ⟨en_, ei_, er_, r3, rfl, br3, h⟩ := hf; subst n_; subst iv_; subst rv_
      exact g_zret (q := 0) .boolean X hR (nar_B br3) dX5_hasGrant_42 rfl ⟨rfl, rfl, rfl, _, rfl, br3, h⟩
    · have h := h.2 c2
      refine g_aload_n (q := 20) 0 X dX5_hasGrant_19 rfl rfl rfl ?_
      refine g_bipush (q := 22) 6 X dX5_hasGrant_20 rfl bc_6 ic_6 ?_
      refine g_iload_n (q := 23) 1 X dX5_hasGrant_22 rfl rfl rfl ?_
      refine g_bipush (q := 25) 6 X dX5_hasGrant_23 rfl bc_6 ic_6 ?_
      refine g_isub (q := 26) X dX5_hasGrant_25 rfl ?_
      refine g_cv (q := 29) [aI 6, aI (w32 (a1 - 6))] 5 X (ce_X5_has hK hb_b h) kV_X5_75 rfl (by decide) (shR_0 hb_b) (isR_n0 hK hb_b) rfl rfl (Nat.le_of_ble_eq_true rfl) (by decide) dX5_hasGrant_26 rfl (fun r n_ iv_ rv_ hf => ?_)
      obtain ⟨en_, ei_, er_, r4, rfl, br4, h⟩ := hf; subst n_; subst iv_; subst rv_
      refine g_goto (q := 42) X dX5_hasGrant_29 (by decide) ?_
      exact g_zret (q := 0) .boolean X hR (nar_B br4) dX5_hasGrant_42 rfl ⟨rfl, rfl, rfl, _, rfl, br4, h⟩
  · have h := h.2 c1
    refine g_aload_n (q := 7) 0 X dX5_hasGrant_6 rfl rfl rfl ?_
    refine g_iconst (q := 8) 5 X dX5_hasGrant_7 rfl rfl ic_5 ?_
    refine g_iload_n (q := 9) 1 X dX5_hasGrant_8 rfl rfl rfl ?_
    refine g_cv (q := 12) [aI 5, aI a1] 5 X (ce_X5_has hK hb_b h) kV_X5_75 rfl (by decide) (shR_0 hb_b) (isR_n0 hK hb_b) rfl rfl (Nat.le_of_ble_eq_true rfl) (by decide) dX5_hasGrant_9 rfl (fun r n_ iv_ rv_ hf => ?_)
    obtain ⟨en_, ei_, er_, r5, rfl, br5, h⟩ := hf; subst n_; subst iv_; subst rv_
    exact g_zret (q := 0) .boolean X hR (nar_B br5) dX5_hasGrant_12 rfl ⟨rfl, rfl, rfl, _, rfl, br5, h⟩
def wp_X5_links (b : Nat) (iv : IV) (rv : RV) (K : Int → Prop) : Prop :=
  K (w32 ((iv (b + 1) 3) + (iv (b + 1) 4)))
set_option maxRecDepth 10000 in
theorem ce_X5_links {n : Nat} {iv : IV} {rv : RV} {K : Int → Prop} {b : Nat} (hK : Lk n rv) (hb_b : isR b) (h : wp_X5_links b iv rv K) : Call 0 0 0 yX5_links cX5_links 1 (some .int) [aR (some b)] n iv rv (fI0 n iv rv K) := by
  refine Call.by (L := [aR (some b)]) (by decide) rfl ⟨trivial, trivial⟩ rfl (Nat.le_of_ble_eq_true rfl) (fun Γ X hR => ?_)
  unfold wp_X5_links at h
  refine g_aload_n (q := 1) 0 X dX5_links_0 rfl rfl rfl ?_
  refine g_getR (q := 4) (r := some (b + 1)) 5 0 X (lkR_0 hK hb_b) (lt2000 (c := 0) (isR_lt hb_b (by decide))) kf_X5_13 (by decide) (by decide) rfl (shR_0 hb_b) (isR_n0 hK hb_b) dX5_links_1 rfl ?_
  refine g_iconst (q := 5) 3 X dX5_links_4 rfl rfl ic_3 ?_
  refine g_iald (q := 6) X (shR_1 hb_b) (isR_n hK hb_b (by decide)) (by decide) dX5_links_5 rfl ?_
  refine g_aload_n (q := 7) 0 X dX5_links_6 rfl rfl rfl ?_
  refine g_getR (q := 10) (r := some (b + 1)) 5 0 X (lkR_0 hK hb_b) (lt2000 (c := 0) (isR_lt hb_b (by decide))) kf_X5_13 (by decide) (by decide) rfl (shR_0 hb_b) (isR_n0 hK hb_b) dX5_links_7 rfl ?_
  refine g_iconst (q := 11) 4 X dX5_links_10 rfl rfl ic_4 ?_
  refine g_iald (q := 12) X (shR_1 hb_b) (isR_n hK hb_b (by decide)) (by decide) dX5_links_11 rfl ?_
  refine g_iadd (q := 13) X dX5_links_12 rfl ?_
  exact g_iret (q := 0) X hR dX5_links_13 rfl ⟨rfl, rfl, rfl, _, rfl, h⟩
def wp_X5_clear (b : Nat) (iv : IV) (rv : RV) (K : IV → Prop) : Prop :=
  ∀ iv1, iv1 = fil iv (b + 1) 12 0 → ∀ iv2, iv2 = fil iv1 (b + 8) 16 0 → ∀ iv3, iv3 = fil iv2 (b + 9) 16 0 → ∀ iv4, iv4 = fil iv3 (b + 10) 16 0 → K iv4
set_option maxRecDepth 10000 in
theorem ce_X5_clear {n : Nat} {iv : IV} {rv : RV} {K : IV → Prop} {b : Nat} (hK : Lk n rv) (hb_b : isR b) (h : wp_X5_clear b iv rv K) : Call 1 0 0 yX5_clear cX5_clear 1 none [aR (some b)] n iv rv (fV1 n rv K) := by
  refine Call.by (L := [aR (some b)]) (by decide) rfl ⟨trivial, trivial⟩ rfl (Nat.le_of_ble_eq_true rfl) (fun Γ X hR => ?_)
  unfold wp_X5_clear at h
  refine g_aload_n (q := 1) 0 X dX5_clear_0 rfl rfl rfl ?_
  refine g_getR (q := 4) (r := some (b + 1)) 5 0 X (lkR_0 hK hb_b) (lt2000 (c := 0) (isR_lt hb_b (by decide))) kf_X5_13 (by decide) (by decide) rfl (shR_0 hb_b) (isR_n0 hK hb_b) dX5_clear_1 rfl ?_
  refine g_iconst (q := 5) 0 X dX5_clear_4 rfl rfl ic_0 ?_
  refine g_cs (q := 8) [aR (some (b + 1)), aI 0] X (ce_fill n iv rv 0 (shR_1 hb_b) (isR_n hK hb_b (by decide)) (by decide)) kS_X5_69 rfl rfl (Nat.le_of_ble_eq_true rfl) (by decide) dX5_clear_5 rfl (fun r n_ iv_ rv_ hf => ?_)
  obtain ⟨en_, er_, rfl, eiv1⟩ := hf; subst n_; subst rv_
  generalize iv_ = iv1 at eiv1 ⊢
  have h := h iv1 eiv1
  refine g_aload_n (q := 9) 0 X dX5_clear_8 rfl rfl rfl ?_
  refine g_getR (q := 12) (r := some (b + 8)) 5 7 X (lkR_7 hK hb_b) (lt2000 (c := 0) (isR_lt hb_b (by decide))) kf_X5_36 (by decide) (by decide) rfl (shR_0 hb_b) (isR_n0 hK hb_b) dX5_clear_9 rfl ?_
  refine g_iconst (q := 13) 0 X dX5_clear_12 rfl rfl ic_0 ?_
  refine g_cs (q := 16) [aR (some (b + 8)), aI 0] X (ce_fill n iv1 rv 0 (shR_8 hb_b) (isR_n hK hb_b (by decide)) (by decide)) kS_X5_69 rfl rfl (Nat.le_of_ble_eq_true rfl) (by decide) dX5_clear_13 rfl (fun r n_ iv_ rv_ hf => ?_)
  obtain ⟨en_, er_, rfl, eiv2⟩ := hf; subst n_; subst rv_
  generalize iv_ = iv2 at eiv2 ⊢
  have h := h iv2 eiv2
  refine g_aload_n (q := 17) 0 X dX5_clear_16 rfl rfl rfl ?_
  refine g_getR (q := 20) (r := some (b + 9)) 5 8 X (lkR_8 hK hb_b) (lt2000 (c := 0) (isR_lt hb_b (by decide))) kf_X5_39 (by decide) (by decide) rfl (shR_0 hb_b) (isR_n0 hK hb_b) dX5_clear_17 rfl ?_
  refine g_iconst (q := 21) 0 X dX5_clear_20 rfl rfl ic_0 ?_
  refine g_cs (q := 24) [aR (some (b + 9)), aI 0] X (ce_fill n iv2 rv 0 (shR_9 hb_b) (isR_n hK hb_b (by decide)) (by decide)) kS_X5_69 rfl rfl (Nat.le_of_ble_eq_true rfl) (by decide) dX5_clear_21 rfl (fun r n_ iv_ rv_ hf => ?_)
  obtain ⟨en_, er_, rfl, eiv3⟩ := hf; subst n_; subst rv_
  generalize iv_ = iv3 at eiv3 ⊢
  have h := h iv3 eiv3
  refine g_aload_n (q := 25) 0 X dX5_clear_24 rfl rfl rfl ?_
  refine g_getR (q := 28) (r := some (b + 10)) 5 9 X (lkR_9 hK hb_b) (lt2000 (c := 0) (isR_lt hb_b (by decide))) kf_X5_42 (by decide) (by decide) rfl (shR_0 hb_b) (isR_n0 hK hb_b) dX5_clear_25 rfl ?_
  refine g_iconst (q := 29) 0 X dX5_clear_28 rfl rfl ic_0 ?_
  refine g_cs (q := 32) [aR (some (b + 10)), aI 0] X (ce_fill n iv3 rv 0 (shR_10 hb_b) (isR_n hK hb_b (by decide)) (by decide)) kS_X5_69 rfl rfl (Nat.le_of_ble_eq_true rfl) (by decide) dX5_clear_29 rfl (fun r n_ iv_ rv_ hf => ?_)
  obtain ⟨en_, er_, rfl, eiv4⟩ := hf; subst n_; subst rv_
  generalize iv_ = iv4 at eiv4 ⊢
  have h := h iv4 eiv4
  exact g_vret (q := 0) X hR dX5_clear_32 rfl ⟨rfl, rfl, rfl, h⟩
def bd_X5_renewalsOf_28 (b : Nat) (P4 : Int → Int → Int → Prop) (l1 l2 l3 : Int) (iv : IV) (rv : RV) (K : Int → Prop) : Prop :=
  P4 l1 l2 (w32 (l3 + 1))
set_option maxRecDepth 10000 in
theorem cb_X5_renewalsOf_28 {Γ : GX} {n : Nat} {iv : IV} {rv : RV} {K : Int → Prop} {b : Nat} {P4 : Int → Int → Int → Prop} {l1 l2 l3 : Int} (X : Cx Γ RX5 cX5_renewalsOf 4 0) (hR : Rt Γ (some .int) 0 0 (fI0 n iv rv K)) (hK : Lk n rv) (hb_b : isR b) (hP4 : ∀ (l1' l2' l3' : Int), P4 l1' l2' l3' → G Γ 4 4 [aR (some b), aI (l1'), aI (l2'), aI (l3')] [] n iv rv 0 0) (h : bd_X5_renewalsOf_28 b P4 l1 l2 l3 iv rv K) : G Γ 4 28 [aR (some b), aI l1, aI l2, aI l3] [] n iv rv 0 0 := by
  unfold bd_X5_renewalsOf_28 at h
  refine g_iinc (q := 31) 3 (L' := [aR (some b), aI l1, aI l2, aI (w32 (l3 + 1))]) X dX5_renewalsOf_28 rfl (by decide) rfl rfl rfl ?_
  refine g_goto (q := 4) X dX5_renewalsOf_31 (by decide) ?_
  exact hP4 _ _ _ h
def bd_X5_renewalsOf_4 (b : Nat) (P4 : Int → Int → Int → Prop) (l1 l2 l3 : Int) (iv : IV) (rv : RV) (K : Int → Prop) : Prop :=
  (((iv (b + 1) 8) ≤ l3) → (K l2)) ∧ ((¬ ((iv (b + 1) 8) ≤ l3)) → ((0 ≤ l3 ∧ l3 < 4) ∧ (((iv (b + 14) l3.toNat) ≠ l1) → (bd_X5_renewalsOf_28 b P4 l1 l2 l3 iv rv K)) ∧ (((iv (b + 14) l3.toNat) = l1) → (bd_X5_renewalsOf_28 b P4 l1 (w32 (l2 + 1)) l3 iv rv K))))
set_option maxRecDepth 10000 in
theorem cb_X5_renewalsOf_4 {Γ : GX} {n : Nat} {iv : IV} {rv : RV} {K : Int → Prop} {b : Nat} {P4 : Int → Int → Int → Prop} {l1 l2 l3 : Int} (X : Cx Γ RX5 cX5_renewalsOf 4 0) (hR : Rt Γ (some .int) 0 0 (fI0 n iv rv K)) (hK : Lk n rv) (hb_b : isR b) (hP4 : ∀ (l1' l2' l3' : Int), P4 l1' l2' l3' → G Γ 4 4 [aR (some b), aI (l1'), aI (l2'), aI (l3')] [] n iv rv 0 0) (h : bd_X5_renewalsOf_4 b P4 l1 l2 l3 iv rv K) : G Γ 4 4 [aR (some b), aI l1, aI l2, aI l3] [] n iv rv 0 0 := by
  unfold bd_X5_renewalsOf_4 at h
  refine g_iload_n (q := 5) 3 X dX5_renewalsOf_4 rfl rfl rfl ?_
  refine g_aload_n (q := 6) 0 X dX5_renewalsOf_5 rfl rfl rfl ?_
  refine g_getR (q := 9) (r := some (b + 1)) 5 0 X (lkR_0 hK hb_b) (lt2000 (c := 0) (isR_lt hb_b (by decide))) kf_X5_13 (by decide) (by decide) rfl (shR_0 hb_b) (isR_n0 hK hb_b) dX5_renewalsOf_6 rfl ?_
  refine g_bipush (q := 11) 8 X dX5_renewalsOf_9 rfl bc_8 ic_8 ?_
  refine g_iald (q := 12) X (shR_1 hb_b) (isR_n hK hb_b (by decide)) (by decide) dX5_renewalsOf_11 rfl ?_
  refine g_icmp_ge (q := 15) 34 X dX5_renewalsOf_12 (by decide) rfl (fun c1 => ?_) (fun c1 => ?_)
  · have h := h.1 c1
    refine g_iload_n (q := 35) 2 X dX5_renewalsOf_34 rfl rfl rfl ?_
    exact g_iret (q := 0) X hR dX5_renewalsOf_35 rfl ⟨rfl, rfl, rfl, _, rfl, h⟩
  · have h := h.2 c1
    refine g_aload_n (q := 16) 0 X dX5_renewalsOf_15 rfl rfl rfl ?_
    refine g_getR (q := 19) (r := some (b + 14)) 5 13 X (lkR_13 hK hb_b) (lt2000 (c := 0) (isR_lt hb_b (by decide))) kf_X5_54 (by decide) (by decide) rfl (shR_0 hb_b) (isR_n0 hK hb_b) dX5_renewalsOf_16 rfl ?_
    refine g_iload_n (q := 20) 3 X dX5_renewalsOf_19 rfl rfl rfl ?_
    obtain ⟨s2, h⟩ := h
    refine g_iald (q := 21) X (shR_14 hb_b) (isR_n hK hb_b (by decide)) s2 dX5_renewalsOf_20 rfl ?_
    refine g_iload_n (q := 22) 1 X dX5_renewalsOf_21 rfl rfl rfl ?_
    refine g_icmp_ne (q := 25) 28 X dX5_renewalsOf_22 (by decide) rfl (fun c3 => ?_) (fun c3 => ?_)
    · have h := h.1 c3
      exact cb_X5_renewalsOf_28 X hR hK hb_b hP4 h
    · have h := h.2 c3
      refine g_iinc (q := 28) 2 (L' := [aR (some b), aI l1, aI (w32 (l2 + 1)), aI l3]) X dX5_renewalsOf_25 rfl (by decide) rfl rfl rfl ?_
      exact cb_X5_renewalsOf_28 X hR hK hb_b hP4 h
def wl_X5_renewalsOf_4 (b : Nat) (l1 l2 l3 : Int) (iv : IV) (rv : RV) (K : Int → Prop) : Prop :=
  ∀ P : Int → Int → Int → Prop, (∀ (l1' l2' l3' : Int), bd_X5_renewalsOf_4 b P l1' l2' l3' iv rv K → P l1' l2' l3') → P l1 l2 l3
theorem cl_X5_renewalsOf_4 {Γ : GX} {n : Nat} {iv : IV} {rv : RV} {K : Int → Prop} {b : Nat} {l1 l2 l3 : Int} (X : Cx Γ RX5 cX5_renewalsOf 4 0) (hR : Rt Γ (some .int) 0 0 (fI0 n iv rv K)) (hK : Lk n rv) (hb_b : isR b) (h : wl_X5_renewalsOf_4 b l1 l2 l3 iv rv K) : G Γ 4 4 [aR (some b), aI l1, aI l2, aI l3] [] n iv rv 0 0 := by
  exact h (fun l1' l2' l3' =>  G Γ 4 4 [aR (some b), aI (l1'), aI (l2'), aI (l3')] [] n iv rv 0 0) (fun l1' l2' l3' hb => cb_X5_renewalsOf_4 X hR hK hb_b  (fun l1' l2' l3' hp => hp) hb)
def wp_X5_renewalsOf (b : Nat) (a1 : Int) (iv : IV) (rv : RV) (K : Int → Prop) : Prop :=
  wl_X5_renewalsOf_4 b a1 0 0 iv rv K
set_option maxRecDepth 10000 in
theorem ce_X5_renewalsOf {n : Nat} {iv : IV} {rv : RV} {K : Int → Prop} {b : Nat} {a1 : Int} (hK : Lk n rv) (hb_b : isR b) (h : wp_X5_renewalsOf b a1 iv rv K) : Call 0 0 0 yX5_renewalsOf cX5_renewalsOf 4 (some .int) [aR (some b), aI a1] n iv rv (fI0 n iv rv K) := by
  refine Call.by (L := [aR (some b), aI a1, aJ, aJ]) (by decide) rfl ⟨trivial, trivial, trivial⟩ rfl (Nat.le_of_ble_eq_true rfl) (fun Γ X hR => ?_)
  unfold wp_X5_renewalsOf at h
  refine g_iconst (q := 1) 0 X dX5_renewalsOf_0 rfl rfl ic_0 ?_
  refine g_istore_n (q := 2) 2 (L' := [aR (some b), aI a1, aI 0, aJ]) X dX5_renewalsOf_1 rfl rfl (by decide) rfl rfl ?_
  refine g_iconst (q := 3) 0 X dX5_renewalsOf_2 rfl rfl ic_0 ?_
  refine g_istore_n (q := 4) 3 (L' := [aR (some b), aI a1, aI 0, aI 0]) X dX5_renewalsOf_3 rfl rfl (by decide) rfl rfl ?_
  exact cl_X5_renewalsOf_4 X hR hK hb_b  h
def bd_X5_choices_4 (b : Nat) (P4 : Int → Int → Prop) (l1 l2 : Int) (iv : IV) (rv : RV) (K : Int → Prop) : Prop :=
  ((16 ≤ l2) → (K l1)) ∧ ((¬ (16 ≤ l2)) → (((2000 < l1) → (K l1)) ∧ ((¬ (2000 < l1)) → ((0 ≤ l2 ∧ l2 < 16) ∧ (0 ≤ l2 ∧ l2 < 16) ∧ ∀ x5, x5 = w32 (l1 * (w32 ((w32 ((iv (b + 9) l2.toNat) - (iv (b + 8) l2.toNat))) + 1))) → P4 x5 (w32 (l2 + 1))))))
set_option maxRecDepth 10000 in
theorem cb_X5_choices_4 {Γ : GX} {n : Nat} {iv : IV} {rv : RV} {K : Int → Prop} {b : Nat} {P4 : Int → Int → Prop} {l1 l2 : Int} (X : Cx Γ RX5 cX5_choices 3 0) (hR : Rt Γ (some .int) 0 0 (fI0 n iv rv K)) (hK : Lk n rv) (hb_b : isR b) (hP4 : ∀ (l1' l2' : Int), P4 l1' l2' → G Γ 3 4 [aR (some b), aI (l1'), aI (l2')] [] n iv rv 0 0) (h : bd_X5_choices_4 b P4 l1 l2 iv rv K) : G Γ 3 4 [aR (some b), aI l1, aI l2] [] n iv rv 0 0 := by
  unfold bd_X5_choices_4 at h
  refine g_iload_n (q := 5) 2 X dX5_choices_4 rfl rfl rfl ?_
  refine g_bipush (q := 7) 16 X dX5_choices_5 rfl bc_16 ic_16 ?_
  refine g_icmp_ge (q := 10) 41 X dX5_choices_7 (by decide) rfl (fun c1 => ?_) (fun c1 => ?_)
  · have h := h.1 c1
    refine g_iload_n (q := 42) 1 X dX5_choices_41 rfl rfl rfl ?_
    exact g_iret (q := 0) X hR dX5_choices_42 rfl ⟨rfl, rfl, rfl, _, rfl, h⟩
  · have h := h.2 c1
    refine g_iload_n (q := 11) 1 X dX5_choices_10 rfl rfl rfl ?_
    refine g_sipush (q := 14) 2000 X dX5_choices_11 rfl sc_2000 ic_2000 ?_
    refine g_icmp_gt (q := 17) 41 X dX5_choices_14 (by decide) rfl (fun c2 => ?_) (fun c2 => ?_)
    · have h := h.1 c2
      refine g_iload_n (q := 42) 1 X dX5_choices_41 rfl rfl rfl ?_
      exact g_iret (q := 0) X hR dX5_choices_42 rfl ⟨rfl, rfl, rfl, _, rfl, h⟩
    · have h := h.2 c2
      refine g_iload_n (q := 18) 1 X dX5_choices_17 rfl rfl rfl ?_
      refine g_aload_n (q := 19) 0 X dX5_choices_18 rfl rfl rfl ?_
      refine g_getR (q := 22) (r := some (b + 9)) 5 8 X (lkR_8 hK hb_b) (lt2000 (c := 0) (isR_lt hb_b (by decide))) kf_X5_39 (by decide) (by decide) rfl (shR_0 hb_b) (isR_n0 hK hb_b) dX5_choices_19 rfl ?_
      refine g_iload_n (q := 23) 2 X dX5_choices_22 rfl rfl rfl ?_
      obtain ⟨s3, h⟩ := h
      refine g_iald (q := 24) X (shR_9 hb_b) (isR_n hK hb_b (by decide)) s3 dX5_choices_23 rfl ?_
      refine g_aload_n (q := 25) 0 X dX5_choices_24 rfl rfl rfl ?_
      refine g_getR (q := 28) (r := some (b + 8)) 5 7 X (lkR_7 hK hb_b) (lt2000 (c := 0) (isR_lt hb_b (by decide))) kf_X5_36 (by decide) (by decide) rfl (shR_0 hb_b) (isR_n0 hK hb_b) dX5_choices_25 rfl ?_
      refine g_iload_n (q := 29) 2 X dX5_choices_28 rfl rfl rfl ?_
      obtain ⟨s4, h⟩ := h
      refine g_iald (q := 30) X (shR_8 hb_b) (isR_n hK hb_b (by decide)) s4 dX5_choices_29 rfl ?_
      refine g_isub (q := 31) X dX5_choices_30 rfl ?_
      refine g_iconst (q := 32) 1 X dX5_choices_31 rfl rfl ic_1 ?_
      refine g_iadd (q := 33) X dX5_choices_32 rfl ?_
      refine g_imul (q := 34) X dX5_choices_33 rfl ?_
      refine g_nmI (fun x5 ex5 => ?_)
      have h := h x5 ex5
      refine g_istore_n (q := 35) 1 (L' := [aR (some b), aI x5, aI l2]) X dX5_choices_34 rfl rfl (by decide) rfl rfl ?_
      refine g_iinc (q := 38) 2 (L' := [aR (some b), aI x5, aI (w32 (l2 + 1))]) X dX5_choices_35 rfl (by decide) rfl rfl rfl ?_
      refine g_goto (q := 4) X dX5_choices_38 (by decide) ?_
      exact hP4 _ _ h
def wl_X5_choices_4 (b : Nat) (l1 l2 : Int) (iv : IV) (rv : RV) (K : Int → Prop) : Prop :=
  ∀ P : Int → Int → Prop, (∀ (l1' l2' : Int), bd_X5_choices_4 b P l1' l2' iv rv K → P l1' l2') → P l1 l2
theorem cl_X5_choices_4 {Γ : GX} {n : Nat} {iv : IV} {rv : RV} {K : Int → Prop} {b : Nat} {l1 l2 : Int} (X : Cx Γ RX5 cX5_choices 3 0) (hR : Rt Γ (some .int) 0 0 (fI0 n iv rv K)) (hK : Lk n rv) (hb_b : isR b) (h : wl_X5_choices_4 b l1 l2 iv rv K) : G Γ 3 4 [aR (some b), aI l1, aI l2] [] n iv rv 0 0 := by
  exact h (fun l1' l2' =>  G Γ 3 4 [aR (some b), aI (l1'), aI (l2')] [] n iv rv 0 0) (fun l1' l2' hb => cb_X5_choices_4 X hR hK hb_b  (fun l1' l2' hp => hp) hb)
def wp_X5_choices (b : Nat) (iv : IV) (rv : RV) (K : Int → Prop) : Prop :=
  wl_X5_choices_4 b 1 0 iv rv K
set_option maxRecDepth 10000 in
theorem ce_X5_choices {n : Nat} {iv : IV} {rv : RV} {K : Int → Prop} {b : Nat} (hK : Lk n rv) (hb_b : isR b) (h : wp_X5_choices b iv rv K) : Call 0 0 0 yX5_choices cX5_choices 3 (some .int) [aR (some b)] n iv rv (fI0 n iv rv K) := by
  refine Call.by (L := [aR (some b), aJ, aJ]) (by decide) rfl ⟨trivial, trivial⟩ rfl (Nat.le_of_ble_eq_true rfl) (fun Γ X hR => ?_)
  unfold wp_X5_choices at h
  refine g_iconst (q := 1) 1 X dX5_choices_0 rfl rfl ic_1 ?_
  refine g_istore_n (q := 2) 1 (L' := [aR (some b), aI 1, aJ]) X dX5_choices_1 rfl rfl (by decide) rfl rfl ?_
  refine g_iconst (q := 3) 0 X dX5_choices_2 rfl rfl ic_0 ?_
  refine g_istore_n (q := 4) 2 (L' := [aR (some b), aI 1, aI 0]) X dX5_choices_3 rfl rfl (by decide) rfl rfl ?_
  exact cl_X5_choices_4 X hR hK hb_b  h
