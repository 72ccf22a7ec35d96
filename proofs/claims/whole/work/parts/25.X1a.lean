def wp_X1_open (b1 : Nat) (a2 : Int) (iv : IV) (rv : RV) (K : IV → RV → Prop) : Prop :=
  ∀ rv1, rv1 = r2 rv 47 3 (some b1) → wp_X6_open b1 a2 iv rv1 (fun iv2 rv3 => K iv2 rv3)
set_option maxRecDepth 10000 in
theorem ce_X1_open {n : Nat} {iv : IV} {rv : RV} {K : IV → RV → Prop} {b1 : Nat} {a2 : Int} (hK : Lk n rv) (hb_b1 : isR b1) (h : wp_X1_open b1 a2 iv rv K) : Call 2 0 0 yX1_open cX1_open 3 none [aR (some 47), aR (some b1), aI a2] n iv rv (fV2 n K) := by
  refine Call.by (L := [aR (some 47), aR (some b1), aI a2]) (by decide) rfl ⟨trivial, trivial, trivial, trivial⟩ rfl (Nat.le_of_ble_eq_true rfl) (fun Γ X hR => ?_)
  unfold wp_X1_open at h
  refine g_aload_n (q := 1) 0 X dX1_open_0 rfl rfl rfl ?_
  refine g_aload_n (q := 2) 1 X dX1_open_1 rfl rfl rfl ?_
  refine g_putR (q := 5) 1 3 X rfl rfl kf_X1_18 (by decide) (by decide) rfl (hK.n (by decide)) dX1_open_2 rfl ?_
  refine g_nmR (fun rv1 erv1 => ?_)
  have h := h rv1 erv1
  have hK_rv1 : Lk n rv1 := by rw [erv1]; exact Lk.w5 hK hb_b1 (by decide)
  refine g_aload_n (q := 6) 0 X dX1_open_5 rfl rfl rfl ?_
  refine g_getR (q := 9) (r := some 51) 1 0 X (lk_47_0 hK_rv1) (lt2000 (c := 0) (by decide)) kf_X1_27 (by decide) (by decide) rfl rfl (hK_rv1.n (by decide)) dX1_open_6 rfl ?_
  refine g_aload_n (q := 10) 1 X dX1_open_9 rfl rfl rfl ?_
  refine g_iload_n (q := 11) 2 X dX1_open_10 rfl rfl rfl ?_
  refine g_cv (q := 14) [aR (some b1), aI a2] 6 X (ce_X6_open hK_rv1 hb_b1 h) kV_X1_40 rfl (by decide) rfl (hK_rv1.n (by decide)) rfl rfl (Nat.le_of_ble_eq_true rfl) (by decide) dX1_open_11 rfl (fun r n_ iv_ rv_ hf => ?_)
  obtain ⟨en_, hK_rv3, rfl, h⟩ := hf; subst n_
  generalize iv_ = iv2 at h ⊢
  generalize rv_ = rv3 at h hK_rv3 ⊢
  exact g_vret (q := 0) X hR dX1_open_14 rfl ⟨rfl, hK_rv3, rfl, h⟩
def wp_X1_reachFrom (a1 : Int) (a2 : Int) (iv : IV) (rv : RV) (K : IV → Prop) : Prop :=
  wp_X6_sit a2 iv rv (fun iv1 => wp_X3_from a1 iv1 rv (fun iv2 => K iv2))
set_option maxRecDepth 10000 in
theorem ce_X1_reachFrom {n : Nat} {iv : IV} {rv : RV} {K : IV → Prop} {a1 : Int} {a2 : Int} (hK : Lk n rv)  (h : wp_X1_reachFrom a1 a2 iv rv K) : Call 3 0 0 yX1_reachFrom cX1_reachFrom 3 (some (.object "TollBars$Reach")) [aR (some 47), aI a1, aI a2] n iv rv (fR1 59 n rv K) := by
  refine Call.by (L := [aR (some 47), aI a1, aI a2]) (by decide) rfl ⟨trivial, trivial, trivial, trivial⟩ rfl (Nat.le_of_ble_eq_true rfl) (fun Γ X hR => ?_)
  unfold wp_X1_reachFrom at h
  refine g_aload_n (q := 1) 0 X dX1_reachFrom_0 rfl rfl rfl ?_
  refine g_getR (q := 4) (r := some 51) 1 0 X (lk_47_0 hK) (lt2000 (c := 0) (by decide)) kf_X1_27 (by decide) (by decide) rfl rfl (hK.n (by decide)) dX1_reachFrom_1 rfl ?_
  refine g_iload_n (q := 5) 2 X dX1_reachFrom_4 rfl rfl rfl ?_
  refine g_cv (q := 8) [aI a2] 6 X (ce_X6_sit hK  h) kV_X1_44 rfl (by decide) rfl (hK.n (by decide)) rfl rfl (Nat.le_of_ble_eq_true rfl) (by decide) dX1_reachFrom_5 rfl (fun r n_ iv_ rv_ hf => ?_)
  obtain ⟨en_, er_, rfl, h⟩ := hf; subst n_; subst rv_
  generalize iv_ = iv1 at h ⊢
  refine g_aload_n (q := 9) 0 X dX1_reachFrom_8 rfl rfl rfl ?_
  refine g_getR (q := 12) (r := some 58) 1 2 X (lk_47_2 hK) (lt2000 (c := 0) (by decide)) kf_X1_36 (by decide) (by decide) rfl rfl (hK.n (by decide)) dX1_reachFrom_9 rfl ?_
  refine g_getR (q := 15) (r := some 59) 0 0 X (lk_58_0 hK) (lt2000 (c := 0) (by decide)) kf_X1_48 (by decide) (by decide) rfl rfl (hK.n (by decide)) dX1_reachFrom_12 rfl ?_
  refine g_aload_n (q := 16) 0 X dX1_reachFrom_15 rfl rfl rfl ?_
  refine g_getR (q := 19) (r := some 51) 1 0 X (lk_47_0 hK) (lt2000 (c := 0) (by decide)) kf_X1_27 (by decide) (by decide) rfl rfl (hK.n (by decide)) dX1_reachFrom_16 rfl ?_
  refine g_iload_n (q := 20) 1 X dX1_reachFrom_19 rfl rfl rfl ?_
  refine g_cv (q := 23) [aR (some 51), aI a1] 3 X (ce_X3_from hK  h) kV_X1_52 rfl (by decide) rfl (hK.n (by decide)) rfl rfl (Nat.le_of_ble_eq_true rfl) (by decide) dX1_reachFrom_20 rfl (fun r n_ iv_ rv_ hf => ?_)
  obtain ⟨en_, er_, rfl, h⟩ := hf; subst n_; subst rv_
  generalize iv_ = iv2 at h ⊢
  refine g_aload_n (q := 24) 0 X dX1_reachFrom_23 rfl rfl rfl ?_
  refine g_getR (q := 27) (r := some 58) 1 2 X (lk_47_2 hK) (lt2000 (c := 0) (by decide)) kf_X1_36 (by decide) (by decide) rfl rfl (hK.n (by decide)) dX1_reachFrom_24 rfl ?_
  refine g_getR (q := 30) (r := some 59) 0 0 X (lk_58_0 hK) (lt2000 (c := 0) (by decide)) kf_X1_48 (by decide) (by decide) rfl rfl (hK.n (by decide)) dX1_reachFrom_27 rfl ?_
  exact g_aret (q := 0) X hR dX1_reachFrom_30 rfl ⟨rfl, rfl, rfl, h⟩
def wp_X1_hearOwner (a1 : Int) (iv : IV) (rv : RV) (K : IV → Prop) : Prop :=
  wp_X5_ofCart (gR rv 47 3) a1 0 iv rv (fun r1 => (0 ≤ r1 ∧ r1 < 6) ∧ (0 ≤ r1 ∧ r1 < 6) ∧ wp_X0_hear a1 (iv (gR rv 47 3 + 2) r1.toNat) (iv (gR rv 47 3 + 3) r1.toNat) iv rv (fun iv4 => K iv4))
set_option maxRecDepth 10000 in
theorem ce_X1_hearOwner {n : Nat} {iv : IV} {rv : RV} {K : IV → Prop} {a1 : Int} (hK : Lk n rv)  (h : wp_X1_hearOwner a1 iv rv K) : Call 3 0 0 yX1_hearOwner cX1_hearOwner 3 none [aR (some 47), aI a1] n iv rv (fV1 n rv K) := by
  refine Call.by (L := [aR (some 47), aI a1, aJ]) (by decide) rfl ⟨trivial, trivial, trivial⟩ rfl (Nat.le_of_ble_eq_true rfl) (fun Γ X hR => ?_)
  unfold wp_X1_hearOwner at h
  refine g_aload_n (q := 1) 0 X dX1_hearOwner_0 rfl rfl rfl ?_
  refine g_getR (q := 4) (r := some (gR rv 47 3)) 1 3 X hK.2.2.2.2.2.1.2.2.2.1.1 (lt2000 (c := 0) (isR_lt0 hK.2.2.2.2.2.1.2.2.2.1.2)) kf_X1_18 (by decide) (by decide) rfl rfl (hK.n (by decide)) dX1_hearOwner_1 rfl ?_
  refine g_iload_n (q := 5) 1 X dX1_hearOwner_4 rfl rfl rfl ?_
  refine g_iconst (q := 6) 0 X dX1_hearOwner_5 rfl rfl ic_0 ?_
  refine g_cv (q := 9) [aI a1, aI 0] 5 X (ce_X5_ofCart hK hK.2.2.2.2.2.1.2.2.2.1.2 h) kV_X1_58 rfl (by decide) (shR_0 hK.2.2.2.2.2.1.2.2.2.1.2) (isR_n0 hK hK.2.2.2.2.2.1.2.2.2.1.2) rfl rfl (Nat.le_of_ble_eq_true rfl) (by decide) dX1_hearOwner_6 rfl (fun r n_ iv_ rv_ hf => ?_)
  obtain ⟨en_, ei_, er_, r1, rfl, h⟩ := hf; subst n_; subst iv_; subst rv_
  refine g_istore_n (q := 10) 2 (L' := [aR (some 47), aI a1, aI r1]) X dX1_hearOwner_9 rfl rfl (by decide) rfl rfl ?_
  refine g_aload_n (q := 11) 0 X dX1_hearOwner_10 rfl rfl rfl ?_
  refine g_getR (q := 14) (r := some 58) 1 2 X (lk_47_2 hK) (lt2000 (c := 0) (by decide)) kf_X1_36 (by decide) (by decide) rfl rfl (hK.n (by decide)) dX1_hearOwner_11 rfl ?_
  refine g_iload_n (q := 15) 1 X dX1_hearOwner_14 rfl rfl rfl ?_
  refine g_aload_n (q := 16) 0 X dX1_hearOwner_15 rfl rfl rfl ?_
  refine g_getR (q := 19) (r := some (gR rv 47 3)) 1 3 X hK.2.2.2.2.2.1.2.2.2.1.1 (lt2000 (c := 0) (isR_lt0 hK.2.2.2.2.2.1.2.2.2.1.2)) kf_X1_18 (by decide) (by decide) rfl rfl (hK.n (by decide)) dX1_hearOwner_16 rfl ?_
  refine g_getR (q := 22) (r := some (gR rv 47 3 + 2)) 5 1 X (lkR_1 hK hK.2.2.2.2.2.1.2.2.2.1.2) (lt2000 (c := 0) (isR_lt hK.2.2.2.2.2.1.2.2.2.1.2 (by decide))) kf_X1_64 (by decide) (by decide) rfl (shR_0 hK.2.2.2.2.2.1.2.2.2.1.2) (isR_n0 hK hK.2.2.2.2.2.1.2.2.2.1.2) dX1_hearOwner_19 rfl ?_
  refine g_iload_n (q := 23) 2 X dX1_hearOwner_22 rfl rfl rfl ?_
  obtain ⟨s2, h⟩ := h
  refine g_iald (q := 24) X (shR_2 hK.2.2.2.2.2.1.2.2.2.1.2) (isR_n hK hK.2.2.2.2.2.1.2.2.2.1.2 (by decide)) s2 dX1_hearOwner_23 rfl ?_
  refine g_aload_n (q := 25) 0 X dX1_hearOwner_24 rfl rfl rfl ?_
  refine g_getR (q := 28) (r := some (gR rv 47 3)) 1 3 X hK.2.2.2.2.2.1.2.2.2.1.1 (lt2000 (c := 0) (isR_lt0 hK.2.2.2.2.2.1.2.2.2.1.2)) kf_X1_18 (by decide) (by decide) rfl rfl (hK.n (by decide)) dX1_hearOwner_25 rfl ?_
  refine g_getR (q := 31) (r := some (gR rv 47 3 + 3)) 5 2 X (lkR_2 hK hK.2.2.2.2.2.1.2.2.2.1.2) (lt2000 (c := 0) (isR_lt hK.2.2.2.2.2.1.2.2.2.1.2 (by decide))) kf_X1_68 (by decide) (by decide) rfl (shR_0 hK.2.2.2.2.2.1.2.2.2.1.2) (isR_n0 hK hK.2.2.2.2.2.1.2.2.2.1.2) dX1_hearOwner_28 rfl ?_
  refine g_iload_n (q := 32) 2 X dX1_hearOwner_31 rfl rfl rfl ?_
  obtain ⟨s3, h⟩ := h
  refine g_iald (q := 33) X (shR_3 hK.2.2.2.2.2.1.2.2.2.1.2) (isR_n hK hK.2.2.2.2.2.1.2.2.2.1.2 (by decide)) s3 dX1_hearOwner_32 rfl ?_
  refine g_cv (q := 36) [aI a1, aI (iv (gR rv 47 3 + 2) r1.toNat), aI (iv (gR rv 47 3 + 3) r1.toNat)] 0 X (ce_X0_hear hK  h) kV_X1_71 rfl (by decide) rfl (hK.n (by decide)) rfl rfl (Nat.le_of_ble_eq_true rfl) (by decide) dX1_hearOwner_33 rfl (fun r n_ iv_ rv_ hf => ?_)
  obtain ⟨en_, er_, rfl, h⟩ := hf; subst n_; subst rv_
  generalize iv_ = iv4 at h ⊢
  exact g_vret (q := 0) X hR dX1_hearOwner_36 rfl ⟨rfl, rfl, rfl, h⟩
def wp_X1_owedAt (a1 : Int) (a2 : Int) (a3 : Int) (iv : IV) (rv : RV) (K : Int → IV → Prop) : Prop :=
  wp_X6_sit a3 iv rv (fun iv1 => wp_X1_hearOwner a1 iv1 rv (fun iv2 => wp_X0_owedAt a2 iv2 rv (fun r3 => K r3 iv2)))
set_option maxRecDepth 10000 in
theorem ce_X1_owedAt {n : Nat} {iv : IV} {rv : RV} {K : Int → IV → Prop} {a1 : Int} {a2 : Int} {a3 : Int} (hK : Lk n rv)  (h : wp_X1_owedAt a1 a2 a3 iv rv K) : Call 4 0 0 yX1_owedAt cX1_owedAt 4 (some .int) [aR (some 47), aI a1, aI a2, aI a3] n iv rv (fI1 n rv K) := by
  refine Call.by (L := [aR (some 47), aI a1, aI a2, aI a3]) (by decide) rfl ⟨trivial, trivial, trivial, trivial, trivial⟩ rfl (Nat.le_of_ble_eq_true rfl) (fun Γ X hR => ?_)
  unfold wp_X1_owedAt at h
  refine g_aload_n (q := 1) 0 X dX1_owedAt_0 rfl rfl rfl ?_
  refine g_getR (q := 4) (r := some 51) 1 0 X (lk_47_0 hK) (lt2000 (c := 0) (by decide)) kf_X1_27 (by decide) (by decide) rfl rfl (hK.n (by decide)) dX1_owedAt_1 rfl ?_
  refine g_iload_n (q := 5) 3 X dX1_owedAt_4 rfl rfl rfl ?_
  refine g_cv (q := 8) [aI a3] 6 X (ce_X6_sit hK  h) kV_X1_44 rfl (by decide) rfl (hK.n (by decide)) rfl rfl (Nat.le_of_ble_eq_true rfl) (by decide) dX1_owedAt_5 rfl (fun r n_ iv_ rv_ hf => ?_)
  obtain ⟨en_, er_, rfl, h⟩ := hf; subst n_; subst rv_
  generalize iv_ = iv1 at h ⊢
  refine g_aload_n (q := 9) 0 X dX1_owedAt_8 rfl rfl rfl ?_
  refine g_iload_n (q := 10) 1 X dX1_owedAt_9 rfl rfl rfl ?_
  refine g_cv (q := 13) [aI a1] 1 X (ce_X1_hearOwner hK  h) kV_X1_75 rfl (by decide) rfl (hK.n (by decide)) rfl rfl (Nat.le_of_ble_eq_true rfl) (by decide) dX1_owedAt_10 rfl (fun r n_ iv_ rv_ hf => ?_)
  obtain ⟨en_, er_, rfl, h⟩ := hf; subst n_; subst rv_
  generalize iv_ = iv2 at h ⊢
  refine g_aload_n (q := 14) 0 X dX1_owedAt_13 rfl rfl rfl ?_
  refine g_getR (q := 17) (r := some 58) 1 2 X (lk_47_2 hK) (lt2000 (c := 0) (by decide)) kf_X1_36 (by decide) (by decide) rfl rfl (hK.n (by decide)) dX1_owedAt_14 rfl ?_
  refine g_iload_n (q := 18) 2 X dX1_owedAt_17 rfl rfl rfl ?_
  refine g_cv (q := 21) [aI a2] 0 X (ce_X0_owedAt hK  h) kV_X1_78 rfl (by decide) rfl (hK.n (by decide)) rfl rfl (Nat.le_of_ble_eq_true rfl) (by decide) dX1_owedAt_18 rfl (fun r n_ iv_ rv_ hf => ?_)
  obtain ⟨en_, ei_, er_, r3, rfl, h⟩ := hf; subst n_; subst iv_; subst rv_
  exact g_iret (q := 0) X hR dX1_owedAt_21 rfl ⟨rfl, rfl, _, rfl, h⟩
def wp_X1_winner (a1 : Int) (a2 : Int) (a3 : Int) (iv : IV) (rv : RV) (K : Int → IV → Prop) : Prop :=
  wp_X6_sit a3 iv rv (fun iv1 => wp_X1_hearOwner a1 iv1 rv (fun iv2 => wp_X0_winner a2 iv2 rv (fun r3 => K r3 iv2)))
set_option maxRecDepth 10000 in
theorem ce_X1_winner {n : Nat} {iv : IV} {rv : RV} {K : Int → IV → Prop} {a1 : Int} {a2 : Int} {a3 : Int} (hK : Lk n rv)  (h : wp_X1_winner a1 a2 a3 iv rv K) : Call 4 0 0 yX1_winner cX1_winner 4 (some .int) [aR (some 47), aI a1, aI a2, aI a3] n iv rv (fI1 n rv K) := by
  refine Call.by (L := [aR (some 47), aI a1, aI a2, aI a3]) (by decide) rfl ⟨trivial, trivial, trivial, trivial, trivial⟩ rfl (Nat.le_of_ble_eq_true rfl) (fun Γ X hR => ?_)
  unfold wp_X1_winner at h
  refine g_aload_n (q := 1) 0 X dX1_winner_0 rfl rfl rfl ?_
  refine g_getR (q := 4) (r := some 51) 1 0 X (lk_47_0 hK) (lt2000 (c := 0) (by decide)) kf_X1_27 (by decide) (by decide) rfl rfl (hK.n (by decide)) dX1_winner_1 rfl ?_
  refine g_iload_n (q := 5) 3 X dX1_winner_4 rfl rfl rfl ?_
  refine g_cv (q := 8) [aI a3] 6 X (ce_X6_sit hK  h) kV_X1_44 rfl (by decide) rfl (hK.n (by decide)) rfl rfl (Nat.le_of_ble_eq_true rfl) (by decide) dX1_winner_5 rfl (fun r n_ iv_ rv_ hf => ?_)
  obtain ⟨en_, er_, rfl, h⟩ := hf; subst n_; subst rv_
  generalize iv_ = iv1 at h ⊢
  refine g_aload_n (q := 9) 0 X dX1_winner_8 rfl rfl rfl ?_
  refine g_iload_n (q := 10) 1 X dX1_winner_9 rfl rfl rfl ?_
  refine g_cv (q := 13) [aI a1] 1 X (ce_X1_hearOwner hK  h) kV_X1_75 rfl (by decide) rfl (hK.n (by decide)) rfl rfl (Nat.le_of_ble_eq_true rfl) (by decide) dX1_winner_10 rfl (fun r n_ iv_ rv_ hf => ?_)
  obtain ⟨en_, er_, rfl, h⟩ := hf; subst n_; subst rv_
  generalize iv_ = iv2 at h ⊢
  refine g_aload_n (q := 14) 0 X dX1_winner_13 rfl rfl rfl ?_
  refine g_getR (q := 17) (r := some 58) 1 2 X (lk_47_2 hK) (lt2000 (c := 0) (by decide)) kf_X1_36 (by decide) (by decide) rfl rfl (hK.n (by decide)) dX1_winner_14 rfl ?_
  refine g_iload_n (q := 18) 2 X dX1_winner_17 rfl rfl rfl ?_
  refine g_cv (q := 21) [aI a2] 0 X (ce_X0_winner hK  h) kV_X1_82 rfl (by decide) rfl (hK.n (by decide)) rfl rfl (Nat.le_of_ble_eq_true rfl) (by decide) dX1_winner_18 rfl (fun r n_ iv_ rv_ hf => ?_)
  obtain ⟨en_, ei_, er_, r3, rfl, h⟩ := hf; subst n_; subst iv_; subst rv_
  exact g_iret (q := 0) X hR dX1_winner_21 rfl ⟨rfl, rfl, _, rfl, h⟩
def bd_X1_extreme_67 (P12 : Int → Int → Int → Int → Int → IV → Prop) (l1 l2 l4 l6 t0 : Int) (iv : IV) (rv : RV) (K : Int → IV → Prop) : Prop :=
  P12 l1 l2 l4 t0 (w32 (l6 + 1)) iv
set_option maxRecDepth 10000 in
theorem cb_X1_extreme_67 {Γ : GX} {n : Nat} {iv : IV} {rv : RV} {K : Int → IV → Prop} {P12 : Int → Int → Int → Int → Int → IV → Prop} {l1 l2 l4 l6 t0 : Int} (X : Cx Γ RX1 cX1_extreme 8 5) (hR : Rt Γ (some .int) 0 0 (fI1 n rv K)) (hK : Lk n rv)  (hP12 : ∀ (l1' l2' l4' l5' l6' : Int) (iv' : IV), P12 l1' l2' l4' l5' l6' iv' → G Γ 8 12 [aR (some 47), aI (l1'), aI (l2'), aJ, aI (l4'), aI (l5'), aI (l6'), aJ] [] n iv' rv 0 0) (h : bd_X1_extreme_67 P12 l1 l2 l4 l6 t0 iv rv K) : G Γ 8 67 [aR (some 47), aI l1, aI l2, aJ, aI l4, aJ, aI l6, aJ] [aI t0] n iv rv 0 0 := by
  unfold bd_X1_extreme_67 at h
  refine g_istore (q := 69) (k0 := 0) 5 (L' := [aR (some 47), aI l1, aI l2, aJ, aI l4, aI t0, aI l6, aJ]) X dX1_extreme_67 rfl (by decide) rfl rfl ?_
  refine g_iinc (q := 72) 6 (L' := [aR (some 47), aI l1, aI l2, aJ, aI l4, aI t0, aI (w32 (l6 + 1)), aJ]) X dX1_extreme_69 rfl (by decide) rfl rfl rfl ?_
  refine g_goto (q := 12) X dX1_extreme_72 (by decide) ?_
  exact hP12 _ _ _ _ _ _ h
def bd_X1_extreme_12 (P12 : Int → Int → Int → Int → Int → IV → Prop) (l1 l2 l4 l5 l6 : Int) (iv : IV) (rv : RV) (K : Int → IV → Prop) : Prop :=
  ((2000 ≤ l6) → (K l5 iv)) ∧ ((¬ (2000 ≤ l6)) → (wp_X6_nextChoice iv rv (fun r2 iv3 => ((r2 = 0) → (K l5 iv3)) ∧ ((¬ (r2 = 0)) → (wp_X1_hearOwner l1 iv3 rv (fun iv5 => wp_X0_owedAt l2 iv5 rv (fun r6 => ((l4 = 0) → (∀ r8, r8 = min l5 r6 → bd_X1_extreme_67 P12 l1 l2 l4 l6 r8 iv5 rv K)) ∧ ((¬ (l4 = 0)) → (∀ r9, r9 = max l5 r6 → bd_X1_extreme_67 P12 l1 l2 l4 l6 r9 iv5 rv K)))))))))
set_option maxRecDepth 10000 in
theorem cb_X1_extreme_12 {Γ : GX} {n : Nat} {iv : IV} {rv : RV} {K : Int → IV → Prop} {P12 : Int → Int → Int → Int → Int → IV → Prop} {l1 l2 l4 l5 l6 : Int} (X : Cx Γ RX1 cX1_extreme 8 5) (hR : Rt Γ (some .int) 0 0 (fI1 n rv K)) (hK : Lk n rv)  (hP12 : ∀ (l1' l2' l4' l5' l6' : Int) (iv' : IV), P12 l1' l2' l4' l5' l6' iv' → G Γ 8 12 [aR (some 47), aI (l1'), aI (l2'), aJ, aI (l4'), aI (l5'), aI (l6'), aJ] [] n iv' rv 0 0) (h : bd_X1_extreme_12 P12 l1 l2 l4 l5 l6 iv rv K) : G Γ 8 12 [aR (some 47), aI l1, aI l2, aJ, aI l4, aI l5, aI l6, aJ] [] n iv rv 0 0 := by
  unfold bd_X1_extreme_12 at h
  refine g_iload (q := 14) 6 X dX1_extreme_12 rfl rfl ?_
  refine g_sipush (q := 17) 2000 X dX1_extreme_14 rfl sc_2000 ic_2000 ?_
  refine g_icmp_ge (q := 20) 75 X dX1_extreme_17 (by decide) rfl (fun c1 => ?_) (fun c1 => ?_)
  · have h := h.1 c1
    refine g_iload (q := 77) 5 X dX1_extreme_75 rfl rfl ?_
    exact g_iret (q := 0) X hR dX1_extreme_77 rfl ⟨rfl, rfl, _, rfl, h⟩
  · have h := h.2 c1
    refine g_aload_n (q := 21) 0 X dX1_extreme_20 rfl rfl rfl ?_
    refine g_getR (q := 24) (r := some 51) 1 0 X (lk_47_0 hK) (lt2000 (c := 0) (by decide)) kf_X1_27 (by decide) (by decide) rfl rfl (hK.n (by decide)) dX1_extreme_21 rfl ?_
    refine g_cv (q := 27) [] 6 X (ce_X6_nextChoice hK  h) kV_X1_88 rfl (by decide) rfl (hK.n (by decide)) rfl rfl (Nat.le_of_ble_eq_true rfl) (by decide) dX1_extreme_24 rfl (fun r n_ iv_ rv_ hf => ?_)
    obtain ⟨en_, er_, r2, rfl, br2, h⟩ := hf; subst n_; subst rv_
    generalize iv_ = iv3 at h ⊢
    refine g_if_eq (q := 30) 75 X dX1_extreme_27 (by decide) rfl (fun c4 => ?_) (fun c4 => ?_)
    · have h := h.1 c4
      refine g_iload (q := 77) 5 X dX1_extreme_75 rfl rfl ?_
      exact g_iret (q := 0) X hR dX1_extreme_77 rfl ⟨rfl, rfl, _, rfl, h⟩
    · have h := h.2 c4
      refine g_aload_n (q := 31) 0 X dX1_extreme_30 rfl rfl rfl ?_
      refine g_iload_n (q := 32) 1 X dX1_extreme_31 rfl rfl rfl ?_
      refine g_cv (q := 35) [aI l1] 1 X (ce_X1_hearOwner hK  h) kV_X1_75 rfl (by decide) rfl (hK.n (by decide)) rfl rfl (Nat.le_of_ble_eq_true rfl) (by decide) dX1_extreme_32 rfl (fun r n_ iv_ rv_ hf => ?_)
      obtain ⟨en_, er_, rfl, h⟩ := hf; subst n_; subst rv_
      generalize iv_ = iv5 at h ⊢
      refine g_aload_n (q := 36) 0 X dX1_extreme_35 rfl rfl rfl ?_
      refine g_getR (q := 39) (r := some 58) 1 2 X (lk_47_2 hK) (lt2000 (c := 0) (by decide)) kf_X1_36 (by decide) (by decide) rfl rfl (hK.n (by decide)) dX1_extreme_36 rfl ?_
      refine g_iload_n (q := 40) 2 X dX1_extreme_39 rfl rfl rfl ?_
      refine g_cv (q := 43) [aI l2] 0 X (ce_X0_owedAt hK  h) kV_X1_78 rfl (by decide) rfl (hK.n (by decide)) rfl rfl (Nat.le_of_ble_eq_true rfl) (by decide) dX1_extreme_40 rfl (fun r n_ iv_ rv_ hf => ?_)
      obtain ⟨en_, ei_, er_, r6, rfl, h⟩ := hf; subst n_; subst iv_; subst rv_
      refine g_istore (q := 45) (k0 := 0) 7 (L' := [aR (some 47), aI l1, aI l2, aJ, aI l4, aI l5, aI l6, aI r6]) X dX1_extreme_43 rfl (by decide) rfl rfl ?_
      refine g_iload (q := 47) 4 X dX1_extreme_45 rfl rfl ?_
      refine g_if_eq (q := 50) 60 X dX1_extreme_47 (by decide) rfl (fun c7 => ?_) (fun c7 => ?_)
      · have h := h.1 c7
        refine g_iload (q := 62) 5 X dX1_extreme_60 rfl rfl ?_
        refine g_iload (q := 64) 7 X dX1_extreme_62 rfl rfl ?_
        refine g_cs (q := 67) [aI l5, aI r6] X (ce_min n iv5 rv l5 r6) kS_X1_97 rfl rfl (Nat.le_of_ble_eq_true rfl) (by decide) dX1_extreme_64 rfl (fun r n_ iv_ rv_ hf => ?_)
        obtain ⟨en_, ei_, er_, r8, rfl, er8⟩ := hf; subst n_; subst iv_; subst rv_
        have h := h r8 er8
        refine g_sub (L' := [aR (some 47), aI l1, aI l2, aJ, aI l4, aJ, aI l6, aJ]) ⟨Or.inr rfl, Or.inr rfl, Or.inr rfl, Or.inl rfl, Or.inr rfl, Or.inl rfl, Or.inr rfl, Or.inl rfl, trivial⟩ ?_
        exact cb_X1_extreme_67 X hR hK  hP12 h
      · have h := h.2 c7
        refine g_iload (q := 52) 5 X dX1_extreme_50 rfl rfl ?_
        refine g_iload (q := 54) 7 X dX1_extreme_52 rfl rfl ?_
        refine g_cs (q := 57) [aI l5, aI r6] X (ce_max n iv5 rv l5 r6) kS_X1_92 rfl rfl (Nat.le_of_ble_eq_true rfl) (by decide) dX1_extreme_54 rfl (fun r n_ iv_ rv_ hf => ?_)
        obtain ⟨en_, ei_, er_, r9, rfl, er9⟩ := hf; subst n_; subst iv_; subst rv_
        have h := h r9 er9
        refine g_goto (q := 67) X dX1_extreme_57 (by decide) ?_
        refine g_sub (L' := [aR (some 47), aI l1, aI l2, aJ, aI l4, aJ, aI l6, aJ]) ⟨Or.inr rfl, Or.inr rfl, Or.inr rfl, Or.inl rfl, Or.inr rfl, Or.inl rfl, Or.inr rfl, Or.inl rfl, trivial⟩ ?_
        exact cb_X1_extreme_67 X hR hK  hP12 h
def wl_X1_extreme_12 (l1 l2 l4 l5 l6 : Int) (iv : IV) (rv : RV) (K : Int → IV → Prop) : Prop :=
  ∀ P : Int → Int → Int → Int → Int → IV → Prop, (∀ (l1' l2' l4' l5' l6' : Int) (iv' : IV), bd_X1_extreme_12  P l1' l2' l4' l5' l6' iv' rv K → P l1' l2' l4' l5' l6' iv') → P l1 l2 l4 l5 l6 iv
theorem cl_X1_extreme_12 {Γ : GX} {n : Nat} {iv : IV} {rv : RV} {K : Int → IV → Prop} {l1 l2 l4 l5 l6 : Int} (X : Cx Γ RX1 cX1_extreme 8 5) (hR : Rt Γ (some .int) 0 0 (fI1 n rv K)) (hK : Lk n rv)  (h : wl_X1_extreme_12 l1 l2 l4 l5 l6 iv rv K) : G Γ 8 12 [aR (some 47), aI l1, aI l2, aJ, aI l4, aI l5, aI l6, aJ] [] n iv rv 0 0 := by
  exact h (fun l1' l2' l4' l5' l6' iv' =>  G Γ 8 12 [aR (some 47), aI (l1'), aI (l2'), aJ, aI (l4'), aI (l5'), aI (l6'), aJ] [] n iv' rv 0 0) (fun l1' l2' l4' l5' l6' iv' hb => cb_X1_extreme_12 X hR hK   (fun l1' l2' l4' l5' l6' iv' hp => hp) hb)
def wp_X1_extreme (a1 : Int) (a2 : Int) (a3 : Int) (a4 : Int) (iv : IV) (rv : RV) (K : Int → IV → Prop) : Prop :=
  wp_X1_owedAt a1 a2 a3 iv rv (fun r1 iv2 => wl_X1_extreme_12 a1 a2 a4 r1 1 iv2 rv K)
set_option maxRecDepth 10000 in
theorem ce_X1_extreme {n : Nat} {iv : IV} {rv : RV} {K : Int → IV → Prop} {a1 : Int} {a2 : Int} {a3 : Int} {a4 : Int} (hK : Lk n rv)  (h : wp_X1_extreme a1 a2 a3 a4 iv rv K) : Call 5 0 0 yX1_extreme cX1_extreme 8 (some .int) [aR (some 47), aI a1, aI a2, aI a3, aI a4] n iv rv (fI1 n rv K) := by
  refine Call.by (L := [aR (some 47), aI a1, aI a2, aI a3, aI a4, aJ, aJ, aJ]) (by decide) rfl ⟨trivial, trivial, trivial, trivial, trivial, trivial⟩ rfl (Nat.le_of_ble_eq_true rfl) (fun Γ X hR => ?_)
  unfold wp_X1_extreme at h
  refine g_aload_n (q := 1) 0 X dX1_extreme_0 rfl rfl rfl ?_
  refine g_iload_n (q := 2) 1 X dX1_extreme_1 rfl rfl rfl ?_
  refine g_iload_n (q := 3) 2 X dX1_extreme_2 rfl rfl rfl ?_
  refine g_iload_n (q := 4) 3 X dX1_extreme_3 rfl rfl rfl ?_
  refine g_cv (q := 7) [aI a1, aI a2, aI a3] 1 X (ce_X1_owedAt hK  h) kV_X1_85 rfl (by decide) rfl (hK.n (by decide)) rfl rfl (Nat.le_of_ble_eq_true rfl) (by decide) dX1_extreme_4 rfl (fun r n_ iv_ rv_ hf => ?_)
  obtain ⟨en_, er_, r1, rfl, h⟩ := hf; subst n_; subst rv_
  generalize iv_ = iv2 at h ⊢
  refine g_istore (q := 9) (k0 := 0) 5 (L' := [aR (some 47), aI a1, aI a2, aI a3, aI a4, aI r1, aJ, aJ]) X dX1_extreme_7 rfl (by decide) rfl rfl ?_
  refine g_iconst (q := 10) 1 X dX1_extreme_9 rfl rfl ic_1 ?_
  refine g_istore (q := 12) (k0 := 0) 6 (L' := [aR (some 47), aI a1, aI a2, aI a3, aI a4, aI r1, aI 1, aJ]) X dX1_extreme_10 rfl (by decide) rfl rfl ?_
  refine g_sub (L' := [aR (some 47), aI a1, aI a2, aJ, aI a4, aI r1, aI 1, aJ]) ⟨Or.inr rfl, Or.inr rfl, Or.inr rfl, Or.inl rfl, Or.inr rfl, Or.inr rfl, Or.inr rfl, Or.inl rfl, trivial⟩ ?_
  exact cl_X1_extreme_12 X hR hK   h
def wp_X1_owedOnWay (a1 : Int) (a2 : Int) (a3 : Int) (iv : IV) (rv : RV) (K : Int → IV → Prop) : Prop :=
  wp_X5_ofCart (gR rv 47 3) a1 6 iv rv (fun r1 => wp_X6_sit r1 iv rv (fun iv2 => wp_X0_hear a1 a2 a3 iv2 rv (fun iv3 => wp_X5_ofCart (gR rv 47 3) a1 5 iv3 rv (fun r4 => wp_X8_measure (gR rv 47 3) r4 iv3 rv (fun iv5 => wp_X5_ofCart (gR rv 47 3) a1 4 iv5 rv (fun r6 => (0 ≤ r6 ∧ r6 < 8) ∧ ∀ x8, x8 = iv5 50 r6.toNat → ((x8 < 1000000000) → (K (w32 (Int.tdiv x8 1000)) iv5)) ∧ ((¬ (x8 < 1000000000)) → (K (-1) iv5))))))))
set_option maxRecDepth 10000 in
theorem ce_X1_owedOnWay {n : Nat} {iv : IV} {rv : RV} {K : Int → IV → Prop} {a1 : Int} {a2 : Int} {a3 : Int} (hK : Lk n rv)  (h : wp_X1_owedOnWay a1 a2 a3 iv rv K) : Call 3 0 0 yX1_owedOnWay cX1_owedOnWay 5 (some .int) [aR (some 47), aI a1, aI a2, aI a3] n iv rv (fI1 n rv K) := by
  refine Call.by (L := [aR (some 47), aI a1, aI a2, aI a3, aJ]) (by decide) rfl ⟨trivial, trivial, trivial, trivial, trivial⟩ rfl (Nat.le_of_ble_eq_true rfl) (fun Γ X hR => ?_)
  unfold wp_X1_owedOnWay at h
  refine g_aload_n (q := 1) 0 X dX1_owedOnWay_0 rfl rfl rfl ?_
  refine g_getR (q := 4) (r := some 51) 1 0 X (lk_47_0 hK) (lt2000 (c := 0) (by decide)) kf_X1_27 (by decide) (by decide) rfl rfl (hK.n (by decide)) dX1_owedOnWay_1 rfl ?_
  refine g_aload_n (q := 5) 0 X dX1_owedOnWay_4 rfl rfl rfl ?_
  refine g_getR (q := 8) (r := some (gR rv 47 3)) 1 3 X hK.2.2.2.2.2.1.2.2.2.1.1 (lt2000 (c := 0) (isR_lt0 hK.2.2.2.2.2.1.2.2.2.1.2)) kf_X1_18 (by decide) (by decide) rfl rfl (hK.n (by decide)) dX1_owedOnWay_5 rfl ?_
  refine g_iload_n (q := 9) 1 X dX1_owedOnWay_8 rfl rfl rfl ?_
  refine g_bipush (q := 11) 6 X dX1_owedOnWay_9 rfl bc_6 ic_6 ?_
  refine g_cv (q := 14) [aI a1, aI 6] 5 X (ce_X5_ofCart hK hK.2.2.2.2.2.1.2.2.2.1.2 h) kV_X1_58 rfl (by decide) (shR_0 hK.2.2.2.2.2.1.2.2.2.1.2) (isR_n0 hK hK.2.2.2.2.2.1.2.2.2.1.2) rfl rfl (Nat.le_of_ble_eq_true rfl) (by decide) dX1_owedOnWay_11 rfl (fun r n_ iv_ rv_ hf => ?_)
  obtain ⟨en_, ei_, er_, r1, rfl, h⟩ := hf; subst n_; subst iv_; subst rv_
  refine g_cv (q := 17) [aI r1] 6 X (ce_X6_sit hK  h) kV_X1_44 rfl (by decide) rfl (hK.n (by decide)) rfl rfl (Nat.le_of_ble_eq_true rfl) (by decide) dX1_owedOnWay_14 rfl (fun r n_ iv_ rv_ hf => ?_)
  obtain ⟨en_, er_, rfl, h⟩ := hf; subst n_; subst rv_
  generalize iv_ = iv2 at h ⊢
  refine g_aload_n (q := 18) 0 X dX1_owedOnWay_17 rfl rfl rfl ?_
  refine g_getR (q := 21) (r := some 58) 1 2 X (lk_47_2 hK) (lt2000 (c := 0) (by decide)) kf_X1_36 (by decide) (by decide) rfl rfl (hK.n (by decide)) dX1_owedOnWay_18 rfl ?_
  refine g_iload_n (q := 22) 1 X dX1_owedOnWay_21 rfl rfl rfl ?_
  refine g_iload_n (q := 23) 2 X dX1_owedOnWay_22 rfl rfl rfl ?_
  refine g_iload_n (q := 24) 3 X dX1_owedOnWay_23 rfl rfl rfl ?_
  refine g_cv (q := 27) [aI a1, aI a2, aI a3] 0 X (ce_X0_hear hK  h) kV_X1_71 rfl (by decide) rfl (hK.n (by decide)) rfl rfl (Nat.le_of_ble_eq_true rfl) (by decide) dX1_owedOnWay_24 rfl (fun r n_ iv_ rv_ hf => ?_)
  obtain ⟨en_, er_, rfl, h⟩ := hf; subst n_; subst rv_
  generalize iv_ = iv3 at h ⊢
  refine g_aload_n (q := 28) 0 X dX1_owedOnWay_27 rfl rfl rfl ?_
  refine g_getR (q := 31) (r := some 48) 1 1 X (lk_47_1 hK) (lt2000 (c := 0) (by decide)) kf_X1_12 (by decide) (by decide) rfl rfl (hK.n (by decide)) dX1_owedOnWay_28 rfl ?_
  refine g_aload_n (q := 32) 0 X dX1_owedOnWay_31 rfl rfl rfl ?_
  refine g_getR (q := 35) (r := some (gR rv 47 3)) 1 3 X hK.2.2.2.2.2.1.2.2.2.1.1 (lt2000 (c := 0) (isR_lt0 hK.2.2.2.2.2.1.2.2.2.1.2)) kf_X1_18 (by decide) (by decide) rfl rfl (hK.n (by decide)) dX1_owedOnWay_32 rfl ?_
  refine g_aload_n (q := 36) 0 X dX1_owedOnWay_35 rfl rfl rfl ?_
  refine g_getR (q := 39) (r := some 58) 1 2 X (lk_47_2 hK) (lt2000 (c := 0) (by decide)) kf_X1_36 (by decide) (by decide) rfl rfl (hK.n (by decide)) dX1_owedOnWay_36 rfl ?_
  refine g_aload_n (q := 40) 0 X dX1_owedOnWay_39 rfl rfl rfl ?_
  refine g_getR (q := 43) (r := some (gR rv 47 3)) 1 3 X hK.2.2.2.2.2.1.2.2.2.1.1 (lt2000 (c := 0) (isR_lt0 hK.2.2.2.2.2.1.2.2.2.1.2)) kf_X1_18 (by decide) (by decide) rfl rfl (hK.n (by decide)) dX1_owedOnWay_40 rfl ?_
  refine g_iload_n (q := 44) 1 X dX1_owedOnWay_43 rfl rfl rfl ?_
  refine g_iconst (q := 45) 5 X dX1_owedOnWay_44 rfl rfl ic_5 ?_
  refine g_cv (q := 48) [aI a1, aI 5] 5 X (ce_X5_ofCart hK hK.2.2.2.2.2.1.2.2.2.1.2 h) kV_X1_58 rfl (by decide) (shR_0 hK.2.2.2.2.2.1.2.2.2.1.2) (isR_n0 hK hK.2.2.2.2.2.1.2.2.2.1.2) rfl rfl (Nat.le_of_ble_eq_true rfl) (by decide) dX1_owedOnWay_45 rfl (fun r n_ iv_ rv_ hf => ?_)
  obtain ⟨en_, ei_, er_, r4, rfl, h⟩ := hf; subst n_; subst iv_; subst rv_
  refine g_cv (q := 51) [aR (some (gR rv 47 3)), aR (some 58), aI r4] 8 X (ce_X8_measure hK hK.2.2.2.2.2.1.2.2.2.1.2 h) kV_X1_100 rfl (by decide) rfl (hK.n (by decide)) rfl rfl (Nat.le_of_ble_eq_true rfl) (by decide) dX1_owedOnWay_48 rfl (fun r n_ iv_ rv_ hf => ?_)
  obtain ⟨en_, er_, rfl, h⟩ := hf; subst n_; subst rv_
  generalize iv_ = iv5 at h ⊢
  refine g_aload_n (q := 52) 0 X dX1_owedOnWay_51 rfl rfl rfl ?_
  refine g_getR (q := 55) (r := some 48) 1 1 X (lk_47_1 hK) (lt2000 (c := 0) (by decide)) kf_X1_12 (by decide) (by decide) rfl rfl (hK.n (by decide)) dX1_owedOnWay_52 rfl ?_
  refine g_getR (q := 58) (r := some 50) 8 1 X (lk_48_1 hK) (lt2000 (c := 0) (by decide)) kf_X1_104 (by decide) (by decide) rfl rfl (hK.n (by decide)) dX1_owedOnWay_55 rfl ?_
  refine g_aload_n (q := 59) 0 X dX1_owedOnWay_58 rfl rfl rfl ?_
  refine g_getR (q := 62) (r := some (gR rv 47 3)) 1 3 X hK.2.2.2.2.2.1.2.2.2.1.1 (lt2000 (c := 0) (isR_lt0 hK.2.2.2.2.2.1.2.2.2.1.2)) kf_X1_18 (by decide) (by decide) rfl rfl (hK.n (by decide)) dX1_owedOnWay_59 rfl ?_
  refine g_iload_n (q := 63) 1 X dX1_owedOnWay_62 rfl rfl rfl ?_
  refine g_iconst (q := 64) 4 X dX1_owedOnWay_63 rfl rfl ic_4 ?_
  refine g_cv (q := 67) [aI a1, aI 4] 5 X (ce_X5_ofCart hK hK.2.2.2.2.2.1.2.2.2.1.2 h) kV_X1_58 rfl (by decide) (shR_0 hK.2.2.2.2.2.1.2.2.2.1.2) (isR_n0 hK hK.2.2.2.2.2.1.2.2.2.1.2) rfl rfl (Nat.le_of_ble_eq_true rfl) (by decide) dX1_owedOnWay_64 rfl (fun r n_ iv_ rv_ hf => ?_)
  obtain ⟨en_, ei_, er_, r6, rfl, h⟩ := hf; subst n_; subst iv_; subst rv_
  obtain ⟨s7, h⟩ := h
  refine g_iald (q := 68) X rfl (hK.n (by decide)) s7 dX1_owedOnWay_67 rfl ?_
  refine g_nmI (fun x8 ex8 => ?_)
  have h := h x8 ex8
  refine g_istore (q := 70) (k0 := 0) 4 (L' := [aR (some 47), aI a1, aI a2, aI a3, aI x8]) X dX1_owedOnWay_68 rfl (by decide) rfl rfl ?_
  refine g_iload (q := 72) 4 X dX1_owedOnWay_70 rfl rfl ?_
  refine g_ldc (q := 74) 1000000000 X kc_X1_107 dX1_owedOnWay_72 rfl ic_1000000000 ?_
  refine g_icmp_lt (q := 77) 81 X dX1_owedOnWay_74 (by decide) rfl (fun c9 => ?_) (fun c9 => ?_)
  · have h := h.1 c9
    refine g_iload (q := 83) 4 X dX1_owedOnWay_81 rfl rfl ?_
    refine g_sipush (q := 86) 1000 X dX1_owedOnWay_83 rfl sc_1000 ic_1000 ?_
    refine g_idiv (q := 87) X (by decide) dX1_owedOnWay_86 rfl ?_
    exact g_iret (q := 0) X hR dX1_owedOnWay_87 rfl ⟨rfl, rfl, _, rfl, h⟩
  · have h := h.2 c9
    refine g_iconst (q := 78) (-1) X dX1_owedOnWay_77 rfl rfl ic_m1 ?_
    refine g_goto (q := 87) X dX1_owedOnWay_78 (by decide) ?_
    exact g_iret (q := 0) X hR dX1_owedOnWay_87 rfl ⟨rfl, rfl, _, rfl, h⟩
def wp_X1_owedByOwner (a1 : Int) (iv : IV) (rv : RV) (K : Int → IV → Prop) : Prop :=
  wp_X5_ofCart (gR rv 47 3) a1 0 iv rv (fun r1 => (0 ≤ r1 ∧ r1 < 6) ∧ (0 ≤ r1 ∧ r1 < 6) ∧ wp_X1_owedOnWay a1 (iv (gR rv 47 3 + 2) r1.toNat) (iv (gR rv 47 3 + 3) r1.toNat) iv rv (fun r4 iv5 => K r4 iv5))
set_option maxRecDepth 10000 in
theorem ce_X1_owedByOwner {n : Nat} {iv : IV} {rv : RV} {K : Int → IV → Prop} {a1 : Int} (hK : Lk n rv)  (h : wp_X1_owedByOwner a1 iv rv K) : Call 4 0 0 yX1_owedByOwner cX1_owedByOwner 3 (some .int) [aR (some 47), aI a1] n iv rv (fI1 n rv K) := by
  refine Call.by (L := [aR (some 47), aI a1, aJ]) (by decide) rfl ⟨trivial, trivial, trivial⟩ rfl (Nat.le_of_ble_eq_true rfl) (fun Γ X hR => ?_)
  unfold wp_X1_owedByOwner at h
  refine g_aload_n (q := 1) 0 X dX1_owedByOwner_0 rfl rfl rfl ?_
  refine g_getR (q := 4) (r := some (gR rv 47 3)) 1 3 X hK.2.2.2.2.2.1.2.2.2.1.1 (lt2000 (c := 0) (isR_lt0 hK.2.2.2.2.2.1.2.2.2.1.2)) kf_X1_18 (by decide) (by decide) rfl rfl (hK.n (by decide)) dX1_owedByOwner_1 rfl ?_
  refine g_iload_n (q := 5) 1 X dX1_owedByOwner_4 rfl rfl rfl ?_
  refine g_iconst (q := 6) 0 X dX1_owedByOwner_5 rfl rfl ic_0 ?_
  refine g_cv (q := 9) [aI a1, aI 0] 5 X (ce_X5_ofCart hK hK.2.2.2.2.2.1.2.2.2.1.2 h) kV_X1_58 rfl (by decide) (shR_0 hK.2.2.2.2.2.1.2.2.2.1.2) (isR_n0 hK hK.2.2.2.2.2.1.2.2.2.1.2) rfl rfl (Nat.le_of_ble_eq_true rfl) (by decide) dX1_owedByOwner_6 rfl (fun r n_ iv_ rv_ hf => ?_)
  obtain ⟨en_, ei_, er_, r1, rfl, h⟩ := hf; subst n_; subst iv_; subst rv_
  refine g_istore_n (q := 10) 2 (L' := [aR (some 47), aI a1, aI r1]) X dX1_owedByOwner_9 rfl rfl (by decide) rfl rfl ?_
  refine g_aload_n (q := 11) 0 X dX1_owedByOwner_10 rfl rfl rfl ?_
  refine g_iload_n (q := 12) 1 X dX1_owedByOwner_11 rfl rfl rfl ?_
  refine g_aload_n (q := 13) 0 X dX1_owedByOwner_12 rfl rfl rfl ?_
  refine g_getR (q := 16) (r := some (gR rv 47 3)) 1 3 X hK.2.2.2.2.2.1.2.2.2.1.1 (lt2000 (c := 0) (isR_lt0 hK.2.2.2.2.2.1.2.2.2.1.2)) kf_X1_18 (by decide) (by decide) rfl rfl (hK.n (by decide)) dX1_owedByOwner_13 rfl ?_
  refine g_getR (q := 19) (r := some (gR rv 47 3 + 2)) 5 1 X (lkR_1 hK hK.2.2.2.2.2.1.2.2.2.1.2) (lt2000 (c := 0) (isR_lt hK.2.2.2.2.2.1.2.2.2.1.2 (by decide))) kf_X1_64 (by decide) (by decide) rfl (shR_0 hK.2.2.2.2.2.1.2.2.2.1.2) (isR_n0 hK hK.2.2.2.2.2.1.2.2.2.1.2) dX1_owedByOwner_16 rfl ?_
  refine g_iload_n (q := 20) 2 X dX1_owedByOwner_19 rfl rfl rfl ?_
  obtain ⟨s2, h⟩ := h
  refine g_iald (q := 21) X (shR_2 hK.2.2.2.2.2.1.2.2.2.1.2) (isR_n hK hK.2.2.2.2.2.1.2.2.2.1.2 (by decide)) s2 dX1_owedByOwner_20 rfl ?_
  refine g_aload_n (q := 22) 0 X dX1_owedByOwner_21 rfl rfl rfl ?_
  refine g_getR (q := 25) (r := some (gR rv 47 3)) 1 3 X hK.2.2.2.2.2.1.2.2.2.1.1 (lt2000 (c := 0) (isR_lt0 hK.2.2.2.2.2.1.2.2.2.1.2)) kf_X1_18 (by decide) (by decide) rfl rfl (hK.n (by decide)) dX1_owedByOwner_22 rfl ?_
  refine g_getR (q := 28) (r := some (gR rv 47 3 + 3)) 5 2 X (lkR_2 hK hK.2.2.2.2.2.1.2.2.2.1.2) (lt2000 (c := 0) (isR_lt hK.2.2.2.2.2.1.2.2.2.1.2 (by decide))) kf_X1_68 (by decide) (by decide) rfl (shR_0 hK.2.2.2.2.2.1.2.2.2.1.2) (isR_n0 hK hK.2.2.2.2.2.1.2.2.2.1.2) dX1_owedByOwner_25 rfl ?_
  refine g_iload_n (q := 29) 2 X dX1_owedByOwner_28 rfl rfl rfl ?_
  obtain ⟨s3, h⟩ := h
  refine g_iald (q := 30) X (shR_3 hK.2.2.2.2.2.1.2.2.2.1.2) (isR_n hK hK.2.2.2.2.2.1.2.2.2.1.2 (by decide)) s3 dX1_owedByOwner_29 rfl ?_
  refine g_cv (q := 33) [aI a1, aI (iv (gR rv 47 3 + 2) r1.toNat), aI (iv (gR rv 47 3 + 3) r1.toNat)] 1 X (ce_X1_owedOnWay hK  h) kV_X1_108 rfl (by decide) rfl (hK.n (by decide)) rfl rfl (Nat.le_of_ble_eq_true rfl) (by decide) dX1_owedByOwner_30 rfl (fun r n_ iv_ rv_ hf => ?_)
  obtain ⟨en_, er_, r4, rfl, h⟩ := hf; subst n_; subst rv_
  generalize iv_ = iv5 at h ⊢
  exact g_iret (q := 0) X hR dX1_owedByOwner_33 rfl ⟨rfl, rfl, _, rfl, h⟩
def bd_X1_cheapestMan_78 (P25 : Int → Int → Int → Int → IV → Prop) (l1 l2 l3 l4 : Int) (iv : IV) (rv : RV) (K : Int → IV → Prop) : Prop :=
  P25 l1 l2 l3 (w32 (l4 + 1)) iv
set_option maxRecDepth 10000 in
theorem cb_X1_cheapestMan_78 {Γ : GX} {n : Nat} {iv : IV} {rv : RV} {K : Int → IV → Prop} {P25 : Int → Int → Int → Int → IV → Prop} {l1 l2 l3 l4 : Int} (X : Cx Γ RX1 cX1_cheapestMan 6 5) (hR : Rt Γ (some .int) 0 0 (fI1 n rv K)) (hK : Lk n rv)  (hP25 : ∀ (l1' l2' l3' l4' : Int) (iv' : IV), P25 l1' l2' l3' l4' iv' → G Γ 6 25 [aR (some 47), aI (l1'), aI (l2'), aI (l3'), aI (l4'), aJ] [] n iv' rv 0 0) (h : bd_X1_cheapestMan_78 P25 l1 l2 l3 l4 iv rv K) : G Γ 6 78 [aR (some 47), aI l1, aI l2, aI l3, aI l4, aJ] [] n iv rv 0 0 := by
  unfold bd_X1_cheapestMan_78 at h
  refine g_iinc (q := 81) 4 (L' := [aR (some 47), aI l1, aI l2, aI l3, aI (w32 (l4 + 1)), aJ]) X dX1_cheapestMan_78 rfl (by decide) rfl rfl rfl ?_
  refine g_goto (q := 25) X dX1_cheapestMan_81 (by decide) ?_
  exact hP25 _ _ _ _ _ h
def bd_X1_cheapestMan_25 (P25 : Int → Int → Int → Int → IV → Prop) (l1 l2 l3 l4 : Int) (iv : IV) (rv : RV) (K : Int → IV → Prop) : Prop :=
  (((iv (gR rv 47 3 + 1) 2) ≤ l4) → (K l2 iv)) ∧ ((¬ ((iv (gR rv 47 3 + 1) 2) ≤ l4)) → ((0 ≤ l4 ∧ l4 < 6) ∧ (0 ≤ l4 ∧ l4 < 6) ∧ wp_X1_owedOnWay l1 (iv (gR rv 47 3 + 2) l4.toNat) (iv (gR rv 47 3 + 3) l4.toNat) iv rv (fun r4 iv5 => ((l3 ≤ r4) → (bd_X1_cheapestMan_78 P25 l1 l2 l3 l4 iv5 rv K)) ∧ ((¬ (l3 ≤ r4)) → (bd_X1_cheapestMan_78 P25 l1 l4 r4 l4 iv5 rv K)))))
set_option maxRecDepth 10000 in
theorem cb_X1_cheapestMan_25 {Γ : GX} {n : Nat} {iv : IV} {rv : RV} {K : Int → IV → Prop} {P25 : Int → Int → Int → Int → IV → Prop} {l1 l2 l3 l4 : Int} (X : Cx Γ RX1 cX1_cheapestMan 6 5) (hR : Rt Γ (some .int) 0 0 (fI1 n rv K)) (hK : Lk n rv)  (hP25 : ∀ (l1' l2' l3' l4' : Int) (iv' : IV), P25 l1' l2' l3' l4' iv' → G Γ 6 25 [aR (some 47), aI (l1'), aI (l2'), aI (l3'), aI (l4'), aJ] [] n iv' rv 0 0) (h : bd_X1_cheapestMan_25 P25 l1 l2 l3 l4 iv rv K) : G Γ 6 25 [aR (some 47), aI l1, aI l2, aI l3, aI l4, aJ] [] n iv rv 0 0 := by
  unfold bd_X1_cheapestMan_25 at h
  refine g_iload (q := 27) 4 X dX1_cheapestMan_25 rfl rfl ?_
  refine g_aload_n (q := 28) 0 X dX1_cheapestMan_27 rfl rfl rfl ?_
  refine g_getR (q := 31) (r := some (gR rv 47 3)) 1 3 X hK.2.2.2.2.2.1.2.2.2.1.1 (lt2000 (c := 0) (isR_lt0 hK.2.2.2.2.2.1.2.2.2.1.2)) kf_X1_18 (by decide) (by decide) rfl rfl (hK.n (by decide)) dX1_cheapestMan_28 rfl ?_
  refine g_getR (q := 34) (r := some (gR rv 47 3 + 1)) 5 0 X (lkR_0 hK hK.2.2.2.2.2.1.2.2.2.1.2) (lt2000 (c := 0) (isR_lt hK.2.2.2.2.2.1.2.2.2.1.2 (by decide))) kf_X1_114 (by decide) (by decide) rfl (shR_0 hK.2.2.2.2.2.1.2.2.2.1.2) (isR_n0 hK hK.2.2.2.2.2.1.2.2.2.1.2) dX1_cheapestMan_31 rfl ?_
  refine g_iconst (q := 35) 2 X dX1_cheapestMan_34 rfl rfl ic_2 ?_
  refine g_iald (q := 36) X (shR_1 hK.2.2.2.2.2.1.2.2.2.1.2) (isR_n hK hK.2.2.2.2.2.1.2.2.2.1.2 (by decide)) (by decide) dX1_cheapestMan_35 rfl ?_
  refine g_icmp_ge (q := 39) 84 X dX1_cheapestMan_36 (by decide) rfl (fun c1 => ?_) (fun c1 => ?_)
  · have h := h.1 c1
    refine g_iload_n (q := 85) 2 X dX1_cheapestMan_84 rfl rfl rfl ?_
    exact g_iret (q := 0) X hR dX1_cheapestMan_85 rfl ⟨rfl, rfl, _, rfl, h⟩
  · have h := h.2 c1
    refine g_aload_n (q := 40) 0 X dX1_cheapestMan_39 rfl rfl rfl ?_
    refine g_iload_n (q := 41) 1 X dX1_cheapestMan_40 rfl rfl rfl ?_
    refine g_aload_n (q := 42) 0 X dX1_cheapestMan_41 rfl rfl rfl ?_
    refine g_getR (q := 45) (r := some (gR rv 47 3)) 1 3 X hK.2.2.2.2.2.1.2.2.2.1.1 (lt2000 (c := 0) (isR_lt0 hK.2.2.2.2.2.1.2.2.2.1.2)) kf_X1_18 (by decide) (by decide) rfl rfl (hK.n (by decide)) dX1_cheapestMan_42 rfl ?_
    refine g_getR (q := 48) (r := some (gR rv 47 3 + 2)) 5 1 X (lkR_1 hK hK.2.2.2.2.2.1.2.2.2.1.2) (lt2000 (c := 0) (isR_lt hK.2.2.2.2.2.1.2.2.2.1.2 (by decide))) kf_X1_64 (by decide) (by decide) rfl (shR_0 hK.2.2.2.2.2.1.2.2.2.1.2) (isR_n0 hK hK.2.2.2.2.2.1.2.2.2.1.2) dX1_cheapestMan_45 rfl ?_
    refine g_iload (q := 50) 4 X dX1_cheapestMan_48 rfl rfl ?_
    obtain ⟨s2, h⟩ := h
    refine g_iald (q := 51) X (shR_2 hK.2.2.2.2.2.1.2.2.2.1.2) (isR_n hK hK.2.2.2.2.2.1.2.2.2.1.2 (by decide)) s2 dX1_cheapestMan_50 rfl ?_
    refine g_aload_n (q := 52) 0 X dX1_cheapestMan_51 rfl rfl rfl ?_
    refine g_getR (q := 55) (r := some (gR rv 47 3)) 1 3 X hK.2.2.2.2.2.1.2.2.2.1.1 (lt2000 (c := 0) (isR_lt0 hK.2.2.2.2.2.1.2.2.2.1.2)) kf_X1_18 (by decide) (by decide) rfl rfl (hK.n (by decide)) dX1_cheapestMan_52 rfl ?_
    refine g_getR (q := 58) (r := some (gR rv 47 3 + 3)) 5 2 X (lkR_2 hK hK.2.2.2.2.2.1.2.2.2.1.2) (lt2000 (c := 0) (isR_lt hK.2.2.2.2.2.1.2.2.2.1.2 (by decide))) kf_X1_68 (by decide) (by decide) rfl (shR_0 hK.2.2.2.2.2.1.2.2.2.1.2) (isR_n0 hK hK.2.2.2.2.2.1.2.2.2.1.2) dX1_cheapestMan_55 rfl ?_
    refine g_iload (q := 60) 4 X dX1_cheapestMan_58 rfl rfl ?_
    obtain ⟨s3, h⟩ := h
    refine g_iald (q := 61) X (shR_3 hK.2.2.2.2.2.1.2.2.2.1.2) (isR_n hK hK.2.2.2.2.2.1.2.2.2.1.2 (by decide)) s3 dX1_cheapestMan_60 rfl ?_
    refine g_cv (q := 64) [aI l1, aI (iv (gR rv 47 3 + 2) l4.toNat), aI (iv (gR rv 47 3 + 3) l4.toNat)] 1 X (ce_X1_owedOnWay hK  h) kV_X1_108 rfl (by decide) rfl (hK.n (by decide)) rfl rfl (Nat.le_of_ble_eq_true rfl) (by decide) dX1_cheapestMan_61 rfl (fun r n_ iv_ rv_ hf => ?_)
    obtain ⟨en_, er_, r4, rfl, h⟩ := hf; subst n_; subst rv_
    generalize iv_ = iv5 at h ⊢
    refine g_istore (q := 66) (k0 := 0) 5 (L' := [aR (some 47), aI l1, aI l2, aI l3, aI l4, aI r4]) X dX1_cheapestMan_64 rfl (by decide) rfl rfl ?_
    refine g_iload (q := 68) 5 X dX1_cheapestMan_66 rfl rfl ?_
    refine g_iload_n (q := 69) 3 X dX1_cheapestMan_68 rfl rfl rfl ?_
    refine g_icmp_ge (q := 72) 78 X dX1_cheapestMan_69 (by decide) rfl (fun c6 => ?_) (fun c6 => ?_)
    · have h := h.1 c6
      refine g_sub (L' := [aR (some 47), aI l1, aI l2, aI l3, aI l4, aJ]) ⟨Or.inr rfl, Or.inr rfl, Or.inr rfl, Or.inr rfl, Or.inr rfl, Or.inl rfl, trivial⟩ ?_
      exact cb_X1_cheapestMan_78 X hR hK  hP25 h
    · have h := h.2 c6
      refine g_iload (q := 74) 5 X dX1_cheapestMan_72 rfl rfl ?_
      refine g_istore_n (q := 75) 3 (L' := [aR (some 47), aI l1, aI l2, aI r4, aI l4, aI r4]) X dX1_cheapestMan_74 rfl rfl (by decide) rfl rfl ?_
      refine g_iload (q := 77) 4 X dX1_cheapestMan_75 rfl rfl ?_
      refine g_istore_n (q := 78) 2 (L' := [aR (some 47), aI l1, aI l4, aI r4, aI l4, aI r4]) X dX1_cheapestMan_77 rfl rfl (by decide) rfl rfl ?_
      refine g_sub (L' := [aR (some 47), aI l1, aI l4, aI r4, aI l4, aJ]) ⟨Or.inr rfl, Or.inr rfl, Or.inr rfl, Or.inr rfl, Or.inr rfl, Or.inl rfl, trivial⟩ ?_
      exact cb_X1_cheapestMan_78 X hR hK  hP25 h
def wl_X1_cheapestMan_25 (l1 l2 l3 l4 : Int) (iv : IV) (rv : RV) (K : Int → IV → Prop) : Prop :=
  ∀ P : Int → Int → Int → Int → IV → Prop, (∀ (l1' l2' l3' l4' : Int) (iv' : IV), bd_X1_cheapestMan_25  P l1' l2' l3' l4' iv' rv K → P l1' l2' l3' l4' iv') → P l1 l2 l3 l4 iv
theorem cl_X1_cheapestMan_25 {Γ : GX} {n : Nat} {iv : IV} {rv : RV} {K : Int → IV → Prop} {l1 l2 l3 l4 : Int} (X : Cx Γ RX1 cX1_cheapestMan 6 5) (hR : Rt Γ (some .int) 0 0 (fI1 n rv K)) (hK : Lk n rv)  (h : wl_X1_cheapestMan_25 l1 l2 l3 l4 iv rv K) : G Γ 6 25 [aR (some 47), aI l1, aI l2, aI l3, aI l4, aJ] [] n iv rv 0 0 := by
  exact h (fun l1' l2' l3' l4' iv' =>  G Γ 6 25 [aR (some 47), aI (l1'), aI (l2'), aI (l3'), aI (l4'), aJ] [] n iv' rv 0 0) (fun l1' l2' l3' l4' iv' hb => cb_X1_cheapestMan_25 X hR hK   (fun l1' l2' l3' l4' iv' hp => hp) hb)
def wp_X1_cheapestMan (a1 : Int) (iv : IV) (rv : RV) (K : Int → IV → Prop) : Prop :=
  wp_X5_ofCart (gR rv 47 3) a1 0 iv rv (fun r1 => wp_X1_owedByOwner a1 iv rv (fun r2 iv3 => ((0 ≤ r2) → (wl_X1_cheapestMan_25 a1 r1 r2 0 iv3 rv K)) ∧ ((¬ (0 ≤ r2)) → (K (-1) iv3))))
set_option maxRecDepth 10000 in
theorem ce_X1_cheapestMan {n : Nat} {iv : IV} {rv : RV} {K : Int → IV → Prop} {a1 : Int} (hK : Lk n rv)  (h : wp_X1_cheapestMan a1 iv rv K) : Call 5 0 0 yX1_cheapestMan cX1_cheapestMan 6 (some .int) [aR (some 47), aI a1] n iv rv (fI1 n rv K) := by
  refine Call.by (L := [aR (some 47), aI a1, aJ, aJ, aJ, aJ]) (by decide) rfl ⟨trivial, trivial, trivial⟩ rfl (Nat.le_of_ble_eq_true rfl) (fun Γ X hR => ?_)
  unfold wp_X1_cheapestMan at h
  refine g_aload_n (q := 1) 0 X dX1_cheapestMan_0 rfl rfl rfl ?_
  refine g_getR (q := 4) (r := some (gR rv 47 3)) 1 3 X hK.2.2.2.2.2.1.2.2.2.1.1 (lt2000 (c := 0) (isR_lt0 hK.2.2.2.2.2.1.2.2.2.1.2)) kf_X1_18 (by decide) (by decide) rfl rfl (hK.n (by decide)) dX1_cheapestMan_1 rfl ?_
  refine g_iload_n (q := 5) 1 X dX1_cheapestMan_4 rfl rfl rfl ?_
  refine g_iconst (q := 6) 0 X dX1_cheapestMan_5 rfl rfl ic_0 ?_
  refine g_cv (q := 9) [aI a1, aI 0] 5 X (ce_X5_ofCart hK hK.2.2.2.2.2.1.2.2.2.1.2 h) kV_X1_58 rfl (by decide) (shR_0 hK.2.2.2.2.2.1.2.2.2.1.2) (isR_n0 hK hK.2.2.2.2.2.1.2.2.2.1.2) rfl rfl (Nat.le_of_ble_eq_true rfl) (by decide) dX1_cheapestMan_6 rfl (fun r n_ iv_ rv_ hf => ?_)
  obtain ⟨en_, ei_, er_, r1, rfl, h⟩ := hf; subst n_; subst iv_; subst rv_
  refine g_istore_n (q := 10) 2 (L' := [aR (some 47), aI a1, aI r1, aJ, aJ, aJ]) X dX1_cheapestMan_9 rfl rfl (by decide) rfl rfl ?_
  refine g_aload_n (q := 11) 0 X dX1_cheapestMan_10 rfl rfl rfl ?_
  refine g_iload_n (q := 12) 1 X dX1_cheapestMan_11 rfl rfl rfl ?_
  refine g_cv (q := 15) [aI a1] 1 X (ce_X1_owedByOwner hK  h) kV_X1_111 rfl (by decide) rfl (hK.n (by decide)) rfl rfl (Nat.le_of_ble_eq_true rfl) (by decide) dX1_cheapestMan_12 rfl (fun r n_ iv_ rv_ hf => ?_)
  obtain ⟨en_, er_, r2, rfl, h⟩ := hf; subst n_; subst rv_
  generalize iv_ = iv3 at h ⊢
  refine g_istore_n (q := 16) 3 (L' := [aR (some 47), aI a1, aI r1, aI r2, aJ, aJ]) X dX1_cheapestMan_15 rfl rfl (by decide) rfl rfl ?_
  refine g_iload_n (q := 17) 3 X dX1_cheapestMan_16 rfl rfl rfl ?_
  refine g_if_ge (q := 20) 22 X dX1_cheapestMan_17 (by decide) rfl (fun c4 => ?_) (fun c4 => ?_)
  · have h := h.1 c4
    refine g_iconst (q := 23) 0 X dX1_cheapestMan_22 rfl rfl ic_0 ?_
    refine g_istore (q := 25) (k0 := 0) 4 (L' := [aR (some 47), aI a1, aI r1, aI r2, aI 0, aJ]) X dX1_cheapestMan_23 rfl (by decide) rfl rfl ?_
    exact cl_X1_cheapestMan_25 X hR hK   h
  · have h := h.2 c4
    refine g_iconst (q := 21) (-1) X dX1_cheapestMan_20 rfl rfl ic_m1 ?_
    exact g_iret (q := 0) X hR dX1_cheapestMan_21 rfl ⟨rfl, rfl, _, rfl, h⟩
def bd_X1_allCoin_4 (P4 : Int → Int → IV → Prop) (l1 l2 : Int) (iv : IV) (rv : RV) (K : Int → IV → Prop) : Prop :=
  (((iv (gR rv 47 3 + 1) 11) ≤ l2) → (K l1 iv)) ∧ ((¬ ((iv (gR rv 47 3 + 1) 11) ≤ l2)) → (wp_X5_ofCart (gR rv 47 3) l2 0 iv rv (fun r2 => (0 ≤ r2 ∧ r2 < 6) ∧ (0 ≤ r2 ∧ r2 < 6) ∧ wp_X1_owedOnWay l2 (iv (gR rv 47 3 + 2) r2.toNat) (iv (gR rv 47 3 + 3) r2.toNat) iv rv (fun r5 iv6 => ∀ r7, r7 = max 0 r5 → ∀ x8, x8 = w32 (l1 + r7) → P4 x8 (w32 (l2 + 1)) iv6))))
set_option maxRecDepth 10000 in
theorem cb_X1_allCoin_4 {Γ : GX} {n : Nat} {iv : IV} {rv : RV} {K : Int → IV → Prop} {P4 : Int → Int → IV → Prop} {l1 l2 : Int} (X : Cx Γ RX1 cX1_allCoin 4 4) (hR : Rt Γ (some .int) 0 0 (fI1 n rv K)) (hK : Lk n rv)  (hP4 : ∀ (l1' l2' : Int) (iv' : IV), P4 l1' l2' iv' → G Γ 4 4 [aR (some 47), aI (l1'), aI (l2'), aJ] [] n iv' rv 0 0) (h : bd_X1_allCoin_4 P4 l1 l2 iv rv K) : G Γ 4 4 [aR (some 47), aI l1, aI l2, aJ] [] n iv rv 0 0 := by
  unfold bd_X1_allCoin_4 at h
  refine g_iload_n (q := 5) 2 X dX1_allCoin_4 rfl rfl rfl ?_
  refine g_aload_n (q := 6) 0 X dX1_allCoin_5 rfl rfl rfl ?_
  refine g_getR (q := 9) (r := some (gR rv 47 3)) 1 3 X hK.2.2.2.2.2.1.2.2.2.1.1 (lt2000 (c := 0) (isR_lt0 hK.2.2.2.2.2.1.2.2.2.1.2)) kf_X1_18 (by decide) (by decide) rfl rfl (hK.n (by decide)) dX1_allCoin_6 rfl ?_
  refine g_getR (q := 12) (r := some (gR rv 47 3 + 1)) 5 0 X (lkR_0 hK hK.2.2.2.2.2.1.2.2.2.1.2) (lt2000 (c := 0) (isR_lt hK.2.2.2.2.2.1.2.2.2.1.2 (by decide))) kf_X1_114 (by decide) (by decide) rfl (shR_0 hK.2.2.2.2.2.1.2.2.2.1.2) (isR_n0 hK hK.2.2.2.2.2.1.2.2.2.1.2) dX1_allCoin_9 rfl ?_
  refine g_bipush (q := 14) 11 X dX1_allCoin_12 rfl bc_11 ic_11 ?_
  refine g_iald (q := 15) X (shR_1 hK.2.2.2.2.2.1.2.2.2.1.2) (isR_n hK hK.2.2.2.2.2.1.2.2.2.1.2 (by decide)) (by decide) dX1_allCoin_14 rfl ?_
  refine g_icmp_ge (q := 18) 64 X dX1_allCoin_15 (by decide) rfl (fun c1 => ?_) (fun c1 => ?_)
  · have h := h.1 c1
    refine g_iload_n (q := 65) 1 X dX1_allCoin_64 rfl rfl rfl ?_
    exact g_iret (q := 0) X hR dX1_allCoin_65 rfl ⟨rfl, rfl, _, rfl, h⟩
  · have h := h.2 c1
    refine g_aload_n (q := 19) 0 X dX1_allCoin_18 rfl rfl rfl ?_
    refine g_getR (q := 22) (r := some (gR rv 47 3)) 1 3 X hK.2.2.2.2.2.1.2.2.2.1.1 (lt2000 (c := 0) (isR_lt0 hK.2.2.2.2.2.1.2.2.2.1.2)) kf_X1_18 (by decide) (by decide) rfl rfl (hK.n (by decide)) dX1_allCoin_19 rfl ?_
    refine g_iload_n (q := 23) 2 X dX1_allCoin_22 rfl rfl rfl ?_
    refine g_iconst (q := 24) 0 X dX1_allCoin_23 rfl rfl ic_0 ?_
    refine g_cv (q := 27) [aI l2, aI 0] 5 X (ce_X5_ofCart hK hK.2.2.2.2.2.1.2.2.2.1.2 h) kV_X1_58 rfl (by decide) (shR_0 hK.2.2.2.2.2.1.2.2.2.1.2) (isR_n0 hK hK.2.2.2.2.2.1.2.2.2.1.2) rfl rfl (Nat.le_of_ble_eq_true rfl) (by decide) dX1_allCoin_24 rfl (fun r n_ iv_ rv_ hf => ?_)
    obtain ⟨en_, ei_, er_, r2, rfl, h⟩ := hf; subst n_; subst iv_; subst rv_
    refine g_istore_n (q := 28) 3 (L' := [aR (some 47), aI l1, aI l2, aI r2]) X dX1_allCoin_27 rfl rfl (by decide) rfl rfl ?_
    refine g_iload_n (q := 29) 1 X dX1_allCoin_28 rfl rfl rfl ?_
    refine g_iconst (q := 30) 0 X dX1_allCoin_29 rfl rfl ic_0 ?_
    refine g_aload_n (q := 31) 0 X dX1_allCoin_30 rfl rfl rfl ?_
    refine g_iload_n (q := 32) 2 X dX1_allCoin_31 rfl rfl rfl ?_
    refine g_aload_n (q := 33) 0 X dX1_allCoin_32 rfl rfl rfl ?_
    refine g_getR (q := 36) (r := some (gR rv 47 3)) 1 3 X hK.2.2.2.2.2.1.2.2.2.1.1 (lt2000 (c := 0) (isR_lt0 hK.2.2.2.2.2.1.2.2.2.1.2)) kf_X1_18 (by decide) (by decide) rfl rfl (hK.n (by decide)) dX1_allCoin_33 rfl ?_
    refine g_getR (q := 39) (r := some (gR rv 47 3 + 2)) 5 1 X (lkR_1 hK hK.2.2.2.2.2.1.2.2.2.1.2) (lt2000 (c := 0) (isR_lt hK.2.2.2.2.2.1.2.2.2.1.2 (by decide))) kf_X1_64 (by decide) (by decide) rfl (shR_0 hK.2.2.2.2.2.1.2.2.2.1.2) (isR_n0 hK hK.2.2.2.2.2.1.2.2.2.1.2) dX1_allCoin_36 rfl ?_
    refine g_iload_n (q := 40) 3 X dX1_allCoin_39 rfl rfl rfl ?_
    obtain ⟨s3, h⟩ := h
    refine g_iald (q := 41) X (shR_2 hK.2.2.2.2.2.1.2.2.2.1.2) (isR_n hK hK.2.2.2.2.2.1.2.2.2.1.2 (by decide)) s3 dX1_allCoin_40 rfl ?_
    refine g_aload_n (q := 42) 0 X dX1_allCoin_41 rfl rfl rfl ?_
    refine g_getR (q := 45) (r := some (gR rv 47 3)) 1 3 X hK.2.2.2.2.2.1.2.2.2.1.1 (lt2000 (c := 0) (isR_lt0 hK.2.2.2.2.2.1.2.2.2.1.2)) kf_X1_18 (by decide) (by decide) rfl rfl (hK.n (by decide)) dX1_allCoin_42 rfl ?_
    refine g_getR (q := 48) (r := some (gR rv 47 3 + 3)) 5 2 X (lkR_2 hK hK.2.2.2.2.2.1.2.2.2.1.2) (lt2000 (c := 0) (isR_lt hK.2.2.2.2.2.1.2.2.2.1.2 (by decide))) kf_X1_68 (by decide) (by decide) rfl (shR_0 hK.2.2.2.2.2.1.2.2.2.1.2) (isR_n0 hK hK.2.2.2.2.2.1.2.2.2.1.2) dX1_allCoin_45 rfl ?_
    refine g_iload_n (q := 49) 3 X dX1_allCoin_48 rfl rfl rfl ?_
    obtain ⟨s4, h⟩ := h
    refine g_iald (q := 50) X (shR_3 hK.2.2.2.2.2.1.2.2.2.1.2) (isR_n hK hK.2.2.2.2.2.1.2.2.2.1.2 (by decide)) s4 dX1_allCoin_49 rfl ?_
    refine g_cv (q := 53) [aI l2, aI (iv (gR rv 47 3 + 2) r2.toNat), aI (iv (gR rv 47 3 + 3) r2.toNat)] 1 X (ce_X1_owedOnWay hK  h) kV_X1_108 rfl (by decide) rfl (hK.n (by decide)) rfl rfl (Nat.le_of_ble_eq_true rfl) (by decide) dX1_allCoin_50 rfl (fun r n_ iv_ rv_ hf => ?_)
    obtain ⟨en_, er_, r5, rfl, h⟩ := hf; subst n_; subst rv_
    generalize iv_ = iv6 at h ⊢
    refine g_cs (q := 56) [aI 0, aI r5] X (ce_max n iv6 rv 0 r5) kS_X1_92 rfl rfl (Nat.le_of_ble_eq_true rfl) (by decide) dX1_allCoin_53 rfl (fun r n_ iv_ rv_ hf => ?_)
    obtain ⟨en_, ei_, er_, r7, rfl, er7⟩ := hf; subst n_; subst iv_; subst rv_
    have h := h r7 er7
    refine g_iadd (q := 57) X dX1_allCoin_56 rfl ?_
    refine g_nmI (fun x8 ex8 => ?_)
    have h := h x8 ex8
    refine g_istore_n (q := 58) 1 (L' := [aR (some 47), aI x8, aI l2, aI r2]) X dX1_allCoin_57 rfl rfl (by decide) rfl rfl ?_
    refine g_iinc (q := 61) 2 (L' := [aR (some 47), aI x8, aI (w32 (l2 + 1)), aI r2]) X dX1_allCoin_58 rfl (by decide) rfl rfl rfl ?_
    refine g_goto (q := 4) X dX1_allCoin_61 (by decide) ?_
    refine g_sub (L' := [aR (some 47), aI x8, aI (w32 (l2 + 1)), aJ]) ⟨Or.inr rfl, Or.inr rfl, Or.inr rfl, Or.inl rfl, trivial⟩ ?_
    exact hP4 _ _ _ h
def wl_X1_allCoin_4 (l1 l2 : Int) (iv : IV) (rv : RV) (K : Int → IV → Prop) : Prop :=
  ∀ P : Int → Int → IV → Prop, (∀ (l1' l2' : Int) (iv' : IV), bd_X1_allCoin_4  P l1' l2' iv' rv K → P l1' l2' iv') → P l1 l2 iv
theorem cl_X1_allCoin_4 {Γ : GX} {n : Nat} {iv : IV} {rv : RV} {K : Int → IV → Prop} {l1 l2 : Int} (X : Cx Γ RX1 cX1_allCoin 4 4) (hR : Rt Γ (some .int) 0 0 (fI1 n rv K)) (hK : Lk n rv)  (h : wl_X1_allCoin_4 l1 l2 iv rv K) : G Γ 4 4 [aR (some 47), aI l1, aI l2, aJ] [] n iv rv 0 0 := by
  exact h (fun l1' l2' iv' =>  G Γ 4 4 [aR (some 47), aI (l1'), aI (l2'), aJ] [] n iv' rv 0 0) (fun l1' l2' iv' hb => cb_X1_allCoin_4 X hR hK   (fun l1' l2' iv' hp => hp) hb)
def wp_X1_allCoin (iv : IV) (rv : RV) (K : Int → IV → Prop) : Prop :=
  wl_X1_allCoin_4 0 0 iv rv K
set_option maxRecDepth 10000 in
theorem ce_X1_allCoin {n : Nat} {iv : IV} {rv : RV} {K : Int → IV → Prop} (hK : Lk n rv)  (h : wp_X1_allCoin  iv rv K) : Call 4 0 0 yX1_allCoin cX1_allCoin 4 (some .int) [aR (some 47)] n iv rv (fI1 n rv K) := by
  refine Call.by (L := [aR (some 47), aJ, aJ, aJ]) (by decide) rfl ⟨trivial, trivial⟩ rfl (Nat.le_of_ble_eq_true rfl) (fun Γ X hR => ?_)
  unfold wp_X1_allCoin at h
  refine g_iconst (q := 1) 0 X dX1_allCoin_0 rfl rfl ic_0 ?_
  refine g_istore_n (q := 2) 1 (L' := [aR (some 47), aI 0, aJ, aJ]) X dX1_allCoin_1 rfl rfl (by decide) rfl rfl ?_
  refine g_iconst (q := 3) 0 X dX1_allCoin_2 rfl rfl ic_0 ?_
  refine g_istore_n (q := 4) 2 (L' := [aR (some 47), aI 0, aI 0, aJ]) X dX1_allCoin_3 rfl rfl (by decide) rfl rfl ?_
  exact cl_X1_allCoin_4 X hR hK   h
def bd_X1_moved_23 (P23 : Int → Int → Int → Int → Int → IV → Prop) (l1 l2 l3 l4 l5 : Int) (iv : IV) (rv : RV) (K : Int → IV → Prop) : Prop :=
  (0 ≤ l1 ∧ l1 < 16) ∧ (((iv (gR rv 47 3 + 9) l1.toNat) < l5) → ((0 ≤ l1 ∧ l1 < 16) ∧ ∀ iv4, iv4 = w2 iv 52 l1.toNat l2 → K (w32 (l4 - l3)) iv4)) ∧ ((¬ ((iv (gR rv 47 3 + 9) l1.toNat) < l5)) → ((0 ≤ l1 ∧ l1 < 16) ∧ ∀ iv6, iv6 = w2 iv 52 l1.toNat l5 → wp_X1_allCoin iv6 rv (fun r7 iv8 => ∀ r9, r9 = min l3 r7 → ∀ r10, r10 = max l4 r7 → P23 l1 l2 r9 r10 (w32 (l5 + 1)) iv8)))
set_option maxRecDepth 10000 in
theorem cb_X1_moved_23 {Γ : GX} {n : Nat} {iv : IV} {rv : RV} {K : Int → IV → Prop} {P23 : Int → Int → Int → Int → Int → IV → Prop} {l1 l2 l3 l4 l5 : Int} (X : Cx Γ RX1 cX1_moved 7 5) (hR : Rt Γ (some .int) 0 0 (fI1 n rv K)) (hK : Lk n rv)  (hP23 : ∀ (l1' l2' l3' l4' l5' : Int) (iv' : IV), P23 l1' l2' l3' l4' l5' iv' → G Γ 7 23 [aR (some 47), aI (l1'), aI (l2'), aI (l3'), aI (l4'), aI (l5'), aJ] [] n iv' rv 0 0) (h : bd_X1_moved_23 P23 l1 l2 l3 l4 l5 iv rv K) : G Γ 7 23 [aR (some 47), aI l1, aI l2, aI l3, aI l4, aI l5, aJ] [] n iv rv 0 0 := by
  unfold bd_X1_moved_23 at h
  refine g_iload (q := 25) 5 X dX1_moved_23 rfl rfl ?_
  refine g_aload_n (q := 26) 0 X dX1_moved_25 rfl rfl rfl ?_
  refine g_getR (q := 29) (r := some (gR rv 47 3)) 1 3 X hK.2.2.2.2.2.1.2.2.2.1.1 (lt2000 (c := 0) (isR_lt0 hK.2.2.2.2.2.1.2.2.2.1.2)) kf_X1_18 (by decide) (by decide) rfl rfl (hK.n (by decide)) dX1_moved_26 rfl ?_
  refine g_getR (q := 32) (r := some (gR rv 47 3 + 9)) 5 8 X (lkR_8 hK hK.2.2.2.2.2.1.2.2.2.1.2) (lt2000 (c := 0) (isR_lt hK.2.2.2.2.2.1.2.2.2.1.2 (by decide))) kf_X1_124 (by decide) (by decide) rfl (shR_0 hK.2.2.2.2.2.1.2.2.2.1.2) (isR_n0 hK hK.2.2.2.2.2.1.2.2.2.1.2) dX1_moved_29 rfl ?_
  refine g_iload_n (q := 33) 1 X dX1_moved_32 rfl rfl rfl ?_
  obtain ⟨s1, h⟩ := h
  refine g_iald (q := 34) X (shR_9 hK.2.2.2.2.2.1.2.2.2.1.2) (isR_n hK hK.2.2.2.2.2.1.2.2.2.1.2 (by decide)) s1 dX1_moved_33 rfl ?_
  refine g_icmp_gt (q := 37) 76 X dX1_moved_34 (by decide) rfl (fun c2 => ?_) (fun c2 => ?_)
  · have h := h.1 c2
    refine g_aload_n (q := 77) 0 X dX1_moved_76 rfl rfl rfl ?_
    refine g_getR (q := 80) (r := some 51) 1 0 X (lk_47_0 hK) (lt2000 (c := 0) (by decide)) kf_X1_27 (by decide) (by decide) rfl rfl (hK.n (by decide)) dX1_moved_77 rfl ?_
    refine g_getR (q := 83) (r := some 52) 6 0 X (lk_51_0 hK) (lt2000 (c := 0) (by decide)) kf_X1_127 (by decide) (by decide) rfl rfl (hK.n (by decide)) dX1_moved_80 rfl ?_
    refine g_iload_n (q := 84) 1 X dX1_moved_83 rfl rfl rfl ?_
    refine g_iload_n (q := 85) 2 X dX1_moved_84 rfl rfl rfl ?_
    obtain ⟨s3, h⟩ := h
    refine g_iast (q := 86) X rfl (hK.n (by decide)) s3 dX1_moved_85 rfl ?_
    refine g_nmM (fun iv4 eiv4 => ?_)
    have h := h iv4 eiv4
    refine g_iload (q := 88) 4 X dX1_moved_86 rfl rfl ?_
    refine g_iload_n (q := 89) 3 X dX1_moved_88 rfl rfl rfl ?_
    refine g_isub (q := 90) X dX1_moved_89 rfl ?_
    exact g_iret (q := 0) X hR dX1_moved_90 rfl ⟨rfl, rfl, _, rfl, h⟩
  · have h := h.2 c2
    refine g_aload_n (q := 38) 0 X dX1_moved_37 rfl rfl rfl ?_
    refine g_getR (q := 41) (r := some 51) 1 0 X (lk_47_0 hK) (lt2000 (c := 0) (by decide)) kf_X1_27 (by decide) (by decide) rfl rfl (hK.n (by decide)) dX1_moved_38 rfl ?_
    refine g_getR (q := 44) (r := some 52) 6 0 X (lk_51_0 hK) (lt2000 (c := 0) (by decide)) kf_X1_127 (by decide) (by decide) rfl rfl (hK.n (by decide)) dX1_moved_41 rfl ?_
    refine g_iload_n (q := 45) 1 X dX1_moved_44 rfl rfl rfl ?_
    refine g_iload (q := 47) 5 X dX1_moved_45 rfl rfl ?_
    obtain ⟨s5, h⟩ := h
    refine g_iast (q := 48) X rfl (hK.n (by decide)) s5 dX1_moved_47 rfl ?_
    refine g_nmM (fun iv6 eiv6 => ?_)
    have h := h iv6 eiv6
    refine g_aload_n (q := 49) 0 X dX1_moved_48 rfl rfl rfl ?_
    refine g_cv (q := 52) [] 1 X (ce_X1_allCoin hK  h) kV_X1_120 rfl (by decide) rfl (hK.n (by decide)) rfl rfl (Nat.le_of_ble_eq_true rfl) (by decide) dX1_moved_49 rfl (fun r n_ iv_ rv_ hf => ?_)
    obtain ⟨en_, er_, r7, rfl, h⟩ := hf; subst n_; subst rv_
    generalize iv_ = iv8 at h ⊢
    refine g_istore (q := 54) (k0 := 0) 6 (L' := [aR (some 47), aI l1, aI l2, aI l3, aI l4, aI l5, aI r7]) X dX1_moved_52 rfl (by decide) rfl rfl ?_
    refine g_iload_n (q := 55) 3 X dX1_moved_54 rfl rfl rfl ?_
    refine g_iload (q := 57) 6 X dX1_moved_55 rfl rfl ?_
    refine g_cs (q := 60) [aI l3, aI r7] X (ce_min n iv8 rv l3 r7) kS_X1_97 rfl rfl (Nat.le_of_ble_eq_true rfl) (by decide) dX1_moved_57 rfl (fun r n_ iv_ rv_ hf => ?_)
    obtain ⟨en_, ei_, er_, r9, rfl, er9⟩ := hf; subst n_; subst iv_; subst rv_
    have h := h r9 er9
    refine g_istore_n (q := 61) 3 (L' := [aR (some 47), aI l1, aI l2, aI r9, aI l4, aI l5, aI r7]) X dX1_moved_60 rfl rfl (by decide) rfl rfl ?_
    refine g_iload (q := 63) 4 X dX1_moved_61 rfl rfl ?_
    refine g_iload (q := 65) 6 X dX1_moved_63 rfl rfl ?_
    refine g_cs (q := 68) [aI l4, aI r7] X (ce_max n iv8 rv l4 r7) kS_X1_92 rfl rfl (Nat.le_of_ble_eq_true rfl) (by decide) dX1_moved_65 rfl (fun r n_ iv_ rv_ hf => ?_)
    obtain ⟨en_, ei_, er_, r10, rfl, er10⟩ := hf; subst n_; subst iv_; subst rv_
    have h := h r10 er10
    refine g_istore (q := 70) (k0 := 0) 4 (L' := [aR (some 47), aI l1, aI l2, aI r9, aI r10, aI l5, aI r7]) X dX1_moved_68 rfl (by decide) rfl rfl ?_
    refine g_iinc (q := 73) 5 (L' := [aR (some 47), aI l1, aI l2, aI r9, aI r10, aI (w32 (l5 + 1)), aI r7]) X dX1_moved_70 rfl (by decide) rfl rfl rfl ?_
    refine g_goto (q := 23) X dX1_moved_73 (by decide) ?_
    refine g_sub (L' := [aR (some 47), aI l1, aI l2, aI r9, aI r10, aI (w32 (l5 + 1)), aJ]) ⟨Or.inr rfl, Or.inr rfl, Or.inr rfl, Or.inr rfl, Or.inr rfl, Or.inr rfl, Or.inl rfl, trivial⟩ ?_
    exact hP23 _ _ _ _ _ _ h
def wl_X1_moved_23 (l1 l2 l3 l4 l5 : Int) (iv : IV) (rv : RV) (K : Int → IV → Prop) : Prop :=
  ∀ P : Int → Int → Int → Int → Int → IV → Prop, (∀ (l1' l2' l3' l4' l5' : Int) (iv' : IV), bd_X1_moved_23  P l1' l2' l3' l4' l5' iv' rv K → P l1' l2' l3' l4' l5' iv') → P l1 l2 l3 l4 l5 iv
theorem cl_X1_moved_23 {Γ : GX} {n : Nat} {iv : IV} {rv : RV} {K : Int → IV → Prop} {l1 l2 l3 l4 l5 : Int} (X : Cx Γ RX1 cX1_moved 7 5) (hR : Rt Γ (some .int) 0 0 (fI1 n rv K)) (hK : Lk n rv)  (h : wl_X1_moved_23 l1 l2 l3 l4 l5 iv rv K) : G Γ 7 23 [aR (some 47), aI l1, aI l2, aI l3, aI l4, aI l5, aJ] [] n iv rv 0 0 := by
  exact h (fun l1' l2' l3' l4' l5' iv' =>  G Γ 7 23 [aR (some 47), aI (l1'), aI (l2'), aI (l3'), aI (l4'), aI (l5'), aJ] [] n iv' rv 0 0) (fun l1' l2' l3' l4' l5' iv' hb => cb_X1_moved_23 X hR hK   (fun l1' l2' l3' l4' l5' iv' hp => hp) hb)
def wp_X1_moved (a1 : Int) (iv : IV) (rv : RV) (K : Int → IV → Prop) : Prop :=
  (0 ≤ a1 ∧ a1 < 16) ∧ ∀ x2, x2 = iv (gR rv 47 3 + 8) a1.toNat → wp_X1_allCoin iv rv (fun r3 iv4 => ∀ x5, x5 = w32 (x2 + 1) → wl_X1_moved_23 a1 x2 r3 r3 x5 iv4 rv K)
set_option maxRecDepth 10000 in
theorem ce_X1_moved {n : Nat} {iv : IV} {rv : RV} {K : Int → IV → Prop} {a1 : Int} (hK : Lk n rv)  (h : wp_X1_moved a1 iv rv K) : Call 5 0 0 yX1_moved cX1_moved 7 (some .int) [aR (some 47), aI a1] n iv rv (fI1 n rv K) := by
  refine Call.by (L := [aR (some 47), aI a1, aJ, aJ, aJ, aJ, aJ]) (by decide) rfl ⟨trivial, trivial, trivial⟩ rfl (Nat.le_of_ble_eq_true rfl) (fun Γ X hR => ?_)
  unfold wp_X1_moved at h
  refine g_aload_n (q := 1) 0 X dX1_moved_0 rfl rfl rfl ?_
  refine g_getR (q := 4) (r := some (gR rv 47 3)) 1 3 X hK.2.2.2.2.2.1.2.2.2.1.1 (lt2000 (c := 0) (isR_lt0 hK.2.2.2.2.2.1.2.2.2.1.2)) kf_X1_18 (by decide) (by decide) rfl rfl (hK.n (by decide)) dX1_moved_1 rfl ?_
  refine g_getR (q := 7) (r := some (gR rv 47 3 + 8)) 5 7 X (lkR_7 hK hK.2.2.2.2.2.1.2.2.2.1.2) (lt2000 (c := 0) (isR_lt hK.2.2.2.2.2.1.2.2.2.1.2 (by decide))) kf_X1_117 (by decide) (by decide) rfl (shR_0 hK.2.2.2.2.2.1.2.2.2.1.2) (isR_n0 hK hK.2.2.2.2.2.1.2.2.2.1.2) dX1_moved_4 rfl ?_
  refine g_iload_n (q := 8) 1 X dX1_moved_7 rfl rfl rfl ?_
  obtain ⟨s1, h⟩ := h
  refine g_iald (q := 9) X (shR_8 hK.2.2.2.2.2.1.2.2.2.1.2) (isR_n hK hK.2.2.2.2.2.1.2.2.2.1.2 (by decide)) s1 dX1_moved_8 rfl ?_
  refine g_nmI (fun x2 ex2 => ?_)
  have h := h x2 ex2
  refine g_istore_n (q := 10) 2 (L' := [aR (some 47), aI a1, aI x2, aJ, aJ, aJ, aJ]) X dX1_moved_9 rfl rfl (by decide) rfl rfl ?_
  refine g_aload_n (q := 11) 0 X dX1_moved_10 rfl rfl rfl ?_
  refine g_cv (q := 14) [] 1 X (ce_X1_allCoin hK  h) kV_X1_120 rfl (by decide) rfl (hK.n (by decide)) rfl rfl (Nat.le_of_ble_eq_true rfl) (by decide) dX1_moved_11 rfl (fun r n_ iv_ rv_ hf => ?_)
  obtain ⟨en_, er_, r3, rfl, h⟩ := hf; subst n_; subst rv_
  generalize iv_ = iv4 at h ⊢
  refine g_istore_n (q := 15) 3 (L' := [aR (some 47), aI a1, aI x2, aI r3, aJ, aJ, aJ]) X dX1_moved_14 rfl rfl (by decide) rfl rfl ?_
  refine g_iload_n (q := 16) 3 X dX1_moved_15 rfl rfl rfl ?_
  refine g_istore (q := 18) (k0 := 0) 4 (L' := [aR (some 47), aI a1, aI x2, aI r3, aI r3, aJ, aJ]) X dX1_moved_16 rfl (by decide) rfl rfl ?_
  refine g_iload_n (q := 19) 2 X dX1_moved_18 rfl rfl rfl ?_
  refine g_iconst (q := 20) 1 X dX1_moved_19 rfl rfl ic_1 ?_
  refine g_iadd (q := 21) X dX1_moved_20 rfl ?_
  refine g_nmI (fun x5 ex5 => ?_)
  have h := h x5 ex5
  refine g_istore (q := 23) (k0 := 0) 5 (L' := [aR (some 47), aI a1, aI x2, aI r3, aI r3, aI x5, aJ]) X dX1_moved_21 rfl (by decide) rfl rfl ?_
  exact cl_X1_moved_23 X hR hK   h
def bd_X1_greatestMover_51 (P6 : Int → Int → Int → IV → Prop) (l1 l2 l3 : Int) (iv : IV) (rv : RV) (K : Int → IV → Prop) : Prop :=
  P6 l1 l2 (w32 (l3 + 1)) iv
set_option maxRecDepth 10000 in
theorem cb_X1_greatestMover_51 {Γ : GX} {n : Nat} {iv : IV} {rv : RV} {K : Int → IV → Prop} {P6 : Int → Int → Int → IV → Prop} {l1 l2 l3 : Int} (X : Cx Γ RX1 cX1_greatestMover 5 6) (hR : Rt Γ (some .int) 0 0 (fI1 n rv K)) (hK : Lk n rv)  (hP6 : ∀ (l1' l2' l3' : Int) (iv' : IV), P6 l1' l2' l3' iv' → G Γ 5 6 [aR (some 47), aI (l1'), aI (l2'), aI (l3'), aJ] [] n iv' rv 0 0) (h : bd_X1_greatestMover_51 P6 l1 l2 l3 iv rv K) : G Γ 5 51 [aR (some 47), aI l1, aI l2, aI l3, aJ] [] n iv rv 0 0 := by
  unfold bd_X1_greatestMover_51 at h
  refine g_iinc (q := 54) 3 (L' := [aR (some 47), aI l1, aI l2, aI (w32 (l3 + 1)), aJ]) X dX1_greatestMover_51 rfl (by decide) rfl rfl rfl ?_
  refine g_goto (q := 6) X dX1_greatestMover_54 (by decide) ?_
  exact hP6 _ _ _ _ h
def bd_X1_greatestMover_6 (P6 : Int → Int → Int → IV → Prop) (l1 l2 l3 : Int) (iv : IV) (rv : RV) (K : Int → IV → Prop) : Prop :=
  ((16 ≤ l3) → (K l1 iv)) ∧ ((¬ (16 ≤ l3)) → ((0 ≤ l3 ∧ l3 < 16) ∧ (0 ≤ l3 ∧ l3 < 16) ∧ (((iv (gR rv 47 3 + 9) l3.toNat) ≤ (iv (gR rv 47 3 + 8) l3.toNat)) → (bd_X1_greatestMover_51 P6 l1 l2 l3 iv rv K)) ∧ ((¬ ((iv (gR rv 47 3 + 9) l3.toNat) ≤ (iv (gR rv 47 3 + 8) l3.toNat))) → (wp_X1_moved l3 iv rv (fun r5 iv6 => ((r5 ≤ l2) → (bd_X1_greatestMover_51 P6 l1 l2 l3 iv6 rv K)) ∧ ((¬ (r5 ≤ l2)) → (bd_X1_greatestMover_51 P6 l3 r5 l3 iv6 rv K)))))))
set_option maxRecDepth 10000 in
theorem cb_X1_greatestMover_6 {Γ : GX} {n : Nat} {iv : IV} {rv : RV} {K : Int → IV → Prop} {P6 : Int → Int → Int → IV → Prop} {l1 l2 l3 : Int} (X : Cx Γ RX1 cX1_greatestMover 5 6) (hR : Rt Γ (some .int) 0 0 (fI1 n rv K)) (hK : Lk n rv)  (hP6 : ∀ (l1' l2' l3' : Int) (iv' : IV), P6 l1' l2' l3' iv' → G Γ 5 6 [aR (some 47), aI (l1'), aI (l2'), aI (l3'), aJ] [] n iv' rv 0 0) (h : bd_X1_greatestMover_6 P6 l1 l2 l3 iv rv K) : G Γ 5 6 [aR (some 47), aI l1, aI l2, aI l3, aJ] [] n iv rv 0 0 := by
  unfold bd_X1_greatestMover_6 at h
  refine g_iload_n (q := 7) 3 X dX1_greatestMover_6 rfl rfl rfl ?_
  refine g_bipush (q := 9) 16 X dX1_greatestMover_7 rfl bc_16 ic_16 ?_
  refine g_icmp_ge (q := 12) 57 X dX1_greatestMover_9 (by decide) rfl (fun c1 => ?_) (fun c1 => ?_)
  · have h := h.1 c1
    refine g_iload_n (q := 58) 1 X dX1_greatestMover_57 rfl rfl rfl ?_
    exact g_iret (q := 0) X hR dX1_greatestMover_58 rfl ⟨rfl, rfl, _, rfl, h⟩
  · have h := h.2 c1
    refine g_aload_n (q := 13) 0 X dX1_greatestMover_12 rfl rfl rfl ?_
    refine g_getR (q := 16) (r := some (gR rv 47 3)) 1 3 X hK.2.2.2.2.2.1.2.2.2.1.1 (lt2000 (c := 0) (isR_lt0 hK.2.2.2.2.2.1.2.2.2.1.2)) kf_X1_18 (by decide) (by decide) rfl rfl (hK.n (by decide)) dX1_greatestMover_13 rfl ?_
    refine g_getR (q := 19) (r := some (gR rv 47 3 + 9)) 5 8 X (lkR_8 hK hK.2.2.2.2.2.1.2.2.2.1.2) (lt2000 (c := 0) (isR_lt hK.2.2.2.2.2.1.2.2.2.1.2 (by decide))) kf_X1_124 (by decide) (by decide) rfl (shR_0 hK.2.2.2.2.2.1.2.2.2.1.2) (isR_n0 hK hK.2.2.2.2.2.1.2.2.2.1.2) dX1_greatestMover_16 rfl ?_
    refine g_iload_n (q := 20) 3 X dX1_greatestMover_19 rfl rfl rfl ?_
    obtain ⟨s2, h⟩ := h
    refine g_iald (q := 21) X (shR_9 hK.2.2.2.2.2.1.2.2.2.1.2) (isR_n hK hK.2.2.2.2.2.1.2.2.2.1.2 (by decide)) s2 dX1_greatestMover_20 rfl ?_
    refine g_aload_n (q := 22) 0 X dX1_greatestMover_21 rfl rfl rfl ?_
    refine g_getR (q := 25) (r := some (gR rv 47 3)) 1 3 X hK.2.2.2.2.2.1.2.2.2.1.1 (lt2000 (c := 0) (isR_lt0 hK.2.2.2.2.2.1.2.2.2.1.2)) kf_X1_18 (by decide) (by decide) rfl rfl (hK.n (by decide)) dX1_greatestMover_22 rfl ?_
    refine g_getR (q := 28) (r := some (gR rv 47 3 + 8)) 5 7 X (lkR_7 hK hK.2.2.2.2.2.1.2.2.2.1.2) (lt2000 (c := 0) (isR_lt hK.2.2.2.2.2.1.2.2.2.1.2 (by decide))) kf_X1_117 (by decide) (by decide) rfl (shR_0 hK.2.2.2.2.2.1.2.2.2.1.2) (isR_n0 hK hK.2.2.2.2.2.1.2.2.2.1.2) dX1_greatestMover_25 rfl ?_
    refine g_iload_n (q := 29) 3 X dX1_greatestMover_28 rfl rfl rfl ?_
    obtain ⟨s3, h⟩ := h
    refine g_iald (q := 30) X (shR_8 hK.2.2.2.2.2.1.2.2.2.1.2) (isR_n hK hK.2.2.2.2.2.1.2.2.2.1.2 (by decide)) s3 dX1_greatestMover_29 rfl ?_
    refine g_icmp_le (q := 33) 51 X dX1_greatestMover_30 (by decide) rfl (fun c4 => ?_) (fun c4 => ?_)
    · have h := h.1 c4
      exact cb_X1_greatestMover_51 X hR hK  hP6 h
    · have h := h.2 c4
      refine g_aload_n (q := 34) 0 X dX1_greatestMover_33 rfl rfl rfl ?_
      refine g_iload_n (q := 35) 3 X dX1_greatestMover_34 rfl rfl rfl ?_
      refine g_cv (q := 38) [aI l3] 1 X (ce_X1_moved hK  h) kV_X1_130 rfl (by decide) rfl (hK.n (by decide)) rfl rfl (Nat.le_of_ble_eq_true rfl) (by decide) dX1_greatestMover_35 rfl (fun r n_ iv_ rv_ hf => ?_)
      obtain ⟨en_, er_, r5, rfl, h⟩ := hf; subst n_; subst rv_
      generalize iv_ = iv6 at h ⊢
      refine g_istore (q := 40) (k0 := 0) 4 (L' := [aR (some 47), aI l1, aI l2, aI l3, aI r5]) X dX1_greatestMover_38 rfl (by decide) rfl rfl ?_
      refine g_iload (q := 42) 4 X dX1_greatestMover_40 rfl rfl ?_
      refine g_iload_n (q := 43) 2 X dX1_greatestMover_42 rfl rfl rfl ?_
      refine g_icmp_le (q := 46) 51 X dX1_greatestMover_43 (by decide) rfl (fun c7 => ?_) (fun c7 => ?_)
      · have h := h.1 c7
        refine g_sub (L' := [aR (some 47), aI l1, aI l2, aI l3, aJ]) ⟨Or.inr rfl, Or.inr rfl, Or.inr rfl, Or.inr rfl, Or.inl rfl, trivial⟩ ?_
        exact cb_X1_greatestMover_51 X hR hK  hP6 h
      · have h := h.2 c7
        refine g_iload (q := 48) 4 X dX1_greatestMover_46 rfl rfl ?_
        refine g_istore_n (q := 49) 2 (L' := [aR (some 47), aI l1, aI r5, aI l3, aI r5]) X dX1_greatestMover_48 rfl rfl (by decide) rfl rfl ?_
        refine g_iload_n (q := 50) 3 X dX1_greatestMover_49 rfl rfl rfl ?_
        refine g_istore_n (q := 51) 1 (L' := [aR (some 47), aI l3, aI r5, aI l3, aI r5]) X dX1_greatestMover_50 rfl rfl (by decide) rfl rfl ?_
        refine g_sub (L' := [aR (some 47), aI l3, aI r5, aI l3, aJ]) ⟨Or.inr rfl, Or.inr rfl, Or.inr rfl, Or.inr rfl, Or.inl rfl, trivial⟩ ?_
        exact cb_X1_greatestMover_51 X hR hK  hP6 h
def wl_X1_greatestMover_6 (l1 l2 l3 : Int) (iv : IV) (rv : RV) (K : Int → IV → Prop) : Prop :=
  ∀ P : Int → Int → Int → IV → Prop, (∀ (l1' l2' l3' : Int) (iv' : IV), bd_X1_greatestMover_6  P l1' l2' l3' iv' rv K → P l1' l2' l3' iv') → P l1 l2 l3 iv
theorem cl_X1_greatestMover_6 {Γ : GX} {n : Nat} {iv : IV} {rv : RV} {K : Int → IV → Prop} {l1 l2 l3 : Int} (X : Cx Γ RX1 cX1_greatestMover 5 6) (hR : Rt Γ (some .int) 0 0 (fI1 n rv K)) (hK : Lk n rv)  (h : wl_X1_greatestMover_6 l1 l2 l3 iv rv K) : G Γ 5 6 [aR (some 47), aI l1, aI l2, aI l3, aJ] [] n iv rv 0 0 := by
  exact h (fun l1' l2' l3' iv' =>  G Γ 5 6 [aR (some 47), aI (l1'), aI (l2'), aI (l3'), aJ] [] n iv' rv 0 0) (fun l1' l2' l3' iv' hb => cb_X1_greatestMover_6 X hR hK   (fun l1' l2' l3' iv' hp => hp) hb)
def wp_X1_greatestMover (iv : IV) (rv : RV) (K : Int → IV → Prop) : Prop :=
  wl_X1_greatestMover_6 (-1) (-1) 0 iv rv K
set_option maxRecDepth 10000 in
theorem ce_X1_greatestMover {n : Nat} {iv : IV} {rv : RV} {K : Int → IV → Prop} (hK : Lk n rv)  (h : wp_X1_greatestMover  iv rv K) : Call 6 0 0 yX1_greatestMover cX1_greatestMover 5 (some .int) [aR (some 47)] n iv rv (fI1 n rv K) := by
  refine Call.by (L := [aR (some 47), aJ, aJ, aJ, aJ]) (by decide) rfl ⟨trivial, trivial⟩ rfl (Nat.le_of_ble_eq_true rfl) (fun Γ X hR => ?_)
  unfold wp_X1_greatestMover at h
  refine g_iconst (q := 1) (-1) X dX1_greatestMover_0 rfl rfl ic_m1 ?_
  refine g_istore_n (q := 2) 1 (L' := [aR (some 47), aI (-1), aJ, aJ, aJ]) X dX1_greatestMover_1 rfl rfl (by decide) rfl rfl ?_
  refine g_iconst (q := 3) (-1) X dX1_greatestMover_2 rfl rfl ic_m1 ?_
  refine g_istore_n (q := 4) 2 (L' := [aR (some 47), aI (-1), aI (-1), aJ, aJ]) X dX1_greatestMover_3 rfl rfl (by decide) rfl rfl ?_
  refine g_iconst (q := 5) 0 X dX1_greatestMover_4 rfl rfl ic_0 ?_
  refine g_istore_n (q := 6) 3 (L' := [aR (some 47), aI (-1), aI (-1), aI 0, aJ]) X dX1_greatestMover_5 rfl rfl (by decide) rfl rfl ?_
  exact cl_X1_greatestMover_6 X hR hK   h
