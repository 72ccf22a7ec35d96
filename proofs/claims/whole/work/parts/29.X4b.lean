def wp_X4_keepMan (a1 : Int) (iv : IV) (rv : RV) (K : Int → IV → Prop) : Prop :=
  (0 ≤ a1 ∧ a1 < 6) ∧ ∀ iv2, iv2 = w2 iv (gR rv 40 5 + 2) a1.toNat (iv 45 0) → (0 ≤ a1 ∧ a1 < 6) ∧ ∀ iv4, iv4 = w2 iv2 (gR rv 40 5 + 3) a1.toNat (iv2 45 1) → K 1 iv4
set_option maxRecDepth 10000 in
theorem ce_X4_keepMan {n : Nat} {iv : IV} {rv : RV} {K : Int → IV → Prop} {a1 : Int} (hK : Lk n rv)  (h : wp_X4_keepMan a1 iv rv K) : Call 0 0 0 yX4_keepMan cX4_keepMan 2 (some .boolean) [aR (some 40), aI a1] n iv rv (fB1 n rv K) := by
  refine Call.by (L := [aR (some 40), aI a1]) (by decide) rfl ⟨trivial, trivial, trivial⟩ rfl (Nat.le_of_ble_eq_true rfl) (fun Γ X hR => ?_)
  unfold wp_X4_keepMan at h
  refine g_aload_n (q := 1) 0 X dX4_keepMan_0 rfl rfl rfl ?_
  refine g_getR (q := 4) (r := some (gR rv 40 5)) 4 5 X hK.2.2.2.2.2.1.2.2.1.1 (lt2000 (c := 0) (isR_lt0 hK.2.2.2.2.2.1.2.2.1.2)) kf_X4_35 (by decide) (by decide) rfl rfl (hK.n (by decide)) dX4_keepMan_1 rfl ?_
  refine g_getR (q := 7) (r := some (gR rv 40 5 + 2)) 5 1 X (lkR_1 hK hK.2.2.2.2.2.1.2.2.1.2) (lt2000 (c := 0) (isR_lt hK.2.2.2.2.2.1.2.2.1.2 (by decide))) kf_X4_188 (by decide) (by decide) rfl (shR_0 hK.2.2.2.2.2.1.2.2.1.2) (isR_n0 hK hK.2.2.2.2.2.1.2.2.1.2) dX4_keepMan_4 rfl ?_
  refine g_iload_n (q := 8) 1 X dX4_keepMan_7 rfl rfl rfl ?_
  refine g_aload_n (q := 9) 0 X dX4_keepMan_8 rfl rfl rfl ?_
  refine g_getR (q := 12) (r := some 45) 4 2 X (lk_40_2 hK) (lt2000 (c := 0) (by decide)) kf_X4_18 (by decide) (by decide) rfl rfl (hK.n (by decide)) dX4_keepMan_9 rfl ?_
  refine g_iconst (q := 13) 0 X dX4_keepMan_12 rfl rfl ic_0 ?_
  refine g_iald (q := 14) X rfl (hK.n (by decide)) (by decide) dX4_keepMan_13 rfl ?_
  obtain ⟨s1, h⟩ := h
  refine g_iast (q := 15) X (shR_2 hK.2.2.2.2.2.1.2.2.1.2) (isR_n hK hK.2.2.2.2.2.1.2.2.1.2 (by decide)) s1 dX4_keepMan_14 rfl ?_
  refine g_nmM (fun iv2 eiv2 => ?_)
  have h := h iv2 eiv2
  refine g_aload_n (q := 16) 0 X dX4_keepMan_15 rfl rfl rfl ?_
  refine g_getR (q := 19) (r := some (gR rv 40 5)) 4 5 X hK.2.2.2.2.2.1.2.2.1.1 (lt2000 (c := 0) (isR_lt0 hK.2.2.2.2.2.1.2.2.1.2)) kf_X4_35 (by decide) (by decide) rfl rfl (hK.n (by decide)) dX4_keepMan_16 rfl ?_
  refine g_getR (q := 22) (r := some (gR rv 40 5 + 3)) 5 2 X (lkR_2 hK hK.2.2.2.2.2.1.2.2.1.2) (lt2000 (c := 0) (isR_lt hK.2.2.2.2.2.1.2.2.1.2 (by decide))) kf_X4_191 (by decide) (by decide) rfl (shR_0 hK.2.2.2.2.2.1.2.2.1.2) (isR_n0 hK hK.2.2.2.2.2.1.2.2.1.2) dX4_keepMan_19 rfl ?_
  refine g_iload_n (q := 23) 1 X dX4_keepMan_22 rfl rfl rfl ?_
  refine g_aload_n (q := 24) 0 X dX4_keepMan_23 rfl rfl rfl ?_
  refine g_getR (q := 27) (r := some 45) 4 2 X (lk_40_2 hK) (lt2000 (c := 0) (by decide)) kf_X4_18 (by decide) (by decide) rfl rfl (hK.n (by decide)) dX4_keepMan_24 rfl ?_
  refine g_iconst (q := 28) 1 X dX4_keepMan_27 rfl rfl ic_1 ?_
  refine g_iald (q := 29) X rfl (hK.n (by decide)) (by decide) dX4_keepMan_28 rfl ?_
  obtain ⟨s3, h⟩ := h
  refine g_iast (q := 30) X (shR_3 hK.2.2.2.2.2.1.2.2.1.2) (isR_n hK hK.2.2.2.2.2.1.2.2.1.2 (by decide)) s3 dX4_keepMan_29 rfl ?_
  refine g_nmM (fun iv4 eiv4 => ?_)
  have h := h iv4 eiv4
  refine g_iconst (q := 31) 1 X dX4_keepMan_30 rfl rfl ic_1 ?_
  exact g_zret (q := 0) .boolean X hR (nar_B (Or.inr rfl)) dX4_keepMan_31 rfl ⟨rfl, rfl, _, rfl, (Or.inr rfl), h⟩
def wp_X4_keepLink (a1 : Int) (iv : IV) (rv : RV) (K : Int → IV → Prop) : Prop :=
  wp_X5_links (gR rv 40 5) iv rv (fun r1 => ((20 ≤ r1) → (K 1 iv)) ∧ ((¬ (20 ≤ r1)) → ((0 ≤ r1 ∧ r1 < 20) ∧ ∀ iv4, iv4 = w2 iv (gR rv 40 5 + 4) r1.toNat (iv 45 0) → (0 ≤ r1 ∧ r1 < 20) ∧ ∀ iv6, iv6 = w2 iv4 (gR rv 40 5 + 5) r1.toNat (iv4 45 1) → (0 ≤ r1 ∧ r1 < 20) ∧ ∀ iv8, iv8 = w2 iv6 (gR rv 40 5 + 6) r1.toNat (iv6 45 2) → (0 ≤ r1 ∧ r1 < 20) ∧ ∀ iv10, iv10 = w2 iv8 (gR rv 40 5 + 7) r1.toNat a1 → K 1 iv10)))
set_option maxRecDepth 10000 in
theorem ce_X4_keepLink {n : Nat} {iv : IV} {rv : RV} {K : Int → IV → Prop} {a1 : Int} (hK : Lk n rv)  (h : wp_X4_keepLink a1 iv rv K) : Call 1 0 0 yX4_keepLink cX4_keepLink 3 (some .boolean) [aR (some 40), aI a1] n iv rv (fB1 n rv K) := by
  refine Call.by (L := [aR (some 40), aI a1, aJ]) (by decide) rfl ⟨trivial, trivial, trivial⟩ rfl (Nat.le_of_ble_eq_true rfl) (fun Γ X hR => ?_)
  unfold wp_X4_keepLink at h
  refine g_aload_n (q := 1) 0 X dX4_keepLink_0 rfl rfl rfl ?_
  refine g_getR (q := 4) (r := some (gR rv 40 5)) 4 5 X hK.2.2.2.2.2.1.2.2.1.1 (lt2000 (c := 0) (isR_lt0 hK.2.2.2.2.2.1.2.2.1.2)) kf_X4_35 (by decide) (by decide) rfl rfl (hK.n (by decide)) dX4_keepLink_1 rfl ?_
  refine g_cv (q := 7) [] 5 X (ce_X5_links hK hK.2.2.2.2.2.1.2.2.1.2 h) kV_X4_194 rfl (by decide) (shR_0 hK.2.2.2.2.2.1.2.2.1.2) (isR_n0 hK hK.2.2.2.2.2.1.2.2.1.2) rfl rfl (Nat.le_of_ble_eq_true rfl) (by decide) dX4_keepLink_4 rfl (fun r n_ iv_ rv_ hf => ?_)
  obtain ⟨en_, ei_, er_, r1, rfl, h⟩ := hf; subst n_; subst iv_; subst rv_
  refine g_istore_n (q := 8) 2 (L' := [aR (some 40), aI a1, aI r1]) X dX4_keepLink_7 rfl rfl (by decide) rfl rfl ?_
  refine g_iload_n (q := 9) 2 X dX4_keepLink_8 rfl rfl rfl ?_
  refine g_bipush (q := 11) 20 X dX4_keepLink_9 rfl bc_20 ic_20 ?_
  refine g_icmp_ge (q := 14) 69 X dX4_keepLink_11 (by decide) rfl (fun c2 => ?_) (fun c2 => ?_)
  · have h := h.1 c2
    refine g_iconst (q := 70) 1 X dX4_keepLink_69 rfl rfl ic_1 ?_
    exact g_zret (q := 0) .boolean X hR (nar_B (Or.inr rfl)) dX4_keepLink_70 rfl ⟨rfl, rfl, _, rfl, (Or.inr rfl), h⟩
  · have h := h.2 c2
    refine g_aload_n (q := 15) 0 X dX4_keepLink_14 rfl rfl rfl ?_
    refine g_getR (q := 18) (r := some (gR rv 40 5)) 4 5 X hK.2.2.2.2.2.1.2.2.1.1 (lt2000 (c := 0) (isR_lt0 hK.2.2.2.2.2.1.2.2.1.2)) kf_X4_35 (by decide) (by decide) rfl rfl (hK.n (by decide)) dX4_keepLink_15 rfl ?_
    refine g_getR (q := 21) (r := some (gR rv 40 5 + 4)) 5 3 X (lkR_3 hK hK.2.2.2.2.2.1.2.2.1.2) (lt2000 (c := 0) (isR_lt hK.2.2.2.2.2.1.2.2.1.2 (by decide))) kf_X4_198 (by decide) (by decide) rfl (shR_0 hK.2.2.2.2.2.1.2.2.1.2) (isR_n0 hK hK.2.2.2.2.2.1.2.2.1.2) dX4_keepLink_18 rfl ?_
    refine g_iload_n (q := 22) 2 X dX4_keepLink_21 rfl rfl rfl ?_
    refine g_aload_n (q := 23) 0 X dX4_keepLink_22 rfl rfl rfl ?_
    refine g_getR (q := 26) (r := some 45) 4 2 X (lk_40_2 hK) (lt2000 (c := 0) (by decide)) kf_X4_18 (by decide) (by decide) rfl rfl (hK.n (by decide)) dX4_keepLink_23 rfl ?_
    refine g_iconst (q := 27) 0 X dX4_keepLink_26 rfl rfl ic_0 ?_
    refine g_iald (q := 28) X rfl (hK.n (by decide)) (by decide) dX4_keepLink_27 rfl ?_
    obtain ⟨s3, h⟩ := h
    refine g_iast (q := 29) X (shR_4 hK.2.2.2.2.2.1.2.2.1.2) (isR_n hK hK.2.2.2.2.2.1.2.2.1.2 (by decide)) s3 dX4_keepLink_28 rfl ?_
    refine g_nmM (fun iv4 eiv4 => ?_)
    have h := h iv4 eiv4
    refine g_aload_n (q := 30) 0 X dX4_keepLink_29 rfl rfl rfl ?_
    refine g_getR (q := 33) (r := some (gR rv 40 5)) 4 5 X hK.2.2.2.2.2.1.2.2.1.1 (lt2000 (c := 0) (isR_lt0 hK.2.2.2.2.2.1.2.2.1.2)) kf_X4_35 (by decide) (by decide) rfl rfl (hK.n (by decide)) dX4_keepLink_30 rfl ?_
    refine g_getR (q := 36) (r := some (gR rv 40 5 + 5)) 5 4 X (lkR_4 hK hK.2.2.2.2.2.1.2.2.1.2) (lt2000 (c := 0) (isR_lt hK.2.2.2.2.2.1.2.2.1.2 (by decide))) kf_X4_201 (by decide) (by decide) rfl (shR_0 hK.2.2.2.2.2.1.2.2.1.2) (isR_n0 hK hK.2.2.2.2.2.1.2.2.1.2) dX4_keepLink_33 rfl ?_
    refine g_iload_n (q := 37) 2 X dX4_keepLink_36 rfl rfl rfl ?_
    refine g_aload_n (q := 38) 0 X dX4_keepLink_37 rfl rfl rfl ?_
    refine g_getR (q := 41) (r := some 45) 4 2 X (lk_40_2 hK) (lt2000 (c := 0) (by decide)) kf_X4_18 (by decide) (by decide) rfl rfl (hK.n (by decide)) dX4_keepLink_38 rfl ?_
    refine g_iconst (q := 42) 1 X dX4_keepLink_41 rfl rfl ic_1 ?_
    refine g_iald (q := 43) X rfl (hK.n (by decide)) (by decide) dX4_keepLink_42 rfl ?_
    obtain ⟨s5, h⟩ := h
    refine g_iast (q := 44) X (shR_5 hK.2.2.2.2.2.1.2.2.1.2) (isR_n hK hK.2.2.2.2.2.1.2.2.1.2 (by decide)) s5 dX4_keepLink_43 rfl ?_
    refine g_nmM (fun iv6 eiv6 => ?_)
    have h := h iv6 eiv6
    refine g_aload_n (q := 45) 0 X dX4_keepLink_44 rfl rfl rfl ?_
    refine g_getR (q := 48) (r := some (gR rv 40 5)) 4 5 X hK.2.2.2.2.2.1.2.2.1.1 (lt2000 (c := 0) (isR_lt0 hK.2.2.2.2.2.1.2.2.1.2)) kf_X4_35 (by decide) (by decide) rfl rfl (hK.n (by decide)) dX4_keepLink_45 rfl ?_
    refine g_getR (q := 51) (r := some (gR rv 40 5 + 6)) 5 5 X (lkR_5 hK hK.2.2.2.2.2.1.2.2.1.2) (lt2000 (c := 0) (isR_lt hK.2.2.2.2.2.1.2.2.1.2 (by decide))) kf_X4_204 (by decide) (by decide) rfl (shR_0 hK.2.2.2.2.2.1.2.2.1.2) (isR_n0 hK hK.2.2.2.2.2.1.2.2.1.2) dX4_keepLink_48 rfl ?_
    refine g_iload_n (q := 52) 2 X dX4_keepLink_51 rfl rfl rfl ?_
    refine g_aload_n (q := 53) 0 X dX4_keepLink_52 rfl rfl rfl ?_
    refine g_getR (q := 56) (r := some 45) 4 2 X (lk_40_2 hK) (lt2000 (c := 0) (by decide)) kf_X4_18 (by decide) (by decide) rfl rfl (hK.n (by decide)) dX4_keepLink_53 rfl ?_
    refine g_iconst (q := 57) 2 X dX4_keepLink_56 rfl rfl ic_2 ?_
    refine g_iald (q := 58) X rfl (hK.n (by decide)) (by decide) dX4_keepLink_57 rfl ?_
    obtain ⟨s7, h⟩ := h
    refine g_iast (q := 59) X (shR_6 hK.2.2.2.2.2.1.2.2.1.2) (isR_n hK hK.2.2.2.2.2.1.2.2.1.2 (by decide)) s7 dX4_keepLink_58 rfl ?_
    refine g_nmM (fun iv8 eiv8 => ?_)
    have h := h iv8 eiv8
    refine g_aload_n (q := 60) 0 X dX4_keepLink_59 rfl rfl rfl ?_
    refine g_getR (q := 63) (r := some (gR rv 40 5)) 4 5 X hK.2.2.2.2.2.1.2.2.1.1 (lt2000 (c := 0) (isR_lt0 hK.2.2.2.2.2.1.2.2.1.2)) kf_X4_35 (by decide) (by decide) rfl rfl (hK.n (by decide)) dX4_keepLink_60 rfl ?_
    refine g_getR (q := 66) (r := some (gR rv 40 5 + 7)) 5 6 X (lkR_6 hK hK.2.2.2.2.2.1.2.2.1.2) (lt2000 (c := 0) (isR_lt hK.2.2.2.2.2.1.2.2.1.2 (by decide))) kf_X4_207 (by decide) (by decide) rfl (shR_0 hK.2.2.2.2.2.1.2.2.1.2) (isR_n0 hK hK.2.2.2.2.2.1.2.2.1.2) dX4_keepLink_63 rfl ?_
    refine g_iload_n (q := 67) 2 X dX4_keepLink_66 rfl rfl rfl ?_
    refine g_iload_n (q := 68) 1 X dX4_keepLink_67 rfl rfl rfl ?_
    obtain ⟨s9, h⟩ := h
    refine g_iast (q := 69) X (shR_7 hK.2.2.2.2.2.1.2.2.1.2) (isR_n hK hK.2.2.2.2.2.1.2.2.1.2 (by decide)) s9 dX4_keepLink_68 rfl ?_
    refine g_nmM (fun iv10 eiv10 => ?_)
    have h := h iv10 eiv10
    refine g_iconst (q := 70) 1 X dX4_keepLink_69 rfl rfl ic_1 ?_
    exact g_zret (q := 0) .boolean X hR (nar_B (Or.inr rfl)) dX4_keepLink_70 rfl ⟨rfl, rfl, _, rfl, (Or.inr rfl), h⟩
def wp_X4_landLine (a1 : Int) (a2 : Int) (iv : IV) (rv : RV) (K : Int → IV → Prop) : Prop :=
  (((a1 < 2 ∨ 4 < a1)) → (wp_X4_newName a1 a2 iv rv (fun r2 iv3 => K r2 iv3))) ∧ ((a1 = 2) → (wp_X4_newName 2 a2 iv rv (fun r4 iv5 => ((r4 = 0) → (K 0 iv5)) ∧ ((¬ (r4 = 0)) → (wp_X4_word 30 iv5 rv (fun r7 iv8 => ((r7 = 0) → (K 0 iv8)) ∧ ((¬ (r7 = 0)) → (wp_X4_use 0 0 iv8 rv (fun r10 iv11 => ((r10 = 0) → (K 0 iv11)) ∧ ((¬ (r10 = 0)) → (wp_X4_word 46 iv11 rv (fun r13 iv14 => ((r13 = 0) → (K 0 iv14)) ∧ ((¬ (r13 = 0)) → (wp_X4_whole 0 999 iv14 rv (fun r16 iv17 => ((r16 = 0) → (K 0 iv17)) ∧ ((¬ (r16 = 0)) → (wp_X4_keepMan a2 iv17 rv (fun r19 iv20 => ((r19 = 0) → (K 0 iv20)) ∧ ((¬ (r19 = 0)) → (K 1 iv20)))))))))))))))))))) ∧ ((a1 = 3) → (wp_X4_use 0 0 iv rv (fun r22 iv23 => ((r22 = 0) → (K 0 iv23)) ∧ ((¬ (r22 = 0)) → (wp_X4_word 48 iv23 rv (fun r25 iv26 => ((r25 = 0) → (K 0 iv26)) ∧ ((¬ (r25 = 0)) → (wp_X4_use 0 0 iv26 rv (fun r28 iv29 => ((r28 = 0) → (K 0 iv29)) ∧ ((¬ (r28 = 0)) → (wp_X4_differ iv29 rv (fun r31 iv32 => ((r31 = 0) → (K 0 iv32)) ∧ ((¬ (r31 = 0)) → (wp_X4_word 23 iv32 rv (fun r34 iv35 => ((r34 = 0) → (K 0 iv35)) ∧ ((¬ (r34 = 0)) → (wp_X4_whole 1 99 iv35 rv (fun r37 iv38 => ((r37 = 0) → (K 0 iv38)) ∧ ((¬ (r37 = 0)) → (wp_X4_keepLink (-1) iv38 rv (fun r40 iv41 => ((r40 = 0) → (K 0 iv41)) ∧ ((¬ (r40 = 0)) → (K 1 iv41))))))))))))))))))))))) ∧ ((a1 = 4) → (wp_X4_newName 4 a2 iv rv (fun r43 iv44 => ((r43 = 0) → (K 0 iv44)) ∧ ((¬ (r43 = 0)) → (wp_X4_word 6 iv44 rv (fun r46 iv47 => ((r46 = 0) → (K 0 iv47)) ∧ ((¬ (r46 = 0)) → (wp_X4_use 0 0 iv47 rv (fun r49 iv50 => ((r49 = 0) → (K 0 iv50)) ∧ ((¬ (r49 = 0)) → (wp_X4_word 48 iv50 rv (fun r52 iv53 => ((r52 = 0) → (K 0 iv53)) ∧ ((¬ (r52 = 0)) → (wp_X4_use 0 0 iv53 rv (fun r55 iv56 => ((r55 = 0) → (K 0 iv56)) ∧ ((¬ (r55 = 0)) → (wp_X4_differ iv56 rv (fun r58 iv59 => ((r58 = 0) → (K 0 iv59)) ∧ ((¬ (r58 = 0)) → (wp_X4_word 23 iv59 rv (fun r61 iv62 => ((r61 = 0) → (K 0 iv62)) ∧ ((¬ (r61 = 0)) → (wp_X4_whole 1 99 iv62 rv (fun r64 iv65 => ((r64 = 0) → (K 0 iv65)) ∧ ((¬ (r64 = 0)) → (wp_X4_keepLink a2 iv65 rv (fun r67 iv68 => ((r67 = 0) → (K 0 iv68)) ∧ ((¬ (r67 = 0)) → (K 1 iv68)))))))))))))))))))))))))))))
set_option maxRecDepth 10000 in
theorem ce_X4_landLine {n : Nat} {iv : IV} {rv : RV} {K : Int → IV → Prop} {a1 : Int} {a2 : Int} (hK : Lk n rv)  (h : wp_X4_landLine a1 a2 iv rv K) : Call 7 0 0 yX4_landLine cX4_landLine 3 (some .boolean) [aR (some 40), aI a1, aI a2] n iv rv (fB1 n rv K) := by
  refine Call.by (L := [aR (some 40), aI a1, aI a2]) (by decide) rfl ⟨trivial, trivial, trivial, trivial⟩ rfl (Nat.le_of_ble_eq_true rfl) (fun Γ X hR => ?_)
  unfold wp_X4_landLine at h
  refine g_iload_n (q := 1) 1 X dX4_landLine_0 rfl rfl rfl ?_
  have hsw : (a1 < 2 ∨ 4 < a1) ∨ a1 = 2 ∨ a1 = 3 ∨ a1 = 4 := by omega
  rcases hsw with c1 | c1 | c1 | c1
  · have h := h.1 c1
    refine g_tswOut (q := 241) X dX4_landLine_1 (by decide) c1 ?_
    refine g_aload_n (q := 242) 0 X dX4_landLine_241 rfl rfl rfl ?_
    refine g_iload_n (q := 243) 1 X dX4_landLine_242 rfl rfl rfl ?_
    refine g_iload_n (q := 244) 2 X dX4_landLine_243 rfl rfl rfl ?_
    refine g_cv (q := 247) [aI a1, aI a2] 4 X (ce_X4_newName hK  h) kV_X4_97 rfl (by decide) rfl (hK.n (by decide)) rfl rfl (Nat.le_of_ble_eq_true rfl) (by decide) dX4_landLine_244 rfl (fun r n_ iv_ rv_ hf => ?_)
    obtain ⟨en_, er_, r2, rfl, br2, h⟩ := hf; subst n_; subst rv_
    generalize iv_ = iv3 at h ⊢
    exact g_zret (q := 0) .boolean X hR (nar_B br2) dX4_landLine_247 rfl ⟨rfl, rfl, _, rfl, br2, h⟩
  · have h := h.2.1 c1
    refine g_tswIn (q := 28) (off := 27) X dX4_landLine_1 (by omega) (by omega) (by rw [c1]; rfl) (by decide) ?_
    refine g_aload_n (q := 29) 0 X dX4_landLine_28 rfl rfl rfl ?_
    refine g_iconst (q := 30) 2 X dX4_landLine_29 rfl rfl ic_2 ?_
    refine g_iload_n (q := 31) 2 X dX4_landLine_30 rfl rfl rfl ?_
    refine g_cv (q := 34) [aI 2, aI a2] 4 X (ce_X4_newName hK  h) kV_X4_97 rfl (by decide) rfl (hK.n (by decide)) rfl rfl (Nat.le_of_ble_eq_true rfl) (by decide) dX4_landLine_31 rfl (fun r n_ iv_ rv_ hf => ?_)
    obtain ⟨en_, er_, r4, rfl, br4, h⟩ := hf; subst n_; subst rv_
    generalize iv_ = iv5 at h ⊢
    refine g_if_eq (q := 37) 87 X dX4_landLine_34 (by decide) rfl (fun c6 => ?_) (fun c6 => ?_)
    · have h := h.1 c6
      refine g_iconst (q := 88) 0 X dX4_landLine_87 rfl rfl ic_0 ?_
      exact g_zret (q := 0) .boolean X hR (nar_B (Or.inl rfl)) dX4_landLine_88 rfl ⟨rfl, rfl, _, rfl, (Or.inl rfl), h⟩
    · have h := h.2 c6
      refine g_aload_n (q := 38) 0 X dX4_landLine_37 rfl rfl rfl ?_
      refine g_ldcS (q := 40) 30 X st_X4_100 (by decide) dX4_landLine_38 rfl ?_
      refine g_cv (q := 43) [aR (some (1000 + 30))] 4 X (ce_X4_word hK (by decide) h) kV_X4_102 rfl (by decide) rfl (hK.n (by decide)) rfl rfl (Nat.le_of_ble_eq_true rfl) (by decide) dX4_landLine_40 rfl (fun r n_ iv_ rv_ hf => ?_)
      obtain ⟨en_, er_, r7, rfl, br7, h⟩ := hf; subst n_; subst rv_
      generalize iv_ = iv8 at h ⊢
      refine g_if_eq (q := 46) 87 X dX4_landLine_43 (by decide) rfl (fun c9 => ?_) (fun c9 => ?_)
      · have h := h.1 c9
        refine g_iconst (q := 88) 0 X dX4_landLine_87 rfl rfl ic_0 ?_
        exact g_zret (q := 0) .boolean X hR (nar_B (Or.inl rfl)) dX4_landLine_88 rfl ⟨rfl, rfl, _, rfl, (Or.inl rfl), h⟩
      · have h := h.2 c9
        refine g_aload_n (q := 47) 0 X dX4_landLine_46 rfl rfl rfl ?_
        refine g_iconst (q := 48) 0 X dX4_landLine_47 rfl rfl ic_0 ?_
        refine g_iconst (q := 49) 0 X dX4_landLine_48 rfl rfl ic_0 ?_
        refine g_cv (q := 52) [aI 0, aI 0] 4 X (ce_X4_use hK  h) kV_X4_106 rfl (by decide) rfl (hK.n (by decide)) rfl rfl (Nat.le_of_ble_eq_true rfl) (by decide) dX4_landLine_49 rfl (fun r n_ iv_ rv_ hf => ?_)
        obtain ⟨en_, er_, r10, rfl, br10, h⟩ := hf; subst n_; subst rv_
        generalize iv_ = iv11 at h ⊢
        refine g_if_eq (q := 55) 87 X dX4_landLine_52 (by decide) rfl (fun c12 => ?_) (fun c12 => ?_)
        · have h := h.1 c12
          refine g_iconst (q := 88) 0 X dX4_landLine_87 rfl rfl ic_0 ?_
          exact g_zret (q := 0) .boolean X hR (nar_B (Or.inl rfl)) dX4_landLine_88 rfl ⟨rfl, rfl, _, rfl, (Or.inl rfl), h⟩
        · have h := h.2 c12
          refine g_aload_n (q := 56) 0 X dX4_landLine_55 rfl rfl rfl ?_
          refine g_ldcS (q := 58) 46 X st_X4_109 (by decide) dX4_landLine_56 rfl ?_
          refine g_cv (q := 61) [aR (some (1000 + 46))] 4 X (ce_X4_word hK (by decide) h) kV_X4_102 rfl (by decide) rfl (hK.n (by decide)) rfl rfl (Nat.le_of_ble_eq_true rfl) (by decide) dX4_landLine_58 rfl (fun r n_ iv_ rv_ hf => ?_)
          obtain ⟨en_, er_, r13, rfl, br13, h⟩ := hf; subst n_; subst rv_
          generalize iv_ = iv14 at h ⊢
          refine g_if_eq (q := 64) 87 X dX4_landLine_61 (by decide) rfl (fun c15 => ?_) (fun c15 => ?_)
          · have h := h.1 c15
            refine g_iconst (q := 88) 0 X dX4_landLine_87 rfl rfl ic_0 ?_
            exact g_zret (q := 0) .boolean X hR (nar_B (Or.inl rfl)) dX4_landLine_88 rfl ⟨rfl, rfl, _, rfl, (Or.inl rfl), h⟩
          · have h := h.2 c15
            refine g_aload_n (q := 65) 0 X dX4_landLine_64 rfl rfl rfl ?_
            refine g_iconst (q := 66) 0 X dX4_landLine_65 rfl rfl ic_0 ?_
            refine g_sipush (q := 69) 999 X dX4_landLine_66 rfl sc_999 ic_999 ?_
            refine g_cv (q := 72) [aI 0, aI 999] 4 X (ce_X4_whole hK  h) kV_X4_111 rfl (by decide) rfl (hK.n (by decide)) rfl rfl (Nat.le_of_ble_eq_true rfl) (by decide) dX4_landLine_69 rfl (fun r n_ iv_ rv_ hf => ?_)
            obtain ⟨en_, er_, r16, rfl, br16, h⟩ := hf; subst n_; subst rv_
            generalize iv_ = iv17 at h ⊢
            refine g_if_eq (q := 75) 87 X dX4_landLine_72 (by decide) rfl (fun c18 => ?_) (fun c18 => ?_)
            · have h := h.1 c18
              refine g_iconst (q := 88) 0 X dX4_landLine_87 rfl rfl ic_0 ?_
              exact g_zret (q := 0) .boolean X hR (nar_B (Or.inl rfl)) dX4_landLine_88 rfl ⟨rfl, rfl, _, rfl, (Or.inl rfl), h⟩
            · have h := h.2 c18
              refine g_aload_n (q := 76) 0 X dX4_landLine_75 rfl rfl rfl ?_
              refine g_iload_n (q := 77) 2 X dX4_landLine_76 rfl rfl rfl ?_
              refine g_cv (q := 80) [aI a2] 4 X (ce_X4_keepMan hK  h) kV_X4_114 rfl (by decide) rfl (hK.n (by decide)) rfl rfl (Nat.le_of_ble_eq_true rfl) (by decide) dX4_landLine_77 rfl (fun r n_ iv_ rv_ hf => ?_)
              obtain ⟨en_, er_, r19, rfl, br19, h⟩ := hf; subst n_; subst rv_
              generalize iv_ = iv20 at h ⊢
              refine g_if_eq (q := 83) 87 X dX4_landLine_80 (by decide) rfl (fun c21 => ?_) (fun c21 => ?_)
              · have h := h.1 c21
                refine g_iconst (q := 88) 0 X dX4_landLine_87 rfl rfl ic_0 ?_
                exact g_zret (q := 0) .boolean X hR (nar_B (Or.inl rfl)) dX4_landLine_88 rfl ⟨rfl, rfl, _, rfl, (Or.inl rfl), h⟩
              · have h := h.2 c21
                refine g_iconst (q := 84) 1 X dX4_landLine_83 rfl rfl ic_1 ?_
                refine g_goto (q := 88) X dX4_landLine_84 (by decide) ?_
                exact g_zret (q := 0) .boolean X hR (nar_B (Or.inr rfl)) dX4_landLine_88 rfl ⟨rfl, rfl, _, rfl, (Or.inr rfl), h⟩
  · have h := h.2.2.1 c1
    refine g_tswIn (q := 89) (off := 88) X dX4_landLine_1 (by omega) (by omega) (by rw [c1]; rfl) (by decide) ?_
    refine g_aload_n (q := 90) 0 X dX4_landLine_89 rfl rfl rfl ?_
    refine g_iconst (q := 91) 0 X dX4_landLine_90 rfl rfl ic_0 ?_
    refine g_iconst (q := 92) 0 X dX4_landLine_91 rfl rfl ic_0 ?_
    refine g_cv (q := 95) [aI 0, aI 0] 4 X (ce_X4_use hK  h) kV_X4_106 rfl (by decide) rfl (hK.n (by decide)) rfl rfl (Nat.le_of_ble_eq_true rfl) (by decide) dX4_landLine_92 rfl (fun r n_ iv_ rv_ hf => ?_)
    obtain ⟨en_, er_, r22, rfl, br22, h⟩ := hf; subst n_; subst rv_
    generalize iv_ = iv23 at h ⊢
    refine g_if_eq (q := 98) 154 X dX4_landLine_95 (by decide) rfl (fun c24 => ?_) (fun c24 => ?_)
    · have h := h.1 c24
      refine g_iconst (q := 155) 0 X dX4_landLine_154 rfl rfl ic_0 ?_
      exact g_zret (q := 0) .boolean X hR (nar_B (Or.inl rfl)) dX4_landLine_155 rfl ⟨rfl, rfl, _, rfl, (Or.inl rfl), h⟩
    · have h := h.2 c24
      refine g_aload_n (q := 99) 0 X dX4_landLine_98 rfl rfl rfl ?_
      refine g_ldcS (q := 101) 48 X st_X4_117 (by decide) dX4_landLine_99 rfl ?_
      refine g_cv (q := 104) [aR (some (1000 + 48))] 4 X (ce_X4_word hK (by decide) h) kV_X4_102 rfl (by decide) rfl (hK.n (by decide)) rfl rfl (Nat.le_of_ble_eq_true rfl) (by decide) dX4_landLine_101 rfl (fun r n_ iv_ rv_ hf => ?_)
      obtain ⟨en_, er_, r25, rfl, br25, h⟩ := hf; subst n_; subst rv_
      generalize iv_ = iv26 at h ⊢
      refine g_if_eq (q := 107) 154 X dX4_landLine_104 (by decide) rfl (fun c27 => ?_) (fun c27 => ?_)
      · have h := h.1 c27
        refine g_iconst (q := 155) 0 X dX4_landLine_154 rfl rfl ic_0 ?_
        exact g_zret (q := 0) .boolean X hR (nar_B (Or.inl rfl)) dX4_landLine_155 rfl ⟨rfl, rfl, _, rfl, (Or.inl rfl), h⟩
      · have h := h.2 c27
        refine g_aload_n (q := 108) 0 X dX4_landLine_107 rfl rfl rfl ?_
        refine g_iconst (q := 109) 0 X dX4_landLine_108 rfl rfl ic_0 ?_
        refine g_iconst (q := 110) 0 X dX4_landLine_109 rfl rfl ic_0 ?_
        refine g_cv (q := 113) [aI 0, aI 0] 4 X (ce_X4_use hK  h) kV_X4_106 rfl (by decide) rfl (hK.n (by decide)) rfl rfl (Nat.le_of_ble_eq_true rfl) (by decide) dX4_landLine_110 rfl (fun r n_ iv_ rv_ hf => ?_)
        obtain ⟨en_, er_, r28, rfl, br28, h⟩ := hf; subst n_; subst rv_
        generalize iv_ = iv29 at h ⊢
        refine g_if_eq (q := 116) 154 X dX4_landLine_113 (by decide) rfl (fun c30 => ?_) (fun c30 => ?_)
        · have h := h.1 c30
          refine g_iconst (q := 155) 0 X dX4_landLine_154 rfl rfl ic_0 ?_
          exact g_zret (q := 0) .boolean X hR (nar_B (Or.inl rfl)) dX4_landLine_155 rfl ⟨rfl, rfl, _, rfl, (Or.inl rfl), h⟩
        · have h := h.2 c30
          refine g_aload_n (q := 117) 0 X dX4_landLine_116 rfl rfl rfl ?_
          refine g_cv (q := 120) [] 4 X (ce_X4_differ hK  h) kV_X4_119 rfl (by decide) rfl (hK.n (by decide)) rfl rfl (Nat.le_of_ble_eq_true rfl) (by decide) dX4_landLine_117 rfl (fun r n_ iv_ rv_ hf => ?_)
          obtain ⟨en_, er_, r31, rfl, br31, h⟩ := hf; subst n_; subst rv_
          generalize iv_ = iv32 at h ⊢
          refine g_if_eq (q := 123) 154 X dX4_landLine_120 (by decide) rfl (fun c33 => ?_) (fun c33 => ?_)
          · have h := h.1 c33
            refine g_iconst (q := 155) 0 X dX4_landLine_154 rfl rfl ic_0 ?_
            exact g_zret (q := 0) .boolean X hR (nar_B (Or.inl rfl)) dX4_landLine_155 rfl ⟨rfl, rfl, _, rfl, (Or.inl rfl), h⟩
          · have h := h.2 c33
            refine g_aload_n (q := 124) 0 X dX4_landLine_123 rfl rfl rfl ?_
            refine g_ldcS (q := 126) 23 X st_X4_122 (by decide) dX4_landLine_124 rfl ?_
            refine g_cv (q := 129) [aR (some (1000 + 23))] 4 X (ce_X4_word hK (by decide) h) kV_X4_102 rfl (by decide) rfl (hK.n (by decide)) rfl rfl (Nat.le_of_ble_eq_true rfl) (by decide) dX4_landLine_126 rfl (fun r n_ iv_ rv_ hf => ?_)
            obtain ⟨en_, er_, r34, rfl, br34, h⟩ := hf; subst n_; subst rv_
            generalize iv_ = iv35 at h ⊢
            refine g_if_eq (q := 132) 154 X dX4_landLine_129 (by decide) rfl (fun c36 => ?_) (fun c36 => ?_)
            · have h := h.1 c36
              refine g_iconst (q := 155) 0 X dX4_landLine_154 rfl rfl ic_0 ?_
              exact g_zret (q := 0) .boolean X hR (nar_B (Or.inl rfl)) dX4_landLine_155 rfl ⟨rfl, rfl, _, rfl, (Or.inl rfl), h⟩
            · have h := h.2 c36
              refine g_aload_n (q := 133) 0 X dX4_landLine_132 rfl rfl rfl ?_
              refine g_iconst (q := 134) 1 X dX4_landLine_133 rfl rfl ic_1 ?_
              refine g_bipush (q := 136) 99 X dX4_landLine_134 rfl bc_99 ic_99 ?_
              refine g_cv (q := 139) [aI 1, aI 99] 4 X (ce_X4_whole hK  h) kV_X4_111 rfl (by decide) rfl (hK.n (by decide)) rfl rfl (Nat.le_of_ble_eq_true rfl) (by decide) dX4_landLine_136 rfl (fun r n_ iv_ rv_ hf => ?_)
              obtain ⟨en_, er_, r37, rfl, br37, h⟩ := hf; subst n_; subst rv_
              generalize iv_ = iv38 at h ⊢
              refine g_if_eq (q := 142) 154 X dX4_landLine_139 (by decide) rfl (fun c39 => ?_) (fun c39 => ?_)
              · have h := h.1 c39
                refine g_iconst (q := 155) 0 X dX4_landLine_154 rfl rfl ic_0 ?_
                exact g_zret (q := 0) .boolean X hR (nar_B (Or.inl rfl)) dX4_landLine_155 rfl ⟨rfl, rfl, _, rfl, (Or.inl rfl), h⟩
              · have h := h.2 c39
                refine g_aload_n (q := 143) 0 X dX4_landLine_142 rfl rfl rfl ?_
                refine g_iconst (q := 144) (-1) X dX4_landLine_143 rfl rfl ic_m1 ?_
                refine g_cv (q := 147) [aI (-1)] 4 X (ce_X4_keepLink hK  h) kV_X4_124 rfl (by decide) rfl (hK.n (by decide)) rfl rfl (Nat.le_of_ble_eq_true rfl) (by decide) dX4_landLine_144 rfl (fun r n_ iv_ rv_ hf => ?_)
                obtain ⟨en_, er_, r40, rfl, br40, h⟩ := hf; subst n_; subst rv_
                generalize iv_ = iv41 at h ⊢
                refine g_if_eq (q := 150) 154 X dX4_landLine_147 (by decide) rfl (fun c42 => ?_) (fun c42 => ?_)
                · have h := h.1 c42
                  refine g_iconst (q := 155) 0 X dX4_landLine_154 rfl rfl ic_0 ?_
                  exact g_zret (q := 0) .boolean X hR (nar_B (Or.inl rfl)) dX4_landLine_155 rfl ⟨rfl, rfl, _, rfl, (Or.inl rfl), h⟩
                · have h := h.2 c42
                  refine g_iconst (q := 151) 1 X dX4_landLine_150 rfl rfl ic_1 ?_
                  refine g_goto (q := 155) X dX4_landLine_151 (by decide) ?_
                  exact g_zret (q := 0) .boolean X hR (nar_B (Or.inr rfl)) dX4_landLine_155 rfl ⟨rfl, rfl, _, rfl, (Or.inr rfl), h⟩
  · have h := h.2.2.2 c1
    refine g_tswIn (q := 156) (off := 155) X dX4_landLine_1 (by omega) (by omega) (by rw [c1]; rfl) (by decide) ?_
    refine g_aload_n (q := 157) 0 X dX4_landLine_156 rfl rfl rfl ?_
    refine g_iconst (q := 158) 4 X dX4_landLine_157 rfl rfl ic_4 ?_
    refine g_iload_n (q := 159) 2 X dX4_landLine_158 rfl rfl rfl ?_
    refine g_cv (q := 162) [aI 4, aI a2] 4 X (ce_X4_newName hK  h) kV_X4_97 rfl (by decide) rfl (hK.n (by decide)) rfl rfl (Nat.le_of_ble_eq_true rfl) (by decide) dX4_landLine_159 rfl (fun r n_ iv_ rv_ hf => ?_)
    obtain ⟨en_, er_, r43, rfl, br43, h⟩ := hf; subst n_; subst rv_
    generalize iv_ = iv44 at h ⊢
    refine g_if_eq (q := 165) 239 X dX4_landLine_162 (by decide) rfl (fun c45 => ?_) (fun c45 => ?_)
    · have h := h.1 c45
      refine g_iconst (q := 240) 0 X dX4_landLine_239 rfl rfl ic_0 ?_
      exact g_zret (q := 0) .boolean X hR (nar_B (Or.inl rfl)) dX4_landLine_240 rfl ⟨rfl, rfl, _, rfl, (Or.inl rfl), h⟩
    · have h := h.2 c45
      refine g_aload_n (q := 166) 0 X dX4_landLine_165 rfl rfl rfl ?_
      refine g_ldcS (q := 168) 6 X st_X4_127 (by decide) dX4_landLine_166 rfl ?_
      refine g_cv (q := 171) [aR (some (1000 + 6))] 4 X (ce_X4_word hK (by decide) h) kV_X4_102 rfl (by decide) rfl (hK.n (by decide)) rfl rfl (Nat.le_of_ble_eq_true rfl) (by decide) dX4_landLine_168 rfl (fun r n_ iv_ rv_ hf => ?_)
      obtain ⟨en_, er_, r46, rfl, br46, h⟩ := hf; subst n_; subst rv_
      generalize iv_ = iv47 at h ⊢
      refine g_if_eq (q := 174) 239 X dX4_landLine_171 (by decide) rfl (fun c48 => ?_) (fun c48 => ?_)
      · have h := h.1 c48
        refine g_iconst (q := 240) 0 X dX4_landLine_239 rfl rfl ic_0 ?_
        exact g_zret (q := 0) .boolean X hR (nar_B (Or.inl rfl)) dX4_landLine_240 rfl ⟨rfl, rfl, _, rfl, (Or.inl rfl), h⟩
      · have h := h.2 c48
        refine g_aload_n (q := 175) 0 X dX4_landLine_174 rfl rfl rfl ?_
        refine g_iconst (q := 176) 0 X dX4_landLine_175 rfl rfl ic_0 ?_
        refine g_iconst (q := 177) 0 X dX4_landLine_176 rfl rfl ic_0 ?_
        refine g_cv (q := 180) [aI 0, aI 0] 4 X (ce_X4_use hK  h) kV_X4_106 rfl (by decide) rfl (hK.n (by decide)) rfl rfl (Nat.le_of_ble_eq_true rfl) (by decide) dX4_landLine_177 rfl (fun r n_ iv_ rv_ hf => ?_)
        obtain ⟨en_, er_, r49, rfl, br49, h⟩ := hf; subst n_; subst rv_
        generalize iv_ = iv50 at h ⊢
        refine g_if_eq (q := 183) 239 X dX4_landLine_180 (by decide) rfl (fun c51 => ?_) (fun c51 => ?_)
        · have h := h.1 c51
          refine g_iconst (q := 240) 0 X dX4_landLine_239 rfl rfl ic_0 ?_
          exact g_zret (q := 0) .boolean X hR (nar_B (Or.inl rfl)) dX4_landLine_240 rfl ⟨rfl, rfl, _, rfl, (Or.inl rfl), h⟩
        · have h := h.2 c51
          refine g_aload_n (q := 184) 0 X dX4_landLine_183 rfl rfl rfl ?_
          refine g_ldcS (q := 186) 48 X st_X4_117 (by decide) dX4_landLine_184 rfl ?_
          refine g_cv (q := 189) [aR (some (1000 + 48))] 4 X (ce_X4_word hK (by decide) h) kV_X4_102 rfl (by decide) rfl (hK.n (by decide)) rfl rfl (Nat.le_of_ble_eq_true rfl) (by decide) dX4_landLine_186 rfl (fun r n_ iv_ rv_ hf => ?_)
          obtain ⟨en_, er_, r52, rfl, br52, h⟩ := hf; subst n_; subst rv_
          generalize iv_ = iv53 at h ⊢
          refine g_if_eq (q := 192) 239 X dX4_landLine_189 (by decide) rfl (fun c54 => ?_) (fun c54 => ?_)
          · have h := h.1 c54
            refine g_iconst (q := 240) 0 X dX4_landLine_239 rfl rfl ic_0 ?_
            exact g_zret (q := 0) .boolean X hR (nar_B (Or.inl rfl)) dX4_landLine_240 rfl ⟨rfl, rfl, _, rfl, (Or.inl rfl), h⟩
          · have h := h.2 c54
            refine g_aload_n (q := 193) 0 X dX4_landLine_192 rfl rfl rfl ?_
            refine g_iconst (q := 194) 0 X dX4_landLine_193 rfl rfl ic_0 ?_
            refine g_iconst (q := 195) 0 X dX4_landLine_194 rfl rfl ic_0 ?_
            refine g_cv (q := 198) [aI 0, aI 0] 4 X (ce_X4_use hK  h) kV_X4_106 rfl (by decide) rfl (hK.n (by decide)) rfl rfl (Nat.le_of_ble_eq_true rfl) (by decide) dX4_landLine_195 rfl (fun r n_ iv_ rv_ hf => ?_)
            obtain ⟨en_, er_, r55, rfl, br55, h⟩ := hf; subst n_; subst rv_
            generalize iv_ = iv56 at h ⊢
            refine g_if_eq (q := 201) 239 X dX4_landLine_198 (by decide) rfl (fun c57 => ?_) (fun c57 => ?_)
            · have h := h.1 c57
              refine g_iconst (q := 240) 0 X dX4_landLine_239 rfl rfl ic_0 ?_
              exact g_zret (q := 0) .boolean X hR (nar_B (Or.inl rfl)) dX4_landLine_240 rfl ⟨rfl, rfl, _, rfl, (Or.inl rfl), h⟩
            · have h := h.2 c57
              refine g_aload_n (q := 202) 0 X dX4_landLine_201 rfl rfl rfl ?_
              refine g_cv (q := 205) [] 4 X (ce_X4_differ hK  h) kV_X4_119 rfl (by decide) rfl (hK.n (by decide)) rfl rfl (Nat.le_of_ble_eq_true rfl) (by decide) dX4_landLine_202 rfl (fun r n_ iv_ rv_ hf => ?_)
              obtain ⟨en_, er_, r58, rfl, br58, h⟩ := hf; subst n_; subst rv_
              generalize iv_ = iv59 at h ⊢
              refine g_if_eq (q := 208) 239 X dX4_landLine_205 (by decide) rfl (fun c60 => ?_) (fun c60 => ?_)
              · have h := h.1 c60
                refine g_iconst (q := 240) 0 X dX4_landLine_239 rfl rfl ic_0 ?_
                exact g_zret (q := 0) .boolean X hR (nar_B (Or.inl rfl)) dX4_landLine_240 rfl ⟨rfl, rfl, _, rfl, (Or.inl rfl), h⟩
              · have h := h.2 c60
                refine g_aload_n (q := 209) 0 X dX4_landLine_208 rfl rfl rfl ?_
                refine g_ldcS (q := 211) 23 X st_X4_122 (by decide) dX4_landLine_209 rfl ?_
                refine g_cv (q := 214) [aR (some (1000 + 23))] 4 X (ce_X4_word hK (by decide) h) kV_X4_102 rfl (by decide) rfl (hK.n (by decide)) rfl rfl (Nat.le_of_ble_eq_true rfl) (by decide) dX4_landLine_211 rfl (fun r n_ iv_ rv_ hf => ?_)
                obtain ⟨en_, er_, r61, rfl, br61, h⟩ := hf; subst n_; subst rv_
                generalize iv_ = iv62 at h ⊢
                refine g_if_eq (q := 217) 239 X dX4_landLine_214 (by decide) rfl (fun c63 => ?_) (fun c63 => ?_)
                · have h := h.1 c63
                  refine g_iconst (q := 240) 0 X dX4_landLine_239 rfl rfl ic_0 ?_
                  exact g_zret (q := 0) .boolean X hR (nar_B (Or.inl rfl)) dX4_landLine_240 rfl ⟨rfl, rfl, _, rfl, (Or.inl rfl), h⟩
                · have h := h.2 c63
                  refine g_aload_n (q := 218) 0 X dX4_landLine_217 rfl rfl rfl ?_
                  refine g_iconst (q := 219) 1 X dX4_landLine_218 rfl rfl ic_1 ?_
                  refine g_bipush (q := 221) 99 X dX4_landLine_219 rfl bc_99 ic_99 ?_
                  refine g_cv (q := 224) [aI 1, aI 99] 4 X (ce_X4_whole hK  h) kV_X4_111 rfl (by decide) rfl (hK.n (by decide)) rfl rfl (Nat.le_of_ble_eq_true rfl) (by decide) dX4_landLine_221 rfl (fun r n_ iv_ rv_ hf => ?_)
                  obtain ⟨en_, er_, r64, rfl, br64, h⟩ := hf; subst n_; subst rv_
                  generalize iv_ = iv65 at h ⊢
                  refine g_if_eq (q := 227) 239 X dX4_landLine_224 (by decide) rfl (fun c66 => ?_) (fun c66 => ?_)
                  · have h := h.1 c66
                    refine g_iconst (q := 240) 0 X dX4_landLine_239 rfl rfl ic_0 ?_
                    exact g_zret (q := 0) .boolean X hR (nar_B (Or.inl rfl)) dX4_landLine_240 rfl ⟨rfl, rfl, _, rfl, (Or.inl rfl), h⟩
                  · have h := h.2 c66
                    refine g_aload_n (q := 228) 0 X dX4_landLine_227 rfl rfl rfl ?_
                    refine g_iload_n (q := 229) 2 X dX4_landLine_228 rfl rfl rfl ?_
                    refine g_cv (q := 232) [aI a2] 4 X (ce_X4_keepLink hK  h) kV_X4_124 rfl (by decide) rfl (hK.n (by decide)) rfl rfl (Nat.le_of_ble_eq_true rfl) (by decide) dX4_landLine_229 rfl (fun r n_ iv_ rv_ hf => ?_)
                    obtain ⟨en_, er_, r67, rfl, br67, h⟩ := hf; subst n_; subst rv_
                    generalize iv_ = iv68 at h ⊢
                    refine g_if_eq (q := 235) 239 X dX4_landLine_232 (by decide) rfl (fun c69 => ?_) (fun c69 => ?_)
                    · have h := h.1 c69
                      refine g_iconst (q := 240) 0 X dX4_landLine_239 rfl rfl ic_0 ?_
                      exact g_zret (q := 0) .boolean X hR (nar_B (Or.inl rfl)) dX4_landLine_240 rfl ⟨rfl, rfl, _, rfl, (Or.inl rfl), h⟩
                    · have h := h.2 c69
                      refine g_iconst (q := 236) 1 X dX4_landLine_235 rfl rfl ic_1 ?_
                      refine g_goto (q := 240) X dX4_landLine_236 (by decide) ?_
                      exact g_zret (q := 0) .boolean X hR (nar_B (Or.inr rfl)) dX4_landLine_240 rfl ⟨rfl, rfl, _, rfl, (Or.inr rfl), h⟩
def bd_X4_readLine_22 (iv : IV) (rv : RV) (K : Int → IV → Prop) : Prop :=
  wp_X4_failHere 1 iv rv (fun r1 iv2 => K r1 iv2)
set_option maxRecDepth 10000 in
theorem cb_X4_readLine_22 {Γ : GX} {n : Nat} {iv : IV} {rv : RV} {K : Int → IV → Prop} (X : Cx Γ RX4 cX4_readLine 4 8) (hR : Rt Γ (some .boolean) 0 0 (fB1 n rv K)) (hK : Lk n rv)  (h : bd_X4_readLine_22 iv rv K) : G Γ 4 22 [aR (some 40), aJ, aJ, aJ] [] n iv rv 0 0 := by
  unfold bd_X4_readLine_22 at h
  refine g_aload_n (q := 23) 0 X dX4_readLine_22 rfl rfl rfl ?_
  refine g_iconst (q := 24) 1 X dX4_readLine_23 rfl rfl ic_1 ?_
  refine g_cv (q := 27) [aI 1] 4 X (ce_X4_failHere hK  h) kV_X4_65 rfl (by decide) rfl (hK.n (by decide)) rfl rfl (Nat.le_of_ble_eq_true rfl) (by decide) dX4_readLine_24 rfl (fun r n_ iv_ rv_ hf => ?_)
  obtain ⟨en_, er_, r1, rfl, br1, h⟩ := hf; subst n_; subst rv_
  generalize iv_ = iv2 at h ⊢
  exact g_zret (q := 0) .boolean X hR (nar_B br1) dX4_readLine_27 rfl ⟨rfl, rfl, _, rfl, br1, h⟩
def bd_X4_readLine_85 (l1 t0 : Int) (iv : IV) (rv : RV) (K : Int → IV → Prop) : Prop :=
  ((t0 = 0) → ((t0 = 0 ∨ t0 = 1) ∧ K t0 iv)) ∧ ((¬ (t0 = 0)) → ((0 ≤ l1 ∧ l1 < 12) ∧ (0 ≤ l1 ∧ l1 < 12) ∧ ∀ iv5, iv5 = w2 iv (gR rv 40 5 + 1) l1.toNat (w32 ((iv (gR rv 40 5 + 1) l1.toNat) + 1)) → (t0 = 0 ∨ t0 = 1) ∧ K t0 iv5))
set_option maxRecDepth 10000 in
theorem cb_X4_readLine_85 {Γ : GX} {n : Nat} {iv : IV} {rv : RV} {K : Int → IV → Prop} {l1 t0 : Int} (X : Cx Γ RX4 cX4_readLine 4 8) (hR : Rt Γ (some .boolean) 0 0 (fB1 n rv K)) (hK : Lk n rv)  (h : bd_X4_readLine_85 l1 t0 iv rv K) : G Γ 4 85 [aR (some 40), aI l1, aJ, aJ] [aI t0] n iv rv 0 0 := by
  unfold bd_X4_readLine_85 at h
  refine g_istore_n (q := 86) 3 (L' := [aR (some 40), aI l1, aJ, aI t0]) X dX4_readLine_85 rfl rfl (by decide) rfl rfl ?_
  refine g_iload_n (q := 87) 3 X dX4_readLine_86 rfl rfl rfl ?_
  refine g_if_eq (q := 90) 103 X dX4_readLine_87 (by decide) rfl (fun c1 => ?_) (fun c1 => ?_)
  · have h := h.1 c1
    refine g_iload_n (q := 104) 3 X dX4_readLine_103 rfl rfl rfl ?_
    obtain ⟨s2, h⟩ := h
    exact g_zret (q := 0) .boolean X hR (nar_B s2) dX4_readLine_104 rfl ⟨rfl, rfl, _, rfl, s2, h⟩
  · have h := h.2 c1
    refine g_aload_n (q := 91) 0 X dX4_readLine_90 rfl rfl rfl ?_
    refine g_getR (q := 94) (r := some (gR rv 40 5)) 4 5 X hK.2.2.2.2.2.1.2.2.1.1 (lt2000 (c := 0) (isR_lt0 hK.2.2.2.2.2.1.2.2.1.2)) kf_X4_35 (by decide) (by decide) rfl rfl (hK.n (by decide)) dX4_readLine_91 rfl ?_
    refine g_getR (q := 97) (r := some (gR rv 40 5 + 1)) 5 0 X (lkR_0 hK hK.2.2.2.2.2.1.2.2.1.2) (lt2000 (c := 0) (isR_lt hK.2.2.2.2.2.1.2.2.1.2 (by decide))) kf_X4_62 (by decide) (by decide) rfl (shR_0 hK.2.2.2.2.2.1.2.2.1.2) (isR_n0 hK hK.2.2.2.2.2.1.2.2.1.2) dX4_readLine_94 rfl ?_
    refine g_iload_n (q := 98) 1 X dX4_readLine_97 rfl rfl rfl ?_
    refine g_dup2 (q := 99) X dX4_readLine_98 rfl rfl rfl ?_
    obtain ⟨s3, h⟩ := h
    refine g_iald (q := 100) X (shR_1 hK.2.2.2.2.2.1.2.2.1.2) (isR_n hK hK.2.2.2.2.2.1.2.2.1.2 (by decide)) s3 dX4_readLine_99 rfl ?_
    refine g_iconst (q := 101) 1 X dX4_readLine_100 rfl rfl ic_1 ?_
    refine g_iadd (q := 102) X dX4_readLine_101 rfl ?_
    obtain ⟨s4, h⟩ := h
    refine g_iast (q := 103) X (shR_1 hK.2.2.2.2.2.1.2.2.1.2) (isR_n hK hK.2.2.2.2.2.1.2.2.1.2 (by decide)) s4 dX4_readLine_102 rfl ?_
    refine g_nmM (fun iv5 eiv5 => ?_)
    have h := h iv5 eiv5
    refine g_iload_n (q := 104) 3 X dX4_readLine_103 rfl rfl rfl ?_
    obtain ⟨s6, h⟩ := h
    exact g_zret (q := 0) .boolean X hR (nar_B s6) dX4_readLine_104 rfl ⟨rfl, rfl, _, rfl, s6, h⟩
def wp_X4_readLine (iv : IV) (rv : RV) (K : Int → IV → Prop) : Prop :=
  wp_X7_among 40 iv rv (fun r1 => ((r1 < 0) → (bd_X4_readLine_22 iv rv K)) ∧ ((¬ (r1 < 0)) → (((r1 < 12) → ((0 ≤ r1 ∧ r1 < 12) ∧ ∀ x5, x5 = iv (gR rv 40 5 + 1) r1.toNat → (0 ≤ r1 ∧ r1 < 12) ∧ ((x5 < (roomL.getD r1.toNat 0)) → (wp_X7_advance iv rv (fun iv8 => ∀ iv9, iv9 = w2 iv8 40 3 0 → ((5 ≤ r1) → (wp_X4_paperLine r1 x5 iv9 rv (fun r11 iv12 => bd_X4_readLine_85 r1 r11 iv12 rv K))) ∧ ((¬ (5 ≤ r1)) → (wp_X4_landLine r1 x5 iv9 rv (fun r13 iv14 => bd_X4_readLine_85 r1 r13 iv14 rv K)))))) ∧ ((¬ (x5 < (roomL.getD r1.toNat 0))) → (wp_X4_failHere 5 iv rv (fun r15 iv16 => K r15 iv16))))) ∧ ((¬ (r1 < 12)) → (bd_X4_readLine_22 iv rv K)))))
set_option maxRecDepth 10000 in
theorem ce_X4_readLine {n : Nat} {iv : IV} {rv : RV} {K : Int → IV → Prop} (hK : Lk n rv)  (h : wp_X4_readLine  iv rv K) : Call 8 0 0 yX4_readLine cX4_readLine 4 (some .boolean) [aR (some 40)] n iv rv (fB1 n rv K) := by
  refine Call.by (L := [aR (some 40), aJ, aJ, aJ]) (by decide) rfl ⟨trivial, trivial⟩ rfl (Nat.le_of_ble_eq_true rfl) (fun Γ X hR => ?_)
  unfold wp_X4_readLine at h
  refine g_aload_n (q := 1) 0 X dX4_readLine_0 rfl rfl rfl ?_
  refine g_getR (q := 4) (r := some 46) 4 0 X (lk_40_0 hK) (lt2000 (c := 0) (by decide)) kf_X4_31 (by decide) (by decide) rfl rfl (hK.n (by decide)) dX4_readLine_1 rfl ?_
  refine g_ldcS (q := 6) 40 X st_X4_79 (by decide) dX4_readLine_4 rfl ?_
  refine g_cv (q := 9) [aR (some (1000 + 40))] 7 X (ce_X7_among hK (by decide) h) kV_X4_81 rfl (by decide) rfl (hK.n (by decide)) rfl rfl (Nat.le_of_ble_eq_true rfl) (by decide) dX4_readLine_6 rfl (fun r n_ iv_ rv_ hf => ?_)
  obtain ⟨en_, ei_, er_, r1, rfl, h⟩ := hf; subst n_; subst iv_; subst rv_
  refine g_istore_n (q := 10) 1 (L' := [aR (some 40), aI r1, aJ, aJ]) X dX4_readLine_9 rfl rfl (by decide) rfl rfl ?_
  refine g_iload_n (q := 11) 1 X dX4_readLine_10 rfl rfl rfl ?_
  refine g_if_lt (q := 14) 22 X dX4_readLine_11 (by decide) rfl (fun c2 => ?_) (fun c2 => ?_)
  · have h := h.1 c2
    refine g_sub (L' := [aR (some 40), aJ, aJ, aJ]) ⟨Or.inr rfl, Or.inl rfl, Or.inl rfl, Or.inl rfl, trivial⟩ ?_
    exact cb_X4_readLine_22 X hR hK   h
  · have h := h.2 c2
    refine g_iload_n (q := 15) 1 X dX4_readLine_14 rfl rfl rfl ?_
    refine g_gets_room (q := 18) X ks_X4_85 dX4_readLine_15 rfl ?_
    refine g_alen_room (q := 19) X dX4_readLine_18 rfl ?_
    refine g_icmp_lt (q := 22) 28 X dX4_readLine_19 (by decide) rfl (fun c3 => ?_) (fun c3 => ?_)
    · have h := h.1 c3
      refine g_aload_n (q := 29) 0 X dX4_readLine_28 rfl rfl rfl ?_
      refine g_getR (q := 32) (r := some (gR rv 40 5)) 4 5 X hK.2.2.2.2.2.1.2.2.1.1 (lt2000 (c := 0) (isR_lt0 hK.2.2.2.2.2.1.2.2.1.2)) kf_X4_35 (by decide) (by decide) rfl rfl (hK.n (by decide)) dX4_readLine_29 rfl ?_
      refine g_getR (q := 35) (r := some (gR rv 40 5 + 1)) 5 0 X (lkR_0 hK hK.2.2.2.2.2.1.2.2.1.2) (lt2000 (c := 0) (isR_lt hK.2.2.2.2.2.1.2.2.1.2 (by decide))) kf_X4_62 (by decide) (by decide) rfl (shR_0 hK.2.2.2.2.2.1.2.2.1.2) (isR_n0 hK hK.2.2.2.2.2.1.2.2.1.2) dX4_readLine_32 rfl ?_
      refine g_iload_n (q := 36) 1 X dX4_readLine_35 rfl rfl rfl ?_
      obtain ⟨s4, h⟩ := h
      refine g_iald (q := 37) X (shR_1 hK.2.2.2.2.2.1.2.2.1.2) (isR_n hK hK.2.2.2.2.2.1.2.2.1.2 (by decide)) s4 dX4_readLine_36 rfl ?_
      refine g_nmI (fun x5 ex5 => ?_)
      have h := h x5 ex5
      refine g_istore_n (q := 38) 2 (L' := [aR (some 40), aI r1, aI x5, aJ]) X dX4_readLine_37 rfl rfl (by decide) rfl rfl ?_
      refine g_iload_n (q := 39) 2 X dX4_readLine_38 rfl rfl rfl ?_
      refine g_gets_room (q := 42) X ks_X4_85 dX4_readLine_39 rfl ?_
      refine g_iload_n (q := 43) 1 X dX4_readLine_42 rfl rfl rfl ?_
      obtain ⟨s6, h⟩ := h
      refine g_iald_room (q := 44) X s6 dX4_readLine_43 rfl ?_
      refine g_icmp_lt (q := 47) 53 X dX4_readLine_44 (by decide) rfl (fun c7 => ?_) (fun c7 => ?_)
      · have h := h.1 c7
        refine g_aload_n (q := 54) 0 X dX4_readLine_53 rfl rfl rfl ?_
        refine g_getR (q := 57) (r := some 46) 4 0 X (lk_40_0 hK) (lt2000 (c := 0) (by decide)) kf_X4_31 (by decide) (by decide) rfl rfl (hK.n (by decide)) dX4_readLine_54 rfl ?_
        refine g_cv (q := 60) [] 7 X (ce_X7_advance hK  h) kV_X4_76 rfl (by decide) rfl (hK.n (by decide)) rfl rfl (Nat.le_of_ble_eq_true rfl) (by decide) dX4_readLine_57 rfl (fun r n_ iv_ rv_ hf => ?_)
        obtain ⟨en_, er_, rfl, h⟩ := hf; subst n_; subst rv_
        generalize iv_ = iv8 at h ⊢
        refine g_aload_n (q := 61) 0 X dX4_readLine_60 rfl rfl rfl ?_
        refine g_iconst (q := 62) 0 X dX4_readLine_61 rfl rfl ic_0 ?_
        refine g_putI (q := 65) 4 3 X (Or.inl rfl) rfl kf_X4_88 (by decide) (by decide) rfl (hK.n (by decide)) dX4_readLine_62 rfl ?_
        refine g_nmM (fun iv9 eiv9 => ?_)
        have h := h iv9 eiv9
        refine g_iload_n (q := 66) 1 X dX4_readLine_65 rfl rfl rfl ?_
        refine g_iconst (q := 67) 5 X dX4_readLine_66 rfl rfl ic_5 ?_
        refine g_icmp_ge (q := 70) 79 X dX4_readLine_67 (by decide) rfl (fun c10 => ?_) (fun c10 => ?_)
        · have h := h.1 c10
          refine g_aload_n (q := 80) 0 X dX4_readLine_79 rfl rfl rfl ?_
          refine g_iload_n (q := 81) 1 X dX4_readLine_80 rfl rfl rfl ?_
          refine g_iload_n (q := 82) 2 X dX4_readLine_81 rfl rfl rfl ?_
          refine g_cv (q := 85) [aI r1, aI x5] 4 X (ce_X4_paperLine hK  h) kV_X4_94 rfl (by decide) rfl (hK.n (by decide)) rfl rfl (Nat.le_of_ble_eq_true rfl) (by decide) dX4_readLine_82 rfl (fun r n_ iv_ rv_ hf => ?_)
          obtain ⟨en_, er_, r11, rfl, br11, h⟩ := hf; subst n_; subst rv_
          generalize iv_ = iv12 at h ⊢
          refine g_sub (L' := [aR (some 40), aI r1, aJ, aJ]) ⟨Or.inr rfl, Or.inr rfl, Or.inl rfl, Or.inl rfl, trivial⟩ ?_
          exact cb_X4_readLine_85 X hR hK   h
        · have h := h.2 c10
          refine g_aload_n (q := 71) 0 X dX4_readLine_70 rfl rfl rfl ?_
          refine g_iload_n (q := 72) 1 X dX4_readLine_71 rfl rfl rfl ?_
          refine g_iload_n (q := 73) 2 X dX4_readLine_72 rfl rfl rfl ?_
          refine g_cv (q := 76) [aI r1, aI x5] 4 X (ce_X4_landLine hK  h) kV_X4_91 rfl (by decide) rfl (hK.n (by decide)) rfl rfl (Nat.le_of_ble_eq_true rfl) (by decide) dX4_readLine_73 rfl (fun r n_ iv_ rv_ hf => ?_)
          obtain ⟨en_, er_, r13, rfl, br13, h⟩ := hf; subst n_; subst rv_
          generalize iv_ = iv14 at h ⊢
          refine g_goto (q := 85) X dX4_readLine_76 (by decide) ?_
          refine g_sub (L' := [aR (some 40), aI r1, aJ, aJ]) ⟨Or.inr rfl, Or.inr rfl, Or.inl rfl, Or.inl rfl, trivial⟩ ?_
          exact cb_X4_readLine_85 X hR hK   h
      · have h := h.2 c7
        refine g_aload_n (q := 48) 0 X dX4_readLine_47 rfl rfl rfl ?_
        refine g_iconst (q := 49) 5 X dX4_readLine_48 rfl rfl ic_5 ?_
        refine g_cv (q := 52) [aI 5] 4 X (ce_X4_failHere hK  h) kV_X4_65 rfl (by decide) rfl (hK.n (by decide)) rfl rfl (Nat.le_of_ble_eq_true rfl) (by decide) dX4_readLine_49 rfl (fun r n_ iv_ rv_ hf => ?_)
        obtain ⟨en_, er_, r15, rfl, br15, h⟩ := hf; subst n_; subst rv_
        generalize iv_ = iv16 at h ⊢
        exact g_zret (q := 0) .boolean X hR (nar_B br15) dX4_readLine_52 rfl ⟨rfl, rfl, _, rfl, br15, h⟩
    · have h := h.2 c3
      refine g_sub (L' := [aR (some 40), aJ, aJ, aJ]) ⟨Or.inr rfl, Or.inl rfl, Or.inl rfl, Or.inl rfl, trivial⟩ ?_
      exact cb_X4_readLine_22 X hR hK   h
def wp_X4_parting (iv : IV) (rv : RV) (K : Int → IV → Prop) : Prop :=
  (((iv 46 3) = 3) → (wp_X7_advance iv rv (fun iv2 => K 1 iv2))) ∧ ((¬ ((iv 46 3) = 3)) → (wp_X4_failHere 1 iv rv (fun r3 iv4 => K r3 iv4)))
set_option maxRecDepth 10000 in
theorem ce_X4_parting {n : Nat} {iv : IV} {rv : RV} {K : Int → IV → Prop} (hK : Lk n rv)  (h : wp_X4_parting  iv rv K) : Call 2 0 0 yX4_parting cX4_parting 1 (some .boolean) [aR (some 40)] n iv rv (fB1 n rv K) := by
  refine Call.by (L := [aR (some 40)]) (by decide) rfl ⟨trivial, trivial⟩ rfl (Nat.le_of_ble_eq_true rfl) (fun Γ X hR => ?_)
  unfold wp_X4_parting at h
  refine g_aload_n (q := 1) 0 X dX4_parting_0 rfl rfl rfl ?_
  refine g_getR (q := 4) (r := some 46) 4 0 X (lk_40_0 hK) (lt2000 (c := 0) (by decide)) kf_X4_31 (by decide) (by decide) rfl rfl (hK.n (by decide)) dX4_parting_1 rfl ?_
  refine g_getI (q := 7) 7 3 X kf_X4_56 (by decide) (by decide) rfl rfl (hK.n (by decide)) dX4_parting_4 rfl ?_
  refine g_iconst (q := 8) 3 X dX4_parting_7 rfl rfl ic_3 ?_
  refine g_icmp_eq (q := 11) 17 X dX4_parting_8 (by decide) rfl (fun c1 => ?_) (fun c1 => ?_)
  · have h := h.1 c1
    refine g_aload_n (q := 18) 0 X dX4_parting_17 rfl rfl rfl ?_
    refine g_getR (q := 21) (r := some 46) 4 0 X (lk_40_0 hK) (lt2000 (c := 0) (by decide)) kf_X4_31 (by decide) (by decide) rfl rfl (hK.n (by decide)) dX4_parting_18 rfl ?_
    refine g_cv (q := 24) [] 7 X (ce_X7_advance hK  h) kV_X4_76 rfl (by decide) rfl (hK.n (by decide)) rfl rfl (Nat.le_of_ble_eq_true rfl) (by decide) dX4_parting_21 rfl (fun r n_ iv_ rv_ hf => ?_)
    obtain ⟨en_, er_, rfl, h⟩ := hf; subst n_; subst rv_
    generalize iv_ = iv2 at h ⊢
    refine g_iconst (q := 25) 1 X dX4_parting_24 rfl rfl ic_1 ?_
    exact g_zret (q := 0) .boolean X hR (nar_B (Or.inr rfl)) dX4_parting_25 rfl ⟨rfl, rfl, _, rfl, (Or.inr rfl), h⟩
  · have h := h.2 c1
    refine g_aload_n (q := 12) 0 X dX4_parting_11 rfl rfl rfl ?_
    refine g_iconst (q := 13) 1 X dX4_parting_12 rfl rfl ic_1 ?_
    refine g_cv (q := 16) [aI 1] 4 X (ce_X4_failHere hK  h) kV_X4_65 rfl (by decide) rfl (hK.n (by decide)) rfl rfl (Nat.le_of_ble_eq_true rfl) (by decide) dX4_parting_13 rfl (fun r n_ iv_ rv_ hf => ?_)
    obtain ⟨en_, er_, r3, rfl, br3, h⟩ := hf; subst n_; subst rv_
    generalize iv_ = iv4 at h ⊢
    exact g_zret (q := 0) .boolean X hR (nar_B br3) dX4_parting_16 rfl ⟨rfl, rfl, _, rfl, br3, h⟩
def bd_X4_read_123 (b1 : Nat) (iv : IV) (rv : RV) (K : Int → IV → RV → Prop) : Prop :=
  wp_X4_failHere 6 iv rv (fun r1 iv2 => K r1 iv2 rv)
set_option maxRecDepth 10000 in
theorem cb_X4_read_123 {Γ : GX} {n : Nat} {iv : IV} {rv : RV} {K : Int → IV → RV → Prop} {b1 : Nat} (X : Cx Γ RX4 cX4_read 5 9) (hR : Rt Γ (some .boolean) 0 0 (fB2 n K)) (hK : Lk n rv) (hb_b1 : isR b1) (h : bd_X4_read_123 b1 iv rv K) : G Γ 5 123 [aR (some 40), aJ, aJ, aJ, aJ] [] n iv rv 0 0 := by
  unfold bd_X4_read_123 at h
  refine g_aload_n (q := 124) 0 X dX4_read_123 rfl rfl rfl ?_
  refine g_bipush (q := 126) 6 X dX4_read_124 rfl bc_6 ic_6 ?_
  refine g_cv (q := 129) [aI 6] 4 X (ce_X4_failHere hK  h) kV_X4_65 rfl (by decide) rfl (hK.n (by decide)) rfl rfl (Nat.le_of_ble_eq_true rfl) (by decide) dX4_read_126 rfl (fun r n_ iv_ rv_ hf => ?_)
  obtain ⟨en_, er_, r1, rfl, br1, h⟩ := hf; subst n_; subst rv_
  generalize iv_ = iv2 at h ⊢
  refine g_istore_n (q := 130) 3 (L' := [aR (some 40), aJ, aJ, aI r1, aJ]) X dX4_read_129 rfl rfl (by decide) rfl rfl ?_
  refine g_iload_n (q := 131) 3 X dX4_read_130 rfl rfl rfl ?_
  exact g_zret (q := 0) .boolean X hR (nar_B br1) dX4_read_131 rfl ⟨rfl, hK, _, rfl, br1, h⟩
def bd_X4_read_93 (b1 : Nat) (l3 : Int) (iv : IV) (rv : RV) (K : Int → IV → RV → Prop) : Prop :=
  ((l3 = 0) → ((l3 = 0 ∨ l3 = 1) ∧ K l3 iv rv)) ∧ ((¬ (l3 = 0)) → ((((iv (gR rv 40 5 + 1) 0) < 2) → (bd_X4_read_123 b1 iv rv K)) ∧ ((¬ ((iv (gR rv 40 5 + 1) 0) < 2)) → ((((iv (gR rv 40 5 + 1) 10) ≠ 0) → ((l3 = 0 ∨ l3 = 1) ∧ K l3 iv rv)) ∧ (((iv (gR rv 40 5 + 1) 10) = 0) → (bd_X4_read_123 b1 iv rv K))))))
set_option maxRecDepth 10000 in
theorem cb_X4_read_93 {Γ : GX} {n : Nat} {iv : IV} {rv : RV} {K : Int → IV → RV → Prop} {b1 : Nat} {l3 : Int} (X : Cx Γ RX4 cX4_read 5 9) (hR : Rt Γ (some .boolean) 0 0 (fB2 n K)) (hK : Lk n rv) (hb_b1 : isR b1) (h : bd_X4_read_93 b1 l3 iv rv K) : G Γ 5 93 [aR (some 40), aJ, aJ, aI l3, aJ] [] n iv rv 0 0 := by
  unfold bd_X4_read_93 at h
  refine g_iload_n (q := 94) 3 X dX4_read_93 rfl rfl rfl ?_
  refine g_if_eq (q := 97) 130 X dX4_read_94 (by decide) rfl (fun c1 => ?_) (fun c1 => ?_)
  · have h := h.1 c1
    refine g_iload_n (q := 131) 3 X dX4_read_130 rfl rfl rfl ?_
    obtain ⟨s2, h⟩ := h
    exact g_zret (q := 0) .boolean X hR (nar_B s2) dX4_read_131 rfl ⟨rfl, hK, _, rfl, s2, h⟩
  · have h := h.2 c1
    refine g_aload_n (q := 98) 0 X dX4_read_97 rfl rfl rfl ?_
    refine g_getR (q := 101) (r := some (gR rv 40 5)) 4 5 X hK.2.2.2.2.2.1.2.2.1.1 (lt2000 (c := 0) (isR_lt0 hK.2.2.2.2.2.1.2.2.1.2)) kf_X4_35 (by decide) (by decide) rfl rfl (hK.n (by decide)) dX4_read_98 rfl ?_
    refine g_getR (q := 104) (r := some (gR rv 40 5 + 1)) 5 0 X (lkR_0 hK hK.2.2.2.2.2.1.2.2.1.2) (lt2000 (c := 0) (isR_lt hK.2.2.2.2.2.1.2.2.1.2 (by decide))) kf_X4_62 (by decide) (by decide) rfl (shR_0 hK.2.2.2.2.2.1.2.2.1.2) (isR_n0 hK hK.2.2.2.2.2.1.2.2.1.2) dX4_read_101 rfl ?_
    refine g_iconst (q := 105) 0 X dX4_read_104 rfl rfl ic_0 ?_
    refine g_iald (q := 106) X (shR_1 hK.2.2.2.2.2.1.2.2.1.2) (isR_n hK hK.2.2.2.2.2.1.2.2.1.2 (by decide)) (by decide) dX4_read_105 rfl ?_
    refine g_iconst (q := 107) 2 X dX4_read_106 rfl rfl ic_2 ?_
    refine g_icmp_lt (q := 110) 123 X dX4_read_107 (by decide) rfl (fun c3 => ?_) (fun c3 => ?_)
    · have h := h.1 c3
      refine g_sub (L' := [aR (some 40), aJ, aJ, aJ, aJ]) ⟨Or.inr rfl, Or.inl rfl, Or.inl rfl, Or.inl rfl, Or.inl rfl, trivial⟩ ?_
      exact cb_X4_read_123 X hR hK hb_b1  h
    · have h := h.2 c3
      refine g_aload_n (q := 111) 0 X dX4_read_110 rfl rfl rfl ?_
      refine g_getR (q := 114) (r := some (gR rv 40 5)) 4 5 X hK.2.2.2.2.2.1.2.2.1.1 (lt2000 (c := 0) (isR_lt0 hK.2.2.2.2.2.1.2.2.1.2)) kf_X4_35 (by decide) (by decide) rfl rfl (hK.n (by decide)) dX4_read_111 rfl ?_
      refine g_getR (q := 117) (r := some (gR rv 40 5 + 1)) 5 0 X (lkR_0 hK hK.2.2.2.2.2.1.2.2.1.2) (lt2000 (c := 0) (isR_lt hK.2.2.2.2.2.1.2.2.1.2 (by decide))) kf_X4_62 (by decide) (by decide) rfl (shR_0 hK.2.2.2.2.2.1.2.2.1.2) (isR_n0 hK hK.2.2.2.2.2.1.2.2.1.2) dX4_read_114 rfl ?_
      refine g_bipush (q := 119) 10 X dX4_read_117 rfl bc_10 ic_10 ?_
      refine g_iald (q := 120) X (shR_1 hK.2.2.2.2.2.1.2.2.1.2) (isR_n hK hK.2.2.2.2.2.1.2.2.1.2 (by decide)) (by decide) dX4_read_119 rfl ?_
      refine g_if_ne (q := 123) 130 X dX4_read_120 (by decide) rfl (fun c4 => ?_) (fun c4 => ?_)
      · have h := h.1 c4
        refine g_iload_n (q := 131) 3 X dX4_read_130 rfl rfl rfl ?_
        obtain ⟨s5, h⟩ := h
        exact g_zret (q := 0) .boolean X hR (nar_B s5) dX4_read_131 rfl ⟨rfl, hK, _, rfl, s5, h⟩
      · have h := h.2 c4
        refine g_sub (L' := [aR (some 40), aJ, aJ, aJ, aJ]) ⟨Or.inr rfl, Or.inl rfl, Or.inl rfl, Or.inl rfl, Or.inl rfl, trivial⟩ ?_
        exact cb_X4_read_123 X hR hK hb_b1  h
def bd_X4_read_86 (b1 : Nat) (P45 : Int → Int → IV → RV → Prop) (l4 t0 : Int) (iv : IV) (rv : RV) (K : Int → IV → RV → Prop) : Prop :=
  P45 t0 (w32 (l4 + 1)) iv rv
set_option maxRecDepth 10000 in
theorem cb_X4_read_86 {Γ : GX} {n : Nat} {iv : IV} {rv : RV} {K : Int → IV → RV → Prop} {b1 : Nat} {P45 : Int → Int → IV → RV → Prop} {l4 t0 : Int} (X : Cx Γ RX4 cX4_read 5 9) (hR : Rt Γ (some .boolean) 0 0 (fB2 n K)) (hK : Lk n rv) (hb_b1 : isR b1) (hP45 : ∀ (l3' l4' : Int) (iv' : IV) (rv' : RV), P45 l3' l4' iv' rv' → Lk n rv' → G Γ 5 45 [aR (some 40), aJ, aJ, aI (l3'), aI (l4')] [] n iv' rv' 0 0) (h : bd_X4_read_86 b1 P45 l4 t0 iv rv K) : G Γ 5 86 [aR (some 40), aJ, aJ, aJ, aI l4] [aI t0] n iv rv 0 0 := by
  unfold bd_X4_read_86 at h
  refine g_istore_n (q := 87) 3 (L' := [aR (some 40), aJ, aJ, aI t0, aI l4]) X dX4_read_86 rfl rfl (by decide) rfl rfl ?_
  refine g_iinc (q := 90) 4 (L' := [aR (some 40), aJ, aJ, aI t0, aI (w32 (l4 + 1))]) X dX4_read_87 rfl (by decide) rfl rfl rfl ?_
  refine g_goto (q := 45) X dX4_read_90 (by decide) ?_
  exact hP45 _ _ _ _ h hK
def bd_X4_read_85 (b1 : Nat) (P45 : Int → Int → IV → RV → Prop) (l4 : Int) (iv : IV) (rv : RV) (K : Int → IV → RV → Prop) : Prop :=
  bd_X4_read_86 b1 P45 l4 0 iv rv K
set_option maxRecDepth 10000 in
theorem cb_X4_read_85 {Γ : GX} {n : Nat} {iv : IV} {rv : RV} {K : Int → IV → RV → Prop} {b1 : Nat} {P45 : Int → Int → IV → RV → Prop} {l4 : Int} (X : Cx Γ RX4 cX4_read 5 9) (hR : Rt Γ (some .boolean) 0 0 (fB2 n K)) (hK : Lk n rv) (hb_b1 : isR b1) (hP45 : ∀ (l3' l4' : Int) (iv' : IV) (rv' : RV), P45 l3' l4' iv' rv' → Lk n rv' → G Γ 5 45 [aR (some 40), aJ, aJ, aI (l3'), aI (l4')] [] n iv' rv' 0 0) (h : bd_X4_read_85 b1 P45 l4 iv rv K) : G Γ 5 85 [aR (some 40), aJ, aJ, aJ, aI l4] [] n iv rv 0 0 := by
  unfold bd_X4_read_85 at h
  refine g_iconst (q := 86) 0 X dX4_read_85 rfl rfl ic_0 ?_
  exact cb_X4_read_86 X hR hK hb_b1 hP45 h
def bd_X4_read_45 (b1 : Nat) (P45 : Int → Int → IV → RV → Prop) (l3 l4 : Int) (iv : IV) (rv : RV) (K : Int → IV → RV → Prop) : Prop :=
  ((900 ≤ l4) → (bd_X4_read_93 b1 l3 iv rv K)) ∧ ((¬ (900 ≤ l4)) → (((l3 = 0) → (bd_X4_read_93 b1 l3 iv rv K)) ∧ ((¬ (l3 = 0)) → ((((iv 46 3) = 0) → (bd_X4_read_93 b1 l3 iv rv K)) ∧ ((¬ ((iv 46 3) = 0)) → (wp_X4_parting iv rv (fun r4 iv5 => ((r4 = 0) → (bd_X4_read_85 b1 P45 l4 iv5 rv K)) ∧ ((¬ (r4 = 0)) → (wp_X4_readLine iv5 rv (fun r7 iv8 => ((r7 = 0) → (bd_X4_read_85 b1 P45 l4 iv8 rv K)) ∧ ((¬ (r7 = 0)) → (bd_X4_read_86 b1 P45 l4 1 iv8 rv K))))))))))))
set_option maxRecDepth 10000 in
theorem cb_X4_read_45 {Γ : GX} {n : Nat} {iv : IV} {rv : RV} {K : Int → IV → RV → Prop} {b1 : Nat} {P45 : Int → Int → IV → RV → Prop} {l3 l4 : Int} (X : Cx Γ RX4 cX4_read 5 9) (hR : Rt Γ (some .boolean) 0 0 (fB2 n K)) (hK : Lk n rv) (hb_b1 : isR b1) (hP45 : ∀ (l3' l4' : Int) (iv' : IV) (rv' : RV), P45 l3' l4' iv' rv' → Lk n rv' → G Γ 5 45 [aR (some 40), aJ, aJ, aI (l3'), aI (l4')] [] n iv' rv' 0 0) (h : bd_X4_read_45 b1 P45 l3 l4 iv rv K) : G Γ 5 45 [aR (some 40), aJ, aJ, aI l3, aI l4] [] n iv rv 0 0 := by
  unfold bd_X4_read_45 at h
  refine g_iload (q := 47) 4 X dX4_read_45 rfl rfl ?_
  refine g_sipush (q := 50) 900 X dX4_read_47 rfl sc_900 ic_900 ?_
  refine g_icmp_ge (q := 53) 93 X dX4_read_50 (by decide) rfl (fun c1 => ?_) (fun c1 => ?_)
  · have h := h.1 c1
    refine g_sub (L' := [aR (some 40), aJ, aJ, aI l3, aJ]) ⟨Or.inr rfl, Or.inl rfl, Or.inl rfl, Or.inr rfl, Or.inl rfl, trivial⟩ ?_
    exact cb_X4_read_93 X hR hK hb_b1  h
  · have h := h.2 c1
    refine g_iload_n (q := 54) 3 X dX4_read_53 rfl rfl rfl ?_
    refine g_if_eq (q := 57) 93 X dX4_read_54 (by decide) rfl (fun c2 => ?_) (fun c2 => ?_)
    · have h := h.1 c2
      refine g_sub (L' := [aR (some 40), aJ, aJ, aI l3, aJ]) ⟨Or.inr rfl, Or.inl rfl, Or.inl rfl, Or.inr rfl, Or.inl rfl, trivial⟩ ?_
      exact cb_X4_read_93 X hR hK hb_b1  h
    · have h := h.2 c2
      refine g_aload_n (q := 58) 0 X dX4_read_57 rfl rfl rfl ?_
      refine g_getR (q := 61) (r := some 46) 4 0 X (lk_40_0 hK) (lt2000 (c := 0) (by decide)) kf_X4_31 (by decide) (by decide) rfl rfl (hK.n (by decide)) dX4_read_58 rfl ?_
      refine g_getI (q := 64) 7 3 X kf_X4_56 (by decide) (by decide) rfl rfl (hK.n (by decide)) dX4_read_61 rfl ?_
      refine g_if_eq (q := 67) 93 X dX4_read_64 (by decide) rfl (fun c3 => ?_) (fun c3 => ?_)
      · have h := h.1 c3
        refine g_sub (L' := [aR (some 40), aJ, aJ, aI l3, aJ]) ⟨Or.inr rfl, Or.inl rfl, Or.inl rfl, Or.inr rfl, Or.inl rfl, trivial⟩ ?_
        exact cb_X4_read_93 X hR hK hb_b1  h
      · have h := h.2 c3
        refine g_aload_n (q := 68) 0 X dX4_read_67 rfl rfl rfl ?_
        refine g_cv (q := 71) [] 4 X (ce_X4_parting hK  h) kV_X4_59 rfl (by decide) rfl (hK.n (by decide)) rfl rfl (Nat.le_of_ble_eq_true rfl) (by decide) dX4_read_68 rfl (fun r n_ iv_ rv_ hf => ?_)
        obtain ⟨en_, er_, r4, rfl, br4, h⟩ := hf; subst n_; subst rv_
        generalize iv_ = iv5 at h ⊢
        refine g_if_eq (q := 74) 85 X dX4_read_71 (by decide) rfl (fun c6 => ?_) (fun c6 => ?_)
        · have h := h.1 c6
          refine g_sub (L' := [aR (some 40), aJ, aJ, aJ, aI l4]) ⟨Or.inr rfl, Or.inl rfl, Or.inl rfl, Or.inl rfl, Or.inr rfl, trivial⟩ ?_
          exact cb_X4_read_85 X hR hK hb_b1 hP45 h
        · have h := h.2 c6
          refine g_aload_n (q := 75) 0 X dX4_read_74 rfl rfl rfl ?_
          refine g_cv (q := 78) [] 4 X (ce_X4_readLine hK  h) kV_X4_52 rfl (by decide) rfl (hK.n (by decide)) rfl rfl (Nat.le_of_ble_eq_true rfl) (by decide) dX4_read_75 rfl (fun r n_ iv_ rv_ hf => ?_)
          obtain ⟨en_, er_, r7, rfl, br7, h⟩ := hf; subst n_; subst rv_
          generalize iv_ = iv8 at h ⊢
          refine g_if_eq (q := 81) 85 X dX4_read_78 (by decide) rfl (fun c9 => ?_) (fun c9 => ?_)
          · have h := h.1 c9
            refine g_sub (L' := [aR (some 40), aJ, aJ, aJ, aI l4]) ⟨Or.inr rfl, Or.inl rfl, Or.inl rfl, Or.inl rfl, Or.inr rfl, trivial⟩ ?_
            exact cb_X4_read_85 X hR hK hb_b1 hP45 h
          · have h := h.2 c9
            refine g_iconst (q := 82) 1 X dX4_read_81 rfl rfl ic_1 ?_
            refine g_goto (q := 86) X dX4_read_82 (by decide) ?_
            refine g_sub (L' := [aR (some 40), aJ, aJ, aJ, aI l4]) ⟨Or.inr rfl, Or.inl rfl, Or.inl rfl, Or.inl rfl, Or.inr rfl, trivial⟩ ?_
            exact cb_X4_read_86 X hR hK hb_b1 hP45 h
def wl_X4_read_45 (b1 : Nat) (l3 l4 : Int) (iv : IV) (rv : RV) (K : Int → IV → RV → Prop) : Prop :=
  ∀ P : Int → Int → IV → RV → Prop, (∀ (l3' l4' : Int) (iv' : IV) (rv' : RV), bd_X4_read_45 b1 P l3' l4' iv' rv' K → P l3' l4' iv' rv') → P l3 l4 iv rv
theorem cl_X4_read_45 {Γ : GX} {n : Nat} {iv : IV} {rv : RV} {K : Int → IV → RV → Prop} {b1 : Nat} {l3 l4 : Int} (X : Cx Γ RX4 cX4_read 5 9) (hR : Rt Γ (some .boolean) 0 0 (fB2 n K)) (hK : Lk n rv) (hb_b1 : isR b1) (h : wl_X4_read_45 b1 l3 l4 iv rv K) : G Γ 5 45 [aR (some 40), aJ, aJ, aI l3, aI l4] [] n iv rv 0 0 := by
  exact h (fun l3' l4' iv' rv' =>  (Lk n rv' → G Γ 5 45 [aR (some 40), aJ, aJ, aI (l3'), aI (l4')] [] n iv' rv' 0 0)) (fun l3' l4' iv' rv' hb hK => cb_X4_read_45 X hR hK hb_b1  (fun l3' l4' iv' rv' hp hK => hp hK) hb) hK
def wp_X4_read (b1 : Nat) (a2 : Int) (iv : IV) (rv : RV) (K : Int → IV → RV → Prop) : Prop :=
  ∀ rv1, rv1 = r2 rv 40 5 (some b1) → wp_X5_clear (gR rv1 40 5) iv rv1 (fun iv2 => wp_X2_clear iv2 rv1 (fun iv3 => ∀ iv4, iv4 = w2 iv3 40 6 0 → ∀ iv5, iv5 = w2 iv4 40 7 (-1) → wp_X7_open a2 iv5 rv1 (fun iv6 => wp_X4_readLine iv6 rv1 (fun r7 iv8 => wl_X4_read_45 b1 r7 1 iv8 rv1 K))))
set_option maxRecDepth 10000 in
theorem ce_X4_read {n : Nat} {iv : IV} {rv : RV} {K : Int → IV → RV → Prop} {b1 : Nat} {a2 : Int} (hK : Lk n rv) (hb_b1 : isR b1) (h : wp_X4_read b1 a2 iv rv K) : Call 9 0 0 yX4_read cX4_read 5 (some .boolean) [aR (some 40), aR (some b1), aI a2] n iv rv (fB2 n K) := by
  refine Call.by (L := [aR (some 40), aR (some b1), aI a2, aJ, aJ]) (by decide) rfl ⟨trivial, trivial, trivial, trivial⟩ rfl (Nat.le_of_ble_eq_true rfl) (fun Γ X hR => ?_)
  unfold wp_X4_read at h
  refine g_aload_n (q := 1) 0 X dX4_read_0 rfl rfl rfl ?_
  refine g_aload_n (q := 2) 1 X dX4_read_1 rfl rfl rfl ?_
  refine g_putR (q := 5) 4 5 X rfl rfl kf_X4_35 (by decide) (by decide) rfl (hK.n (by decide)) dX4_read_2 rfl ?_
  refine g_nmR (fun rv1 erv1 => ?_)
  have h := h rv1 erv1
  have hK_rv1 : Lk n rv1 := by rw [erv1]; exact Lk.w5 hK hb_b1 (by decide)
  refine g_aload_n (q := 6) 0 X dX4_read_5 rfl rfl rfl ?_
  refine g_getR (q := 9) (r := some (gR rv1 40 5)) 4 5 X hK_rv1.2.2.2.2.2.1.2.2.1.1 (lt2000 (c := 0) (isR_lt0 hK_rv1.2.2.2.2.2.1.2.2.1.2)) kf_X4_35 (by decide) (by decide) rfl rfl (hK_rv1.n (by decide)) dX4_read_6 rfl ?_
  refine g_cv (q := 12) [] 5 X (ce_X5_clear hK_rv1 hK_rv1.2.2.2.2.2.1.2.2.1.2 h) kV_X4_39 rfl (by decide) (shR_0 hK_rv1.2.2.2.2.2.1.2.2.1.2) (isR_n0 hK_rv1 hK_rv1.2.2.2.2.2.1.2.2.1.2) rfl rfl (Nat.le_of_ble_eq_true rfl) (by decide) dX4_read_9 rfl (fun r n_ iv_ rv_ hf => ?_)
  obtain ⟨en_, er_, rfl, h⟩ := hf; subst n_; subst rv_
  generalize iv_ = iv2 at h ⊢
  refine g_aload_n (q := 13) 0 X dX4_read_12 rfl rfl rfl ?_
  refine g_getR (q := 16) (r := some 41) 4 1 X (lk_40_1 hK_rv1) (lt2000 (c := 0) (by decide)) kf_X4_12 (by decide) (by decide) rfl rfl (hK_rv1.n (by decide)) dX4_read_13 rfl ?_
  refine g_cv (q := 19) [] 2 X (ce_X2_clear hK_rv1  h) kV_X4_44 rfl (by decide) rfl (hK_rv1.n (by decide)) rfl rfl (Nat.le_of_ble_eq_true rfl) (by decide) dX4_read_16 rfl (fun r n_ iv_ rv_ hf => ?_)
  obtain ⟨en_, er_, rfl, h⟩ := hf; subst n_; subst rv_
  generalize iv_ = iv3 at h ⊢
  refine g_aload_n (q := 20) 0 X dX4_read_19 rfl rfl rfl ?_
  refine g_iconst (q := 21) 0 X dX4_read_20 rfl rfl ic_0 ?_
  refine g_putI (q := 24) 4 6 X (Or.inl rfl) rfl kf_X4_45 (by decide) (by decide) rfl (hK_rv1.n (by decide)) dX4_read_21 rfl ?_
  refine g_nmM (fun iv4 eiv4 => ?_)
  have h := h iv4 eiv4
  refine g_aload_n (q := 25) 0 X dX4_read_24 rfl rfl rfl ?_
  refine g_iconst (q := 26) (-1) X dX4_read_25 rfl rfl ic_m1 ?_
  refine g_putI (q := 29) 4 7 X (Or.inl rfl) rfl kf_X4_22 (by decide) (by decide) rfl (hK_rv1.n (by decide)) dX4_read_26 rfl ?_
  refine g_nmM (fun iv5 eiv5 => ?_)
  have h := h iv5 eiv5
  refine g_aload_n (q := 30) 0 X dX4_read_29 rfl rfl rfl ?_
  refine g_getR (q := 33) (r := some 46) 4 0 X (lk_40_0 hK_rv1) (lt2000 (c := 0) (by decide)) kf_X4_31 (by decide) (by decide) rfl rfl (hK_rv1.n (by decide)) dX4_read_30 rfl ?_
  refine g_iload_n (q := 34) 2 X dX4_read_33 rfl rfl rfl ?_
  refine g_cv (q := 37) [aI a2] 7 X (ce_X7_open hK_rv1  h) kV_X4_48 rfl (by decide) rfl (hK_rv1.n (by decide)) rfl rfl (Nat.le_of_ble_eq_true rfl) (by decide) dX4_read_34 rfl (fun r n_ iv_ rv_ hf => ?_)
  obtain ⟨en_, er_, rfl, h⟩ := hf; subst n_; subst rv_
  generalize iv_ = iv6 at h ⊢
  refine g_aload_n (q := 38) 0 X dX4_read_37 rfl rfl rfl ?_
  refine g_cv (q := 41) [] 4 X (ce_X4_readLine hK_rv1  h) kV_X4_52 rfl (by decide) rfl (hK_rv1.n (by decide)) rfl rfl (Nat.le_of_ble_eq_true rfl) (by decide) dX4_read_38 rfl (fun r n_ iv_ rv_ hf => ?_)
  obtain ⟨en_, er_, r7, rfl, br7, h⟩ := hf; subst n_; subst rv_
  generalize iv_ = iv8 at h ⊢
  refine g_istore_n (q := 42) 3 (L' := [aR (some 40), aR (some b1), aI a2, aI r7, aJ]) X dX4_read_41 rfl rfl (by decide) rfl rfl ?_
  refine g_iconst (q := 43) 1 X dX4_read_42 rfl rfl ic_1 ?_
  refine g_istore (q := 45) (k0 := 0) 4 (L' := [aR (some 40), aR (some b1), aI a2, aI r7, aI 1]) X dX4_read_43 rfl (by decide) rfl rfl ?_
  refine g_sub (L' := [aR (some 40), aJ, aJ, aI r7, aI 1]) ⟨Or.inr rfl, Or.inl rfl, Or.inl rfl, Or.inr rfl, Or.inr rfl, trivial⟩ ?_
  exact cl_X4_read_45 X hR hK_rv1 hb_b1  h
