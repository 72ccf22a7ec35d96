def bd_X10_worth_30 (l1 l2 t0 : Int) (iv : IV) (rv : RV) (K : Int → IV → RV → Prop) : Prop :=
  wp_X10_admitted t0 0 iv rv (fun r1 iv2 => ((r1 ≠ 0) → (wp_X1_open (gR rv 0 2) l2 iv2 rv (fun iv4 rv5 => wp_X1_allCoin iv4 rv5 (fun r6 iv7 => (0 ≤ l1 ∧ l1 < 16) ∧ ∀ iv9, iv9 = w2 iv7 53 l1.toNat 1 → wp_X1_allCoin iv9 rv5 (fun r10 iv11 => K (w32 (r10 - r6)) iv11 rv5))))) ∧ ((r1 = 0) → (K (-1000000) iv2 rv)))
set_option maxRecDepth 10000 in
theorem cb_X10_worth_30 {Γ : GX} {n : Nat} {iv : IV} {rv : RV} {K : Int → IV → RV → Prop} {l1 l2 t0 : Int} (X : Cx Γ RX10 cX10_worth 4 5) (hR : Rt Γ (some .int) 0 0 (fI2 n K)) (hK : Lk n rv)  (h : bd_X10_worth_30 l1 l2 t0 iv rv K) : G Γ 4 30 [aR (some 0), aI l1, aI l2, aJ] [aI t0, aR (some 0)] n iv rv 0 0 := by
  unfold bd_X10_worth_30 at h
  refine g_iconst (q := 31) 0 X dX10_worth_30 rfl rfl ic_0 ?_
  refine g_cv (q := 34) [aI t0, aI 0] 10 X (ce_X10_admitted hK  h) kV_X10_84 rfl (by decide) rfl (hK.n (by decide)) rfl rfl (Nat.le_of_ble_eq_true rfl) (by decide) dX10_worth_31 rfl (fun r n_ iv_ rv_ hf => ?_)
  obtain ⟨en_, er_, r1, rfl, br1, h⟩ := hf; subst n_; subst rv_
  generalize iv_ = iv2 at h ⊢
  refine g_if_ne (q := 37) 40 X dX10_worth_34 (by decide) rfl (fun c3 => ?_) (fun c3 => ?_)
  · have h := h.1 c3
    refine g_aload_n (q := 41) 0 X dX10_worth_40 rfl rfl rfl ?_
    refine g_getR (q := 44) (r := some 47) 10 5 X (lk_0_5 hK) (lt2000 (c := 0) (by decide)) kf_X10_37 (by decide) (by decide) rfl rfl (hK.n (by decide)) dX10_worth_41 rfl ?_
    refine g_aload_n (q := 45) 0 X dX10_worth_44 rfl rfl rfl ?_
    refine g_getR (q := 48) (r := some (gR rv 0 2)) 10 2 X hK.2.2.2.2.2.1.1.1 (lt2000 (c := 0) (isR_lt0 hK.2.2.2.2.2.1.1.2)) kf_X10_16 (by decide) (by decide) rfl rfl (hK.n (by decide)) dX10_worth_45 rfl ?_
    refine g_iload_n (q := 49) 2 X dX10_worth_48 rfl rfl rfl ?_
    refine g_cv (q := 52) [aR (some (gR rv 0 2)), aI l2] 1 X (ce_X1_open hK hK.2.2.2.2.2.1.1.2 h) kV_X10_88 rfl (by decide) rfl (hK.n (by decide)) rfl rfl (Nat.le_of_ble_eq_true rfl) (by decide) dX10_worth_49 rfl (fun r n_ iv_ rv_ hf => ?_)
    obtain ⟨en_, hK_rv5, rfl, h⟩ := hf; subst n_
    generalize iv_ = iv4 at h ⊢
    generalize rv_ = rv5 at h hK_rv5 ⊢
    refine g_aload_n (q := 53) 0 X dX10_worth_52 rfl rfl rfl ?_
    refine g_getR (q := 56) (r := some 47) 10 5 X (lk_0_5 hK_rv5) (lt2000 (c := 0) (by decide)) kf_X10_37 (by decide) (by decide) rfl rfl (hK_rv5.n (by decide)) dX10_worth_53 rfl ?_
    refine g_cv (q := 59) [] 1 X (ce_X1_allCoin hK_rv5  h) kV_X10_175 rfl (by decide) rfl (hK_rv5.n (by decide)) rfl rfl (Nat.le_of_ble_eq_true rfl) (by decide) dX10_worth_56 rfl (fun r n_ iv_ rv_ hf => ?_)
    obtain ⟨en_, er_, r6, rfl, h⟩ := hf; subst n_; subst rv_
    generalize iv_ = iv7 at h ⊢
    refine g_istore_n (q := 60) 3 (L' := [aR (some 0), aI l1, aI l2, aI r6]) X dX10_worth_59 rfl rfl (by decide) rfl rfl ?_
    refine g_aload_n (q := 61) 0 X dX10_worth_60 rfl rfl rfl ?_
    refine g_getR (q := 64) (r := some 47) 10 5 X (lk_0_5 hK_rv5) (lt2000 (c := 0) (by decide)) kf_X10_37 (by decide) (by decide) rfl rfl (hK_rv5.n (by decide)) dX10_worth_61 rfl ?_
    refine g_getR (q := 67) (r := some 51) 1 0 X (lk_47_0 hK_rv5) (lt2000 (c := 0) (by decide)) kf_X10_115 (by decide) (by decide) rfl rfl (hK_rv5.n (by decide)) dX10_worth_64 rfl ?_
    refine g_getR (q := 70) (r := some 53) 6 1 X (lk_51_1 hK_rv5) (lt2000 (c := 0) (by decide)) kf_X10_178 (by decide) (by decide) rfl rfl (hK_rv5.n (by decide)) dX10_worth_67 rfl ?_
    refine g_iload_n (q := 71) 1 X dX10_worth_70 rfl rfl rfl ?_
    refine g_iconst (q := 72) 1 X dX10_worth_71 rfl rfl ic_1 ?_
    obtain ⟨s8, h⟩ := h
    refine g_iast (q := 73) X rfl (hK_rv5.n (by decide)) s8 dX10_worth_72 rfl ?_
    refine g_nmM (fun iv9 eiv9 => ?_)
    have h := h iv9 eiv9
    refine g_aload_n (q := 74) 0 X dX10_worth_73 rfl rfl rfl ?_
    refine g_getR (q := 77) (r := some 47) 10 5 X (lk_0_5 hK_rv5) (lt2000 (c := 0) (by decide)) kf_X10_37 (by decide) (by decide) rfl rfl (hK_rv5.n (by decide)) dX10_worth_74 rfl ?_
    refine g_cv (q := 80) [] 1 X (ce_X1_allCoin hK_rv5  h) kV_X10_175 rfl (by decide) rfl (hK_rv5.n (by decide)) rfl rfl (Nat.le_of_ble_eq_true rfl) (by decide) dX10_worth_77 rfl (fun r n_ iv_ rv_ hf => ?_)
    obtain ⟨en_, er_, r10, rfl, h⟩ := hf; subst n_; subst rv_
    generalize iv_ = iv11 at h ⊢
    refine g_iload_n (q := 81) 3 X dX10_worth_80 rfl rfl rfl ?_
    refine g_isub (q := 82) X dX10_worth_81 rfl ?_
    exact g_iret (q := 0) X hR dX10_worth_82 rfl ⟨rfl, hK_rv5, _, rfl, h⟩
  · have h := h.2 c3
    refine g_ldc (q := 39) (-1000000) X kc_X10_171 dX10_worth_37 rfl ic_m1000000 ?_
    exact g_iret (q := 0) X hR dX10_worth_39 rfl ⟨rfl, hK, _, rfl, h⟩
def bd_X10_worth_29 (l1 l2 : Int) (iv : IV) (rv : RV) (K : Int → IV → RV → Prop) : Prop :=
  bd_X10_worth_30 l1 l2 0 iv rv K
set_option maxRecDepth 10000 in
theorem cb_X10_worth_29 {Γ : GX} {n : Nat} {iv : IV} {rv : RV} {K : Int → IV → RV → Prop} {l1 l2 : Int} (X : Cx Γ RX10 cX10_worth 4 5) (hR : Rt Γ (some .int) 0 0 (fI2 n K)) (hK : Lk n rv)  (h : bd_X10_worth_29 l1 l2 iv rv K) : G Γ 4 29 [aR (some 0), aI l1, aI l2, aJ] [aR (some 0)] n iv rv 0 0 := by
  unfold bd_X10_worth_29 at h
  refine g_iconst (q := 30) 0 X dX10_worth_29 rfl rfl ic_0 ?_
  exact cb_X10_worth_30 X hR hK   h
def wp_X10_worth (a1 : Int) (a2 : Int) (iv : IV) (rv : RV) (K : Int → IV → RV → Prop) : Prop :=
  wp_X5_hasGrant (gR rv 0 2) a1 iv rv (fun r1 => ((r1 = 0) → (bd_X10_worth_29 a1 a2 iv rv K)) ∧ ((¬ (r1 = 0)) → (wp_X5_has (gR rv 0 2) 10 a2 iv rv (fun r3 => ((r3 = 0) → (bd_X10_worth_29 a1 a2 iv rv K)) ∧ ((¬ (r3 = 0)) → (bd_X10_worth_30 a1 a2 1 iv rv K))))))
set_option maxRecDepth 10000 in
theorem ce_X10_worth {n : Nat} {iv : IV} {rv : RV} {K : Int → IV → RV → Prop} {a1 : Int} {a2 : Int} (hK : Lk n rv)  (h : wp_X10_worth a1 a2 iv rv K) : Call 5 0 0 yX10_worth cX10_worth 4 (some .int) [aR (some 0), aI a1, aI a2] n iv rv (fI2 n K) := by
  refine Call.by (L := [aR (some 0), aI a1, aI a2, aJ]) (by decide) rfl ⟨trivial, trivial, trivial, trivial⟩ rfl (Nat.le_of_ble_eq_true rfl) (fun Γ X hR => ?_)
  unfold wp_X10_worth at h
  refine g_aload_n (q := 1) 0 X dX10_worth_0 rfl rfl rfl ?_
  refine g_aload_n (q := 2) 0 X dX10_worth_1 rfl rfl rfl ?_
  refine g_getR (q := 5) (r := some (gR rv 0 2)) 10 2 X hK.2.2.2.2.2.1.1.1 (lt2000 (c := 0) (isR_lt0 hK.2.2.2.2.2.1.1.2)) kf_X10_16 (by decide) (by decide) rfl rfl (hK.n (by decide)) dX10_worth_2 rfl ?_
  refine g_iload_n (q := 6) 1 X dX10_worth_5 rfl rfl rfl ?_
  refine g_cv (q := 9) [aI a1] 5 X (ce_X5_hasGrant hK hK.2.2.2.2.2.1.1.2 h) kV_X10_111 rfl (by decide) (shR_0 hK.2.2.2.2.2.1.1.2) (isR_n0 hK hK.2.2.2.2.2.1.1.2) rfl rfl (Nat.le_of_ble_eq_true rfl) (by decide) dX10_worth_6 rfl (fun r n_ iv_ rv_ hf => ?_)
  obtain ⟨en_, ei_, er_, r1, rfl, br1, h⟩ := hf; subst n_; subst iv_; subst rv_
  refine g_if_eq (q := 12) 29 X dX10_worth_9 (by decide) rfl (fun c2 => ?_) (fun c2 => ?_)
  · have h := h.1 c2
    exact cb_X10_worth_29 X hR hK   h
  · have h := h.2 c2
    refine g_aload_n (q := 13) 0 X dX10_worth_12 rfl rfl rfl ?_
    refine g_getR (q := 16) (r := some (gR rv 0 2)) 10 2 X hK.2.2.2.2.2.1.1.1 (lt2000 (c := 0) (isR_lt0 hK.2.2.2.2.2.1.1.2)) kf_X10_16 (by decide) (by decide) rfl rfl (hK.n (by decide)) dX10_worth_13 rfl ?_
    refine g_bipush (q := 18) 10 X dX10_worth_16 rfl bc_10 ic_10 ?_
    refine g_iload_n (q := 19) 2 X dX10_worth_18 rfl rfl rfl ?_
    refine g_cv (q := 22) [aI 10, aI a2] 5 X (ce_X5_has hK hK.2.2.2.2.2.1.1.2 h) kV_X10_96 rfl (by decide) (shR_0 hK.2.2.2.2.2.1.1.2) (isR_n0 hK hK.2.2.2.2.2.1.1.2) rfl rfl (Nat.le_of_ble_eq_true rfl) (by decide) dX10_worth_19 rfl (fun r n_ iv_ rv_ hf => ?_)
    obtain ⟨en_, ei_, er_, r3, rfl, br3, h⟩ := hf; subst n_; subst iv_; subst rv_
    refine g_if_eq (q := 25) 29 X dX10_worth_22 (by decide) rfl (fun c4 => ?_) (fun c4 => ?_)
    · have h := h.1 c4
      exact cb_X10_worth_29 X hR hK   h
    · have h := h.2 c4
      refine g_iconst (q := 26) 1 X dX10_worth_25 rfl rfl ic_1 ?_
      refine g_goto (q := 30) X dX10_worth_26 (by decide) ?_
      exact cb_X10_worth_30 X hR hK   h
def wp_X10_hangs (a1 : Int) (iv : IV) (rv : RV) (K : Int → IV → RV → Prop) : Prop :=
  wp_X5_has (gR rv 0 2) 10 a1 iv rv (fun r1 => wp_X10_admitted r1 0 iv rv (fun r2 iv3 => ((r2 ≠ 0) → (wp_X1_open (gR rv 0 2) a1 iv3 rv (fun iv5 rv6 => wp_X1_greatestMover iv5 rv6 (fun r7 iv8 => ((0 ≤ r7) → (K r7 iv8 rv6)) ∧ ((¬ (0 ≤ r7)) → (wp_X10_refused 6 iv8 rv6 (fun r10 iv11 => K r10 iv11 rv6))))))) ∧ ((r2 = 0) → (K (-1) iv3 rv))))
set_option maxRecDepth 10000 in
theorem ce_X10_hangs {n : Nat} {iv : IV} {rv : RV} {K : Int → IV → RV → Prop} {a1 : Int} (hK : Lk n rv)  (h : wp_X10_hangs a1 iv rv K) : Call 7 0 0 yX10_hangs cX10_hangs 3 (some .int) [aR (some 0), aI a1] n iv rv (fI2 n K) := by
  refine Call.by (L := [aR (some 0), aI a1, aJ]) (by decide) rfl ⟨trivial, trivial, trivial⟩ rfl (Nat.le_of_ble_eq_true rfl) (fun Γ X hR => ?_)
  unfold wp_X10_hangs at h
  refine g_aload_n (q := 1) 0 X dX10_hangs_0 rfl rfl rfl ?_
  refine g_aload_n (q := 2) 0 X dX10_hangs_1 rfl rfl rfl ?_
  refine g_getR (q := 5) (r := some (gR rv 0 2)) 10 2 X hK.2.2.2.2.2.1.1.1 (lt2000 (c := 0) (isR_lt0 hK.2.2.2.2.2.1.1.2)) kf_X10_16 (by decide) (by decide) rfl rfl (hK.n (by decide)) dX10_hangs_2 rfl ?_
  refine g_bipush (q := 7) 10 X dX10_hangs_5 rfl bc_10 ic_10 ?_
  refine g_iload_n (q := 8) 1 X dX10_hangs_7 rfl rfl rfl ?_
  refine g_cv (q := 11) [aI 10, aI a1] 5 X (ce_X5_has hK hK.2.2.2.2.2.1.1.2 h) kV_X10_96 rfl (by decide) (shR_0 hK.2.2.2.2.2.1.1.2) (isR_n0 hK hK.2.2.2.2.2.1.1.2) rfl rfl (Nat.le_of_ble_eq_true rfl) (by decide) dX10_hangs_8 rfl (fun r n_ iv_ rv_ hf => ?_)
  obtain ⟨en_, ei_, er_, r1, rfl, br1, h⟩ := hf; subst n_; subst iv_; subst rv_
  refine g_iconst (q := 12) 0 X dX10_hangs_11 rfl rfl ic_0 ?_
  refine g_cv (q := 15) [aI r1, aI 0] 10 X (ce_X10_admitted hK  h) kV_X10_84 rfl (by decide) rfl (hK.n (by decide)) rfl rfl (Nat.le_of_ble_eq_true rfl) (by decide) dX10_hangs_12 rfl (fun r n_ iv_ rv_ hf => ?_)
  obtain ⟨en_, er_, r2, rfl, br2, h⟩ := hf; subst n_; subst rv_
  generalize iv_ = iv3 at h ⊢
  refine g_if_ne (q := 18) 20 X dX10_hangs_15 (by decide) rfl (fun c4 => ?_) (fun c4 => ?_)
  · have h := h.1 c4
    refine g_aload_n (q := 21) 0 X dX10_hangs_20 rfl rfl rfl ?_
    refine g_getR (q := 24) (r := some 47) 10 5 X (lk_0_5 hK) (lt2000 (c := 0) (by decide)) kf_X10_37 (by decide) (by decide) rfl rfl (hK.n (by decide)) dX10_hangs_21 rfl ?_
    refine g_aload_n (q := 25) 0 X dX10_hangs_24 rfl rfl rfl ?_
    refine g_getR (q := 28) (r := some (gR rv 0 2)) 10 2 X hK.2.2.2.2.2.1.1.1 (lt2000 (c := 0) (isR_lt0 hK.2.2.2.2.2.1.1.2)) kf_X10_16 (by decide) (by decide) rfl rfl (hK.n (by decide)) dX10_hangs_25 rfl ?_
    refine g_iload_n (q := 29) 1 X dX10_hangs_28 rfl rfl rfl ?_
    refine g_cv (q := 32) [aR (some (gR rv 0 2)), aI a1] 1 X (ce_X1_open hK hK.2.2.2.2.2.1.1.2 h) kV_X10_88 rfl (by decide) rfl (hK.n (by decide)) rfl rfl (Nat.le_of_ble_eq_true rfl) (by decide) dX10_hangs_29 rfl (fun r n_ iv_ rv_ hf => ?_)
    obtain ⟨en_, hK_rv6, rfl, h⟩ := hf; subst n_
    generalize iv_ = iv5 at h ⊢
    generalize rv_ = rv6 at h hK_rv6 ⊢
    refine g_aload_n (q := 33) 0 X dX10_hangs_32 rfl rfl rfl ?_
    refine g_getR (q := 36) (r := some 47) 10 5 X (lk_0_5 hK_rv6) (lt2000 (c := 0) (by decide)) kf_X10_37 (by decide) (by decide) rfl rfl (hK_rv6.n (by decide)) dX10_hangs_33 rfl ?_
    refine g_cv (q := 39) [] 1 X (ce_X1_greatestMover hK_rv6  h) kV_X10_181 rfl (by decide) rfl (hK_rv6.n (by decide)) rfl rfl (Nat.le_of_ble_eq_true rfl) (by decide) dX10_hangs_36 rfl (fun r n_ iv_ rv_ hf => ?_)
    obtain ⟨en_, er_, r7, rfl, h⟩ := hf; subst n_; subst rv_
    generalize iv_ = iv8 at h ⊢
    refine g_istore_n (q := 40) 2 (L' := [aR (some 0), aI a1, aI r7]) X dX10_hangs_39 rfl rfl (by decide) rfl rfl ?_
    refine g_iload_n (q := 41) 2 X dX10_hangs_40 rfl rfl rfl ?_
    refine g_if_ge (q := 44) 53 X dX10_hangs_41 (by decide) rfl (fun c9 => ?_) (fun c9 => ?_)
    · have h := h.1 c9
      refine g_iload_n (q := 54) 2 X dX10_hangs_53 rfl rfl rfl ?_
      exact g_iret (q := 0) X hR dX10_hangs_54 rfl ⟨rfl, hK_rv6, _, rfl, h⟩
    · have h := h.2 c9
      refine g_aload_n (q := 45) 0 X dX10_hangs_44 rfl rfl rfl ?_
      refine g_bipush (q := 47) 6 X dX10_hangs_45 rfl bc_6 ic_6 ?_
      refine g_cv (q := 50) [aI 6] 10 X (ce_X10_refused hK_rv6  h) kV_X10_56 rfl (by decide) rfl (hK_rv6.n (by decide)) rfl rfl (Nat.le_of_ble_eq_true rfl) (by decide) dX10_hangs_47 rfl (fun r n_ iv_ rv_ hf => ?_)
      obtain ⟨en_, er_, r10, rfl, h⟩ := hf; subst n_; subst rv_
      generalize iv_ = iv11 at h ⊢
      refine g_goto (q := 54) X dX10_hangs_50 (by decide) ?_
      exact g_iret (q := 0) X hR dX10_hangs_54 rfl ⟨rfl, hK_rv6, _, rfl, h⟩
  · have h := h.2 c4
    refine g_iconst (q := 19) (-1) X dX10_hangs_18 rfl rfl ic_m1 ?_
    exact g_iret (q := 0) X hR dX10_hangs_19 rfl ⟨rfl, hK, _, rfl, h⟩
def bd_X10_moves_30 (l1 l2 t0 : Int) (iv : IV) (rv : RV) (K : Int → IV → RV → Prop) : Prop :=
  wp_X10_admitted t0 0 iv rv (fun r1 iv2 => ((r1 ≠ 0) → (wp_X1_open (gR rv 0 2) l2 iv2 rv (fun iv4 rv5 => wp_X1_moved l1 iv4 rv5 (fun r6 iv7 => K r6 iv7 rv5)))) ∧ ((r1 = 0) → (K (-1) iv2 rv)))
set_option maxRecDepth 10000 in
theorem cb_X10_moves_30 {Γ : GX} {n : Nat} {iv : IV} {rv : RV} {K : Int → IV → RV → Prop} {l1 l2 t0 : Int} (X : Cx Γ RX10 cX10_moves 3 6) (hR : Rt Γ (some .int) 0 0 (fI2 n K)) (hK : Lk n rv)  (h : bd_X10_moves_30 l1 l2 t0 iv rv K) : G Γ 3 30 [aR (some 0), aI l1, aI l2] [aI t0, aR (some 0)] n iv rv 0 0 := by
  unfold bd_X10_moves_30 at h
  refine g_iconst (q := 31) 0 X dX10_moves_30 rfl rfl ic_0 ?_
  refine g_cv (q := 34) [aI t0, aI 0] 10 X (ce_X10_admitted hK  h) kV_X10_84 rfl (by decide) rfl (hK.n (by decide)) rfl rfl (Nat.le_of_ble_eq_true rfl) (by decide) dX10_moves_31 rfl (fun r n_ iv_ rv_ hf => ?_)
  obtain ⟨en_, er_, r1, rfl, br1, h⟩ := hf; subst n_; subst rv_
  generalize iv_ = iv2 at h ⊢
  refine g_if_ne (q := 37) 39 X dX10_moves_34 (by decide) rfl (fun c3 => ?_) (fun c3 => ?_)
  · have h := h.1 c3
    refine g_aload_n (q := 40) 0 X dX10_moves_39 rfl rfl rfl ?_
    refine g_getR (q := 43) (r := some 47) 10 5 X (lk_0_5 hK) (lt2000 (c := 0) (by decide)) kf_X10_37 (by decide) (by decide) rfl rfl (hK.n (by decide)) dX10_moves_40 rfl ?_
    refine g_aload_n (q := 44) 0 X dX10_moves_43 rfl rfl rfl ?_
    refine g_getR (q := 47) (r := some (gR rv 0 2)) 10 2 X hK.2.2.2.2.2.1.1.1 (lt2000 (c := 0) (isR_lt0 hK.2.2.2.2.2.1.1.2)) kf_X10_16 (by decide) (by decide) rfl rfl (hK.n (by decide)) dX10_moves_44 rfl ?_
    refine g_iload_n (q := 48) 2 X dX10_moves_47 rfl rfl rfl ?_
    refine g_cv (q := 51) [aR (some (gR rv 0 2)), aI l2] 1 X (ce_X1_open hK hK.2.2.2.2.2.1.1.2 h) kV_X10_88 rfl (by decide) rfl (hK.n (by decide)) rfl rfl (Nat.le_of_ble_eq_true rfl) (by decide) dX10_moves_48 rfl (fun r n_ iv_ rv_ hf => ?_)
    obtain ⟨en_, hK_rv5, rfl, h⟩ := hf; subst n_
    generalize iv_ = iv4 at h ⊢
    generalize rv_ = rv5 at h hK_rv5 ⊢
    refine g_aload_n (q := 52) 0 X dX10_moves_51 rfl rfl rfl ?_
    refine g_getR (q := 55) (r := some 47) 10 5 X (lk_0_5 hK_rv5) (lt2000 (c := 0) (by decide)) kf_X10_37 (by decide) (by decide) rfl rfl (hK_rv5.n (by decide)) dX10_moves_52 rfl ?_
    refine g_iload_n (q := 56) 1 X dX10_moves_55 rfl rfl rfl ?_
    refine g_cv (q := 59) [aI l1] 1 X (ce_X1_moved hK_rv5  h) kV_X10_184 rfl (by decide) rfl (hK_rv5.n (by decide)) rfl rfl (Nat.le_of_ble_eq_true rfl) (by decide) dX10_moves_56 rfl (fun r n_ iv_ rv_ hf => ?_)
    obtain ⟨en_, er_, r6, rfl, h⟩ := hf; subst n_; subst rv_
    generalize iv_ = iv7 at h ⊢
    exact g_iret (q := 0) X hR dX10_moves_59 rfl ⟨rfl, hK_rv5, _, rfl, h⟩
  · have h := h.2 c3
    refine g_iconst (q := 38) (-1) X dX10_moves_37 rfl rfl ic_m1 ?_
    exact g_iret (q := 0) X hR dX10_moves_38 rfl ⟨rfl, hK, _, rfl, h⟩
def bd_X10_moves_29 (l1 l2 : Int) (iv : IV) (rv : RV) (K : Int → IV → RV → Prop) : Prop :=
  bd_X10_moves_30 l1 l2 0 iv rv K
set_option maxRecDepth 10000 in
theorem cb_X10_moves_29 {Γ : GX} {n : Nat} {iv : IV} {rv : RV} {K : Int → IV → RV → Prop} {l1 l2 : Int} (X : Cx Γ RX10 cX10_moves 3 6) (hR : Rt Γ (some .int) 0 0 (fI2 n K)) (hK : Lk n rv)  (h : bd_X10_moves_29 l1 l2 iv rv K) : G Γ 3 29 [aR (some 0), aI l1, aI l2] [aR (some 0)] n iv rv 0 0 := by
  unfold bd_X10_moves_29 at h
  refine g_iconst (q := 30) 0 X dX10_moves_29 rfl rfl ic_0 ?_
  exact cb_X10_moves_30 X hR hK   h
def wp_X10_moves (a1 : Int) (a2 : Int) (iv : IV) (rv : RV) (K : Int → IV → RV → Prop) : Prop :=
  wp_X5_hasGrant (gR rv 0 2) a1 iv rv (fun r1 => ((r1 = 0) → (bd_X10_moves_29 a1 a2 iv rv K)) ∧ ((¬ (r1 = 0)) → (wp_X5_has (gR rv 0 2) 10 a2 iv rv (fun r3 => ((r3 = 0) → (bd_X10_moves_29 a1 a2 iv rv K)) ∧ ((¬ (r3 = 0)) → (bd_X10_moves_30 a1 a2 1 iv rv K))))))
set_option maxRecDepth 10000 in
theorem ce_X10_moves {n : Nat} {iv : IV} {rv : RV} {K : Int → IV → RV → Prop} {a1 : Int} {a2 : Int} (hK : Lk n rv)  (h : wp_X10_moves a1 a2 iv rv K) : Call 6 0 0 yX10_moves cX10_moves 3 (some .int) [aR (some 0), aI a1, aI a2] n iv rv (fI2 n K) := by
  refine Call.by (L := [aR (some 0), aI a1, aI a2]) (by decide) rfl ⟨trivial, trivial, trivial, trivial⟩ rfl (Nat.le_of_ble_eq_true rfl) (fun Γ X hR => ?_)
  unfold wp_X10_moves at h
  refine g_aload_n (q := 1) 0 X dX10_moves_0 rfl rfl rfl ?_
  refine g_aload_n (q := 2) 0 X dX10_moves_1 rfl rfl rfl ?_
  refine g_getR (q := 5) (r := some (gR rv 0 2)) 10 2 X hK.2.2.2.2.2.1.1.1 (lt2000 (c := 0) (isR_lt0 hK.2.2.2.2.2.1.1.2)) kf_X10_16 (by decide) (by decide) rfl rfl (hK.n (by decide)) dX10_moves_2 rfl ?_
  refine g_iload_n (q := 6) 1 X dX10_moves_5 rfl rfl rfl ?_
  refine g_cv (q := 9) [aI a1] 5 X (ce_X5_hasGrant hK hK.2.2.2.2.2.1.1.2 h) kV_X10_111 rfl (by decide) (shR_0 hK.2.2.2.2.2.1.1.2) (isR_n0 hK hK.2.2.2.2.2.1.1.2) rfl rfl (Nat.le_of_ble_eq_true rfl) (by decide) dX10_moves_6 rfl (fun r n_ iv_ rv_ hf => ?_)
  obtain ⟨en_, ei_, er_, r1, rfl, br1, h⟩ := hf; subst n_; subst iv_; subst rv_
  refine g_if_eq (q := 12) 29 X dX10_moves_9 (by decide) rfl (fun c2 => ?_) (fun c2 => ?_)
  · have h := h.1 c2
    exact cb_X10_moves_29 X hR hK   h
  · have h := h.2 c2
    refine g_aload_n (q := 13) 0 X dX10_moves_12 rfl rfl rfl ?_
    refine g_getR (q := 16) (r := some (gR rv 0 2)) 10 2 X hK.2.2.2.2.2.1.1.1 (lt2000 (c := 0) (isR_lt0 hK.2.2.2.2.2.1.1.2)) kf_X10_16 (by decide) (by decide) rfl rfl (hK.n (by decide)) dX10_moves_13 rfl ?_
    refine g_bipush (q := 18) 10 X dX10_moves_16 rfl bc_10 ic_10 ?_
    refine g_iload_n (q := 19) 2 X dX10_moves_18 rfl rfl rfl ?_
    refine g_cv (q := 22) [aI 10, aI a2] 5 X (ce_X5_has hK hK.2.2.2.2.2.1.1.2 h) kV_X10_96 rfl (by decide) (shR_0 hK.2.2.2.2.2.1.1.2) (isR_n0 hK hK.2.2.2.2.2.1.1.2) rfl rfl (Nat.le_of_ble_eq_true rfl) (by decide) dX10_moves_19 rfl (fun r n_ iv_ rv_ hf => ?_)
    obtain ⟨en_, ei_, er_, r3, rfl, br3, h⟩ := hf; subst n_; subst iv_; subst rv_
    refine g_if_eq (q := 25) 29 X dX10_moves_22 (by decide) rfl (fun c4 => ?_) (fun c4 => ?_)
    · have h := h.1 c4
      exact cb_X10_moves_29 X hR hK   h
    · have h := h.2 c4
      refine g_iconst (q := 26) 1 X dX10_moves_25 rfl rfl ic_1 ?_
      refine g_goto (q := 30) X dX10_moves_26 (by decide) ?_
      exact cb_X10_moves_30 X hR hK   h
def bd_X10_brings_58 (l1 l2 l3 l4 t0 : Int) (iv : IV) (rv : RV) (K : Int → IV → RV → Prop) : Prop :=
  wp_X10_admitted t0 l3 iv rv (fun r1 iv2 => ((r1 ≠ 0) → (wp_X1_open (gR rv 0 2) l4 iv2 rv (fun iv4 rv5 => wp_X1_allCoin iv4 rv5 (fun r6 iv7 => wp_X6_suppose l1 l2 l3 iv7 rv5 (fun iv8 => wp_X1_allCoin iv8 rv5 (fun r9 iv10 => K (w32 (r9 - r6)) iv10 rv5)))))) ∧ ((r1 = 0) → (K (-1000000) iv2 rv)))
set_option maxRecDepth 10000 in
theorem cb_X10_brings_58 {Γ : GX} {n : Nat} {iv : IV} {rv : RV} {K : Int → IV → RV → Prop} {l1 l2 l3 l4 t0 : Int} (X : Cx Γ RX10 cX10_brings 7 5) (hR : Rt Γ (some .int) 0 0 (fI2 n K)) (hK : Lk n rv)  (h : bd_X10_brings_58 l1 l2 l3 l4 t0 iv rv K) : G Γ 7 58 [aR (some 0), aI l1, aI l2, aI l3, aI l4, aJ, aJ] [aI t0, aR (some 0)] n iv rv 0 0 := by
  unfold bd_X10_brings_58 at h
  refine g_iload_n (q := 59) 3 X dX10_brings_58 rfl rfl rfl ?_
  refine g_cv (q := 62) [aI t0, aI l3] 10 X (ce_X10_admitted hK  h) kV_X10_84 rfl (by decide) rfl (hK.n (by decide)) rfl rfl (Nat.le_of_ble_eq_true rfl) (by decide) dX10_brings_59 rfl (fun r n_ iv_ rv_ hf => ?_)
  obtain ⟨en_, er_, r1, rfl, br1, h⟩ := hf; subst n_; subst rv_
  generalize iv_ = iv2 at h ⊢
  refine g_if_ne (q := 65) 68 X dX10_brings_62 (by decide) rfl (fun c3 => ?_) (fun c3 => ?_)
  · have h := h.1 c3
    refine g_aload_n (q := 69) 0 X dX10_brings_68 rfl rfl rfl ?_
    refine g_getR (q := 72) (r := some 47) 10 5 X (lk_0_5 hK) (lt2000 (c := 0) (by decide)) kf_X10_37 (by decide) (by decide) rfl rfl (hK.n (by decide)) dX10_brings_69 rfl ?_
    refine g_aload_n (q := 73) 0 X dX10_brings_72 rfl rfl rfl ?_
    refine g_getR (q := 76) (r := some (gR rv 0 2)) 10 2 X hK.2.2.2.2.2.1.1.1 (lt2000 (c := 0) (isR_lt0 hK.2.2.2.2.2.1.1.2)) kf_X10_16 (by decide) (by decide) rfl rfl (hK.n (by decide)) dX10_brings_73 rfl ?_
    refine g_iload (q := 78) 4 X dX10_brings_76 rfl rfl ?_
    refine g_cv (q := 81) [aR (some (gR rv 0 2)), aI l4] 1 X (ce_X1_open hK hK.2.2.2.2.2.1.1.2 h) kV_X10_88 rfl (by decide) rfl (hK.n (by decide)) rfl rfl (Nat.le_of_ble_eq_true rfl) (by decide) dX10_brings_78 rfl (fun r n_ iv_ rv_ hf => ?_)
    obtain ⟨en_, hK_rv5, rfl, h⟩ := hf; subst n_
    generalize iv_ = iv4 at h ⊢
    generalize rv_ = rv5 at h hK_rv5 ⊢
    refine g_aload_n (q := 82) 0 X dX10_brings_81 rfl rfl rfl ?_
    refine g_getR (q := 85) (r := some 47) 10 5 X (lk_0_5 hK_rv5) (lt2000 (c := 0) (by decide)) kf_X10_37 (by decide) (by decide) rfl rfl (hK_rv5.n (by decide)) dX10_brings_82 rfl ?_
    refine g_cv (q := 88) [] 1 X (ce_X1_allCoin hK_rv5  h) kV_X10_175 rfl (by decide) rfl (hK_rv5.n (by decide)) rfl rfl (Nat.le_of_ble_eq_true rfl) (by decide) dX10_brings_85 rfl (fun r n_ iv_ rv_ hf => ?_)
    obtain ⟨en_, er_, r6, rfl, h⟩ := hf; subst n_; subst rv_
    generalize iv_ = iv7 at h ⊢
    refine g_istore (q := 90) (k0 := 0) 6 (L' := [aR (some 0), aI l1, aI l2, aI l3, aI l4, aJ, aI r6]) X dX10_brings_88 rfl (by decide) rfl rfl ?_
    refine g_aload_n (q := 91) 0 X dX10_brings_90 rfl rfl rfl ?_
    refine g_getR (q := 94) (r := some 47) 10 5 X (lk_0_5 hK_rv5) (lt2000 (c := 0) (by decide)) kf_X10_37 (by decide) (by decide) rfl rfl (hK_rv5.n (by decide)) dX10_brings_91 rfl ?_
    refine g_getR (q := 97) (r := some 51) 1 0 X (lk_47_0 hK_rv5) (lt2000 (c := 0) (by decide)) kf_X10_115 (by decide) (by decide) rfl rfl (hK_rv5.n (by decide)) dX10_brings_94 rfl ?_
    refine g_iload_n (q := 98) 1 X dX10_brings_97 rfl rfl rfl ?_
    refine g_iload_n (q := 99) 2 X dX10_brings_98 rfl rfl rfl ?_
    refine g_iload_n (q := 100) 3 X dX10_brings_99 rfl rfl rfl ?_
    refine g_cv (q := 103) [aI l1, aI l2, aI l3] 6 X (ce_X6_suppose hK_rv5  h) kV_X10_187 rfl (by decide) rfl (hK_rv5.n (by decide)) rfl rfl (Nat.le_of_ble_eq_true rfl) (by decide) dX10_brings_100 rfl (fun r n_ iv_ rv_ hf => ?_)
    obtain ⟨en_, er_, rfl, h⟩ := hf; subst n_; subst rv_
    generalize iv_ = iv8 at h ⊢
    refine g_aload_n (q := 104) 0 X dX10_brings_103 rfl rfl rfl ?_
    refine g_getR (q := 107) (r := some 47) 10 5 X (lk_0_5 hK_rv5) (lt2000 (c := 0) (by decide)) kf_X10_37 (by decide) (by decide) rfl rfl (hK_rv5.n (by decide)) dX10_brings_104 rfl ?_
    refine g_cv (q := 110) [] 1 X (ce_X1_allCoin hK_rv5  h) kV_X10_175 rfl (by decide) rfl (hK_rv5.n (by decide)) rfl rfl (Nat.le_of_ble_eq_true rfl) (by decide) dX10_brings_107 rfl (fun r n_ iv_ rv_ hf => ?_)
    obtain ⟨en_, er_, r9, rfl, h⟩ := hf; subst n_; subst rv_
    generalize iv_ = iv10 at h ⊢
    refine g_iload (q := 112) 6 X dX10_brings_110 rfl rfl ?_
    refine g_isub (q := 113) X dX10_brings_112 rfl ?_
    exact g_iret (q := 0) X hR dX10_brings_113 rfl ⟨rfl, hK_rv5, _, rfl, h⟩
  · have h := h.2 c3
    refine g_ldc (q := 67) (-1000000) X kc_X10_171 dX10_brings_65 rfl ic_m1000000 ?_
    exact g_iret (q := 0) X hR dX10_brings_67 rfl ⟨rfl, hK, _, rfl, h⟩
def bd_X10_brings_57 (l1 l2 l3 l4 : Int) (iv : IV) (rv : RV) (K : Int → IV → RV → Prop) : Prop :=
  bd_X10_brings_58 l1 l2 l3 l4 0 iv rv K
set_option maxRecDepth 10000 in
theorem cb_X10_brings_57 {Γ : GX} {n : Nat} {iv : IV} {rv : RV} {K : Int → IV → RV → Prop} {l1 l2 l3 l4 : Int} (X : Cx Γ RX10 cX10_brings 7 5) (hR : Rt Γ (some .int) 0 0 (fI2 n K)) (hK : Lk n rv)  (h : bd_X10_brings_57 l1 l2 l3 l4 iv rv K) : G Γ 7 57 [aR (some 0), aI l1, aI l2, aI l3, aI l4, aJ, aJ] [aR (some 0)] n iv rv 0 0 := by
  unfold bd_X10_brings_57 at h
  refine g_iconst (q := 58) 0 X dX10_brings_57 rfl rfl ic_0 ?_
  exact cb_X10_brings_58 X hR hK   h
def bd_X10_brings_22 (l1 l2 l3 l4 t0 : Int) (iv : IV) (rv : RV) (K : Int → IV → RV → Prop) : Prop :=
  ((t0 = 0) → (bd_X10_brings_57 l1 l2 l3 l4 iv rv K)) ∧ ((¬ (t0 = 0)) → (((l2 < 0) → (bd_X10_brings_57 l1 l2 l3 l4 iv rv K)) ∧ ((¬ (l2 < 0)) → (((2 < l2) → (bd_X10_brings_57 l1 l2 l3 l4 iv rv K)) ∧ ((¬ (2 < l2)) → (wp_X5_has (gR rv 0 2) 10 l4 iv rv (fun r4 => ((r4 = 0) → (bd_X10_brings_57 l1 l2 l3 l4 iv rv K)) ∧ ((¬ (r4 = 0)) → (bd_X10_brings_58 l1 l2 l3 l4 1 iv rv K)))))))))
set_option maxRecDepth 10000 in
theorem cb_X10_brings_22 {Γ : GX} {n : Nat} {iv : IV} {rv : RV} {K : Int → IV → RV → Prop} {l1 l2 l3 l4 t0 : Int} (X : Cx Γ RX10 cX10_brings 7 5) (hR : Rt Γ (some .int) 0 0 (fI2 n K)) (hK : Lk n rv)  (h : bd_X10_brings_22 l1 l2 l3 l4 t0 iv rv K) : G Γ 7 22 [aR (some 0), aI l1, aI l2, aI l3, aI l4, aJ, aJ] [aI t0] n iv rv 0 0 := by
  unfold bd_X10_brings_22 at h
  refine g_istore (q := 24) (k0 := 0) 5 (L' := [aR (some 0), aI l1, aI l2, aI l3, aI l4, aI t0, aJ]) X dX10_brings_22 rfl (by decide) rfl rfl ?_
  refine g_aload_n (q := 25) 0 X dX10_brings_24 rfl rfl rfl ?_
  refine g_iload (q := 27) 5 X dX10_brings_25 rfl rfl ?_
  refine g_if_eq (q := 30) 57 X dX10_brings_27 (by decide) rfl (fun c1 => ?_) (fun c1 => ?_)
  · have h := h.1 c1
    refine g_sub (L' := [aR (some 0), aI l1, aI l2, aI l3, aI l4, aJ, aJ]) ⟨Or.inr rfl, Or.inr rfl, Or.inr rfl, Or.inr rfl, Or.inr rfl, Or.inl rfl, Or.inl rfl, trivial⟩ ?_
    exact cb_X10_brings_57 X hR hK   h
  · have h := h.2 c1
    refine g_iload_n (q := 31) 2 X dX10_brings_30 rfl rfl rfl ?_
    refine g_if_lt (q := 34) 57 X dX10_brings_31 (by decide) rfl (fun c2 => ?_) (fun c2 => ?_)
    · have h := h.1 c2
      refine g_sub (L' := [aR (some 0), aI l1, aI l2, aI l3, aI l4, aJ, aJ]) ⟨Or.inr rfl, Or.inr rfl, Or.inr rfl, Or.inr rfl, Or.inr rfl, Or.inl rfl, Or.inl rfl, trivial⟩ ?_
      exact cb_X10_brings_57 X hR hK   h
    · have h := h.2 c2
      refine g_iload_n (q := 35) 2 X dX10_brings_34 rfl rfl rfl ?_
      refine g_iconst (q := 36) 2 X dX10_brings_35 rfl rfl ic_2 ?_
      refine g_icmp_gt (q := 39) 57 X dX10_brings_36 (by decide) rfl (fun c3 => ?_) (fun c3 => ?_)
      · have h := h.1 c3
        refine g_sub (L' := [aR (some 0), aI l1, aI l2, aI l3, aI l4, aJ, aJ]) ⟨Or.inr rfl, Or.inr rfl, Or.inr rfl, Or.inr rfl, Or.inr rfl, Or.inl rfl, Or.inl rfl, trivial⟩ ?_
        exact cb_X10_brings_57 X hR hK   h
      · have h := h.2 c3
        refine g_aload_n (q := 40) 0 X dX10_brings_39 rfl rfl rfl ?_
        refine g_getR (q := 43) (r := some (gR rv 0 2)) 10 2 X hK.2.2.2.2.2.1.1.1 (lt2000 (c := 0) (isR_lt0 hK.2.2.2.2.2.1.1.2)) kf_X10_16 (by decide) (by decide) rfl rfl (hK.n (by decide)) dX10_brings_40 rfl ?_
        refine g_bipush (q := 45) 10 X dX10_brings_43 rfl bc_10 ic_10 ?_
        refine g_iload (q := 47) 4 X dX10_brings_45 rfl rfl ?_
        refine g_cv (q := 50) [aI 10, aI l4] 5 X (ce_X5_has hK hK.2.2.2.2.2.1.1.2 h) kV_X10_96 rfl (by decide) (shR_0 hK.2.2.2.2.2.1.1.2) (isR_n0 hK hK.2.2.2.2.2.1.1.2) rfl rfl (Nat.le_of_ble_eq_true rfl) (by decide) dX10_brings_47 rfl (fun r n_ iv_ rv_ hf => ?_)
        obtain ⟨en_, ei_, er_, r4, rfl, br4, h⟩ := hf; subst n_; subst iv_; subst rv_
        refine g_if_eq (q := 53) 57 X dX10_brings_50 (by decide) rfl (fun c5 => ?_) (fun c5 => ?_)
        · have h := h.1 c5
          refine g_sub (L' := [aR (some 0), aI l1, aI l2, aI l3, aI l4, aJ, aJ]) ⟨Or.inr rfl, Or.inr rfl, Or.inr rfl, Or.inr rfl, Or.inr rfl, Or.inl rfl, Or.inl rfl, trivial⟩ ?_
          exact cb_X10_brings_57 X hR hK   h
        · have h := h.2 c5
          refine g_iconst (q := 54) 1 X dX10_brings_53 rfl rfl ic_1 ?_
          refine g_goto (q := 58) X dX10_brings_54 (by decide) ?_
          refine g_sub (L' := [aR (some 0), aI l1, aI l2, aI l3, aI l4, aJ, aJ]) ⟨Or.inr rfl, Or.inr rfl, Or.inr rfl, Or.inr rfl, Or.inr rfl, Or.inl rfl, Or.inl rfl, trivial⟩ ?_
          exact cb_X10_brings_58 X hR hK   h
def bd_X10_brings_21 (l1 l2 l3 l4 : Int) (iv : IV) (rv : RV) (K : Int → IV → RV → Prop) : Prop :=
  bd_X10_brings_22 l1 l2 l3 l4 0 iv rv K
set_option maxRecDepth 10000 in
theorem cb_X10_brings_21 {Γ : GX} {n : Nat} {iv : IV} {rv : RV} {K : Int → IV → RV → Prop} {l1 l2 l3 l4 : Int} (X : Cx Γ RX10 cX10_brings 7 5) (hR : Rt Γ (some .int) 0 0 (fI2 n K)) (hK : Lk n rv)  (h : bd_X10_brings_21 l1 l2 l3 l4 iv rv K) : G Γ 7 21 [aR (some 0), aI l1, aI l2, aI l3, aI l4, aJ, aJ] [] n iv rv 0 0 := by
  unfold bd_X10_brings_21 at h
  refine g_iconst (q := 22) 0 X dX10_brings_21 rfl rfl ic_0 ?_
  exact cb_X10_brings_22 X hR hK   h
def wp_X10_brings (a1 : Int) (a2 : Int) (a3 : Int) (a4 : Int) (iv : IV) (rv : RV) (K : Int → IV → RV → Prop) : Prop :=
  wp_X5_hasGrant (gR rv 0 2) a1 iv rv (fun r1 => ((r1 = 0) → (bd_X10_brings_21 a1 a2 a3 a4 iv rv K)) ∧ ((¬ (r1 = 0)) → (((12 ≤ a1) → (bd_X10_brings_21 a1 a2 a3 a4 iv rv K)) ∧ ((¬ (12 ≤ a1)) → (bd_X10_brings_22 a1 a2 a3 a4 1 iv rv K)))))
set_option maxRecDepth 10000 in
theorem ce_X10_brings {n : Nat} {iv : IV} {rv : RV} {K : Int → IV → RV → Prop} {a1 : Int} {a2 : Int} {a3 : Int} {a4 : Int} (hK : Lk n rv)  (h : wp_X10_brings a1 a2 a3 a4 iv rv K) : Call 5 0 0 yX10_brings cX10_brings 7 (some .int) [aR (some 0), aI a1, aI a2, aI a3, aI a4] n iv rv (fI2 n K) := by
  refine Call.by (L := [aR (some 0), aI a1, aI a2, aI a3, aI a4, aJ, aJ]) (by decide) rfl ⟨trivial, trivial, trivial, trivial, trivial, trivial⟩ rfl (Nat.le_of_ble_eq_true rfl) (fun Γ X hR => ?_)
  unfold wp_X10_brings at h
  refine g_aload_n (q := 1) 0 X dX10_brings_0 rfl rfl rfl ?_
  refine g_getR (q := 4) (r := some (gR rv 0 2)) 10 2 X hK.2.2.2.2.2.1.1.1 (lt2000 (c := 0) (isR_lt0 hK.2.2.2.2.2.1.1.2)) kf_X10_16 (by decide) (by decide) rfl rfl (hK.n (by decide)) dX10_brings_1 rfl ?_
  refine g_iload_n (q := 5) 1 X dX10_brings_4 rfl rfl rfl ?_
  refine g_cv (q := 8) [aI a1] 5 X (ce_X5_hasGrant hK hK.2.2.2.2.2.1.1.2 h) kV_X10_111 rfl (by decide) (shR_0 hK.2.2.2.2.2.1.1.2) (isR_n0 hK hK.2.2.2.2.2.1.1.2) rfl rfl (Nat.le_of_ble_eq_true rfl) (by decide) dX10_brings_5 rfl (fun r n_ iv_ rv_ hf => ?_)
  obtain ⟨en_, ei_, er_, r1, rfl, br1, h⟩ := hf; subst n_; subst iv_; subst rv_
  refine g_if_eq (q := 11) 21 X dX10_brings_8 (by decide) rfl (fun c2 => ?_) (fun c2 => ?_)
  · have h := h.1 c2
    exact cb_X10_brings_21 X hR hK   h
  · have h := h.2 c2
    refine g_iload_n (q := 12) 1 X dX10_brings_11 rfl rfl rfl ?_
    refine g_bipush (q := 14) 12 X dX10_brings_12 rfl bc_12 ic_12 ?_
    refine g_icmp_ge (q := 17) 21 X dX10_brings_14 (by decide) rfl (fun c3 => ?_) (fun c3 => ?_)
    · have h := h.1 c3
      exact cb_X10_brings_21 X hR hK   h
    · have h := h.2 c3
      refine g_iconst (q := 18) 1 X dX10_brings_17 rfl rfl ic_1 ?_
      refine g_goto (q := 22) X dX10_brings_18 (by decide) ?_
      exact cb_X10_brings_22 X hR hK   h
def bd_X10_firstUnlikeBridge_15 (P15 : Int → Int → Int → Int → Int → IV → RV → Prop) (l1 l2 l3 l4 l5 : Int) (iv : IV) (rv : RV) (K : Int → IV → RV → Prop) : Prop :=
  (((iv (gR rv 0 2 + 1) 4) ≤ l5) → (K (-1) iv rv)) ∧ ((¬ ((iv (gR rv 0 2 + 1) 4) ≤ l5)) → (wp_X1_open (gR rv 0 2) l2 iv rv (fun iv2 rv3 => wp_X1_owedAt l1 l5 l4 iv2 rv3 (fun r4 iv5 => wp_X1_open (gR rv3 0 2) l3 iv5 rv3 (fun iv6 rv7 => wp_X1_owedAt l1 l5 l4 iv6 rv7 (fun r8 iv9 => ((r8 = r4) → (P15 l1 l2 l3 l4 (w32 (l5 + 1)) iv9 rv7)) ∧ ((¬ (r8 = r4)) → (K l5 iv9 rv7))))))))
set_option maxRecDepth 10000 in
theorem cb_X10_firstUnlikeBridge_15 {Γ : GX} {n : Nat} {iv : IV} {rv : RV} {K : Int → IV → RV → Prop} {P15 : Int → Int → Int → Int → Int → IV → RV → Prop} {l1 l2 l3 l4 l5 : Int} (X : Cx Γ RX10 cX10_firstUnlikeBridge 7 5) (hR : Rt Γ (some .int) 0 0 (fI2 n K)) (hK : Lk n rv)  (hP15 : ∀ (l1' l2' l3' l4' l5' : Int) (iv' : IV) (rv' : RV), P15 l1' l2' l3' l4' l5' iv' rv' → Lk n rv' → G Γ 7 15 [aR (some 0), aI (l1'), aI (l2'), aI (l3'), aI (l4'), aI (l5'), aJ] [] n iv' rv' 0 0) (h : bd_X10_firstUnlikeBridge_15 P15 l1 l2 l3 l4 l5 iv rv K) : G Γ 7 15 [aR (some 0), aI l1, aI l2, aI l3, aI l4, aI l5, aJ] [] n iv rv 0 0 := by
  unfold bd_X10_firstUnlikeBridge_15 at h
  refine g_iload (q := 17) 5 X dX10_firstUnlikeBridge_15 rfl rfl ?_
  refine g_aload_n (q := 18) 0 X dX10_firstUnlikeBridge_17 rfl rfl rfl ?_
  refine g_getR (q := 21) (r := some (gR rv 0 2)) 10 2 X hK.2.2.2.2.2.1.1.1 (lt2000 (c := 0) (isR_lt0 hK.2.2.2.2.2.1.1.2)) kf_X10_16 (by decide) (by decide) rfl rfl (hK.n (by decide)) dX10_firstUnlikeBridge_18 rfl ?_
  refine g_getR (q := 24) (r := some (gR rv 0 2 + 1)) 5 0 X (lkR_0 hK hK.2.2.2.2.2.1.1.2) (lt2000 (c := 0) (isR_lt hK.2.2.2.2.2.1.1.2 (by decide))) kf_X10_70 (by decide) (by decide) rfl (shR_0 hK.2.2.2.2.2.1.1.2) (isR_n0 hK hK.2.2.2.2.2.1.1.2) dX10_firstUnlikeBridge_21 rfl ?_
  refine g_iconst (q := 25) 4 X dX10_firstUnlikeBridge_24 rfl rfl ic_4 ?_
  refine g_iald (q := 26) X (shR_1 hK.2.2.2.2.2.1.1.2) (isR_n hK hK.2.2.2.2.2.1.1.2 (by decide)) (by decide) dX10_firstUnlikeBridge_25 rfl ?_
  refine g_icmp_ge (q := 29) 93 X dX10_firstUnlikeBridge_26 (by decide) rfl (fun c1 => ?_) (fun c1 => ?_)
  · have h := h.1 c1
    refine g_iconst (q := 94) (-1) X dX10_firstUnlikeBridge_93 rfl rfl ic_m1 ?_
    exact g_iret (q := 0) X hR dX10_firstUnlikeBridge_94 rfl ⟨rfl, hK, _, rfl, h⟩
  · have h := h.2 c1
    refine g_aload_n (q := 30) 0 X dX10_firstUnlikeBridge_29 rfl rfl rfl ?_
    refine g_getR (q := 33) (r := some 47) 10 5 X (lk_0_5 hK) (lt2000 (c := 0) (by decide)) kf_X10_37 (by decide) (by decide) rfl rfl (hK.n (by decide)) dX10_firstUnlikeBridge_30 rfl ?_
    refine g_aload_n (q := 34) 0 X dX10_firstUnlikeBridge_33 rfl rfl rfl ?_
    refine g_getR (q := 37) (r := some (gR rv 0 2)) 10 2 X hK.2.2.2.2.2.1.1.1 (lt2000 (c := 0) (isR_lt0 hK.2.2.2.2.2.1.1.2)) kf_X10_16 (by decide) (by decide) rfl rfl (hK.n (by decide)) dX10_firstUnlikeBridge_34 rfl ?_
    refine g_iload_n (q := 38) 2 X dX10_firstUnlikeBridge_37 rfl rfl rfl ?_
    refine g_cv (q := 41) [aR (some (gR rv 0 2)), aI l2] 1 X (ce_X1_open hK hK.2.2.2.2.2.1.1.2 h) kV_X10_88 rfl (by decide) rfl (hK.n (by decide)) rfl rfl (Nat.le_of_ble_eq_true rfl) (by decide) dX10_firstUnlikeBridge_38 rfl (fun r n_ iv_ rv_ hf => ?_)
    obtain ⟨en_, hK_rv3, rfl, h⟩ := hf; subst n_
    generalize iv_ = iv2 at h ⊢
    generalize rv_ = rv3 at h hK_rv3 ⊢
    refine g_aload_n (q := 42) 0 X dX10_firstUnlikeBridge_41 rfl rfl rfl ?_
    refine g_getR (q := 45) (r := some 47) 10 5 X (lk_0_5 hK_rv3) (lt2000 (c := 0) (by decide)) kf_X10_37 (by decide) (by decide) rfl rfl (hK_rv3.n (by decide)) dX10_firstUnlikeBridge_42 rfl ?_
    refine g_iload_n (q := 46) 1 X dX10_firstUnlikeBridge_45 rfl rfl rfl ?_
    refine g_iload (q := 48) 5 X dX10_firstUnlikeBridge_46 rfl rfl ?_
    refine g_iload (q := 50) 4 X dX10_firstUnlikeBridge_48 rfl rfl ?_
    refine g_cv (q := 53) [aI l1, aI l5, aI l4] 1 X (ce_X1_owedAt hK_rv3  h) kV_X10_92 rfl (by decide) rfl (hK_rv3.n (by decide)) rfl rfl (Nat.le_of_ble_eq_true rfl) (by decide) dX10_firstUnlikeBridge_50 rfl (fun r n_ iv_ rv_ hf => ?_)
    obtain ⟨en_, er_, r4, rfl, h⟩ := hf; subst n_; subst rv_
    generalize iv_ = iv5 at h ⊢
    refine g_istore (q := 55) (k0 := 0) 6 (L' := [aR (some 0), aI l1, aI l2, aI l3, aI l4, aI l5, aI r4]) X dX10_firstUnlikeBridge_53 rfl (by decide) rfl rfl ?_
    refine g_aload_n (q := 56) 0 X dX10_firstUnlikeBridge_55 rfl rfl rfl ?_
    refine g_getR (q := 59) (r := some 47) 10 5 X (lk_0_5 hK_rv3) (lt2000 (c := 0) (by decide)) kf_X10_37 (by decide) (by decide) rfl rfl (hK_rv3.n (by decide)) dX10_firstUnlikeBridge_56 rfl ?_
    refine g_aload_n (q := 60) 0 X dX10_firstUnlikeBridge_59 rfl rfl rfl ?_
    refine g_getR (q := 63) (r := some (gR rv3 0 2)) 10 2 X hK_rv3.2.2.2.2.2.1.1.1 (lt2000 (c := 0) (isR_lt0 hK_rv3.2.2.2.2.2.1.1.2)) kf_X10_16 (by decide) (by decide) rfl rfl (hK_rv3.n (by decide)) dX10_firstUnlikeBridge_60 rfl ?_
    refine g_iload_n (q := 64) 3 X dX10_firstUnlikeBridge_63 rfl rfl rfl ?_
    refine g_cv (q := 67) [aR (some (gR rv3 0 2)), aI l3] 1 X (ce_X1_open hK_rv3 hK_rv3.2.2.2.2.2.1.1.2 h) kV_X10_88 rfl (by decide) rfl (hK_rv3.n (by decide)) rfl rfl (Nat.le_of_ble_eq_true rfl) (by decide) dX10_firstUnlikeBridge_64 rfl (fun r n_ iv_ rv_ hf => ?_)
    obtain ⟨en_, hK_rv7, rfl, h⟩ := hf; subst n_
    generalize iv_ = iv6 at h ⊢
    generalize rv_ = rv7 at h hK_rv7 ⊢
    refine g_aload_n (q := 68) 0 X dX10_firstUnlikeBridge_67 rfl rfl rfl ?_
    refine g_getR (q := 71) (r := some 47) 10 5 X (lk_0_5 hK_rv7) (lt2000 (c := 0) (by decide)) kf_X10_37 (by decide) (by decide) rfl rfl (hK_rv7.n (by decide)) dX10_firstUnlikeBridge_68 rfl ?_
    refine g_iload_n (q := 72) 1 X dX10_firstUnlikeBridge_71 rfl rfl rfl ?_
    refine g_iload (q := 74) 5 X dX10_firstUnlikeBridge_72 rfl rfl ?_
    refine g_iload (q := 76) 4 X dX10_firstUnlikeBridge_74 rfl rfl ?_
    refine g_cv (q := 79) [aI l1, aI l5, aI l4] 1 X (ce_X1_owedAt hK_rv7  h) kV_X10_92 rfl (by decide) rfl (hK_rv7.n (by decide)) rfl rfl (Nat.le_of_ble_eq_true rfl) (by decide) dX10_firstUnlikeBridge_76 rfl (fun r n_ iv_ rv_ hf => ?_)
    obtain ⟨en_, er_, r8, rfl, h⟩ := hf; subst n_; subst rv_
    generalize iv_ = iv9 at h ⊢
    refine g_iload (q := 81) 6 X dX10_firstUnlikeBridge_79 rfl rfl ?_
    refine g_icmp_eq (q := 84) 87 X dX10_firstUnlikeBridge_81 (by decide) rfl (fun c10 => ?_) (fun c10 => ?_)
    · have h := h.1 c10
      refine g_iinc (q := 90) 5 (L' := [aR (some 0), aI l1, aI l2, aI l3, aI l4, aI (w32 (l5 + 1)), aI r4]) X dX10_firstUnlikeBridge_87 rfl (by decide) rfl rfl rfl ?_
      refine g_goto (q := 15) X dX10_firstUnlikeBridge_90 (by decide) ?_
      refine g_sub (L' := [aR (some 0), aI l1, aI l2, aI l3, aI l4, aI (w32 (l5 + 1)), aJ]) ⟨Or.inr rfl, Or.inr rfl, Or.inr rfl, Or.inr rfl, Or.inr rfl, Or.inr rfl, Or.inl rfl, trivial⟩ ?_
      exact hP15 _ _ _ _ _ _ _ h hK_rv7
    · have h := h.2 c10
      refine g_iload (q := 86) 5 X dX10_firstUnlikeBridge_84 rfl rfl ?_
      exact g_iret (q := 0) X hR dX10_firstUnlikeBridge_86 rfl ⟨rfl, hK_rv7, _, rfl, h⟩
def wl_X10_firstUnlikeBridge_15 (l1 l2 l3 l4 l5 : Int) (iv : IV) (rv : RV) (K : Int → IV → RV → Prop) : Prop :=
  ∀ P : Int → Int → Int → Int → Int → IV → RV → Prop, (∀ (l1' l2' l3' l4' l5' : Int) (iv' : IV) (rv' : RV), bd_X10_firstUnlikeBridge_15  P l1' l2' l3' l4' l5' iv' rv' K → P l1' l2' l3' l4' l5' iv' rv') → P l1 l2 l3 l4 l5 iv rv
theorem cl_X10_firstUnlikeBridge_15 {Γ : GX} {n : Nat} {iv : IV} {rv : RV} {K : Int → IV → RV → Prop} {l1 l2 l3 l4 l5 : Int} (X : Cx Γ RX10 cX10_firstUnlikeBridge 7 5) (hR : Rt Γ (some .int) 0 0 (fI2 n K)) (hK : Lk n rv)  (h : wl_X10_firstUnlikeBridge_15 l1 l2 l3 l4 l5 iv rv K) : G Γ 7 15 [aR (some 0), aI l1, aI l2, aI l3, aI l4, aI l5, aJ] [] n iv rv 0 0 := by
  exact h (fun l1' l2' l3' l4' l5' iv' rv' =>  (Lk n rv' → G Γ 7 15 [aR (some 0), aI (l1'), aI (l2'), aI (l3'), aI (l4'), aI (l5'), aJ] [] n iv' rv' 0 0)) (fun l1' l2' l3' l4' l5' iv' rv' hb hK => cb_X10_firstUnlikeBridge_15 X hR hK   (fun l1' l2' l3' l4' l5' iv' rv' hp hK => hp hK) hb) hK
def wp_X10_firstUnlikeBridge (a1 : Int) (a2 : Int) (a3 : Int) (iv : IV) (rv : RV) (K : Int → IV → RV → Prop) : Prop :=
  wp_X5_ofCart (gR rv 0 2) a1 6 iv rv (fun r1 => wl_X10_firstUnlikeBridge_15 a1 a2 a3 r1 0 iv rv K)
set_option maxRecDepth 10000 in
theorem ce_X10_firstUnlikeBridge {n : Nat} {iv : IV} {rv : RV} {K : Int → IV → RV → Prop} {a1 : Int} {a2 : Int} {a3 : Int} (hK : Lk n rv)  (h : wp_X10_firstUnlikeBridge a1 a2 a3 iv rv K) : Call 5 0 0 yX10_firstUnlikeBridge cX10_firstUnlikeBridge 7 (some .int) [aR (some 0), aI a1, aI a2, aI a3] n iv rv (fI2 n K) := by
  refine Call.by (L := [aR (some 0), aI a1, aI a2, aI a3, aJ, aJ, aJ]) (by decide) rfl ⟨trivial, trivial, trivial, trivial, trivial⟩ rfl (Nat.le_of_ble_eq_true rfl) (fun Γ X hR => ?_)
  unfold wp_X10_firstUnlikeBridge at h
  refine g_aload_n (q := 1) 0 X dX10_firstUnlikeBridge_0 rfl rfl rfl ?_
  refine g_getR (q := 4) (r := some (gR rv 0 2)) 10 2 X hK.2.2.2.2.2.1.1.1 (lt2000 (c := 0) (isR_lt0 hK.2.2.2.2.2.1.1.2)) kf_X10_16 (by decide) (by decide) rfl rfl (hK.n (by decide)) dX10_firstUnlikeBridge_1 rfl ?_
  refine g_iload_n (q := 5) 1 X dX10_firstUnlikeBridge_4 rfl rfl rfl ?_
  refine g_bipush (q := 7) 6 X dX10_firstUnlikeBridge_5 rfl bc_6 ic_6 ?_
  refine g_cv (q := 10) [aI a1, aI 6] 5 X (ce_X5_ofCart hK hK.2.2.2.2.2.1.1.2 h) kV_X10_151 rfl (by decide) (shR_0 hK.2.2.2.2.2.1.1.2) (isR_n0 hK hK.2.2.2.2.2.1.1.2) rfl rfl (Nat.le_of_ble_eq_true rfl) (by decide) dX10_firstUnlikeBridge_7 rfl (fun r n_ iv_ rv_ hf => ?_)
  obtain ⟨en_, ei_, er_, r1, rfl, h⟩ := hf; subst n_; subst iv_; subst rv_
  refine g_istore (q := 12) (k0 := 0) 4 (L' := [aR (some 0), aI a1, aI a2, aI a3, aI r1, aJ, aJ]) X dX10_firstUnlikeBridge_10 rfl (by decide) rfl rfl ?_
  refine g_iconst (q := 13) 0 X dX10_firstUnlikeBridge_12 rfl rfl ic_0 ?_
  refine g_istore (q := 15) (k0 := 0) 5 (L' := [aR (some 0), aI a1, aI a2, aI a3, aI r1, aI 0, aJ]) X dX10_firstUnlikeBridge_13 rfl (by decide) rfl rfl ?_
  exact cl_X10_firstUnlikeBridge_15 X hR hK   h
def bd_X10_part_43 (P43 : Int → Int → Int → IV → RV → Prop) (l1 l2 l3 : Int) (iv : IV) (rv : RV) (K : Int → IV → RV → Prop) : Prop :=
  (((iv (gR rv 0 2 + 1) 11) ≤ l3) → (K (-2) iv rv)) ∧ ((¬ ((iv (gR rv 0 2 + 1) 11) ≤ l3)) → (wp_X10_firstUnlikeBridge l3 l1 l2 iv rv (fun r2 iv3 rv4 => ((r2 < 0) → (P43 l1 l2 (w32 (l3 + 1)) iv3 rv4)) ∧ ((¬ (r2 < 0)) → (K (w32 ((w32 (10 * l3)) + r2)) iv3 rv4)))))
set_option maxRecDepth 10000 in
theorem cb_X10_part_43 {Γ : GX} {n : Nat} {iv : IV} {rv : RV} {K : Int → IV → RV → Prop} {P43 : Int → Int → Int → IV → RV → Prop} {l1 l2 l3 : Int} (X : Cx Γ RX10 cX10_part 5 6) (hR : Rt Γ (some .int) 0 0 (fI2 n K)) (hK : Lk n rv)  (hP43 : ∀ (l1' l2' l3' : Int) (iv' : IV) (rv' : RV), P43 l1' l2' l3' iv' rv' → Lk n rv' → G Γ 5 43 [aR (some 0), aI (l1'), aI (l2'), aI (l3'), aJ] [] n iv' rv' 0 0) (h : bd_X10_part_43 P43 l1 l2 l3 iv rv K) : G Γ 5 43 [aR (some 0), aI l1, aI l2, aI l3, aJ] [] n iv rv 0 0 := by
  unfold bd_X10_part_43 at h
  refine g_iload_n (q := 44) 3 X dX10_part_43 rfl rfl rfl ?_
  refine g_aload_n (q := 45) 0 X dX10_part_44 rfl rfl rfl ?_
  refine g_getR (q := 48) (r := some (gR rv 0 2)) 10 2 X hK.2.2.2.2.2.1.1.1 (lt2000 (c := 0) (isR_lt0 hK.2.2.2.2.2.1.1.2)) kf_X10_16 (by decide) (by decide) rfl rfl (hK.n (by decide)) dX10_part_45 rfl ?_
  refine g_getR (q := 51) (r := some (gR rv 0 2 + 1)) 5 0 X (lkR_0 hK hK.2.2.2.2.2.1.1.2) (lt2000 (c := 0) (isR_lt hK.2.2.2.2.2.1.1.2 (by decide))) kf_X10_70 (by decide) (by decide) rfl (shR_0 hK.2.2.2.2.2.1.1.2) (isR_n0 hK hK.2.2.2.2.2.1.1.2) dX10_part_48 rfl ?_
  refine g_bipush (q := 53) 11 X dX10_part_51 rfl bc_11 ic_11 ?_
  refine g_iald (q := 54) X (shR_1 hK.2.2.2.2.2.1.1.2) (isR_n hK hK.2.2.2.2.2.1.1.2 (by decide)) (by decide) dX10_part_53 rfl ?_
  refine g_icmp_ge (q := 57) 85 X dX10_part_54 (by decide) rfl (fun c1 => ?_) (fun c1 => ?_)
  · have h := h.1 c1
    refine g_bipush (q := 87) (-2) X dX10_part_85 rfl bc_m2 ic_m2 ?_
    exact g_iret (q := 0) X hR dX10_part_87 rfl ⟨rfl, hK, _, rfl, h⟩
  · have h := h.2 c1
    refine g_aload_n (q := 58) 0 X dX10_part_57 rfl rfl rfl ?_
    refine g_iload_n (q := 59) 3 X dX10_part_58 rfl rfl rfl ?_
    refine g_iload_n (q := 60) 1 X dX10_part_59 rfl rfl rfl ?_
    refine g_iload_n (q := 61) 2 X dX10_part_60 rfl rfl rfl ?_
    refine g_cv (q := 64) [aI l3, aI l1, aI l2] 10 X (ce_X10_firstUnlikeBridge hK  h) kV_X10_191 rfl (by decide) rfl (hK.n (by decide)) rfl rfl (Nat.le_of_ble_eq_true rfl) (by decide) dX10_part_61 rfl (fun r n_ iv_ rv_ hf => ?_)
    obtain ⟨en_, hK_rv4, r2, rfl, h⟩ := hf; subst n_
    generalize iv_ = iv3 at h ⊢
    generalize rv_ = rv4 at h hK_rv4 ⊢
    refine g_istore (q := 66) (k0 := 0) 4 (L' := [aR (some 0), aI l1, aI l2, aI l3, aI r2]) X dX10_part_64 rfl (by decide) rfl rfl ?_
    refine g_iload (q := 68) 4 X dX10_part_66 rfl rfl ?_
    refine g_if_lt (q := 71) 79 X dX10_part_68 (by decide) rfl (fun c5 => ?_) (fun c5 => ?_)
    · have h := h.1 c5
      refine g_iinc (q := 82) 3 (L' := [aR (some 0), aI l1, aI l2, aI (w32 (l3 + 1)), aI r2]) X dX10_part_79 rfl (by decide) rfl rfl rfl ?_
      refine g_goto (q := 43) X dX10_part_82 (by decide) ?_
      refine g_sub (L' := [aR (some 0), aI l1, aI l2, aI (w32 (l3 + 1)), aJ]) ⟨Or.inr rfl, Or.inr rfl, Or.inr rfl, Or.inr rfl, Or.inl rfl, trivial⟩ ?_
      exact hP43 _ _ _ _ _ h hK_rv4
    · have h := h.2 c5
      refine g_bipush (q := 73) 10 X dX10_part_71 rfl bc_10 ic_10 ?_
      refine g_iload_n (q := 74) 3 X dX10_part_73 rfl rfl rfl ?_
      refine g_imul (q := 75) X dX10_part_74 rfl ?_
      refine g_iload (q := 77) 4 X dX10_part_75 rfl rfl ?_
      refine g_iadd (q := 78) X dX10_part_77 rfl ?_
      exact g_iret (q := 0) X hR dX10_part_78 rfl ⟨rfl, hK_rv4, _, rfl, h⟩
def wl_X10_part_43 (l1 l2 l3 : Int) (iv : IV) (rv : RV) (K : Int → IV → RV → Prop) : Prop :=
  ∀ P : Int → Int → Int → IV → RV → Prop, (∀ (l1' l2' l3' : Int) (iv' : IV) (rv' : RV), bd_X10_part_43  P l1' l2' l3' iv' rv' K → P l1' l2' l3' iv' rv') → P l1 l2 l3 iv rv
theorem cl_X10_part_43 {Γ : GX} {n : Nat} {iv : IV} {rv : RV} {K : Int → IV → RV → Prop} {l1 l2 l3 : Int} (X : Cx Γ RX10 cX10_part 5 6) (hR : Rt Γ (some .int) 0 0 (fI2 n K)) (hK : Lk n rv)  (h : wl_X10_part_43 l1 l2 l3 iv rv K) : G Γ 5 43 [aR (some 0), aI l1, aI l2, aI l3, aJ] [] n iv rv 0 0 := by
  exact h (fun l1' l2' l3' iv' rv' =>  (Lk n rv' → G Γ 5 43 [aR (some 0), aI (l1'), aI (l2'), aI (l3'), aJ] [] n iv' rv' 0 0)) (fun l1' l2' l3' iv' rv' hb hK => cb_X10_part_43 X hR hK   (fun l1' l2' l3' iv' rv' hp hK => hp hK) hb) hK
def bd_X10_part_32 (l1 l2 t0 : Int) (iv : IV) (rv : RV) (K : Int → IV → RV → Prop) : Prop :=
  wp_X10_admitted t0 0 iv rv (fun r1 iv2 => ((r1 ≠ 0) → (wl_X10_part_43 l1 l2 0 iv2 rv K)) ∧ ((r1 = 0) → (K (-1) iv2 rv)))
set_option maxRecDepth 10000 in
theorem cb_X10_part_32 {Γ : GX} {n : Nat} {iv : IV} {rv : RV} {K : Int → IV → RV → Prop} {l1 l2 t0 : Int} (X : Cx Γ RX10 cX10_part 5 6) (hR : Rt Γ (some .int) 0 0 (fI2 n K)) (hK : Lk n rv)  (h : bd_X10_part_32 l1 l2 t0 iv rv K) : G Γ 5 32 [aR (some 0), aI l1, aI l2, aJ, aJ] [aI t0, aR (some 0)] n iv rv 0 0 := by
  unfold bd_X10_part_32 at h
  refine g_iconst (q := 33) 0 X dX10_part_32 rfl rfl ic_0 ?_
  refine g_cv (q := 36) [aI t0, aI 0] 10 X (ce_X10_admitted hK  h) kV_X10_84 rfl (by decide) rfl (hK.n (by decide)) rfl rfl (Nat.le_of_ble_eq_true rfl) (by decide) dX10_part_33 rfl (fun r n_ iv_ rv_ hf => ?_)
  obtain ⟨en_, er_, r1, rfl, br1, h⟩ := hf; subst n_; subst rv_
  generalize iv_ = iv2 at h ⊢
  refine g_if_ne (q := 39) 41 X dX10_part_36 (by decide) rfl (fun c3 => ?_) (fun c3 => ?_)
  · have h := h.1 c3
    refine g_iconst (q := 42) 0 X dX10_part_41 rfl rfl ic_0 ?_
    refine g_istore_n (q := 43) 3 (L' := [aR (some 0), aI l1, aI l2, aI 0, aJ]) X dX10_part_42 rfl rfl (by decide) rfl rfl ?_
    exact cl_X10_part_43 X hR hK   h
  · have h := h.2 c3
    refine g_iconst (q := 40) (-1) X dX10_part_39 rfl rfl ic_m1 ?_
    exact g_iret (q := 0) X hR dX10_part_40 rfl ⟨rfl, hK, _, rfl, h⟩
def bd_X10_part_31 (l1 l2 : Int) (iv : IV) (rv : RV) (K : Int → IV → RV → Prop) : Prop :=
  bd_X10_part_32 l1 l2 0 iv rv K
set_option maxRecDepth 10000 in
theorem cb_X10_part_31 {Γ : GX} {n : Nat} {iv : IV} {rv : RV} {K : Int → IV → RV → Prop} {l1 l2 : Int} (X : Cx Γ RX10 cX10_part 5 6) (hR : Rt Γ (some .int) 0 0 (fI2 n K)) (hK : Lk n rv)  (h : bd_X10_part_31 l1 l2 iv rv K) : G Γ 5 31 [aR (some 0), aI l1, aI l2, aJ, aJ] [aR (some 0)] n iv rv 0 0 := by
  unfold bd_X10_part_31 at h
  refine g_iconst (q := 32) 0 X dX10_part_31 rfl rfl ic_0 ?_
  exact cb_X10_part_32 X hR hK   h
def wp_X10_part (a1 : Int) (a2 : Int) (iv : IV) (rv : RV) (K : Int → IV → RV → Prop) : Prop :=
  wp_X5_has (gR rv 0 2) 10 a1 iv rv (fun r1 => ((r1 = 0) → (bd_X10_part_31 a1 a2 iv rv K)) ∧ ((¬ (r1 = 0)) → (wp_X5_has (gR rv 0 2) 10 a2 iv rv (fun r3 => ((r3 = 0) → (bd_X10_part_31 a1 a2 iv rv K)) ∧ ((¬ (r3 = 0)) → (bd_X10_part_32 a1 a2 1 iv rv K))))))
set_option maxRecDepth 10000 in
theorem ce_X10_part {n : Nat} {iv : IV} {rv : RV} {K : Int → IV → RV → Prop} {a1 : Int} {a2 : Int} (hK : Lk n rv)  (h : wp_X10_part a1 a2 iv rv K) : Call 6 0 0 yX10_part cX10_part 5 (some .int) [aR (some 0), aI a1, aI a2] n iv rv (fI2 n K) := by
  refine Call.by (L := [aR (some 0), aI a1, aI a2, aJ, aJ]) (by decide) rfl ⟨trivial, trivial, trivial, trivial⟩ rfl (Nat.le_of_ble_eq_true rfl) (fun Γ X hR => ?_)
  unfold wp_X10_part at h
  refine g_aload_n (q := 1) 0 X dX10_part_0 rfl rfl rfl ?_
  refine g_aload_n (q := 2) 0 X dX10_part_1 rfl rfl rfl ?_
  refine g_getR (q := 5) (r := some (gR rv 0 2)) 10 2 X hK.2.2.2.2.2.1.1.1 (lt2000 (c := 0) (isR_lt0 hK.2.2.2.2.2.1.1.2)) kf_X10_16 (by decide) (by decide) rfl rfl (hK.n (by decide)) dX10_part_2 rfl ?_
  refine g_bipush (q := 7) 10 X dX10_part_5 rfl bc_10 ic_10 ?_
  refine g_iload_n (q := 8) 1 X dX10_part_7 rfl rfl rfl ?_
  refine g_cv (q := 11) [aI 10, aI a1] 5 X (ce_X5_has hK hK.2.2.2.2.2.1.1.2 h) kV_X10_96 rfl (by decide) (shR_0 hK.2.2.2.2.2.1.1.2) (isR_n0 hK hK.2.2.2.2.2.1.1.2) rfl rfl (Nat.le_of_ble_eq_true rfl) (by decide) dX10_part_8 rfl (fun r n_ iv_ rv_ hf => ?_)
  obtain ⟨en_, ei_, er_, r1, rfl, br1, h⟩ := hf; subst n_; subst iv_; subst rv_
  refine g_if_eq (q := 14) 31 X dX10_part_11 (by decide) rfl (fun c2 => ?_) (fun c2 => ?_)
  · have h := h.1 c2
    exact cb_X10_part_31 X hR hK   h
  · have h := h.2 c2
    refine g_aload_n (q := 15) 0 X dX10_part_14 rfl rfl rfl ?_
    refine g_getR (q := 18) (r := some (gR rv 0 2)) 10 2 X hK.2.2.2.2.2.1.1.1 (lt2000 (c := 0) (isR_lt0 hK.2.2.2.2.2.1.1.2)) kf_X10_16 (by decide) (by decide) rfl rfl (hK.n (by decide)) dX10_part_15 rfl ?_
    refine g_bipush (q := 20) 10 X dX10_part_18 rfl bc_10 ic_10 ?_
    refine g_iload_n (q := 21) 2 X dX10_part_20 rfl rfl rfl ?_
    refine g_cv (q := 24) [aI 10, aI a2] 5 X (ce_X5_has hK hK.2.2.2.2.2.1.1.2 h) kV_X10_96 rfl (by decide) (shR_0 hK.2.2.2.2.2.1.1.2) (isR_n0 hK hK.2.2.2.2.2.1.1.2) rfl rfl (Nat.le_of_ble_eq_true rfl) (by decide) dX10_part_21 rfl (fun r n_ iv_ rv_ hf => ?_)
    obtain ⟨en_, ei_, er_, r3, rfl, br3, h⟩ := hf; subst n_; subst iv_; subst rv_
    refine g_if_eq (q := 27) 31 X dX10_part_24 (by decide) rfl (fun c4 => ?_) (fun c4 => ?_)
    · have h := h.1 c4
      exact cb_X10_part_31 X hR hK   h
    · have h := h.2 c4
      refine g_iconst (q := 28) 1 X dX10_part_27 rfl rfl ic_1 ?_
      refine g_goto (q := 32) X dX10_part_28 (by decide) ?_
      exact cb_X10_part_32 X hR hK   h
def wp_X10_lose (a1 : Int) (a2 : Int) (iv : IV) (rv : RV) (K : Int → IV → Prop) : Prop :=
  wp_X5_hasGrant (gR rv 0 2) a1 iv rv (fun r1 => wp_X10_admitted r1 0 iv rv (fun r2 iv3 => ((r2 ≠ 0) → ((0 ≤ a1 ∧ a1 < 16) ∧ (((iv3 (gR rv 0 2 + 10) a1.toNat) = 0) → (((a2 = 0) → ((0 ≤ a1 ∧ a1 < 16) ∧ ∀ iv9, iv9 = w2 iv3 (gR rv 0 2 + 10) a1.toNat 1 → K 1 iv9)) ∧ ((¬ (a2 = 0)) → ((0 ≤ a1 ∧ a1 < 16) ∧ ∀ iv11, iv11 = w2 iv3 (gR rv 0 2 + 10) a1.toNat 2 → K 1 iv11)))) ∧ ((¬ ((iv3 (gR rv 0 2 + 10) a1.toNat) = 0)) → (∀ iv12, iv12 = w2 iv3 0 7 5 → K 0 iv12)))) ∧ ((r2 = 0) → (K 0 iv3))))
set_option maxRecDepth 10000 in
theorem ce_X10_lose {n : Nat} {iv : IV} {rv : RV} {K : Int → IV → Prop} {a1 : Int} {a2 : Int} (hK : Lk n rv)  (h : wp_X10_lose a1 a2 iv rv K) : Call 2 0 0 yX10_lose cX10_lose 3 (some .boolean) [aR (some 0), aI a1, aI a2] n iv rv (fB1 n rv K) := by
  refine Call.by (L := [aR (some 0), aI a1, aI a2]) (by decide) rfl ⟨trivial, trivial, trivial, trivial⟩ rfl (Nat.le_of_ble_eq_true rfl) (fun Γ X hR => ?_)
  unfold wp_X10_lose at h
  refine g_aload_n (q := 1) 0 X dX10_lose_0 rfl rfl rfl ?_
  refine g_aload_n (q := 2) 0 X dX10_lose_1 rfl rfl rfl ?_
  refine g_getR (q := 5) (r := some (gR rv 0 2)) 10 2 X hK.2.2.2.2.2.1.1.1 (lt2000 (c := 0) (isR_lt0 hK.2.2.2.2.2.1.1.2)) kf_X10_16 (by decide) (by decide) rfl rfl (hK.n (by decide)) dX10_lose_2 rfl ?_
  refine g_iload_n (q := 6) 1 X dX10_lose_5 rfl rfl rfl ?_
  refine g_cv (q := 9) [aI a1] 5 X (ce_X5_hasGrant hK hK.2.2.2.2.2.1.1.2 h) kV_X10_111 rfl (by decide) (shR_0 hK.2.2.2.2.2.1.1.2) (isR_n0 hK hK.2.2.2.2.2.1.1.2) rfl rfl (Nat.le_of_ble_eq_true rfl) (by decide) dX10_lose_6 rfl (fun r n_ iv_ rv_ hf => ?_)
  obtain ⟨en_, ei_, er_, r1, rfl, br1, h⟩ := hf; subst n_; subst iv_; subst rv_
  refine g_iconst (q := 10) 0 X dX10_lose_9 rfl rfl ic_0 ?_
  refine g_cv (q := 13) [aI r1, aI 0] 10 X (ce_X10_admitted hK  h) kV_X10_84 rfl (by decide) rfl (hK.n (by decide)) rfl rfl (Nat.le_of_ble_eq_true rfl) (by decide) dX10_lose_10 rfl (fun r n_ iv_ rv_ hf => ?_)
  obtain ⟨en_, er_, r2, rfl, br2, h⟩ := hf; subst n_; subst rv_
  generalize iv_ = iv3 at h ⊢
  refine g_if_ne (q := 16) 18 X dX10_lose_13 (by decide) rfl (fun c4 => ?_) (fun c4 => ?_)
  · have h := h.1 c4
    refine g_aload_n (q := 19) 0 X dX10_lose_18 rfl rfl rfl ?_
    refine g_getR (q := 22) (r := some (gR rv 0 2)) 10 2 X hK.2.2.2.2.2.1.1.1 (lt2000 (c := 0) (isR_lt0 hK.2.2.2.2.2.1.1.2)) kf_X10_16 (by decide) (by decide) rfl rfl (hK.n (by decide)) dX10_lose_19 rfl ?_
    refine g_getR (q := 25) (r := some (gR rv 0 2 + 10)) 5 9 X (lkR_9 hK hK.2.2.2.2.2.1.1.2) (lt2000 (c := 0) (isR_lt hK.2.2.2.2.2.1.1.2 (by decide))) kf_X10_194 (by decide) (by decide) rfl (shR_0 hK.2.2.2.2.2.1.1.2) (isR_n0 hK hK.2.2.2.2.2.1.1.2) dX10_lose_22 rfl ?_
    refine g_iload_n (q := 26) 1 X dX10_lose_25 rfl rfl rfl ?_
    obtain ⟨s5, h⟩ := h
    refine g_iald (q := 27) X (shR_10 hK.2.2.2.2.2.1.1.2) (isR_n hK hK.2.2.2.2.2.1.1.2 (by decide)) s5 dX10_lose_26 rfl ?_
    refine g_if_eq (q := 30) 37 X dX10_lose_27 (by decide) rfl (fun c6 => ?_) (fun c6 => ?_)
    · have h := h.1 c6
      refine g_aload_n (q := 38) 0 X dX10_lose_37 rfl rfl rfl ?_
      refine g_getR (q := 41) (r := some (gR rv 0 2)) 10 2 X hK.2.2.2.2.2.1.1.1 (lt2000 (c := 0) (isR_lt0 hK.2.2.2.2.2.1.1.2)) kf_X10_16 (by decide) (by decide) rfl rfl (hK.n (by decide)) dX10_lose_38 rfl ?_
      refine g_getR (q := 44) (r := some (gR rv 0 2 + 10)) 5 9 X (lkR_9 hK hK.2.2.2.2.2.1.1.2) (lt2000 (c := 0) (isR_lt hK.2.2.2.2.2.1.1.2 (by decide))) kf_X10_194 (by decide) (by decide) rfl (shR_0 hK.2.2.2.2.2.1.1.2) (isR_n0 hK hK.2.2.2.2.2.1.1.2) dX10_lose_41 rfl ?_
      refine g_iload_n (q := 45) 1 X dX10_lose_44 rfl rfl rfl ?_
      refine g_iload_n (q := 46) 2 X dX10_lose_45 rfl rfl rfl ?_
      refine g_if_eq (q := 49) 53 X dX10_lose_46 (by decide) rfl (fun c7 => ?_) (fun c7 => ?_)
      · have h := h.1 c7
        refine g_iconst (q := 54) 1 X dX10_lose_53 rfl rfl ic_1 ?_
        obtain ⟨s8, h⟩ := h
        refine g_iast (q := 55) X (shR_10 hK.2.2.2.2.2.1.1.2) (isR_n hK hK.2.2.2.2.2.1.1.2 (by decide)) s8 dX10_lose_54 rfl ?_
        refine g_nmM (fun iv9 eiv9 => ?_)
        have h := h iv9 eiv9
        refine g_iconst (q := 56) 1 X dX10_lose_55 rfl rfl ic_1 ?_
        exact g_zret (q := 0) .boolean X hR (nar_B (Or.inr rfl)) dX10_lose_56 rfl ⟨rfl, rfl, _, rfl, (Or.inr rfl), h⟩
      · have h := h.2 c7
        refine g_iconst (q := 50) 2 X dX10_lose_49 rfl rfl ic_2 ?_
        refine g_goto (q := 54) X dX10_lose_50 (by decide) ?_
        obtain ⟨s10, h⟩ := h
        refine g_iast (q := 55) X (shR_10 hK.2.2.2.2.2.1.1.2) (isR_n hK hK.2.2.2.2.2.1.1.2 (by decide)) s10 dX10_lose_54 rfl ?_
        refine g_nmM (fun iv11 eiv11 => ?_)
        have h := h iv11 eiv11
        refine g_iconst (q := 56) 1 X dX10_lose_55 rfl rfl ic_1 ?_
        exact g_zret (q := 0) .boolean X hR (nar_B (Or.inr rfl)) dX10_lose_56 rfl ⟨rfl, rfl, _, rfl, (Or.inr rfl), h⟩
    · have h := h.2 c6
      refine g_aload_n (q := 31) 0 X dX10_lose_30 rfl rfl rfl ?_
      refine g_iconst (q := 32) 5 X dX10_lose_31 rfl rfl ic_5 ?_
      refine g_putI (q := 35) 10 7 X (Or.inl rfl) rfl kf_X10_67 (by decide) (by decide) rfl (hK.n (by decide)) dX10_lose_32 rfl ?_
      refine g_nmM (fun iv12 eiv12 => ?_)
      have h := h iv12 eiv12
      refine g_iconst (q := 36) 0 X dX10_lose_35 rfl rfl ic_0 ?_
      exact g_zret (q := 0) .boolean X hR (nar_B (Or.inl rfl)) dX10_lose_36 rfl ⟨rfl, rfl, _, rfl, (Or.inl rfl), h⟩
  · have h := h.2 c4
    refine g_iconst (q := 17) 0 X dX10_lose_16 rfl rfl ic_0 ?_
    exact g_zret (q := 0) .boolean X hR (nar_B (Or.inl rfl)) dX10_lose_17 rfl ⟨rfl, rfl, _, rfl, (Or.inl rfl), h⟩
def wp_X10_find (a1 : Int) (iv : IV) (rv : RV) (K : Int → IV → Prop) : Prop :=
  wp_X5_hasGrant (gR rv 0 2) a1 iv rv (fun r1 => wp_X10_admitted r1 0 iv rv (fun r2 iv3 => ((r2 ≠ 0) → ((0 ≤ a1 ∧ a1 < 16) ∧ (((iv3 (gR rv 0 2 + 10) a1.toNat) ≠ 0) → ((0 ≤ a1 ∧ a1 < 16) ∧ ∀ iv8, iv8 = w2 iv3 (gR rv 0 2 + 10) a1.toNat 0 → K 1 iv8)) ∧ (((iv3 (gR rv 0 2 + 10) a1.toNat) = 0) → (∀ iv9, iv9 = w2 iv3 0 7 5 → K 0 iv9)))) ∧ ((r2 = 0) → (K 0 iv3))))
set_option maxRecDepth 10000 in
theorem ce_X10_find {n : Nat} {iv : IV} {rv : RV} {K : Int → IV → Prop} {a1 : Int} (hK : Lk n rv)  (h : wp_X10_find a1 iv rv K) : Call 2 0 0 yX10_find cX10_find 2 (some .boolean) [aR (some 0), aI a1] n iv rv (fB1 n rv K) := by
  refine Call.by (L := [aR (some 0), aI a1]) (by decide) rfl ⟨trivial, trivial, trivial⟩ rfl (Nat.le_of_ble_eq_true rfl) (fun Γ X hR => ?_)
  unfold wp_X10_find at h
  refine g_aload_n (q := 1) 0 X dX10_find_0 rfl rfl rfl ?_
  refine g_aload_n (q := 2) 0 X dX10_find_1 rfl rfl rfl ?_
  refine g_getR (q := 5) (r := some (gR rv 0 2)) 10 2 X hK.2.2.2.2.2.1.1.1 (lt2000 (c := 0) (isR_lt0 hK.2.2.2.2.2.1.1.2)) kf_X10_16 (by decide) (by decide) rfl rfl (hK.n (by decide)) dX10_find_2 rfl ?_
  refine g_iload_n (q := 6) 1 X dX10_find_5 rfl rfl rfl ?_
  refine g_cv (q := 9) [aI a1] 5 X (ce_X5_hasGrant hK hK.2.2.2.2.2.1.1.2 h) kV_X10_111 rfl (by decide) (shR_0 hK.2.2.2.2.2.1.1.2) (isR_n0 hK hK.2.2.2.2.2.1.1.2) rfl rfl (Nat.le_of_ble_eq_true rfl) (by decide) dX10_find_6 rfl (fun r n_ iv_ rv_ hf => ?_)
  obtain ⟨en_, ei_, er_, r1, rfl, br1, h⟩ := hf; subst n_; subst iv_; subst rv_
  refine g_iconst (q := 10) 0 X dX10_find_9 rfl rfl ic_0 ?_
  refine g_cv (q := 13) [aI r1, aI 0] 10 X (ce_X10_admitted hK  h) kV_X10_84 rfl (by decide) rfl (hK.n (by decide)) rfl rfl (Nat.le_of_ble_eq_true rfl) (by decide) dX10_find_10 rfl (fun r n_ iv_ rv_ hf => ?_)
  obtain ⟨en_, er_, r2, rfl, br2, h⟩ := hf; subst n_; subst rv_
  generalize iv_ = iv3 at h ⊢
  refine g_if_ne (q := 16) 18 X dX10_find_13 (by decide) rfl (fun c4 => ?_) (fun c4 => ?_)
  · have h := h.1 c4
    refine g_aload_n (q := 19) 0 X dX10_find_18 rfl rfl rfl ?_
    refine g_getR (q := 22) (r := some (gR rv 0 2)) 10 2 X hK.2.2.2.2.2.1.1.1 (lt2000 (c := 0) (isR_lt0 hK.2.2.2.2.2.1.1.2)) kf_X10_16 (by decide) (by decide) rfl rfl (hK.n (by decide)) dX10_find_19 rfl ?_
    refine g_getR (q := 25) (r := some (gR rv 0 2 + 10)) 5 9 X (lkR_9 hK hK.2.2.2.2.2.1.1.2) (lt2000 (c := 0) (isR_lt hK.2.2.2.2.2.1.1.2 (by decide))) kf_X10_194 (by decide) (by decide) rfl (shR_0 hK.2.2.2.2.2.1.1.2) (isR_n0 hK hK.2.2.2.2.2.1.1.2) dX10_find_22 rfl ?_
    refine g_iload_n (q := 26) 1 X dX10_find_25 rfl rfl rfl ?_
    obtain ⟨s5, h⟩ := h
    refine g_iald (q := 27) X (shR_10 hK.2.2.2.2.2.1.1.2) (isR_n hK hK.2.2.2.2.2.1.1.2 (by decide)) s5 dX10_find_26 rfl ?_
    refine g_if_ne (q := 30) 37 X dX10_find_27 (by decide) rfl (fun c6 => ?_) (fun c6 => ?_)
    · have h := h.1 c6
      refine g_aload_n (q := 38) 0 X dX10_find_37 rfl rfl rfl ?_
      refine g_getR (q := 41) (r := some (gR rv 0 2)) 10 2 X hK.2.2.2.2.2.1.1.1 (lt2000 (c := 0) (isR_lt0 hK.2.2.2.2.2.1.1.2)) kf_X10_16 (by decide) (by decide) rfl rfl (hK.n (by decide)) dX10_find_38 rfl ?_
      refine g_getR (q := 44) (r := some (gR rv 0 2 + 10)) 5 9 X (lkR_9 hK hK.2.2.2.2.2.1.1.2) (lt2000 (c := 0) (isR_lt hK.2.2.2.2.2.1.1.2 (by decide))) kf_X10_194 (by decide) (by decide) rfl (shR_0 hK.2.2.2.2.2.1.1.2) (isR_n0 hK hK.2.2.2.2.2.1.1.2) dX10_find_41 rfl ?_
      refine g_iload_n (q := 45) 1 X dX10_find_44 rfl rfl rfl ?_
      refine g_iconst (q := 46) 0 X dX10_find_45 rfl rfl ic_0 ?_
      obtain ⟨s7, h⟩ := h
      refine g_iast (q := 47) X (shR_10 hK.2.2.2.2.2.1.1.2) (isR_n hK hK.2.2.2.2.2.1.1.2 (by decide)) s7 dX10_find_46 rfl ?_
      refine g_nmM (fun iv8 eiv8 => ?_)
      have h := h iv8 eiv8
      refine g_iconst (q := 48) 1 X dX10_find_47 rfl rfl ic_1 ?_
      exact g_zret (q := 0) .boolean X hR (nar_B (Or.inr rfl)) dX10_find_48 rfl ⟨rfl, rfl, _, rfl, (Or.inr rfl), h⟩
    · have h := h.2 c6
      refine g_aload_n (q := 31) 0 X dX10_find_30 rfl rfl rfl ?_
      refine g_iconst (q := 32) 5 X dX10_find_31 rfl rfl ic_5 ?_
      refine g_putI (q := 35) 10 7 X (Or.inl rfl) rfl kf_X10_67 (by decide) (by decide) rfl (hK.n (by decide)) dX10_find_32 rfl ?_
      refine g_nmM (fun iv9 eiv9 => ?_)
      have h := h iv9 eiv9
      refine g_iconst (q := 36) 0 X dX10_find_35 rfl rfl ic_0 ?_
      exact g_zret (q := 0) .boolean X hR (nar_B (Or.inl rfl)) dX10_find_36 rfl ⟨rfl, rfl, _, rfl, (Or.inl rfl), h⟩
  · have h := h.2 c4
    refine g_iconst (q := 17) 0 X dX10_find_16 rfl rfl ic_0 ?_
    exact g_zret (q := 0) .boolean X hR (nar_B (Or.inl rfl)) dX10_find_17 rfl ⟨rfl, rfl, _, rfl, (Or.inl rfl), h⟩
def wp_X10_date (a1 : Int) (a2 : Int) (iv : IV) (rv : RV) (K : Int → IV → Prop) : Prop :=
  wp_X5_hasGrant (gR rv 0 2) a1 iv rv (fun r1 => wp_X10_admitted r1 a2 iv rv (fun r2 iv3 => ((r2 ≠ 0) → ((0 ≤ a1 ∧ a1 < 16) ∧ ∀ iv6, iv6 = w2 iv3 (gR rv 0 2 + 8) a1.toNat a2 → (0 ≤ a1 ∧ a1 < 16) ∧ ∀ iv8, iv8 = w2 iv6 (gR rv 0 2 + 9) a1.toNat a2 → K 1 iv8)) ∧ ((r2 = 0) → (K 0 iv3))))
set_option maxRecDepth 10000 in
theorem ce_X10_date {n : Nat} {iv : IV} {rv : RV} {K : Int → IV → Prop} {a1 : Int} {a2 : Int} (hK : Lk n rv)  (h : wp_X10_date a1 a2 iv rv K) : Call 2 0 0 yX10_date cX10_date 3 (some .boolean) [aR (some 0), aI a1, aI a2] n iv rv (fB1 n rv K) := by
  refine Call.by (L := [aR (some 0), aI a1, aI a2]) (by decide) rfl ⟨trivial, trivial, trivial, trivial⟩ rfl (Nat.le_of_ble_eq_true rfl) (fun Γ X hR => ?_)
  unfold wp_X10_date at h
  refine g_aload_n (q := 1) 0 X dX10_date_0 rfl rfl rfl ?_
  refine g_aload_n (q := 2) 0 X dX10_date_1 rfl rfl rfl ?_
  refine g_getR (q := 5) (r := some (gR rv 0 2)) 10 2 X hK.2.2.2.2.2.1.1.1 (lt2000 (c := 0) (isR_lt0 hK.2.2.2.2.2.1.1.2)) kf_X10_16 (by decide) (by decide) rfl rfl (hK.n (by decide)) dX10_date_2 rfl ?_
  refine g_iload_n (q := 6) 1 X dX10_date_5 rfl rfl rfl ?_
  refine g_cv (q := 9) [aI a1] 5 X (ce_X5_hasGrant hK hK.2.2.2.2.2.1.1.2 h) kV_X10_111 rfl (by decide) (shR_0 hK.2.2.2.2.2.1.1.2) (isR_n0 hK hK.2.2.2.2.2.1.1.2) rfl rfl (Nat.le_of_ble_eq_true rfl) (by decide) dX10_date_6 rfl (fun r n_ iv_ rv_ hf => ?_)
  obtain ⟨en_, ei_, er_, r1, rfl, br1, h⟩ := hf; subst n_; subst iv_; subst rv_
  refine g_iload_n (q := 10) 2 X dX10_date_9 rfl rfl rfl ?_
  refine g_cv (q := 13) [aI r1, aI a2] 10 X (ce_X10_admitted hK  h) kV_X10_84 rfl (by decide) rfl (hK.n (by decide)) rfl rfl (Nat.le_of_ble_eq_true rfl) (by decide) dX10_date_10 rfl (fun r n_ iv_ rv_ hf => ?_)
  obtain ⟨en_, er_, r2, rfl, br2, h⟩ := hf; subst n_; subst rv_
  generalize iv_ = iv3 at h ⊢
  refine g_if_ne (q := 16) 18 X dX10_date_13 (by decide) rfl (fun c4 => ?_) (fun c4 => ?_)
  · have h := h.1 c4
    refine g_aload_n (q := 19) 0 X dX10_date_18 rfl rfl rfl ?_
    refine g_getR (q := 22) (r := some (gR rv 0 2)) 10 2 X hK.2.2.2.2.2.1.1.1 (lt2000 (c := 0) (isR_lt0 hK.2.2.2.2.2.1.1.2)) kf_X10_16 (by decide) (by decide) rfl rfl (hK.n (by decide)) dX10_date_19 rfl ?_
    refine g_getR (q := 25) (r := some (gR rv 0 2 + 8)) 5 7 X (lkR_7 hK hK.2.2.2.2.2.1.1.2) (lt2000 (c := 0) (isR_lt hK.2.2.2.2.2.1.1.2 (by decide))) kf_X10_195 (by decide) (by decide) rfl (shR_0 hK.2.2.2.2.2.1.1.2) (isR_n0 hK hK.2.2.2.2.2.1.1.2) dX10_date_22 rfl ?_
    refine g_iload_n (q := 26) 1 X dX10_date_25 rfl rfl rfl ?_
    refine g_iload_n (q := 27) 2 X dX10_date_26 rfl rfl rfl ?_
    obtain ⟨s5, h⟩ := h
    refine g_iast (q := 28) X (shR_8 hK.2.2.2.2.2.1.1.2) (isR_n hK hK.2.2.2.2.2.1.1.2 (by decide)) s5 dX10_date_27 rfl ?_
    refine g_nmM (fun iv6 eiv6 => ?_)
    have h := h iv6 eiv6
    refine g_aload_n (q := 29) 0 X dX10_date_28 rfl rfl rfl ?_
    refine g_getR (q := 32) (r := some (gR rv 0 2)) 10 2 X hK.2.2.2.2.2.1.1.1 (lt2000 (c := 0) (isR_lt0 hK.2.2.2.2.2.1.1.2)) kf_X10_16 (by decide) (by decide) rfl rfl (hK.n (by decide)) dX10_date_29 rfl ?_
    refine g_getR (q := 35) (r := some (gR rv 0 2 + 9)) 5 8 X (lkR_8 hK hK.2.2.2.2.2.1.1.2) (lt2000 (c := 0) (isR_lt hK.2.2.2.2.2.1.1.2 (by decide))) kf_X10_198 (by decide) (by decide) rfl (shR_0 hK.2.2.2.2.2.1.1.2) (isR_n0 hK hK.2.2.2.2.2.1.1.2) dX10_date_32 rfl ?_
    refine g_iload_n (q := 36) 1 X dX10_date_35 rfl rfl rfl ?_
    refine g_iload_n (q := 37) 2 X dX10_date_36 rfl rfl rfl ?_
    obtain ⟨s7, h⟩ := h
    refine g_iast (q := 38) X (shR_9 hK.2.2.2.2.2.1.1.2) (isR_n hK hK.2.2.2.2.2.1.1.2 (by decide)) s7 dX10_date_37 rfl ?_
    refine g_nmM (fun iv8 eiv8 => ?_)
    have h := h iv8 eiv8
    refine g_iconst (q := 39) 1 X dX10_date_38 rfl rfl ic_1 ?_
    exact g_zret (q := 0) .boolean X hR (nar_B (Or.inr rfl)) dX10_date_39 rfl ⟨rfl, rfl, _, rfl, (Or.inr rfl), h⟩
  · have h := h.2 c4
    refine g_iconst (q := 17) 0 X dX10_date_16 rfl rfl ic_0 ?_
    exact g_zret (q := 0) .boolean X hR (nar_B (Or.inl rfl)) dX10_date_17 rfl ⟨rfl, rfl, _, rfl, (Or.inl rfl), h⟩
def wp_X10_grant (a1 : Int) (a2 : Int) (iv : IV) (rv : RV) (K : Int → Prop) : Prop :=
  wp_X5_hasGrant (gR rv 0 2) a1 iv rv (fun r1 => ((r1 ≠ 0) → ((((a2 < 0 ∨ 6 < a2)) → (K (-1))) ∧ ((a2 = 0) → ((0 ≤ a1 ∧ a1 < 16) ∧ K (iv (gR rv 0 2 + 8) a1.toNat))) ∧ ((a2 = 1) → ((0 ≤ a1 ∧ a1 < 16) ∧ K (iv (gR rv 0 2 + 9) a1.toNat))) ∧ ((a2 = 2) → ((0 ≤ a1 ∧ a1 < 16) ∧ K (iv (gR rv 0 2 + 10) a1.toNat))) ∧ ((a2 = 3) → ((0 ≤ a1 ∧ a1 < 16) ∧ K (iv (gR rv 0 2 + 11) a1.toNat))) ∧ ((a2 = 4) → ((0 ≤ a1 ∧ a1 < 16) ∧ K (iv (gR rv 0 2 + 12) a1.toNat))) ∧ ((a2 = 5) → ((0 ≤ a1 ∧ a1 < 16) ∧ K (iv (gR rv 0 2 + 13) a1.toNat))) ∧ ((a2 = 6) → (wp_X5_renewalsOf (gR rv 0 2) a1 iv rv (fun r10 => K r10))))) ∧ ((r1 = 0) → (K (-1))))
set_option maxRecDepth 10000 in
theorem ce_X10_grant {n : Nat} {iv : IV} {rv : RV} {K : Int → Prop} {a1 : Int} {a2 : Int} (hK : Lk n rv)  (h : wp_X10_grant a1 a2 iv rv K) : Call 2 0 0 yX10_grant cX10_grant 3 (some .int) [aR (some 0), aI a1, aI a2] n iv rv (fI0 n iv rv K) := by
  refine Call.by (L := [aR (some 0), aI a1, aI a2]) (by decide) rfl ⟨trivial, trivial, trivial, trivial⟩ rfl (Nat.le_of_ble_eq_true rfl) (fun Γ X hR => ?_)
  unfold wp_X10_grant at h
  refine g_aload_n (q := 1) 0 X dX10_grant_0 rfl rfl rfl ?_
  refine g_getR (q := 4) (r := some (gR rv 0 2)) 10 2 X hK.2.2.2.2.2.1.1.1 (lt2000 (c := 0) (isR_lt0 hK.2.2.2.2.2.1.1.2)) kf_X10_16 (by decide) (by decide) rfl rfl (hK.n (by decide)) dX10_grant_1 rfl ?_
  refine g_iload_n (q := 5) 1 X dX10_grant_4 rfl rfl rfl ?_
  refine g_cv (q := 8) [aI a1] 5 X (ce_X5_hasGrant hK hK.2.2.2.2.2.1.1.2 h) kV_X10_111 rfl (by decide) (shR_0 hK.2.2.2.2.2.1.1.2) (isR_n0 hK hK.2.2.2.2.2.1.1.2) rfl rfl (Nat.le_of_ble_eq_true rfl) (by decide) dX10_grant_5 rfl (fun r n_ iv_ rv_ hf => ?_)
  obtain ⟨en_, ei_, er_, r1, rfl, br1, h⟩ := hf; subst n_; subst iv_; subst rv_
  refine g_if_ne (q := 11) 13 X dX10_grant_8 (by decide) rfl (fun c2 => ?_) (fun c2 => ?_)
  · have h := h.1 c2
    refine g_iload_n (q := 14) 2 X dX10_grant_13 rfl rfl rfl ?_
    have hsw : (a2 < 0 ∨ 6 < a2) ∨ a2 = 0 ∨ a2 = 1 ∨ a2 = 2 ∨ a2 = 3 ∨ a2 = 4 ∨ a2 = 5 ∨ a2 = 6 := by omega
    rcases hsw with c3 | c3 | c3 | c3 | c3 | c3 | c3 | c3
    · have h := h.1 c3
      refine g_tswOut (q := 125) X dX10_grant_14 (by decide) c3 ?_
      refine g_iconst (q := 126) (-1) X dX10_grant_125 rfl rfl ic_m1 ?_
      exact g_iret (q := 0) X hR dX10_grant_126 rfl ⟨rfl, rfl, rfl, _, rfl, h⟩
    · have h := h.2.1 c3
      refine g_tswIn (q := 56) (off := 42) X dX10_grant_14 (by omega) (by omega) (by rw [c3]; rfl) (by decide) ?_
      refine g_aload_n (q := 57) 0 X dX10_grant_56 rfl rfl rfl ?_
      refine g_getR (q := 60) (r := some (gR rv 0 2)) 10 2 X hK.2.2.2.2.2.1.1.1 (lt2000 (c := 0) (isR_lt0 hK.2.2.2.2.2.1.1.2)) kf_X10_16 (by decide) (by decide) rfl rfl (hK.n (by decide)) dX10_grant_57 rfl ?_
      refine g_getR (q := 63) (r := some (gR rv 0 2 + 8)) 5 7 X (lkR_7 hK hK.2.2.2.2.2.1.1.2) (lt2000 (c := 0) (isR_lt hK.2.2.2.2.2.1.1.2 (by decide))) kf_X10_195 (by decide) (by decide) rfl (shR_0 hK.2.2.2.2.2.1.1.2) (isR_n0 hK hK.2.2.2.2.2.1.1.2) dX10_grant_60 rfl ?_
      refine g_iload_n (q := 64) 1 X dX10_grant_63 rfl rfl rfl ?_
      obtain ⟨s4, h⟩ := h
      refine g_iald (q := 65) X (shR_8 hK.2.2.2.2.2.1.1.2) (isR_n hK hK.2.2.2.2.2.1.1.2 (by decide)) s4 dX10_grant_64 rfl ?_
      exact g_iret (q := 0) X hR dX10_grant_65 rfl ⟨rfl, rfl, rfl, _, rfl, h⟩
    · have h := h.2.2.1 c3
      refine g_tswIn (q := 66) (off := 52) X dX10_grant_14 (by omega) (by omega) (by rw [c3]; rfl) (by decide) ?_
      refine g_aload_n (q := 67) 0 X dX10_grant_66 rfl rfl rfl ?_
      refine g_getR (q := 70) (r := some (gR rv 0 2)) 10 2 X hK.2.2.2.2.2.1.1.1 (lt2000 (c := 0) (isR_lt0 hK.2.2.2.2.2.1.1.2)) kf_X10_16 (by decide) (by decide) rfl rfl (hK.n (by decide)) dX10_grant_67 rfl ?_
      refine g_getR (q := 73) (r := some (gR rv 0 2 + 9)) 5 8 X (lkR_8 hK hK.2.2.2.2.2.1.1.2) (lt2000 (c := 0) (isR_lt hK.2.2.2.2.2.1.1.2 (by decide))) kf_X10_198 (by decide) (by decide) rfl (shR_0 hK.2.2.2.2.2.1.1.2) (isR_n0 hK hK.2.2.2.2.2.1.1.2) dX10_grant_70 rfl ?_
      refine g_iload_n (q := 74) 1 X dX10_grant_73 rfl rfl rfl ?_
      obtain ⟨s5, h⟩ := h
      refine g_iald (q := 75) X (shR_9 hK.2.2.2.2.2.1.1.2) (isR_n hK hK.2.2.2.2.2.1.1.2 (by decide)) s5 dX10_grant_74 rfl ?_
      exact g_iret (q := 0) X hR dX10_grant_75 rfl ⟨rfl, rfl, rfl, _, rfl, h⟩
    · have h := h.2.2.2.1 c3
      refine g_tswIn (q := 76) (off := 62) X dX10_grant_14 (by omega) (by omega) (by rw [c3]; rfl) (by decide) ?_
      refine g_aload_n (q := 77) 0 X dX10_grant_76 rfl rfl rfl ?_
      refine g_getR (q := 80) (r := some (gR rv 0 2)) 10 2 X hK.2.2.2.2.2.1.1.1 (lt2000 (c := 0) (isR_lt0 hK.2.2.2.2.2.1.1.2)) kf_X10_16 (by decide) (by decide) rfl rfl (hK.n (by decide)) dX10_grant_77 rfl ?_
      refine g_getR (q := 83) (r := some (gR rv 0 2 + 10)) 5 9 X (lkR_9 hK hK.2.2.2.2.2.1.1.2) (lt2000 (c := 0) (isR_lt hK.2.2.2.2.2.1.1.2 (by decide))) kf_X10_194 (by decide) (by decide) rfl (shR_0 hK.2.2.2.2.2.1.1.2) (isR_n0 hK hK.2.2.2.2.2.1.1.2) dX10_grant_80 rfl ?_
      refine g_iload_n (q := 84) 1 X dX10_grant_83 rfl rfl rfl ?_
      obtain ⟨s6, h⟩ := h
      refine g_iald (q := 85) X (shR_10 hK.2.2.2.2.2.1.1.2) (isR_n hK hK.2.2.2.2.2.1.1.2 (by decide)) s6 dX10_grant_84 rfl ?_
      exact g_iret (q := 0) X hR dX10_grant_85 rfl ⟨rfl, rfl, rfl, _, rfl, h⟩
    · have h := h.2.2.2.2.1 c3
      refine g_tswIn (q := 86) (off := 72) X dX10_grant_14 (by omega) (by omega) (by rw [c3]; rfl) (by decide) ?_
      refine g_aload_n (q := 87) 0 X dX10_grant_86 rfl rfl rfl ?_
      refine g_getR (q := 90) (r := some (gR rv 0 2)) 10 2 X hK.2.2.2.2.2.1.1.1 (lt2000 (c := 0) (isR_lt0 hK.2.2.2.2.2.1.1.2)) kf_X10_16 (by decide) (by decide) rfl rfl (hK.n (by decide)) dX10_grant_87 rfl ?_
      refine g_getR (q := 93) (r := some (gR rv 0 2 + 11)) 5 10 X (lkR_10 hK hK.2.2.2.2.2.1.1.2) (lt2000 (c := 0) (isR_lt hK.2.2.2.2.2.1.1.2 (by decide))) kf_X10_201 (by decide) (by decide) rfl (shR_0 hK.2.2.2.2.2.1.1.2) (isR_n0 hK hK.2.2.2.2.2.1.1.2) dX10_grant_90 rfl ?_
      refine g_iload_n (q := 94) 1 X dX10_grant_93 rfl rfl rfl ?_
      obtain ⟨s7, h⟩ := h
      refine g_iald (q := 95) X (shR_11 hK.2.2.2.2.2.1.1.2) (isR_n hK hK.2.2.2.2.2.1.1.2 (by decide)) s7 dX10_grant_94 rfl ?_
      exact g_iret (q := 0) X hR dX10_grant_95 rfl ⟨rfl, rfl, rfl, _, rfl, h⟩
    · have h := h.2.2.2.2.2.1 c3
      refine g_tswIn (q := 96) (off := 82) X dX10_grant_14 (by omega) (by omega) (by rw [c3]; rfl) (by decide) ?_
      refine g_aload_n (q := 97) 0 X dX10_grant_96 rfl rfl rfl ?_
      refine g_getR (q := 100) (r := some (gR rv 0 2)) 10 2 X hK.2.2.2.2.2.1.1.1 (lt2000 (c := 0) (isR_lt0 hK.2.2.2.2.2.1.1.2)) kf_X10_16 (by decide) (by decide) rfl rfl (hK.n (by decide)) dX10_grant_97 rfl ?_
      refine g_getR (q := 103) (r := some (gR rv 0 2 + 12)) 5 11 X (lkR_11 hK hK.2.2.2.2.2.1.1.2) (lt2000 (c := 0) (isR_lt hK.2.2.2.2.2.1.1.2 (by decide))) kf_X10_204 (by decide) (by decide) rfl (shR_0 hK.2.2.2.2.2.1.1.2) (isR_n0 hK hK.2.2.2.2.2.1.1.2) dX10_grant_100 rfl ?_
      refine g_iload_n (q := 104) 1 X dX10_grant_103 rfl rfl rfl ?_
      obtain ⟨s8, h⟩ := h
      refine g_iald (q := 105) X (shR_12 hK.2.2.2.2.2.1.1.2) (isR_n hK hK.2.2.2.2.2.1.1.2 (by decide)) s8 dX10_grant_104 rfl ?_
      exact g_iret (q := 0) X hR dX10_grant_105 rfl ⟨rfl, rfl, rfl, _, rfl, h⟩
    · have h := h.2.2.2.2.2.2.1 c3
      refine g_tswIn (q := 106) (off := 92) X dX10_grant_14 (by omega) (by omega) (by rw [c3]; rfl) (by decide) ?_
      refine g_aload_n (q := 107) 0 X dX10_grant_106 rfl rfl rfl ?_
      refine g_getR (q := 110) (r := some (gR rv 0 2)) 10 2 X hK.2.2.2.2.2.1.1.1 (lt2000 (c := 0) (isR_lt0 hK.2.2.2.2.2.1.1.2)) kf_X10_16 (by decide) (by decide) rfl rfl (hK.n (by decide)) dX10_grant_107 rfl ?_
      refine g_getR (q := 113) (r := some (gR rv 0 2 + 13)) 5 12 X (lkR_12 hK hK.2.2.2.2.2.1.1.2) (lt2000 (c := 0) (isR_lt hK.2.2.2.2.2.1.1.2 (by decide))) kf_X10_207 (by decide) (by decide) rfl (shR_0 hK.2.2.2.2.2.1.1.2) (isR_n0 hK hK.2.2.2.2.2.1.1.2) dX10_grant_110 rfl ?_
      refine g_iload_n (q := 114) 1 X dX10_grant_113 rfl rfl rfl ?_
      obtain ⟨s9, h⟩ := h
      refine g_iald (q := 115) X (shR_13 hK.2.2.2.2.2.1.1.2) (isR_n hK hK.2.2.2.2.2.1.1.2 (by decide)) s9 dX10_grant_114 rfl ?_
      exact g_iret (q := 0) X hR dX10_grant_115 rfl ⟨rfl, rfl, rfl, _, rfl, h⟩
    · have h := h.2.2.2.2.2.2.2 c3
      refine g_tswIn (q := 116) (off := 102) X dX10_grant_14 (by omega) (by omega) (by rw [c3]; rfl) (by decide) ?_
      refine g_aload_n (q := 117) 0 X dX10_grant_116 rfl rfl rfl ?_
      refine g_getR (q := 120) (r := some (gR rv 0 2)) 10 2 X hK.2.2.2.2.2.1.1.1 (lt2000 (c := 0) (isR_lt0 hK.2.2.2.2.2.1.1.2)) kf_X10_16 (by decide) (by decide) rfl rfl (hK.n (by decide)) dX10_grant_117 rfl ?_
      refine g_iload_n (q := 121) 1 X dX10_grant_120 rfl rfl rfl ?_
      refine g_cv (q := 124) [aI a1] 5 X (ce_X5_renewalsOf hK hK.2.2.2.2.2.1.1.2 h) kV_X10_210 rfl (by decide) (shR_0 hK.2.2.2.2.2.1.1.2) (isR_n0 hK hK.2.2.2.2.2.1.1.2) rfl rfl (Nat.le_of_ble_eq_true rfl) (by decide) dX10_grant_121 rfl (fun r n_ iv_ rv_ hf => ?_)
      obtain ⟨en_, ei_, er_, r10, rfl, h⟩ := hf; subst n_; subst iv_; subst rv_
      exact g_iret (q := 0) X hR dX10_grant_124 rfl ⟨rfl, rfl, rfl, _, rfl, h⟩
  · have h := h.2 c2
    refine g_iconst (q := 12) (-1) X dX10_grant_11 rfl rfl ic_m1 ?_
    exact g_iret (q := 0) X hR dX10_grant_12 rfl ⟨rfl, rfl, rfl, _, rfl, h⟩
def wp_X10_cart (a1 : Int) (a2 : Int) (iv : IV) (rv : RV) (K : Int → Prop) : Prop :=
  wp_X5_has (gR rv 0 2) 11 a1 iv rv (fun r1 => ((r1 = 0) → (K (-1))) ∧ ((¬ (r1 = 0)) → (((a2 < 0) → (K (-1))) ∧ ((¬ (a2 < 0)) → (((7 ≤ a2) → (K (-1))) ∧ ((¬ (7 ≤ a2)) → (wp_X5_ofCart (gR rv 0 2) a1 a2 iv rv (fun r5 => K r5))))))))
set_option maxRecDepth 10000 in
theorem ce_X10_cart {n : Nat} {iv : IV} {rv : RV} {K : Int → Prop} {a1 : Int} {a2 : Int} (hK : Lk n rv)  (h : wp_X10_cart a1 a2 iv rv K) : Call 1 0 0 yX10_cart cX10_cart 3 (some .int) [aR (some 0), aI a1, aI a2] n iv rv (fI0 n iv rv K) := by
  refine Call.by (L := [aR (some 0), aI a1, aI a2]) (by decide) rfl ⟨trivial, trivial, trivial, trivial⟩ rfl (Nat.le_of_ble_eq_true rfl) (fun Γ X hR => ?_)
  unfold wp_X10_cart at h
  refine g_aload_n (q := 1) 0 X dX10_cart_0 rfl rfl rfl ?_
  refine g_getR (q := 4) (r := some (gR rv 0 2)) 10 2 X hK.2.2.2.2.2.1.1.1 (lt2000 (c := 0) (isR_lt0 hK.2.2.2.2.2.1.1.2)) kf_X10_16 (by decide) (by decide) rfl rfl (hK.n (by decide)) dX10_cart_1 rfl ?_
  refine g_bipush (q := 6) 11 X dX10_cart_4 rfl bc_11 ic_11 ?_
  refine g_iload_n (q := 7) 1 X dX10_cart_6 rfl rfl rfl ?_
  refine g_cv (q := 10) [aI 11, aI a1] 5 X (ce_X5_has hK hK.2.2.2.2.2.1.1.2 h) kV_X10_96 rfl (by decide) (shR_0 hK.2.2.2.2.2.1.1.2) (isR_n0 hK hK.2.2.2.2.2.1.1.2) rfl rfl (Nat.le_of_ble_eq_true rfl) (by decide) dX10_cart_7 rfl (fun r n_ iv_ rv_ hf => ?_)
  obtain ⟨en_, ei_, er_, r1, rfl, br1, h⟩ := hf; subst n_; subst iv_; subst rv_
  refine g_if_eq (q := 13) 35 X dX10_cart_10 (by decide) rfl (fun c2 => ?_) (fun c2 => ?_)
  · have h := h.1 c2
    refine g_iconst (q := 36) (-1) X dX10_cart_35 rfl rfl ic_m1 ?_
    exact g_iret (q := 0) X hR dX10_cart_36 rfl ⟨rfl, rfl, rfl, _, rfl, h⟩
  · have h := h.2 c2
    refine g_iload_n (q := 14) 2 X dX10_cart_13 rfl rfl rfl ?_
    refine g_if_lt (q := 17) 35 X dX10_cart_14 (by decide) rfl (fun c3 => ?_) (fun c3 => ?_)
    · have h := h.1 c3
      refine g_iconst (q := 36) (-1) X dX10_cart_35 rfl rfl ic_m1 ?_
      exact g_iret (q := 0) X hR dX10_cart_36 rfl ⟨rfl, rfl, rfl, _, rfl, h⟩
    · have h := h.2 c3
      refine g_iload_n (q := 18) 2 X dX10_cart_17 rfl rfl rfl ?_
      refine g_bipush (q := 20) 7 X dX10_cart_18 rfl bc_7 ic_7 ?_
      refine g_icmp_ge (q := 23) 35 X dX10_cart_20 (by decide) rfl (fun c4 => ?_) (fun c4 => ?_)
      · have h := h.1 c4
        refine g_iconst (q := 36) (-1) X dX10_cart_35 rfl rfl ic_m1 ?_
        exact g_iret (q := 0) X hR dX10_cart_36 rfl ⟨rfl, rfl, rfl, _, rfl, h⟩
      · have h := h.2 c4
        refine g_aload_n (q := 24) 0 X dX10_cart_23 rfl rfl rfl ?_
        refine g_getR (q := 27) (r := some (gR rv 0 2)) 10 2 X hK.2.2.2.2.2.1.1.1 (lt2000 (c := 0) (isR_lt0 hK.2.2.2.2.2.1.1.2)) kf_X10_16 (by decide) (by decide) rfl rfl (hK.n (by decide)) dX10_cart_24 rfl ?_
        refine g_iload_n (q := 28) 1 X dX10_cart_27 rfl rfl rfl ?_
        refine g_iload_n (q := 29) 2 X dX10_cart_28 rfl rfl rfl ?_
        refine g_cv (q := 32) [aI a1, aI a2] 5 X (ce_X5_ofCart hK hK.2.2.2.2.2.1.1.2 h) kV_X10_151 rfl (by decide) (shR_0 hK.2.2.2.2.2.1.1.2) (isR_n0 hK hK.2.2.2.2.2.1.1.2) rfl rfl (Nat.le_of_ble_eq_true rfl) (by decide) dX10_cart_29 rfl (fun r n_ iv_ rv_ hf => ?_)
        obtain ⟨en_, ei_, er_, r5, rfl, h⟩ := hf; subst n_; subst iv_; subst rv_
        refine g_goto (q := 36) X dX10_cart_32 (by decide) ?_
        exact g_iret (q := 0) X hR dX10_cart_36 rfl ⟨rfl, rfl, rfl, _, rfl, h⟩
def wp_X10_size (a1 : Int) (iv : IV) (rv : RV) (K : Int → Prop) : Prop :=
  ((a1 ≠ 11) → (((a1 < 0) → (K (-1))) ∧ ((¬ (a1 < 0)) → (((11 ≤ a1) → (K (-1))) ∧ ((¬ (11 ≤ a1)) → ((0 ≤ a1 ∧ a1 < 11) ∧ (0 ≤ cntL.getD a1.toNat 0 ∧ cntL.getD a1.toNat 0 < 12) ∧ K (iv (gR rv 0 2 + 1) (cntL.getD a1.toNat 0).toNat))))))) ∧ ((a1 = 11) → (K (iv 0 1)))
set_option maxRecDepth 10000 in
theorem ce_X10_size {n : Nat} {iv : IV} {rv : RV} {K : Int → Prop} {a1 : Int} (hK : Lk n rv)  (h : wp_X10_size a1 iv rv K) : Call 0 0 0 yX10_size cX10_size 2 (some .int) [aR (some 0), aI a1] n iv rv (fI0 n iv rv K) := by
  refine Call.by (L := [aR (some 0), aI a1]) (by decide) rfl ⟨trivial, trivial, trivial⟩ rfl (Nat.le_of_ble_eq_true rfl) (fun Γ X hR => ?_)
  unfold wp_X10_size at h
  refine g_iload_n (q := 1) 1 X dX10_size_0 rfl rfl rfl ?_
  refine g_gets_cnt (q := 4) X ks_X10_226 dX10_size_1 rfl ?_
  refine g_alen_cnt (q := 5) X dX10_size_4 rfl ?_
  refine g_icmp_ne (q := 8) 13 X dX10_size_5 (by decide) rfl (fun c1 => ?_) (fun c1 => ?_)
  · have h := h.1 c1
    refine g_iload_n (q := 14) 1 X dX10_size_13 rfl rfl rfl ?_
    refine g_if_lt (q := 17) 41 X dX10_size_14 (by decide) rfl (fun c2 => ?_) (fun c2 => ?_)
    · have h := h.1 c2
      refine g_iconst (q := 42) (-1) X dX10_size_41 rfl rfl ic_m1 ?_
      exact g_iret (q := 0) X hR dX10_size_42 rfl ⟨rfl, rfl, rfl, _, rfl, h⟩
    · have h := h.2 c2
      refine g_iload_n (q := 18) 1 X dX10_size_17 rfl rfl rfl ?_
      refine g_gets_cnt (q := 21) X ks_X10_226 dX10_size_18 rfl ?_
      refine g_alen_cnt (q := 22) X dX10_size_21 rfl ?_
      refine g_icmp_ge (q := 25) 41 X dX10_size_22 (by decide) rfl (fun c3 => ?_) (fun c3 => ?_)
      · have h := h.1 c3
        refine g_iconst (q := 42) (-1) X dX10_size_41 rfl rfl ic_m1 ?_
        exact g_iret (q := 0) X hR dX10_size_42 rfl ⟨rfl, rfl, rfl, _, rfl, h⟩
      · have h := h.2 c3
        refine g_aload_n (q := 26) 0 X dX10_size_25 rfl rfl rfl ?_
        refine g_getR (q := 29) (r := some (gR rv 0 2)) 10 2 X hK.2.2.2.2.2.1.1.1 (lt2000 (c := 0) (isR_lt0 hK.2.2.2.2.2.1.1.2)) kf_X10_16 (by decide) (by decide) rfl rfl (hK.n (by decide)) dX10_size_26 rfl ?_
        refine g_getR (q := 32) (r := some (gR rv 0 2 + 1)) 5 0 X (lkR_0 hK hK.2.2.2.2.2.1.1.2) (lt2000 (c := 0) (isR_lt hK.2.2.2.2.2.1.1.2 (by decide))) kf_X10_70 (by decide) (by decide) rfl (shR_0 hK.2.2.2.2.2.1.1.2) (isR_n0 hK hK.2.2.2.2.2.1.1.2) dX10_size_29 rfl ?_
        refine g_gets_cnt (q := 35) X ks_X10_226 dX10_size_32 rfl ?_
        refine g_iload_n (q := 36) 1 X dX10_size_35 rfl rfl rfl ?_
        obtain ⟨s4, h⟩ := h
        refine g_iald_cnt (q := 37) X s4 dX10_size_36 rfl ?_
        obtain ⟨s5, h⟩ := h
        refine g_iald (q := 38) X (shR_1 hK.2.2.2.2.2.1.1.2) (isR_n hK hK.2.2.2.2.2.1.1.2 (by decide)) s5 dX10_size_37 rfl ?_
        refine g_goto (q := 42) X dX10_size_38 (by decide) ?_
        exact g_iret (q := 0) X hR dX10_size_42 rfl ⟨rfl, rfl, rfl, _, rfl, h⟩
  · have h := h.2 c1
    refine g_aload_n (q := 9) 0 X dX10_size_8 rfl rfl rfl ?_
    refine g_getI (q := 12) 10 1 X kf_X10_48 (by decide) (by decide) rfl rfl (hK.n (by decide)) dX10_size_9 rfl ?_
    exact g_iret (q := 0) X hR dX10_size_12 rfl ⟨rfl, rfl, rfl, _, rfl, h⟩
def wp_X10_trouble (iv : IV) (rv : RV) (K : Int → Prop) : Prop :=
  K (iv 0 7)
set_option maxRecDepth 10000 in
theorem ce_X10_trouble {n : Nat} {iv : IV} {rv : RV} {K : Int → Prop} (hK : Lk n rv)  (h : wp_X10_trouble  iv rv K) : Call 0 0 0 yX10_trouble cX10_trouble 1 (some .int) [aR (some 0)] n iv rv (fI0 n iv rv K) := by
  refine Call.by (L := [aR (some 0)]) (by decide) rfl ⟨trivial, trivial⟩ rfl (Nat.le_of_ble_eq_true rfl) (fun Γ X hR => ?_)
  unfold wp_X10_trouble at h
  refine g_aload_n (q := 1) 0 X dX10_trouble_0 rfl rfl rfl ?_
  refine g_getI (q := 4) 10 7 X kf_X10_67 (by decide) (by decide) rfl rfl (hK.n (by decide)) dX10_trouble_1 rfl ?_
  exact g_iret (q := 0) X hR dX10_trouble_4 rfl ⟨rfl, rfl, rfl, _, rfl, h⟩
