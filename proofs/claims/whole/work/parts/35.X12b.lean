def wp_X12_readLaw (iv : IV) (rv : RV) (K : IV → Prop) : Prop :=
  (hMm rv 66 4) ∧ wp_X12_begins (iv (gR rv 66 4) 10) 3 iv rv (fun iv1 => wp_X12_readFresh 5 (iv1 (gR rv 66 4) 10) iv1 rv (fun iv2 => wp_X12_readEither 31 18 iv2 rv (fun r3 iv4 => wp_X12_readEither 34 16 iv4 rv (fun r5 iv6 => wp_X12_readEither 0 27 iv6 rv (fun r7 iv8 => wp_X12_readEither 38 10 iv8 rv (fun r9 iv10 => (((iv10 66 9) ≠ 5) → ((0 ≤ iv10 (gR rv 66 4) 10 ∧ iv10 (gR rv 66 4) 10 < 3) ∧ ∀ iv13, iv13 = w2 iv10 (gR rv 66 4 + 16) (iv10 (gR rv 66 4) 10).toNat r3 → (0 ≤ iv13 (gR rv 66 4) 10 ∧ iv13 (gR rv 66 4) 10 < 3) ∧ ∀ iv15, iv15 = w2 iv13 (gR rv 66 4 + 17) (iv13 (gR rv 66 4) 10).toNat r5 → (0 ≤ iv15 (gR rv 66 4) 10 ∧ iv15 (gR rv 66 4) 10 < 3) ∧ ∀ iv17, iv17 = w2 iv15 (gR rv 66 4 + 18) (iv15 (gR rv 66 4) 10).toNat r7 → (0 ≤ iv17 (gR rv 66 4) 10 ∧ iv17 (gR rv 66 4) 10 < 3) ∧ ∀ iv19, iv19 = w2 iv17 (gR rv 66 4 + 19) (iv17 (gR rv 66 4) 10).toNat r9 → ∀ iv20, iv20 = w2 iv19 (gR rv 66 4) 10 (w32 ((iv19 (gR rv 66 4) 10) + 1)) → K iv20)) ∧ (((iv10 66 9) = 5) → (K iv10))))))))
set_option maxRecDepth 10000 in
theorem ce_X12_readLaw {n : Nat} {iv : IV} {rv : RV} {K : IV → Prop} (hK : Lk n rv)  (h : wp_X12_readLaw  iv rv K) : Call 8 0 0 yX12_readLaw cX12_readLaw 5 none [aR (some 66)] n iv rv (fV1 n rv K) := by
  refine Call.by (L := [aR (some 66), aJ, aJ, aJ, aJ]) (by decide) rfl ⟨trivial, trivial⟩ rfl (Nat.le_of_ble_eq_true rfl) (fun Γ X hR => ?_)
  unfold wp_X12_readLaw at h
  refine g_aload_n (q := 1) 0 X dX12_readLaw_0 rfl rfl rfl ?_
  refine g_aload_n (q := 2) 0 X dX12_readLaw_1 rfl rfl rfl ?_
  obtain ⟨hM_4, h⟩ := h
  refine g_getR (q := 5) (r := some (gR rv 66 4)) 12 4 X hM_4.1 (lt2000 (c := 0) (isM_lt0 hM_4.2)) kf_X12_167 (by decide) (by decide) rfl rfl (hK.n (by decide)) dX12_readLaw_2 rfl ?_
  refine g_getI (q := 8) 11 10 X kf_X12_199 (by decide) (by decide) rfl (shM_0 hM_4.2) (isM_n0 (hK.2.2.2.2.2.2.2 _ hM_4.1 hM_4.2)) dX12_readLaw_5 rfl ?_
  refine g_iconst (q := 9) 3 X dX12_readLaw_8 rfl rfl ic_3 ?_
  refine g_cv (q := 12) [aI (iv (gR rv 66 4) 10), aI 3] 12 X (ce_X12_begins hK  h) kV_X12_238 rfl (by decide) rfl (hK.n (by decide)) rfl rfl (Nat.le_of_ble_eq_true rfl) (by decide) dX12_readLaw_9 rfl (fun r n_ iv_ rv_ hf => ?_)
  obtain ⟨en_, er_, rfl, h⟩ := hf; subst n_; subst rv_
  generalize iv_ = iv1 at h ⊢
  refine g_aload_n (q := 13) 0 X dX12_readLaw_12 rfl rfl rfl ?_
  refine g_iconst (q := 14) 5 X dX12_readLaw_13 rfl rfl ic_5 ?_
  refine g_aload_n (q := 15) 0 X dX12_readLaw_14 rfl rfl rfl ?_
  refine g_getR (q := 18) (r := some (gR rv 66 4)) 12 4 X hM_4.1 (lt2000 (c := 0) (isM_lt0 hM_4.2)) kf_X12_167 (by decide) (by decide) rfl rfl (hK.n (by decide)) dX12_readLaw_15 rfl ?_
  refine g_getI (q := 21) 11 10 X kf_X12_199 (by decide) (by decide) rfl (shM_0 hM_4.2) (isM_n0 (hK.2.2.2.2.2.2.2 _ hM_4.1 hM_4.2)) dX12_readLaw_18 rfl ?_
  refine g_cv (q := 24) [aI 5, aI (iv1 (gR rv 66 4) 10)] 12 X (ce_X12_readFresh hK  h) kV_X12_242 rfl (by decide) rfl (hK.n (by decide)) rfl rfl (Nat.le_of_ble_eq_true rfl) (by decide) dX12_readLaw_21 rfl (fun r n_ iv_ rv_ hf => ?_)
  obtain ⟨en_, er_, rfl, h⟩ := hf; subst n_; subst rv_
  generalize iv_ = iv2 at h ⊢
  refine g_aload_n (q := 25) 0 X dX12_readLaw_24 rfl rfl rfl ?_
  refine g_ldcwS (q := 28) 31 X st_X12_374 (by decide) dX12_readLaw_25 rfl ?_
  refine g_ldcwS (q := 31) 18 X st_X12_376 (by decide) dX12_readLaw_28 rfl ?_
  refine g_cv (q := 34) [aR (some (1000 + 31)), aR (some (1000 + 18))] 12 X (ce_X12_readEither hK (by decide) (by decide) h) kV_X12_378 rfl (by decide) rfl (hK.n (by decide)) rfl rfl (Nat.le_of_ble_eq_true rfl) (by decide) dX12_readLaw_31 rfl (fun r n_ iv_ rv_ hf => ?_)
  obtain ⟨en_, er_, r3, rfl, br3, h⟩ := hf; subst n_; subst rv_
  generalize iv_ = iv4 at h ⊢
  refine g_istore_n (q := 35) 1 (L' := [aR (some 66), aI r3, aJ, aJ, aJ]) X dX12_readLaw_34 rfl rfl (by decide) rfl rfl ?_
  refine g_aload_n (q := 36) 0 X dX12_readLaw_35 rfl rfl rfl ?_
  refine g_ldcwS (q := 39) 34 X st_X12_339 (by decide) dX12_readLaw_36 rfl ?_
  refine g_ldcwS (q := 42) 16 X st_X12_382 (by decide) dX12_readLaw_39 rfl ?_
  refine g_cv (q := 45) [aR (some (1000 + 34)), aR (some (1000 + 16))] 12 X (ce_X12_readEither hK (by decide) (by decide) h) kV_X12_378 rfl (by decide) rfl (hK.n (by decide)) rfl rfl (Nat.le_of_ble_eq_true rfl) (by decide) dX12_readLaw_42 rfl (fun r n_ iv_ rv_ hf => ?_)
  obtain ⟨en_, er_, r5, rfl, br5, h⟩ := hf; subst n_; subst rv_
  generalize iv_ = iv6 at h ⊢
  refine g_istore_n (q := 46) 2 (L' := [aR (some 66), aI r3, aI r5, aJ, aJ]) X dX12_readLaw_45 rfl rfl (by decide) rfl rfl ?_
  refine g_aload_n (q := 47) 0 X dX12_readLaw_46 rfl rfl rfl ?_
  refine g_ldcwS (q := 50) 0 X st_X12_384 (by decide) dX12_readLaw_47 rfl ?_
  refine g_ldcwS (q := 53) 27 X st_X12_386 (by decide) dX12_readLaw_50 rfl ?_
  refine g_cv (q := 56) [aR (some (1000 + 0)), aR (some (1000 + 27))] 12 X (ce_X12_readEither hK (by decide) (by decide) h) kV_X12_378 rfl (by decide) rfl (hK.n (by decide)) rfl rfl (Nat.le_of_ble_eq_true rfl) (by decide) dX12_readLaw_53 rfl (fun r n_ iv_ rv_ hf => ?_)
  obtain ⟨en_, er_, r7, rfl, br7, h⟩ := hf; subst n_; subst rv_
  generalize iv_ = iv8 at h ⊢
  refine g_istore_n (q := 57) 3 (L' := [aR (some 66), aI r3, aI r5, aI r7, aJ]) X dX12_readLaw_56 rfl rfl (by decide) rfl rfl ?_
  refine g_aload_n (q := 58) 0 X dX12_readLaw_57 rfl rfl rfl ?_
  refine g_ldcwS (q := 61) 38 X st_X12_388 (by decide) dX12_readLaw_58 rfl ?_
  refine g_ldcwS (q := 64) 10 X st_X12_390 (by decide) dX12_readLaw_61 rfl ?_
  refine g_cv (q := 67) [aR (some (1000 + 38)), aR (some (1000 + 10))] 12 X (ce_X12_readEither hK (by decide) (by decide) h) kV_X12_378 rfl (by decide) rfl (hK.n (by decide)) rfl rfl (Nat.le_of_ble_eq_true rfl) (by decide) dX12_readLaw_64 rfl (fun r n_ iv_ rv_ hf => ?_)
  obtain ⟨en_, er_, r9, rfl, br9, h⟩ := hf; subst n_; subst rv_
  generalize iv_ = iv10 at h ⊢
  refine g_istore (q := 69) (k0 := 0) 4 (L' := [aR (some 66), aI r3, aI r5, aI r7, aI r9]) X dX12_readLaw_67 rfl (by decide) rfl rfl ?_
  refine g_aload_n (q := 70) 0 X dX12_readLaw_69 rfl rfl rfl ?_
  refine g_getI (q := 73) 12 9 X kf_X12_83 (by decide) (by decide) rfl rfl (hK.n (by decide)) dX12_readLaw_70 rfl ?_
  refine g_iconst (q := 74) 5 X dX12_readLaw_73 rfl rfl ic_5 ?_
  refine g_icmp_ne (q := 77) 78 X dX12_readLaw_74 (by decide) rfl (fun c11 => ?_) (fun c11 => ?_)
  · have h := h.1 c11
    refine g_aload_n (q := 79) 0 X dX12_readLaw_78 rfl rfl rfl ?_
    refine g_getR (q := 82) (r := some (gR rv 66 4)) 12 4 X hM_4.1 (lt2000 (c := 0) (isM_lt0 hM_4.2)) kf_X12_167 (by decide) (by decide) rfl rfl (hK.n (by decide)) dX12_readLaw_79 rfl ?_
    refine g_getR (q := 85) (r := some (gR rv 66 4 + 16)) 11 29 X (lkM_29 hK hM_4.2 (hK.2.2.2.2.2.2.2 _ hM_4.1 hM_4.2)) (lt2000 (c := 0) (isM_lt hM_4.2 (by decide))) kf_X12_392 (by decide) (by decide) rfl (shM_0 hM_4.2) (isM_n0 (hK.2.2.2.2.2.2.2 _ hM_4.1 hM_4.2)) dX12_readLaw_82 rfl ?_
    refine g_aload_n (q := 86) 0 X dX12_readLaw_85 rfl rfl rfl ?_
    refine g_getR (q := 89) (r := some (gR rv 66 4)) 12 4 X hM_4.1 (lt2000 (c := 0) (isM_lt0 hM_4.2)) kf_X12_167 (by decide) (by decide) rfl rfl (hK.n (by decide)) dX12_readLaw_86 rfl ?_
    refine g_getI (q := 92) 11 10 X kf_X12_199 (by decide) (by decide) rfl (shM_0 hM_4.2) (isM_n0 (hK.2.2.2.2.2.2.2 _ hM_4.1 hM_4.2)) dX12_readLaw_89 rfl ?_
    refine g_iload_n (q := 93) 1 X dX12_readLaw_92 rfl rfl rfl ?_
    obtain ⟨s12, h⟩ := h
    refine g_zast (q := 94) X (shM_16 hM_4.2) (isM_n (hK.2.2.2.2.2.2.2 _ hM_4.1 hM_4.2) (by decide)) s12 br3 dX12_readLaw_93 rfl ?_
    refine g_nmM (fun iv13 eiv13 => ?_)
    have h := h iv13 eiv13
    refine g_aload_n (q := 95) 0 X dX12_readLaw_94 rfl rfl rfl ?_
    refine g_getR (q := 98) (r := some (gR rv 66 4)) 12 4 X hM_4.1 (lt2000 (c := 0) (isM_lt0 hM_4.2)) kf_X12_167 (by decide) (by decide) rfl rfl (hK.n (by decide)) dX12_readLaw_95 rfl ?_
    refine g_getR (q := 101) (r := some (gR rv 66 4 + 17)) 11 30 X (lkM_30 hK hM_4.2 (hK.2.2.2.2.2.2.2 _ hM_4.1 hM_4.2)) (lt2000 (c := 0) (isM_lt hM_4.2 (by decide))) kf_X12_396 (by decide) (by decide) rfl (shM_0 hM_4.2) (isM_n0 (hK.2.2.2.2.2.2.2 _ hM_4.1 hM_4.2)) dX12_readLaw_98 rfl ?_
    refine g_aload_n (q := 102) 0 X dX12_readLaw_101 rfl rfl rfl ?_
    refine g_getR (q := 105) (r := some (gR rv 66 4)) 12 4 X hM_4.1 (lt2000 (c := 0) (isM_lt0 hM_4.2)) kf_X12_167 (by decide) (by decide) rfl rfl (hK.n (by decide)) dX12_readLaw_102 rfl ?_
    refine g_getI (q := 108) 11 10 X kf_X12_199 (by decide) (by decide) rfl (shM_0 hM_4.2) (isM_n0 (hK.2.2.2.2.2.2.2 _ hM_4.1 hM_4.2)) dX12_readLaw_105 rfl ?_
    refine g_iload_n (q := 109) 2 X dX12_readLaw_108 rfl rfl rfl ?_
    obtain ⟨s14, h⟩ := h
    refine g_zast (q := 110) X (shM_17 hM_4.2) (isM_n (hK.2.2.2.2.2.2.2 _ hM_4.1 hM_4.2) (by decide)) s14 br5 dX12_readLaw_109 rfl ?_
    refine g_nmM (fun iv15 eiv15 => ?_)
    have h := h iv15 eiv15
    refine g_aload_n (q := 111) 0 X dX12_readLaw_110 rfl rfl rfl ?_
    refine g_getR (q := 114) (r := some (gR rv 66 4)) 12 4 X hM_4.1 (lt2000 (c := 0) (isM_lt0 hM_4.2)) kf_X12_167 (by decide) (by decide) rfl rfl (hK.n (by decide)) dX12_readLaw_111 rfl ?_
    refine g_getR (q := 117) (r := some (gR rv 66 4 + 18)) 11 31 X (lkM_31 hK hM_4.2 (hK.2.2.2.2.2.2.2 _ hM_4.1 hM_4.2)) (lt2000 (c := 0) (isM_lt hM_4.2 (by decide))) kf_X12_399 (by decide) (by decide) rfl (shM_0 hM_4.2) (isM_n0 (hK.2.2.2.2.2.2.2 _ hM_4.1 hM_4.2)) dX12_readLaw_114 rfl ?_
    refine g_aload_n (q := 118) 0 X dX12_readLaw_117 rfl rfl rfl ?_
    refine g_getR (q := 121) (r := some (gR rv 66 4)) 12 4 X hM_4.1 (lt2000 (c := 0) (isM_lt0 hM_4.2)) kf_X12_167 (by decide) (by decide) rfl rfl (hK.n (by decide)) dX12_readLaw_118 rfl ?_
    refine g_getI (q := 124) 11 10 X kf_X12_199 (by decide) (by decide) rfl (shM_0 hM_4.2) (isM_n0 (hK.2.2.2.2.2.2.2 _ hM_4.1 hM_4.2)) dX12_readLaw_121 rfl ?_
    refine g_iload_n (q := 125) 3 X dX12_readLaw_124 rfl rfl rfl ?_
    obtain ⟨s16, h⟩ := h
    refine g_zast (q := 126) X (shM_18 hM_4.2) (isM_n (hK.2.2.2.2.2.2.2 _ hM_4.1 hM_4.2) (by decide)) s16 br7 dX12_readLaw_125 rfl ?_
    refine g_nmM (fun iv17 eiv17 => ?_)
    have h := h iv17 eiv17
    refine g_aload_n (q := 127) 0 X dX12_readLaw_126 rfl rfl rfl ?_
    refine g_getR (q := 130) (r := some (gR rv 66 4)) 12 4 X hM_4.1 (lt2000 (c := 0) (isM_lt0 hM_4.2)) kf_X12_167 (by decide) (by decide) rfl rfl (hK.n (by decide)) dX12_readLaw_127 rfl ?_
    refine g_getR (q := 133) (r := some (gR rv 66 4 + 19)) 11 32 X (lkM_32 hK hM_4.2 (hK.2.2.2.2.2.2.2 _ hM_4.1 hM_4.2)) (lt2000 (c := 0) (isM_lt hM_4.2 (by decide))) kf_X12_402 (by decide) (by decide) rfl (shM_0 hM_4.2) (isM_n0 (hK.2.2.2.2.2.2.2 _ hM_4.1 hM_4.2)) dX12_readLaw_130 rfl ?_
    refine g_aload_n (q := 134) 0 X dX12_readLaw_133 rfl rfl rfl ?_
    refine g_getR (q := 137) (r := some (gR rv 66 4)) 12 4 X hM_4.1 (lt2000 (c := 0) (isM_lt0 hM_4.2)) kf_X12_167 (by decide) (by decide) rfl rfl (hK.n (by decide)) dX12_readLaw_134 rfl ?_
    refine g_getI (q := 140) 11 10 X kf_X12_199 (by decide) (by decide) rfl (shM_0 hM_4.2) (isM_n0 (hK.2.2.2.2.2.2.2 _ hM_4.1 hM_4.2)) dX12_readLaw_137 rfl ?_
    refine g_iload (q := 142) 4 X dX12_readLaw_140 rfl rfl ?_
    obtain ⟨s18, h⟩ := h
    refine g_zast (q := 143) X (shM_19 hM_4.2) (isM_n (hK.2.2.2.2.2.2.2 _ hM_4.1 hM_4.2) (by decide)) s18 br9 dX12_readLaw_142 rfl ?_
    refine g_nmM (fun iv19 eiv19 => ?_)
    have h := h iv19 eiv19
    refine g_aload_n (q := 144) 0 X dX12_readLaw_143 rfl rfl rfl ?_
    refine g_getR (q := 147) (r := some (gR rv 66 4)) 12 4 X hM_4.1 (lt2000 (c := 0) (isM_lt0 hM_4.2)) kf_X12_167 (by decide) (by decide) rfl rfl (hK.n (by decide)) dX12_readLaw_144 rfl ?_
    refine g_dup (q := 148) X dX12_readLaw_147 rfl rfl ?_
    refine g_getI (q := 151) 11 10 X kf_X12_199 (by decide) (by decide) rfl (shM_0 hM_4.2) (isM_n0 (hK.2.2.2.2.2.2.2 _ hM_4.1 hM_4.2)) dX12_readLaw_148 rfl ?_
    refine g_iconst (q := 152) 1 X dX12_readLaw_151 rfl rfl ic_1 ?_
    refine g_iadd (q := 153) X dX12_readLaw_152 rfl ?_
    refine g_putI (q := 156) 11 10 X (Or.inl rfl) rfl kf_X12_199 (by decide) (by decide) (shM_0 hM_4.2) (isM_n0 (hK.2.2.2.2.2.2.2 _ hM_4.1 hM_4.2)) dX12_readLaw_153 rfl ?_
    refine g_nmM (fun iv20 eiv20 => ?_)
    have h := h iv20 eiv20
    exact g_vret (q := 0) X hR dX12_readLaw_156 rfl ⟨rfl, rfl, rfl, h⟩
  · have h := h.2 c11
    exact g_vret (q := 0) X hR dX12_readLaw_77 rfl ⟨rfl, rfl, rfl, h⟩
def bd_X12_readLoss_72 (t0 t1 : Int) (iv : IV) (rv : RV) (K : IV → Prop) : Prop :=
  (hMm rv 66 4) ∧ (0 ≤ t1 ∧ t1 < 16) ∧ ∀ iv2, iv2 = w2 iv (gR rv 66 4 + 12) t1.toNat t0 → ∀ iv3, iv3 = w2 iv2 (gR rv 66 4) 9 (w32 ((iv2 (gR rv 66 4) 9) + 1)) → K iv3
set_option maxRecDepth 10000 in
theorem cb_X12_readLoss_72 {Γ : GX} {n : Nat} {iv : IV} {rv : RV} {K : IV → Prop} {t0 t1 : Int} (X : Cx Γ RX12 cX12_readLoss 3 8) (hR : Rt Γ none 0 0 (fV1 n rv K)) (hK : Lk n rv)  (h : bd_X12_readLoss_72 t0 t1 iv rv K) : G Γ 3 72 [aR (some 66), aJ, aJ] [aI t0, aI t1, aR (some (gR rv 66 4 + 12))] n iv rv 0 0 := by
  unfold bd_X12_readLoss_72 at h
  obtain ⟨hM_4, h⟩ := h
  obtain ⟨s1, h⟩ := h
  refine g_iast (q := 73) X (shM_12 hM_4.2) (isM_n (hK.2.2.2.2.2.2.2 _ hM_4.1 hM_4.2) (by decide)) s1 dX12_readLoss_72 rfl ?_
  refine g_nmM (fun iv2 eiv2 => ?_)
  have h := h iv2 eiv2
  refine g_aload_n (q := 74) 0 X dX12_readLoss_73 rfl rfl rfl ?_
  refine g_getR (q := 77) (r := some (gR rv 66 4)) 12 4 X hM_4.1 (lt2000 (c := 0) (isM_lt0 hM_4.2)) kf_X12_167 (by decide) (by decide) rfl rfl (hK.n (by decide)) dX12_readLoss_74 rfl ?_
  refine g_dup (q := 78) X dX12_readLoss_77 rfl rfl ?_
  refine g_getI (q := 81) 11 9 X kf_X12_368 (by decide) (by decide) rfl (shM_0 hM_4.2) (isM_n0 (hK.2.2.2.2.2.2.2 _ hM_4.1 hM_4.2)) dX12_readLoss_78 rfl ?_
  refine g_iconst (q := 82) 1 X dX12_readLoss_81 rfl rfl ic_1 ?_
  refine g_iadd (q := 83) X dX12_readLoss_82 rfl ?_
  refine g_putI (q := 86) 11 9 X (Or.inl rfl) rfl kf_X12_368 (by decide) (by decide) (shM_0 hM_4.2) (isM_n0 (hK.2.2.2.2.2.2.2 _ hM_4.1 hM_4.2)) dX12_readLoss_83 rfl ?_
  refine g_nmM (fun iv3 eiv3 => ?_)
  have h := h iv3 eiv3
  exact g_vret (q := 0) X hR dX12_readLoss_86 rfl ⟨rfl, rfl, rfl, h⟩
def bd_X12_readLoss_35 (l1 : Int) (iv : IV) (rv : RV) (K : IV → Prop) : Prop :=
  wp_X12_goesOn iv rv (fun iv1 => wp_X12_eats 9 iv1 rv (fun r2 iv3 => (((iv3 66 9) ≠ 5) → ((hMm rv 66 4) ∧ ((r2 = 0) → (bd_X12_readLoss_72 1 l1 iv3 rv K)) ∧ ((¬ (r2 = 0)) → (bd_X12_readLoss_72 2 l1 iv3 rv K)))) ∧ (((iv3 66 9) = 5) → (K iv3))))
set_option maxRecDepth 10000 in
theorem cb_X12_readLoss_35 {Γ : GX} {n : Nat} {iv : IV} {rv : RV} {K : IV → Prop} {l1 : Int} (X : Cx Γ RX12 cX12_readLoss 3 8) (hR : Rt Γ none 0 0 (fV1 n rv K)) (hK : Lk n rv)  (h : bd_X12_readLoss_35 l1 iv rv K) : G Γ 3 35 [aR (some 66), aI l1, aJ] [] n iv rv 0 0 := by
  unfold bd_X12_readLoss_35 at h
  refine g_aload_n (q := 36) 0 X dX12_readLoss_35 rfl rfl rfl ?_
  refine g_cv (q := 39) [] 12 X (ce_X12_goesOn hK  h) kV_X12_123 rfl (by decide) rfl (hK.n (by decide)) rfl rfl (Nat.le_of_ble_eq_true rfl) (by decide) dX12_readLoss_36 rfl (fun r n_ iv_ rv_ hf => ?_)
  obtain ⟨en_, er_, rfl, h⟩ := hf; subst n_; subst rv_
  generalize iv_ = iv1 at h ⊢
  refine g_aload_n (q := 40) 0 X dX12_readLoss_39 rfl rfl rfl ?_
  refine g_ldcS (q := 42) 9 X st_X12_161 (by decide) dX12_readLoss_40 rfl ?_
  refine g_cv (q := 45) [aR (some (1000 + 9))] 12 X (ce_X12_eats hK (by decide) h) kV_X12_302 rfl (by decide) rfl (hK.n (by decide)) rfl rfl (Nat.le_of_ble_eq_true rfl) (by decide) dX12_readLoss_42 rfl (fun r n_ iv_ rv_ hf => ?_)
  obtain ⟨en_, er_, r2, rfl, br2, h⟩ := hf; subst n_; subst rv_
  generalize iv_ = iv3 at h ⊢
  refine g_istore_n (q := 46) 2 (L' := [aR (some 66), aI l1, aI r2]) X dX12_readLoss_45 rfl rfl (by decide) rfl rfl ?_
  refine g_aload_n (q := 47) 0 X dX12_readLoss_46 rfl rfl rfl ?_
  refine g_getI (q := 50) 12 9 X kf_X12_83 (by decide) (by decide) rfl rfl (hK.n (by decide)) dX12_readLoss_47 rfl ?_
  refine g_iconst (q := 51) 5 X dX12_readLoss_50 rfl rfl ic_5 ?_
  refine g_icmp_ne (q := 54) 55 X dX12_readLoss_51 (by decide) rfl (fun c4 => ?_) (fun c4 => ?_)
  · have h := h.1 c4
    refine g_aload_n (q := 56) 0 X dX12_readLoss_55 rfl rfl rfl ?_
    obtain ⟨hM_4, h⟩ := h
    refine g_getR (q := 59) (r := some (gR rv 66 4)) 12 4 X hM_4.1 (lt2000 (c := 0) (isM_lt0 hM_4.2)) kf_X12_167 (by decide) (by decide) rfl rfl (hK.n (by decide)) dX12_readLoss_56 rfl ?_
    refine g_getR (q := 62) (r := some (gR rv 66 4 + 12)) 11 25 X (lkM_25 hK hM_4.2 (hK.2.2.2.2.2.2.2 _ hM_4.1 hM_4.2)) (lt2000 (c := 0) (isM_lt hM_4.2 (by decide))) kf_X12_371 (by decide) (by decide) rfl (shM_0 hM_4.2) (isM_n0 (hK.2.2.2.2.2.2.2 _ hM_4.1 hM_4.2)) dX12_readLoss_59 rfl ?_
    refine g_iload_n (q := 63) 1 X dX12_readLoss_62 rfl rfl rfl ?_
    refine g_iload_n (q := 64) 2 X dX12_readLoss_63 rfl rfl rfl ?_
    refine g_if_eq (q := 67) 71 X dX12_readLoss_64 (by decide) rfl (fun c5 => ?_) (fun c5 => ?_)
    · have h := h.1 c5
      refine g_iconst (q := 72) 1 X dX12_readLoss_71 rfl rfl ic_1 ?_
      refine g_sub (L' := [aR (some 66), aJ, aJ]) ⟨Or.inr rfl, Or.inl rfl, Or.inl rfl, trivial⟩ ?_
      exact cb_X12_readLoss_72 X hR hK   h
    · have h := h.2 c5
      refine g_iconst (q := 68) 2 X dX12_readLoss_67 rfl rfl ic_2 ?_
      refine g_goto (q := 72) X dX12_readLoss_68 (by decide) ?_
      refine g_sub (L' := [aR (some 66), aJ, aJ]) ⟨Or.inr rfl, Or.inl rfl, Or.inl rfl, trivial⟩ ?_
      exact cb_X12_readLoss_72 X hR hK   h
  · have h := h.2 c4
    exact g_vret (q := 0) X hR dX12_readLoss_54 rfl ⟨rfl, rfl, rfl, h⟩
def wp_X12_readLoss (iv : IV) (rv : RV) (K : IV → Prop) : Prop :=
  (hMm rv 66 4) ∧ wp_X12_begins (iv (gR rv 66 4) 9) 4 iv rv (fun iv1 => wp_X12_known 4 iv1 rv (fun r2 iv3 => (0 ≤ r2 ∧ r2 < 16) ∧ (((iv3 (gR rv 66 4 + 12) r2.toNat) ≤ 0) → (bd_X12_readLoss_35 r2 iv3 rv K)) ∧ ((¬ ((iv3 (gR rv 66 4 + 12) r2.toNat) ≤ 0)) → (wp_X12_wrong 3 iv3 rv (fun iv6 => bd_X12_readLoss_35 r2 iv6 rv K)))))
set_option maxRecDepth 10000 in
theorem ce_X12_readLoss {n : Nat} {iv : IV} {rv : RV} {K : IV → Prop} (hK : Lk n rv)  (h : wp_X12_readLoss  iv rv K) : Call 8 0 0 yX12_readLoss cX12_readLoss 3 none [aR (some 66)] n iv rv (fV1 n rv K) := by
  refine Call.by (L := [aR (some 66), aJ, aJ]) (by decide) rfl ⟨trivial, trivial⟩ rfl (Nat.le_of_ble_eq_true rfl) (fun Γ X hR => ?_)
  unfold wp_X12_readLoss at h
  refine g_aload_n (q := 1) 0 X dX12_readLoss_0 rfl rfl rfl ?_
  refine g_aload_n (q := 2) 0 X dX12_readLoss_1 rfl rfl rfl ?_
  obtain ⟨hM_4, h⟩ := h
  refine g_getR (q := 5) (r := some (gR rv 66 4)) 12 4 X hM_4.1 (lt2000 (c := 0) (isM_lt0 hM_4.2)) kf_X12_167 (by decide) (by decide) rfl rfl (hK.n (by decide)) dX12_readLoss_2 rfl ?_
  refine g_getI (q := 8) 11 9 X kf_X12_368 (by decide) (by decide) rfl (shM_0 hM_4.2) (isM_n0 (hK.2.2.2.2.2.2.2 _ hM_4.1 hM_4.2)) dX12_readLoss_5 rfl ?_
  refine g_iconst (q := 9) 4 X dX12_readLoss_8 rfl rfl ic_4 ?_
  refine g_cv (q := 12) [aI (iv (gR rv 66 4) 9), aI 4] 12 X (ce_X12_begins hK  h) kV_X12_238 rfl (by decide) rfl (hK.n (by decide)) rfl rfl (Nat.le_of_ble_eq_true rfl) (by decide) dX12_readLoss_9 rfl (fun r n_ iv_ rv_ hf => ?_)
  obtain ⟨en_, er_, rfl, h⟩ := hf; subst n_; subst rv_
  generalize iv_ = iv1 at h ⊢
  refine g_aload_n (q := 13) 0 X dX12_readLoss_12 rfl rfl rfl ?_
  refine g_iconst (q := 14) 4 X dX12_readLoss_13 rfl rfl ic_4 ?_
  refine g_cv (q := 17) [aI 4] 12 X (ce_X12_known hK  h) kV_X12_190 rfl (by decide) rfl (hK.n (by decide)) rfl rfl (Nat.le_of_ble_eq_true rfl) (by decide) dX12_readLoss_14 rfl (fun r n_ iv_ rv_ hf => ?_)
  obtain ⟨en_, er_, r2, rfl, h⟩ := hf; subst n_; subst rv_
  generalize iv_ = iv3 at h ⊢
  refine g_istore_n (q := 18) 1 (L' := [aR (some 66), aI r2, aJ]) X dX12_readLoss_17 rfl rfl (by decide) rfl rfl ?_
  refine g_aload_n (q := 19) 0 X dX12_readLoss_18 rfl rfl rfl ?_
  refine g_getR (q := 22) (r := some (gR rv 66 4)) 12 4 X hM_4.1 (lt2000 (c := 0) (isM_lt0 hM_4.2)) kf_X12_167 (by decide) (by decide) rfl rfl (hK.n (by decide)) dX12_readLoss_19 rfl ?_
  refine g_getR (q := 25) (r := some (gR rv 66 4 + 12)) 11 25 X (lkM_25 hK hM_4.2 (hK.2.2.2.2.2.2.2 _ hM_4.1 hM_4.2)) (lt2000 (c := 0) (isM_lt hM_4.2 (by decide))) kf_X12_371 (by decide) (by decide) rfl (shM_0 hM_4.2) (isM_n0 (hK.2.2.2.2.2.2.2 _ hM_4.1 hM_4.2)) dX12_readLoss_22 rfl ?_
  refine g_iload_n (q := 26) 1 X dX12_readLoss_25 rfl rfl rfl ?_
  obtain ⟨s4, h⟩ := h
  refine g_iald (q := 27) X (shM_12 hM_4.2) (isM_n (hK.2.2.2.2.2.2.2 _ hM_4.1 hM_4.2) (by decide)) s4 dX12_readLoss_26 rfl ?_
  refine g_if_le (q := 30) 35 X dX12_readLoss_27 (by decide) rfl (fun c5 => ?_) (fun c5 => ?_)
  · have h := h.1 c5
    exact cb_X12_readLoss_35 X hR hK   h
  · have h := h.2 c5
    refine g_aload_n (q := 31) 0 X dX12_readLoss_30 rfl rfl rfl ?_
    refine g_iconst (q := 32) 3 X dX12_readLoss_31 rfl rfl ic_3 ?_
    refine g_cv (q := 35) [aI 3] 12 X (ce_X12_wrong hK  h) kV_X12_126 rfl (by decide) rfl (hK.n (by decide)) rfl rfl (Nat.le_of_ble_eq_true rfl) (by decide) dX12_readLoss_32 rfl (fun r n_ iv_ rv_ hf => ?_)
    obtain ⟨en_, er_, rfl, h⟩ := hf; subst n_; subst rv_
    generalize iv_ = iv6 at h ⊢
    exact cb_X12_readLoss_35 X hR hK   h
def bd_X12_readRenewal_87 (l1 l2 : Int) (iv : IV) (rv : RV) (K : IV → Prop) : Prop :=
  wp_X12_goesOn iv rv (fun iv1 => wp_X12_needs 12 iv1 rv (fun iv2 => wp_X12_readWhole 0 999 iv2 rv (fun r3 iv4 => (((iv4 66 9) ≠ 5) → ((hMm rv 66 4) ∧ (0 ≤ iv4 (gR rv 66 4) 8 ∧ iv4 (gR rv 66 4) 8 < 4) ∧ ∀ iv7, iv7 = w2 iv4 (gR rv 66 4 + 13) (iv4 (gR rv 66 4) 8).toNat l1 → (0 ≤ iv7 (gR rv 66 4) 8 ∧ iv7 (gR rv 66 4) 8 < 4) ∧ ∀ iv9, iv9 = w2 iv7 (gR rv 66 4 + 14) (iv7 (gR rv 66 4) 8).toNat l2 → (0 ≤ iv9 (gR rv 66 4) 8 ∧ iv9 (gR rv 66 4) 8 < 4) ∧ ∀ iv11, iv11 = w2 iv9 (gR rv 66 4 + 15) (iv9 (gR rv 66 4) 8).toNat r3 → ∀ iv12, iv12 = w2 iv11 (gR rv 66 4) 8 (w32 ((iv11 (gR rv 66 4) 8) + 1)) → K iv12)) ∧ (((iv4 66 9) = 5) → (K iv4)))))
set_option maxRecDepth 10000 in
theorem cb_X12_readRenewal_87 {Γ : GX} {n : Nat} {iv : IV} {rv : RV} {K : IV → Prop} {l1 l2 : Int} (X : Cx Γ RX12 cX12_readRenewal 4 8) (hR : Rt Γ none 0 0 (fV1 n rv K)) (hK : Lk n rv)  (h : bd_X12_readRenewal_87 l1 l2 iv rv K) : G Γ 4 87 [aR (some 66), aI l1, aI l2, aJ] [] n iv rv 0 0 := by
  unfold bd_X12_readRenewal_87 at h
  refine g_aload_n (q := 88) 0 X dX12_readRenewal_87 rfl rfl rfl ?_
  refine g_cv (q := 91) [] 12 X (ce_X12_goesOn hK  h) kV_X12_123 rfl (by decide) rfl (hK.n (by decide)) rfl rfl (Nat.le_of_ble_eq_true rfl) (by decide) dX12_readRenewal_88 rfl (fun r n_ iv_ rv_ hf => ?_)
  obtain ⟨en_, er_, rfl, h⟩ := hf; subst n_; subst rv_
  generalize iv_ = iv1 at h ⊢
  refine g_aload_n (q := 92) 0 X dX12_readRenewal_91 rfl rfl rfl ?_
  refine g_ldcwS (q := 95) 12 X st_X12_305 (by decide) dX12_readRenewal_92 rfl ?_
  refine g_cv (q := 98) [aR (some (1000 + 12))] 12 X (ce_X12_needs hK (by decide) h) kV_X12_252 rfl (by decide) rfl (hK.n (by decide)) rfl rfl (Nat.le_of_ble_eq_true rfl) (by decide) dX12_readRenewal_95 rfl (fun r n_ iv_ rv_ hf => ?_)
  obtain ⟨en_, er_, rfl, h⟩ := hf; subst n_; subst rv_
  generalize iv_ = iv2 at h ⊢
  refine g_aload_n (q := 99) 0 X dX12_readRenewal_98 rfl rfl rfl ?_
  refine g_iconst (q := 100) 0 X dX12_readRenewal_99 rfl rfl ic_0 ?_
  refine g_sipush (q := 103) 999 X dX12_readRenewal_100 rfl sc_999 ic_999 ?_
  refine g_cv (q := 106) [aI 0, aI 999] 12 X (ce_X12_readWhole hK  h) kV_X12_261 rfl (by decide) rfl (hK.n (by decide)) rfl rfl (Nat.le_of_ble_eq_true rfl) (by decide) dX12_readRenewal_103 rfl (fun r n_ iv_ rv_ hf => ?_)
  obtain ⟨en_, er_, r3, rfl, h⟩ := hf; subst n_; subst rv_
  generalize iv_ = iv4 at h ⊢
  refine g_istore_n (q := 107) 3 (L' := [aR (some 66), aI l1, aI l2, aI r3]) X dX12_readRenewal_106 rfl rfl (by decide) rfl rfl ?_
  refine g_aload_n (q := 108) 0 X dX12_readRenewal_107 rfl rfl rfl ?_
  refine g_getI (q := 111) 12 9 X kf_X12_83 (by decide) (by decide) rfl rfl (hK.n (by decide)) dX12_readRenewal_108 rfl ?_
  refine g_iconst (q := 112) 5 X dX12_readRenewal_111 rfl rfl ic_5 ?_
  refine g_icmp_ne (q := 115) 116 X dX12_readRenewal_112 (by decide) rfl (fun c5 => ?_) (fun c5 => ?_)
  · have h := h.1 c5
    refine g_aload_n (q := 117) 0 X dX12_readRenewal_116 rfl rfl rfl ?_
    obtain ⟨hM_4, h⟩ := h
    refine g_getR (q := 120) (r := some (gR rv 66 4)) 12 4 X hM_4.1 (lt2000 (c := 0) (isM_lt0 hM_4.2)) kf_X12_167 (by decide) (by decide) rfl rfl (hK.n (by decide)) dX12_readRenewal_117 rfl ?_
    refine g_getR (q := 123) (r := some (gR rv 66 4 + 13)) 11 26 X (lkM_26 hK hM_4.2 (hK.2.2.2.2.2.2.2 _ hM_4.1 hM_4.2)) (lt2000 (c := 0) (isM_lt hM_4.2 (by decide))) kf_X12_359 (by decide) (by decide) rfl (shM_0 hM_4.2) (isM_n0 (hK.2.2.2.2.2.2.2 _ hM_4.1 hM_4.2)) dX12_readRenewal_120 rfl ?_
    refine g_aload_n (q := 124) 0 X dX12_readRenewal_123 rfl rfl rfl ?_
    refine g_getR (q := 127) (r := some (gR rv 66 4)) 12 4 X hM_4.1 (lt2000 (c := 0) (isM_lt0 hM_4.2)) kf_X12_167 (by decide) (by decide) rfl rfl (hK.n (by decide)) dX12_readRenewal_124 rfl ?_
    refine g_getI (q := 130) 11 8 X kf_X12_350 (by decide) (by decide) rfl (shM_0 hM_4.2) (isM_n0 (hK.2.2.2.2.2.2.2 _ hM_4.1 hM_4.2)) dX12_readRenewal_127 rfl ?_
    refine g_iload_n (q := 131) 1 X dX12_readRenewal_130 rfl rfl rfl ?_
    obtain ⟨s6, h⟩ := h
    refine g_iast (q := 132) X (shM_13 hM_4.2) (isM_n (hK.2.2.2.2.2.2.2 _ hM_4.1 hM_4.2) (by decide)) s6 dX12_readRenewal_131 rfl ?_
    refine g_nmM (fun iv7 eiv7 => ?_)
    have h := h iv7 eiv7
    refine g_aload_n (q := 133) 0 X dX12_readRenewal_132 rfl rfl rfl ?_
    refine g_getR (q := 136) (r := some (gR rv 66 4)) 12 4 X hM_4.1 (lt2000 (c := 0) (isM_lt0 hM_4.2)) kf_X12_167 (by decide) (by decide) rfl rfl (hK.n (by decide)) dX12_readRenewal_133 rfl ?_
    refine g_getR (q := 139) (r := some (gR rv 66 4 + 14)) 11 27 X (lkM_27 hK hM_4.2 (hK.2.2.2.2.2.2.2 _ hM_4.1 hM_4.2)) (lt2000 (c := 0) (isM_lt hM_4.2 (by decide))) kf_X12_362 (by decide) (by decide) rfl (shM_0 hM_4.2) (isM_n0 (hK.2.2.2.2.2.2.2 _ hM_4.1 hM_4.2)) dX12_readRenewal_136 rfl ?_
    refine g_aload_n (q := 140) 0 X dX12_readRenewal_139 rfl rfl rfl ?_
    refine g_getR (q := 143) (r := some (gR rv 66 4)) 12 4 X hM_4.1 (lt2000 (c := 0) (isM_lt0 hM_4.2)) kf_X12_167 (by decide) (by decide) rfl rfl (hK.n (by decide)) dX12_readRenewal_140 rfl ?_
    refine g_getI (q := 146) 11 8 X kf_X12_350 (by decide) (by decide) rfl (shM_0 hM_4.2) (isM_n0 (hK.2.2.2.2.2.2.2 _ hM_4.1 hM_4.2)) dX12_readRenewal_143 rfl ?_
    refine g_iload_n (q := 147) 2 X dX12_readRenewal_146 rfl rfl rfl ?_
    obtain ⟨s8, h⟩ := h
    refine g_iast (q := 148) X (shM_14 hM_4.2) (isM_n (hK.2.2.2.2.2.2.2 _ hM_4.1 hM_4.2) (by decide)) s8 dX12_readRenewal_147 rfl ?_
    refine g_nmM (fun iv9 eiv9 => ?_)
    have h := h iv9 eiv9
    refine g_aload_n (q := 149) 0 X dX12_readRenewal_148 rfl rfl rfl ?_
    refine g_getR (q := 152) (r := some (gR rv 66 4)) 12 4 X hM_4.1 (lt2000 (c := 0) (isM_lt0 hM_4.2)) kf_X12_167 (by decide) (by decide) rfl rfl (hK.n (by decide)) dX12_readRenewal_149 rfl ?_
    refine g_getR (q := 155) (r := some (gR rv 66 4 + 15)) 11 28 X (lkM_28 hK hM_4.2 (hK.2.2.2.2.2.2.2 _ hM_4.1 hM_4.2)) (lt2000 (c := 0) (isM_lt hM_4.2 (by decide))) kf_X12_365 (by decide) (by decide) rfl (shM_0 hM_4.2) (isM_n0 (hK.2.2.2.2.2.2.2 _ hM_4.1 hM_4.2)) dX12_readRenewal_152 rfl ?_
    refine g_aload_n (q := 156) 0 X dX12_readRenewal_155 rfl rfl rfl ?_
    refine g_getR (q := 159) (r := some (gR rv 66 4)) 12 4 X hM_4.1 (lt2000 (c := 0) (isM_lt0 hM_4.2)) kf_X12_167 (by decide) (by decide) rfl rfl (hK.n (by decide)) dX12_readRenewal_156 rfl ?_
    refine g_getI (q := 162) 11 8 X kf_X12_350 (by decide) (by decide) rfl (shM_0 hM_4.2) (isM_n0 (hK.2.2.2.2.2.2.2 _ hM_4.1 hM_4.2)) dX12_readRenewal_159 rfl ?_
    refine g_iload_n (q := 163) 3 X dX12_readRenewal_162 rfl rfl rfl ?_
    obtain ⟨s10, h⟩ := h
    refine g_iast (q := 164) X (shM_15 hM_4.2) (isM_n (hK.2.2.2.2.2.2.2 _ hM_4.1 hM_4.2) (by decide)) s10 dX12_readRenewal_163 rfl ?_
    refine g_nmM (fun iv11 eiv11 => ?_)
    have h := h iv11 eiv11
    refine g_aload_n (q := 165) 0 X dX12_readRenewal_164 rfl rfl rfl ?_
    refine g_getR (q := 168) (r := some (gR rv 66 4)) 12 4 X hM_4.1 (lt2000 (c := 0) (isM_lt0 hM_4.2)) kf_X12_167 (by decide) (by decide) rfl rfl (hK.n (by decide)) dX12_readRenewal_165 rfl ?_
    refine g_dup (q := 169) X dX12_readRenewal_168 rfl rfl ?_
    refine g_getI (q := 172) 11 8 X kf_X12_350 (by decide) (by decide) rfl (shM_0 hM_4.2) (isM_n0 (hK.2.2.2.2.2.2.2 _ hM_4.1 hM_4.2)) dX12_readRenewal_169 rfl ?_
    refine g_iconst (q := 173) 1 X dX12_readRenewal_172 rfl rfl ic_1 ?_
    refine g_iadd (q := 174) X dX12_readRenewal_173 rfl ?_
    refine g_putI (q := 177) 11 8 X (Or.inl rfl) rfl kf_X12_350 (by decide) (by decide) (shM_0 hM_4.2) (isM_n0 (hK.2.2.2.2.2.2.2 _ hM_4.1 hM_4.2)) dX12_readRenewal_174 rfl ?_
    refine g_nmM (fun iv12 eiv12 => ?_)
    have h := h iv12 eiv12
    exact g_vret (q := 0) X hR dX12_readRenewal_177 rfl ⟨rfl, rfl, rfl, h⟩
  · have h := h.2 c5
    exact g_vret (q := 0) X hR dX12_readRenewal_115 rfl ⟨rfl, rfl, rfl, h⟩
def bd_X12_readRenewal_76 (l1 t0 : Int) (iv : IV) (rv : RV) (K : IV → Prop) : Prop :=
  ((t0 ≠ (-1)) → (bd_X12_readRenewal_87 l1 t0 iv rv K)) ∧ ((t0 = (-1)) → (wp_X12_wrong 1 iv rv (fun iv2 => bd_X12_readRenewal_87 l1 t0 iv2 rv K)))
set_option maxRecDepth 10000 in
theorem cb_X12_readRenewal_76 {Γ : GX} {n : Nat} {iv : IV} {rv : RV} {K : IV → Prop} {l1 t0 : Int} (X : Cx Γ RX12 cX12_readRenewal 4 8) (hR : Rt Γ none 0 0 (fV1 n rv K)) (hK : Lk n rv)  (h : bd_X12_readRenewal_76 l1 t0 iv rv K) : G Γ 4 76 [aR (some 66), aI l1, aJ, aJ] [aI t0] n iv rv 0 0 := by
  unfold bd_X12_readRenewal_76 at h
  refine g_istore_n (q := 77) 2 (L' := [aR (some 66), aI l1, aI t0, aJ]) X dX12_readRenewal_76 rfl rfl (by decide) rfl rfl ?_
  refine g_iload_n (q := 78) 2 X dX12_readRenewal_77 rfl rfl rfl ?_
  refine g_iconst (q := 79) (-1) X dX12_readRenewal_78 rfl rfl ic_m1 ?_
  refine g_icmp_ne (q := 82) 87 X dX12_readRenewal_79 (by decide) rfl (fun c1 => ?_) (fun c1 => ?_)
  · have h := h.1 c1
    exact cb_X12_readRenewal_87 X hR hK   h
  · have h := h.2 c1
    refine g_aload_n (q := 83) 0 X dX12_readRenewal_82 rfl rfl rfl ?_
    refine g_iconst (q := 84) 1 X dX12_readRenewal_83 rfl rfl ic_1 ?_
    refine g_cv (q := 87) [aI 1] 12 X (ce_X12_wrong hK  h) kV_X12_126 rfl (by decide) rfl (hK.n (by decide)) rfl rfl (Nat.le_of_ble_eq_true rfl) (by decide) dX12_readRenewal_84 rfl (fun r n_ iv_ rv_ hf => ?_)
    obtain ⟨en_, er_, rfl, h⟩ := hf; subst n_; subst rv_
    generalize iv_ = iv2 at h ⊢
    exact cb_X12_readRenewal_87 X hR hK   h
def bd_X12_readRenewal_29 (l1 : Int) (iv : IV) (rv : RV) (K : IV → Prop) : Prop :=
  wp_X12_goesOn iv rv (fun iv1 => wp_X12_isWord 44 iv1 rv (fun r2 => ((r2 = 0) → (wp_X12_isWord 26 iv1 rv (fun r4 => ((r4 = 0) → (wp_X12_isWord 20 iv1 rv (fun r6 => ((r6 = 0) → (bd_X12_readRenewal_76 l1 (-1) iv1 rv K)) ∧ ((¬ (r6 = 0)) → (bd_X12_readRenewal_76 l1 2 iv1 rv K))))) ∧ ((¬ (r4 = 0)) → (bd_X12_readRenewal_76 l1 1 iv1 rv K))))) ∧ ((¬ (r2 = 0)) → (bd_X12_readRenewal_76 l1 0 iv1 rv K))))
set_option maxRecDepth 10000 in
theorem cb_X12_readRenewal_29 {Γ : GX} {n : Nat} {iv : IV} {rv : RV} {K : IV → Prop} {l1 : Int} (X : Cx Γ RX12 cX12_readRenewal 4 8) (hR : Rt Γ none 0 0 (fV1 n rv K)) (hK : Lk n rv)  (h : bd_X12_readRenewal_29 l1 iv rv K) : G Γ 4 29 [aR (some 66), aI l1, aJ, aJ] [] n iv rv 0 0 := by
  unfold bd_X12_readRenewal_29 at h
  refine g_aload_n (q := 30) 0 X dX12_readRenewal_29 rfl rfl rfl ?_
  refine g_cv (q := 33) [] 12 X (ce_X12_goesOn hK  h) kV_X12_123 rfl (by decide) rfl (hK.n (by decide)) rfl rfl (Nat.le_of_ble_eq_true rfl) (by decide) dX12_readRenewal_30 rfl (fun r n_ iv_ rv_ hf => ?_)
  obtain ⟨en_, er_, rfl, h⟩ := hf; subst n_; subst rv_
  generalize iv_ = iv1 at h ⊢
  refine g_aload_n (q := 34) 0 X dX12_readRenewal_33 rfl rfl rfl ?_
  refine g_ldcwS (q := 37) 44 X st_X12_353 (by decide) dX12_readRenewal_34 rfl ?_
  refine g_cv (q := 40) [aR (some (1000 + 44))] 12 X (ce_X12_isWord hK (by decide) h) kV_X12_119 rfl (by decide) rfl (hK.n (by decide)) rfl rfl (Nat.le_of_ble_eq_true rfl) (by decide) dX12_readRenewal_37 rfl (fun r n_ iv_ rv_ hf => ?_)
  obtain ⟨en_, ei_, er_, r2, rfl, br2, h⟩ := hf; subst n_; subst iv_; subst rv_
  refine g_if_eq (q := 43) 47 X dX12_readRenewal_40 (by decide) rfl (fun c3 => ?_) (fun c3 => ?_)
  · have h := h.1 c3
    refine g_aload_n (q := 48) 0 X dX12_readRenewal_47 rfl rfl rfl ?_
    refine g_ldcwS (q := 51) 26 X st_X12_355 (by decide) dX12_readRenewal_48 rfl ?_
    refine g_cv (q := 54) [aR (some (1000 + 26))] 12 X (ce_X12_isWord hK (by decide) h) kV_X12_119 rfl (by decide) rfl (hK.n (by decide)) rfl rfl (Nat.le_of_ble_eq_true rfl) (by decide) dX12_readRenewal_51 rfl (fun r n_ iv_ rv_ hf => ?_)
    obtain ⟨en_, ei_, er_, r4, rfl, br4, h⟩ := hf; subst n_; subst iv_; subst rv_
    refine g_if_eq (q := 57) 61 X dX12_readRenewal_54 (by decide) rfl (fun c5 => ?_) (fun c5 => ?_)
    · have h := h.1 c5
      refine g_aload_n (q := 62) 0 X dX12_readRenewal_61 rfl rfl rfl ?_
      refine g_ldcwS (q := 65) 20 X st_X12_357 (by decide) dX12_readRenewal_62 rfl ?_
      refine g_cv (q := 68) [aR (some (1000 + 20))] 12 X (ce_X12_isWord hK (by decide) h) kV_X12_119 rfl (by decide) rfl (hK.n (by decide)) rfl rfl (Nat.le_of_ble_eq_true rfl) (by decide) dX12_readRenewal_65 rfl (fun r n_ iv_ rv_ hf => ?_)
      obtain ⟨en_, ei_, er_, r6, rfl, br6, h⟩ := hf; subst n_; subst iv_; subst rv_
      refine g_if_eq (q := 71) 75 X dX12_readRenewal_68 (by decide) rfl (fun c7 => ?_) (fun c7 => ?_)
      · have h := h.1 c7
        refine g_iconst (q := 76) (-1) X dX12_readRenewal_75 rfl rfl ic_m1 ?_
        exact cb_X12_readRenewal_76 X hR hK   h
      · have h := h.2 c7
        refine g_iconst (q := 72) 2 X dX12_readRenewal_71 rfl rfl ic_2 ?_
        refine g_goto (q := 76) X dX12_readRenewal_72 (by decide) ?_
        exact cb_X12_readRenewal_76 X hR hK   h
    · have h := h.2 c5
      refine g_iconst (q := 58) 1 X dX12_readRenewal_57 rfl rfl ic_1 ?_
      refine g_goto (q := 76) X dX12_readRenewal_58 (by decide) ?_
      exact cb_X12_readRenewal_76 X hR hK   h
  · have h := h.2 c3
    refine g_iconst (q := 44) 0 X dX12_readRenewal_43 rfl rfl ic_0 ?_
    refine g_goto (q := 76) X dX12_readRenewal_44 (by decide) ?_
    exact cb_X12_readRenewal_76 X hR hK   h
def wp_X12_readRenewal (iv : IV) (rv : RV) (K : IV → Prop) : Prop :=
  (hMm rv 66 4) ∧ wp_X12_begins (iv (gR rv 66 4) 8) 4 iv rv (fun iv1 => wp_X12_known 4 iv1 rv (fun r2 iv3 => ((r2 < 12) → (bd_X12_readRenewal_29 r2 iv3 rv K)) ∧ ((¬ (r2 < 12)) → (wp_X12_wrong 2 iv3 rv (fun iv5 => bd_X12_readRenewal_29 r2 iv5 rv K)))))
set_option maxRecDepth 10000 in
theorem ce_X12_readRenewal {n : Nat} {iv : IV} {rv : RV} {K : IV → Prop} (hK : Lk n rv)  (h : wp_X12_readRenewal  iv rv K) : Call 8 0 0 yX12_readRenewal cX12_readRenewal 4 none [aR (some 66)] n iv rv (fV1 n rv K) := by
  refine Call.by (L := [aR (some 66), aJ, aJ, aJ]) (by decide) rfl ⟨trivial, trivial⟩ rfl (Nat.le_of_ble_eq_true rfl) (fun Γ X hR => ?_)
  unfold wp_X12_readRenewal at h
  refine g_aload_n (q := 1) 0 X dX12_readRenewal_0 rfl rfl rfl ?_
  refine g_aload_n (q := 2) 0 X dX12_readRenewal_1 rfl rfl rfl ?_
  obtain ⟨hM_4, h⟩ := h
  refine g_getR (q := 5) (r := some (gR rv 66 4)) 12 4 X hM_4.1 (lt2000 (c := 0) (isM_lt0 hM_4.2)) kf_X12_167 (by decide) (by decide) rfl rfl (hK.n (by decide)) dX12_readRenewal_2 rfl ?_
  refine g_getI (q := 8) 11 8 X kf_X12_350 (by decide) (by decide) rfl (shM_0 hM_4.2) (isM_n0 (hK.2.2.2.2.2.2.2 _ hM_4.1 hM_4.2)) dX12_readRenewal_5 rfl ?_
  refine g_iconst (q := 9) 4 X dX12_readRenewal_8 rfl rfl ic_4 ?_
  refine g_cv (q := 12) [aI (iv (gR rv 66 4) 8), aI 4] 12 X (ce_X12_begins hK  h) kV_X12_238 rfl (by decide) rfl (hK.n (by decide)) rfl rfl (Nat.le_of_ble_eq_true rfl) (by decide) dX12_readRenewal_9 rfl (fun r n_ iv_ rv_ hf => ?_)
  obtain ⟨en_, er_, rfl, h⟩ := hf; subst n_; subst rv_
  generalize iv_ = iv1 at h ⊢
  refine g_aload_n (q := 13) 0 X dX12_readRenewal_12 rfl rfl rfl ?_
  refine g_iconst (q := 14) 4 X dX12_readRenewal_13 rfl rfl ic_4 ?_
  refine g_cv (q := 17) [aI 4] 12 X (ce_X12_known hK  h) kV_X12_190 rfl (by decide) rfl (hK.n (by decide)) rfl rfl (Nat.le_of_ble_eq_true rfl) (by decide) dX12_readRenewal_14 rfl (fun r n_ iv_ rv_ hf => ?_)
  obtain ⟨en_, er_, r2, rfl, h⟩ := hf; subst n_; subst rv_
  generalize iv_ = iv3 at h ⊢
  refine g_istore_n (q := 18) 1 (L' := [aR (some 66), aI r2, aJ, aJ]) X dX12_readRenewal_17 rfl rfl (by decide) rfl rfl ?_
  refine g_iload_n (q := 19) 1 X dX12_readRenewal_18 rfl rfl rfl ?_
  refine g_bipush (q := 21) 12 X dX12_readRenewal_19 rfl bc_12 ic_12 ?_
  refine g_icmp_lt (q := 24) 29 X dX12_readRenewal_21 (by decide) rfl (fun c4 => ?_) (fun c4 => ?_)
  · have h := h.1 c4
    exact cb_X12_readRenewal_29 X hR hK   h
  · have h := h.2 c4
    refine g_aload_n (q := 25) 0 X dX12_readRenewal_24 rfl rfl rfl ?_
    refine g_iconst (q := 26) 2 X dX12_readRenewal_25 rfl rfl ic_2 ?_
    refine g_cv (q := 29) [aI 2] 12 X (ce_X12_wrong hK  h) kV_X12_126 rfl (by decide) rfl (hK.n (by decide)) rfl rfl (Nat.le_of_ble_eq_true rfl) (by decide) dX12_readRenewal_26 rfl (fun r n_ iv_ rv_ hf => ?_)
    obtain ⟨en_, er_, rfl, h⟩ := hf; subst n_; subst rv_
    generalize iv_ = iv5 at h ⊢
    exact cb_X12_readRenewal_29 X hR hK   h
def bd_X12_readDay_53 (l1 l2 l3 : Int) (iv : IV) (rv : RV) (K : IV → Prop) : Prop :=
  (((iv 66 9) ≠ 5) → ((hMm rv 66 4) ∧ (0 ≤ l1 ∧ l1 < 16) ∧ ∀ iv3, iv3 = w2 iv (gR rv 66 4 + 10) l1.toNat l2 → (0 ≤ l1 ∧ l1 < 16) ∧ ∀ iv5, iv5 = w2 iv3 (gR rv 66 4 + 11) l1.toNat l3 → K iv5)) ∧ (((iv 66 9) = 5) → (K iv))
set_option maxRecDepth 10000 in
theorem cb_X12_readDay_53 {Γ : GX} {n : Nat} {iv : IV} {rv : RV} {K : IV → Prop} {l1 l2 l3 : Int} (X : Cx Γ RX12 cX12_readDay 4 7) (hR : Rt Γ none 0 0 (fV1 n rv K)) (hK : Lk n rv)  (h : bd_X12_readDay_53 l1 l2 l3 iv rv K) : G Γ 4 53 [aR (some 66), aI l1, aI l2, aI l3] [] n iv rv 0 0 := by
  unfold bd_X12_readDay_53 at h
  refine g_aload_n (q := 54) 0 X dX12_readDay_53 rfl rfl rfl ?_
  refine g_getI (q := 57) 12 9 X kf_X12_83 (by decide) (by decide) rfl rfl (hK.n (by decide)) dX12_readDay_54 rfl ?_
  refine g_iconst (q := 58) 5 X dX12_readDay_57 rfl rfl ic_5 ?_
  refine g_icmp_ne (q := 61) 62 X dX12_readDay_58 (by decide) rfl (fun c1 => ?_) (fun c1 => ?_)
  · have h := h.1 c1
    refine g_aload_n (q := 63) 0 X dX12_readDay_62 rfl rfl rfl ?_
    obtain ⟨hM_4, h⟩ := h
    refine g_getR (q := 66) (r := some (gR rv 66 4)) 12 4 X hM_4.1 (lt2000 (c := 0) (isM_lt0 hM_4.2)) kf_X12_167 (by decide) (by decide) rfl rfl (hK.n (by decide)) dX12_readDay_63 rfl ?_
    refine g_getR (q := 69) (r := some (gR rv 66 4 + 10)) 11 23 X (lkM_23 hK hM_4.2 (hK.2.2.2.2.2.2.2 _ hM_4.1 hM_4.2)) (lt2000 (c := 0) (isM_lt hM_4.2 (by decide))) kf_X12_307 (by decide) (by decide) rfl (shM_0 hM_4.2) (isM_n0 (hK.2.2.2.2.2.2.2 _ hM_4.1 hM_4.2)) dX12_readDay_66 rfl ?_
    refine g_iload_n (q := 70) 1 X dX12_readDay_69 rfl rfl rfl ?_
    refine g_iload_n (q := 71) 2 X dX12_readDay_70 rfl rfl rfl ?_
    obtain ⟨s2, h⟩ := h
    refine g_iast (q := 72) X (shM_10 hM_4.2) (isM_n (hK.2.2.2.2.2.2.2 _ hM_4.1 hM_4.2) (by decide)) s2 dX12_readDay_71 rfl ?_
    refine g_nmM (fun iv3 eiv3 => ?_)
    have h := h iv3 eiv3
    refine g_aload_n (q := 73) 0 X dX12_readDay_72 rfl rfl rfl ?_
    refine g_getR (q := 76) (r := some (gR rv 66 4)) 12 4 X hM_4.1 (lt2000 (c := 0) (isM_lt0 hM_4.2)) kf_X12_167 (by decide) (by decide) rfl rfl (hK.n (by decide)) dX12_readDay_73 rfl ?_
    refine g_getR (q := 79) (r := some (gR rv 66 4 + 11)) 11 24 X (lkM_24 hK hM_4.2 (hK.2.2.2.2.2.2.2 _ hM_4.1 hM_4.2)) (lt2000 (c := 0) (isM_lt hM_4.2 (by decide))) kf_X12_310 (by decide) (by decide) rfl (shM_0 hM_4.2) (isM_n0 (hK.2.2.2.2.2.2.2 _ hM_4.1 hM_4.2)) dX12_readDay_76 rfl ?_
    refine g_iload_n (q := 80) 1 X dX12_readDay_79 rfl rfl rfl ?_
    refine g_iload_n (q := 81) 3 X dX12_readDay_80 rfl rfl rfl ?_
    obtain ⟨s4, h⟩ := h
    refine g_iast (q := 82) X (shM_11 hM_4.2) (isM_n (hK.2.2.2.2.2.2.2 _ hM_4.1 hM_4.2) (by decide)) s4 dX12_readDay_81 rfl ?_
    refine g_nmM (fun iv5 eiv5 => ?_)
    have h := h iv5 eiv5
    exact g_vret (q := 0) X hR dX12_readDay_82 rfl ⟨rfl, rfl, rfl, h⟩
  · have h := h.2 c1
    exact g_vret (q := 0) X hR dX12_readDay_61 rfl ⟨rfl, rfl, rfl, h⟩
def bd_X12_readDay_49 (l1 l2 t0 t1 : Int) (iv : IV) (rv : RV) (K : IV → Prop) : Prop :=
  wp_X12_readWhole t1 t0 iv rv (fun r1 iv2 => bd_X12_readDay_53 l1 l2 r1 iv2 rv K)
set_option maxRecDepth 10000 in
theorem cb_X12_readDay_49 {Γ : GX} {n : Nat} {iv : IV} {rv : RV} {K : IV → Prop} {l1 l2 t0 t1 : Int} (X : Cx Γ RX12 cX12_readDay 4 7) (hR : Rt Γ none 0 0 (fV1 n rv K)) (hK : Lk n rv)  (h : bd_X12_readDay_49 l1 l2 t0 t1 iv rv K) : G Γ 4 49 [aR (some 66), aI l1, aI l2, aJ] [aI t0, aI t1, aR (some 66)] n iv rv 0 0 := by
  unfold bd_X12_readDay_49 at h
  refine g_cv (q := 52) [aI t1, aI t0] 12 X (ce_X12_readWhole hK  h) kV_X12_261 rfl (by decide) rfl (hK.n (by decide)) rfl rfl (Nat.le_of_ble_eq_true rfl) (by decide) dX12_readDay_49 rfl (fun r n_ iv_ rv_ hf => ?_)
  obtain ⟨en_, er_, r1, rfl, h⟩ := hf; subst n_; subst rv_
  generalize iv_ = iv2 at h ⊢
  refine g_istore_n (q := 53) 3 (L' := [aR (some 66), aI l1, aI l2, aI r1]) X dX12_readDay_52 rfl rfl (by decide) rfl rfl ?_
  exact cb_X12_readDay_53 X hR hK   h
def wp_X12_readDay (a1 : Int) (iv : IV) (rv : RV) (K : IV → Prop) : Prop :=
  wp_X12_needs 12 iv rv (fun iv1 => wp_X12_readWhole 0 999 iv1 rv (fun r2 iv3 => wp_X12_eats 48 iv3 rv (fun r4 iv5 => ((r4 = 0) → (bd_X12_readDay_53 a1 r2 r2 iv5 rv K)) ∧ ((¬ (r4 = 0)) → ((((w32 (r2 + 20)) ≤ 999) → (bd_X12_readDay_49 a1 r2 (w32 (r2 + 20)) r2 iv5 rv K)) ∧ ((¬ ((w32 (r2 + 20)) ≤ 999)) → (bd_X12_readDay_49 a1 r2 999 r2 iv5 rv K)))))))
set_option maxRecDepth 10000 in
theorem ce_X12_readDay {n : Nat} {iv : IV} {rv : RV} {K : IV → Prop} {a1 : Int} (hK : Lk n rv)  (h : wp_X12_readDay a1 iv rv K) : Call 7 0 0 yX12_readDay cX12_readDay 4 none [aR (some 66), aI a1] n iv rv (fV1 n rv K) := by
  refine Call.by (L := [aR (some 66), aI a1, aJ, aJ]) (by decide) rfl ⟨trivial, trivial, trivial⟩ rfl (Nat.le_of_ble_eq_true rfl) (fun Γ X hR => ?_)
  unfold wp_X12_readDay at h
  refine g_aload_n (q := 1) 0 X dX12_readDay_0 rfl rfl rfl ?_
  refine g_ldcwS (q := 4) 12 X st_X12_305 (by decide) dX12_readDay_1 rfl ?_
  refine g_cv (q := 7) [aR (some (1000 + 12))] 12 X (ce_X12_needs hK (by decide) h) kV_X12_252 rfl (by decide) rfl (hK.n (by decide)) rfl rfl (Nat.le_of_ble_eq_true rfl) (by decide) dX12_readDay_4 rfl (fun r n_ iv_ rv_ hf => ?_)
  obtain ⟨en_, er_, rfl, h⟩ := hf; subst n_; subst rv_
  generalize iv_ = iv1 at h ⊢
  refine g_aload_n (q := 8) 0 X dX12_readDay_7 rfl rfl rfl ?_
  refine g_iconst (q := 9) 0 X dX12_readDay_8 rfl rfl ic_0 ?_
  refine g_sipush (q := 12) 999 X dX12_readDay_9 rfl sc_999 ic_999 ?_
  refine g_cv (q := 15) [aI 0, aI 999] 12 X (ce_X12_readWhole hK  h) kV_X12_261 rfl (by decide) rfl (hK.n (by decide)) rfl rfl (Nat.le_of_ble_eq_true rfl) (by decide) dX12_readDay_12 rfl (fun r n_ iv_ rv_ hf => ?_)
  obtain ⟨en_, er_, r2, rfl, h⟩ := hf; subst n_; subst rv_
  generalize iv_ = iv3 at h ⊢
  refine g_istore_n (q := 16) 2 (L' := [aR (some 66), aI a1, aI r2, aJ]) X dX12_readDay_15 rfl rfl (by decide) rfl rfl ?_
  refine g_iload_n (q := 17) 2 X dX12_readDay_16 rfl rfl rfl ?_
  refine g_istore_n (q := 18) 3 (L' := [aR (some 66), aI a1, aI r2, aI r2]) X dX12_readDay_17 rfl rfl (by decide) rfl rfl ?_
  refine g_aload_n (q := 19) 0 X dX12_readDay_18 rfl rfl rfl ?_
  refine g_ldcS (q := 21) 48 X st_X12_159 (by decide) dX12_readDay_19 rfl ?_
  refine g_cv (q := 24) [aR (some (1000 + 48))] 12 X (ce_X12_eats hK (by decide) h) kV_X12_302 rfl (by decide) rfl (hK.n (by decide)) rfl rfl (Nat.le_of_ble_eq_true rfl) (by decide) dX12_readDay_21 rfl (fun r n_ iv_ rv_ hf => ?_)
  obtain ⟨en_, er_, r4, rfl, br4, h⟩ := hf; subst n_; subst rv_
  generalize iv_ = iv5 at h ⊢
  refine g_if_eq (q := 27) 53 X dX12_readDay_24 (by decide) rfl (fun c6 => ?_) (fun c6 => ?_)
  · have h := h.1 c6
    exact cb_X12_readDay_53 X hR hK   h
  · have h := h.2 c6
    refine g_aload_n (q := 28) 0 X dX12_readDay_27 rfl rfl rfl ?_
    refine g_iload_n (q := 29) 2 X dX12_readDay_28 rfl rfl rfl ?_
    refine g_iload_n (q := 30) 2 X dX12_readDay_29 rfl rfl rfl ?_
    refine g_bipush (q := 32) 20 X dX12_readDay_30 rfl bc_20 ic_20 ?_
    refine g_iadd (q := 33) X dX12_readDay_32 rfl ?_
    refine g_sipush (q := 36) 999 X dX12_readDay_33 rfl sc_999 ic_999 ?_
    refine g_icmp_le (q := 39) 45 X dX12_readDay_36 (by decide) rfl (fun c7 => ?_) (fun c7 => ?_)
    · have h := h.1 c7
      refine g_iload_n (q := 46) 2 X dX12_readDay_45 rfl rfl rfl ?_
      refine g_bipush (q := 48) 20 X dX12_readDay_46 rfl bc_20 ic_20 ?_
      refine g_iadd (q := 49) X dX12_readDay_48 rfl ?_
      refine g_sub (L' := [aR (some 66), aI a1, aI r2, aJ]) ⟨Or.inr rfl, Or.inr rfl, Or.inr rfl, Or.inl rfl, trivial⟩ ?_
      exact cb_X12_readDay_49 X hR hK   h
    · have h := h.2 c7
      refine g_sipush (q := 42) 999 X dX12_readDay_39 rfl sc_999 ic_999 ?_
      refine g_goto (q := 49) X dX12_readDay_42 (by decide) ?_
      refine g_sub (L' := [aR (some 66), aI a1, aI r2, aJ]) ⟨Or.inr rfl, Or.inr rfl, Or.inr rfl, Or.inl rfl, trivial⟩ ?_
      exact cb_X12_readDay_49 X hR hK   h
def wp_X12_readAlike (iv : IV) (rv : RV) (K : IV → Prop) : Prop :=
  (hMm rv 66 4) ∧ wp_X12_begins (iv (gR rv 66 4) 7) 4 iv rv (fun iv1 => ∀ x2, x2 = w32 (12 + (iv1 (gR rv 66 4) 7)) → wp_X12_readFresh 4 x2 iv1 rv (fun iv3 => wp_X12_needs 13 iv3 rv (fun iv4 => wp_X12_readKnown 0 iv4 rv (fun r5 iv6 => wp_X12_needs 21 iv6 rv (fun iv7 => wp_X12_readOther r5 iv7 rv (fun r8 iv9 => wp_X12_readDay x2 iv9 rv (fun iv10 => (((iv10 66 9) ≠ 5) → ((0 ≤ x2 ∧ x2 < 16) ∧ ∀ iv13, iv13 = w2 iv10 (gR rv 66 4 + 7) x2.toNat r5 → (0 ≤ x2 ∧ x2 < 16) ∧ ∀ iv15, iv15 = w2 iv13 (gR rv 66 4 + 8) x2.toNat r8 → ∀ iv16, iv16 = w2 iv15 (gR rv 66 4) 7 (w32 ((iv15 (gR rv 66 4) 7) + 1)) → K iv16)) ∧ (((iv10 66 9) = 5) → (K iv10)))))))))
set_option maxRecDepth 10000 in
theorem ce_X12_readAlike {n : Nat} {iv : IV} {rv : RV} {K : IV → Prop} (hK : Lk n rv)  (h : wp_X12_readAlike  iv rv K) : Call 9 0 0 yX12_readAlike cX12_readAlike 4 none [aR (some 66)] n iv rv (fV1 n rv K) := by
  refine Call.by (L := [aR (some 66), aJ, aJ, aJ]) (by decide) rfl ⟨trivial, trivial⟩ rfl (Nat.le_of_ble_eq_true rfl) (fun Γ X hR => ?_)
  unfold wp_X12_readAlike at h
  refine g_aload_n (q := 1) 0 X dX12_readAlike_0 rfl rfl rfl ?_
  refine g_aload_n (q := 2) 0 X dX12_readAlike_1 rfl rfl rfl ?_
  obtain ⟨hM_4, h⟩ := h
  refine g_getR (q := 5) (r := some (gR rv 66 4)) 12 4 X hM_4.1 (lt2000 (c := 0) (isM_lt0 hM_4.2)) kf_X12_167 (by decide) (by decide) rfl rfl (hK.n (by decide)) dX12_readAlike_2 rfl ?_
  refine g_getI (q := 8) 11 7 X kf_X12_345 (by decide) (by decide) rfl (shM_0 hM_4.2) (isM_n0 (hK.2.2.2.2.2.2.2 _ hM_4.1 hM_4.2)) dX12_readAlike_5 rfl ?_
  refine g_iconst (q := 9) 4 X dX12_readAlike_8 rfl rfl ic_4 ?_
  refine g_cv (q := 12) [aI (iv (gR rv 66 4) 7), aI 4] 12 X (ce_X12_begins hK  h) kV_X12_238 rfl (by decide) rfl (hK.n (by decide)) rfl rfl (Nat.le_of_ble_eq_true rfl) (by decide) dX12_readAlike_9 rfl (fun r n_ iv_ rv_ hf => ?_)
  obtain ⟨en_, er_, rfl, h⟩ := hf; subst n_; subst rv_
  generalize iv_ = iv1 at h ⊢
  refine g_bipush (q := 14) 12 X dX12_readAlike_12 rfl bc_12 ic_12 ?_
  refine g_aload_n (q := 15) 0 X dX12_readAlike_14 rfl rfl rfl ?_
  refine g_getR (q := 18) (r := some (gR rv 66 4)) 12 4 X hM_4.1 (lt2000 (c := 0) (isM_lt0 hM_4.2)) kf_X12_167 (by decide) (by decide) rfl rfl (hK.n (by decide)) dX12_readAlike_15 rfl ?_
  refine g_getI (q := 21) 11 7 X kf_X12_345 (by decide) (by decide) rfl (shM_0 hM_4.2) (isM_n0 (hK.2.2.2.2.2.2.2 _ hM_4.1 hM_4.2)) dX12_readAlike_18 rfl ?_
  refine g_iadd (q := 22) X dX12_readAlike_21 rfl ?_
  refine g_nmI (fun x2 ex2 => ?_)
  have h := h x2 ex2
  refine g_istore_n (q := 23) 1 (L' := [aR (some 66), aI x2, aJ, aJ]) X dX12_readAlike_22 rfl rfl (by decide) rfl rfl ?_
  refine g_aload_n (q := 24) 0 X dX12_readAlike_23 rfl rfl rfl ?_
  refine g_iconst (q := 25) 4 X dX12_readAlike_24 rfl rfl ic_4 ?_
  refine g_iload_n (q := 26) 1 X dX12_readAlike_25 rfl rfl rfl ?_
  refine g_cv (q := 29) [aI 4, aI x2] 12 X (ce_X12_readFresh hK  h) kV_X12_242 rfl (by decide) rfl (hK.n (by decide)) rfl rfl (Nat.le_of_ble_eq_true rfl) (by decide) dX12_readAlike_26 rfl (fun r n_ iv_ rv_ hf => ?_)
  obtain ⟨en_, er_, rfl, h⟩ := hf; subst n_; subst rv_
  generalize iv_ = iv3 at h ⊢
  refine g_aload_n (q := 30) 0 X dX12_readAlike_29 rfl rfl rfl ?_
  refine g_ldcwS (q := 33) 13 X st_X12_337 (by decide) dX12_readAlike_30 rfl ?_
  refine g_cv (q := 36) [aR (some (1000 + 13))] 12 X (ce_X12_needs hK (by decide) h) kV_X12_252 rfl (by decide) rfl (hK.n (by decide)) rfl rfl (Nat.le_of_ble_eq_true rfl) (by decide) dX12_readAlike_33 rfl (fun r n_ iv_ rv_ hf => ?_)
  obtain ⟨en_, er_, rfl, h⟩ := hf; subst n_; subst rv_
  generalize iv_ = iv4 at h ⊢
  refine g_aload_n (q := 37) 0 X dX12_readAlike_36 rfl rfl rfl ?_
  refine g_iconst (q := 38) 0 X dX12_readAlike_37 rfl rfl ic_0 ?_
  refine g_cv (q := 41) [aI 0] 12 X (ce_X12_readKnown hK  h) kV_X12_256 rfl (by decide) rfl (hK.n (by decide)) rfl rfl (Nat.le_of_ble_eq_true rfl) (by decide) dX12_readAlike_38 rfl (fun r n_ iv_ rv_ hf => ?_)
  obtain ⟨en_, er_, r5, rfl, h⟩ := hf; subst n_; subst rv_
  generalize iv_ = iv6 at h ⊢
  refine g_istore_n (q := 42) 2 (L' := [aR (some 66), aI x2, aI r5, aJ]) X dX12_readAlike_41 rfl rfl (by decide) rfl rfl ?_
  refine g_aload_n (q := 43) 0 X dX12_readAlike_42 rfl rfl rfl ?_
  refine g_ldcwS (q := 46) 21 X st_X12_348 (by decide) dX12_readAlike_43 rfl ?_
  refine g_cv (q := 49) [aR (some (1000 + 21))] 12 X (ce_X12_needs hK (by decide) h) kV_X12_252 rfl (by decide) rfl (hK.n (by decide)) rfl rfl (Nat.le_of_ble_eq_true rfl) (by decide) dX12_readAlike_46 rfl (fun r n_ iv_ rv_ hf => ?_)
  obtain ⟨en_, er_, rfl, h⟩ := hf; subst n_; subst rv_
  generalize iv_ = iv7 at h ⊢
  refine g_aload_n (q := 50) 0 X dX12_readAlike_49 rfl rfl rfl ?_
  refine g_iload_n (q := 51) 2 X dX12_readAlike_50 rfl rfl rfl ?_
  refine g_cv (q := 54) [aI r5] 12 X (ce_X12_readOther hK  h) kV_X12_271 rfl (by decide) rfl (hK.n (by decide)) rfl rfl (Nat.le_of_ble_eq_true rfl) (by decide) dX12_readAlike_51 rfl (fun r n_ iv_ rv_ hf => ?_)
  obtain ⟨en_, er_, r8, rfl, h⟩ := hf; subst n_; subst rv_
  generalize iv_ = iv9 at h ⊢
  refine g_istore_n (q := 55) 3 (L' := [aR (some 66), aI x2, aI r5, aI r8]) X dX12_readAlike_54 rfl rfl (by decide) rfl rfl ?_
  refine g_aload_n (q := 56) 0 X dX12_readAlike_55 rfl rfl rfl ?_
  refine g_iload_n (q := 57) 1 X dX12_readAlike_56 rfl rfl rfl ?_
  refine g_cv (q := 60) [aI x2] 12 X (ce_X12_readDay hK  h) kV_X12_324 rfl (by decide) rfl (hK.n (by decide)) rfl rfl (Nat.le_of_ble_eq_true rfl) (by decide) dX12_readAlike_57 rfl (fun r n_ iv_ rv_ hf => ?_)
  obtain ⟨en_, er_, rfl, h⟩ := hf; subst n_; subst rv_
  generalize iv_ = iv10 at h ⊢
  refine g_aload_n (q := 61) 0 X dX12_readAlike_60 rfl rfl rfl ?_
  refine g_getI (q := 64) 12 9 X kf_X12_83 (by decide) (by decide) rfl rfl (hK.n (by decide)) dX12_readAlike_61 rfl ?_
  refine g_iconst (q := 65) 5 X dX12_readAlike_64 rfl rfl ic_5 ?_
  refine g_icmp_ne (q := 68) 69 X dX12_readAlike_65 (by decide) rfl (fun c11 => ?_) (fun c11 => ?_)
  · have h := h.1 c11
    refine g_aload_n (q := 70) 0 X dX12_readAlike_69 rfl rfl rfl ?_
    refine g_getR (q := 73) (r := some (gR rv 66 4)) 12 4 X hM_4.1 (lt2000 (c := 0) (isM_lt0 hM_4.2)) kf_X12_167 (by decide) (by decide) rfl rfl (hK.n (by decide)) dX12_readAlike_70 rfl ?_
    refine g_getR (q := 76) (r := some (gR rv 66 4 + 7)) 11 20 X (lkM_20 hK hM_4.2 (hK.2.2.2.2.2.2.2 _ hM_4.1 hM_4.2)) (lt2000 (c := 0) (isM_lt hM_4.2 (by decide))) kf_X12_327 (by decide) (by decide) rfl (shM_0 hM_4.2) (isM_n0 (hK.2.2.2.2.2.2.2 _ hM_4.1 hM_4.2)) dX12_readAlike_73 rfl ?_
    refine g_iload_n (q := 77) 1 X dX12_readAlike_76 rfl rfl rfl ?_
    refine g_iload_n (q := 78) 2 X dX12_readAlike_77 rfl rfl rfl ?_
    obtain ⟨s12, h⟩ := h
    refine g_iast (q := 79) X (shM_7 hM_4.2) (isM_n (hK.2.2.2.2.2.2.2 _ hM_4.1 hM_4.2) (by decide)) s12 dX12_readAlike_78 rfl ?_
    refine g_nmM (fun iv13 eiv13 => ?_)
    have h := h iv13 eiv13
    refine g_aload_n (q := 80) 0 X dX12_readAlike_79 rfl rfl rfl ?_
    refine g_getR (q := 83) (r := some (gR rv 66 4)) 12 4 X hM_4.1 (lt2000 (c := 0) (isM_lt0 hM_4.2)) kf_X12_167 (by decide) (by decide) rfl rfl (hK.n (by decide)) dX12_readAlike_80 rfl ?_
    refine g_getR (q := 86) (r := some (gR rv 66 4 + 8)) 11 21 X (lkM_21 hK hM_4.2 (hK.2.2.2.2.2.2.2 _ hM_4.1 hM_4.2)) (lt2000 (c := 0) (isM_lt hM_4.2 (by decide))) kf_X12_329 (by decide) (by decide) rfl (shM_0 hM_4.2) (isM_n0 (hK.2.2.2.2.2.2.2 _ hM_4.1 hM_4.2)) dX12_readAlike_83 rfl ?_
    refine g_iload_n (q := 87) 1 X dX12_readAlike_86 rfl rfl rfl ?_
    refine g_iload_n (q := 88) 3 X dX12_readAlike_87 rfl rfl rfl ?_
    obtain ⟨s14, h⟩ := h
    refine g_iast (q := 89) X (shM_8 hM_4.2) (isM_n (hK.2.2.2.2.2.2.2 _ hM_4.1 hM_4.2) (by decide)) s14 dX12_readAlike_88 rfl ?_
    refine g_nmM (fun iv15 eiv15 => ?_)
    have h := h iv15 eiv15
    refine g_aload_n (q := 90) 0 X dX12_readAlike_89 rfl rfl rfl ?_
    refine g_getR (q := 93) (r := some (gR rv 66 4)) 12 4 X hM_4.1 (lt2000 (c := 0) (isM_lt0 hM_4.2)) kf_X12_167 (by decide) (by decide) rfl rfl (hK.n (by decide)) dX12_readAlike_90 rfl ?_
    refine g_dup (q := 94) X dX12_readAlike_93 rfl rfl ?_
    refine g_getI (q := 97) 11 7 X kf_X12_345 (by decide) (by decide) rfl (shM_0 hM_4.2) (isM_n0 (hK.2.2.2.2.2.2.2 _ hM_4.1 hM_4.2)) dX12_readAlike_94 rfl ?_
    refine g_iconst (q := 98) 1 X dX12_readAlike_97 rfl rfl ic_1 ?_
    refine g_iadd (q := 99) X dX12_readAlike_98 rfl ?_
    refine g_putI (q := 102) 11 7 X (Or.inl rfl) rfl kf_X12_345 (by decide) (by decide) (shM_0 hM_4.2) (isM_n0 (hK.2.2.2.2.2.2.2 _ hM_4.1 hM_4.2)) dX12_readAlike_99 rfl ?_
    refine g_nmM (fun iv16 eiv16 => ?_)
    have h := h iv16 eiv16
    exact g_vret (q := 0) X hR dX12_readAlike_102 rfl ⟨rfl, rfl, rfl, h⟩
  · have h := h.2 c11
    exact g_vret (q := 0) X hR dX12_readAlike_68 rfl ⟨rfl, rfl, rfl, h⟩
def wp_X12_readGood (iv : IV) (rv : RV) (K : Int → IV → Prop) : Prop :=
  wp_X12_eats 1 iv rv (fun r1 iv2 => ((r1 = 0) → (wp_X12_readKnown 1 iv2 rv (fun r4 iv5 => K r4 iv5))) ∧ ((¬ (r1 = 0)) → (K (-2) iv2)))
set_option maxRecDepth 10000 in
theorem ce_X12_readGood {n : Nat} {iv : IV} {rv : RV} {K : Int → IV → Prop} (hK : Lk n rv)  (h : wp_X12_readGood  iv rv K) : Call 9 0 0 yX12_readGood cX12_readGood 1 (some .int) [aR (some 66)] n iv rv (fI1 n rv K) := by
  refine Call.by (L := [aR (some 66)]) (by decide) rfl ⟨trivial, trivial⟩ rfl (Nat.le_of_ble_eq_true rfl) (fun Γ X hR => ?_)
  unfold wp_X12_readGood at h
  refine g_aload_n (q := 1) 0 X dX12_readGood_0 rfl rfl rfl ?_
  refine g_ldcS (q := 3) 1 X st_X12_157 (by decide) dX12_readGood_1 rfl ?_
  refine g_cv (q := 6) [aR (some (1000 + 1))] 12 X (ce_X12_eats hK (by decide) h) kV_X12_302 rfl (by decide) rfl (hK.n (by decide)) rfl rfl (Nat.le_of_ble_eq_true rfl) (by decide) dX12_readGood_3 rfl (fun r n_ iv_ rv_ hf => ?_)
  obtain ⟨en_, er_, r1, rfl, br1, h⟩ := hf; subst n_; subst rv_
  generalize iv_ = iv2 at h ⊢
  refine g_if_eq (q := 9) 12 X dX12_readGood_6 (by decide) rfl (fun c3 => ?_) (fun c3 => ?_)
  · have h := h.1 c3
    refine g_aload_n (q := 13) 0 X dX12_readGood_12 rfl rfl rfl ?_
    refine g_iconst (q := 14) 1 X dX12_readGood_13 rfl rfl ic_1 ?_
    refine g_cv (q := 17) [aI 1] 12 X (ce_X12_readKnown hK  h) kV_X12_256 rfl (by decide) rfl (hK.n (by decide)) rfl rfl (Nat.le_of_ble_eq_true rfl) (by decide) dX12_readGood_14 rfl (fun r n_ iv_ rv_ hf => ?_)
    obtain ⟨en_, er_, r4, rfl, h⟩ := hf; subst n_; subst rv_
    generalize iv_ = iv5 at h ⊢
    exact g_iret (q := 0) X hR dX12_readGood_17 rfl ⟨rfl, rfl, _, rfl, h⟩
  · have h := h.2 c3
    refine g_bipush (q := 11) (-2) X dX12_readGood_9 rfl bc_m2 ic_m2 ?_
    exact g_iret (q := 0) X hR dX12_readGood_11 rfl ⟨rfl, rfl, _, rfl, h⟩
def bd_X12_readFree_111 (l1 l2 l3 l4 : Int) (iv : IV) (rv : RV) (K : IV → Prop) : Prop :=
  wp_X12_goesOn iv rv (fun iv1 => wp_X12_readDay l1 iv1 rv (fun iv2 => (((iv2 66 9) ≠ 5) → ((hMm rv 66 4) ∧ (0 ≤ l1 ∧ l1 < 16) ∧ ∀ iv5, iv5 = w2 iv2 (gR rv 66 4 + 7) l1.toNat l2 → (0 ≤ l1 ∧ l1 < 16) ∧ ∀ iv7, iv7 = w2 iv5 (gR rv 66 4 + 8) l1.toNat l3 → (0 ≤ l1 ∧ l1 < 16) ∧ ∀ iv9, iv9 = w2 iv7 (gR rv 66 4 + 9) l1.toNat l4 → ∀ iv10, iv10 = w2 iv9 (gR rv 66 4) 6 (w32 ((iv9 (gR rv 66 4) 6) + 1)) → K iv10)) ∧ (((iv2 66 9) = 5) → (K iv2))))
set_option maxRecDepth 10000 in
theorem cb_X12_readFree_111 {Γ : GX} {n : Nat} {iv : IV} {rv : RV} {K : IV → Prop} {l1 l2 l3 l4 : Int} (X : Cx Γ RX12 cX12_readFree 5 10) (hR : Rt Γ none 0 0 (fV1 n rv K)) (hK : Lk n rv)  (h : bd_X12_readFree_111 l1 l2 l3 l4 iv rv K) : G Γ 5 111 [aR (some 66), aI l1, aI l2, aI l3, aI l4] [] n iv rv 0 0 := by
  unfold bd_X12_readFree_111 at h
  refine g_aload_n (q := 112) 0 X dX12_readFree_111 rfl rfl rfl ?_
  refine g_cv (q := 115) [] 12 X (ce_X12_goesOn hK  h) kV_X12_123 rfl (by decide) rfl (hK.n (by decide)) rfl rfl (Nat.le_of_ble_eq_true rfl) (by decide) dX12_readFree_112 rfl (fun r n_ iv_ rv_ hf => ?_)
  obtain ⟨en_, er_, rfl, h⟩ := hf; subst n_; subst rv_
  generalize iv_ = iv1 at h ⊢
  refine g_aload_n (q := 116) 0 X dX12_readFree_115 rfl rfl rfl ?_
  refine g_iload_n (q := 117) 1 X dX12_readFree_116 rfl rfl rfl ?_
  refine g_cv (q := 120) [aI l1] 12 X (ce_X12_readDay hK  h) kV_X12_324 rfl (by decide) rfl (hK.n (by decide)) rfl rfl (Nat.le_of_ble_eq_true rfl) (by decide) dX12_readFree_117 rfl (fun r n_ iv_ rv_ hf => ?_)
  obtain ⟨en_, er_, rfl, h⟩ := hf; subst n_; subst rv_
  generalize iv_ = iv2 at h ⊢
  refine g_aload_n (q := 121) 0 X dX12_readFree_120 rfl rfl rfl ?_
  refine g_getI (q := 124) 12 9 X kf_X12_83 (by decide) (by decide) rfl rfl (hK.n (by decide)) dX12_readFree_121 rfl ?_
  refine g_iconst (q := 125) 5 X dX12_readFree_124 rfl rfl ic_5 ?_
  refine g_icmp_ne (q := 128) 129 X dX12_readFree_125 (by decide) rfl (fun c3 => ?_) (fun c3 => ?_)
  · have h := h.1 c3
    refine g_aload_n (q := 130) 0 X dX12_readFree_129 rfl rfl rfl ?_
    obtain ⟨hM_4, h⟩ := h
    refine g_getR (q := 133) (r := some (gR rv 66 4)) 12 4 X hM_4.1 (lt2000 (c := 0) (isM_lt0 hM_4.2)) kf_X12_167 (by decide) (by decide) rfl rfl (hK.n (by decide)) dX12_readFree_130 rfl ?_
    refine g_getR (q := 136) (r := some (gR rv 66 4 + 7)) 11 20 X (lkM_20 hK hM_4.2 (hK.2.2.2.2.2.2.2 _ hM_4.1 hM_4.2)) (lt2000 (c := 0) (isM_lt hM_4.2 (by decide))) kf_X12_327 (by decide) (by decide) rfl (shM_0 hM_4.2) (isM_n0 (hK.2.2.2.2.2.2.2 _ hM_4.1 hM_4.2)) dX12_readFree_133 rfl ?_
    refine g_iload_n (q := 137) 1 X dX12_readFree_136 rfl rfl rfl ?_
    refine g_iload_n (q := 138) 2 X dX12_readFree_137 rfl rfl rfl ?_
    obtain ⟨s4, h⟩ := h
    refine g_iast (q := 139) X (shM_7 hM_4.2) (isM_n (hK.2.2.2.2.2.2.2 _ hM_4.1 hM_4.2) (by decide)) s4 dX12_readFree_138 rfl ?_
    refine g_nmM (fun iv5 eiv5 => ?_)
    have h := h iv5 eiv5
    refine g_aload_n (q := 140) 0 X dX12_readFree_139 rfl rfl rfl ?_
    refine g_getR (q := 143) (r := some (gR rv 66 4)) 12 4 X hM_4.1 (lt2000 (c := 0) (isM_lt0 hM_4.2)) kf_X12_167 (by decide) (by decide) rfl rfl (hK.n (by decide)) dX12_readFree_140 rfl ?_
    refine g_getR (q := 146) (r := some (gR rv 66 4 + 8)) 11 21 X (lkM_21 hK hM_4.2 (hK.2.2.2.2.2.2.2 _ hM_4.1 hM_4.2)) (lt2000 (c := 0) (isM_lt hM_4.2 (by decide))) kf_X12_329 (by decide) (by decide) rfl (shM_0 hM_4.2) (isM_n0 (hK.2.2.2.2.2.2.2 _ hM_4.1 hM_4.2)) dX12_readFree_143 rfl ?_
    refine g_iload_n (q := 147) 1 X dX12_readFree_146 rfl rfl rfl ?_
    refine g_iload_n (q := 148) 3 X dX12_readFree_147 rfl rfl rfl ?_
    obtain ⟨s6, h⟩ := h
    refine g_iast (q := 149) X (shM_8 hM_4.2) (isM_n (hK.2.2.2.2.2.2.2 _ hM_4.1 hM_4.2) (by decide)) s6 dX12_readFree_148 rfl ?_
    refine g_nmM (fun iv7 eiv7 => ?_)
    have h := h iv7 eiv7
    refine g_aload_n (q := 150) 0 X dX12_readFree_149 rfl rfl rfl ?_
    refine g_getR (q := 153) (r := some (gR rv 66 4)) 12 4 X hM_4.1 (lt2000 (c := 0) (isM_lt0 hM_4.2)) kf_X12_167 (by decide) (by decide) rfl rfl (hK.n (by decide)) dX12_readFree_150 rfl ?_
    refine g_getR (q := 156) (r := some (gR rv 66 4 + 9)) 11 22 X (lkM_22 hK hM_4.2 (hK.2.2.2.2.2.2.2 _ hM_4.1 hM_4.2)) (lt2000 (c := 0) (isM_lt hM_4.2 (by decide))) kf_X12_331 (by decide) (by decide) rfl (shM_0 hM_4.2) (isM_n0 (hK.2.2.2.2.2.2.2 _ hM_4.1 hM_4.2)) dX12_readFree_153 rfl ?_
    refine g_iload_n (q := 157) 1 X dX12_readFree_156 rfl rfl rfl ?_
    refine g_iload (q := 159) 4 X dX12_readFree_157 rfl rfl ?_
    obtain ⟨s8, h⟩ := h
    refine g_iast (q := 160) X (shM_9 hM_4.2) (isM_n (hK.2.2.2.2.2.2.2 _ hM_4.1 hM_4.2) (by decide)) s8 dX12_readFree_159 rfl ?_
    refine g_nmM (fun iv9 eiv9 => ?_)
    have h := h iv9 eiv9
    refine g_aload_n (q := 161) 0 X dX12_readFree_160 rfl rfl rfl ?_
    refine g_getR (q := 164) (r := some (gR rv 66 4)) 12 4 X hM_4.1 (lt2000 (c := 0) (isM_lt0 hM_4.2)) kf_X12_167 (by decide) (by decide) rfl rfl (hK.n (by decide)) dX12_readFree_161 rfl ?_
    refine g_dup (q := 165) X dX12_readFree_164 rfl rfl ?_
    refine g_getI (q := 168) 11 6 X kf_X12_334 (by decide) (by decide) rfl (shM_0 hM_4.2) (isM_n0 (hK.2.2.2.2.2.2.2 _ hM_4.1 hM_4.2)) dX12_readFree_165 rfl ?_
    refine g_iconst (q := 169) 1 X dX12_readFree_168 rfl rfl ic_1 ?_
    refine g_iadd (q := 170) X dX12_readFree_169 rfl ?_
    refine g_putI (q := 173) 11 6 X (Or.inl rfl) rfl kf_X12_334 (by decide) (by decide) (shM_0 hM_4.2) (isM_n0 (hK.2.2.2.2.2.2.2 _ hM_4.1 hM_4.2)) dX12_readFree_170 rfl ?_
    refine g_nmM (fun iv10 eiv10 => ?_)
    have h := h iv10 eiv10
    exact g_vret (q := 0) X hR dX12_readFree_173 rfl ⟨rfl, rfl, rfl, h⟩
  · have h := h.2 c3
    exact g_vret (q := 0) X hR dX12_readFree_128 rfl ⟨rfl, rfl, rfl, h⟩
def bd_X12_readFree_98 (l1 l2 l3 t0 : Int) (iv : IV) (rv : RV) (K : IV → Prop) : Prop :=
  ((t0 ≠ (-1)) → (bd_X12_readFree_111 l1 l2 l3 t0 iv rv K)) ∧ ((t0 = (-1)) → (wp_X12_wrong 1 iv rv (fun iv2 => bd_X12_readFree_111 l1 l2 l3 t0 iv2 rv K)))
set_option maxRecDepth 10000 in
theorem cb_X12_readFree_98 {Γ : GX} {n : Nat} {iv : IV} {rv : RV} {K : IV → Prop} {l1 l2 l3 t0 : Int} (X : Cx Γ RX12 cX12_readFree 5 10) (hR : Rt Γ none 0 0 (fV1 n rv K)) (hK : Lk n rv)  (h : bd_X12_readFree_98 l1 l2 l3 t0 iv rv K) : G Γ 5 98 [aR (some 66), aI l1, aI l2, aI l3, aJ] [aI t0] n iv rv 0 0 := by
  unfold bd_X12_readFree_98 at h
  refine g_istore (q := 100) (k0 := 0) 4 (L' := [aR (some 66), aI l1, aI l2, aI l3, aI t0]) X dX12_readFree_98 rfl (by decide) rfl rfl ?_
  refine g_iload (q := 102) 4 X dX12_readFree_100 rfl rfl ?_
  refine g_iconst (q := 103) (-1) X dX12_readFree_102 rfl rfl ic_m1 ?_
  refine g_icmp_ne (q := 106) 111 X dX12_readFree_103 (by decide) rfl (fun c1 => ?_) (fun c1 => ?_)
  · have h := h.1 c1
    exact cb_X12_readFree_111 X hR hK   h
  · have h := h.2 c1
    refine g_aload_n (q := 107) 0 X dX12_readFree_106 rfl rfl rfl ?_
    refine g_iconst (q := 108) 1 X dX12_readFree_107 rfl rfl ic_1 ?_
    refine g_cv (q := 111) [aI 1] 12 X (ce_X12_wrong hK  h) kV_X12_126 rfl (by decide) rfl (hK.n (by decide)) rfl rfl (Nat.le_of_ble_eq_true rfl) (by decide) dX12_readFree_108 rfl (fun r n_ iv_ rv_ hf => ?_)
    obtain ⟨en_, er_, rfl, h⟩ := hf; subst n_; subst rv_
    generalize iv_ = iv2 at h ⊢
    exact cb_X12_readFree_111 X hR hK   h
def wp_X12_readFree (iv : IV) (rv : RV) (K : IV → Prop) : Prop :=
  (hMm rv 66 4) ∧ wp_X12_begins (iv (gR rv 66 4) 6) 6 iv rv (fun iv1 => ∀ x2, x2 = w32 (6 + (iv1 (gR rv 66 4) 6)) → wp_X12_readFresh 4 x2 iv1 rv (fun iv3 => wp_X12_needs 13 iv3 rv (fun iv4 => wp_X12_readKnown 0 iv4 rv (fun r5 iv6 => wp_X12_needs 33 iv6 rv (fun iv7 => wp_X12_readGood iv7 rv (fun r8 iv9 => wp_X12_isWord 34 iv9 rv (fun r10 => ((r10 = 0) → (wp_X12_isWord 49 iv9 rv (fun r12 => ((r12 = 0) → (wp_X12_isWord 4 iv9 rv (fun r14 => ((r14 = 0) → (bd_X12_readFree_98 x2 r5 r8 (-1) iv9 rv K)) ∧ ((¬ (r14 = 0)) → (bd_X12_readFree_98 x2 r5 r8 2 iv9 rv K))))) ∧ ((¬ (r12 = 0)) → (bd_X12_readFree_98 x2 r5 r8 1 iv9 rv K))))) ∧ ((¬ (r10 = 0)) → (bd_X12_readFree_98 x2 r5 r8 0 iv9 rv K)))))))))
set_option maxRecDepth 10000 in
theorem ce_X12_readFree {n : Nat} {iv : IV} {rv : RV} {K : IV → Prop} (hK : Lk n rv)  (h : wp_X12_readFree  iv rv K) : Call 10 0 0 yX12_readFree cX12_readFree 5 none [aR (some 66)] n iv rv (fV1 n rv K) := by
  refine Call.by (L := [aR (some 66), aJ, aJ, aJ, aJ]) (by decide) rfl ⟨trivial, trivial⟩ rfl (Nat.le_of_ble_eq_true rfl) (fun Γ X hR => ?_)
  unfold wp_X12_readFree at h
  refine g_aload_n (q := 1) 0 X dX12_readFree_0 rfl rfl rfl ?_
  refine g_aload_n (q := 2) 0 X dX12_readFree_1 rfl rfl rfl ?_
  obtain ⟨hM_4, h⟩ := h
  refine g_getR (q := 5) (r := some (gR rv 66 4)) 12 4 X hM_4.1 (lt2000 (c := 0) (isM_lt0 hM_4.2)) kf_X12_167 (by decide) (by decide) rfl rfl (hK.n (by decide)) dX12_readFree_2 rfl ?_
  refine g_getI (q := 8) 11 6 X kf_X12_334 (by decide) (by decide) rfl (shM_0 hM_4.2) (isM_n0 (hK.2.2.2.2.2.2.2 _ hM_4.1 hM_4.2)) dX12_readFree_5 rfl ?_
  refine g_bipush (q := 10) 6 X dX12_readFree_8 rfl bc_6 ic_6 ?_
  refine g_cv (q := 13) [aI (iv (gR rv 66 4) 6), aI 6] 12 X (ce_X12_begins hK  h) kV_X12_238 rfl (by decide) rfl (hK.n (by decide)) rfl rfl (Nat.le_of_ble_eq_true rfl) (by decide) dX12_readFree_10 rfl (fun r n_ iv_ rv_ hf => ?_)
  obtain ⟨en_, er_, rfl, h⟩ := hf; subst n_; subst rv_
  generalize iv_ = iv1 at h ⊢
  refine g_bipush (q := 15) 6 X dX12_readFree_13 rfl bc_6 ic_6 ?_
  refine g_aload_n (q := 16) 0 X dX12_readFree_15 rfl rfl rfl ?_
  refine g_getR (q := 19) (r := some (gR rv 66 4)) 12 4 X hM_4.1 (lt2000 (c := 0) (isM_lt0 hM_4.2)) kf_X12_167 (by decide) (by decide) rfl rfl (hK.n (by decide)) dX12_readFree_16 rfl ?_
  refine g_getI (q := 22) 11 6 X kf_X12_334 (by decide) (by decide) rfl (shM_0 hM_4.2) (isM_n0 (hK.2.2.2.2.2.2.2 _ hM_4.1 hM_4.2)) dX12_readFree_19 rfl ?_
  refine g_iadd (q := 23) X dX12_readFree_22 rfl ?_
  refine g_nmI (fun x2 ex2 => ?_)
  have h := h x2 ex2
  refine g_istore_n (q := 24) 1 (L' := [aR (some 66), aI x2, aJ, aJ, aJ]) X dX12_readFree_23 rfl rfl (by decide) rfl rfl ?_
  refine g_aload_n (q := 25) 0 X dX12_readFree_24 rfl rfl rfl ?_
  refine g_iconst (q := 26) 4 X dX12_readFree_25 rfl rfl ic_4 ?_
  refine g_iload_n (q := 27) 1 X dX12_readFree_26 rfl rfl rfl ?_
  refine g_cv (q := 30) [aI 4, aI x2] 12 X (ce_X12_readFresh hK  h) kV_X12_242 rfl (by decide) rfl (hK.n (by decide)) rfl rfl (Nat.le_of_ble_eq_true rfl) (by decide) dX12_readFree_27 rfl (fun r n_ iv_ rv_ hf => ?_)
  obtain ⟨en_, er_, rfl, h⟩ := hf; subst n_; subst rv_
  generalize iv_ = iv3 at h ⊢
  refine g_aload_n (q := 31) 0 X dX12_readFree_30 rfl rfl rfl ?_
  refine g_ldcwS (q := 34) 13 X st_X12_337 (by decide) dX12_readFree_31 rfl ?_
  refine g_cv (q := 37) [aR (some (1000 + 13))] 12 X (ce_X12_needs hK (by decide) h) kV_X12_252 rfl (by decide) rfl (hK.n (by decide)) rfl rfl (Nat.le_of_ble_eq_true rfl) (by decide) dX12_readFree_34 rfl (fun r n_ iv_ rv_ hf => ?_)
  obtain ⟨en_, er_, rfl, h⟩ := hf; subst n_; subst rv_
  generalize iv_ = iv4 at h ⊢
  refine g_aload_n (q := 38) 0 X dX12_readFree_37 rfl rfl rfl ?_
  refine g_iconst (q := 39) 0 X dX12_readFree_38 rfl rfl ic_0 ?_
  refine g_cv (q := 42) [aI 0] 12 X (ce_X12_readKnown hK  h) kV_X12_256 rfl (by decide) rfl (hK.n (by decide)) rfl rfl (Nat.le_of_ble_eq_true rfl) (by decide) dX12_readFree_39 rfl (fun r n_ iv_ rv_ hf => ?_)
  obtain ⟨en_, er_, r5, rfl, h⟩ := hf; subst n_; subst rv_
  generalize iv_ = iv6 at h ⊢
  refine g_istore_n (q := 43) 2 (L' := [aR (some 66), aI x2, aI r5, aJ, aJ]) X dX12_readFree_42 rfl rfl (by decide) rfl rfl ?_
  refine g_aload_n (q := 44) 0 X dX12_readFree_43 rfl rfl rfl ?_
  refine g_ldcwS (q := 47) 33 X st_X12_317 (by decide) dX12_readFree_44 rfl ?_
  refine g_cv (q := 50) [aR (some (1000 + 33))] 12 X (ce_X12_needs hK (by decide) h) kV_X12_252 rfl (by decide) rfl (hK.n (by decide)) rfl rfl (Nat.le_of_ble_eq_true rfl) (by decide) dX12_readFree_47 rfl (fun r n_ iv_ rv_ hf => ?_)
  obtain ⟨en_, er_, rfl, h⟩ := hf; subst n_; subst rv_
  generalize iv_ = iv7 at h ⊢
  refine g_aload_n (q := 51) 0 X dX12_readFree_50 rfl rfl rfl ?_
  refine g_cv (q := 54) [] 12 X (ce_X12_readGood hK  h) kV_X12_319 rfl (by decide) rfl (hK.n (by decide)) rfl rfl (Nat.le_of_ble_eq_true rfl) (by decide) dX12_readFree_51 rfl (fun r n_ iv_ rv_ hf => ?_)
  obtain ⟨en_, er_, r8, rfl, h⟩ := hf; subst n_; subst rv_
  generalize iv_ = iv9 at h ⊢
  refine g_istore_n (q := 55) 3 (L' := [aR (some 66), aI x2, aI r5, aI r8, aJ]) X dX12_readFree_54 rfl rfl (by decide) rfl rfl ?_
  refine g_aload_n (q := 56) 0 X dX12_readFree_55 rfl rfl rfl ?_
  refine g_ldcwS (q := 59) 34 X st_X12_339 (by decide) dX12_readFree_56 rfl ?_
  refine g_cv (q := 62) [aR (some (1000 + 34))] 12 X (ce_X12_isWord hK (by decide) h) kV_X12_119 rfl (by decide) rfl (hK.n (by decide)) rfl rfl (Nat.le_of_ble_eq_true rfl) (by decide) dX12_readFree_59 rfl (fun r n_ iv_ rv_ hf => ?_)
  obtain ⟨en_, ei_, er_, r10, rfl, br10, h⟩ := hf; subst n_; subst iv_; subst rv_
  refine g_if_eq (q := 65) 69 X dX12_readFree_62 (by decide) rfl (fun c11 => ?_) (fun c11 => ?_)
  · have h := h.1 c11
    refine g_aload_n (q := 70) 0 X dX12_readFree_69 rfl rfl rfl ?_
    refine g_ldcwS (q := 73) 49 X st_X12_341 (by decide) dX12_readFree_70 rfl ?_
    refine g_cv (q := 76) [aR (some (1000 + 49))] 12 X (ce_X12_isWord hK (by decide) h) kV_X12_119 rfl (by decide) rfl (hK.n (by decide)) rfl rfl (Nat.le_of_ble_eq_true rfl) (by decide) dX12_readFree_73 rfl (fun r n_ iv_ rv_ hf => ?_)
    obtain ⟨en_, ei_, er_, r12, rfl, br12, h⟩ := hf; subst n_; subst iv_; subst rv_
    refine g_if_eq (q := 79) 83 X dX12_readFree_76 (by decide) rfl (fun c13 => ?_) (fun c13 => ?_)
    · have h := h.1 c13
      refine g_aload_n (q := 84) 0 X dX12_readFree_83 rfl rfl rfl ?_
      refine g_ldcwS (q := 87) 4 X st_X12_343 (by decide) dX12_readFree_84 rfl ?_
      refine g_cv (q := 90) [aR (some (1000 + 4))] 12 X (ce_X12_isWord hK (by decide) h) kV_X12_119 rfl (by decide) rfl (hK.n (by decide)) rfl rfl (Nat.le_of_ble_eq_true rfl) (by decide) dX12_readFree_87 rfl (fun r n_ iv_ rv_ hf => ?_)
      obtain ⟨en_, ei_, er_, r14, rfl, br14, h⟩ := hf; subst n_; subst iv_; subst rv_
      refine g_if_eq (q := 93) 97 X dX12_readFree_90 (by decide) rfl (fun c15 => ?_) (fun c15 => ?_)
      · have h := h.1 c15
        refine g_iconst (q := 98) (-1) X dX12_readFree_97 rfl rfl ic_m1 ?_
        exact cb_X12_readFree_98 X hR hK   h
      · have h := h.2 c15
        refine g_iconst (q := 94) 2 X dX12_readFree_93 rfl rfl ic_2 ?_
        refine g_goto (q := 98) X dX12_readFree_94 (by decide) ?_
        exact cb_X12_readFree_98 X hR hK   h
    · have h := h.2 c13
      refine g_iconst (q := 80) 1 X dX12_readFree_79 rfl rfl ic_1 ?_
      refine g_goto (q := 98) X dX12_readFree_80 (by decide) ?_
      exact cb_X12_readFree_98 X hR hK   h
  · have h := h.2 c11
    refine g_iconst (q := 66) 0 X dX12_readFree_65 rfl rfl ic_0 ?_
    refine g_goto (q := 98) X dX12_readFree_66 (by decide) ?_
    exact cb_X12_readFree_98 X hR hK   h
def wp_X12_readTake (iv : IV) (rv : RV) (K : IV → Prop) : Prop :=
  (hMm rv 66 4) ∧ wp_X12_begins (iv (gR rv 66 4) 5) 6 iv rv (fun iv1 => wp_X12_readFresh 4 (iv1 (gR rv 66 4) 5) iv1 rv (fun iv2 => wp_X12_needs 3 iv2 rv (fun iv3 => wp_X12_readKnown 3 iv3 rv (fun r4 iv5 => wp_X12_needs 33 iv5 rv (fun iv6 => wp_X12_readGood iv6 rv (fun r7 iv8 => wp_X12_needs 8 iv8 rv (fun iv9 => wp_X12_readWhole 1 99 iv9 rv (fun r10 iv11 => (((iv11 66 9) ≠ 5) → (wp_X12_readDay (iv11 (gR rv 66 4) 5) iv11 rv (fun iv13 => (((iv13 66 9) ≠ 5) → ((0 ≤ iv13 (gR rv 66 4) 5 ∧ iv13 (gR rv 66 4) 5 < 16) ∧ ∀ iv16, iv16 = w2 iv13 (gR rv 66 4 + 7) (iv13 (gR rv 66 4) 5).toNat r4 → (0 ≤ iv16 (gR rv 66 4) 5 ∧ iv16 (gR rv 66 4) 5 < 16) ∧ ∀ iv18, iv18 = w2 iv16 (gR rv 66 4 + 8) (iv16 (gR rv 66 4) 5).toNat r7 → (0 ≤ iv18 (gR rv 66 4) 5 ∧ iv18 (gR rv 66 4) 5 < 16) ∧ ∀ iv20, iv20 = w2 iv18 (gR rv 66 4 + 9) (iv18 (gR rv 66 4) 5).toNat r10 → ∀ iv21, iv21 = w2 iv20 (gR rv 66 4) 5 (w32 ((iv20 (gR rv 66 4) 5) + 1)) → K iv21)) ∧ (((iv13 66 9) = 5) → (K iv13))))) ∧ (((iv11 66 9) = 5) → (K iv11))))))))))
set_option maxRecDepth 10000 in
theorem ce_X12_readTake {n : Nat} {iv : IV} {rv : RV} {K : IV → Prop} (hK : Lk n rv)  (h : wp_X12_readTake  iv rv K) : Call 10 0 0 yX12_readTake cX12_readTake 4 none [aR (some 66)] n iv rv (fV1 n rv K) := by
  refine Call.by (L := [aR (some 66), aJ, aJ, aJ]) (by decide) rfl ⟨trivial, trivial⟩ rfl (Nat.le_of_ble_eq_true rfl) (fun Γ X hR => ?_)
  unfold wp_X12_readTake at h
  refine g_aload_n (q := 1) 0 X dX12_readTake_0 rfl rfl rfl ?_
  refine g_aload_n (q := 2) 0 X dX12_readTake_1 rfl rfl rfl ?_
  obtain ⟨hM_4, h⟩ := h
  refine g_getR (q := 5) (r := some (gR rv 66 4)) 12 4 X hM_4.1 (lt2000 (c := 0) (isM_lt0 hM_4.2)) kf_X12_167 (by decide) (by decide) rfl rfl (hK.n (by decide)) dX12_readTake_2 rfl ?_
  refine g_getI (q := 8) 11 5 X kf_X12_313 (by decide) (by decide) rfl (shM_0 hM_4.2) (isM_n0 (hK.2.2.2.2.2.2.2 _ hM_4.1 hM_4.2)) dX12_readTake_5 rfl ?_
  refine g_bipush (q := 10) 6 X dX12_readTake_8 rfl bc_6 ic_6 ?_
  refine g_cv (q := 13) [aI (iv (gR rv 66 4) 5), aI 6] 12 X (ce_X12_begins hK  h) kV_X12_238 rfl (by decide) rfl (hK.n (by decide)) rfl rfl (Nat.le_of_ble_eq_true rfl) (by decide) dX12_readTake_10 rfl (fun r n_ iv_ rv_ hf => ?_)
  obtain ⟨en_, er_, rfl, h⟩ := hf; subst n_; subst rv_
  generalize iv_ = iv1 at h ⊢
  refine g_aload_n (q := 14) 0 X dX12_readTake_13 rfl rfl rfl ?_
  refine g_iconst (q := 15) 4 X dX12_readTake_14 rfl rfl ic_4 ?_
  refine g_aload_n (q := 16) 0 X dX12_readTake_15 rfl rfl rfl ?_
  refine g_getR (q := 19) (r := some (gR rv 66 4)) 12 4 X hM_4.1 (lt2000 (c := 0) (isM_lt0 hM_4.2)) kf_X12_167 (by decide) (by decide) rfl rfl (hK.n (by decide)) dX12_readTake_16 rfl ?_
  refine g_getI (q := 22) 11 5 X kf_X12_313 (by decide) (by decide) rfl (shM_0 hM_4.2) (isM_n0 (hK.2.2.2.2.2.2.2 _ hM_4.1 hM_4.2)) dX12_readTake_19 rfl ?_
  refine g_cv (q := 25) [aI 4, aI (iv1 (gR rv 66 4) 5)] 12 X (ce_X12_readFresh hK  h) kV_X12_242 rfl (by decide) rfl (hK.n (by decide)) rfl rfl (Nat.le_of_ble_eq_true rfl) (by decide) dX12_readTake_22 rfl (fun r n_ iv_ rv_ hf => ?_)
  obtain ⟨en_, er_, rfl, h⟩ := hf; subst n_; subst rv_
  generalize iv_ = iv2 at h ⊢
  refine g_aload_n (q := 26) 0 X dX12_readTake_25 rfl rfl rfl ?_
  refine g_ldcwS (q := 29) 3 X st_X12_316 (by decide) dX12_readTake_26 rfl ?_
  refine g_cv (q := 32) [aR (some (1000 + 3))] 12 X (ce_X12_needs hK (by decide) h) kV_X12_252 rfl (by decide) rfl (hK.n (by decide)) rfl rfl (Nat.le_of_ble_eq_true rfl) (by decide) dX12_readTake_29 rfl (fun r n_ iv_ rv_ hf => ?_)
  obtain ⟨en_, er_, rfl, h⟩ := hf; subst n_; subst rv_
  generalize iv_ = iv3 at h ⊢
  refine g_aload_n (q := 33) 0 X dX12_readTake_32 rfl rfl rfl ?_
  refine g_iconst (q := 34) 3 X dX12_readTake_33 rfl rfl ic_3 ?_
  refine g_cv (q := 37) [aI 3] 12 X (ce_X12_readKnown hK  h) kV_X12_256 rfl (by decide) rfl (hK.n (by decide)) rfl rfl (Nat.le_of_ble_eq_true rfl) (by decide) dX12_readTake_34 rfl (fun r n_ iv_ rv_ hf => ?_)
  obtain ⟨en_, er_, r4, rfl, h⟩ := hf; subst n_; subst rv_
  generalize iv_ = iv5 at h ⊢
  refine g_istore_n (q := 38) 1 (L' := [aR (some 66), aI r4, aJ, aJ]) X dX12_readTake_37 rfl rfl (by decide) rfl rfl ?_
  refine g_aload_n (q := 39) 0 X dX12_readTake_38 rfl rfl rfl ?_
  refine g_ldcwS (q := 42) 33 X st_X12_317 (by decide) dX12_readTake_39 rfl ?_
  refine g_cv (q := 45) [aR (some (1000 + 33))] 12 X (ce_X12_needs hK (by decide) h) kV_X12_252 rfl (by decide) rfl (hK.n (by decide)) rfl rfl (Nat.le_of_ble_eq_true rfl) (by decide) dX12_readTake_42 rfl (fun r n_ iv_ rv_ hf => ?_)
  obtain ⟨en_, er_, rfl, h⟩ := hf; subst n_; subst rv_
  generalize iv_ = iv6 at h ⊢
  refine g_aload_n (q := 46) 0 X dX12_readTake_45 rfl rfl rfl ?_
  refine g_cv (q := 49) [] 12 X (ce_X12_readGood hK  h) kV_X12_319 rfl (by decide) rfl (hK.n (by decide)) rfl rfl (Nat.le_of_ble_eq_true rfl) (by decide) dX12_readTake_46 rfl (fun r n_ iv_ rv_ hf => ?_)
  obtain ⟨en_, er_, r7, rfl, h⟩ := hf; subst n_; subst rv_
  generalize iv_ = iv8 at h ⊢
  refine g_istore_n (q := 50) 2 (L' := [aR (some 66), aI r4, aI r7, aJ]) X dX12_readTake_49 rfl rfl (by decide) rfl rfl ?_
  refine g_aload_n (q := 51) 0 X dX12_readTake_50 rfl rfl rfl ?_
  refine g_ldcwS (q := 54) 8 X st_X12_322 (by decide) dX12_readTake_51 rfl ?_
  refine g_cv (q := 57) [aR (some (1000 + 8))] 12 X (ce_X12_needs hK (by decide) h) kV_X12_252 rfl (by decide) rfl (hK.n (by decide)) rfl rfl (Nat.le_of_ble_eq_true rfl) (by decide) dX12_readTake_54 rfl (fun r n_ iv_ rv_ hf => ?_)
  obtain ⟨en_, er_, rfl, h⟩ := hf; subst n_; subst rv_
  generalize iv_ = iv9 at h ⊢
  refine g_aload_n (q := 58) 0 X dX12_readTake_57 rfl rfl rfl ?_
  refine g_iconst (q := 59) 1 X dX12_readTake_58 rfl rfl ic_1 ?_
  refine g_bipush (q := 61) 99 X dX12_readTake_59 rfl bc_99 ic_99 ?_
  refine g_cv (q := 64) [aI 1, aI 99] 12 X (ce_X12_readWhole hK  h) kV_X12_261 rfl (by decide) rfl (hK.n (by decide)) rfl rfl (Nat.le_of_ble_eq_true rfl) (by decide) dX12_readTake_61 rfl (fun r n_ iv_ rv_ hf => ?_)
  obtain ⟨en_, er_, r10, rfl, h⟩ := hf; subst n_; subst rv_
  generalize iv_ = iv11 at h ⊢
  refine g_istore_n (q := 65) 3 (L' := [aR (some 66), aI r4, aI r7, aI r10]) X dX12_readTake_64 rfl rfl (by decide) rfl rfl ?_
  refine g_aload_n (q := 66) 0 X dX12_readTake_65 rfl rfl rfl ?_
  refine g_getI (q := 69) 12 9 X kf_X12_83 (by decide) (by decide) rfl rfl (hK.n (by decide)) dX12_readTake_66 rfl ?_
  refine g_iconst (q := 70) 5 X dX12_readTake_69 rfl rfl ic_5 ?_
  refine g_icmp_ne (q := 73) 74 X dX12_readTake_70 (by decide) rfl (fun c12 => ?_) (fun c12 => ?_)
  · have h := h.1 c12
    refine g_aload_n (q := 75) 0 X dX12_readTake_74 rfl rfl rfl ?_
    refine g_aload_n (q := 76) 0 X dX12_readTake_75 rfl rfl rfl ?_
    refine g_getR (q := 79) (r := some (gR rv 66 4)) 12 4 X hM_4.1 (lt2000 (c := 0) (isM_lt0 hM_4.2)) kf_X12_167 (by decide) (by decide) rfl rfl (hK.n (by decide)) dX12_readTake_76 rfl ?_
    refine g_getI (q := 82) 11 5 X kf_X12_313 (by decide) (by decide) rfl (shM_0 hM_4.2) (isM_n0 (hK.2.2.2.2.2.2.2 _ hM_4.1 hM_4.2)) dX12_readTake_79 rfl ?_
    refine g_cv (q := 85) [aI (iv11 (gR rv 66 4) 5)] 12 X (ce_X12_readDay hK  h) kV_X12_324 rfl (by decide) rfl (hK.n (by decide)) rfl rfl (Nat.le_of_ble_eq_true rfl) (by decide) dX12_readTake_82 rfl (fun r n_ iv_ rv_ hf => ?_)
    obtain ⟨en_, er_, rfl, h⟩ := hf; subst n_; subst rv_
    generalize iv_ = iv13 at h ⊢
    refine g_aload_n (q := 86) 0 X dX12_readTake_85 rfl rfl rfl ?_
    refine g_getI (q := 89) 12 9 X kf_X12_83 (by decide) (by decide) rfl rfl (hK.n (by decide)) dX12_readTake_86 rfl ?_
    refine g_iconst (q := 90) 5 X dX12_readTake_89 rfl rfl ic_5 ?_
    refine g_icmp_ne (q := 93) 94 X dX12_readTake_90 (by decide) rfl (fun c14 => ?_) (fun c14 => ?_)
    · have h := h.1 c14
      refine g_aload_n (q := 95) 0 X dX12_readTake_94 rfl rfl rfl ?_
      refine g_getR (q := 98) (r := some (gR rv 66 4)) 12 4 X hM_4.1 (lt2000 (c := 0) (isM_lt0 hM_4.2)) kf_X12_167 (by decide) (by decide) rfl rfl (hK.n (by decide)) dX12_readTake_95 rfl ?_
      refine g_getR (q := 101) (r := some (gR rv 66 4 + 7)) 11 20 X (lkM_20 hK hM_4.2 (hK.2.2.2.2.2.2.2 _ hM_4.1 hM_4.2)) (lt2000 (c := 0) (isM_lt hM_4.2 (by decide))) kf_X12_327 (by decide) (by decide) rfl (shM_0 hM_4.2) (isM_n0 (hK.2.2.2.2.2.2.2 _ hM_4.1 hM_4.2)) dX12_readTake_98 rfl ?_
      refine g_aload_n (q := 102) 0 X dX12_readTake_101 rfl rfl rfl ?_
      refine g_getR (q := 105) (r := some (gR rv 66 4)) 12 4 X hM_4.1 (lt2000 (c := 0) (isM_lt0 hM_4.2)) kf_X12_167 (by decide) (by decide) rfl rfl (hK.n (by decide)) dX12_readTake_102 rfl ?_
      refine g_getI (q := 108) 11 5 X kf_X12_313 (by decide) (by decide) rfl (shM_0 hM_4.2) (isM_n0 (hK.2.2.2.2.2.2.2 _ hM_4.1 hM_4.2)) dX12_readTake_105 rfl ?_
      refine g_iload_n (q := 109) 1 X dX12_readTake_108 rfl rfl rfl ?_
      obtain ⟨s15, h⟩ := h
      refine g_iast (q := 110) X (shM_7 hM_4.2) (isM_n (hK.2.2.2.2.2.2.2 _ hM_4.1 hM_4.2) (by decide)) s15 dX12_readTake_109 rfl ?_
      refine g_nmM (fun iv16 eiv16 => ?_)
      have h := h iv16 eiv16
      refine g_aload_n (q := 111) 0 X dX12_readTake_110 rfl rfl rfl ?_
      refine g_getR (q := 114) (r := some (gR rv 66 4)) 12 4 X hM_4.1 (lt2000 (c := 0) (isM_lt0 hM_4.2)) kf_X12_167 (by decide) (by decide) rfl rfl (hK.n (by decide)) dX12_readTake_111 rfl ?_
      refine g_getR (q := 117) (r := some (gR rv 66 4 + 8)) 11 21 X (lkM_21 hK hM_4.2 (hK.2.2.2.2.2.2.2 _ hM_4.1 hM_4.2)) (lt2000 (c := 0) (isM_lt hM_4.2 (by decide))) kf_X12_329 (by decide) (by decide) rfl (shM_0 hM_4.2) (isM_n0 (hK.2.2.2.2.2.2.2 _ hM_4.1 hM_4.2)) dX12_readTake_114 rfl ?_
      refine g_aload_n (q := 118) 0 X dX12_readTake_117 rfl rfl rfl ?_
      refine g_getR (q := 121) (r := some (gR rv 66 4)) 12 4 X hM_4.1 (lt2000 (c := 0) (isM_lt0 hM_4.2)) kf_X12_167 (by decide) (by decide) rfl rfl (hK.n (by decide)) dX12_readTake_118 rfl ?_
      refine g_getI (q := 124) 11 5 X kf_X12_313 (by decide) (by decide) rfl (shM_0 hM_4.2) (isM_n0 (hK.2.2.2.2.2.2.2 _ hM_4.1 hM_4.2)) dX12_readTake_121 rfl ?_
      refine g_iload_n (q := 125) 2 X dX12_readTake_124 rfl rfl rfl ?_
      obtain ⟨s17, h⟩ := h
      refine g_iast (q := 126) X (shM_8 hM_4.2) (isM_n (hK.2.2.2.2.2.2.2 _ hM_4.1 hM_4.2) (by decide)) s17 dX12_readTake_125 rfl ?_
      refine g_nmM (fun iv18 eiv18 => ?_)
      have h := h iv18 eiv18
      refine g_aload_n (q := 127) 0 X dX12_readTake_126 rfl rfl rfl ?_
      refine g_getR (q := 130) (r := some (gR rv 66 4)) 12 4 X hM_4.1 (lt2000 (c := 0) (isM_lt0 hM_4.2)) kf_X12_167 (by decide) (by decide) rfl rfl (hK.n (by decide)) dX12_readTake_127 rfl ?_
      refine g_getR (q := 133) (r := some (gR rv 66 4 + 9)) 11 22 X (lkM_22 hK hM_4.2 (hK.2.2.2.2.2.2.2 _ hM_4.1 hM_4.2)) (lt2000 (c := 0) (isM_lt hM_4.2 (by decide))) kf_X12_331 (by decide) (by decide) rfl (shM_0 hM_4.2) (isM_n0 (hK.2.2.2.2.2.2.2 _ hM_4.1 hM_4.2)) dX12_readTake_130 rfl ?_
      refine g_aload_n (q := 134) 0 X dX12_readTake_133 rfl rfl rfl ?_
      refine g_getR (q := 137) (r := some (gR rv 66 4)) 12 4 X hM_4.1 (lt2000 (c := 0) (isM_lt0 hM_4.2)) kf_X12_167 (by decide) (by decide) rfl rfl (hK.n (by decide)) dX12_readTake_134 rfl ?_
      refine g_getI (q := 140) 11 5 X kf_X12_313 (by decide) (by decide) rfl (shM_0 hM_4.2) (isM_n0 (hK.2.2.2.2.2.2.2 _ hM_4.1 hM_4.2)) dX12_readTake_137 rfl ?_
      refine g_iload_n (q := 141) 3 X dX12_readTake_140 rfl rfl rfl ?_
      obtain ⟨s19, h⟩ := h
      refine g_iast (q := 142) X (shM_9 hM_4.2) (isM_n (hK.2.2.2.2.2.2.2 _ hM_4.1 hM_4.2) (by decide)) s19 dX12_readTake_141 rfl ?_
      refine g_nmM (fun iv20 eiv20 => ?_)
      have h := h iv20 eiv20
      refine g_aload_n (q := 143) 0 X dX12_readTake_142 rfl rfl rfl ?_
      refine g_getR (q := 146) (r := some (gR rv 66 4)) 12 4 X hM_4.1 (lt2000 (c := 0) (isM_lt0 hM_4.2)) kf_X12_167 (by decide) (by decide) rfl rfl (hK.n (by decide)) dX12_readTake_143 rfl ?_
      refine g_dup (q := 147) X dX12_readTake_146 rfl rfl ?_
      refine g_getI (q := 150) 11 5 X kf_X12_313 (by decide) (by decide) rfl (shM_0 hM_4.2) (isM_n0 (hK.2.2.2.2.2.2.2 _ hM_4.1 hM_4.2)) dX12_readTake_147 rfl ?_
      refine g_iconst (q := 151) 1 X dX12_readTake_150 rfl rfl ic_1 ?_
      refine g_iadd (q := 152) X dX12_readTake_151 rfl ?_
      refine g_putI (q := 155) 11 5 X (Or.inl rfl) rfl kf_X12_313 (by decide) (by decide) (shM_0 hM_4.2) (isM_n0 (hK.2.2.2.2.2.2.2 _ hM_4.1 hM_4.2)) dX12_readTake_152 rfl ?_
      refine g_nmM (fun iv21 eiv21 => ?_)
      have h := h iv21 eiv21
      exact g_vret (q := 0) X hR dX12_readTake_155 rfl ⟨rfl, rfl, rfl, h⟩
    · have h := h.2 c14
      exact g_vret (q := 0) X hR dX12_readTake_93 rfl ⟨rfl, rfl, rfl, h⟩
  · have h := h.2 c12
    exact g_vret (q := 0) X hR dX12_readTake_73 rfl ⟨rfl, rfl, rfl, h⟩
def wp_X12_readEdge (a1 : Int) (iv : IV) (rv : RV) (K : IV → Prop) : Prop :=
  wp_X12_readKnown 0 iv rv (fun r1 iv2 => wp_X12_needs 48 iv2 rv (fun iv3 => wp_X12_readOther r1 iv3 rv (fun r4 iv5 => wp_X12_needs 23 iv5 rv (fun iv6 => wp_X12_readWhole 1 99 iv6 rv (fun r7 iv8 => (((iv8 66 9) ≠ 5) → ((hMm rv 66 4) ∧ (0 ≤ iv8 (gR rv 66 4) 13 ∧ iv8 (gR rv 66 4) 13 < 20) ∧ ∀ iv11, iv11 = w2 iv8 (gR rv 66 4 + 3) (iv8 (gR rv 66 4) 13).toNat r1 → (0 ≤ iv11 (gR rv 66 4) 13 ∧ iv11 (gR rv 66 4) 13 < 20) ∧ ∀ iv13, iv13 = w2 iv11 (gR rv 66 4 + 4) (iv11 (gR rv 66 4) 13).toNat r4 → (0 ≤ iv13 (gR rv 66 4) 13 ∧ iv13 (gR rv 66 4) 13 < 20) ∧ ∀ iv15, iv15 = w2 iv13 (gR rv 66 4 + 5) (iv13 (gR rv 66 4) 13).toNat r7 → (0 ≤ iv15 (gR rv 66 4) 13 ∧ iv15 (gR rv 66 4) 13 < 20) ∧ ∀ iv17, iv17 = w2 iv15 (gR rv 66 4 + 6) (iv15 (gR rv 66 4) 13).toNat a1 → ∀ iv18, iv18 = w2 iv17 (gR rv 66 4) 13 (w32 ((iv17 (gR rv 66 4) 13) + 1)) → K iv18)) ∧ (((iv8 66 9) = 5) → (K iv8)))))))
set_option maxRecDepth 10000 in
theorem ce_X12_readEdge {n : Nat} {iv : IV} {rv : RV} {K : IV → Prop} {a1 : Int} (hK : Lk n rv)  (h : wp_X12_readEdge a1 iv rv K) : Call 9 0 0 yX12_readEdge cX12_readEdge 5 none [aR (some 66), aI a1] n iv rv (fV1 n rv K) := by
  refine Call.by (L := [aR (some 66), aI a1, aJ, aJ, aJ]) (by decide) rfl ⟨trivial, trivial, trivial⟩ rfl (Nat.le_of_ble_eq_true rfl) (fun Γ X hR => ?_)
  unfold wp_X12_readEdge at h
  refine g_aload_n (q := 1) 0 X dX12_readEdge_0 rfl rfl rfl ?_
  refine g_iconst (q := 2) 0 X dX12_readEdge_1 rfl rfl ic_0 ?_
  refine g_cv (q := 5) [aI 0] 12 X (ce_X12_readKnown hK  h) kV_X12_256 rfl (by decide) rfl (hK.n (by decide)) rfl rfl (Nat.le_of_ble_eq_true rfl) (by decide) dX12_readEdge_2 rfl (fun r n_ iv_ rv_ hf => ?_)
  obtain ⟨en_, er_, r1, rfl, h⟩ := hf; subst n_; subst rv_
  generalize iv_ = iv2 at h ⊢
  refine g_istore_n (q := 6) 2 (L' := [aR (some 66), aI a1, aI r1, aJ, aJ]) X dX12_readEdge_5 rfl rfl (by decide) rfl rfl ?_
  refine g_aload_n (q := 7) 0 X dX12_readEdge_6 rfl rfl rfl ?_
  refine g_ldcS (q := 9) 48 X st_X12_159 (by decide) dX12_readEdge_7 rfl ?_
  refine g_cv (q := 12) [aR (some (1000 + 48))] 12 X (ce_X12_needs hK (by decide) h) kV_X12_252 rfl (by decide) rfl (hK.n (by decide)) rfl rfl (Nat.le_of_ble_eq_true rfl) (by decide) dX12_readEdge_9 rfl (fun r n_ iv_ rv_ hf => ?_)
  obtain ⟨en_, er_, rfl, h⟩ := hf; subst n_; subst rv_
  generalize iv_ = iv3 at h ⊢
  refine g_aload_n (q := 13) 0 X dX12_readEdge_12 rfl rfl rfl ?_
  refine g_iload_n (q := 14) 2 X dX12_readEdge_13 rfl rfl rfl ?_
  refine g_cv (q := 17) [aI r1] 12 X (ce_X12_readOther hK  h) kV_X12_271 rfl (by decide) rfl (hK.n (by decide)) rfl rfl (Nat.le_of_ble_eq_true rfl) (by decide) dX12_readEdge_14 rfl (fun r n_ iv_ rv_ hf => ?_)
  obtain ⟨en_, er_, r4, rfl, h⟩ := hf; subst n_; subst rv_
  generalize iv_ = iv5 at h ⊢
  refine g_istore_n (q := 18) 3 (L' := [aR (some 66), aI a1, aI r1, aI r4, aJ]) X dX12_readEdge_17 rfl rfl (by decide) rfl rfl ?_
  refine g_aload_n (q := 19) 0 X dX12_readEdge_18 rfl rfl rfl ?_
  refine g_ldcwS (q := 22) 23 X st_X12_274 (by decide) dX12_readEdge_19 rfl ?_
  refine g_cv (q := 25) [aR (some (1000 + 23))] 12 X (ce_X12_needs hK (by decide) h) kV_X12_252 rfl (by decide) rfl (hK.n (by decide)) rfl rfl (Nat.le_of_ble_eq_true rfl) (by decide) dX12_readEdge_22 rfl (fun r n_ iv_ rv_ hf => ?_)
  obtain ⟨en_, er_, rfl, h⟩ := hf; subst n_; subst rv_
  generalize iv_ = iv6 at h ⊢
  refine g_aload_n (q := 26) 0 X dX12_readEdge_25 rfl rfl rfl ?_
  refine g_iconst (q := 27) 1 X dX12_readEdge_26 rfl rfl ic_1 ?_
  refine g_bipush (q := 29) 99 X dX12_readEdge_27 rfl bc_99 ic_99 ?_
  refine g_cv (q := 32) [aI 1, aI 99] 12 X (ce_X12_readWhole hK  h) kV_X12_261 rfl (by decide) rfl (hK.n (by decide)) rfl rfl (Nat.le_of_ble_eq_true rfl) (by decide) dX12_readEdge_29 rfl (fun r n_ iv_ rv_ hf => ?_)
  obtain ⟨en_, er_, r7, rfl, h⟩ := hf; subst n_; subst rv_
  generalize iv_ = iv8 at h ⊢
  refine g_istore (q := 34) (k0 := 0) 4 (L' := [aR (some 66), aI a1, aI r1, aI r4, aI r7]) X dX12_readEdge_32 rfl (by decide) rfl rfl ?_
  refine g_aload_n (q := 35) 0 X dX12_readEdge_34 rfl rfl rfl ?_
  refine g_getI (q := 38) 12 9 X kf_X12_83 (by decide) (by decide) rfl rfl (hK.n (by decide)) dX12_readEdge_35 rfl ?_
  refine g_iconst (q := 39) 5 X dX12_readEdge_38 rfl rfl ic_5 ?_
  refine g_icmp_ne (q := 42) 43 X dX12_readEdge_39 (by decide) rfl (fun c9 => ?_) (fun c9 => ?_)
  · have h := h.1 c9
    refine g_aload_n (q := 44) 0 X dX12_readEdge_43 rfl rfl rfl ?_
    obtain ⟨hM_4, h⟩ := h
    refine g_getR (q := 47) (r := some (gR rv 66 4)) 12 4 X hM_4.1 (lt2000 (c := 0) (isM_lt0 hM_4.2)) kf_X12_167 (by decide) (by decide) rfl rfl (hK.n (by decide)) dX12_readEdge_44 rfl ?_
    refine g_getR (q := 50) (r := some (gR rv 66 4 + 3)) 11 16 X (lkM_16 hK hM_4.2 (hK.2.2.2.2.2.2.2 _ hM_4.1 hM_4.2)) (lt2000 (c := 0) (isM_lt hM_4.2 (by decide))) kf_X12_276 (by decide) (by decide) rfl (shM_0 hM_4.2) (isM_n0 (hK.2.2.2.2.2.2.2 _ hM_4.1 hM_4.2)) dX12_readEdge_47 rfl ?_
    refine g_aload_n (q := 51) 0 X dX12_readEdge_50 rfl rfl rfl ?_
    refine g_getR (q := 54) (r := some (gR rv 66 4)) 12 4 X hM_4.1 (lt2000 (c := 0) (isM_lt0 hM_4.2)) kf_X12_167 (by decide) (by decide) rfl rfl (hK.n (by decide)) dX12_readEdge_51 rfl ?_
    refine g_getI (q := 57) 11 13 X kf_X12_279 (by decide) (by decide) rfl (shM_0 hM_4.2) (isM_n0 (hK.2.2.2.2.2.2.2 _ hM_4.1 hM_4.2)) dX12_readEdge_54 rfl ?_
    refine g_iload_n (q := 58) 2 X dX12_readEdge_57 rfl rfl rfl ?_
    obtain ⟨s10, h⟩ := h
    refine g_iast (q := 59) X (shM_3 hM_4.2) (isM_n (hK.2.2.2.2.2.2.2 _ hM_4.1 hM_4.2) (by decide)) s10 dX12_readEdge_58 rfl ?_
    refine g_nmM (fun iv11 eiv11 => ?_)
    have h := h iv11 eiv11
    refine g_aload_n (q := 60) 0 X dX12_readEdge_59 rfl rfl rfl ?_
    refine g_getR (q := 63) (r := some (gR rv 66 4)) 12 4 X hM_4.1 (lt2000 (c := 0) (isM_lt0 hM_4.2)) kf_X12_167 (by decide) (by decide) rfl rfl (hK.n (by decide)) dX12_readEdge_60 rfl ?_
    refine g_getR (q := 66) (r := some (gR rv 66 4 + 4)) 11 17 X (lkM_17 hK hM_4.2 (hK.2.2.2.2.2.2.2 _ hM_4.1 hM_4.2)) (lt2000 (c := 0) (isM_lt hM_4.2 (by decide))) kf_X12_282 (by decide) (by decide) rfl (shM_0 hM_4.2) (isM_n0 (hK.2.2.2.2.2.2.2 _ hM_4.1 hM_4.2)) dX12_readEdge_63 rfl ?_
    refine g_aload_n (q := 67) 0 X dX12_readEdge_66 rfl rfl rfl ?_
    refine g_getR (q := 70) (r := some (gR rv 66 4)) 12 4 X hM_4.1 (lt2000 (c := 0) (isM_lt0 hM_4.2)) kf_X12_167 (by decide) (by decide) rfl rfl (hK.n (by decide)) dX12_readEdge_67 rfl ?_
    refine g_getI (q := 73) 11 13 X kf_X12_279 (by decide) (by decide) rfl (shM_0 hM_4.2) (isM_n0 (hK.2.2.2.2.2.2.2 _ hM_4.1 hM_4.2)) dX12_readEdge_70 rfl ?_
    refine g_iload_n (q := 74) 3 X dX12_readEdge_73 rfl rfl rfl ?_
    obtain ⟨s12, h⟩ := h
    refine g_iast (q := 75) X (shM_4 hM_4.2) (isM_n (hK.2.2.2.2.2.2.2 _ hM_4.1 hM_4.2) (by decide)) s12 dX12_readEdge_74 rfl ?_
    refine g_nmM (fun iv13 eiv13 => ?_)
    have h := h iv13 eiv13
    refine g_aload_n (q := 76) 0 X dX12_readEdge_75 rfl rfl rfl ?_
    refine g_getR (q := 79) (r := some (gR rv 66 4)) 12 4 X hM_4.1 (lt2000 (c := 0) (isM_lt0 hM_4.2)) kf_X12_167 (by decide) (by decide) rfl rfl (hK.n (by decide)) dX12_readEdge_76 rfl ?_
    refine g_getR (q := 82) (r := some (gR rv 66 4 + 5)) 11 18 X (lkM_18 hK hM_4.2 (hK.2.2.2.2.2.2.2 _ hM_4.1 hM_4.2)) (lt2000 (c := 0) (isM_lt hM_4.2 (by decide))) kf_X12_285 (by decide) (by decide) rfl (shM_0 hM_4.2) (isM_n0 (hK.2.2.2.2.2.2.2 _ hM_4.1 hM_4.2)) dX12_readEdge_79 rfl ?_
    refine g_aload_n (q := 83) 0 X dX12_readEdge_82 rfl rfl rfl ?_
    refine g_getR (q := 86) (r := some (gR rv 66 4)) 12 4 X hM_4.1 (lt2000 (c := 0) (isM_lt0 hM_4.2)) kf_X12_167 (by decide) (by decide) rfl rfl (hK.n (by decide)) dX12_readEdge_83 rfl ?_
    refine g_getI (q := 89) 11 13 X kf_X12_279 (by decide) (by decide) rfl (shM_0 hM_4.2) (isM_n0 (hK.2.2.2.2.2.2.2 _ hM_4.1 hM_4.2)) dX12_readEdge_86 rfl ?_
    refine g_iload (q := 91) 4 X dX12_readEdge_89 rfl rfl ?_
    obtain ⟨s14, h⟩ := h
    refine g_iast (q := 92) X (shM_5 hM_4.2) (isM_n (hK.2.2.2.2.2.2.2 _ hM_4.1 hM_4.2) (by decide)) s14 dX12_readEdge_91 rfl ?_
    refine g_nmM (fun iv15 eiv15 => ?_)
    have h := h iv15 eiv15
    refine g_aload_n (q := 93) 0 X dX12_readEdge_92 rfl rfl rfl ?_
    refine g_getR (q := 96) (r := some (gR rv 66 4)) 12 4 X hM_4.1 (lt2000 (c := 0) (isM_lt0 hM_4.2)) kf_X12_167 (by decide) (by decide) rfl rfl (hK.n (by decide)) dX12_readEdge_93 rfl ?_
    refine g_getR (q := 99) (r := some (gR rv 66 4 + 6)) 11 19 X (lkM_19 hK hM_4.2 (hK.2.2.2.2.2.2.2 _ hM_4.1 hM_4.2)) (lt2000 (c := 0) (isM_lt hM_4.2 (by decide))) kf_X12_288 (by decide) (by decide) rfl (shM_0 hM_4.2) (isM_n0 (hK.2.2.2.2.2.2.2 _ hM_4.1 hM_4.2)) dX12_readEdge_96 rfl ?_
    refine g_aload_n (q := 100) 0 X dX12_readEdge_99 rfl rfl rfl ?_
    refine g_getR (q := 103) (r := some (gR rv 66 4)) 12 4 X hM_4.1 (lt2000 (c := 0) (isM_lt0 hM_4.2)) kf_X12_167 (by decide) (by decide) rfl rfl (hK.n (by decide)) dX12_readEdge_100 rfl ?_
    refine g_getI (q := 106) 11 13 X kf_X12_279 (by decide) (by decide) rfl (shM_0 hM_4.2) (isM_n0 (hK.2.2.2.2.2.2.2 _ hM_4.1 hM_4.2)) dX12_readEdge_103 rfl ?_
    refine g_iload_n (q := 107) 1 X dX12_readEdge_106 rfl rfl rfl ?_
    obtain ⟨s16, h⟩ := h
    refine g_iast (q := 108) X (shM_6 hM_4.2) (isM_n (hK.2.2.2.2.2.2.2 _ hM_4.1 hM_4.2) (by decide)) s16 dX12_readEdge_107 rfl ?_
    refine g_nmM (fun iv17 eiv17 => ?_)
    have h := h iv17 eiv17
    refine g_aload_n (q := 109) 0 X dX12_readEdge_108 rfl rfl rfl ?_
    refine g_getR (q := 112) (r := some (gR rv 66 4)) 12 4 X hM_4.1 (lt2000 (c := 0) (isM_lt0 hM_4.2)) kf_X12_167 (by decide) (by decide) rfl rfl (hK.n (by decide)) dX12_readEdge_109 rfl ?_
    refine g_dup (q := 113) X dX12_readEdge_112 rfl rfl ?_
    refine g_getI (q := 116) 11 13 X kf_X12_279 (by decide) (by decide) rfl (shM_0 hM_4.2) (isM_n0 (hK.2.2.2.2.2.2.2 _ hM_4.1 hM_4.2)) dX12_readEdge_113 rfl ?_
    refine g_iconst (q := 117) 1 X dX12_readEdge_116 rfl rfl ic_1 ?_
    refine g_iadd (q := 118) X dX12_readEdge_117 rfl ?_
    refine g_putI (q := 121) 11 13 X (Or.inl rfl) rfl kf_X12_279 (by decide) (by decide) (shM_0 hM_4.2) (isM_n0 (hK.2.2.2.2.2.2.2 _ hM_4.1 hM_4.2)) dX12_readEdge_118 rfl ?_
    refine g_nmM (fun iv18 eiv18 => ?_)
    have h := h iv18 eiv18
    exact g_vret (q := 0) X hR dX12_readEdge_121 rfl ⟨rfl, rfl, rfl, h⟩
  · have h := h.2 c9
    exact g_vret (q := 0) X hR dX12_readEdge_42 rfl ⟨rfl, rfl, rfl, h⟩
def wp_X12_readBridge (iv : IV) (rv : RV) (K : IV → Prop) : Prop :=
  (hMm rv 66 4) ∧ wp_X12_begins (iv (gR rv 66 4) 4) 8 iv rv (fun iv1 => wp_X12_readFresh 3 (iv1 (gR rv 66 4) 4) iv1 rv (fun iv2 => wp_X12_needs 6 iv2 rv (fun iv3 => wp_X12_readEdge (iv3 (gR rv 66 4) 4) iv3 rv (fun iv4 => (((iv4 66 9) = 5) → (K iv4)) ∧ ((¬ ((iv4 66 9) = 5)) → (∀ iv6, iv6 = w2 iv4 (gR rv 66 4) 4 (w32 ((iv4 (gR rv 66 4) 4) + 1)) → K iv6))))))
set_option maxRecDepth 10000 in
theorem ce_X12_readBridge {n : Nat} {iv : IV} {rv : RV} {K : IV → Prop} (hK : Lk n rv)  (h : wp_X12_readBridge  iv rv K) : Call 10 0 0 yX12_readBridge cX12_readBridge 1 none [aR (some 66)] n iv rv (fV1 n rv K) := by
  refine Call.by (L := [aR (some 66)]) (by decide) rfl ⟨trivial, trivial⟩ rfl (Nat.le_of_ble_eq_true rfl) (fun Γ X hR => ?_)
  unfold wp_X12_readBridge at h
  refine g_aload_n (q := 1) 0 X dX12_readBridge_0 rfl rfl rfl ?_
  refine g_aload_n (q := 2) 0 X dX12_readBridge_1 rfl rfl rfl ?_
  obtain ⟨hM_4, h⟩ := h
  refine g_getR (q := 5) (r := some (gR rv 66 4)) 12 4 X hM_4.1 (lt2000 (c := 0) (isM_lt0 hM_4.2)) kf_X12_167 (by decide) (by decide) rfl rfl (hK.n (by decide)) dX12_readBridge_2 rfl ?_
  refine g_getI (q := 8) 11 4 X kf_X12_297 (by decide) (by decide) rfl (shM_0 hM_4.2) (isM_n0 (hK.2.2.2.2.2.2.2 _ hM_4.1 hM_4.2)) dX12_readBridge_5 rfl ?_
  refine g_bipush (q := 10) 8 X dX12_readBridge_8 rfl bc_8 ic_8 ?_
  refine g_cv (q := 13) [aI (iv (gR rv 66 4) 4), aI 8] 12 X (ce_X12_begins hK  h) kV_X12_238 rfl (by decide) rfl (hK.n (by decide)) rfl rfl (Nat.le_of_ble_eq_true rfl) (by decide) dX12_readBridge_10 rfl (fun r n_ iv_ rv_ hf => ?_)
  obtain ⟨en_, er_, rfl, h⟩ := hf; subst n_; subst rv_
  generalize iv_ = iv1 at h ⊢
  refine g_aload_n (q := 14) 0 X dX12_readBridge_13 rfl rfl rfl ?_
  refine g_iconst (q := 15) 3 X dX12_readBridge_14 rfl rfl ic_3 ?_
  refine g_aload_n (q := 16) 0 X dX12_readBridge_15 rfl rfl rfl ?_
  refine g_getR (q := 19) (r := some (gR rv 66 4)) 12 4 X hM_4.1 (lt2000 (c := 0) (isM_lt0 hM_4.2)) kf_X12_167 (by decide) (by decide) rfl rfl (hK.n (by decide)) dX12_readBridge_16 rfl ?_
  refine g_getI (q := 22) 11 4 X kf_X12_297 (by decide) (by decide) rfl (shM_0 hM_4.2) (isM_n0 (hK.2.2.2.2.2.2.2 _ hM_4.1 hM_4.2)) dX12_readBridge_19 rfl ?_
  refine g_cv (q := 25) [aI 3, aI (iv1 (gR rv 66 4) 4)] 12 X (ce_X12_readFresh hK  h) kV_X12_242 rfl (by decide) rfl (hK.n (by decide)) rfl rfl (Nat.le_of_ble_eq_true rfl) (by decide) dX12_readBridge_22 rfl (fun r n_ iv_ rv_ hf => ?_)
  obtain ⟨en_, er_, rfl, h⟩ := hf; subst n_; subst rv_
  generalize iv_ = iv2 at h ⊢
  refine g_aload_n (q := 26) 0 X dX12_readBridge_25 rfl rfl rfl ?_
  refine g_ldcwS (q := 29) 6 X st_X12_300 (by decide) dX12_readBridge_26 rfl ?_
  refine g_cv (q := 32) [aR (some (1000 + 6))] 12 X (ce_X12_needs hK (by decide) h) kV_X12_252 rfl (by decide) rfl (hK.n (by decide)) rfl rfl (Nat.le_of_ble_eq_true rfl) (by decide) dX12_readBridge_29 rfl (fun r n_ iv_ rv_ hf => ?_)
  obtain ⟨en_, er_, rfl, h⟩ := hf; subst n_; subst rv_
  generalize iv_ = iv3 at h ⊢
  refine g_aload_n (q := 33) 0 X dX12_readBridge_32 rfl rfl rfl ?_
  refine g_aload_n (q := 34) 0 X dX12_readBridge_33 rfl rfl rfl ?_
  refine g_getR (q := 37) (r := some (gR rv 66 4)) 12 4 X hM_4.1 (lt2000 (c := 0) (isM_lt0 hM_4.2)) kf_X12_167 (by decide) (by decide) rfl rfl (hK.n (by decide)) dX12_readBridge_34 rfl ?_
  refine g_getI (q := 40) 11 4 X kf_X12_297 (by decide) (by decide) rfl (shM_0 hM_4.2) (isM_n0 (hK.2.2.2.2.2.2.2 _ hM_4.1 hM_4.2)) dX12_readBridge_37 rfl ?_
  refine g_cv (q := 43) [aI (iv3 (gR rv 66 4) 4)] 12 X (ce_X12_readEdge hK  h) kV_X12_294 rfl (by decide) rfl (hK.n (by decide)) rfl rfl (Nat.le_of_ble_eq_true rfl) (by decide) dX12_readBridge_40 rfl (fun r n_ iv_ rv_ hf => ?_)
  obtain ⟨en_, er_, rfl, h⟩ := hf; subst n_; subst rv_
  generalize iv_ = iv4 at h ⊢
  refine g_aload_n (q := 44) 0 X dX12_readBridge_43 rfl rfl rfl ?_
  refine g_getI (q := 47) 12 9 X kf_X12_83 (by decide) (by decide) rfl rfl (hK.n (by decide)) dX12_readBridge_44 rfl ?_
  refine g_iconst (q := 48) 5 X dX12_readBridge_47 rfl rfl ic_5 ?_
  refine g_icmp_eq (q := 51) 64 X dX12_readBridge_48 (by decide) rfl (fun c5 => ?_) (fun c5 => ?_)
  · have h := h.1 c5
    exact g_vret (q := 0) X hR dX12_readBridge_64 rfl ⟨rfl, rfl, rfl, h⟩
  · have h := h.2 c5
    refine g_aload_n (q := 52) 0 X dX12_readBridge_51 rfl rfl rfl ?_
    refine g_getR (q := 55) (r := some (gR rv 66 4)) 12 4 X hM_4.1 (lt2000 (c := 0) (isM_lt0 hM_4.2)) kf_X12_167 (by decide) (by decide) rfl rfl (hK.n (by decide)) dX12_readBridge_52 rfl ?_
    refine g_dup (q := 56) X dX12_readBridge_55 rfl rfl ?_
    refine g_getI (q := 59) 11 4 X kf_X12_297 (by decide) (by decide) rfl (shM_0 hM_4.2) (isM_n0 (hK.2.2.2.2.2.2.2 _ hM_4.1 hM_4.2)) dX12_readBridge_56 rfl ?_
    refine g_iconst (q := 60) 1 X dX12_readBridge_59 rfl rfl ic_1 ?_
    refine g_iadd (q := 61) X dX12_readBridge_60 rfl ?_
    refine g_putI (q := 64) 11 4 X (Or.inl rfl) rfl kf_X12_297 (by decide) (by decide) (shM_0 hM_4.2) (isM_n0 (hK.2.2.2.2.2.2.2 _ hM_4.1 hM_4.2)) dX12_readBridge_61 rfl ?_
    refine g_nmM (fun iv6 eiv6 => ?_)
    have h := h iv6 eiv6
    exact g_vret (q := 0) X hR dX12_readBridge_64 rfl ⟨rfl, rfl, rfl, h⟩
def wp_X12_readRoad (iv : IV) (rv : RV) (K : IV → Prop) : Prop :=
  (hMm rv 66 4) ∧ wp_X12_begins (iv (gR rv 66 4) 3) 12 iv rv (fun iv1 => wp_X12_readEdge (-1) iv1 rv (fun iv2 => (((iv2 66 9) = 5) → (K iv2)) ∧ ((¬ ((iv2 66 9) = 5)) → (∀ iv4, iv4 = w2 iv2 (gR rv 66 4) 3 (w32 ((iv2 (gR rv 66 4) 3) + 1)) → K iv4))))
set_option maxRecDepth 10000 in
theorem ce_X12_readRoad {n : Nat} {iv : IV} {rv : RV} {K : IV → Prop} (hK : Lk n rv)  (h : wp_X12_readRoad  iv rv K) : Call 10 0 0 yX12_readRoad cX12_readRoad 1 none [aR (some 66)] n iv rv (fV1 n rv K) := by
  refine Call.by (L := [aR (some 66)]) (by decide) rfl ⟨trivial, trivial⟩ rfl (Nat.le_of_ble_eq_true rfl) (fun Γ X hR => ?_)
  unfold wp_X12_readRoad at h
  refine g_aload_n (q := 1) 0 X dX12_readRoad_0 rfl rfl rfl ?_
  refine g_aload_n (q := 2) 0 X dX12_readRoad_1 rfl rfl rfl ?_
  obtain ⟨hM_4, h⟩ := h
  refine g_getR (q := 5) (r := some (gR rv 66 4)) 12 4 X hM_4.1 (lt2000 (c := 0) (isM_lt0 hM_4.2)) kf_X12_167 (by decide) (by decide) rfl rfl (hK.n (by decide)) dX12_readRoad_2 rfl ?_
  refine g_getI (q := 8) 11 3 X kf_X12_291 (by decide) (by decide) rfl (shM_0 hM_4.2) (isM_n0 (hK.2.2.2.2.2.2.2 _ hM_4.1 hM_4.2)) dX12_readRoad_5 rfl ?_
  refine g_bipush (q := 10) 12 X dX12_readRoad_8 rfl bc_12 ic_12 ?_
  refine g_cv (q := 13) [aI (iv (gR rv 66 4) 3), aI 12] 12 X (ce_X12_begins hK  h) kV_X12_238 rfl (by decide) rfl (hK.n (by decide)) rfl rfl (Nat.le_of_ble_eq_true rfl) (by decide) dX12_readRoad_10 rfl (fun r n_ iv_ rv_ hf => ?_)
  obtain ⟨en_, er_, rfl, h⟩ := hf; subst n_; subst rv_
  generalize iv_ = iv1 at h ⊢
  refine g_aload_n (q := 14) 0 X dX12_readRoad_13 rfl rfl rfl ?_
  refine g_iconst (q := 15) (-1) X dX12_readRoad_14 rfl rfl ic_m1 ?_
  refine g_cv (q := 18) [aI (-1)] 12 X (ce_X12_readEdge hK  h) kV_X12_294 rfl (by decide) rfl (hK.n (by decide)) rfl rfl (Nat.le_of_ble_eq_true rfl) (by decide) dX12_readRoad_15 rfl (fun r n_ iv_ rv_ hf => ?_)
  obtain ⟨en_, er_, rfl, h⟩ := hf; subst n_; subst rv_
  generalize iv_ = iv2 at h ⊢
  refine g_aload_n (q := 19) 0 X dX12_readRoad_18 rfl rfl rfl ?_
  refine g_getI (q := 22) 12 9 X kf_X12_83 (by decide) (by decide) rfl rfl (hK.n (by decide)) dX12_readRoad_19 rfl ?_
  refine g_iconst (q := 23) 5 X dX12_readRoad_22 rfl rfl ic_5 ?_
  refine g_icmp_eq (q := 26) 39 X dX12_readRoad_23 (by decide) rfl (fun c3 => ?_) (fun c3 => ?_)
  · have h := h.1 c3
    exact g_vret (q := 0) X hR dX12_readRoad_39 rfl ⟨rfl, rfl, rfl, h⟩
  · have h := h.2 c3
    refine g_aload_n (q := 27) 0 X dX12_readRoad_26 rfl rfl rfl ?_
    refine g_getR (q := 30) (r := some (gR rv 66 4)) 12 4 X hM_4.1 (lt2000 (c := 0) (isM_lt0 hM_4.2)) kf_X12_167 (by decide) (by decide) rfl rfl (hK.n (by decide)) dX12_readRoad_27 rfl ?_
    refine g_dup (q := 31) X dX12_readRoad_30 rfl rfl ?_
    refine g_getI (q := 34) 11 3 X kf_X12_291 (by decide) (by decide) rfl (shM_0 hM_4.2) (isM_n0 (hK.2.2.2.2.2.2.2 _ hM_4.1 hM_4.2)) dX12_readRoad_31 rfl ?_
    refine g_iconst (q := 35) 1 X dX12_readRoad_34 rfl rfl ic_1 ?_
    refine g_iadd (q := 36) X dX12_readRoad_35 rfl ?_
    refine g_putI (q := 39) 11 3 X (Or.inl rfl) rfl kf_X12_291 (by decide) (by decide) (shM_0 hM_4.2) (isM_n0 (hK.2.2.2.2.2.2.2 _ hM_4.1 hM_4.2)) dX12_readRoad_36 rfl ?_
    refine g_nmM (fun iv4 eiv4 => ?_)
    have h := h iv4 eiv4
    exact g_vret (q := 0) X hR dX12_readRoad_39 rfl ⟨rfl, rfl, rfl, h⟩
def wp_X12_readMan (iv : IV) (rv : RV) (K : IV → Prop) : Prop :=
  (hMm rv 66 4) ∧ wp_X12_begins (iv (gR rv 66 4) 2) 6 iv rv (fun iv1 => wp_X12_readFresh 2 (iv1 (gR rv 66 4) 2) iv1 rv (fun iv2 => wp_X12_needs 30 iv2 rv (fun iv3 => wp_X12_readKnown 0 iv3 rv (fun r4 iv5 => wp_X12_needs 46 iv5 rv (fun iv6 => wp_X12_readWhole 0 999 iv6 rv (fun r7 iv8 => (((iv8 66 9) ≠ 5) → ((0 ≤ iv8 (gR rv 66 4) 2 ∧ iv8 (gR rv 66 4) 2 < 6) ∧ ∀ iv11, iv11 = w2 iv8 (gR rv 66 4 + 1) (iv8 (gR rv 66 4) 2).toNat r4 → (0 ≤ iv11 (gR rv 66 4) 2 ∧ iv11 (gR rv 66 4) 2 < 6) ∧ ∀ iv13, iv13 = w2 iv11 (gR rv 66 4 + 2) (iv11 (gR rv 66 4) 2).toNat r7 → ∀ iv14, iv14 = w2 iv13 (gR rv 66 4) 2 (w32 ((iv13 (gR rv 66 4) 2) + 1)) → K iv14)) ∧ (((iv8 66 9) = 5) → (K iv8))))))))
set_option maxRecDepth 10000 in
theorem ce_X12_readMan {n : Nat} {iv : IV} {rv : RV} {K : IV → Prop} (hK : Lk n rv)  (h : wp_X12_readMan  iv rv K) : Call 9 0 0 yX12_readMan cX12_readMan 3 none [aR (some 66)] n iv rv (fV1 n rv K) := by
  refine Call.by (L := [aR (some 66), aJ, aJ]) (by decide) rfl ⟨trivial, trivial⟩ rfl (Nat.le_of_ble_eq_true rfl) (fun Γ X hR => ?_)
  unfold wp_X12_readMan at h
  refine g_aload_n (q := 1) 0 X dX12_readMan_0 rfl rfl rfl ?_
  refine g_aload_n (q := 2) 0 X dX12_readMan_1 rfl rfl rfl ?_
  obtain ⟨hM_4, h⟩ := h
  refine g_getR (q := 5) (r := some (gR rv 66 4)) 12 4 X hM_4.1 (lt2000 (c := 0) (isM_lt0 hM_4.2)) kf_X12_167 (by decide) (by decide) rfl rfl (hK.n (by decide)) dX12_readMan_2 rfl ?_
  refine g_getI (q := 8) 11 2 X kf_X12_247 (by decide) (by decide) rfl (shM_0 hM_4.2) (isM_n0 (hK.2.2.2.2.2.2.2 _ hM_4.1 hM_4.2)) dX12_readMan_5 rfl ?_
  refine g_bipush (q := 10) 6 X dX12_readMan_8 rfl bc_6 ic_6 ?_
  refine g_cv (q := 13) [aI (iv (gR rv 66 4) 2), aI 6] 12 X (ce_X12_begins hK  h) kV_X12_238 rfl (by decide) rfl (hK.n (by decide)) rfl rfl (Nat.le_of_ble_eq_true rfl) (by decide) dX12_readMan_10 rfl (fun r n_ iv_ rv_ hf => ?_)
  obtain ⟨en_, er_, rfl, h⟩ := hf; subst n_; subst rv_
  generalize iv_ = iv1 at h ⊢
  refine g_aload_n (q := 14) 0 X dX12_readMan_13 rfl rfl rfl ?_
  refine g_iconst (q := 15) 2 X dX12_readMan_14 rfl rfl ic_2 ?_
  refine g_aload_n (q := 16) 0 X dX12_readMan_15 rfl rfl rfl ?_
  refine g_getR (q := 19) (r := some (gR rv 66 4)) 12 4 X hM_4.1 (lt2000 (c := 0) (isM_lt0 hM_4.2)) kf_X12_167 (by decide) (by decide) rfl rfl (hK.n (by decide)) dX12_readMan_16 rfl ?_
  refine g_getI (q := 22) 11 2 X kf_X12_247 (by decide) (by decide) rfl (shM_0 hM_4.2) (isM_n0 (hK.2.2.2.2.2.2.2 _ hM_4.1 hM_4.2)) dX12_readMan_19 rfl ?_
  refine g_cv (q := 25) [aI 2, aI (iv1 (gR rv 66 4) 2)] 12 X (ce_X12_readFresh hK  h) kV_X12_242 rfl (by decide) rfl (hK.n (by decide)) rfl rfl (Nat.le_of_ble_eq_true rfl) (by decide) dX12_readMan_22 rfl (fun r n_ iv_ rv_ hf => ?_)
  obtain ⟨en_, er_, rfl, h⟩ := hf; subst n_; subst rv_
  generalize iv_ = iv2 at h ⊢
  refine g_aload_n (q := 26) 0 X dX12_readMan_25 rfl rfl rfl ?_
  refine g_ldcS (q := 28) 30 X st_X12_250 (by decide) dX12_readMan_26 rfl ?_
  refine g_cv (q := 31) [aR (some (1000 + 30))] 12 X (ce_X12_needs hK (by decide) h) kV_X12_252 rfl (by decide) rfl (hK.n (by decide)) rfl rfl (Nat.le_of_ble_eq_true rfl) (by decide) dX12_readMan_28 rfl (fun r n_ iv_ rv_ hf => ?_)
  obtain ⟨en_, er_, rfl, h⟩ := hf; subst n_; subst rv_
  generalize iv_ = iv3 at h ⊢
  refine g_aload_n (q := 32) 0 X dX12_readMan_31 rfl rfl rfl ?_
  refine g_iconst (q := 33) 0 X dX12_readMan_32 rfl rfl ic_0 ?_
  refine g_cv (q := 36) [aI 0] 12 X (ce_X12_readKnown hK  h) kV_X12_256 rfl (by decide) rfl (hK.n (by decide)) rfl rfl (Nat.le_of_ble_eq_true rfl) (by decide) dX12_readMan_33 rfl (fun r n_ iv_ rv_ hf => ?_)
  obtain ⟨en_, er_, r4, rfl, h⟩ := hf; subst n_; subst rv_
  generalize iv_ = iv5 at h ⊢
  refine g_istore_n (q := 37) 1 (L' := [aR (some 66), aI r4, aJ]) X dX12_readMan_36 rfl rfl (by decide) rfl rfl ?_
  refine g_aload_n (q := 38) 0 X dX12_readMan_37 rfl rfl rfl ?_
  refine g_ldcwS (q := 41) 46 X st_X12_259 (by decide) dX12_readMan_38 rfl ?_
  refine g_cv (q := 44) [aR (some (1000 + 46))] 12 X (ce_X12_needs hK (by decide) h) kV_X12_252 rfl (by decide) rfl (hK.n (by decide)) rfl rfl (Nat.le_of_ble_eq_true rfl) (by decide) dX12_readMan_41 rfl (fun r n_ iv_ rv_ hf => ?_)
  obtain ⟨en_, er_, rfl, h⟩ := hf; subst n_; subst rv_
  generalize iv_ = iv6 at h ⊢
  refine g_aload_n (q := 45) 0 X dX12_readMan_44 rfl rfl rfl ?_
  refine g_iconst (q := 46) 0 X dX12_readMan_45 rfl rfl ic_0 ?_
  refine g_sipush (q := 49) 999 X dX12_readMan_46 rfl sc_999 ic_999 ?_
  refine g_cv (q := 52) [aI 0, aI 999] 12 X (ce_X12_readWhole hK  h) kV_X12_261 rfl (by decide) rfl (hK.n (by decide)) rfl rfl (Nat.le_of_ble_eq_true rfl) (by decide) dX12_readMan_49 rfl (fun r n_ iv_ rv_ hf => ?_)
  obtain ⟨en_, er_, r7, rfl, h⟩ := hf; subst n_; subst rv_
  generalize iv_ = iv8 at h ⊢
  refine g_istore_n (q := 53) 2 (L' := [aR (some 66), aI r4, aI r7]) X dX12_readMan_52 rfl rfl (by decide) rfl rfl ?_
  refine g_aload_n (q := 54) 0 X dX12_readMan_53 rfl rfl rfl ?_
  refine g_getI (q := 57) 12 9 X kf_X12_83 (by decide) (by decide) rfl rfl (hK.n (by decide)) dX12_readMan_54 rfl ?_
  refine g_iconst (q := 58) 5 X dX12_readMan_57 rfl rfl ic_5 ?_
  refine g_icmp_ne (q := 61) 62 X dX12_readMan_58 (by decide) rfl (fun c9 => ?_) (fun c9 => ?_)
  · have h := h.1 c9
    refine g_aload_n (q := 63) 0 X dX12_readMan_62 rfl rfl rfl ?_
    refine g_getR (q := 66) (r := some (gR rv 66 4)) 12 4 X hM_4.1 (lt2000 (c := 0) (isM_lt0 hM_4.2)) kf_X12_167 (by decide) (by decide) rfl rfl (hK.n (by decide)) dX12_readMan_63 rfl ?_
    refine g_getR (q := 69) (r := some (gR rv 66 4 + 1)) 11 14 X (lkM_14 hK hM_4.2 (hK.2.2.2.2.2.2.2 _ hM_4.1 hM_4.2)) (lt2000 (c := 0) (isM_lt hM_4.2 (by decide))) kf_X12_265 (by decide) (by decide) rfl (shM_0 hM_4.2) (isM_n0 (hK.2.2.2.2.2.2.2 _ hM_4.1 hM_4.2)) dX12_readMan_66 rfl ?_
    refine g_aload_n (q := 70) 0 X dX12_readMan_69 rfl rfl rfl ?_
    refine g_getR (q := 73) (r := some (gR rv 66 4)) 12 4 X hM_4.1 (lt2000 (c := 0) (isM_lt0 hM_4.2)) kf_X12_167 (by decide) (by decide) rfl rfl (hK.n (by decide)) dX12_readMan_70 rfl ?_
    refine g_getI (q := 76) 11 2 X kf_X12_247 (by decide) (by decide) rfl (shM_0 hM_4.2) (isM_n0 (hK.2.2.2.2.2.2.2 _ hM_4.1 hM_4.2)) dX12_readMan_73 rfl ?_
    refine g_iload_n (q := 77) 1 X dX12_readMan_76 rfl rfl rfl ?_
    obtain ⟨s10, h⟩ := h
    refine g_iast (q := 78) X (shM_1 hM_4.2) (isM_n (hK.2.2.2.2.2.2.2 _ hM_4.1 hM_4.2) (by decide)) s10 dX12_readMan_77 rfl ?_
    refine g_nmM (fun iv11 eiv11 => ?_)
    have h := h iv11 eiv11
    refine g_aload_n (q := 79) 0 X dX12_readMan_78 rfl rfl rfl ?_
    refine g_getR (q := 82) (r := some (gR rv 66 4)) 12 4 X hM_4.1 (lt2000 (c := 0) (isM_lt0 hM_4.2)) kf_X12_167 (by decide) (by decide) rfl rfl (hK.n (by decide)) dX12_readMan_79 rfl ?_
    refine g_getR (q := 85) (r := some (gR rv 66 4 + 2)) 11 15 X (lkM_15 hK hM_4.2 (hK.2.2.2.2.2.2.2 _ hM_4.1 hM_4.2)) (lt2000 (c := 0) (isM_lt hM_4.2 (by decide))) kf_X12_268 (by decide) (by decide) rfl (shM_0 hM_4.2) (isM_n0 (hK.2.2.2.2.2.2.2 _ hM_4.1 hM_4.2)) dX12_readMan_82 rfl ?_
    refine g_aload_n (q := 86) 0 X dX12_readMan_85 rfl rfl rfl ?_
    refine g_getR (q := 89) (r := some (gR rv 66 4)) 12 4 X hM_4.1 (lt2000 (c := 0) (isM_lt0 hM_4.2)) kf_X12_167 (by decide) (by decide) rfl rfl (hK.n (by decide)) dX12_readMan_86 rfl ?_
    refine g_getI (q := 92) 11 2 X kf_X12_247 (by decide) (by decide) rfl (shM_0 hM_4.2) (isM_n0 (hK.2.2.2.2.2.2.2 _ hM_4.1 hM_4.2)) dX12_readMan_89 rfl ?_
    refine g_iload_n (q := 93) 2 X dX12_readMan_92 rfl rfl rfl ?_
    obtain ⟨s12, h⟩ := h
    refine g_iast (q := 94) X (shM_2 hM_4.2) (isM_n (hK.2.2.2.2.2.2.2 _ hM_4.1 hM_4.2) (by decide)) s12 dX12_readMan_93 rfl ?_
    refine g_nmM (fun iv13 eiv13 => ?_)
    have h := h iv13 eiv13
    refine g_aload_n (q := 95) 0 X dX12_readMan_94 rfl rfl rfl ?_
    refine g_getR (q := 98) (r := some (gR rv 66 4)) 12 4 X hM_4.1 (lt2000 (c := 0) (isM_lt0 hM_4.2)) kf_X12_167 (by decide) (by decide) rfl rfl (hK.n (by decide)) dX12_readMan_95 rfl ?_
    refine g_dup (q := 99) X dX12_readMan_98 rfl rfl ?_
    refine g_getI (q := 102) 11 2 X kf_X12_247 (by decide) (by decide) rfl (shM_0 hM_4.2) (isM_n0 (hK.2.2.2.2.2.2.2 _ hM_4.1 hM_4.2)) dX12_readMan_99 rfl ?_
    refine g_iconst (q := 103) 1 X dX12_readMan_102 rfl rfl ic_1 ?_
    refine g_iadd (q := 104) X dX12_readMan_103 rfl ?_
    refine g_putI (q := 107) 11 2 X (Or.inl rfl) rfl kf_X12_247 (by decide) (by decide) (shM_0 hM_4.2) (isM_n0 (hK.2.2.2.2.2.2.2 _ hM_4.1 hM_4.2)) dX12_readMan_104 rfl ?_
    refine g_nmM (fun iv14 eiv14 => ?_)
    have h := h iv14 eiv14
    exact g_vret (q := 0) X hR dX12_readMan_107 rfl ⟨rfl, rfl, rfl, h⟩
  · have h := h.2 c9
    exact g_vret (q := 0) X hR dX12_readMan_61 rfl ⟨rfl, rfl, rfl, h⟩
