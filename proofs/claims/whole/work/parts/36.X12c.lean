def wp_X12_readGoods (iv : IV) (rv : RV) (K : IV → Prop) : Prop :=
  (hMm rv 66 4) ∧ wp_X12_begins (iv (gR rv 66 4) 1) 4 iv rv (fun iv1 => wp_X12_readFresh 1 (iv1 (gR rv 66 4) 1) iv1 rv (fun iv2 => (((iv2 66 9) = 5) → (K iv2)) ∧ ((¬ ((iv2 66 9) = 5)) → (∀ iv4, iv4 = w2 iv2 (gR rv 66 4) 1 (w32 ((iv2 (gR rv 66 4) 1) + 1)) → K iv4))))
set_option maxRecDepth 10000 in
theorem ce_X12_readGoods {n : Nat} {iv : IV} {rv : RV} {K : IV → Prop} (hK : Lk n rv)  (h : wp_X12_readGoods  iv rv K) : Call 8 0 0 yX12_readGoods cX12_readGoods 1 none [aR (some 66)] n iv rv (fV1 n rv K) := by
  refine Call.by (L := [aR (some 66)]) (by decide) rfl ⟨trivial, trivial⟩ rfl (Nat.le_of_ble_eq_true rfl) (fun Γ X hR => ?_)
  unfold wp_X12_readGoods at h
  refine g_aload_n (q := 1) 0 X dX12_readGoods_0 rfl rfl rfl ?_
  refine g_aload_n (q := 2) 0 X dX12_readGoods_1 rfl rfl rfl ?_
  obtain ⟨hM_4, h⟩ := h
  refine g_getR (q := 5) (r := some (gR rv 66 4)) 12 4 X hM_4.1 (lt2000 (c := 0) (isM_lt0 hM_4.2)) kf_X12_167 (by decide) (by decide) rfl rfl (hK.n (by decide)) dX12_readGoods_2 rfl ?_
  refine g_getI (q := 8) 11 1 X kf_X12_245 (by decide) (by decide) rfl (shM_0 hM_4.2) (isM_n0 (hK.2.2.2.2.2.2.2 _ hM_4.1 hM_4.2)) dX12_readGoods_5 rfl ?_
  refine g_iconst (q := 9) 4 X dX12_readGoods_8 rfl rfl ic_4 ?_
  refine g_cv (q := 12) [aI (iv (gR rv 66 4) 1), aI 4] 12 X (ce_X12_begins hK  h) kV_X12_238 rfl (by decide) rfl (hK.n (by decide)) rfl rfl (Nat.le_of_ble_eq_true rfl) (by decide) dX12_readGoods_9 rfl (fun r n_ iv_ rv_ hf => ?_)
  obtain ⟨en_, er_, rfl, h⟩ := hf; subst n_; subst rv_
  generalize iv_ = iv1 at h ⊢
  refine g_aload_n (q := 13) 0 X dX12_readGoods_12 rfl rfl rfl ?_
  refine g_iconst (q := 14) 1 X dX12_readGoods_13 rfl rfl ic_1 ?_
  refine g_aload_n (q := 15) 0 X dX12_readGoods_14 rfl rfl rfl ?_
  refine g_getR (q := 18) (r := some (gR rv 66 4)) 12 4 X hM_4.1 (lt2000 (c := 0) (isM_lt0 hM_4.2)) kf_X12_167 (by decide) (by decide) rfl rfl (hK.n (by decide)) dX12_readGoods_15 rfl ?_
  refine g_getI (q := 21) 11 1 X kf_X12_245 (by decide) (by decide) rfl (shM_0 hM_4.2) (isM_n0 (hK.2.2.2.2.2.2.2 _ hM_4.1 hM_4.2)) dX12_readGoods_18 rfl ?_
  refine g_cv (q := 24) [aI 1, aI (iv1 (gR rv 66 4) 1)] 12 X (ce_X12_readFresh hK  h) kV_X12_242 rfl (by decide) rfl (hK.n (by decide)) rfl rfl (Nat.le_of_ble_eq_true rfl) (by decide) dX12_readGoods_21 rfl (fun r n_ iv_ rv_ hf => ?_)
  obtain ⟨en_, er_, rfl, h⟩ := hf; subst n_; subst rv_
  generalize iv_ = iv2 at h ⊢
  refine g_aload_n (q := 25) 0 X dX12_readGoods_24 rfl rfl rfl ?_
  refine g_getI (q := 28) 12 9 X kf_X12_83 (by decide) (by decide) rfl rfl (hK.n (by decide)) dX12_readGoods_25 rfl ?_
  refine g_iconst (q := 29) 5 X dX12_readGoods_28 rfl rfl ic_5 ?_
  refine g_icmp_eq (q := 32) 45 X dX12_readGoods_29 (by decide) rfl (fun c3 => ?_) (fun c3 => ?_)
  · have h := h.1 c3
    exact g_vret (q := 0) X hR dX12_readGoods_45 rfl ⟨rfl, rfl, rfl, h⟩
  · have h := h.2 c3
    refine g_aload_n (q := 33) 0 X dX12_readGoods_32 rfl rfl rfl ?_
    refine g_getR (q := 36) (r := some (gR rv 66 4)) 12 4 X hM_4.1 (lt2000 (c := 0) (isM_lt0 hM_4.2)) kf_X12_167 (by decide) (by decide) rfl rfl (hK.n (by decide)) dX12_readGoods_33 rfl ?_
    refine g_dup (q := 37) X dX12_readGoods_36 rfl rfl ?_
    refine g_getI (q := 40) 11 1 X kf_X12_245 (by decide) (by decide) rfl (shM_0 hM_4.2) (isM_n0 (hK.2.2.2.2.2.2.2 _ hM_4.1 hM_4.2)) dX12_readGoods_37 rfl ?_
    refine g_iconst (q := 41) 1 X dX12_readGoods_40 rfl rfl ic_1 ?_
    refine g_iadd (q := 42) X dX12_readGoods_41 rfl ?_
    refine g_putI (q := 45) 11 1 X (Or.inl rfl) rfl kf_X12_245 (by decide) (by decide) (shM_0 hM_4.2) (isM_n0 (hK.2.2.2.2.2.2.2 _ hM_4.1 hM_4.2)) dX12_readGoods_42 rfl ?_
    refine g_nmM (fun iv4 eiv4 => ?_)
    have h := h iv4 eiv4
    exact g_vret (q := 0) X hR dX12_readGoods_45 rfl ⟨rfl, rfl, rfl, h⟩
def wp_X12_readPlace (iv : IV) (rv : RV) (K : IV → Prop) : Prop :=
  (hMm rv 66 4) ∧ wp_X12_begins (iv (gR rv 66 4) 0) 8 iv rv (fun iv1 => wp_X12_readFresh 0 (iv1 (gR rv 66 4) 0) iv1 rv (fun iv2 => (((iv2 66 9) = 5) → (K iv2)) ∧ ((¬ ((iv2 66 9) = 5)) → (∀ iv4, iv4 = w2 iv2 (gR rv 66 4) 0 (w32 ((iv2 (gR rv 66 4) 0) + 1)) → K iv4))))
set_option maxRecDepth 10000 in
theorem ce_X12_readPlace {n : Nat} {iv : IV} {rv : RV} {K : IV → Prop} (hK : Lk n rv)  (h : wp_X12_readPlace  iv rv K) : Call 8 0 0 yX12_readPlace cX12_readPlace 1 none [aR (some 66)] n iv rv (fV1 n rv K) := by
  refine Call.by (L := [aR (some 66)]) (by decide) rfl ⟨trivial, trivial⟩ rfl (Nat.le_of_ble_eq_true rfl) (fun Γ X hR => ?_)
  unfold wp_X12_readPlace at h
  refine g_aload_n (q := 1) 0 X dX12_readPlace_0 rfl rfl rfl ?_
  refine g_aload_n (q := 2) 0 X dX12_readPlace_1 rfl rfl rfl ?_
  obtain ⟨hM_4, h⟩ := h
  refine g_getR (q := 5) (r := some (gR rv 66 4)) 12 4 X hM_4.1 (lt2000 (c := 0) (isM_lt0 hM_4.2)) kf_X12_167 (by decide) (by decide) rfl rfl (hK.n (by decide)) dX12_readPlace_2 rfl ?_
  refine g_getI (q := 8) 11 0 X kf_X12_196 (by decide) (by decide) rfl (shM_0 hM_4.2) (isM_n0 (hK.2.2.2.2.2.2.2 _ hM_4.1 hM_4.2)) dX12_readPlace_5 rfl ?_
  refine g_bipush (q := 10) 8 X dX12_readPlace_8 rfl bc_8 ic_8 ?_
  refine g_cv (q := 13) [aI (iv (gR rv 66 4) 0), aI 8] 12 X (ce_X12_begins hK  h) kV_X12_238 rfl (by decide) rfl (hK.n (by decide)) rfl rfl (Nat.le_of_ble_eq_true rfl) (by decide) dX12_readPlace_10 rfl (fun r n_ iv_ rv_ hf => ?_)
  obtain ⟨en_, er_, rfl, h⟩ := hf; subst n_; subst rv_
  generalize iv_ = iv1 at h ⊢
  refine g_aload_n (q := 14) 0 X dX12_readPlace_13 rfl rfl rfl ?_
  refine g_iconst (q := 15) 0 X dX12_readPlace_14 rfl rfl ic_0 ?_
  refine g_aload_n (q := 16) 0 X dX12_readPlace_15 rfl rfl rfl ?_
  refine g_getR (q := 19) (r := some (gR rv 66 4)) 12 4 X hM_4.1 (lt2000 (c := 0) (isM_lt0 hM_4.2)) kf_X12_167 (by decide) (by decide) rfl rfl (hK.n (by decide)) dX12_readPlace_16 rfl ?_
  refine g_getI (q := 22) 11 0 X kf_X12_196 (by decide) (by decide) rfl (shM_0 hM_4.2) (isM_n0 (hK.2.2.2.2.2.2.2 _ hM_4.1 hM_4.2)) dX12_readPlace_19 rfl ?_
  refine g_cv (q := 25) [aI 0, aI (iv1 (gR rv 66 4) 0)] 12 X (ce_X12_readFresh hK  h) kV_X12_242 rfl (by decide) rfl (hK.n (by decide)) rfl rfl (Nat.le_of_ble_eq_true rfl) (by decide) dX12_readPlace_22 rfl (fun r n_ iv_ rv_ hf => ?_)
  obtain ⟨en_, er_, rfl, h⟩ := hf; subst n_; subst rv_
  generalize iv_ = iv2 at h ⊢
  refine g_aload_n (q := 26) 0 X dX12_readPlace_25 rfl rfl rfl ?_
  refine g_getI (q := 29) 12 9 X kf_X12_83 (by decide) (by decide) rfl rfl (hK.n (by decide)) dX12_readPlace_26 rfl ?_
  refine g_iconst (q := 30) 5 X dX12_readPlace_29 rfl rfl ic_5 ?_
  refine g_icmp_eq (q := 33) 46 X dX12_readPlace_30 (by decide) rfl (fun c3 => ?_) (fun c3 => ?_)
  · have h := h.1 c3
    exact g_vret (q := 0) X hR dX12_readPlace_46 rfl ⟨rfl, rfl, rfl, h⟩
  · have h := h.2 c3
    refine g_aload_n (q := 34) 0 X dX12_readPlace_33 rfl rfl rfl ?_
    refine g_getR (q := 37) (r := some (gR rv 66 4)) 12 4 X hM_4.1 (lt2000 (c := 0) (isM_lt0 hM_4.2)) kf_X12_167 (by decide) (by decide) rfl rfl (hK.n (by decide)) dX12_readPlace_34 rfl ?_
    refine g_dup (q := 38) X dX12_readPlace_37 rfl rfl ?_
    refine g_getI (q := 41) 11 0 X kf_X12_196 (by decide) (by decide) rfl (shM_0 hM_4.2) (isM_n0 (hK.2.2.2.2.2.2.2 _ hM_4.1 hM_4.2)) dX12_readPlace_38 rfl ?_
    refine g_iconst (q := 42) 1 X dX12_readPlace_41 rfl rfl ic_1 ?_
    refine g_iadd (q := 43) X dX12_readPlace_42 rfl ?_
    refine g_putI (q := 46) 11 0 X (Or.inl rfl) rfl kf_X12_196 (by decide) (by decide) (shM_0 hM_4.2) (isM_n0 (hK.2.2.2.2.2.2.2 _ hM_4.1 hM_4.2)) dX12_readPlace_43 rfl ?_
    refine g_nmM (fun iv4 eiv4 => ?_)
    have h := h iv4 eiv4
    exact g_vret (q := 0) X hR dX12_readPlace_46 rfl ⟨rfl, rfl, rfl, h⟩
def wp_X12_readLine (iv : IV) (rv : RV) (K : IV → Prop) : Prop :=
  wp_X12_isWord 39 iv rv (fun r1 => ((r1 = 0) → (wp_X12_isWord 17 iv rv (fun r3 => ((r3 = 0) → (wp_X12_isWord 25 iv rv (fun r5 => ((r5 = 0) → (wp_X12_isWord 43 iv rv (fun r7 => ((r7 = 0) → (wp_X12_isWord 5 iv rv (fun r9 => ((r9 = 0) → (wp_X12_isWord 47 iv rv (fun r11 => ((r11 = 0) → (wp_X12_isWord 14 iv rv (fun r13 => ((r13 = 0) → (wp_X12_isWord 2 iv rv (fun r15 => ((r15 = 0) → (wp_X12_isWord 42 iv rv (fun r17 => ((r17 = 0) → (wp_X12_isWord 24 iv rv (fun r19 => ((r19 = 0) → (wp_X12_isWord 19 iv rv (fun r21 => ((r21 = 0) → (wp_X12_isWord 7 iv rv (fun r23 => ((r23 = 0) → (wp_X12_wrong 1 iv rv (fun iv25 => K iv25))) ∧ ((¬ (r23 = 0)) → (wp_X12_readCart iv rv (fun iv26 => K iv26)))))) ∧ ((¬ (r21 = 0)) → (wp_X12_readLaw iv rv (fun iv27 => K iv27)))))) ∧ ((¬ (r19 = 0)) → (wp_X12_readLoss iv rv (fun iv28 => K iv28)))))) ∧ ((¬ (r17 = 0)) → (wp_X12_readRenewal iv rv (fun iv29 => K iv29)))))) ∧ ((¬ (r15 = 0)) → (wp_X12_readAlike iv rv (fun iv30 => K iv30)))))) ∧ ((¬ (r13 = 0)) → (wp_X12_readFree iv rv (fun iv31 => K iv31)))))) ∧ ((¬ (r11 = 0)) → (wp_X12_readTake iv rv (fun iv32 => K iv32)))))) ∧ ((¬ (r9 = 0)) → (wp_X12_readBridge iv rv (fun iv33 => K iv33)))))) ∧ ((¬ (r7 = 0)) → (wp_X12_readRoad iv rv (fun iv34 => K iv34)))))) ∧ ((¬ (r5 = 0)) → (wp_X12_readMan iv rv (fun iv35 => K iv35)))))) ∧ ((¬ (r3 = 0)) → (wp_X12_readGoods iv rv (fun iv36 => K iv36)))))) ∧ ((¬ (r1 = 0)) → (wp_X12_readPlace iv rv (fun iv37 => K iv37))))
set_option maxRecDepth 10000 in
theorem ce_X12_readLine {n : Nat} {iv : IV} {rv : RV} {K : IV → Prop} (hK : Lk n rv)  (h : wp_X12_readLine  iv rv K) : Call 11 0 0 yX12_readLine cX12_readLine 1 none [aR (some 66)] n iv rv (fV1 n rv K) := by
  refine Call.by (L := [aR (some 66)]) (by decide) rfl ⟨trivial, trivial⟩ rfl (Nat.le_of_ble_eq_true rfl) (fun Γ X hR => ?_)
  unfold wp_X12_readLine at h
  refine g_aload_n (q := 1) 0 X dX12_readLine_0 rfl rfl rfl ?_
  refine g_ldcS (q := 3) 39 X st_X12_134 (by decide) dX12_readLine_1 rfl ?_
  refine g_cv (q := 6) [aR (some (1000 + 39))] 12 X (ce_X12_isWord hK (by decide) h) kV_X12_119 rfl (by decide) rfl (hK.n (by decide)) rfl rfl (Nat.le_of_ble_eq_true rfl) (by decide) dX12_readLine_3 rfl (fun r n_ iv_ rv_ hf => ?_)
  obtain ⟨en_, ei_, er_, r1, rfl, br1, h⟩ := hf; subst n_; subst iv_; subst rv_
  refine g_if_eq (q := 9) 16 X dX12_readLine_6 (by decide) rfl (fun c2 => ?_) (fun c2 => ?_)
  · have h := h.1 c2
    refine g_aload_n (q := 17) 0 X dX12_readLine_16 rfl rfl rfl ?_
    refine g_ldcS (q := 19) 17 X st_X12_135 (by decide) dX12_readLine_17 rfl ?_
    refine g_cv (q := 22) [aR (some (1000 + 17))] 12 X (ce_X12_isWord hK (by decide) h) kV_X12_119 rfl (by decide) rfl (hK.n (by decide)) rfl rfl (Nat.le_of_ble_eq_true rfl) (by decide) dX12_readLine_19 rfl (fun r n_ iv_ rv_ hf => ?_)
    obtain ⟨en_, ei_, er_, r3, rfl, br3, h⟩ := hf; subst n_; subst iv_; subst rv_
    refine g_if_eq (q := 25) 32 X dX12_readLine_22 (by decide) rfl (fun c4 => ?_) (fun c4 => ?_)
    · have h := h.1 c4
      refine g_aload_n (q := 33) 0 X dX12_readLine_32 rfl rfl rfl ?_
      refine g_ldcS (q := 35) 25 X st_X12_137 (by decide) dX12_readLine_33 rfl ?_
      refine g_cv (q := 38) [aR (some (1000 + 25))] 12 X (ce_X12_isWord hK (by decide) h) kV_X12_119 rfl (by decide) rfl (hK.n (by decide)) rfl rfl (Nat.le_of_ble_eq_true rfl) (by decide) dX12_readLine_35 rfl (fun r n_ iv_ rv_ hf => ?_)
      obtain ⟨en_, ei_, er_, r5, rfl, br5, h⟩ := hf; subst n_; subst iv_; subst rv_
      refine g_if_eq (q := 41) 48 X dX12_readLine_38 (by decide) rfl (fun c6 => ?_) (fun c6 => ?_)
      · have h := h.1 c6
        refine g_aload_n (q := 49) 0 X dX12_readLine_48 rfl rfl rfl ?_
        refine g_ldcS (q := 51) 43 X st_X12_139 (by decide) dX12_readLine_49 rfl ?_
        refine g_cv (q := 54) [aR (some (1000 + 43))] 12 X (ce_X12_isWord hK (by decide) h) kV_X12_119 rfl (by decide) rfl (hK.n (by decide)) rfl rfl (Nat.le_of_ble_eq_true rfl) (by decide) dX12_readLine_51 rfl (fun r n_ iv_ rv_ hf => ?_)
        obtain ⟨en_, ei_, er_, r7, rfl, br7, h⟩ := hf; subst n_; subst iv_; subst rv_
        refine g_if_eq (q := 57) 64 X dX12_readLine_54 (by decide) rfl (fun c8 => ?_) (fun c8 => ?_)
        · have h := h.1 c8
          refine g_aload_n (q := 65) 0 X dX12_readLine_64 rfl rfl rfl ?_
          refine g_ldcS (q := 67) 5 X st_X12_141 (by decide) dX12_readLine_65 rfl ?_
          refine g_cv (q := 70) [aR (some (1000 + 5))] 12 X (ce_X12_isWord hK (by decide) h) kV_X12_119 rfl (by decide) rfl (hK.n (by decide)) rfl rfl (Nat.le_of_ble_eq_true rfl) (by decide) dX12_readLine_67 rfl (fun r n_ iv_ rv_ hf => ?_)
          obtain ⟨en_, ei_, er_, r9, rfl, br9, h⟩ := hf; subst n_; subst iv_; subst rv_
          refine g_if_eq (q := 73) 80 X dX12_readLine_70 (by decide) rfl (fun c10 => ?_) (fun c10 => ?_)
          · have h := h.1 c10
            refine g_aload_n (q := 81) 0 X dX12_readLine_80 rfl rfl rfl ?_
            refine g_ldcS (q := 83) 47 X st_X12_143 (by decide) dX12_readLine_81 rfl ?_
            refine g_cv (q := 86) [aR (some (1000 + 47))] 12 X (ce_X12_isWord hK (by decide) h) kV_X12_119 rfl (by decide) rfl (hK.n (by decide)) rfl rfl (Nat.le_of_ble_eq_true rfl) (by decide) dX12_readLine_83 rfl (fun r n_ iv_ rv_ hf => ?_)
            obtain ⟨en_, ei_, er_, r11, rfl, br11, h⟩ := hf; subst n_; subst iv_; subst rv_
            refine g_if_eq (q := 89) 96 X dX12_readLine_86 (by decide) rfl (fun c12 => ?_) (fun c12 => ?_)
            · have h := h.1 c12
              refine g_aload_n (q := 97) 0 X dX12_readLine_96 rfl rfl rfl ?_
              refine g_ldcS (q := 99) 14 X st_X12_145 (by decide) dX12_readLine_97 rfl ?_
              refine g_cv (q := 102) [aR (some (1000 + 14))] 12 X (ce_X12_isWord hK (by decide) h) kV_X12_119 rfl (by decide) rfl (hK.n (by decide)) rfl rfl (Nat.le_of_ble_eq_true rfl) (by decide) dX12_readLine_99 rfl (fun r n_ iv_ rv_ hf => ?_)
              obtain ⟨en_, ei_, er_, r13, rfl, br13, h⟩ := hf; subst n_; subst iv_; subst rv_
              refine g_if_eq (q := 105) 112 X dX12_readLine_102 (by decide) rfl (fun c14 => ?_) (fun c14 => ?_)
              · have h := h.1 c14
                refine g_aload_n (q := 113) 0 X dX12_readLine_112 rfl rfl rfl ?_
                refine g_ldcS (q := 115) 2 X st_X12_147 (by decide) dX12_readLine_113 rfl ?_
                refine g_cv (q := 118) [aR (some (1000 + 2))] 12 X (ce_X12_isWord hK (by decide) h) kV_X12_119 rfl (by decide) rfl (hK.n (by decide)) rfl rfl (Nat.le_of_ble_eq_true rfl) (by decide) dX12_readLine_115 rfl (fun r n_ iv_ rv_ hf => ?_)
                obtain ⟨en_, ei_, er_, r15, rfl, br15, h⟩ := hf; subst n_; subst iv_; subst rv_
                refine g_if_eq (q := 121) 128 X dX12_readLine_118 (by decide) rfl (fun c16 => ?_) (fun c16 => ?_)
                · have h := h.1 c16
                  refine g_aload_n (q := 129) 0 X dX12_readLine_128 rfl rfl rfl ?_
                  refine g_ldcS (q := 131) 42 X st_X12_149 (by decide) dX12_readLine_129 rfl ?_
                  refine g_cv (q := 134) [aR (some (1000 + 42))] 12 X (ce_X12_isWord hK (by decide) h) kV_X12_119 rfl (by decide) rfl (hK.n (by decide)) rfl rfl (Nat.le_of_ble_eq_true rfl) (by decide) dX12_readLine_131 rfl (fun r n_ iv_ rv_ hf => ?_)
                  obtain ⟨en_, ei_, er_, r17, rfl, br17, h⟩ := hf; subst n_; subst iv_; subst rv_
                  refine g_if_eq (q := 137) 144 X dX12_readLine_134 (by decide) rfl (fun c18 => ?_) (fun c18 => ?_)
                  · have h := h.1 c18
                    refine g_aload_n (q := 145) 0 X dX12_readLine_144 rfl rfl rfl ?_
                    refine g_ldcS (q := 147) 24 X st_X12_151 (by decide) dX12_readLine_145 rfl ?_
                    refine g_cv (q := 150) [aR (some (1000 + 24))] 12 X (ce_X12_isWord hK (by decide) h) kV_X12_119 rfl (by decide) rfl (hK.n (by decide)) rfl rfl (Nat.le_of_ble_eq_true rfl) (by decide) dX12_readLine_147 rfl (fun r n_ iv_ rv_ hf => ?_)
                    obtain ⟨en_, ei_, er_, r19, rfl, br19, h⟩ := hf; subst n_; subst iv_; subst rv_
                    refine g_if_eq (q := 153) 160 X dX12_readLine_150 (by decide) rfl (fun c20 => ?_) (fun c20 => ?_)
                    · have h := h.1 c20
                      refine g_aload_n (q := 161) 0 X dX12_readLine_160 rfl rfl rfl ?_
                      refine g_ldcS (q := 163) 19 X st_X12_153 (by decide) dX12_readLine_161 rfl ?_
                      refine g_cv (q := 166) [aR (some (1000 + 19))] 12 X (ce_X12_isWord hK (by decide) h) kV_X12_119 rfl (by decide) rfl (hK.n (by decide)) rfl rfl (Nat.le_of_ble_eq_true rfl) (by decide) dX12_readLine_163 rfl (fun r n_ iv_ rv_ hf => ?_)
                      obtain ⟨en_, ei_, er_, r21, rfl, br21, h⟩ := hf; subst n_; subst iv_; subst rv_
                      refine g_if_eq (q := 169) 176 X dX12_readLine_166 (by decide) rfl (fun c22 => ?_) (fun c22 => ?_)
                      · have h := h.1 c22
                        refine g_aload_n (q := 177) 0 X dX12_readLine_176 rfl rfl rfl ?_
                        refine g_ldcS (q := 179) 7 X st_X12_155 (by decide) dX12_readLine_177 rfl ?_
                        refine g_cv (q := 182) [aR (some (1000 + 7))] 12 X (ce_X12_isWord hK (by decide) h) kV_X12_119 rfl (by decide) rfl (hK.n (by decide)) rfl rfl (Nat.le_of_ble_eq_true rfl) (by decide) dX12_readLine_179 rfl (fun r n_ iv_ rv_ hf => ?_)
                        obtain ⟨en_, ei_, er_, r23, rfl, br23, h⟩ := hf; subst n_; subst iv_; subst rv_
                        refine g_if_eq (q := 185) 192 X dX12_readLine_182 (by decide) rfl (fun c24 => ?_) (fun c24 => ?_)
                        · have h := h.1 c24
                          refine g_aload_n (q := 193) 0 X dX12_readLine_192 rfl rfl rfl ?_
                          refine g_iconst (q := 194) 1 X dX12_readLine_193 rfl rfl ic_1 ?_
                          refine g_cv (q := 197) [aI 1] 12 X (ce_X12_wrong hK  h) kV_X12_126 rfl (by decide) rfl (hK.n (by decide)) rfl rfl (Nat.le_of_ble_eq_true rfl) (by decide) dX12_readLine_194 rfl (fun r n_ iv_ rv_ hf => ?_)
                          obtain ⟨en_, er_, rfl, h⟩ := hf; subst n_; subst rv_
                          generalize iv_ = iv25 at h ⊢
                          exact g_vret (q := 0) X hR dX12_readLine_197 rfl ⟨rfl, rfl, rfl, h⟩
                        · have h := h.2 c24
                          refine g_aload_n (q := 186) 0 X dX12_readLine_185 rfl rfl rfl ?_
                          refine g_cv (q := 189) [] 12 X (ce_X12_readCart hK  h) kV_X12_235 rfl (by decide) rfl (hK.n (by decide)) rfl rfl (Nat.le_of_ble_eq_true rfl) (by decide) dX12_readLine_186 rfl (fun r n_ iv_ rv_ hf => ?_)
                          obtain ⟨en_, er_, rfl, h⟩ := hf; subst n_; subst rv_
                          generalize iv_ = iv26 at h ⊢
                          refine g_goto (q := 197) X dX12_readLine_189 (by decide) ?_
                          exact g_vret (q := 0) X hR dX12_readLine_197 rfl ⟨rfl, rfl, rfl, h⟩
                      · have h := h.2 c22
                        refine g_aload_n (q := 170) 0 X dX12_readLine_169 rfl rfl rfl ?_
                        refine g_cv (q := 173) [] 12 X (ce_X12_readLaw hK  h) kV_X12_232 rfl (by decide) rfl (hK.n (by decide)) rfl rfl (Nat.le_of_ble_eq_true rfl) (by decide) dX12_readLine_170 rfl (fun r n_ iv_ rv_ hf => ?_)
                        obtain ⟨en_, er_, rfl, h⟩ := hf; subst n_; subst rv_
                        generalize iv_ = iv27 at h ⊢
                        refine g_goto (q := 197) X dX12_readLine_173 (by decide) ?_
                        exact g_vret (q := 0) X hR dX12_readLine_197 rfl ⟨rfl, rfl, rfl, h⟩
                    · have h := h.2 c20
                      refine g_aload_n (q := 154) 0 X dX12_readLine_153 rfl rfl rfl ?_
                      refine g_cv (q := 157) [] 12 X (ce_X12_readLoss hK  h) kV_X12_229 rfl (by decide) rfl (hK.n (by decide)) rfl rfl (Nat.le_of_ble_eq_true rfl) (by decide) dX12_readLine_154 rfl (fun r n_ iv_ rv_ hf => ?_)
                      obtain ⟨en_, er_, rfl, h⟩ := hf; subst n_; subst rv_
                      generalize iv_ = iv28 at h ⊢
                      refine g_goto (q := 197) X dX12_readLine_157 (by decide) ?_
                      exact g_vret (q := 0) X hR dX12_readLine_197 rfl ⟨rfl, rfl, rfl, h⟩
                  · have h := h.2 c18
                    refine g_aload_n (q := 138) 0 X dX12_readLine_137 rfl rfl rfl ?_
                    refine g_cv (q := 141) [] 12 X (ce_X12_readRenewal hK  h) kV_X12_226 rfl (by decide) rfl (hK.n (by decide)) rfl rfl (Nat.le_of_ble_eq_true rfl) (by decide) dX12_readLine_138 rfl (fun r n_ iv_ rv_ hf => ?_)
                    obtain ⟨en_, er_, rfl, h⟩ := hf; subst n_; subst rv_
                    generalize iv_ = iv29 at h ⊢
                    refine g_goto (q := 197) X dX12_readLine_141 (by decide) ?_
                    exact g_vret (q := 0) X hR dX12_readLine_197 rfl ⟨rfl, rfl, rfl, h⟩
                · have h := h.2 c16
                  refine g_aload_n (q := 122) 0 X dX12_readLine_121 rfl rfl rfl ?_
                  refine g_cv (q := 125) [] 12 X (ce_X12_readAlike hK  h) kV_X12_223 rfl (by decide) rfl (hK.n (by decide)) rfl rfl (Nat.le_of_ble_eq_true rfl) (by decide) dX12_readLine_122 rfl (fun r n_ iv_ rv_ hf => ?_)
                  obtain ⟨en_, er_, rfl, h⟩ := hf; subst n_; subst rv_
                  generalize iv_ = iv30 at h ⊢
                  refine g_goto (q := 197) X dX12_readLine_125 (by decide) ?_
                  exact g_vret (q := 0) X hR dX12_readLine_197 rfl ⟨rfl, rfl, rfl, h⟩
              · have h := h.2 c14
                refine g_aload_n (q := 106) 0 X dX12_readLine_105 rfl rfl rfl ?_
                refine g_cv (q := 109) [] 12 X (ce_X12_readFree hK  h) kV_X12_220 rfl (by decide) rfl (hK.n (by decide)) rfl rfl (Nat.le_of_ble_eq_true rfl) (by decide) dX12_readLine_106 rfl (fun r n_ iv_ rv_ hf => ?_)
                obtain ⟨en_, er_, rfl, h⟩ := hf; subst n_; subst rv_
                generalize iv_ = iv31 at h ⊢
                refine g_goto (q := 197) X dX12_readLine_109 (by decide) ?_
                exact g_vret (q := 0) X hR dX12_readLine_197 rfl ⟨rfl, rfl, rfl, h⟩
            · have h := h.2 c12
              refine g_aload_n (q := 90) 0 X dX12_readLine_89 rfl rfl rfl ?_
              refine g_cv (q := 93) [] 12 X (ce_X12_readTake hK  h) kV_X12_217 rfl (by decide) rfl (hK.n (by decide)) rfl rfl (Nat.le_of_ble_eq_true rfl) (by decide) dX12_readLine_90 rfl (fun r n_ iv_ rv_ hf => ?_)
              obtain ⟨en_, er_, rfl, h⟩ := hf; subst n_; subst rv_
              generalize iv_ = iv32 at h ⊢
              refine g_goto (q := 197) X dX12_readLine_93 (by decide) ?_
              exact g_vret (q := 0) X hR dX12_readLine_197 rfl ⟨rfl, rfl, rfl, h⟩
          · have h := h.2 c10
            refine g_aload_n (q := 74) 0 X dX12_readLine_73 rfl rfl rfl ?_
            refine g_cv (q := 77) [] 12 X (ce_X12_readBridge hK  h) kV_X12_214 rfl (by decide) rfl (hK.n (by decide)) rfl rfl (Nat.le_of_ble_eq_true rfl) (by decide) dX12_readLine_74 rfl (fun r n_ iv_ rv_ hf => ?_)
            obtain ⟨en_, er_, rfl, h⟩ := hf; subst n_; subst rv_
            generalize iv_ = iv33 at h ⊢
            refine g_goto (q := 197) X dX12_readLine_77 (by decide) ?_
            exact g_vret (q := 0) X hR dX12_readLine_197 rfl ⟨rfl, rfl, rfl, h⟩
        · have h := h.2 c8
          refine g_aload_n (q := 58) 0 X dX12_readLine_57 rfl rfl rfl ?_
          refine g_cv (q := 61) [] 12 X (ce_X12_readRoad hK  h) kV_X12_211 rfl (by decide) rfl (hK.n (by decide)) rfl rfl (Nat.le_of_ble_eq_true rfl) (by decide) dX12_readLine_58 rfl (fun r n_ iv_ rv_ hf => ?_)
          obtain ⟨en_, er_, rfl, h⟩ := hf; subst n_; subst rv_
          generalize iv_ = iv34 at h ⊢
          refine g_goto (q := 197) X dX12_readLine_61 (by decide) ?_
          exact g_vret (q := 0) X hR dX12_readLine_197 rfl ⟨rfl, rfl, rfl, h⟩
      · have h := h.2 c6
        refine g_aload_n (q := 42) 0 X dX12_readLine_41 rfl rfl rfl ?_
        refine g_cv (q := 45) [] 12 X (ce_X12_readMan hK  h) kV_X12_208 rfl (by decide) rfl (hK.n (by decide)) rfl rfl (Nat.le_of_ble_eq_true rfl) (by decide) dX12_readLine_42 rfl (fun r n_ iv_ rv_ hf => ?_)
        obtain ⟨en_, er_, rfl, h⟩ := hf; subst n_; subst rv_
        generalize iv_ = iv35 at h ⊢
        refine g_goto (q := 197) X dX12_readLine_45 (by decide) ?_
        exact g_vret (q := 0) X hR dX12_readLine_197 rfl ⟨rfl, rfl, rfl, h⟩
    · have h := h.2 c4
      refine g_aload_n (q := 26) 0 X dX12_readLine_25 rfl rfl rfl ?_
      refine g_cv (q := 29) [] 12 X (ce_X12_readGoods hK  h) kV_X12_205 rfl (by decide) rfl (hK.n (by decide)) rfl rfl (Nat.le_of_ble_eq_true rfl) (by decide) dX12_readLine_26 rfl (fun r n_ iv_ rv_ hf => ?_)
      obtain ⟨en_, er_, rfl, h⟩ := hf; subst n_; subst rv_
      generalize iv_ = iv36 at h ⊢
      refine g_goto (q := 197) X dX12_readLine_29 (by decide) ?_
      exact g_vret (q := 0) X hR dX12_readLine_197 rfl ⟨rfl, rfl, rfl, h⟩
  · have h := h.2 c2
    refine g_aload_n (q := 10) 0 X dX12_readLine_9 rfl rfl rfl ?_
    refine g_cv (q := 13) [] 12 X (ce_X12_readPlace hK  h) kV_X12_202 rfl (by decide) rfl (hK.n (by decide)) rfl rfl (Nat.le_of_ble_eq_true rfl) (by decide) dX12_readLine_10 rfl (fun r n_ iv_ rv_ hf => ?_)
    obtain ⟨en_, er_, rfl, h⟩ := hf; subst n_; subst rv_
    generalize iv_ = iv37 at h ⊢
    refine g_goto (q := 197) X dX12_readLine_13 (by decide) ?_
    exact g_vret (q := 0) X hR dX12_readLine_197 rfl ⟨rfl, rfl, rfl, h⟩
def bd_X12_readRealm_69 (iv : IV) (rv : RV) (K : IV → Prop) : Prop :=
  wp_X12_wrong 6 iv rv (fun iv1 => K iv1)
set_option maxRecDepth 10000 in
theorem cb_X12_readRealm_69 {Γ : GX} {n : Nat} {iv : IV} {rv : RV} {K : IV → Prop} (X : Cx Γ RX12 cX12_readRealm 2 12) (hR : Rt Γ none 0 0 (fV1 n rv K)) (hK : Lk n rv)  (h : bd_X12_readRealm_69 iv rv K) : G Γ 2 69 [aR (some 66), aJ] [] n iv rv 0 0 := by
  unfold bd_X12_readRealm_69 at h
  refine g_aload_n (q := 70) 0 X dX12_readRealm_69 rfl rfl rfl ?_
  refine g_bipush (q := 72) 6 X dX12_readRealm_70 rfl bc_6 ic_6 ?_
  refine g_cv (q := 75) [aI 6] 12 X (ce_X12_wrong hK  h) kV_X12_126 rfl (by decide) rfl (hK.n (by decide)) rfl rfl (Nat.le_of_ble_eq_true rfl) (by decide) dX12_readRealm_72 rfl (fun r n_ iv_ rv_ hf => ?_)
  obtain ⟨en_, er_, rfl, h⟩ := hf; subst n_; subst rv_
  generalize iv_ = iv1 at h ⊢
  exact g_vret (q := 0) X hR dX12_readRealm_75 rfl ⟨rfl, rfl, rfl, h⟩
def bd_X12_readRealm_48 (iv : IV) (rv : RV) (K : IV → Prop) : Prop :=
  (hMm rv 66 4) ∧ (((iv (gR rv 66 4) 0) < 2) → (bd_X12_readRealm_69 iv rv K)) ∧ ((¬ ((iv (gR rv 66 4) 0) < 2)) → ((((iv (gR rv 66 4) 10) ≠ 0) → (K iv)) ∧ (((iv (gR rv 66 4) 10) = 0) → (bd_X12_readRealm_69 iv rv K))))
set_option maxRecDepth 10000 in
theorem cb_X12_readRealm_48 {Γ : GX} {n : Nat} {iv : IV} {rv : RV} {K : IV → Prop} (X : Cx Γ RX12 cX12_readRealm 2 12) (hR : Rt Γ none 0 0 (fV1 n rv K)) (hK : Lk n rv)  (h : bd_X12_readRealm_48 iv rv K) : G Γ 2 48 [aR (some 66), aJ] [] n iv rv 0 0 := by
  unfold bd_X12_readRealm_48 at h
  refine g_aload_n (q := 49) 0 X dX12_readRealm_48 rfl rfl rfl ?_
  obtain ⟨hM_4, h⟩ := h
  refine g_getR (q := 52) (r := some (gR rv 66 4)) 12 4 X hM_4.1 (lt2000 (c := 0) (isM_lt0 hM_4.2)) kf_X12_167 (by decide) (by decide) rfl rfl (hK.n (by decide)) dX12_readRealm_49 rfl ?_
  refine g_getI (q := 55) 11 0 X kf_X12_196 (by decide) (by decide) rfl (shM_0 hM_4.2) (isM_n0 (hK.2.2.2.2.2.2.2 _ hM_4.1 hM_4.2)) dX12_readRealm_52 rfl ?_
  refine g_iconst (q := 56) 2 X dX12_readRealm_55 rfl rfl ic_2 ?_
  refine g_icmp_lt (q := 59) 69 X dX12_readRealm_56 (by decide) rfl (fun c1 => ?_) (fun c1 => ?_)
  · have h := h.1 c1
    exact cb_X12_readRealm_69 X hR hK   h
  · have h := h.2 c1
    refine g_aload_n (q := 60) 0 X dX12_readRealm_59 rfl rfl rfl ?_
    refine g_getR (q := 63) (r := some (gR rv 66 4)) 12 4 X hM_4.1 (lt2000 (c := 0) (isM_lt0 hM_4.2)) kf_X12_167 (by decide) (by decide) rfl rfl (hK.n (by decide)) dX12_readRealm_60 rfl ?_
    refine g_getI (q := 66) 11 10 X kf_X12_199 (by decide) (by decide) rfl (shM_0 hM_4.2) (isM_n0 (hK.2.2.2.2.2.2.2 _ hM_4.1 hM_4.2)) dX12_readRealm_63 rfl ?_
    refine g_if_ne (q := 69) 75 X dX12_readRealm_66 (by decide) rfl (fun c2 => ?_) (fun c2 => ?_)
    · have h := h.1 c2
      exact g_vret (q := 0) X hR dX12_readRealm_75 rfl ⟨rfl, rfl, rfl, h⟩
    · have h := h.2 c2
      exact cb_X12_readRealm_69 X hR hK   h
def bd_X12_readRealm_23 (P2 : Int → IV → Prop) (t0 : Int) (iv : IV) (rv : RV) (K : IV → Prop) : Prop :=
  ((t0 = 0) → (P2 t0 iv)) ∧ ((¬ (t0 = 0)) → (wp_X12_goesOn iv rv (fun iv2 => P2 t0 iv2)))
set_option maxRecDepth 10000 in
theorem cb_X12_readRealm_23 {Γ : GX} {n : Nat} {iv : IV} {rv : RV} {K : IV → Prop} {P2 : Int → IV → Prop} {t0 : Int} (X : Cx Γ RX12 cX12_readRealm 2 12) (hR : Rt Γ none 0 0 (fV1 n rv K)) (hK : Lk n rv)  (hP2 : ∀ (l1' : Int) (iv' : IV), P2 l1' iv' → G Γ 2 2 [aR (some 66), aI (l1')] [] n iv' rv 0 0) (h : bd_X12_readRealm_23 P2 t0 iv rv K) : G Γ 2 23 [aR (some 66), aJ] [aI t0] n iv rv 0 0 := by
  unfold bd_X12_readRealm_23 at h
  refine g_istore_n (q := 24) 1 (L' := [aR (some 66), aI t0]) X dX12_readRealm_23 rfl rfl (by decide) rfl rfl ?_
  refine g_iload_n (q := 25) 1 X dX12_readRealm_24 rfl rfl rfl ?_
  refine g_if_eq (q := 28) 2 X dX12_readRealm_25 (by decide) rfl (fun c1 => ?_) (fun c1 => ?_)
  · have h := h.1 c1
    exact hP2 _ _ h
  · have h := h.2 c1
    refine g_aload_n (q := 29) 0 X dX12_readRealm_28 rfl rfl rfl ?_
    refine g_cv (q := 32) [] 12 X (ce_X12_goesOn hK  h) kV_X12_123 rfl (by decide) rfl (hK.n (by decide)) rfl rfl (Nat.le_of_ble_eq_true rfl) (by decide) dX12_readRealm_29 rfl (fun r n_ iv_ rv_ hf => ?_)
    obtain ⟨en_, er_, rfl, h⟩ := hf; subst n_; subst rv_
    generalize iv_ = iv2 at h ⊢
    refine g_goto (q := 2) X dX12_readRealm_32 (by decide) ?_
    exact hP2 _ _ h
def bd_X12_readRealm_2 (P2 : Int → IV → Prop) (l1 : Int) (iv : IV) (rv : RV) (K : IV → Prop) : Prop :=
  ((l1 = 0) → ((((iv 66 9) = 1) → (bd_X12_readRealm_48 iv rv K)) ∧ ((¬ ((iv 66 9) = 1)) → (wp_X12_wrong 1 iv rv (fun iv3 => bd_X12_readRealm_48 iv3 rv K))))) ∧ ((¬ (l1 = 0)) → (wp_X12_readLine iv rv (fun iv4 => (((iv4 66 9) ≠ 4) → (bd_X12_readRealm_23 P2 0 iv4 rv K)) ∧ (((iv4 66 9) = 4) → (bd_X12_readRealm_23 P2 1 iv4 rv K)))))
set_option maxRecDepth 10000 in
theorem cb_X12_readRealm_2 {Γ : GX} {n : Nat} {iv : IV} {rv : RV} {K : IV → Prop} {P2 : Int → IV → Prop} {l1 : Int} (X : Cx Γ RX12 cX12_readRealm 2 12) (hR : Rt Γ none 0 0 (fV1 n rv K)) (hK : Lk n rv)  (hP2 : ∀ (l1' : Int) (iv' : IV), P2 l1' iv' → G Γ 2 2 [aR (some 66), aI (l1')] [] n iv' rv 0 0) (h : bd_X12_readRealm_2 P2 l1 iv rv K) : G Γ 2 2 [aR (some 66), aI l1] [] n iv rv 0 0 := by
  unfold bd_X12_readRealm_2 at h
  refine g_iload_n (q := 3) 1 X dX12_readRealm_2 rfl rfl rfl ?_
  refine g_if_eq (q := 6) 35 X dX12_readRealm_3 (by decide) rfl (fun c1 => ?_) (fun c1 => ?_)
  · have h := h.1 c1
    refine g_aload_n (q := 36) 0 X dX12_readRealm_35 rfl rfl rfl ?_
    refine g_getI (q := 39) 12 9 X kf_X12_83 (by decide) (by decide) rfl rfl (hK.n (by decide)) dX12_readRealm_36 rfl ?_
    refine g_iconst (q := 40) 1 X dX12_readRealm_39 rfl rfl ic_1 ?_
    refine g_icmp_eq (q := 43) 48 X dX12_readRealm_40 (by decide) rfl (fun c2 => ?_) (fun c2 => ?_)
    · have h := h.1 c2
      refine g_sub (L' := [aR (some 66), aJ]) ⟨Or.inr rfl, Or.inl rfl, trivial⟩ ?_
      exact cb_X12_readRealm_48 X hR hK   h
    · have h := h.2 c2
      refine g_aload_n (q := 44) 0 X dX12_readRealm_43 rfl rfl rfl ?_
      refine g_iconst (q := 45) 1 X dX12_readRealm_44 rfl rfl ic_1 ?_
      refine g_cv (q := 48) [aI 1] 12 X (ce_X12_wrong hK  h) kV_X12_126 rfl (by decide) rfl (hK.n (by decide)) rfl rfl (Nat.le_of_ble_eq_true rfl) (by decide) dX12_readRealm_45 rfl (fun r n_ iv_ rv_ hf => ?_)
      obtain ⟨en_, er_, rfl, h⟩ := hf; subst n_; subst rv_
      generalize iv_ = iv3 at h ⊢
      refine g_sub (L' := [aR (some 66), aJ]) ⟨Or.inr rfl, Or.inl rfl, trivial⟩ ?_
      exact cb_X12_readRealm_48 X hR hK   h
  · have h := h.2 c1
    refine g_aload_n (q := 7) 0 X dX12_readRealm_6 rfl rfl rfl ?_
    refine g_cv (q := 10) [] 12 X (ce_X12_readLine hK  h) kV_X12_193 rfl (by decide) rfl (hK.n (by decide)) rfl rfl (Nat.le_of_ble_eq_true rfl) (by decide) dX12_readRealm_7 rfl (fun r n_ iv_ rv_ hf => ?_)
    obtain ⟨en_, er_, rfl, h⟩ := hf; subst n_; subst rv_
    generalize iv_ = iv4 at h ⊢
    refine g_aload_n (q := 11) 0 X dX12_readRealm_10 rfl rfl rfl ?_
    refine g_getI (q := 14) 12 9 X kf_X12_83 (by decide) (by decide) rfl rfl (hK.n (by decide)) dX12_readRealm_11 rfl ?_
    refine g_iconst (q := 15) 4 X dX12_readRealm_14 rfl rfl ic_4 ?_
    refine g_icmp_ne (q := 18) 22 X dX12_readRealm_15 (by decide) rfl (fun c5 => ?_) (fun c5 => ?_)
    · have h := h.1 c5
      refine g_iconst (q := 23) 0 X dX12_readRealm_22 rfl rfl ic_0 ?_
      refine g_sub (L' := [aR (some 66), aJ]) ⟨Or.inr rfl, Or.inl rfl, trivial⟩ ?_
      exact cb_X12_readRealm_23 X hR hK  hP2 h
    · have h := h.2 c5
      refine g_iconst (q := 19) 1 X dX12_readRealm_18 rfl rfl ic_1 ?_
      refine g_goto (q := 23) X dX12_readRealm_19 (by decide) ?_
      refine g_sub (L' := [aR (some 66), aJ]) ⟨Or.inr rfl, Or.inl rfl, trivial⟩ ?_
      exact cb_X12_readRealm_23 X hR hK  hP2 h
def wl_X12_readRealm_2 (l1 : Int) (iv : IV) (rv : RV) (K : IV → Prop) : Prop :=
  ∀ P : Int → IV → Prop, (∀ (l1' : Int) (iv' : IV), bd_X12_readRealm_2  P l1' iv' rv K → P l1' iv') → P l1 iv
theorem cl_X12_readRealm_2 {Γ : GX} {n : Nat} {iv : IV} {rv : RV} {K : IV → Prop} {l1 : Int} (X : Cx Γ RX12 cX12_readRealm 2 12) (hR : Rt Γ none 0 0 (fV1 n rv K)) (hK : Lk n rv)  (h : wl_X12_readRealm_2 l1 iv rv K) : G Γ 2 2 [aR (some 66), aI l1] [] n iv rv 0 0 := by
  exact h (fun l1' iv' =>  G Γ 2 2 [aR (some 66), aI (l1')] [] n iv' rv 0 0) (fun l1' iv' hb => cb_X12_readRealm_2 X hR hK   (fun l1' iv' hp => hp) hb)
def wp_X12_readRealm (iv : IV) (rv : RV) (K : IV → Prop) : Prop :=
  wl_X12_readRealm_2 1 iv rv K
set_option maxRecDepth 10000 in
theorem ce_X12_readRealm {n : Nat} {iv : IV} {rv : RV} {K : IV → Prop} (hK : Lk n rv)  (h : wp_X12_readRealm  iv rv K) : Call 12 0 0 yX12_readRealm cX12_readRealm 2 none [aR (some 66)] n iv rv (fV1 n rv K) := by
  refine Call.by (L := [aR (some 66), aJ]) (by decide) rfl ⟨trivial, trivial⟩ rfl (Nat.le_of_ble_eq_true rfl) (fun Γ X hR => ?_)
  unfold wp_X12_readRealm at h
  refine g_iconst (q := 1) 1 X dX12_readRealm_0 rfl rfl ic_1 ?_
  refine g_istore_n (q := 2) 1 (L' := [aR (some 66), aI 1]) X dX12_readRealm_1 rfl rfl (by decide) rfl rfl ?_
  exact cl_X12_readRealm_2 X hR hK   h
def bd_X12_feed_76 (P23 : Int → Int → Int → Int → Int → Int → IV → Prop) (l1 l2 l3 l4 l5 l6 t0 : Int) (iv : IV) (rv : RV) (K : Int → IV → Prop) : Prop :=
  (0 ≤ iv 66 6 ∧ iv 66 6 < 900) ∧ ∀ iv2, iv2 = w2 iv 67 (iv 66 6).toNat ((Int32.ofInt ((Int32.ofInt ((Int32.ofInt t0 >>> (Int32.ofInt (w32 (24 - (w32 (8 * (Int.tmod l6 4))))) &&& 31)).toInt)).toInt8.toInt32.toInt)).toInt8.toInt32.toInt) → ∀ iv3, iv3 = w2 iv2 66 6 (w32 ((iv2 66 6) + 1)) → P23 l1 l2 l3 l4 l5 (w32 (l6 + 1)) iv3
set_option maxRecDepth 10000 in
theorem cb_X12_feed_76 {Γ : GX} {n : Nat} {iv : IV} {rv : RV} {K : Int → IV → Prop} {P23 : Int → Int → Int → Int → Int → Int → IV → Prop} {l1 l2 l3 l4 l5 l6 t0 : Int} (X : Cx Γ RX12 cX12_feed 8 0) (hR : Rt Γ (some .int) 0 0 (fI1 n rv K)) (hK : Lk n rv)  (hP23 : ∀ (l1' l2' l3' l4' l5' l6' : Int) (iv' : IV), P23 l1' l2' l3' l4' l5' l6' iv' → G Γ 8 23 [aR (some 66), aI (l1'), aI (l2'), aI (l3'), aI (l4'), aI (l5'), aI (l6'), aJ] [] n iv' rv 0 0) (h : bd_X12_feed_76 P23 l1 l2 l3 l4 l5 l6 t0 iv rv K) : G Γ 8 76 [aR (some 66), aI l1, aI l2, aI l3, aI l4, aI l5, aI l6, aJ] [aI t0] n iv rv 0 0 := by
  unfold bd_X12_feed_76 at h
  refine g_istore (q := 78) (k0 := 0) 7 (L' := [aR (some 66), aI l1, aI l2, aI l3, aI l4, aI l5, aI l6, aI t0]) X dX12_feed_76 rfl (by decide) rfl rfl ?_
  refine g_aload_n (q := 79) 0 X dX12_feed_78 rfl rfl rfl ?_
  refine g_getR (q := 82) (r := some 67) 12 5 X (lk_66_5 hK) (lt2000 (c := 0) (by decide)) kf_X12_13 (by decide) (by decide) rfl rfl (hK.n (by decide)) dX12_feed_79 rfl ?_
  refine g_aload_n (q := 83) 0 X dX12_feed_82 rfl rfl rfl ?_
  refine g_getI (q := 86) 12 6 X kf_X12_435 (by decide) (by decide) rfl rfl (hK.n (by decide)) dX12_feed_83 rfl ?_
  refine g_iload (q := 88) 7 X dX12_feed_86 rfl rfl ?_
  refine g_bipush (q := 90) 24 X dX12_feed_88 rfl bc_24 ic_24 ?_
  refine g_bipush (q := 92) 8 X dX12_feed_90 rfl bc_8 ic_8 ?_
  refine g_iload (q := 94) 6 X dX12_feed_92 rfl rfl ?_
  refine g_iconst (q := 95) 4 X dX12_feed_94 rfl rfl ic_4 ?_
  refine g_irem (q := 96) X (by decide) dX12_feed_95 rfl ?_
  refine g_imul (q := 97) X dX12_feed_96 rfl ?_
  refine g_isub (q := 98) X dX12_feed_97 rfl ?_
  refine g_ishr (q := 99) X dX12_feed_98 rfl ?_
  refine g_i2b (q := 100) X dX12_feed_99 rfl ?_
  obtain ⟨s1, h⟩ := h
  refine g_bast (q := 101) X rfl (hK.n (by decide)) s1 dX12_feed_100 rfl ?_
  refine g_nmM (fun iv2 eiv2 => ?_)
  have h := h iv2 eiv2
  refine g_aload_n (q := 102) 0 X dX12_feed_101 rfl rfl rfl ?_
  refine g_dup (q := 103) X dX12_feed_102 rfl rfl ?_
  refine g_getI (q := 106) 12 6 X kf_X12_435 (by decide) (by decide) rfl rfl (hK.n (by decide)) dX12_feed_103 rfl ?_
  refine g_iconst (q := 107) 1 X dX12_feed_106 rfl rfl ic_1 ?_
  refine g_iadd (q := 108) X dX12_feed_107 rfl ?_
  refine g_putI (q := 111) 12 6 X (Or.inl rfl) rfl kf_X12_435 (by decide) (by decide) rfl (hK.n (by decide)) dX12_feed_108 rfl ?_
  refine g_nmM (fun iv3 eiv3 => ?_)
  have h := h iv3 eiv3
  refine g_iinc (q := 114) 6 (L' := [aR (some 66), aI l1, aI l2, aI l3, aI l4, aI l5, aI (w32 (l6 + 1)), aI t0]) X dX12_feed_111 rfl (by decide) rfl rfl rfl ?_
  refine g_goto (q := 23) X dX12_feed_114 (by decide) ?_
  refine g_sub (L' := [aR (some 66), aI l1, aI l2, aI l3, aI l4, aI l5, aI (w32 (l6 + 1)), aJ]) ⟨Or.inr rfl, Or.inr rfl, Or.inr rfl, Or.inr rfl, Or.inr rfl, Or.inr rfl, Or.inr rfl, Or.inl rfl, trivial⟩ ?_
  exact hP23 _ _ _ _ _ _ _ h
def bd_X12_feed_23 (P23 : Int → Int → Int → Int → Int → Int → IV → Prop) (l1 l2 l3 l4 l5 l6 : Int) (iv : IV) (rv : RV) (K : Int → IV → Prop) : Prop :=
  ((20 ≤ l6) → (K (iv 66 6) iv)) ∧ ((¬ (20 ≤ l6)) → (((4 ≤ l6) → (((8 ≤ l6) → (((12 ≤ l6) → (((16 ≤ l6) → (bd_X12_feed_76 P23 l1 l2 l3 l4 l5 l6 l5 iv rv K)) ∧ ((¬ (16 ≤ l6)) → (bd_X12_feed_76 P23 l1 l2 l3 l4 l5 l6 l4 iv rv K)))) ∧ ((¬ (12 ≤ l6)) → (bd_X12_feed_76 P23 l1 l2 l3 l4 l5 l6 l3 iv rv K)))) ∧ ((¬ (8 ≤ l6)) → (bd_X12_feed_76 P23 l1 l2 l3 l4 l5 l6 l2 iv rv K)))) ∧ ((¬ (4 ≤ l6)) → (bd_X12_feed_76 P23 l1 l2 l3 l4 l5 l6 l1 iv rv K))))
set_option maxRecDepth 10000 in
theorem cb_X12_feed_23 {Γ : GX} {n : Nat} {iv : IV} {rv : RV} {K : Int → IV → Prop} {P23 : Int → Int → Int → Int → Int → Int → IV → Prop} {l1 l2 l3 l4 l5 l6 : Int} (X : Cx Γ RX12 cX12_feed 8 0) (hR : Rt Γ (some .int) 0 0 (fI1 n rv K)) (hK : Lk n rv)  (hP23 : ∀ (l1' l2' l3' l4' l5' l6' : Int) (iv' : IV), P23 l1' l2' l3' l4' l5' l6' iv' → G Γ 8 23 [aR (some 66), aI (l1'), aI (l2'), aI (l3'), aI (l4'), aI (l5'), aI (l6'), aJ] [] n iv' rv 0 0) (h : bd_X12_feed_23 P23 l1 l2 l3 l4 l5 l6 iv rv K) : G Γ 8 23 [aR (some 66), aI l1, aI l2, aI l3, aI l4, aI l5, aI l6, aJ] [] n iv rv 0 0 := by
  unfold bd_X12_feed_23 at h
  refine g_iload (q := 25) 6 X dX12_feed_23 rfl rfl ?_
  refine g_bipush (q := 27) 20 X dX12_feed_25 rfl bc_20 ic_20 ?_
  refine g_icmp_ge (q := 30) 117 X dX12_feed_27 (by decide) rfl (fun c1 => ?_) (fun c1 => ?_)
  · have h := h.1 c1
    refine g_aload_n (q := 118) 0 X dX12_feed_117 rfl rfl rfl ?_
    refine g_getI (q := 121) 12 6 X kf_X12_435 (by decide) (by decide) rfl rfl (hK.n (by decide)) dX12_feed_118 rfl ?_
    exact g_iret (q := 0) X hR dX12_feed_121 rfl ⟨rfl, rfl, _, rfl, h⟩
  · have h := h.2 c1
    refine g_iload (q := 32) 6 X dX12_feed_30 rfl rfl ?_
    refine g_iconst (q := 33) 4 X dX12_feed_32 rfl rfl ic_4 ?_
    refine g_icmp_ge (q := 36) 40 X dX12_feed_33 (by decide) rfl (fun c2 => ?_) (fun c2 => ?_)
    · have h := h.1 c2
      refine g_iload (q := 42) 6 X dX12_feed_40 rfl rfl ?_
      refine g_bipush (q := 44) 8 X dX12_feed_42 rfl bc_8 ic_8 ?_
      refine g_icmp_ge (q := 47) 51 X dX12_feed_44 (by decide) rfl (fun c3 => ?_) (fun c3 => ?_)
      · have h := h.1 c3
        refine g_iload (q := 53) 6 X dX12_feed_51 rfl rfl ?_
        refine g_bipush (q := 55) 12 X dX12_feed_53 rfl bc_12 ic_12 ?_
        refine g_icmp_ge (q := 58) 62 X dX12_feed_55 (by decide) rfl (fun c4 => ?_) (fun c4 => ?_)
        · have h := h.1 c4
          refine g_iload (q := 64) 6 X dX12_feed_62 rfl rfl ?_
          refine g_bipush (q := 66) 16 X dX12_feed_64 rfl bc_16 ic_16 ?_
          refine g_icmp_ge (q := 69) 74 X dX12_feed_66 (by decide) rfl (fun c5 => ?_) (fun c5 => ?_)
          · have h := h.1 c5
            refine g_iload (q := 76) 5 X dX12_feed_74 rfl rfl ?_
            exact cb_X12_feed_76 X hR hK  hP23 h
          · have h := h.2 c5
            refine g_iload (q := 71) 4 X dX12_feed_69 rfl rfl ?_
            refine g_goto (q := 76) X dX12_feed_71 (by decide) ?_
            exact cb_X12_feed_76 X hR hK  hP23 h
        · have h := h.2 c4
          refine g_iload_n (q := 59) 3 X dX12_feed_58 rfl rfl rfl ?_
          refine g_goto (q := 76) X dX12_feed_59 (by decide) ?_
          exact cb_X12_feed_76 X hR hK  hP23 h
      · have h := h.2 c3
        refine g_iload_n (q := 48) 2 X dX12_feed_47 rfl rfl rfl ?_
        refine g_goto (q := 76) X dX12_feed_48 (by decide) ?_
        exact cb_X12_feed_76 X hR hK  hP23 h
    · have h := h.2 c2
      refine g_iload_n (q := 37) 1 X dX12_feed_36 rfl rfl rfl ?_
      refine g_goto (q := 76) X dX12_feed_37 (by decide) ?_
      exact cb_X12_feed_76 X hR hK  hP23 h
def wl_X12_feed_23 (l1 l2 l3 l4 l5 l6 : Int) (iv : IV) (rv : RV) (K : Int → IV → Prop) : Prop :=
  ∀ P : Int → Int → Int → Int → Int → Int → IV → Prop, (∀ (l1' l2' l3' l4' l5' l6' : Int) (iv' : IV), bd_X12_feed_23  P l1' l2' l3' l4' l5' l6' iv' rv K → P l1' l2' l3' l4' l5' l6' iv') → P l1 l2 l3 l4 l5 l6 iv
theorem cl_X12_feed_23 {Γ : GX} {n : Nat} {iv : IV} {rv : RV} {K : Int → IV → Prop} {l1 l2 l3 l4 l5 l6 : Int} (X : Cx Γ RX12 cX12_feed 8 0) (hR : Rt Γ (some .int) 0 0 (fI1 n rv K)) (hK : Lk n rv)  (h : wl_X12_feed_23 l1 l2 l3 l4 l5 l6 iv rv K) : G Γ 8 23 [aR (some 66), aI l1, aI l2, aI l3, aI l4, aI l5, aI l6, aJ] [] n iv rv 0 0 := by
  exact h (fun l1' l2' l3' l4' l5' l6' iv' =>  G Γ 8 23 [aR (some 66), aI (l1'), aI (l2'), aI (l3'), aI (l4'), aI (l5'), aI (l6'), aJ] [] n iv' rv 0 0) (fun l1' l2' l3' l4' l5' l6' iv' hb => cb_X12_feed_23 X hR hK   (fun l1' l2' l3' l4' l5' l6' iv' hp => hp) hb)
def wp_X12_feed (a1 : Int) (a2 : Int) (a3 : Int) (a4 : Int) (a5 : Int) (iv : IV) (rv : RV) (K : Int → IV → Prop) : Prop :=
  ∀ iv1, iv1 = w2 iv 66 0 0 → (((w32 ((iv1 66 6) + 20)) ≤ 900) → (wl_X12_feed_23 a1 a2 a3 a4 a5 0 iv1 rv K)) ∧ ((¬ ((w32 ((iv1 66 6) + 20)) ≤ 900)) → (K (-1) iv1))
set_option maxRecDepth 10000 in
theorem ce_X12_feed {n : Nat} {iv : IV} {rv : RV} {K : Int → IV → Prop} {a1 : Int} {a2 : Int} {a3 : Int} {a4 : Int} {a5 : Int} (hK : Lk n rv)  (h : wp_X12_feed a1 a2 a3 a4 a5 iv rv K) : Call 0 0 0 yX12_feed cX12_feed 8 (some .int) [aR (some 66), aI a1, aI a2, aI a3, aI a4, aI a5] n iv rv (fI1 n rv K) := by
  refine Call.by (L := [aR (some 66), aI a1, aI a2, aI a3, aI a4, aI a5, aJ, aJ]) (by decide) rfl ⟨trivial, trivial, trivial, trivial, trivial, trivial, trivial⟩ rfl (Nat.le_of_ble_eq_true rfl) (fun Γ X hR => ?_)
  unfold wp_X12_feed at h
  refine g_aload_n (q := 1) 0 X dX12_feed_0 rfl rfl rfl ?_
  refine g_iconst (q := 2) 0 X dX12_feed_1 rfl rfl ic_0 ?_
  refine g_putI (q := 5) 12 0 X (Or.inl rfl) rfl kf_X12_54 (by decide) (by decide) rfl (hK.n (by decide)) dX12_feed_2 rfl ?_
  refine g_nmM (fun iv1 eiv1 => ?_)
  have h := h iv1 eiv1
  refine g_aload_n (q := 6) 0 X dX12_feed_5 rfl rfl rfl ?_
  refine g_getI (q := 9) 12 6 X kf_X12_435 (by decide) (by decide) rfl rfl (hK.n (by decide)) dX12_feed_6 rfl ?_
  refine g_bipush (q := 11) 20 X dX12_feed_9 rfl bc_20 ic_20 ?_
  refine g_iadd (q := 12) X dX12_feed_11 rfl ?_
  refine g_sipush (q := 15) 900 X dX12_feed_12 rfl sc_900 ic_900 ?_
  refine g_icmp_le (q := 18) 20 X dX12_feed_15 (by decide) rfl (fun c2 => ?_) (fun c2 => ?_)
  · have h := h.1 c2
    refine g_iconst (q := 21) 0 X dX12_feed_20 rfl rfl ic_0 ?_
    refine g_istore (q := 23) (k0 := 0) 6 (L' := [aR (some 66), aI a1, aI a2, aI a3, aI a4, aI a5, aI 0, aJ]) X dX12_feed_21 rfl (by decide) rfl rfl ?_
    exact cl_X12_feed_23 X hR hK   h
  · have h := h.2 c2
    refine g_iconst (q := 19) (-1) X dX12_feed_18 rfl rfl ic_m1 ?_
    exact g_iret (q := 0) X hR dX12_feed_19 rfl ⟨rfl, rfl, _, rfl, h⟩
def wp_X12_fault (iv : IV) (rv : RV) (K : Int → IV → Prop) : Prop :=
  ∀ iv1, iv1 = w2 iv 66 0 0 → K (iv1 66 12) iv1
set_option maxRecDepth 10000 in
theorem ce_X12_fault {n : Nat} {iv : IV} {rv : RV} {K : Int → IV → Prop} (hK : Lk n rv)  (h : wp_X12_fault  iv rv K) : Call 0 0 0 yX12_fault cX12_fault 1 (some .int) [aR (some 66)] n iv rv (fI1 n rv K) := by
  refine Call.by (L := [aR (some 66)]) (by decide) rfl ⟨trivial, trivial⟩ rfl (Nat.le_of_ble_eq_true rfl) (fun Γ X hR => ?_)
  unfold wp_X12_fault at h
  refine g_aload_n (q := 1) 0 X dX12_fault_0 rfl rfl rfl ?_
  refine g_iconst (q := 2) 0 X dX12_fault_1 rfl rfl ic_0 ?_
  refine g_putI (q := 5) 12 0 X (Or.inl rfl) rfl kf_X12_54 (by decide) (by decide) rfl (hK.n (by decide)) dX12_fault_2 rfl ?_
  refine g_nmM (fun iv1 eiv1 => ?_)
  have h := h iv1 eiv1
  refine g_aload_n (q := 6) 0 X dX12_fault_5 rfl rfl rfl ?_
  refine g_getI (q := 9) 12 12 X kf_X12_109 (by decide) (by decide) rfl rfl (hK.n (by decide)) dX12_fault_6 rfl ?_
  exact g_iret (q := 0) X hR dX12_fault_9 rfl ⟨rfl, rfl, _, rfl, h⟩
def wp_X12_where (iv : IV) (rv : RV) (K : Int → IV → Prop) : Prop :=
  ∀ iv1, iv1 = w2 iv 66 0 0 → K (iv1 66 2) iv1
set_option maxRecDepth 10000 in
theorem ce_X12_where {n : Nat} {iv : IV} {rv : RV} {K : Int → IV → Prop} (hK : Lk n rv)  (h : wp_X12_where  iv rv K) : Call 0 0 0 yX12_where cX12_where 1 (some .int) [aR (some 66)] n iv rv (fI1 n rv K) := by
  refine Call.by (L := [aR (some 66)]) (by decide) rfl ⟨trivial, trivial⟩ rfl (Nat.le_of_ble_eq_true rfl) (fun Γ X hR => ?_)
  unfold wp_X12_where at h
  refine g_aload_n (q := 1) 0 X dX12_where_0 rfl rfl rfl ?_
  refine g_iconst (q := 2) 0 X dX12_where_1 rfl rfl ic_0 ?_
  refine g_putI (q := 5) 12 0 X (Or.inl rfl) rfl kf_X12_54 (by decide) (by decide) rfl (hK.n (by decide)) dX12_where_2 rfl ?_
  refine g_nmM (fun iv1 eiv1 => ?_)
  have h := h iv1 eiv1
  refine g_aload_n (q := 6) 0 X dX12_where_5 rfl rfl rfl ?_
  refine g_getI (q := 9) 12 2 X kf_X12_9 (by decide) (by decide) rfl rfl (hK.n (by decide)) dX12_where_6 rfl ?_
  exact g_iret (q := 0) X hR dX12_where_9 rfl ⟨rfl, rfl, _, rfl, h⟩
def bd_X12_lays_12 (P12 : Int → IV → Prop) (l2 : Int) (iv : IV) (rv : RV) (K : IV → Prop) : Prop :=
  ((16 ≤ l2) → (K iv)) ∧ ((¬ (16 ≤ l2)) → ((rv 66 3 = some 80) ∧ (0 ≤ l2 ∧ l2 < 16) ∧ (0 ≤ l2 ∧ l2 < 16) ∧ ∀ iv4, iv4 = w2 iv 68 l2.toNat (iv 90 l2.toNat) → (0 ≤ l2 ∧ l2 < 16) ∧ (0 ≤ l2 ∧ l2 < 16) ∧ ∀ iv7, iv7 = w2 iv4 69 l2.toNat (iv4 92 l2.toNat) → P12 (w32 (l2 + 1)) iv7))
set_option maxRecDepth 10000 in
theorem cb_X12_lays_12 {Γ : GX} {n : Nat} {iv : IV} {rv : RV} {K : IV → Prop} {P12 : Int → IV → Prop} {l2 : Int} (X : Cx Γ RX12 cX12_lays 3 0) (hR : Rt Γ none 0 0 (fV1 n rv K)) (hK : Lk n rv)  (hP12 : ∀ (l2' : Int) (iv' : IV), P12 l2' iv' → G Γ 3 12 [aR (some 66), aJ, aI (l2')] [] n iv' rv 0 0) (h : bd_X12_lays_12 P12 l2 iv rv K) : G Γ 3 12 [aR (some 66), aJ, aI l2] [] n iv rv 0 0 := by
  unfold bd_X12_lays_12 at h
  refine g_iload_n (q := 13) 2 X dX12_lays_12 rfl rfl rfl ?_
  refine g_bipush (q := 15) 16 X dX12_lays_13 rfl bc_16 ic_16 ?_
  refine g_icmp_ge (q := 18) 54 X dX12_lays_15 (by decide) rfl (fun c1 => ?_) (fun c1 => ?_)
  · have h := h.1 c1
    exact g_vret (q := 0) X hR dX12_lays_54 rfl ⟨rfl, rfl, rfl, h⟩
  · have h := h.2 c1
    refine g_aload_n (q := 19) 0 X dX12_lays_18 rfl rfl rfl ?_
    refine g_getR (q := 22) (r := some 68) 12 15 X (lk_66_15 hK) (lt2000 (c := 0) (by decide)) kf_X12_17 (by decide) (by decide) rfl rfl (hK.n (by decide)) dX12_lays_19 rfl ?_
    refine g_iload_n (q := 23) 2 X dX12_lays_22 rfl rfl rfl ?_
    refine g_aload_n (q := 24) 0 X dX12_lays_23 rfl rfl rfl ?_
    obtain ⟨hm80, h⟩ := h
    refine g_getR (q := 27) (r := some 80) 12 3 X hm80 (lt2000 (c := 0) (by decide)) kf_X12_442 (by decide) (by decide) rfl rfl (hK.n (by decide)) dX12_lays_24 rfl ?_
    refine g_getR (q := 30) (r := some 90) 11 23 X (lkM_23 hK (Or.inl rfl) (hK.2.2.2.2.2.2.1 80 hm80 (Or.inl rfl))) (lt2000 (c := 0) (by decide)) kf_X12_307 (by decide) (by decide) rfl rfl (Nat.lt_of_lt_of_le (by decide) (hK.2.2.2.2.2.2.1 80 hm80 (Or.inl rfl))) dX12_lays_27 rfl ?_
    refine g_iload_n (q := 31) 2 X dX12_lays_30 rfl rfl rfl ?_
    obtain ⟨s2, h⟩ := h
    refine g_iald (q := 32) X rfl (Nat.lt_of_lt_of_le (by decide) (hK.2.2.2.2.2.2.1 80 hm80 (Or.inl rfl))) s2 dX12_lays_31 rfl ?_
    obtain ⟨s3, h⟩ := h
    refine g_iast (q := 33) X rfl (hK.n (by decide)) s3 dX12_lays_32 rfl ?_
    refine g_nmM (fun iv4 eiv4 => ?_)
    have h := h iv4 eiv4
    refine g_aload_n (q := 34) 0 X dX12_lays_33 rfl rfl rfl ?_
    refine g_getR (q := 37) (r := some 69) 12 16 X (lk_66_16 hK) (lt2000 (c := 0) (by decide)) kf_X12_21 (by decide) (by decide) rfl rfl (hK.n (by decide)) dX12_lays_34 rfl ?_
    refine g_iload_n (q := 38) 2 X dX12_lays_37 rfl rfl rfl ?_
    refine g_aload_n (q := 39) 0 X dX12_lays_38 rfl rfl rfl ?_
    refine g_getR (q := 42) (r := some 80) 12 3 X hm80 (lt2000 (c := 0) (by decide)) kf_X12_442 (by decide) (by decide) rfl rfl (hK.n (by decide)) dX12_lays_39 rfl ?_
    refine g_getR (q := 45) (r := some 92) 11 25 X (lkM_25 hK (Or.inl rfl) (hK.2.2.2.2.2.2.1 80 hm80 (Or.inl rfl))) (lt2000 (c := 0) (by decide)) kf_X12_371 (by decide) (by decide) rfl rfl (Nat.lt_of_lt_of_le (by decide) (hK.2.2.2.2.2.2.1 80 hm80 (Or.inl rfl))) dX12_lays_42 rfl ?_
    refine g_iload_n (q := 46) 2 X dX12_lays_45 rfl rfl rfl ?_
    obtain ⟨s5, h⟩ := h
    refine g_iald (q := 47) X rfl (Nat.lt_of_lt_of_le (by decide) (hK.2.2.2.2.2.2.1 80 hm80 (Or.inl rfl))) s5 dX12_lays_46 rfl ?_
    obtain ⟨s6, h⟩ := h
    refine g_iast (q := 48) X rfl (hK.n (by decide)) s6 dX12_lays_47 rfl ?_
    refine g_nmM (fun iv7 eiv7 => ?_)
    have h := h iv7 eiv7
    refine g_iinc (q := 51) 2 (L' := [aR (some 66), aJ, aI (w32 (l2 + 1))]) X dX12_lays_48 rfl (by decide) rfl rfl rfl ?_
    refine g_goto (q := 12) X dX12_lays_51 (by decide) ?_
    exact hP12 _ _ h
def wl_X12_lays_12 (l2 : Int) (iv : IV) (rv : RV) (K : IV → Prop) : Prop :=
  ∀ P : Int → IV → Prop, (∀ (l2' : Int) (iv' : IV), bd_X12_lays_12  P l2' iv' rv K → P l2' iv') → P l2 iv
theorem cl_X12_lays_12 {Γ : GX} {n : Nat} {iv : IV} {rv : RV} {K : IV → Prop} {l2 : Int} (X : Cx Γ RX12 cX12_lays 3 0) (hR : Rt Γ none 0 0 (fV1 n rv K)) (hK : Lk n rv)  (h : wl_X12_lays_12 l2 iv rv K) : G Γ 3 12 [aR (some 66), aJ, aI l2] [] n iv rv 0 0 := by
  exact h (fun l2' iv' =>  G Γ 3 12 [aR (some 66), aJ, aI (l2')] [] n iv' rv 0 0) (fun l2' iv' hb => cb_X12_lays_12 X hR hK   (fun l2' iv' hp => hp) hb)
def wp_X12_lays (a1 : Int) (iv : IV) (rv : RV) (K : IV → Prop) : Prop :=
  ∀ iv1, iv1 = w2 iv 66 20 a1 → ∀ iv2, iv2 = w2 iv1 66 17 (-1) → wl_X12_lays_12 0 iv2 rv K
set_option maxRecDepth 10000 in
theorem ce_X12_lays {n : Nat} {iv : IV} {rv : RV} {K : IV → Prop} {a1 : Int} (hK : Lk n rv)  (h : wp_X12_lays a1 iv rv K) : Call 0 0 0 yX12_lays cX12_lays 3 none [aR (some 66), aI a1] n iv rv (fV1 n rv K) := by
  refine Call.by (L := [aR (some 66), aI a1, aJ]) (by decide) rfl ⟨trivial, trivial, trivial⟩ rfl (Nat.le_of_ble_eq_true rfl) (fun Γ X hR => ?_)
  unfold wp_X12_lays at h
  refine g_aload_n (q := 1) 0 X dX12_lays_0 rfl rfl rfl ?_
  refine g_iload_n (q := 2) 1 X dX12_lays_1 rfl rfl rfl ?_
  refine g_putI (q := 5) 12 20 X (Or.inl rfl) rfl kf_X12_451 (by decide) (by decide) rfl (hK.n (by decide)) dX12_lays_2 rfl ?_
  refine g_nmM (fun iv1 eiv1 => ?_)
  have h := h iv1 eiv1
  refine g_aload_n (q := 6) 0 X dX12_lays_5 rfl rfl rfl ?_
  refine g_iconst (q := 7) (-1) X dX12_lays_6 rfl rfl ic_m1 ?_
  refine g_putI (q := 10) 12 17 X (Or.inl rfl) rfl kf_X12_454 (by decide) (by decide) rfl (hK.n (by decide)) dX12_lays_7 rfl ?_
  refine g_nmM (fun iv2 eiv2 => ?_)
  have h := h iv2 eiv2
  refine g_iconst (q := 11) 0 X dX12_lays_10 rfl rfl ic_0 ?_
  refine g_istore_n (q := 12) 2 (L' := [aR (some 66), aI a1, aI 0]) X dX12_lays_11 rfl rfl (by decide) rfl rfl ?_
  refine g_sub (L' := [aR (some 66), aJ, aI 0]) ⟨Or.inr rfl, Or.inl rfl, Or.inr rfl, trivial⟩ ?_
  exact cl_X12_lays_12 X hR hK   h
def wp_X12_names (a1 : Int) (iv : IV) (rv : RV) (K : IV → Prop) : Prop :=
  (rv 66 3 = some 80) ∧ (0 ≤ a1 ∧ a1 < 6) ∧ ∀ iv2, iv2 = w2 iv 66 21 (iv 81 a1.toNat) → (0 ≤ a1 ∧ a1 < 6) ∧ ∀ iv4, iv4 = w2 iv2 66 22 (iv2 82 a1.toNat) → K iv4
set_option maxRecDepth 10000 in
theorem ce_X12_names {n : Nat} {iv : IV} {rv : RV} {K : IV → Prop} {a1 : Int} (hK : Lk n rv)  (h : wp_X12_names a1 iv rv K) : Call 0 0 0 yX12_names cX12_names 2 none [aR (some 66), aI a1] n iv rv (fV1 n rv K) := by
  refine Call.by (L := [aR (some 66), aI a1]) (by decide) rfl ⟨trivial, trivial, trivial⟩ rfl (Nat.le_of_ble_eq_true rfl) (fun Γ X hR => ?_)
  unfold wp_X12_names at h
  refine g_aload_n (q := 1) 0 X dX12_names_0 rfl rfl rfl ?_
  refine g_aload_n (q := 2) 0 X dX12_names_1 rfl rfl rfl ?_
  obtain ⟨hm80, h⟩ := h
  refine g_getR (q := 5) (r := some 80) 12 3 X hm80 (lt2000 (c := 0) (by decide)) kf_X12_442 (by decide) (by decide) rfl rfl (hK.n (by decide)) dX12_names_2 rfl ?_
  refine g_getR (q := 8) (r := some 81) 11 14 X (lkM_14 hK (Or.inl rfl) (hK.2.2.2.2.2.2.1 80 hm80 (Or.inl rfl))) (lt2000 (c := 0) (by decide)) kf_X12_265 (by decide) (by decide) rfl rfl (Nat.lt_of_lt_of_le (by decide) (hK.2.2.2.2.2.2.1 80 hm80 (Or.inl rfl))) dX12_names_5 rfl ?_
  refine g_iload_n (q := 9) 1 X dX12_names_8 rfl rfl rfl ?_
  obtain ⟨s1, h⟩ := h
  refine g_iald (q := 10) X rfl (Nat.lt_of_lt_of_le (by decide) (hK.2.2.2.2.2.2.1 80 hm80 (Or.inl rfl))) s1 dX12_names_9 rfl ?_
  refine g_putI (q := 13) 12 21 X (Or.inl rfl) rfl kf_X12_457 (by decide) (by decide) rfl (hK.n (by decide)) dX12_names_10 rfl ?_
  refine g_nmM (fun iv2 eiv2 => ?_)
  have h := h iv2 eiv2
  refine g_aload_n (q := 14) 0 X dX12_names_13 rfl rfl rfl ?_
  refine g_aload_n (q := 15) 0 X dX12_names_14 rfl rfl rfl ?_
  refine g_getR (q := 18) (r := some 80) 12 3 X hm80 (lt2000 (c := 0) (by decide)) kf_X12_442 (by decide) (by decide) rfl rfl (hK.n (by decide)) dX12_names_15 rfl ?_
  refine g_getR (q := 21) (r := some 82) 11 15 X (lkM_15 hK (Or.inl rfl) (hK.2.2.2.2.2.2.1 80 hm80 (Or.inl rfl))) (lt2000 (c := 0) (by decide)) kf_X12_268 (by decide) (by decide) rfl rfl (Nat.lt_of_lt_of_le (by decide) (hK.2.2.2.2.2.2.1 80 hm80 (Or.inl rfl))) dX12_names_18 rfl ?_
  refine g_iload_n (q := 22) 1 X dX12_names_21 rfl rfl rfl ?_
  obtain ⟨s3, h⟩ := h
  refine g_iald (q := 23) X rfl (Nat.lt_of_lt_of_le (by decide) (hK.2.2.2.2.2.2.1 80 hm80 (Or.inl rfl))) s3 dX12_names_22 rfl ?_
  refine g_putI (q := 26) 12 22 X (Or.inl rfl) rfl kf_X12_460 (by decide) (by decide) rfl (hK.n (by decide)) dX12_names_23 rfl ?_
  refine g_nmM (fun iv4 eiv4 => ?_)
  have h := h iv4 eiv4
  exact g_vret (q := 0) X hR dX12_names_26 rfl ⟨rfl, rfl, rfl, h⟩
def bd_X12_inForce_44 (iv : IV) (rv : RV) (K : Int → Prop) : Prop :=
  K 1
set_option maxRecDepth 10000 in
theorem cb_X12_inForce_44 {Γ : GX} {n : Nat} {iv : IV} {rv : RV} {K : Int → Prop} (X : Cx Γ RX12 cX12_inForce 3 0) (hR : Rt Γ (some .boolean) 0 0 (fB0 n iv rv K)) (hK : Lk n rv)  (h : bd_X12_inForce_44 iv rv K) : G Γ 3 44 [aJ, aJ, aJ] [] n iv rv 0 0 := by
  unfold bd_X12_inForce_44 at h
  refine g_iconst (q := 45) 1 X dX12_inForce_44 rfl rfl ic_1 ?_
  refine g_goto (q := 49) X dX12_inForce_45 (by decide) ?_
  exact g_zret (q := 0) .boolean X hR (nar_B (Or.inr rfl)) dX12_inForce_49 rfl ⟨rfl, rfl, rfl, _, rfl, (Or.inr rfl), h⟩
def wp_X12_inForce (a1 : Int) (a2 : Int) (iv : IV) (rv : RV) (K : Int → Prop) : Prop :=
  (0 ≤ a1 ∧ a1 < 16) ∧ ((a2 < (iv 68 a1.toNat)) → (K 0)) ∧ ((¬ (a2 < (iv 68 a1.toNat))) → ((0 ≤ a1 ∧ a1 < 16) ∧ (((iv 69 a1.toNat) = 0) → (bd_X12_inForce_44 iv rv K)) ∧ ((¬ ((iv 69 a1.toNat) = 0)) → ((0 ≤ a1 ∧ a1 < 16) ∧ (((iv 69 a1.toNat) ≠ 2) → (K 0)) ∧ (((iv 69 a1.toNat) = 2) → ((rv 66 3 = some 80) ∧ (0 ≤ iv 66 20 ∧ iv 66 20 < 3) ∧ (((iv 99 (iv 66 20).toNat) = 0) → (K 0)) ∧ ((¬ ((iv 99 (iv 66 20).toNat) = 0)) → (bd_X12_inForce_44 iv rv K))))))))
set_option maxRecDepth 10000 in
theorem ce_X12_inForce {n : Nat} {iv : IV} {rv : RV} {K : Int → Prop} {a1 : Int} {a2 : Int} (hK : Lk n rv)  (h : wp_X12_inForce a1 a2 iv rv K) : Call 0 0 0 yX12_inForce cX12_inForce 3 (some .boolean) [aR (some 66), aI a1, aI a2] n iv rv (fB0 n iv rv K) := by
  refine Call.by (L := [aR (some 66), aI a1, aI a2]) (by decide) rfl ⟨trivial, trivial, trivial, trivial⟩ rfl (Nat.le_of_ble_eq_true rfl) (fun Γ X hR => ?_)
  unfold wp_X12_inForce at h
  refine g_aload_n (q := 1) 0 X dX12_inForce_0 rfl rfl rfl ?_
  refine g_getR (q := 4) (r := some 68) 12 15 X (lk_66_15 hK) (lt2000 (c := 0) (by decide)) kf_X12_17 (by decide) (by decide) rfl rfl (hK.n (by decide)) dX12_inForce_1 rfl ?_
  refine g_iload_n (q := 5) 1 X dX12_inForce_4 rfl rfl rfl ?_
  obtain ⟨s1, h⟩ := h
  refine g_iald (q := 6) X rfl (hK.n (by decide)) s1 dX12_inForce_5 rfl ?_
  refine g_iload_n (q := 7) 2 X dX12_inForce_6 rfl rfl rfl ?_
  refine g_icmp_gt (q := 10) 48 X dX12_inForce_7 (by decide) rfl (fun c2 => ?_) (fun c2 => ?_)
  · have h := h.1 c2
    refine g_iconst (q := 49) 0 X dX12_inForce_48 rfl rfl ic_0 ?_
    exact g_zret (q := 0) .boolean X hR (nar_B (Or.inl rfl)) dX12_inForce_49 rfl ⟨rfl, rfl, rfl, _, rfl, (Or.inl rfl), h⟩
  · have h := h.2 c2
    refine g_aload_n (q := 11) 0 X dX12_inForce_10 rfl rfl rfl ?_
    refine g_getR (q := 14) (r := some 69) 12 16 X (lk_66_16 hK) (lt2000 (c := 0) (by decide)) kf_X12_21 (by decide) (by decide) rfl rfl (hK.n (by decide)) dX12_inForce_11 rfl ?_
    refine g_iload_n (q := 15) 1 X dX12_inForce_14 rfl rfl rfl ?_
    obtain ⟨s3, h⟩ := h
    refine g_iald (q := 16) X rfl (hK.n (by decide)) s3 dX12_inForce_15 rfl ?_
    refine g_if_eq (q := 19) 44 X dX12_inForce_16 (by decide) rfl (fun c4 => ?_) (fun c4 => ?_)
    · have h := h.1 c4
      refine g_sub (L' := [aJ, aJ, aJ]) ⟨Or.inl rfl, Or.inl rfl, Or.inl rfl, trivial⟩ ?_
      exact cb_X12_inForce_44 X hR hK   h
    · have h := h.2 c4
      refine g_aload_n (q := 20) 0 X dX12_inForce_19 rfl rfl rfl ?_
      refine g_getR (q := 23) (r := some 69) 12 16 X (lk_66_16 hK) (lt2000 (c := 0) (by decide)) kf_X12_21 (by decide) (by decide) rfl rfl (hK.n (by decide)) dX12_inForce_20 rfl ?_
      refine g_iload_n (q := 24) 1 X dX12_inForce_23 rfl rfl rfl ?_
      obtain ⟨s5, h⟩ := h
      refine g_iald (q := 25) X rfl (hK.n (by decide)) s5 dX12_inForce_24 rfl ?_
      refine g_iconst (q := 26) 2 X dX12_inForce_25 rfl rfl ic_2 ?_
      refine g_icmp_ne (q := 29) 48 X dX12_inForce_26 (by decide) rfl (fun c6 => ?_) (fun c6 => ?_)
      · have h := h.1 c6
        refine g_iconst (q := 49) 0 X dX12_inForce_48 rfl rfl ic_0 ?_
        exact g_zret (q := 0) .boolean X hR (nar_B (Or.inl rfl)) dX12_inForce_49 rfl ⟨rfl, rfl, rfl, _, rfl, (Or.inl rfl), h⟩
      · have h := h.2 c6
        refine g_aload_n (q := 30) 0 X dX12_inForce_29 rfl rfl rfl ?_
        obtain ⟨hm80, h⟩ := h
        refine g_getR (q := 33) (r := some 80) 12 3 X hm80 (lt2000 (c := 0) (by decide)) kf_X12_442 (by decide) (by decide) rfl rfl (hK.n (by decide)) dX12_inForce_30 rfl ?_
        refine g_getR (q := 36) (r := some 99) 11 32 X (lkM_32 hK (Or.inl rfl) (hK.2.2.2.2.2.2.1 80 hm80 (Or.inl rfl))) (lt2000 (c := 0) (by decide)) kf_X12_402 (by decide) (by decide) rfl rfl (Nat.lt_of_lt_of_le (by decide) (hK.2.2.2.2.2.2.1 80 hm80 (Or.inl rfl))) dX12_inForce_33 rfl ?_
        refine g_aload_n (q := 37) 0 X dX12_inForce_36 rfl rfl rfl ?_
        refine g_getI (q := 40) 12 20 X kf_X12_451 (by decide) (by decide) rfl rfl (hK.n (by decide)) dX12_inForce_37 rfl ?_
        obtain ⟨s7, h⟩ := h
        refine g_zald (q := 41) X rfl (Nat.lt_of_lt_of_le (by decide) (hK.2.2.2.2.2.2.1 80 hm80 (Or.inl rfl))) s7 dX12_inForce_40 rfl ?_
        refine g_if_eq (q := 44) 48 X dX12_inForce_41 (by decide) rfl (fun c8 => ?_) (fun c8 => ?_)
        · have h := h.1 c8
          refine g_iconst (q := 49) 0 X dX12_inForce_48 rfl rfl ic_0 ?_
          exact g_zret (q := 0) .boolean X hR (nar_B (Or.inl rfl)) dX12_inForce_49 rfl ⟨rfl, rfl, rfl, _, rfl, (Or.inl rfl), h⟩
        · have h := h.2 c8
          refine g_sub (L' := [aJ, aJ, aJ]) ⟨Or.inl rfl, Or.inl rfl, Or.inl rfl, trivial⟩ ?_
          exact cb_X12_inForce_44 X hR hK   h
def bd_X12_renewalOf_78 (P5 : Int → Int → Int → Int → Prop) (l1 l2 l3 l4 : Int) (iv : IV) (rv : RV) (K : Int → Prop) : Prop :=
  P5 l1 l2 l3 (w32 (l4 + 1))
set_option maxRecDepth 10000 in
theorem cb_X12_renewalOf_78 {Γ : GX} {n : Nat} {iv : IV} {rv : RV} {K : Int → Prop} {P5 : Int → Int → Int → Int → Prop} {l1 l2 l3 l4 : Int} (X : Cx Γ RX12 cX12_renewalOf 5 0) (hR : Rt Γ (some .int) 0 0 (fI0 n iv rv K)) (hK : Lk n rv)  (hP5 : ∀ (l1' l2' l3' l4' : Int), P5 l1' l2' l3' l4' → G Γ 5 5 [aR (some 66), aI (l1'), aI (l2'), aI (l3'), aI (l4')] [] n iv rv 0 0) (h : bd_X12_renewalOf_78 P5 l1 l2 l3 l4 iv rv K) : G Γ 5 78 [aR (some 66), aI l1, aI l2, aI l3, aI l4] [] n iv rv 0 0 := by
  unfold bd_X12_renewalOf_78 at h
  refine g_iinc (q := 81) 4 (L' := [aR (some 66), aI l1, aI l2, aI l3, aI (w32 (l4 + 1))]) X dX12_renewalOf_78 rfl (by decide) rfl rfl rfl ?_
  refine g_goto (q := 5) X dX12_renewalOf_81 (by decide) ?_
  exact hP5 _ _ _ _ h
def bd_X12_renewalOf_75 (P5 : Int → Int → Int → Int → Prop) (l1 l2 l4 : Int) (iv : IV) (rv : RV) (K : Int → Prop) : Prop :=
  bd_X12_renewalOf_78 P5 l1 l2 l4 l4 iv rv K
set_option maxRecDepth 10000 in
theorem cb_X12_renewalOf_75 {Γ : GX} {n : Nat} {iv : IV} {rv : RV} {K : Int → Prop} {P5 : Int → Int → Int → Int → Prop} {l1 l2 l4 : Int} (X : Cx Γ RX12 cX12_renewalOf 5 0) (hR : Rt Γ (some .int) 0 0 (fI0 n iv rv K)) (hK : Lk n rv)  (hP5 : ∀ (l1' l2' l3' l4' : Int), P5 l1' l2' l3' l4' → G Γ 5 5 [aR (some 66), aI (l1'), aI (l2'), aI (l3'), aI (l4')] [] n iv rv 0 0) (h : bd_X12_renewalOf_75 P5 l1 l2 l4 iv rv K) : G Γ 5 75 [aR (some 66), aI l1, aI l2, aJ, aI l4] [] n iv rv 0 0 := by
  unfold bd_X12_renewalOf_75 at h
  refine g_iload (q := 77) 4 X dX12_renewalOf_75 rfl rfl ?_
  refine g_istore_n (q := 78) 3 (L' := [aR (some 66), aI l1, aI l2, aI l4, aI l4]) X dX12_renewalOf_77 rfl rfl (by decide) rfl rfl ?_
  exact cb_X12_renewalOf_78 X hR hK  hP5 h
def bd_X12_renewalOf_5 (P5 : Int → Int → Int → Int → Prop) (l1 l2 l3 l4 : Int) (iv : IV) (rv : RV) (K : Int → Prop) : Prop :=
  (rv 66 3 = some 80) ∧ (((iv 80 8) ≤ l4) → ((((iv 66 17) ≠ l1) → (K l3)) ∧ (((iv 66 17) = l1) → (((l2 < (iv 66 19)) → (K l3)) ∧ ((¬ (l2 < (iv 66 19))) → (((l3 = (-1)) → (K 4)) ∧ ((¬ (l3 = (-1))) → ((0 ≤ l3 ∧ l3 < 4) ∧ (((iv 66 19) < (iv 95 l3.toNat)) → (K l3)) ∧ ((¬ ((iv 66 19) < (iv 95 l3.toNat))) → (K 4)))))))))) ∧ ((¬ ((iv 80 8) ≤ l4)) → ((0 ≤ l4 ∧ l4 < 4) ∧ (((iv 93 l4.toNat) ≠ l1) → (bd_X12_renewalOf_78 P5 l1 l2 l3 l4 iv rv K)) ∧ (((iv 93 l4.toNat) = l1) → ((0 ≤ l4 ∧ l4 < 4) ∧ (((iv 95 l4.toNat) ≤ l2) → (((l3 = (-1)) → (bd_X12_renewalOf_75 P5 l1 l2 l4 iv rv K)) ∧ ((¬ (l3 = (-1))) → ((0 ≤ l4 ∧ l4 < 4) ∧ (0 ≤ l3 ∧ l3 < 4) ∧ (((iv 95 l4.toNat) < (iv 95 l3.toNat)) → (bd_X12_renewalOf_78 P5 l1 l2 l3 l4 iv rv K)) ∧ ((¬ ((iv 95 l4.toNat) < (iv 95 l3.toNat))) → (bd_X12_renewalOf_75 P5 l1 l2 l4 iv rv K)))))) ∧ ((¬ ((iv 95 l4.toNat) ≤ l2)) → (bd_X12_renewalOf_78 P5 l1 l2 l3 l4 iv rv K))))))
set_option maxRecDepth 10000 in
theorem cb_X12_renewalOf_5 {Γ : GX} {n : Nat} {iv : IV} {rv : RV} {K : Int → Prop} {P5 : Int → Int → Int → Int → Prop} {l1 l2 l3 l4 : Int} (X : Cx Γ RX12 cX12_renewalOf 5 0) (hR : Rt Γ (some .int) 0 0 (fI0 n iv rv K)) (hK : Lk n rv)  (hP5 : ∀ (l1' l2' l3' l4' : Int), P5 l1' l2' l3' l4' → G Γ 5 5 [aR (some 66), aI (l1'), aI (l2'), aI (l3'), aI (l4')] [] n iv rv 0 0) (h : bd_X12_renewalOf_5 P5 l1 l2 l3 l4 iv rv K) : G Γ 5 5 [aR (some 66), aI l1, aI l2, aI l3, aI l4] [] n iv rv 0 0 := by
  unfold bd_X12_renewalOf_5 at h
  refine g_iload (q := 7) 4 X dX12_renewalOf_5 rfl rfl ?_
  refine g_aload_n (q := 8) 0 X dX12_renewalOf_7 rfl rfl rfl ?_
  obtain ⟨hm80, h⟩ := h
  refine g_getR (q := 11) (r := some 80) 12 3 X hm80 (lt2000 (c := 0) (by decide)) kf_X12_442 (by decide) (by decide) rfl rfl (hK.n (by decide)) dX12_renewalOf_8 rfl ?_
  refine g_getI (q := 14) 11 8 X kf_X12_350 (by decide) (by decide) rfl rfl (Nat.lt_of_lt_of_le (by decide) (hK.2.2.2.2.2.2.1 80 hm80 (Or.inl rfl))) dX12_renewalOf_11 rfl ?_
  refine g_icmp_ge (q := 17) 84 X dX12_renewalOf_14 (by decide) rfl (fun c1 => ?_) (fun c1 => ?_)
  · have h := h.1 c1
    refine g_aload_n (q := 85) 0 X dX12_renewalOf_84 rfl rfl rfl ?_
    refine g_getI (q := 88) 12 17 X kf_X12_454 (by decide) (by decide) rfl rfl (hK.n (by decide)) dX12_renewalOf_85 rfl ?_
    refine g_iload_n (q := 89) 1 X dX12_renewalOf_88 rfl rfl rfl ?_
    refine g_icmp_ne (q := 92) 123 X dX12_renewalOf_89 (by decide) rfl (fun c2 => ?_) (fun c2 => ?_)
    · have h := h.1 c2
      refine g_iload_n (q := 124) 3 X dX12_renewalOf_123 rfl rfl rfl ?_
      exact g_iret (q := 0) X hR dX12_renewalOf_124 rfl ⟨rfl, rfl, rfl, _, rfl, h⟩
    · have h := h.2 c2
      refine g_aload_n (q := 93) 0 X dX12_renewalOf_92 rfl rfl rfl ?_
      refine g_getI (q := 96) 12 19 X kf_X12_463 (by decide) (by decide) rfl rfl (hK.n (by decide)) dX12_renewalOf_93 rfl ?_
      refine g_iload_n (q := 97) 2 X dX12_renewalOf_96 rfl rfl rfl ?_
      refine g_icmp_gt (q := 100) 123 X dX12_renewalOf_97 (by decide) rfl (fun c3 => ?_) (fun c3 => ?_)
      · have h := h.1 c3
        refine g_iload_n (q := 124) 3 X dX12_renewalOf_123 rfl rfl rfl ?_
        exact g_iret (q := 0) X hR dX12_renewalOf_124 rfl ⟨rfl, rfl, rfl, _, rfl, h⟩
      · have h := h.2 c3
        refine g_iload_n (q := 101) 3 X dX12_renewalOf_100 rfl rfl rfl ?_
        refine g_iconst (q := 102) (-1) X dX12_renewalOf_101 rfl rfl ic_m1 ?_
        refine g_icmp_eq (q := 105) 121 X dX12_renewalOf_102 (by decide) rfl (fun c4 => ?_) (fun c4 => ?_)
        · have h := h.1 c4
          refine g_iconst (q := 122) 4 X dX12_renewalOf_121 rfl rfl ic_4 ?_
          refine g_istore_n (q := 123) 3 (L' := [aR (some 66), aI l1, aI l2, aI 4, aI l4]) X dX12_renewalOf_122 rfl rfl (by decide) rfl rfl ?_
          refine g_iload_n (q := 124) 3 X dX12_renewalOf_123 rfl rfl rfl ?_
          exact g_iret (q := 0) X hR dX12_renewalOf_124 rfl ⟨rfl, rfl, rfl, _, rfl, h⟩
        · have h := h.2 c4
          refine g_aload_n (q := 106) 0 X dX12_renewalOf_105 rfl rfl rfl ?_
          refine g_getI (q := 109) 12 19 X kf_X12_463 (by decide) (by decide) rfl rfl (hK.n (by decide)) dX12_renewalOf_106 rfl ?_
          refine g_aload_n (q := 110) 0 X dX12_renewalOf_109 rfl rfl rfl ?_
          refine g_getR (q := 113) (r := some 80) 12 3 X hm80 (lt2000 (c := 0) (by decide)) kf_X12_442 (by decide) (by decide) rfl rfl (hK.n (by decide)) dX12_renewalOf_110 rfl ?_
          refine g_getR (q := 116) (r := some 95) 11 28 X (lkM_28 hK (Or.inl rfl) (hK.2.2.2.2.2.2.1 80 hm80 (Or.inl rfl))) (lt2000 (c := 0) (by decide)) kf_X12_365 (by decide) (by decide) rfl rfl (Nat.lt_of_lt_of_le (by decide) (hK.2.2.2.2.2.2.1 80 hm80 (Or.inl rfl))) dX12_renewalOf_113 rfl ?_
          refine g_iload_n (q := 117) 3 X dX12_renewalOf_116 rfl rfl rfl ?_
          obtain ⟨s5, h⟩ := h
          refine g_iald (q := 118) X rfl (Nat.lt_of_lt_of_le (by decide) (hK.2.2.2.2.2.2.1 80 hm80 (Or.inl rfl))) s5 dX12_renewalOf_117 rfl ?_
          refine g_icmp_lt (q := 121) 123 X dX12_renewalOf_118 (by decide) rfl (fun c6 => ?_) (fun c6 => ?_)
          · have h := h.1 c6
            refine g_iload_n (q := 124) 3 X dX12_renewalOf_123 rfl rfl rfl ?_
            exact g_iret (q := 0) X hR dX12_renewalOf_124 rfl ⟨rfl, rfl, rfl, _, rfl, h⟩
          · have h := h.2 c6
            refine g_iconst (q := 122) 4 X dX12_renewalOf_121 rfl rfl ic_4 ?_
            refine g_istore_n (q := 123) 3 (L' := [aR (some 66), aI l1, aI l2, aI 4, aI l4]) X dX12_renewalOf_122 rfl rfl (by decide) rfl rfl ?_
            refine g_iload_n (q := 124) 3 X dX12_renewalOf_123 rfl rfl rfl ?_
            exact g_iret (q := 0) X hR dX12_renewalOf_124 rfl ⟨rfl, rfl, rfl, _, rfl, h⟩
  · have h := h.2 c1
    refine g_aload_n (q := 18) 0 X dX12_renewalOf_17 rfl rfl rfl ?_
    refine g_getR (q := 21) (r := some 80) 12 3 X hm80 (lt2000 (c := 0) (by decide)) kf_X12_442 (by decide) (by decide) rfl rfl (hK.n (by decide)) dX12_renewalOf_18 rfl ?_
    refine g_getR (q := 24) (r := some 93) 11 26 X (lkM_26 hK (Or.inl rfl) (hK.2.2.2.2.2.2.1 80 hm80 (Or.inl rfl))) (lt2000 (c := 0) (by decide)) kf_X12_359 (by decide) (by decide) rfl rfl (Nat.lt_of_lt_of_le (by decide) (hK.2.2.2.2.2.2.1 80 hm80 (Or.inl rfl))) dX12_renewalOf_21 rfl ?_
    refine g_iload (q := 26) 4 X dX12_renewalOf_24 rfl rfl ?_
    obtain ⟨s7, h⟩ := h
    refine g_iald (q := 27) X rfl (Nat.lt_of_lt_of_le (by decide) (hK.2.2.2.2.2.2.1 80 hm80 (Or.inl rfl))) s7 dX12_renewalOf_26 rfl ?_
    refine g_iload_n (q := 28) 1 X dX12_renewalOf_27 rfl rfl rfl ?_
    refine g_icmp_ne (q := 31) 78 X dX12_renewalOf_28 (by decide) rfl (fun c8 => ?_) (fun c8 => ?_)
    · have h := h.1 c8
      exact cb_X12_renewalOf_78 X hR hK  hP5 h
    · have h := h.2 c8
      refine g_aload_n (q := 32) 0 X dX12_renewalOf_31 rfl rfl rfl ?_
      refine g_getR (q := 35) (r := some 80) 12 3 X hm80 (lt2000 (c := 0) (by decide)) kf_X12_442 (by decide) (by decide) rfl rfl (hK.n (by decide)) dX12_renewalOf_32 rfl ?_
      refine g_getR (q := 38) (r := some 95) 11 28 X (lkM_28 hK (Or.inl rfl) (hK.2.2.2.2.2.2.1 80 hm80 (Or.inl rfl))) (lt2000 (c := 0) (by decide)) kf_X12_365 (by decide) (by decide) rfl rfl (Nat.lt_of_lt_of_le (by decide) (hK.2.2.2.2.2.2.1 80 hm80 (Or.inl rfl))) dX12_renewalOf_35 rfl ?_
      refine g_iload (q := 40) 4 X dX12_renewalOf_38 rfl rfl ?_
      obtain ⟨s9, h⟩ := h
      refine g_iald (q := 41) X rfl (Nat.lt_of_lt_of_le (by decide) (hK.2.2.2.2.2.2.1 80 hm80 (Or.inl rfl))) s9 dX12_renewalOf_40 rfl ?_
      refine g_iload_n (q := 42) 2 X dX12_renewalOf_41 rfl rfl rfl ?_
      refine g_icmp_le (q := 45) 48 X dX12_renewalOf_42 (by decide) rfl (fun c10 => ?_) (fun c10 => ?_)
      · have h := h.1 c10
        refine g_iload_n (q := 49) 3 X dX12_renewalOf_48 rfl rfl rfl ?_
        refine g_iconst (q := 50) (-1) X dX12_renewalOf_49 rfl rfl ic_m1 ?_
        refine g_icmp_eq (q := 53) 75 X dX12_renewalOf_50 (by decide) rfl (fun c11 => ?_) (fun c11 => ?_)
        · have h := h.1 c11
          refine g_sub (L' := [aR (some 66), aI l1, aI l2, aJ, aI l4]) ⟨Or.inr rfl, Or.inr rfl, Or.inr rfl, Or.inl rfl, Or.inr rfl, trivial⟩ ?_
          exact cb_X12_renewalOf_75 X hR hK  hP5 h
        · have h := h.2 c11
          refine g_aload_n (q := 54) 0 X dX12_renewalOf_53 rfl rfl rfl ?_
          refine g_getR (q := 57) (r := some 80) 12 3 X hm80 (lt2000 (c := 0) (by decide)) kf_X12_442 (by decide) (by decide) rfl rfl (hK.n (by decide)) dX12_renewalOf_54 rfl ?_
          refine g_getR (q := 60) (r := some 95) 11 28 X (lkM_28 hK (Or.inl rfl) (hK.2.2.2.2.2.2.1 80 hm80 (Or.inl rfl))) (lt2000 (c := 0) (by decide)) kf_X12_365 (by decide) (by decide) rfl rfl (Nat.lt_of_lt_of_le (by decide) (hK.2.2.2.2.2.2.1 80 hm80 (Or.inl rfl))) dX12_renewalOf_57 rfl ?_
          refine g_iload (q := 62) 4 X dX12_renewalOf_60 rfl rfl ?_
          obtain ⟨s12, h⟩ := h
          refine g_iald (q := 63) X rfl (Nat.lt_of_lt_of_le (by decide) (hK.2.2.2.2.2.2.1 80 hm80 (Or.inl rfl))) s12 dX12_renewalOf_62 rfl ?_
          refine g_aload_n (q := 64) 0 X dX12_renewalOf_63 rfl rfl rfl ?_
          refine g_getR (q := 67) (r := some 80) 12 3 X hm80 (lt2000 (c := 0) (by decide)) kf_X12_442 (by decide) (by decide) rfl rfl (hK.n (by decide)) dX12_renewalOf_64 rfl ?_
          refine g_getR (q := 70) (r := some 95) 11 28 X (lkM_28 hK (Or.inl rfl) (hK.2.2.2.2.2.2.1 80 hm80 (Or.inl rfl))) (lt2000 (c := 0) (by decide)) kf_X12_365 (by decide) (by decide) rfl rfl (Nat.lt_of_lt_of_le (by decide) (hK.2.2.2.2.2.2.1 80 hm80 (Or.inl rfl))) dX12_renewalOf_67 rfl ?_
          refine g_iload_n (q := 71) 3 X dX12_renewalOf_70 rfl rfl rfl ?_
          obtain ⟨s13, h⟩ := h
          refine g_iald (q := 72) X rfl (Nat.lt_of_lt_of_le (by decide) (hK.2.2.2.2.2.2.1 80 hm80 (Or.inl rfl))) s13 dX12_renewalOf_71 rfl ?_
          refine g_icmp_lt (q := 75) 78 X dX12_renewalOf_72 (by decide) rfl (fun c14 => ?_) (fun c14 => ?_)
          · have h := h.1 c14
            exact cb_X12_renewalOf_78 X hR hK  hP5 h
          · have h := h.2 c14
            refine g_sub (L' := [aR (some 66), aI l1, aI l2, aJ, aI l4]) ⟨Or.inr rfl, Or.inr rfl, Or.inr rfl, Or.inl rfl, Or.inr rfl, trivial⟩ ?_
            exact cb_X12_renewalOf_75 X hR hK  hP5 h
      · have h := h.2 c10
        refine g_goto (q := 78) X dX12_renewalOf_45 (by decide) ?_
        exact cb_X12_renewalOf_78 X hR hK  hP5 h
def wl_X12_renewalOf_5 (l1 l2 l3 l4 : Int) (iv : IV) (rv : RV) (K : Int → Prop) : Prop :=
  ∀ P : Int → Int → Int → Int → Prop, (∀ (l1' l2' l3' l4' : Int), bd_X12_renewalOf_5  P l1' l2' l3' l4' iv rv K → P l1' l2' l3' l4') → P l1 l2 l3 l4
theorem cl_X12_renewalOf_5 {Γ : GX} {n : Nat} {iv : IV} {rv : RV} {K : Int → Prop} {l1 l2 l3 l4 : Int} (X : Cx Γ RX12 cX12_renewalOf 5 0) (hR : Rt Γ (some .int) 0 0 (fI0 n iv rv K)) (hK : Lk n rv)  (h : wl_X12_renewalOf_5 l1 l2 l3 l4 iv rv K) : G Γ 5 5 [aR (some 66), aI l1, aI l2, aI l3, aI l4] [] n iv rv 0 0 := by
  exact h (fun l1' l2' l3' l4' =>  G Γ 5 5 [aR (some 66), aI (l1'), aI (l2'), aI (l3'), aI (l4')] [] n iv rv 0 0) (fun l1' l2' l3' l4' hb => cb_X12_renewalOf_5 X hR hK   (fun l1' l2' l3' l4' hp => hp) hb)
def wp_X12_renewalOf (a1 : Int) (a2 : Int) (iv : IV) (rv : RV) (K : Int → Prop) : Prop :=
  wl_X12_renewalOf_5 a1 a2 (-1) 0 iv rv K
set_option maxRecDepth 10000 in
theorem ce_X12_renewalOf {n : Nat} {iv : IV} {rv : RV} {K : Int → Prop} {a1 : Int} {a2 : Int} (hK : Lk n rv)  (h : wp_X12_renewalOf a1 a2 iv rv K) : Call 0 0 0 yX12_renewalOf cX12_renewalOf 5 (some .int) [aR (some 66), aI a1, aI a2] n iv rv (fI0 n iv rv K) := by
  refine Call.by (L := [aR (some 66), aI a1, aI a2, aJ, aJ]) (by decide) rfl ⟨trivial, trivial, trivial, trivial⟩ rfl (Nat.le_of_ble_eq_true rfl) (fun Γ X hR => ?_)
  unfold wp_X12_renewalOf at h
  refine g_iconst (q := 1) (-1) X dX12_renewalOf_0 rfl rfl ic_m1 ?_
  refine g_istore_n (q := 2) 3 (L' := [aR (some 66), aI a1, aI a2, aI (-1), aJ]) X dX12_renewalOf_1 rfl rfl (by decide) rfl rfl ?_
  refine g_iconst (q := 3) 0 X dX12_renewalOf_2 rfl rfl ic_0 ?_
  refine g_istore (q := 5) (k0 := 0) 4 (L' := [aR (some 66), aI a1, aI a2, aI (-1), aI 0]) X dX12_renewalOf_3 rfl (by decide) rfl rfl ?_
  exact cl_X12_renewalOf_5 X hR hK   h
def wp_X12_howOf (a1 : Int) (iv : IV) (rv : RV) (K : Int → Prop) : Prop :=
  ((a1 ≠ (-1)) → (((a1 ≠ 4) → ((rv 66 3 = some 80) ∧ (0 ≤ a1 ∧ a1 < 4) ∧ K (iv 94 a1.toNat))) ∧ ((a1 = 4) → (K (iv 66 18))))) ∧ ((a1 = (-1)) → (K 0))
set_option maxRecDepth 10000 in
theorem ce_X12_howOf {n : Nat} {iv : IV} {rv : RV} {K : Int → Prop} {a1 : Int} (hK : Lk n rv)  (h : wp_X12_howOf a1 iv rv K) : Call 0 0 0 yX12_howOf cX12_howOf 2 (some .int) [aR (some 66), aI a1] n iv rv (fI0 n iv rv K) := by
  refine Call.by (L := [aR (some 66), aI a1]) (by decide) rfl ⟨trivial, trivial, trivial⟩ rfl (Nat.le_of_ble_eq_true rfl) (fun Γ X hR => ?_)
  unfold wp_X12_howOf at h
  refine g_iload_n (q := 1) 1 X dX12_howOf_0 rfl rfl rfl ?_
  refine g_iconst (q := 2) (-1) X dX12_howOf_1 rfl rfl ic_m1 ?_
  refine g_icmp_ne (q := 5) 9 X dX12_howOf_2 (by decide) rfl (fun c1 => ?_) (fun c1 => ?_)
  · have h := h.1 c1
    refine g_iload_n (q := 10) 1 X dX12_howOf_9 rfl rfl rfl ?_
    refine g_iconst (q := 11) 4 X dX12_howOf_10 rfl rfl ic_4 ?_
    refine g_icmp_ne (q := 14) 21 X dX12_howOf_11 (by decide) rfl (fun c2 => ?_) (fun c2 => ?_)
    · have h := h.1 c2
      refine g_aload_n (q := 22) 0 X dX12_howOf_21 rfl rfl rfl ?_
      obtain ⟨hm80, h⟩ := h
      refine g_getR (q := 25) (r := some 80) 12 3 X hm80 (lt2000 (c := 0) (by decide)) kf_X12_442 (by decide) (by decide) rfl rfl (hK.n (by decide)) dX12_howOf_22 rfl ?_
      refine g_getR (q := 28) (r := some 94) 11 27 X (lkM_27 hK (Or.inl rfl) (hK.2.2.2.2.2.2.1 80 hm80 (Or.inl rfl))) (lt2000 (c := 0) (by decide)) kf_X12_362 (by decide) (by decide) rfl rfl (Nat.lt_of_lt_of_le (by decide) (hK.2.2.2.2.2.2.1 80 hm80 (Or.inl rfl))) dX12_howOf_25 rfl ?_
      refine g_iload_n (q := 29) 1 X dX12_howOf_28 rfl rfl rfl ?_
      obtain ⟨s3, h⟩ := h
      refine g_iald (q := 30) X rfl (Nat.lt_of_lt_of_le (by decide) (hK.2.2.2.2.2.2.1 80 hm80 (Or.inl rfl))) s3 dX12_howOf_29 rfl ?_
      exact g_iret (q := 0) X hR dX12_howOf_30 rfl ⟨rfl, rfl, rfl, _, rfl, h⟩
    · have h := h.2 c2
      refine g_aload_n (q := 15) 0 X dX12_howOf_14 rfl rfl rfl ?_
      refine g_getI (q := 18) 12 18 X kf_X12_466 (by decide) (by decide) rfl rfl (hK.n (by decide)) dX12_howOf_15 rfl ?_
      refine g_goto (q := 30) X dX12_howOf_18 (by decide) ?_
      exact g_iret (q := 0) X hR dX12_howOf_30 rfl ⟨rfl, rfl, rfl, _, rfl, h⟩
  · have h := h.2 c1
    refine g_iconst (q := 6) 0 X dX12_howOf_5 rfl rfl ic_0 ?_
    refine g_goto (q := 30) X dX12_howOf_6 (by decide) ?_
    exact g_iret (q := 0) X hR dX12_howOf_30 rfl ⟨rfl, rfl, rfl, _, rfl, h⟩
def bd_X12_dayBy_37 (l1 : Int) (iv : IV) (rv : RV) (K : Int → Prop) : Prop :=
  (0 ≤ l1 ∧ l1 < 16) ∧ K (iv 68 l1.toNat)
set_option maxRecDepth 10000 in
theorem cb_X12_dayBy_37 {Γ : GX} {n : Nat} {iv : IV} {rv : RV} {K : Int → Prop} {l1 : Int} (X : Cx Γ RX12 cX12_dayBy 4 1) (hR : Rt Γ (some .int) 0 0 (fI0 n iv rv K)) (hK : Lk n rv)  (h : bd_X12_dayBy_37 l1 iv rv K) : G Γ 4 37 [aR (some 66), aI l1, aJ, aJ] [] n iv rv 0 0 := by
  unfold bd_X12_dayBy_37 at h
  refine g_aload_n (q := 38) 0 X dX12_dayBy_37 rfl rfl rfl ?_
  refine g_getR (q := 41) (r := some 68) 12 15 X (lk_66_15 hK) (lt2000 (c := 0) (by decide)) kf_X12_17 (by decide) (by decide) rfl rfl (hK.n (by decide)) dX12_dayBy_38 rfl ?_
  refine g_iload_n (q := 42) 1 X dX12_dayBy_41 rfl rfl rfl ?_
  obtain ⟨s1, h⟩ := h
  refine g_iald (q := 43) X rfl (hK.n (by decide)) s1 dX12_dayBy_42 rfl ?_
  exact g_iret (q := 0) X hR dX12_dayBy_43 rfl ⟨rfl, rfl, rfl, _, rfl, h⟩
def bd_X12_dayBy_16 (l1 t0 : Int) (iv : IV) (rv : RV) (K : Int → Prop) : Prop :=
  ((t0 = (-1)) → (bd_X12_dayBy_37 l1 iv rv K)) ∧ ((¬ (t0 = (-1))) → ((rv 66 3 = some 80) ∧ (0 ≤ iv 66 20 ∧ iv 66 20 < 3) ∧ (((iv 96 (iv 66 20).toNat) ≠ 0) → (((t0 ≠ 4) → ((0 ≤ t0 ∧ t0 < 4) ∧ K (iv 95 t0.toNat))) ∧ ((t0 = 4) → (K (iv 66 19))))) ∧ (((iv 96 (iv 66 20).toNat) = 0) → (bd_X12_dayBy_37 l1 iv rv K))))
set_option maxRecDepth 10000 in
theorem cb_X12_dayBy_16 {Γ : GX} {n : Nat} {iv : IV} {rv : RV} {K : Int → Prop} {l1 t0 : Int} (X : Cx Γ RX12 cX12_dayBy 4 1) (hR : Rt Γ (some .int) 0 0 (fI0 n iv rv K)) (hK : Lk n rv)  (h : bd_X12_dayBy_16 l1 t0 iv rv K) : G Γ 4 16 [aR (some 66), aI l1, aJ, aJ] [aI t0] n iv rv 0 0 := by
  unfold bd_X12_dayBy_16 at h
  refine g_istore_n (q := 17) 3 (L' := [aR (some 66), aI l1, aJ, aI t0]) X dX12_dayBy_16 rfl rfl (by decide) rfl rfl ?_
  refine g_iload_n (q := 18) 3 X dX12_dayBy_17 rfl rfl rfl ?_
  refine g_iconst (q := 19) (-1) X dX12_dayBy_18 rfl rfl ic_m1 ?_
  refine g_icmp_eq (q := 22) 37 X dX12_dayBy_19 (by decide) rfl (fun c1 => ?_) (fun c1 => ?_)
  · have h := h.1 c1
    refine g_sub (L' := [aR (some 66), aI l1, aJ, aJ]) ⟨Or.inr rfl, Or.inr rfl, Or.inl rfl, Or.inl rfl, trivial⟩ ?_
    exact cb_X12_dayBy_37 X hR hK   h
  · have h := h.2 c1
    refine g_aload_n (q := 23) 0 X dX12_dayBy_22 rfl rfl rfl ?_
    obtain ⟨hm80, h⟩ := h
    refine g_getR (q := 26) (r := some 80) 12 3 X hm80 (lt2000 (c := 0) (by decide)) kf_X12_442 (by decide) (by decide) rfl rfl (hK.n (by decide)) dX12_dayBy_23 rfl ?_
    refine g_getR (q := 29) (r := some 96) 11 29 X (lkM_29 hK (Or.inl rfl) (hK.2.2.2.2.2.2.1 80 hm80 (Or.inl rfl))) (lt2000 (c := 0) (by decide)) kf_X12_392 (by decide) (by decide) rfl rfl (Nat.lt_of_lt_of_le (by decide) (hK.2.2.2.2.2.2.1 80 hm80 (Or.inl rfl))) dX12_dayBy_26 rfl ?_
    refine g_aload_n (q := 30) 0 X dX12_dayBy_29 rfl rfl rfl ?_
    refine g_getI (q := 33) 12 20 X kf_X12_451 (by decide) (by decide) rfl rfl (hK.n (by decide)) dX12_dayBy_30 rfl ?_
    obtain ⟨s2, h⟩ := h
    refine g_zald (q := 34) X rfl (Nat.lt_of_lt_of_le (by decide) (hK.2.2.2.2.2.2.1 80 hm80 (Or.inl rfl))) s2 dX12_dayBy_33 rfl ?_
    refine g_if_ne (q := 37) 44 X dX12_dayBy_34 (by decide) rfl (fun c3 => ?_) (fun c3 => ?_)
    · have h := h.1 c3
      refine g_iload_n (q := 45) 3 X dX12_dayBy_44 rfl rfl rfl ?_
      refine g_iconst (q := 46) 4 X dX12_dayBy_45 rfl rfl ic_4 ?_
      refine g_icmp_ne (q := 49) 56 X dX12_dayBy_46 (by decide) rfl (fun c4 => ?_) (fun c4 => ?_)
      · have h := h.1 c4
        refine g_aload_n (q := 57) 0 X dX12_dayBy_56 rfl rfl rfl ?_
        refine g_getR (q := 60) (r := some 80) 12 3 X hm80 (lt2000 (c := 0) (by decide)) kf_X12_442 (by decide) (by decide) rfl rfl (hK.n (by decide)) dX12_dayBy_57 rfl ?_
        refine g_getR (q := 63) (r := some 95) 11 28 X (lkM_28 hK (Or.inl rfl) (hK.2.2.2.2.2.2.1 80 hm80 (Or.inl rfl))) (lt2000 (c := 0) (by decide)) kf_X12_365 (by decide) (by decide) rfl rfl (Nat.lt_of_lt_of_le (by decide) (hK.2.2.2.2.2.2.1 80 hm80 (Or.inl rfl))) dX12_dayBy_60 rfl ?_
        refine g_iload_n (q := 64) 3 X dX12_dayBy_63 rfl rfl rfl ?_
        obtain ⟨s5, h⟩ := h
        refine g_iald (q := 65) X rfl (Nat.lt_of_lt_of_le (by decide) (hK.2.2.2.2.2.2.1 80 hm80 (Or.inl rfl))) s5 dX12_dayBy_64 rfl ?_
        exact g_iret (q := 0) X hR dX12_dayBy_65 rfl ⟨rfl, rfl, rfl, _, rfl, h⟩
      · have h := h.2 c4
        refine g_aload_n (q := 50) 0 X dX12_dayBy_49 rfl rfl rfl ?_
        refine g_getI (q := 53) 12 19 X kf_X12_463 (by decide) (by decide) rfl rfl (hK.n (by decide)) dX12_dayBy_50 rfl ?_
        refine g_goto (q := 65) X dX12_dayBy_53 (by decide) ?_
        exact g_iret (q := 0) X hR dX12_dayBy_65 rfl ⟨rfl, rfl, rfl, _, rfl, h⟩
    · have h := h.2 c3
      refine g_sub (L' := [aR (some 66), aI l1, aJ, aJ]) ⟨Or.inr rfl, Or.inr rfl, Or.inl rfl, Or.inl rfl, trivial⟩ ?_
      exact cb_X12_dayBy_37 X hR hK   h
def wp_X12_dayBy (a1 : Int) (a2 : Int) (iv : IV) (rv : RV) (K : Int → Prop) : Prop :=
  ((12 ≤ a1) → (bd_X12_dayBy_16 a1 (-1) iv rv K)) ∧ ((¬ (12 ≤ a1)) → (wp_X12_renewalOf a1 a2 iv rv (fun r2 => bd_X12_dayBy_16 a1 r2 iv rv K)))
set_option maxRecDepth 10000 in
theorem ce_X12_dayBy {n : Nat} {iv : IV} {rv : RV} {K : Int → Prop} {a1 : Int} {a2 : Int} (hK : Lk n rv)  (h : wp_X12_dayBy a1 a2 iv rv K) : Call 1 0 0 yX12_dayBy cX12_dayBy 4 (some .int) [aR (some 66), aI a1, aI a2] n iv rv (fI0 n iv rv K) := by
  refine Call.by (L := [aR (some 66), aI a1, aI a2, aJ]) (by decide) rfl ⟨trivial, trivial, trivial, trivial⟩ rfl (Nat.le_of_ble_eq_true rfl) (fun Γ X hR => ?_)
  unfold wp_X12_dayBy at h
  refine g_iload_n (q := 1) 1 X dX12_dayBy_0 rfl rfl rfl ?_
  refine g_bipush (q := 3) 12 X dX12_dayBy_1 rfl bc_12 ic_12 ?_
  refine g_icmp_ge (q := 6) 15 X dX12_dayBy_3 (by decide) rfl (fun c1 => ?_) (fun c1 => ?_)
  · have h := h.1 c1
    refine g_iconst (q := 16) (-1) X dX12_dayBy_15 rfl rfl ic_m1 ?_
    refine g_sub (L' := [aR (some 66), aI a1, aJ, aJ]) ⟨Or.inr rfl, Or.inr rfl, Or.inl rfl, Or.inl rfl, trivial⟩ ?_
    exact cb_X12_dayBy_16 X hR hK   h
  · have h := h.2 c1
    refine g_aload_n (q := 7) 0 X dX12_dayBy_6 rfl rfl rfl ?_
    refine g_iload_n (q := 8) 1 X dX12_dayBy_7 rfl rfl rfl ?_
    refine g_iload_n (q := 9) 2 X dX12_dayBy_8 rfl rfl rfl ?_
    refine g_cv (q := 12) [aI a1, aI a2] 12 X (ce_X12_renewalOf hK  h) kV_X12_469 rfl (by decide) rfl (hK.n (by decide)) rfl rfl (Nat.le_of_ble_eq_true rfl) (by decide) dX12_dayBy_9 rfl (fun r n_ iv_ rv_ hf => ?_)
    obtain ⟨en_, ei_, er_, r2, rfl, h⟩ := hf; subst n_; subst iv_; subst rv_
    refine g_goto (q := 16) X dX12_dayBy_12 (by decide) ?_
    refine g_sub (L' := [aR (some 66), aI a1, aJ, aJ]) ⟨Or.inr rfl, Or.inr rfl, Or.inl rfl, Or.inl rfl, trivial⟩ ?_
    exact cb_X12_dayBy_16 X hR hK   h
def wp_X12_goodsOf (a1 : Int) (a2 : Int) (iv : IV) (rv : RV) (K : Int → Prop) : Prop :=
  wp_X12_renewalOf a1 a2 iv rv (fun r1 => wp_X12_howOf r1 iv rv (fun r2 => ((r2 ≠ 1) → ((rv 66 3 = some 80) ∧ (0 ≤ a1 ∧ a1 < 16) ∧ K (iv 88 a1.toNat))) ∧ ((r2 = 1) → (K (-2)))))
set_option maxRecDepth 10000 in
theorem ce_X12_goodsOf {n : Nat} {iv : IV} {rv : RV} {K : Int → Prop} {a1 : Int} {a2 : Int} (hK : Lk n rv)  (h : wp_X12_goodsOf a1 a2 iv rv K) : Call 1 0 0 yX12_goodsOf cX12_goodsOf 3 (some .int) [aR (some 66), aI a1, aI a2] n iv rv (fI0 n iv rv K) := by
  refine Call.by (L := [aR (some 66), aI a1, aI a2]) (by decide) rfl ⟨trivial, trivial, trivial, trivial⟩ rfl (Nat.le_of_ble_eq_true rfl) (fun Γ X hR => ?_)
  unfold wp_X12_goodsOf at h
  refine g_aload_n (q := 1) 0 X dX12_goodsOf_0 rfl rfl rfl ?_
  refine g_aload_n (q := 2) 0 X dX12_goodsOf_1 rfl rfl rfl ?_
  refine g_iload_n (q := 3) 1 X dX12_goodsOf_2 rfl rfl rfl ?_
  refine g_iload_n (q := 4) 2 X dX12_goodsOf_3 rfl rfl rfl ?_
  refine g_cv (q := 7) [aI a1, aI a2] 12 X (ce_X12_renewalOf hK  h) kV_X12_469 rfl (by decide) rfl (hK.n (by decide)) rfl rfl (Nat.le_of_ble_eq_true rfl) (by decide) dX12_goodsOf_4 rfl (fun r n_ iv_ rv_ hf => ?_)
  obtain ⟨en_, ei_, er_, r1, rfl, h⟩ := hf; subst n_; subst iv_; subst rv_
  refine g_cv (q := 10) [aI r1] 12 X (ce_X12_howOf hK  h) kV_X12_472 rfl (by decide) rfl (hK.n (by decide)) rfl rfl (Nat.le_of_ble_eq_true rfl) (by decide) dX12_goodsOf_7 rfl (fun r n_ iv_ rv_ hf => ?_)
  obtain ⟨en_, ei_, er_, r2, rfl, h⟩ := hf; subst n_; subst iv_; subst rv_
  refine g_iconst (q := 11) 1 X dX12_goodsOf_10 rfl rfl ic_1 ?_
  refine g_icmp_ne (q := 14) 19 X dX12_goodsOf_11 (by decide) rfl (fun c3 => ?_) (fun c3 => ?_)
  · have h := h.1 c3
    refine g_aload_n (q := 20) 0 X dX12_goodsOf_19 rfl rfl rfl ?_
    obtain ⟨hm80, h⟩ := h
    refine g_getR (q := 23) (r := some 80) 12 3 X hm80 (lt2000 (c := 0) (by decide)) kf_X12_442 (by decide) (by decide) rfl rfl (hK.n (by decide)) dX12_goodsOf_20 rfl ?_
    refine g_getR (q := 26) (r := some 88) 11 21 X (lkM_21 hK (Or.inl rfl) (hK.2.2.2.2.2.2.1 80 hm80 (Or.inl rfl))) (lt2000 (c := 0) (by decide)) kf_X12_329 (by decide) (by decide) rfl rfl (Nat.lt_of_lt_of_le (by decide) (hK.2.2.2.2.2.2.1 80 hm80 (Or.inl rfl))) dX12_goodsOf_23 rfl ?_
    refine g_iload_n (q := 27) 1 X dX12_goodsOf_26 rfl rfl rfl ?_
    obtain ⟨s4, h⟩ := h
    refine g_iald (q := 28) X rfl (Nat.lt_of_lt_of_le (by decide) (hK.2.2.2.2.2.2.1 80 hm80 (Or.inl rfl))) s4 dX12_goodsOf_27 rfl ?_
    exact g_iret (q := 0) X hR dX12_goodsOf_28 rfl ⟨rfl, rfl, rfl, _, rfl, h⟩
  · have h := h.2 c3
    refine g_bipush (q := 16) (-2) X dX12_goodsOf_14 rfl bc_m2 ic_m2 ?_
    refine g_goto (q := 28) X dX12_goodsOf_16 (by decide) ?_
    exact g_iret (q := 0) X hR dX12_goodsOf_28 rfl ⟨rfl, rfl, rfl, _, rfl, h⟩
def bd_X12_isReached_2 (P2 : Int → Int → Prop) (l1 l2 : Int) (iv : IV) (rv : RV) (K : Int → Prop) : Prop :=
  (((iv 66 26) ≤ l2) → (K 0)) ∧ ((¬ ((iv 66 26) ≤ l2)) → ((0 ≤ l2 ∧ l2 < 8) ∧ (((iv 70 l2.toNat) ≠ l1) → (P2 l1 (w32 (l2 + 1)))) ∧ (((iv 70 l2.toNat) = l1) → (K 1))))
set_option maxRecDepth 10000 in
theorem cb_X12_isReached_2 {Γ : GX} {n : Nat} {iv : IV} {rv : RV} {K : Int → Prop} {P2 : Int → Int → Prop} {l1 l2 : Int} (X : Cx Γ RX12 cX12_isReached 3 0) (hR : Rt Γ (some .boolean) 0 0 (fB0 n iv rv K)) (hK : Lk n rv)  (hP2 : ∀ (l1' l2' : Int), P2 l1' l2' → G Γ 3 2 [aR (some 66), aI (l1'), aI (l2')] [] n iv rv 0 0) (h : bd_X12_isReached_2 P2 l1 l2 iv rv K) : G Γ 3 2 [aR (some 66), aI l1, aI l2] [] n iv rv 0 0 := by
  unfold bd_X12_isReached_2 at h
  refine g_iload_n (q := 3) 2 X dX12_isReached_2 rfl rfl rfl ?_
  refine g_aload_n (q := 4) 0 X dX12_isReached_3 rfl rfl rfl ?_
  refine g_getI (q := 7) 12 26 X kf_X12_475 (by decide) (by decide) rfl rfl (hK.n (by decide)) dX12_isReached_4 rfl ?_
  refine g_icmp_ge (q := 10) 28 X dX12_isReached_7 (by decide) rfl (fun c1 => ?_) (fun c1 => ?_)
  · have h := h.1 c1
    refine g_iconst (q := 29) 0 X dX12_isReached_28 rfl rfl ic_0 ?_
    exact g_zret (q := 0) .boolean X hR (nar_B (Or.inl rfl)) dX12_isReached_29 rfl ⟨rfl, rfl, rfl, _, rfl, (Or.inl rfl), h⟩
  · have h := h.2 c1
    refine g_aload_n (q := 11) 0 X dX12_isReached_10 rfl rfl rfl ?_
    refine g_getR (q := 14) (r := some 70) 12 23 X (lk_66_23 hK) (lt2000 (c := 0) (by decide)) kf_X12_24 (by decide) (by decide) rfl rfl (hK.n (by decide)) dX12_isReached_11 rfl ?_
    refine g_iload_n (q := 15) 2 X dX12_isReached_14 rfl rfl rfl ?_
    obtain ⟨s2, h⟩ := h
    refine g_iald (q := 16) X rfl (hK.n (by decide)) s2 dX12_isReached_15 rfl ?_
    refine g_iload_n (q := 17) 1 X dX12_isReached_16 rfl rfl rfl ?_
    refine g_icmp_ne (q := 20) 22 X dX12_isReached_17 (by decide) rfl (fun c3 => ?_) (fun c3 => ?_)
    · have h := h.1 c3
      refine g_iinc (q := 25) 2 (L' := [aR (some 66), aI l1, aI (w32 (l2 + 1))]) X dX12_isReached_22 rfl (by decide) rfl rfl rfl ?_
      refine g_goto (q := 2) X dX12_isReached_25 (by decide) ?_
      exact hP2 _ _ h
    · have h := h.2 c3
      refine g_iconst (q := 21) 1 X dX12_isReached_20 rfl rfl ic_1 ?_
      exact g_zret (q := 0) .boolean X hR (nar_B (Or.inr rfl)) dX12_isReached_21 rfl ⟨rfl, rfl, rfl, _, rfl, (Or.inr rfl), h⟩
def wl_X12_isReached_2 (l1 l2 : Int) (iv : IV) (rv : RV) (K : Int → Prop) : Prop :=
  ∀ P : Int → Int → Prop, (∀ (l1' l2' : Int), bd_X12_isReached_2  P l1' l2' iv rv K → P l1' l2') → P l1 l2
theorem cl_X12_isReached_2 {Γ : GX} {n : Nat} {iv : IV} {rv : RV} {K : Int → Prop} {l1 l2 : Int} (X : Cx Γ RX12 cX12_isReached 3 0) (hR : Rt Γ (some .boolean) 0 0 (fB0 n iv rv K)) (hK : Lk n rv)  (h : wl_X12_isReached_2 l1 l2 iv rv K) : G Γ 3 2 [aR (some 66), aI l1, aI l2] [] n iv rv 0 0 := by
  exact h (fun l1' l2' =>  G Γ 3 2 [aR (some 66), aI (l1'), aI (l2')] [] n iv rv 0 0) (fun l1' l2' hb => cb_X12_isReached_2 X hR hK   (fun l1' l2' hp => hp) hb)
def wp_X12_isReached (a1 : Int) (iv : IV) (rv : RV) (K : Int → Prop) : Prop :=
  wl_X12_isReached_2 a1 0 iv rv K
set_option maxRecDepth 10000 in
theorem ce_X12_isReached {n : Nat} {iv : IV} {rv : RV} {K : Int → Prop} {a1 : Int} (hK : Lk n rv)  (h : wp_X12_isReached a1 iv rv K) : Call 0 0 0 yX12_isReached cX12_isReached 3 (some .boolean) [aR (some 66), aI a1] n iv rv (fB0 n iv rv K) := by
  refine Call.by (L := [aR (some 66), aI a1, aJ]) (by decide) rfl ⟨trivial, trivial, trivial⟩ rfl (Nat.le_of_ble_eq_true rfl) (fun Γ X hR => ?_)
  unfold wp_X12_isReached at h
  refine g_iconst (q := 1) 0 X dX12_isReached_0 rfl rfl ic_0 ?_
  refine g_istore_n (q := 2) 2 (L' := [aR (some 66), aI a1, aI 0]) X dX12_isReached_1 rfl rfl (by decide) rfl rfl ?_
  exact cl_X12_isReached_2 X hR hK   h
def bd_X12_reach_177 (P28 : Int → Int → IV → Prop) (P39 : Int → Int → Int → IV → Prop) (l2 l3 l4 : Int) (iv : IV) (rv : RV) (K : IV → Prop) : Prop :=
  P39 l2 l3 (w32 (l4 + 1)) iv
set_option maxRecDepth 10000 in
theorem cb_X12_reach_177 {Γ : GX} {n : Nat} {iv : IV} {rv : RV} {K : IV → Prop} {P28 : Int → Int → IV → Prop} {P39 : Int → Int → Int → IV → Prop} {l2 l3 l4 : Int} (X : Cx Γ RX12 cX12_reach 6 1) (hR : Rt Γ none 0 0 (fV1 n rv K)) (hK : Lk n rv)  (hP28 : ∀ (l2' l3' : Int) (iv' : IV), P28 l2' l3' iv' → G Γ 6 28 [aR (some 66), aJ, aI (l2'), aI (l3'), aJ, aJ] [] n iv' rv 0 0) (hP39 : ∀ (l2' l3' l4' : Int) (iv' : IV), P39 l2' l3' l4' iv' → G Γ 6 39 [aR (some 66), aJ, aI (l2'), aI (l3'), aI (l4'), aJ] [] n iv' rv 0 0) (h : bd_X12_reach_177 P28 P39 l2 l3 l4 iv rv K) : G Γ 6 177 [aR (some 66), aJ, aI l2, aI l3, aI l4, aJ] [] n iv rv 0 0 := by
  unfold bd_X12_reach_177 at h
  refine g_iinc (q := 180) 4 (L' := [aR (some 66), aJ, aI l2, aI l3, aI (w32 (l4 + 1)), aJ]) X dX12_reach_177 rfl (by decide) rfl rfl rfl ?_
  refine g_goto (q := 39) X dX12_reach_180 (by decide) ?_
  exact hP39 _ _ _ _ h
def bd_X12_reach_149 (P28 : Int → Int → IV → Prop) (P39 : Int → Int → Int → IV → Prop) (l2 l3 l4 t0 t1 : Int) (iv : IV) (rv : RV) (K : IV → Prop) : Prop :=
  (0 ≤ t1 ∧ t1 < 8) ∧ ∀ iv2, iv2 = w2 iv 71 t1.toNat t0 → (0 ≤ l3 ∧ l3 < 8) ∧ (0 ≤ iv2 66 26 ∧ iv2 66 26 < 8) ∧ ∀ iv5, iv5 = w2 iv2 72 (iv2 66 26).toNat (w32 ((iv2 72 l3.toNat) + 1)) → ∀ iv6, iv6 = w2 iv5 66 26 (w32 ((iv5 66 26) + 1)) → bd_X12_reach_177 P28 P39 l2 l3 l4 iv6 rv K
set_option maxRecDepth 10000 in
theorem cb_X12_reach_149 {Γ : GX} {n : Nat} {iv : IV} {rv : RV} {K : IV → Prop} {P28 : Int → Int → IV → Prop} {P39 : Int → Int → Int → IV → Prop} {l2 l3 l4 t0 t1 : Int} (X : Cx Γ RX12 cX12_reach 6 1) (hR : Rt Γ none 0 0 (fV1 n rv K)) (hK : Lk n rv)  (hP28 : ∀ (l2' l3' : Int) (iv' : IV), P28 l2' l3' iv' → G Γ 6 28 [aR (some 66), aJ, aI (l2'), aI (l3'), aJ, aJ] [] n iv' rv 0 0) (hP39 : ∀ (l2' l3' l4' : Int) (iv' : IV), P39 l2' l3' l4' iv' → G Γ 6 39 [aR (some 66), aJ, aI (l2'), aI (l3'), aI (l4'), aJ] [] n iv' rv 0 0) (h : bd_X12_reach_149 P28 P39 l2 l3 l4 t0 t1 iv rv K) : G Γ 6 149 [aR (some 66), aJ, aI l2, aI l3, aI l4, aJ] [aI t0, aI t1, aR (some 71)] n iv rv 0 0 := by
  unfold bd_X12_reach_149 at h
  obtain ⟨s1, h⟩ := h
  refine g_iast (q := 150) X rfl (hK.n (by decide)) s1 dX12_reach_149 rfl ?_
  refine g_nmM (fun iv2 eiv2 => ?_)
  have h := h iv2 eiv2
  refine g_aload_n (q := 151) 0 X dX12_reach_150 rfl rfl rfl ?_
  refine g_getR (q := 154) (r := some 72) 12 25 X (lk_66_25 hK) (lt2000 (c := 0) (by decide)) kf_X12_30 (by decide) (by decide) rfl rfl (hK.n (by decide)) dX12_reach_151 rfl ?_
  refine g_aload_n (q := 155) 0 X dX12_reach_154 rfl rfl rfl ?_
  refine g_getI (q := 158) 12 26 X kf_X12_475 (by decide) (by decide) rfl rfl (hK.n (by decide)) dX12_reach_155 rfl ?_
  refine g_aload_n (q := 159) 0 X dX12_reach_158 rfl rfl rfl ?_
  refine g_getR (q := 162) (r := some 72) 12 25 X (lk_66_25 hK) (lt2000 (c := 0) (by decide)) kf_X12_30 (by decide) (by decide) rfl rfl (hK.n (by decide)) dX12_reach_159 rfl ?_
  refine g_iload_n (q := 163) 3 X dX12_reach_162 rfl rfl rfl ?_
  obtain ⟨s3, h⟩ := h
  refine g_iald (q := 164) X rfl (hK.n (by decide)) s3 dX12_reach_163 rfl ?_
  refine g_iconst (q := 165) 1 X dX12_reach_164 rfl rfl ic_1 ?_
  refine g_iadd (q := 166) X dX12_reach_165 rfl ?_
  obtain ⟨s4, h⟩ := h
  refine g_iast (q := 167) X rfl (hK.n (by decide)) s4 dX12_reach_166 rfl ?_
  refine g_nmM (fun iv5 eiv5 => ?_)
  have h := h iv5 eiv5
  refine g_aload_n (q := 168) 0 X dX12_reach_167 rfl rfl rfl ?_
  refine g_dup (q := 169) X dX12_reach_168 rfl rfl ?_
  refine g_getI (q := 172) 12 26 X kf_X12_475 (by decide) (by decide) rfl rfl (hK.n (by decide)) dX12_reach_169 rfl ?_
  refine g_iconst (q := 173) 1 X dX12_reach_172 rfl rfl ic_1 ?_
  refine g_iadd (q := 174) X dX12_reach_173 rfl ?_
  refine g_putI (q := 177) 12 26 X (Or.inl rfl) rfl kf_X12_475 (by decide) (by decide) rfl (hK.n (by decide)) dX12_reach_174 rfl ?_
  refine g_nmM (fun iv6 eiv6 => ?_)
  have h := h iv6 eiv6
  exact cb_X12_reach_177 X hR hK  hP28 hP39 h
def bd_X12_reach_39 (P28 : Int → Int → IV → Prop) (P39 : Int → Int → Int → IV → Prop) (l2 l3 l4 : Int) (iv : IV) (rv : RV) (K : IV → Prop) : Prop :=
  (rv 66 3 = some 80) ∧ (((iv 80 7) ≤ l4) → (P28 l2 (w32 (l3 + 1)) iv)) ∧ ((¬ ((iv 80 7) ≤ l4)) → (∀ x2, x2 = w32 (12 + l4) → (0 ≤ x2 ∧ x2 < 16) ∧ (0 ≤ l3 ∧ l3 < 8) ∧ (((iv 87 x2.toNat) ≠ (iv 70 l3.toNat)) → (bd_X12_reach_177 P28 P39 l2 l3 l4 iv rv K)) ∧ (((iv 87 x2.toNat) = (iv 70 l3.toNat)) → (wp_X12_inForce x2 l2 iv rv (fun r6 => ((r6 = 0) → (bd_X12_reach_177 P28 P39 l2 l3 l4 iv rv K)) ∧ ((¬ (r6 = 0)) → ((0 ≤ x2 ∧ x2 < 16) ∧ wp_X12_isReached (iv 88 x2.toNat) iv rv (fun r9 => ((r9 = 0) → ((0 ≤ x2 ∧ x2 < 16) ∧ (0 ≤ iv 66 26 ∧ iv 66 26 < 8) ∧ ∀ iv13, iv13 = w2 iv 70 (iv 66 26).toNat (iv 88 x2.toNat) → ((l3 ≠ 0) → ((0 ≤ l3 ∧ l3 < 8) ∧ bd_X12_reach_149 P28 P39 l2 l3 l4 (iv13 71 l3.toNat) (iv13 66 26) iv13 rv K)) ∧ ((l3 = 0) → (bd_X12_reach_149 P28 P39 l2 l3 l4 x2 (iv13 66 26) iv13 rv K)))) ∧ ((¬ (r9 = 0)) → (bd_X12_reach_177 P28 P39 l2 l3 l4 iv rv K))))))))))
set_option maxRecDepth 10000 in
theorem cb_X12_reach_39 {Γ : GX} {n : Nat} {iv : IV} {rv : RV} {K : IV → Prop} {P28 : Int → Int → IV → Prop} {P39 : Int → Int → Int → IV → Prop} {l2 l3 l4 : Int} (X : Cx Γ RX12 cX12_reach 6 1) (hR : Rt Γ none 0 0 (fV1 n rv K)) (hK : Lk n rv)  (hP28 : ∀ (l2' l3' : Int) (iv' : IV), P28 l2' l3' iv' → G Γ 6 28 [aR (some 66), aJ, aI (l2'), aI (l3'), aJ, aJ] [] n iv' rv 0 0) (hP39 : ∀ (l2' l3' l4' : Int) (iv' : IV), P39 l2' l3' l4' iv' → G Γ 6 39 [aR (some 66), aJ, aI (l2'), aI (l3'), aI (l4'), aJ] [] n iv' rv 0 0) (h : bd_X12_reach_39 P28 P39 l2 l3 l4 iv rv K) : G Γ 6 39 [aR (some 66), aJ, aI l2, aI l3, aI l4, aJ] [] n iv rv 0 0 := by
  unfold bd_X12_reach_39 at h
  refine g_iload (q := 41) 4 X dX12_reach_39 rfl rfl ?_
  refine g_aload_n (q := 42) 0 X dX12_reach_41 rfl rfl rfl ?_
  obtain ⟨hm80, h⟩ := h
  refine g_getR (q := 45) (r := some 80) 12 3 X hm80 (lt2000 (c := 0) (by decide)) kf_X12_442 (by decide) (by decide) rfl rfl (hK.n (by decide)) dX12_reach_42 rfl ?_
  refine g_getI (q := 48) 11 7 X kf_X12_345 (by decide) (by decide) rfl rfl (Nat.lt_of_lt_of_le (by decide) (hK.2.2.2.2.2.2.1 80 hm80 (Or.inl rfl))) dX12_reach_45 rfl ?_
  refine g_icmp_ge (q := 51) 183 X dX12_reach_48 (by decide) rfl (fun c1 => ?_) (fun c1 => ?_)
  · have h := h.1 c1
    refine g_iinc (q := 186) 3 (L' := [aR (some 66), aJ, aI l2, aI (w32 (l3 + 1)), aI l4, aJ]) X dX12_reach_183 rfl (by decide) rfl rfl rfl ?_
    refine g_goto (q := 28) X dX12_reach_186 (by decide) ?_
    refine g_sub (L' := [aR (some 66), aJ, aI l2, aI (w32 (l3 + 1)), aJ, aJ]) ⟨Or.inr rfl, Or.inl rfl, Or.inr rfl, Or.inr rfl, Or.inl rfl, Or.inl rfl, trivial⟩ ?_
    exact hP28 _ _ _ h
  · have h := h.2 c1
    refine g_bipush (q := 53) 12 X dX12_reach_51 rfl bc_12 ic_12 ?_
    refine g_iload (q := 55) 4 X dX12_reach_53 rfl rfl ?_
    refine g_iadd (q := 56) X dX12_reach_55 rfl ?_
    refine g_nmI (fun x2 ex2 => ?_)
    have h := h x2 ex2
    refine g_istore (q := 58) (k0 := 0) 5 (L' := [aR (some 66), aJ, aI l2, aI l3, aI l4, aI x2]) X dX12_reach_56 rfl (by decide) rfl rfl ?_
    refine g_aload_n (q := 59) 0 X dX12_reach_58 rfl rfl rfl ?_
    refine g_getR (q := 62) (r := some 80) 12 3 X hm80 (lt2000 (c := 0) (by decide)) kf_X12_442 (by decide) (by decide) rfl rfl (hK.n (by decide)) dX12_reach_59 rfl ?_
    refine g_getR (q := 65) (r := some 87) 11 20 X (lkM_20 hK (Or.inl rfl) (hK.2.2.2.2.2.2.1 80 hm80 (Or.inl rfl))) (lt2000 (c := 0) (by decide)) kf_X12_327 (by decide) (by decide) rfl rfl (Nat.lt_of_lt_of_le (by decide) (hK.2.2.2.2.2.2.1 80 hm80 (Or.inl rfl))) dX12_reach_62 rfl ?_
    refine g_iload (q := 67) 5 X dX12_reach_65 rfl rfl ?_
    obtain ⟨s3, h⟩ := h
    refine g_iald (q := 68) X rfl (Nat.lt_of_lt_of_le (by decide) (hK.2.2.2.2.2.2.1 80 hm80 (Or.inl rfl))) s3 dX12_reach_67 rfl ?_
    refine g_aload_n (q := 69) 0 X dX12_reach_68 rfl rfl rfl ?_
    refine g_getR (q := 72) (r := some 70) 12 23 X (lk_66_23 hK) (lt2000 (c := 0) (by decide)) kf_X12_24 (by decide) (by decide) rfl rfl (hK.n (by decide)) dX12_reach_69 rfl ?_
    refine g_iload_n (q := 73) 3 X dX12_reach_72 rfl rfl rfl ?_
    obtain ⟨s4, h⟩ := h
    refine g_iald (q := 74) X rfl (hK.n (by decide)) s4 dX12_reach_73 rfl ?_
    refine g_icmp_ne (q := 77) 177 X dX12_reach_74 (by decide) rfl (fun c5 => ?_) (fun c5 => ?_)
    · have h := h.1 c5
      refine g_sub (L' := [aR (some 66), aJ, aI l2, aI l3, aI l4, aJ]) ⟨Or.inr rfl, Or.inl rfl, Or.inr rfl, Or.inr rfl, Or.inr rfl, Or.inl rfl, trivial⟩ ?_
      exact cb_X12_reach_177 X hR hK  hP28 hP39 h
    · have h := h.2 c5
      refine g_aload_n (q := 78) 0 X dX12_reach_77 rfl rfl rfl ?_
      refine g_iload (q := 80) 5 X dX12_reach_78 rfl rfl ?_
      refine g_iload_n (q := 81) 2 X dX12_reach_80 rfl rfl rfl ?_
      refine g_cv (q := 84) [aI x2, aI l2] 12 X (ce_X12_inForce hK  h) kV_X12_478 rfl (by decide) rfl (hK.n (by decide)) rfl rfl (Nat.le_of_ble_eq_true rfl) (by decide) dX12_reach_81 rfl (fun r n_ iv_ rv_ hf => ?_)
      obtain ⟨en_, ei_, er_, r6, rfl, br6, h⟩ := hf; subst n_; subst iv_; subst rv_
      refine g_if_eq (q := 87) 177 X dX12_reach_84 (by decide) rfl (fun c7 => ?_) (fun c7 => ?_)
      · have h := h.1 c7
        refine g_sub (L' := [aR (some 66), aJ, aI l2, aI l3, aI l4, aJ]) ⟨Or.inr rfl, Or.inl rfl, Or.inr rfl, Or.inr rfl, Or.inr rfl, Or.inl rfl, trivial⟩ ?_
        exact cb_X12_reach_177 X hR hK  hP28 hP39 h
      · have h := h.2 c7
        refine g_aload_n (q := 88) 0 X dX12_reach_87 rfl rfl rfl ?_
        refine g_aload_n (q := 89) 0 X dX12_reach_88 rfl rfl rfl ?_
        refine g_getR (q := 92) (r := some 80) 12 3 X hm80 (lt2000 (c := 0) (by decide)) kf_X12_442 (by decide) (by decide) rfl rfl (hK.n (by decide)) dX12_reach_89 rfl ?_
        refine g_getR (q := 95) (r := some 88) 11 21 X (lkM_21 hK (Or.inl rfl) (hK.2.2.2.2.2.2.1 80 hm80 (Or.inl rfl))) (lt2000 (c := 0) (by decide)) kf_X12_329 (by decide) (by decide) rfl rfl (Nat.lt_of_lt_of_le (by decide) (hK.2.2.2.2.2.2.1 80 hm80 (Or.inl rfl))) dX12_reach_92 rfl ?_
        refine g_iload (q := 97) 5 X dX12_reach_95 rfl rfl ?_
        obtain ⟨s8, h⟩ := h
        refine g_iald (q := 98) X rfl (Nat.lt_of_lt_of_le (by decide) (hK.2.2.2.2.2.2.1 80 hm80 (Or.inl rfl))) s8 dX12_reach_97 rfl ?_
        refine g_cv (q := 101) [aI (iv 88 x2.toNat)] 12 X (ce_X12_isReached hK  h) kV_X12_482 rfl (by decide) rfl (hK.n (by decide)) rfl rfl (Nat.le_of_ble_eq_true rfl) (by decide) dX12_reach_98 rfl (fun r n_ iv_ rv_ hf => ?_)
        obtain ⟨en_, ei_, er_, r9, rfl, br9, h⟩ := hf; subst n_; subst iv_; subst rv_
        refine g_if_eq (q := 104) 107 X dX12_reach_101 (by decide) rfl (fun c10 => ?_) (fun c10 => ?_)
        · have h := h.1 c10
          refine g_aload_n (q := 108) 0 X dX12_reach_107 rfl rfl rfl ?_
          refine g_getR (q := 111) (r := some 70) 12 23 X (lk_66_23 hK) (lt2000 (c := 0) (by decide)) kf_X12_24 (by decide) (by decide) rfl rfl (hK.n (by decide)) dX12_reach_108 rfl ?_
          refine g_aload_n (q := 112) 0 X dX12_reach_111 rfl rfl rfl ?_
          refine g_getI (q := 115) 12 26 X kf_X12_475 (by decide) (by decide) rfl rfl (hK.n (by decide)) dX12_reach_112 rfl ?_
          refine g_aload_n (q := 116) 0 X dX12_reach_115 rfl rfl rfl ?_
          refine g_getR (q := 119) (r := some 80) 12 3 X hm80 (lt2000 (c := 0) (by decide)) kf_X12_442 (by decide) (by decide) rfl rfl (hK.n (by decide)) dX12_reach_116 rfl ?_
          refine g_getR (q := 122) (r := some 88) 11 21 X (lkM_21 hK (Or.inl rfl) (hK.2.2.2.2.2.2.1 80 hm80 (Or.inl rfl))) (lt2000 (c := 0) (by decide)) kf_X12_329 (by decide) (by decide) rfl rfl (Nat.lt_of_lt_of_le (by decide) (hK.2.2.2.2.2.2.1 80 hm80 (Or.inl rfl))) dX12_reach_119 rfl ?_
          refine g_iload (q := 124) 5 X dX12_reach_122 rfl rfl ?_
          obtain ⟨s11, h⟩ := h
          refine g_iald (q := 125) X rfl (Nat.lt_of_lt_of_le (by decide) (hK.2.2.2.2.2.2.1 80 hm80 (Or.inl rfl))) s11 dX12_reach_124 rfl ?_
          obtain ⟨s12, h⟩ := h
          refine g_iast (q := 126) X rfl (hK.n (by decide)) s12 dX12_reach_125 rfl ?_
          refine g_nmM (fun iv13 eiv13 => ?_)
          have h := h iv13 eiv13
          refine g_aload_n (q := 127) 0 X dX12_reach_126 rfl rfl rfl ?_
          refine g_getR (q := 130) (r := some 71) 12 24 X (lk_66_24 hK) (lt2000 (c := 0) (by decide)) kf_X12_27 (by decide) (by decide) rfl rfl (hK.n (by decide)) dX12_reach_127 rfl ?_
          refine g_aload_n (q := 131) 0 X dX12_reach_130 rfl rfl rfl ?_
          refine g_getI (q := 134) 12 26 X kf_X12_475 (by decide) (by decide) rfl rfl (hK.n (by decide)) dX12_reach_131 rfl ?_
          refine g_iload_n (q := 135) 3 X dX12_reach_134 rfl rfl rfl ?_
          refine g_if_ne (q := 138) 143 X dX12_reach_135 (by decide) rfl (fun c14 => ?_) (fun c14 => ?_)
          · have h := h.1 c14
            refine g_aload_n (q := 144) 0 X dX12_reach_143 rfl rfl rfl ?_
            refine g_getR (q := 147) (r := some 71) 12 24 X (lk_66_24 hK) (lt2000 (c := 0) (by decide)) kf_X12_27 (by decide) (by decide) rfl rfl (hK.n (by decide)) dX12_reach_144 rfl ?_
            refine g_iload_n (q := 148) 3 X dX12_reach_147 rfl rfl rfl ?_
            obtain ⟨s15, h⟩ := h
            refine g_iald (q := 149) X rfl (hK.n (by decide)) s15 dX12_reach_148 rfl ?_
            refine g_sub (L' := [aR (some 66), aJ, aI l2, aI l3, aI l4, aJ]) ⟨Or.inr rfl, Or.inl rfl, Or.inr rfl, Or.inr rfl, Or.inr rfl, Or.inl rfl, trivial⟩ ?_
            exact cb_X12_reach_149 X hR hK  hP28 hP39 h
          · have h := h.2 c14
            refine g_iload (q := 140) 5 X dX12_reach_138 rfl rfl ?_
            refine g_goto (q := 149) X dX12_reach_140 (by decide) ?_
            refine g_sub (L' := [aR (some 66), aJ, aI l2, aI l3, aI l4, aJ]) ⟨Or.inr rfl, Or.inl rfl, Or.inr rfl, Or.inr rfl, Or.inr rfl, Or.inl rfl, trivial⟩ ?_
            exact cb_X12_reach_149 X hR hK  hP28 hP39 h
        · have h := h.2 c10
          refine g_goto (q := 177) X dX12_reach_104 (by decide) ?_
          refine g_sub (L' := [aR (some 66), aJ, aI l2, aI l3, aI l4, aJ]) ⟨Or.inr rfl, Or.inl rfl, Or.inr rfl, Or.inr rfl, Or.inr rfl, Or.inl rfl, trivial⟩ ?_
          exact cb_X12_reach_177 X hR hK  hP28 hP39 h
def wl_X12_reach_39 (P28 : Int → Int → IV → Prop) (l2 l3 l4 : Int) (iv : IV) (rv : RV) (K : IV → Prop) : Prop :=
  ∀ P : Int → Int → Int → IV → Prop, (∀ (l2' l3' l4' : Int) (iv' : IV), bd_X12_reach_39 P28 P l2' l3' l4' iv' rv K → P l2' l3' l4' iv') → P l2 l3 l4 iv
theorem cl_X12_reach_39 {Γ : GX} {n : Nat} {iv : IV} {rv : RV} {K : IV → Prop} {P28 : Int → Int → IV → Prop} {l2 l3 l4 : Int} (X : Cx Γ RX12 cX12_reach 6 1) (hR : Rt Γ none 0 0 (fV1 n rv K)) (hK : Lk n rv)  (hP28 : ∀ (l2' l3' : Int) (iv' : IV), P28 l2' l3' iv' → G Γ 6 28 [aR (some 66), aJ, aI (l2'), aI (l3'), aJ, aJ] [] n iv' rv 0 0) (h : wl_X12_reach_39 P28 l2 l3 l4 iv rv K) : G Γ 6 39 [aR (some 66), aJ, aI l2, aI l3, aI l4, aJ] [] n iv rv 0 0 := by
  exact h (fun l2' l3' l4' iv' =>  G Γ 6 39 [aR (some 66), aJ, aI (l2'), aI (l3'), aI (l4'), aJ] [] n iv' rv 0 0) (fun l2' l3' l4' iv' hb => cb_X12_reach_39 X hR hK  hP28 (fun l2' l3' l4' iv' hp => hp) hb)
def bd_X12_reach_28 (P28 : Int → Int → IV → Prop) (l2 l3 : Int) (iv : IV) (rv : RV) (K : IV → Prop) : Prop :=
  (((iv 66 26) ≤ l3) → (K iv)) ∧ ((¬ ((iv 66 26) ≤ l3)) → (wl_X12_reach_39 P28 l2 l3 0 iv rv K))
set_option maxRecDepth 10000 in
theorem cb_X12_reach_28 {Γ : GX} {n : Nat} {iv : IV} {rv : RV} {K : IV → Prop} {P28 : Int → Int → IV → Prop} {l2 l3 : Int} (X : Cx Γ RX12 cX12_reach 6 1) (hR : Rt Γ none 0 0 (fV1 n rv K)) (hK : Lk n rv)  (hP28 : ∀ (l2' l3' : Int) (iv' : IV), P28 l2' l3' iv' → G Γ 6 28 [aR (some 66), aJ, aI (l2'), aI (l3'), aJ, aJ] [] n iv' rv 0 0) (h : bd_X12_reach_28 P28 l2 l3 iv rv K) : G Γ 6 28 [aR (some 66), aJ, aI l2, aI l3, aJ, aJ] [] n iv rv 0 0 := by
  unfold bd_X12_reach_28 at h
  refine g_iload_n (q := 29) 3 X dX12_reach_28 rfl rfl rfl ?_
  refine g_aload_n (q := 30) 0 X dX12_reach_29 rfl rfl rfl ?_
  refine g_getI (q := 33) 12 26 X kf_X12_475 (by decide) (by decide) rfl rfl (hK.n (by decide)) dX12_reach_30 rfl ?_
  refine g_icmp_ge (q := 36) 189 X dX12_reach_33 (by decide) rfl (fun c1 => ?_) (fun c1 => ?_)
  · have h := h.1 c1
    exact g_vret (q := 0) X hR dX12_reach_189 rfl ⟨rfl, rfl, rfl, h⟩
  · have h := h.2 c1
    refine g_iconst (q := 37) 0 X dX12_reach_36 rfl rfl ic_0 ?_
    refine g_istore (q := 39) (k0 := 0) 4 (L' := [aR (some 66), aJ, aI l2, aI l3, aI 0, aJ]) X dX12_reach_37 rfl (by decide) rfl rfl ?_
    exact cl_X12_reach_39 X hR hK  hP28 h
def wl_X12_reach_28 (l2 l3 : Int) (iv : IV) (rv : RV) (K : IV → Prop) : Prop :=
  ∀ P : Int → Int → IV → Prop, (∀ (l2' l3' : Int) (iv' : IV), bd_X12_reach_28  P l2' l3' iv' rv K → P l2' l3' iv') → P l2 l3 iv
theorem cl_X12_reach_28 {Γ : GX} {n : Nat} {iv : IV} {rv : RV} {K : IV → Prop} {l2 l3 : Int} (X : Cx Γ RX12 cX12_reach 6 1) (hR : Rt Γ none 0 0 (fV1 n rv K)) (hK : Lk n rv)  (h : wl_X12_reach_28 l2 l3 iv rv K) : G Γ 6 28 [aR (some 66), aJ, aI l2, aI l3, aJ, aJ] [] n iv rv 0 0 := by
  exact h (fun l2' l3' iv' =>  G Γ 6 28 [aR (some 66), aJ, aI (l2'), aI (l3'), aJ, aJ] [] n iv' rv 0 0) (fun l2' l3' iv' hb => cb_X12_reach_28 X hR hK   (fun l2' l3' iv' hp => hp) hb)
def wp_X12_reach (a1 : Int) (a2 : Int) (iv : IV) (rv : RV) (K : IV → Prop) : Prop :=
  ∀ iv1, iv1 = w2 iv 70 0 a1 → ∀ iv2, iv2 = w2 iv1 71 0 (-1) → ∀ iv3, iv3 = w2 iv2 72 0 0 → ∀ iv4, iv4 = w2 iv3 66 26 1 → wl_X12_reach_28 a2 0 iv4 rv K
set_option maxRecDepth 10000 in
theorem ce_X12_reach {n : Nat} {iv : IV} {rv : RV} {K : IV → Prop} {a1 : Int} {a2 : Int} (hK : Lk n rv)  (h : wp_X12_reach a1 a2 iv rv K) : Call 1 0 0 yX12_reach cX12_reach 6 none [aR (some 66), aI a1, aI a2] n iv rv (fV1 n rv K) := by
  refine Call.by (L := [aR (some 66), aI a1, aI a2, aJ, aJ, aJ]) (by decide) rfl ⟨trivial, trivial, trivial, trivial⟩ rfl (Nat.le_of_ble_eq_true rfl) (fun Γ X hR => ?_)
  unfold wp_X12_reach at h
  refine g_aload_n (q := 1) 0 X dX12_reach_0 rfl rfl rfl ?_
  refine g_getR (q := 4) (r := some 70) 12 23 X (lk_66_23 hK) (lt2000 (c := 0) (by decide)) kf_X12_24 (by decide) (by decide) rfl rfl (hK.n (by decide)) dX12_reach_1 rfl ?_
  refine g_iconst (q := 5) 0 X dX12_reach_4 rfl rfl ic_0 ?_
  refine g_iload_n (q := 6) 1 X dX12_reach_5 rfl rfl rfl ?_
  refine g_iast (q := 7) X rfl (hK.n (by decide)) (by decide) dX12_reach_6 rfl ?_
  refine g_nmM (fun iv1 eiv1 => ?_)
  have h := h iv1 eiv1
  refine g_aload_n (q := 8) 0 X dX12_reach_7 rfl rfl rfl ?_
  refine g_getR (q := 11) (r := some 71) 12 24 X (lk_66_24 hK) (lt2000 (c := 0) (by decide)) kf_X12_27 (by decide) (by decide) rfl rfl (hK.n (by decide)) dX12_reach_8 rfl ?_
  refine g_iconst (q := 12) 0 X dX12_reach_11 rfl rfl ic_0 ?_
  refine g_iconst (q := 13) (-1) X dX12_reach_12 rfl rfl ic_m1 ?_
  refine g_iast (q := 14) X rfl (hK.n (by decide)) (by decide) dX12_reach_13 rfl ?_
  refine g_nmM (fun iv2 eiv2 => ?_)
  have h := h iv2 eiv2
  refine g_aload_n (q := 15) 0 X dX12_reach_14 rfl rfl rfl ?_
  refine g_getR (q := 18) (r := some 72) 12 25 X (lk_66_25 hK) (lt2000 (c := 0) (by decide)) kf_X12_30 (by decide) (by decide) rfl rfl (hK.n (by decide)) dX12_reach_15 rfl ?_
  refine g_iconst (q := 19) 0 X dX12_reach_18 rfl rfl ic_0 ?_
  refine g_iconst (q := 20) 0 X dX12_reach_19 rfl rfl ic_0 ?_
  refine g_iast (q := 21) X rfl (hK.n (by decide)) (by decide) dX12_reach_20 rfl ?_
  refine g_nmM (fun iv3 eiv3 => ?_)
  have h := h iv3 eiv3
  refine g_aload_n (q := 22) 0 X dX12_reach_21 rfl rfl rfl ?_
  refine g_iconst (q := 23) 1 X dX12_reach_22 rfl rfl ic_1 ?_
  refine g_putI (q := 26) 12 26 X (Or.inl rfl) rfl kf_X12_475 (by decide) (by decide) rfl (hK.n (by decide)) dX12_reach_23 rfl ?_
  refine g_nmM (fun iv4 eiv4 => ?_)
  have h := h iv4 eiv4
  refine g_iconst (q := 27) 0 X dX12_reach_26 rfl rfl ic_0 ?_
  refine g_istore_n (q := 28) 3 (L' := [aR (some 66), aI a1, aI a2, aI 0, aJ, aJ]) X dX12_reach_27 rfl rfl (by decide) rfl rfl ?_
  refine g_sub (L' := [aR (some 66), aJ, aI a2, aI 0, aJ, aJ]) ⟨Or.inr rfl, Or.inl rfl, Or.inr rfl, Or.inr rfl, Or.inl rfl, Or.inl rfl, trivial⟩ ?_
  exact cl_X12_reach_28 X hR hK   h
