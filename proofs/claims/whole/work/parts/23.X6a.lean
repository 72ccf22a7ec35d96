def bd_X6_open_73 (b1 : Nat) (t0 : Int) (iv : IV) (rv : RV) (K : IV → RV → Prop) : Prop :=
  (t0 = 0 ∨ t0 = 1) ∧ ∀ iv2, iv2 = w2 iv 51 10 t0 → ∀ iv3, iv3 = w2 iv2 51 12 (-1) → ∀ iv4, iv4 = cpy iv3 (gR rv 51 6 + 8) 52 0 0 16 → ∀ iv5, iv5 = cpy iv4 (gR rv 51 6 + 10) 53 0 0 16 → K iv5 rv
set_option maxRecDepth 10000 in
theorem cb_X6_open_73 {Γ : GX} {n : Nat} {iv : IV} {rv : RV} {K : IV → RV → Prop} {b1 : Nat} {t0 : Int} (X : Cx Γ RX6 cX6_open 4 1) (hR : Rt Γ none 0 0 (fV2 n K)) (hK : Lk n rv) (hb_b1 : isR b1) (h : bd_X6_open_73 b1 t0 iv rv K) : G Γ 4 73 [aR (some 51), aJ, aJ, aJ] [aI t0, aR (some 51)] n iv rv 0 0 := by
  unfold bd_X6_open_73 at h
  obtain ⟨s1, h⟩ := h
  refine g_putI (q := 76) 6 10 X (Or.inr ⟨rfl, s1⟩) rfl kf_X6_50 (by decide) (by decide) rfl (hK.n (by decide)) dX6_open_73 rfl ?_
  refine g_nmM (fun iv2 eiv2 => ?_)
  have h := h iv2 eiv2
  refine g_aload_n (q := 77) 0 X dX6_open_76 rfl rfl rfl ?_
  refine g_iconst (q := 78) (-1) X dX6_open_77 rfl rfl ic_m1 ?_
  refine g_putI (q := 81) 6 12 X (Or.inl rfl) rfl kf_X6_53 (by decide) (by decide) rfl (hK.n (by decide)) dX6_open_78 rfl ?_
  refine g_nmM (fun iv3 eiv3 => ?_)
  have h := h iv3 eiv3
  refine g_aload_n (q := 82) 0 X dX6_open_81 rfl rfl rfl ?_
  refine g_getR (q := 85) (r := some (gR rv 51 6)) 6 6 X hK.2.2.2.2.2.1.2.2.2.2.1 (lt2000 (c := 0) (isR_lt0 hK.2.2.2.2.2.1.2.2.2.2.2)) kf_X6_31 (by decide) (by decide) rfl rfl (hK.n (by decide)) dX6_open_82 rfl ?_
  refine g_getR (q := 88) (r := some (gR rv 51 6 + 8)) 5 7 X (lkR_7 hK hK.2.2.2.2.2.1.2.2.2.2.2) (lt2000 (c := 0) (isR_lt hK.2.2.2.2.2.1.2.2.2.2.2 (by decide))) kf_X6_57 (by decide) (by decide) rfl (shR_0 hK.2.2.2.2.2.1.2.2.2.2.2) (isR_n0 hK hK.2.2.2.2.2.1.2.2.2.2.2) dX6_open_85 rfl ?_
  refine g_iconst (q := 89) 0 X dX6_open_88 rfl rfl ic_0 ?_
  refine g_aload_n (q := 90) 0 X dX6_open_89 rfl rfl rfl ?_
  refine g_getR (q := 93) (r := some 52) 6 0 X (lk_51_0 hK) (lt2000 (c := 0) (by decide)) kf_X6_9 (by decide) (by decide) rfl rfl (hK.n (by decide)) dX6_open_90 rfl ?_
  refine g_iconst (q := 94) 0 X dX6_open_93 rfl rfl ic_0 ?_
  refine g_bipush (q := 96) 16 X dX6_open_94 rfl bc_16 ic_16 ?_
  refine g_copy (q := 99) X kA_X6_60 kA1 kA2 kA3 (shR_8 hK.2.2.2.2.2.1.2.2.2.2.2) rfl (isR_n hK hK.2.2.2.2.2.1.2.2.2.2.2 (by decide)) (hK.n (by decide)) (by decide) (by decide) (Nat.le_of_ble_eq_true rfl) dX6_open_96 rfl ?_
  refine g_nmM (fun iv4 eiv4 => ?_)
  have h := h iv4 eiv4
  refine g_aload_n (q := 100) 0 X dX6_open_99 rfl rfl rfl ?_
  refine g_getR (q := 103) (r := some (gR rv 51 6)) 6 6 X hK.2.2.2.2.2.1.2.2.2.2.1 (lt2000 (c := 0) (isR_lt0 hK.2.2.2.2.2.1.2.2.2.2.2)) kf_X6_31 (by decide) (by decide) rfl rfl (hK.n (by decide)) dX6_open_100 rfl ?_
  refine g_getR (q := 106) (r := some (gR rv 51 6 + 10)) 5 9 X (lkR_9 hK hK.2.2.2.2.2.1.2.2.2.2.2) (lt2000 (c := 0) (isR_lt hK.2.2.2.2.2.1.2.2.2.2.2 (by decide))) kf_X6_66 (by decide) (by decide) rfl (shR_0 hK.2.2.2.2.2.1.2.2.2.2.2) (isR_n0 hK hK.2.2.2.2.2.1.2.2.2.2.2) dX6_open_103 rfl ?_
  refine g_iconst (q := 107) 0 X dX6_open_106 rfl rfl ic_0 ?_
  refine g_aload_n (q := 108) 0 X dX6_open_107 rfl rfl rfl ?_
  refine g_getR (q := 111) (r := some 53) 6 1 X (lk_51_1 hK) (lt2000 (c := 0) (by decide)) kf_X6_15 (by decide) (by decide) rfl rfl (hK.n (by decide)) dX6_open_108 rfl ?_
  refine g_iconst (q := 112) 0 X dX6_open_111 rfl rfl ic_0 ?_
  refine g_bipush (q := 114) 16 X dX6_open_112 rfl bc_16 ic_16 ?_
  refine g_copy (q := 117) X kA_X6_60 kA1 kA2 kA3 (shR_10 hK.2.2.2.2.2.1.2.2.2.2.2) rfl (isR_n hK hK.2.2.2.2.2.1.2.2.2.2.2 (by decide)) (hK.n (by decide)) (by decide) (by decide) (Nat.le_of_ble_eq_true rfl) dX6_open_114 rfl ?_
  refine g_nmM (fun iv5 eiv5 => ?_)
  have h := h iv5 eiv5
  exact g_vret (q := 0) X hR dX6_open_117 rfl ⟨rfl, hK, rfl, h⟩
def bd_X6_open_57 (b1 : Nat) (l3 t0 : Int) (iv : IV) (rv : RV) (K : IV → RV → Prop) : Prop :=
  (t0 = 0 ∨ t0 = 1) ∧ ∀ iv2, iv2 = w2 iv 51 9 t0 → ((((Int32.ofInt l3 &&& Int32.ofInt 8).toInt) ≠ 0) → (bd_X6_open_73 b1 0 iv2 rv K)) ∧ ((((Int32.ofInt l3 &&& Int32.ofInt 8).toInt) = 0) → (bd_X6_open_73 b1 1 iv2 rv K))
set_option maxRecDepth 10000 in
theorem cb_X6_open_57 {Γ : GX} {n : Nat} {iv : IV} {rv : RV} {K : IV → RV → Prop} {b1 : Nat} {l3 t0 : Int} (X : Cx Γ RX6 cX6_open 4 1) (hR : Rt Γ none 0 0 (fV2 n K)) (hK : Lk n rv) (hb_b1 : isR b1) (h : bd_X6_open_57 b1 l3 t0 iv rv K) : G Γ 4 57 [aR (some 51), aJ, aJ, aI l3] [aI t0, aR (some 51)] n iv rv 0 0 := by
  unfold bd_X6_open_57 at h
  obtain ⟨s1, h⟩ := h
  refine g_putI (q := 60) 6 9 X (Or.inr ⟨rfl, s1⟩) rfl kf_X6_47 (by decide) (by decide) rfl (hK.n (by decide)) dX6_open_57 rfl ?_
  refine g_nmM (fun iv2 eiv2 => ?_)
  have h := h iv2 eiv2
  refine g_aload_n (q := 61) 0 X dX6_open_60 rfl rfl rfl ?_
  refine g_iload_n (q := 62) 3 X dX6_open_61 rfl rfl rfl ?_
  refine g_bipush (q := 64) 8 X dX6_open_62 rfl bc_8 ic_8 ?_
  refine g_iand (q := 65) X dX6_open_64 rfl ?_
  refine g_if_ne (q := 68) 72 X dX6_open_65 (by decide) rfl (fun c3 => ?_) (fun c3 => ?_)
  · have h := h.1 c3
    refine g_iconst (q := 73) 0 X dX6_open_72 rfl rfl ic_0 ?_
    refine g_sub (L' := [aR (some 51), aJ, aJ, aJ]) ⟨Or.inr rfl, Or.inl rfl, Or.inl rfl, Or.inl rfl, trivial⟩ ?_
    exact cb_X6_open_73 X hR hK hb_b1  h
  · have h := h.2 c3
    refine g_iconst (q := 69) 1 X dX6_open_68 rfl rfl ic_1 ?_
    refine g_goto (q := 73) X dX6_open_69 (by decide) ?_
    refine g_sub (L' := [aR (some 51), aJ, aJ, aJ]) ⟨Or.inr rfl, Or.inl rfl, Or.inl rfl, Or.inl rfl, trivial⟩ ?_
    exact cb_X6_open_73 X hR hK hb_b1  h
def bd_X6_open_42 (b1 : Nat) (l3 t0 : Int) (iv : IV) (rv : RV) (K : IV → RV → Prop) : Prop :=
  (t0 = 0 ∨ t0 = 1) ∧ ∀ iv2, iv2 = w2 iv 51 8 t0 → ((((Int32.ofInt l3 &&& Int32.ofInt 4).toInt) ≠ 0) → (bd_X6_open_57 b1 l3 0 iv2 rv K)) ∧ ((((Int32.ofInt l3 &&& Int32.ofInt 4).toInt) = 0) → (bd_X6_open_57 b1 l3 1 iv2 rv K))
set_option maxRecDepth 10000 in
theorem cb_X6_open_42 {Γ : GX} {n : Nat} {iv : IV} {rv : RV} {K : IV → RV → Prop} {b1 : Nat} {l3 t0 : Int} (X : Cx Γ RX6 cX6_open 4 1) (hR : Rt Γ none 0 0 (fV2 n K)) (hK : Lk n rv) (hb_b1 : isR b1) (h : bd_X6_open_42 b1 l3 t0 iv rv K) : G Γ 4 42 [aR (some 51), aJ, aJ, aI l3] [aI t0, aR (some 51)] n iv rv 0 0 := by
  unfold bd_X6_open_42 at h
  obtain ⟨s1, h⟩ := h
  refine g_putI (q := 45) 6 8 X (Or.inr ⟨rfl, s1⟩) rfl kf_X6_44 (by decide) (by decide) rfl (hK.n (by decide)) dX6_open_42 rfl ?_
  refine g_nmM (fun iv2 eiv2 => ?_)
  have h := h iv2 eiv2
  refine g_aload_n (q := 46) 0 X dX6_open_45 rfl rfl rfl ?_
  refine g_iload_n (q := 47) 3 X dX6_open_46 rfl rfl rfl ?_
  refine g_iconst (q := 48) 4 X dX6_open_47 rfl rfl ic_4 ?_
  refine g_iand (q := 49) X dX6_open_48 rfl ?_
  refine g_if_ne (q := 52) 56 X dX6_open_49 (by decide) rfl (fun c3 => ?_) (fun c3 => ?_)
  · have h := h.1 c3
    refine g_iconst (q := 57) 0 X dX6_open_56 rfl rfl ic_0 ?_
    exact cb_X6_open_57 X hR hK hb_b1  h
  · have h := h.2 c3
    refine g_iconst (q := 53) 1 X dX6_open_52 rfl rfl ic_1 ?_
    refine g_goto (q := 57) X dX6_open_53 (by decide) ?_
    exact cb_X6_open_57 X hR hK hb_b1  h
def bd_X6_open_27 (b1 : Nat) (l3 t0 : Int) (iv : IV) (rv : RV) (K : IV → RV → Prop) : Prop :=
  (t0 = 0 ∨ t0 = 1) ∧ ∀ iv2, iv2 = w2 iv 51 7 t0 → ((((Int32.ofInt l3 &&& Int32.ofInt 2).toInt) = 0) → (bd_X6_open_42 b1 l3 0 iv2 rv K)) ∧ ((¬ (((Int32.ofInt l3 &&& Int32.ofInt 2).toInt) = 0)) → (bd_X6_open_42 b1 l3 1 iv2 rv K))
set_option maxRecDepth 10000 in
theorem cb_X6_open_27 {Γ : GX} {n : Nat} {iv : IV} {rv : RV} {K : IV → RV → Prop} {b1 : Nat} {l3 t0 : Int} (X : Cx Γ RX6 cX6_open 4 1) (hR : Rt Γ none 0 0 (fV2 n K)) (hK : Lk n rv) (hb_b1 : isR b1) (h : bd_X6_open_27 b1 l3 t0 iv rv K) : G Γ 4 27 [aR (some 51), aJ, aJ, aI l3] [aI t0, aR (some 51)] n iv rv 0 0 := by
  unfold bd_X6_open_27 at h
  obtain ⟨s1, h⟩ := h
  refine g_putI (q := 30) 6 7 X (Or.inr ⟨rfl, s1⟩) rfl kf_X6_40 (by decide) (by decide) rfl (hK.n (by decide)) dX6_open_27 rfl ?_
  refine g_nmM (fun iv2 eiv2 => ?_)
  have h := h iv2 eiv2
  refine g_aload_n (q := 31) 0 X dX6_open_30 rfl rfl rfl ?_
  refine g_iload_n (q := 32) 3 X dX6_open_31 rfl rfl rfl ?_
  refine g_iconst (q := 33) 2 X dX6_open_32 rfl rfl ic_2 ?_
  refine g_iand (q := 34) X dX6_open_33 rfl ?_
  refine g_if_eq (q := 37) 41 X dX6_open_34 (by decide) rfl (fun c3 => ?_) (fun c3 => ?_)
  · have h := h.1 c3
    refine g_iconst (q := 42) 0 X dX6_open_41 rfl rfl ic_0 ?_
    exact cb_X6_open_42 X hR hK hb_b1  h
  · have h := h.2 c3
    refine g_iconst (q := 38) 1 X dX6_open_37 rfl rfl ic_1 ?_
    refine g_goto (q := 42) X dX6_open_38 (by decide) ?_
    exact cb_X6_open_42 X hR hK hb_b1  h
def wp_X6_open (b1 : Nat) (a2 : Int) (iv : IV) (rv : RV) (K : IV → RV → Prop) : Prop :=
  ∀ rv1, rv1 = r2 rv 51 6 (some b1) → (0 ≤ a2 ∧ a2 < 3) ∧ ∀ x3, x3 = iv (gR rv1 51 6 + 17) a2.toNat → ((((Int32.ofInt x3 &&& Int32.ofInt 1).toInt) = 0) → (bd_X6_open_27 b1 x3 0 iv rv1 K)) ∧ ((¬ (((Int32.ofInt x3 &&& Int32.ofInt 1).toInt) = 0)) → (bd_X6_open_27 b1 x3 1 iv rv1 K))
set_option maxRecDepth 10000 in
theorem ce_X6_open {n : Nat} {iv : IV} {rv : RV} {K : IV → RV → Prop} {b1 : Nat} {a2 : Int} (hK : Lk n rv) (hb_b1 : isR b1) (h : wp_X6_open b1 a2 iv rv K) : Call 1 0 0 yX6_open cX6_open 4 none [aR (some 51), aR (some b1), aI a2] n iv rv (fV2 n K) := by
  refine Call.by (L := [aR (some 51), aR (some b1), aI a2, aJ]) (by decide) rfl ⟨trivial, trivial, trivial, trivial⟩ rfl (Nat.le_of_ble_eq_true rfl) (fun Γ X hR => ?_)
  unfold wp_X6_open at h
  refine g_aload_n (q := 1) 0 X dX6_open_0 rfl rfl rfl ?_
  refine g_aload_n (q := 2) 1 X dX6_open_1 rfl rfl rfl ?_
  refine g_putR (q := 5) 6 6 X rfl rfl kf_X6_31 (by decide) (by decide) rfl (hK.n (by decide)) dX6_open_2 rfl ?_
  refine g_nmR (fun rv1 erv1 => ?_)
  have h := h rv1 erv1
  have hK_rv1 : Lk n rv1 := by rw [erv1]; exact Lk.w5 hK hb_b1 (by decide)
  refine g_aload_n (q := 6) 0 X dX6_open_5 rfl rfl rfl ?_
  refine g_getR (q := 9) (r := some (gR rv1 51 6)) 6 6 X hK_rv1.2.2.2.2.2.1.2.2.2.2.1 (lt2000 (c := 0) (isR_lt0 hK_rv1.2.2.2.2.2.1.2.2.2.2.2)) kf_X6_31 (by decide) (by decide) rfl rfl (hK_rv1.n (by decide)) dX6_open_6 rfl ?_
  refine g_getR (q := 12) (r := some (gR rv1 51 6 + 17)) 5 16 X (lkR_16 hK_rv1 hK_rv1.2.2.2.2.2.1.2.2.2.2.2) (lt2000 (c := 0) (isR_lt hK_rv1.2.2.2.2.2.1.2.2.2.2.2 (by decide))) kf_X6_35 (by decide) (by decide) rfl (shR_0 hK_rv1.2.2.2.2.2.1.2.2.2.2.2) (isR_n0 hK_rv1 hK_rv1.2.2.2.2.2.1.2.2.2.2.2) dX6_open_9 rfl ?_
  refine g_iload_n (q := 13) 2 X dX6_open_12 rfl rfl rfl ?_
  obtain ⟨s2, h⟩ := h
  refine g_iald (q := 14) X (shR_17 hK_rv1.2.2.2.2.2.1.2.2.2.2.2) (isR_n hK_rv1 hK_rv1.2.2.2.2.2.1.2.2.2.2.2 (by decide)) s2 dX6_open_13 rfl ?_
  refine g_nmI (fun x3 ex3 => ?_)
  have h := h x3 ex3
  refine g_istore_n (q := 15) 3 (L' := [aR (some 51), aR (some b1), aI a2, aI x3]) X dX6_open_14 rfl rfl (by decide) rfl rfl ?_
  refine g_aload_n (q := 16) 0 X dX6_open_15 rfl rfl rfl ?_
  refine g_iload_n (q := 17) 3 X dX6_open_16 rfl rfl rfl ?_
  refine g_iconst (q := 18) 1 X dX6_open_17 rfl rfl ic_1 ?_
  refine g_iand (q := 19) X dX6_open_18 rfl ?_
  refine g_if_eq (q := 22) 26 X dX6_open_19 (by decide) rfl (fun c4 => ?_) (fun c4 => ?_)
  · have h := h.1 c4
    refine g_iconst (q := 27) 0 X dX6_open_26 rfl rfl ic_0 ?_
    refine g_sub (L' := [aR (some 51), aJ, aJ, aI x3]) ⟨Or.inr rfl, Or.inl rfl, Or.inl rfl, Or.inr rfl, trivial⟩ ?_
    exact cb_X6_open_27 X hR hK_rv1 hb_b1  h
  · have h := h.2 c4
    refine g_iconst (q := 23) 1 X dX6_open_22 rfl rfl ic_1 ?_
    refine g_goto (q := 27) X dX6_open_23 (by decide) ?_
    refine g_sub (L' := [aR (some 51), aJ, aJ, aI x3]) ⟨Or.inr rfl, Or.inl rfl, Or.inl rfl, Or.inr rfl, trivial⟩ ?_
    exact cb_X6_open_27 X hR hK_rv1 hb_b1  h
def bd_X6_renew_60 (t0 t1 : Int) (iv : IV) (rv : RV) (K : IV → Prop) : Prop :=
  (0 ≤ t1 ∧ t1 < 16) ∧ ∀ iv2, iv2 = w2 iv 57 t1.toNat t0 → K iv2
set_option maxRecDepth 10000 in
theorem cb_X6_renew_60 {Γ : GX} {n : Nat} {iv : IV} {rv : RV} {K : IV → Prop} {t0 t1 : Int} (X : Cx Γ RX6 cX6_renew 5 0) (hR : Rt Γ none 0 0 (fV1 n rv K)) (hK : Lk n rv)  (h : bd_X6_renew_60 t0 t1 iv rv K) : G Γ 5 60 [aJ, aJ, aJ, aJ, aJ] [aI t0, aI t1, aR (some 57)] n iv rv 0 0 := by
  unfold bd_X6_renew_60 at h
  obtain ⟨s1, h⟩ := h
  refine g_iast (q := 61) X rfl (hK.n (by decide)) s1 dX6_renew_60 rfl ?_
  refine g_nmM (fun iv2 eiv2 => ?_)
  have h := h iv2 eiv2
  refine g_goto (q := 92) X dX6_renew_61 (by decide) ?_
  exact g_vret (q := 0) X hR dX6_renew_92 rfl ⟨rfl, rfl, rfl, h⟩
def bd_X6_renew_27 (l1 l2 l4 : Int) (iv : IV) (rv : RV) (K : IV → Prop) : Prop :=
  ((l2 ≠ 1) → (((l2 ≠ 2) → (K iv)) ∧ ((l2 = 2) → (((l4 = 0) → ((0 ≤ l1 ∧ l1 < 16) ∧ ∀ iv5, iv5 = w2 iv 57 l1.toNat 0 → K iv5)) ∧ ((¬ (l4 = 0)) → ((0 ≤ l1 ∧ l1 < 16) ∧ (0 ≤ l1 ∧ l1 < 16) ∧ ∀ iv8, iv8 = w2 iv 57 l1.toNat (w32 (Int.tdiv (iv 57 l1.toNat) 2)) → K iv8)))))) ∧ ((l2 = 1) → ((0 ≤ l1 ∧ l1 < 16) ∧ ∀ iv10, iv10 = w2 iv 56 l1.toNat (-2) → ((l4 = 0) → (bd_X6_renew_60 2 l1 iv10 rv K)) ∧ ((¬ (l4 = 0)) → ((0 ≤ l1 ∧ l1 < 16) ∧ bd_X6_renew_60 (iv10 57 l1.toNat) l1 iv10 rv K))))
set_option maxRecDepth 10000 in
theorem cb_X6_renew_27 {Γ : GX} {n : Nat} {iv : IV} {rv : RV} {K : IV → Prop} {l1 l2 l4 : Int} (X : Cx Γ RX6 cX6_renew 5 0) (hR : Rt Γ none 0 0 (fV1 n rv K)) (hK : Lk n rv)  (h : bd_X6_renew_27 l1 l2 l4 iv rv K) : G Γ 5 27 [aR (some 51), aI l1, aI l2, aJ, aI l4] [] n iv rv 0 0 := by
  unfold bd_X6_renew_27 at h
  refine g_iload_n (q := 28) 2 X dX6_renew_27 rfl rfl rfl ?_
  refine g_iconst (q := 29) 1 X dX6_renew_28 rfl rfl ic_1 ?_
  refine g_icmp_ne (q := 32) 64 X dX6_renew_29 (by decide) rfl (fun c1 => ?_) (fun c1 => ?_)
  · have h := h.1 c1
    refine g_iload_n (q := 65) 2 X dX6_renew_64 rfl rfl rfl ?_
    refine g_iconst (q := 66) 2 X dX6_renew_65 rfl rfl ic_2 ?_
    refine g_icmp_ne (q := 69) 92 X dX6_renew_66 (by decide) rfl (fun c2 => ?_) (fun c2 => ?_)
    · have h := h.1 c2
      exact g_vret (q := 0) X hR dX6_renew_92 rfl ⟨rfl, rfl, rfl, h⟩
    · have h := h.2 c2
      refine g_aload_n (q := 70) 0 X dX6_renew_69 rfl rfl rfl ?_
      refine g_getR (q := 73) (r := some 57) 6 5 X (lk_51_5 hK) (lt2000 (c := 0) (by decide)) kf_X6_28 (by decide) (by decide) rfl rfl (hK.n (by decide)) dX6_renew_70 rfl ?_
      refine g_iload_n (q := 74) 1 X dX6_renew_73 rfl rfl rfl ?_
      refine g_iload (q := 76) 4 X dX6_renew_74 rfl rfl ?_
      refine g_if_eq (q := 79) 90 X dX6_renew_76 (by decide) rfl (fun c3 => ?_) (fun c3 => ?_)
      · have h := h.1 c3
        refine g_iconst (q := 91) 0 X dX6_renew_90 rfl rfl ic_0 ?_
        obtain ⟨s4, h⟩ := h
        refine g_iast (q := 92) X rfl (hK.n (by decide)) s4 dX6_renew_91 rfl ?_
        refine g_nmM (fun iv5 eiv5 => ?_)
        have h := h iv5 eiv5
        exact g_vret (q := 0) X hR dX6_renew_92 rfl ⟨rfl, rfl, rfl, h⟩
      · have h := h.2 c3
        refine g_aload_n (q := 80) 0 X dX6_renew_79 rfl rfl rfl ?_
        refine g_getR (q := 83) (r := some 57) 6 5 X (lk_51_5 hK) (lt2000 (c := 0) (by decide)) kf_X6_28 (by decide) (by decide) rfl rfl (hK.n (by decide)) dX6_renew_80 rfl ?_
        refine g_iload_n (q := 84) 1 X dX6_renew_83 rfl rfl rfl ?_
        obtain ⟨s6, h⟩ := h
        refine g_iald (q := 85) X rfl (hK.n (by decide)) s6 dX6_renew_84 rfl ?_
        refine g_iconst (q := 86) 2 X dX6_renew_85 rfl rfl ic_2 ?_
        refine g_idiv (q := 87) X (by decide) dX6_renew_86 rfl ?_
        refine g_goto (q := 91) X dX6_renew_87 (by decide) ?_
        obtain ⟨s7, h⟩ := h
        refine g_iast (q := 92) X rfl (hK.n (by decide)) s7 dX6_renew_91 rfl ?_
        refine g_nmM (fun iv8 eiv8 => ?_)
        have h := h iv8 eiv8
        exact g_vret (q := 0) X hR dX6_renew_92 rfl ⟨rfl, rfl, rfl, h⟩
  · have h := h.2 c1
    refine g_aload_n (q := 33) 0 X dX6_renew_32 rfl rfl rfl ?_
    refine g_getR (q := 36) (r := some 56) 6 4 X (lk_51_4 hK) (lt2000 (c := 0) (by decide)) kf_X6_25 (by decide) (by decide) rfl rfl (hK.n (by decide)) dX6_renew_33 rfl ?_
    refine g_iload_n (q := 37) 1 X dX6_renew_36 rfl rfl rfl ?_
    refine g_bipush (q := 39) (-2) X dX6_renew_37 rfl bc_m2 ic_m2 ?_
    obtain ⟨s9, h⟩ := h
    refine g_iast (q := 40) X rfl (hK.n (by decide)) s9 dX6_renew_39 rfl ?_
    refine g_nmM (fun iv10 eiv10 => ?_)
    have h := h iv10 eiv10
    refine g_aload_n (q := 41) 0 X dX6_renew_40 rfl rfl rfl ?_
    refine g_getR (q := 44) (r := some 57) 6 5 X (lk_51_5 hK) (lt2000 (c := 0) (by decide)) kf_X6_28 (by decide) (by decide) rfl rfl (hK.n (by decide)) dX6_renew_41 rfl ?_
    refine g_iload_n (q := 45) 1 X dX6_renew_44 rfl rfl rfl ?_
    refine g_iload (q := 47) 4 X dX6_renew_45 rfl rfl ?_
    refine g_if_eq (q := 50) 59 X dX6_renew_47 (by decide) rfl (fun c11 => ?_) (fun c11 => ?_)
    · have h := h.1 c11
      refine g_iconst (q := 60) 2 X dX6_renew_59 rfl rfl ic_2 ?_
      refine g_sub (L' := [aJ, aJ, aJ, aJ, aJ]) ⟨Or.inl rfl, Or.inl rfl, Or.inl rfl, Or.inl rfl, Or.inl rfl, trivial⟩ ?_
      exact cb_X6_renew_60 X hR hK   h
    · have h := h.2 c11
      refine g_aload_n (q := 51) 0 X dX6_renew_50 rfl rfl rfl ?_
      refine g_getR (q := 54) (r := some 57) 6 5 X (lk_51_5 hK) (lt2000 (c := 0) (by decide)) kf_X6_28 (by decide) (by decide) rfl rfl (hK.n (by decide)) dX6_renew_51 rfl ?_
      refine g_iload_n (q := 55) 1 X dX6_renew_54 rfl rfl rfl ?_
      obtain ⟨s12, h⟩ := h
      refine g_iald (q := 56) X rfl (hK.n (by decide)) s12 dX6_renew_55 rfl ?_
      refine g_goto (q := 60) X dX6_renew_56 (by decide) ?_
      refine g_sub (L' := [aJ, aJ, aJ, aJ, aJ]) ⟨Or.inl rfl, Or.inl rfl, Or.inl rfl, Or.inl rfl, Or.inl rfl, trivial⟩ ?_
      exact cb_X6_renew_60 X hR hK   h
def bd_X6_renew_11 (l1 l2 l3 t0 : Int) (iv : IV) (rv : RV) (K : IV → Prop) : Prop :=
  (((iv 51 7) = 0) → (bd_X6_renew_27 l1 l2 t0 iv rv K)) ∧ ((¬ ((iv 51 7) = 0)) → ((0 ≤ l1 ∧ l1 < 16) ∧ ∀ iv3, iv3 = w2 iv 55 l1.toNat l3 → bd_X6_renew_27 l1 l2 t0 iv3 rv K))
set_option maxRecDepth 10000 in
theorem cb_X6_renew_11 {Γ : GX} {n : Nat} {iv : IV} {rv : RV} {K : IV → Prop} {l1 l2 l3 t0 : Int} (X : Cx Γ RX6 cX6_renew 5 0) (hR : Rt Γ none 0 0 (fV1 n rv K)) (hK : Lk n rv)  (h : bd_X6_renew_11 l1 l2 l3 t0 iv rv K) : G Γ 5 11 [aR (some 51), aI l1, aI l2, aI l3, aJ] [aI t0] n iv rv 0 0 := by
  unfold bd_X6_renew_11 at h
  refine g_istore (q := 13) (k0 := 0) 4 (L' := [aR (some 51), aI l1, aI l2, aI l3, aI t0]) X dX6_renew_11 rfl (by decide) rfl rfl ?_
  refine g_aload_n (q := 14) 0 X dX6_renew_13 rfl rfl rfl ?_
  refine g_getI (q := 17) 6 7 X kf_X6_40 (by decide) (by decide) rfl rfl (hK.n (by decide)) dX6_renew_14 rfl ?_
  refine g_if_eq (q := 20) 27 X dX6_renew_17 (by decide) rfl (fun c1 => ?_) (fun c1 => ?_)
  · have h := h.1 c1
    refine g_sub (L' := [aR (some 51), aI l1, aI l2, aJ, aI t0]) ⟨Or.inr rfl, Or.inr rfl, Or.inr rfl, Or.inl rfl, Or.inr rfl, trivial⟩ ?_
    exact cb_X6_renew_27 X hR hK   h
  · have h := h.2 c1
    refine g_aload_n (q := 21) 0 X dX6_renew_20 rfl rfl rfl ?_
    refine g_getR (q := 24) (r := some 55) 6 3 X (lk_51_3 hK) (lt2000 (c := 0) (by decide)) kf_X6_22 (by decide) (by decide) rfl rfl (hK.n (by decide)) dX6_renew_21 rfl ?_
    refine g_iload_n (q := 25) 1 X dX6_renew_24 rfl rfl rfl ?_
    refine g_iload_n (q := 26) 3 X dX6_renew_25 rfl rfl rfl ?_
    obtain ⟨s2, h⟩ := h
    refine g_iast (q := 27) X rfl (hK.n (by decide)) s2 dX6_renew_26 rfl ?_
    refine g_nmM (fun iv3 eiv3 => ?_)
    have h := h iv3 eiv3
    refine g_sub (L' := [aR (some 51), aI l1, aI l2, aJ, aI t0]) ⟨Or.inr rfl, Or.inr rfl, Or.inr rfl, Or.inl rfl, Or.inr rfl, trivial⟩ ?_
    exact cb_X6_renew_27 X hR hK   h
def wp_X6_renew (a1 : Int) (a2 : Int) (a3 : Int) (iv : IV) (rv : RV) (K : IV → Prop) : Prop :=
  ((6 ≤ a1) → (bd_X6_renew_11 a1 a2 a3 0 iv rv K)) ∧ ((¬ (6 ≤ a1)) → (bd_X6_renew_11 a1 a2 a3 1 iv rv K))
set_option maxRecDepth 10000 in
theorem ce_X6_renew {n : Nat} {iv : IV} {rv : RV} {K : IV → Prop} {a1 : Int} {a2 : Int} {a3 : Int} (hK : Lk n rv)  (h : wp_X6_renew a1 a2 a3 iv rv K) : Call 0 0 0 yX6_renew cX6_renew 5 none [aR (some 51), aI a1, aI a2, aI a3] n iv rv (fV1 n rv K) := by
  refine Call.by (L := [aR (some 51), aI a1, aI a2, aI a3, aJ]) (by decide) rfl ⟨trivial, trivial, trivial, trivial, trivial⟩ rfl (Nat.le_of_ble_eq_true rfl) (fun Γ X hR => ?_)
  unfold wp_X6_renew at h
  refine g_iload_n (q := 1) 1 X dX6_renew_0 rfl rfl rfl ?_
  refine g_bipush (q := 3) 6 X dX6_renew_1 rfl bc_6 ic_6 ?_
  refine g_icmp_ge (q := 6) 10 X dX6_renew_3 (by decide) rfl (fun c1 => ?_) (fun c1 => ?_)
  · have h := h.1 c1
    refine g_iconst (q := 11) 0 X dX6_renew_10 rfl rfl ic_0 ?_
    exact cb_X6_renew_11 X hR hK   h
  · have h := h.2 c1
    refine g_iconst (q := 7) 1 X dX6_renew_6 rfl rfl ic_1 ?_
    refine g_goto (q := 11) X dX6_renew_7 (by decide) ?_
    exact cb_X6_renew_11 X hR hK   h
def bd_X6_weigh_224 (l1 l2 l3 : Int) (iv : IV) (rv : RV) (K : IV → Prop) : Prop :=
  ((l3 < 0) → (K iv)) ∧ ((¬ (l3 < 0)) → (wp_X6_renew l1 l2 l3 iv rv (fun iv2 => K iv2)))
set_option maxRecDepth 10000 in
theorem cb_X6_weigh_224 {Γ : GX} {n : Nat} {iv : IV} {rv : RV} {K : IV → Prop} {l1 l2 l3 : Int} (X : Cx Γ RX6 cX6_weigh 5 1) (hR : Rt Γ none 0 0 (fV1 n rv K)) (hK : Lk n rv)  (h : bd_X6_weigh_224 l1 l2 l3 iv rv K) : G Γ 5 224 [aR (some 51), aI l1, aI l2, aI l3, aJ] [] n iv rv 0 0 := by
  unfold bd_X6_weigh_224 at h
  refine g_iload_n (q := 225) 3 X dX6_weigh_224 rfl rfl rfl ?_
  refine g_if_lt (q := 228) 235 X dX6_weigh_225 (by decide) rfl (fun c1 => ?_) (fun c1 => ?_)
  · have h := h.1 c1
    exact g_vret (q := 0) X hR dX6_weigh_235 rfl ⟨rfl, rfl, rfl, h⟩
  · have h := h.2 c1
    refine g_aload_n (q := 229) 0 X dX6_weigh_228 rfl rfl rfl ?_
    refine g_iload_n (q := 230) 1 X dX6_weigh_229 rfl rfl rfl ?_
    refine g_iload_n (q := 231) 2 X dX6_weigh_230 rfl rfl rfl ?_
    refine g_iload_n (q := 232) 3 X dX6_weigh_231 rfl rfl rfl ?_
    refine g_cv (q := 235) [aI l1, aI l2, aI l3] 6 X (ce_X6_renew hK  h) kV_X6_98 rfl (by decide) rfl (hK.n (by decide)) rfl rfl (Nat.le_of_ble_eq_true rfl) (by decide) dX6_weigh_232 rfl (fun r n_ iv_ rv_ hf => ?_)
    obtain ⟨en_, er_, rfl, h⟩ := hf; subst n_; subst rv_
    generalize iv_ = iv2 at h ⊢
    exact g_vret (q := 0) X hR dX6_weigh_235 rfl ⟨rfl, rfl, rfl, h⟩
def bd_X6_weigh_181 (P99 : Int → Int → Int → Int → IV → Prop) (l1 l2 l3 l4 : Int) (iv : IV) (rv : RV) (K : IV → Prop) : Prop :=
  P99 l1 l2 l3 (w32 (l4 + 1)) iv
set_option maxRecDepth 10000 in
theorem cb_X6_weigh_181 {Γ : GX} {n : Nat} {iv : IV} {rv : RV} {K : IV → Prop} {P99 : Int → Int → Int → Int → IV → Prop} {l1 l2 l3 l4 : Int} (X : Cx Γ RX6 cX6_weigh 5 1) (hR : Rt Γ none 0 0 (fV1 n rv K)) (hK : Lk n rv)  (hP99 : ∀ (l1' l2' l3' l4' : Int) (iv' : IV), P99 l1' l2' l3' l4' iv' → G Γ 5 99 [aR (some 51), aI (l1'), aI (l2'), aI (l3'), aI (l4')] [] n iv' rv 0 0) (h : bd_X6_weigh_181 P99 l1 l2 l3 l4 iv rv K) : G Γ 5 181 [aR (some 51), aI l1, aI l2, aI l3, aI l4] [] n iv rv 0 0 := by
  unfold bd_X6_weigh_181 at h
  refine g_iinc (q := 184) 4 (L' := [aR (some 51), aI l1, aI l2, aI l3, aI (w32 (l4 + 1))]) X dX6_weigh_181 rfl (by decide) rfl rfl rfl ?_
  refine g_goto (q := 99) X dX6_weigh_184 (by decide) ?_
  exact hP99 _ _ _ _ _ h
def bd_X6_weigh_99 (P99 : Int → Int → Int → Int → IV → Prop) (l1 l2 l3 l4 : Int) (iv : IV) (rv : RV) (K : IV → Prop) : Prop :=
  (((iv (gR rv 51 6 + 1) 8) ≤ l4) → ((((iv 51 12) ≠ l1) → (bd_X6_weigh_224 l1 l2 l3 iv rv K)) ∧ (((iv 51 12) = l1) → ((((iv 51 11) < (iv 51 14)) → (bd_X6_weigh_224 l1 l2 l3 iv rv K)) ∧ ((¬ ((iv 51 11) < (iv 51 14))) → ((((iv 51 14) < l3) → (bd_X6_weigh_224 l1 l2 l3 iv rv K)) ∧ ((¬ ((iv 51 14) < l3)) → (∀ x5, x5 = iv 51 13 → ∀ x6, x6 = iv 51 14 → bd_X6_weigh_224 l1 x5 x6 iv rv K)))))))) ∧ ((¬ ((iv (gR rv 51 6 + 1) 8) ≤ l4)) → ((0 ≤ l4 ∧ l4 < 4) ∧ (((iv (gR rv 51 6 + 14) l4.toNat) ≠ l1) → (bd_X6_weigh_181 P99 l1 l2 l3 l4 iv rv K)) ∧ (((iv (gR rv 51 6 + 14) l4.toNat) = l1) → ((0 ≤ l4 ∧ l4 < 4) ∧ (((iv 51 11) < (iv (gR rv 51 6 + 16) l4.toNat)) → (bd_X6_weigh_181 P99 l1 l2 l3 l4 iv rv K)) ∧ ((¬ ((iv 51 11) < (iv (gR rv 51 6 + 16) l4.toNat))) → ((0 ≤ l4 ∧ l4 < 4) ∧ (((iv (gR rv 51 6 + 16) l4.toNat) < l3) → (bd_X6_weigh_181 P99 l1 l2 l3 l4 iv rv K)) ∧ ((¬ ((iv (gR rv 51 6 + 16) l4.toNat) < l3)) → ((0 ≤ l4 ∧ l4 < 4) ∧ ∀ x14, x14 = iv (gR rv 51 6 + 15) l4.toNat → (0 ≤ l4 ∧ l4 < 4) ∧ ∀ x16, x16 = iv (gR rv 51 6 + 16) l4.toNat → bd_X6_weigh_181 P99 l1 x14 x16 l4 iv rv K))))))))
set_option maxRecDepth 10000 in
theorem cb_X6_weigh_99 {Γ : GX} {n : Nat} {iv : IV} {rv : RV} {K : IV → Prop} {P99 : Int → Int → Int → Int → IV → Prop} {l1 l2 l3 l4 : Int} (X : Cx Γ RX6 cX6_weigh 5 1) (hR : Rt Γ none 0 0 (fV1 n rv K)) (hK : Lk n rv)  (hP99 : ∀ (l1' l2' l3' l4' : Int) (iv' : IV), P99 l1' l2' l3' l4' iv' → G Γ 5 99 [aR (some 51), aI (l1'), aI (l2'), aI (l3'), aI (l4')] [] n iv' rv 0 0) (h : bd_X6_weigh_99 P99 l1 l2 l3 l4 iv rv K) : G Γ 5 99 [aR (some 51), aI l1, aI l2, aI l3, aI l4] [] n iv rv 0 0 := by
  unfold bd_X6_weigh_99 at h
  refine g_iload (q := 101) 4 X dX6_weigh_99 rfl rfl ?_
  refine g_aload_n (q := 102) 0 X dX6_weigh_101 rfl rfl rfl ?_
  refine g_getR (q := 105) (r := some (gR rv 51 6)) 6 6 X hK.2.2.2.2.2.1.2.2.2.2.1 (lt2000 (c := 0) (isR_lt0 hK.2.2.2.2.2.1.2.2.2.2.2)) kf_X6_31 (by decide) (by decide) rfl rfl (hK.n (by decide)) dX6_weigh_102 rfl ?_
  refine g_getR (q := 108) (r := some (gR rv 51 6 + 1)) 5 0 X (lkR_0 hK hK.2.2.2.2.2.1.2.2.2.2.2) (lt2000 (c := 0) (isR_lt hK.2.2.2.2.2.1.2.2.2.2.2 (by decide))) kf_X6_86 (by decide) (by decide) rfl (shR_0 hK.2.2.2.2.2.1.2.2.2.2.2) (isR_n0 hK hK.2.2.2.2.2.1.2.2.2.2.2) dX6_weigh_105 rfl ?_
  refine g_bipush (q := 110) 8 X dX6_weigh_108 rfl bc_8 ic_8 ?_
  refine g_iald (q := 111) X (shR_1 hK.2.2.2.2.2.1.2.2.2.2.2) (isR_n hK hK.2.2.2.2.2.1.2.2.2.2.2 (by decide)) (by decide) dX6_weigh_110 rfl ?_
  refine g_icmp_ge (q := 114) 187 X dX6_weigh_111 (by decide) rfl (fun c1 => ?_) (fun c1 => ?_)
  · have h := h.1 c1
    refine g_aload_n (q := 188) 0 X dX6_weigh_187 rfl rfl rfl ?_
    refine g_getI (q := 191) 6 12 X kf_X6_53 (by decide) (by decide) rfl rfl (hK.n (by decide)) dX6_weigh_188 rfl ?_
    refine g_iload_n (q := 192) 1 X dX6_weigh_191 rfl rfl rfl ?_
    refine g_icmp_ne (q := 195) 224 X dX6_weigh_192 (by decide) rfl (fun c2 => ?_) (fun c2 => ?_)
    · have h := h.1 c2
      refine g_sub (L' := [aR (some 51), aI l1, aI l2, aI l3, aJ]) ⟨Or.inr rfl, Or.inr rfl, Or.inr rfl, Or.inr rfl, Or.inl rfl, trivial⟩ ?_
      exact cb_X6_weigh_224 X hR hK   h
    · have h := h.2 c2
      refine g_aload_n (q := 196) 0 X dX6_weigh_195 rfl rfl rfl ?_
      refine g_getI (q := 199) 6 14 X kf_X6_70 (by decide) (by decide) rfl rfl (hK.n (by decide)) dX6_weigh_196 rfl ?_
      refine g_aload_n (q := 200) 0 X dX6_weigh_199 rfl rfl rfl ?_
      refine g_getI (q := 203) 6 11 X kf_X6_73 (by decide) (by decide) rfl rfl (hK.n (by decide)) dX6_weigh_200 rfl ?_
      refine g_icmp_gt (q := 206) 224 X dX6_weigh_203 (by decide) rfl (fun c3 => ?_) (fun c3 => ?_)
      · have h := h.1 c3
        refine g_sub (L' := [aR (some 51), aI l1, aI l2, aI l3, aJ]) ⟨Or.inr rfl, Or.inr rfl, Or.inr rfl, Or.inr rfl, Or.inl rfl, trivial⟩ ?_
        exact cb_X6_weigh_224 X hR hK   h
      · have h := h.2 c3
        refine g_aload_n (q := 207) 0 X dX6_weigh_206 rfl rfl rfl ?_
        refine g_getI (q := 210) 6 14 X kf_X6_70 (by decide) (by decide) rfl rfl (hK.n (by decide)) dX6_weigh_207 rfl ?_
        refine g_iload_n (q := 211) 3 X dX6_weigh_210 rfl rfl rfl ?_
        refine g_icmp_lt (q := 214) 224 X dX6_weigh_211 (by decide) rfl (fun c4 => ?_) (fun c4 => ?_)
        · have h := h.1 c4
          refine g_sub (L' := [aR (some 51), aI l1, aI l2, aI l3, aJ]) ⟨Or.inr rfl, Or.inr rfl, Or.inr rfl, Or.inr rfl, Or.inl rfl, trivial⟩ ?_
          exact cb_X6_weigh_224 X hR hK   h
        · have h := h.2 c4
          refine g_aload_n (q := 215) 0 X dX6_weigh_214 rfl rfl rfl ?_
          refine g_getI (q := 218) 6 13 X kf_X6_67 (by decide) (by decide) rfl rfl (hK.n (by decide)) dX6_weigh_215 rfl ?_
          refine g_nmI (fun x5 ex5 => ?_)
          have h := h x5 ex5
          refine g_istore_n (q := 219) 2 (L' := [aR (some 51), aI l1, aI x5, aI l3, aI l4]) X dX6_weigh_218 rfl rfl (by decide) rfl rfl ?_
          refine g_aload_n (q := 220) 0 X dX6_weigh_219 rfl rfl rfl ?_
          refine g_getI (q := 223) 6 14 X kf_X6_70 (by decide) (by decide) rfl rfl (hK.n (by decide)) dX6_weigh_220 rfl ?_
          refine g_nmI (fun x6 ex6 => ?_)
          have h := h x6 ex6
          refine g_istore_n (q := 224) 3 (L' := [aR (some 51), aI l1, aI x5, aI x6, aI l4]) X dX6_weigh_223 rfl rfl (by decide) rfl rfl ?_
          refine g_sub (L' := [aR (some 51), aI l1, aI x5, aI x6, aJ]) ⟨Or.inr rfl, Or.inr rfl, Or.inr rfl, Or.inr rfl, Or.inl rfl, trivial⟩ ?_
          exact cb_X6_weigh_224 X hR hK   h
  · have h := h.2 c1
    refine g_aload_n (q := 115) 0 X dX6_weigh_114 rfl rfl rfl ?_
    refine g_getR (q := 118) (r := some (gR rv 51 6)) 6 6 X hK.2.2.2.2.2.1.2.2.2.2.1 (lt2000 (c := 0) (isR_lt0 hK.2.2.2.2.2.1.2.2.2.2.2)) kf_X6_31 (by decide) (by decide) rfl rfl (hK.n (by decide)) dX6_weigh_115 rfl ?_
    refine g_getR (q := 121) (r := some (gR rv 51 6 + 14)) 5 13 X (lkR_13 hK hK.2.2.2.2.2.1.2.2.2.2.2) (lt2000 (c := 0) (isR_lt hK.2.2.2.2.2.1.2.2.2.2.2 (by decide))) kf_X6_89 (by decide) (by decide) rfl (shR_0 hK.2.2.2.2.2.1.2.2.2.2.2) (isR_n0 hK hK.2.2.2.2.2.1.2.2.2.2.2) dX6_weigh_118 rfl ?_
    refine g_iload (q := 123) 4 X dX6_weigh_121 rfl rfl ?_
    obtain ⟨s7, h⟩ := h
    refine g_iald (q := 124) X (shR_14 hK.2.2.2.2.2.1.2.2.2.2.2) (isR_n hK hK.2.2.2.2.2.1.2.2.2.2.2 (by decide)) s7 dX6_weigh_123 rfl ?_
    refine g_iload_n (q := 125) 1 X dX6_weigh_124 rfl rfl rfl ?_
    refine g_icmp_ne (q := 128) 181 X dX6_weigh_125 (by decide) rfl (fun c8 => ?_) (fun c8 => ?_)
    · have h := h.1 c8
      exact cb_X6_weigh_181 X hR hK  hP99 h
    · have h := h.2 c8
      refine g_aload_n (q := 129) 0 X dX6_weigh_128 rfl rfl rfl ?_
      refine g_getR (q := 132) (r := some (gR rv 51 6)) 6 6 X hK.2.2.2.2.2.1.2.2.2.2.1 (lt2000 (c := 0) (isR_lt0 hK.2.2.2.2.2.1.2.2.2.2.2)) kf_X6_31 (by decide) (by decide) rfl rfl (hK.n (by decide)) dX6_weigh_129 rfl ?_
      refine g_getR (q := 135) (r := some (gR rv 51 6 + 16)) 5 15 X (lkR_15 hK hK.2.2.2.2.2.1.2.2.2.2.2) (lt2000 (c := 0) (isR_lt hK.2.2.2.2.2.1.2.2.2.2.2 (by decide))) kf_X6_92 (by decide) (by decide) rfl (shR_0 hK.2.2.2.2.2.1.2.2.2.2.2) (isR_n0 hK hK.2.2.2.2.2.1.2.2.2.2.2) dX6_weigh_132 rfl ?_
      refine g_iload (q := 137) 4 X dX6_weigh_135 rfl rfl ?_
      obtain ⟨s9, h⟩ := h
      refine g_iald (q := 138) X (shR_16 hK.2.2.2.2.2.1.2.2.2.2.2) (isR_n hK hK.2.2.2.2.2.1.2.2.2.2.2 (by decide)) s9 dX6_weigh_137 rfl ?_
      refine g_aload_n (q := 139) 0 X dX6_weigh_138 rfl rfl rfl ?_
      refine g_getI (q := 142) 6 11 X kf_X6_73 (by decide) (by decide) rfl rfl (hK.n (by decide)) dX6_weigh_139 rfl ?_
      refine g_icmp_gt (q := 145) 181 X dX6_weigh_142 (by decide) rfl (fun c10 => ?_) (fun c10 => ?_)
      · have h := h.1 c10
        exact cb_X6_weigh_181 X hR hK  hP99 h
      · have h := h.2 c10
        refine g_aload_n (q := 146) 0 X dX6_weigh_145 rfl rfl rfl ?_
        refine g_getR (q := 149) (r := some (gR rv 51 6)) 6 6 X hK.2.2.2.2.2.1.2.2.2.2.1 (lt2000 (c := 0) (isR_lt0 hK.2.2.2.2.2.1.2.2.2.2.2)) kf_X6_31 (by decide) (by decide) rfl rfl (hK.n (by decide)) dX6_weigh_146 rfl ?_
        refine g_getR (q := 152) (r := some (gR rv 51 6 + 16)) 5 15 X (lkR_15 hK hK.2.2.2.2.2.1.2.2.2.2.2) (lt2000 (c := 0) (isR_lt hK.2.2.2.2.2.1.2.2.2.2.2 (by decide))) kf_X6_92 (by decide) (by decide) rfl (shR_0 hK.2.2.2.2.2.1.2.2.2.2.2) (isR_n0 hK hK.2.2.2.2.2.1.2.2.2.2.2) dX6_weigh_149 rfl ?_
        refine g_iload (q := 154) 4 X dX6_weigh_152 rfl rfl ?_
        obtain ⟨s11, h⟩ := h
        refine g_iald (q := 155) X (shR_16 hK.2.2.2.2.2.1.2.2.2.2.2) (isR_n hK hK.2.2.2.2.2.1.2.2.2.2.2 (by decide)) s11 dX6_weigh_154 rfl ?_
        refine g_iload_n (q := 156) 3 X dX6_weigh_155 rfl rfl rfl ?_
        refine g_icmp_lt (q := 159) 181 X dX6_weigh_156 (by decide) rfl (fun c12 => ?_) (fun c12 => ?_)
        · have h := h.1 c12
          exact cb_X6_weigh_181 X hR hK  hP99 h
        · have h := h.2 c12
          refine g_aload_n (q := 160) 0 X dX6_weigh_159 rfl rfl rfl ?_
          refine g_getR (q := 163) (r := some (gR rv 51 6)) 6 6 X hK.2.2.2.2.2.1.2.2.2.2.1 (lt2000 (c := 0) (isR_lt0 hK.2.2.2.2.2.1.2.2.2.2.2)) kf_X6_31 (by decide) (by decide) rfl rfl (hK.n (by decide)) dX6_weigh_160 rfl ?_
          refine g_getR (q := 166) (r := some (gR rv 51 6 + 15)) 5 14 X (lkR_14 hK hK.2.2.2.2.2.1.2.2.2.2.2) (lt2000 (c := 0) (isR_lt hK.2.2.2.2.2.1.2.2.2.2.2 (by decide))) kf_X6_95 (by decide) (by decide) rfl (shR_0 hK.2.2.2.2.2.1.2.2.2.2.2) (isR_n0 hK hK.2.2.2.2.2.1.2.2.2.2.2) dX6_weigh_163 rfl ?_
          refine g_iload (q := 168) 4 X dX6_weigh_166 rfl rfl ?_
          obtain ⟨s13, h⟩ := h
          refine g_iald (q := 169) X (shR_15 hK.2.2.2.2.2.1.2.2.2.2.2) (isR_n hK hK.2.2.2.2.2.1.2.2.2.2.2 (by decide)) s13 dX6_weigh_168 rfl ?_
          refine g_nmI (fun x14 ex14 => ?_)
          have h := h x14 ex14
          refine g_istore_n (q := 170) 2 (L' := [aR (some 51), aI l1, aI x14, aI l3, aI l4]) X dX6_weigh_169 rfl rfl (by decide) rfl rfl ?_
          refine g_aload_n (q := 171) 0 X dX6_weigh_170 rfl rfl rfl ?_
          refine g_getR (q := 174) (r := some (gR rv 51 6)) 6 6 X hK.2.2.2.2.2.1.2.2.2.2.1 (lt2000 (c := 0) (isR_lt0 hK.2.2.2.2.2.1.2.2.2.2.2)) kf_X6_31 (by decide) (by decide) rfl rfl (hK.n (by decide)) dX6_weigh_171 rfl ?_
          refine g_getR (q := 177) (r := some (gR rv 51 6 + 16)) 5 15 X (lkR_15 hK hK.2.2.2.2.2.1.2.2.2.2.2) (lt2000 (c := 0) (isR_lt hK.2.2.2.2.2.1.2.2.2.2.2 (by decide))) kf_X6_92 (by decide) (by decide) rfl (shR_0 hK.2.2.2.2.2.1.2.2.2.2.2) (isR_n0 hK hK.2.2.2.2.2.1.2.2.2.2.2) dX6_weigh_174 rfl ?_
          refine g_iload (q := 179) 4 X dX6_weigh_177 rfl rfl ?_
          obtain ⟨s15, h⟩ := h
          refine g_iald (q := 180) X (shR_16 hK.2.2.2.2.2.1.2.2.2.2.2) (isR_n hK hK.2.2.2.2.2.1.2.2.2.2.2 (by decide)) s15 dX6_weigh_179 rfl ?_
          refine g_nmI (fun x16 ex16 => ?_)
          have h := h x16 ex16
          refine g_istore_n (q := 181) 3 (L' := [aR (some 51), aI l1, aI x14, aI x16, aI l4]) X dX6_weigh_180 rfl rfl (by decide) rfl rfl ?_
          exact cb_X6_weigh_181 X hR hK  hP99 h
def wl_X6_weigh_99 (l1 l2 l3 l4 : Int) (iv : IV) (rv : RV) (K : IV → Prop) : Prop :=
  ∀ P : Int → Int → Int → Int → IV → Prop, (∀ (l1' l2' l3' l4' : Int) (iv' : IV), bd_X6_weigh_99  P l1' l2' l3' l4' iv' rv K → P l1' l2' l3' l4' iv') → P l1 l2 l3 l4 iv
theorem cl_X6_weigh_99 {Γ : GX} {n : Nat} {iv : IV} {rv : RV} {K : IV → Prop} {l1 l2 l3 l4 : Int} (X : Cx Γ RX6 cX6_weigh 5 1) (hR : Rt Γ none 0 0 (fV1 n rv K)) (hK : Lk n rv)  (h : wl_X6_weigh_99 l1 l2 l3 l4 iv rv K) : G Γ 5 99 [aR (some 51), aI l1, aI l2, aI l3, aI l4] [] n iv rv 0 0 := by
  exact h (fun l1' l2' l3' l4' iv' =>  G Γ 5 99 [aR (some 51), aI (l1'), aI (l2'), aI (l3'), aI (l4')] [] n iv' rv 0 0) (fun l1' l2' l3' l4' iv' hb => cb_X6_weigh_99 X hR hK   (fun l1' l2' l3' l4' iv' hp => hp) hb)
def bd_X6_weigh_49 (l1 t0 t1 : Int) (iv : IV) (rv : RV) (K : IV → Prop) : Prop :=
  (0 ≤ t1 ∧ t1 < 16) ∧ (t0 = 0 ∨ t0 = 1) ∧ ∀ iv3, iv3 = w2 iv 54 t1.toNat t0 → (0 ≤ l1 ∧ l1 < 16) ∧ (0 ≤ l1 ∧ l1 < 16) ∧ ∀ iv6, iv6 = w2 iv3 55 l1.toNat (iv3 52 l1.toNat) → (0 ≤ l1 ∧ l1 < 16) ∧ (0 ≤ l1 ∧ l1 < 16) ∧ ∀ iv9, iv9 = w2 iv6 56 l1.toNat (iv6 (gR rv 51 6 + 12) l1.toNat) → (0 ≤ l1 ∧ l1 < 16) ∧ (0 ≤ l1 ∧ l1 < 16) ∧ ∀ iv12, iv12 = w2 iv9 57 l1.toNat (iv9 (gR rv 51 6 + 13) l1.toNat) → wl_X6_weigh_99 l1 (-1) (-1) 0 iv12 rv K
set_option maxRecDepth 10000 in
theorem cb_X6_weigh_49 {Γ : GX} {n : Nat} {iv : IV} {rv : RV} {K : IV → Prop} {l1 t0 t1 : Int} (X : Cx Γ RX6 cX6_weigh 5 1) (hR : Rt Γ none 0 0 (fV1 n rv K)) (hK : Lk n rv)  (h : bd_X6_weigh_49 l1 t0 t1 iv rv K) : G Γ 5 49 [aR (some 51), aI l1, aJ, aJ, aJ] [aI t0, aI t1, aR (some 54)] n iv rv 0 0 := by
  unfold bd_X6_weigh_49 at h
  obtain ⟨s1, h⟩ := h
  obtain ⟨s2, h⟩ := h
  refine g_zast (q := 50) X rfl (hK.n (by decide)) s1 s2 dX6_weigh_49 rfl ?_
  refine g_nmM (fun iv3 eiv3 => ?_)
  have h := h iv3 eiv3
  refine g_aload_n (q := 51) 0 X dX6_weigh_50 rfl rfl rfl ?_
  refine g_getR (q := 54) (r := some 55) 6 3 X (lk_51_3 hK) (lt2000 (c := 0) (by decide)) kf_X6_22 (by decide) (by decide) rfl rfl (hK.n (by decide)) dX6_weigh_51 rfl ?_
  refine g_iload_n (q := 55) 1 X dX6_weigh_54 rfl rfl rfl ?_
  refine g_aload_n (q := 56) 0 X dX6_weigh_55 rfl rfl rfl ?_
  refine g_getR (q := 59) (r := some 52) 6 0 X (lk_51_0 hK) (lt2000 (c := 0) (by decide)) kf_X6_9 (by decide) (by decide) rfl rfl (hK.n (by decide)) dX6_weigh_56 rfl ?_
  refine g_iload_n (q := 60) 1 X dX6_weigh_59 rfl rfl rfl ?_
  obtain ⟨s4, h⟩ := h
  refine g_iald (q := 61) X rfl (hK.n (by decide)) s4 dX6_weigh_60 rfl ?_
  obtain ⟨s5, h⟩ := h
  refine g_iast (q := 62) X rfl (hK.n (by decide)) s5 dX6_weigh_61 rfl ?_
  refine g_nmM (fun iv6 eiv6 => ?_)
  have h := h iv6 eiv6
  refine g_aload_n (q := 63) 0 X dX6_weigh_62 rfl rfl rfl ?_
  refine g_getR (q := 66) (r := some 56) 6 4 X (lk_51_4 hK) (lt2000 (c := 0) (by decide)) kf_X6_25 (by decide) (by decide) rfl rfl (hK.n (by decide)) dX6_weigh_63 rfl ?_
  refine g_iload_n (q := 67) 1 X dX6_weigh_66 rfl rfl rfl ?_
  refine g_aload_n (q := 68) 0 X dX6_weigh_67 rfl rfl rfl ?_
  refine g_getR (q := 71) (r := some (gR rv 51 6)) 6 6 X hK.2.2.2.2.2.1.2.2.2.2.1 (lt2000 (c := 0) (isR_lt0 hK.2.2.2.2.2.1.2.2.2.2.2)) kf_X6_31 (by decide) (by decide) rfl rfl (hK.n (by decide)) dX6_weigh_68 rfl ?_
  refine g_getR (q := 74) (r := some (gR rv 51 6 + 12)) 5 11 X (lkR_11 hK hK.2.2.2.2.2.1.2.2.2.2.2) (lt2000 (c := 0) (isR_lt hK.2.2.2.2.2.1.2.2.2.2.2 (by decide))) kf_X6_84 (by decide) (by decide) rfl (shR_0 hK.2.2.2.2.2.1.2.2.2.2.2) (isR_n0 hK hK.2.2.2.2.2.1.2.2.2.2.2) dX6_weigh_71 rfl ?_
  refine g_iload_n (q := 75) 1 X dX6_weigh_74 rfl rfl rfl ?_
  obtain ⟨s7, h⟩ := h
  refine g_iald (q := 76) X (shR_12 hK.2.2.2.2.2.1.2.2.2.2.2) (isR_n hK hK.2.2.2.2.2.1.2.2.2.2.2 (by decide)) s7 dX6_weigh_75 rfl ?_
  obtain ⟨s8, h⟩ := h
  refine g_iast (q := 77) X rfl (hK.n (by decide)) s8 dX6_weigh_76 rfl ?_
  refine g_nmM (fun iv9 eiv9 => ?_)
  have h := h iv9 eiv9
  refine g_aload_n (q := 78) 0 X dX6_weigh_77 rfl rfl rfl ?_
  refine g_getR (q := 81) (r := some 57) 6 5 X (lk_51_5 hK) (lt2000 (c := 0) (by decide)) kf_X6_28 (by decide) (by decide) rfl rfl (hK.n (by decide)) dX6_weigh_78 rfl ?_
  refine g_iload_n (q := 82) 1 X dX6_weigh_81 rfl rfl rfl ?_
  refine g_aload_n (q := 83) 0 X dX6_weigh_82 rfl rfl rfl ?_
  refine g_getR (q := 86) (r := some (gR rv 51 6)) 6 6 X hK.2.2.2.2.2.1.2.2.2.2.1 (lt2000 (c := 0) (isR_lt0 hK.2.2.2.2.2.1.2.2.2.2.2)) kf_X6_31 (by decide) (by decide) rfl rfl (hK.n (by decide)) dX6_weigh_83 rfl ?_
  refine g_getR (q := 89) (r := some (gR rv 51 6 + 13)) 5 12 X (lkR_12 hK hK.2.2.2.2.2.1.2.2.2.2.2) (lt2000 (c := 0) (isR_lt hK.2.2.2.2.2.1.2.2.2.2.2 (by decide))) kf_X6_85 (by decide) (by decide) rfl (shR_0 hK.2.2.2.2.2.1.2.2.2.2.2) (isR_n0 hK hK.2.2.2.2.2.1.2.2.2.2.2) dX6_weigh_86 rfl ?_
  refine g_iload_n (q := 90) 1 X dX6_weigh_89 rfl rfl rfl ?_
  obtain ⟨s10, h⟩ := h
  refine g_iald (q := 91) X (shR_13 hK.2.2.2.2.2.1.2.2.2.2.2) (isR_n hK hK.2.2.2.2.2.1.2.2.2.2.2 (by decide)) s10 dX6_weigh_90 rfl ?_
  obtain ⟨s11, h⟩ := h
  refine g_iast (q := 92) X rfl (hK.n (by decide)) s11 dX6_weigh_91 rfl ?_
  refine g_nmM (fun iv12 eiv12 => ?_)
  have h := h iv12 eiv12
  refine g_iconst (q := 93) (-1) X dX6_weigh_92 rfl rfl ic_m1 ?_
  refine g_istore_n (q := 94) 2 (L' := [aR (some 51), aI l1, aI (-1), aJ, aJ]) X dX6_weigh_93 rfl rfl (by decide) rfl rfl ?_
  refine g_iconst (q := 95) (-1) X dX6_weigh_94 rfl rfl ic_m1 ?_
  refine g_istore_n (q := 96) 3 (L' := [aR (some 51), aI l1, aI (-1), aI (-1), aJ]) X dX6_weigh_95 rfl rfl (by decide) rfl rfl ?_
  refine g_iconst (q := 97) 0 X dX6_weigh_96 rfl rfl ic_0 ?_
  refine g_istore (q := 99) (k0 := 0) 4 (L' := [aR (some 51), aI l1, aI (-1), aI (-1), aI 0]) X dX6_weigh_97 rfl (by decide) rfl rfl ?_
  exact cl_X6_weigh_99 X hR hK   h
def bd_X6_weigh_48 (l1 t0 : Int) (iv : IV) (rv : RV) (K : IV → Prop) : Prop :=
  bd_X6_weigh_49 l1 0 t0 iv rv K
set_option maxRecDepth 10000 in
theorem cb_X6_weigh_48 {Γ : GX} {n : Nat} {iv : IV} {rv : RV} {K : IV → Prop} {l1 t0 : Int} (X : Cx Γ RX6 cX6_weigh 5 1) (hR : Rt Γ none 0 0 (fV1 n rv K)) (hK : Lk n rv)  (h : bd_X6_weigh_48 l1 t0 iv rv K) : G Γ 5 48 [aR (some 51), aI l1, aJ, aJ, aJ] [aI t0, aR (some 54)] n iv rv 0 0 := by
  unfold bd_X6_weigh_48 at h
  refine g_iconst (q := 49) 0 X dX6_weigh_48 rfl rfl ic_0 ?_
  exact cb_X6_weigh_49 X hR hK   h
def bd_X6_weigh_44 (l1 t0 : Int) (iv : IV) (rv : RV) (K : IV → Prop) : Prop :=
  bd_X6_weigh_49 l1 1 t0 iv rv K
set_option maxRecDepth 10000 in
theorem cb_X6_weigh_44 {Γ : GX} {n : Nat} {iv : IV} {rv : RV} {K : IV → Prop} {l1 t0 : Int} (X : Cx Γ RX6 cX6_weigh 5 1) (hR : Rt Γ none 0 0 (fV1 n rv K)) (hK : Lk n rv)  (h : bd_X6_weigh_44 l1 t0 iv rv K) : G Γ 5 44 [aR (some 51), aI l1, aJ, aJ, aJ] [aI t0, aR (some 54)] n iv rv 0 0 := by
  unfold bd_X6_weigh_44 at h
  refine g_iconst (q := 45) 1 X dX6_weigh_44 rfl rfl ic_1 ?_
  refine g_goto (q := 49) X dX6_weigh_45 (by decide) ?_
  exact cb_X6_weigh_49 X hR hK   h
def wp_X6_weigh (a1 : Int) (iv : IV) (rv : RV) (K : IV → Prop) : Prop :=
  (0 ≤ a1 ∧ a1 < 16) ∧ (((iv 51 11) < (iv 52 a1.toNat)) → (bd_X6_weigh_48 a1 a1 iv rv K)) ∧ ((¬ ((iv 51 11) < (iv 52 a1.toNat))) → ((0 ≤ a1 ∧ a1 < 16) ∧ (((iv 53 a1.toNat) = 0) → (bd_X6_weigh_44 a1 a1 iv rv K)) ∧ ((¬ ((iv 53 a1.toNat) = 0)) → ((0 ≤ a1 ∧ a1 < 16) ∧ (((iv 53 a1.toNat) ≠ 2) → (bd_X6_weigh_48 a1 a1 iv rv K)) ∧ (((iv 53 a1.toNat) = 2) → ((((iv 51 10) = 0) → (bd_X6_weigh_48 a1 a1 iv rv K)) ∧ ((¬ ((iv 51 10) = 0)) → (bd_X6_weigh_44 a1 a1 iv rv K))))))))
set_option maxRecDepth 10000 in
theorem ce_X6_weigh {n : Nat} {iv : IV} {rv : RV} {K : IV → Prop} {a1 : Int} (hK : Lk n rv)  (h : wp_X6_weigh a1 iv rv K) : Call 1 0 0 yX6_weigh cX6_weigh 5 none [aR (some 51), aI a1] n iv rv (fV1 n rv K) := by
  refine Call.by (L := [aR (some 51), aI a1, aJ, aJ, aJ]) (by decide) rfl ⟨trivial, trivial, trivial⟩ rfl (Nat.le_of_ble_eq_true rfl) (fun Γ X hR => ?_)
  unfold wp_X6_weigh at h
  refine g_aload_n (q := 1) 0 X dX6_weigh_0 rfl rfl rfl ?_
  refine g_getR (q := 4) (r := some 54) 6 2 X (lk_51_2 hK) (lt2000 (c := 0) (by decide)) kf_X6_18 (by decide) (by decide) rfl rfl (hK.n (by decide)) dX6_weigh_1 rfl ?_
  refine g_iload_n (q := 5) 1 X dX6_weigh_4 rfl rfl rfl ?_
  refine g_aload_n (q := 6) 0 X dX6_weigh_5 rfl rfl rfl ?_
  refine g_getR (q := 9) (r := some 52) 6 0 X (lk_51_0 hK) (lt2000 (c := 0) (by decide)) kf_X6_9 (by decide) (by decide) rfl rfl (hK.n (by decide)) dX6_weigh_6 rfl ?_
  refine g_iload_n (q := 10) 1 X dX6_weigh_9 rfl rfl rfl ?_
  obtain ⟨s1, h⟩ := h
  refine g_iald (q := 11) X rfl (hK.n (by decide)) s1 dX6_weigh_10 rfl ?_
  refine g_aload_n (q := 12) 0 X dX6_weigh_11 rfl rfl rfl ?_
  refine g_getI (q := 15) 6 11 X kf_X6_73 (by decide) (by decide) rfl rfl (hK.n (by decide)) dX6_weigh_12 rfl ?_
  refine g_icmp_gt (q := 18) 48 X dX6_weigh_15 (by decide) rfl (fun c2 => ?_) (fun c2 => ?_)
  · have h := h.1 c2
    exact cb_X6_weigh_48 X hR hK   h
  · have h := h.2 c2
    refine g_aload_n (q := 19) 0 X dX6_weigh_18 rfl rfl rfl ?_
    refine g_getR (q := 22) (r := some 53) 6 1 X (lk_51_1 hK) (lt2000 (c := 0) (by decide)) kf_X6_15 (by decide) (by decide) rfl rfl (hK.n (by decide)) dX6_weigh_19 rfl ?_
    refine g_iload_n (q := 23) 1 X dX6_weigh_22 rfl rfl rfl ?_
    obtain ⟨s3, h⟩ := h
    refine g_iald (q := 24) X rfl (hK.n (by decide)) s3 dX6_weigh_23 rfl ?_
    refine g_if_eq (q := 27) 44 X dX6_weigh_24 (by decide) rfl (fun c4 => ?_) (fun c4 => ?_)
    · have h := h.1 c4
      exact cb_X6_weigh_44 X hR hK   h
    · have h := h.2 c4
      refine g_aload_n (q := 28) 0 X dX6_weigh_27 rfl rfl rfl ?_
      refine g_getR (q := 31) (r := some 53) 6 1 X (lk_51_1 hK) (lt2000 (c := 0) (by decide)) kf_X6_15 (by decide) (by decide) rfl rfl (hK.n (by decide)) dX6_weigh_28 rfl ?_
      refine g_iload_n (q := 32) 1 X dX6_weigh_31 rfl rfl rfl ?_
      obtain ⟨s5, h⟩ := h
      refine g_iald (q := 33) X rfl (hK.n (by decide)) s5 dX6_weigh_32 rfl ?_
      refine g_iconst (q := 34) 2 X dX6_weigh_33 rfl rfl ic_2 ?_
      refine g_icmp_ne (q := 37) 48 X dX6_weigh_34 (by decide) rfl (fun c6 => ?_) (fun c6 => ?_)
      · have h := h.1 c6
        exact cb_X6_weigh_48 X hR hK   h
      · have h := h.2 c6
        refine g_aload_n (q := 38) 0 X dX6_weigh_37 rfl rfl rfl ?_
        refine g_getI (q := 41) 6 10 X kf_X6_50 (by decide) (by decide) rfl rfl (hK.n (by decide)) dX6_weigh_38 rfl ?_
        refine g_if_eq (q := 44) 48 X dX6_weigh_41 (by decide) rfl (fun c7 => ?_) (fun c7 => ?_)
        · have h := h.1 c7
          exact cb_X6_weigh_48 X hR hK   h
        · have h := h.2 c7
          exact cb_X6_weigh_44 X hR hK   h
def bd_X6_sit_29 (P7 : Int → IV → Prop) (l2 : Int) (iv : IV) (rv : RV) (K : IV → Prop) : Prop :=
  P7 (w32 (l2 + 1)) iv
set_option maxRecDepth 10000 in
theorem cb_X6_sit_29 {Γ : GX} {n : Nat} {iv : IV} {rv : RV} {K : IV → Prop} {P7 : Int → IV → Prop} {l2 : Int} (X : Cx Γ RX6 cX6_sit 3 2) (hR : Rt Γ none 0 0 (fV1 n rv K)) (hK : Lk n rv)  (hP7 : ∀ (l2' : Int) (iv' : IV), P7 l2' iv' → G Γ 3 7 [aR (some 51), aJ, aI (l2')] [] n iv' rv 0 0) (h : bd_X6_sit_29 P7 l2 iv rv K) : G Γ 3 29 [aR (some 51), aJ, aI l2] [] n iv rv 0 0 := by
  unfold bd_X6_sit_29 at h
  refine g_iinc (q := 32) 2 (L' := [aR (some 51), aJ, aI (w32 (l2 + 1))]) X dX6_sit_29 rfl (by decide) rfl rfl rfl ?_
  refine g_goto (q := 7) X dX6_sit_32 (by decide) ?_
  exact hP7 _ _ h
def bd_X6_sit_7 (P7 : Int → IV → Prop) (l2 : Int) (iv : IV) (rv : RV) (K : IV → Prop) : Prop :=
  ((16 ≤ l2) → (K iv)) ∧ ((¬ (16 ≤ l2)) → (wp_X5_hasGrant (gR rv 51 6) l2 iv rv (fun r2 => ((r2 = 0) → (bd_X6_sit_29 P7 l2 iv rv K)) ∧ ((¬ (r2 = 0)) → (wp_X6_weigh l2 iv rv (fun iv4 => bd_X6_sit_29 P7 l2 iv4 rv K))))))
set_option maxRecDepth 10000 in
theorem cb_X6_sit_7 {Γ : GX} {n : Nat} {iv : IV} {rv : RV} {K : IV → Prop} {P7 : Int → IV → Prop} {l2 : Int} (X : Cx Γ RX6 cX6_sit 3 2) (hR : Rt Γ none 0 0 (fV1 n rv K)) (hK : Lk n rv)  (hP7 : ∀ (l2' : Int) (iv' : IV), P7 l2' iv' → G Γ 3 7 [aR (some 51), aJ, aI (l2')] [] n iv' rv 0 0) (h : bd_X6_sit_7 P7 l2 iv rv K) : G Γ 3 7 [aR (some 51), aJ, aI l2] [] n iv rv 0 0 := by
  unfold bd_X6_sit_7 at h
  refine g_iload_n (q := 8) 2 X dX6_sit_7 rfl rfl rfl ?_
  refine g_bipush (q := 10) 16 X dX6_sit_8 rfl bc_16 ic_16 ?_
  refine g_icmp_ge (q := 13) 35 X dX6_sit_10 (by decide) rfl (fun c1 => ?_) (fun c1 => ?_)
  · have h := h.1 c1
    exact g_vret (q := 0) X hR dX6_sit_35 rfl ⟨rfl, rfl, rfl, h⟩
  · have h := h.2 c1
    refine g_aload_n (q := 14) 0 X dX6_sit_13 rfl rfl rfl ?_
    refine g_getR (q := 17) (r := some (gR rv 51 6)) 6 6 X hK.2.2.2.2.2.1.2.2.2.2.1 (lt2000 (c := 0) (isR_lt0 hK.2.2.2.2.2.1.2.2.2.2.2)) kf_X6_31 (by decide) (by decide) rfl rfl (hK.n (by decide)) dX6_sit_14 rfl ?_
    refine g_iload_n (q := 18) 2 X dX6_sit_17 rfl rfl rfl ?_
    refine g_cv (q := 21) [aI l2] 5 X (ce_X5_hasGrant hK hK.2.2.2.2.2.1.2.2.2.2.2 h) kV_X6_76 rfl (by decide) (shR_0 hK.2.2.2.2.2.1.2.2.2.2.2) (isR_n0 hK hK.2.2.2.2.2.1.2.2.2.2.2) rfl rfl (Nat.le_of_ble_eq_true rfl) (by decide) dX6_sit_18 rfl (fun r n_ iv_ rv_ hf => ?_)
    obtain ⟨en_, ei_, er_, r2, rfl, br2, h⟩ := hf; subst n_; subst iv_; subst rv_
    refine g_if_eq (q := 24) 29 X dX6_sit_21 (by decide) rfl (fun c3 => ?_) (fun c3 => ?_)
    · have h := h.1 c3
      exact cb_X6_sit_29 X hR hK  hP7 h
    · have h := h.2 c3
      refine g_aload_n (q := 25) 0 X dX6_sit_24 rfl rfl rfl ?_
      refine g_iload_n (q := 26) 2 X dX6_sit_25 rfl rfl rfl ?_
      refine g_cv (q := 29) [aI l2] 6 X (ce_X6_weigh hK  h) kV_X6_80 rfl (by decide) rfl (hK.n (by decide)) rfl rfl (Nat.le_of_ble_eq_true rfl) (by decide) dX6_sit_26 rfl (fun r n_ iv_ rv_ hf => ?_)
      obtain ⟨en_, er_, rfl, h⟩ := hf; subst n_; subst rv_
      generalize iv_ = iv4 at h ⊢
      exact cb_X6_sit_29 X hR hK  hP7 h
def wl_X6_sit_7 (l2 : Int) (iv : IV) (rv : RV) (K : IV → Prop) : Prop :=
  ∀ P : Int → IV → Prop, (∀ (l2' : Int) (iv' : IV), bd_X6_sit_7  P l2' iv' rv K → P l2' iv') → P l2 iv
theorem cl_X6_sit_7 {Γ : GX} {n : Nat} {iv : IV} {rv : RV} {K : IV → Prop} {l2 : Int} (X : Cx Γ RX6 cX6_sit 3 2) (hR : Rt Γ none 0 0 (fV1 n rv K)) (hK : Lk n rv)  (h : wl_X6_sit_7 l2 iv rv K) : G Γ 3 7 [aR (some 51), aJ, aI l2] [] n iv rv 0 0 := by
  exact h (fun l2' iv' =>  G Γ 3 7 [aR (some 51), aJ, aI (l2')] [] n iv' rv 0 0) (fun l2' iv' hb => cb_X6_sit_7 X hR hK   (fun l2' iv' hp => hp) hb)
def wp_X6_sit (a1 : Int) (iv : IV) (rv : RV) (K : IV → Prop) : Prop :=
  ∀ iv1, iv1 = w2 iv 51 11 a1 → wl_X6_sit_7 0 iv1 rv K
set_option maxRecDepth 10000 in
theorem ce_X6_sit {n : Nat} {iv : IV} {rv : RV} {K : IV → Prop} {a1 : Int} (hK : Lk n rv)  (h : wp_X6_sit a1 iv rv K) : Call 2 0 0 yX6_sit cX6_sit 3 none [aR (some 51), aI a1] n iv rv (fV1 n rv K) := by
  refine Call.by (L := [aR (some 51), aI a1, aJ]) (by decide) rfl ⟨trivial, trivial, trivial⟩ rfl (Nat.le_of_ble_eq_true rfl) (fun Γ X hR => ?_)
  unfold wp_X6_sit at h
  refine g_aload_n (q := 1) 0 X dX6_sit_0 rfl rfl rfl ?_
  refine g_iload_n (q := 2) 1 X dX6_sit_1 rfl rfl rfl ?_
  refine g_putI (q := 5) 6 11 X (Or.inl rfl) rfl kf_X6_73 (by decide) (by decide) rfl (hK.n (by decide)) dX6_sit_2 rfl ?_
  refine g_nmM (fun iv1 eiv1 => ?_)
  have h := h iv1 eiv1
  refine g_iconst (q := 6) 0 X dX6_sit_5 rfl rfl ic_0 ?_
  refine g_istore_n (q := 7) 2 (L' := [aR (some 51), aI a1, aI 0]) X dX6_sit_6 rfl rfl (by decide) rfl rfl ?_
  refine g_sub (L' := [aR (some 51), aJ, aI 0]) ⟨Or.inr rfl, Or.inl rfl, Or.inr rfl, trivial⟩ ?_
  exact cl_X6_sit_7 X hR hK   h
def bd_X6_nextChoice_89 (P2 : Int → IV → Prop) (l1 l2 : Int) (iv : IV) (rv : RV) (K : Int → IV → Prop) : Prop :=
  ((l2 = 0) → (P2 (w32 (l1 + 1)) iv)) ∧ ((¬ (l2 = 0)) → (K 1 iv))
set_option maxRecDepth 10000 in
theorem cb_X6_nextChoice_89 {Γ : GX} {n : Nat} {iv : IV} {rv : RV} {K : Int → IV → Prop} {P2 : Int → IV → Prop} {l1 l2 : Int} (X : Cx Γ RX6 cX6_nextChoice 3 2) (hR : Rt Γ (some .boolean) 0 0 (fB1 n rv K)) (hK : Lk n rv)  (hP2 : ∀ (l1' : Int) (iv' : IV), P2 l1' iv' → G Γ 3 2 [aR (some 51), aI (l1'), aJ] [] n iv' rv 0 0) (h : bd_X6_nextChoice_89 P2 l1 l2 iv rv K) : G Γ 3 89 [aR (some 51), aI l1, aI l2] [] n iv rv 0 0 := by
  unfold bd_X6_nextChoice_89 at h
  refine g_iload_n (q := 90) 2 X dX6_nextChoice_89 rfl rfl rfl ?_
  refine g_if_eq (q := 93) 95 X dX6_nextChoice_90 (by decide) rfl (fun c1 => ?_) (fun c1 => ?_)
  · have h := h.1 c1
    refine g_iinc (q := 98) 1 (L' := [aR (some 51), aI (w32 (l1 + 1)), aI l2]) X dX6_nextChoice_95 rfl (by decide) rfl rfl rfl ?_
    refine g_goto (q := 2) X dX6_nextChoice_98 (by decide) ?_
    refine g_sub (L' := [aR (some 51), aI (w32 (l1 + 1)), aJ]) ⟨Or.inr rfl, Or.inr rfl, Or.inl rfl, trivial⟩ ?_
    exact hP2 _ _ h
  · have h := h.2 c1
    refine g_iconst (q := 94) 1 X dX6_nextChoice_93 rfl rfl ic_1 ?_
    exact g_zret (q := 0) .boolean X hR (nar_B (Or.inr rfl)) dX6_nextChoice_94 rfl ⟨rfl, rfl, _, rfl, (Or.inr rfl), h⟩
def bd_X6_nextChoice_83 (P2 : Int → IV → Prop) (l1 l2 t0 t1 : Int) (iv : IV) (rv : RV) (K : Int → IV → Prop) : Prop :=
  (0 ≤ t1 ∧ t1 < 16) ∧ ∀ iv2, iv2 = w2 iv 52 t1.toNat t0 → wp_X6_weigh l1 iv2 rv (fun iv3 => bd_X6_nextChoice_89 P2 l1 l2 iv3 rv K)
set_option maxRecDepth 10000 in
theorem cb_X6_nextChoice_83 {Γ : GX} {n : Nat} {iv : IV} {rv : RV} {K : Int → IV → Prop} {P2 : Int → IV → Prop} {l1 l2 t0 t1 : Int} (X : Cx Γ RX6 cX6_nextChoice 3 2) (hR : Rt Γ (some .boolean) 0 0 (fB1 n rv K)) (hK : Lk n rv)  (hP2 : ∀ (l1' : Int) (iv' : IV), P2 l1' iv' → G Γ 3 2 [aR (some 51), aI (l1'), aJ] [] n iv' rv 0 0) (h : bd_X6_nextChoice_83 P2 l1 l2 t0 t1 iv rv K) : G Γ 3 83 [aR (some 51), aI l1, aI l2] [aI t0, aI t1, aR (some 52)] n iv rv 0 0 := by
  unfold bd_X6_nextChoice_83 at h
  obtain ⟨s1, h⟩ := h
  refine g_iast (q := 84) X rfl (hK.n (by decide)) s1 dX6_nextChoice_83 rfl ?_
  refine g_nmM (fun iv2 eiv2 => ?_)
  have h := h iv2 eiv2
  refine g_aload_n (q := 85) 0 X dX6_nextChoice_84 rfl rfl rfl ?_
  refine g_iload_n (q := 86) 1 X dX6_nextChoice_85 rfl rfl rfl ?_
  refine g_cv (q := 89) [aI l1] 6 X (ce_X6_weigh hK  h) kV_X6_80 rfl (by decide) rfl (hK.n (by decide)) rfl rfl (Nat.le_of_ble_eq_true rfl) (by decide) dX6_nextChoice_86 rfl (fun r n_ iv_ rv_ hf => ?_)
  obtain ⟨en_, er_, rfl, h⟩ := hf; subst n_; subst rv_
  generalize iv_ = iv3 at h ⊢
  exact cb_X6_nextChoice_89 X hR hK  hP2 h
def bd_X6_nextChoice_54 (P2 : Int → IV → Prop) (l1 l2 : Int) (iv : IV) (rv : RV) (K : Int → IV → Prop) : Prop :=
  ((l2 = 0) → ((0 ≤ l1 ∧ l1 < 16) ∧ bd_X6_nextChoice_83 P2 l1 l2 (iv (gR rv 51 6 + 8) l1.toNat) l1 iv rv K)) ∧ ((¬ (l2 = 0)) → ((0 ≤ l1 ∧ l1 < 16) ∧ bd_X6_nextChoice_83 P2 l1 l2 (w32 ((iv 52 l1.toNat) + 1)) l1 iv rv K))
set_option maxRecDepth 10000 in
theorem cb_X6_nextChoice_54 {Γ : GX} {n : Nat} {iv : IV} {rv : RV} {K : Int → IV → Prop} {P2 : Int → IV → Prop} {l1 l2 : Int} (X : Cx Γ RX6 cX6_nextChoice 3 2) (hR : Rt Γ (some .boolean) 0 0 (fB1 n rv K)) (hK : Lk n rv)  (hP2 : ∀ (l1' : Int) (iv' : IV), P2 l1' iv' → G Γ 3 2 [aR (some 51), aI (l1'), aJ] [] n iv' rv 0 0) (h : bd_X6_nextChoice_54 P2 l1 l2 iv rv K) : G Γ 3 54 [aR (some 51), aI l1, aI l2] [] n iv rv 0 0 := by
  unfold bd_X6_nextChoice_54 at h
  refine g_aload_n (q := 55) 0 X dX6_nextChoice_54 rfl rfl rfl ?_
  refine g_getR (q := 58) (r := some 52) 6 0 X (lk_51_0 hK) (lt2000 (c := 0) (by decide)) kf_X6_9 (by decide) (by decide) rfl rfl (hK.n (by decide)) dX6_nextChoice_55 rfl ?_
  refine g_iload_n (q := 59) 1 X dX6_nextChoice_58 rfl rfl rfl ?_
  refine g_iload_n (q := 60) 2 X dX6_nextChoice_59 rfl rfl rfl ?_
  refine g_if_eq (q := 63) 74 X dX6_nextChoice_60 (by decide) rfl (fun c1 => ?_) (fun c1 => ?_)
  · have h := h.1 c1
    refine g_aload_n (q := 75) 0 X dX6_nextChoice_74 rfl rfl rfl ?_
    refine g_getR (q := 78) (r := some (gR rv 51 6)) 6 6 X hK.2.2.2.2.2.1.2.2.2.2.1 (lt2000 (c := 0) (isR_lt0 hK.2.2.2.2.2.1.2.2.2.2.2)) kf_X6_31 (by decide) (by decide) rfl rfl (hK.n (by decide)) dX6_nextChoice_75 rfl ?_
    refine g_getR (q := 81) (r := some (gR rv 51 6 + 8)) 5 7 X (lkR_7 hK hK.2.2.2.2.2.1.2.2.2.2.2) (lt2000 (c := 0) (isR_lt hK.2.2.2.2.2.1.2.2.2.2.2 (by decide))) kf_X6_57 (by decide) (by decide) rfl (shR_0 hK.2.2.2.2.2.1.2.2.2.2.2) (isR_n0 hK hK.2.2.2.2.2.1.2.2.2.2.2) dX6_nextChoice_78 rfl ?_
    refine g_iload_n (q := 82) 1 X dX6_nextChoice_81 rfl rfl rfl ?_
    obtain ⟨s2, h⟩ := h
    refine g_iald (q := 83) X (shR_8 hK.2.2.2.2.2.1.2.2.2.2.2) (isR_n hK hK.2.2.2.2.2.1.2.2.2.2.2 (by decide)) s2 dX6_nextChoice_82 rfl ?_
    exact cb_X6_nextChoice_83 X hR hK  hP2 h
  · have h := h.2 c1
    refine g_aload_n (q := 64) 0 X dX6_nextChoice_63 rfl rfl rfl ?_
    refine g_getR (q := 67) (r := some 52) 6 0 X (lk_51_0 hK) (lt2000 (c := 0) (by decide)) kf_X6_9 (by decide) (by decide) rfl rfl (hK.n (by decide)) dX6_nextChoice_64 rfl ?_
    refine g_iload_n (q := 68) 1 X dX6_nextChoice_67 rfl rfl rfl ?_
    obtain ⟨s3, h⟩ := h
    refine g_iald (q := 69) X rfl (hK.n (by decide)) s3 dX6_nextChoice_68 rfl ?_
    refine g_iconst (q := 70) 1 X dX6_nextChoice_69 rfl rfl ic_1 ?_
    refine g_iadd (q := 71) X dX6_nextChoice_70 rfl ?_
    refine g_goto (q := 83) X dX6_nextChoice_71 (by decide) ?_
    exact cb_X6_nextChoice_83 X hR hK  hP2 h
def bd_X6_nextChoice_31 (P2 : Int → IV → Prop) (l1 t0 : Int) (iv : IV) (rv : RV) (K : Int → IV → Prop) : Prop :=
  ((t0 ≠ 0) → (bd_X6_nextChoice_54 P2 l1 t0 iv rv K)) ∧ ((t0 = 0) → ((0 ≤ l1 ∧ l1 < 16) ∧ (0 ≤ l1 ∧ l1 < 16) ∧ (((iv 52 l1.toNat) = (iv (gR rv 51 6 + 8) l1.toNat)) → (bd_X6_nextChoice_89 P2 l1 t0 iv rv K)) ∧ ((¬ ((iv 52 l1.toNat) = (iv (gR rv 51 6 + 8) l1.toNat))) → (bd_X6_nextChoice_54 P2 l1 t0 iv rv K))))
set_option maxRecDepth 10000 in
theorem cb_X6_nextChoice_31 {Γ : GX} {n : Nat} {iv : IV} {rv : RV} {K : Int → IV → Prop} {P2 : Int → IV → Prop} {l1 t0 : Int} (X : Cx Γ RX6 cX6_nextChoice 3 2) (hR : Rt Γ (some .boolean) 0 0 (fB1 n rv K)) (hK : Lk n rv)  (hP2 : ∀ (l1' : Int) (iv' : IV), P2 l1' iv' → G Γ 3 2 [aR (some 51), aI (l1'), aJ] [] n iv' rv 0 0) (h : bd_X6_nextChoice_31 P2 l1 t0 iv rv K) : G Γ 3 31 [aR (some 51), aI l1, aJ] [aI t0] n iv rv 0 0 := by
  unfold bd_X6_nextChoice_31 at h
  refine g_istore_n (q := 32) 2 (L' := [aR (some 51), aI l1, aI t0]) X dX6_nextChoice_31 rfl rfl (by decide) rfl rfl ?_
  refine g_iload_n (q := 33) 2 X dX6_nextChoice_32 rfl rfl rfl ?_
  refine g_if_ne (q := 36) 54 X dX6_nextChoice_33 (by decide) rfl (fun c1 => ?_) (fun c1 => ?_)
  · have h := h.1 c1
    exact cb_X6_nextChoice_54 X hR hK  hP2 h
  · have h := h.2 c1
    refine g_aload_n (q := 37) 0 X dX6_nextChoice_36 rfl rfl rfl ?_
    refine g_getR (q := 40) (r := some 52) 6 0 X (lk_51_0 hK) (lt2000 (c := 0) (by decide)) kf_X6_9 (by decide) (by decide) rfl rfl (hK.n (by decide)) dX6_nextChoice_37 rfl ?_
    refine g_iload_n (q := 41) 1 X dX6_nextChoice_40 rfl rfl rfl ?_
    obtain ⟨s2, h⟩ := h
    refine g_iald (q := 42) X rfl (hK.n (by decide)) s2 dX6_nextChoice_41 rfl ?_
    refine g_aload_n (q := 43) 0 X dX6_nextChoice_42 rfl rfl rfl ?_
    refine g_getR (q := 46) (r := some (gR rv 51 6)) 6 6 X hK.2.2.2.2.2.1.2.2.2.2.1 (lt2000 (c := 0) (isR_lt0 hK.2.2.2.2.2.1.2.2.2.2.2)) kf_X6_31 (by decide) (by decide) rfl rfl (hK.n (by decide)) dX6_nextChoice_43 rfl ?_
    refine g_getR (q := 49) (r := some (gR rv 51 6 + 8)) 5 7 X (lkR_7 hK hK.2.2.2.2.2.1.2.2.2.2.2) (lt2000 (c := 0) (isR_lt hK.2.2.2.2.2.1.2.2.2.2.2 (by decide))) kf_X6_57 (by decide) (by decide) rfl (shR_0 hK.2.2.2.2.2.1.2.2.2.2.2) (isR_n0 hK hK.2.2.2.2.2.1.2.2.2.2.2) dX6_nextChoice_46 rfl ?_
    refine g_iload_n (q := 50) 1 X dX6_nextChoice_49 rfl rfl rfl ?_
    obtain ⟨s3, h⟩ := h
    refine g_iald (q := 51) X (shR_8 hK.2.2.2.2.2.1.2.2.2.2.2) (isR_n hK hK.2.2.2.2.2.1.2.2.2.2.2 (by decide)) s3 dX6_nextChoice_50 rfl ?_
    refine g_icmp_eq (q := 54) 89 X dX6_nextChoice_51 (by decide) rfl (fun c4 => ?_) (fun c4 => ?_)
    · have h := h.1 c4
      exact cb_X6_nextChoice_89 X hR hK  hP2 h
    · have h := h.2 c4
      exact cb_X6_nextChoice_54 X hR hK  hP2 h
def bd_X6_nextChoice_2 (P2 : Int → IV → Prop) (l1 : Int) (iv : IV) (rv : RV) (K : Int → IV → Prop) : Prop :=
  ((16 ≤ l1) → (K 0 iv)) ∧ ((¬ (16 ≤ l1)) → ((0 ≤ l1 ∧ l1 < 16) ∧ (0 ≤ l1 ∧ l1 < 16) ∧ (((iv (gR rv 51 6 + 9) l1.toNat) ≤ (iv 52 l1.toNat)) → (bd_X6_nextChoice_31 P2 l1 0 iv rv K)) ∧ ((¬ ((iv (gR rv 51 6 + 9) l1.toNat) ≤ (iv 52 l1.toNat))) → (bd_X6_nextChoice_31 P2 l1 1 iv rv K))))
set_option maxRecDepth 10000 in
theorem cb_X6_nextChoice_2 {Γ : GX} {n : Nat} {iv : IV} {rv : RV} {K : Int → IV → Prop} {P2 : Int → IV → Prop} {l1 : Int} (X : Cx Γ RX6 cX6_nextChoice 3 2) (hR : Rt Γ (some .boolean) 0 0 (fB1 n rv K)) (hK : Lk n rv)  (hP2 : ∀ (l1' : Int) (iv' : IV), P2 l1' iv' → G Γ 3 2 [aR (some 51), aI (l1'), aJ] [] n iv' rv 0 0) (h : bd_X6_nextChoice_2 P2 l1 iv rv K) : G Γ 3 2 [aR (some 51), aI l1, aJ] [] n iv rv 0 0 := by
  unfold bd_X6_nextChoice_2 at h
  refine g_iload_n (q := 3) 1 X dX6_nextChoice_2 rfl rfl rfl ?_
  refine g_bipush (q := 5) 16 X dX6_nextChoice_3 rfl bc_16 ic_16 ?_
  refine g_icmp_ge (q := 8) 101 X dX6_nextChoice_5 (by decide) rfl (fun c1 => ?_) (fun c1 => ?_)
  · have h := h.1 c1
    refine g_iconst (q := 102) 0 X dX6_nextChoice_101 rfl rfl ic_0 ?_
    exact g_zret (q := 0) .boolean X hR (nar_B (Or.inl rfl)) dX6_nextChoice_102 rfl ⟨rfl, rfl, _, rfl, (Or.inl rfl), h⟩
  · have h := h.2 c1
    refine g_aload_n (q := 9) 0 X dX6_nextChoice_8 rfl rfl rfl ?_
    refine g_getR (q := 12) (r := some 52) 6 0 X (lk_51_0 hK) (lt2000 (c := 0) (by decide)) kf_X6_9 (by decide) (by decide) rfl rfl (hK.n (by decide)) dX6_nextChoice_9 rfl ?_
    refine g_iload_n (q := 13) 1 X dX6_nextChoice_12 rfl rfl rfl ?_
    obtain ⟨s2, h⟩ := h
    refine g_iald (q := 14) X rfl (hK.n (by decide)) s2 dX6_nextChoice_13 rfl ?_
    refine g_aload_n (q := 15) 0 X dX6_nextChoice_14 rfl rfl rfl ?_
    refine g_getR (q := 18) (r := some (gR rv 51 6)) 6 6 X hK.2.2.2.2.2.1.2.2.2.2.1 (lt2000 (c := 0) (isR_lt0 hK.2.2.2.2.2.1.2.2.2.2.2)) kf_X6_31 (by decide) (by decide) rfl rfl (hK.n (by decide)) dX6_nextChoice_15 rfl ?_
    refine g_getR (q := 21) (r := some (gR rv 51 6 + 9)) 5 8 X (lkR_8 hK hK.2.2.2.2.2.1.2.2.2.2.2) (lt2000 (c := 0) (isR_lt hK.2.2.2.2.2.1.2.2.2.2.2 (by decide))) kf_X6_102 (by decide) (by decide) rfl (shR_0 hK.2.2.2.2.2.1.2.2.2.2.2) (isR_n0 hK hK.2.2.2.2.2.1.2.2.2.2.2) dX6_nextChoice_18 rfl ?_
    refine g_iload_n (q := 22) 1 X dX6_nextChoice_21 rfl rfl rfl ?_
    obtain ⟨s3, h⟩ := h
    refine g_iald (q := 23) X (shR_9 hK.2.2.2.2.2.1.2.2.2.2.2) (isR_n hK hK.2.2.2.2.2.1.2.2.2.2.2 (by decide)) s3 dX6_nextChoice_22 rfl ?_
    refine g_icmp_ge (q := 26) 30 X dX6_nextChoice_23 (by decide) rfl (fun c4 => ?_) (fun c4 => ?_)
    · have h := h.1 c4
      refine g_iconst (q := 31) 0 X dX6_nextChoice_30 rfl rfl ic_0 ?_
      exact cb_X6_nextChoice_31 X hR hK  hP2 h
    · have h := h.2 c4
      refine g_iconst (q := 27) 1 X dX6_nextChoice_26 rfl rfl ic_1 ?_
      refine g_goto (q := 31) X dX6_nextChoice_27 (by decide) ?_
      exact cb_X6_nextChoice_31 X hR hK  hP2 h
def wl_X6_nextChoice_2 (l1 : Int) (iv : IV) (rv : RV) (K : Int → IV → Prop) : Prop :=
  ∀ P : Int → IV → Prop, (∀ (l1' : Int) (iv' : IV), bd_X6_nextChoice_2  P l1' iv' rv K → P l1' iv') → P l1 iv
theorem cl_X6_nextChoice_2 {Γ : GX} {n : Nat} {iv : IV} {rv : RV} {K : Int → IV → Prop} {l1 : Int} (X : Cx Γ RX6 cX6_nextChoice 3 2) (hR : Rt Γ (some .boolean) 0 0 (fB1 n rv K)) (hK : Lk n rv)  (h : wl_X6_nextChoice_2 l1 iv rv K) : G Γ 3 2 [aR (some 51), aI l1, aJ] [] n iv rv 0 0 := by
  exact h (fun l1' iv' =>  G Γ 3 2 [aR (some 51), aI (l1'), aJ] [] n iv' rv 0 0) (fun l1' iv' hb => cb_X6_nextChoice_2 X hR hK   (fun l1' iv' hp => hp) hb)
def wp_X6_nextChoice (iv : IV) (rv : RV) (K : Int → IV → Prop) : Prop :=
  wl_X6_nextChoice_2 0 iv rv K
set_option maxRecDepth 10000 in
theorem ce_X6_nextChoice {n : Nat} {iv : IV} {rv : RV} {K : Int → IV → Prop} (hK : Lk n rv)  (h : wp_X6_nextChoice  iv rv K) : Call 2 0 0 yX6_nextChoice cX6_nextChoice 3 (some .boolean) [aR (some 51)] n iv rv (fB1 n rv K) := by
  refine Call.by (L := [aR (some 51), aJ, aJ]) (by decide) rfl ⟨trivial, trivial⟩ rfl (Nat.le_of_ble_eq_true rfl) (fun Γ X hR => ?_)
  unfold wp_X6_nextChoice at h
  refine g_iconst (q := 1) 0 X dX6_nextChoice_0 rfl rfl ic_0 ?_
  refine g_istore_n (q := 2) 1 (L' := [aR (some 51), aI 0, aJ]) X dX6_nextChoice_1 rfl rfl (by decide) rfl rfl ?_
  exact cl_X6_nextChoice_2 X hR hK   h
def wp_X6_suppose (a1 : Int) (a2 : Int) (a3 : Int) (iv : IV) (rv : RV) (K : IV → Prop) : Prop :=
  ∀ iv1, iv1 = w2 iv 51 12 a1 → ∀ iv2, iv2 = w2 iv1 51 13 a2 → ∀ iv3, iv3 = w2 iv2 51 14 a3 → K iv3
set_option maxRecDepth 10000 in
theorem ce_X6_suppose {n : Nat} {iv : IV} {rv : RV} {K : IV → Prop} {a1 : Int} {a2 : Int} {a3 : Int} (hK : Lk n rv)  (h : wp_X6_suppose a1 a2 a3 iv rv K) : Call 0 0 0 yX6_suppose cX6_suppose 4 none [aR (some 51), aI a1, aI a2, aI a3] n iv rv (fV1 n rv K) := by
  refine Call.by (L := [aR (some 51), aI a1, aI a2, aI a3]) (by decide) rfl ⟨trivial, trivial, trivial, trivial, trivial⟩ rfl (Nat.le_of_ble_eq_true rfl) (fun Γ X hR => ?_)
  unfold wp_X6_suppose at h
  refine g_aload_n (q := 1) 0 X dX6_suppose_0 rfl rfl rfl ?_
  refine g_iload_n (q := 2) 1 X dX6_suppose_1 rfl rfl rfl ?_
  refine g_putI (q := 5) 6 12 X (Or.inl rfl) rfl kf_X6_53 (by decide) (by decide) rfl (hK.n (by decide)) dX6_suppose_2 rfl ?_
  refine g_nmM (fun iv1 eiv1 => ?_)
  have h := h iv1 eiv1
  refine g_aload_n (q := 6) 0 X dX6_suppose_5 rfl rfl rfl ?_
  refine g_iload_n (q := 7) 2 X dX6_suppose_6 rfl rfl rfl ?_
  refine g_putI (q := 10) 6 13 X (Or.inl rfl) rfl kf_X6_67 (by decide) (by decide) rfl (hK.n (by decide)) dX6_suppose_7 rfl ?_
  refine g_nmM (fun iv2 eiv2 => ?_)
  have h := h iv2 eiv2
  refine g_aload_n (q := 11) 0 X dX6_suppose_10 rfl rfl rfl ?_
  refine g_iload_n (q := 12) 3 X dX6_suppose_11 rfl rfl rfl ?_
  refine g_putI (q := 15) 6 14 X (Or.inl rfl) rfl kf_X6_70 (by decide) (by decide) rfl (hK.n (by decide)) dX6_suppose_12 rfl ?_
  refine g_nmM (fun iv3 eiv3 => ?_)
  have h := h iv3 eiv3
  exact g_vret (q := 0) X hR dX6_suppose_15 rfl ⟨rfl, rfl, rfl, h⟩
